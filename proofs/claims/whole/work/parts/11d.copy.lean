/-! rows that agree where the shape has places; arrays copied -/
def zag (μ μ' : zM) : Prop := ∀ (j k : Nat) (sh : zSh), (j, k) ∈ zids → zsh j k = some sh → match sh with
  | .inl (_, n) => ∀ i, i < n → μ j k i = μ' j k i
  | .inr (_, fl) => ∀ i, fl[i]? = some none → μ j k i = μ' j k i
theorem zids_sh : (zids.all fun q => (zsh q.1 q.2).isSome) = true := by decide +kernel
theorem zen_ag {G : zG} {r r' : Nat → Int32} {sh : zSh} {a : Nat} {H : Heap} (h : match sh with
  | .inl (_, n) => ∀ i, i < n → r i = r' i
  | .inr (_, fl) => ∀ i, fl[i]? = some none → r i = r' i) (hv : va_at (zD G) zcl (a, zen G r sh) H) : va_at (zD G) zcl (a, zen G r' sh) H := by
  rcases sh with ⟨t, n⟩ | ⟨ci, fl⟩
  · by_cases h3 : t = 3
    · subst h3
      have e : vp_cell (zc G 3) (n, .inr (.inl fun i => (r i).toInt64)) = vp_cell (zc G 3) (n, .inr (.inl fun i => (r' i).toInt64)) := by
        rw [vp_cell_l, vp_cell_l]
        unfold arrV
        congr 2
        funext j
        dsimp only
        rw [h j.val j.isLt]
      exact (show H[a]? = some (vp_cell (zc G 3) (n, .inr (.inl fun i => (r' i).toInt64))) from e ▸ hv)
    · have e0 : ∀ r : Nat → Int32, zen G r (.inl (t, n)) = .inl (zc G t, n, .inl r) := fun r => by simp [zen, h3]
      rw [e0] at hv ⊢
      have e : vp_cell (zc G t) (n, .inl r) = vp_cell (zc G t) (n, .inl r') := by
        rw [vp_cell_i, vp_cell_i]
        unfold arrV
        congr 2
        funext j
        dsimp only
        rw [h j.val j.isLt]
      exact (show H[a]? = some (vp_cell (zc G t) (n, .inl r')) from e ▸ hv)
  · have e : zfl G r 0 fl = zfl G r' 0 fl := by
      apply List.ext_getElem?
      intro i
      rw [zfl_get, zfl_get]
      cases hx : fl[i]? with
      | none => rfl
      | some o =>
        cases o with
        | none => simp [h i hx]
        | some q => rfl
    show va_at (zD G) zcl (a, .inr (ci, zfl G r' 0 fl)) H
    rw [← e]
    exact hv
theorem zWd_ag {G : zG} {μ μ' : zM} {s : State} {H : Heap} (h : zag μ μ') (hw : zWd G μ s H) : zWd G μ' s H := by
  have key : ∀ (i : Nat) (q : Nat × va_E), (zWS G μ')[i]? = some q → ∃ (j k : Nat) (sh : zSh), zids[i]? = some (j, k) ∧ zsh j k = some sh ∧ q = (za G j k, zen G (μ' j k) sh) ∧ (zWS G μ)[i]? = some (za G j k, zen G (μ j k) sh) := by
    intro i q hq
    unfold zWS at hq
    rw [List.getElem?_map] at hq
    cases hz : zids[i]? with
    | none => rw [hz] at hq; cases hq
    | some jk =>
      obtain ⟨j, k⟩ := jk
      rw [hz] at hq
      have hs := List.all_eq_true.mp zids_sh _ (List.mem_of_getElem? hz)
      obtain ⟨sh, hsh⟩ := Option.isSome_iff_exists.mp hs
      refine ⟨j, k, sh, rfl, hsh, ?_, ?_⟩
      · have := Option.some.inj hq
        rw [← this]; simp [hsh]
      · unfold zWS; rw [List.getElem?_map, hz]; simp [hsh]
  refine ⟨fun i q hq => ?_, ⟨fun i j x y hi hj hxy => ?_, fun i q hq => ?_⟩, hw.2.2⟩
  · obtain ⟨j, k, sh, h1, h2, rfl, h4⟩ := key i q hq
    exact zen_ag (h j k sh (List.mem_of_getElem? h1) h2) (hw.1 i _ h4)
  · obtain ⟨j1, k1, s1, -, -, rfl, h4⟩ := key i x hi
    obtain ⟨j2, k2, s2, -, -, rfl, h5⟩ := key j y hj
    exact hw.2.1.1 i j _ _ h4 h5 hxy
  · obtain ⟨j, k, sh, h1, h2, rfl, h4⟩ := key i q hq
    exact hw.2.1.2 i (za G j k, zen G (μ j k) sh) h4
section ZAG
variable {M : zY} {n : Nat} {C u : Nat × Nat} {Q : zQT} {pc pc' : Nat} {L : List (Option zV)} {S : List zV} {μ μ' : zM} {j k j2 k2 N idx : Nat} {X : zX}
theorem z_agree (h : zag μ μ') (kk : zJ M n C u Q pc L S μ') : zJ M n C u Q pc L S μ := by
  intro l G R p e s m args below meth c H locs ls hf ok hR hE hw hl hS hz
  exact kk l G R p e s m args below meth c H locs ls hf ok hR hE (zWd_ag h hw) hl hS hz
theorem LM.agree {av : List zV} {r : Option zV} {μ'' : zM} (h : zag μ' μ'') (hM : LM M n av μ r μ') : LM M n av μ r μ'' := by
  intro l G hf ok
  have h0 := hM l G hf ok
  intro p e ha hc hk s m args below h1 h2 h3 h4
  obtain ⟨nn, o, a1, a2, a3, ⟨⟨b1, b2, b3⟩, b4⟩⟩ := h0 p e ha hc hk s m args below h1 h2 h3 h4
  exact ⟨nn, o, a1, a2, a3, ⟨⟨b1, zWd_ag h b2, b3⟩, b4⟩⟩
theorem zcp_w : Cond.native arraycopyName ∈ lw_tbl ∧ Cond.static arraycopyName ∈ lw_tbl ∧ Cond.initialized "java/lang/System" ∈ lw_tbl := ⟨zmem_of (by decide +kernel), zmem_of (by decide +kernel), zmem_of (by decide +kernel)⟩
/-- a whole row copied into another of its length -/
theorem z_copyi (hd : zd M.2.1 pc (.invokestatic idx) 3 pc') (hl0 : Cond.methodLink M.1.cls idx arraycopyName ∈ lw_tbl) (h1 : (j, k) ∈ zids) (hs1 : zsh j k = some (.inl (0, N))) (h2 : (j2, k2) ∈ zids) (hs2 : zsh j2 k2 = some (.inl (0, N))) (hN : N < 2 ^ 31) (hn : 1 ≤ n) (h8 : zcatS S ≤ 3) (kk : zJ M n C u Q pc' L S (zg μ j2 (zr (μ j2) k2 (μ j k)))) : zJ M n C u Q pc L (zi (nI N) :: zi (nI 0) :: zq j2 k2 :: zi (nI 0) :: zq j k :: S) μ := by
  intro l G R p e s m args below meth c H locs ls hf ok hR hE hw hl hS hz
  obtain ⟨hd1, rfl⟩ := hd
  obtain ⟨q0, hq0, -⟩ := zWS_at G μ h1 hs1
  obtain ⟨q1, hq1, hset⟩ := zWS_at G μ h2 hs2
  have e0 : (nI 0).toNatClampNeg = 0 := rfl
  have eN : (nI N).toNatClampNeg = N := nI_clamp hN
  refine va_copyi (D := zD G) (cl := zcl) (tys := zty G) hE.1 hE.2.1 (hE.2.2.1.trans hl.1.symm) hE.2.2.2.2.2 (z_word ok hw hl0 rfl) (z_word ok hw zcp_w.1 rfl) (z_word ok hw zcp_w.2.1 rfl) (z_word ok hw zcp_w.2.2 rfl) (z_K ok hw) hw.1 hw.2.1 hS q0 q1 0 0 hq0 hq1 rfl rfl (ty := .int) rfl (sp := nI 0) (dp := nI 0) (n := nI N) (by decide) (by decide) (nI_pos hN) (by rw [e0, eN]; omega) (by rw [e0, eN]; omega) (fun i _ => rfl) (Nat.le_trans hn hR.1) ?_ hd1 (fun H1 locs1 hP1 hD1 hS1 => ?_)
  · rw [z_catS]
    have h40 := hR.2.1
    have hnf : nativeFrameWords "java/lang/System" "arraycopy" 5 ≤ 25 := by decide
    omega
  · rw [e0, eN] at hP1 hD1
    have eS := hset (va_cpy (μ j k) (μ j2 k2) 0 0 N)
    have hw1 : zWd G (zg μ j2 (zr (μ j2) k2 (va_cpy (μ j k) (μ j2 k2) 0 0 N))) s H1 := hw.upd (by rw [← eS]; exact hP1) (by rw [← eS]; exact hD1) hS hS1 hz
    have hag : zag (zg μ j2 (zr (μ j2) k2 (va_cpy (μ j k) (μ j2 k2) 0 0 N))) (zg μ j2 (zr (μ j2) k2 (μ j k))) := by
      intro a b sh hab hsab
      by_cases ha : a = j2
      · subst ha
        by_cases hb : b = k2
        · subst hb
          rw [hs2] at hsab
          cases hsab
          intro i hi
          rw [zg_at, zg_at, zr_at, zr_at]
          unfold va_cpy
          rw [if_pos ⟨Nat.zero_le _, by omega⟩]
          simp
        · rw [zg_at, zg_at, zr_ne hb, zr_ne hb]
          rcases sh with ⟨t, m⟩ | ⟨c, fl⟩
          · exact fun i _ => rfl
          · exact fun i _ => rfl
      · rw [zg_ne ha, zg_ne ha]
        rcases sh with ⟨t, m⟩ | ⟨c, fl⟩
        · exact fun i _ => rfl
        · exact fun i _ => rfl
    exact kk l G R p e s m args below meth c H1 locs1 ls hf ok hR hE (zWd_ag hag hw1) hl hS1 hz
/-- read a field of another group -/
theorem z_getS {idx ci f : Nat} {fl : List (Option (Nat × Nat))} (hd : zd M.2.1 pc (.getfield idx) 3 pc') (hk : zfk M.1.cls idx ci f) (hin : (j, k) ∈ zids) (hs : zsh j k = some (.inr (ci, fl))) (hf0 : fl[f]? = some none) (hne : j ≠ j2) (kk : zJ M n C u Q pc' L (zi (μ j k f) :: S) (zg μ j2 X)) : zJ M n C u Q pc L (zq j k :: S) (zg μ j2 X) := by
  refine z_focus j ?_
  refine z_getI hd hk hin hs hf0 ?_
  rw [zg_id, zg_ne hne]
  exact kk
end ZAG
theorem zw_zrk (X : zX) (k i : Nat) (f : Nat → Int32) (v : Int32) : zw (zr X k f) k i v = zr X k (upd f i v) := by
  unfold zw; rw [zr_at, zr_zr]
theorem zag_obj {μ : zM} {g k ci : Nat} {X : zX} {r r' : Nat → Int32} {fl : List (Option (Nat × Nat))} (hs : zsh g k = some (.inr (ci, fl))) (h : ∀ i, fl[i]? = some none → r i = r' i) : zag (zg μ g (zr X k r)) (zg μ g (zr X k r')) := by
  intro a b sh hab hsab
  by_cases ha : a = g
  · subst ha
    by_cases hb : b = k
    · subst hb
      rw [hs] at hsab
      cases hsab
      intro i hi
      rw [zg_at, zg_at, zr_at, zr_at]
      exact h i hi
    · rw [zg_at, zg_at, zr_ne hb, zr_ne hb]
      rcases sh with ⟨t, m⟩ | ⟨c, fl⟩
      · exact fun i _ => rfl
      · exact fun i _ => rfl
  · rw [zg_ne ha, zg_ne ha]
    rcases sh with ⟨t, m⟩ | ⟨c, fl⟩
    · exact fun i _ => rfl
    · exact fun i _ => rfl
section ZPZ
variable {M : zY} {n : Nat} {C u : Nat × Nat} {Q : zQT} {pc pc' : Nat} {L : List (Option zV)} {S : List zV} {μ : zM} {j k : Nat} {X : zX} {row : Nat → Int32}
theorem z_rowf (k : Nat) (kk : zJ M n C u Q pc L S (zg μ j (zr X k (X k)))) : zJ M n C u Q pc L S (zg μ j X) := by
  rw [zr_id] at kk; exact kk
theorem z_putZ {idx ci f : Nat} {fl : List (Option (Nat × Nat))} {v : Int32} (hd : zd M.2.1 pc (.putfield idx) 3 pc') (hk : zfk M.1.cls idx ci f) (hin : (j, k) ∈ zids) (hs : zsh j k = some (.inr (ci, fl))) (hf0 : fl[f]? = some none) (hff : ∀ Cn T N, zcl[ci]? = some (Cn, T, N) → (T f).2.2.2 = false) (hty : ∃ ty, zty0 ci f = ty ∧ narrow ty (.int v) = .int v ∧ fits ty (.int v) = true) (kk : zJ M n C u Q pc' L S (zg μ j (zr X k (upd row f v)))) : zJ M n C u Q pc L (zi v :: zq j k :: S) (zg μ j (zr X k row)) := by
  refine z_putI hd hk hin hs hf0 hff hty ?_
  rw [zw_zrk]; exact kk
end ZPZ
