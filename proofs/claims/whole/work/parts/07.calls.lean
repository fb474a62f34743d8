/-! arrays, returns, calls -/
section ZA
variable {M : zY} {n : Nat} {C u : Nat × Nat} {Q : zQT} {pc pc' tgt : Nat} {L : List (Option zV)} {S : List zV} {μ : zM} {j k N : Nat} {X : zX}
theorem z_iald {i : Int32} (hd : zd M.2.1 pc .iaload 1 pc') (hin : (j, k) ∈ zids) (hs : zsh j k = some (.inl (0, N))) (hi : vp_in i N) (kk : zJ M n C u Q pc' L (zi (X k i.toNatClampNeg) :: S) (zg μ j X)) : zJ M n C u Q pc L (zi i :: zq j k :: S) (zg μ j X) := by
  intro l G R p e s m args below meth c H locs ls hf ok hR hE hw hl hS hz
  obtain ⟨h1, rfl⟩ := hd
  obtain ⟨q0, hq, -⟩ := zWS_g (G := G) (μ := μ) (X := X) hin hs
  exact va_iald hE.1 hE.2.1 (z_K ok hw) hw.1 q0 0 hq rfl hi h1 (kk l G R p e s m args below meth c H locs ls hf ok hR hE hw hl hS hz)
theorem z_bald {i : Int32} (hd : zd M.2.1 pc .baload 1 pc') (hin : (j, k) ∈ zids) (hs : zsh j k = some (.inl (1, N))) (hi : vp_in i N) (kk : zJ M n C u Q pc' L (zi (X k i.toNatClampNeg) :: S) (zg μ j X)) : zJ M n C u Q pc L (zi i :: zq j k :: S) (zg μ j X) := by
  intro l G R p e s m args below meth c H locs ls hf ok hR hE hw hl hS hz
  obtain ⟨h1, rfl⟩ := hd
  obtain ⟨q0, hq, -⟩ := zWS_g (G := G) (μ := μ) (X := X) hin hs
  exact va_bald hE.1 hE.2.1 (z_K ok hw) hw.1 q0 1 hq rfl hi h1 (kk l G R p e s m args below meth c H locs ls hf ok hR hE hw hl hS hz)
theorem z_zald {i : Int32} (hd : zd M.2.1 pc .baload 1 pc') (hin : (j, k) ∈ zids) (hs : zsh j k = some (.inl (2, N))) (hi : vp_in i N) (kk : zJ M n C u Q pc' L (zi (X k i.toNatClampNeg) :: S) (zg μ j X)) : zJ M n C u Q pc L (zi i :: zq j k :: S) (zg μ j X) := by
  intro l G R p e s m args below meth c H locs ls hf ok hR hE hw hl hS hz
  obtain ⟨h1, rfl⟩ := hd
  obtain ⟨q0, hq, -⟩ := zWS_g (G := G) (μ := μ) (X := X) hin hs
  exact va_zald hE.1 hE.2.1 (z_K ok hw) hw.1 q0 2 hq rfl hi h1 (kk l G R p e s m args below meth c H locs ls hf ok hR hE hw hl hS hz)
theorem z_lald {i : Int32} (hd : zd M.2.1 pc .laload 1 pc') (hin : (j, k) ∈ zids) (hs : zsh j k = some (.inl (3, N))) (hi : vp_in i N) (kk : zJ M n C u Q pc' L (zl (X k i.toNatClampNeg) :: S) (zg μ j X)) : zJ M n C u Q pc L (zi i :: zq j k :: S) (zg μ j X) := by
  intro l G R p e s m args below meth c H locs ls hf ok hR hE hw hl hS hz
  obtain ⟨h1, rfl⟩ := hd
  obtain ⟨q0, hq, -⟩ := zWS_g (G := G) (μ := μ) (X := X) hin hs
  exact va_lald hE.1 hE.2.1 (z_K ok hw) hw.1 q0 3 hq rfl hi h1 (kk l G R p e s m args below meth c H locs ls hf ok hR hE hw hl hS hz)
theorem z_iast {i v : Int32} (hd : zd M.2.1 pc .iastore 1 pc') (hin : (j, k) ∈ zids) (hs : zsh j k = some (.inl (0, N))) (hi : vp_in i N) (kk : zJ M n C u Q pc' L S (zg μ j (zw X k i.toNatClampNeg v))) : zJ M n C u Q pc L (zi v :: zi i :: zq j k :: S) (zg μ j X) := by
  intro l G R p e s m args below meth c H locs ls hf ok hR hE hw hl hS hz
  obtain ⟨h1, rfl⟩ := hd
  obtain ⟨q0, hq, hset⟩ := zWS_g (G := G) (μ := μ) (X := X) hin hs
  refine va_iast hE.1 hE.2.1 (z_K ok hw) hw.1 hw.2.1 hS q0 0 hq rfl hi h1 (fun H1 locs1 hP1 hD1 hS1 => ?_)
  have eS := hset (upd (X k) i.toNatClampNeg v)
  exact kk l G R p e s m args below meth c H1 locs1 ls hf ok hR hE (hw.upd (by unfold zw; rw [← eS]; exact hP1) (by unfold zw; rw [← eS]; exact hD1) hS hS1 hz) hl hS1 hz
theorem z_bast {i v : Int32} (hd : zd M.2.1 pc .bastore 1 pc') (hin : (j, k) ∈ zids) (hs : zsh j k = some (.inl (1, N))) (hi : vp_in i N) (kk : zJ M n C u Q pc' L S (zg μ j (zw X k i.toNatClampNeg (vp_nar .byte v)))) : zJ M n C u Q pc L (zi v :: zi i :: zq j k :: S) (zg μ j X) := by
  intro l G R p e s m args below meth c H locs ls hf ok hR hE hw hl hS hz
  obtain ⟨h1, rfl⟩ := hd
  obtain ⟨q0, hq, hset⟩ := zWS_g (G := G) (μ := μ) (X := X) hin hs
  refine va_bast hE.1 hE.2.1 (z_K ok hw) hw.1 hw.2.1 hS q0 1 hq rfl hi h1 (fun H1 locs1 hP1 hD1 hS1 => ?_)
  have eS := hset (upd (X k) i.toNatClampNeg (vp_nar .byte v))
  exact kk l G R p e s m args below meth c H1 locs1 ls hf ok hR hE (hw.upd (by unfold zw; rw [← eS]; exact hP1) (by unfold zw; rw [← eS]; exact hD1) hS hS1 hz) hl hS1 hz
theorem z_zast {i v : Int32} (hd : zd M.2.1 pc .bastore 1 pc') (hin : (j, k) ∈ zids) (hs : zsh j k = some (.inl (2, N))) (hi : vp_in i N) (kk : zJ M n C u Q pc' L S (zg μ j (zw X k i.toNatClampNeg (vp_nar .boolean v)))) : zJ M n C u Q pc L (zi v :: zi i :: zq j k :: S) (zg μ j X) := by
  intro l G R p e s m args below meth c H locs ls hf ok hR hE hw hl hS hz
  obtain ⟨h1, rfl⟩ := hd
  obtain ⟨q0, hq, hset⟩ := zWS_g (G := G) (μ := μ) (X := X) hin hs
  refine va_zast hE.1 hE.2.1 (z_K ok hw) hw.1 hw.2.1 hS q0 2 hq rfl hi h1 (fun H1 locs1 hP1 hD1 hS1 => ?_)
  have eS := hset (upd (X k) i.toNatClampNeg (vp_nar .boolean v))
  exact kk l G R p e s m args below meth c H1 locs1 ls hf ok hR hE (hw.upd (by unfold zw; rw [← eS]; exact hP1) (by unfold zw; rw [← eS]; exact hD1) hS hS1 hz) hl hS1 hz
theorem zupdL (f : Nat → Int32) (i : Nat) (v : Int32) : vp_updL (fun i => (f i).toInt64) i v.toInt64 = fun a => (upd f i v a).toInt64 := by
  funext a; unfold vp_updL upd; split <;> rfl
theorem z_last {i v : Int32} (hd : zd M.2.1 pc .lastore 1 pc') (hin : (j, k) ∈ zids) (hs : zsh j k = some (.inl (3, N))) (hi : vp_in i N) (kk : zJ M n C u Q pc' L S (zg μ j (zw X k i.toNatClampNeg v))) : zJ M n C u Q pc L (zl v :: zi i :: zq j k :: S) (zg μ j X) := by
  intro l G R p e s m args below meth c H locs ls hf ok hR hE hw hl hS hz
  obtain ⟨h1, rfl⟩ := hd
  obtain ⟨q0, hq, hset⟩ := zWS_g (G := G) (μ := μ) (X := X) hin hs
  refine va_last hE.1 hE.2.1 (z_K ok hw) hw.1 hw.2.1 hS q0 3 hq rfl hi h1 (fun H1 locs1 hP1 hD1 hS1 => ?_)
  rw [zupdL] at hP1 hD1
  have eS := hset (upd (X k) i.toNatClampNeg v)
  exact kk l G R p e s m args below meth c H1 locs1 ls hf ok hR hE (hw.upd (by unfold zw; rw [← eS]; exact hP1) (by unfold zw; rw [← eS]; exact hD1) hS hS1 hz) hl hS1 hz
theorem z_alen {t : Nat} (hd : zd M.2.1 pc .arraylength 1 pc') (hin : (j, k) ∈ zids) (hs : zsh j k = some (.inl (t, N))) (ht : t < 4) (kk : zJ M n C u Q pc' L (zi (nI N) :: S) μ) : zJ M n C u Q pc L (zq j k :: S) μ := by
  intro l G R p e s m args below meth c H locs ls hf ok hR hE hw hl hS hz
  obtain ⟨h1, rfl⟩ := hd
  obtain ⟨q0, hq, -⟩ := zWS_at G μ hin hs
  have ht' : ∃ ty, (zty G)[t]? = some (zc G t, ty) := by
    match t, ht with
    | 0, _ => exact ⟨_, rfl⟩
    | 1, _ => exact ⟨_, rfl⟩
    | 2, _ => exact ⟨_, rfl⟩
    | 3, _ => exact ⟨_, rfl⟩
  obtain ⟨ty, ht'⟩ := ht'
  exact va_alen hE.1 hE.2.1 (z_K ok hw) hw.1 q0 t hq ht' rfl h1 (kk l G R p e s m args below meth c H locs ls hf ok hR hE hw hl hS hz)
/-- the script -/
theorem zX_s {G : zG} {μ : zM} {s : State} {H : Heap} {locs : List Loc} (ok : zOK G) (hw : zWd G μ s H) (hS : va_S (zA G) s.heap H locs) (hz : (z0 G).heap.size ≤ s.heap.size) : va_X (za G 3 0) (zLn G) (zxs G) s s.heap ∧ za G 3 0 < s.heap.size ∧ ¬ zA G (za G 3 0) := by
  have hlt := ok.2.2.1.2
  have hnA : ¬ zA G (za G 3 0) := Nat.not_le.mpr hlt
  refine ⟨(va_X.moved hw.2.2.1.alike ok.2.2.1.1).kept ?_, Nat.lt_of_lt_of_le hlt hz, hnA⟩
  rw [← hS.2.1 _ (Nat.lt_of_lt_of_le hlt hz) hnA]
  exact hw.2.2.2.2.1 _ hlt hnA
/-- returns -/
theorem z_iret {r : Int32} {μ' : zM} (hd : zd M.2.1 pc .ireturn 1 pc') (hr : M.2.2.2 = some .int) (h : zQ (some (zi r)) μ' = Q) (hμ : μ = μ') (hu : u = (0, 0)) : zJ M n C u Q pc L [zi r] μ := by
  subst h; subst hμ; subst hu
  intro l G R p e s m args below meth c H locs ls hf ok hR hE hw hl hS hz
  exact W.iret hE.1 hE.2.1 (hE.2.2.2.1.trans hr) (fun t ht hW => ⟨rfl, ⟨ht ▸ hw.1, hw.2.1, State.WarmedH.trans hw.2.2.1 hW, ht ▸ hw.2.2.2⟩, ht ▸ hS.1⟩) hS.2.2 hd.1 hE.2.2.2.2.1
theorem z_zret {r : Int32} {ty : FieldType} {μ' : zM} (hd : zd M.2.1 pc .ireturn 1 pc') (hr : M.2.2.2 = some ty) (hn : narrow ty (.int r) = .int r) (h : zQ (some (zi r)) μ' = Q) (hμ : μ = μ') (hu : u = (0, 0)) : zJ M n C u Q pc L [zi r] μ := by
  subst h; subst hμ; subst hu
  intro l G R p e s m args below meth c H locs ls hf ok hR hE hw hl hS hz
  exact W.zret hE.1 hE.2.1 (hE.2.2.2.1.trans hr) hn (fun t ht hW => ⟨rfl, ⟨ht ▸ hw.1, hw.2.1, State.WarmedH.trans hw.2.2.1 hW, ht ▸ hw.2.2.2⟩, ht ▸ hS.1⟩) hS.2.2 hd.1 hE.2.2.2.2.1
theorem z_vret {μ' : zM} (hd : zd M.2.1 pc .return_ 1 pc') (hr : M.2.2.2 = none) (h : zQ none μ' = Q) (hμ : μ = μ') (hu : u = (0, 0)) : zJ M n C u Q pc L [] μ := by
  subst h; subst hμ; subst hu
  intro l G R p e s m args below meth c H locs ls hf ok hR hE hw hl hS hz
  exact W.vret hE.1 hE.2.1 (hE.2.2.2.1.trans hr) (fun t ht hW => ⟨rfl, ⟨ht ▸ hw.1, hw.2.1, State.WarmedH.trans hw.2.2.1 hW, ht ▸ hw.2.2.2⟩, ht ▸ hS.1⟩) hS.2.2 hd.1 hE.2.2.2.2.1
theorem z_iret1 {r R : Int32} {j : Nat} {X XF : zX} (hd : zd M.2.1 pc .ireturn 1 pc') (hr : M.2.2.2 = some .int) (h : r = R) (h2 : X = XF) : zJ M n (0, 0) (0, 0) (zQ (some (zi R)) (zg μ j XF)) pc L [zi r] (zg μ j X) := by
  subst h; subst h2
  exact z_iret hd hr rfl rfl rfl
theorem z_zret1 {r R : Int32} {ty : FieldType} {j : Nat} {X XF : zX} (hd : zd M.2.1 pc .ireturn 1 pc') (hr : M.2.2.2 = some ty) (hn : narrow ty (.int r) = .int r) (h : r = R) (h2 : X = XF) : zJ M n (0, 0) (0, 0) (zQ (some (zi R)) (zg μ j XF)) pc L [zi r] (zg μ j X) := by
  subst h; subst h2
  exact z_zret hd hr hn rfl rfl rfl
theorem z_vret1 {j : Nat} {X XF : zX} (hd : zd M.2.1 pc .return_ 1 pc') (hr : M.2.2.2 = none) (h2 : X = XF) : zJ M n (0, 0) (0, 0) (zQ none (zg μ j XF)) pc L [] (zg μ j X) := by
  subst h2
  exact z_vret hd hr rfl rfl rfl
theorem z_focus (j : Nat) (k : zJ M n C u Q pc L S (zg μ j (μ j))) : zJ M n C u Q pc L S μ := by
  rw [zg_id] at k; exact k
theorem z_swap {a b : Nat} {A B : zX} (h : a ≠ b) (k : zJ M n C u Q pc L S (zg (zg μ b B) a A)) : zJ M n C u Q pc L S (zg (zg μ a A) b B) := by
  rw [zg_com μ h]; exact k
end ZA
/-- the locals at a method's entry -/
theorem zarg_loc (G : zG) : ∀ (av : List zV) (i0 : Nat), av.all (fun v => match v with | .inr (.inr _) => false | _ => true) = true → ∀ (j : Nat) (v : zV), av[j]? = some v → (rv G v).category = 1 ∧ (i0 + j, rv G v) ∈ lv_args i0 (av.map (rv G))
  | [], i0, _, j, v, h => by simp at h
  | a :: t, i0, ha, j, v, h => by
    simp only [List.all_cons, Bool.and_eq_true] at ha
    have hc := zcat (G := G) ha.1
    cases j with
    | zero =>
      simp only [List.getElem?_cons_zero, Option.some.injEq] at h
      subst h
      exact ⟨hc, by simp [lv_args]⟩
    | succ j =>
      rw [List.getElem?_cons_succ] at h
      obtain ⟨h1, h2⟩ := zarg_loc G t (i0 + 1) ha.2 j v h
      refine ⟨h1, ?_⟩
      simp only [List.map_cons, lv_args, hc]
      rw [show i0 + (j + 1) = i0 + 1 + j by omega]
      exact List.mem_cons_of_mem _ h2
theorem zsl_len (G : zG) : ∀ (av : List zV), av.all (fun v => match v with | .inr (.inr _) => false | _ => true) = true → (lg_sl (av.map (rv G))).length = av.length
  | [], _ => rfl
  | a :: t, ha => by
    simp only [List.all_cons, Bool.and_eq_true] at ha
    have hc := zcat (G := G) ha.1
    have := zsl_len G t ha.2
    simp only [lg_sl, List.map_cons, List.flatMap_cons, hc, List.length_append] at this ⊢
    simp [this]; omega
theorem LM.of {M : zY} {n : Nat} {av : List zV} {μ : zM} {r : Option zV} {μ' : zM} (hp : plainName M.1.cls = true) (ha : av.all (fun v => match v with | .inr (.inr _) => false | _ => true) = true) (hlen : av.length ≤ M.2.2.1) (h : zJ M n (0, 0) (0, 0) (zQ r μ') 0 (av.map some ++ List.replicate (M.2.2.1 - av.length) none) [] μ) : LM M n av μ r μ' := by
  intro l G hf ok
  refine Met.ofW (cc := M.2.1) (maxL := M.2.2.1) (ret := M.2.2.2) hp rfl ?_
  intro p e s m args below meth c s₁ B hml hv
  obtain ⟨rfl, hw⟩ := hv
  rw [lg_entry_eq]
  have hl := lv_entry (av.map (rv G)) (n := M.2.2.1) (by rw [zsl_len G av ha]; exact hlen)
  refine h l G _ p e s m _ below meth c s.heap [] _ hf ok ⟨Nat.le_refl _, Nat.le_refl _, rfl, rfl, Nat.le_refl _, Nat.le_refl _⟩ ⟨B.exec, B.bytes, hml, B.returns, B.notSynchronized, findClass_of_methodNamed B.named⟩ hw ?_ va_S.rf hw.2.2.2.1
  refine ⟨hl.1, by simp; omega, hl.2.1, fun i v hi => ?_⟩
  have hi' : i < av.length := by
    rcases Nat.lt_or_ge i av.length with q | q
    · exact q
    · rw [List.getElem?_append_right (by simpa using q)] at hi
      have := List.eq_of_mem_replicate (List.mem_of_getElem? hi)
      cases this
  rw [List.getElem?_append_left (by simpa using hi'), List.getElem?_map] at hi
  have hv : av[i]? = some v := by
    cases hx : av[i]? with
    | none => rw [hx] at hi; cases hi
    | some y => rw [hx] at hi; cases hi; rfl
  obtain ⟨h1, h2⟩ := zarg_loc G av 0 ha i v hv
  rw [Nat.zero_add] at h2
  exact ⟨h1, hl.2.2 _ h2⟩
/-! calls -/
/-- a callee's words: its code is in the tables -/
def zcode (Y : zY) : Prop := Cond.code Y.1 Y.2.1 Y.2.2.1 Y.2.2.2 ∈ lw_tbl ∧ Cond.initialized Y.1.cls ∈ lw_tbl ∧ (Y.1.cls ≠ "java/lang/invoke/MethodHandle" ∧ Y.1.cls ≠ "java/lang/invoke/VarHandle") ∧ Y.2.2.1 ≤ 21
def zinv (Y : zY) (na : Nat) : Prop := (parseMethodDescriptor Y.1.desc).map (fun d => d.parameters.length) = some na
section ZK
variable {M : zY} {n : Nat} {C u : Nat × Nat} {Q : zQT} {pc pc' tgt : Nat} {L : List (Option zV)} {S st : List zV} {μ μ1 : zM} {j k : Nat} {Y : zY} {kd idx : Nat} {av : List zV} {r : Option zV}
theorem z_blind {G : zG} {av : List zV} {μ : zM} : FrameBlind (va_Pc (av.map (rv G)) (fun U => zWd G μ U U.heap)) := fun a U g mk q => ⟨q.1, q.2.1, q.2.2.1, State.WarmedH.trans q.2.2.2.1 (State.WarmedH.refl U), q.2.2.2.2⟩
/-- behind a call -/
theorem z_after {l : Launch} {G : zG} {R : Room} {p : Program} {e : Env} {s : State} {m : MethodId} {args : Array Value} {below : List Frame} {meth : Method} {c : Code} {H : Heap} {locs : List Loc} {ls : Array Slot} {a : Array Value} {rest st0 : List Value} {Qw : State → Prop} {cells slots : Nat} (hr : va_Run p l e R s m args below meth c H locs cells slots 0 0 (F0 m pc ls st0) rest (zPo G r μ1 a) (zA G)) (hw : zWd G μ s H) (hS : va_S (zA G) s.heap H locs) (hz : (z0 G).heap.size ≤ s.heap.size)
    (kk : ∀ (H1 : Heap) (locs1 : List Loc), zWd G μ1 s H1 → va_S (zA G) s.heap H1 locs1 → W p l e R s m args below meth c H1 locs1 cells slots Qw (F0 m (pc + 3) ls ((r.map (rv G)).toList ++ rest))) : W p l e R s m args below meth c H locs cells slots Qw (F0 m pc ls st0) := by
  intro T hT X
  obtain ⟨v, st₀, t, T', Lc, h0, X', hL, e1, e2, ⟨hv, hq, hsz⟩, stp⟩ := hr T hT X
  cases hv
  rw [h0] at hsz
  have hS1 : va_S (zA G) s.heap T'.heap (locs ++ Lc) := by
    refine ⟨Nat.le_trans hS.1 (e1 ▸ hsz), fun q h1 h2 => ?_, fun q hq => ?_⟩
    · rw [e1, hq.2.2.2.2.1 q (Nat.not_le.mp h2) h2, ← hw.2.2.2.2.1 q (Nat.not_le.mp h2) h2]
      exact hS.2.1 q h1 h2
    · rcases List.mem_append.mp hq with h | h
      · exact hS.2.2 q h
      · exact hL q h
  have hw1 : zWd G μ1 s T'.heap := ⟨e1 ▸ hq.1, hq.2.1, hw.2.2.1, e1 ▸ hq.2.2.2⟩
  obtain ⟨t2, a1, b1⟩ := kk T'.heap (locs ++ Lc) hw1 hS1 T' rfl X'
  exact ⟨t2, stp t2 a1, b1⟩
theorem z_roomC {Rm : Room} (hR : zRm n C u Rm) (hk : kd + 1 ≤ n) (h21 : Y.2.2.1 ≤ 21) : (zroom kd (0, 0)).frames + 1 ≤ Rm.frames ∧ 8 + (Y.2.2.1 + 11) + (zroom kd (0, 0)).locals ≤ Rm.locals := by
  refine ⟨Nat.le_trans hk hR.1, Nat.le_trans ?_ hR.2.1⟩
  show 8 + (Y.2.2.1 + 11) + 40 * kd ≤ 40 * n
  omega
theorem z_good {G : zG} {s : State} {H : Heap} {args : Array Value} (ok : zOK G) (hw : zWd G μ s H) (hc : zcode Y) : (∀ w ∈ [Cond.code Y.1 Y.2.1 Y.2.2.1 Y.2.2.2], ∀ (a' : Array Value) (U : State), s.WarmedH U.vm → w.before a' U = true) := by
  intro w hw' a' U hU
  cases List.mem_singleton.mp hw'
  exact word_at (State.WarmedH.trans hw.2.2.1 hU) (good_of_word rfl) (ok.2.1 _ hc.1)
theorem z_calB {G : zG} {R : Room} {s : State} {H : Heap} {args : Array Value} {own : String} {na : Nat} (ok : zOK G) (hw : zWd G μ s H) (hR : zRm n C u R) (hc : zcode Y) (hna : zinv Y na) (hk : kd + 1 ≤ n) (hl : Cond.methodLink own idx Y.1 ∈ lw_tbl) : CallB R s args own idx Y.1 Y.2.1 Y.2.2.1 Y.2.2.2 [Cond.code Y.1 Y.2.1 Y.2.2.1 Y.2.2.2] (zroom kd (0, 0)) 0 0 na := by
  obtain ⟨r1, r2⟩ := z_roomC (Y := Y) hR hk hc.2.2.2
  refine ⟨rfl, rfl, r1, r2, z_good (args := args) ok hw hc, List.mem_singleton.mpr rfl, z_word ok hw hc.1 rfl, z_word ok hw hc.2.1 rfl, hc.2.2.1, fun sig h => ?_, z_word ok hw hl rfl⟩
  have h2 := hna
  unfold zinv at h2
  rw [h] at h2
  exact (Option.some.inj h2).symm
theorem z_calN {G : zG} {R : Room} {s : State} {H : Heap} {args : Array Value} {own host : String} {na : Nat} (ok : zOK G) (hw : zWd G μ s H) (hR : zRm n C u R) (hc : zcode Y) (hna : zinv Y na) (hk : kd + 1 ≤ n) (hl : Cond.methodLinkNest own idx Y.1 host ∈ lw_tbl) : va_CN R s args own idx Y.1 host Y.2.1 Y.2.2.1 Y.2.2.2 [Cond.code Y.1 Y.2.1 Y.2.2.1 Y.2.2.2] (zroom kd (0, 0)) 0 0 na := by
  obtain ⟨r1, r2⟩ := z_roomC (Y := Y) hR hk hc.2.2.2
  refine ⟨⟨rfl, rfl, r1, r2, z_good (args := args) ok hw hc, List.mem_singleton.mpr rfl⟩, z_word ok hw hc.1 rfl, z_word ok hw hc.2.1 rfl, hc.2.2.1, fun sig h => ?_, va_Nw.use rfl (va_Nw.warmM hw.2.2.1 (va_Nw.of rfl (ok.2.1 _ hl)))⟩
  have h2 := hna
  unfold zinv at h2
  rw [h] at h2
  exact (Option.some.inj h2).symm
theorem z_stk {G : zG} {st S : List zV} {As : List zV} {b : zV} (h : st = As.reverse ++ b :: S) : st.map (rv G) = (As.map (rv G)).reverse ++ rv G b :: S.map (rv G) := by
  rw [h]; simp
theorem z_stk0 {G : zG} {st S : List zV} {As : List zV} (h : st = As.reverse ++ S) : st.map (rv G) = (As.map (rv G)).reverse ++ S.map (rv G) := by
  rw [h]; simp
theorem z_ret {G : zG} {S : List zV} {r : Option zV} : ((r.toList ++ S).map (rv G)) = (r.map (rv G)).toList ++ S.map (rv G) := by
  cases r <;> simp
def zcatS : List zV → Nat
  | [] => 0
  | .inr (.inr _) :: t => zcatS t + 2
  | _ :: t => zcatS t + 1
theorem z_catS (G : zG) : ∀ S : List zV, ((S.map (rv G)).map fun v => v.category).sum = zcatS S
  | [] => rfl
  | .inl x :: t => by
    simp only [List.map_cons, List.sum_cons, z_catS G t, zcatS]
    show 1 + _ = _
    omega
  | .inr (.inl q) :: t => by
    simp only [List.map_cons, List.sum_cons, z_catS G t, zcatS]
    show 1 + _ = _
    omega
  | .inr (.inr x) :: t => by
    simp only [List.map_cons, List.sum_cons, z_catS G t, zcatS]
    show 2 + _ = _
    omega
/-- an instance method of one's own or a visible one, of the object (j, k) -/
theorem z_callV {ci : Nat} {fl : List (Option (Nat × Nat))} {T : u_T} {N na : Nat} (hd : zd M.2.1 pc (.invokevirtual idx) 3 pc') (hM : LM Y kd (zq j k :: av) μ r μ1) (hk : kd + 1 ≤ n) (hc : zcode Y) (hna : zinv Y na) (hl : Cond.methodLink M.1.cls idx Y.1 ∈ lw_tbl) (hi : Cond.instanceMethod Y.1 ∈ lw_tbl) (hse : Cond.selects Y.1.cls Y.1 Y.1 ∈ lw_tbl)
    (hin : (j, k) ∈ zids) (hs : zsh j k = some (.inr (ci, fl))) (hcl : zcl[ci]? = some (Y.1.cls, T, N)) (hn : av.length = na) (hst : st = av.reverse ++ zq j k :: S) (h8 : zcatS S ≤ 8) (kk : zJ M n C u Q pc' L (r.toList ++ S) μ1) : zJ M n C u Q pc L st μ := by
  intro l G R p e s m args below meth c H locs ls hf ok hR hE hw hl0 hS hz
  obtain ⟨h1, rfl⟩ := hd
  obtain ⟨q0, hq, -⟩ := zWS_at G μ hin hs
  rw [z_stk hst]
  refine z_after (r := r) (μ1 := μ1) (μ := μ) (va_runV (Ts := []) (As := av.map (rv G)) (rest := S.map (rv G)) (b := za G j k) (nL := M.2.2.1) ⟨hE.1, hE.2.1, hE.2.2.1, hE.2.2.2.2.2, fun w h => by cases h⟩ (hM l G hf ok) ⟨z_calB ok hw hR hc hna hk hl, z_word ok hw hi rfl, z_word ok hw hse rfl⟩ ⟨z_blind, va_recv (z_K ok hw) hw.1 hcl hq, fun U hU hW => ⟨rfl, hU ▸ hw.1, hw.2.1, State.WarmedH.trans hw.2.2.1 hW, hU ▸ hw.2.2.2⟩⟩ rfl (by rw [List.length_map]; exact hn) hl0.1 rfl ?_ h1 ⟨?_, ?_⟩) hw hS hz (fun H1 locs1 hw1 hS1 => ?_)
  · show 2 * 0 + _ ≤ 8
    rw [z_catS]; omega
  · rw [hR.2.2.1]; exact hR.2.2.2.2.1
  · rw [hR.2.2.2.1]; exact hR.2.2.2.2.2
  · rw [← z_ret]
    exact kk l G R p e s m args below meth c H1 locs1 ls hf ok hR hE hw1 hl0 hS1 hz
/-- a static method of one's own, or a visible one -/
theorem z_callS {na : Nat} (hd : zd M.2.1 pc (.invokestatic idx) 3 pc') (hM : LM Y kd av μ r μ1) (hk : kd + 1 ≤ n) (hc : zcode Y) (hna : zinv Y na) (hl : Cond.methodLink M.1.cls idx Y.1 ∈ lw_tbl) (hi : Cond.static Y.1 ∈ lw_tbl)
    (hn : av.length = na) (hst : st = av.reverse ++ S) (h8 : zcatS S ≤ 8) (kk : zJ M n C u Q pc' L (r.toList ++ S) μ1) : zJ M n C u Q pc L st μ := by
  intro l G R p e s m args below meth c H locs ls hf ok hR hE hw hl0 hS hz
  obtain ⟨h1, rfl⟩ := hd
  rw [z_stk0 hst]
  refine z_after (r := r) (μ1 := μ1) (μ := μ) (va_runS (Ts := []) (As := av.map (rv G)) (rest := S.map (rv G)) (nL := M.2.2.1) ⟨hE.1, hE.2.1, hE.2.2.1, hE.2.2.2.2.2, fun w h => by cases h⟩ (hM l G hf ok) ⟨z_calB ok hw hR hc hna hk hl, z_word ok hw hi rfl⟩ ⟨z_blind, fun U hU hW => ⟨rfl, hU ▸ hw.1, hw.2.1, State.WarmedH.trans hw.2.2.1 hW, hU ▸ hw.2.2.2⟩⟩ rfl (by rw [List.length_map]; exact hn) hl0.1 rfl ?_ h1 ⟨?_, ?_⟩) hw hS hz (fun H1 locs1 hw1 hS1 => ?_)
  · show 2 * 0 + _ ≤ 8
    rw [z_catS]; omega
  · rw [hR.2.2.1]; exact hR.2.2.2.2.1
  · rw [hR.2.2.2.1]; exact hR.2.2.2.2.2
  · rw [← z_ret]
    exact kk l G R p e s m args below meth c H1 locs1 ls hf ok hR hE hw1 hl0 hS1 hz
/-- a private static method of a nest mate -/
theorem z_callSN {na : Nat} {host : String} (hd : zd M.2.1 pc (.invokestatic idx) 3 pc') (hM : LM Y kd av μ r μ1) (hk : kd + 1 ≤ n) (hc : zcode Y) (hna : zinv Y na) (hl : Cond.methodLinkNest M.1.cls idx Y.1 host ∈ lw_tbl) (hi : Cond.static Y.1 ∈ lw_tbl)
    (hn : av.length = na) (hst : st = av.reverse ++ S) (h8 : zcatS S ≤ 8) (kk : zJ M n C u Q pc' L (r.toList ++ S) μ1) : zJ M n C u Q pc L st μ := by
  intro l G R p e s m args below meth c H locs ls hf ok hR hE hw hl0 hS hz
  obtain ⟨h1, rfl⟩ := hd
  rw [z_stk0 hst]
  refine z_after (r := r) (μ1 := μ1) (μ := μ) (va_runSN (Ts := []) (As := av.map (rv G)) (rest := S.map (rv G)) (nL := M.2.2.1) ⟨hE.1, hE.2.1, hE.2.2.1, hE.2.2.2.2.2, fun w h => by cases h⟩ (hM l G hf ok) ⟨z_calN ok hw hR hc hna hk hl, z_word ok hw hi rfl, trivial⟩ ⟨z_blind, fun U hU hW => ⟨rfl, hU ▸ hw.1, hw.2.1, State.WarmedH.trans hw.2.2.1 hW, hU ▸ hw.2.2.2⟩⟩ rfl (by rw [List.length_map]; exact hn) hl0.1 rfl ?_ h1 ⟨?_, ?_⟩) hw hS hz (fun H1 locs1 hw1 hS1 => ?_)
  · show 2 * 0 + _ ≤ 8
    rw [z_catS]; omega
  · rw [hR.2.2.1]; exact hR.2.2.2.2.1
  · rw [hR.2.2.2.1]; exact hR.2.2.2.2.2
  · rw [← z_ret]
    exact kk l G R p e s m args below meth c H1 locs1 ls hf ok hR hE hw1 hl0 hS1 hz
end ZK
section ZI
variable {M : zY} {n : Nat} {C u : Nat × Nat} {Q : zQT} {pc pc' tgt : Nat} {L : List (Option zV)} {S : List zV} {μ : zM} {j k idx : Nat}
theorem zmin_w : Cond.static Lib.Math.min.name ∈ lw_tbl ∧ Cond.initialized "java/lang/Math" ∈ lw_tbl ∧ Cond.code Lib.Math.min.name Lib.Math.min.code 2 (some .int) ∈ lw_tbl := ⟨zmem_of (by decide +kernel), zmem_of (by decide +kernel), zmem_of (by decide +kernel)⟩
theorem zmax_w : Cond.static Lib.Math.max.name ∈ lw_tbl ∧ Cond.code Lib.Math.max.name Lib.Math.max.code 2 (some .int) ∈ lw_tbl := ⟨zmem_of (by decide +kernel), zmem_of (by decide +kernel)⟩
def zmn (x y : Int32) : Int32 := if y < x then y else x
def zmx (x y : Int32) : Int32 := if x < y then y else x
theorem z_min {x y : Int32} (hd : zd M.2.1 pc (.invokestatic idx) 3 pc') (hl : Cond.methodLink M.1.cls idx Lib.Math.min.name ∈ lw_tbl) (h1n : 1 ≤ n) (h8 : zcatS S ≤ 8) (kk : zJ M n C u Q pc' L (zi (zmn x y) :: S) μ) : zJ M n C u Q pc L (zi y :: zi x :: S) μ := by
  intro l G R p e s m args below meth c H locs ls hf ok hR hE hw hl0 hS hz
  obtain ⟨h1, rfl⟩ := hd
  refine va_mmin hE.1 hE.2.1 (hE.2.2.1.trans hl0.1.symm) hE.2.2.2.2.2 (z_word ok hw hl rfl) (z_word ok hw zmin_w.1 rfl) (z_word ok hw zmin_w.2.1 rfl) (z_word ok hw zmin_w.2.2 rfl) (Nat.le_trans h1n hR.1) ?_ ?_ ?_ h1 (kk l G R p e s m args below meth c H locs ls hf ok hR hE hw hl0 hS hz)
  · rw [z_catS]; have := hR.2.1; omega
  · rw [hR.2.2.1]; exact hR.2.2.2.2.1
  · rw [hR.2.2.2.1]; exact hR.2.2.2.2.2
theorem z_max {x y : Int32} (hd : zd M.2.1 pc (.invokestatic idx) 3 pc') (hl : Cond.methodLink M.1.cls idx Lib.Math.max.name ∈ lw_tbl) (h1n : 1 ≤ n) (h8 : zcatS S ≤ 8) (kk : zJ M n C u Q pc' L (zi (zmx x y) :: S) μ) : zJ M n C u Q pc L (zi y :: zi x :: S) μ := by
  intro l G R p e s m args below meth c H locs ls hf ok hR hE hw hl0 hS hz
  obtain ⟨h1, rfl⟩ := hd
  refine va_mmax hE.1 hE.2.1 (hE.2.2.1.trans hl0.1.symm) hE.2.2.2.2.2 (z_word ok hw hl rfl) (z_word ok hw zmax_w.1 rfl) (z_word ok hw zmin_w.2.1 rfl) (z_word ok hw zmax_w.2 rfl) (Nat.le_trans h1n hR.1) ?_ ?_ ?_ h1 (kk l G R p e s m args below meth c H locs ls hf ok hR hE hw hl0 hS hz)
  · rw [z_catS]; have := hR.2.1; omega
  · rw [hR.2.2.1]; exact hR.2.2.2.2.1
  · rw [hR.2.2.2.1]; exact hR.2.2.2.2.2
end ZI
