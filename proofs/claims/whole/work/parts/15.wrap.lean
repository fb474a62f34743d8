/-! methods with handlers of their own, that catch what a callee throws -/
def zNcs : List (String × String) := [("java/util/NoSuchElementException", "java/lang/IndexOutOfBoundsException"), ("java/lang/IllegalArgumentException", "java/lang/IndexOutOfBoundsException"), ("java/lang/UnsupportedOperationException", "java/lang/IllegalArgumentException"), ("java/lang/IllegalStateException", "java/lang/IndexOutOfBoundsException")]
def zNC (G : zG) : Prop := ∀ q ∈ zNcs, va_Nc q.1 q.2 (z0 G)
abbrev zHH : Type := List (Nat × Nat × Nat × Nat)
def zTab (hh : zHH) (c : Code) (G : zG) : Prop := c.exceptionTable.toList = tableOf hh ∧ zNC G
def zQW (hh : zHH) (C : Nat × Nat) (r : Option zV) (μ' : zM) : zQT := fun c G below args s t => zTab hh c G → MQ below (zPo G r μ') args s C.1 C.2 (zA G) t
def LMW (M : zY) (hh : zHH) (n : Nat) (C : Nat × Nat) (av : List zV) (μ : zM) (r : Option zV) (μ' : zM) : Prop :=
  ∀ (l : Launch) (G : zG), l.flags = flags0 → zOK G → zNC G → Met l M.1 [.codeWith M.1 M.2.1 M.2.2.1 M.2.2.2 hh] (zroom n C) (va_Pc (av.map (rv G)) (fun U => zWd G μ U U.heap)) (zPo G r μ') C.1 C.2 (zA G)
theorem zMet_ofH {l : Launch} {y : MethodName} {ws ws' : List Cond} {rm : Room} {Pc : Array Value → State → Prop} {Qc : Array Value → State → Outcome → State → Prop} {mc ms : Nat} {free : Addr → Prop} {cc : ByteArray} {maxL : Nat} {ret : Option FieldType} {hh : zHH}
    (hy : plainName y.cls = true) (hw : ws = Cond.codeWith y cc maxL ret hh :: ws')
    (body : ∀ p e s m args below meth c s₁, BodyLoose p l y (headSpec ws rm) cc maxL ret e s m args below meth c s₁ → c.maxLocals = maxL → c.exceptionTable.toList = tableOf hh → Pc args s →
      W p l e (headSpec ws rm).room s m args below meth c s.heap [] 0 0 (MQ below Qc args s mc ms free) (entryFrame m args maxL)) : Met l y ws rm Pc Qc mc ms free := by
  refine MetFree.of_bodyS (code := cc) (maxLocals := maxL) (ret := ret) hy (fun args s m h hn => ?_) (fun p e s m args below meth c s₁ B hml hP _ => ?_)
  · obtain ⟨m9, meth, c, hn9, h1, h2, h3, h4, -, h5, h6, -⟩ := Cond.codeWith_spec (atoms_spec (ws := ws) h _ (hw ▸ List.mem_cons_self))
    cases hn.symm.trans hn9
    exact ⟨meth, c, h1, h2, h3, h4, h5, h6⟩
  · have ht : c.exceptionTable.toList = tableOf hh := vx_table (x := y) B (atoms_spec (ws := ws) B.pre _ (hw ▸ List.mem_cons_self))
    obtain ⟨t, a1, o, b1, b2, b3⟩ := body p e s m args below meth c s₁ B hml ht hP s₁ (by rw [B.state]; rfl) (Stand.of_body B)
    exact ⟨t, o, a1, b1, b2, b3⟩
theorem LMW.of {M : zY} {hh : zHH} {n : Nat} {C : Nat × Nat} {av : List zV} {μ : zM} {r : Option zV} {μ' : zM} (hp : plainName M.1.cls = true) (ha : av.all (fun v => match v with | .inr (.inr _) => false | _ => true) = true) (hlen : av.length ≤ M.2.2.1) (h : zJ M n C (0, 0) (zQW hh C r μ') 0 (av.map some ++ List.replicate (M.2.2.1 - av.length) none) [] μ) : LMW M hh n C av μ r μ' := by
  intro l G hf ok hnc
  refine zMet_ofH (cc := M.2.1) (maxL := M.2.2.1) (ret := M.2.2.2) hp rfl ?_
  intro p e s m args below meth c s₁ B hml ht hv
  obtain ⟨rfl, hw⟩ := hv
  rw [lg_entry_eq]
  have hl := lv_entry (av.map (rv G)) (n := M.2.2.1) (by rw [zsl_len G av ha]; exact hlen)
  refine zW_mono (h l G _ p e s m _ below meth c s.heap [] _ hf ok ⟨Nat.le_refl _, Nat.le_refl _, rfl, rfl, Nat.zero_le _, Nat.zero_le _⟩ ⟨B.exec, B.bytes, hml, B.returns, B.notSynchronized, findClass_of_methodNamed B.named⟩ hw ?_ va_S.rf hw.2.2.2.1) (fun t z => z ⟨ht, hnc⟩)
  refine ⟨hl.1, by simp; omega, hl.2.1, fun i v hi => ?_⟩
  have hi' : i < av.length := by
    rcases Nat.lt_or_ge i av.length with q | q
    · exact q
    · rw [List.getElem?_append_right (by simpa using q)] at hi
      have := List.eq_of_mem_replicate (List.mem_of_getElem? hi)
      cases this
  rw [List.getElem?_append_left (by simpa using hi'), List.getElem?_map] at hi
  have hv : av[i]? = some v := by
    cases hx : av[i]? with
    | none => rw [hx] at hi; cases hi
    | some y => rw [hx] at hi; cases hi; rfl
  obtain ⟨h1, h2⟩ := zarg_loc G av 0 ha i v hv
  rw [Nat.zero_add] at h2
  exact ⟨h1, hl.2.2 _ h2⟩
/-- which handler takes E at pc: its place, the rows ahead of it pass E by -/
def zHnd (own : String) (hh : zHH) (E : String) (pc hpc : Nat) : Prop := ∃ (pre : zHH) (x : Nat × Nat × Nat × Nat) (suf : zHH) (nm : String), hh = pre ++ x :: suf ∧
  (∀ z ∈ pre, z.2.2.2 ≠ 0 ∧ ∃ nm' : String, Cond.classLink own z.2.2.2 nm' ∈ lw_tbl ∧ (E, nm') ∈ zNcs) ∧ covers ⟨x.1, x.2.1, x.2.2.1, x.2.2.2⟩ pc = true ∧ x.2.2.2 ≠ 0 ∧ Cond.classLink own x.2.2.2 nm ∈ lw_tbl ∧ Cond.castable E nm ∈ lw_tbl ∧ x.2.2.1 = hpc
section ZWR
variable {M : zY} {n : Nat} {C u : Nat × Nat} {Q : zQT} {pc pc' : Nat} {L : List (Option zV)} {S st : List zV} {μ μ1 μ' : zM} {hh : zHH} {r' : Option zV}
theorem z_iretW {r : Int32} (hd : zd M.2.1 pc .ireturn 1 pc') (hr : M.2.2.2 = some .int) (h : zQW hh C (some (zi r)) μ = Q) : zJ M n C u Q pc L [zi r] μ := by
  subst h
  intro l G R p e s m args below meth c H locs ls hf ok hR hE hw hl hS hz
  refine W.widen hR.2.2.2.2.1 hR.2.2.2.2.2 (zW_mono (W.iret hE.1 hE.2.1 (hE.2.2.2.1.trans hr) (fun t ht hW => ⟨rfl, ⟨ht ▸ hw.1, hw.2.1, State.WarmedH.trans hw.2.2.1 hW, ht ▸ hw.2.2.2⟩, ht ▸ hS.1⟩) hS.2.2 hd.1 hE.2.2.2.2.1) (fun t z _ => z))
/-- the caught one put away: nothing is known of it -/
theorem zLoc.drop {G : zG} {nL i : Nat} {ls ls' : Array Slot} {L : List (Option zV)} {a : Nat} (h : zLoc G nL ls L) (hi : i < nL) (h' : lv_has ls' nL ((i, Value.ref a) :: (zll G 0 L).filter (fun q => !(q.1 == i) && !(q.1 + 1 == i && q.2.category == 2)))) : zLoc G nL ls' (L.set i none) := by
  refine ⟨h'.1, by rw [List.length_set]; exact h.2.1, h'.2.1, fun j w hj => ?_⟩
  by_cases hji : j = i
  · subst hji
    rw [List.getElem?_set_self (by rw [h.2.1]; exact hi)] at hj
    cases hj
  · rw [List.getElem?_set_ne (fun z => hji z.symm)] at hj
    have hcw := (h.2.2.2 j w hj).1
    refine ⟨hcw, h'.2.2 (j, rv G w) (List.mem_cons_of_mem _ (List.mem_filter.mpr ⟨?_, ?_⟩))⟩
    · have := zll_in G L 0 j w hj
      rwa [Nat.zero_add] at this
    · simp [hji, hcw]
variable {Y : zY} {kd idx na : Nat} {Cc : Nat × Nat} {av : List zV} {j k : Nat}
theorem z_callVC {ci : Nat} {fl : List (Option (Nat × Nat))} {T : u_T} {N : Nat} {o : zO} (hd : zd M.2.1 pc (.invokevirtual idx) 3 pc') (hM : LX Y kd Cc (zq j k :: av) μ o μ1) (hk : kd + 1 ≤ n) (hc : zcode Y) (hna : zinv Y na) (hl : Cond.methodLink M.1.cls idx Y.1 ∈ lw_tbl) (hi : Cond.instanceMethod Y.1 ∈ lw_tbl) (hse : Cond.selects Y.1.cls Y.1 Y.1 ∈ lw_tbl)
    (hin : (j, k) ∈ zids) (hs : zsh j k = some (.inr (ci, fl))) (hcl : zcl[ci]? = some (Y.1.cls, T, N)) (hn : av.length = na) (hst : st = av.reverse ++ zq j k :: S) (h8 : zcatS S ≤ 8) (hu : u.1 + Cc.1 ≤ C.1 ∧ u.2 + Cc.2 ≤ C.2)
    (kk : ∀ r, o = .inl r → zJ M n C (u.1 + Cc.1, u.2 + Cc.2) (zQW hh C r' μ') pc' L (r.toList ++ S) μ1)
    (kx : ∀ E, o = .inr E → ∃ hpc i hpc', zHnd M.1.cls hh E pc hpc ∧ zas M.2.1 hpc i hpc' ∧ i < M.2.2.1 ∧ zJ M n C (u.1 + Cc.1, u.2 + Cc.2) (zQW hh C r' μ') hpc' (L.set i none) [] μ1) : zJ M n C u (zQW hh C r' μ') pc L st μ := by
  intro l G R p e s m args below meth c H locs ls hf ok hR hE hw hl0 hS hz
  by_cases htab : zTab hh c G
  · obtain ⟨h1, rfl⟩ := hd
    obtain ⟨q0, hq, -⟩ := zWS_at G μ hin hs
    have hR' : zRm n C (u.1 + Cc.1, u.2 + Cc.2) R := ⟨hR.1, hR.2.1, hR.2.2.1, hR.2.2.2.1, hu.1, hu.2⟩
    rw [z_stk hst]
    refine z_afterX (o := o) (μ1 := μ1) (μ := μ) (vx_runV (Ts := []) (As := av.map (rv G)) (rest := S.map (rv G)) (b := za G j k) (nL := M.2.2.1) ⟨hE.1, hE.2.1, hE.2.2.1, hE.2.2.2.2.2, fun w h => by cases h⟩ (hM l G hf ok) ⟨z_calBX ok hw hR hc hna hk hl, z_word ok hw hi rfl, z_word ok hw hse rfl⟩ ⟨z_blind, va_recv (z_K ok hw) hw.1 hcl hq, fun U hU hW => ⟨rfl, hU ▸ hw.1, hw.2.1, State.WarmedH.trans hw.2.2.1 hW, hU ▸ hw.2.2.2⟩⟩ rfl (by rw [List.length_map]; exact hn) hl0.1 rfl ?_ h1 ⟨?_, ?_⟩) hw hS hz (fun r H1 locs1 ho hw1 hS1 => ?_) (fun E ce q9 H1 locs1 ho hw1 hS1 hce hcv hcl9 => ?_)
    · show 2 * 0 + _ ≤ 8
      rw [z_catS]; omega
    · rw [hR.2.2.1]; exact hu.1
    · rw [hR.2.2.2.1]; exact hu.2
    · rw [← z_ret]
      exact kk r ho l G R p e s m args below meth c H1 locs1 ls hf ok hR' hE hw1 hl0 hS1 hz
    · obtain ⟨hpc, i, hpc', ⟨pre, x, suf, nm, e1, e2, e3, e4, e5, e6, e7⟩, hst', hi', K⟩ := kx E ho
      have hsp : c.exceptionTable.toList = (tableOf pre) ++ ⟨x.1, x.2.1, x.2.2.1, x.2.2.2⟩ :: tableOf suf := by
        rw [htab.1, e1]; simp [tableOf]
      refine vx_catch (own := M.1.cls) (name := nm) hE.2.2.2.2.2 (tableOf pre) ⟨x.1, x.2.1, x.2.2.1, x.2.2.2⟩ (tableOf suf) hsp (fun z hz9 => ?_) e3 e4 (z_word ok hw1 e5 rfl) (va_Nw.use rfl (va_Nw.warmC hw1.2.2.1 (va_Nw.of rfl (ok.2.1 _ e6)))) hce hcv hcl9 ?_
      · obtain ⟨z0', hz0, rfl⟩ := List.mem_map.mp hz9
        obtain ⟨g1, nm', g2, g3⟩ := e2 z0' hz0
        exact Or.inr ⟨g1, nm', z_word ok hw1 g2 rfl, va_Nc.moved hw1.2.2.1.alike (htab.2 _ g3)⟩
      · rw [show (ExceptionTableEntry.mk x.1 x.2.1 x.2.2.1 x.2.2.2).handlerPc = hpc from e7]
        rcases hst' with ⟨i', g1, g2, rfl⟩ | ⟨g1, rfl⟩
        · exact lv_astore_n hE.1 hE.2.1 g1 g2 hl0.has hi' rfl (fun ls' h' => K l G R p e s m args below meth c H1 locs1 ls' hf ok hR' hE hw1 (hl0.drop hi' h') hS1 hz)
        · exact lv_astore hE.1 hE.2.1 g1 hl0.has hi' rfl (fun ls' h' => K l G R p e s m args below meth c H1 locs1 ls' hf ok hR' hE hw1 (hl0.drop hi' h') hS1 hz)
  · intro T hT X
    exact ⟨_, Steps.refl _, fun z => absurd z htab⟩
end ZWR
