/-! 'throw new NoSuchElementException("text")' -/
theorem nsx_k : Cond.classLink RX11 128 NSE ∈ lw_tbl := zmem_of (by decide +kernel)
theorem nsx_i : Cond.initialized NSE ∈ lw_tbl := zmem_of (by decide +kernel)
theorem nsx_c : Cond.code (Bundle.initS NSE) nseB 2 none ∈ lw_tbl := zmem_of (by decide +kernel)
theorem nsx_l : Cond.methodLink NSE 13 (Bundle.initS RTE) ∈ lw_tbl := zmem_of (by decide +kernel)
theorem nsx_0 : ((vx_atS RX11 132 NSE nsN).all fun w => nsB w || (zmemB w && zgw w && vx_ot w)) = true := by decide +kernel
theorem nsx_w : ∀ w ∈ vx_atS RX11 132 NSE nsN, nsB w = false → w ∈ lw_tbl ∧ zgw w = true ∧ vx_ot w = true := by
  intro w hw hn
  have := List.all_eq_true.mp nsx_0 w hw
  simp only [hn, Bool.false_or, Bool.and_eq_true] at this
  exact ⟨zmem_of this.1.1, this.1.2, this.2⟩
set_option maxHeartbeats 1000000 in
theorem z_throwN0 {p : Program} {l : Launch} {e : Env} {R : Room} {s : State} {m : MethodId} {args : Array Value} {below : List Frame} {meth : Method} {c : Code} {H : Heap} {locs : List Loc} {cells slots : Nat} {ls : Array Slot} {rest : List Value} {Qc : Array Value → State → Outcome → State → Prop} {XC : String → State → State → Prop} {free : Addr → Prop} {cc : ByteArray} {pc : Nat} (hexec : p.tables.exec = Jvm.exec) (hb : c.code = cc) (hl : l.stackTraces = false) {own text : String} {ik is ic mc ms sa : Nat} {A : Nat → Prop}
    (hown : s.vm.findClass own = some m.cls) (hk : (Cond.classLink own ik NSE).before args s = true) (hini : (Cond.initialized NSE).before args s = true) (hstr : vk_R own is text sa s) (hat : ∀ w ∈ vx_atS own ic NSE nsN, nsB w = false → w.before args s = true ∧ vx_ot w = true) (hcd : (Cond.code (Bundle.initS NSE) nseB 2 none).before args s = true) (hlk : (Cond.methodLink NSE 13 (Bundle.initS RTE)).before args s = true)
    (hU : vx_Zq Bundle.tN "UNASSIGNED_STACK" Bundle.steD A s s.heap) (hN : vx_Zq Bundle.tN "SUPPRESSED_SENTINEL" Bundle.listD A s s.heap) (hS : va_S A s.heap H locs) (hsize : ls.size = c.maxLocals)
    (d0 : decode cc pc = .ok (.new ik, 3)) (d3 : decode cc (pc + 3) = .ok (.dup, 1)) (d4 : decode cc (pc + 4) = .ok (.ldc is, 2)) (d6 : decode cc (pc + 6) = .ok (.invokespecial ic, 3)) (d9 : decode cc (pc + 9) = .ok (.athrow, 1))
    (hout : ∀ x ∈ c.exceptionTable.toList, covers x (pc + 9) = false)
    (hRframes : 5 < R.frames) (hRlocals : (rest.map fun v => v.category).sum + 82 ≤ R.locals) (hRcells : cells + 1 ≤ R.cells) (hRslots : slots + 6 ≤ R.slots) (hlocks : meth.locks = false)
    (hx : ∀ t : State, s.vm.Alike t.vm → H.size ≤ t.heap.size → (∀ q : Nat, q < H.size → t.heap[q]? = H[q]?) → XC NSE s t) (hf : ∀ z ∈ locs, free z.base) (hc : cells + 1 ≤ mc) (hs : slots + 6 ≤ ms) :
    W p l e R s m args below meth c H locs cells slots (vx_MQ below Qc XC args s mc ms free) (F0 m pc ls rest) := by
  intro T hT X
  have htr : e.platform.stackTraces = false := (show e.platform.stackTraces = l.stackTraces by rw [X.admits.platform]).trans hl
  have Y := vx_rebase X (R' := { frames := R.frames, locals := R.locals, cells := 1, slots := 6 }) (Nat.le_refl _) (Nat.le_refl _) hRcells hRslots
  obtain ⟨s', hA⟩ : ∃ z, z = (T.setVm s.vm).setFrames (.invoking m args :: below) := ⟨_, rfl⟩
  rw [← hA] at Y
  have hvm : s'.vm = s.vm := by rw [hA]; rfl
  have hhp : s'.heap = H := by rw [hA]; exact hT
  have hW0 : s.WarmedH s'.vm := by rw [hvm]; exact State.WarmedH.refl s
  have mv : ∀ {w : Cond}, vx_ot w = true → w.before args s = true → w.before args s' = true := fun hg hw => vx_ot_at hW0 hvm.symm hg hw
  have hU' : vx_Zq Bundle.tN "UNASSIGNED_STACK" Bundle.steD A s' s'.heap := by rw [hhp]; exact vx_Zq.moved hW0.alike (hU.kept hS.2.1)
  have hN' : vx_Zq Bundle.tN "SUPPRESSED_SENTINEL" Bundle.listD A s' s'.heap := by rw [hhp]; exact vx_Zq.moved hW0.alike (hN.kept hS.2.1)
  have h : ∀ w ∈ Bundle.ownAtoms own ic NSE nsN, nsB w = false → w.before args s' = true := by
    intro w hw hn
    have h0 : ∀ w ∈ (Bundle.ownAtoms own ic NSE nsN).filter (fun w => !nsB w), w.before args s' = true := by
      refine vx_own (fun w hw => ?_) (vx_isRefq hU'.1) (vx_isRefq hN'.1) hU'.2.word hN'.2.word
      obtain ⟨h1, h2⟩ := List.mem_filter.mp hw
      obtain ⟨h3, h4⟩ := List.mem_filter.mp h1
      obtain ⟨g1, g2⟩ := hat w (List.mem_filter.mpr ⟨h3, h2⟩) (by simpa using h4)
      exact mv g2 g1
    exact h0 w (List.mem_filter.mpr ⟨hw, by simp [hn]⟩)
  have hown' : s'.vm.findClass own = some m.cls := by rw [hvm]; exact hown
  have hins : (Cond.instantiable NSE 6).before args s' = true := h _ (by simp [Bundle.ownAtoms]) (by decide +kernel)
  obtain ⟨vm₁, cX, kX, hfX, hkX, -, -, X₁, st1⟩ := Y.newCold hexec (own := own) (C := NSE) (index := ik) (n := 6) hown' (mv rfl hk) hins (mv rfl hini)
    (g := F0 m pc ls rest) rfl (by rw [hb]; exact d0) (Nat.le_refl _) (Nat.le_refl _)
  generalize hT1 : (T.setVm vm₁).pushCell { cls := cX, slots := kX.instanceTypes.map defaultValue, vm := .none } = T1 at X₁ st1
  have hcat : (Value.ref T.heap.size).category = 1 := rfl
  have hcellA : T1.heap[T.heap.size]? = some (freshCell cX kX) := by rw [← hT1]; exact State.heap_pushCell_size _ _
  have d3' : decode c.code (pc + 3) = .ok (.dup, 1) := by rw [hb]; exact d3
  have d4' : decode c.code (pc + 4) = .ok (.ldc is, 2) := by rw [hb]; exact d4
  have hstr' : vk_R own is text sa s' := vk_R.warm hW0 hstr
  obtain ⟨U, hsteps, hrun, hend, hW, hsame, ce, hce, hO, hOc⟩ := ns_ctor X₁ hexec htr (own := own) (ic := ic) hown' h (mv rfl hcd) (mv rfl hlk) hfX hkX hcellA (by rw [hhp, hT]; exact Nat.le_refl _) (msg := .ref sa) rfl
    (g := { method := m, pc := pc + 6, locals := ls, stack := .ref sa :: .ref T.heap.size :: .ref T.heap.size :: rest, locked := none }) rfl hsize rfl rfl (rest := rest) rfl
    (by rw [hb]; exact d6) (by rw [hb]; exact d9) hout hRframes (by simp only [List.map_cons, List.sum_cons, hcat]; show 2 * 0 + _ + 81 ≤ _; omega) hlocks
  obtain ⟨f1, f2⟩ := vx_frame hsame
  rw [hhp] at f1 f2
  have hWs : s.WarmedH U.vm := State.WarmedH.trans hW0 hW
  have hcl : s.vm.findClass NSE = some ce.cls := by rw [← hvm]; exact hOc
  have hall : s.sameButNew ({ U with vm := s.vm } : State) locs mc ms := by
    subst hA
    obtain ⟨e1, e2⟩ := hsame
    rw [State.setFrames_setFrames] at e1
    have h2 : (T.setVm s.vm).sameButNew ({ U with vm := s.vm } : State) [] (0 + 1) (0 + 6) := ⟨e1, e2⟩
    have h3 := X.same.trans h2
    rw [List.append_nil] at h3
    exact h3.mono hc hs
  refine ⟨U, ?_, .threw T.heap.size, hrun, hend, Or.inr ⟨T.heap.size, rfl, NSE, ce, locs, hx U hWs.alike f1 (fun q hq => f2 q hq (fun z hz => nomatch hz)), hce, hO, hcl, hWs, hall, hf⟩⟩
  refine st1 _ ?_
  show Steps p.tables e below (T1.setTop { method := m, pc := pc + 3, locals := ls, stack := .ref T.heap.size :: rest, locked := none }) _
  jvm_step X₁.here [X₁.here.top, hexec, d3', Value.category]
  exact X₁.ldcString hexec (own := own) (text := text) (index := is) (a := sa) hown' hstr'.1 hstr'.2
    (g := { method := m, pc := pc + 4, locals := ls, stack := .ref T.heap.size :: .ref T.heap.size :: rest, locked := none }) rfl d4' _ hsteps
theorem z_throwN {M : zY} {n : Nat} {C u : Nat × Nat} {Q : zQT} {pc : Nat} {L : List (Option zV)} {S : List zV} {μ : zM} {i : Nat} {q : String × Nat × String} {is : Nat} (hM : M.1.cls = RX11) (hq : zstr[i]? = some q) (h1 : q.1 = M.1.cls) (h2 : q.2.1 = is)
    (d0 : decode M.2.1 pc = .ok (.new 128, 3)) (d3 : decode M.2.1 (pc + 3) = .ok (.dup, 1)) (d4 : decode M.2.1 (pc + 4) = .ok (.ldc is, 2)) (d6 : decode M.2.1 (pc + 6) = .ok (.invokespecial 132, 3)) (d9 : decode M.2.1 (pc + 9) = .ok (.athrow, 1))
    (hn : 6 ≤ n) (hS8 : zcatS S ≤ 8) (hc : u.1 + 1 ≤ C.1) (hs : u.2 + 6 ≤ C.2) (h : zQX C (.inr NSE) μ = Q) : zJ M n C u Q pc L S μ := by
  subst h
  subst h2
  intro l G R p e s m args below meth c H locs ls hf ok hR hE hw hl hS hz
  by_cases ht : ∀ x ∈ c.exceptionTable.toList, False
  · have hv := vk_R.warm hw.2.2.1 (ok.2.2.2.2.1 i q hq).1
    rw [h1, hM] at hv
    have h40 := hR.2.1
    have hfr := hR.1
    refine zW_mono (z_throwN0 (own := RX11) (text := q.2.2) (A := zA G) hE.1 hE.2.1 (z_noTr hf) (by rw [← hM]; exact hE.2.2.2.2.2) (z_word ok hw nsx_k rfl) (z_word ok hw nsx_i rfl) hv (fun w hw' hn' => ⟨z_wordX ok hw (nsx_w w hw' hn').1 (nsx_w w hw' hn').2.1, (nsx_w w hw' hn').2.2⟩) (z_word ok hw nsx_c rfl) (z_word ok hw nsx_l rfl) (zZq_s hw hS hz ok.2.2.2.1.1) (zZq_s hw hS hz ok.2.2.2.1.2) hS (hl.1.trans hE.2.2.1.symm) d0 d3 d4 d6 d9 (fun x hx => absurd (ht x hx) id) ?_ ?_ ?_ ?_ hE.2.2.2.2.1 ?_ hS.2.2 hc hs) (fun t z _ => z)
    · omega
    · rw [z_catS]; omega
    · rw [hR.2.2.1]; exact hc
    · rw [hR.2.2.2.1]; exact hs
    · exact fun t _ hsz hk => ⟨rfl, zWh_grow (zWh_of hw) hsz hk, Nat.le_trans hS.1 hsz⟩
  · intro T hT X
    exact ⟨_, Steps.refl _, fun z => absurd z ht⟩
set_option maxHeartbeats 1000000 in
theorem z_throwNW0 {p : Program} {l : Launch} {e : Env} {R : Room} {s : State} {m : MethodId} {args : Array Value} {below : List Frame} {meth : Method} {c : Code} {H : Heap} {locs : List Loc} {cells slots : Nat} {ls : Array Slot} {rest : List Value} {Qc : Array Value → State → Outcome → State → Prop} {XC : String → State → State → Prop} {free : Addr → Prop} {cc : ByteArray} {pc : Nat} (hexec : p.tables.exec = Jvm.exec) (hb : c.code = cc) (hl : l.stackTraces = false) {own text : String} {ik is ic mc ms sa : Nat} {A : Nat → Prop}
    (hown : s.vm.findClass own = some m.cls) (hk : (Cond.classLink own ik NSE).before args s = true) (hini : (Cond.initialized NSE).before args s = true) (hstr : vk_R own is text sa s) (hat : ∀ w ∈ vx_atS own ic NSE nsN, nsB w = false → w.before args s = true ∧ vx_ot w = true) (hcd : (Cond.code (Bundle.initS NSE) nseB 2 none).before args s = true) (hlk : (Cond.methodLink NSE 13 (Bundle.initS RTE)).before args s = true)
    (hU : vx_Zq Bundle.tN "UNASSIGNED_STACK" Bundle.steD A s s.heap) (hN : vx_Zq Bundle.tN "SUPPRESSED_SENTINEL" Bundle.listD A s s.heap) (hS : va_S A s.heap H locs) (hsize : ls.size = c.maxLocals)
    (d0 : decode cc pc = .ok (.new ik, 3)) (d3 : decode cc (pc + 3) = .ok (.dup, 1)) (d4 : decode cc (pc + 4) = .ok (.ldc_w is, 3)) (d6 : decode cc (pc + 7) = .ok (.invokespecial ic, 3)) (d9 : decode cc (pc + 10) = .ok (.athrow, 1))
    (hout : ∀ x ∈ c.exceptionTable.toList, covers x (pc + 10) = false)
    (hRframes : 5 < R.frames) (hRlocals : (rest.map fun v => v.category).sum + 82 ≤ R.locals) (hRcells : cells + 1 ≤ R.cells) (hRslots : slots + 6 ≤ R.slots) (hlocks : meth.locks = false)
    (hx : ∀ t : State, s.vm.Alike t.vm → H.size ≤ t.heap.size → (∀ q : Nat, q < H.size → t.heap[q]? = H[q]?) → XC NSE s t) (hf : ∀ z ∈ locs, free z.base) (hc : cells + 1 ≤ mc) (hs : slots + 6 ≤ ms) :
    W p l e R s m args below meth c H locs cells slots (vx_MQ below Qc XC args s mc ms free) (F0 m pc ls rest) := by
  intro T hT X
  have htr : e.platform.stackTraces = false := (show e.platform.stackTraces = l.stackTraces by rw [X.admits.platform]).trans hl
  have Y := vx_rebase X (R' := { frames := R.frames, locals := R.locals, cells := 1, slots := 6 }) (Nat.le_refl _) (Nat.le_refl _) hRcells hRslots
  obtain ⟨s', hA⟩ : ∃ z, z = (T.setVm s.vm).setFrames (.invoking m args :: below) := ⟨_, rfl⟩
  rw [← hA] at Y
  have hvm : s'.vm = s.vm := by rw [hA]; rfl
  have hhp : s'.heap = H := by rw [hA]; exact hT
  have hW0 : s.WarmedH s'.vm := by rw [hvm]; exact State.WarmedH.refl s
  have mv : ∀ {w : Cond}, vx_ot w = true → w.before args s = true → w.before args s' = true := fun hg hw => vx_ot_at hW0 hvm.symm hg hw
  have hU' : vx_Zq Bundle.tN "UNASSIGNED_STACK" Bundle.steD A s' s'.heap := by rw [hhp]; exact vx_Zq.moved hW0.alike (hU.kept hS.2.1)
  have hN' : vx_Zq Bundle.tN "SUPPRESSED_SENTINEL" Bundle.listD A s' s'.heap := by rw [hhp]; exact vx_Zq.moved hW0.alike (hN.kept hS.2.1)
  have h : ∀ w ∈ Bundle.ownAtoms own ic NSE nsN, nsB w = false → w.before args s' = true := by
    intro w hw hn
    have h0 : ∀ w ∈ (Bundle.ownAtoms own ic NSE nsN).filter (fun w => !nsB w), w.before args s' = true := by
      refine vx_own (fun w hw => ?_) (vx_isRefq hU'.1) (vx_isRefq hN'.1) hU'.2.word hN'.2.word
      obtain ⟨h1, h2⟩ := List.mem_filter.mp hw
      obtain ⟨h3, h4⟩ := List.mem_filter.mp h1
      obtain ⟨g1, g2⟩ := hat w (List.mem_filter.mpr ⟨h3, h2⟩) (by simpa using h4)
      exact mv g2 g1
    exact h0 w (List.mem_filter.mpr ⟨hw, by simp [hn]⟩)
  have hown' : s'.vm.findClass own = some m.cls := by rw [hvm]; exact hown
  have hins : (Cond.instantiable NSE 6).before args s' = true := h _ (by simp [Bundle.ownAtoms]) (by decide +kernel)
  obtain ⟨vm₁, cX, kX, hfX, hkX, -, -, X₁, st1⟩ := Y.newCold hexec (own := own) (C := NSE) (index := ik) (n := 6) hown' (mv rfl hk) hins (mv rfl hini)
    (g := F0 m pc ls rest) rfl (by rw [hb]; exact d0) (Nat.le_refl _) (Nat.le_refl _)
  generalize hT1 : (T.setVm vm₁).pushCell { cls := cX, slots := kX.instanceTypes.map defaultValue, vm := .none } = T1 at X₁ st1
  have hcat : (Value.ref T.heap.size).category = 1 := rfl
  have hcellA : T1.heap[T.heap.size]? = some (freshCell cX kX) := by rw [← hT1]; exact State.heap_pushCell_size _ _
  have d3' : decode c.code (pc + 3) = .ok (.dup, 1) := by rw [hb]; exact d3
  have d4' : decode c.code (pc + 4) = .ok (.ldc_w is, 3) := by rw [hb]; exact d4
  have hstr' : vk_R own is text sa s' := vk_R.warm hW0 hstr
  obtain ⟨U, hsteps, hrun, hend, hW, hsame, ce, hce, hO, hOc⟩ := ns_ctor X₁ hexec htr (own := own) (ic := ic) hown' h (mv rfl hcd) (mv rfl hlk) hfX hkX hcellA (by rw [hhp, hT]; exact Nat.le_refl _) (msg := .ref sa) rfl
    (g := { method := m, pc := pc + 7, locals := ls, stack := .ref sa :: .ref T.heap.size :: .ref T.heap.size :: rest, locked := none }) rfl hsize rfl rfl (rest := rest) rfl
    (by rw [hb]; exact d6) (by rw [hb]; exact d9) hout hRframes (by simp only [List.map_cons, List.sum_cons, hcat]; show 2 * 0 + _ + 81 ≤ _; omega) hlocks
  obtain ⟨f1, f2⟩ := vx_frame hsame
  rw [hhp] at f1 f2
  have hWs : s.WarmedH U.vm := State.WarmedH.trans hW0 hW
  have hcl : s.vm.findClass NSE = some ce.cls := by rw [← hvm]; exact hOc
  have hall : s.sameButNew ({ U with vm := s.vm } : State) locs mc ms := by
    subst hA
    obtain ⟨e1, e2⟩ := hsame
    rw [State.setFrames_setFrames] at e1
    have h2 : (T.setVm s.vm).sameButNew ({ U with vm := s.vm } : State) [] (0 + 1) (0 + 6) := ⟨e1, e2⟩
    have h3 := X.same.trans h2
    rw [List.append_nil] at h3
    exact h3.mono hc hs
  refine ⟨U, ?_, .threw T.heap.size, hrun, hend, Or.inr ⟨T.heap.size, rfl, NSE, ce, locs, hx U hWs.alike f1 (fun q hq => f2 q hq (fun z hz => nomatch hz)), hce, hO, hcl, hWs, hall, hf⟩⟩
  refine st1 _ ?_
  show Steps p.tables e below (T1.setTop { method := m, pc := pc + 3, locals := ls, stack := .ref T.heap.size :: rest, locked := none }) _
  jvm_step X₁.here [X₁.here.top, hexec, d3', Value.category]
  exact X₁.ldcStringW hexec (own := own) (text := text) (index := is) (a := sa) hown' hstr'.1 hstr'.2
    (g := { method := m, pc := pc + 4, locals := ls, stack := .ref T.heap.size :: .ref T.heap.size :: rest, locked := none }) rfl d4' _ hsteps
theorem z_throwNW {M : zY} {n : Nat} {C u : Nat × Nat} {Q : zQT} {pc : Nat} {L : List (Option zV)} {S : List zV} {μ : zM} {i : Nat} {q : String × Nat × String} {is : Nat} (hM : M.1.cls = RX11) (hq : zstr[i]? = some q) (h1 : q.1 = M.1.cls) (h2 : q.2.1 = is)
    (d0 : decode M.2.1 pc = .ok (.new 128, 3)) (d3 : decode M.2.1 (pc + 3) = .ok (.dup, 1)) (d4 : decode M.2.1 (pc + 4) = .ok (.ldc_w is, 3)) (d6 : decode M.2.1 (pc + 7) = .ok (.invokespecial 132, 3)) (d9 : decode M.2.1 (pc + 10) = .ok (.athrow, 1))
    (hn : 6 ≤ n) (hS8 : zcatS S ≤ 8) (hc : u.1 + 1 ≤ C.1) (hs : u.2 + 6 ≤ C.2) (h : zQX C (.inr NSE) μ = Q) : zJ M n C u Q pc L S μ := by
  subst h
  subst h2
  intro l G R p e s m args below meth c H locs ls hf ok hR hE hw hl hS hz
  by_cases ht : ∀ x ∈ c.exceptionTable.toList, False
  · have hv := vk_R.warm hw.2.2.1 (ok.2.2.2.2.1 i q hq).1
    rw [h1, hM] at hv
    have h40 := hR.2.1
    have hfr := hR.1
    refine zW_mono (z_throwNW0 (own := RX11) (text := q.2.2) (A := zA G) hE.1 hE.2.1 (z_noTr hf) (by rw [← hM]; exact hE.2.2.2.2.2) (z_word ok hw nsx_k rfl) (z_word ok hw nsx_i rfl) hv (fun w hw' hn' => ⟨z_wordX ok hw (nsx_w w hw' hn').1 (nsx_w w hw' hn').2.1, (nsx_w w hw' hn').2.2⟩) (z_word ok hw nsx_c rfl) (z_word ok hw nsx_l rfl) (zZq_s hw hS hz ok.2.2.2.1.1) (zZq_s hw hS hz ok.2.2.2.1.2) hS (hl.1.trans hE.2.2.1.symm) d0 d3 d4 d6 d9 (fun x hx => absurd (ht x hx) id) ?_ ?_ ?_ ?_ hE.2.2.2.2.1 ?_ hS.2.2 hc hs) (fun t z _ => z)
    · omega
    · rw [z_catS]; omega
    · rw [hR.2.2.1]; exact hc
    · rw [hR.2.2.2.1]; exact hs
    · exact fun t _ hsz hk => ⟨rfl, zWh_grow (zWh_of hw) hsz hk, Nat.le_trans hS.1 hsz⟩
  · intro T hT X
    exact ⟨_, Steps.refl _, fun z => absurd z ht⟩
