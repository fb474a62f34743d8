/-! methods that throw: the outcome is an answer, or the class of what is thrown -/
abbrev zO : Type := (Option zV) ⊕ String
def zWh (G : zG) (μ : zM) (H : Heap) : Prop := va_P (zD G) zcl (zWS G μ) H ∧ va_D (zA G) (zWS G μ) ∧ va_S (zA G) (z0 G).heap H []
def zPoX (G : zG) (o : zO) (μ' : zM) : Array Value → State → Outcome → State → Prop := match o with
  | .inl r => zPo G r μ'
  | .inr _ => fun _ _ _ _ => False
def zXC (G : zG) (o : zO) (μ' : zM) : String → State → State → Prop := fun E st t => match o with
  | .inl _ => False
  | .inr E' => E = E' ∧ zWh G μ' t.heap ∧ st.heap.size ≤ t.heap.size
def zQX (C : Nat × Nat) (o : zO) (μ' : zM) : zQT := fun c G below args s t => (∀ x ∈ c.exceptionTable.toList, False) → vx_MQ below (zPoX G o μ') (zXC G o μ') args s C.1 C.2 (zA G) t
def LX (M : zY) (n : Nat) (C : Nat × Nat) (av : List zV) (μ : zM) (o : zO) (μ' : zM) : Prop :=
  ∀ (l : Launch) (G : zG), l.flags = flags0 → zOK G → vx_Met l M.1 [.code M.1 M.2.1 M.2.2.1 M.2.2.2] (zroom n C) (va_Pc (av.map (rv G)) (fun U => zWd G μ U U.heap)) (zPoX G o μ') (zXC G o μ') C.1 C.2 (zA G)
theorem zW_mono {p : Program} {l : Launch} {e : Env} {R : Room} {s : State} {m : MethodId} {args : Array Value} {below : List Frame} {meth : Method} {c : Code} {H : Heap} {locs : List Loc} {cells slots : Nat} {Q Q' : State → Prop} {g : JFrame} (k : W p l e R s m args below meth c H locs cells slots Q g) (h : ∀ t, Q t → Q' t) : W p l e R s m args below meth c H locs cells slots Q' g := by
  intro T hT X
  obtain ⟨t, a, b⟩ := k T hT X
  exact ⟨t, a, h t b⟩
theorem LX.of {M : zY} {n : Nat} {C : Nat × Nat} {av : List zV} {μ : zM} {o : zO} {μ' : zM} (hp : plainName M.1.cls = true) (ha : av.all (fun v => match v with | .inr (.inr _) => false | _ => true) = true) (hlen : av.length ≤ M.2.2.1) (h : zJ M n C (0, 0) (zQX C o μ') 0 (av.map some ++ List.replicate (M.2.2.1 - av.length) none) [] μ) : LX M n C av μ o μ' := by
  intro l G hf ok
  refine vx_ofW (cc := M.2.1) (maxL := M.2.2.1) (ret := M.2.2.2) hp rfl ?_
  intro p e s m args below meth c s₁ B hml ht hv
  obtain ⟨rfl, hw⟩ := hv
  rw [lg_entry_eq]
  have hl := lv_entry (av.map (rv G)) (n := M.2.2.1) (by rw [zsl_len G av ha]; exact hlen)
  refine zW_mono (h l G _ p e s m _ below meth c s.heap [] _ hf ok ⟨Nat.le_refl _, Nat.le_refl _, rfl, rfl, Nat.zero_le _, Nat.zero_le _⟩ ⟨B.exec, B.bytes, hml, B.returns, B.notSynchronized, findClass_of_methodNamed B.named⟩ hw ?_ va_S.rf hw.2.2.2.1) (fun t z => z ht)
  refine ⟨hl.1, by simp; omega, hl.2.1, fun i v hi => ?_⟩
  have hi' : i < av.length := by
    rcases Nat.lt_or_ge i av.length with q | q
    · exact q
    · rw [List.getElem?_append_right (by simpa using q)] at hi
      have := List.eq_of_mem_replicate (List.mem_of_getElem? hi)
      cases this
  rw [List.getElem?_append_left (by simpa using hi'), List.getElem?_map] at hi
  have hv : av[i]? = some v := by
    cases hx : av[i]? with
    | none => rw [hx] at hi; cases hi
    | some y => rw [hx] at hi; cases hi; rfl
  obtain ⟨h1, h2⟩ := zarg_loc G av 0 ha i v hv
  rw [Nat.zero_add] at h2
  exact ⟨h1, hl.2.2 _ h2⟩
/-- a throw's words, but the string's -/
def zgw (w : Cond) : Bool := goodWord w || match w with
  | .declares _ => true
  | .castable _ _ => true
  | _ => false
def zxF (own cls : String) (ik ic : Nat) (names : List String) : Prop := Bundle.fit cls = true ∧ (∀ n ∈ names, Bundle.fit n = true) ∧ Cond.classLink own ik cls ∈ lw_tbl ∧ Cond.initialized cls ∈ lw_tbl ∧ (∀ w ∈ vx_atS own ic cls names, w ∈ lw_tbl ∧ zgw w = true) ∧ (∀ w ∈ Cond.classLink own ik cls :: Cond.initialized cls :: vx_atS own ic cls names, vx_ot w = true) ∧ names.length ≤ 2
theorem z_wordX {G : zG} {μ : zM} {s : State} {H : Heap} {args : Array Value} (ok : zOK G) (hw : zWd G μ s H) {w : Cond} (hin : w ∈ lw_tbl) (hg : zgw w = true) : w.before args s = true := by
  unfold zgw at hg
  rcases Bool.or_eq_true_iff.mp hg with h | h
  · exact z_word ok hw hin h
  · cases w with
    | declares x => exact va_Nw.use rfl (va_Nw.warmD hw.2.2.1 (va_Nw.of rfl (ok.2.1 _ hin)))
    | castable C T => exact va_Nw.use rfl (va_Nw.warmC hw.2.2.1 (va_Nw.of rfl (ok.2.1 _ hin)))
    | _ => cases h
theorem zWh_of {G : zG} {μ : zM} {s : State} {H : Heap} (hw : zWd G μ s H) : zWh G μ H := ⟨hw.1, hw.2.1, hw.2.2.2⟩
theorem zWd_of {G : zG} {μ μ1 : zM} {s : State} {H H1 : Heap} (hw : zWd G μ s H) (h : zWh G μ1 H1) : zWd G μ1 s H1 := ⟨h.1, h.2.1, hw.2.2.1, h.2.2⟩
/-- a heap that only grew -/
theorem zWh_grow {G : zG} {μ : zM} {H H1 : Heap} (h : zWh G μ H) (hz : H.size ≤ H1.size) (hk : ∀ q : Nat, q < H.size → H1[q]? = H[q]?) : zWh G μ H1 :=
  ⟨h.1.kept (fun k q hq => hk q.1 (h.1 k q hq).lt), h.2.1, Nat.le_trans h.2.2.1 hz, fun q h1 h2 => by rw [hk q (Nat.lt_of_lt_of_le h1 h.2.2.1)]; exact h.2.2.2.1 q h1 h2, fun _ z => by cases z⟩
section ZX
variable {M : zY} {n : Nat} {C u : Nat × Nat} {Q : zQT} {pc pc' : Nat} {L : List (Option zV)} {S : List zV} {μ : zM}
theorem z_iretX {r : Int32} (hd : zd M.2.1 pc .ireturn 1 pc') (hr : M.2.2.2 = some .int) (h : zQX C (.inl (some (zi r))) μ = Q) : zJ M n C u Q pc L [zi r] μ := by
  subst h
  intro l G R p e s m args below meth c H locs ls hf ok hR hE hw hl hS hz
  refine W.widen hR.2.2.2.2.1 hR.2.2.2.2.2 (zW_mono (vx_ret (W.iret hE.1 hE.2.1 (hE.2.2.2.1.trans hr) (fun t ht hW => ⟨rfl, ⟨ht ▸ hw.1, hw.2.1, State.WarmedH.trans hw.2.2.1 hW, ht ▸ hw.2.2.2⟩, ht ▸ hS.1⟩) hS.2.2 hd.1 hE.2.2.2.2.1)) (fun t z _ => z))
theorem z_zretX {r : Int32} {ty : FieldType} (hd : zd M.2.1 pc .ireturn 1 pc') (hr : M.2.2.2 = some ty) (hn : narrow ty (.int r) = .int r) (h : zQX C (.inl (some (zi r))) μ = Q) : zJ M n C u Q pc L [zi r] μ := by
  subst h
  intro l G R p e s m args below meth c H locs ls hf ok hR hE hw hl hS hz
  refine W.widen hR.2.2.2.2.1 hR.2.2.2.2.2 (zW_mono (vx_ret (W.zret hE.1 hE.2.1 (hE.2.2.2.1.trans hr) hn (fun t ht hW => ⟨rfl, ⟨ht ▸ hw.1, hw.2.1, State.WarmedH.trans hw.2.2.1 hW, ht ▸ hw.2.2.2⟩, ht ▸ hS.1⟩) hS.2.2 hd.1 hE.2.2.2.2.1)) (fun t z _ => z))
theorem z_vretX (hd : zd M.2.1 pc .return_ 1 pc') (hr : M.2.2.2 = none) (h : zQX C (.inl none) μ = Q) : zJ M n C u Q pc L [] μ := by
  subst h
  intro l G R p e s m args below meth c H locs ls hf ok hR hE hw hl hS hz
  refine W.widen hR.2.2.2.2.1 hR.2.2.2.2.2 (zW_mono (vx_ret (W.vret hE.1 hE.2.1 (hE.2.2.2.1.trans hr) (fun t ht hW => ⟨rfl, ⟨ht ▸ hw.1, hw.2.1, State.WarmedH.trans hw.2.2.1 hW, ht ▸ hw.2.2.2⟩, ht ▸ hS.1⟩) hS.2.2 hd.1 hE.2.2.2.2.1)) (fun t z _ => z))
theorem z_noTr {l : Launch} (hf : l.flags = flags0) : l.stackTraces = false := by
  unfold Launch.stackTraces; rw [hf]; decide +kernel
end ZX
section ZX2
variable {M : zY} {n : Nat} {C u : Nat × Nat} {Q : zQT} {pc pc' : Nat} {L : List (Option zV)} {S st : List zV} {μ μ1 : zM} {i : Nat} {q : String × Nat × String}
theorem zZq_s {G : zG} {μ : zM} {s : State} {H : Heap} {locs : List Loc} {Cn nn d : String} (hw : zWd G μ s H) (hS : va_S (zA G) s.heap H locs) (hz : (z0 G).heap.size ≤ s.heap.size) (h : vx_Zq Cn nn d (zA G) (z0 G) (z0 G).heap) : vx_Zq Cn nn d (zA G) s s.heap :=
  (h.moved hw.2.2.1.alike).kept (z_keep hw hS hz)
/-- 'throw new E("text")' -/
theorem z_throwS {cls : String} {names : List String} {ik is ic : Nat} (hF : zxF M.1.cls cls ik ic names) (hq : zstr[i]? = some q) (h1 : q.1 = M.1.cls) (h2 : q.2.1 = is)
    (d0 : decode M.2.1 pc = .ok (.new ik, 3)) (d3 : decode M.2.1 (pc + 3) = .ok (.dup, 1)) (d4 : decode M.2.1 (pc + 4) = .ok (.ldc is, 2)) (d6 : decode M.2.1 (pc + 6) = .ok (.invokespecial ic, 3)) (d9 : decode M.2.1 (pc + 9) = .ok (.athrow, 1))
    (hn : 6 ≤ n) (hS8 : zcatS S ≤ 8) (hc : u.1 + 1 ≤ C.1) (hs : u.2 + 6 ≤ C.2) (h : zQX C (.inr cls) μ = Q) : zJ M n C u Q pc L S μ := by
  subst h
  subst h2
  intro l G R p e s m args below meth c H locs ls hf ok hR hE hw hl hS hz
  by_cases ht : ∀ x ∈ c.exceptionTable.toList, False
  · have hv := vk_R.warm hw.2.2.1 (ok.2.2.2.2.1 i q hq).1
    rw [h1] at hv
    obtain ⟨f1, f2, f3, f4, f5, f6, f7⟩ := hF
    have h40 := hR.2.1
    have hfr := hR.1
    refine zW_mono (vx_throwS (names := names) (text := q.2.2) (A := zA G) hE.1 hE.2.1 (z_noTr hf) hE.2.2.2.2.2 f1 f2 (z_word ok hw f3 rfl) (z_word ok hw f4 rfl) hv (fun w hw' => z_wordX ok hw (f5 w hw').1 (f5 w hw').2) f6 (zZq_s hw hS hz ok.2.2.2.1.1) (zZq_s hw hS hz ok.2.2.2.1.2) hS (hl.1.trans hE.2.2.1.symm) d0 d3 d4 d6 d9 (fun x hx => absurd (ht x hx) id) ?_ ?_ ?_ ?_ hE.2.2.2.2.1 ?_ hS.2.2 hc hs) (fun t z _ => z)
    · omega
    · rw [z_catS]; omega
    · rw [hR.2.2.1]; exact hc
    · rw [hR.2.2.2.1]; exact hs
    · exact fun t _ hsz hk => ⟨rfl, zWh_grow (zWh_of hw) hsz hk, Nat.le_trans hS.1 hsz⟩
  · intro T hT X
    exact ⟨_, Steps.refl _, fun z => absurd z ht⟩
theorem z_throwSW {cls : String} {names : List String} {ik is ic : Nat} (hF : zxF M.1.cls cls ik ic names) (hq : zstr[i]? = some q) (h1 : q.1 = M.1.cls) (h2 : q.2.1 = is)
    (d0 : decode M.2.1 pc = .ok (.new ik, 3)) (d3 : decode M.2.1 (pc + 3) = .ok (.dup, 1)) (d4 : decode M.2.1 (pc + 4) = .ok (.ldc_w is, 3)) (d7 : decode M.2.1 (pc + 7) = .ok (.invokespecial ic, 3)) (d10 : decode M.2.1 (pc + 10) = .ok (.athrow, 1))
    (hn : 6 ≤ n) (hS8 : zcatS S ≤ 8) (hc : u.1 + 1 ≤ C.1) (hs : u.2 + 6 ≤ C.2) (h : zQX C (.inr cls) μ = Q) : zJ M n C u Q pc L S μ := by
  subst h
  subst h2
  intro l G R p e s m args below meth c H locs ls hf ok hR hE hw hl hS hz
  by_cases ht : ∀ x ∈ c.exceptionTable.toList, False
  · have hv := vk_R.warm hw.2.2.1 (ok.2.2.2.2.1 i q hq).1
    rw [h1] at hv
    obtain ⟨f1, f2, f3, f4, f5, f6, f7⟩ := hF
    have h40 := hR.2.1
    have hfr := hR.1
    refine zW_mono (vx_throwSW (names := names) (text := q.2.2) (A := zA G) hE.1 hE.2.1 (z_noTr hf) hE.2.2.2.2.2 f1 f2 (z_word ok hw f3 rfl) (z_word ok hw f4 rfl) hv (fun w hw' => z_wordX ok hw (f5 w hw').1 (f5 w hw').2) f6 (zZq_s hw hS hz ok.2.2.2.1.1) (zZq_s hw hS hz ok.2.2.2.1.2) hS (hl.1.trans hE.2.2.1.symm) d0 d3 d4 d7 d10 (fun x hx => absurd (ht x hx) id) ?_ ?_ ?_ ?_ hE.2.2.2.2.1 ?_ hS.2.2 hc hs) (fun t z _ => z)
    · omega
    · rw [z_catS]; omega
    · rw [hR.2.2.1]; exact hc
    · rw [hR.2.2.2.1]; exact hs
    · exact fun t _ hsz hk => ⟨rfl, zWh_grow (zWh_of hw) hsz hk, Nat.le_trans hS.1 hsz⟩
  · intro T hT X
    exact ⟨_, Steps.refl _, fun z => absurd z ht⟩
/-- behind a call that may throw -/
theorem z_afterX {l : Launch} {G : zG} {R : Room} {p : Program} {e : Env} {s : State} {m : MethodId} {args : Array Value} {below : List Frame} {meth : Method} {c : Code} {H : Heap} {locs : List Loc} {ls : Array Slot} {a : Array Value} {rest st0 : List Value} {Qw : State → Prop} {cells slots mc ms : Nat} {o : zO} (hr : vx_Run p l e R s m args below meth c H locs cells slots mc ms (F0 m pc ls st0) rest (zPoX G o μ1 a) (zXC G o μ1) (zA G)) (hw : zWd G μ s H) (hS : va_S (zA G) s.heap H locs) (hz : (z0 G).heap.size ≤ s.heap.size)
    (kk : ∀ (r : Option zV) (H1 : Heap) (locs1 : List Loc), o = .inl r → zWd G μ1 s H1 → va_S (zA G) s.heap H1 locs1 → W p l e R s m args below meth c H1 locs1 (cells + mc) (slots + ms) Qw (F0 m (pc + 3) ls ((r.map (rv G)).toList ++ rest)))
    (kx : ∀ (E : String) (ce : Cell) (q9 : Addr) (H1 : Heap) (locs1 : List Loc), o = .inr E → zWd G μ1 s H1 → va_S (zA G) s.heap H1 locs1 → H1[q9]? = some ce → ce.vm = .none → s.vm.findClass E = some ce.cls → vx_W p l e R s m args below meth c H1 locs1 (cells + mc) (slots + ms) Qw (F0 m pc ls rest) q9) : W p l e R s m args below meth c H locs cells slots Qw (F0 m pc ls st0) := by
  have step : ∀ (t T' : State) (Lc : List Loc), zWh G μ1 t.heap → H.size ≤ t.heap.size → T'.heap = t.heap → (∀ q ∈ Lc, zA G q.base) → zWd G μ1 s T'.heap ∧ va_S (zA G) s.heap T'.heap (locs ++ Lc) := by
    intro t T' Lc hq hsz e1 hL
    refine ⟨zWd_of hw (e1 ▸ hq), Nat.le_trans hS.1 (e1 ▸ hsz), fun q h1 h2 => ?_, fun q hq' => ?_⟩
    · rw [e1, hq.2.2.2.1 q (Nat.not_le.mp h2) h2, ← hw.2.2.2.2.1 q (Nat.not_le.mp h2) h2]
      exact hS.2.1 q h1 h2
    · rcases List.mem_append.mp hq' with h | h
      · exact hS.2.2 q h
      · exact hL q h
  intro T hT X
  rcases hr T hT X with ⟨v, st₀, t, T', Lc, h0, X', hL, e1, e2, hq, stp⟩ | ⟨q9, st₀, t, T', Lc, E, ce, h0, X', hL, e1, e2, hq, hce, hcv, hcl, stp⟩
  · cases o with
    | inr E => exact hq.elim
    | inl r =>
      obtain ⟨hv, hq, hsz⟩ := hq
      cases hv
      rw [h0] at hsz
      obtain ⟨a1, a2⟩ := step t T' Lc (zWh_of hq) hsz e1 hL
      obtain ⟨t2, b1, b2⟩ := kk r T'.heap (locs ++ Lc) rfl a1 a2 T' rfl X'
      exact ⟨t2, stp t2 b1, b2⟩
  · cases o with
    | inl r => exact hq.elim
    | inr E' =>
      obtain ⟨rfl, hq, hsz⟩ := hq
      rw [h0] at hsz
      obtain ⟨a1, a2⟩ := step t T' Lc hq hsz e1 hL
      obtain ⟨t2, b1, b2⟩ := kx E ce q9 T'.heap (locs ++ Lc) rfl a1 a2 (by rw [e1]; exact hce) hcv hcl T' rfl X'
      exact ⟨t2, stp.trans b1, b2⟩
variable {Y : zY} {kd idx na : Nat} {Cc : Nat × Nat} {av : List zV} {j k : Nat}
theorem z_calBX {G : zG} {R : Room} {s : State} {H : Heap} {args : Array Value} {own : String} (ok : zOK G) (hw : zWd G μ s H) (hR : zRm n C u R) (hc : zcode Y) (hna : zinv Y na) (hk : kd + 1 ≤ n) (hl : Cond.methodLink own idx Y.1 ∈ lw_tbl) : CallB R s args own idx Y.1 Y.2.1 Y.2.2.1 Y.2.2.2 [Cond.code Y.1 Y.2.1 Y.2.2.1 Y.2.2.2] (zroom kd Cc) Cc.1 Cc.2 na := by
  have r1 : (zroom kd Cc).frames + 1 ≤ R.frames := Nat.le_trans hk hR.1
  have r2 : 8 + (Y.2.2.1 + 11) + (zroom kd Cc).locals ≤ R.locals := by
    refine Nat.le_trans ?_ hR.2.1
    show 8 + (Y.2.2.1 + 11) + 40 * kd ≤ 40 * n
    have := hc.2.2.2
    omega
  refine ⟨rfl, rfl, r1, r2, z_good (args := args) ok hw hc, List.mem_singleton.mpr rfl, z_word ok hw hc.1 rfl, z_word ok hw hc.2.1 rfl, hc.2.2.1, fun sig h => ?_, z_word ok hw hl rfl⟩
  have h2 := hna
  unfold zinv at h2
  rw [h] at h2
  exact (Option.some.inj h2).symm
/-- what a call's outcome means here: on, or out -/
theorem z_outX {l : Launch} {G : zG} {R : Room} {p : Program} {e : Env} {s : State} {m : MethodId} {args : Array Value} {below : List Frame} {meth : Method} {c : Code} {H1 : Heap} {locs1 : List Loc} {ls : Array Slot} {rest : List Value} {E : String} {ce : Cell} {q9 : Addr} {cells slots : Nat} (hE : zEnv M p s m meth c) (hw1 : zWd G μ1 s H1) (hS1 : va_S (zA G) s.heap H1 locs1) (hce : H1[q9]? = some ce) (hcv : ce.vm = .none) (hcl : s.vm.findClass E = some ce.cls) (h1 : cells ≤ C.1) (h2 : slots ≤ C.2) : vx_W p l e R s m args below meth c H1 locs1 cells slots (zQX C (.inr E) μ1 c G below args s) (F0 m pc ls rest) q9 := by
  by_cases ht : ∀ x ∈ c.exceptionTable.toList, False
  · intro T hT X
    obtain ⟨t, a, b⟩ := vx_out (Qc := zPoX G (.inr E) μ1) (XC := zXC G (.inr E) μ1) (free := zA G) (fun x hx => absurd (ht x hx) id) hE.2.2.2.2.1 hce hcv hcl (fun t ht' _ => ⟨rfl, ht' ▸ zWh_of hw1, ht' ▸ hS1.1⟩) hS1.2.2 h1 h2 T hT X
    exact ⟨t, a, fun _ => b⟩
  · intro T hT X
    exact ⟨_, Steps.refl _, fun z => absurd z ht⟩
theorem z_callVX {ci : Nat} {fl : List (Option (Nat × Nat))} {T : u_T} {N : Nat} {o : zO} (hd : zd M.2.1 pc (.invokevirtual idx) 3 pc') (hM : LX Y kd Cc (zq j k :: av) μ o μ1) (hk : kd + 1 ≤ n) (hc : zcode Y) (hna : zinv Y na) (hl : Cond.methodLink M.1.cls idx Y.1 ∈ lw_tbl) (hi : Cond.instanceMethod Y.1 ∈ lw_tbl) (hse : Cond.selects Y.1.cls Y.1 Y.1 ∈ lw_tbl)
    (hin : (j, k) ∈ zids) (hs : zsh j k = some (.inr (ci, fl))) (hcl : zcl[ci]? = some (Y.1.cls, T, N)) (hn : av.length = na) (hst : st = av.reverse ++ zq j k :: S) (h8 : zcatS S ≤ 8) (hu : u.1 + Cc.1 ≤ C.1 ∧ u.2 + Cc.2 ≤ C.2)
    (kk : ∀ r, o = .inl r → zJ M n C (u.1 + Cc.1, u.2 + Cc.2) Q pc' L (r.toList ++ S) μ1) (kx : ∀ E, o = .inr E → zQX C (.inr E) μ1 = Q) : zJ M n C u Q pc L st μ := by
  intro l G R p e s m args below meth c H locs ls hf ok hR hE hw hl0 hS hz
  obtain ⟨h1, rfl⟩ := hd
  obtain ⟨q0, hq, -⟩ := zWS_at G μ hin hs
  rw [z_stk hst]
  refine z_afterX (o := o) (μ1 := μ1) (μ := μ) (vx_runV (Ts := []) (As := av.map (rv G)) (rest := S.map (rv G)) (b := za G j k) (nL := M.2.2.1) ⟨hE.1, hE.2.1, hE.2.2.1, hE.2.2.2.2.2, fun w h => by cases h⟩ (hM l G hf ok) ⟨z_calBX ok hw hR hc hna hk hl, z_word ok hw hi rfl, z_word ok hw hse rfl⟩ ⟨z_blind, va_recv (z_K ok hw) hw.1 hcl hq, fun U hU hW => ⟨rfl, hU ▸ hw.1, hw.2.1, State.WarmedH.trans hw.2.2.1 hW, hU ▸ hw.2.2.2⟩⟩ rfl (by rw [List.length_map]; exact hn) hl0.1 rfl ?_ h1 ⟨?_, ?_⟩) hw hS hz (fun r H1 locs1 ho hw1 hS1 => ?_) (fun E ce q9 H1 locs1 ho hw1 hS1 hce hcv hcl9 => ?_)
  · show 2 * 0 + _ ≤ 8
    rw [z_catS]; omega
  · rw [hR.2.2.1]; exact hu.1
  · rw [hR.2.2.2.1]; exact hu.2
  · rw [← z_ret]
    exact kk r ho l G R p e s m args below meth c H1 locs1 ls hf ok ⟨hR.1, hR.2.1, hR.2.2.1, hR.2.2.2.1, hu.1, hu.2⟩ hE hw1 hl0 hS1 hz
  · rw [← kx E ho]
    exact z_outX hE hw1 hS1 hce hcv hcl9 hu.1 hu.2
theorem z_callSX {o : zO} (hd : zd M.2.1 pc (.invokestatic idx) 3 pc') (hM : LX Y kd Cc av μ o μ1) (hk : kd + 1 ≤ n) (hc : zcode Y) (hna : zinv Y na) (hl : Cond.methodLink M.1.cls idx Y.1 ∈ lw_tbl) (hi : Cond.static Y.1 ∈ lw_tbl)
    (hn : av.length = na) (hst : st = av.reverse ++ S) (h8 : zcatS S ≤ 8) (hu : u.1 + Cc.1 ≤ C.1 ∧ u.2 + Cc.2 ≤ C.2)
    (kk : ∀ r, o = .inl r → zJ M n C (u.1 + Cc.1, u.2 + Cc.2) Q pc' L (r.toList ++ S) μ1) (kx : ∀ E, o = .inr E → zQX C (.inr E) μ1 = Q) : zJ M n C u Q pc L st μ := by
  intro l G R p e s m args below meth c H locs ls hf ok hR hE hw hl0 hS hz
  obtain ⟨h1, rfl⟩ := hd
  rw [z_stk0 hst]
  refine z_afterX (o := o) (μ1 := μ1) (μ := μ) (vx_runS (Ts := []) (As := av.map (rv G)) (rest := S.map (rv G)) (nL := M.2.2.1) ⟨hE.1, hE.2.1, hE.2.2.1, hE.2.2.2.2.2, fun w h => by cases h⟩ (hM l G hf ok) ⟨z_calBX ok hw hR hc hna hk hl, z_word ok hw hi rfl⟩ ⟨z_blind, fun U hU hW => ⟨rfl, hU ▸ hw.1, hw.2.1, State.WarmedH.trans hw.2.2.1 hW, hU ▸ hw.2.2.2⟩⟩ rfl (by rw [List.length_map]; exact hn) hl0.1 rfl ?_ h1 ⟨?_, ?_⟩) hw hS hz (fun r H1 locs1 ho hw1 hS1 => ?_) (fun E ce q9 H1 locs1 ho hw1 hS1 hce hcv hcl9 => ?_)
  · show 2 * 0 + _ ≤ 8
    rw [z_catS]; omega
  · rw [hR.2.2.1]; exact hu.1
  · rw [hR.2.2.2.1]; exact hu.2
  · rw [← z_ret]
    exact kk r ho l G R p e s m args below meth c H1 locs1 ls hf ok ⟨hR.1, hR.2.1, hR.2.2.1, hR.2.2.2.1, hu.1, hu.2⟩ hE hw1 hl0 hS1 hz
  · rw [← kx E ho]
    exact z_outX hE hw1 hS1 hce hcv hcl9 hu.1 hu.2
end ZX2
