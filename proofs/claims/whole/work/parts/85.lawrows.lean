/-! the law's own rows: the script, the wrappers, its end -/
abbrev mL_law : zY := (yL_law, cL_law, 7, ret)
abbrev cC : Nat × Nat := (601024, 7293034)
/-- the law comes to its end with 1 -/
def zQL (xs : Nat → Int32) (Ln : Nat) : zQT := fun _ G below args s t => (zxs G = xs ∧ zLn G = Ln ∧ zNC G ∧ s.heap.size ≤ (z0 G).heap.size) → lw_Z below args s t
theorem lw_retR {p : Program} {l : Launch} {e : Env} {R : Room} {s : State} {m : MethodId} {args : Array Value} {below : List Frame} {meth : Method} {c : Code} (hx : p.tables.exec = Jvm.exec) (hb : c.code = code) (hr : meth.sig.returnType = ret) (hlocks : meth.locks = false) {pc : Nat} {H : Heap} {ls : Array Slot} (hdg : decode code pc = .ok (.ireturn, 1)) : W p l e R s m args below meth c H [] 601024 7293034 (lw_Z below args s) (F0 m pc ls [.int 1]) := by
  intro T hT X
  obtain ⟨fs, hret, hrun, hended, hW, hframe⟩ := X.leave (v := some (.int 1)) (hlocks := hlocks) (fun h => by rw [hr] at h; cases h)
  have hmeth' : T.vm.method? m = some meth := X.method'
  refine ⟨T.setFrames fs, ?_, .returned (some (.int 1)), hrun, hended, rfl, ⟨_, rfl⟩, hW, hframe⟩
  jvm_step X.here [X.here.top, hx, hb, hdg, hmeth', hr, ret, narrow_b1]
  (try refine ⟨rfl, ?_⟩); (try refine ⟨rfl, ?_⟩)
  first | (intro acts; rw [hret _ acts rfl rfl rfl]) | rw [hret _ _ rfl rfl rfl]
  exact Steps.refl _
section LR
variable {M : zY} {n : Nat} {C u : Nat × Nat} {Q : zQT} {pc pc' tgt : Nat} {L : List (Option zV)} {S st : List zV} {μ μ1 : zM} {xs : Nat → Int32} {Ln : Nat}
theorem z_sld {i : Nat} (hd : zd M.2.1 pc .iaload 1 pc') (hi : i < Ln) (hL : Ln < 2147483648) (k : zJ M n C u (zQL xs Ln) pc' L (zi (xs i) :: S) μ) : zJ M n C u (zQL xs Ln) pc L (zi (nI i) :: zq 3 0 :: S) μ := by
  intro l G R p e s m args below meth c H locs ls hf ok hR hE hw hl hS hz
  by_cases h : zxs G = xs ∧ zLn G = Ln ∧ zNC G ∧ s.heap.size ≤ (z0 G).heap.size
  · obtain ⟨h1, rfl⟩ := hd
    obtain ⟨g1, g2, g3⟩ := zX_s ok hw hS hz
    have hin : vp_in (nI i) (zLn G) := by rw [h.2.1]; exact vp_in_nI hi hL
    refine va_sld hE.1 hE.2.1 g1 g2 g3 hS hin h1 ?_
    rw [nI_clamp (show i < 2 ^ 31 by omega), h.1]
    exact k l G R p e s m args below meth c H locs ls hf ok hR hE hw hl hS hz
  · intro T hT X
    exact ⟨_, Steps.refl _, fun z => absurd z h⟩
theorem z_slen (hd : zd M.2.1 pc .arraylength 1 pc') (k : zJ M n C u (zQL xs Ln) pc' L (zi (nI Ln) :: S) μ) : zJ M n C u (zQL xs Ln) pc L (zq 3 0 :: S) μ := by
  intro l G R p e s m args below meth c H locs ls hf ok hR hE hw hl hS hz
  by_cases h : zxs G = xs ∧ zLn G = Ln ∧ zNC G ∧ s.heap.size ≤ (z0 G).heap.size
  · obtain ⟨h1, rfl⟩ := hd
    obtain ⟨g1, g2, g3⟩ := zX_s ok hw hS hz
    refine va_slen hE.1 hE.2.1 g1 g2 g3 hS h1 ?_
    rw [h.2.1]
    exact k l G R p e s m args below meth c H locs ls hf ok hR hE hw hl hS hz
  · intro T hT X
    exact ⟨_, Steps.refl _, fun z => absurd z h⟩
theorem z_wid {u' : Nat × Nat} (h1 : u.1 ≤ u'.1 ∧ u'.1 ≤ C.1) (h2 : u.2 ≤ u'.2 ∧ u'.2 ≤ C.2) (k : zJ M n C u' Q pc L S μ) : zJ M n C u Q pc L S μ := by
  intro l G R p e s m args below meth c H locs ls hf ok hR hE hw hl hS hz
  exact W.widen h1.1 h2.1 (k l G R p e s m args below meth c H locs ls hf ok ⟨hR.1, hR.2.1, hR.2.2.1, hR.2.2.2.1, h1.2, h2.2⟩ hE hw hl hS hz)
theorem z_ifT {x : Int32} (hd : zb M.2.1 pc (.ifCond .eq) tgt pc') (h : x = 0) (k : zJ M n C u Q tgt L S μ) : zJ M n C u Q pc L (zi x :: S) μ := z_if_eq hd (fun _ => k) (fun z => absurd h z)
theorem z_ifF {x : Int32} (hd : zb M.2.1 pc (.ifCond .eq) tgt pc') (h : ¬ x = 0) (k : zJ M n C u Q pc' L S μ) : zJ M n C u Q pc L (zi x :: S) μ := z_if_eq hd (fun z => absurd z h) (fun _ => k)
theorem z_icT {x y : Int32} (hd : zb M.2.1 pc (.if_icmp .eq) tgt pc') (h : x = y) (k : zJ M n C u Q tgt L S μ) : zJ M n C u Q pc L (zi y :: zi x :: S) μ := z_icmp_eq hd (fun _ => k) (fun z => absurd h z)
theorem z_neT {x : Int32} (hd : zb M.2.1 pc (.ifCond .ne) tgt pc') (h : ¬ x = 0) (k : zJ M n C u Q tgt L S μ) : zJ M n C u Q pc L (zi x :: S) μ := z_if_ne hd (fun _ => k) (fun z => absurd z h)
theorem z_neF {x : Int32} (hd : zb M.2.1 pc (.ifCond .ne) tgt pc') (h : x = 0) (k : zJ M n C u Q pc' L S μ) : zJ M n C u Q pc L (zi x :: S) μ := z_if_ne hd (fun z => absurd h z) (fun _ => k)
theorem lg_cmp_self (x : Int64) : lg_cmp x x = 0 := by
  unfold lg_cmp
  simp
/-- a compare of two that are alike -/
theorem z_lceq {x y : Int32} {p2 : Nat} (hd : zd M.2.1 pc .lcmp 1 pc') (hb : zb M.2.1 pc' (.ifCond .eq) tgt p2) (h : x = y) (k : zJ M n C u Q tgt L S μ) : zJ M n C u Q pc L (zl y :: zl x :: S) μ := by
  subst h
  exact z_lcmp hd (z_ifT hb (lg_cmp_self _) k)
/-- a wrapper's words -/
def zcodeW (Y : zY) (hh : zHH) : Prop := Cond.codeWith Y.1 Y.2.1 Y.2.2.1 Y.2.2.2 hh ∈ lw_tbl ∧ Cond.initialized Y.1.cls ∈ lw_tbl ∧ (Y.1.cls ≠ "java/lang/invoke/MethodHandle" ∧ Y.1.cls ≠ "java/lang/invoke/VarHandle") ∧ Y.2.2.1 ≤ 21
variable {Y : zY} {kd idx na : Nat} {Cc : Nat × Nat} {av : List zV} {hh : zHH} {r : Option zV}
theorem z_callSW (hd : zd M.2.1 pc (.invokestatic idx) 3 pc') (hM : LMW Y hh kd Cc av μ r μ1) (hk : kd + 1 ≤ n) (hc : zcodeW Y hh) (hna : zinv Y na) (hl : Cond.methodLink M.1.cls idx Y.1 ∈ lw_tbl) (hi : Cond.static Y.1 ∈ lw_tbl)
    (hn : av.length = na) (hst : st = av.reverse ++ S) (h8 : zcatS S ≤ 8) (hu : u.1 + Cc.1 ≤ C.1 ∧ u.2 + Cc.2 ≤ C.2) (kk : zJ M n C (u.1 + Cc.1, u.2 + Cc.2) (zQL xs Ln) pc' L (r.toList ++ S) μ1) : zJ M n C u (zQL xs Ln) pc L st μ := by
  intro l G R p e s m args below meth c H locs ls hf ok hR hE hw hl0 hS hz
  by_cases h : zxs G = xs ∧ zLn G = Ln ∧ zNC G ∧ s.heap.size ≤ (z0 G).heap.size
  · obtain ⟨h1, rfl⟩ := hd
    rw [z_stk0 hst]
    have hR' : zRm n C (u.1 + Cc.1, u.2 + Cc.2) R := ⟨hR.1, hR.2.1, hR.2.2.1, hR.2.2.2.1, hu.1, hu.2⟩
    have r1 : (zroom kd Cc).frames + 1 ≤ R.frames := Nat.le_trans hk hR.1
    have r2 : 8 + (Y.2.2.1 + 11) + (zroom kd Cc).locals ≤ R.locals := by
      refine Nat.le_trans ?_ hR.2.1
      show 8 + (Y.2.2.1 + 11) + 40 * kd ≤ 40 * n
      have := hc.2.2.2
      omega
    have cw : vx_CSW R s args M.1.cls idx Y.1 Y.2.1 Y.2.2.1 Y.2.2.2 hh [Cond.codeWith Y.1 Y.2.1 Y.2.2.1 Y.2.2.2 hh] (zroom kd Cc) Cc.1 Cc.2 na := by
      refine ⟨⟨rfl, rfl, r1, r2, fun w hw' a' U hU => ?_, List.mem_singleton.mpr rfl⟩, z_word ok hw hc.1 rfl, z_word ok hw hc.2.1 rfl, hc.2.2.1, fun sig h => ?_, z_word ok hw hl rfl, z_word ok hw hi rfl⟩
      · cases List.mem_singleton.mp hw'
        exact word_at (State.WarmedH.trans hw.2.2.1 hU) (good_of_word rfl) (ok.2.1 _ hc.1)
      · have h2 := hna
        unfold zinv at h2
        rw [h] at h2
        exact (Option.some.inj h2).symm
    have hr := vx_runSW (Ts := []) (As := av.map (rv G)) (rest := S.map (rv G)) (nL := M.2.2.1) ⟨hE.1, hE.2.1, hE.2.2.1, hE.2.2.2.2.2, fun w h => by cases h⟩ (hM l G hf ok h.2.2.1) cw ⟨z_blind, fun U hU hW => ⟨rfl, hU ▸ hw.1, hw.2.1, State.WarmedH.trans hw.2.2.1 hW, hU ▸ hw.2.2.2⟩⟩ (g := F0 m pc ls ((av.map (rv G)).reverse ++ S.map (rv G))) (H := H) (locs := locs) (cells := u.1) (slots := u.2) (p := p) (e := e) (below := below) (meth := meth) rfl (by rw [List.length_map]; exact hn) hl0.1 rfl (by
      show 2 * 0 + _ ≤ 8
      rw [z_catS]; omega) h1 (by rw [hR.2.2.1, hR.2.2.2.1]; exact hu)
    intro T hT X
    obtain ⟨v, st₀, t, T', Lc, h0, X', hL, e1, e2, ⟨hv, hq, hsz⟩, stp⟩ := hr T hT X
    cases hv
    rw [h0] at hsz
    have hS1 : va_S (zA G) s.heap T'.heap (locs ++ Lc) := by
      refine ⟨Nat.le_trans hS.1 (e1 ▸ hsz), fun q h1 h2 => ?_, fun q hq => ?_⟩
      · rw [e1, hq.2.2.2.2.1 q (Nat.not_le.mp h2) h2, ← hw.2.2.2.2.1 q (Nat.not_le.mp h2) h2]
        exact hS.2.1 q h1 h2
      · rcases List.mem_append.mp hq with h | h
        · exact hS.2.2 q h
        · exact hL q h
    have hw1 : zWd G μ1 s T'.heap := ⟨e1 ▸ hq.1, hq.2.1, hw.2.2.1, e1 ▸ hq.2.2.2⟩
    have K := kk l G R p e s m args below meth c T'.heap (locs ++ Lc) ls hf ok hR' hE hw1 hl0 hS1 hz
    rw [z_ret] at K
    obtain ⟨t2, a1, b1⟩ := K T' rfl X'
    exact ⟨t2, stp t2 a1, b1⟩
  · intro T hT X
    exact ⟨_, Steps.refl _, fun z => absurd z h⟩
/-- the law's end -/
theorem z_lret (hd : zd cL_law pc .ireturn 1 pc') (hu : u.1 ≤ 601024 ∧ u.2 ≤ 7293034) : zJ mL_law n C u (zQL xs Ln) pc L [zi (nI 1)] μ := by
  intro l G R p e s m args below meth c H locs ls hf ok hR hE hw hl hS hz
  by_cases h : zxs G = xs ∧ zLn G = Ln ∧ zNC G ∧ s.heap.size ≤ (z0 G).heap.size
  · refine va_forget (fun q hq => Nat.le_trans h.2.2.2 (hS.2.2 q hq)) ?_
    refine W.widen hu.1 hu.2 (zW_mono (lw_retR hE.1 hE.2.1 hE.2.2.2.1 hE.2.2.2.2.1 hd.1) (fun t z _ => z))
  · intro T hT X
    exact ⟨_, Steps.refl _, fun z => absurd z h⟩
end LR
