/-! the light judgement and its rows -/
abbrev zcl : List vw_C := vwCl
def zstr : List (String × Nat × String) := [
  ("RepairTalk$Reader", 44, "node"),
  ("RepairTalk$Reader", 95, "down"),
  ("RepairTalk$Reader", 53, "link"),
  ("RepairTalk$Reader", 126, "delay"),
  ("RepairTalk$Reader", 128, "loss"),
  ("RepairTalk$Reader", 58, "request"),
  ("RepairTalk$Reader", 63, "repair"),
  ("RepairTalk$Reader", 150, "source"),
  ("RepairTalk$Reader", 154, "scope"),
  ("RepairTalk$Reader", 158, "session"),
  ("RepairTalk$Reader", 163, "rate"),
  ("RepairTalk", 67, "the text is wrong"),
  ("RepairTalk", 77, "there are 12 texts"),
  ("RepairTalk", 425, "no such node"),
  ("RepairTalk", 130, "no such thing of a node"),
  ("RepairTalk", 133, "both nodes are one"),
  ("RepairTalk", 429, "no such packet"),
  ("RepairTalk", 178, "no such thing of a node and a packet"),
  ("RepairTalk", 427, "no such link"),
  ("RepairTalk", 210, "no such thing of a link"),
  ("RepairTalk", 223, "no such message"),
  ("RepairTalk", 242, "no such thing of a message"),
  ("RepairTalk", 244, "1 to 60 ticks"),
  ("RepairTalk", 257, "the source cannot send"),
  ("RepairTalk", 272, "a loss is 0 to 100"),
  ("RepairTalk", 274, "the packet was not sent yet"),
  ("RepairTalk", 431, "a scope is 0 to 5"),
  ("RepairTalk", 324, "0 to 120 ticks ahead"),
  ("RepairTalk", 356, "0 to 20 ticks ahead"),
  ("RepairTalk", 369, "no such thing of a row"),
  ("RepairTalkModel", 156, "node"),
  ("RepairTalkModel", 123, "down"),
  ("RepairTalkModel", 162, "link"),
  ("RepairTalkModel", 145, "delay"),
  ("RepairTalkModel", 151, "loss"),
  ("RepairTalkModel", 167, "source"),
  ("RepairTalkModel", 169, "request"),
  ("RepairTalkModel", 174, "repair"),
  ("RepairTalkModel", 176, "scope"),
  ("RepairTalkModel", 178, "session"),
  ("RepairTalkModel", 180, "rate")]
def zA (G : zG) : Nat → Prop := fun q => (z0 G).heap.size ≤ q
def zOK (G : zG) : Prop :=
  va_K (zD G) zcl (zty G) (z0 G) ∧ (∀ w ∈ lw_tbl, w.before #[.ref (za G 3 0)] (z0 G) = true) ∧ (va_X (za G 3 0) (zLn G) (zxs G) (z0 G) (z0 G).heap ∧ za G 3 0 < (z0 G).heap.size) ∧
  (vx_Zq Bundle.tN "UNASSIGNED_STACK" Bundle.steD (zA G) (z0 G) (z0 G).heap ∧ vx_Zq Bundle.tN "SUPPRESSED_SENTINEL" Bundle.listD (zA G) (z0 G) (z0 G).heap) ∧
  (∀ (i : Nat) (q : String × Nat × String), zstr[i]? = some q → vk_R q.1 q.2.1 q.2.2 (za G 3 (i + 1)) (z0 G) ∧ vk_S 1 [q.2.2.length] [q.2.2.toList.map fun ch => nI ch.toNat] (fun _ => za G 3 (i + 1)) (fun _ => za G 3 (i + 1001)) (zA G) (z0 G) (z0 G).heap) ∧
  (va_Z "java/lang/String" "COMPACT_STRINGS" "Z" (.int 1) (zA G) (z0 G) (z0 G).heap ∧ va_Zq "jdk/internal/util/Preconditions" "SIOOBE_FORMATTER" "Ljava/util/function/BiFunction;" (zA G) (z0 G) (z0 G).heap)
def zWd (G : zG) (μ : zM) (U : State) (H : Heap) : Prop :=
  va_P (zD G) zcl (zWS G μ) H ∧ va_D (zA G) (zWS G μ) ∧ (z0 G).WarmedH U.vm ∧ va_S (zA G) (z0 G).heap H []
abbrev zY : Type := MethodName × ByteArray × Nat × Option FieldType
def zEnv (M : zY) (p : Program) (s : State) (m : MethodId) (meth : Method) (c : Code) : Prop :=
  p.tables.exec = Jvm.exec ∧ c.code = M.2.1 ∧ c.maxLocals = M.2.2.1 ∧ meth.sig.returnType = M.2.2.2 ∧ meth.locks = false ∧ s.vm.findClass M.1.cls = some m.cls
def zLoc (G : zG) (nL : Nat) (ls : Array Slot) (L : List (Option zV)) : Prop := ls.size = nL ∧ L.length = nL ∧ lv_wf ls ∧ ∀ (i : Nat) (v : zV), L[i]? = some (some v) → (rv G v).category = 1 ∧ ls[i]? = some (.val (rv G v))
def zRm (n : Nat) (C u : Nat × Nat) (R : Room) : Prop := n ≤ R.frames ∧ 40 * n ≤ R.locals ∧ R.cells = C.1 ∧ R.slots = C.2 ∧ u.1 ≤ C.1 ∧ u.2 ≤ C.2
abbrev zQT : Type := Code → zG → List Frame → Array Value → State → State → Prop
def zJ (M : zY) (n : Nat) (C u : Nat × Nat) (Q : zQT) (pc : Nat) (L : List (Option zV)) (S : List zV) (μ : zM) : Prop :=
  ∀ (l : Launch) (G : zG) (R : Room) (p : Program) (e : Env) (s : State) (m : MethodId) (args : Array Value) (below : List Frame) (meth : Method) (c : Code) (H : Heap) (locs : List Loc) (ls : Array Slot),
    l.flags = flags0 → zOK G → zRm n C u R → zEnv M p s m meth c → zWd G μ s H → zLoc G M.2.2.1 ls L → va_S (zA G) s.heap H locs → (z0 G).heap.size ≤ s.heap.size →
    W p l e R s m args below meth c H locs u.1 u.2 (Q c G below args s) (F0 m pc ls (S.map (rv G)))
def zPo (G : zG) (r : Option zV) (μ' : zM) : Array Value → State → Outcome → State → Prop := fun _ st oc t => oc = .returned (r.map (rv G)) ∧ zWd G μ' t t.heap ∧ st.heap.size ≤ t.heap.size
def zQ (r : Option zV) (μ' : zM) : zQT := fun _ G below args s => MQ below (zPo G r μ') args s 0 0 (zA G)
def zroom (n : Nat) (C : Nat × Nat) : Room := { frames := n, cells := C.1, slots := C.2, locals := 40 * n }
def LM (M : zY) (n : Nat) (av : List zV) (μ : zM) (r : Option zV) (μ' : zM) : Prop :=
  ∀ (l : Launch) (G : zG), l.flags = flags0 → zOK G → Met l M.1 [.code M.1 M.2.1 M.2.2.1 M.2.2.2] (zroom n (0, 0)) (va_Pc (av.map (rv G)) (fun U => zWd G μ U U.heap)) (zPo G r μ') 0 0 (zA G)
/-- an instruction at pc, its length, the next pc -/
def zd (cc : ByteArray) (pc : Nat) (i : Instr) (len pc' : Nat) : Prop := decode cc pc = .ok (i, len) ∧ pc + len = pc'
/-- .. a jump -/
def zb (cc : ByteArray) (pc : Nat) (f : Int → Instr) (tgt pc' : Nat) : Prop := ∃ off, decode cc pc = .ok (f off, 3) ∧ (pc : Int) + off = (tgt : Int) ∧ pc + 3 = pc'
/-- .. a constant, a load, a store, a step -/
def zk (cc : ByteArray) (pc : Nat) (v : Int32) (pc' : Nat) : Prop := (∃ n, decode cc pc = .ok (.iconst n, 1) ∧ Int32.ofInt n = v ∧ pc + 1 = pc') ∨ (∃ n, decode cc pc = .ok (.bipush n, 2) ∧ (Int8.ofInt n).toInt32 = v ∧ pc + 2 = pc') ∨ ∃ n, decode cc pc = .ok (.sipush n, 3) ∧ (Int16.ofInt n).toInt32 = v ∧ pc + 3 = pc'
def zil (cc : ByteArray) (pc i pc' : Nat) : Prop := (∃ k : Fin 4, decode cc pc = .ok (.iload_n k, 1) ∧ (k : Nat) = i ∧ pc + 1 = pc') ∨ (decode cc pc = .ok (.iload i, 2) ∧ pc + 2 = pc')
def zal (cc : ByteArray) (pc i pc' : Nat) : Prop := (∃ k : Fin 4, decode cc pc = .ok (.aload_n k, 1) ∧ (k : Nat) = i ∧ pc + 1 = pc') ∨ (decode cc pc = .ok (.aload i, 2) ∧ pc + 2 = pc')
def zis (cc : ByteArray) (pc i pc' : Nat) : Prop := (∃ k : Fin 4, decode cc pc = .ok (.istore_n k, 1) ∧ (k : Nat) = i ∧ pc + 1 = pc') ∨ (decode cc pc = .ok (.istore i, 2) ∧ pc + 2 = pc')
def zas (cc : ByteArray) (pc i pc' : Nat) : Prop := (∃ k : Fin 4, decode cc pc = .ok (.astore_n k, 1) ∧ (k : Nat) = i ∧ pc + 1 = pc') ∨ (decode cc pc = .ok (.astore i, 2) ∧ pc + 2 = pc')
def zii (cc : ByteArray) (pc i : Nat) (v : Int32) (pc' : Nat) : Prop := ∃ n, decode cc pc = .ok (.iinc i n, 3) ∧ Int32.ofInt n = v ∧ pc + 3 = pc'
def zrem (x y : Int32) : Int32 := x - x / y * y
def zush (x y : Int32) : Int32 := (x.toUInt32 >>> (y.toUInt32 &&& Int32.toUInt32 31)).toInt32
theorem z_word {G : zG} {μ : zM} {s : State} {H : Heap} {args : Array Value} (ok : zOK G) (hw : zWd G μ s H) {w : Cond} (hin : w ∈ lw_tbl) (hg : goodWord w = true) : w.before args s = true := word_at hw.2.2.1 (good_of_word hg) (ok.2.1 w hin)
theorem z_K {G : zG} {μ : zM} {s : State} {H : Heap} (ok : zOK G) (hw : zWd G μ s H) : va_K (zD G) zcl (zty G) s := va_K.moved hw.2.2.1.alike ok.1
theorem zWd.upd {G : zG} {μ μ' : zM} {s : State} {H H' : Heap} {locs locs' : List Loc} (hw : zWd G μ s H) (hP : va_P (zD G) zcl (zWS G μ') H') (hD : va_D (zA G) (zWS G μ')) (h0 : va_S (zA G) s.heap H locs) (hS : va_S (zA G) s.heap H' locs') (hz : (z0 G).heap.size ≤ s.heap.size) : zWd G μ' s H' :=
  ⟨hP, hD, hw.2.2.1, Nat.le_trans hz hS.1, fun q h1 h2 => by
    rw [hS.2.1 q (Nat.lt_of_lt_of_le h1 hz) h2, ← h0.2.1 q (Nat.lt_of_lt_of_le h1 hz) h2]; exact hw.2.2.2.2.1 q h1 h2, fun _ h => by cases h⟩
def zll (G : zG) : Nat → List (Option zV) → List (Nat × Value)
  | _, [] => []
  | i, none :: t => zll G (i + 1) t
  | i, some v :: t => (i, rv G v) :: zll G (i + 1) t
theorem zll_in (G : zG) : ∀ (L : List (Option zV)) (i0 j : Nat) (v : zV), L[j]? = some (some v) → (i0 + j, rv G v) ∈ zll G i0 L
  | [], i0, j, v, h => by simp at h
  | o :: t, i0, 0, v, h => by
    simp only [List.getElem?_cons_zero, Option.some.injEq] at h
    subst h
    exact List.mem_cons_self
  | none :: t, i0, j + 1, v, h => by
    rw [List.getElem?_cons_succ] at h
    rw [show i0 + (j + 1) = i0 + 1 + j by omega]
    exact zll_in G t (i0 + 1) j v h
  | some x :: t, i0, j + 1, v, h => by
    rw [List.getElem?_cons_succ] at h
    rw [show i0 + (j + 1) = i0 + 1 + j by omega]
    exact List.mem_cons_of_mem _ (zll_in G t (i0 + 1) j v h)
theorem zll_of (G : zG) : ∀ (L : List (Option zV)) (i0 : Nat) (q : Nat × Value), q ∈ zll G i0 L → ∃ (j : Nat) (v : zV), q = (i0 + j, rv G v) ∧ L[j]? = some (some v)
  | [], i0, q, h => by cases h
  | none :: t, i0, q, h => by
    obtain ⟨j, v, h1, h2⟩ := zll_of G t (i0 + 1) q h
    exact ⟨j + 1, v, by rw [h1, show i0 + (j + 1) = i0 + 1 + j by omega], h2⟩
  | some x :: t, i0, q, h => by
    rcases List.mem_cons.mp h with h | h
    · exact ⟨0, x, h, rfl⟩
    · obtain ⟨j, v, h1, h2⟩ := zll_of G t (i0 + 1) q h
      exact ⟨j + 1, v, by rw [h1, show i0 + (j + 1) = i0 + 1 + j by omega], h2⟩
theorem zLoc.has {G : zG} {nL : Nat} {ls : Array Slot} {L : List (Option zV)} (h : zLoc G nL ls L) : lv_has ls nL (zll G 0 L) := by
  refine ⟨h.1, h.2.2.1, fun q hq => ?_⟩
  obtain ⟨j, v, h1, h2⟩ := zll_of G L 0 q hq
  subst h1
  simp only [Nat.zero_add]
  exact (h.2.2.2 j v h2).2
theorem zLoc.of {G : zG} {nL i : Nat} {ls ls' : Array Slot} {L : List (Option zV)} {v : zV} (h : zLoc G nL ls L) (hi : i < nL) (hc : (rv G v).category = 1) (h' : lv_has ls' nL ((i, rv G v) :: (zll G 0 L).filter (fun q => !(q.1 == i) && !(q.1 + 1 == i && q.2.category == 2)))) : zLoc G nL ls' (L.set i (some v)) := by
  refine ⟨h'.1, by rw [List.length_set]; exact h.2.1, h'.2.1, fun j w hj => ?_⟩
  by_cases hji : j = i
  · subst hji
    rw [List.getElem?_set_self (by rw [h.2.1]; exact hi)] at hj
    cases hj
    exact ⟨hc, h'.2.2 (j, rv G v) List.mem_cons_self⟩
  · rw [List.getElem?_set_ne (fun z => hji z.symm)] at hj
    have hcw := (h.2.2.2 j w hj).1
    refine ⟨hcw, h'.2.2 (j, rv G w) (List.mem_cons_of_mem _ (List.mem_filter.mpr ⟨?_, ?_⟩))⟩
    · have := zll_in G L 0 j w hj
      rwa [Nat.zero_add] at this
    · simp [hji, hcw]
section ZR
variable {M : zY} {n : Nat} {C u : Nat × Nat} {Q : zQT} {pc pc' tgt : Nat} {L : List (Option zV)} {S : List zV} {μ : zM}
theorem z_const {v : Int32} (hd : zk M.2.1 pc v pc') (k : zJ M n C u Q pc' L (zi v :: S) μ) : zJ M n C u Q pc L S μ := by
  intro l G R p e s m args below meth c H locs ls hf ok hR hE hw hl hS hz
  have K := k l G R p e s m args below meth c H locs ls hf ok hR hE hw hl hS hz
  rcases hd with ⟨i, h1, h2, rfl⟩ | ⟨i, h1, h2, rfl⟩ | ⟨i, h1, h2, rfl⟩
  · exact lv_iconst hE.1 hE.2.1 h1 h2 K
  · exact lv_bipush hE.1 hE.2.1 h1 h2 K
  · exact lv_sipush hE.1 hE.2.1 h1 h2 K
theorem z_ldc {v : Int32} {i : Nat} (hd : zd M.2.1 pc (.ldc i) 2 pc') (hw0 : Cond.constant M.1.cls i v ∈ lw_tbl) (k : zJ M n C u Q pc' L (zi v :: S) μ) : zJ M n C u Q pc L S μ := by
  intro l G R p e s m args below meth c H locs ls hf ok hR hE hw hl hS hz
  obtain ⟨h1, rfl⟩ := hd
  exact lv_ldc hE.1 hE.2.1 hE.2.2.2.2.2 (z_word ok hw hw0 rfl) h1 (k l G R p e s m args below meth c H locs ls hf ok hR hE hw hl hS hz)
theorem z_iload {i : Nat} {x : Int32} (hd : zil M.2.1 pc i pc') (h : L[i]? = some (some (zi x))) (k : zJ M n C u Q pc' L (zi x :: S) μ) : zJ M n C u Q pc L S μ := by
  intro l G R p e s m args below meth c H locs ls hf ok hR hE hw hl hS hz
  have K := k l G R p e s m args below meth c H locs ls hf ok hR hE hw hl hS hz
  have g := (hl.2.2.2 i _ h).2
  rcases hd with ⟨i', h1, h2, rfl⟩ | ⟨h1, rfl⟩
  · exact lv_iload_n hE.1 hE.2.1 h1 h2 g K
  · exact lv_iload hE.1 hE.2.1 h1 g K
theorem z_aload {i : Nat} {j k : Nat} (hd : zal M.2.1 pc i pc') (h : L[i]? = some (some (zq j k))) (kk : zJ M n C u Q pc' L (zq j k :: S) μ) : zJ M n C u Q pc L S μ := by
  intro l G R p e s m args below meth c H locs ls hf ok hR hE hw hl hS hz
  have K := kk l G R p e s m args below meth c H locs ls hf ok hR hE hw hl hS hz
  have g := (hl.2.2.2 i _ h).2
  rcases hd with ⟨i', h1, h2, rfl⟩ | ⟨h1, rfl⟩
  · exact lv_aload_n hE.1 hE.2.1 h1 h2 g K
  · exact lv_aload hE.1 hE.2.1 h1 g K
theorem z_istore {i : Nat} {x : Int32} (hd : zis M.2.1 pc i pc') (hi : i < M.2.2.1) (k : zJ M n C u Q pc' (L.set i (some (zi x))) S μ) : zJ M n C u Q pc L (zi x :: S) μ := by
  intro l G R p e s m args below meth c H locs ls hf ok hR hE hw hl hS hz
  rcases hd with ⟨i', h1, h2, rfl⟩ | ⟨h1, rfl⟩
  · exact lv_istore_n hE.1 hE.2.1 h1 h2 hl.has hi rfl (fun ls' h' => k l G R p e s m args below meth c H locs ls' hf ok hR hE hw (hl.of hi rfl h') hS hz)
  · exact lv_istore hE.1 hE.2.1 h1 hl.has hi rfl (fun ls' h' => k l G R p e s m args below meth c H locs ls' hf ok hR hE hw (hl.of hi rfl h') hS hz)
theorem z_astore {i : Nat} {j k : Nat} (hd : zas M.2.1 pc i pc') (hi : i < M.2.2.1) (kk : zJ M n C u Q pc' (L.set i (some (zq j k))) S μ) : zJ M n C u Q pc L (zq j k :: S) μ := by
  intro l G R p e s m args below meth c H locs ls hf ok hR hE hw hl hS hz
  rcases hd with ⟨i', h1, h2, rfl⟩ | ⟨h1, rfl⟩
  · exact lv_astore_n hE.1 hE.2.1 h1 h2 hl.has hi rfl (fun ls' h' => kk l G R p e s m args below meth c H locs ls' hf ok hR hE hw (hl.of (v := zq j k) hi rfl h') hS hz)
  · exact lv_astore hE.1 hE.2.1 h1 hl.has hi rfl (fun ls' h' => kk l G R p e s m args below meth c H locs ls' hf ok hR hE hw (hl.of (v := zq j k) hi rfl h') hS hz)
theorem z_iinc {i : Nat} {x v : Int32} (hd : zii M.2.1 pc i v pc') (hi : i < M.2.2.1) (h : L[i]? = some (some (zi x))) (k : zJ M n C u Q pc' (L.set i (some (zi (x + v)))) S μ) : zJ M n C u Q pc L S μ := by
  intro l G R p e s m args below meth c H locs ls hf ok hR hE hw hl hS hz
  obtain ⟨nn, h1, h2, rfl⟩ := hd
  have hm := zll_in G L 0 i _ h
  rw [Nat.zero_add] at hm
  obtain ⟨kk, hkk⟩ := List.getElem?_of_mem hm
  exact lv_iinc hE.1 hE.2.1 h1 hl.has hkk (by rw [h2]) hi rfl (fun ls' h' => k l G R p e s m args below meth c H locs ls' hf ok hR hE hw (hl.of hi rfl h') hS hz)
theorem z_iadd {x y : Int32} (hd : zd M.2.1 pc .iadd 1 pc') (k : zJ M n C u Q pc' L (zi (x + y) :: S) μ) : zJ M n C u Q pc L (zi y :: zi x :: S) μ := by
  intro l G R p e s m args below meth c H locs ls hf ok hR hE hw hl hS hz
  obtain ⟨h1, rfl⟩ := hd
  exact lv_iadd hE.1 hE.2.1 h1 (k l G R p e s m args below meth c H locs ls hf ok hR hE hw hl hS hz)
theorem z_isub {x y : Int32} (hd : zd M.2.1 pc .isub 1 pc') (k : zJ M n C u Q pc' L (zi (x - y) :: S) μ) : zJ M n C u Q pc L (zi y :: zi x :: S) μ := by
  intro l G R p e s m args below meth c H locs ls hf ok hR hE hw hl hS hz
  obtain ⟨h1, rfl⟩ := hd
  exact lv_isub hE.1 hE.2.1 h1 (k l G R p e s m args below meth c H locs ls hf ok hR hE hw hl hS hz)
theorem z_imul {x y : Int32} (hd : zd M.2.1 pc .imul 1 pc') (k : zJ M n C u Q pc' L (zi (x * y) :: S) μ) : zJ M n C u Q pc L (zi y :: zi x :: S) μ := by
  intro l G R p e s m args below meth c H locs ls hf ok hR hE hw hl hS hz
  obtain ⟨h1, rfl⟩ := hd
  exact lv_imul hE.1 hE.2.1 h1 (k l G R p e s m args below meth c H locs ls hf ok hR hE hw hl hS hz)
theorem z_iand {x y : Int32} (hd : zd M.2.1 pc .iand 1 pc') (k : zJ M n C u Q pc' L (zi (x &&& y) :: S) μ) : zJ M n C u Q pc L (zi y :: zi x :: S) μ := by
  intro l G R p e s m args below meth c H locs ls hf ok hR hE hw hl hS hz
  obtain ⟨h1, rfl⟩ := hd
  exact lv_iand hE.1 hE.2.1 h1 (k l G R p e s m args below meth c H locs ls hf ok hR hE hw hl hS hz)
theorem z_ior {x y : Int32} (hd : zd M.2.1 pc .ior 1 pc') (k : zJ M n C u Q pc' L (zi (x ||| y) :: S) μ) : zJ M n C u Q pc L (zi y :: zi x :: S) μ := by
  intro l G R p e s m args below meth c H locs ls hf ok hR hE hw hl hS hz
  obtain ⟨h1, rfl⟩ := hd
  exact lv_ior hE.1 hE.2.1 h1 (k l G R p e s m args below meth c H locs ls hf ok hR hE hw hl hS hz)
theorem z_ixor {x y : Int32} (hd : zd M.2.1 pc .ixor 1 pc') (k : zJ M n C u Q pc' L (zi (x ^^^ y) :: S) μ) : zJ M n C u Q pc L (zi y :: zi x :: S) μ := by
  intro l G R p e s m args below meth c H locs ls hf ok hR hE hw hl hS hz
  obtain ⟨h1, rfl⟩ := hd
  exact lv_ixor hE.1 hE.2.1 h1 (k l G R p e s m args below meth c H locs ls hf ok hR hE hw hl hS hz)
theorem z_ishl {x y : Int32} (hd : zd M.2.1 pc .ishl 1 pc') (k : zJ M n C u Q pc' L (zi (x <<< (y &&& 31)) :: S) μ) : zJ M n C u Q pc L (zi y :: zi x :: S) μ := by
  intro l G R p e s m args below meth c H locs ls hf ok hR hE hw hl hS hz
  obtain ⟨h1, rfl⟩ := hd
  exact lv_ishl hE.1 hE.2.1 h1 (k l G R p e s m args below meth c H locs ls hf ok hR hE hw hl hS hz)
theorem z_ishr {x y : Int32} (hd : zd M.2.1 pc .ishr 1 pc') (k : zJ M n C u Q pc' L (zi (x >>> (y &&& 31)) :: S) μ) : zJ M n C u Q pc L (zi y :: zi x :: S) μ := by
  intro l G R p e s m args below meth c H locs ls hf ok hR hE hw hl hS hz
  obtain ⟨h1, rfl⟩ := hd
  exact lv_ishr hE.1 hE.2.1 h1 (k l G R p e s m args below meth c H locs ls hf ok hR hE hw hl hS hz)
theorem z_idiv {x y : Int32} (hd : zd M.2.1 pc .idiv 1 pc') (hne : ¬ y = 0) (k : zJ M n C u Q pc' L (zi (x / y) :: S) μ) : zJ M n C u Q pc L (zi y :: zi x :: S) μ := by
  intro l G R p e s m args below meth c H locs ls hf ok hR hE hw hl hS hz
  obtain ⟨h1, rfl⟩ := hd
  exact lv_idiv hE.1 hE.2.1 h1 hne (k l G R p e s m args below meth c H locs ls hf ok hR hE hw hl hS hz)
theorem z_irem {x y : Int32} (hd : zd M.2.1 pc .irem 1 pc') (hne : ¬ y = 0) (k : zJ M n C u Q pc' L (zi (zrem x y) :: S) μ) : zJ M n C u Q pc L (zi y :: zi x :: S) μ := by
  intro l G R p e s m args below meth c H locs ls hf ok hR hE hw hl hS hz
  obtain ⟨h1, rfl⟩ := hd
  exact lv_irem hE.1 hE.2.1 h1 hne (k l G R p e s m args below meth c H locs ls hf ok hR hE hw hl hS hz)
theorem z_iushr {x y : Int32} (hd : zd M.2.1 pc .iushr 1 pc') (k : zJ M n C u Q pc' L (zi (zush x y) :: S) μ) : zJ M n C u Q pc L (zi y :: zi x :: S) μ := by
  intro l G R p e s m args below meth c H locs ls hf ok hR hE hw hl hS hz
  obtain ⟨h1, rfl⟩ := hd
  exact lv_iushr hE.1 hE.2.1 h1 rfl (k l G R p e s m args below meth c H locs ls hf ok hR hE hw hl hS hz)
theorem z_ineg {x : Int32} (hd : zd M.2.1 pc .ineg 1 pc') (k : zJ M n C u Q pc' L (zi (-x) :: S) μ) : zJ M n C u Q pc L (zi x :: S) μ := by
  intro l G R p e s m args below meth c H locs ls hf ok hR hE hw hl hS hz
  obtain ⟨h1, rfl⟩ := hd
  exact lv_ineg hE.1 hE.2.1 h1 (k l G R p e s m args below meth c H locs ls hf ok hR hE hw hl hS hz)
theorem z_i2b {x : Int32} (hd : zd M.2.1 pc .i2b 1 pc') (k : zJ M n C u Q pc' L (zi x.toInt8.toInt32 :: S) μ) : zJ M n C u Q pc L (zi x :: S) μ := by
  intro l G R p e s m args below meth c H locs ls hf ok hR hE hw hl hS hz
  obtain ⟨h1, rfl⟩ := hd
  exact lv_i2b hE.1 hE.2.1 h1 rfl (k l G R p e s m args below meth c H locs ls hf ok hR hE hw hl hS hz)
theorem z_i2l {x : Int32} (hd : zd M.2.1 pc .i2l 1 pc') (k : zJ M n C u Q pc' L (zl x :: S) μ) : zJ M n C u Q pc L (zi x :: S) μ := by
  intro l G R p e s m args below meth c H locs ls hf ok hR hE hw hl hS hz
  obtain ⟨h1, rfl⟩ := hd
  exact lv_i2l hE.1 hE.2.1 h1 rfl (k l G R p e s m args below meth c H locs ls hf ok hR hE hw hl hS hz)
theorem z_pop {x : Int32} (hd : zd M.2.1 pc .pop 1 pc') (k : zJ M n C u Q pc' L (S) μ) : zJ M n C u Q pc L (zi x :: S) μ := by
  intro l G R p e s m args below meth c H locs ls hf ok hR hE hw hl hS hz
  obtain ⟨h1, rfl⟩ := hd
  exact lv_pop hE.1 hE.2.1 h1 rfl (k l G R p e s m args below meth c H locs ls hf ok hR hE hw hl hS hz)
theorem zcat {G : zG} {v : zV} (h : (match v with | .inr (.inr _) => false | _ => true) = true) : (rv G v).category = 1 := by
  rcases v with x | ⟨j, k⟩ | x
  · rfl
  · rfl
  · cases h
theorem z_dup {v : zV} (hd : zd M.2.1 pc .dup 1 pc') (hv : (match v with | .inr (.inr _) => false | _ => true) = true) (k : zJ M n C u Q pc' L (v :: v :: S) μ) : zJ M n C u Q pc L (v :: S) μ := by
  intro l G R p e s m args below meth c H locs ls hf ok hR hE hw hl hS hz
  obtain ⟨h1, rfl⟩ := hd
  exact lv_dup hE.1 hE.2.1 h1 (zcat hv) (k l G R p e s m args below meth c H locs ls hf ok hR hE hw hl hS hz)
theorem z_dup_x1 {v w : zV} (hd : zd M.2.1 pc .dup_x1 1 pc') (hv : (match v with | .inr (.inr _) => false | _ => true) = true) (hv2 : (match w with | .inr (.inr _) => false | _ => true) = true) (k : zJ M n C u Q pc' L (v :: w :: v :: S) μ) : zJ M n C u Q pc L (v :: w :: S) μ := by
  intro l G R p e s m args below meth c H locs ls hf ok hR hE hw hl hS hz
  obtain ⟨h1, rfl⟩ := hd
  exact lv_dup_x1 hE.1 hE.2.1 h1 (zcat hv) (zcat hv2) (k l G R p e s m args below meth c H locs ls hf ok hR hE hw hl hS hz)
theorem z_dup2 {v w : zV} (hd : zd M.2.1 pc .dup2 1 pc') (hv : (match v with | .inr (.inr _) => false | _ => true) = true) (hv2 : (match w with | .inr (.inr _) => false | _ => true) = true) (k : zJ M n C u Q pc' L (v :: w :: v :: w :: S) μ) : zJ M n C u Q pc L (v :: w :: S) μ := by
  intro l G R p e s m args below meth c H locs ls hf ok hR hE hw hl hS hz
  obtain ⟨h1, rfl⟩ := hd
  exact lv_dup2_11 hE.1 hE.2.1 h1 (zcat hv) (zcat hv2) (k l G R p e s m args below meth c H locs ls hf ok hR hE hw hl hS hz)
theorem z_if_eq {x : Int32} (hd : zb M.2.1 pc (.ifCond .eq) tgt pc') (kt : x = 0 → zJ M n C u Q tgt L S μ) (kf : ¬ (x = 0) → zJ M n C u Q pc' L S μ) : zJ M n C u Q pc L (zi x :: S) μ := by
  intro l G R p e s m args below meth c H locs ls hf ok hR hE hw hl hS hz
  obtain ⟨off, h1, h2, rfl⟩ := hd
  exact lv_if_eq hE.1 hE.2.1 h1 h2 (fun q => kt q l G R p e s m args below meth c H locs ls hf ok hR hE hw hl hS hz) (fun q => kf q l G R p e s m args below meth c H locs ls hf ok hR hE hw hl hS hz)
theorem z_icmp_eq {x y : Int32} (hd : zb M.2.1 pc (.if_icmp .eq) tgt pc') (kt : x = y → zJ M n C u Q tgt L S μ) (kf : ¬ (x = y) → zJ M n C u Q pc' L S μ) : zJ M n C u Q pc L (zi y :: zi x :: S) μ := by
  intro l G R p e s m args below meth c H locs ls hf ok hR hE hw hl hS hz
  obtain ⟨off, h1, h2, rfl⟩ := hd
  exact lv_icmp_eq hE.1 hE.2.1 h1 h2 (fun q => kt q l G R p e s m args below meth c H locs ls hf ok hR hE hw hl hS hz) (fun q => kf q l G R p e s m args below meth c H locs ls hf ok hR hE hw hl hS hz)
theorem z_if_ne {x : Int32} (hd : zb M.2.1 pc (.ifCond .ne) tgt pc') (kt : ¬ x = 0 → zJ M n C u Q tgt L S μ) (kf : x = 0 → zJ M n C u Q pc' L S μ) : zJ M n C u Q pc L (zi x :: S) μ := by
  intro l G R p e s m args below meth c H locs ls hf ok hR hE hw hl hS hz
  obtain ⟨off, h1, h2, rfl⟩ := hd
  exact lv_if_ne hE.1 hE.2.1 h1 h2 (fun q => kt q l G R p e s m args below meth c H locs ls hf ok hR hE hw hl hS hz) (fun q => kf q l G R p e s m args below meth c H locs ls hf ok hR hE hw hl hS hz)
theorem z_icmp_ne {x y : Int32} (hd : zb M.2.1 pc (.if_icmp .ne) tgt pc') (kt : ¬ x = y → zJ M n C u Q tgt L S μ) (kf : x = y → zJ M n C u Q pc' L S μ) : zJ M n C u Q pc L (zi y :: zi x :: S) μ := by
  intro l G R p e s m args below meth c H locs ls hf ok hR hE hw hl hS hz
  obtain ⟨off, h1, h2, rfl⟩ := hd
  exact lv_icmp_ne hE.1 hE.2.1 h1 h2 (fun q => kt q l G R p e s m args below meth c H locs ls hf ok hR hE hw hl hS hz) (fun q => kf q l G R p e s m args below meth c H locs ls hf ok hR hE hw hl hS hz)
theorem z_if_lt {x : Int32} (hd : zb M.2.1 pc (.ifCond .lt) tgt pc') (kt : x < 0 → zJ M n C u Q tgt L S μ) (kf : ¬ (x < 0) → zJ M n C u Q pc' L S μ) : zJ M n C u Q pc L (zi x :: S) μ := by
  intro l G R p e s m args below meth c H locs ls hf ok hR hE hw hl hS hz
  obtain ⟨off, h1, h2, rfl⟩ := hd
  exact lv_if_lt hE.1 hE.2.1 h1 h2 (fun q => kt q l G R p e s m args below meth c H locs ls hf ok hR hE hw hl hS hz) (fun q => kf q l G R p e s m args below meth c H locs ls hf ok hR hE hw hl hS hz)
theorem z_icmp_lt {x y : Int32} (hd : zb M.2.1 pc (.if_icmp .lt) tgt pc') (kt : x < y → zJ M n C u Q tgt L S μ) (kf : ¬ (x < y) → zJ M n C u Q pc' L S μ) : zJ M n C u Q pc L (zi y :: zi x :: S) μ := by
  intro l G R p e s m args below meth c H locs ls hf ok hR hE hw hl hS hz
  obtain ⟨off, h1, h2, rfl⟩ := hd
  exact lv_icmp_lt hE.1 hE.2.1 h1 h2 (fun q => kt q l G R p e s m args below meth c H locs ls hf ok hR hE hw hl hS hz) (fun q => kf q l G R p e s m args below meth c H locs ls hf ok hR hE hw hl hS hz)
theorem z_if_ge {x : Int32} (hd : zb M.2.1 pc (.ifCond .ge) tgt pc') (kt : 0 ≤ x → zJ M n C u Q tgt L S μ) (kf : ¬ (0 ≤ x) → zJ M n C u Q pc' L S μ) : zJ M n C u Q pc L (zi x :: S) μ := by
  intro l G R p e s m args below meth c H locs ls hf ok hR hE hw hl hS hz
  obtain ⟨off, h1, h2, rfl⟩ := hd
  exact lv_if_ge hE.1 hE.2.1 h1 h2 (fun q => kt q l G R p e s m args below meth c H locs ls hf ok hR hE hw hl hS hz) (fun q => kf q l G R p e s m args below meth c H locs ls hf ok hR hE hw hl hS hz)
theorem z_icmp_ge {x y : Int32} (hd : zb M.2.1 pc (.if_icmp .ge) tgt pc') (kt : y ≤ x → zJ M n C u Q tgt L S μ) (kf : ¬ (y ≤ x) → zJ M n C u Q pc' L S μ) : zJ M n C u Q pc L (zi y :: zi x :: S) μ := by
  intro l G R p e s m args below meth c H locs ls hf ok hR hE hw hl hS hz
  obtain ⟨off, h1, h2, rfl⟩ := hd
  exact lv_icmp_ge hE.1 hE.2.1 h1 h2 (fun q => kt q l G R p e s m args below meth c H locs ls hf ok hR hE hw hl hS hz) (fun q => kf q l G R p e s m args below meth c H locs ls hf ok hR hE hw hl hS hz)
theorem z_if_gt {x : Int32} (hd : zb M.2.1 pc (.ifCond .gt) tgt pc') (kt : 0 < x → zJ M n C u Q tgt L S μ) (kf : ¬ (0 < x) → zJ M n C u Q pc' L S μ) : zJ M n C u Q pc L (zi x :: S) μ := by
  intro l G R p e s m args below meth c H locs ls hf ok hR hE hw hl hS hz
  obtain ⟨off, h1, h2, rfl⟩ := hd
  exact lv_if_gt hE.1 hE.2.1 h1 h2 (fun q => kt q l G R p e s m args below meth c H locs ls hf ok hR hE hw hl hS hz) (fun q => kf q l G R p e s m args below meth c H locs ls hf ok hR hE hw hl hS hz)
theorem z_icmp_gt {x y : Int32} (hd : zb M.2.1 pc (.if_icmp .gt) tgt pc') (kt : y < x → zJ M n C u Q tgt L S μ) (kf : ¬ (y < x) → zJ M n C u Q pc' L S μ) : zJ M n C u Q pc L (zi y :: zi x :: S) μ := by
  intro l G R p e s m args below meth c H locs ls hf ok hR hE hw hl hS hz
  obtain ⟨off, h1, h2, rfl⟩ := hd
  exact lv_icmp_gt hE.1 hE.2.1 h1 h2 (fun q => kt q l G R p e s m args below meth c H locs ls hf ok hR hE hw hl hS hz) (fun q => kf q l G R p e s m args below meth c H locs ls hf ok hR hE hw hl hS hz)
theorem z_if_le {x : Int32} (hd : zb M.2.1 pc (.ifCond .le) tgt pc') (kt : x ≤ 0 → zJ M n C u Q tgt L S μ) (kf : ¬ (x ≤ 0) → zJ M n C u Q pc' L S μ) : zJ M n C u Q pc L (zi x :: S) μ := by
  intro l G R p e s m args below meth c H locs ls hf ok hR hE hw hl hS hz
  obtain ⟨off, h1, h2, rfl⟩ := hd
  exact lv_if_le hE.1 hE.2.1 h1 h2 (fun q => kt q l G R p e s m args below meth c H locs ls hf ok hR hE hw hl hS hz) (fun q => kf q l G R p e s m args below meth c H locs ls hf ok hR hE hw hl hS hz)
theorem z_icmp_le {x y : Int32} (hd : zb M.2.1 pc (.if_icmp .le) tgt pc') (kt : x ≤ y → zJ M n C u Q tgt L S μ) (kf : ¬ (x ≤ y) → zJ M n C u Q pc' L S μ) : zJ M n C u Q pc L (zi y :: zi x :: S) μ := by
  intro l G R p e s m args below meth c H locs ls hf ok hR hE hw hl hS hz
  obtain ⟨off, h1, h2, rfl⟩ := hd
  exact lv_icmp_le hE.1 hE.2.1 h1 h2 (fun q => kt q l G R p e s m args below meth c H locs ls hf ok hR hE hw hl hS hz) (fun q => kf q l G R p e s m args below meth c H locs ls hf ok hR hE hw hl hS hz)
theorem z_goto (hd : zb M.2.1 pc .goto tgt pc') (k : zJ M n C u Q tgt L S μ) : zJ M n C u Q pc L S μ := by
  intro l G R p e s m args below meth c H locs ls hf ok hR hE hw hl hS hz
  obtain ⟨off, h1, h2, rfl⟩ := hd
  exact lv_goto hE.1 hE.2.1 h1 h2 (k l G R p e s m args below meth c H locs ls hf ok hR hE hw hl hS hz)
theorem z_tabOut {dflt lo hi : Int} {offs : Array Int} {len : Nat} {x : Int32} (hd : decode M.2.1 pc = .ok (.tableswitch dflt lo hi offs, len)) (ht : (pc : Int) + dflt = (tgt : Int)) (h : x.toInt < lo ∨ hi < x.toInt) (k : zJ M n C u Q tgt L S μ) : zJ M n C u Q pc L (zi x :: S) μ := by
  intro l G R p e s m args below meth c H locs ls hf ok hR hE hw hl hS hz
  exact lv_tableOut hE.1 hE.2.1 hd h ht (k l G R p e s m args below meth c H locs ls hf ok hR hE hw hl hS hz)
theorem z_tabIn {dflt lo hi off : Int} {offs : Array Int} {len : Nat} {x : Int32} (hd : decode M.2.1 pc = .ok (.tableswitch dflt lo hi offs, len)) (h1 : ¬ x.toInt < lo) (h2 : ¬ hi < x.toInt) (ho : offs[(x.toInt - lo).toNat]? = some off) (ht : (pc : Int) + off = (tgt : Int)) (k : zJ M n C u Q tgt L S μ) : zJ M n C u Q pc L (zi x :: S) μ := by
  intro l G R p e s m args below meth c H locs ls hf ok hR hE hw hl hS hz
  exact lv_tableIn hE.1 hE.2.1 hd h1 h2 ho ht (k l G R p e s m args below meth c H locs ls hf ok hR hE hw hl hS hz)
theorem z_lcmp {x y : Int32} (hd : zd M.2.1 pc .lcmp 1 pc') (k : zJ M n C u Q pc' L (zi (lg_cmp x.toInt64 y.toInt64) :: S) μ) : zJ M n C u Q pc L (zl y :: zl x :: S) μ := by
  intro l G R p e s m args below meth c H locs ls hf ok hR hE hw hl hS hz
  obtain ⟨h1, rfl⟩ := hd
  exact W.lcmp hE.1 hE.2.1 h1 (k l G R p e s m args below meth c H locs ls hf ok hR hE hw hl hS hz)
theorem z_lconst {v : Int32} {k : Fin 2} (hd : zd M.2.1 pc (.lconst k) 1 pc') (hv : Int64.ofNat (k : Nat) = v.toInt64) (kk : zJ M n C u Q pc' L (zl v :: S) μ) : zJ M n C u Q pc L S μ := by
  intro l G R p e s m args below meth c H locs ls hf ok hR hE hw hl hS hz
  obtain ⟨h1, rfl⟩ := hd
  exact lv_lconst hE.1 hE.2.1 h1 hv (kk l G R p e s m args below meth c H locs ls hf ok hR hE hw hl hS hz)
end ZR
