/-! calls, behind which the callee's world stands at the end -/
theorem nd_range' : ∀ (n s : Nat), va_nd (List.range' s n) = true
  | 0, _ => rfl
  | n + 1, s => by
    rw [List.range'_succ]
    unfold va_nd
    rw [nd_range' n (s + 1)]
    have : s ∉ List.range' (s + 1) n := fun h => by
      rw [List.mem_range'_1] at h
      omega
    simp [this]
theorem nd_range (n : Nat) : va_nd (List.range n) = true := by rw [List.range_eq_range']; exact nd_range' n 0
theorem at_range {α : Type} (w : List α) (x : List α) : (List.range w.length).map (fun i => (w ++ x)[i]?) = w.map some := by
  apply List.ext_getElem?
  intro i
  rw [List.getElem?_map, List.getElem?_map]
  rcases Nat.lt_or_ge i w.length with h | h
  · rw [List.getElem?_range h]
    show some ((w ++ x)[i]?) = _
    rw [List.getElem?_append_left h, List.getElem?_eq_getElem h]
    rfl
  · rw [List.getElem?_eq_none (by simpa using h), List.getElem?_eq_none h]
    rfl
theorem fm_some {α β : Type} {f : α → Option β} {l : List α} {w : List β} (h : l.map f = w.map some) : l.filterMap f = w := by
  have := congrArg (List.filterMap id) h
  simpa [List.filterMap_map] using this
section CL
variable {G : zG} {A : Nat → Prop} {sz : Nat} {M : zY} {n : Nat} {C u : Nat × Nat} {Q : cQT} {pc pc' tgt : Nat} {L : List (Nat × Value)} {S st : List Value} {ws : va_W}
variable {y : MethodName} {bb : ByteArray} {nl : Nat} {ret : Option FieldType} {kd idx na : Nat} {Cc : Nat × Nat} {post : Option Value → va_W → Prop}
theorem c_blind {av : List Value} {sz : Nat} {wc : va_W} : FrameBlind (va_Pc av (fun U => U.heap.size = sz ∧ (z0 G).WarmedH U.vm ∧ va_P (zD G) zcl wc U.heap ∧ va_D (fun _ => True) wc)) := fun a U g mk q => ⟨q.1, q.2.1, State.WarmedH.trans q.2.2.1 (State.WarmedH.refl U), q.2.2.2⟩
theorem c_code {s : State} (ok : zOK G) (hw : (z0 G).WarmedH s.vm) (hc : zcode (y, bb, nl, ret)) : (∀ w ∈ [Cond.code y bb nl ret], ∀ (a' : Array Value) (U : State), s.WarmedH U.vm → w.before a' U = true) := by
  intro w hw' a' U hU
  cases List.mem_singleton.mp hw'
  exact word_at (State.WarmedH.trans hw hU) (good_of_word rfl) (ok.2.1 _ hc.1)
theorem c_callI {b : Nat} {As : List Value} {wc wr : va_W} (hd : zd M.2.1 pc (.invokespecial idx) 3 pc') (ok : zOK G) (hA : ∀ q, sz ≤ q → A q) (hM : CM G (y, bb, nl, none) kd Cc (.ref b :: As) wc post) (hk : kd + 1 ≤ n) (hc : zcode (y, bb, nl, none)) (hna : zinv (y, bb, nl, none) na) (hl : Cond.methodLink M.1.cls idx y ∈ lw_tbl) (hi : Cond.instanceMethod y ∈ lw_tbl) (hy : y.name = "<init>") (hn : As.length = na) (hst : st = As.reverse ++ .ref b :: S) (h8 : (S.map fun v => v.category).sum ≤ 8) (isC isR : List Nat) (hC : isC.map (fun i => ws[i]?) = wc.map some) (hR0 : isR.map (fun i => ws[i]?) = wr.map some) (hnC : va_nd isC = true) (hnR : va_nd isR = true) (hdis : ∀ i ∈ isR, i ∉ isC) (hu : u.1 + Cc.1 ≤ C.1 ∧ u.2 + Cc.2 ≤ C.2) (kk : ∀ r w1, post r w1 → cJ G A sz M n C (u.1 + Cc.1, u.2 + Cc.2) Q pc' L (r.toList ++ S) (wr ++ w1)) : cJ G A sz M n C u Q pc L st ws := by
  subst hst
  intro l R p e s m args below meth c H locs ls hf hR hE hn1 hz hw hP hD hl0 hS
  obtain ⟨h1, rfl⟩ := hd
  obtain ⟨r1, r2⟩ := c_room (Cc := Cc) (Y := (y, bb, nl, none)) hR hk hc.2.2.2
  have hPc := hP.sub isC (fm_some hC)
  have hDc : va_D (fun _ => True) wc := (hD.sub isC hnC hC).weaken (fun _ _ _ _ => trivial)
  have hr := va_runI (Ts := []) (As := As) (rest := S) (nL := M.2.2.1) (b := b) (g := F0 m pc ls (As.reverse ++ .ref b :: S)) (H := H) (locs := locs) (cells := u.1) (slots := u.2) (p := p) (e := e) (below := below) (meth := meth) (R := R) (args := args) (index := idx) (n := na) (rm := zroom kd Cc) (mc := Cc.1) (ms := Cc.2) ⟨hE.1, hE.2.1, hE.2.2.1, hE.2.2.2.2.2, fun w h => by cases h⟩ (hM l H.size hf) ⟨⟨rfl, rfl, r1, r2, c_code ok hw hc, List.mem_singleton.mpr rfl, c_word ok hw hc.1 rfl, c_word ok hw hc.2.1 rfl, hc.2.2.1, fun sig h => c_inv hna sig h, c_word ok hw hl rfl⟩, hy, c_word ok hw hi rfl⟩ ⟨c_blind, fun U hU hW => ⟨rfl, by rw [hU], State.WarmedH.trans hw hW, by rw [hU]; exact hPc, hDc⟩⟩ rfl hn hl0.1 rfl (by show 2 * 0 + _ ≤ 8; omega) h1 (by rw [hR.2.2.1, hR.2.2.2.1]; exact hu)
  exact c_after hr hP hD hS (fun q h => hA q (by rw [← hz]; exact h)) isC isR hC hR0 hnR hdis (fun r w1 H1 locs1 hp hP1 hD1 hS1 => kk r w1 hp l R p e s m args below meth c H1 locs1 ls hf ⟨hR.1, hR.2.1, hR.2.2.1, hR.2.2.2.1, hu.1, hu.2⟩ hE hn1 hz hw hP1 hD1 hl0 hS1)
theorem c_callIN {b : Nat} {host : String} {As : List Value} {wc wr : va_W} (hd : zd M.2.1 pc (.invokespecial idx) 3 pc') (ok : zOK G) (hA : ∀ q, sz ≤ q → A q) (hM : CM G (y, bb, nl, none) kd Cc (.ref b :: As) wc post) (hk : kd + 1 ≤ n) (hc : zcode (y, bb, nl, none)) (hna : zinv (y, bb, nl, none) na) (hl : Cond.methodLinkNest M.1.cls idx y host ∈ lw_tbl) (hi : Cond.instanceMethod y ∈ lw_tbl) (hy : y.name = "<init>") (hn : As.length = na) (hst : st = As.reverse ++ .ref b :: S) (h8 : (S.map fun v => v.category).sum ≤ 8) (isC isR : List Nat) (hC : isC.map (fun i => ws[i]?) = wc.map some) (hR0 : isR.map (fun i => ws[i]?) = wr.map some) (hnC : va_nd isC = true) (hnR : va_nd isR = true) (hdis : ∀ i ∈ isR, i ∉ isC) (hu : u.1 + Cc.1 ≤ C.1 ∧ u.2 + Cc.2 ≤ C.2) (kk : ∀ r w1, post r w1 → cJ G A sz M n C (u.1 + Cc.1, u.2 + Cc.2) Q pc' L (r.toList ++ S) (wr ++ w1)) : cJ G A sz M n C u Q pc L st ws := by
  subst hst
  intro l R p e s m args below meth c H locs ls hf hR hE hn1 hz hw hP hD hl0 hS
  obtain ⟨h1, rfl⟩ := hd
  obtain ⟨r1, r2⟩ := c_room (Cc := Cc) (Y := (y, bb, nl, none)) hR hk hc.2.2.2
  have hPc := hP.sub isC (fm_some hC)
  have hDc : va_D (fun _ => True) wc := (hD.sub isC hnC hC).weaken (fun _ _ _ _ => trivial)
  have hr := va_runIN (Ts := []) (As := As) (rest := S) (nL := M.2.2.1) (b := b) (g := F0 m pc ls (As.reverse ++ .ref b :: S)) (H := H) (locs := locs) (cells := u.1) (slots := u.2) (p := p) (e := e) (below := below) (meth := meth) (R := R) (args := args) (index := idx) (n := na) (rm := zroom kd Cc) (mc := Cc.1) (ms := Cc.2) ⟨hE.1, hE.2.1, hE.2.2.1, hE.2.2.2.2.2, fun w h => by cases h⟩ (hM l H.size hf) ⟨⟨⟨rfl, rfl, r1, r2, c_code ok hw hc, List.mem_singleton.mpr rfl⟩, c_word ok hw hc.1 rfl, c_word ok hw hc.2.1 rfl, hc.2.2.1, fun sig h => c_inv hna sig h, va_Nw.use rfl (va_Nw.warmM hw (va_Nw.of rfl (ok.2.1 _ hl)))⟩, hy, c_word ok hw hi rfl⟩ ⟨c_blind, fun U hU hW => ⟨rfl, by rw [hU], State.WarmedH.trans hw hW, by rw [hU]; exact hPc, hDc⟩⟩ rfl hn hl0.1 rfl (by show 2 * 0 + _ ≤ 8; omega) h1 (by rw [hR.2.2.1, hR.2.2.2.1]; exact hu)
  exact c_after hr hP hD hS (fun q h => hA q (by rw [← hz]; exact h)) isC isR hC hR0 hnR hdis (fun r w1 H1 locs1 hp hP1 hD1 hS1 => kk r w1 hp l R p e s m args below meth c H1 locs1 ls hf ⟨hR.1, hR.2.1, hR.2.2.1, hR.2.2.2.1, hu.1, hu.2⟩ hE hn1 hz hw hP1 hD1 hl0 hS1)
theorem c_callS {As : List Value} {wc wr : va_W} (hd : zd M.2.1 pc (.invokestatic idx) 3 pc') (ok : zOK G) (hA : ∀ q, sz ≤ q → A q) (hM : CM G (y, bb, nl, ret) kd Cc As wc post) (hk : kd + 1 ≤ n) (hc : zcode (y, bb, nl, ret)) (hna : zinv (y, bb, nl, ret) na) (hl : Cond.methodLink M.1.cls idx y ∈ lw_tbl) (hi : Cond.static y ∈ lw_tbl) (hn : As.length = na) (hst : st = As.reverse ++ S) (h8 : (S.map fun v => v.category).sum ≤ 8) (isC isR : List Nat) (hC : isC.map (fun i => ws[i]?) = wc.map some) (hR0 : isR.map (fun i => ws[i]?) = wr.map some) (hnC : va_nd isC = true) (hnR : va_nd isR = true) (hdis : ∀ i ∈ isR, i ∉ isC) (hu : u.1 + Cc.1 ≤ C.1 ∧ u.2 + Cc.2 ≤ C.2) (kk : ∀ r w1, post r w1 → cJ G A sz M n C (u.1 + Cc.1, u.2 + Cc.2) Q pc' L (r.toList ++ S) (wr ++ w1)) : cJ G A sz M n C u Q pc L st ws := by
  subst hst
  intro l R p e s m args below meth c H locs ls hf hR hE hn1 hz hw hP hD hl0 hS
  obtain ⟨h1, rfl⟩ := hd
  obtain ⟨r1, r2⟩ := c_room (Cc := Cc) (Y := (y, bb, nl, ret)) hR hk hc.2.2.2
  have hPc := hP.sub isC (fm_some hC)
  have hDc : va_D (fun _ => True) wc := (hD.sub isC hnC hC).weaken (fun _ _ _ _ => trivial)
  have hr := va_runS (Ts := []) (As := As) (rest := S) (nL := M.2.2.1) (g := F0 m pc ls (As.reverse ++ S)) (H := H) (locs := locs) (cells := u.1) (slots := u.2) (p := p) (e := e) (below := below) (meth := meth) (R := R) (args := args) (index := idx) (n := na) (rm := zroom kd Cc) (mc := Cc.1) (ms := Cc.2) ⟨hE.1, hE.2.1, hE.2.2.1, hE.2.2.2.2.2, fun w h => by cases h⟩ (hM l H.size hf) ⟨⟨rfl, rfl, r1, r2, c_code ok hw hc, List.mem_singleton.mpr rfl, c_word ok hw hc.1 rfl, c_word ok hw hc.2.1 rfl, hc.2.2.1, fun sig h => c_inv hna sig h, c_word ok hw hl rfl⟩, c_word ok hw hi rfl⟩ ⟨c_blind, fun U hU hW => ⟨rfl, by rw [hU], State.WarmedH.trans hw hW, by rw [hU]; exact hPc, hDc⟩⟩ rfl hn hl0.1 rfl (by show 2 * 0 + _ ≤ 8; omega) h1 (by rw [hR.2.2.1, hR.2.2.2.1]; exact hu)
  exact c_after hr hP hD hS (fun q h => hA q (by rw [← hz]; exact h)) isC isR hC hR0 hnR hdis (fun r w1 H1 locs1 hp hP1 hD1 hS1 => kk r w1 hp l R p e s m args below meth c H1 locs1 ls hf ⟨hR.1, hR.2.1, hR.2.2.1, hR.2.2.2.1, hu.1, hu.2⟩ hE hn1 hz hw hP1 hD1 hl0 hS1)
theorem c_callSN {host : String} {As : List Value} {wc wr : va_W} (hd : zd M.2.1 pc (.invokestatic idx) 3 pc') (ok : zOK G) (hA : ∀ q, sz ≤ q → A q) (hM : CM G (y, bb, nl, ret) kd Cc As wc post) (hk : kd + 1 ≤ n) (hc : zcode (y, bb, nl, ret)) (hna : zinv (y, bb, nl, ret) na) (hl : Cond.methodLinkNest M.1.cls idx y host ∈ lw_tbl) (hi : Cond.static y ∈ lw_tbl) (hn : As.length = na) (hst : st = As.reverse ++ S) (h8 : (S.map fun v => v.category).sum ≤ 8) (isC isR : List Nat) (hC : isC.map (fun i => ws[i]?) = wc.map some) (hR0 : isR.map (fun i => ws[i]?) = wr.map some) (hnC : va_nd isC = true) (hnR : va_nd isR = true) (hdis : ∀ i ∈ isR, i ∉ isC) (hu : u.1 + Cc.1 ≤ C.1 ∧ u.2 + Cc.2 ≤ C.2) (kk : ∀ r w1, post r w1 → cJ G A sz M n C (u.1 + Cc.1, u.2 + Cc.2) Q pc' L (r.toList ++ S) (wr ++ w1)) : cJ G A sz M n C u Q pc L st ws := by
  subst hst
  intro l R p e s m args below meth c H locs ls hf hR hE hn1 hz hw hP hD hl0 hS
  obtain ⟨h1, rfl⟩ := hd
  obtain ⟨r1, r2⟩ := c_room (Cc := Cc) (Y := (y, bb, nl, ret)) hR hk hc.2.2.2
  have hPc := hP.sub isC (fm_some hC)
  have hDc : va_D (fun _ => True) wc := (hD.sub isC hnC hC).weaken (fun _ _ _ _ => trivial)
  have hr := va_runSN (Ts := []) (As := As) (rest := S) (nL := M.2.2.1) (g := F0 m pc ls (As.reverse ++ S)) (H := H) (locs := locs) (cells := u.1) (slots := u.2) (p := p) (e := e) (below := below) (meth := meth) (R := R) (args := args) (index := idx) (n := na) (rm := zroom kd Cc) (mc := Cc.1) (ms := Cc.2) ⟨hE.1, hE.2.1, hE.2.2.1, hE.2.2.2.2.2, fun w h => by cases h⟩ (hM l H.size hf) ⟨⟨⟨rfl, rfl, r1, r2, c_code ok hw hc, List.mem_singleton.mpr rfl⟩, c_word ok hw hc.1 rfl, c_word ok hw hc.2.1 rfl, hc.2.2.1, fun sig h => c_inv hna sig h, va_Nw.use rfl (va_Nw.warmM hw (va_Nw.of rfl (ok.2.1 _ hl)))⟩, c_word ok hw hi rfl, trivial⟩ ⟨c_blind, fun U hU hW => ⟨rfl, by rw [hU], State.WarmedH.trans hw hW, by rw [hU]; exact hPc, hDc⟩⟩ rfl hn hl0.1 rfl (by show 2 * 0 + _ ≤ 8; omega) h1 (by rw [hR.2.2.1, hR.2.2.2.1]; exact hu)
  exact c_after hr hP hD hS (fun q h => hA q (by rw [← hz]; exact h)) isC isR hC hR0 hnR hdis (fun r w1 H1 locs1 hp hP1 hD1 hS1 => kk r w1 hp l R p e s m args below meth c H1 locs1 ls hf ⟨hR.1, hR.2.1, hR.2.2.1, hR.2.2.2.1, hu.1, hu.2⟩ hE hn1 hz hw hP1 hD1 hl0 hS1)
/-- the same world otherwise told -/
theorem c_same {ws1 : va_W} (h1 : ∀ H, va_P (zD G) zcl ws H → va_P (zD G) zcl ws1 H) (h2 : va_D A ws → va_D A ws1) (k : cJ G A sz M n C u Q pc L S ws1) : cJ G A sz M n C u Q pc L S ws := by
  intro l R p e s m args below meth c H locs ls hf hR hE hn hz hw hP hD hl hS
  exact k l R p e s m args below meth c H locs ls hf hR hE hn hz hw (h1 H hP) (h2 hD) hl hS
theorem c_sub {ws1 : va_W} (is : List Nat) (h1 : is.map (fun i => ws[i]?) = ws1.map some) (h2 : va_nd is = true) (k : cJ G A sz M n C u Q pc L S ws1) : cJ G A sz M n C u Q pc L S ws :=
  c_same (fun _ hP => hP.sub is (fm_some h1)) (fun hD => hD.sub is h2 h1) k
end CL
