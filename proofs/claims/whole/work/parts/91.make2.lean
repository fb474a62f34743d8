section CK
variable {G : zG} {A : Nat → Prop} {sz : Nat} {M : zY} {n : Nat} {C u : Nat × Nat} {Q : cQT} {pc pc' tgt : Nat} {L : List (Nat × Value)} {S : List Value} {ws : va_W}
theorem c_newai {x : Int32} {N : Nat} (hd : zd M.2.1 pc (.newarray .int) 2 pc') (ok : zOK G) (hA : ∀ q, sz ≤ q → A q) (hw0 : Cond.arrayClass .int ∈ lw_tbl) (hx : x = nI N) (hN : N < 10000) (hu : u.1 + 1 ≤ C.1 ∧ u.2 + N ≤ C.2) (kk : ∀ q, cJ G A sz M n C (u.1 + 1, u.2 + N) Q pc' L (.ref q :: S) (ws ++ [(q, .inl (zc G 0, N, .inl fun _ => 0))])) : cJ G A sz M n C u Q pc L (.int x :: S) ws := by
  subst hx
  intro l R p e s m args below meth c H locs ls hf hR hE hn hz hw hP hD hl hS
  obtain ⟨h1, rfl⟩ := hd
  have hNN : (nI N).toNatClampNeg = N := nI_clamp (by omega)
  refine va_newaK hE.1 hE.2.1 (atype := .int) (c_word ok hw hw0 rfl) (g := F0 m pc ls (.int (nI N) :: S)) rfl h1 rfl (nI_pos (by omega)) hNN (by show N * 4 ≤ 536870912; omega) (by rw [hR.2.2.1]; exact hu.1) (by rw [hR.2.2.2.1]; exact hu.2) rfl fun H1 cA e1 z1 o1 hAr hNm => ?_
  have hc : cA = zc G 0 := Option.some.inj (hNm.symm.trans ((va_K.moved hw.alike ok.1).2 0 (zc G 0, .int) rfl).2)
  subst hc
  have hk : ∀ (k : Nat) (x : Nat × va_E), ws[k]? = some x → H1[x.1]? = H[x.1]? := fun k x hx => o1 x.1 ((hP k x hx).lt)
  refine kk H.size l R p e s m args below meth c H1 locs ls hf ⟨hR.1, hR.2.1, hR.2.2.1, hR.2.2.2.1, hu.1, hu.2⟩ hE hn hz hw ((hP.kept hk).app (fun k x hx => ?_)) (hD.push hP rfl (hA _ (by rw [← hz]; exact hS.1))) hl ⟨Nat.le_trans hS.1 (by omega), fun x h1 h2 => (o1 x (Nat.lt_of_lt_of_le h1 hS.1)).trans (hS.2.1 x h1 h2), hS.2.2⟩
  have hz1 : k < 1 := (List.getElem?_eq_some_iff.mp hx).1
  rw [show k = 0 by omega] at hx
  cases hx
  exact e1
theorem c_newab {x : Int32} {N : Nat} (hd : zd M.2.1 pc (.newarray .byte) 2 pc') (ok : zOK G) (hA : ∀ q, sz ≤ q → A q) (hw0 : Cond.arrayClass .byte ∈ lw_tbl) (hx : x = nI N) (hN : N < 10000) (hu : u.1 + 1 ≤ C.1 ∧ u.2 + N ≤ C.2) (kk : ∀ q, cJ G A sz M n C (u.1 + 1, u.2 + N) Q pc' L (.ref q :: S) (ws ++ [(q, .inl (zc G 1, N, .inl fun _ => 0))])) : cJ G A sz M n C u Q pc L (.int x :: S) ws := by
  subst hx
  intro l R p e s m args below meth c H locs ls hf hR hE hn hz hw hP hD hl hS
  obtain ⟨h1, rfl⟩ := hd
  have hNN : (nI N).toNatClampNeg = N := nI_clamp (by omega)
  refine va_newaK hE.1 hE.2.1 (atype := .byte) (c_word ok hw hw0 rfl) (g := F0 m pc ls (.int (nI N) :: S)) rfl h1 rfl (nI_pos (by omega)) hNN (by show N * 1 ≤ 536870912; omega) (by rw [hR.2.2.1]; exact hu.1) (by rw [hR.2.2.2.1]; exact hu.2) rfl fun H1 cA e1 z1 o1 hAr hNm => ?_
  have hc : cA = zc G 1 := Option.some.inj (hNm.symm.trans ((va_K.moved hw.alike ok.1).2 1 (zc G 1, .byte) rfl).2)
  subst hc
  have hk : ∀ (k : Nat) (x : Nat × va_E), ws[k]? = some x → H1[x.1]? = H[x.1]? := fun k x hx => o1 x.1 ((hP k x hx).lt)
  refine kk H.size l R p e s m args below meth c H1 locs ls hf ⟨hR.1, hR.2.1, hR.2.2.1, hR.2.2.2.1, hu.1, hu.2⟩ hE hn hz hw ((hP.kept hk).app (fun k x hx => ?_)) (hD.push hP rfl (hA _ (by rw [← hz]; exact hS.1))) hl ⟨Nat.le_trans hS.1 (by omega), fun x h1 h2 => (o1 x (Nat.lt_of_lt_of_le h1 hS.1)).trans (hS.2.1 x h1 h2), hS.2.2⟩
  have hz1 : k < 1 := (List.getElem?_eq_some_iff.mp hx).1
  rw [show k = 0 by omega] at hx
  cases hx
  exact e1
theorem c_newaz {x : Int32} {N : Nat} (hd : zd M.2.1 pc (.newarray .boolean) 2 pc') (ok : zOK G) (hA : ∀ q, sz ≤ q → A q) (hw0 : Cond.arrayClass .boolean ∈ lw_tbl) (hx : x = nI N) (hN : N < 10000) (hu : u.1 + 1 ≤ C.1 ∧ u.2 + N ≤ C.2) (kk : ∀ q, cJ G A sz M n C (u.1 + 1, u.2 + N) Q pc' L (.ref q :: S) (ws ++ [(q, .inl (zc G 2, N, .inl fun _ => 0))])) : cJ G A sz M n C u Q pc L (.int x :: S) ws := by
  subst hx
  intro l R p e s m args below meth c H locs ls hf hR hE hn hz hw hP hD hl hS
  obtain ⟨h1, rfl⟩ := hd
  have hNN : (nI N).toNatClampNeg = N := nI_clamp (by omega)
  refine va_newaK hE.1 hE.2.1 (atype := .boolean) (c_word ok hw hw0 rfl) (g := F0 m pc ls (.int (nI N) :: S)) rfl h1 rfl (nI_pos (by omega)) hNN (by show N * 1 ≤ 536870912; omega) (by rw [hR.2.2.1]; exact hu.1) (by rw [hR.2.2.2.1]; exact hu.2) rfl fun H1 cA e1 z1 o1 hAr hNm => ?_
  have hc : cA = zc G 2 := Option.some.inj (hNm.symm.trans ((va_K.moved hw.alike ok.1).2 2 (zc G 2, .boolean) rfl).2)
  subst hc
  have hk : ∀ (k : Nat) (x : Nat × va_E), ws[k]? = some x → H1[x.1]? = H[x.1]? := fun k x hx => o1 x.1 ((hP k x hx).lt)
  refine kk H.size l R p e s m args below meth c H1 locs ls hf ⟨hR.1, hR.2.1, hR.2.2.1, hR.2.2.2.1, hu.1, hu.2⟩ hE hn hz hw ((hP.kept hk).app (fun k x hx => ?_)) (hD.push hP rfl (hA _ (by rw [← hz]; exact hS.1))) hl ⟨Nat.le_trans hS.1 (by omega), fun x h1 h2 => (o1 x (Nat.lt_of_lt_of_le h1 hS.1)).trans (hS.2.1 x h1 h2), hS.2.2⟩
  have hz1 : k < 1 := (List.getElem?_eq_some_iff.mp hx).1
  rw [show k = 0 by omega] at hx
  cases hx
  exact e1
theorem c_newal {x : Int32} {N : Nat} (hd : zd M.2.1 pc (.newarray .long) 2 pc') (ok : zOK G) (hA : ∀ q, sz ≤ q → A q) (hw0 : Cond.arrayClass .long ∈ lw_tbl) (hx : x = nI N) (hN : N < 10000) (hu : u.1 + 1 ≤ C.1 ∧ u.2 + N ≤ C.2) (kk : ∀ q, cJ G A sz M n C (u.1 + 1, u.2 + N) Q pc' L (.ref q :: S) (ws ++ [(q, .inl (zc G 3, N, .inr (.inl fun _ => 0)))])) : cJ G A sz M n C u Q pc L (.int x :: S) ws := by
  subst hx
  intro l R p e s m args below meth c H locs ls hf hR hE hn hz hw hP hD hl hS
  obtain ⟨h1, rfl⟩ := hd
  have hNN : (nI N).toNatClampNeg = N := nI_clamp (by omega)
  refine va_newaK hE.1 hE.2.1 (atype := .long) (c_word ok hw hw0 rfl) (g := F0 m pc ls (.int (nI N) :: S)) rfl h1 rfl (nI_pos (by omega)) hNN (by show N * 8 ≤ 536870912; omega) (by rw [hR.2.2.1]; exact hu.1) (by rw [hR.2.2.2.1]; exact hu.2) rfl fun H1 cA e1 z1 o1 hAr hNm => ?_
  have hc : cA = zc G 3 := Option.some.inj (hNm.symm.trans ((va_K.moved hw.alike ok.1).2 3 (zc G 3, .long) rfl).2)
  subst hc
  have hk : ∀ (k : Nat) (x : Nat × va_E), ws[k]? = some x → H1[x.1]? = H[x.1]? := fun k x hx => o1 x.1 ((hP k x hx).lt)
  refine kk H.size l R p e s m args below meth c H1 locs ls hf ⟨hR.1, hR.2.1, hR.2.2.1, hR.2.2.2.1, hu.1, hu.2⟩ hE hn hz hw ((hP.kept hk).app (fun k x hx => ?_)) (hD.push hP rfl (hA _ (by rw [← hz]; exact hS.1))) hl ⟨Nat.le_trans hS.1 (by omega), fun x h1 h2 => (o1 x (Nat.lt_of_lt_of_le h1 hS.1)).trans (hS.2.1 x h1 h2), hS.2.2⟩
  have hz1 : k < 1 := (List.getElem?_eq_some_iff.mp hx).1
  rw [show k = 0 by omega] at hx
  cases hx
  exact e1
theorem c_alen {a t0 : Nat} {cA : ClassId} {x : vp_A} {ty : FieldType} {v : Int32} (hd : zd M.2.1 pc .arraylength 1 pc') (ok : zOK G) (q0 : Nat) (he : ws[q0]? = some (a, .inl (cA, x))) (ht : (zty G)[t0]? = some (cA, ty)) (hv : Int32.ofNat x.1 = v) (kk : cJ G A sz M n C u Q pc' L (.int v :: S) ws) : cJ G A sz M n C u Q pc L (.ref a :: S) ws := by
  intro l R p e s m args below meth c H locs ls hf hR hE hn hz hw hP hD hl hS
  obtain ⟨h1, rfl⟩ := hd
  exact va_alen hE.1 hE.2.1 (va_K.moved hw.alike ok.1) hP q0 t0 he ht hv h1 (kk l R p e s m args below meth c H locs ls hf hR hE hn hz hw hP hD hl hS)
theorem c_iast {a N : Nat} {f : Nat → Int32} {i v : Int32} {ws1 : va_W} (hd : zd M.2.1 pc .iastore 1 pc') (ok : zOK G) (q0 : Nat) (he : ws[q0]? = some (a, .inl (zc G 0, N, .inl f))) (hi : vp_in i N) (hw1 : ws.set q0 (a, .inl (zc G 0, N, .inl (upd f i.toNatClampNeg v))) = ws1) (kk : cJ G A sz M n C u Q pc' L S ws1) : cJ G A sz M n C u Q pc L (.int v :: .int i :: .ref a :: S) ws := by
  subst hw1
  intro l R p e s m args below meth c H locs ls hf hR hE hn hz hw hP hD hl hS
  obtain ⟨h1, rfl⟩ := hd
  exact va_iast hE.1 hE.2.1 (va_K.moved hw.alike ok.1) hP hD hS q0 0 he rfl hi h1 (fun H1 locs1 hP1 hD1 hS1 => kk l R p e s m args below meth c H1 locs1 ls hf hR hE hn hz hw hP1 hD1 hl hS1)
theorem c_vret {wc : va_W} {post : Option Value → va_W → Prop} (hd : zd M.2.1 pc .return_ 1 pc') (hr : M.2.2.2 = none) (hp : post none ws) (hu : u = C) : cJ G (va_A wc sz) sz M n C u (cQ G wc sz post C) pc L [] ws := by
  subst hu
  intro l R p e s m args below meth c H locs ls hf hR hE hn hz hw hP hD hl hS
  exact W.vret hE.1 hE.2.1 (hE.2.2.2.1.trans hr) (fun t ht hW => ⟨⟨none, ws, rfl, hp, ht ▸ hP, hD⟩, hS.F ht⟩) hS.2.2 hd.1 hE.2.2.2.2.1
theorem c_iret {wc : va_W} {post : Option Value → va_W → Prop} {x : Int32} (hd : zd M.2.1 pc .ireturn 1 pc') (hr : M.2.2.2 = some .int) (hp : post (some (.int x)) ws) (hu : u = C) : cJ G (va_A wc sz) sz M n C u (cQ G wc sz post C) pc L [.int x] ws := by
  subst hu
  intro l R p e s m args below meth c H locs ls hf hR hE hn hz hw hP hD hl hS
  exact W.iret hE.1 hE.2.1 (hE.2.2.2.1.trans hr) (fun t ht hW => ⟨⟨some (.int x), ws, rfl, hp, ht ▸ hP, hD⟩, hS.F ht⟩) hS.2.2 hd.1 hE.2.2.2.2.1
theorem c_aret {wc : va_W} {post : Option Value → va_W → Prop} {q : Nat} {rt : FieldType} (hd : zd M.2.1 pc .areturn 1 pc') (hr : M.2.2.2 = some rt) (hrt : (∃ n, rt = FieldType.object n) ∨ ∃ t, rt = FieldType.array t) (hp : post (some (.ref q)) ws) (hu : u = C) : cJ G (va_A wc sz) sz M n C u (cQ G wc sz post C) pc L [.ref q] ws := by
  subst hu
  intro l R p e s m args below meth c H locs ls hf hR hE hn hz hw hP hD hl hS
  exact W.aret hE.1 hE.2.1 (hE.2.2.2.1.trans hr) hrt (Or.inr ⟨q, rfl⟩) (fun t ht hW => ⟨⟨some (.ref q), ws, rfl, hp, ht ▸ hP, hD⟩, hS.F ht⟩) hS.2.2 hd.1 hE.2.2.2.2.1
/-- behind a call: the callee's world, at the end of the others -/
theorem c_after {l : Launch} {R : Room} {p : Program} {e : Env} {s : State} {m : MethodId} {args a : Array Value} {below : List Frame} {meth : Method} {c : Code} {H : Heap} {locs : List Loc} {ls : Array Slot} {rest st0 : List Value} {Qw : State → Prop} {cells slots mc ms : Nat} {wc wr : va_W} {post : Option Value → va_W → Prop} (hr : va_Run p l e R s m args below meth c H locs cells slots mc ms (F0 m pc ls st0) rest (cPo G wc H.size post a) (va_A wc H.size)) (hP : va_P (zD G) zcl ws H) (hD : va_D A ws) (hS : va_S A s.heap H locs) (hA : ∀ q, s.heap.size ≤ q → A q) (isC isR : List Nat) (hC : isC.map (fun i => ws[i]?) = wc.map some) (hR : isR.map (fun i => ws[i]?) = wr.map some) (hn : va_nd isR = true) (hdis : ∀ i ∈ isR, i ∉ isC)
    (kk : ∀ (r : Option Value) (w1 : va_W) (H1 : Heap) (locs1 : List Loc), post r w1 → va_P (zD G) zcl (wr ++ w1) H1 → va_D A (wr ++ w1) → va_S A s.heap H1 locs1 → W p l e R s m args below meth c H1 locs1 (cells + mc) (slots + ms) Qw (F0 m (pc + 3) ls (r.toList ++ rest))) : W p l e R s m args below meth c H locs cells slots Qw (F0 m pc ls st0) := by
  intro T hT X
  obtain ⟨v, st₀, t, T', Lc, h0, X', hL, e1, e2, ⟨⟨r, w1, hv, hp, hP1, hD1⟩, hz, hk⟩, stp⟩ := hr T hT X
  cases hv
  rw [h0] at hz hk
  have hF := va_free hD hS hA isC hC
  obtain ⟨hP2, hD2⟩ := va_join hP hD isC isR hC hR hn hdis (fun q h1 h2 => hk q h1 h2) hF hP1 hD1
  obtain ⟨t2, a1, b1⟩ := kk v w1 t.heap (locs ++ Lc) hp hP2 hD2 ⟨Nat.le_trans hS.1 hz, fun q h1 h2 => by
      rw [hk q (Nat.lt_of_lt_of_le h1 hS.1) (fun z => h2 (hF q z))]; exact hS.2.1 q h1 h2, fun q hq => by
      rcases List.mem_append.mp hq with h | h
      · exact hS.2.2 q h
      · exact hF _ (hL q h)⟩ T' e1 X'
  exact ⟨t2, stp t2 a1, b1⟩
variable {Y : zY} {kd idx na : Nat} {Cc : Nat × Nat}
theorem c_room {R : Room} (hR : zRm n C u R) (hk : kd + 1 ≤ n) (h21 : Y.2.2.1 ≤ 21) : (zroom kd Cc).frames + 1 ≤ R.frames ∧ 8 + (Y.2.2.1 + 11) + (zroom kd Cc).locals ≤ R.locals := by
  refine ⟨Nat.le_trans hk hR.1, Nat.le_trans ?_ hR.2.1⟩
  show 8 + (Y.2.2.1 + 11) + 40 * kd ≤ 40 * n
  omega
theorem c_inv (hna : zinv Y na) (sig) (h : parseMethodDescriptor Y.1.desc = some sig) : na = sig.parameters.length := by
  unfold zinv at hna
  rw [h] at hna
  exact (Option.some.inj hna).symm
end CK
