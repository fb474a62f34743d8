/-! making the world: cells by their addresses, new ones at the end -/
def cQT : Type := List Frame → Array Value → State → State → Prop
def cJ (G : zG) (A : Nat → Prop) (sz : Nat) (M : zY) (n : Nat) (C u : Nat × Nat) (Q : cQT) (pc : Nat) (L : List (Nat × Value)) (S : List Value) (ws : va_W) : Prop :=
  ∀ (l : Launch) (R : Room) (p : Program) (e : Env) (s : State) (m : MethodId) (args : Array Value) (below : List Frame) (meth : Method) (c : Code) (H : Heap) (locs : List Loc) (ls : Array Slot),
    l.flags = flags0 → zRm n C u R → zEnv M p s m meth c → (M.1.name = "<init>" → meth.name = "<init>") → s.heap.size = sz → (z0 G).WarmedH s.vm → va_P (zD G) zcl ws H → va_D A ws → lv_has ls M.2.2.1 L → va_S A s.heap H locs →
    W p l e R s m args below meth c H locs u.1 u.2 (Q below args s) (F0 m pc ls S)
def cPo (G : zG) (wc : va_W) (sz : Nat) (post : Option Value → va_W → Prop) : Array Value → State → Outcome → State → Prop := fun _ st oc t => (∃ (r : Option Value) (w1 : va_W), oc = .returned r ∧ post r w1 ∧ va_P (zD G) zcl w1 t.heap ∧ va_D (va_A wc sz) w1) ∧ va_F (va_A wc sz) st t
def cQ (G : zG) (wc : va_W) (sz : Nat) (post : Option Value → va_W → Prop) (C : Nat × Nat) : cQT := fun below args s => MQ below (cPo G wc sz post) args s C.1 C.2 (va_A wc sz)
def CM (G : zG) (Y : zY) (n : Nat) (C : Nat × Nat) (av : List Value) (wc : va_W) (post : Option Value → va_W → Prop) : Prop :=
  ∀ (l : Launch) (sz : Nat), l.flags = flags0 → Met l Y.1 [.code Y.1 Y.2.1 Y.2.2.1 Y.2.2.2] (zroom n C) (va_Pc av (fun U => U.heap.size = sz ∧ (z0 G).WarmedH U.vm ∧ va_P (zD G) zcl wc U.heap ∧ va_D (fun _ => True) wc)) (cPo G wc sz post) C.1 C.2 (va_A wc sz)
theorem c_word {G : zG} {s : State} {args : Array Value} (ok : zOK G) (hw : (z0 G).WarmedH s.vm) {w : Cond} (hin : w ∈ lw_tbl) (hg : goodWord w = true) : w.before args s = true := word_at hw (good_of_word hg) (ok.2.1 w hin)
section CJ
variable {G : zG} {A : Nat → Prop} {sz : Nat} {M : zY} {n : Nat} {C u : Nat × Nat} {Q : cQT} {pc pc' tgt : Nat} {L : List (Nat × Value)} {S : List Value} {ws : va_W}
theorem CM.of {Y : zY} {av : List Value} {wc : va_W} {post : Option Value → va_W → Prop} (hp : plainName Y.1.cls = true) (hlen : (lg_sl av).length ≤ Y.2.2.1) (h : ∀ sz, va_D (va_A wc sz) wc → cJ G (va_A wc sz) sz Y n C (0, 0) (cQ G wc sz post C) 0 (lv_args 0 av) [] wc) : CM G Y n C av wc post := by
  intro l sz hf
  refine Met.ofW (cc := Y.2.1) (maxL := Y.2.2.1) (ret := Y.2.2.2) hp rfl ?_
  intro p e s m args below meth c s₁ B hml hv
  obtain ⟨rfl, hsz, hw, hP, hD0⟩ := hv
  rw [lg_entry_eq]
  have hl := lv_entry av (n := Y.2.2.1) hlen
  exact h sz hD0.self l _ p e s m _ below meth c s.heap [] _ hf ⟨Nat.le_refl _, Nat.le_refl _, rfl, rfl, Nat.zero_le _, Nat.zero_le _⟩ ⟨B.exec, B.bytes, hml, B.returns, B.notSynchronized, findClass_of_methodNamed B.named⟩ (fun z => ((name_of_methodNamed B.named B.method).1).trans z) hsz hw hP hD0.self hl va_S.rf
theorem c_const {v : Int32} (hd : zk M.2.1 pc v pc') (k : cJ G A sz M n C u Q pc' L (.int v :: S) ws) : cJ G A sz M n C u Q pc L S ws := by
  intro l R p e s m args below meth c H locs ls hf hR hE hn hz hw hP hD hl hS
  have K := k l R p e s m args below meth c H locs ls hf hR hE hn hz hw hP hD hl hS
  rcases hd with ⟨i, h1, h2, rfl⟩ | ⟨i, h1, h2, rfl⟩ | ⟨i, h1, h2, rfl⟩
  · exact lv_iconst hE.1 hE.2.1 h1 h2 K
  · exact lv_bipush hE.1 hE.2.1 h1 h2 K
  · exact lv_sipush hE.1 hE.2.1 h1 h2 K
theorem c_iload {i : Nat} {x : Int32} (hd : zil M.2.1 pc i pc') (j : Nat) (h : L[j]? = some (i, .int x)) (k : cJ G A sz M n C u Q pc' L (.int x :: S) ws) : cJ G A sz M n C u Q pc L S ws := by
  intro l R p e s m args below meth c H locs ls hf hR hE hn hz hw hP hD hl hS
  have K := k l R p e s m args below meth c H locs ls hf hR hE hn hz hw hP hD hl hS
  rcases hd with ⟨i', h1, h2, rfl⟩ | ⟨h1, rfl⟩
  · exact lv_iload_n hE.1 hE.2.1 h1 h2 (lv_at hl j h) K
  · exact lv_iload hE.1 hE.2.1 h1 (lv_at hl j h) K
theorem c_aload {i q : Nat} (hd : zal M.2.1 pc i pc') (j : Nat) (h : L[j]? = some (i, .ref q)) (k : cJ G A sz M n C u Q pc' L (.ref q :: S) ws) : cJ G A sz M n C u Q pc L S ws := by
  intro l R p e s m args below meth c H locs ls hf hR hE hn hz hw hP hD hl hS
  have K := k l R p e s m args below meth c H locs ls hf hR hE hn hz hw hP hD hl hS
  rcases hd with ⟨i', h1, h2, rfl⟩ | ⟨h1, rfl⟩
  · exact lv_aload_n hE.1 hE.2.1 h1 h2 (lv_at hl j h) K
  · exact lv_aload hE.1 hE.2.1 h1 (lv_at hl j h) K
theorem c_istore {i : Nat} {x : Int32} {L' : List (Nat × Value)} (hd : zis M.2.1 pc i pc') (hi : i < M.2.2.1) (hL : (i, Value.int x) :: L.filter (fun q => !(q.1 == i) && !(q.1 + 1 == i && q.2.category == 2)) = L') (k : cJ G A sz M n C u Q pc' L' S ws) : cJ G A sz M n C u Q pc L (.int x :: S) ws := by
  intro l R p e s m args below meth c H locs ls hf hR hE hn hz hw hP hD hl hS
  rcases hd with ⟨i', h1, h2, rfl⟩ | ⟨h1, rfl⟩
  · exact lv_istore_n hE.1 hE.2.1 h1 h2 hl hi hL (fun ls' h' => k l R p e s m args below meth c H locs ls' hf hR hE hn hz hw hP hD h' hS)
  · exact lv_istore hE.1 hE.2.1 h1 hl hi hL (fun ls' h' => k l R p e s m args below meth c H locs ls' hf hR hE hn hz hw hP hD h' hS)
theorem c_astore {i x : Nat} {L' : List (Nat × Value)} (hd : zas M.2.1 pc i pc') (hi : i < M.2.2.1) (hL : (i, Value.ref x) :: L.filter (fun q => !(q.1 == i) && !(q.1 + 1 == i && q.2.category == 2)) = L') (k : cJ G A sz M n C u Q pc' L' S ws) : cJ G A sz M n C u Q pc L (.ref x :: S) ws := by
  intro l R p e s m args below meth c H locs ls hf hR hE hn hz hw hP hD hl hS
  rcases hd with ⟨i', h1, h2, rfl⟩ | ⟨h1, rfl⟩
  · exact lv_astore_n hE.1 hE.2.1 h1 h2 hl hi hL (fun ls' h' => k l R p e s m args below meth c H locs ls' hf hR hE hn hz hw hP hD h' hS)
  · exact lv_astore hE.1 hE.2.1 h1 hl hi hL (fun ls' h' => k l R p e s m args below meth c H locs ls' hf hR hE hn hz hw hP hD h' hS)
theorem c_iinc {i : Nat} {x v : Int32} {L' : List (Nat × Value)} (hd : zii M.2.1 pc i v pc') (hi : i < M.2.2.1) (j : Nat) (h : L[j]? = some (i, .int x)) (hL : (i, Value.int (x + v)) :: L.filter (fun q => !(q.1 == i) && !(q.1 + 1 == i && q.2.category == 2)) = L') (k : cJ G A sz M n C u Q pc' L' S ws) : cJ G A sz M n C u Q pc L S ws := by
  intro l R p e s m args below meth c H locs ls hf hR hE hn hz hw hP hD hl hS
  obtain ⟨nn, h1, h2, rfl⟩ := hd
  exact lv_iinc hE.1 hE.2.1 h1 hl h (by rw [h2]) hi hL (fun ls' h' => k l R p e s m args below meth c H locs ls' hf hR hE hn hz hw hP hD h' hS)
theorem c_dup {q : Nat} (hd : zd M.2.1 pc .dup 1 pc') (k : cJ G A sz M n C u Q pc' L (.ref q :: .ref q :: S) ws) : cJ G A sz M n C u Q pc L (.ref q :: S) ws := by
  intro l R p e s m args below meth c H locs ls hf hR hE hn hz hw hP hD hl hS
  obtain ⟨h1, rfl⟩ := hd
  exact lv_dup hE.1 hE.2.1 h1 rfl (k l R p e s m args below meth c H locs ls hf hR hE hn hz hw hP hD hl hS)
theorem c_goto (hd : zb M.2.1 pc .goto tgt pc') (k : cJ G A sz M n C u Q tgt L S ws) : cJ G A sz M n C u Q pc L S ws := by
  intro l R p e s m args below meth c H locs ls hf hR hE hn hz hw hP hD hl hS
  obtain ⟨off, h1, h2, rfl⟩ := hd
  exact lv_goto hE.1 hE.2.1 h1 h2 (k l R p e s m args below meth c H locs ls hf hR hE hn hz hw hP hD hl hS)
theorem c_icmp_lt {x y : Int32} (hd : zb M.2.1 pc (.if_icmp .lt) tgt pc') (kt : x < y → cJ G A sz M n C u Q tgt L S ws) (kf : ¬ x < y → cJ G A sz M n C u Q pc' L S ws) : cJ G A sz M n C u Q pc L (.int y :: .int x :: S) ws := by
  intro l R p e s m args below meth c H locs ls hf hR hE hn hz hw hP hD hl hS
  obtain ⟨off, h1, h2, rfl⟩ := hd
  exact lv_icmp_lt hE.1 hE.2.1 h1 h2 (fun q => kt q l R p e s m args below meth c H locs ls hf hR hE hn hz hw hP hD hl hS) (fun q => kf q l R p e s m args below meth c H locs ls hf hR hE hn hz hw hP hD hl hS)
theorem c_icmp_ge {x y : Int32} (hd : zb M.2.1 pc (.if_icmp .ge) tgt pc') (kt : y ≤ x → cJ G A sz M n C u Q tgt L S ws) (kf : ¬ y ≤ x → cJ G A sz M n C u Q pc' L S ws) : cJ G A sz M n C u Q pc L (.int y :: .int x :: S) ws := by
  intro l R p e s m args below meth c H locs ls hf hR hE hn hz hw hP hD hl hS
  obtain ⟨off, h1, h2, rfl⟩ := hd
  exact lv_icmp_ge hE.1 hE.2.1 h1 h2 (fun q => kt q l R p e s m args below meth c H locs ls hf hR hE hn hz hw hP hD hl hS) (fun q => kf q l R p e s m args below meth c H locs ls hf hR hE hn hz hw hP hD hl hS)
theorem c_getR {idx ci f a : Nat} {fs : List Value} {v : Value} (hd : zd M.2.1 pc (.getfield idx) 3 pc') (ok : zOK G) (hk : zfk M.1.cls idx ci f) (q0 : Nat) (he : ws[q0]? = some (a, .inr (ci, fs))) (hv : fs[f]? = some v) (kk : cJ G A sz M n C u Q pc' L (v :: S) ws) : cJ G A sz M n C u Q pc L (.ref a :: S) ws := by
  intro l R p e s m args below meth c H locs ls hf hR hE hn hz hw hP hD hl hS
  obtain ⟨h1, rfl⟩ := hd
  obtain ⟨Cn, T, N, hc, hN, hT, hlk⟩ := hk
  exact va_get (ref := Cn) (D := zD G) (cl := zcl) (ws := ws) (tys := zty G) (Ts := u_ws Cn T N) hE.1 hE.2.1 (fun w h => c_word ok hw (zws_in hc w h) (zws_good hc w h)) (fun w h => h) hE.2.2.2.2.2 (va_K.moved hw.alike ok.1) hP q0 he hc f hN (c_word ok hw hlk rfl) (fun x h => by rw [hT] at h; exact h) hv h1 (kk l R p e s m args below meth c H locs ls hf hR hE hn hz hw hP hD hl hS)
theorem c_put {idx ci f a : Nat} {fs : List Value} {v : Value} (hd : zd M.2.1 pc (.putfield idx) 3 pc') (ok : zOK G) (hk : zfk M.1.cls idx ci f) (q0 : Nat) (he : ws[q0]? = some (a, .inr (ci, fs))) (hff : ∀ Cn T N, zcl[ci]? = some (Cn, T, N) → (T f).2.2.2 = false ∨ ((T f).2.2.2 = true ∧ (T f).1 = M.1.cls ∧ M.1.name = "<init>")) (hty : narrow (zty0 ci f) v = v ∧ fits (zty0 ci f) v = true) (hl0 : f < fs.length) {ws1 : va_W} (hw1 : ws.set q0 (a, .inr (ci, fs.set f v)) = ws1) (kk : cJ G A sz M n C u Q pc' L S ws1) : cJ G A sz M n C u Q pc L (v :: .ref a :: S) ws := by
  subst hw1
  intro l R p e s m args below meth c H locs ls hf hR hE hn hz hw hP hD hl hS
  obtain ⟨h1, rfl⟩ := hd
  obtain ⟨Cn, T, N, hc, hN, hT, hlk⟩ := hk
  rcases hff _ _ _ hc with h | ⟨ha, hb, hd2⟩
  · exact va_put (ref := Cn) (D := zD G) (cl := zcl) (ws := ws) (tys := zty G) (Ts := u_ws Cn T N) hE.1 hE.2.1 (fun w h => c_word ok hw (zws_in hc w h) (zws_good hc w h)) (fun w h => h) (zty0 ci) (zty_ok hc) (znm_ok hc) hE.2.2.2.2.2 (va_K.moved hw.alike ok.1) hP hD hS q0 he hc f hN (c_word ok hw hlk rfl) (fun x h => by rw [hT] at h; exact h) h (zty_ok hc f hN) hty.1 hty.2 hl0 h1 (fun H1 locs1 hP1 hD1 hS1 => kk l R p e s m args below meth c H1 locs1 ls hf hR hE hn hz hw hP1 hD1 hl hS1)
  · exact va_putF (ref := Cn) (D := zD G) (cl := zcl) (ws := ws) (tys := zty G) (Ts := u_ws Cn T N) hE.1 hE.2.1 (fun w h => c_word ok hw (zws_in hc w h) (zws_good hc w h)) (fun w h => h) (zty0 ci) (zty_ok hc) (znm_ok hc) hE.2.2.2.2.2 (va_K.moved hw.alike ok.1) hP hD hS q0 he hc f hN (c_word ok hw hlk rfl) (fun x h => by rw [hT] at h; exact h) ha (hn hd2) hb (zty_ok hc f hN) hty.1 hty.2 hl0 h1 (fun H1 locs1 hP1 hD1 hS1 => kk l R p e s m args below meth c H1 locs1 ls hf hR hE hn hz hw hP1 hD1 hl hS1)
theorem c_new {idx ci : Nat} {Cn : String} {T : u_T} {N : Nat} {fs : List Value} (hd : zd M.2.1 pc (.new idx) 3 pc') (ok : zOK G) (hA : ∀ q, sz ≤ q → A q) (hc : zcl[ci]? = some (Cn, T, N)) (hcl : Cond.classLink M.1.cls idx Cn ∈ lw_tbl) (hinst : Cond.instantiable Cn N ∈ lw_tbl) (hini : Cond.initialized Cn ∈ lw_tbl) (hfs : ∀ j, j < N → defaultValue (zty0 ci j) = vp_V fs j) (hu : u.1 + 1 ≤ C.1 ∧ u.2 + N ≤ C.2) (kk : ∀ q, cJ G A sz M n C (u.1 + 1, u.2 + N) Q pc' L (.ref q :: S) (ws ++ [(q, .inr (ci, fs))])) : cJ G A sz M n C u Q pc L S ws := by
  intro l R p e s m args below meth c H locs ls hf hR hE hn hz hw hP hD hl hS
  obtain ⟨h1, rfl⟩ := hd
  exact va_new (D := zD G) (cl := zcl) (ws := ws) (tys := zty G) (Ts := u_ws Cn T N) hE.1 hE.2.1 (fun w h => c_word ok hw (zws_in hc w h) (zws_good hc w h)) (fun w h => h) (zty0 ci) (zty_ok hc) hE.2.2.2.2.2 (c_word ok hw hcl rfl) (c_word ok hw hinst rfl) (c_word ok hw hini rfl) (va_K.moved hw.alike ok.1) hP hD hS (fun q h => hA q (by rw [← hz]; exact h)) hc hfs (by rw [hR.2.2.1]; exact hu.1) (by rw [hR.2.2.2.1]; exact hu.2) h1 (fun q H1 hP1 hD1 hS1 => kk q l R p e s m args below meth c H1 locs ls hf ⟨hR.1, hR.2.1, hR.2.2.1, hR.2.2.2.1, hu.1, hu.2⟩ hE hn hz hw hP1 hD1 hl hS1)
theorem c_obj {q idx : Nat} (hd : zd M.2.1 pc (.invokespecial idx) 3 pc') (ok : zOK G) (hlk : Cond.methodLink M.1.cls idx Lib.objectInit ∈ lw_tbl) (h1 : Cond.instanceMethod Lib.objectInit ∈ lw_tbl) (h2 : Cond.code Lib.objectInit ⟨#[0xb1]⟩ 1 none ∈ lw_tbl) (hn0 : 1 ≤ n) (kk : cJ G A sz M n C u Q pc' L [] ws) : cJ G A sz M n C u Q pc L [.ref q] ws := by
  intro l R p e s m args below meth c H locs ls hf hR hE hn hz hw hP hD hl hS
  obtain ⟨hd1, rfl⟩ := hd
  refine W.objInit hE.1 hE.2.1 hE.2.2.2.2.2 (c_word ok hw hlk rfl) (c_word ok hw h1 rfl) (c_word ok hw h2 rfl) (g := F0 m pc ls [.ref q]) rfl (hl.1.trans hE.2.2.1.symm) rfl hd1 (Nat.le_trans hn0 hR.1) ?_ ?_
  · refine Nat.le_trans ?_ hR.2.1
    show 2 * 0 + 0 + 12 ≤ 40 * n
    omega
  · exact kk l R p e s m args below meth c H locs ls hf hR hE hn hz hw hP hD hl hS
end CJ
