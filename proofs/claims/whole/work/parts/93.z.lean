/-! a row filled, a row of none -/
theorem va_arr_eq {D : va_G} {cl : List vw_C} {a N : Nat} {cA : ClassId} {f g : Nat → Int32} (h : ∀ j, j < N → f j = g j) {H : Heap} (hP : va_P D cl [(a, .inl (cA, N, .inl f))] H) : va_P D cl [(a, .inl (cA, N, .inl g))] H := by
  intro k q hk
  have hz : k < 1 := (List.getElem?_eq_some_iff.mp hk).1
  rw [show k = 0 by omega] at hk
  cases hk
  have h0 := hP 0 _ rfl
  show H[a]? = some (vp_cell cA (N, .inl g))
  have e : vp_cell cA (N, .inl g) = vp_cell cA (N, .inl f) := by
    rw [vp_cell_i, vp_cell_i]
    unfold arrV
    congr 2
    funext j
    show Value.int (g j.val) = Value.int (f j.val)
    rw [h j.val j.isLt]
  rw [e]
  exact h0
theorem va_arr_D {A : Nat → Prop} {a : Nat} {e e' : va_E} (hD : va_D A [(a, e)]) : va_D A [(a, e')] := by
  refine ⟨fun i j p q hi hj _ => ?_, fun k q hk => ?_⟩
  · have h1 : i < 1 := (List.getElem?_eq_some_iff.mp hi).1
    have h2 : j < 1 := (List.getElem?_eq_some_iff.mp hj).1
    omega
  · have hz : k < 1 := (List.getElem?_eq_some_iff.mp hk).1
    rw [show k = 0 by omega] at hk
    cases hk
    exact hD.2 0 (a, e) rfl
theorem CM.ofF {G : zG} {n : Nat} {C : Nat × Nat} {Y : zY} {av : List Value} {wc : va_W} {post : Option Value → va_W → Prop} (hp : plainFor Y.1 = true) (hlen : (lg_sl av).length ≤ Y.2.2.1) (h : ∀ sz, va_D (va_A wc sz) wc → cJ G (va_A wc sz) sz Y n C (0, 0) (cQ G wc sz post C) 0 (lv_args 0 av) [] wc) : CM G Y n C av wc post := by
  intro l sz hf
  refine zMet_ofF (cc := Y.2.1) (maxL := Y.2.2.1) (ret := Y.2.2.2) hp rfl ?_
  intro p e s m args below meth c s₁ B hml hv
  obtain ⟨rfl, hsz, hw, hP, hD0⟩ := hv
  rw [lg_entry_eq]
  have hl := lv_entry av (n := Y.2.2.1) hlen
  exact h sz hD0.self l _ p e s m _ below meth c s.heap [] _ hf ⟨Nat.le_refl _, Nat.le_refl _, rfl, rfl, Nat.zero_le _, Nat.zero_le _⟩ ⟨B.exec, B.bytes, hml, B.returns, B.notSynchronized, findClass_of_methodNamed B.named⟩ (fun z => ((name_of_methodNamed B.named B.method).1).trans z) hsz hw hP hD0.self hl va_S.rf
theorem c_loc {G : zG} {A : Nat → Prop} {sz : Nat} {M : zY} {n : Nat} {C u : Nat × Nat} {Q : cQT} {pc : Nat} {L L' : List (Nat × Value)} {S : List Value} {ws : va_W} (h : ∀ q ∈ L', q ∈ L) (k : cJ G A sz M n C u Q pc L' S ws) : cJ G A sz M n C u Q pc L S ws := by
  intro l R p e s m args below meth c H locs ls hf hR hE hn hz hw hP hD hl hS
  exact k l R p e s m args below meth c H locs ls hf hR hE hn hz hw hP hD ⟨hl.1, hl.2.1, fun q hq => hl.2.2 q (h q hq)⟩ hS
theorem mk_max {G : zG} {N : Nat} (hN : N < 10000) : CM G mJ9_max_7cf53 1 (0, 0) [.int (nI N), .int (nI 0)] [] (fun r w1 => r = some (.int (nI N)) ∧ w1 = []) := by
  refine CM.ofF (by decide +kernel) (Nat.le_of_ble_eq_true rfl) (fun sz hD0 => ?_)
  show cJ G _ sz mJ9_max_7cf53 1 _ (0, 0) _ 0 [(0, Value.int (nI N)), (1, Value.int (nI 0))] [] []
  refine c_iload dJ9_max_7cf53_0 0 rfl (c_iload dJ9_max_7cf53_1 1 rfl (c_icmp_lt dJ9_max_7cf53_2 (fun h => absurd h (nI_nlt (Nat.zero_le _) (by omega))) (fun _ => c_iload dJ9_max_7cf53_5 0 rfl (c_goto dJ9_max_7cf53_6 (c_iret dJ9_max_7cf53_10 rfl ⟨rfl, rfl⟩ rfl)))))
def flr (f : Nat → Int32) (v : Int32) (i : Nat) : Nat → Int32 := fun j => if j < i then v else f j
theorem flr_upd (f : Nat → Int32) (v : Int32) (i : Nat) : upd (flr f v i) i v = flr f v (i + 1) := by
  funext j
  unfold upd flr
  by_cases h : j = i
  · subst h; rw [if_pos rfl, if_pos (by omega)]
  · rw [if_neg h]
    by_cases h2 : j < i
    · rw [if_pos h2, if_pos (by omega)]
    · rw [if_neg h2, if_neg (by omega)]
theorem fill_loop {G : zG} (ok : zOK G) {A : Nat → Prop} {sz a N : Nat} {f : Nat → Int32} {v : Int32} {u C : Nat × Nat} {Q : cQT} (hN : N < 10000) (K : cJ G A sz mJ7_fill_53178 1 C u Q 20 [(2, .int (nI N)), (3, .int (nI N)), (0, .ref a), (1, .int v)] [] [(a, .inl (zc G 0, N, .inl (flr f v N)))]) : ∀ (d i : Nat), N - i = d → i ≤ N → cJ G A sz mJ7_fill_53178 1 C u Q 5 [(2, .int (nI i)), (3, .int (nI N)), (0, .ref a), (1, .int v)] [] [(a, .inl (zc G 0, N, .inl (flr f v i)))] := by
  intro d
  induction d with
  | zero =>
    intro i hd hi
    have e : i = N := by omega
    subst e
    refine c_iload dJ7_fill_53178_5 0 rfl (c_iload dJ7_fill_53178_6 1 rfl (c_icmp_ge dJ7_fill_53178_7 (fun _ => K) (fun h => absurd (nI_le (Nat.le_refl _) (by omega)) h)))
  | succ d ih =>
    intro i hd hi
    refine c_iload dJ7_fill_53178_5 0 rfl (c_iload dJ7_fill_53178_6 1 rfl (c_icmp_ge dJ7_fill_53178_7 (fun h => absurd h (nI_ge (by omega) (by omega))) (fun _ => ?_)))
    refine c_aload dJ7_fill_53178_10 2 rfl (c_iload dJ7_fill_53178_11 0 rfl (c_iload dJ7_fill_53178_12 3 rfl (c_iast dJ7_fill_53178_13 ok 0 rfl (vp_in_nI (by omega) (by omega)) (ws1 := [(a, .inl (zc G 0, N, .inl (flr f v (i + 1))))]) ?_ ?_)))
    · rw [nI_clamp (by omega), flr_upd]; rfl
    · refine c_iinc dJ7_fill_53178_14 (Nat.le_of_ble_eq_true rfl) 0 rfl (L' := [(2, .int (nI (i + 1))), (3, .int (nI N)), (0, .ref a), (1, .int v)]) ?_ (c_goto dJ7_fill_53178_17 (ih (i + 1) (by omega) (by omega)))
      rw [nI_plus]; rfl
theorem mk_fill {G : zG} (ok : zOK G) (a N : Nat) (f : Nat → Int32) (v : Int32) (hN : N < 10000) : CM G mJ7_fill_53178 1 (0, 0) [.ref a, .int v] [(a, .inl (zc G 0, N, .inl f))] (fun r w1 => r = none ∧ w1 = [(a, .inl (zc G 0, N, .inl (fun _ => v)))]) := by
  refine CM.ofF (by decide +kernel) (Nat.le_of_ble_eq_true rfl) (fun sz hD0 => ?_)
  show cJ G _ sz mJ7_fill_53178 1 _ (0, 0) _ 0 [(0, Value.ref a), (1, Value.int v)] [] [(a, .inl (zc G 0, N, .inl f))]
  refine c_const dJ7_fill_53178_0 (c_istore dJ7_fill_53178_1 (Nat.le_of_ble_eq_true rfl) (L' := [(2, .int (nI 0)), (0, .ref a), (1, .int v)]) rfl (c_aload dJ7_fill_53178_2 1 rfl (c_alen dJ7_fill_53178_3 ok 0 (t0 := 0) rfl rfl rfl (c_istore dJ7_fill_53178_4 (Nat.le_of_ble_eq_true rfl) (L' := [(3, .int (nI N)), (2, .int (nI 0)), (0, .ref a), (1, .int v)]) rfl ?_))))
  refine c_loc (L' := [(2, .int (nI 0)), (3, .int (nI N)), (0, .ref a), (1, .int v)]) (by simp) ?_
  refine c_same (ws1 := [(a, .inl (zc G 0, N, .inl (flr f v 0)))]) (fun H hP => va_arr_eq (fun j _ => by unfold flr; rw [if_neg (by omega)]) hP) va_arr_D ?_
  refine fill_loop ok hN ?_ N 0 (by omega) (by omega)
  refine c_same (ws1 := [(a, .inl (zc G 0, N, .inl (fun _ => v)))]) (fun H hP => va_arr_eq (fun j hj => by unfold flr; rw [if_pos hj]) hP) va_arr_D ?_
  exact c_vret dJ7_fill_53178_20 rfl ⟨rfl, rfl⟩ rfl
theorem mk_row {G : zG} (ok : zOK G) {N : Nat} (hN : N < 10000) : CM G mX11_rowOfNone 3 (1, N) [.int (nI N)] [] (fun r w1 => ∃ q, r = some (.ref q) ∧ w1 = [(q, .inl (zc G 0, N, .inl (fun _ => (-1))))]) := by
  refine CM.of (by decide +kernel) (Nat.le_of_ble_eq_true rfl) (fun sz hD0 => ?_)
  have hA : ∀ q, sz ≤ q → va_A [] sz q := fun q h => Or.inr h
  show cJ G _ sz mX11_rowOfNone 3 _ (0, 0) _ 0 [(0, Value.int (nI N))] [] []
  refine c_iload dX11_rowOfNone_0 0 rfl (c_const dX11_rowOfNone_1 ?_)
  refine c_callS dX11_rowOfNone_2 ok hA (mk_max hN) (Nat.le_of_ble_eq_true rfl) cdJ9_max_7cf53 naJ9_max_7cf53 lkX11_447 stJ9_max_7cf53 rfl rfl (Nat.le_of_ble_eq_true rfl) [] [] rfl (wr := []) rfl (by decide) (by decide) (by decide) ⟨Nat.zero_le _, Nat.zero_le _⟩ (fun r w1 hp => ?_)
  obtain ⟨rfl, rfl⟩ := hp
  refine c_newai dX11_rowOfNone_5 ok hA ar_int (N := N) rfl hN ⟨Nat.le_refl 1, by show 0 + 0 + N ≤ N; omega⟩ (fun q => ?_)
  refine c_astore dX11_rowOfNone_7 (Nat.le_of_ble_eq_true rfl) (L' := [(1, .ref q), (0, .int (nI N))]) rfl (c_aload dX11_rowOfNone_8 0 rfl (c_const dX11_rowOfNone_9 ?_))
  refine c_callS dX11_rowOfNone_10 ok hA (mk_fill ok q N (fun _ => 0) (-1) hN) (Nat.le_of_ble_eq_true rfl) cdJ7_fill_53178 naJ7_fill_53178 lkX11_358 stJ7_fill_53178 rfl rfl (Nat.le_of_ble_eq_true rfl) [0] [] rfl (wr := []) rfl (by decide) (by decide) (by decide) ⟨Nat.le_refl 1, by show 0 + 0 + N + 0 ≤ N; omega⟩ (fun r w1 hp => ?_)
  obtain ⟨rfl, rfl⟩ := hp
  refine c_aload dX11_rowOfNone_13 0 rfl (c_aret dX11_rowOfNone_14 rfl (Or.inr ⟨_, rfl⟩) ⟨q, rfl, rfl⟩ ?_)
  show (0 + 0 + 1 + 0, 0 + 0 + N + 0) = (1, N)
  simp
