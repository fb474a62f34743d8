/-! the law from its entry -/
set_option maxRecDepth 50000 in
theorem sg_cs : Cond.eq (.static "java/lang/String" "COMPACT_STRINGS" "Z") (.int 1) ∈ sfl := List.mem_of_getElem? (i := 4) rfl
set_option maxRecDepth 50000 in
theorem sg_pf : Cond.isRef (.static "jdk/internal/util/Preconditions" "SIOOBE_FORMATTER" "Ljava/util/function/BiFunction;") ∈ sfl := List.mem_of_getElem? (i := 5) rfl
set_option maxRecDepth 50000 in
theorem sg_us : Cond.isRef (.static Bundle.tN "UNASSIGNED_STACK" Bundle.steD) ∈ sfl := List.mem_of_getElem? (i := 9) rfl
set_option maxRecDepth 50000 in
theorem sg_ss : Cond.isRef (.static Bundle.tN "SUPPRESSED_SENTINEL" Bundle.listD) ∈ sfl := List.mem_of_getElem? (i := 10) rfl
set_option maxRecDepth 50000 in
theorem sg_nc0 : Cond.not (.castable "java/util/NoSuchElementException" "java/lang/IndexOutOfBoundsException") ∈ sfl := List.mem_of_getElem? (i := 60) rfl
set_option maxRecDepth 50000 in
theorem sg_nc1 : Cond.not (.castable "java/lang/IllegalArgumentException" "java/lang/IndexOutOfBoundsException") ∈ sfl := List.mem_of_getElem? (i := 58) rfl
set_option maxRecDepth 50000 in
theorem sg_nc2 : Cond.not (.castable "java/lang/UnsupportedOperationException" "java/lang/IllegalArgumentException") ∈ sfl := List.mem_of_getElem? (i := 24) rfl
set_option maxRecDepth 50000 in
theorem sg_nc3 : Cond.not (.castable "java/lang/IllegalStateException" "java/lang/IndexOutOfBoundsException") ∈ sfl := List.mem_of_getElem? (i := 61) rfl
theorem sl_cs : Cond.laysStatic "java/lang/String" "COMPACT_STRINGS" "Z" ∈ lw_tbl := zt4 (List.mem_of_getElem? (i := 177) (rfl : tables_1_4[177]? = some (Cond.laysStatic "java/lang/String" "COMPACT_STRINGS" "Z")))
theorem sl_pf : Cond.laysStatic "jdk/internal/util/Preconditions" "SIOOBE_FORMATTER" "Ljava/util/function/BiFunction;" ∈ lw_tbl := zt4 (List.mem_of_getElem? (i := 193) (rfl : tables_1_4[193]? = some (Cond.laysStatic "jdk/internal/util/Preconditions" "SIOOBE_FORMATTER" "Ljava/util/function/BiFunction;")))
theorem sl_us : Cond.laysStatic Bundle.tN "UNASSIGNED_STACK" Bundle.steD ∈ lw_tbl := zt5 (List.mem_of_getElem? (i := 61) (rfl : tables_1_5[61]? = some (Cond.laysStatic Bundle.tN "UNASSIGNED_STACK" Bundle.steD)))
theorem sl_ss : Cond.laysStatic Bundle.tN "SUPPRESSED_SENTINEL" Bundle.listD ∈ lw_tbl := zt5 (List.mem_of_getElem? (i := 63) (rfl : tables_1_5[63]? = some (Cond.laysStatic Bundle.tN "SUPPRESSED_SENTINEL" Bundle.listD)))
theorem sz_st : Cond.initialized "java/lang/String" ∈ lw_tbl := zt1 (List.mem_of_getElem? (i := 17) (rfl : tables_1_1[17]? = some (Cond.initialized "java/lang/String")))
theorem sz_pc : Cond.initialized "jdk/internal/util/Preconditions" ∈ lw_tbl := zt1 (List.mem_of_getElem? (i := 19) (rfl : tables_1_1[19]? = some (Cond.initialized "jdk/internal/util/Preconditions")))
theorem sz_th : Cond.initialized Bundle.tN ∈ lw_tbl := zt1 (List.mem_of_getElem? (i := 21) (rfl : tables_1_1[21]? = some (Cond.initialized Bundle.tN)))
theorem s_cls {b : Nat} {s : State} (hts : ∀ w ∈ lw_tbl, w.before #[Value.ref b] s = true) : ∀ (c : Nat) (q : vw_C), zcl[c]? = some q → ∃ (cC : ClassId) (iS : Nat → Nat), u_Kn s q.1 q.2.1 q.2.2 cC iS := fun c q h => match c, h with
  | 0, h => by cases h; exact u_known hts (zws_in (ci := 0) rfl) (hts _ it_X0)
  | 1, h => by cases h; exact u_known hts (zws_in (ci := 1) rfl) (hts _ it_X1)
  | 2, h => by cases h; exact u_known hts (zws_in (ci := 2) rfl) (hts _ it_X2)
  | 3, h => by cases h; exact u_known hts (zws_in (ci := 3) rfl) (hts _ it_X3)
  | 4, h => by cases h; exact u_known hts (zws_in (ci := 4) rfl) (hts _ it_X4)
  | 5, h => by cases h; exact u_known hts (zws_in (ci := 5) rfl) (hts _ it_X5)
  | 6, h => by cases h; exact u_known hts (zws_in (ci := 6) rfl) (hts _ it_X6)
  | 7, h => by cases h; exact u_known hts (zws_in (ci := 7) rfl) (hts _ it_X7)
  | 8, h => by cases h; exact u_known hts (zws_in (ci := 8) rfl) (hts _ it_X8)
  | 9, h => by cases h; exact u_known hts (zws_in (ci := 9) rfl) (hts _ it_X9)
  | 10, h => by cases h; exact u_known hts (zws_in (ci := 10) rfl) (hts _ it_X10)
  | 11, h => by cases h; exact u_known hts (zws_in (ci := 11) rfl) (hts _ it_X11)
  | 12, h => by cases h; exact u_known hts (zws_in (ci := 12) rfl) (hts _ it_X12)
  | n + 13, h => by simp [zcl, vwCl] at h
theorem s_zstr {i : Nat} {q : String × Nat × String} (h : zstr[i]? = some q) : i < 41 := by
  have := (List.getElem?_eq_some_iff.mp h).1
  simpa [zstr] using this
/-- the machine at the entry -/
theorem s_ok {b L : Nat} {xs : Nat → Int32} {s : State} (hts : ∀ w ∈ lw_tbl, w.before #[Value.ref b] s = true) (hX : va_X b L xs s s.heap) (hbl : b < s.heap.size) (hg : (Cond.and given_1 narrow_1).before #[Value.ref b] s = true) : ∃ G : zG, z0 G = s ∧ zxs G = xs ∧ zLn G = L ∧ za G 3 0 = b ∧ zOK G ∧ zNC G := by
  have hf : ∀ w ∈ sfl, w.before #[Value.ref b] s = true := flat_of_before _ hg
  have hA : ∀ a : Nat, a < s.heap.size → ¬ (fun q => s.heap.size ≤ q) a := fun a h z => absurd z (by show ¬ s.heap.size ≤ a; omega)
  have hk : ∀ c : Nat, ∃ d : ClassId × (Nat → Nat), ∀ q, zcl[c]? = some q → u_Kn s q.1 q.2.1 q.2.2 d.1 d.2 := by
    intro c
    cases h : zcl[c]? with
    | none => exact ⟨(default, fun _ => 0), fun q hq => by cases hq⟩
    | some q =>
      obtain ⟨cC, iS, h1⟩ := s_cls hts c q h
      exact ⟨(cC, iS), fun q' hq => by cases hq; exact h1⟩
  obtain ⟨D, hD⟩ := Classical.axiomOfChoice hk
  obtain ⟨c0, ha0, hn0⟩ := s_arr (hts _ ar_int)
  obtain ⟨c1, ha1, hn1⟩ := s_arr (hts _ ar_byte)
  obtain ⟨c2, ha2, hn2⟩ := s_arr (hts _ ar_boolean)
  obtain ⟨c3, ha3, hn3⟩ := s_arr (hts _ ar_long)
  have hs : ∀ i : Nat, ∃ q : Nat × Nat, ∀ z : String × Nat × String, zstr[i]? = some z → vk_R z.1 z.2.1 z.2.2 q.1 s ∧ vk_S 1 [z.2.2.length] [z.2.2.toList.map fun ch => nI ch.toNat] (fun _ => q.1) (fun _ => q.2) (fun q => s.heap.size ≤ q) s s.heap := by
    intro i
    cases h : zstr[i]? with
    | none => exact ⟨(0, 0), fun z hz => by cases hz⟩
    | some z =>
      obtain ⟨a, v, h1, h2⟩ := ss_all hts hf _ hA i z h
      exact ⟨(a, v), fun z' hz => by cases hz; exact ⟨h1, h2⟩⟩
  obtain ⟨SA, hSA⟩ := Classical.axiomOfChoice hs
  refine ⟨(s, (fun c => (D c).1, fun c => (D c).2), fun _ k => if k = 0 then b else if k ≤ 1000 then (SA (k - 1)).1 else (SA (k - 1001)).2, fun t => if t = 0 then c0 else if t = 1 then c1 else if t = 2 then c2 else c3, xs, L), rfl, rfl, rfl, rfl, ⟨⟨fun c q hq => hD c q hq, fun k q hq => ?_⟩, hts, ⟨hX, hbl⟩, ⟨vx_Zqof (hts _ sl_us) (hts _ sz_th) (hf _ sg_us) hA, vx_Zqof (hts _ sl_ss) (hts _ sz_th) (hf _ sg_ss) hA⟩, fun i q h => ?_, ⟨va_Zof (hts _ sl_cs) (hts _ sz_st) (va_eqt (hf _ sg_cs)) hA, va_Zqof (hts _ sl_pf) (hts _ sz_pc) (hf _ sg_pf) hA⟩⟩, ?_⟩
  · match k, hq with
    | 0, hq => cases hq; exact ⟨ha0, hn0⟩
    | 1, hq => cases hq; exact ⟨ha1, hn1⟩
    | 2, hq => cases hq; exact ⟨ha2, hn2⟩
    | 3, hq => cases hq; exact ⟨ha3, hn3⟩
    | n + 4, hq => simp [zty] at hq
  · have hi := s_zstr h
    obtain ⟨h1, h2⟩ := hSA i q h
    generalize hk1 : i + 1 = k1
    generalize hk2 : i + 1001 = k2
    have e1 : (if k1 = 0 then b else if k1 ≤ 1000 then (SA (k1 - 1)).1 else (SA (k1 - 1001)).2) = (SA i).1 := by
      rw [if_neg (by omega), if_pos (by omega), show k1 - 1 = i by omega]
    have e2 : (if k2 = 0 then b else if k2 ≤ 1000 then (SA (k2 - 1)).1 else (SA (k2 - 1001)).2) = (SA i).2 := by
      rw [if_neg (by omega), if_neg (by omega), show k2 - 1001 = i by omega]
    show vk_R _ _ _ (if k1 = 0 then b else if k1 ≤ 1000 then (SA (k1 - 1)).1 else (SA (k1 - 1001)).2) s ∧ vk_S 1 _ _ (fun _ => (if k1 = 0 then b else if k1 ≤ 1000 then (SA (k1 - 1)).1 else (SA (k1 - 1001)).2)) (fun _ => (if k2 = 0 then b else if k2 ≤ 1000 then (SA (k2 - 1)).1 else (SA (k2 - 1001)).2)) _ _ _
    rw [e1, e2]
    exact ⟨h1, h2⟩
  · intro q hq
    simp only [zNcs, List.mem_cons, List.not_mem_nil, or_false] at hq
    rcases hq with rfl | rfl | rfl | rfl
    · exact va_Nc.of (hf _ sg_nc0)
    · exact va_Nc.of (hf _ sg_nc1)
    · exact va_Nc.of (hf _ sg_nc2)
    · exact va_Nc.of (hf _ sg_nc3)
theorem whole_start {p : Program} {e : Env} {s : State} {m : MethodId} {below : List Frame} {meth : Method} {c : Code} (l : Launch) (hflags : l.flags = flags0) {b L : Nat} {xs : Nat → Int32} (hL : L ≤ 3072) (C0 : lw_At p s m meth c b L xs) : W p l e room_1 s m #[Value.ref b] below meth c s.heap [] 0 0 (lw_Z below #[Value.ref b] s) (entryFrame m ([Value.ref b] : List Value).toArray 7) := by
  obtain ⟨hx, hb, hr, hml, hown, hts, hX, hbl, hlocks, hg⟩ := C0
  obtain ⟨G, rfl, rfl, rfl, rfl, ok, hNC⟩ := s_ok hts hX hbl hg
  rw [lg_entry_eq]
  have hl := lv_entry [Value.ref (za G 3 0)] (n := 7) (Nat.le_of_ble_eq_true rfl)
  have K := lw_make ok (Q := fun below args s' t => s'.heap = (z0 G).heap → lw_Z below args s' t) (sc := za G 3 0) (fun r m1 o q1 q2 q3 p1 p2 p3 p4 p5 p6 p7 p8 p9 p10 p11 a4 a5 a6 => by
    intro l R p e s' m args below meth c H locs ls hf hR hE hn hz hw hP hD hl hS
    by_cases h : s'.heap = (z0 G).heap
    · have pm : ((((((cT G r q1 q2 q3 (a4 0) (a5 0) (a6 0) ++ cWl G a4) ++ cWl G a5) ++ cWl G a6) ++ cMl G m1 p1 p2 p3 p4 p5 p6 p7 p8 p9 p10 p11) ++ [((o, .inl (zc G 3, 1, .inr (.inl fun _ => 0))) : Nat × va_E)])).Perm (zWS (zGw G (zaw G r m1 o q1 q2 q3 p1 p2 p3 p4 p5 p6 p7 p8 p9 p10 p11 a4 a5 a6)) m0) := by
        rw [zw_all]
        have := zw_perm (t := cT G r q1 q2 q3 (a4 0) (a5 0) (a6 0)) (w := cWl G a4 ++ (cWl G a5 ++ cWl G a6)) (m := cMl G m1 p1 p2 p3 p4 p5 p6 p7 p8 p9 p10 p11 ++ [((o, .inl (zc G 3, 1, .inr (.inl fun _ => 0))) : Nat × va_E)])
        simpa only [List.append_assoc] using this
      have hle : (z0 G).heap.size ≤ s'.heap.size := by rw [h]; exact Nat.le_refl _
      have hw' : zWd (zGw G (zaw G r m1 o q1 q2 q3 p1 p2 p3 p4 p5 p6 p7 p8 p9 p10 p11 a4 a5 a6)) m0 s' H := by
        refine ⟨va_P_perm pm hP, va_D_perm pm hD, hw, ?_, fun q h1 h2 => ?_, fun _ h => by cases h⟩
        · show (z0 G).heap.size ≤ H.size
          rw [← h]; exact hS.1
        · have := hS.2.1 q (by rw [h]; exact h1) h2
          rw [this, h]; rfl
      have hloc : zLoc (zGw G (zaw G r m1 o q1 q2 q3 p1 p2 p3 p4 p5 p6 p7 p8 p9 p10 p11 a4 a5 a6)) 7 ls (LH 0) := by
        refine ⟨hl.1, rfl, hl.2.1, fun i v hi => ?_⟩
        match i, hi with
        | 0, hi => cases hi; exact ⟨rfl, lv_at hl 4 rfl⟩
        | 1, hi => cases hi; exact ⟨rfl, lv_at hl 3 rfl⟩
        | 2, hi => cases hi; exact ⟨rfl, lv_at hl 2 rfl⟩
        | 3, hi => cases hi; exact ⟨rfl, lv_at hl 1 rfl⟩
        | 4, hi => cases hi; exact ⟨rfl, lv_at hl 0 rfl⟩
        | 5, hi => cases hi
        | 6, hi => cases hi
        | n + 7, hi => simp at hi
      have Z := lw_loop (xs := zxs G) hL 512 0 0 m0 (185, 17525) (by omega) (by omega) INV_0 (by omega) ⟨by decide, by decide⟩ l (zGw G (zaw G r m1 o q1 q2 q3 p1 p2 p3 p4 p5 p6 p7 p8 p9 p10 p11 a4 a5 a6)) R p e s' m args below meth c H locs ls hf ok hR hE hw' hloc hS hle
      exact zW_mono Z (fun t z _ => z ⟨rfl, rfl, hNC, by rw [h]; exact Nat.le_refl _⟩)
    · intro T hT X
      exact ⟨_, Steps.refl _, fun z => absurd z h⟩)
  have Z := K l room_1 p e (z0 G) m #[Value.ref (za G 3 0)] below meth c (z0 G).heap [] _ hflags ⟨by decide, by decide, rfl, rfl, by decide, by decide⟩ ⟨hx, hb, hml, hr, hlocks, hown⟩ (fun h => absurd h (by decide)) rfl (State.WarmedH.refl _) (fun k q hk => by simp at hk) ⟨fun i j p q hi => by simp at hi, fun k q hk => by simp at hk⟩ hl va_S.rf
  exact zW_mono Z (fun t z => z rfl)
