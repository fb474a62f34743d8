/-! the start: the law's three news; the memory behind them -/
def cMl (G : zG) (h q1 q2 q3 q4 q5 q6 q7 q8 q9 q10 q11 : Nat) : va_W := [(h, .inr (12, [.int 0, .ref q1, .ref q2, .ref q3, .ref q4, .int 0, .ref q5, .int 0, .int 0, .int 0, .int 0, .int (-1), .ref q6, .ref q7, .ref q8, .ref q9, .int 0, .ref q10, .ref q11])), (q1, .inl (zc G 0, 2422, .inl (upd (upd (upd (upd (upd (upd (fun _ => 0) 5 (nI 5)) 8 (nI 8)) 9 (nI 8)) 10 (nI 4)) 11 (nI 4)) 17 (nI 1)))), (q2, .inl (zc G 0, 2422, .inl fun _ => 0)), (q3, .inl (zc G 0, 2422, .inl fun _ => 0)), (q4, .inl (zc G 0, 2422, .inl fun _ => 0)), (q5, .inl (zc G 1, 400, .inl fun _ => 0)), (q6, .inl (zc G 0, 5, .inl fun _ => 0)), (q7, .inl (zc G 0, 36, .inl fun _ => 0)), (q8, .inl (zc G 0, 36, .inl fun _ => 0)), (q9, .inl (zc G 0, 36, .inl fun _ => 0)), (q10, .inl (zc G 2, 6, .inl fun _ => 0)), (q11, .inl (zc G 0, 6, .inl fun _ => 0))]
def m0 : zM := fun j k => if j = 0 then (if k = 0 then (fun i => if i = 6 then -1 else nI 0) else fun _ => 0) else if j = 1 then (if k = 0 then (fun i => if i = 11 then -1 else 0) else if k = 1 then (upd (upd (upd (upd (upd (upd (fun _ => 0) 5 (nI 5)) 8 (nI 8)) 9 (nI 8)) 10 (nI 4)) 11 (nI 4)) 17 (nI 1)) else fun _ => 0) else if j = 2 then (fun _ => 0) else rw0 k
theorem lw_make {G : zG} (ok : zOK G) {Q : cQT} {sc : Nat} (K : ∀ (r m o q1 q2 q3 p1 p2 p3 p4 p5 p6 p7 p8 p9 p10 p11 : Nat) (a4 a5 a6 : Nat → Nat), cJ G (zA G) (z0 G).heap.size mL_law 14 cC (185, 17525) Q 23 [(4, .int (nI 0)), (3, .ref o), (2, .ref m), (1, .ref r), (0, .ref sc)] [] (((((cT G r q1 q2 q3 (a4 0) (a5 0) (a6 0) ++ cWl G a4) ++ cWl G a5) ++ cWl G a6) ++ cMl G m p1 p2 p3 p4 p5 p6 p7 p8 p9 p10 p11) ++ [(o, .inl (zc G 3, 1, .inr (.inl fun _ => 0)))])) : cJ G (zA G) (z0 G).heap.size mL_law 14 cC (0, 0) Q 0 [(0, .ref sc)] [] [] := by
  have hA : ∀ q, (z0 G).heap.size ≤ q → zA G q := fun q h => h
  refine c_new dL_law_0 ok hA (ci := 11) rfl clL_8 it_X11 iz_X11 (fs := [.null, .null, .null, .null, .null, .int 0, .int 0]) (fun j hj => match j, hj with | 0, _ => rfl | 1, _ => rfl | 2, _ => rfl | 3, _ => rfl | 4, _ => rfl | 5, _ => rfl | 6, _ => rfl) ⟨(Nat.le_of_ble_eq_true rfl), (Nat.le_of_ble_eq_true rfl)⟩ (fun r => ?_)
  refine c_dup dL_law_3 ?_
  refine c_callIE (M := mL_law) (n := 14) (C := cC) (pc := 4) (S := [.ref r]) (st := [.ref r, .ref r]) (w := []) (x := (r, .inr (11, [.null, .null, .null, .null, .null, .int 0, .int 0]))) dL_law_4 ok hA (mk_X11 ok r) (Nat.le_of_ble_eq_true rfl) cdX11_init naX11_init lkL_121 imX11_init rfl rfl rfl (Nat.le_of_ble_eq_true rfl) ⟨(Nat.le_of_ble_eq_true rfl), (Nat.le_of_ble_eq_true rfl)⟩ (fun r1 w1 hp => ?_)
  obtain ⟨rfl, q1, q2, q3, a4, a5, a6, rfl⟩ := hp
  refine c_astore dL_law_7 (Nat.le_of_ble_eq_true rfl) (L' := [(1, .ref r), (0, .ref sc)]) rfl ?_
  refine c_new dL_law_8 ok hA (ci := 12) rfl clL_122 it_X12 iz_X12 (fs := [.int 0, .null, .null, .null, .null, .int 0, .null, .int 0, .int 0, .int 0, .int 0, .int 0, .null, .null, .null, .null, .int 0, .null, .null]) (fun j hj => match j, hj with | 0, _ => rfl | 1, _ => rfl | 2, _ => rfl | 3, _ => rfl | 4, _ => rfl | 5, _ => rfl | 6, _ => rfl | 7, _ => rfl | 8, _ => rfl | 9, _ => rfl | 10, _ => rfl | 11, _ => rfl | 12, _ => rfl | 13, _ => rfl | 14, _ => rfl | 15, _ => rfl | 16, _ => rfl | 17, _ => rfl | 18, _ => rfl | n + 19, h => absurd h (by omega)) ⟨(Nat.le_of_ble_eq_true rfl), (Nat.le_of_ble_eq_true rfl)⟩ (fun m => ?_)
  refine c_dup dL_law_11 ?_
  refine c_callIE (M := mL_law) (n := 14) (C := cC) (pc := 12) (S := [.ref m]) (st := [.ref m, .ref m]) (w := ((cT G r q1 q2 q3 (a4 0) (a5 0) (a6 0) ++ cWl G a4) ++ cWl G a5) ++ cWl G a6) (x := (m, .inr (12, [.int 0, .null, .null, .null, .null, .int 0, .null, .int 0, .int 0, .int 0, .int 0, .int 0, .null, .null, .null, .null, .int 0, .null, .null]))) dL_law_12 ok hA (mk_X12 ok m) (Nat.le_of_ble_eq_true rfl) cdX12_init naX12_init lkL_124 imX12_init rfl rfl rfl (Nat.le_of_ble_eq_true rfl) ⟨(Nat.le_of_ble_eq_true rfl), (Nat.le_of_ble_eq_true rfl)⟩ (fun r1 w1 hp => ?_)
  obtain ⟨rfl, p1, p2, p3, p4, p5, p6, p7, p8, p9, p10, p11, rfl⟩ := hp
  refine c_astore dL_law_15 (Nat.le_of_ble_eq_true rfl) (L' := [(2, .ref m), (1, .ref r), (0, .ref sc)]) rfl ?_
  refine c_const dL_law_16 (c_newal dL_law_17 ok hA ar_long (N := 1) rfl (by decide) ⟨(Nat.le_of_ble_eq_true rfl), (Nat.le_of_ble_eq_true rfl)⟩ (fun o => ?_))
  refine c_astore dL_law_19 (Nat.le_of_ble_eq_true rfl) (L' := [(3, .ref o), (2, .ref m), (1, .ref r), (0, .ref sc)]) rfl ?_
  refine c_const dL_law_20 (c_istore dL_law_21 (Nat.le_of_ble_eq_true rfl) (L' := [(4, .int (nI 0)), (3, .ref o), (2, .ref m), (1, .ref r), (0, .ref sc)]) rfl ?_)
  exact K r m o q1 q2 q3 p1 p2 p3 p4 p5 p6 p7 p8 p9 p10 p11 a4 a5 a6
theorem va_P_perm {D : va_G} {cl : List vw_C} {ws ws' : va_W} {H : Heap} (h : ws.Perm ws') (hP : va_P D cl ws H) : va_P D cl ws' H := fun k q hk => by
  obtain ⟨k', hk'⟩ := List.getElem?_of_mem (h.mem_iff.mpr (List.mem_of_getElem? hk))
  exact hP k' q hk'
theorem va_D_nodup {A : Nat → Prop} {ws : va_W} : va_D A ws ↔ (ws.map (·.1)).Nodup ∧ ∀ q ∈ ws, A q.1 := by
  constructor
  · intro h
    refine ⟨?_, fun q hq => ?_⟩
    · unfold List.Nodup
      rw [List.pairwise_iff_getElem]
      intro i j hi hj hij e
      rw [List.getElem_map, List.getElem_map] at e
      have := h.1 i j _ _ (List.getElem?_eq_getElem (by simpa using hi)) (List.getElem?_eq_getElem (by simpa using hj)) e
      omega
    · obtain ⟨k, hk⟩ := List.getElem?_of_mem hq
      exact h.2 k q hk
  · rintro ⟨h1, h2⟩
    refine ⟨fun i j p q hi hj e => ?_, fun k q hk => h2 q (List.mem_of_getElem? hk)⟩
    unfold List.Nodup at h1
    rw [List.pairwise_iff_getElem] at h1
    obtain ⟨li, ei⟩ := List.getElem?_eq_some_iff.mp hi
    obtain ⟨lj, ej⟩ := List.getElem?_eq_some_iff.mp hj
    rcases Nat.lt_trichotomy i j with h | h | h
    · exact absurd (by rw [List.getElem_map, List.getElem_map, ei, ej]; exact e) (h1 i j (by simpa using li) (by simpa using lj) h)
    · exact h
    · exact absurd (by rw [List.getElem_map, List.getElem_map, ei, ej]; exact e.symm) (h1 j i (by simpa using lj) (by simpa using li) h)
theorem va_D_perm {A : Nat → Prop} {ws ws' : va_W} (h : ws.Perm ws') (hD : va_D A ws) : va_D A ws' := by
  rw [va_D_nodup] at hD ⊢
  exact ⟨((h.map (·.1)).nodup_iff).mp hD.1, fun q hq => hD.2 q (h.mem_iff.mpr hq)⟩
