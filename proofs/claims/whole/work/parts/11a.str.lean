/-! string constants: the String methods that are reached -/
def zch (tx : String) (k : Nat) : Int32 := (tx.toList.map fun ch => nI ch.toNat).getD k 0
theorem zstr_asc : (zstr.all fun q => q.2.2.toList.all fun ch => decide (ch.toNat < 128)) = true := by decide +kernel
theorem zstr_len : (zstr.all fun q => decide (q.2.2.toList.length = q.2.2.length ∧ q.2.2.length < 1000)) = true := by decide +kernel
section ZT
variable {M : zY} {n : Nat} {C u : Nat × Nat} {Q : zQT} {pc pc' tgt : Nat} {L : List (Option zV)} {S : List zV} {μ : zM} {i : Nat} {q : String × Nat × String}
/-- what lies under the start stays, seen from here -/
theorem z_keep {G : zG} {μ : zM} {s : State} {H : Heap} {locs : List Loc} (hw : zWd G μ s H) (hS : va_S (zA G) s.heap H locs) (hz : (z0 G).heap.size ≤ s.heap.size) : ∀ a : Nat, a < (z0 G).heap.size → ¬ zA G a → s.heap[a]? = (z0 G).heap[a]? := fun a h1 h2 => by
  rw [← hS.2.1 a (Nat.lt_of_lt_of_le h1 hz) h2]; exact hw.2.2.2.2.1 a h1 h2
theorem z_strS {G : zG} {μ : zM} {s : State} {H : Heap} {locs : List Loc} (ok : zOK G) (hw : zWd G μ s H) (hS : va_S (zA G) s.heap H locs) (hz : (z0 G).heap.size ≤ s.heap.size) (hq : zstr[i]? = some q) : vk_S 1 [q.2.2.length] [q.2.2.toList.map fun ch => nI ch.toNat] (fun _ => za G 3 (i + 1)) (fun _ => za G 3 (i + 1001)) (zA G) s s.heap :=
  ((ok.2.2.2.2.1 i q hq).2.moved hw.2.2.1.alike).kept (z_keep hw hS hz)
theorem z_ldcs {idx : Nat} (hd : zd M.2.1 pc (.ldc idx) 2 pc') (hq : zstr[i]? = some q) (h1 : q.1 = M.1.cls) (h2 : q.2.1 = idx) (k : zJ M n C u Q pc' L (zq 3 (i + 1) :: S) μ) : zJ M n C u Q pc L S μ := by
  subst h2
  intro l G R p e s m args below meth c H locs ls hf ok hR hE hw hl hS hz
  obtain ⟨hd1, rfl⟩ := hd
  have hv := vk_R.warm hw.2.2.1 (ok.2.2.2.2.1 i q hq).1
  rw [h1] at hv
  exact va_ldcS hE.1 hE.2.1 hE.2.2.2.2.2 hv hd1 (k l G R p e s m args below meth c H locs ls hf ok hR hE hw hl hS hz)
theorem z_strV {idx : Nat} (hd : zd M.2.1 pc (.getfield idx) 3 pc') (hk : Cond.fieldLink M.1.cls idx "java/lang/String" "value" "[B" ∈ lw_tbl) (hq : zstr[i]? = some q) (k : zJ M n C u Q pc' L (zq 3 (i + 1001) :: S) μ) : zJ M n C u Q pc L (zq 3 (i + 1) :: S) μ := by
  intro l G R p e s m args below meth c H locs ls hf ok hR hE hw hl hS hz
  obtain ⟨hd1, rfl⟩ := hd
  exact vk_getf hE.1 hE.2.1 (((z_strS ok hw hS hz hq).1 0 (by decide)).2.2.1) hS hE.2.2.2.2.2 (z_word ok hw hk rfl) (fun x h => h) hd1 (k l G R p e s m args below meth c H locs ls hf ok hR hE hw hl hS hz)
theorem z_strC {idx : Nat} (hd : zd M.2.1 pc (.getfield idx) 3 pc') (hk : Cond.fieldLink M.1.cls idx "java/lang/String" "coder" "B" ∈ lw_tbl) (hq : zstr[i]? = some q) (k : zJ M n C u Q pc' L (zi 0 :: S) μ) : zJ M n C u Q pc L (zq 3 (i + 1) :: S) μ := by
  intro l G R p e s m args below meth c H locs ls hf ok hR hE hw hl hS hz
  obtain ⟨hd1, rfl⟩ := hd
  exact vk_getf hE.1 hE.2.1 (((z_strS ok hw hS hz hq).1 0 (by decide)).2.1) hS hE.2.2.2.2.2 (z_word ok hw hk rfl) (fun x h => h) hd1 (k l G R p e s m args below meth c H locs ls hf ok hR hE hw hl hS hz)
theorem z_compact {idx : Nat} (hd : zd M.2.1 pc (.getstatic idx) 3 pc') (hk : Cond.fieldLink M.1.cls idx "java/lang/String" "COMPACT_STRINGS" "Z" ∈ lw_tbl) (k : zJ M n C u Q pc' L (zi 1 :: S) μ) : zJ M n C u Q pc L S μ := by
  intro l G R p e s m args below meth c H locs ls hf ok hR hE hw hl hS hz
  obtain ⟨hd1, rfl⟩ := hd
  exact va_gets hE.1 hE.2.1 ((va_Z.moved hw.2.2.1.alike ok.2.2.2.2.2.1).kept (z_keep hw hS hz)) hS hE.2.2.2.2.2 (z_word ok hw hk rfl) (fun x h => h) hd1 (k l G R p e s m args below meth c H locs ls hf ok hR hE hw hl hS hz)
theorem z_alenS (hd : zd M.2.1 pc .arraylength 1 pc') (hq : zstr[i]? = some q) (k : zJ M n C u Q pc' L (zi (nI q.2.2.length) :: S) μ) : zJ M n C u Q pc L (zq 3 (i + 1001) :: S) μ := by
  intro l G R p e s m args below meth c H locs ls hf ok hR hE hw hl hS hz
  obtain ⟨hd1, rfl⟩ := hd
  exact va_tlen hE.1 hE.2.1 (((z_strS ok hw hS hz hq).1 0 (by decide)).2.2.2) hS rfl hd1 (k l G R p e s m args below meth c H locs ls hf ok hR hE hw hl hS hz)
theorem z_baldS {x : Nat} (hd : zd M.2.1 pc .baload 1 pc') (hq : zstr[i]? = some q) (hx : x < q.2.2.length) (k : zJ M n C u Q pc' L (zi (zch q.2.2 x) :: S) μ) : zJ M n C u Q pc L (zi (nI x) :: zq 3 (i + 1001) :: S) μ := by
  have hl0 := of_decide_eq_true (List.all_eq_true.mp zstr_len q (List.mem_of_getElem? hq))
  intro l G R p e s m args below meth c H locs ls hf ok hR hE hw hl hS hz
  obtain ⟨hd1, rfl⟩ := hd
  refine va_tb hE.1 hE.2.1 (((z_strS ok hw hS hz hq).1 0 (by decide)).2.2.2) hS (vp_in_nI (N := q.2.2.length) hx (by omega)) ?_ hd1 (k l G R p e s m args below meth c H locs ls hf ok hR hE hw hl hS hz)
  rw [nI_clamp (by omega)]; rfl
theorem z_i2c {x : Int32} (hd : zd M.2.1 pc .i2c 1 pc') (k : zJ M n C u Q pc' L (zi (x.toUInt32 % 65536).toInt32 :: S) μ) : zJ M n C u Q pc L (zi x :: S) μ := by
  intro l G R p e s m args below meth c H locs ls hf ok hR hE hw hl hS hz
  obtain ⟨h1, rfl⟩ := hd
  exact lv_i2c hE.1 hE.2.1 h1 rfl (k l G R p e s m args below meth c H locs ls hf ok hR hE hw hl hS hz)
theorem z_callZ {Y : zY} {kd idx na : Nat} {av st : List zV} {r : Option zV} {μ1 : zM} (hd : zd M.2.1 pc (.invokevirtual idx) 3 pc') (hM : LM Y kd (zq 3 (i + 1) :: av) μ r μ1) (hk : kd + 1 ≤ n) (hc : zcode Y) (hna : zinv Y na) (hl : Cond.methodLink M.1.cls idx Y.1 ∈ lw_tbl) (hi : Cond.instanceMethod Y.1 ∈ lw_tbl) (hse : Cond.selects Y.1.cls Y.1 Y.1 ∈ lw_tbl)
    (hq : zstr[i]? = some q) (hcl : Y.1.cls = "java/lang/String") (hn : av.length = na) (hst : st = av.reverse ++ zq 3 (i + 1) :: S) (h8 : zcatS S ≤ 8) (kk : zJ M n C u Q pc' L (r.toList ++ S) μ1) : zJ M n C u Q pc L st μ := by
  intro l G R p e s m args below meth c H locs ls hf ok hR hE hw hl0 hS hz
  obtain ⟨h1, rfl⟩ := hd
  rw [z_stk hst]
  refine z_after (r := r) (μ1 := μ1) (μ := μ) (va_runV (C := Y.1.cls) (Ts := []) (As := av.map (rv G)) (rest := S.map (rv G)) (b := za G 3 (i + 1)) (nL := M.2.2.1) ⟨hE.1, hE.2.1, hE.2.2.1, hE.2.2.2.2.2, fun w h => by cases h⟩ (hM l G hf ok) ⟨z_calB ok hw hR hc hna hk hl, z_word ok hw hi rfl, z_word ok hw hse rfl⟩ ⟨z_blind, ?_, fun U hU hW => ⟨rfl, hU ▸ hw.1, hw.2.1, State.WarmedH.trans hw.2.2.1 hW, hU ▸ hw.2.2.2⟩⟩ rfl (by rw [List.length_map]; exact hn) hl0.1 rfl ?_ h1 ⟨?_, ?_⟩) hw hS hz (fun H1 locs1 hw1 hS1 => ?_)
  · rw [hcl]; exact vk_recv (adK := fun _ => za G 3 (i + 1)) (i := 0) (z_strS ok hw hS hz hq) Nat.zero_lt_one hS
  · show 2 * 0 + _ ≤ 8
    rw [z_catS]; omega
  · rw [hR.2.2.1]; exact hR.2.2.2.2.1
  · rw [hR.2.2.2.1]; exact hR.2.2.2.2.2
  · rw [← z_ret]
    exact kk l G R p e s m args below meth c H1 locs1 ls hf ok hR hE hw1 hl0 hS1 hz
end ZT
