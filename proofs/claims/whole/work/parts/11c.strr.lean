/-! rows for length() and charAt(..) of the constants, by their signs' numbers -/
def zstrT : List (List Nat) := [
  [110, 111, 100, 101],
  [100, 111, 119, 110],
  [108, 105, 110, 107],
  [100, 101, 108, 97, 121],
  [108, 111, 115, 115],
  [114, 101, 113, 117, 101, 115, 116],
  [114, 101, 112, 97, 105, 114],
  [115, 111, 117, 114, 99, 101],
  [115, 99, 111, 112, 101],
  [115, 101, 115, 115, 105, 111, 110],
  [114, 97, 116, 101],
  [116, 104, 101, 32, 116, 101, 120, 116, 32, 105, 115, 32, 119, 114, 111, 110, 103],
  [116, 104, 101, 114, 101, 32, 97, 114, 101, 32, 49, 50, 32, 116, 101, 120, 116, 115],
  [110, 111, 32, 115, 117, 99, 104, 32, 110, 111, 100, 101],
  [110, 111, 32, 115, 117, 99, 104, 32, 116, 104, 105, 110, 103, 32, 111, 102, 32, 97, 32, 110, 111, 100, 101],
  [98, 111, 116, 104, 32, 110, 111, 100, 101, 115, 32, 97, 114, 101, 32, 111, 110, 101],
  [110, 111, 32, 115, 117, 99, 104, 32, 112, 97, 99, 107, 101, 116],
  [110, 111, 32, 115, 117, 99, 104, 32, 116, 104, 105, 110, 103, 32, 111, 102, 32, 97, 32, 110, 111, 100, 101, 32, 97, 110, 100, 32, 97, 32, 112, 97, 99, 107, 101, 116],
  [110, 111, 32, 115, 117, 99, 104, 32, 108, 105, 110, 107],
  [110, 111, 32, 115, 117, 99, 104, 32, 116, 104, 105, 110, 103, 32, 111, 102, 32, 97, 32, 108, 105, 110, 107],
  [110, 111, 32, 115, 117, 99, 104, 32, 109, 101, 115, 115, 97, 103, 101],
  [110, 111, 32, 115, 117, 99, 104, 32, 116, 104, 105, 110, 103, 32, 111, 102, 32, 97, 32, 109, 101, 115, 115, 97, 103, 101],
  [49, 32, 116, 111, 32, 54, 48, 32, 116, 105, 99, 107, 115],
  [116, 104, 101, 32, 115, 111, 117, 114, 99, 101, 32, 99, 97, 110, 110, 111, 116, 32, 115, 101, 110, 100],
  [97, 32, 108, 111, 115, 115, 32, 105, 115, 32, 48, 32, 116, 111, 32, 49, 48, 48],
  [116, 104, 101, 32, 112, 97, 99, 107, 101, 116, 32, 119, 97, 115, 32, 110, 111, 116, 32, 115, 101, 110, 116, 32, 121, 101, 116],
  [97, 32, 115, 99, 111, 112, 101, 32, 105, 115, 32, 48, 32, 116, 111, 32, 53],
  [48, 32, 116, 111, 32, 49, 50, 48, 32, 116, 105, 99, 107, 115, 32, 97, 104, 101, 97, 100],
  [48, 32, 116, 111, 32, 50, 48, 32, 116, 105, 99, 107, 115, 32, 97, 104, 101, 97, 100],
  [110, 111, 32, 115, 117, 99, 104, 32, 116, 104, 105, 110, 103, 32, 111, 102, 32, 97, 32, 114, 111, 119],
  [110, 111, 100, 101],
  [100, 111, 119, 110],
  [108, 105, 110, 107],
  [100, 101, 108, 97, 121],
  [108, 111, 115, 115],
  [115, 111, 117, 114, 99, 101],
  [114, 101, 113, 117, 101, 115, 116],
  [114, 101, 112, 97, 105, 114],
  [115, 99, 111, 112, 101],
  [115, 101, 115, 115, 105, 111, 110],
  [114, 97, 116, 101]]
theorem zstrT_ok : ((List.range 41).all fun i => match zstr[i]?, zstrT[i]? with
  | some q, some cs => decide (q.2.2.length = cs.length ∧ q.2.2.toList.map (fun ch => ch.toNat) = cs)
  | none, none => true
  | _, _ => false) = true := by decide +kernel
theorem zstrT_at {i : Nat} {cs : List Nat} (h : zstrT[i]? = some cs) : ∃ q, zstr[i]? = some q ∧ q.2.2.length = cs.length ∧ q.2.2.toList.map (fun ch => ch.toNat) = cs := by
  have hi : i < 41 := (List.getElem?_eq_some_iff.mp h).1
  have h2 := List.all_eq_true.mp zstrT_ok i (List.mem_range.mpr hi)
  rw [h] at h2
  cases hq : zstr[i]? with
  | none => rw [hq] at h2; cases h2
  | some q =>
    rw [hq] at h2
    exact ⟨q, rfl, (of_decide_eq_true h2).1, (of_decide_eq_true h2).2⟩
theorem zch_cs {tx : String} {cs : List Nat} (h : tx.toList.map (fun ch => ch.toNat) = cs) {x : Nat} (hx : x < cs.length) : zch tx x = nI (cs.getD x 0) := by
  subst h
  unfold zch
  have hx' : x < tx.toList.length := by simpa using hx
  simp [List.getD, List.getElem?_map, List.getElem?_eq_getElem hx']
section ZU
variable {M : zY} {n : Nat} {C u : Nat × Nat} {Q : zQT} {pc pc' : Nat} {L : List (Option zV)} {S : List zV} {μ : zM} {i idx : Nat} {cs : List Nat}
theorem z_strlen (hd : zd M.2.1 pc (.invokevirtual idx) 3 pc') (hl : Cond.methodLink M.1.cls idx yJ0_length_8abf5 ∈ lw_tbl) (hc : zstrT[i]? = some cs) (hn : 3 ≤ n) (h8 : zcatS S ≤ 8) (kk : zJ M n C u Q pc' L (zi (nI cs.length) :: S) μ) : zJ M n C u Q pc L (zq 3 (i + 1) :: S) μ := by
  obtain ⟨q, hq, h1, -⟩ := zstrT_at hc
  refine z_callZ (av := []) hd (tJ0_length hq) hn cdJ0_length_8abf5 naJ0_length_8abf5 hl imJ0_length_8abf5 seJ0_length_8abf5 hq rfl rfl rfl h8 ?_
  rw [h1]; exact kk
theorem z_charAt {x : Int32} (hd : zd M.2.1 pc (.invokevirtual idx) 3 pc') (hl : Cond.methodLink M.1.cls idx yJ0_charAt_5068e ∈ lw_tbl) (hc : zstrT[i]? = some cs) (hx : zin x cs.length = true) (hn : 5 ≤ n) (h8 : zcatS S ≤ 8) (kk : zJ M n C u Q pc' L (zi (nI (cs.getD (zn x) 0)) :: S) μ) : zJ M n C u Q pc L (zi x :: zq 3 (i + 1) :: S) μ := by
  obtain ⟨q, hq, h1, h2⟩ := zstrT_at hc
  have hb := (zstr_l hq).2
  obtain ⟨j, hj, rfl⟩ := vp_in_of (zin_vp hx) (by omega)
  refine z_callZ (av := [zi (nI j)]) hd (tJ0_charAt hq (by omega)) hn cdJ0_charAt_5068e naJ0_charAt_5068e hl imJ0_charAt_5068e seJ0_charAt_5068e hq rfl rfl rfl h8 ?_
  rw [zch_cs h2 hj]
  have e : zn (nI j) = j := nI_clamp (by omega)
  rw [e] at kk
  exact kk
end ZU
