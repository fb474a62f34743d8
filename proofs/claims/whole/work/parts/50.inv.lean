/-! between calls -/
def rS (s l : Nat) (T : Nat × Nat) (X Y : zX) : Prop := ∃ m Z, wR (0, Z) s l m T X Y ∧ wC (gOf l X) s X ∧ K3 s X
/-- a byte -/
def byR (b : Int32) : Prop := ∃ n, n < 256 ∧ b = (Int8.ofNat n).toInt32
theorem byR_of (z : Int32) : byR (vp_nar .byte z) := by
  refine ⟨z.toInt8.toBitVec.toNat, z.toInt8.toBitVec.isLt, ?_⟩
  rw [vp_nar_byte]
  congr 1
  apply Int8.toBitVec_inj.1
  rw [Int8.toBitVec_ofNat', BitVec.ofNat_toNat, BitVec.setWidth_eq]
def tapeR (μ : zM) : Prop := ∃ len, len ≤ 400 ∧ μ 0 1 1 = nI len ∧ μ 1 0 7 = nI len ∧ ∀ i, i < len → μ 0 2 i = μ 1 5 i ∧ byR (μ 1 5 i)
/-- between calls: draws are drawn; how many texts there are -/
def md (X : zX) : Prop := X 2 1 = 0 ∧ leN (X 0 8) 12
theorem md.fr {L : List Nat} {X X' : zX} (h : md X) (f : fr L X X') (hL : (!L.contains 0 && !L.contains 2) = true) : md X' := by
  simp only [Bool.and_eq_true, Bool.not_eq_true'] at hL
  unfold md at *; rw [f 0 hL.1, f 2 hL.2]; exact h
def keptR (T : Nat) (μ : zM) : Prop := (μ 0 0 5 = nI 0 ∧ μ 1 0 5 = nI 0) ∨ (μ 0 0 5 = nI 1 ∧ μ 1 0 5 = nI 1 ∧ md (μ 5) ∧ ∃ s l nx, rS s l (T, nx) (μ 5) (zr (μ 1) 1 (μ 1 2)))
def INV (T : Nat) (μ : zM) : Prop := tapeR μ ∧ μ 0 0 6 = μ 1 0 11 ∧ md (μ 4) ∧ (∃ s l nx, rS s l (T, nx) (μ 4) (μ 1)) ∧ keptR T μ
def okR (T : Nat) (μ1 : zM) (res : Int32 ⊕ String) (cs : List String) (o : Option (Int32 × zX)) : Prop := ∃ b Y', o = some (b, Y') ∧ INV T (zg μ1 1 Y') ∧ (match res with
  | .inl r => Y' 0 0 = nI 0 ∧ b = r
  | .inr E => ∃ i, cs[i]? = some E ∧ Y' 0 0 = nI (i + 1))
theorem wR.mono {lo : Nat × (Nat → Int32)} {s l m : Nat} {T T' : Nat × Nat} {X Y : zX} (h : wR lo s l m T X Y) (h1 : T.1 ≤ T'.1) (h2 : T.2 = T'.2) : wR lo s l m T' X Y := by
  obtain ⟨⟨j0, j1, j2, j3, j4, j5, j6, j7, j8, j10, j11⟩, d⟩ := h
  refine ⟨⟨j0, ⟨j1.1.mono h1, h2 ▸ j1.2.1, h2 ▸ j1.2.2⟩, j2, h2 ▸ j3, j4, fun n o hn ho hne => ?_, j6, j7, ⟨j8.1, j8.2.1, fun k hk => ?_⟩, j10, j11⟩, d⟩
  · obtain ⟨g1, g2, g3⟩ := j5 n o hn ho hne
    refine ⟨g1.mono (by omega), g2, ?_⟩
    rcases g3 with g | ⟨ga, gb⟩
    · exact Or.inl g
    · exact Or.inr ⟨ga.mono h1, gb.mono h1⟩
  · obtain ⟨a1, a2, a3, a4, a5, a6⟩ := j8.2.2 k hk
    refine ⟨a1, a2, h2 ▸ a3, a4.mono h1, a5, fun z1 z2 => ?_⟩
    obtain ⟨b1, b2, b3⟩ := a6 z1 z2
    exact ⟨b1.mono h1, by omega, by omega⟩
theorem rS.mono {s l nx T T' : Nat} {X Y : zX} (h : rS s l (T, nx) X Y) (h1 : T ≤ T') : rS s l (T', nx) X Y := by
  obtain ⟨m, Z, h, a, b⟩ := h
  exact ⟨m, Z, h.mono h1 rfl, a, b⟩
theorem wR.row {lo : Nat × (Nat → Int32)} {s l m : Nat} {T : Nat × Nat} {X Y Y' : zX} (h : wR lo s l m T X Y) (e : Y' 1 = Y 1) : wR lo s l m T X Y' := by
  obtain ⟨i, d1, d2, d3, d4, d5, d6, d7, d8⟩ := h
  refine ⟨i, ?_, ?_, ?_, ?_, ?_, ?_, ?_, ?_⟩
  · unfold eDir at *; rw [e]; exact d1
  · unfold eUp at *; rw [e]; exact d2
  · unfold eCut at *; rw [e]; exact d3
  · unfold eAns at *; rw [e]; exact d4
  · unfold eGap at *; rw [e]; exact d5
  · unfold eLog at *; rw [e]; exact d6
  · unfold eEch at *; rw [e]; exact d7
  · unfold eOld at *; rw [e]; exact d8
theorem rS.row {s l : Nat} {T : Nat × Nat} {X Y Y' : zX} (h : rS s l T X Y) (e : Y' 1 = Y 1) : rS s l T X Y' := by
  obtain ⟨m, Z, h, a, b⟩ := h
  exact ⟨m, Z, h.row e, a, b⟩
/-- the reference's other cells, as far as they count -/
def stY (Y Y' : zX) : Prop := Y' 2 = Y 2 ∧ Y' 5 = Y 5 ∧ Y' 0 5 = Y 0 5 ∧ Y' 0 7 = Y 0 7 ∧ Y' 0 11 = Y 0 11
theorem stY.rf (Y : zX) : stY Y Y := ⟨rfl, rfl, rfl, rfl, rfl⟩
theorem stY.trans {Y Y' Y'' : zX} (h : stY Y Y') (h' : stY Y' Y'') : stY Y Y'' := ⟨h'.1.trans h.1, h'.2.1.trans h.2.1, h'.2.2.1.trans h.2.2.1, h'.2.2.2.1.trans h.2.2.2.1, h'.2.2.2.2.trans h.2.2.2.2⟩
theorem stY.fr {Y Y' : zX} {L : List Nat} (f : fr L Y Y') (hL : (!L.contains 0 && !L.contains 2 && !L.contains 5) = true) : stY Y Y' := by
  simp only [Bool.and_eq_true, Bool.not_eq_true'] at hL
  exact ⟨f 2 hL.1.2, f 5 hL.2, by rw [f 0 hL.1.1], by rw [f 0 hL.1.1], by rw [f 0 hL.1.1]⟩
theorem stY.w0 {Y Y' : zX} (h : stY Y Y') {i : Nat} {v : Int32} (hi : i ≠ 5 ∧ i ≠ 7 ∧ i ≠ 11) : stY Y (zw Y' 0 i v) := ⟨by rw [zw_row_ne (by decide)]; exact h.1, by rw [zw_row_ne (by decide)]; exact h.2.1, by rw [zw_no (by omega)]; exact h.2.2.1, by rw [zw_no (by omega)]; exact h.2.2.2.1, by rw [zw_no (by omega)]; exact h.2.2.2.2⟩
theorem stY.w1 {Y Y' : zX} (h : stY Y Y') {k i : Nat} {v : Int32} (hk : k ≠ 0 ∧ k ≠ 2 ∧ k ≠ 5) : stY Y (zw Y' k i v) := ⟨by rw [zw_row_ne (by omega)]; exact h.1, by rw [zw_row_ne (by omega)]; exact h.2.1, by rw [zw_no (by omega)]; exact h.2.2.1, by rw [zw_no (by omega)]; exact h.2.2.2.1, by rw [zw_no (by omega)]; exact h.2.2.2.2⟩
section IN
variable {T : Nat} {μ : zM}
theorem INV.now (h : INV T μ) {T' s l nx : Nat} {X' Y' : zX} (hT : T ≤ T') (st : stY (μ 1) Y') (hm : md X') (hr : rS s l (T', nx) X' Y') : INV T' (zg (zg μ 4 X') 1 Y') := by
  obtain ⟨⟨len, a1, a2, a3, a4⟩, b, c, d, e⟩ := h
  have g0 : zg (zg μ 4 X') 1 Y' 0 = μ 0 := by rw [zg_ne (by decide), zg_ne (by decide)]
  have g1 : zg (zg μ 4 X') 1 Y' 1 = Y' := zg_at _ _ _
  have g4 : zg (zg μ 4 X') 1 Y' 4 = X' := by rw [zg_ne (by decide), zg_at]
  have g5 : zg (zg μ 4 X') 1 Y' 5 = μ 5 := by rw [zg_ne (by decide), zg_ne (by decide)]
  unfold INV tapeR keptR
  rw [g0, g1, g4, g5]
  refine ⟨⟨len, a1, a2, by rw [st.2.2.2.1]; exact a3, fun i hi => by rw [st.2.1]; exact a4 i hi⟩, by rw [st.2.2.2.2]; exact b, hm, ⟨s, l, nx, hr⟩, ?_⟩
  rcases e with ⟨e1, e2⟩ | ⟨e1, e2, e3, s', l', nx', e4⟩
  · exact Or.inl ⟨e1, by rw [st.2.2.1]; exact e2⟩
  · exact Or.inr ⟨e1, by rw [st.2.2.1]; exact e2, e3, s', l', nx', (e4.mono hT).row (by rw [zr_at, zr_at]; exact st.1)⟩
theorem INV.mono (h : INV T μ) {T' : Nat} (hT : T ≤ T') : INV T' μ := by
  obtain ⟨a, b, c, ⟨s, l, nx, d⟩, e⟩ := h
  refine ⟨a, b, c, ⟨s, l, nx, d.mono hT⟩, ?_⟩
  rcases e with e | ⟨e1, e2, e3, s', l', nx', e4⟩
  · exact Or.inl e
  · exact Or.inr ⟨e1, e2, e3, s', l', nx', e4.mono hT⟩
theorem INV.ref (h : INV T μ) {Y' : zX} (st : stY (μ 1) Y') (e : Y' 1 = μ 1 1) : INV T (zg μ 1 Y') := by
  obtain ⟨s, l, nx, d⟩ := h.2.2.2.1
  have := h.now (Nat.le_refl T) st h.2.2.1 (d.row e)
  rw [zg_id] at this
  exact this
theorem okR_val (h : INV T μ) {Y' : zX} (st : stY (μ 1) Y') (e : Y' 1 = μ 1 1) (h0 : Y' 0 0 = nI 0) (r : Int32) (cs : List String) : okR T μ (.inl r) cs (some (r, Y')) := ⟨r, Y', rfl, h.ref st e, h0, rfl⟩
theorem okR_thr (h : INV T μ) {Y' : zX} (st : stY (μ 1) Y') (e : Y' 1 = μ 1 1) (i : Nat) {E : String} {cs : List String} (hE : cs[i]? = some E) (h0 : Y' 0 0 = nI (i + 1)) (b : Int32) : okR T μ (.inr E) cs (some (b, Y')) := ⟨b, Y', rfl, h.ref st e, i, hE, h0⟩
end IN
theorem y_thr0 (c : Int32) (Y : zX) : eX12_throwsIf (nI 0) c Y = some (nI 0, Y) := by
  unfold eX12_throwsIf
  rw [if_pos (show nI 0 = 0 from rfl)]; rfl
theorem y_thr1 (c : Int32) (Y : zX) : eX12_throwsIf (nI 1) c Y = some (nI 1, zw Y 0 0 c) := by
  unfold eX12_throwsIf
  rw [if_neg (by decide)]; rfl
/-- in a range, or not -/
theorem rg_cases (x : Int32) {N : Nat} (hN : N < 2147483648) : (∃ n, n < N ∧ x = nI n) ∨ (x < 0 ∨ nI N ≤ x) := by
  by_cases c : x < 0 ∨ nI N ≤ x
  · exact Or.inr c
  · have h1 : ¬ x < 0 := fun z => c (Or.inl z)
    obtain ⟨j, hj, rfl⟩ := nI_of h1
    exact Or.inl ⟨j, by have : ¬ N ≤ j := fun z => c (Or.inr ((nI_leI hN hj).mpr z)); omega, rfl⟩
theorem rg_in {n N : Nat} (h : n < N) (hN : N < 2147483648) : ¬ (nI n < 0 ∨ nI N ≤ nI n) := fun z => by
  rcases z with z | z
  · exact nI_pos (by omega) z
  · exact nI_ge h hN z
theorem rg_y {n N : Nat} (h : n < N) (hN : N < 2147483648) : (¬ (nI n < nI 0)) ∧ (¬ ((nI N - nI 1) < nI n)) := by
  refine ⟨nI_pos (by omega), ?_⟩
  rw [nI_sub (by omega)]
  exact nI_nlt (by omega) (by omega)
theorem rg_n {x : Int32} {N : Nat} (hN : N < 2147483648) (h : x < 0 ∨ nI N ≤ x) : ¬ ((¬ (x < nI 0)) ∧ (¬ ((nI N - nI 1) < x))) := by
  rintro ⟨a, b⟩
  rcases h with z | z
  · exact a z
  · apply b
    rw [Int32.lt_iff_toInt_lt]
    rw [Int32.le_iff_toInt_le, nI_toInt hN] at z
    have : (nI N - nI 1).toInt = (N : Int) - 1 := by
      rw [Int32.toInt_sub, nI_toInt hN, i_1, Int.bmod_def]
      split <;> omega
    omega
section NN
variable {lo : Nat × (Nat → Int32)} {s l m : Nat} {T : Nat × Nat} {X Y : zX}
theorem y_noNode1 (h : wR lo s l m T X Y) {n : Nat} (hn : n < s) : eX12_noNode (nI n) Y = some (nI 0) := by
  have hs := h.hs
  unfold eX12_noNode
  rw [h.nn, h.nodes, if_pos (rg_y hn (by omega))]
theorem y_noNode2 (h : wR lo s l m T X Y) {x : Int32} (hx : x < 0 ∨ nI s ≤ x) : eX12_noNode x Y = some (nI 1) := by
  have hs := h.hs
  unfold eX12_noNode
  rw [h.nn, h.nodes, if_neg (rg_n (by omega) hx)]
theorem y_noLink1 (h : wR lo s l m T X Y) {n : Nat} (hn : n < l) : eX12_noLink (nI n) Y = some (nI 0) := by
  have hs := h.hl
  unfold eX12_noLink
  rw [h.ln, h.links, if_pos (rg_y hn (by omega))]
theorem y_noLink2 (h : wR lo s l m T X Y) {x : Int32} (hx : x < 0 ∨ nI l ≤ x) : eX12_noLink x Y = some (nI 1) := by
  have hs := h.hl
  unfold eX12_noLink
  rw [h.ln, h.links, if_neg (rg_n (by omega) hx)]
theorem y_nnp1 (h : wR lo s l m T X Y) {n p : Nat} (hn : n < s) (hp : p < 12) : eX12_noNodePacket (nI n) (nI p) Y = some (nI 0, zw Y 0 0 (nI 0)) := by
  unfold eX12_noNodePacket
  rw [y_noNode1 (h.row (Y' := zw Y 0 0 (nI 0)) (zw_row_ne (by decide))) hn, qbd, if_pos (show nI 0 = 0 from rfl), if_neg (fun z => z ⟨nI_pos (by omega), nI_nlt (by omega) (by omega)⟩)]
  unfold jX12_noNodePacket_26
  rw [y_thr0, qbd]; rfl
theorem y_nnp2 (h : wR lo s l m T X Y) {x y : Int32} (hx : (x < 0 ∨ nI s ≤ x) ∨ (y < 0 ∨ nI 12 ≤ y)) : eX12_noNodePacket x y Y = some (nI 1, zw (zw Y 0 0 (nI 0)) 0 0 (nI 1)) := by
  have hs := h.hs
  unfold eX12_noNodePacket
  have e : jX12_noNodePacket_21 (zw Y 0 0 (nI 0)) = some (nI 1, zw (zw Y 0 0 (nI 0)) 0 0 (nI 1)) := by
    unfold jX12_noNodePacket_21 jX12_noNodePacket_26
    rw [y_thr1, qbd]; rfl
  have h' := h.row (Y' := zw Y 0 0 (nI 0)) (zw_row_ne (by decide))
  rcases rg_cases x (N := s) (by omega) with ⟨n, hn, rfl⟩ | hx2
  · rw [y_noNode1 h' hn, qbd, if_pos (show nI 0 = 0 from rfl)]
    have hy : y < 0 ∨ nI 12 ≤ y := hx.resolve_left (rg_in hn (by omega))
    have hy2 : ¬ ((¬ (y < nI 0)) ∧ (¬ ((nI 11) < y))) := by
      have := rg_n (N := 12) (by omega) hy
      rw [nI_sub (by omega)] at this
      exact this
    rw [if_pos hy2, e]
  · rw [y_noNode2 h' hx2, qbd, if_neg (by decide), e]
end NN
