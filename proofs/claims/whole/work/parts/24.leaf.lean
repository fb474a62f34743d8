/-! leaves: draws, times -/
theorem fr.sub {L L' : List Nat} {X X' : zX} (h : fr L X X') (hL : L.all (fun a => L'.contains a) = true) : fr L' X X' := h.mono fun k hk => by
  cases q : L.contains k with
  | false => rfl
  | true =>
    have := List.all_eq_true.mp hL k (List.contains_iff_mem.mp q)
    rw [hk] at this; cases this
def wS (lo : Nat × (Nat → Int32)) (s l m : Nat) (T : Nat × Nat) (X Y : zX) : Prop := wR lo s l m T X Y ∧ X 2 1 = Y 0 16
theorem q_draw (x : Int32) : (zush x (nI 16)) &&& nI 32767 = (x >>> (nI 16 &&& 31)) &&& nI 32767 := by
  apply b_ext
  intro i hi
  unfold zush
  have e : bt (nI 32767) i = decide (i < 15) := by
    have : ∀ i, i < 32 → bt (nI 32767) i = decide (i < 15) := by decide +kernel
    exact this i hi
  rw [b_and, b_and, b_ushr 16 (by omega), b_sshr 16 (by omega) _ hi, e]
  by_cases h : i < 15
  · rw [if_pos (by omega)]
  · simp [h]
theorem q_draw_le (x : Int32) : leN ((x >>> (nI 16 &&& 31)) &&& nI 32767) 32767 := by
  generalize (x >>> (nI 16 &&& 31)) = y
  refine ⟨(y.toBitVec.toNat % 32768), by omega, ?_⟩
  apply b_ext
  intro i hi
  have e : bt (nI 32767) i = decide (i < 15) := by
    have : ∀ i, i < 32 → bt (nI 32767) i = decide (i < 15) := by decide +kernel
    exact this i hi
  rw [b_and, e]
  unfold bt
  show _ = (BitVec.ofNat 32 (y.toBitVec.toNat % 2 ^ 15)).getLsbD i
  rw [BitVec.getLsbD_ofNat, Nat.testBit_mod_two_pow]
  simp [hi, BitVec.getLsbD, Bool.and_comm]
theorem zrem_1 (y : Int32) : zrem y (nI 1) = nI 0 := by
  unfold zrem
  have h : y / nI 1 = y := by
    apply Int32.toInt_inj.mp
    rw [Int32.toInt_div, show (nI 1).toInt = 1 by decide, Int.tdiv_one]
    exact Int32.toInt_bmod y
  rw [h, show y * nI 1 = y from Int32.mul_one y, Int32.sub_self]; rfl
section LF
variable {lo : Nat × (Nat → Int32)} {s l m : Nat} {T : Nat × Nat} {X Y : zX}
theorem wS.mode (h : wS lo s l m T X Y) : Y 0 16 = X 2 1 := h.2.symm
/-- a draw -/
theorem s_draw (h : wS lo s l m T X Y) (hT : X 2 1 = 0) {q : Nat} (hq : q < 1000000000) : ∃ r X' Y', eX1_upTo (nI q) X = some (r, X') ∧ eX12_drawn (nI (q + 1)) Y = some (r, Y') ∧ wS lo s l m T X' Y' ∧ fr [2] X X' ∧ fr [1] Y Y' ∧ leN r q := by
  have h1 := h.1
  refine ⟨zrem ((((1103515245 * (X 2 0)) + (nI 12345)) >>> (nI 16 &&& 31)) &&& nI 32767) (nI (q + 1)), zw X 2 0 ((1103515245 * (X 2 0)) + (nI 12345)), zw Y 1 17 ((1103515245 * (X 2 0)) + (nI 12345)), ?_, ?_, ⟨h1.w0 (Or.inr (Or.inr (Or.inl ⟨rfl, by decide⟩))) (by decide), ?_⟩, fr1, fr1, ?_⟩
  · unfold eX1_upTo
    rw [if_pos hT, qlet]
    by_cases h0 : q = 0
    · subst h0
      rw [if_pos (by decide), zrem_1]
    · rw [if_neg (nI_nle (by omega) (by omega)), nI_add, show znz (nI (q + 1)) = true from decide_eq_true (nI_ne0 (by omega) (by omega)), qchk, zw_at, q_draw]
  · unfold eX12_drawn
    rw [show znz (nI (q + 1)) = true from decide_eq_true (nI_ne0 (by omega) (by omega)), qchk, zw_at, h1.seed]
  · rw [zw_no (by decide), zw_no (by decide)]; exact h.2
  · obtain ⟨j, hj, ej⟩ := q_draw_le ((1103515245 * (X 2 0)) + (nI 12345))
    rw [ej, nI_rem (by omega) (by omega)]
    exact leN_nI (by have := Nat.mod_lt j (show 0 < q + 1 by omega); omega)
/-- a time by draws: the class draws first, then the time -/
theorem s_time (h : wS lo s l m T X Y) (hT : T.1 < 1000000) {a b f : Nat} (hb : b ≤ 32) (hf : f ≤ T.1 + 4) (k : Int32) : ∃ r X' Y', eX1_upTo ((nI b * nI f) / nI 4) X = some (r, X') ∧ eX12_timeBy (nI a) (nI b) (nI f) k Y = some ((X 0 12) + (zmx (nI 1) ((((nI a * nI f) / nI 4) + r) <<< (k &&& 31))), Y') ∧ wS lo s l m T X' Y' ∧ fr [2] X X' ∧ fr [1] Y Y' ∧ leN r (b * f / 4) := by
  have hbf : b * f ≤ 32 * (T.1 + 4) := Nat.mul_le_mul hb hf
  have e : (nI b * nI f) / nI 4 = nI (b * f / 4) := by rw [nI_mul, nI_div (by omega) (by omega)]
  rw [e]
  unfold eX12_timeBy
  rw [h.mode]
  by_cases h0 : X 2 1 = 0
  · obtain ⟨r, X', Y', g1, g2, g3, g4, g5, g6⟩ := s_draw h h0 (q := b * f / 4) (by omega)
    refine ⟨r, X', Y', g1, ?_, g3, g4, g5, g6⟩
    rw [if_pos h0, e, nI_add, g2, qbd]
    unfold jX12_timeBy_39
    dsimp only
    rw [g3.1.tick, g4 0 (by decide)]
  · rw [if_neg h0]
    by_cases h2 : X 2 1 = nI 2
    · refine ⟨nI (b * f / 4), X, Y, ?_, ?_, h, fr.refl _ _, fr.refl _ _, leN_nI (Nat.le_refl _)⟩
      · unfold eX1_upTo
        rw [if_neg h0, if_pos h2]
      · rw [if_pos h2, e]
        unfold jX12_timeBy_39
        rw [h.1.tick]
    · refine ⟨nI 0, X, Y, ?_, ?_, h, fr.refl _ _, fr.refl _ _, leN_nI (Nat.zero_le _)⟩
      · unfold eX1_upTo
        rw [if_neg h0, if_neg h2]
      · rw [if_neg h2]
        unfold jX12_timeBy_39
        rw [h.1.tick]
/-- how far one thinks that another is -/
theorem s_est (h : wS lo s l m T X Y) {n o : Nat} (hn : n < s) (ho : o < s) (hne : n ≠ o) : ∃ f, f ≤ T.1 + 4 ∧ X 18 (n * 6 + o) = nI f ∧ eX12_estOf (nI n) (nI o) Y = some (nI f) := by
  obtain ⟨⟨f, hf, e⟩, -, -⟩ := h.1.1.2.2.2.2.2.1 n o hn ho hne
  have hs := h.1.hs
  refine ⟨f, hf, e, ?_⟩
  unfold eX12_estOf
  rw [if_neg (fun z => hne ((nI_eq (by omega) (by omega)).mp z))]
  simp only [nI_mul, nI_add]
  rw [qzin (by omega) (by omega), qchk, qzn (by omega), h.1.est hn ho hne, e]
theorem s_src (h : wS lo s l m T X Y) {n : Nat} (hn : n < s) : ∃ f, f ≤ T.1 + 4 ∧ eX10_sourceDistance (nI n) X = some (nI f) ∧ eX12_estOf (nI n) (Y 1 3) Y = some (nI f) := by
  obtain ⟨q, hq6, hq, e⟩ := h.1.1.2.2.1.1
  have hs := h.1.hs
  rw [h.1.source, e]
  unfold eX10_sourceDistance
  rw [e]
  by_cases hne : n = q
  · subst hne
    refine ⟨1, by omega, if_pos rfl, ?_⟩
    unfold eX12_estOf
    rw [if_pos rfl]
  · obtain ⟨f, hf, e1, e2⟩ := s_est h hn (show q < s by omega) hne
    refine ⟨f, hf, ?_, e2⟩
    rw [if_neg (fun z => hne ((nI_eq (by omega) (by omega)).mp z))]
    simp only [nI_mul, nI_add]
    rw [qzin (by omega) (by omega), qchk, qzn (by omega), e1]
theorem y_of (Y : zX) {n w : Nat} (hn : n < 6) (hw : w < 244) : eX12_of (nI n) (nI w) Y = some (Y 1 (18 + 244 * n + w)) := by
  unfold eX12_of
  simp only [nI_mul, nI_add]
  rw [qzin (by omega) (by omega), qchk, qzn (by omega)]
theorem y_pk (Y : zX) {n p w : Nat} (hn : n < 6) (hp : p < 12) (hw : w < 18) : eX12_ofPacket (nI n) (nI p) (nI w) Y = some (Y 1 (18 + 244 * n + (28 + 18 * p + w))) := by
  unfold eX12_ofPacket
  simp only [nI_mul, nI_add]
  rw [qzin (by omega) (by omega), qchk, qzn (by omega)]
theorem y_lk (Y : zX) {i w : Nat} (hi : i < 10) (hw : w < 6) : eX12_ofLink (nI i) (nI w) Y = some (Y 1 (1482 + 6 * i + w)) := by
  unfold eX12_ofLink
  simp only [nI_mul, nI_add]
  rw [qzin (by omega) (by omega), qchk, qzn (by omega)]
/-- an address of the reference -/
theorem y_in {a : Nat} (ha : a < 2422) : zin (nI a) 2422 = true := qzin ha (by omega)
theorem wS.w {k i a : Nat} {v : Int32} (h : wS lo s l m T X Y) (h' : wR lo s l m T (zw X k i v) (zw Y 1 a v)) (hk : k ≠ 2 ∨ i ≠ 1) : wS lo s l m T (zw X k i v) (zw Y 1 a v) := ⟨h', by
  rw [zw_no (by omega), zw_no (Or.inl (by decide))]; exact h.2⟩
/-- the next asking -/
theorem s_setAsk (h : wS lo s l m T X Y) (hT : T.1 < 1000000) {n p : Nat} (hn : n < s) (hp : p < 12) (hh : (p : Int) ≤ (X 10 n).toInt) : ∃ X' Y', eX10_setAsk (nI n) (nI (n * 12 + p)) X = some X' ∧ eX12_asksAnew (nI n) (nI p) Y = some Y' ∧ wS lo s l m T X' Y' ∧ fr [2, 21] X X' ∧ fr [1] Y Y' := by
  obtain ⟨f, hf, e1, e2⟩ := s_src h hn
  have hs := h.1.hs
  obtain ⟨⟨c1, hc1, d1⟩, ⟨c2, hc2, d2⟩⟩ := h.1.1.2.2.2.2.1 n hn
  obtain ⟨r, X', Y', g1, g2, g3, g4, g5, -⟩ := s_time h hT (a := c1) (b := c2) hc2 hf (X 22 (n * 12 + p))
  have hw := g3.1.w_ask (v := (X 0 12) + (zmx (nI 1) ((((nI c1 * nI f) / nI 4) + r) <<< (X 22 (n * 12 + p) &&& 31)))) hn hp (fun _ => by rw [g4 10 (by decide)]; exact hh)
  refine ⟨_, _, ?_, ?_, g3.w hw (Or.inl (by decide)), fr_w (g4.sub (by decide)) (by decide), fr_w g5 (by decide)⟩
  · unfold eX10_setAsk
    rw [e1, qbd, qzin (by omega) (by omega), qchk, qzn (by omega), d2, g1, qbd, qzin (by omega) (by omega), qchk, qchk]
    simp only [qzn (show n < 2147483648 by omega), qzn (show n * 12 + p < 2147483648 by omega)]
    unfold eX10_timeOf
    rw [qbd, qchk, g4 11 (by decide), g4 22 (by decide), g4 0 (by decide), d1]
  · unfold eX12_asksAnew
    rw [y_of Y (by omega) (by omega), qbd, y_of Y (by omega) (by omega), qbd, e2, qbd, y_pk Y (by omega) hp (by omega), qbd, h.1.c1 hn, h.1.c2 hn, h.1.backed hn hp, d1, d2, g2, qbd]
    simp only [nI_mul, nI_add]
    rw [y_in (by omega), qchk, qlet, qzn (by omega)]
end LF
