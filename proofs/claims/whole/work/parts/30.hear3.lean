/-! hearing of packets, of requests, of reports -/
section H3
variable {lo : Nat × (Nat → Int32)} {s l m : Nat} {T : Nat × Nat} {X Y : zX}
theorem q_miss {v : Int32} {hd : Int} (v10 : Int32) (h10 : v10.toInt = hd) (h1 : -1 ≤ hd) (h2 : hd ≤ 11) {q : Nat} (hq : q < 32) : hb (((nI 1 <<< ((v10 + nI 1) &&& 31)) - nI 1) &&& (v ^^^ (-1))) q ↔ (q : Int) ≤ hd ∧ ¬ hb v q := by
  obtain ⟨k, rfl⟩ : ∃ k : Nat, hd = (k : Int) - 1 := ⟨(hd + 1).toNat, by omega⟩
  have e : v10 + nI 1 = nI k := by
    apply Int32.toInt_inj.mp
    rw [Int32.toInt_add, h10, i_1, nI_toInt (by omega), Int.bmod_def]
    split <;> omega
  rw [e, hb_andw hq, hb_bel (by omega) hq, hb_not hq]
  constructor
  · rintro ⟨a, b⟩; exact ⟨by omega, b⟩
  · rintro ⟨a, b⟩; exact ⟨by omega, b⟩
theorem q_shr0 {v : Int32} {p : Nat} (hp : p < 32) : (v >>> (nI p &&& 31)) = 0 ↔ ∀ q, p ≤ q → q < 32 → ¬ hb v q := by
  constructor
  · intro h q h1 h2 h3
    have := congrArg (fun x => bt x (q - p)) h
    simp only [b_sshr p hp v (show q - p < 32 by omega), b_0] at this
    rw [if_pos (by omega), show p + (q - p) = q by omega] at this
    rw [hb_bt h2, this] at h3
    cases h3
  · intro h
    apply b_ext
    intro i hi
    rw [b_sshr p hp v hi, b_0]
    have key : ∀ q, p ≤ q → q < 32 → bt v q = false := fun q h1 h2 => by
      have := h q h1 h2
      rw [hb_bt h2] at this
      simpa using this
    split
    · exact key _ (by omega) (by omega)
    · exact key 31 (by omega) (by omega)
theorem y_zero4 (F : Nat) (K : Int32 → Int32 → zX → Option zX) {n p : Nat} (hn : n < 6) (hp : p < 12) (Y : zX) {fu : Nat} (hf : 5 ≤ fu) : hX12_hearsHow_58 F K fu (nI n) (nI p) (nI 1) Y = zbd (eX12_asksAnew (nI n) (nI p) (zw (zw (zw (zw Y 1 (18 + 244 * n + (28 + 18 * p + 1)) (nI 0)) 1 (18 + 244 * n + (28 + 18 * p + 2)) (nI 0)) 1 (18 + 244 * n + (28 + 18 * p + 3)) (nI 0)) 1 (18 + 244 * n + (28 + 18 * p + 4)) (nI 0))) (fun y3 => K (nI n) (nI p + nI 1) y3) := by
  obtain ⟨g, rfl⟩ : ∃ g, fu = g + 5 := ⟨fu - 5, by omega⟩
  unfold hX12_hearsHow_58
  rw [if_neg (by decide)]
  simp only [a_p]
  rw [y_in (by omega), qchk, qlet, qzn (by omega), nI_add]
  unfold hX12_hearsHow_58
  rw [if_neg (by decide)]
  simp only [a_p]
  rw [y_in (by omega), qchk, qlet, qzn (by omega), nI_add]
  unfold hX12_hearsHow_58
  rw [if_neg (by decide)]
  simp only [a_p]
  rw [y_in (by omega), qchk, qlet, qzn (by omega), nI_add]
  unfold hX12_hearsHow_58
  rw [if_neg (by decide)]
  simp only [a_p]
  rw [y_in (by omega), qchk, qlet, qzn (by omega), nI_add]
  unfold hX12_hearsHow_58
  rw [if_pos (by decide)]
/-- behind the last one that is missing the reference does nothing -/
theorem y_how_end (F : Nat) {n : Nat} (h : wS lo s l m T X Y) (hn : n < s) : ∀ (d p fu : Nat), 12 - p = d → p ≤ 12 → d < fu → (∀ q, p ≤ q → q < 12 → (q : Int) ≤ (X 10 n).toInt → hb (X 9 n) q) → hX12_hearsHow_22 F fu (nI n) (nI p) Y = some Y := by
  have hs := h.1.hs
  obtain ⟨-, b10⟩ := h.1.1.2.2.2.1 n hn
  unfold hdO at b10
  intro d
  induction d with
  | zero =>
    intro p fu hd hp hf _
    obtain ⟨g, rfl⟩ : ∃ g, fu = g + 1 := ⟨fu - 1, by omega⟩
    unfold hX12_hearsHow_22
    rw [y_of Y (by omega) (by omega), qbd, h.1.heard hn, if_pos]
    rw [Int32.lt_iff_toInt_lt, nI_toInt (by omega)]; omega
  | succ d ih =>
    intro p fu hd hp hf hall
    obtain ⟨g, rfl⟩ : ∃ g, fu = g + 1 := ⟨fu - 1, by omega⟩
    unfold hX12_hearsHow_22
    rw [y_of Y (by omega) (by omega), qbd, h.1.heard hn]
    by_cases c : X 10 n < nI p
    · rw [if_pos c]
    · rw [if_neg c, y_hasP h hn, qbd]
      have hc : (p : Int) ≤ (X 10 n).toInt := by
        rw [Int32.lt_iff_toInt_lt, nI_toInt (by omega)] at c; omega
      have hb' := hall p (Nat.le_refl _) (by omega) hc
      have c1 : zB (((X 9 n >>> (nI p &&& 31)) &&& nI 1) = nI 1) = 1 := zB_t hb'
      rw [c1, if_neg (by decide), nI_add]
      exact ih (p + 1) g (by omega) (by omega) (by omega) (fun q h1 h2 h3 => hall q (by omega) h2 h3)
theorem s_how_loop (F : Nat) (hF : 100 ≤ F) (hT : T.1 < 1000000) {n : Nat} (hn : n < s) (ms : Int32) : ∀ (d p fu gu : Nat) (X Y : zX), wS lo s l m T X Y → (∀ q, q < 32 → (hb ms q ↔ (q : Int) ≤ (X 10 n).toInt ∧ ¬ hb (X 9 n) q)) → 12 - p = d → p ≤ 12 → d < fu → d < gu → ∃ X' Y', hX10_hearOf_34 F fu (nI n) ms (nI p) X = some X' ∧ hX12_hearsHow_22 F gu (nI n) (nI p) Y = some Y' ∧ wS lo s l m T X' Y' ∧ fr [2, 21, 22, 23, 24, 25] X X' ∧ fr [1] Y Y' := by
  intro d
  induction d with
  | zero =>
    intro p fu gu X Y h hm hd hp hf hg
    obtain ⟨fu, rfl⟩ : ∃ g, fu = g + 1 := ⟨fu - 1, by omega⟩
    have hp' : p = 12 := by omega
    subst hp'
    refine ⟨X, Y, ?_, y_how_end F h hn 0 12 gu (by omega) (by omega) hg (fun q h1 h2 => by omega), h, fr.refl _ _, fr.refl _ _⟩
    unfold hX10_hearOf_34
    rw [if_pos (by decide)]
  | succ d ih =>
    intro p fu gu X Y h hm hd hp hf hg
    obtain ⟨fu, rfl⟩ : ∃ g, fu = g + 1 := ⟨fu - 1, by omega⟩
    have hs := h.1.hs
    have p12 : p < 12 := by omega
    unfold hX10_hearOf_34
    rw [if_neg (nI_ge p12 (by decide))]
    by_cases c : (ms >>> (nI p &&& 31)) = 0
    · rw [if_pos c]
      refine ⟨X, Y, rfl, y_how_end F h hn (d + 1) p gu hd hp hg (fun q h1 h2 h3 => ?_), h, fr.refl _ _, fr.refl _ _⟩
      have := (q_shr0 (by omega)).mp c q h1 (by omega)
      rw [hm q (by omega)] at this
      exact Classical.byContradiction fun z => this ⟨h3, z⟩
    · rw [if_neg c]
      have hle : (p : Int) ≤ (X 10 n).toInt := by
        refine Classical.byContradiction fun z => c ((q_shr0 (by omega)).mpr fun q h1 h2 h3 => ?_)
        have := ((hm q h2).mp h3).1
        omega
      obtain ⟨gu, rfl⟩ : ∃ g, gu = g + 1 := ⟨gu - 1, by omega⟩
      have hlt : ¬ X 10 n < nI p := by rw [Int32.lt_iff_toInt_lt, nI_toInt (by omega)]; omega
      unfold hX12_hearsHow_22
      rw [y_of Y (by omega) (by omega), qbd, h.1.heard hn, if_neg hlt, y_hasP h hn, qbd, nI_add]
      by_cases c2 : hb ms p
      · have c3 : ((ms >>> (nI p &&& 31)) &&& nI 1) = nI 1 := c2
        have c4 : zB (((X 9 n >>> (nI p &&& 31)) &&& nI 1) = nI 1) = 0 := zB_f ((hm p (by omega)).mp c2).2
        rw [if_pos c3, c4, if_pos rfl, x_ix, x_in (by omega) p12, qchk, x_zn (by omega) p12, y_pk Y (by omega) p12 (by omega), qbd, h.1.ask hn p12]
        by_cases c5 : X 21 (n * 12 + p) = -1
        · rw [if_pos c5, if_pos c5, y_zero4 F _ (by omega) p12 Y (by omega)]
          have h1 := h.w (h.1.w0 (v := nI 0) (rc_p (w := 1) hn p12 (by decide)) (by decide)) (Or.inl (by decide))
          have h2 := h1.w (h1.1.w0 (v := nI 0) (rc_p (w := 2) hn p12 (by decide)) (by decide)) (Or.inl (by decide))
          have h3 := h2.w (h2.1.w0 (v := nI 0) (rc_p (w := 3) hn p12 (by decide)) (by decide)) (Or.inl (by decide))
          have h4 := h3.w (h3.1.w0 (v := nI 0) (rc_p (w := 4) hn p12 (by decide)) (by decide)) (Or.inl (by decide))
          have f4 : fr [22, 23, 24, 25] X (zw (zw (zw (zw X (21 + 1) (n * 12 + p) (nI 0)) (21 + 2) (n * 12 + p) (nI 0)) (21 + 3) (n * 12 + p) (nI 0)) (21 + 4) (n * 12 + p) (nI 0)) := fr_w (fr_w (fr_w (fr_w (fr.refl _ _) (by decide)) (by decide)) (by decide)) (by decide)
          obtain ⟨X5, Y5, e5, e5', h5, f5, g5⟩ := s_setAsk h4 hT hn p12 (by rw [f4 10 (by decide)]; exact hle)
          have f6 : fr [2, 21, 22, 23, 24, 25] X X5 := (f4.sub (by decide)).trans (f5.sub (by decide))
          obtain ⟨X', Y', e6, e6', h6, f7, g7⟩ := ih (p + 1) fu gu X5 Y5 h5 (fun q hq => by rw [f6 10 (by decide), f6 9 (by decide)]; exact hm q hq) (by omega) (by omega) (by omega) (by omega)
          refine ⟨X', Y', ?_, ?_, h6, f6.trans f7, ((fr_w (fr_w (fr_w (fr_w (fr.refl [1] Y) (by decide)) (by decide)) (by decide)) (by decide)).trans g5).trans g7⟩
          · unfold eX5_beginAsk
            rw [x_in (by omega) p12, qchk, qchk, qchk, qlet, qchk, x_zn (by omega) p12, qbd, e5, qbd, e6]
          · rw [e5', qbd]
            rw [nI_add]
            exact e6'
        · rw [if_neg c5, if_neg c5]
          exact ih (p + 1) fu gu X Y h hm (by omega) (by omega) (by omega) (by omega)
      · have c3 : ¬ ((ms >>> (nI p &&& 31)) &&& nI 1) = nI 1 := c2
        have c4 : zB (((X 9 n >>> (nI p &&& 31)) &&& nI 1) = nI 1) = 1 := zB_t (Classical.byContradiction fun z => c2 ((hm p (by omega)).mpr ⟨hle, z⟩))
        rw [if_neg c3, c4, if_neg (by decide)]
        exact ih (p + 1) fu gu X Y h hm (by omega) (by omega) (by omega) (by omega)
theorem s_hearOf (F : Nat) (hF : 300 ≤ F) (h : wS lo s l m T X Y) (hT : T.1 < 1000000) {n : Nat} (hn : n < s) {v : Int32} (hv : hdO T.2 v) : ∃ X' Y', eX10_hearOf F (nI n) v X = some X' ∧ eX12_hearsHow F (nI n) v Y = some Y' ∧ wS lo s l m T X' Y' ∧ fr [2, 10, 21, 22, 23, 24, 25] X X' ∧ fr [1] Y Y' ∧ X' 10 = upd (X 10) n (zmx (X 10 n) v) := by
  have hs := h.1.hs
  obtain ⟨-, b10⟩ := h.1.1.2.2.2.1 n hn
  have hz := zmx_int (X 10 n) v
  unfold hdO at b10 hv
  have h1 := h.w (h.1.w_heard (v := zmx (X 10 n) v) hn (by unfold hdO; omega) (by omega)) (Or.inl (by decide))
  have f1 : fr [10] X (zw X 10 n (zmx (X 10 n) v)) := fr1
  obtain ⟨X', Y', e, e', h2, f2, g2⟩ := s_how_loop F (by omega) hT hn (((nI 1 <<< (((zw X 10 n (zmx (X 10 n) v)) 10 n + nI 1) &&& 31)) - nI 1) &&& ((X 9 n) ^^^ (-1))) 12 0 F F _ _ h1 (fun q hq => by
    rw [f1 9 (by decide)]
    exact q_miss _ rfl (by rw [zw_at]; omega) (by rw [zw_at]; omega) hq) (by omega) (by omega) (by omega) (by omega)
  refine ⟨X', Y', ?_, ?_, h2, (f1.sub (by decide)).trans (f2.sub (by decide)), (fr_w (fr.refl [1] Y) (by decide)).trans g2, by rw [f2 10 (by decide)]; exact zw_row _ _ _ _⟩
  · unfold eX10_hearOf eX4_missing
    rw [qzin (show n < 6 by omega) (by omega), qchk, qchk, qchk, qchk, qzn (by omega), qbd]
    rw [f1 9 (by decide)]
    exact e
  · unfold eX12_hearsHow
    rw [y_of Y (by omega) (by omega), qbd, h.1.heard hn]
    simp only [a_n]
    rw [y_in (by omega), qchk, qlet, qzn (by omega)]
    exact e'
theorem s_hearRequest (h : wS lo s l m T X Y) (hT : T.1 < 1000000) {n p o k : Nat} (hn : n < s) (hp : p < 12) (ho : o < s) (hne : n ≠ o) (hk : k < 64) (e49 : X 49 k = nI p) (e47 : X 47 k = nI o) (hh : (p : Int) ≤ (X 10 n).toInt) : ∃ X' Y', eX10_hearRequest (nI n) (nI k) X = some X' ∧ eX12_hearsRequest (nI n) (nI p) (nI o) (X 51 k) Y = some Y' ∧ wS lo s l m T X' Y' ∧ fr [2, 17, 21, 22, 24, 25, 26, 27, 28] X X' ∧ fr [1] Y Y' := by
  have hs := h.1.hs
  unfold eX10_hearRequest eX12_hearsRequest
  rw [qzin hk (by omega), qchk, qchk, qchk, qzn (by omega), e49, x_hasP X (by omega), qbd, y_hasP h hn, qbd, x_ix, x_in (by omega) hp]
  simp only [qchk, x_zn (show n < 6 by omega) hp]
  by_cases c : hb (X 9 n) p
  · have c1 : zB (((X 9 n >>> (nI p &&& 31)) &&& nI 1) = nI 1) = 1 := zB_t c
    have q1 : ¬ ((1 : Int32) = 0) := by decide
    simp only [c1, if_neg q1]
    rw [y_pk Y (by omega) hp (by omega), qbd, h.1.answer hn hp]
    by_cases c2 : X 26 (n * 12 + p) = -1
    · rw [if_pos c2, if_pos c2, y_pk Y (by omega) hp (by omega), qbd, h.1.hold hn hp, h.1.tick]
      by_cases c3 : X 0 12 < X 29 (n * 12 + p)
      · rw [if_pos c3, if_pos c3]
        exact ⟨X, Y, rfl, rfl, h, fr.refl _ _, fr.refl _ _⟩
      · rw [if_neg c3, if_neg c3]
        obtain ⟨X', Y', Y1, v, e1, e2, e3, e4, h1, f1, g1⟩ := s_setAnswer h hT hn hp ho hne hh (X 51 k)
        refine ⟨X', Y', ?_, ?_, h1, f1.sub (by decide), g1⟩
        · rw [e47, e1, qbd]
        · rw [e2, qbd, e3, qbd]
          simp only [a_p]
          rw [y_in (by omega), qchk, qlet, y_in (by omega), qchk, qlet, y_in (by omega), qchk, qlet, qzn (by omega), qzn (by omega), qzn (by omega), e4]
    · rw [if_neg c2, if_neg c2]
      exact ⟨X, Y, rfl, rfl, h, fr.refl _ _, fr.refl _ _⟩
  · have c1 : zB (((X 9 n >>> (nI p &&& 31)) &&& nI 1) = nI 1) = 0 := zB_f c
    simp only [c1, if_pos, a_p, qlet]
    rw [y_in (a := 18 + 244 * n + (28 + 18 * p + 3)) (by omega), qchk, qchk, qzn (k := 18 + 244 * n + (28 + 18 * p + 3)) (by omega), h.1.reqs hn hp]
    have h1 := h.w (h.1.w0 (v := X 24 (n * 12 + p) + nI 1) (rc_p (w := 3) hn hp (by decide)) (by decide)) (Or.inl (by decide))
    rw [y_pk _ (by omega) hp (by omega), qbd, h1.1.ignore hn hp, h1.1.tick, zw_no (Or.inl (by decide)), zw_no (Or.inl (by decide))]
    by_cases c3 : X 0 12 < X 25 (n * 12 + p)
    · rw [if_pos c3, if_neg (fun z => by rw [Int32.le_iff_toInt_le] at z; rw [Int32.lt_iff_toInt_lt] at c3; omega)]
      exact ⟨_, _, rfl, rfl, h1, fr_w (fr.refl _ _) (by decide), fr_w (fr.refl _ _) (by decide)⟩
    · rw [if_neg c3, if_pos (by rw [Int32.le_iff_toInt_le]; rw [Int32.lt_iff_toInt_lt] at c3; omega)]
      obtain ⟨X2, Y2, e2, e2', h2, f2, g2⟩ := s_askLater h1 hT hn hp (by rw [zw_no (Or.inl (by decide))]; exact hh)
      have h3 := h2.w (h2.1.w0 (v := X2 17 n + nI 1) (rc_n (w := 9) hn (by decide) (by decide)) (by decide)) (Or.inl (by decide))
      refine ⟨_, _, ?_, ?_, h3, fr_w ((fr_w (fr.refl _ X) (by decide)).trans (f2.sub (by decide))) (by decide), fr_w ((fr_w (fr.refl [1] Y) (by decide)).trans g2) (by decide)⟩
      · rw [e2, qbd, qzin (show n < 6 by omega) (by omega), qchk, qchk, qzn (by omega)]
      · rw [e2', qbd, y_more _ (by omega) (by omega), qbd, h2.1.sup hn]
end H3
