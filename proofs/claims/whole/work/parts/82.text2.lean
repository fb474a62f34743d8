/-! a line by its word; the lines of a text -/
section LX
variable {tp : Nat → Int32} {e b a : Nat} {X Y : zX} {T : Nat × Nat} {μ : zM}
theorem lnO.bits {W X' W' Y' : zX} {f g : Int32} (h : lnO tp e T W f X' W' g Y') : zbl f = true ∧ zbl g = true ∧ (g = nI 0 ∨ g = nI 1) := by
  rcases h with ⟨rfl, rfl, -⟩ | ⟨rfl, rfl, -⟩ | ⟨rfl, rfl, -⟩
  · exact ⟨rfl, rfl, Or.inr rfl⟩
  · exact ⟨rfl, rfl, Or.inl rfl⟩
  · exact ⟨rfl, rfl, Or.inr rfl⟩
theorem lnR.c {c : Option (Int32 × zM)} {r : Option (Int32 × zX)} (h : lnR tp e T μ Y c r) : lnR tp e T μ Y (zbd c fun y => zchk (zbl y.1) (some (y.1, y.2))) r := by
  obtain ⟨f, X', W', g, Y', h1, h2, h3, h4, h5⟩ := h
  refine ⟨f, X', W', g, Y', ?_, h2, h3, h4, h5⟩
  rw [h1, qbd]
  dsimp only
  rw [h3.bits.1, qchk]
theorem lnR.r {c : Option (Int32 × zM)} {r : Option (Int32 × zX)} (h : lnR tp e T μ Y c r) : lnR tp e T μ Y c (zbd r fun y => zchk (zbl y.1) (some (y.1, y.2))) := by
  obtain ⟨f, X', W', g, Y', h1, h2, h3, h4, h5⟩ := h
  refine ⟨f, X', W', g, Y', h1, ?_, h3, h4, h5⟩
  rw [h2, qbd]
  dsimp only
  rw [h3.bits.2.1, qchk]
theorem lnR.i {c : Option (Int32 × zM)} {r : Option (Int32 × zX)} (h : lnR tp e T μ Y c r) : lnR tp e T μ Y c (zbd r fun y => if y.1 = 0 then some ((nI 0), y.2) else some ((nI 1), y.2)) := by
  obtain ⟨f, X', W', g, Y', h1, h2, h3, h4, h5⟩ := h
  refine ⟨f, X', W', g, Y', h1, ?_, h3, h4, h5⟩
  rw [h2, qbd]
  dsimp only
  rcases h3.bits.2.2 with rfl | rfl
  · rw [if_pos (show nI 0 = 0 from rfl)]
  · rw [if_neg (show ¬ nI 1 = 0 by decide)]
theorem wd_len {w : List Nat} (h : wd tp w b a = true) : a - b = w.length := by
  unfold wd at h
  rw [Bool.and_eq_true] at h
  exact of_decide_eq_true h.1
theorem wd_fst {c : Nat} {w : List Nat} (h : wd tp (c :: w) b a = true) : tp b = nI c := by
  unfold wd at h
  rw [Bool.and_eq_true] at h
  have := h.2
  rw [List.length_cons, wdR, Bool.and_eq_true] at this
  exact of_decide_eq_true this.1
theorem wd_no {w w' : List Nat} (h : wd tp w b a = true) (hl : w.length ≠ w'.length) : wd tp w' b a = false := by
  cases c : wd tp w' b a with
  | false => rfl
  | true => exact absurd ((wd_len h).symm.trans (wd_len c)) hl
theorem wd_no1 {c d : Nat} {w w' : List Nat} (h : wd tp (c :: w) b a = true) (hc : c < 128) (hd : d < 128) (hne : c ≠ d) : wd tp (d :: w') b a = false := by
  cases z : wd tp (d :: w') b a with
  | false => rfl
  | true => exact absurd ((nI_eq (by omega) (by omega)).mp ((wd_fst h).symm.trans (wd_fst z))) hne
theorem wB1_t : ¬ wB1 true = 0 := by decide
theorem wB1_f : wB1 false = 0 := by decide
theorem l_line (F : Nat) (hF : 500 ≤ F) (hT : byT tp e) {s l : Nat} (hw : wP s l T (μ 6) Y) (hX : tpX tp e b a (μ 0)) (hY : tpY tp e (cB tp e a) (cW tp e a) Y) : lnR tp e T μ Y (eX6_readLine F μ) (eX12_readLine F Y) := by
  obtain ⟨m, Z, hw1, hK⟩ := id hw
  have hb := cW_b (tp := tp) hX.2.1
  have hX1 := hX.s (b' := cB tp e a) hb.2
  have hbe : cB tp e a ≤ e := cB_b hX.2.1
  have e6 : (zg μ 0 (Xs (μ 0) (cB tp e a) (cW tp e a))) 6 = μ 6 := zg_ne (by decide)
  have e0 : (zg μ 0 (Xs (μ 0) (cB tp e a) (cW tp e a))) 0 = Xs (μ 0) (cB tp e a) (cW tp e a) := zg_at _ _ _
  have hwn : wP s l T ((zg μ 0 (Xs (μ 0) (cB tp e a) (cW tp e a))) 6) Y := by rw [e6]; exact hw
  have hXn : tpX tp e (cB tp e a) (cW tp e a) ((zg μ 0 (Xs (μ 0) (cB tp e a) (cW tp e a))) 0) := by rw [e0]; exact hX1
  have fx : fXr (μ 0) (Xs (μ 0) (cB tp e a) (cW tp e a)) := fXr.s _ _ _
  unfold eX6_readLine eX12_readLine
  rw [x_word F hF hT hX, qbd, show bk tp e a = cB tp e a from rfl, show lw tp e (cB tp e a) = cW tp e a from rfl, x_w0 F hF hT hX1 hb.1, qbd, y_w30 F hF hY hb.1, qbd]
  cases c0 : wd tp [110, 111, 100, 101] (cB tp e a) (cW tp e a) with
  | true =>
    rw [if_neg wB1_t, if_neg wB1_t]
    exact (l_node F hF hT hbe hwn hXn hY).c.r.via fx (fY.rf _)
  | false =>
    rw [if_pos wB1_f, if_pos wB1_f, x_w2 F hF hT hX1 hb.1, qbd, y_w32 F hF hY hb.1, qbd]
    cases c2 : wd tp [108, 105, 110, 107] (cB tp e a) (cW tp e a) with
    | true =>
      rw [if_neg wB1_t, if_neg wB1_t]
      exact (l_link F hF hT hbe hwn hXn hY).c.r.via fx (fY.rf _)
    | false =>
      rw [if_pos wB1_f, if_pos wB1_f, x_w5 F hF hT hX1 hb.1, qbd, y_w35 F hF hY hb.1, qbd]
      cases c5 : wd tp [114, 101, 113, 117, 101, 115, 116] (cB tp e a) (cW tp e a) with
      | true =>
        rw [if_neg wB1_t, wd_no (w' := [115, 111, 117, 114, 99, 101]) c5 (by decide), if_pos wB1_f, y_w36 F hF hY hb.1, qbd, c5, if_neg wB1_t]
        exact (l_request F hF hT hwn hXn hY).c.r.via fx (fY.rf _)
      | false =>
        rw [if_pos wB1_f, x_w6 F hF hT hX1 hb.1, qbd]
        cases c6 : wd tp [114, 101, 112, 97, 105, 114] (cB tp e a) (cW tp e a) with
        | true =>
          rw [if_neg wB1_t, wd_no1 (d := 115) (w' := [111, 117, 114, 99, 101]) c6 (by decide) (by decide) (by decide), if_pos wB1_f, y_w36 F hF hY hb.1, qbd, c5, if_pos wB1_f, y_w37 F hF hY hb.1, qbd, c6, if_neg wB1_t]
          exact (l_repair F hF hT hwn hXn hY).c.via fx (fY.rf _)
        | false =>
          rw [if_pos wB1_f]
          unfold eX6_readNumber
          rw [e0, e6, x_w7 F hF hT hX1 hb.1, qbd]
          have z6 : zg (zg μ 0 (Xs (μ 0) (cB tp e a) (cW tp e a))) 6 (μ 6) = zg μ 0 (Xs (μ 0) (cB tp e a) (cW tp e a)) := zg_6 _ _
          cases c7 : wd tp [115, 111, 117, 114, 99, 101] (cB tp e a) (cW tp e a) with
          | true =>
            have k := l_one F hF hT hwn hXn hY (i := 0) (ad := 3) (Or.inl ⟨rfl, rfl⟩) (by decide) (nI 0) (nI s - nI 1) (fun _ => rfl)
            rw [e0, e6] at k
            rw [if_neg wB1_t, if_neg wB1_t, hw1.nodes, hw1.nn, hw1.nodes]
            simp only [qlet, zg_id, zg_zg, z6]
            simp only [zg_zg] at k
            exact k.c.r.via fx (fY.rf _)
          | false =>
            rw [if_pos wB1_f, if_pos wB1_f, y_w36 F hF hY hb.1, qbd, c5, if_pos wB1_f, y_w37 F hF hY hb.1, qbd, c6, if_pos wB1_f, x_w8 F hF hT hX1 hb.1, qbd, y_w38 F hF hY hb.1, qbd]
            cases c8 : wd tp [115, 99, 111, 112, 101] (cB tp e a) (cW tp e a) with
            | true =>
              have k := l_one F hF hT hwn hXn hY (i := 1) (ad := 5) (Or.inr (by decide)) (by decide) (nI 1) (nI 5) (fun z => absurd z (by decide))
              rw [e0, e6] at k
              rw [if_neg wB1_t, if_neg wB1_t]
              exact k.c.r.via fx (fY.rf _)
            | false =>
              rw [if_pos wB1_f, if_pos wB1_f, x_w9 F hF hT hX1 hb.1, qbd, y_w39 F hF hY hb.1, qbd]
              cases c9 : wd tp [115, 101, 115, 115, 105, 111, 110] (cB tp e a) (cW tp e a) with
              | true =>
                have k := l_one F hF hT hwn hXn hY (i := 2) (ad := 6) (Or.inr (by decide)) (by decide) (nI 0) (nI 20) (fun z => absurd z (by decide))
                rw [e0, e6] at k
                rw [if_neg wB1_t, if_neg wB1_t]
                exact k.c.r.via fx (fY.rf _)
              | false =>
                rw [if_pos wB1_f, if_pos wB1_f, x_w10 F hF hT hX1 hb.1, qbd, y_w40 F hF hY hb.1, qbd]
                cases c10 : wd tp [114, 97, 116, 101] (cB tp e a) (cW tp e a) with
                | true =>
                  have k := l_one F hF hT hwn hXn hY (i := 3) (ad := 7) (Or.inr (by decide)) (by decide) (nI 0) (nI 20) (fun z => absurd z (by decide))
                  rw [e0, e6] at k
                  rw [if_neg wB1_t, if_neg wB1_t]
                  exact k.c.i.via fx (fY.rf _)
                | false =>
                  rw [if_pos wB1_f, if_pos wB1_f, x_failX hX1, qbd]
                  dsimp only
                  rw [show zbl (nI 0) = true from rfl, qchk, qbd]
                  dsimp only
                  rw [show zbl (nI 0) = true from rfl, qchk]
                  refine lnR_no hbe ?_ rfl (zw_at _ _ _ _) hY.2.2.2.1 (fx.trans (fXr.w _ _ _)) (fY.rf _)
                  rw [zg_zg]
/-- what comes of a text -/
def txO (tp : Nat → Int32) (e : Nat) (T : Nat × Nat) (W : zX) (res : Int32) (W' : zX) (g : Int32) (Y' : zX) : Prop :=
  (g = nI 1 ∧ res = -1 ∧ (∃ s l, wP s l T W' Y') ∧ fr txL W W') ∨ (g = nI 0 ∧ ∃ n, n ≤ e ∧ res = nI n ∧ Y' 0 10 = nI n)
theorem zg_66 (μ : zM) : zg (zg μ 0 (μ 0)) 6 (μ 6) = μ := by rw [zg_6, zg_id]
theorem l_text (F : Nat) (hF : 500 ≤ F) (hT : byT tp e) : ∀ (d fu fu' k b a b' a' s l : Nat) (μ : zM) (Y : zX), k + d = 14 → d < fu → d < fu' → wP s l T (μ 6) Y → tpX tp e b a (μ 0) → tpY tp e b' a' Y → bk tp e a' = a → ∃ res X' W' g Y', hX6_read_37 F fu (nI k) μ = some (res, zg (zg μ 0 X') 6 W') ∧ hX12_readGroup_19 F fu' (nI k) Y = some (g, Y') ∧ txO tp e T (μ 6) res W' g Y' ∧ fXr (μ 0) X' ∧ fY Y Y' := by
  intro d
  induction d with
  | zero =>
    intro fu fu' k b a b' a' s l μ Y h1 h2 h3 hw hX hY hba
    obtain ⟨fu, rfl⟩ := Nat.exists_eq_succ_of_ne_zero (show fu ≠ 0 by omega)
    obtain ⟨fu', rfl⟩ := Nat.exists_eq_succ_of_ne_zero (show fu' ≠ 0 by omega)
    have : k = 14 := by omega
    subst this
    have hB := bk_b (tp := tp) hY.2.1
    have hL := lw_b (tp := tp) hB.2
    refine ⟨nI a, μ 0, μ 6, nI 0, Ys Y (bk tp e a') (lw tp e (bk tp e a')), ?_, ?_, Or.inr ⟨rfl, a, hX.2.1, rfl, by rw [← hba]; exact (hY.s hL.2).2.2.2.1⟩, fXr.rf _, fY.s _ _ _⟩
    · unfold hX6_read_37
      rw [if_pos (show nI 14 ≤ nI 14 by decide), hX.2.2.2.2.1, zg_66, zg_id]
    · unfold hX12_readGroup_19
      rw [y_letters F hF hY, qbd, if_pos rfl]
  | succ d ih =>
    intro fu fu' k b a b' a' s l μ Y h1 h2 h3 hw hX hY hba
    obtain ⟨fu, rfl⟩ := Nat.exists_eq_succ_of_ne_zero (show fu ≠ 0 by omega)
    obtain ⟨fu', rfl⟩ := Nat.exists_eq_succ_of_ne_zero (show fu' ≠ 0 by omega)
    have he := hX.1
    have eB : cB tp e a = a := by
      unfold cB
      rw [← hba, bk_bk hY.2.1]
    have hb := cW_b (tp := tp) hX.2.1
    have eY : Ys Y (bk tp e a') (lw tp e (bk tp e a')) = Ys Y (cB tp e a) (cW tp e a) := by
      rw [hba]
      have : cW tp e a = lw tp e a := by
        unfold cW
        rw [show bk tp e a = a from eB]
      rw [eB, this]
    have hY1 := hY.s (b' := cB tp e a) (a' := cW tp e a) hb.2
    obtain ⟨f, X1, W1, g1, Y1, r1, r2, r3, r4, r5⟩ := l_line F hF hT (hw.s (cB tp e a) (cW tp e a)) hX hY1
    have k14 : ¬ nI k = nI 14 := fun z => by have := (nI_eq (by omega) (by omega)).mp z; omega
    have fy1 : fY Y Y1 := (fY.s _ _ _).trans r5
    have e0 : (zg (zg μ 0 X1) 6 W1) 0 = X1 := by rw [zg_ne (by decide), zg_at]
    have e6 : (zg (zg μ 0 X1) 6 W1) 6 = W1 := zg_at _ _ _
    have zx : ∀ Xn, zg (zg (zg μ 0 X1) 6 W1) 0 Xn = zg (zg μ 0 Xn) 6 W1 := fun Xn => by rw [zg_com _ (show (6 : Nat) ≠ 0 by decide), zg_zg]
    unfold hX6_read_37 hX12_readGroup_19
    rw [if_neg (nI_ge (show k < 14 by omega) (by omega)), r1, qbd, y_letters F hF hY, qbd, eY, if_neg k14, r2, qbd]
    dsimp only
    rcases r3 with ⟨rfl, rfl, s', l', b1, b2, a1, q1, q2, q3, q4⟩ | ⟨rfl, rfl, n, n0, n1, n2⟩ | ⟨rfl, rfl, n, b2, n0, n1, n2, n3⟩
    · have hc := bk_b (tp := tp) q3.2.1
      have hXc := q3.s (b' := b1) hc.2
      have hYc := q4.s (b' := bk tp e a1) hc.2
      rw [if_neg (show ¬ nI 1 = 0 by decide), if_neg (show ¬ nI 1 = 0 by decide), e0, x_skip F hF hT q3, qbd, y_blanks F hF q4, qbd, hXc.2.2.2.2.1, hXc.2.2.1, hYc.2.2.2.2.1, hYc.2.2.1]
      by_cases c1 : bk tp e a1 = e
      · rw [if_neg (nI_nlt (by omega) (by omega)), if_pos (show nI (bk tp e a1) = nI e by rw [c1]), zx]
        exact ⟨_, _, _, _, _, rfl, rfl, Or.inl ⟨rfl, rfl, ⟨s', l', q1.s _ _⟩, q2⟩, r4.trans (fXr.s _ _ _), fy1.trans (fY.s _ _ _)⟩
      · have hlt : bk tp e a1 < e := by omega
        rw [if_pos ((nI_ltI (by omega) (by omega)).mpr hlt), if_neg (fun z => c1 ((nI_eq (by omega) (by omega)).mp z)), x_byte hXc hlt, qbd, y_at1 hYc hlt, qbd]
        by_cases c2 : tp (bk tp e a1) = nI 59
        · have c2' : (¬ tp (bk tp e a1) < nI 59) ∧ ¬ nI 59 < tp (bk tp e a1) := by rw [c2]; exact ⟨by decide, by decide⟩
          have eX : zw (Xs X1 b1 (bk tp e a1)) 3 1 (nI (bk tp e a1) + nI 1) = Xs X1 b1 (bk tp e a1 + 1) := by
            unfold Xs
            rw [zw_zw, nI_add]
          have eYs : zw (Ys Y1 (bk tp e a1) (bk tp e a1)) 0 8 (nI (bk tp e a1) + nI 1) = Ys Y1 (bk tp e a1) (bk tp e a1 + 1) := by
            unfold Ys
            rw [zw_zw, nI_add]
          have hXd := q3.s (b' := b1) (a' := bk tp e a1 + 1) (by omega)
          have hYd := q4.s (b' := bk tp e a1) (a' := bk tp e a1 + 1) (by omega)
          have hd := bk_b (tp := tp) hXd.2.1
          rw [if_pos ((by_c (hT _ hlt) (by decide)).mpr c2), if_pos c2', if_neg (show ¬ nI 1 = 0 by decide), eX, eYs, x_skip F hF hT hXd, qbd, Xs_Xs, zx, nI_add]
          obtain ⟨res, X', W', g, Y', t1, t2, t3, t4, t5⟩ := ih fu fu' (k + 1) b1 (bk tp e (bk tp e a1 + 1)) (bk tp e a1) (bk tp e a1 + 1) s' l' (zg (zg μ 0 (Xs X1 b1 (bk tp e (bk tp e a1 + 1)))) 6 W1) (Ys Y1 (bk tp e a1) (bk tp e a1 + 1)) (by omega) (by omega) (by omega) (by rw [zg_at]; exact q1.s _ _) (by rw [zg_ne (by decide), zg_at]; exact q3.s hd.2) hYd rfl
          rw [zg_at, zg_ne (show (0 : Nat) ≠ 6 by decide), zg_at] at *
          refine ⟨res, X', W', g, Y', ?_, t2, ?_, (r4.trans (fXr.s _ _ _)).trans t4, (fy1.trans (fY.s _ _ _)).trans t5⟩
          · rw [t1, zg_com _ (show (6 : Nat) ≠ 0 by decide), zg_zg, zg_zg]
          · rcases t3 with ⟨u1, u2, u3, u4⟩ | u
            · exact Or.inl ⟨u1, u2, u3, q2.trans u4⟩
            · exact Or.inr u
        · have c2' : ¬ ((¬ tp (bk tp e a1) < nI 59) ∧ ¬ nI 59 < tp (bk tp e a1)) := fun z => c2 (by
            apply Int32.toInt_inj.mp
            rw [Int32.lt_iff_toInt_lt, Int32.lt_iff_toInt_lt] at z
            omega)
          rw [if_neg (fun z => c2 ((by_c (hT _ hlt) (by decide)).mp z)), if_neg c2', if_pos (show nI 0 = 0 from rfl), zx]
          exact ⟨_, _, _, _, _, rfl, rfl, Or.inr ⟨rfl, bk tp e a1, hc.2, rfl, hYc.2.2.2.1⟩, r4.trans (fXr.s _ _ _), fy1.trans (fY.s _ _ _)⟩
    · rw [if_pos (show nI 0 = 0 from rfl), if_pos (show nI 0 = 0 from rfl), e0, n1, zx]
      exact ⟨_, _, _, _, _, rfl, rfl, Or.inr ⟨rfl, n, n0, rfl, n2⟩, r4, fy1⟩
    · have en : bk tp e n = n := bk_let hT n3 n0
      rw [if_pos (show nI 0 = 0 from rfl), if_neg (show ¬ nI 1 = 0 by decide), e0, n1, zx, y_blanks F hF n2, qbd, en]
      have hYc := n2.s (b' := n) (a' := n) (by omega)
      have c2' : ¬ ((¬ tp n < nI 59) ∧ ¬ nI 59 < tp n) := by
        have lt : (¬ tp n < nI 97) ∧ ¬ nI 122 < tp n := by unfold sL at n3; simpa using n3
        obtain ⟨q, q1, q2, q3⟩ := by_in (hT n n0) (by decide) (by decide) lt
        rw [q3]
        exact fun z => z.2 ((nI_ltI (by omega) (by omega)).mpr (by omega))
      rw [hYc.2.2.2.2.1, hYc.2.2.1, if_neg (fun z => by have := (nI_eq (by omega) (by omega)).mp z; omega), y_at1 hYc n0, qbd, if_neg c2', if_pos (show nI 0 = 0 from rfl)]
      exact ⟨_, _, _, _, _, rfl, rfl, Or.inr ⟨rfl, n, by omega, rfl, hYc.2.2.2.1⟩, r4, fy1.trans (fY.s _ _ _)⟩
end LX
