/-! a line, and the text -/
section LT
variable {tp : Nat → Int32} {e b a : Nat} {X Y : zX} {T : Nat × Nat} {μ : zM}
theorem k3_s {s : Nat} {W W' : zX} (hK : K3 s W) (hJ : J11 s W) (hs : s < 6) (f : fr [3, 11, 12] W W') : K3 (s + 1) W' := by
  intro n hn p hp hh
  rw [f 9 (by decide)] at hh
  rw [f 10 (by decide)]
  by_cases c : n = s
  · subst c
    rw [(hJ n (Nat.le_refl _) hs).1.1] at hh
    exact absurd hh (hb_0 (by omega))
  · exact hK n (by omega) p hp hh
theorem nd_ok (F : Nat) (hF : 500 ≤ F) {s l m : Nat} {Z : Nat → Int32} {W : zX} (hw : wR (0, Z) s l m T W Y) (hK : K3 s W) (hs : s < 6) {Y1 Yb : zX} (hz : ∀ w, 0 ≤ w → w < 244 → Y1 1 (18 + 244 * s + w) = nI 0) (ho : ∀ a, (∀ w, 0 ≤ w → w < 244 → a ≠ 18 + 244 * s + w) → Y1 1 a = Y 1 a) (eb : Yb 1 = Y1 1) {up : Int32} (hup : up = nI 0 ∨ up = nI 1) : ∃ W' Y', eX4_add up (W 1 4) (W 1 5) W = some W' ∧ jX12_readNode_62 F (nI s) up (((nI 18) + ((nI 244) * nI s)) + (nI 0)) Yb = some (nI 1, Y') ∧ wP (s + 1) l T W' Y' ∧ fr [3, 11, 12] W W' ∧ fr [1] Yb Y' := by
  obtain ⟨W', e1, f1, w0, w1, w2, w3, w4, w5, w6⟩ := x_add hw hs up hup
  have b0 : ∀ a, a < 18 → Yb 1 a = Y 1 a := fun a ha => by rw [eb, ho a (fun w _ hw => by omega)]
  obtain ⟨Y', e2, f2, y0, y1, y2, y3, y4, y5, y6, y7, y8, y9, y10⟩ := y_nodeEnd F hF hs (Y := Yb) (fun w hw => by rw [eb]; exact hz w (Nat.zero_le _) hw) (by rw [b0 0 (by decide), hw.nn, hw.nodes]) up
  have q := hw.1.2.2.1.2
  refine ⟨W', Y', e1, e2, ⟨m, Z, hw.w_node hs (q 4 (by decide) (by decide)) (q 5 (by decide) (by decide)) f1 w0 w1 ⟨fun z => w2.mp z, fun z => hup.resolve_right (fun y => z (w2.mpr y))⟩ w3 w4 w5 w6 y0 (fun a ha => ?_) y2 y3 y4 (by rw [y5, b0 8 (by decide), hw.tc1]) (by rw [y6, b0 9 (by decide), hw.tc2]) y7 y8 y9 y10, k3_s hK hw.1.2.2.2.2.2.2.2.2.2.2 hs f1⟩, f1, f2⟩
  rw [y1 a ha, eb, ho a (fun w _ hw => ha.2.1 w hw)]
theorem y_pass (F : Nat) (hF : 500 ≤ F) (h : tpY tp e b a Y) : (wd tp wDown (cB tp e a) (cW tp e a) = true → eX12_passess31 F Y = some (nI 1, Ys Y (cB tp e a) (cW tp e a))) ∧ (wd tp wDown (cB tp e a) (cW tp e a) = false → eX12_passess31 F Y = some (nI 0, Ys Y (cB tp e a) (cB tp e a))) := by
  have hb := cW_b (tp := tp) h.2.1
  have h1 := h.s (b' := cB tp e a) hb.2
  unfold eX12_passess31
  rw [y_letters F hF h, qbd, show bk tp e a = cB tp e a from rfl, show lw tp e (cB tp e a) = cW tp e a from rfl, y_w31 F hF h1 hb.1, qbd]
  constructor
  · intro z; rw [z, if_neg (show ¬ wB1 true = 0 by decide)]
  · intro z
    rw [z, if_pos (show wB1 false = 0 by decide), h1.2.2.2.1]
    have : zw (Ys Y (cB tp e a) (cW tp e a)) 0 8 (nI (cB tp e a)) = Ys Y (cB tp e a) (cB tp e a) := by
      unfold Ys
      rw [zw_zw]
    rw [this]
theorem l_node (F : Nat) (hF : 500 ≤ F) (hT : byT tp e) (hbe : b ≤ e) {s l : Nat} (hw : wP s l T (μ 6) Y) (hX : tpX tp e b a (μ 0)) (hY : tpY tp e b a Y) : lnR tp e T μ Y (eX6_readNode F μ) (eX12_readNode F Y) := by
  obtain ⟨m, Z, hw, hK⟩ := id hw
  have hs6 := hw.hs
  unfold eX6_readNode eX12_readNode
  rw [hw.nodes, hw.nn, hw.nodes, zg_id]
  by_cases c : s = 6
  · rw [if_neg (show ¬ nI s < nI 6 from nI_nlt (by omega) (by omega)), if_pos (show nI s = nI 6 by rw [c]), x_failX hX, qbd]
    dsimp only
    rw [show zbl (nI 0) = true from rfl, qchk]
    exact lnR_no hbe rfl rfl (zw_at _ _ _ _) hY.2.2.2.1 (fXr.w _ _ _) (fY.rf _)
  · have hs : s < 6 := by omega
    have hb := cW_b (tp := tp) hX.2.1
    have he := hX.1
    have hX1 := hX.s (b' := b) (a' := cB tp e a) (by omega)
    obtain ⟨Y1, z1, z2, z3, z4⟩ := y_nz F hs 244 F 0 Y rfl (Nat.zero_le _) (by omega)
    have z1' : hX12_readNode_15 F F (nI s) (nI 0) Y = _ := z1
    have hY1 := hY.w1 z2
    obtain ⟨p1, p2⟩ := y_pass F hF hY1
    have idem : bk tp e (cB tp e a) = cB tp e a := bk_bk hX.2.1
    have eB : cB tp e (cB tp e a) = cB tp e a := idem
    have eW : cW tp e (cB tp e a) = cW tp e a := by unfold cW; rw [idem]; rfl
    rw [if_pos ((nI_ltI (by omega) (by omega)).mpr hs), if_neg (fun z => c ((nI_eq (by omega) (by omega)).mp z)), z1', x_skip F hF hT hX, qbd, show bk tp e a = cB tp e a from rfl, hX1.2.2.2.2.1]
    unfold jX6_readNode_51 jX6_readNode_64
    by_cases cl : cB tp e a < e ∧ sL tp (cB tp e a) = false
    · have lt : (¬ tp (cB tp e a) < nI 97) ∧ ¬ nI 122 < tp (cB tp e a) := by
        have := cl.2
        unfold sL at this
        simpa using this
      have lt2 := (by_r (hT _ cl.1) (by decide) (by decide)).mpr lt
      obtain ⟨q1, q2⟩ := x_tw1 F hF hT hX1
      rw [eB, eW, Xs_Xs] at q1 q2
      rw [x_byte hX1 cl.1, qbd, if_pos lt2]
      cases cd : wd tp wDown (cB tp e a) (cW tp e a) with
      | true =>
        obtain ⟨W', Y', e1, e2, e3, e4, e5⟩ := nd_ok F hF hw hK hs z3 z4 (Yb := Ys Y1 (cB tp e a) (cW tp e a)) (Ys_row _ _ _ (by decide)) (Or.inl rfl)
        rw [q1 cd, p1 cd, qbd, qbd]
        dsimp only
        rw [if_neg (show ¬ nI 1 = 0 by decide), if_neg (show ¬ nI 1 = 0 by decide), if_neg (show ¬ zB ((¬ (tp (cB tp e a) &&& nI 255 < nI 97)) ∧ ¬ (nI 122 < tp (cB tp e a) &&& nI 255)) = 0 from zB_n0.mpr lt2), e2, zg_ne (show (6 : Nat) ≠ 0 by decide), e1, qbd]
        exact ⟨_, _, _, _, _, rfl, rfl, Or.inl ⟨rfl, rfl, s + 1, l, _, _, _, e3, e4.sub (by decide), hX.s hb.2, (hY1.s hb.2).w1 e5⟩, fXr.s _ _ _, ((fY.f1 z2).trans (fY.s _ _ _)).trans (fY.f1 e5)⟩
      | false =>
        obtain ⟨W', Y', e1, e2, e3, e4, e5⟩ := nd_ok F hF hw hK hs z3 z4 (Yb := Ys Y1 (cB tp e a) (cB tp e a)) (Ys_row _ _ _ (by decide)) (Or.inr rfl)
        rw [q2 cd, p2 cd, qbd, qbd]
        dsimp only
        rw [if_pos (show nI 0 = 0 from rfl), if_pos (show nI 0 = 0 from rfl), e2]
        exact ⟨_, _, μ 6, _, _, by rw [zg_6], rfl, Or.inr (Or.inr ⟨rfl, rfl, _, _, cl.1, zw_at _ _ _ _, (hY1.s (by omega)).w1 e5, cl.2⟩), (fXr.s _ _ _).trans (fXr.w _ _ _), ((fY.f1 z2).trans (fY.s _ _ _)).trans (fY.f1 e5)⟩
    · have nl : cB tp e a = e ∨ (cB tp e a < e ∧ sL tp (cB tp e a) = true) := by
        by_cases z : cB tp e a = e
        · exact Or.inl z
        · have z2 : cB tp e a < e := by omega
          refine Or.inr ⟨z2, ?_⟩
          cases y : sL tp (cB tp e a) with
          | true => rfl
          | false => exact absurd ⟨z2, y⟩ cl
      have eW2 : cW tp e a = cB tp e a := lw_none nl
      have cd : wd tp wDown (cB tp e a) (cW tp e a) = false := by
        unfold wd
        rw [eW2, Nat.sub_self, decide_eq_false (by decide)]
        rfl
      have byt : ∃ r5, eX7_byteAt (nI (cB tp e a)) (Xs (μ 0) b (cB tp e a)) = some r5 ∧ ¬ ((¬ (r5 < nI 97)) ∧ ¬ (nI 122 < r5)) := by
        rcases nl with z | ⟨z, y⟩
        · exact ⟨-1, x_byteE hX1 (by omega) (by omega), fun w => w.1 (by decide)⟩
        · refine ⟨_, x_byte hX1 z, fun w => ?_⟩
          have := (by_r (hT _ z) (by decide) (by decide)).mp w
          unfold sL at y
          rw [decide_eq_true this] at y
          cases y
      obtain ⟨r5, r6, r7⟩ := byt
      obtain ⟨W', Y', e1, e2, e3, e4, e5⟩ := nd_ok F hF hw hK hs z3 z4 (Yb := Ys Y1 (cB tp e a) (cB tp e a)) (Ys_row _ _ _ (by decide)) (Or.inr rfl)
      rw [r6, qbd, if_neg r7, p2 cd, qbd]
      dsimp only
      rw [if_pos (show zB ((¬ (r5 < nI 97)) ∧ ¬ (nI 122 < r5)) = 0 from zB_0.mpr r7), if_pos (show nI 0 = 0 from rfl), e2, zg_ne (show (6 : Nat) ≠ 0 by decide), e1, qbd]
      exact ⟨_, _, _, _, _, rfl, rfl, Or.inl ⟨rfl, rfl, s + 1, l, _, _, _, e3, e4.sub (by decide), hX1, (hY1.s (by omega)).w1 e5⟩, fXr.s _ _ _, ((fY.f1 z2).trans (fY.s _ _ _)).trans (fY.f1 e5)⟩
end LT
