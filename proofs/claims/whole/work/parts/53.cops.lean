/-! What a call makes of a world; the class' calls that change -/
theorem ySt.new {N1 N2 : zM} {σ τ : yS} (hS : yTold N1 σ) (h8 : 0 ≤ σ 1 ∧ σ 1 ≤ 8) (e : ∀ b, b ≠ 2 → b ≠ 8 → N2 b = N1 b) (ht : ∀ j, 1 ≤ j → j < 122 → τ j = σ j) (h2 : N2 2 2 = τ 0) (h3 : ∀ p, 0 ≤ p → p < τ 0 → N2 8 p = τ (122 + p)) : yTold N2 τ := by
  refine ⟨?_, h2, h3⟩
  rw [e 3 (by decide) (by decide), e 4 (by decide) (by decide), e 5 (by decide) (by decide), e 6 (by decide) (by decide), e 7 (by decide) (by decide)]
  exact hS.1.sg ht h8
theorem yGo_S {N1 N2 : zM} {σ : yS} {a m : Int} (hS : yTold N1 σ) (h8 : 0 ≤ σ 1 ∧ σ 1 ≤ 8) (ha : 0 ≤ a ∧ 0 ≤ m ∧ a + m ≤ σ 0) (p2 : N2 = fun b j => if b = 8 ∧ a ≤ j ∧ j < N1 2 2 - m then N1 8 (j + m) else if b = 2 ∧ j = 2 then N1 2 2 - m else N1 b j) : yTold N2 (yGo σ a m) := by
  have s22 := hS.2.1
  have e0 : yGo σ a m 0 = σ 0 - m := if_pos rfl
  refine hS.new h8 (fun b b1 b2 => by subst p2; funext j; simp [b1, b2]) (fun j j1 j2 => by unfold yGo; rw [if_neg (by omega), if_neg (by omega)]) ?_ (fun q q1 q2 => ?_)
  · rw [p2, e0]
    show (if (2 : Int) = 8 ∧ _ then _ else if (2 : Int) = 2 ∧ (2 : Int) = 2 then _ else _) = _
    rw [if_neg (by omega), if_pos ⟨rfl, rfl⟩, s22]
  · rw [e0] at q2
    rw [p2]
    show (if (8 : Int) = 8 ∧ a ≤ q ∧ q < N1 2 2 - m then N1 8 (q + m) else if (8 : Int) = 2 ∧ q = 2 then _ else N1 8 q) = _
    unfold yGo
    rw [if_neg (show ¬ (122 + q = 0) by omega)]
    by_cases c : a ≤ q
    · rw [if_pos ⟨rfl, c, by omega⟩, if_pos (by omega), hS.2.2 (q + m) (by omega) (by omega), show (122 : Int) + q + m = 122 + (q + m) by omega]
    · rw [if_neg (by omega), if_neg (by omega), if_neg (by omega)]
      exact hS.2.2 q (by omega) (by omega)
theorem yIns_S {N1 N2 : zM} {σ : yS} {a x : Int} (hS : yTold N1 σ) (h8 : 0 ≤ σ 1 ∧ σ 1 ≤ 8) (ha : 0 ≤ a ∧ a ≤ σ 0) (p2 : N2 = fun b j => if b = 8 ∧ a < j ∧ j ≤ N1 2 2 then N1 8 (j - 1) else if b = 8 ∧ j = a then x else if b = 2 ∧ j = 2 then N1 2 2 + 1 else N1 b j) : yTold N2 (yIns σ a x) := by
  have s22 := hS.2.1
  have e0 : yIns σ a x 0 = σ 0 + 1 := if_pos rfl
  refine hS.new h8 (fun b b1 b2 => by subst p2; funext j; simp [b1, b2]) (fun j j1 j2 => by unfold yIns; rw [if_neg (by omega), if_neg (by omega), if_neg (by omega)]) ?_ (fun q q1 q2 => ?_)
  · rw [p2, e0]
    show (if (2 : Int) = 8 ∧ _ then _ else if (2 : Int) = 8 ∧ _ then _ else if (2 : Int) = 2 ∧ (2 : Int) = 2 then _ else _) = _
    rw [if_neg (by omega), if_neg (by omega), if_pos ⟨rfl, rfl⟩, s22]
  · rw [e0] at q2
    rw [p2]
    show (if (8 : Int) = 8 ∧ a < q ∧ q ≤ N1 2 2 then N1 8 (q - 1) else if (8 : Int) = 8 ∧ q = a then x else if (8 : Int) = 2 ∧ q = 2 then _ else N1 8 q) = _
    unfold yIns
    rw [if_neg (show ¬ (122 + q = 0) by omega)]
    by_cases c : a < q
    · rw [if_pos ⟨rfl, c, by omega⟩, if_pos (by omega), hS.2.2 (q - 1) (by omega) (by omega), show (122 : Int) + q - 1 = 122 + (q - 1) by omega]
    · rw [if_neg (by omega), if_neg (show ¬ (122 + a < 122 + q ∧ _) by omega)]
      by_cases c2 : q = a
      · rw [if_pos ⟨rfl, c2⟩, if_pos (by omega)]
      · rw [if_neg (by omega), if_neg (by omega), if_neg (by omega)]
        exact hS.2.2 q (by omega) (by omega)
theorem yBec_S {N1 N2 : zM} {σ τ : yS} {r z n : Int} (hS : yTold N1 σ) (h8 : 0 ≤ σ 1 ∧ σ 1 ≤ 8) (ht : ∀ j, 1 ≤ j → j < 122 → τ j = σ j) (h0 : τ 0 = n) (hr : ∀ j, 0 ≤ j → j < n → N1 r j - z = τ (122 + j)) (p2 : N2 = fun b j => if b = 8 ∧ 0 ≤ j ∧ j < n then N1 r j - z else if b = 2 ∧ j = 2 then n else N1 b j) : yTold N2 τ := by
  refine hS.new h8 (fun b b1 b2 => by subst p2; funext j; simp [b1, b2]) ht ?_ (fun q q1 q2 => ?_)
  · rw [p2, h0]
    show (if (2 : Int) = 8 ∧ _ then _ else if (2 : Int) = 2 ∧ (2 : Int) = 2 then _ else _) = _
    rw [if_neg (by omega), if_pos ⟨rfl, rfl⟩]
  · rw [h0] at q2
    rw [p2]
    show (if (8 : Int) = 8 ∧ 0 ≤ q ∧ q < n then N1 r q - z else _) = _
    rw [if_pos ⟨rfl, q1, q2⟩]
    exact hr q q1 q2
section
set_option maxHeartbeats 4000000
def yo_insert (σ : yS) (un : Int) (uh : Int → yS) (mk : Int → Int) (im : Int → yS) (tn : Int) (tp : Int → Int) (ff fp : Int) (a l : Int) : Int × yWd := if ¬ (0 ≤ l ∧ l < 26) then (-3, (σ, un, uh, mk, im, tn, tp, ff, fp)) else if ¬ (0 ≤ a ∧ a ≤ σ 0) then (-5, (σ, un, uh, mk, im, tn, tp, ff, fp)) else if 60 ≤ σ 0 then (-4, (σ, un, uh, mk, im, tn, tp, ff, fp)) else (σ 0 + 1, yIns σ a l, ypn un, yph un uh σ, mk, im, tn, tp, ff, fp)
theorem c_insert {a l : Int} {M : zM} {Q : zV → zM → Prop} {σ : yS} {un : Int} {uh : Int → yS} {mk : Int → Int} {im : Int → yS} {tn : Int} {tp : Int → Int} {ff fp : Int} (hC : yCW M σ un uh mk im tn tp ff fp) (k : ∀ N : zM, yCw N (yo_insert σ un uh mk im tn tp ff fp a l).2 → (∀ x, 208 ≤ x → N x = M x) → Q (0, (yo_insert σ un uh mk im tn tp ff fp a l).1) N) : zWp kX_insert 0 [(1, 0), (0, a), (0, l)] [] M Q := by
  obtain ⟨hW, hS, hG, hz, hH, hP, hI, hT, hF1, hF2⟩ := id hC
  have hV := hW.1
  have hn := hV.1
  have hu := hW.2.1.1
  have htn := hW.2.2.2.1
  refine zw_iload ⟨rfl, rfl⟩ rfl ?_
  refine zw_calls1 ⟨rfl, rfl⟩ rfl rfl ?_
  refine zw_iload ⟨rfl, rfl⟩ rfl ?_
  refine zw_iflt ⟨rfl, rfl⟩ rfl (fun c1 => ?_) (fun c1 => ?_)
  · skip
    refine zw_const ⟨rfl, rfl⟩ ?_
    refine zw_zret rfl (by first | exact Or.inl rfl | exact Or.inr rfl | omega) ?_
    refine zw_ifne ⟨rfl, rfl⟩ rfl (fun q => absurd q (by decide)) (fun _ => ?_)
    refine zw_const ⟨rfl, rfl⟩ ?_
    refine zw_ret rfl ?_
    have e : yo_insert σ un uh mk im tn tp ff fp a l = ((-3), σ, un, uh, mk, im, tn, tp, ff, fp) := by unfold yo_insert; (repeat' split) <;> first | rfl | (exfalso; omega)
    rw [e] at k
    exact k _ (hC) (fun _ _ => rfl)
  · skip
    refine zw_iload ⟨rfl, rfl⟩ rfl ?_
    refine zw_const ⟨rfl, rfl⟩ ?_
    refine zw_icge ⟨rfl, rfl⟩ rfl (fun c3 => ?_) (fun c3 => ?_)
    · skip
      refine zw_const ⟨rfl, rfl⟩ ?_
      refine zw_zret rfl (by first | exact Or.inl rfl | exact Or.inr rfl | omega) ?_
      refine zw_ifne ⟨rfl, rfl⟩ rfl (fun q => absurd q (by decide)) (fun _ => ?_)
      refine zw_const ⟨rfl, rfl⟩ ?_
      refine zw_ret rfl ?_
      have e : yo_insert σ un uh mk im tn tp ff fp a l = ((-3), σ, un, uh, mk, im, tn, tp, ff, fp) := by unfold yo_insert; (repeat' split) <;> first | rfl | (exfalso; omega)
      rw [e] at k
      exact k _ (hC) (fun _ _ => rfl)
    · skip
      refine zw_const ⟨rfl, rfl⟩ ?_
      refine zw_goto ⟨rfl, rfl⟩ rfl ?_
      refine zw_zret rfl (by first | exact Or.inl rfl | exact Or.inr rfl | omega) ?_
      refine zw_ifne ⟨rfl, rfl⟩ rfl (fun _ => ?_) (fun q => absurd (by decide) q)
      refine zw_iload ⟨rfl, rfl⟩ rfl ?_
      refine zw_iflt ⟨rfl, rfl⟩ rfl (fun c6 => ?_) (fun c6 => ?_)
      · skip
        refine zw_const ⟨rfl, rfl⟩ ?_
        refine zw_ret rfl ?_
        have e : yo_insert σ un uh mk im tn tp ff fp a l = ((-5), σ, un, uh, mk, im, tn, tp, ff, fp) := by unfold yo_insert; (repeat' split) <;> first | rfl | (exfalso; omega)
        rw [e] at k
        exact k _ (hC) (fun _ _ => rfl)
      · skip
        refine zw_iload ⟨rfl, rfl⟩ rfl ?_
        refine zw_aload ⟨rfl, rfl⟩ rfl ?_
        refine zw_getR 2 ⟨rfl, rfl⟩ zr_0_4 ?_
        refine zw_getIv (v := σ 0) ⟨rfl, rfl⟩ zc_2 (by decide) (hS.2.1) ?_
        refine zw_icle ⟨rfl, rfl⟩ rfl (fun c7 => ?_) (fun c7 => ?_)
        · skip
          refine zw_aload ⟨rfl, rfl⟩ rfl ?_
          refine zw_getR 2 ⟨rfl, rfl⟩ zr_0_4 ?_
          refine zw_getIv (v := σ 0) ⟨rfl, rfl⟩ zc_2 (by decide) (hS.2.1) ?_
          refine zw_const ⟨rfl, rfl⟩ ?_
          refine zw_iclt ⟨rfl, rfl⟩ rfl (fun c8 => ?_) (fun c8 => ?_)
          · skip
            refine zw_aload ⟨rfl, rfl⟩ rfl ?_
            refine zw_getR 9 ⟨rfl, rfl⟩ zr_0_5 ?_
            refine zw_aload ⟨rfl, rfl⟩ rfl ?_
            refine zw_getR 2 ⟨rfl, rfl⟩ zr_0_4 ?_
            refine zw_cavv2 ⟨rfl, rfl⟩ rfl zc_9 rfl ?_
            refine m_keep hH hV hS (fun N1 p1 => ?_)
            have eN : ∀ b, b ≠ 0 → ¬ (9 ≤ b ∧ b ≤ 80) → N1 b = M b := fun b b0 b1 => p1.2 b b1
            have q01 : N1 0 1 = tn := by rw [p1.2 0 (by decide)]; exact hT.1
            have q02 : N1 0 2 = ff := by rw [p1.2 0 (by decide)]; exact hF1
            have q03 : N1 0 3 = fp := by rw [p1.2 0 (by decide)]; exact hF2
            have s22 : N1 2 2 = σ 0 := by rw [eN 2 (by decide) (by decide)]; exact hS.2.1
            have hS1 : yTold N1 σ := hS.cg (fun b b1 b2 => eN b (by omega) (by omega))
            have n138 : N1 138 0 = (yBack σ).1 := by rw [eN 138 (by decide) (by decide)]; exact hG.2.2.1
            refine zw_aload ⟨rfl, rfl⟩ rfl ?_
            refine zw_getR 2 ⟨rfl, rfl⟩ zr_0_4 ?_
            refine zw_iload ⟨rfl, rfl⟩ rfl ?_
            refine zw_iload ⟨rfl, rfl⟩ rfl ?_
            refine zw_cavv3 ⟨rfl, rfl⟩ rfl zc_2 rfl ?_
            refine m_putIn (by omega) (fun N2 p2 => ?_)
            have e2 : ∀ b, b ≠ 2 → b ≠ 8 → N2 b = N1 b := fun b b1 b2 => by subst p2; funext j; simp [b1, b2]
            have hV2 : yVal (yIns σ a l) := yIns_V hV (by omega) (by omega) (by omega)
            have hS2 : yTold N2 (yIns σ a l) := yIns_S hS1 hV.2.1 (by omega) p2
            refine zw_aload ⟨rfl, rfl⟩ rfl ?_
            refine zw_cavv1 ⟨rfl, rfl⟩ rfl zc_0 rfl ?_
            refine m_settle hV2 hS2 (by rw [e2 137 (by decide) (by decide), e2 136 (by decide) (by decide), eN 137 (by decide) (by decide), eN 136 (by decide) (by decide)]; exact hz) (fun N3 p3 => ?_)
            obtain ⟨w1, w2⟩ := yCW_new hC hV2 hS2 (p1.1.cg (fun b b1 b2 => e2 b (by omega) (by omega))) (fun b b0 b1 b2 => (e2 b (by omega) (by omega)).trans (eN b b0 (by omega))) (tn' := tn) (ff' := ff) (fp' := fp) ⟨⟨by rw [e2 0 (by decide) (by decide)]; exact q01, by omega, by omega⟩, by rw [e2 0 (by decide) (by decide)]; exact q02, by rw [e2 0 (by decide) (by decide)]; exact q03⟩ p3
            have s32 : N3 2 2 = σ 0 + 1 := by rw [p3.2.2 2 (by decide)]; exact hS2.2.1.trans (if_pos rfl)
            refine zw_aload ⟨rfl, rfl⟩ rfl ?_
            refine zw_getR 2 ⟨rfl, rfl⟩ zr_0_4 ?_
            refine zw_getIv (v := σ 0 + 1) ⟨rfl, rfl⟩ zc_2 (by decide) (s32) ?_
            refine zw_ret rfl ?_
            have e : yo_insert σ un uh mk im tn tp ff fp a l = (σ 0 + 1, yIns σ a l, ypn un, yph un uh σ, mk, im, tn, tp, ff, fp) := by unfold yo_insert; (repeat' split) <;> first | rfl | (exfalso; omega)
            rw [e] at k
            exact k _ (w1) (w2)
          · skip
            refine zw_const ⟨rfl, rfl⟩ ?_
            refine zw_ret rfl ?_
            have e : yo_insert σ un uh mk im tn tp ff fp a l = ((-4), σ, un, uh, mk, im, tn, tp, ff, fp) := by unfold yo_insert; (repeat' split) <;> first | rfl | (exfalso; omega)
            rw [e] at k
            exact k _ (hC) (fun _ _ => rfl)
        · skip
          refine zw_const ⟨rfl, rfl⟩ ?_
          refine zw_ret rfl ?_
          have e : yo_insert σ un uh mk im tn tp ff fp a l = ((-5), σ, un, uh, mk, im, tn, tp, ff, fp) := by unfold yo_insert; (repeat' split) <;> first | rfl | (exfalso; omega)
          rw [e] at k
          exact k _ (hC) (fun _ _ => rfl)

def yo_backspace (σ : yS) (un : Int) (uh : Int → yS) (mk : Int → Int) (im : Int → yS) (tn : Int) (tp : Int → Int) (ff fp : Int) (a : Int) : Int × yWd := if ¬ (1 ≤ a ∧ a ≤ σ 0) then (-5, (σ, un, uh, mk, im, tn, tp, ff, fp)) else (yL σ (a - 1), yGo σ (a - 1) 1, ypn un, yph un uh σ, mk, im, tn, tp, ff, fp)
theorem c_backspace {a : Int} {M : zM} {Q : zV → zM → Prop} {σ : yS} {un : Int} {uh : Int → yS} {mk : Int → Int} {im : Int → yS} {tn : Int} {tp : Int → Int} {ff fp : Int} (hC : yCW M σ un uh mk im tn tp ff fp) (k : ∀ N : zM, yCw N (yo_backspace σ un uh mk im tn tp ff fp a).2 → (∀ x, 208 ≤ x → N x = M x) → Q (0, (yo_backspace σ un uh mk im tn tp ff fp a).1) N) : zWp kX_backspace 0 [(1, 0), (0, a), (3, 0)] [] M Q := by
  obtain ⟨hW, hS, hG, hz, hH, hP, hI, hT, hF1, hF2⟩ := id hC
  have hV := hW.1
  have hn := hV.1
  have hu := hW.2.1.1
  have htn := hW.2.2.2.1
  refine zw_iload ⟨rfl, rfl⟩ rfl ?_
  refine zw_const ⟨rfl, rfl⟩ ?_
  refine zw_iclt ⟨rfl, rfl⟩ rfl (fun c1 => ?_) (fun c1 => ?_)
  · skip
    refine zw_const ⟨rfl, rfl⟩ ?_
    refine zw_ret rfl ?_
    have e : yo_backspace σ un uh mk im tn tp ff fp a = ((-5), σ, un, uh, mk, im, tn, tp, ff, fp) := by unfold yo_backspace; (repeat' split) <;> first | rfl | (exfalso; omega)
    rw [e] at k
    exact k _ (hC) (fun _ _ => rfl)
  · skip
    refine zw_iload ⟨rfl, rfl⟩ rfl ?_
    refine zw_aload ⟨rfl, rfl⟩ rfl ?_
    refine zw_getR 2 ⟨rfl, rfl⟩ zr_0_4 ?_
    refine zw_getIv (v := σ 0) ⟨rfl, rfl⟩ zc_2 (by decide) (hS.2.1) ?_
    refine zw_icle ⟨rfl, rfl⟩ rfl (fun c2 => ?_) (fun c2 => ?_)
    · skip
      refine zw_aload ⟨rfl, rfl⟩ rfl ?_
      refine zw_getR 2 ⟨rfl, rfl⟩ zr_0_4 ?_
      refine zw_iload ⟨rfl, rfl⟩ rfl ?_
      refine zw_const ⟨rfl, rfl⟩ ?_
      refine zw_isub ⟨rfl, rfl⟩ (by omega) ?_
      refine zw_callv2 ⟨rfl, rfl⟩ rfl zc_2 rfl ?_
      refine m_letterAt_s hn.2 hS ?_
      refine zw_istore_2 ⟨rfl, rfl⟩ ?_
      refine zw_aload ⟨rfl, rfl⟩ rfl ?_
      refine zw_getR 9 ⟨rfl, rfl⟩ zr_0_5 ?_
      refine zw_aload ⟨rfl, rfl⟩ rfl ?_
      refine zw_getR 2 ⟨rfl, rfl⟩ zr_0_4 ?_
      refine zw_cavv2 ⟨rfl, rfl⟩ rfl zc_9 rfl ?_
      refine m_keep hH hV hS (fun N1 p1 => ?_)
      have eN : ∀ b, b ≠ 0 → ¬ (9 ≤ b ∧ b ≤ 80) → N1 b = M b := fun b b0 b1 => p1.2 b b1
      have q01 : N1 0 1 = tn := by rw [p1.2 0 (by decide)]; exact hT.1
      have q02 : N1 0 2 = ff := by rw [p1.2 0 (by decide)]; exact hF1
      have q03 : N1 0 3 = fp := by rw [p1.2 0 (by decide)]; exact hF2
      have s22 : N1 2 2 = σ 0 := by rw [eN 2 (by decide) (by decide)]; exact hS.2.1
      have hS1 : yTold N1 σ := hS.cg (fun b b1 b2 => eN b (by omega) (by omega))
      have n138 : N1 138 0 = (yBack σ).1 := by rw [eN 138 (by decide) (by decide)]; exact hG.2.2.1
      refine zw_aload ⟨rfl, rfl⟩ rfl ?_
      refine zw_getR 2 ⟨rfl, rfl⟩ zr_0_4 ?_
      refine zw_iload ⟨rfl, rfl⟩ rfl ?_
      refine zw_const ⟨rfl, rfl⟩ ?_
      refine zw_isub ⟨rfl, rfl⟩ (by omega) ?_
      refine zw_const ⟨rfl, rfl⟩ ?_
      refine zw_cavv3 ⟨rfl, rfl⟩ rfl zc_2 rfl ?_
      refine m_takeOut (by omega) (by omega) ⟨by omega, by omega⟩ (fun N2 p2 => ?_)
      have e2 : ∀ b, b ≠ 2 → b ≠ 8 → N2 b = N1 b := fun b b1 b2 => by subst p2; funext j; simp [b1, b2]
      have hV2 : yVal (yGo σ (a - 1) 1) := yGo_V hV (by omega)
      have hS2 : yTold N2 (yGo σ (a - 1) 1) := yGo_S hS1 hV.2.1 (by omega) p2
      refine zw_aload ⟨rfl, rfl⟩ rfl ?_
      refine zw_cavv1 ⟨rfl, rfl⟩ rfl zc_0 rfl ?_
      refine m_settle hV2 hS2 (by rw [e2 137 (by decide) (by decide), e2 136 (by decide) (by decide), eN 137 (by decide) (by decide), eN 136 (by decide) (by decide)]; exact hz) (fun N3 p3 => ?_)
      obtain ⟨w1, w2⟩ := yCW_new hC hV2 hS2 (p1.1.cg (fun b b1 b2 => e2 b (by omega) (by omega))) (fun b b0 b1 b2 => (e2 b (by omega) (by omega)).trans (eN b b0 (by omega))) (tn' := tn) (ff' := ff) (fp' := fp) ⟨⟨by rw [e2 0 (by decide) (by decide)]; exact q01, by omega, by omega⟩, by rw [e2 0 (by decide) (by decide)]; exact q02, by rw [e2 0 (by decide) (by decide)]; exact q03⟩ p3
      have s32 : N3 2 2 = σ 0 - 1 := by rw [p3.2.2 2 (by decide)]; exact hS2.2.1.trans (if_pos rfl)
      refine zw_iload ⟨rfl, rfl⟩ rfl ?_
      refine zw_ret rfl ?_
      have e : yo_backspace σ un uh mk im tn tp ff fp a = (yL σ (a - 1), yGo σ (a - 1) 1, ypn un, yph un uh σ, mk, im, tn, tp, ff, fp) := by unfold yo_backspace; (repeat' split) <;> first | rfl | (exfalso; omega)
      rw [e] at k
      exact k _ (w1) (w2)
    · skip
      refine zw_const ⟨rfl, rfl⟩ ?_
      refine zw_ret rfl ?_
      have e : yo_backspace σ un uh mk im tn tp ff fp a = ((-5), σ, un, uh, mk, im, tn, tp, ff, fp) := by unfold yo_backspace; (repeat' split) <;> first | rfl | (exfalso; omega)
      rw [e] at k
      exact k _ (hC) (fun _ _ => rfl)

def yo_delete (σ : yS) (un : Int) (uh : Int → yS) (mk : Int → Int) (im : Int → yS) (tn : Int) (tp : Int → Int) (ff fp : Int) (a : Int) : Int × yWd := if ysa (yK σ) (σ 0) a = -1 ∨ (yci (yK σ) (σ 0)) ≤ ysa (yK σ) (σ 0) a then (-5, (σ, un, uh, mk, im, tn, tp, ff, fp)) else (yB (yK σ) (ysa (yK σ) (σ 0) a + 1) - yB (yK σ) (ysa (yK σ) (σ 0) a), yGo σ a (yB (yK σ) (ysa (yK σ) (σ 0) a + 1) - yB (yK σ) (ysa (yK σ) (σ 0) a)), ypn un, yph un uh σ, mk, im, tn, tp, ff, fp)
theorem c_delete {a : Int} {M : zM} {Q : zV → zM → Prop} {σ : yS} {un : Int} {uh : Int → yS} {mk : Int → Int} {im : Int → yS} {tn : Int} {tp : Int → Int} {ff fp : Int} (hC : yCW M σ un uh mk im tn tp ff fp) (k : ∀ N : zM, yCw N (yo_delete σ un uh mk im tn tp ff fp a).2 → (∀ x, 208 ≤ x → N x = M x) → Q (0, (yo_delete σ un uh mk im tn tp ff fp a).1) N) : zWp kX_delete 0 [(1, 0), (0, a), (3, 0), (3, 0)] [] M Q := by
  obtain ⟨hW, hS, hG, hz, hH, hP, hI, hT, hF1, hF2⟩ := id hC
  have hV := hW.1
  have hn := hV.1
  have hu := hW.2.1.1
  have htn := hW.2.2.2.1
  have hK := yKr_K hV
  refine zw_aload ⟨rfl, rfl⟩ rfl ?_
  refine zw_getR 105 ⟨rfl, rfl⟩ zr_0_8 ?_
  refine zw_iload ⟨rfl, rfl⟩ rfl ?_
  refine zw_callv2 ⟨rfl, rfl⟩ rfl zc_105 rfl ?_
  refine m_stopAt hK hG.1.1 ?_
  refine zw_istore_2 ⟨rfl, rfl⟩ ?_
  refine zw_iload ⟨rfl, rfl⟩ rfl ?_
  refine zw_const ⟨rfl, rfl⟩ ?_
  refine zw_iceq ⟨rfl, rfl⟩ rfl (fun c1 => ?_) (fun c1 => ?_)
  · skip
    refine zw_const ⟨rfl, rfl⟩ ?_
    refine zw_ret rfl ?_
    have e : yo_delete σ un uh mk im tn tp ff fp a = ((-5), σ, un, uh, mk, im, tn, tp, ff, fp) := by unfold yo_delete; (repeat' split) <;> first | rfl | (exfalso; omega)
    rw [e] at k
    exact k _ (hC) (fun _ _ => rfl)
  · skip
    refine zw_iload ⟨rfl, rfl⟩ rfl ?_
    refine zw_aload ⟨rfl, rfl⟩ rfl ?_
    refine zw_getR 105 ⟨rfl, rfl⟩ zr_0_8 ?_
    refine zw_getIv (v := (yci (yK σ) (σ 0))) ⟨rfl, rfl⟩ zc_105 (by decide) (hG.1.1.1.1) ?_
    refine zw_iclt ⟨rfl, rfl⟩ rfl (fun c2 => ?_) (fun c2 => ?_)
    · skip
      refine zw_aload ⟨rfl, rfl⟩ rfl ?_
      refine zw_getR 105 ⟨rfl, rfl⟩ zr_0_8 ?_
      refine zw_iload ⟨rfl, rfl⟩ rfl ?_
      refine zw_const ⟨rfl, rfl⟩ ?_
      refine zw_callv3 ⟨rfl, rfl⟩ rfl zc_105 rfl ?_
      have hsa := ysa_B hK (p := a) (by omega)
      have hcl := (yB_cl hK (c := ysa (yK σ) (σ 0) a) (by omega) (by omega)).1
      refine m_factOf_1 hK hG.1.1 ?_
      rw [if_pos ⟨hsa.1.1, by omega⟩]
      have hea := hsa.2
      refine zw_istore_3 ⟨rfl, rfl⟩ ?_
      refine zw_aload ⟨rfl, rfl⟩ rfl ?_
      refine zw_getR 9 ⟨rfl, rfl⟩ zr_0_5 ?_
      refine zw_aload ⟨rfl, rfl⟩ rfl ?_
      refine zw_getR 2 ⟨rfl, rfl⟩ zr_0_4 ?_
      refine zw_cavv2 ⟨rfl, rfl⟩ rfl zc_9 rfl ?_
      refine m_keep hH hV hS (fun N1 p1 => ?_)
      have eN : ∀ b, b ≠ 0 → ¬ (9 ≤ b ∧ b ≤ 80) → N1 b = M b := fun b b0 b1 => p1.2 b b1
      have q01 : N1 0 1 = tn := by rw [p1.2 0 (by decide)]; exact hT.1
      have q02 : N1 0 2 = ff := by rw [p1.2 0 (by decide)]; exact hF1
      have q03 : N1 0 3 = fp := by rw [p1.2 0 (by decide)]; exact hF2
      have s22 : N1 2 2 = σ 0 := by rw [eN 2 (by decide) (by decide)]; exact hS.2.1
      have hS1 : yTold N1 σ := hS.cg (fun b b1 b2 => eN b (by omega) (by omega))
      have n138 : N1 138 0 = (yBack σ).1 := by rw [eN 138 (by decide) (by decide)]; exact hG.2.2.1
      refine zw_aload ⟨rfl, rfl⟩ rfl ?_
      refine zw_getR 2 ⟨rfl, rfl⟩ zr_0_4 ?_
      refine zw_iload ⟨rfl, rfl⟩ rfl ?_
      refine zw_iload ⟨rfl, rfl⟩ rfl ?_
      refine zw_cavv3 ⟨rfl, rfl⟩ rfl zc_2 rfl ?_
      refine m_takeOut (by omega) (by omega) ⟨by omega, by omega⟩ (fun N2 p2 => ?_)
      have e2 : ∀ b, b ≠ 2 → b ≠ 8 → N2 b = N1 b := fun b b1 b2 => by subst p2; funext j; simp [b1, b2]
      have hV2 : yVal (yGo σ a (yB (yK σ) (ysa (yK σ) (σ 0) a + 1) - yB (yK σ) (ysa (yK σ) (σ 0) a))) := yGo_V hV (by omega)
      have hS2 : yTold N2 (yGo σ a (yB (yK σ) (ysa (yK σ) (σ 0) a + 1) - yB (yK σ) (ysa (yK σ) (σ 0) a))) := yGo_S hS1 hV.2.1 (by omega) p2
      refine zw_aload ⟨rfl, rfl⟩ rfl ?_
      refine zw_cavv1 ⟨rfl, rfl⟩ rfl zc_0 rfl ?_
      refine m_settle hV2 hS2 (by rw [e2 137 (by decide) (by decide), e2 136 (by decide) (by decide), eN 137 (by decide) (by decide), eN 136 (by decide) (by decide)]; exact hz) (fun N3 p3 => ?_)
      obtain ⟨w1, w2⟩ := yCW_new hC hV2 hS2 (p1.1.cg (fun b b1 b2 => e2 b (by omega) (by omega))) (fun b b0 b1 b2 => (e2 b (by omega) (by omega)).trans (eN b b0 (by omega))) (tn' := tn) (ff' := ff) (fp' := fp) ⟨⟨by rw [e2 0 (by decide) (by decide)]; exact q01, by omega, by omega⟩, by rw [e2 0 (by decide) (by decide)]; exact q02, by rw [e2 0 (by decide) (by decide)]; exact q03⟩ p3
      have s32 : N3 2 2 = σ 0 - (yB (yK σ) (ysa (yK σ) (σ 0) a + 1) - yB (yK σ) (ysa (yK σ) (σ 0) a)) := by rw [p3.2.2 2 (by decide)]; exact hS2.2.1.trans (if_pos rfl)
      refine zw_iload ⟨rfl, rfl⟩ rfl ?_
      refine zw_ret rfl ?_
      have e : yo_delete σ un uh mk im tn tp ff fp a = (yB (yK σ) (ysa (yK σ) (σ 0) a + 1) - yB (yK σ) (ysa (yK σ) (σ 0) a), yGo σ a (yB (yK σ) (ysa (yK σ) (σ 0) a + 1) - yB (yK σ) (ysa (yK σ) (σ 0) a)), ypn un, yph un uh σ, mk, im, tn, tp, ff, fp) := by unfold yo_delete; (repeat' split) <;> first | rfl | (exfalso; omega)
      rw [e] at k
      exact k _ (w1) (w2)
    · skip
      refine zw_const ⟨rfl, rfl⟩ ?_
      refine zw_ret rfl ?_
      have e : yo_delete σ un uh mk im tn tp ff fp a = ((-5), σ, un, uh, mk, im, tn, tp, ff, fp) := by unfold yo_delete; (repeat' split) <;> first | rfl | (exfalso; omega)
      rw [e] at k
      exact k _ (hC) (fun _ _ => rfl)

def yo_erase (σ : yS) (un : Int) (uh : Int → yS) (mk : Int → Int) (im : Int → yS) (tn : Int) (tp : Int → Int) (ff fp : Int) : Int × yWd := (σ 0, yGo σ 0 (σ 0), ypn un, yph un uh σ, mk, im, tn, tp, ff, fp)
theorem c_erase {M : zM} {Q : zV → zM → Prop} {σ : yS} {un : Int} {uh : Int → yS} {mk : Int → Int} {im : Int → yS} {tn : Int} {tp : Int → Int} {ff fp : Int} (hC : yCW M σ un uh mk im tn tp ff fp) (k : ∀ N : zM, yCw N (yo_erase σ un uh mk im tn tp ff fp).2 → (∀ x, 208 ≤ x → N x = M x) → Q (0, (yo_erase σ un uh mk im tn tp ff fp).1) N) : zWp kX_erase 0 [(1, 0), (3, 0)] [] M Q := by
  obtain ⟨hW, hS, hG, hz, hH, hP, hI, hT, hF1, hF2⟩ := id hC
  have hV := hW.1
  have hn := hV.1
  have hu := hW.2.1.1
  have htn := hW.2.2.2.1
  refine zw_aload ⟨rfl, rfl⟩ rfl ?_
  refine zw_getR 2 ⟨rfl, rfl⟩ zr_0_4 ?_
  refine zw_getIv (v := σ 0) ⟨rfl, rfl⟩ zc_2 (by decide) (hS.2.1) ?_
  refine zw_istore_1 ⟨rfl, rfl⟩ ?_
  refine zw_aload ⟨rfl, rfl⟩ rfl ?_
  refine zw_getR 9 ⟨rfl, rfl⟩ zr_0_5 ?_
  refine zw_aload ⟨rfl, rfl⟩ rfl ?_
  refine zw_getR 2 ⟨rfl, rfl⟩ zr_0_4 ?_
  refine zw_cavv2 ⟨rfl, rfl⟩ rfl zc_9 rfl ?_
  refine m_keep hH hV hS (fun N1 p1 => ?_)
  have eN : ∀ b, b ≠ 0 → ¬ (9 ≤ b ∧ b ≤ 80) → N1 b = M b := fun b b0 b1 => p1.2 b b1
  have q01 : N1 0 1 = tn := by rw [p1.2 0 (by decide)]; exact hT.1
  have q02 : N1 0 2 = ff := by rw [p1.2 0 (by decide)]; exact hF1
  have q03 : N1 0 3 = fp := by rw [p1.2 0 (by decide)]; exact hF2
  have s22 : N1 2 2 = σ 0 := by rw [eN 2 (by decide) (by decide)]; exact hS.2.1
  have hS1 : yTold N1 σ := hS.cg (fun b b1 b2 => eN b (by omega) (by omega))
  have n138 : N1 138 0 = (yBack σ).1 := by rw [eN 138 (by decide) (by decide)]; exact hG.2.2.1
  refine zw_aload ⟨rfl, rfl⟩ rfl ?_
  refine zw_getR 2 ⟨rfl, rfl⟩ zr_0_4 ?_
  refine zw_const ⟨rfl, rfl⟩ ?_
  refine zw_iload ⟨rfl, rfl⟩ rfl ?_
  refine zw_cavv3 ⟨rfl, rfl⟩ rfl zc_2 rfl ?_
  refine m_takeOut (by omega) (by omega) ⟨by omega, by omega⟩ (fun N2 p2 => ?_)
  have e2 : ∀ b, b ≠ 2 → b ≠ 8 → N2 b = N1 b := fun b b1 b2 => by subst p2; funext j; simp [b1, b2]
  have hV2 : yVal (yGo σ 0 (σ 0)) := yGo_V hV (by omega)
  have hS2 : yTold N2 (yGo σ 0 (σ 0)) := yGo_S hS1 hV.2.1 (by omega) p2
  refine zw_aload ⟨rfl, rfl⟩ rfl ?_
  refine zw_cavv1 ⟨rfl, rfl⟩ rfl zc_0 rfl ?_
  refine m_settle hV2 hS2 (by rw [e2 137 (by decide) (by decide), e2 136 (by decide) (by decide), eN 137 (by decide) (by decide), eN 136 (by decide) (by decide)]; exact hz) (fun N3 p3 => ?_)
  obtain ⟨w1, w2⟩ := yCW_new hC hV2 hS2 (p1.1.cg (fun b b1 b2 => e2 b (by omega) (by omega))) (fun b b0 b1 b2 => (e2 b (by omega) (by omega)).trans (eN b b0 (by omega))) (tn' := tn) (ff' := ff) (fp' := fp) ⟨⟨by rw [e2 0 (by decide) (by decide)]; exact q01, by omega, by omega⟩, by rw [e2 0 (by decide) (by decide)]; exact q02, by rw [e2 0 (by decide) (by decide)]; exact q03⟩ p3
  have s32 : N3 2 2 = σ 0 - σ 0 := by rw [p3.2.2 2 (by decide)]; exact hS2.2.1.trans (if_pos rfl)
  refine zw_iload ⟨rfl, rfl⟩ rfl ?_
  refine zw_ret rfl ?_
  have e : yo_erase σ un uh mk im tn tp ff fp = (σ 0, yGo σ 0 (σ 0), ypn un, yph un uh σ, mk, im, tn, tp, ff, fp) := by unfold yo_erase; rfl
  rw [e] at k
  exact k _ (w1) (w2)

def yo_order (σ : yS) (un : Int) (uh : Int → yS) (mk : Int → Int) (im : Int → yS) (tn : Int) (tp : Int → Int) (ff fp : Int) : Int × yWd := if 60 < (yBack σ).1 then (-4, (σ, un, uh, mk, im, tn, tp, ff, fp)) else ((yBack σ).1, yOr σ, ypn un, yph un uh σ, mk, im, tn, tp, ff, fp)
theorem c_order {M : zM} {Q : zV → zM → Prop} {σ : yS} {un : Int} {uh : Int → yS} {mk : Int → Int} {im : Int → yS} {tn : Int} {tp : Int → Int} {ff fp : Int} (hC : yCW M σ un uh mk im tn tp ff fp) (k : ∀ N : zM, yCw N (yo_order σ un uh mk im tn tp ff fp).2 → (∀ x, 208 ≤ x → N x = M x) → Q (0, (yo_order σ un uh mk im tn tp ff fp).1) N) : zWp kX_order 0 [(1, 0)] [] M Q := by
  obtain ⟨hW, hS, hG, hz, hH, hP, hI, hT, hF1, hF2⟩ := id hC
  have hV := hW.1
  have hn := hV.1
  have hu := hW.2.1.1
  have htn := hW.2.2.2.1
  have hbr := yBack_r hV
  have hgg : yRg (yBack σ) := yRg_c hV _ (yci_60 (yKr_K hV)).1 (Int.le_refl _)
  refine zw_aload ⟨rfl, rfl⟩ rfl ?_
  refine zw_getR 138 ⟨rfl, rfl⟩ zr_0_11 ?_
  refine zw_getIv (v := (yBack σ).1) ⟨rfl, rfl⟩ zc_138 (by decide) (hG.2.2.1) ?_
  refine zw_const ⟨rfl, rfl⟩ ?_
  refine zw_icle ⟨rfl, rfl⟩ rfl (fun c1 => ?_) (fun c1 => ?_)
  · skip
    refine zw_aload ⟨rfl, rfl⟩ rfl ?_
    refine zw_getR 9 ⟨rfl, rfl⟩ zr_0_5 ?_
    refine zw_aload ⟨rfl, rfl⟩ rfl ?_
    refine zw_getR 2 ⟨rfl, rfl⟩ zr_0_4 ?_
    refine zw_cavv2 ⟨rfl, rfl⟩ rfl zc_9 rfl ?_
    refine m_keep hH hV hS (fun N1 p1 => ?_)
    have eN : ∀ b, b ≠ 0 → ¬ (9 ≤ b ∧ b ≤ 80) → N1 b = M b := fun b b0 b1 => p1.2 b b1
    have q01 : N1 0 1 = tn := by rw [p1.2 0 (by decide)]; exact hT.1
    have q02 : N1 0 2 = ff := by rw [p1.2 0 (by decide)]; exact hF1
    have q03 : N1 0 3 = fp := by rw [p1.2 0 (by decide)]; exact hF2
    have s22 : N1 2 2 = σ 0 := by rw [eN 2 (by decide) (by decide)]; exact hS.2.1
    have hS1 : yTold N1 σ := hS.cg (fun b b1 b2 => eN b (by omega) (by omega))
    have n138 : N1 138 0 = (yBack σ).1 := by rw [eN 138 (by decide) (by decide)]; exact hG.2.2.1
    refine zw_aload ⟨rfl, rfl⟩ rfl ?_
    refine zw_getR 2 ⟨rfl, rfl⟩ zr_0_4 ?_
    refine zw_aload ⟨rfl, rfl⟩ rfl ?_
    refine zw_getR 138 ⟨rfl, rfl⟩ zr_0_11 ?_
    refine zw_getR 139 ⟨rfl, rfl⟩ zr_138_1 ?_
    refine zw_aload ⟨rfl, rfl⟩ rfl ?_
    refine zw_getR 138 ⟨rfl, rfl⟩ zr_0_11 ?_
    refine zw_getIv (v := (yBack σ).1) ⟨rfl, rfl⟩ zc_138 (by decide) (n138) ?_
    refine zw_const ⟨rfl, rfl⟩ ?_
    refine zw_cavv4 ⟨rfl, rfl⟩ rfl zc_2 rfl ?_
    have hro : ∀ p, 0 ≤ p → p < (yBack σ).1 → N1 139 p = (yBack σ).2 p := fun p p1 p2 => by rw [eN 139 (by decide) (by decide)]; exact hG.2.2.2 p p1 p2
    refine m_become_139 (by omega) (fun p p1 p2 => by rw [hro p p1 p2]; have := hgg.2 p p1 p2; omega) (fun N2 p2 => ?_)
    have e2 : ∀ b, b ≠ 2 → b ≠ 8 → N2 b = N1 b := fun b b1 b2 => by subst p2; funext j; simp [b1, b2]
    have hV2 : yVal (yOr σ) := yOr_V hV (by omega)
    have hS2 : yTold N2 (yOr σ) := yBec_S hS1 hV.2.1 (fun j j1 j2 => by unfold yOr; rw [if_neg (by omega), if_neg (by omega)]) (if_pos rfl) (fun j j1 j2 => by rw [hro j j1 j2]; unfold yOr; rw [if_neg (by omega), if_pos (by omega), show (122 : Int) + j - 122 = j by omega]; omega) p2
    refine zw_aload ⟨rfl, rfl⟩ rfl ?_
    refine zw_cavv1 ⟨rfl, rfl⟩ rfl zc_0 rfl ?_
    refine m_settle hV2 hS2 (by rw [e2 137 (by decide) (by decide), e2 136 (by decide) (by decide), eN 137 (by decide) (by decide), eN 136 (by decide) (by decide)]; exact hz) (fun N3 p3 => ?_)
    obtain ⟨w1, w2⟩ := yCW_new hC hV2 hS2 (p1.1.cg (fun b b1 b2 => e2 b (by omega) (by omega))) (fun b b0 b1 b2 => (e2 b (by omega) (by omega)).trans (eN b b0 (by omega))) (tn' := tn) (ff' := ff) (fp' := fp) ⟨⟨by rw [e2 0 (by decide) (by decide)]; exact q01, by omega, by omega⟩, by rw [e2 0 (by decide) (by decide)]; exact q02, by rw [e2 0 (by decide) (by decide)]; exact q03⟩ p3
    have s32 : N3 2 2 = (yBack σ).1 := by rw [p3.2.2 2 (by decide)]; exact hS2.2.1.trans (if_pos rfl)
    refine zw_aload ⟨rfl, rfl⟩ rfl ?_
    refine zw_getR 2 ⟨rfl, rfl⟩ zr_0_4 ?_
    refine zw_getIv (v := (yBack σ).1) ⟨rfl, rfl⟩ zc_2 (by decide) (s32) ?_
    refine zw_ret rfl ?_
    have e : yo_order σ un uh mk im tn tp ff fp = ((yBack σ).1, yOr σ, ypn un, yph un uh σ, mk, im, tn, tp, ff, fp) := by unfold yo_order; (repeat' split) <;> first | rfl | (exfalso; omega)
    rw [e] at k
    exact k _ (w1) (w2)
  · skip
    refine zw_const ⟨rfl, rfl⟩ ?_
    refine zw_ret rfl ?_
    have e : yo_order σ un uh mk im tn tp ff fp = ((-4), σ, un, uh, mk, im, tn, tp, ff, fp) := by unfold yo_order; (repeat' split) <;> first | rfl | (exfalso; omega)
    rw [e] at k
    exact k _ (hC) (fun _ _ => rfl)

theorem m_firstNo_l  {n tn : Int} {tp : Int → Int} {M : zM} {Q : zV → zM → Prop} (hn : n ≤ tn ∧ tn ≤ 400) (hT : ∀ k, 0 ≤ k → k < tn → M 1 k = tp k) (hb : ∀ k, 0 ≤ k → k < tn → 0 ≤ tp k ∧ tp k ≤ 255) (k : Q (0, yfl tp n.toNat) M) : ∀ (f : Nat) (p : Int), (0 ≤ p ∧ p ≤ n) → (∀ j, 0 ≤ j → j < p → 97 ≤ tp j ∧ tp j ≤ 122) → (n - p).toNat < f → zWp kX_firstNoLetter 2 [(1, 0), (0, n), (0, p)] [] M Q := by
  intro f
  induction f with
  | zero => intro p i1 i2 hf; exact absurd hf (Nat.not_lt_zero _)
  | succ f ih =>
    intro p i1 i2 hf
    refine zw_iload ⟨rfl, rfl⟩ rfl ?_
    refine zw_iload ⟨rfl, rfl⟩ rfl ?_
    refine zw_icge ⟨rfl, rfl⟩ rfl (fun c1 => ?_) (fun c1 => ?_)
    · skip
      refine zw_const ⟨rfl, rfl⟩ ?_
      refine zw_ret rfl ?_
      rw [yfl_n n.toNat (fun j j1 j2 => i2 j j1 (by omega))] at k
      exact k
    · skip
      refine zw_iload ⟨rfl, rfl⟩ rfl ?_
      refine zw_const ⟨rfl, rfl⟩ ?_
      refine zw_icge ⟨rfl, rfl⟩ rfl (fun c2 => ?_) (fun c2 => ?_)
      · skip
        refine zw_const ⟨rfl, rfl⟩ ?_
        refine zw_ret rfl ?_
        rw [yfl_n n.toNat (fun j j1 j2 => i2 j j1 (by omega))] at k
        exact k
      · skip
        have hb1 := hb p (by omega) (by omega)
        refine zw_aload ⟨rfl, rfl⟩ rfl ?_
        refine zw_getR 1 ⟨rfl, rfl⟩ zr_0_0 ?_
        refine zw_iload ⟨rfl, rfl⟩ rfl ?_
        refine zw_ialdv (v := tp p) ⟨rfl, rfl⟩ za_1 (by omega) (hT p (by omega) (by omega)) ?_
        refine zw_const ⟨rfl, rfl⟩ ?_
        refine zw_isub ⟨rfl, rfl⟩ (by omega) ?_
        refine zw_calls1 ⟨rfl, rfl⟩ rfl rfl ?_
        refine zw_iload ⟨rfl, rfl⟩ rfl ?_
        refine zw_iflt ⟨rfl, rfl⟩ rfl (fun c3 => ?_) (fun c3 => ?_)
        · skip
          refine zw_const ⟨rfl, rfl⟩ ?_
          refine zw_zret rfl (by first | exact Or.inl rfl | exact Or.inr rfl | omega) ?_
          refine zw_ifne ⟨rfl, rfl⟩ rfl (fun q => absurd q (by decide)) (fun _ => ?_)
          refine zw_iload ⟨rfl, rfl⟩ rfl ?_
          refine zw_ret rfl ?_
          rw [yfl_p i1.1 (by omega) i2 n.toNat (by omega)] at k
          exact k
        · skip
          refine zw_iload ⟨rfl, rfl⟩ rfl ?_
          refine zw_const ⟨rfl, rfl⟩ ?_
          refine zw_icge ⟨rfl, rfl⟩ rfl (fun c5 => ?_) (fun c5 => ?_)
          · skip
            refine zw_const ⟨rfl, rfl⟩ ?_
            refine zw_zret rfl (by first | exact Or.inl rfl | exact Or.inr rfl | omega) ?_
            refine zw_ifne ⟨rfl, rfl⟩ rfl (fun q => absurd q (by decide)) (fun _ => ?_)
            refine zw_iload ⟨rfl, rfl⟩ rfl ?_
            refine zw_ret rfl ?_
            rw [yfl_p i1.1 (by omega) i2 n.toNat (by omega)] at k
            exact k
          · skip
            refine zw_const ⟨rfl, rfl⟩ ?_
            refine zw_goto ⟨rfl, rfl⟩ rfl ?_
            refine zw_zret rfl (by first | exact Or.inl rfl | exact Or.inr rfl | omega) ?_
            refine zw_ifne ⟨rfl, rfl⟩ rfl (fun _ => ?_) (fun q => absurd (by decide) q)
            refine zw_iinc_2 ⟨rfl, rfl⟩ (by omega) ?_
            refine zw_goto ⟨rfl, rfl⟩ rfl ?_
            refine ih _ ⟨by omega, by omega⟩ (fun j j1 j2 => ?_) (by omega)
            by_cases q : j = p
            · rw [q]; omega
            · exact i2 j j1 (by omega)

theorem m_firstNo {n tn : Int} {tp : Int → Int} {M : zM} {Q : zV → zM → Prop} (h0 : 0 ≤ n) (hn : n ≤ tn ∧ tn ≤ 400) (hT : ∀ k, 0 ≤ k → k < tn → M 1 k = tp k) (hb : ∀ k, 0 ≤ k → k < tn → 0 ≤ tp k ∧ tp k ≤ 255) (k : Q (0, yfl tp n.toNat) M) : zWp kX_firstNoLetter 0 [(1, 0), (0, n), (3, 0)] [] M Q := by
  refine zw_const ⟨rfl, rfl⟩ ?_
  refine zw_istore_2 ⟨rfl, rfl⟩ ?_
  exact m_firstNo_l hn hT hb k _ _ ⟨Int.le_refl _, h0⟩ (fun j j1 j2 => by omega) (Nat.lt_succ_self _)

def yo_text (σ : yS) (un : Int) (uh : Int → yS) (mk : Int → Int) (im : Int → yS) (tn : Int) (tp : Int → Int) (ff fp : Int) (n : Int) : Int × yWd := if ¬ (0 ≤ n ∧ n ≤ tn) then (-3, (σ, un, uh, mk, im, tn, tp, ff, fp)) else if 60 < n then (-4, σ, un, uh, mk, im, 0, tp, 0, -1) else if yfl tp n.toNat ≠ -1 then (-31, σ, un, uh, mk, im, 0, tp, 1, yfl tp n.toNat) else (n, yTx σ tp n, ypn un, yph un uh σ, mk, im, 0, tp, 0, -1)
theorem c_text {n : Int} {M : zM} {Q : zV → zM → Prop} {σ : yS} {un : Int} {uh : Int → yS} {mk : Int → Int} {im : Int → yS} {tn : Int} {tp : Int → Int} {ff fp : Int} (hC : yCW M σ un uh mk im tn tp ff fp) (k : ∀ N : zM, yCw N (yo_text σ un uh mk im tn tp ff fp n).2 → (∀ x, 208 ≤ x → N x = M x) → Q (0, (yo_text σ un uh mk im tn tp ff fp n).1) N) : zWp kX_text 0 [(1, 0), (0, n), (3, 0)] [] M Q := by
  obtain ⟨hW, hS, hG, hz, hH, hP, hI, hT, hF1, hF2⟩ := id hC
  have hV := hW.1
  have hn := hV.1
  have hu := hW.2.1.1
  have htn := hW.2.2.2.1
  refine zw_iload ⟨rfl, rfl⟩ rfl ?_
  refine zw_iflt ⟨rfl, rfl⟩ rfl (fun c1 => ?_) (fun c1 => ?_)
  · skip
    refine zw_const ⟨rfl, rfl⟩ ?_
    refine zw_ret rfl ?_
    
    have e : yo_text σ un uh mk im tn tp ff fp n = ((-3), σ, un, uh, mk, im, tn, tp, ff, fp) := by unfold yo_text; (repeat' split) <;> first | rfl | (exfalso; omega)
    rw [e] at k
    exact k _ (hC) (fun _ _ => rfl)
  · skip
    refine zw_iload ⟨rfl, rfl⟩ rfl ?_
    refine zw_aload ⟨rfl, rfl⟩ rfl ?_
    refine zw_getIv (v := tn) ⟨rfl, rfl⟩ zc_0 (by decide) (hT.1) ?_
    refine zw_icle ⟨rfl, rfl⟩ rfl (fun c2 => ?_) (fun c2 => ?_)
    · skip
      refine zw_iload ⟨rfl, rfl⟩ rfl ?_
      refine zw_const ⟨rfl, rfl⟩ ?_
      refine zw_icle ⟨rfl, rfl⟩ rfl (fun c3 => ?_) (fun c3 => ?_)
      · skip
        refine zw_aload ⟨rfl, rfl⟩ rfl ?_
        refine zw_iload ⟨rfl, rfl⟩ rfl ?_
        refine zw_callv2 ⟨rfl, rfl⟩ rfl zc_0 rfl ?_
        refine m_firstNo (by omega) ⟨by omega, by omega⟩ hT.2 hW.2.2.2.2 ?_
        refine zw_istore_2 ⟨rfl, rfl⟩ ?_
        refine zw_iload ⟨rfl, rfl⟩ rfl ?_
        refine zw_const ⟨rfl, rfl⟩ ?_
        refine zw_iceq ⟨rfl, rfl⟩ rfl (fun c4 => ?_) (fun c4 => ?_)
        · skip
          refine zw_aload ⟨rfl, rfl⟩ rfl ?_
          refine zw_const ⟨rfl, rfl⟩ ?_
          refine zw_const ⟨rfl, rfl⟩ ?_
          refine zw_cavv3 ⟨rfl, rfl⟩ rfl zc_0 rfl ?_
          refine zw_aload ⟨rfl, rfl⟩ rfl ?_
          refine zw_const ⟨rfl, rfl⟩ ?_
          refine zw_putI ⟨rfl, rfl⟩ zc_0 (by decide) (fun h => absurd h (by decide)) ?_
          refine zw_aload ⟨rfl, rfl⟩ rfl ?_
          refine zw_iload ⟨rfl, rfl⟩ rfl ?_
          refine zw_putI ⟨rfl, rfl⟩ zc_0 (by decide) (fun h => absurd h (by decide)) ?_
          refine zw_aload ⟨rfl, rfl⟩ rfl ?_
          refine zw_iload ⟨rfl, rfl⟩ rfl ?_
          refine zw_putI ⟨rfl, rfl⟩ zc_0 (by decide) (fun h => absurd h (by decide)) ?_
          refine zw_void rfl ?_
          refine zw_aload ⟨rfl, rfl⟩ rfl ?_
          refine zw_getR 9 ⟨rfl, rfl⟩ zr_0_5 ?_
          refine zw_aload ⟨rfl, rfl⟩ rfl ?_
          refine zw_getR 2 ⟨rfl, rfl⟩ zr_0_4 ?_
          refine zw_cavv2 ⟨rfl, rfl⟩ rfl zc_9 rfl ?_
          have er : ∀ b, b ≠ 0 → (zup (zup (zup M 0 1 0) 0 2 0) 0 3 (-1)) b = M b := fun b hb => by simp only [zup_row hb]
          refine m_keep (hH.cg (fun b b1 b2 => er b (by omega))) hV (hS.cg (fun b b1 b2 => er b (by omega))) (fun N1 p1 => ?_)
          have eN : ∀ b, b ≠ 0 → ¬ (9 ≤ b ∧ b ≤ 80) → N1 b = M b := fun b b0 b1 => (p1.2 b b1).trans (er b b0)
          have q01 : N1 0 1 = 0 := by rw [p1.2 0 (by decide)]; simp [zup]
          have q02 : N1 0 2 = 0 := by rw [p1.2 0 (by decide)]; simp [zup]
          have q03 : N1 0 3 = -1 := by rw [p1.2 0 (by decide)]; simp [zup]
          have s22 : N1 2 2 = σ 0 := by rw [eN 2 (by decide) (by decide)]; exact hS.2.1
          have hS1 : yTold N1 σ := hS.cg (fun b b1 b2 => eN b (by omega) (by omega))
          have n138 : N1 138 0 = (yBack σ).1 := by rw [eN 138 (by decide) (by decide)]; exact hG.2.2.1
          refine zw_aload ⟨rfl, rfl⟩ rfl ?_
          refine zw_getR 2 ⟨rfl, rfl⟩ zr_0_4 ?_
          refine zw_aload ⟨rfl, rfl⟩ rfl ?_
          refine zw_getR 1 ⟨rfl, rfl⟩ zr_0_0 ?_
          refine zw_iload ⟨rfl, rfl⟩ rfl ?_
          refine zw_const ⟨rfl, rfl⟩ ?_
          refine zw_cavv4 ⟨rfl, rfl⟩ rfl zc_2 rfl ?_
          have hfl := (yfl_r (tp := tp) n.toNat).resolve_right (by omega)
          have hro : ∀ p, 0 ≤ p → p < n → N1 1 p = tp p := fun p p1 p2 => by rw [eN 1 (by decide) (by decide)]; exact hT.2 p p1 (by omega)
          refine m_become_1 (by omega) (fun p p1 p2 => by rw [hro p p1 p2]; have := hfl.2 p p1 (by omega); omega) (fun N2 p2 => ?_)
          have e2 : ∀ b, b ≠ 2 → b ≠ 8 → N2 b = N1 b := fun b b1 b2 => by subst p2; funext j; simp [b1, b2]
          have hV2 : yVal (yTx σ tp n) := yTx_V hV (by omega) (fun p p1 p2 => hfl.2 p p1 (by omega))
          have hS2 : yTold N2 (yTx σ tp n) := yBec_S hS1 hV.2.1 (fun j j1 j2 => by unfold yTx; rw [if_neg (by omega), if_neg (by omega)]) (if_pos rfl) (fun j j1 j2 => by rw [hro j j1 j2]; unfold yTx; rw [if_neg (by omega), if_pos (by omega), show (122 : Int) + j - 122 = j by omega]) p2
          refine zw_aload ⟨rfl, rfl⟩ rfl ?_
          refine zw_cavv1 ⟨rfl, rfl⟩ rfl zc_0 rfl ?_
          refine m_settle hV2 hS2 (by rw [e2 137 (by decide) (by decide), e2 136 (by decide) (by decide), eN 137 (by decide) (by decide), eN 136 (by decide) (by decide)]; exact hz) (fun N3 p3 => ?_)
          obtain ⟨w1, w2⟩ := yCW_new hC hV2 hS2 (p1.1.cg (fun b b1 b2 => e2 b (by omega) (by omega))) (fun b b0 b1 b2 => (e2 b (by omega) (by omega)).trans (eN b b0 (by omega))) (tn' := 0) (ff' := 0) (fp' := (-1)) ⟨⟨by rw [e2 0 (by decide) (by decide)]; exact q01, by omega, by omega⟩, by rw [e2 0 (by decide) (by decide)]; exact q02, by rw [e2 0 (by decide) (by decide)]; exact q03⟩ p3
          have s32 : N3 2 2 = n := by rw [p3.2.2 2 (by decide)]; exact hS2.2.1.trans (if_pos rfl)
          refine zw_iload ⟨rfl, rfl⟩ rfl ?_
          refine zw_ret rfl ?_
          
          have e : yo_text σ un uh mk im tn tp ff fp n = (n, yTx σ tp n, ypn un, yph un uh σ, mk, im, 0, tp, 0, -1) := by unfold yo_text; (repeat' split) <;> first | rfl | (exfalso; omega)
          rw [e] at k
          exact k _ (w1) (w2)
        · skip
          refine zw_aload ⟨rfl, rfl⟩ rfl ?_
          refine zw_const ⟨rfl, rfl⟩ ?_
          refine zw_iload ⟨rfl, rfl⟩ rfl ?_
          refine zw_cavv3 ⟨rfl, rfl⟩ rfl zc_0 rfl ?_
          refine zw_aload ⟨rfl, rfl⟩ rfl ?_
          refine zw_const ⟨rfl, rfl⟩ ?_
          refine zw_putI ⟨rfl, rfl⟩ zc_0 (by decide) (fun h => absurd h (by decide)) ?_
          refine zw_aload ⟨rfl, rfl⟩ rfl ?_
          refine zw_iload ⟨rfl, rfl⟩ rfl ?_
          refine zw_putI ⟨rfl, rfl⟩ zc_0 (by decide) (fun h => absurd h (by decide)) ?_
          refine zw_aload ⟨rfl, rfl⟩ rfl ?_
          refine zw_iload ⟨rfl, rfl⟩ rfl ?_
          refine zw_putI ⟨rfl, rfl⟩ zc_0 (by decide) (fun h => absurd h (by decide)) ?_
          refine zw_void rfl ?_
          refine zw_const ⟨rfl, rfl⟩ ?_
          refine zw_ret rfl ?_
          have w1 : yCW (zup (zup (zup M 0 1 0) 0 2 1) 0 3 (yfl tp n.toNat)) σ un uh mk im 0 tp 1 (yfl tp n.toNat) := ⟨⟨hW.1, hW.2.1, hW.2.2.1, ⟨Int.le_refl _, by decide⟩, fun k k1 k2 => by omega⟩, hS.cg (fun b b1 b2 => by simp only [zup_row (show b ≠ 0 by omega)]), hG.cg (fun b b1 b2 => by simp only [zup_row (show b ≠ 0 by omega)]), hz, hH.cg (fun b b1 b2 => by simp only [zup_row (show b ≠ 0 by omega)]), hP, fun i hi => ⟨(hI i hi).1, fun m => ((hI i hi).2 m).cg (fun b b1 b2 => by simp only [zup_row (show b ≠ 0 by omega)])⟩, ⟨by simp [zup], fun k k1 k2 => by omega⟩, by simp [zup], by simp [zup]⟩
          have e : yo_text σ un uh mk im tn tp ff fp n = ((-31), σ, un, uh, mk, im, 0, tp, 1, yfl tp n.toNat) := by unfold yo_text; (repeat' split) <;> first | rfl | (exfalso; omega)
          rw [e] at k
          exact k _ (w1) (fun x hx => by simp only [zup_row (show x ≠ 0 by omega)])
      · skip
        refine zw_aload ⟨rfl, rfl⟩ rfl ?_
        refine zw_const ⟨rfl, rfl⟩ ?_
        refine zw_const ⟨rfl, rfl⟩ ?_
        refine zw_cavv3 ⟨rfl, rfl⟩ rfl zc_0 rfl ?_
        refine zw_aload ⟨rfl, rfl⟩ rfl ?_
        refine zw_const ⟨rfl, rfl⟩ ?_
        refine zw_putI ⟨rfl, rfl⟩ zc_0 (by decide) (fun h => absurd h (by decide)) ?_
        refine zw_aload ⟨rfl, rfl⟩ rfl ?_
        refine zw_iload ⟨rfl, rfl⟩ rfl ?_
        refine zw_putI ⟨rfl, rfl⟩ zc_0 (by decide) (fun h => absurd h (by decide)) ?_
        refine zw_aload ⟨rfl, rfl⟩ rfl ?_
        refine zw_iload ⟨rfl, rfl⟩ rfl ?_
        refine zw_putI ⟨rfl, rfl⟩ zc_0 (by decide) (fun h => absurd h (by decide)) ?_
        refine zw_void rfl ?_
        refine zw_const ⟨rfl, rfl⟩ ?_
        refine zw_ret rfl ?_
        have w1 : yCW (zup (zup (zup M 0 1 0) 0 2 0) 0 3 (-1)) σ un uh mk im 0 tp 0 (-1) := ⟨⟨hW.1, hW.2.1, hW.2.2.1, ⟨Int.le_refl _, by decide⟩, fun k k1 k2 => by omega⟩, hS.cg (fun b b1 b2 => by simp only [zup_row (show b ≠ 0 by omega)]), hG.cg (fun b b1 b2 => by simp only [zup_row (show b ≠ 0 by omega)]), hz, hH.cg (fun b b1 b2 => by simp only [zup_row (show b ≠ 0 by omega)]), hP, fun i hi => ⟨(hI i hi).1, fun m => ((hI i hi).2 m).cg (fun b b1 b2 => by simp only [zup_row (show b ≠ 0 by omega)])⟩, ⟨by simp [zup], fun k k1 k2 => by omega⟩, by simp [zup], by simp [zup]⟩
        have e : yo_text σ un uh mk im tn tp ff fp n = ((-4), σ, un, uh, mk, im, 0, tp, 0, -1) := by unfold yo_text; (repeat' split) <;> first | rfl | (exfalso; omega)
        rw [e] at k
        exact k _ (w1) (fun x hx => by simp only [zup_row (show x ≠ 0 by omega)])
    · skip
      refine zw_const ⟨rfl, rfl⟩ ?_
      refine zw_ret rfl ?_
      
      have e : yo_text σ un uh mk im tn tp ff fp n = ((-3), σ, un, uh, mk, im, tn, tp, ff, fp) := by unfold yo_text; (repeat' split) <;> first | rfl | (exfalso; omega)
      rw [e] at k
      exact k _ (hC) (fun _ _ => rfl)

def yo_undo (σ : yS) (un : Int) (uh : Int → yS) (mk : Int → Int) (im : Int → yS) (tn : Int) (tp : Int → Int) (ff fp : Int) (n : Int) : Int × yWd := if ¬ ((1 ≤ n ∧ n ≤ 10) ∧ n ≤ un) then (-3, (σ, un, uh, mk, im, tn, tp, ff, fp)) else (un - n, uh (un - n), un - n, uh, mk, im, tn, tp, ff, fp)
theorem c_undo {n : Int} {M : zM} {Q : zV → zM → Prop} {σ : yS} {un : Int} {uh : Int → yS} {mk : Int → Int} {im : Int → yS} {tn : Int} {tp : Int → Int} {ff fp : Int} (hC : yCW M σ un uh mk im tn tp ff fp) (k : ∀ N : zM, yCw N (yo_undo σ un uh mk im tn tp ff fp n).2 → (∀ x, 208 ≤ x → N x = M x) → Q (0, (yo_undo σ un uh mk im tn tp ff fp n).1) N) : zWp kX_undo 0 [(1, 0), (0, n)] [] M Q := by
  obtain ⟨hW, hS, hG, hz, hH, hP, hI, hT, hF1, hF2⟩ := id hC
  have hV := hW.1
  have hn := hV.1
  have hu := hW.2.1.1
  have htn := hW.2.2.2.1
  refine zw_iload ⟨rfl, rfl⟩ rfl ?_
  refine zw_const ⟨rfl, rfl⟩ ?_
  refine zw_iclt ⟨rfl, rfl⟩ rfl (fun c1 => ?_) (fun c1 => ?_)
  · skip
    refine zw_const ⟨rfl, rfl⟩ ?_
    refine zw_ret rfl ?_
    have e : yo_undo σ un uh mk im tn tp ff fp n = ((-3), σ, un, uh, mk, im, tn, tp, ff, fp) := by unfold yo_undo; (repeat' split) <;> first | rfl | (exfalso; omega)
    rw [e] at k
    exact k _ (hC) (fun _ _ => rfl)
  · skip
    refine zw_iload ⟨rfl, rfl⟩ rfl ?_
    refine zw_const ⟨rfl, rfl⟩ ?_
    refine zw_icgt ⟨rfl, rfl⟩ rfl (fun c2 => ?_) (fun c2 => ?_)
    · skip
      refine zw_const ⟨rfl, rfl⟩ ?_
      refine zw_ret rfl ?_
      have e : yo_undo σ un uh mk im tn tp ff fp n = ((-3), σ, un, uh, mk, im, tn, tp, ff, fp) := by unfold yo_undo; (repeat' split) <;> first | rfl | (exfalso; omega)
      rw [e] at k
      exact k _ (hC) (fun _ _ => rfl)
    · skip
      refine zw_iload ⟨rfl, rfl⟩ rfl ?_
      refine zw_aload ⟨rfl, rfl⟩ rfl ?_
      refine zw_getR 9 ⟨rfl, rfl⟩ zr_0_5 ?_
      refine zw_getIv (v := un) ⟨rfl, rfl⟩ zc_9 (by decide) (hH.1) ?_
      refine zw_icle ⟨rfl, rfl⟩ rfl (fun c3 => ?_) (fun c3 => ?_)
      · skip
        refine zw_aload ⟨rfl, rfl⟩ rfl ?_
        refine zw_getR 9 ⟨rfl, rfl⟩ zr_0_5 ?_
        refine zw_iload ⟨rfl, rfl⟩ rfl ?_
        refine zw_aload ⟨rfl, rfl⟩ rfl ?_
        refine zw_getR 2 ⟨rfl, rfl⟩ zr_0_4 ?_
        refine zw_cavv3 ⟨rfl, rfl⟩ rfl zc_9 rfl ?_
        refine m_goBack hH ⟨by omega, by omega⟩ (fun N1 p1 => ?_)
        have hV2 := hW.2.1.2 (un - n) (by omega) (by omega)
        have eN : ∀ b, b ≠ 0 → ¬ (2 ≤ b ∧ b ≤ 80) → ¬ (98 ≤ b ∧ b ≤ 135) → N1 b = M b := fun b b0 b1 b2 => p1.2.2 b (by omega)
        refine zw_aload ⟨rfl, rfl⟩ rfl ?_
        refine zw_cavv1 ⟨rfl, rfl⟩ rfl zc_0 rfl ?_
        refine m_settle hV2 p1.2.1 (by rw [eN 137 (by decide) (by decide) (by decide), eN 136 (by decide) (by decide) (by decide)]; exact hz) (fun N3 p3 => ?_)
        obtain ⟨w1, w2⟩ := yCW_new hC hV2 p1.2.1 p1.1 (fun b b0 b1 b2 => eN b b0 b1 (by omega)) (tn' := tn) (ff' := ff) (fp' := fp) ⟨⟨by rw [p1.2.2 0 (by decide)]; exact hT.1, by omega, by omega⟩, by rw [p1.2.2 0 (by decide)]; exact hF1, by rw [p1.2.2 0 (by decide)]; exact hF2⟩ p3
        have s90 : N3 9 0 = un - n := by rw [p3.2.2 9 (by decide)]; exact p1.1.1
        refine zw_aload ⟨rfl, rfl⟩ rfl ?_
        refine zw_getR 9 ⟨rfl, rfl⟩ zr_0_5 ?_
        refine zw_getIv (v := un - n) ⟨rfl, rfl⟩ zc_9 (by decide) (s90) ?_
        refine zw_ret rfl ?_
        have e : yo_undo σ un uh mk im tn tp ff fp n = (un - n, uh (un - n), un - n, uh, mk, im, tn, tp, ff, fp) := by unfold yo_undo; (repeat' split) <;> first | rfl | (exfalso; omega)
        rw [e] at k
        exact k _ (w1) (w2)
      · skip
        refine zw_const ⟨rfl, rfl⟩ ?_
        refine zw_ret rfl ?_
        have e : yo_undo σ un uh mk im tn tp ff fp n = ((-3), σ, un, uh, mk, im, tn, tp, ff, fp) := by unfold yo_undo; (repeat' split) <;> first | rfl | (exfalso; omega)
        rw [e] at k
        exact k _ (hC) (fun _ _ => rfl)

def yo_image (σ : yS) (un : Int) (uh : Int → yS) (mk : Int → Int) (im : Int → yS) (tn : Int) (tp : Int → Int) (ff fp : Int) (i : Int) : Int × yWd := if ¬ (i = 0 ∨ i = 1) then (-2, (σ, un, uh, mk, im, tn, tp, ff, fp)) else (0, σ, un, uh, (fun j => if j = i then 1 else mk j), (fun j => if j = i then σ else im j), tn, tp, ff, fp)
theorem c_image {i : Int} {M : zM} {Q : zV → zM → Prop} {σ : yS} {un : Int} {uh : Int → yS} {mk : Int → Int} {im : Int → yS} {tn : Int} {tp : Int → Int} {ff fp : Int} (hC : yCW M σ un uh mk im tn tp ff fp) (k : ∀ N : zM, yCw N (yo_image σ un uh mk im tn tp ff fp i).2 → (∀ x, 208 ≤ x → N x = M x) → Q (0, (yo_image σ un uh mk im tn tp ff fp i).1) N) : zWp kX_image 0 [(1, 0), (0, i)] [] M Q := by
  obtain ⟨hW, hS, hG, hz, hH, hP, hI, hT, hF1, hF2⟩ := id hC
  have hV := hW.1
  have hn := hV.1
  have hu := hW.2.1.1
  have htn := hW.2.2.2.1
  refine zw_iload ⟨rfl, rfl⟩ rfl ?_
  refine zw_iflt ⟨rfl, rfl⟩ rfl (fun c1 => ?_) (fun c1 => ?_)
  · skip
    refine zw_const ⟨rfl, rfl⟩ ?_
    refine zw_ret rfl ?_
    have e : yo_image σ un uh mk im tn tp ff fp i = ((-2), σ, un, uh, mk, im, tn, tp, ff, fp) := by unfold yo_image; (repeat' split) <;> first | rfl | (exfalso; omega)
    rw [e] at k
    exact k _ (hC) (fun _ _ => rfl)
  · skip
    refine zw_iload ⟨rfl, rfl⟩ rfl ?_
    refine zw_const ⟨rfl, rfl⟩ ?_
    refine zw_iclt ⟨rfl, rfl⟩ rfl (fun c2 => ?_) (fun c2 => ?_)
    · skip
      refine zw_aload ⟨rfl, rfl⟩ rfl ?_
      refine zw_getR 81 ⟨rfl, rfl⟩ zr_0_6 ?_
      refine zw_iload ⟨rfl, rfl⟩ rfl ?_
      refine zw_aload ⟨rfl, rfl⟩ rfl ?_
      refine zw_getR 2 ⟨rfl, rfl⟩ zr_0_4 ?_
      refine zw_cavv3 ⟨rfl, rfl⟩ rfl zc_81 rfl ?_
      have hi : i = 0 ∨ i = 1 := by omega
      refine m_take hP hi hV hS (fun N1 p1 => ?_)
      have eN : ∀ b, b ≠ 83 → ¬ (84 ≤ b ∧ b ≤ 97) → N1 b = M b := fun b b0 b1 => p1.2.2.2 b b0 (by omega)
      have w1 : yCW N1 σ un uh (fun j => if j = i then 1 else mk j) (fun j => if j = i then σ else im j) tn tp ff fp := by
        refine ⟨⟨hW.1, hW.2.1, fun j hj => ?_, hW.2.2.2.1, hW.2.2.2.2⟩, hS.cg (fun b b1 b2 => eN b (by omega) (by omega)), hG.cg (fun b b1 b2 => eN b (by omega) (by omega)), ?_, hH.cg (fun b b1 b2 => eN b (by omega) (by omega)), ?_, fun j hj => ?_, ⟨?_, ?_⟩, ?_, ?_⟩
        · by_cases q : j = i
          · dsimp only; rw [if_pos q, if_pos q]; exact ⟨Or.inr rfl, fun _ => hV⟩
          · dsimp only; rw [if_neg q, if_neg q]; exact hW.2.2.1 j hj
        · rw [eN 137 (by decide) (by decide), eN 136 (by decide) (by decide)]; exact hz
        · unfold yPi; rw [eN 82 (by decide) (by decide)]; exact hP
        · by_cases q : j = i
          · dsimp only; rw [if_pos q, if_pos q, q]; exact ⟨p1.2.1, fun _ => p1.1⟩
          · dsimp only; rw [if_neg q, if_neg q, p1.2.2.1 j q]; exact ⟨(hI j hj).1, fun m => ((hI j hj).2 m).cg (fun b b1 b2 => p1.2.2.2 b (by omega) (by omega))⟩
        · rw [eN 0 (by decide) (by decide)]; exact hT.1
        · intro k k1 k2; rw [eN 1 (by decide) (by decide)]; exact hT.2 k k1 k2
        · rw [eN 0 (by decide) (by decide)]; exact hF1
        · rw [eN 0 (by decide) (by decide)]; exact hF2
      refine zw_const ⟨rfl, rfl⟩ ?_
      refine zw_ret rfl ?_
      have e : yo_image σ un uh mk im tn tp ff fp i = (0, σ, un, uh, (fun j => if j = i then 1 else mk j), (fun j => if j = i then σ else im j), tn, tp, ff, fp) := by unfold yo_image; (repeat' split) <;> first | rfl | (exfalso; omega)
      rw [e] at k
      exact k _ (w1) (fun x hx => eN x (by omega) (by omega))
    · skip
      refine zw_const ⟨rfl, rfl⟩ ?_
      refine zw_ret rfl ?_
      have e : yo_image σ un uh mk im tn tp ff fp i = ((-2), σ, un, uh, mk, im, tn, tp, ff, fp) := by unfold yo_image; (repeat' split) <;> first | rfl | (exfalso; omega)
      rw [e] at k
      exact k _ (hC) (fun _ _ => rfl)

def yo_restore (σ : yS) (un : Int) (uh : Int → yS) (mk : Int → Int) (im : Int → yS) (tn : Int) (tp : Int → Int) (ff fp : Int) (i : Int) : Int × yWd := if ¬ (i = 0 ∨ i = 1) then (-2, (σ, un, uh, mk, im, tn, tp, ff, fp)) else if mk i ≠ 1 then (-6, (σ, un, uh, mk, im, tn, tp, ff, fp)) else (0, im i, 0, uh, mk, im, tn, tp, ff, fp)
theorem c_restore {i : Int} {M : zM} {Q : zV → zM → Prop} {σ : yS} {un : Int} {uh : Int → yS} {mk : Int → Int} {im : Int → yS} {tn : Int} {tp : Int → Int} {ff fp : Int} (hC : yCW M σ un uh mk im tn tp ff fp) (k : ∀ N : zM, yCw N (yo_restore σ un uh mk im tn tp ff fp i).2 → (∀ x, 208 ≤ x → N x = M x) → Q (0, (yo_restore σ un uh mk im tn tp ff fp i).1) N) : zWp kX_restore 0 [(1, 0), (0, i)] [] M Q := by
  obtain ⟨hW, hS, hG, hz, hH, hP, hI, hT, hF1, hF2⟩ := id hC
  have hV := hW.1
  have hn := hV.1
  have hu := hW.2.1.1
  have htn := hW.2.2.2.1
  refine zw_iload ⟨rfl, rfl⟩ rfl ?_
  refine zw_iflt ⟨rfl, rfl⟩ rfl (fun c1 => ?_) (fun c1 => ?_)
  · skip
    refine zw_const ⟨rfl, rfl⟩ ?_
    refine zw_ret rfl ?_
    have e : yo_restore σ un uh mk im tn tp ff fp i = ((-2), σ, un, uh, mk, im, tn, tp, ff, fp) := by unfold yo_restore; have hmm : i = 0 ∨ i = 1 → (mk i = 0 ∨ mk i = 1) := (fun z => (hW.2.2.1 i z).1); (repeat' split) <;> first | rfl | (exfalso; omega)
    rw [e] at k
    exact k _ (hC) (fun _ _ => rfl)
  · skip
    refine zw_iload ⟨rfl, rfl⟩ rfl ?_
    refine zw_const ⟨rfl, rfl⟩ ?_
    refine zw_iclt ⟨rfl, rfl⟩ rfl (fun c2 => ?_) (fun c2 => ?_)
    · skip
      refine zw_aload ⟨rfl, rfl⟩ rfl ?_
      refine zw_getR 81 ⟨rfl, rfl⟩ zr_0_6 ?_
      refine zw_iload ⟨rfl, rfl⟩ rfl ?_
      refine zw_callv2 ⟨rfl, rfl⟩ rfl zc_81 rfl ?_
      refine zw_iload ⟨rfl, rfl⟩ rfl ?_
      refine zw_iflt ⟨rfl, rfl⟩ rfl (fun c3 => ?_) (fun c3 => ?_)
      · skip
        refine zw_const ⟨rfl, rfl⟩ ?_
        refine zw_zret rfl (by first | exact Or.inl rfl | exact Or.inr rfl | omega) ?_
        refine zw_ifne ⟨rfl, rfl⟩ rfl (fun q => absurd q (by decide)) (fun _ => ?_)
        refine zw_const ⟨rfl, rfl⟩ ?_
        refine zw_ret rfl ?_
        have e : yo_restore σ un uh mk im tn tp ff fp i = ((-6), σ, un, uh, mk, im, tn, tp, ff, fp) := by unfold yo_restore; have hmm : i = 0 ∨ i = 1 → (mk i = 0 ∨ mk i = 1) := (fun z => (hW.2.2.1 i z).1); (repeat' split) <;> first | rfl | (exfalso; omega)
        rw [e] at k
        exact k _ (hC) (fun _ _ => rfl)
      · skip
        refine zw_iload ⟨rfl, rfl⟩ rfl ?_
        refine zw_const ⟨rfl, rfl⟩ ?_
        refine zw_icge ⟨rfl, rfl⟩ rfl (fun c5 => ?_) (fun c5 => ?_)
        · skip
          refine zw_const ⟨rfl, rfl⟩ ?_
          refine zw_zret rfl (by first | exact Or.inl rfl | exact Or.inr rfl | omega) ?_
          refine zw_ifne ⟨rfl, rfl⟩ rfl (fun q => absurd q (by decide)) (fun _ => ?_)
          refine zw_const ⟨rfl, rfl⟩ ?_
          refine zw_ret rfl ?_
          have e : yo_restore σ un uh mk im tn tp ff fp i = ((-6), σ, un, uh, mk, im, tn, tp, ff, fp) := by unfold yo_restore; have hmm : i = 0 ∨ i = 1 → (mk i = 0 ∨ mk i = 1) := (fun z => (hW.2.2.1 i z).1); (repeat' split) <;> first | rfl | (exfalso; omega)
          rw [e] at k
          exact k _ (hC) (fun _ _ => rfl)
        · skip
          refine zw_aload ⟨rfl, rfl⟩ rfl ?_
          refine zw_getR 83 ⟨rfl, rfl⟩ zr_81_1 ?_
          refine zw_iload ⟨rfl, rfl⟩ rfl ?_
          refine zw_baldv (v := mk i) ⟨rfl, rfl⟩ za_83 (by decide) (by omega) ((hI i (by omega)).1) ?_
          refine zw_ifeq ⟨rfl, rfl⟩ rfl (fun c7 => ?_) (fun c7 => ?_)
          · skip
            refine zw_const ⟨rfl, rfl⟩ ?_
            refine zw_zret rfl (by first | exact Or.inl rfl | exact Or.inr rfl | omega) ?_
            refine zw_ifne ⟨rfl, rfl⟩ rfl (fun q => absurd q (by decide)) (fun _ => ?_)
            refine zw_const ⟨rfl, rfl⟩ ?_
            refine zw_ret rfl ?_
            have e : yo_restore σ un uh mk im tn tp ff fp i = ((-6), σ, un, uh, mk, im, tn, tp, ff, fp) := by unfold yo_restore; have hmm : i = 0 ∨ i = 1 → (mk i = 0 ∨ mk i = 1) := (fun z => (hW.2.2.1 i z).1); (repeat' split) <;> first | rfl | (exfalso; omega)
            rw [e] at k
            exact k _ (hC) (fun _ _ => rfl)
          · skip
            refine zw_const ⟨rfl, rfl⟩ ?_
            refine zw_goto ⟨rfl, rfl⟩ rfl ?_
            refine zw_zret rfl (by first | exact Or.inl rfl | exact Or.inr rfl | omega) ?_
            refine zw_ifne ⟨rfl, rfl⟩ rfl (fun _ => ?_) (fun q => absurd (by decide) q)
            refine zw_aload ⟨rfl, rfl⟩ rfl ?_
            refine zw_getR 81 ⟨rfl, rfl⟩ zr_0_6 ?_
            refine zw_iload ⟨rfl, rfl⟩ rfl ?_
            refine zw_aload ⟨rfl, rfl⟩ rfl ?_
            refine zw_getR 2 ⟨rfl, rfl⟩ zr_0_4 ?_
            refine zw_cavv3 ⟨rfl, rfl⟩ rfl zc_81 rfl ?_
            have hi : i = 0 ∨ i = 1 := by omega
            have hm : mk i = 1 := by have := (hW.2.2.1 i hi).1; omega
            have hV2 := (hW.2.2.1 i hi).2 hm
            refine m_show hP hi ((hI i hi).1.trans hm) hV2 ((hI i hi).2 hm) (fun N1 p1 => ?_)
            have eN : ∀ b, b ≠ 0 → ¬ (2 ≤ b ∧ b ≤ 80) → ¬ (98 ≤ b ∧ b ≤ 135) → zup N1 9 0 0 b = M b := fun b b0 b1 b2 => (zup_row (by omega)).trans (p1.2 b (by omega))
            have hS2 : yTold (zup N1 9 0 0) (im i) := p1.1.cg (fun b b1 b2 => zup_row (by omega))
            have hH2 : yHs (zup N1 9 0 0) 0 uh := ⟨zup_eq _ _ _ _, ⟨by decide, by decide⟩, by have e10 : zup N1 9 0 0 10 = M 10 := (zup_row (by decide)).trans (p1.2 10 (by decide)); unfold yHi; rw [e10]; exact hH.2.2.1, fun i i1 i2 => by omega⟩
            refine zw_aload ⟨rfl, rfl⟩ rfl ?_
            refine zw_getR 9 ⟨rfl, rfl⟩ zr_0_5 ?_
            refine zw_cavv1 ⟨rfl, rfl⟩ rfl zc_9 rfl ?_
            refine zw_aload ⟨rfl, rfl⟩ rfl ?_
            refine zw_const ⟨rfl, rfl⟩ ?_
            refine zw_putI ⟨rfl, rfl⟩ zc_9 (by decide) (fun h => absurd h (by decide)) ?_
            refine zw_void rfl ?_
            refine zw_aload ⟨rfl, rfl⟩ rfl ?_
            refine zw_cavv1 ⟨rfl, rfl⟩ rfl zc_0 rfl ?_
            refine m_settle hV2 hS2 (by rw [eN 137 (by decide) (by decide) (by decide), eN 136 (by decide) (by decide) (by decide)]; exact hz) (fun N3 p3 => ?_)
            obtain ⟨w1, w2⟩ := yCW_new hC hV2 hS2 hH2 (fun b b0 b1 b2 => eN b b0 b1 (by omega)) (tn' := tn) (ff' := ff) (fp' := fp) ⟨⟨by rw [show zup N1 9 0 0 0 = M 0 from (zup_row (by decide)).trans (p1.2 0 (by decide))]; exact hT.1, by omega, by omega⟩, by rw [show zup N1 9 0 0 0 = M 0 from (zup_row (by decide)).trans (p1.2 0 (by decide))]; exact hF1, by rw [show zup N1 9 0 0 0 = M 0 from (zup_row (by decide)).trans (p1.2 0 (by decide))]; exact hF2⟩ p3
            refine zw_const ⟨rfl, rfl⟩ ?_
            refine zw_ret rfl ?_
            have e : yo_restore σ un uh mk im tn tp ff fp i = (0, im i, 0, uh, mk, im, tn, tp, ff, fp) := by unfold yo_restore; have hmm : i = 0 ∨ i = 1 → (mk i = 0 ∨ mk i = 1) := (fun z => (hW.2.2.1 i z).1); (repeat' split) <;> first | rfl | (exfalso; omega)
            rw [e] at k
            exact k _ (w1) (w2)
    · skip
      refine zw_const ⟨rfl, rfl⟩ ?_
      refine zw_ret rfl ?_
      have e : yo_restore σ un uh mk im tn tp ff fp i = ((-2), σ, un, uh, mk, im, tn, tp, ff, fp) := by unfold yo_restore; have hmm : i = 0 ∨ i = 1 → (mk i = 0 ∨ mk i = 1) := (fun z => (hW.2.2.1 i z).1); (repeat' split) <;> first | rfl | (exfalso; omega)
      rw [e] at k
      exact k _ (hC) (fun _ _ => rfl)

def yb4 (v i : Int) : Int := if i = 0 then v / 16777216 % 256 else if i = 1 then v / 65536 % 256 else if i = 2 then v / 256 % 256 else v % 256
def yfd (a b c d e i : Int) : Int := if i < 4 then yb4 a i else if i < 8 then yb4 b (i - 4) else if i < 12 then yb4 c (i - 8) else if i < 16 then yb4 d (i - 12) else yb4 e (i - 16)
def ytq (tn : Int) (tp : Int → Int) (a b c d e : Int) (k : Int) : Int := if tn ≤ k then yfd a b c d e (k - tn) else tp k
theorem yb4_r (v i : Int) : 0 ≤ yb4 v i ∧ yb4 v i ≤ 255 := by unfold yb4; (repeat' split) <;> omega
theorem yfd_r (a b c d e i : Int) : 0 ≤ yfd a b c d e i ∧ yfd a b c d e i ≤ 255 := by unfold yfd; (repeat' split) <;> exact yb4_r _ _
theorem yb_24 (v : Int) : zand (zushr v 24) 255 = v / 16777216 % 256 := by
  unfold zand zushr
  rw [if_pos (by decide), if_neg (by decide), show (2 : Int) ^ Int.toNat 24 = 16777216 from by decide]
  omega
theorem yb_16 (v : Int) : zand (zushr v 16) 255 = v / 65536 % 256 := by
  unfold zand zushr
  rw [if_pos (by decide), if_neg (by decide), show (2 : Int) ^ Int.toNat 16 = 65536 from by decide]
  omega
theorem yb_8 (v : Int) : zand (zushr v 8) 255 = v / 256 % 256 := by
  unfold zand zushr
  rw [if_pos (by decide), if_neg (by decide), show (2 : Int) ^ Int.toNat 8 = 256 from by decide]
  omega
theorem yb_0 (v : Int) : zand (zushr v 0) 255 = v % 256 := by
  unfold zand zushr
  rw [if_pos (by decide), if_pos rfl]
  omega

theorem m_putBytes {v t : Int} {M : zM} {Q : zV → zM → Prop} (ht : M 0 1 = t) (hb : 0 ≤ t ∧ t + 4 ≤ 400) (k : ∀ N : zM, (N 0 1 = t + 4 ∧ (∀ j, j ≠ 1 → N 0 j = M 0 j) ∧ (∀ b, b ≠ 1 → b ≠ 0 → N b = M b) ∧ N 1 = fun j => if t ≤ j ∧ j < t + 4 then yb4 v (j - t) else M 1 j) → Q (3, 0) N) : zWp kX_putBytes 0 [(1, 0), (0, v), (3, 0)] [] M Q := by
  refine zw_const ⟨rfl, rfl⟩ ?_
  refine zw_istore_2 ⟨rfl, rfl⟩ ?_
  refine zw_iload ⟨rfl, rfl⟩ rfl ?_
  refine zw_iflt ⟨rfl, rfl⟩ rfl (fun q => absurd q (by decide)) (fun _ => ?_)
  refine zw_aload ⟨rfl, rfl⟩ rfl ?_
  refine zw_getIv (v := t) ⟨rfl, rfl⟩ zc_0 (by decide) (ht) ?_
  refine zw_const ⟨rfl, rfl⟩ ?_
  refine zw_icge ⟨rfl, rfl⟩ rfl (fun q => absurd q (by omega)) (fun _ => ?_)
  refine zw_aload ⟨rfl, rfl⟩ rfl ?_
  refine zw_getR 1 ⟨rfl, rfl⟩ zr_0_0 ?_
  refine zw_aload ⟨rfl, rfl⟩ rfl ?_
  refine zw_getIv (v := t) ⟨rfl, rfl⟩ zc_0 (by decide) (ht) ?_
  refine zw_iload ⟨rfl, rfl⟩ rfl ?_
  refine zw_iload ⟨rfl, rfl⟩ rfl ?_
  refine zw_iushr ⟨rfl, rfl⟩ (by omega) ?_
  refine zw_const ⟨rfl, rfl⟩ ?_
  refine zw_iand ⟨rfl, rfl⟩ (by omega) ?_
  refine zw_iast ⟨rfl, rfl⟩ za_1 (by omega) ?_
  refine zw_aload ⟨rfl, rfl⟩ rfl ?_
  refine zw_dup ⟨rfl, rfl⟩ (by decide) ?_
  refine zw_getIv (v := t) ⟨rfl, rfl⟩ zc_0 (by decide) ((zup_na (by decide)).trans (ht)) ?_
  refine zw_const ⟨rfl, rfl⟩ ?_
  refine zw_iadd ⟨rfl, rfl⟩ (by omega) ?_
  refine zw_putI ⟨rfl, rfl⟩ zc_0 (by decide) (fun h => absurd h (by decide)) ?_
  refine zw_iinc_2 ⟨rfl, rfl⟩ (by omega) ?_
  rw [show (24 : Int) + (-8) = 16 from rfl]
  refine zw_goto ⟨rfl, rfl⟩ rfl ?_
  refine zw_iload ⟨rfl, rfl⟩ rfl ?_
  refine zw_iflt ⟨rfl, rfl⟩ rfl (fun q => absurd q (by decide)) (fun _ => ?_)
  refine zw_aload ⟨rfl, rfl⟩ rfl ?_
  refine zw_getIv (v := t + 1) ⟨rfl, rfl⟩ zc_0 (by decide) (zup_eq _ _ _ _) ?_
  refine zw_const ⟨rfl, rfl⟩ ?_
  refine zw_icge ⟨rfl, rfl⟩ rfl (fun q => absurd q (by omega)) (fun _ => ?_)
  refine zw_aload ⟨rfl, rfl⟩ rfl ?_
  refine zw_getR 1 ⟨rfl, rfl⟩ zr_0_0 ?_
  refine zw_aload ⟨rfl, rfl⟩ rfl ?_
  refine zw_getIv (v := t + 1) ⟨rfl, rfl⟩ zc_0 (by decide) (zup_eq _ _ _ _) ?_
  refine zw_iload ⟨rfl, rfl⟩ rfl ?_
  refine zw_iload ⟨rfl, rfl⟩ rfl ?_
  refine zw_iushr ⟨rfl, rfl⟩ (by omega) ?_
  refine zw_const ⟨rfl, rfl⟩ ?_
  refine zw_iand ⟨rfl, rfl⟩ (by omega) ?_
  refine zw_iast ⟨rfl, rfl⟩ za_1 (by omega) ?_
  refine zw_aload ⟨rfl, rfl⟩ rfl ?_
  refine zw_dup ⟨rfl, rfl⟩ (by decide) ?_
  refine zw_getIv (v := t + 1) ⟨rfl, rfl⟩ zc_0 (by decide) ((zup_na (by decide)).trans (zup_eq _ _ _ _)) ?_
  refine zw_const ⟨rfl, rfl⟩ ?_
  refine zw_iadd ⟨rfl, rfl⟩ (by omega) ?_
  refine zw_putI ⟨rfl, rfl⟩ zc_0 (by decide) (fun h => absurd h (by decide)) ?_
  refine zw_iinc_2 ⟨rfl, rfl⟩ (by omega) ?_
  rw [show (16 : Int) + (-8) = 8 from rfl]
  refine zw_goto ⟨rfl, rfl⟩ rfl ?_
  refine zw_iload ⟨rfl, rfl⟩ rfl ?_
  refine zw_iflt ⟨rfl, rfl⟩ rfl (fun q => absurd q (by decide)) (fun _ => ?_)
  refine zw_aload ⟨rfl, rfl⟩ rfl ?_
  refine zw_getIv (v := (t + 1) + 1) ⟨rfl, rfl⟩ zc_0 (by decide) (zup_eq _ _ _ _) ?_
  refine zw_const ⟨rfl, rfl⟩ ?_
  refine zw_icge ⟨rfl, rfl⟩ rfl (fun q => absurd q (by omega)) (fun _ => ?_)
  refine zw_aload ⟨rfl, rfl⟩ rfl ?_
  refine zw_getR 1 ⟨rfl, rfl⟩ zr_0_0 ?_
  refine zw_aload ⟨rfl, rfl⟩ rfl ?_
  refine zw_getIv (v := (t + 1) + 1) ⟨rfl, rfl⟩ zc_0 (by decide) (zup_eq _ _ _ _) ?_
  refine zw_iload ⟨rfl, rfl⟩ rfl ?_
  refine zw_iload ⟨rfl, rfl⟩ rfl ?_
  refine zw_iushr ⟨rfl, rfl⟩ (by omega) ?_
  refine zw_const ⟨rfl, rfl⟩ ?_
  refine zw_iand ⟨rfl, rfl⟩ (by omega) ?_
  refine zw_iast ⟨rfl, rfl⟩ za_1 (by omega) ?_
  refine zw_aload ⟨rfl, rfl⟩ rfl ?_
  refine zw_dup ⟨rfl, rfl⟩ (by decide) ?_
  refine zw_getIv (v := (t + 1) + 1) ⟨rfl, rfl⟩ zc_0 (by decide) ((zup_na (by decide)).trans (zup_eq _ _ _ _)) ?_
  refine zw_const ⟨rfl, rfl⟩ ?_
  refine zw_iadd ⟨rfl, rfl⟩ (by omega) ?_
  refine zw_putI ⟨rfl, rfl⟩ zc_0 (by decide) (fun h => absurd h (by decide)) ?_
  refine zw_iinc_2 ⟨rfl, rfl⟩ (by omega) ?_
  rw [show (8 : Int) + (-8) = 0 from rfl]
  refine zw_goto ⟨rfl, rfl⟩ rfl ?_
  refine zw_iload ⟨rfl, rfl⟩ rfl ?_
  refine zw_iflt ⟨rfl, rfl⟩ rfl (fun q => absurd q (by decide)) (fun _ => ?_)
  refine zw_aload ⟨rfl, rfl⟩ rfl ?_
  refine zw_getIv (v := ((t + 1) + 1) + 1) ⟨rfl, rfl⟩ zc_0 (by decide) (zup_eq _ _ _ _) ?_
  refine zw_const ⟨rfl, rfl⟩ ?_
  refine zw_icge ⟨rfl, rfl⟩ rfl (fun q => absurd q (by omega)) (fun _ => ?_)
  refine zw_aload ⟨rfl, rfl⟩ rfl ?_
  refine zw_getR 1 ⟨rfl, rfl⟩ zr_0_0 ?_
  refine zw_aload ⟨rfl, rfl⟩ rfl ?_
  refine zw_getIv (v := ((t + 1) + 1) + 1) ⟨rfl, rfl⟩ zc_0 (by decide) (zup_eq _ _ _ _) ?_
  refine zw_iload ⟨rfl, rfl⟩ rfl ?_
  refine zw_iload ⟨rfl, rfl⟩ rfl ?_
  refine zw_iushr ⟨rfl, rfl⟩ (by omega) ?_
  refine zw_const ⟨rfl, rfl⟩ ?_
  refine zw_iand ⟨rfl, rfl⟩ (by omega) ?_
  refine zw_iast ⟨rfl, rfl⟩ za_1 (by omega) ?_
  refine zw_aload ⟨rfl, rfl⟩ rfl ?_
  refine zw_dup ⟨rfl, rfl⟩ (by decide) ?_
  refine zw_getIv (v := ((t + 1) + 1) + 1) ⟨rfl, rfl⟩ zc_0 (by decide) ((zup_na (by decide)).trans (zup_eq _ _ _ _)) ?_
  refine zw_const ⟨rfl, rfl⟩ ?_
  refine zw_iadd ⟨rfl, rfl⟩ (by omega) ?_
  refine zw_putI ⟨rfl, rfl⟩ zc_0 (by decide) (fun h => absurd h (by decide)) ?_
  refine zw_iinc_2 ⟨rfl, rfl⟩ (by omega) ?_
  rw [show (0 : Int) + (-8) = (-8) from rfl]
  refine zw_goto ⟨rfl, rfl⟩ rfl ?_
  refine zw_iload ⟨rfl, rfl⟩ rfl ?_
  refine zw_iflt ⟨rfl, rfl⟩ rfl (fun _ => ?_) (fun q => absurd (by decide) q)
  refine zw_void rfl ?_
  refine k _ ⟨?_, ?_, ?_, ?_⟩
  · rw [zup_eq]; omega
  · intro j hj; simp only [zup_ni hj, zup_na (show (0 : Int) ≠ 1 by decide)]
  · intro b b0 b1; simp only [zup_row b0, zup_row b1]
  · funext j
    by_cases q0 : j = t + 0
    · rw [if_pos (by omega), zup_na (by decide), zup_ni (by omega), zup_na (by decide), zup_ni (by omega), zup_na (by decide), zup_ni (by omega), zup_na (by decide), show j = t by omega, zup_eq, show t - t = 0 by omega]; exact yb_24 v
    by_cases q1 : j = t + 1
    · rw [if_pos (by omega), zup_na (by decide), zup_ni (by omega), zup_na (by decide), zup_ni (by omega), zup_na (by decide), show j = t + 1 by omega, zup_eq, show t + 1 - t = 1 by omega]; exact yb_16 v
    by_cases q2 : j = t + 2
    · rw [if_pos (by omega), zup_na (by decide), zup_ni (by omega), zup_na (by decide), show j = t + 1 + 1 by omega, zup_eq, show t + 1 + 1 - t = 2 by omega]; exact yb_8 v
    by_cases q3 : j = t + 3
    · rw [if_pos (by omega), zup_na (by decide), show j = t + 1 + 1 + 1 by omega, zup_eq, show t + 1 + 1 + 1 - t = 3 by omega]; exact yb_0 v
    rw [if_neg (by omega), zup_na (by decide), zup_ni (by omega), zup_na (by decide), zup_ni (by omega), zup_na (by decide), zup_ni (by omega), zup_na (by decide), zup_ni (by omega)]

def yo_feed (σ : yS) (un : Int) (uh : Int → yS) (mk : Int → Int) (im : Int → yS) (tn : Int) (tp : Int → Int) (ff fp : Int) (a b c d e : Int) : Int × yWd := if 380 < tn then (-3, (σ, un, uh, mk, im, tn, tp, ff, fp)) else (tn + 20, σ, un, uh, mk, im, tn + 20, ytq tn tp a b c d e, ff, fp)
theorem c_feed {a b c d e : Int} {M : zM} {Q : zV → zM → Prop} {σ : yS} {un : Int} {uh : Int → yS} {mk : Int → Int} {im : Int → yS} {tn : Int} {tp : Int → Int} {ff fp : Int} (hC : yCW M σ un uh mk im tn tp ff fp) (k : ∀ N : zM, yCw N (yo_feed σ un uh mk im tn tp ff fp a b c d e).2 → (∀ x, 208 ≤ x → N x = M x) → Q (0, (yo_feed σ un uh mk im tn tp ff fp a b c d e).1) N) : zWp kX_feed 0 [(1, 0), (0, a), (0, b), (0, c), (0, d), (0, e)] [] M Q := by
  obtain ⟨hW, hS, hG, hz, hH, hP, hI, hT, hF1, hF2⟩ := id hC
  have hV := hW.1
  have hn := hV.1
  have hu := hW.2.1.1
  have htn := hW.2.2.2.1
  refine zw_aload ⟨rfl, rfl⟩ rfl ?_
  refine zw_getIv (v := tn) ⟨rfl, rfl⟩ zc_0 (by decide) (hT.1) ?_
  refine zw_const ⟨rfl, rfl⟩ ?_
  refine zw_iadd ⟨rfl, rfl⟩ (by omega) ?_
  refine zw_const ⟨rfl, rfl⟩ ?_
  refine zw_icle ⟨rfl, rfl⟩ rfl (fun c1 => ?_) (fun c1 => ?_)
  · skip
    refine zw_aload ⟨rfl, rfl⟩ rfl ?_
    refine zw_iload ⟨rfl, rfl⟩ rfl ?_
    refine zw_cavv2 ⟨rfl, rfl⟩ rfl zc_0 rfl ?_
    refine m_putBytes (t := tn) hT.1 ⟨by omega, by omega⟩ (fun N1 p1 => ?_)
    have h1 : N1 0 1 = tn + 4 := by have := p1.1; omega
    refine zw_aload ⟨rfl, rfl⟩ rfl ?_
    refine zw_iload ⟨rfl, rfl⟩ rfl ?_
    refine zw_cavv2 ⟨rfl, rfl⟩ rfl zc_0 rfl ?_
    refine m_putBytes (t := tn + 4) h1 ⟨by omega, by omega⟩ (fun N2 p2 => ?_)
    have h2 : N2 0 1 = tn + 8 := by have := p2.1; omega
    refine zw_aload ⟨rfl, rfl⟩ rfl ?_
    refine zw_iload ⟨rfl, rfl⟩ rfl ?_
    refine zw_cavv2 ⟨rfl, rfl⟩ rfl zc_0 rfl ?_
    refine m_putBytes (t := tn + 8) h2 ⟨by omega, by omega⟩ (fun N3 p3 => ?_)
    have h3 : N3 0 1 = tn + 12 := by have := p3.1; omega
    refine zw_aload ⟨rfl, rfl⟩ rfl ?_
    refine zw_iload ⟨rfl, rfl⟩ rfl ?_
    refine zw_cavv2 ⟨rfl, rfl⟩ rfl zc_0 rfl ?_
    refine m_putBytes (t := tn + 12) h3 ⟨by omega, by omega⟩ (fun N4 p4 => ?_)
    have h4 : N4 0 1 = tn + 16 := by have := p4.1; omega
    refine zw_aload ⟨rfl, rfl⟩ rfl ?_
    refine zw_iload ⟨rfl, rfl⟩ rfl ?_
    refine zw_cavv2 ⟨rfl, rfl⟩ rfl zc_0 rfl ?_
    refine m_putBytes (t := tn + 16) h4 ⟨by omega, by omega⟩ (fun N5 p5 => ?_)
    have h5 : N5 0 1 = tn + 20 := by have := p5.1; omega
    refine zw_aload ⟨rfl, rfl⟩ rfl ?_
    refine zw_getIv (v := tn + 20) ⟨rfl, rfl⟩ zc_0 (by decide) (h5) ?_
    refine zw_ret rfl ?_
    have e1 : yo_feed σ un uh mk im tn tp ff fp a b c d e = (tn + 20, σ, un, uh, mk, im, tn + 20, ytq tn tp a b c d e, ff, fp) := by unfold yo_feed; (repeat' split) <;> first | rfl | (exfalso; omega)
    rw [e1] at k
    have er : ∀ b, b ≠ 1 → b ≠ 0 → N5 b = M b := fun b b1 b0 => (p5.2.2.1 b b1 b0).trans ((p4.2.2.1 b b1 b0).trans ((p3.2.2.1 b b1 b0).trans ((p2.2.2.1 b b1 b0).trans (p1.2.2.1 b b1 b0))))
    have e0 : ∀ j, j ≠ 1 → N5 0 j = M 0 j := fun j hj => (p5.2.1 j hj).trans ((p4.2.1 j hj).trans ((p3.2.1 j hj).trans ((p2.2.1 j hj).trans (p1.2.1 j hj))))
    refine k _ ⟨⟨hW.1, hW.2.1, hW.2.2.1, ⟨show 0 ≤ tn + 20 by omega, show tn + 20 ≤ 400 by omega⟩, fun j j1 j2 => ?_⟩, hS.cg (fun b b1 b2 => er b (by omega) (by omega)), hG.cg (fun b b1 b2 => er b (by omega) (by omega)), ?_, hH.cg (fun b b1 b2 => er b (by omega) (by omega)), ?_, ?_, ⟨h5, fun j j1 j2 => ?_⟩, ?_, ?_⟩ (fun x hx => er x (by omega) (by omega))
    · show 0 ≤ ytq tn tp a b c d e j ∧ ytq tn tp a b c d e j ≤ 255
      have j2 : j < tn + 20 := j2
      unfold ytq
      split
      · exact yfd_r _ _ _ _ _ _
      · exact hW.2.2.2.2 j j1 (by omega)
    · rw [er 137 (by decide) (by decide), er 136 (by decide) (by decide)]; exact hz
    · unfold yPi; rw [er 82 (by decide) (by decide)]; exact hP
    · intro i hi
      rw [er 83 (by decide) (by decide)]
      exact ⟨(hI i hi).1, fun m => ((hI i hi).2 m).cg (fun b b1 b2 => er b (by omega) (by omega))⟩
    · have j2 : j < tn + 20 := j2
      show N5 1 j = ytq tn tp a b c d e j
      have r5 := congrFun p5.2.2.2 j
      have r4 := congrFun p4.2.2.2 j
      have r3 := congrFun p3.2.2.2 j
      have r2 := congrFun p2.2.2.2 j
      have r1 := congrFun p1.2.2.2 j
      unfold ytq yfd
      by_cases g : tn ≤ j
      · rw [if_pos g]
        by_cases g1 : j - tn < 4
        · rw [if_pos g1, r5, if_neg (by omega), r4, if_neg (by omega), r3, if_neg (by omega), r2, if_neg (by omega), r1, if_pos (by omega)]
        · rw [if_neg g1]
          by_cases g2 : j - tn < 8
          · rw [if_pos g2, r5, if_neg (by omega), r4, if_neg (by omega), r3, if_neg (by omega), r2, if_pos (by omega)]; exact congrArg (yb4 b) (by omega)
          · rw [if_neg g2]
            by_cases g3 : j - tn < 12
            · rw [if_pos g3, r5, if_neg (by omega), r4, if_neg (by omega), r3, if_pos (by omega)]; exact congrArg (yb4 c) (by omega)
            · rw [if_neg g3]
              by_cases g4 : j - tn < 16
              · rw [if_pos g4, r5, if_neg (by omega), r4, if_pos (by omega)]; exact congrArg (yb4 d) (by omega)
              · rw [if_neg g4, r5, if_pos (by omega)]; exact congrArg (yb4 e) (by omega)
      · rw [if_neg g, r5, if_neg (by omega), r4, if_neg (by omega), r3, if_neg (by omega), r2, if_neg (by omega), r1, if_neg (by omega)]
        exact hT.2 j j1 (by omega)
    · exact (e0 2 (by decide)).trans hF1
    · exact (e0 3 (by decide)).trans hF2
  · skip
    refine zw_const ⟨rfl, rfl⟩ ?_
    refine zw_ret rfl ?_
    have e1 : yo_feed σ un uh mk im tn tp ff fp a b c d e = (-3, σ, un, uh, mk, im, tn, tp, ff, fp) := by unfold yo_feed; (repeat' split) <;> first | rfl | (exfalso; omega)
    rw [e1] at k
    exact k _ hC (fun _ _ => rfl)

end