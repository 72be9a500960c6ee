/-! All is made anew: settle -/
def yDe (M : zM) (σ : yS) (i : Int) : Prop := M 112 i = ydd (yK σ) (yB (yK σ) i) ∧ M 113 i = yms (yK σ) (yB (yK σ) i) ∧ M 114 i = ybp σ (yK σ) (yB (yK σ) i) ∧ M 115 i = yrp σ (yK σ) (yB (yK σ) i) ∧ M 116 i = (if yms (yK σ) (yB (yK σ) i) = 0 then 0 else yms (yK σ) (yB (yK σ) i) - 1 - yba σ (yK σ) (yB (yK σ) i)) ∧ M 117 i = ypr σ (yK σ) (yB (yK σ) i)
/-- what the class holds of a script and text, behind settle -/
def ySet (M : zM) (σ : yS) : Prop := (yCut M (yK σ) (σ 0) ∧ ∀ i, 0 ≤ i → i < yci (yK σ) (σ 0) → yDe M σ i) ∧
  (M 126 0 = (yTk σ (yci (yK σ) (σ 0))).1 ∧ (∀ k, 0 ≤ k → k < (yTk σ (yci (yK σ) (σ 0))).1 → M 128 k = (yTk σ (yci (yK σ) (σ 0))).2.1 0 k ∧ M 129 k = (yTk σ (yci (yK σ) (σ 0))).2.1 1 k ∧ M 130 k = (yTk σ (yci (yK σ) (σ 0))).2.1 2 k ∧ M 131 k = (yTk σ (yci (yK σ) (σ 0))).2.1 3 k ∧ M 132 k = (yTk σ (yci (yK σ) (σ 0))).2.1 4 k ∧ M 133 k = (yTk σ (yci (yK σ) (σ 0))).2.1 5 k ∧ M 134 k = yW (yTk σ (yci (yK σ) (σ 0))) k) ∧
  (∀ p, 0 ≤ p → p < σ 0 → M 135 p = (yTk σ (yci (yK σ) (σ 0))).2.2 p) ∧ ∀ i, 0 ≤ i → i ≤ yci (yK σ) (σ 0) → M 137 i = (yTk σ i).1 ∧ M 136 i = yX σ i) ∧
  M 138 0 = (yRc σ (yci (yK σ) (σ 0))).1 ∧ ∀ k, 0 ≤ k → k < (yRc σ (yci (yK σ) (σ 0))).1 → M 139 k = (yRc σ (yci (yK σ) (σ 0))).2 k
theorem ySet.cg {M N : zM} {σ : yS} (h : ySet M σ) (e : ∀ b, 105 ≤ b → b ≤ 139 → N b = M b) : ySet N σ := by
  unfold ySet yDe at h ⊢
  rw [e 112 (by decide) (by decide), e 113 (by decide) (by decide), e 114 (by decide) (by decide), e 115 (by decide) (by decide), e 116 (by decide) (by decide), e 117 (by decide) (by decide), e 126 (by decide) (by decide), e 128 (by decide) (by decide), e 129 (by decide) (by decide), e 130 (by decide) (by decide), e 131 (by decide) (by decide), e 132 (by decide) (by decide), e 133 (by decide) (by decide), e 134 (by decide) (by decide), e 135 (by decide) (by decide), e 136 (by decide) (by decide), e 137 (by decide) (by decide), e 138 (by decide) (by decide), e 139 (by decide) (by decide)]
  exact ⟨⟨h.1.1.cg (fun b b1 b2 => e b b1 (by omega)), h.1.2⟩, h.2⟩

section
set_option maxHeartbeats 8000000
theorem m_settle_l  {M : zM} {Q : zV → zM → Prop} {σ : yS} (hV : yVal σ) (hS : yTold M σ) (hz : M 137 0 = 0 ∧ M 136 0 = 0) (kk : ∀ N : zM, (ySet N σ ∧ (N 137 0 = 0 ∧ N 136 0 = 0) ∧ ∀ x, ¬ (105 ≤ x ∧ x ≤ 139) → N x = M x) → Q (3, 0) N) : ∀ (f : Nat) (c : Int) (N : zM), (0 ≤ c ∧ c ≤ yci (yK σ) (σ 0)) → (yCut N (yK σ) (σ 0) ∧ ∀ i, 0 ≤ i → i < c → yDe N σ i) → ((∃ w, yDr N w (yTc σ (M 135) c)) ∧ (∀ i, 0 ≤ i → i ≤ c → N 137 i = (yTk σ i).1 ∧ N 136 i = yX σ i) ∧ ∀ k, 0 ≤ k → k < (yTc σ (M 135) c).1 → N 134 k = yW (yTc σ (M 135) c) k) → (yRb N (yRc σ c)) → (∀ x, ¬ (105 ≤ x ∧ x ≤ 139) → N x = M x) → (yci (yK σ) (σ 0) - c).toNat < f → zWp kX_settle 13 [(1, 0), (0, c)] [] N Q := by
  intro f
  induction f with
  | zero => intro c N i1 i2 i3 i4 i5 hf; exact absurd hf (Nat.not_lt_zero _)
  | succ f ih =>
    intro c N i1 i2 i3 i4 i5 hf
    have hK := yKr_K hV
    have hn := hV.1
    have hci := yci_60 hK
    have hS0 : yTold N σ := hS.cg (fun x y1 y2 => i5 x (by omega))
    refine zw_iload ⟨rfl, rfl⟩ rfl ?_
    refine zw_aload ⟨rfl, rfl⟩ rfl ?_
    refine zw_getR 105 ⟨rfl, rfl⟩ zr_0_8 ?_
    refine zw_getIv (v := yci (yK σ) (σ 0)) ⟨rfl, rfl⟩ zc_105 (by decide) (i2.1.1.1) ?_
    refine zw_icge ⟨rfl, rfl⟩ rfl (fun c1 => ?_) (fun c1 => ?_)
    · skip
      refine zw_void rfl ?_
      have e : c = yci (yK σ) (σ 0) := by omega
      obtain ⟨w0, hD⟩ := i3.1
      have hag := yTk_a hV (M 135) i1.1 i1.2
      refine kk _ ⟨?_, ⟨?_, ?_⟩, i5⟩
      · unfold ySet
        rw [← e]
        refine ⟨i2, ⟨hD.1.trans hag.1, fun k k1 k2 => ?_, fun p p1 p2 => ?_, i3.2.1⟩, i4.1, i4.2.2⟩
        · rw [← hag.1] at k2
          have a := hD.2.2.2.1 k k1 k2
          have a2 := i3.2.2 k k1 k2
          rw [hag.2.1] at a
          exact ⟨a.1, a.2.1, a.2.2.1, a.2.2.2.1, a.2.2.2.2.1, a.2.2.2.2.2, by rw [a2]; unfold yW; rw [hag.2.1]⟩
        · have hn := hV.1
          rw [hD.2.2.2.2 p p1 (by omega)]
          have hb := yB_n hK
          rw [← e] at hb
          exact hag.2.2 p ⟨p1, by omega⟩
      · rw [(i3.2.1 0 (Int.le_refl _) i1.1).1]; rfl
      · rw [(i3.2.1 0 (Int.le_refl _) i1.1).2]; rfl
    · skip
      obtain ⟨⟨b0, blt, ble⟩, hbg, -⟩ := yB_cl hK i1.1 (show c < yci (yK σ) (σ 0) by omega)
      have b1 : yB (yK σ) c < σ 0 := by omega
      refine zw_aload ⟨rfl, rfl⟩ rfl ?_
      refine zw_getR 120 ⟨rfl, rfl⟩ zr_0_9 ?_
      refine zw_aload ⟨rfl, rfl⟩ rfl ?_
      refine zw_getR 2 ⟨rfl, rfl⟩ zr_0_4 ?_
      refine zw_aload ⟨rfl, rfl⟩ rfl ?_
      refine zw_getR 105 ⟨rfl, rfl⟩ zr_0_8 ?_
      refine zw_iload ⟨rfl, rfl⟩ rfl ?_
      refine zw_cavv4 ⟨rfl, rfl⟩ rfl zc_120 rfl ?_
      refine m_study hV hS0 i2.1 ⟨i1.1, by omega⟩ (fun N1 p1 => ?_)
      obtain ⟨q1, f1⟩ := p1
      rw [yB_ov hK i1.1 (by omega)] at q1
      have hS1 : yTold N1 σ := hS0.cg (fun x y1 y2 => f1 x (by omega))
      have hC1 : yCut N1 (yK σ) (σ 0) := i2.1.cg (fun x y1 y2 => f1 x (by omega))
      refine zw_aload ⟨rfl, rfl⟩ rfl ?_
      refine zw_getR 105 ⟨rfl, rfl⟩ zr_0_8 ?_
      refine zw_iload ⟨rfl, rfl⟩ rfl ?_
      refine zw_aload ⟨rfl, rfl⟩ rfl ?_
      refine zw_getR 120 ⟨rfl, rfl⟩ zr_0_9 ?_
      refine zw_cavv3 ⟨rfl, rfl⟩ rfl zc_105 rfl ?_
      refine m_describe (b := (yB (yK σ) c)) ⟨i1.1, by rw [hC1.1.1]; omega, by rw [hC1.1.1]; omega⟩ q1 (fun z => ⟨⟨by have := yrp_r σ (yK σ) (yB (yK σ) c); have := yba_r (σ := σ) hK b0 b1 z; omega, (yba_r hK b0 b1 z).2⟩, by have := ym_r hK b0 b1 z; omega⟩) (fun N2 p2 => ?_)
      obtain ⟨d2, f2⟩ := p2
      have g2 : ∀ x, ¬ (112 ≤ x ∧ x ≤ 117) → N2 x = N1 x := fun x hx => funext fun j => f2 x j (by omega)
      have hS2 : yTold N2 σ := hS1.cg (fun x y1 y2 => g2 x (by omega))
      have hC2 : yCut N2 (yK σ) (σ 0) := hC1.cg (fun x y1 y2 => g2 x (by omega))
      have q2 := q1.cg (N := N2) (fun x y1 y2 => g2 x (by omega))
      have g12 : ∀ x, ¬ (112 ≤ x ∧ x ≤ 117) → ¬ (120 ≤ x ∧ x ≤ 125) → N2 x = N x := fun x h1 h2 => (g2 x h1).trans (f1 x h2)
      refine zw_aload ⟨rfl, rfl⟩ rfl ?_
      refine zw_getR 126 ⟨rfl, rfl⟩ zr_0_10 ?_
      refine zw_iload ⟨rfl, rfl⟩ rfl ?_
      refine zw_cavv2 ⟨rfl, rfl⟩ rfl zc_126 rfl ?_
      obtain ⟨w0, hD⟩ := i3.1
      have hD2 : yDr N2 w0 (yTc σ (M 135) c) := by
        unfold yDr
        rw [g12 126 (by decide) (by decide), g12 128 (by decide) (by decide), g12 129 (by decide) (by decide), g12 130 (by decide) (by decide), g12 131 (by decide) (by decide), g12 132 (by decide) (by decide), g12 133 (by decide) (by decide), g12 135 (by decide) (by decide)]
        exact hD
      have hag := yTk_a hV (M 135) i1.1 i1.2
      refine m_draw hV ⟨hS2, hC2, q2⟩ ⟨i1.1, by omega⟩ hD2 (yTc_n hV (M 135) i1.1 i1.2).2 (by rw [g12 137 (by decide) (by decide), (i3.2.1 c i1.1 (Int.le_refl _)).1, hag.1]) (by rw [g12 136 (by decide) (by decide), (i3.2.1 c i1.1 (Int.le_refl _)).2]; exact yX_r hV i1.1 i1.2) (fun N3 p3 => ?_)
      rw [← yTc_s σ (M 135) i1.1] at p3
      obtain ⟨t1, t2, t3, t4, t5, t6, t7, t8⟩ := p3
      have hS3 : yTold N3 σ := hS2.cg (fun x y1 y2 => t8 x (by omega))
      have hC3 : yCut N3 (yK σ) (σ 0) := hC2.cg (fun x y1 y2 => t8 x (by omega))
      have g13 : ∀ x, ¬ (112 ≤ x ∧ x ≤ 117) → ¬ (120 ≤ x ∧ x ≤ 137) → N3 x = N x := fun x h1 h2 => (t8 x (by omega)).trans (g12 x h1 (by omega))
      have hR3 : yRb N3 (yRc σ c) := by
        unfold yRb
        rw [g13 138 (by decide) (by decide), g13 139 (by decide) (by decide)]
        exact i4
      refine zw_aload ⟨rfl, rfl⟩ rfl ?_
      refine zw_getR 138 ⟨rfl, rfl⟩ zr_0_11 ?_
      refine zw_iload ⟨rfl, rfl⟩ rfl ?_
      refine zw_cavv2 ⟨rfl, rfl⟩ rfl zc_138 rfl ?_
      refine m_read hV hS3 hC3 hR3 ⟨i1.1, by omega⟩ (yRc_n hV i1.1 i1.2).2 (fun N4 p4 => ?_)
      rw [← yRc_s σ i1.1] at p4
      obtain ⟨r1, r2⟩ := p4
      refine zw_iinc_1 ⟨rfl, rfl⟩ (by omega) ?_
      refine zw_goto ⟨rfl, rfl⟩ rfl ?_
      refine ih _ _ ⟨by omega, by omega⟩ ⟨hC3.cg (fun x y1 y2 => r2 x (by omega) (by omega)), fun i j1 j2 => ?_⟩ ⟨⟨c, ?_⟩, fun i j1 j2 => ?_, fun k k1 k2 => ?_⟩ r1 (fun x hx => ?_) (by omega)
      · unfold yDe
        rw [r2 112 (by decide) (by decide), r2 113 (by decide) (by decide), r2 114 (by decide) (by decide), r2 115 (by decide) (by decide), r2 116 (by decide) (by decide), r2 117 (by decide) (by decide), t8 112 (by decide), t8 113 (by decide), t8 114 (by decide), t8 115 (by decide), t8 116 (by decide), t8 117 (by decide)]
        by_cases e : i = c
        · subst e; exact d2
        · have := i2.2 i j1 (by omega)
          rw [f2 112 i (by omega), f2 113 i (by omega), f2 114 i (by omega), f2 115 i (by omega), f2 116 i (by omega), f2 117 i (by omega), f1 112 (by decide), f1 113 (by decide), f1 114 (by decide), f1 115 (by decide), f1 116 (by decide), f1 117 (by decide)]
          exact this
      · unfold yDr
        rw [r2 126 (by decide) (by decide), r2 128 (by decide) (by decide), r2 129 (by decide) (by decide), r2 130 (by decide) (by decide), r2 131 (by decide) (by decide), r2 132 (by decide) (by decide), r2 133 (by decide) (by decide), r2 135 (by decide) (by decide)]
        exact t1
      · rw [r2 137 (by decide) (by decide), r2 136 (by decide) (by decide)]
        by_cases e : i = c + 1
        · subst e
          rw [t2, t3, g12 136 (by decide) (by decide), (i3.2.1 c i1.1 (Int.le_refl _)).2, yX_s hV i1.1]
          have hag2 := yTk_a hV (M 135) (show 0 ≤ c + 1 by omega) (show c + 1 ≤ yci (yK σ) (σ 0) by omega)
          refine ⟨hag2.1, ?_⟩
          rw [hag2.1, hag.1]
          congr 1
          exact ysm_cg (fun k _ _ => by unfold yW; rw [hag2.2.1])
        · rw [(t4 i e).1, (t4 i e).2, g12 137 (by decide) (by decide), g12 136 (by decide) (by decide)]
          exact i3.2.1 i j1 (by omega)
      · rw [r2 134 (by decide) (by decide)]
        by_cases e : k < (yTc σ (M 135) c).1
        · rw [t6 k e, g12 134 (by decide) (by decide), i3.2.2 k k1 e]
          have hp := yPre_drw σ c (yB (yK σ) c) (yTc σ (M 135) c)
          rw [← yTc_s σ (M 135) i1.1] at hp
          unfold yW
          rw [hp.2 0 k e, hp.2 5 k e]
        · exact t5 k (by omega) k2
      · rw [r2 x (by omega) (by omega), g13 x (by omega) (by omega)]
        exact i5 x hx
end

theorem m_settle {M : zM} {Q : zV → zM → Prop} {σ : yS} (hV : yVal σ) (hS : yTold M σ) (hz : M 137 0 = 0 ∧ M 136 0 = 0) (kk : ∀ N : zM, (ySet N σ ∧ (N 137 0 = 0 ∧ N 136 0 = 0) ∧ ∀ x, ¬ (105 ≤ x ∧ x ≤ 139) → N x = M x) → Q (3, 0) N) : zWp kX_settle 0 [(1, 0), (3, 0)] [] M Q := by
  have hK := yKr_K hV
  have hn := hV.1
  have hci := yci_60 hK
  refine zw_aload ⟨rfl, rfl⟩ rfl ?_
  refine zw_getR 105 ⟨rfl, rfl⟩ zr_0_8 ?_
  refine zw_aload ⟨rfl, rfl⟩ rfl ?_
  refine zw_getR 2 ⟨rfl, rfl⟩ zr_0_4 ?_
  refine zw_cavv2 ⟨rfl, rfl⟩ rfl zc_105 rfl ?_
  refine m_split hV hS (fun N1 p1 => ?_)
  obtain ⟨c1, f1⟩ := p1
  refine zw_aload ⟨rfl, rfl⟩ rfl ?_
  refine zw_getR 126 ⟨rfl, rfl⟩ zr_0_10 ?_
  refine zw_cavv1 ⟨rfl, rfl⟩ rfl zc_126 rfl ?_
  refine zw_aload ⟨rfl, rfl⟩ rfl ?_
  refine zw_const ⟨rfl, rfl⟩ ?_
  refine zw_putI ⟨rfl, rfl⟩ zc_126 (by decide) (fun h => absurd h (by decide)) ?_
  refine zw_void rfl ?_
  refine zw_aload ⟨rfl, rfl⟩ rfl ?_
  refine zw_getR 138 ⟨rfl, rfl⟩ zr_0_11 ?_
  refine zw_cavv1 ⟨rfl, rfl⟩ rfl zc_138 rfl ?_
  refine zw_aload ⟨rfl, rfl⟩ rfl ?_
  refine zw_const ⟨rfl, rfl⟩ ?_
  refine zw_putI ⟨rfl, rfl⟩ zc_138 (by decide) (fun h => absurd h (by decide)) ?_
  refine zw_void rfl ?_
  refine zw_const ⟨rfl, rfl⟩ ?_
  refine zw_istore_1 ⟨rfl, rfl⟩ ?_
  refine m_settle_l hV hS hz kk _ _ _ ⟨Int.le_refl _, hci.1⟩ ⟨c1.cg (fun x y1 y2 => by rw [zup_row (by omega), zup_row (by omega)]), fun i j1 j2 => by omega⟩ ⟨⟨N1 126 8, ⟨rfl, Int.le_refl _, rfl, fun k k1 k2 => ?_, fun p q1 q2 => ?_⟩⟩, fun i j1 j2 => ?_, fun k k1 k2 => ?_⟩ ⟨rfl, Int.le_refl _, fun k k1 k2 => ?_⟩ (fun x hx => ?_) (Nat.lt_succ_self _)
  · rw [yTc_0] at k2; have : k < 0 := k2; omega
  · rw [yTc_0]; rw [zup_row (by decide), zup_row (by decide), f1 135 (by decide)]
  · have e : i = 0 := by omega
    subst e
    rw [zup_row (by decide), zup_row (by decide), zup_row (by decide), zup_row (by decide), f1 137 (by decide), f1 136 (by decide), hz.1, hz.2]
    exact ⟨rfl, rfl⟩
  · rw [yTc_0] at k2; have : k < 0 := k2; omega
  · rw [yRc_0] at k2; have : k < 0 := k2; omega
  · rw [zup_row (by omega), zup_row (by omega)]; exact f1 x (by omega)
