/-! The model: all is laid -/
def yLay (M : zM) (σ : yS) : Prop := (M 208 15 = yci (yK σ) (σ 0) ∧ M 208 31 = (yTk σ (yci (yK σ) (σ 0))).1) ∧ (∀ i, 0 ≤ i → i < yci (yK σ) (σ 0) → yCl M σ i (yB (yK σ) i) (yB (yK σ) (i + 1))) ∧ (∀ i, 0 ≤ i → i ≤ yci (yK σ) (σ 0) → M 212 i = yB (yK σ) i ∧ M 221 i = (yTk σ i).1) ∧
  (∀ k, 0 ≤ k → k < (yTk σ (yci (yK σ) (σ 0))).1 → M 227 k = (yTk σ (yci (yK σ) (σ 0))).2.1 0 k ∧ M 228 k = (yTk σ (yci (yK σ) (σ 0))).2.1 1 k ∧ M 229 k = (yTk σ (yci (yK σ) (σ 0))).2.1 2 k ∧ M 230 k = (yTk σ (yci (yK σ) (σ 0))).2.1 3 k ∧ M 231 k = (yTk σ (yci (yK σ) (σ 0))).2.1 4 k ∧ M 232 k = (yTk σ (yci (yK σ) (σ 0))).2.1 5 k ∧ M 233 k = yW (yTk σ (yci (yK σ) (σ 0))) k) ∧
  ∀ p, 0 ≤ p → p < σ 0 → M 234 p = (yTk σ (yci (yK σ) (σ 0))).2.2 p
def yaf (M N : zM) : Prop := (∀ x, ¬ (212 ≤ x ∧ x ≤ 234) → x ≠ 208 → N x = M x) ∧ ∀ j, j ≠ 15 → j ≠ 21 → j ≠ 22 → j ≠ 31 → N 208 j = M 208 j
theorem yCl.cg {M P : zM} {σ : yS} {c b e i : Int} (h : yCl M σ i b e) (g : ycf c M P) (hi : i ≠ c) : yCl P σ i b e := by
  unfold yCl
  rw [g.2.2 212 (by decide) (by decide) i hi, g.2.2 213 (by decide) (by decide) i hi, g.2.2 214 (by decide) (by decide) i hi, g.2.2 215 (by decide) (by decide) i hi, g.2.2 216 (by decide) (by decide) i hi, g.2.2 217 (by decide) (by decide) i hi, g.2.2 218 (by decide) (by decide) i hi, g.2.2 219 (by decide) (by decide) i hi, g.2.2 220 (by decide) (by decide) i hi]
  exact h
theorem yTk_0 (σ : yS) : yTk σ 0 = (0, fun _ _ => 0, fun _ => -1) := rfl

section
set_option maxHeartbeats 8000000
theorem m_laysAll_l {M : zM} {Q : zV → zM → Prop} {σ : yS} (hV : yVal σ) (hM : yMo M σ) (kk : ∀ N : zM, (yLay N σ ∧ yaf M N) → Q (3, 0) N) : ∀ (f0 : Nat) (c p : Int) (N : zM), ((0 ≤ c ∧ c ≤ (yci (yK σ) (σ 0))) ∧ p = yB (yK σ) c ∧ N 208 15 = c) → (∃ T, yGm N T ∧ yAgr (fun q => 0 ≤ q ∧ q < yB (yK σ) c) T (yTk σ c)) → (∀ i, 0 ≤ i → i < c → yCl N σ i (yB (yK σ) i) (yB (yK σ) (i + 1)) ∧ N 221 i = (yTk σ i).1) → (yaf M N) → (σ 0 - p).toNat < f0 → zWp kM_laysAll 8 [(1, 208), (0, p)] [] N Q := by
  intro f0
  induction f0 with
  | zero => intro c p N i1 i2 i3 i4 hf0; exact absurd hf0 (Nat.not_lt_zero _)
  | succ f0 ih =>
    intro c p N i1 i2 i3 i4 hf0
    have hK := yKr_K hV
    have hn := hV.1
    have hci := yci_60 hK
    have hM0 : yMo N σ := hM.cg (i4.1 209 (by decide) (by decide))
    obtain ⟨T, hD, hag⟩ := i2
    refine zw_iload ⟨rfl, rfl⟩ rfl ?_
    refine zw_aload ⟨rfl, rfl⟩ rfl ?_
    refine zw_callv1 ⟨rfl, rfl⟩ rfl zc_208 rfl ?_
    refine m_Mmany hV hM0 ?_
    refine zw_icge ⟨rfl, rfl⟩ rfl (fun c1 => ?_) (fun c1 => ?_)
    · skip
      have hpb := i1.2.1
      have hcp := (yB_r hK i1.1.1 i1.1.2).1
      refine zw_aload ⟨rfl, rfl⟩ rfl ?_
      refine zw_getR 212 ⟨rfl, rfl⟩ zr_208_5 ?_
      refine zw_aload ⟨rfl, rfl⟩ rfl ?_
      refine zw_getIv (v := c) ⟨rfl, rfl⟩ zc_208 (by decide) (i1.2.2) ?_
      refine zw_iload ⟨rfl, rfl⟩ rfl ?_
      refine zw_iast ⟨rfl, rfl⟩ za_212 (by omega) ?_
      refine zw_aload ⟨rfl, rfl⟩ rfl ?_
      refine zw_getR 221 ⟨rfl, rfl⟩ zr_208_14 ?_
      refine zw_aload ⟨rfl, rfl⟩ rfl ?_
      refine zw_getIv (v := c) ⟨rfl, rfl⟩ zc_208 (by decide) ((zup_na (by decide)).trans (i1.2.2)) ?_
      refine zw_aload ⟨rfl, rfl⟩ rfl ?_
      refine zw_getIv (v := N 208 31) ⟨rfl, rfl⟩ zc_208 (by decide) (zup_na (by decide)) ?_
      refine zw_iast ⟨rfl, rfl⟩ za_221 (by omega) ?_
      refine zw_void rfl ?_
      have ec : c = (yci (yK σ) (σ 0)) := by
        by_cases z : c = (yci (yK σ) (σ 0))
        · exact z
        · have := yB_l hK hn.1 (Int.le_refl _) i1.1.1 (by omega); omega
      have hp : p = σ 0 := by rw [i1.2.1, ec]; exact yB_n hK
      refine kk _ ⟨⟨⟨?_, ?_⟩, fun i j1 j2 => ?_, fun i j1 j2 => ?_, fun k k1 k2 => ?_, fun q q1 q2 => ?_⟩, ⟨fun x x1 x2 => ?_, fun j j1 j2 j3 j4 => ?_⟩⟩
      · rw [zup_na (by decide), zup_na (by decide), i1.2.2, ec]
      · rw [zup_na (by decide), zup_na (by decide), hD.1, hag.1, ec]
      · have a := (i3 i j1 (by omega)).1
        unfold yCl at a ⊢
        rw [zup_na (by decide), zup_ni (by omega)]
        exact a
      · by_cases e : i = c
        · subst e
          refine ⟨?_, ?_⟩
          · rw [zup_na (by decide), zup_eq]; exact i1.2.1
          · rw [zup_eq, hD.1]; exact hag.1
        · have a := i3 i j1 (by omega)
          refine ⟨?_, ?_⟩
          · rw [zup_na (by decide), zup_ni e]; exact a.1.1
          · rw [zup_ni e]; exact a.2
      · rw [← ec] at k2 ⊢
        rw [← hag.1] at k2
        have a := hD.2.2.1 k k1 k2
        unfold yW at a ⊢
        rw [← hag.2.1]
        exact a
      · rw [← ec]
        have a := hD.2.2.2 q q1 (by omega)
        rw [← hag.2.2 q ⟨q1, by omega⟩]
        exact a
      · rw [zup_row (by omega), zup_row (by omega)]; exact i4.1 x x1 x2
      · exact i4.2 j j1 j2 j3 j4
    · skip
      have hcn : c < (yci (yK σ) (σ 0)) := by
        by_cases z : c = (yci (yK σ) (σ 0))
        · have := yB_n hK; rw [← z, ← i1.2.1] at this; omega
        · omega
      obtain ⟨⟨b0, blt, ble⟩, hbg, -⟩ := yB_cl hK i1.1.1 hcn
      have b1 : yB (yK σ) c < σ 0 := by omega
      have hov := yB_ov hK i1.1.1 hcn
      have hp0 := i1.2.1
      subst hp0
      refine zw_aload ⟨rfl, rfl⟩ rfl ?_
      refine zw_getR 221 ⟨rfl, rfl⟩ zr_208_14 ?_
      refine zw_aload ⟨rfl, rfl⟩ rfl ?_
      refine zw_getIv (v := c) ⟨rfl, rfl⟩ zc_208 (by decide) (i1.2.2) ?_
      refine zw_aload ⟨rfl, rfl⟩ rfl ?_
      refine zw_getIv (v := N 208 31) ⟨rfl, rfl⟩ zc_208 (by decide) rfl ?_
      refine zw_iast ⟨rfl, rfl⟩ za_221 (by omega) ?_
      refine zw_aload ⟨rfl, rfl⟩ rfl ?_
      refine zw_aload ⟨rfl, rfl⟩ rfl ?_
      refine zw_getIv (v := c) ⟨rfl, rfl⟩ zc_208 (by decide) ((zup_na (by decide)).trans (i1.2.2)) ?_
      refine zw_iload ⟨rfl, rfl⟩ rfl ?_
      refine zw_callv3 ⟨rfl, rfl⟩ rfl zc_208 rfl ?_
      refine m_laysCluster (T := T) hV ⟨⟨b0, b1⟩, hbg⟩ ⟨i1.1.1, by omega⟩ (hM0.cg (zup_row (by decide))) (hD.cg (fun x x1 x2 => zup_row (by omega)) rfl) (by rw [hag.1]; exact (yTc_n hV _ i1.1.1 i1.1.2).2) (fun N1 p1 => ?_)
      rw [← yB_ov hK i1.1.1 (by omega)] at p1
      obtain ⟨D1, C1, f1⟩ := p1
      have n15 : N1 208 15 = c := by rw [f1.2.1 15 (by decide) (by decide) (by decide), zup_na (by decide)]; exact i1.2.2
      refine zw_istore_1 ⟨rfl, rfl⟩ ?_
      refine zw_aload ⟨rfl, rfl⟩ rfl ?_
      refine zw_dup ⟨rfl, rfl⟩ (by decide) ?_
      refine zw_getIv (v := c) ⟨rfl, rfl⟩ zc_208 (by decide) (n15) ?_
      refine zw_const ⟨rfl, rfl⟩ ?_
      refine zw_iadd ⟨rfl, rfl⟩ (by omega) ?_
      refine zw_putI ⟨rfl, rfl⟩ zc_208 (by decide) (fun h => absurd h (by decide)) ?_
      refine zw_goto ⟨rfl, rfl⟩ rfl ?_
      refine ih (c + 1) _ _ ⟨⟨by omega, by omega⟩, (yB_ov hK i1.1.1 (by omega)).symm, zup_eq _ _ _ _⟩ ⟨_, D1.cg (fun x x1 x2 => zup_row (by omega)) (zup_ni (by decide)), ?_⟩ (fun i j1 j2 => ?_) ⟨fun x x1 x2 => ?_, fun j j1 j2 j3 j4 => ?_⟩ (by omega)
      · rw [show yTk σ (c + 1) = ydrw σ c (yB (yK σ) c) (yTk σ c) from yTc_s σ _ i1.1.1, yB_ov hK i1.1.1 (by omega)]
        have a0 : yAgr (fun q => 0 ≤ q ∧ q < yB (yK σ) c) (yrst (yB (yK σ) c) (yov (yK σ) (yB (yK σ) c)) T) (yTk σ c) := ⟨hag.1, hag.2.1, fun q hq => by
          show (if _ then _ else _) = _
          rw [if_neg (by omega)]
          exact hag.2.2 q hq⟩
        rw [← yB_ov hK i1.1.1 (by omega)] at a0 ⊢
        refine (yCov_drw hV b0 b1 hbg c _ _ _ a0).mo (fun q hq => ?_)
        rw [← yB_ov hK i1.1.1 (by omega)]
        by_cases e : q < yB (yK σ) c
        · exact Or.inl ⟨hq.1, e⟩
        · exact Or.inr ⟨by omega, hq.2⟩
      · rw [zup_row (show (221 : Int) ≠ 208 by decide), f1.1 221 (by decide) (by decide) (by decide)]
        by_cases e : i = c
        · subst e
          refine ⟨?_, ?_⟩
          · unfold yCl at C1 ⊢
            simp only [zup_na (show (212 : Int) ≠ 208 by decide), zup_na (show (213 : Int) ≠ 208 by decide), zup_na (show (214 : Int) ≠ 208 by decide), zup_na (show (215 : Int) ≠ 208 by decide), zup_na (show (216 : Int) ≠ 208 by decide), zup_na (show (217 : Int) ≠ 208 by decide), zup_na (show (218 : Int) ≠ 208 by decide), zup_na (show (219 : Int) ≠ 208 by decide), zup_na (show (220 : Int) ≠ 208 by decide)]
            exact C1
          · rw [zup_eq, hD.1]; exact hag.1
        · have a := i3 i j1 (by omega)
          refine ⟨?_, by rw [zup_ni e]; exact a.2⟩
          have a1 : yCl (zup N 221 c (N 208 31)) σ i (yB (yK σ) i) (yB (yK σ) (i + 1)) := a.1
          have a2 := a1.cg f1 e
          unfold yCl at a2 ⊢
          simp only [zup_na (show (212 : Int) ≠ 208 by decide), zup_na (show (213 : Int) ≠ 208 by decide), zup_na (show (214 : Int) ≠ 208 by decide), zup_na (show (215 : Int) ≠ 208 by decide), zup_na (show (216 : Int) ≠ 208 by decide), zup_na (show (217 : Int) ≠ 208 by decide), zup_na (show (218 : Int) ≠ 208 by decide), zup_na (show (219 : Int) ≠ 208 by decide), zup_na (show (220 : Int) ≠ 208 by decide)]
          exact a2
      · rw [zup_row x2, f1.1 x (by omega) (by omega) x2, zup_row (by omega)]
        exact i4.1 x x1 x2
      · rw [zup_ni j1, f1.2.1 j j2 j3 j4, zup_na (by decide)]
        exact i4.2 j j1 j2 j3 j4
end

theorem m_laysAll {M : zM} {Q : zV → zM → Prop} {σ : yS} (hV : yVal σ) (hM : yMo M σ) (kk : ∀ N : zM, (yLay N σ ∧ yaf M N) → Q (3, 0) N) : zWp kM_laysAll 0 [(1, 208), (3, 0)] [] M Q := by
  refine zw_aload ⟨rfl, rfl⟩ rfl ?_
  refine zw_const ⟨rfl, rfl⟩ ?_
  refine zw_putI ⟨rfl, rfl⟩ zc_208 (by decide) (fun h => absurd h (by decide)) ?_
  refine zw_aload ⟨rfl, rfl⟩ rfl ?_
  refine zw_const ⟨rfl, rfl⟩ ?_
  refine zw_putI ⟨rfl, rfl⟩ zc_208 (by decide) (fun h => absurd h (by decide)) ?_
  refine zw_const ⟨rfl, rfl⟩ ?_
  refine zw_istore_1 ⟨rfl, rfl⟩ ?_
  have hK := yKr_K hV
  have hci := yci_60 hK
  refine m_laysAll_l hV hM kk _ 0 _ _ ⟨⟨Int.le_refl _, hci.1⟩, rfl, rfl⟩ ⟨(0, fun _ _ => 0, M 234), ⟨rfl, Int.le_refl _, fun k k1 k2 => ?_, fun q _ _ => rfl⟩, rfl, rfl, fun q hq => ?_⟩ (fun i j1 j2 => by omega) ⟨fun x x1 x2 => by rw [zup_row x2, zup_row x2], fun j j1 j2 j3 j4 => by rw [zup_ni j4, zup_ni j1]⟩ (Nat.lt_succ_self _)
  · have : k < 0 := k2; omega
  · rw [yB_0] at hq; omega
