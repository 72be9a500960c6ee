/-! The class' Drawing -/
def yDr (M : zM) (c : Int) (T : yT) : Prop := M 126 0 = T.1 ∧ 0 ≤ T.1 ∧ M 126 8 = c ∧ (∀ k, 0 ≤ k → k < T.1 → M 128 k = T.2.1 0 k ∧ M 129 k = T.2.1 1 k ∧ M 130 k = T.2.1 2 k ∧ M 131 k = T.2.1 3 k ∧ M 132 k = T.2.1 4 k ∧ M 133 k = T.2.1 5 k) ∧ ∀ p, 0 ≤ p → p < 60 → M 135 p = T.2.2 p
def ydf (M N : zM) : Prop := (∀ x, ¬ ((126 ≤ x ∧ x ≤ 135) ∧ x ≠ 127 ∧ x ≠ 134) → N x = M x) ∧ ∀ j, j ≠ 0 → N 126 j = M 126 j
theorem ydf.rf {M : zM} : ydf M M := ⟨fun _ _ => rfl, fun _ _ => rfl⟩
theorem ydf.tr {M N P : zM} (h : ydf M N) (g : ydf N P) : ydf M P := ⟨fun x hx => (g.1 x hx).trans (h.1 x hx), fun j hj => (g.2 j hj).trans (h.2 j hj)⟩
def yCx (M : zM) (σ : yS) (b : Int) : Prop := yTold M σ ∧ yCut M (yK σ) (σ 0) ∧ yAna M σ (yK σ) b (yov (yK σ) b)
theorem yCx.fr {M N : zM} {σ : yS} {b : Int} (h : yCx M σ b) (g : ydf M N) : yCx N σ b := ⟨h.1.cg (fun x y1 y2 => g.1 x (by omega)), h.2.1.cg (fun x y1 y2 => g.1 x (by omega)), h.2.2.cg (fun x y1 y2 => g.1 x (by omega))⟩

theorem m_put {f o1 o2 p rk : Int} {M : zM} {Q : zV → zM → Prop} {c : Int} {T : yT} (hD : yDr M c T) (hg : T.1 < 180) (k : ∀ N : zM, (yDr N c (yem T f o1 o2 p rk c) ∧ ydf M N) → Q (0, T.1) N) : zWp kDr_put 0 [(1, 126), (0, f), (0, o1), (0, o2), (0, p), (0, rk)] [] M Q := by
  have h0 := hD.2.1
  refine zw_aload ⟨rfl, rfl⟩ rfl ?_
  refine zw_getIv (v := T.1) ⟨rfl, rfl⟩ zc_126 (by decide) (hD.1) ?_
  refine zw_const ⟨rfl, rfl⟩ ?_
  refine zw_iclt ⟨rfl, rfl⟩ rfl (fun _ => ?_) (fun q => absurd (by omega) q)
  refine zw_aload ⟨rfl, rfl⟩ rfl ?_
  refine zw_getR 127 ⟨rfl, rfl⟩ zr_126_1 ?_
  refine zw_const ⟨rfl, rfl⟩ ?_
  refine zw_row ⟨rfl, rfl⟩ zrw_127 (by omega) ?_
  rw [show ((128 : Int) + 0) = 128 from rfl]
  refine zw_aload ⟨rfl, rfl⟩ rfl ?_
  refine zw_getIv (v := T.1) ⟨rfl, rfl⟩ zc_126 (by decide) (hD.1) ?_
  refine zw_iload ⟨rfl, rfl⟩ rfl ?_
  refine zw_iast ⟨rfl, rfl⟩ za_128 (by omega) ?_
  refine zw_aload ⟨rfl, rfl⟩ rfl ?_
  refine zw_getR 127 ⟨rfl, rfl⟩ zr_126_1 ?_
  refine zw_const ⟨rfl, rfl⟩ ?_
  refine zw_row ⟨rfl, rfl⟩ zrw_127 (by omega) ?_
  rw [show ((128 : Int) + 1) = 129 from rfl]
  refine zw_aload ⟨rfl, rfl⟩ rfl ?_
  refine zw_getIv (v := T.1) ⟨rfl, rfl⟩ zc_126 (by decide) ((zup_na (by decide)).trans (hD.1)) ?_
  refine zw_iload ⟨rfl, rfl⟩ rfl ?_
  refine zw_iast ⟨rfl, rfl⟩ za_129 (by omega) ?_
  refine zw_aload ⟨rfl, rfl⟩ rfl ?_
  refine zw_getR 127 ⟨rfl, rfl⟩ zr_126_1 ?_
  refine zw_const ⟨rfl, rfl⟩ ?_
  refine zw_row ⟨rfl, rfl⟩ zrw_127 (by omega) ?_
  rw [show ((128 : Int) + 2) = 130 from rfl]
  refine zw_aload ⟨rfl, rfl⟩ rfl ?_
  refine zw_getIv (v := T.1) ⟨rfl, rfl⟩ zc_126 (by decide) ((zup_na (by decide)).trans ((zup_na (by decide)).trans (hD.1))) ?_
  refine zw_iload ⟨rfl, rfl⟩ rfl ?_
  refine zw_iast ⟨rfl, rfl⟩ za_130 (by omega) ?_
  refine zw_aload ⟨rfl, rfl⟩ rfl ?_
  refine zw_getR 127 ⟨rfl, rfl⟩ zr_126_1 ?_
  refine zw_const ⟨rfl, rfl⟩ ?_
  refine zw_row ⟨rfl, rfl⟩ zrw_127 (by omega) ?_
  rw [show ((128 : Int) + 3) = 131 from rfl]
  refine zw_aload ⟨rfl, rfl⟩ rfl ?_
  refine zw_getIv (v := T.1) ⟨rfl, rfl⟩ zc_126 (by decide) ((zup_na (by decide)).trans ((zup_na (by decide)).trans ((zup_na (by decide)).trans (hD.1)))) ?_
  refine zw_iload ⟨rfl, rfl⟩ rfl ?_
  refine zw_iast ⟨rfl, rfl⟩ za_131 (by omega) ?_
  refine zw_aload ⟨rfl, rfl⟩ rfl ?_
  refine zw_getR 127 ⟨rfl, rfl⟩ zr_126_1 ?_
  refine zw_const ⟨rfl, rfl⟩ ?_
  refine zw_row ⟨rfl, rfl⟩ zrw_127 (by omega) ?_
  rw [show ((128 : Int) + 4) = 132 from rfl]
  refine zw_aload ⟨rfl, rfl⟩ rfl ?_
  refine zw_getIv (v := T.1) ⟨rfl, rfl⟩ zc_126 (by decide) ((zup_na (by decide)).trans ((zup_na (by decide)).trans ((zup_na (by decide)).trans ((zup_na (by decide)).trans (hD.1))))) ?_
  refine zw_aload ⟨rfl, rfl⟩ rfl ?_
  refine zw_getIv (v := c) ⟨rfl, rfl⟩ zc_126 (by decide) ((zup_na (by decide)).trans ((zup_na (by decide)).trans ((zup_na (by decide)).trans ((zup_na (by decide)).trans (hD.2.2.1))))) ?_
  refine zw_iast ⟨rfl, rfl⟩ za_132 (by omega) ?_
  refine zw_aload ⟨rfl, rfl⟩ rfl ?_
  refine zw_getR 127 ⟨rfl, rfl⟩ zr_126_1 ?_
  refine zw_const ⟨rfl, rfl⟩ ?_
  refine zw_row ⟨rfl, rfl⟩ zrw_127 (by omega) ?_
  rw [show ((128 : Int) + 5) = 133 from rfl]
  refine zw_aload ⟨rfl, rfl⟩ rfl ?_
  refine zw_getIv (v := T.1) ⟨rfl, rfl⟩ zc_126 (by decide) ((zup_na (by decide)).trans ((zup_na (by decide)).trans ((zup_na (by decide)).trans ((zup_na (by decide)).trans ((zup_na (by decide)).trans (hD.1)))))) ?_
  refine zw_iload ⟨rfl, rfl⟩ rfl ?_
  refine zw_iast ⟨rfl, rfl⟩ za_133 (by omega) ?_
  refine zw_aload ⟨rfl, rfl⟩ rfl ?_
  refine zw_dup ⟨rfl, rfl⟩ (by decide) ?_
  refine zw_getIv (v := T.1) ⟨rfl, rfl⟩ zc_126 (by decide) ((zup_na (by decide)).trans ((zup_na (by decide)).trans ((zup_na (by decide)).trans ((zup_na (by decide)).trans ((zup_na (by decide)).trans ((zup_na (by decide)).trans (hD.1))))))) ?_
  refine zw_const ⟨rfl, rfl⟩ ?_
  refine zw_iadd ⟨rfl, rfl⟩ (by omega) ?_
  refine zw_putI ⟨rfl, rfl⟩ zc_126 (by decide) (fun h => absurd h (by decide)) ?_
  refine zw_aload ⟨rfl, rfl⟩ rfl ?_
  refine zw_getIv (v := T.1 + 1) ⟨rfl, rfl⟩ zc_126 (by decide) (zup_eq _ _ _ _) ?_
  refine zw_const ⟨rfl, rfl⟩ ?_
  refine zw_isub ⟨rfl, rfl⟩ (by omega) ?_
  rw [show (T.1 + 1) - 1 = T.1 by omega]
  refine zw_ret rfl ?_
  refine k _ ⟨⟨zup_eq _ _ _ _, by show 0 ≤ T.1 + 1; omega, hD.2.2.1, fun j q1 q2 => ?_, fun q q1 q2 => hD.2.2.2.2 q q1 q2⟩, ⟨fun x hx => ?_, fun j hj => ?_⟩⟩
  · by_cases hj : j = T.1
    · subst hj; simp [zup, yem, yrw, hD.2.2.1]
    · have := hD.2.2.2.1 j q1 (by have : j < T.1 + 1 := q2; omega)
      simp [zup, yem, hj]; exact this
  · rw [zup_row (by omega), zup_row (by omega), zup_row (by omega), zup_row (by omega), zup_row (by omega), zup_row (by omega), zup_row (by omega)]
  · rw [zup_ni hj]; rfl

theorem m_showBy {p g : Int} {M : zM} {Q : zV → zM → Prop} {c : Int} {T : yT} (hD : yDr M c T) (k : ∀ N : zM, (yDr N c (yshb T p g) ∧ ydf M N) → Q (3, 0) N) : zWp kDr_showBy 0 [(1, 126), (0, p), (0, g)] [] M Q := by
  refine zw_iload ⟨rfl, rfl⟩ rfl ?_
  refine zw_iflt ⟨rfl, rfl⟩ rfl (fun c1 => ?_) (fun c1 => ?_)
  · skip
    refine zw_void rfl ?_
    refine k _ ⟨⟨hD.1, hD.2.1, hD.2.2.1, hD.2.2.2.1, fun q q1 q2 => ?_⟩, ydf.rf⟩
    have := hD.2.2.2.2 q q1 q2
    simp only [yshb]
    rw [if_neg (by omega)]
    exact this
  · skip
    refine zw_iload ⟨rfl, rfl⟩ rfl ?_
    refine zw_const ⟨rfl, rfl⟩ ?_
    refine zw_icge ⟨rfl, rfl⟩ rfl (fun c2 => ?_) (fun c2 => ?_)
    · skip
      refine zw_void rfl ?_
      refine k _ ⟨⟨hD.1, hD.2.1, hD.2.2.1, hD.2.2.2.1, fun q q1 q2 => ?_⟩, ydf.rf⟩
      have := hD.2.2.2.2 q q1 q2
      simp only [yshb]
      rw [if_neg (by omega)]
      exact this
    · skip
      refine zw_aload ⟨rfl, rfl⟩ rfl ?_
      refine zw_getR 135 ⟨rfl, rfl⟩ zr_126_2 ?_
      refine zw_iload ⟨rfl, rfl⟩ rfl ?_
      refine zw_iload ⟨rfl, rfl⟩ rfl ?_
      refine zw_iast ⟨rfl, rfl⟩ za_135 (by omega) ?_
      refine zw_void rfl ?_
      refine k _ ⟨⟨hD.1, hD.2.1, hD.2.2.1, hD.2.2.2.1, fun q q1 q2 => ?_⟩, ⟨fun x hx => zup_row (by omega), fun j hj => rfl⟩⟩
      have := hD.2.2.2.2 q q1 q2
      by_cases hq : q = p
      · subst hq; simp [zup, yshb]
      · simp [zup, yshb, hq]; exact this

theorem m_putLetter {f p rk : Int} {M : zM} {Q : zV → zM → Prop} {σ : yS} {c : Int} {T : yT} (hV : yVal σ) (hS : yTold M σ) (hD : yDr M c T) (hp : p = -1 ∨ 0 ≤ p ∧ p < 60) (hg : p ≠ -1 → T.1 < 180) (k : ∀ N : zM, (yDr N c (yplt σ c T f p rk) ∧ ydf M N) → Q (0, if p = -1 then -1 else T.1) N) : zWp kDr_putLetter 0 [(1, 126), (0, f), (0, p), (0, rk), (3, 0)] [] M Q := by
  refine zw_iload ⟨rfl, rfl⟩ rfl ?_
  refine zw_const ⟨rfl, rfl⟩ ?_
  refine zw_icne ⟨rfl, rfl⟩ rfl (fun c1 => ?_) (fun c1 => ?_)
  · skip
    refine zw_aload ⟨rfl, rfl⟩ rfl ?_
    refine zw_iload ⟨rfl, rfl⟩ rfl ?_
    refine zw_aload ⟨rfl, rfl⟩ rfl ?_
    refine zw_getR 2 ⟨rfl, rfl⟩ zr_126_5 ?_
    refine zw_iload ⟨rfl, rfl⟩ rfl ?_
    refine zw_callv2 ⟨rfl, rfl⟩ rfl zc_2 rfl ?_
    refine m_letterAt_s hV.1.2 hS ?_
    refine zw_const ⟨rfl, rfl⟩ ?_
    refine zw_iload ⟨rfl, rfl⟩ rfl ?_
    refine zw_iload ⟨rfl, rfl⟩ rfl ?_
    refine zw_callv6 ⟨rfl, rfl⟩ rfl zc_126 rfl ?_
    refine m_put hD (hg (by omega)) (fun N1 p1 => ?_)
    refine zw_istore_4 ⟨rfl, rfl⟩ ?_
    refine zw_aload ⟨rfl, rfl⟩ rfl ?_
    refine zw_iload ⟨rfl, rfl⟩ rfl ?_
    refine zw_iload ⟨rfl, rfl⟩ rfl ?_
    refine zw_cavv3 ⟨rfl, rfl⟩ rfl zc_126 rfl ?_
    refine m_showBy p1.1 (fun N2 p2 => ?_)
    refine zw_iload ⟨rfl, rfl⟩ rfl ?_
    refine zw_ret rfl ?_
    have k := k _ ⟨by unfold yplt; rw [if_neg (by omega)]; exact p2.1, p1.2.tr p2.2⟩
    rw [if_neg (by omega)] at k
    exact k
  · skip
    refine zw_const ⟨rfl, rfl⟩ ?_
    refine zw_ret rfl ?_
    have e : p = -1 := by omega
    have k := k _ ⟨by unfold yplt; rw [if_pos e]; exact hD, ydf.rf⟩
    rw [if_pos e] at k
    exact k

theorem m_drawPart {p w kd rk : Int} {M : zM} {Q : zV → zM → Prop} {σ : yS} {c : Int} {T : yT} (hV : yVal σ) (hS : yTold M σ) (hD : yDr M c T) (hw : w = 0 ∨ w = 1) (hg : T.1 + (if ykd σ (ypt σ (yL σ p) w) = kd then 1 else 0) ≤ 180) (k : ∀ N : zM, (yDr N c (ydp σ kd rk c p w T) ∧ ydf M N) → Q (3, 0) N) : zWp kDr_drawPart 0 [(1, 126), (0, p), (0, w), (0, kd), (0, rk), (3, 0), (3, 0)] [] M Q := by
  refine zw_aload ⟨rfl, rfl⟩ rfl ?_
  refine zw_getR 2 ⟨rfl, rfl⟩ zr_126_5 ?_
  refine zw_getR 3 ⟨rfl, rfl⟩ zr_2_0 ?_
  refine zw_aload ⟨rfl, rfl⟩ rfl ?_
  refine zw_getR 2 ⟨rfl, rfl⟩ zr_126_5 ?_
  refine zw_iload ⟨rfl, rfl⟩ rfl ?_
  refine zw_callv2 ⟨rfl, rfl⟩ rfl zc_2 rfl ?_
  refine m_letterAt_s hV.1.2 hS ?_
  refine zw_iload ⟨rfl, rfl⟩ rfl ?_
  refine zw_callv3 ⟨rfl, rfl⟩ rfl zc_3 rfl ?_
  refine m_partOf hS.1 ?_
  refine zw_istore_5 ⟨rfl, rfl⟩ ?_
  refine zw_aload ⟨rfl, rfl⟩ rfl ?_
  refine zw_getR 2 ⟨rfl, rfl⟩ zr_126_5 ?_
  refine zw_getR 3 ⟨rfl, rfl⟩ zr_2_0 ?_
  refine zw_iload ⟨rfl, rfl⟩ rfl ?_
  refine zw_callv2 ⟨rfl, rfl⟩ rfl zc_3 rfl ?_
  refine m_kindOf_3 hS.1 ?_
  refine zw_iload ⟨rfl, rfl⟩ rfl ?_
  refine zw_iceq ⟨rfl, rfl⟩ rfl (fun c1 => ?_) (fun c1 => ?_)
  · skip
    refine zw_aload ⟨rfl, rfl⟩ rfl ?_
    refine zw_const ⟨rfl, rfl⟩ ?_
    refine zw_iload ⟨rfl, rfl⟩ rfl ?_
    refine zw_const ⟨rfl, rfl⟩ ?_
    refine zw_iload ⟨rfl, rfl⟩ rfl ?_
    refine zw_iload ⟨rfl, rfl⟩ rfl ?_
    refine zw_callv6 ⟨rfl, rfl⟩ rfl zc_126 rfl ?_
    refine m_put hD (by omega) (fun N1 p1 => ?_)
    refine zw_istore_6 ⟨rfl, rfl⟩ ?_
    refine zw_iload ⟨rfl, rfl⟩ rfl ?_
    refine zw_ifne ⟨rfl, rfl⟩ rfl (fun c2 => ?_) (fun c2 => ?_)
    · skip
      refine zw_void rfl ?_
      exact k _ ⟨by unfold ydp; rw [if_pos (by omega), if_neg (by omega)]; exact p1.1, p1.2⟩
    · skip
      refine zw_aload ⟨rfl, rfl⟩ rfl ?_
      refine zw_iload ⟨rfl, rfl⟩ rfl ?_
      refine zw_iload ⟨rfl, rfl⟩ rfl ?_
      refine zw_cavv3 ⟨rfl, rfl⟩ rfl zc_126 rfl ?_
      refine m_showBy p1.1 (fun N2 p2 => ?_)
      refine zw_void rfl ?_
      exact k _ ⟨by unfold ydp; rw [if_pos (by omega), if_pos (by omega)]; exact p2.1, p1.2.tr p2.2⟩
  · skip
    refine zw_void rfl ?_
    exact k _ ⟨by unfold ydp; rw [if_neg (by omega)]; exact hD, ydf.rf⟩

section
set_option maxHeartbeats 4000000
theorem m_drawSigns_l  {kd rk b : Int} {M : zM} {Q : zV → zM → Prop} {σ : yS} {c : Int} {T : yT} (hV : yVal σ) (hX : yCx M σ b) (hB : (0 ≤ b ∧ b < σ 0) ∧ ybg (yK σ) b) (hD : yDr M c T) (hkd : kd ≠ -1) (hg : T.1 + ysm (ycs σ kd) (ytl (yK σ) b) (yov (yK σ) b) ≤ 180) (k : ∀ N : zM, (yDr N c (ysgn σ kd rk c b T) ∧ ydf M N) → Q (3, 0) N) : ∀ (f : Nat) (p : Int) (N : zM), (ytl (yK σ) b ≤ p ∧ p ≤ yov (yK σ) b) → (yDr N c (yfo (ysgs σ kd rk c) (ytl (yK σ) b) p T)) → (ydf M N) → (yov (yK σ) b - p).toNat < f → zWp kDr_drawSigns 4 [(1, 126), (0, kd), (0, rk), (0, p)] [] N Q := by
  intro f
  induction f with
  | zero => intro p N i1 i2 i3 hf; exact absurd hf (Nat.not_lt_zero _)
  | succ f ih =>
    intro p N i1 i2 i3 hf
    have hK := yKr_K hV
    have hov := (yov_sp hK hB.1.1 hB.1.2 hB.2).2.1
    have hn := hV.1
    refine zw_iload ⟨rfl, rfl⟩ rfl ?_
    refine zw_aload ⟨rfl, rfl⟩ rfl ?_
    refine zw_getR 120 ⟨rfl, rfl⟩ zr_126_7 ?_
    refine zw_getIv (v := yov (yK σ) b) ⟨rfl, rfl⟩ zc_120 (by decide) ((congrFun (i3.1 120 (by decide)) 6).trans hX.2.2.1.2.2.1) ?_
    refine zw_icge ⟨rfl, rfl⟩ rfl (fun c1 => ?_) (fun c1 => ?_)
    · skip
      refine zw_void rfl ?_
      refine k _ ⟨?_, i3⟩
      have e : p = yov (yK σ) b := by omega
      unfold ysgn
      rw [← e]
      exact i2
    · skip
      have hX2 := hX.fr i3
      have hs1 := yfo_sg σ hkd rk c T i1.1
      have hs2 := ysm_s (ycs σ kd) i1.1
      have hs3 := ysm_mo (ycs σ kd) (fun q => (ycs_r σ kd q).1) (show ytl (yK σ) b ≤ p + 1 by omega) (show p + 1 ≤ yov (yK σ) b by omega)
      have hs4 : ycs σ kd p = _ := rfl
      conv at hs4 => rhs; unfold ycs
      refine zw_aload ⟨rfl, rfl⟩ rfl ?_
      refine zw_getR 105 ⟨rfl, rfl⟩ zr_126_6 ?_
      refine zw_iload ⟨rfl, rfl⟩ rfl ?_
      refine zw_callv2 ⟨rfl, rfl⟩ rfl zc_105 rfl ?_
      refine m_kindAt hK hX2.2.1 ?_
      refine zw_iload ⟨rfl, rfl⟩ rfl ?_
      refine zw_icne ⟨rfl, rfl⟩ rfl (fun c2 => ?_) (fun c2 => ?_)
      · skip
        rw [if_neg (by omega)] at hs4
        refine zw_aload ⟨rfl, rfl⟩ rfl ?_
        refine zw_getR 105 ⟨rfl, rfl⟩ zr_126_6 ?_
        refine zw_iload ⟨rfl, rfl⟩ rfl ?_
        refine zw_callv2 ⟨rfl, rfl⟩ rfl zc_105 rfl ?_
        refine m_kindAt hK hX2.2.1 ?_
        refine zw_const ⟨rfl, rfl⟩ ?_
        refine zw_icne ⟨rfl, rfl⟩ rfl (fun c3 => ?_) (fun c3 => ?_)
        · skip
          rw [if_neg (by omega)] at hs4
          refine zw_iinc_3 ⟨rfl, rfl⟩ (by omega) ?_
          refine zw_goto ⟨rfl, rfl⟩ rfl ?_
          refine ih _ _ ⟨by omega, by omega⟩ ?_ (i3) (by omega)
          rw [yfo_s _ i1.1]
          unfold ysgs
          rw [if_neg (by omega), if_neg (by omega)]
          exact i2
        · skip
          rw [if_pos (by omega)] at hs4
          have ha1 : ∀ a b : Prop, True := fun _ _ => trivial
          have hx0 : 0 ≤ (if ykd σ (ypt σ (yL σ p) 0) = kd then (1 : Int) else 0) := by split <;> omega
          have hx1 : 0 ≤ (if ykd σ (ypt σ (yL σ p) 1) = kd then (1 : Int) else 0) := by split <;> omega
          refine zw_aload ⟨rfl, rfl⟩ rfl ?_
          refine zw_iload ⟨rfl, rfl⟩ rfl ?_
          refine zw_const ⟨rfl, rfl⟩ ?_
          refine zw_iload ⟨rfl, rfl⟩ rfl ?_
          refine zw_iload ⟨rfl, rfl⟩ rfl ?_
          refine zw_cavv5 ⟨rfl, rfl⟩ rfl zc_126 rfl ?_
          refine m_drawPart hV hX2.1 i2 (Or.inl rfl) (by omega) (fun N1 p1 => ?_)
          refine zw_aload ⟨rfl, rfl⟩ rfl ?_
          refine zw_iload ⟨rfl, rfl⟩ rfl ?_
          refine zw_const ⟨rfl, rfl⟩ ?_
          refine zw_iload ⟨rfl, rfl⟩ rfl ?_
          refine zw_iload ⟨rfl, rfl⟩ rfl ?_
          refine zw_cavv5 ⟨rfl, rfl⟩ rfl zc_126 rfl ?_
          refine m_drawPart hV (hX2.fr p1.2).1 p1.1 (Or.inr rfl) (by rw [ydp_1]; omega) (fun N2 p2 => ?_)
          refine zw_iinc_3 ⟨rfl, rfl⟩ (by omega) ?_
          refine zw_goto ⟨rfl, rfl⟩ rfl ?_
          refine ih _ _ ⟨by omega, by omega⟩ ?_ ((i3.tr p1.2).tr p2.2) (by omega)
          rw [yfo_s _ i1.1]
          unfold ysgs
          rw [if_neg (by omega), if_pos (by omega)]
          exact p2.1
      · skip
        rw [if_pos (by omega)] at hs4
        refine zw_aload ⟨rfl, rfl⟩ rfl ?_
        refine zw_const ⟨rfl, rfl⟩ ?_
        refine zw_iload ⟨rfl, rfl⟩ rfl ?_
        refine zw_iload ⟨rfl, rfl⟩ rfl ?_
        refine zw_callv4 ⟨rfl, rfl⟩ rfl zc_126 rfl ?_
        refine m_putLetter hV hX2.1 i2 (Or.inr ⟨by omega, by omega⟩) (fun _ => by omega) (fun N1 p1 => ?_)
        refine zw_pop ⟨rfl, rfl⟩ (by decide) ?_
        refine zw_goto ⟨rfl, rfl⟩ rfl ?_
        refine zw_iinc_3 ⟨rfl, rfl⟩ (by omega) ?_
        refine zw_goto ⟨rfl, rfl⟩ rfl ?_
        refine ih _ _ ⟨by omega, by omega⟩ ?_ (i3.tr p1.2) (by omega)
        rw [yfo_s _ i1.1]
        unfold ysgs
        rw [if_pos (by omega)]
        exact p1.1
end

theorem m_drawSigns {kd rk b : Int} {M : zM} {Q : zV → zM → Prop} {σ : yS} {c : Int} {T : yT} (hV : yVal σ) (hX : yCx M σ b) (hB : (0 ≤ b ∧ b < σ 0) ∧ ybg (yK σ) b) (hD : yDr M c T) (hkd : kd ≠ -1) (hg : T.1 + ysm (ycs σ kd) (ytl (yK σ) b) (yov (yK σ) b) ≤ 180) (k : ∀ N : zM, (yDr N c (ysgn σ kd rk c b T) ∧ ydf M N) → Q (3, 0) N) : zWp kDr_drawSigns 0 [(1, 126), (0, kd), (0, rk), (3, 0)] [] M Q := by
  have hK := yKr_K hV
  have hov := (yov_sp hK hB.1.1 hB.1.2 hB.2).2.1
  have hn := hV.1
  refine zw_aload ⟨rfl, rfl⟩ rfl ?_
  refine zw_getR 120 ⟨rfl, rfl⟩ zr_126_7 ?_
  refine zw_getIv (v := ytl (yK σ) b) ⟨rfl, rfl⟩ zc_120 (by decide) (hX.2.2.1.2.2.2.1) ?_
  refine zw_istore_3 ⟨rfl, rfl⟩ ?_
  exact m_drawSigns_l hV hX hB hD hkd hg k _ _ _ ⟨Int.le_refl _, by omega⟩ (by rw [yfo_0 _ (Int.le_refl _)]; exact hD) ydf.rf (Nat.lt_succ_self _)

section
set_option maxHeartbeats 4000000
theorem m_drawMarks_l  {kd rk b : Int} {M : zM} {Q : zV → zM → Prop} {σ : yS} {c : Int} {T : yT} (hV : yVal σ) (hX : yCx M σ b) (hB : (0 ≤ b ∧ b < σ 0) ∧ ybg (yK σ) b) (hD : yDr M c T) (hkd : kd ≠ -1) (hg : T.1 + ysm (ycm σ kd) (ytl (yK σ) b) (yov (yK σ) b) ≤ 180) (k : ∀ N : zM, (yDr N c (ymrk σ kd rk c b T) ∧ ydf M N) → Q (3, 0) N) : ∀ (f : Nat) (p : Int) (N : zM), (ytl (yK σ) b ≤ p ∧ p ≤ yov (yK σ) b) → (yDr N c (yfo (ymks σ kd rk c) (ytl (yK σ) b) p T)) → (ydf M N) → (yov (yK σ) b - p).toNat < f → zWp kDr_drawMarks 4 [(1, 126), (0, kd), (0, rk), (0, p)] [] N Q := by
  intro f
  induction f with
  | zero => intro p N i1 i2 i3 hf; exact absurd hf (Nat.not_lt_zero _)
  | succ f ih =>
    intro p N i1 i2 i3 hf
    have hK := yKr_K hV
    have hov := (yov_sp hK hB.1.1 hB.1.2 hB.2).2.1
    have hn := hV.1
    refine zw_iload ⟨rfl, rfl⟩ rfl ?_
    refine zw_aload ⟨rfl, rfl⟩ rfl ?_
    refine zw_getR 120 ⟨rfl, rfl⟩ zr_126_7 ?_
    refine zw_getIv (v := yov (yK σ) b) ⟨rfl, rfl⟩ zc_120 (by decide) ((congrFun (i3.1 120 (by decide)) 6).trans hX.2.2.1.2.2.1) ?_
    refine zw_icge ⟨rfl, rfl⟩ rfl (fun c1 => ?_) (fun c1 => ?_)
    · skip
      refine zw_void rfl ?_
      refine k _ ⟨?_, i3⟩
      have e : p = yov (yK σ) b := by omega
      unfold ymrk
      rw [← e]
      exact i2
    · skip
      have hX2 := hX.fr i3
      have hs1 := yfo_mk σ hkd rk c T i1.1
      have hs2 := ysm_s (ycm σ kd) i1.1
      have hs3 := ysm_mo (ycm σ kd) (fun q => (ycm_r σ kd q).1) (show ytl (yK σ) b ≤ p + 1 by omega) (show p + 1 ≤ yov (yK σ) b by omega)
      have hs4 : ycm σ kd p = _ := rfl
      conv at hs4 => rhs; unfold ycm
      refine zw_aload ⟨rfl, rfl⟩ rfl ?_
      refine zw_getR 105 ⟨rfl, rfl⟩ zr_126_6 ?_
      refine zw_iload ⟨rfl, rfl⟩ rfl ?_
      refine zw_callv2 ⟨rfl, rfl⟩ rfl zc_105 rfl ?_
      refine m_kindAt hK hX2.2.1 ?_
      refine zw_iload ⟨rfl, rfl⟩ rfl ?_
      refine zw_icne ⟨rfl, rfl⟩ rfl (fun c2 => ?_) (fun c2 => ?_)
      · skip
        rw [if_neg (by omega)] at hs4
        refine zw_iinc_3 ⟨rfl, rfl⟩ (by omega) ?_
        refine zw_goto ⟨rfl, rfl⟩ rfl ?_
        refine ih _ _ ⟨by omega, by omega⟩ ?_ (i3) (by omega)
        rw [yfo_s _ i1.1]
        unfold ymks
        rw [if_neg (by omega)]
        exact i2
      · skip
        rw [if_pos (by omega)] at hs4
        refine zw_aload ⟨rfl, rfl⟩ rfl ?_
        refine zw_const ⟨rfl, rfl⟩ ?_
        refine zw_iload ⟨rfl, rfl⟩ rfl ?_
        refine zw_iload ⟨rfl, rfl⟩ rfl ?_
        refine zw_callv4 ⟨rfl, rfl⟩ rfl zc_126 rfl ?_
        refine m_putLetter hV hX2.1 i2 (Or.inr ⟨by omega, by omega⟩) (fun _ => by omega) (fun N1 p1 => ?_)
        refine zw_pop ⟨rfl, rfl⟩ (by decide) ?_
        refine zw_iinc_3 ⟨rfl, rfl⟩ (by omega) ?_
        refine zw_goto ⟨rfl, rfl⟩ rfl ?_
        refine ih _ _ ⟨by omega, by omega⟩ ?_ (i3.tr p1.2) (by omega)
        rw [yfo_s _ i1.1]
        unfold ymks
        rw [if_pos (by omega)]
        exact p1.1
end

theorem m_drawMarks {kd rk b : Int} {M : zM} {Q : zV → zM → Prop} {σ : yS} {c : Int} {T : yT} (hV : yVal σ) (hX : yCx M σ b) (hB : (0 ≤ b ∧ b < σ 0) ∧ ybg (yK σ) b) (hD : yDr M c T) (hkd : kd ≠ -1) (hg : T.1 + ysm (ycm σ kd) (ytl (yK σ) b) (yov (yK σ) b) ≤ 180) (k : ∀ N : zM, (yDr N c (ymrk σ kd rk c b T) ∧ ydf M N) → Q (3, 0) N) : zWp kDr_drawMarks 0 [(1, 126), (0, kd), (0, rk), (3, 0)] [] M Q := by
  have hK := yKr_K hV
  have hov := (yov_sp hK hB.1.1 hB.1.2 hB.2).2.1
  have hn := hV.1
  refine zw_aload ⟨rfl, rfl⟩ rfl ?_
  refine zw_getR 120 ⟨rfl, rfl⟩ zr_126_7 ?_
  refine zw_getIv (v := ytl (yK σ) b) ⟨rfl, rfl⟩ zc_120 (by decide) (hX.2.2.1.2.2.2.1) ?_
  refine zw_istore_3 ⟨rfl, rfl⟩ ?_
  exact m_drawMarks_l hV hX hB hD hkd hg k _ _ _ ⟨Int.le_refl _, by omega⟩ (by rw [yfo_0 _ (Int.le_refl _)]; exact hD) ydf.rf (Nat.lt_succ_self _)

theorem m_isHalf {b k : Int} {M : zM} {Q : zV → zM → Prop} {σ : yS} (hV : yVal σ) (hX : yCx M σ b) (hB : (0 ≤ b ∧ b < σ 0) ∧ ybg (yK σ) b) (h : yK σ b = 1) (hk : 0 ≤ k ∧ k < ym (yK σ) b) (kk : Q (0, yhf σ b k) M) : zWp kDr_isHalf 0 [(1, 126), (0, k), (3, 0)] [] M Q := by
  have hK := yKr_K hV
  have hov := (yov_sp hK hB.1.1 hB.1.2 hB.2).2.1
  have hn := hV.1
  have hm := ym_r hK hB.1.1 hB.1.2 h
  have em : yms (yK σ) b = ym (yK σ) b := if_pos h
  have hp := (ypl_r hK hB.1.1 hB.1.2 h hk.1 hk.2).1
  have hl := yL_r hV (show 0 ≤ yP σ b k by unfold yP; omega) hp.2.2
  have hbit := (hX.1.1.2.2.2.1 _ hl.1 hl.2).2
  refine zw_aload ⟨rfl, rfl⟩ rfl ?_
  refine zw_getR 120 ⟨rfl, rfl⟩ zr_126_7 ?_
  refine zw_getR 124 ⟨rfl, rfl⟩ zr_120_13 ?_
  refine zw_iload ⟨rfl, rfl⟩ rfl ?_
  refine zw_ialdv (v := yjo (yK σ) (yP σ b k)) ⟨rfl, rfl⟩ za_124 (by omega) ((hX.2.2.2.2 k (by omega) (by omega)).2.2.2.1) ?_
  refine zw_const ⟨rfl, rfl⟩ ?_
  refine zw_iceq ⟨rfl, rfl⟩ rfl (fun c1 => ?_) (fun c1 => ?_)
  · skip
    refine zw_const ⟨rfl, rfl⟩ ?_
    refine zw_istore_2 ⟨rfl, rfl⟩ ?_
    refine zw_iload ⟨rfl, rfl⟩ rfl ?_
    refine zw_ifne ⟨rfl, rfl⟩ rfl (fun q => absurd q (by decide)) (fun _ => ?_)
    refine zw_aload ⟨rfl, rfl⟩ rfl ?_
    refine zw_getR 2 ⟨rfl, rfl⟩ zr_126_5 ?_
    refine zw_getR 3 ⟨rfl, rfl⟩ zr_2_0 ?_
    refine zw_getIv (v := M 3 6) ⟨rfl, rfl⟩ zc_3 (by decide) rfl ?_
    refine zw_aload ⟨rfl, rfl⟩ rfl ?_
    refine zw_getR 2 ⟨rfl, rfl⟩ zr_126_5 ?_
    refine zw_aload ⟨rfl, rfl⟩ rfl ?_
    refine zw_getR 120 ⟨rfl, rfl⟩ zr_126_7 ?_
    refine zw_getR 121 ⟨rfl, rfl⟩ zr_120_10 ?_
    refine zw_iload ⟨rfl, rfl⟩ rfl ?_
    refine zw_ialdv (v := yP σ b k) ⟨rfl, rfl⟩ za_121 (by omega) ((hX.2.2.2.2 k (by omega) (by omega)).1) ?_
    refine zw_callv2 ⟨rfl, rfl⟩ rfl zc_2 rfl ?_
    refine m_letterAt_s hV.1.2 hX.1 ?_
    refine zw_calls2 ⟨rfl, rfl⟩ rfl rfl ?_
    refine m_hasBit (by omega) ?_
    refine zw_const ⟨rfl, rfl⟩ ?_
    refine zw_icne ⟨rfl, rfl⟩ rfl (fun c3 => ?_) (fun c3 => ?_)
    · skip
      refine zw_const ⟨rfl, rfl⟩ ?_
      refine zw_zret rfl (by first | exact Or.inl rfl | exact Or.inr rfl | omega) ?_
      rw [show yhf σ b k = 0 from by unfold yhf; rw [if_neg (fun z => by first | exact z.1 ⟨by omega, by omega⟩ | (have z2 := z.2; omega))]] at kk
      exact kk
    · skip
      refine zw_const ⟨rfl, rfl⟩ ?_
      refine zw_goto ⟨rfl, rfl⟩ rfl ?_
      refine zw_zret rfl (by first | exact Or.inl rfl | exact Or.inr rfl | omega) ?_
      rw [show yhf σ b k = 1 from by unfold yhf; rw [if_pos ⟨fun z => by have z1 := z.1; have z2 := z.2; omega, by omega⟩]] at kk
      exact kk
  · skip
    refine zw_aload ⟨rfl, rfl⟩ rfl ?_
    refine zw_getR 105 ⟨rfl, rfl⟩ zr_126_6 ?_
    refine zw_aload ⟨rfl, rfl⟩ rfl ?_
    refine zw_getR 120 ⟨rfl, rfl⟩ zr_126_7 ?_
    refine zw_getR 124 ⟨rfl, rfl⟩ zr_120_13 ?_
    refine zw_iload ⟨rfl, rfl⟩ rfl ?_
    refine zw_ialdv (v := yjo (yK σ) (yP σ b k)) ⟨rfl, rfl⟩ za_124 (by omega) ((hX.2.2.2.2 k (by omega) (by omega)).2.2.2.1) ?_
    refine zw_callv2 ⟨rfl, rfl⟩ rfl zc_105 rfl ?_
    refine m_kindAt hK hX.2.1 ?_
    refine zw_const ⟨rfl, rfl⟩ ?_
    refine zw_icne ⟨rfl, rfl⟩ rfl (fun c4 => ?_) (fun c4 => ?_)
    · skip
      refine zw_const ⟨rfl, rfl⟩ ?_
      refine zw_istore_2 ⟨rfl, rfl⟩ ?_
      refine zw_iload ⟨rfl, rfl⟩ rfl ?_
      refine zw_ifne ⟨rfl, rfl⟩ rfl (fun q => absurd q (by decide)) (fun _ => ?_)
      refine zw_aload ⟨rfl, rfl⟩ rfl ?_
      refine zw_getR 2 ⟨rfl, rfl⟩ zr_126_5 ?_
      refine zw_getR 3 ⟨rfl, rfl⟩ zr_2_0 ?_
      refine zw_getIv (v := M 3 6) ⟨rfl, rfl⟩ zc_3 (by decide) rfl ?_
      refine zw_aload ⟨rfl, rfl⟩ rfl ?_
      refine zw_getR 2 ⟨rfl, rfl⟩ zr_126_5 ?_
      refine zw_aload ⟨rfl, rfl⟩ rfl ?_
      refine zw_getR 120 ⟨rfl, rfl⟩ zr_126_7 ?_
      refine zw_getR 121 ⟨rfl, rfl⟩ zr_120_10 ?_
      refine zw_iload ⟨rfl, rfl⟩ rfl ?_
      refine zw_ialdv (v := yP σ b k) ⟨rfl, rfl⟩ za_121 (by omega) ((hX.2.2.2.2 k (by omega) (by omega)).1) ?_
      refine zw_callv2 ⟨rfl, rfl⟩ rfl zc_2 rfl ?_
      refine m_letterAt_s hV.1.2 hX.1 ?_
      refine zw_calls2 ⟨rfl, rfl⟩ rfl rfl ?_
      refine m_hasBit (by omega) ?_
      refine zw_const ⟨rfl, rfl⟩ ?_
      refine zw_icne ⟨rfl, rfl⟩ rfl (fun c6 => ?_) (fun c6 => ?_)
      · skip
        refine zw_const ⟨rfl, rfl⟩ ?_
        refine zw_zret rfl (by first | exact Or.inl rfl | exact Or.inr rfl | omega) ?_
        rw [show yhf σ b k = 0 from by unfold yhf; rw [if_neg (fun z => by first | exact z.1 ⟨by omega, by omega⟩ | (have z2 := z.2; omega))]] at kk
        exact kk
      · skip
        refine zw_const ⟨rfl, rfl⟩ ?_
        refine zw_goto ⟨rfl, rfl⟩ rfl ?_
        refine zw_zret rfl (by first | exact Or.inl rfl | exact Or.inr rfl | omega) ?_
        rw [show yhf σ b k = 1 from by unfold yhf; rw [if_pos ⟨fun z => by have z1 := z.1; have z2 := z.2; omega, by omega⟩]] at kk
        exact kk
    · skip
      refine zw_const ⟨rfl, rfl⟩ ?_
      refine zw_goto ⟨rfl, rfl⟩ rfl ?_
      refine zw_istore_2 ⟨rfl, rfl⟩ ?_
      refine zw_iload ⟨rfl, rfl⟩ rfl ?_
      refine zw_ifne ⟨rfl, rfl⟩ rfl (fun _ => ?_) (fun q => absurd (by decide) q)
      refine zw_const ⟨rfl, rfl⟩ ?_
      refine zw_zret rfl (by first | exact Or.inl rfl | exact Or.inr rfl | omega) ?_
      rw [show yhf σ b k = 0 from by unfold yhf; rw [if_neg (fun z => by first | exact z.1 ⟨by omega, by omega⟩ | (have z2 := z.2; omega))]] at kk
      exact kk

theorem m_drawConsonants {b k la hf rk : Int} {M : zM} {Q : zV → zM → Prop} {σ : yS} {c : Int} {T : yT} (hV : yVal σ) (hX : yCx M σ b) (hB : (0 ≤ b ∧ b < σ 0) ∧ ybg (yK σ) b) (hD : yDr M c T) (h : yK σ b = 1) (hk : 0 ≤ k ∧ k < ym (yK σ) b) (hl : 0 ≤ la ∧ la < ym (yK σ) b) (hg : T.1 < 180) (kk : ∀ N : zM, (yDr N c (ydcn σ c T b k la hf rk) ∧ ydf M N) → Q (0, T.1) N) : zWp kDr_drawConsonants 0 [(1, 126), (0, k), (0, la), (0, hf), (0, rk), (3, 0), (3, 0), (3, 0), (3, 0)] [] M Q := by
  have hK := yKr_K hV
  have hov := (yov_sp hK hB.1.1 hB.1.2 hB.2).2.1
  have hn := hV.1
  have hm := ym_r hK hB.1.1 hB.1.2 h
  have em : yms (yK σ) b = ym (yK σ) b := if_pos h
  have hpk := (ypl_r hK hB.1.1 hB.1.2 h hk.1 hk.2).1
  have hpl := (ypl_r hK hB.1.1 hB.1.2 h hl.1 hl.2).1
  have hpk0 : 0 ≤ yP σ b k ∧ yP σ b k < 60 := by unfold yP; omega
  have hpk1 : ¬ yP σ b k = -1 := by omega
  refine zw_iload ⟨rfl, rfl⟩ rfl ?_
  refine zw_iload ⟨rfl, rfl⟩ rfl ?_
  refine zw_icne ⟨rfl, rfl⟩ rfl (fun c1 => ?_) (fun c1 => ?_)
  · skip
    refine zw_iload ⟨rfl, rfl⟩ rfl ?_
    refine zw_ifeq ⟨rfl, rfl⟩ rfl (fun c2 => ?_) (fun c2 => ?_)
    · skip
      refine zw_const ⟨rfl, rfl⟩ ?_
      refine zw_istore_5 ⟨rfl, rfl⟩ ?_
      refine zw_aload ⟨rfl, rfl⟩ rfl ?_
      refine zw_getR 2 ⟨rfl, rfl⟩ zr_126_5 ?_
      refine zw_aload ⟨rfl, rfl⟩ rfl ?_
      refine zw_getR 120 ⟨rfl, rfl⟩ zr_126_7 ?_
      refine zw_getR 121 ⟨rfl, rfl⟩ zr_120_10 ?_
      refine zw_iload ⟨rfl, rfl⟩ rfl ?_
      refine zw_ialdv (v := yP σ b k) ⟨rfl, rfl⟩ za_121 (by omega) ((hX.2.2.2.2 k (by omega) (by omega)).1) ?_
      refine zw_callv2 ⟨rfl, rfl⟩ rfl zc_2 rfl ?_
      refine m_letterAt_s hV.1.2 hX.1 ?_
      refine zw_istore_6 ⟨rfl, rfl⟩ ?_
      refine zw_aload ⟨rfl, rfl⟩ rfl ?_
      refine zw_getR 2 ⟨rfl, rfl⟩ zr_126_5 ?_
      refine zw_aload ⟨rfl, rfl⟩ rfl ?_
      refine zw_getR 120 ⟨rfl, rfl⟩ zr_126_7 ?_
      refine zw_getR 121 ⟨rfl, rfl⟩ zr_120_10 ?_
      refine zw_iload ⟨rfl, rfl⟩ rfl ?_
      refine zw_ialdv (v := yP σ b la) ⟨rfl, rfl⟩ za_121 (by omega) ((hX.2.2.2.2 la (by omega) (by omega)).1) ?_
      refine zw_callv2 ⟨rfl, rfl⟩ rfl zc_2 rfl ?_
      refine m_letterAt_s hV.1.2 hX.1 ?_
      refine zw_istore_7 ⟨rfl, rfl⟩ ?_
      refine zw_aload ⟨rfl, rfl⟩ rfl ?_
      refine zw_iload ⟨rfl, rfl⟩ rfl ?_
      refine zw_iload ⟨rfl, rfl⟩ rfl ?_
      refine zw_iload ⟨rfl, rfl⟩ rfl ?_
      refine zw_aload ⟨rfl, rfl⟩ rfl ?_
      refine zw_getR 120 ⟨rfl, rfl⟩ zr_126_7 ?_
      refine zw_getR 121 ⟨rfl, rfl⟩ zr_120_10 ?_
      refine zw_iload ⟨rfl, rfl⟩ rfl ?_
      refine zw_ialdv (v := yP σ b k) ⟨rfl, rfl⟩ za_121 (by omega) ((hX.2.2.2.2 k (by omega) (by omega)).1) ?_
      refine zw_iload ⟨rfl, rfl⟩ rfl ?_
      refine zw_callv6 ⟨rfl, rfl⟩ rfl zc_126 rfl ?_
      refine m_put hD hg (fun N1 p1 => ?_)
      refine zw_istore_8 ⟨rfl, rfl⟩ ?_
      refine zw_aload ⟨rfl, rfl⟩ rfl ?_
      refine zw_aload ⟨rfl, rfl⟩ rfl ?_
      refine zw_getR 120 ⟨rfl, rfl⟩ zr_126_7 ?_
      refine zw_getR 121 ⟨rfl, rfl⟩ zr_120_10 ?_
      refine zw_iload ⟨rfl, rfl⟩ rfl ?_
      refine zw_ialdv (v := yP σ b k) ⟨rfl, rfl⟩ za_121 (by omega) ((((hX.fr p1.2).2.2.2.2 k (by omega) (by omega)).1)) ?_
      refine zw_iload ⟨rfl, rfl⟩ rfl ?_
      refine zw_cavv3 ⟨rfl, rfl⟩ rfl zc_126 rfl ?_
      refine m_showBy p1.1 (fun N2 p2 => ?_)
      refine zw_aload ⟨rfl, rfl⟩ rfl ?_
      refine zw_aload ⟨rfl, rfl⟩ rfl ?_
      refine zw_getR 120 ⟨rfl, rfl⟩ zr_126_7 ?_
      refine zw_getR 123 ⟨rfl, rfl⟩ zr_120_12 ?_
      refine zw_iload ⟨rfl, rfl⟩ rfl ?_
      refine zw_ialdv (v := yvi (yK σ) (yP σ b k)) ⟨rfl, rfl⟩ za_123 (by omega) ((((hX.fr (p1.2.tr p2.2)).2.2.2.2 k (by omega) (by omega)).2.2.1)) ?_
      refine zw_iload ⟨rfl, rfl⟩ rfl ?_
      refine zw_cavv3 ⟨rfl, rfl⟩ rfl zc_126 rfl ?_
      refine m_showBy p2.1 (fun N3 p3 => ?_)
      refine zw_aload ⟨rfl, rfl⟩ rfl ?_
      refine zw_aload ⟨rfl, rfl⟩ rfl ?_
      refine zw_getR 120 ⟨rfl, rfl⟩ zr_126_7 ?_
      refine zw_getR 121 ⟨rfl, rfl⟩ zr_120_10 ?_
      refine zw_iload ⟨rfl, rfl⟩ rfl ?_
      refine zw_ialdv (v := yP σ b la) ⟨rfl, rfl⟩ za_121 (by omega) ((((hX.fr ((p1.2.tr p2.2).tr p3.2)).2.2.2.2 la (by omega) (by omega)).1)) ?_
      refine zw_iload ⟨rfl, rfl⟩ rfl ?_
      refine zw_cavv3 ⟨rfl, rfl⟩ rfl zc_126 rfl ?_
      refine m_showBy p3.1 (fun N4 p4 => ?_)
      refine zw_iload ⟨rfl, rfl⟩ rfl ?_
      refine zw_ret rfl ?_
      exact kk _ ⟨by unfold ydcn; rw [if_neg (by omega)]; rw [if_pos (by omega)]; exact p4.1, ((p1.2.tr p2.2).tr p3.2).tr p4.2⟩
    · skip
      refine zw_const ⟨rfl, rfl⟩ ?_
      refine zw_goto ⟨rfl, rfl⟩ rfl ?_
      refine zw_istore_5 ⟨rfl, rfl⟩ ?_
      refine zw_aload ⟨rfl, rfl⟩ rfl ?_
      refine zw_getR 2 ⟨rfl, rfl⟩ zr_126_5 ?_
      refine zw_aload ⟨rfl, rfl⟩ rfl ?_
      refine zw_getR 120 ⟨rfl, rfl⟩ zr_126_7 ?_
      refine zw_getR 121 ⟨rfl, rfl⟩ zr_120_10 ?_
      refine zw_iload ⟨rfl, rfl⟩ rfl ?_
      refine zw_ialdv (v := yP σ b k) ⟨rfl, rfl⟩ za_121 (by omega) ((hX.2.2.2.2 k (by omega) (by omega)).1) ?_
      refine zw_callv2 ⟨rfl, rfl⟩ rfl zc_2 rfl ?_
      refine m_letterAt_s hV.1.2 hX.1 ?_
      refine zw_istore_6 ⟨rfl, rfl⟩ ?_
      refine zw_aload ⟨rfl, rfl⟩ rfl ?_
      refine zw_getR 2 ⟨rfl, rfl⟩ zr_126_5 ?_
      refine zw_aload ⟨rfl, rfl⟩ rfl ?_
      refine zw_getR 120 ⟨rfl, rfl⟩ zr_126_7 ?_
      refine zw_getR 121 ⟨rfl, rfl⟩ zr_120_10 ?_
      refine zw_iload ⟨rfl, rfl⟩ rfl ?_
      refine zw_ialdv (v := yP σ b la) ⟨rfl, rfl⟩ za_121 (by omega) ((hX.2.2.2.2 la (by omega) (by omega)).1) ?_
      refine zw_callv2 ⟨rfl, rfl⟩ rfl zc_2 rfl ?_
      refine m_letterAt_s hV.1.2 hX.1 ?_
      refine zw_istore_7 ⟨rfl, rfl⟩ ?_
      refine zw_aload ⟨rfl, rfl⟩ rfl ?_
      refine zw_iload ⟨rfl, rfl⟩ rfl ?_
      refine zw_iload ⟨rfl, rfl⟩ rfl ?_
      refine zw_iload ⟨rfl, rfl⟩ rfl ?_
      refine zw_aload ⟨rfl, rfl⟩ rfl ?_
      refine zw_getR 120 ⟨rfl, rfl⟩ zr_126_7 ?_
      refine zw_getR 121 ⟨rfl, rfl⟩ zr_120_10 ?_
      refine zw_iload ⟨rfl, rfl⟩ rfl ?_
      refine zw_ialdv (v := yP σ b k) ⟨rfl, rfl⟩ za_121 (by omega) ((hX.2.2.2.2 k (by omega) (by omega)).1) ?_
      refine zw_iload ⟨rfl, rfl⟩ rfl ?_
      refine zw_callv6 ⟨rfl, rfl⟩ rfl zc_126 rfl ?_
      refine m_put hD hg (fun N1 p1 => ?_)
      refine zw_istore_8 ⟨rfl, rfl⟩ ?_
      refine zw_aload ⟨rfl, rfl⟩ rfl ?_
      refine zw_aload ⟨rfl, rfl⟩ rfl ?_
      refine zw_getR 120 ⟨rfl, rfl⟩ zr_126_7 ?_
      refine zw_getR 121 ⟨rfl, rfl⟩ zr_120_10 ?_
      refine zw_iload ⟨rfl, rfl⟩ rfl ?_
      refine zw_ialdv (v := yP σ b k) ⟨rfl, rfl⟩ za_121 (by omega) ((((hX.fr p1.2).2.2.2.2 k (by omega) (by omega)).1)) ?_
      refine zw_iload ⟨rfl, rfl⟩ rfl ?_
      refine zw_cavv3 ⟨rfl, rfl⟩ rfl zc_126 rfl ?_
      refine m_showBy p1.1 (fun N2 p2 => ?_)
      refine zw_aload ⟨rfl, rfl⟩ rfl ?_
      refine zw_aload ⟨rfl, rfl⟩ rfl ?_
      refine zw_getR 120 ⟨rfl, rfl⟩ zr_126_7 ?_
      refine zw_getR 123 ⟨rfl, rfl⟩ zr_120_12 ?_
      refine zw_iload ⟨rfl, rfl⟩ rfl ?_
      refine zw_ialdv (v := yvi (yK σ) (yP σ b k)) ⟨rfl, rfl⟩ za_123 (by omega) ((((hX.fr (p1.2.tr p2.2)).2.2.2.2 k (by omega) (by omega)).2.2.1)) ?_
      refine zw_iload ⟨rfl, rfl⟩ rfl ?_
      refine zw_cavv3 ⟨rfl, rfl⟩ rfl zc_126 rfl ?_
      refine m_showBy p2.1 (fun N3 p3 => ?_)
      refine zw_aload ⟨rfl, rfl⟩ rfl ?_
      refine zw_aload ⟨rfl, rfl⟩ rfl ?_
      refine zw_getR 120 ⟨rfl, rfl⟩ zr_126_7 ?_
      refine zw_getR 121 ⟨rfl, rfl⟩ zr_120_10 ?_
      refine zw_iload ⟨rfl, rfl⟩ rfl ?_
      refine zw_ialdv (v := yP σ b la) ⟨rfl, rfl⟩ za_121 (by omega) ((((hX.fr ((p1.2.tr p2.2).tr p3.2)).2.2.2.2 la (by omega) (by omega)).1)) ?_
      refine zw_iload ⟨rfl, rfl⟩ rfl ?_
      refine zw_cavv3 ⟨rfl, rfl⟩ rfl zc_126 rfl ?_
      refine m_showBy p3.1 (fun N4 p4 => ?_)
      refine zw_iload ⟨rfl, rfl⟩ rfl ?_
      refine zw_ret rfl ?_
      exact kk _ ⟨by unfold ydcn; rw [if_neg (by omega)]; rw [if_neg (by omega)]; exact p4.1, ((p1.2.tr p2.2).tr p3.2).tr p4.2⟩
  · skip
    refine zw_aload ⟨rfl, rfl⟩ rfl ?_
    refine zw_iload ⟨rfl, rfl⟩ rfl ?_
    refine zw_ifeq ⟨rfl, rfl⟩ rfl (fun c3 => ?_) (fun c3 => ?_)
    · skip
      refine zw_const ⟨rfl, rfl⟩ ?_
      refine zw_aload ⟨rfl, rfl⟩ rfl ?_
      refine zw_getR 120 ⟨rfl, rfl⟩ zr_126_7 ?_
      refine zw_getR 121 ⟨rfl, rfl⟩ zr_120_10 ?_
      refine zw_iload ⟨rfl, rfl⟩ rfl ?_
      refine zw_ialdv (v := yP σ b k) ⟨rfl, rfl⟩ za_121 (by omega) ((hX.2.2.2.2 k (by omega) (by omega)).1) ?_
      refine zw_iload ⟨rfl, rfl⟩ rfl ?_
      refine zw_callv4 ⟨rfl, rfl⟩ rfl zc_126 rfl ?_
      refine m_putLetter hV hX.1 hD (Or.inr ⟨by omega, by omega⟩) (fun _ => hg) (fun N1 p1 => ?_)
      refine zw_ret rfl ?_
      have k2 := kk _ ⟨by unfold ydcn; rw [if_pos (by omega)]; rw [if_pos (by omega)]; exact p1.1, p1.2⟩
      rw [if_neg hpk1]
      exact k2
    · skip
      refine zw_const ⟨rfl, rfl⟩ ?_
      refine zw_goto ⟨rfl, rfl⟩ rfl ?_
      refine zw_aload ⟨rfl, rfl⟩ rfl ?_
      refine zw_getR 120 ⟨rfl, rfl⟩ zr_126_7 ?_
      refine zw_getR 121 ⟨rfl, rfl⟩ zr_120_10 ?_
      refine zw_iload ⟨rfl, rfl⟩ rfl ?_
      refine zw_ialdv (v := yP σ b k) ⟨rfl, rfl⟩ za_121 (by omega) ((hX.2.2.2.2 k (by omega) (by omega)).1) ?_
      refine zw_iload ⟨rfl, rfl⟩ rfl ?_
      refine zw_callv4 ⟨rfl, rfl⟩ rfl zc_126 rfl ?_
      refine m_putLetter hV hX.1 hD (Or.inr ⟨by omega, by omega⟩) (fun _ => hg) (fun N1 p1 => ?_)
      refine zw_ret rfl ?_
      have k2 := kk _ ⟨by unfold ydcn; rw [if_pos (by omega)]; rw [if_neg (by omega)]; exact p1.1, p1.2⟩
      rw [if_neg hpk1]
      exact k2
