/-! The model reads back -/
def yRm (M : zM) (R : yR) : Prop := M 208 33 = R.1 ∧ 0 ≤ R.1 ∧ ∀ k, 0 ≤ k → k < R.1 → M 235 k = R.2 k
def yrm (M N : zM) : Prop := (∀ x, x ≠ 208 → x ≠ 235 → N x = M x) ∧ ∀ j, j ≠ 33 → N 208 j = M 208 j
theorem yrm.rf {M : zM} : yrm M M := ⟨fun _ _ _ => rfl, fun _ _ => rfl⟩
theorem yrm.tr {M N P : zM} (h : yrm M N) (g : yrm N P) : yrm M P := ⟨fun x x1 x2 => (g.1 x x1 x2).trans (h.1 x x1 x2), fun j hj => (g.2 j hj).trans (h.2 j hj)⟩
theorem yrm.m {M N : zM} (h : yrm M N) : ymf M N := ⟨fun x hx => h.1 x (by omega) (by omega), fun j hj => h.2 j (by omega)⟩
theorem yLay.rb {M N : zM} {σ : yS} (h : yLay M σ) (g : yrm M N) : yLay N σ := by
  unfold yLay yCl
  rw [g.2 15 (by decide), g.2 31 (by decide), g.1 212 (by decide) (by decide), g.1 213 (by decide) (by decide), g.1 214 (by decide) (by decide), g.1 215 (by decide) (by decide), g.1 216 (by decide) (by decide), g.1 217 (by decide) (by decide), g.1 218 (by decide) (by decide), g.1 219 (by decide) (by decide), g.1 220 (by decide) (by decide), g.1 221 (by decide) (by decide), g.1 227 (by decide) (by decide), g.1 228 (by decide) (by decide), g.1 229 (by decide) (by decide), g.1 230 (by decide) (by decide), g.1 231 (by decide) (by decide), g.1 232 (by decide) (by decide), g.1 233 (by decide) (by decide), g.1 234 (by decide) (by decide)]
  exact h
theorem yrs_a {σ : yS} {kd p : Int} {R : yR} (h : yK σ p = kd) : yrs σ kd p R = yps R (yL σ p) := if_pos h
theorem yrs_n {σ : yS} {kd p : Int} {R : yR} (h : yK σ p ≠ kd) (g : yK σ p ≠ 9) : yrs σ kd p R = R := by unfold yrs; rw [if_neg h, if_neg g]
theorem yrs_9 {σ : yS} {kd p : Int} {R : yR} (h : yK σ p ≠ kd) (g : yK σ p = 9) : yrs σ kd p R = yrpt σ kd p 1 (yrpt σ kd p 0 R) := by unfold yrs; rw [if_neg h, if_pos g]
theorem yrpt_y {σ : yS} {kd p w : Int} {R : yR} (h : ykd σ (ypt σ (yL σ p) w) = kd) : yrpt σ kd p w R = yps R (ypt σ (yL σ p) w) := if_pos h
theorem yrpt_z {σ : yS} {kd p w : Int} {R : yR} (h : ykd σ (ypt σ (yL σ p) w) ≠ kd) : yrpt σ kd p w R = R := if_neg h

theorem m_Mreads {l : Int} {M : zM} {Q : zV → zM → Prop} {R : yR} (hR : yRm M R) (hg : R.1 < 120) (k : ∀ N : zM, (yRm N (yps R l) ∧ yrm M N) → Q (3, 0) N) : zWp kM_reads 0 [(1, 208), (0, l)] [] M Q := by
  have h0 := hR.2.1
  refine zw_aload ⟨rfl, rfl⟩ rfl ?_
  refine zw_getR 235 ⟨rfl, rfl⟩ zr_208_32 ?_
  refine zw_aload ⟨rfl, rfl⟩ rfl ?_
  refine zw_getIv (v := R.1) ⟨rfl, rfl⟩ zc_208 (by decide) (hR.1) ?_
  refine zw_iload ⟨rfl, rfl⟩ rfl ?_
  refine zw_iast ⟨rfl, rfl⟩ za_235 (by omega) ?_
  refine zw_aload ⟨rfl, rfl⟩ rfl ?_
  refine zw_dup ⟨rfl, rfl⟩ (by decide) ?_
  refine zw_getIv (v := R.1) ⟨rfl, rfl⟩ zc_208 (by decide) ((zup_na (by decide)).trans (hR.1)) ?_
  refine zw_const ⟨rfl, rfl⟩ ?_
  refine zw_iadd ⟨rfl, rfl⟩ (by omega) ?_
  refine zw_putI ⟨rfl, rfl⟩ zc_208 (by decide) (fun h => absurd h (by decide)) ?_
  refine zw_void rfl ?_
  refine k _ ⟨⟨zup_eq _ _ _ _, by show 0 ≤ R.1 + 1; omega, fun j q1 q2 => ?_⟩, fun x x1 x2 => by rw [zup_row x1, zup_row x2], fun j hj => by rw [zup_ni hj, zup_row (by decide)]⟩
  by_cases hj : j = R.1
  · subst hj; simp [zup, yps]
  · have := hR.2.2 j q1 (by have : j < R.1 + 1 := q2; omega)
    simp [zup, yps, hj]; exact this

theorem m_Mrsigns_l {kd b e : Int} {M : zM} {Q : zV → zM → Prop} {σ : yS} {R : yR} (hV : yVal σ) (hM : yMo M σ) (hR : yRm M R) (hkd : kd ≠ 9) (hbe : 0 ≤ b ∧ b ≤ e ∧ e ≤ σ 0) (hg : R.1 + ysm (ycs σ kd) b e ≤ 120) (kk : ∀ N : zM, (yRm N (yfo (yrs σ kd) b e R) ∧ yrm M N) → Q (3, 0) N) : ∀ (f0 : Nat) (p : Int) (u5 : zV) (N : zM), (b ≤ p ∧ p ≤ e) → (yRm N (yfo (yrs σ kd) b p R)) → (yrm M N) → (e - p).toNat < f0 → zWp kM_readsSigns 2 [(1, 208), (0, kd), (0, b), (0, e), (0, p), u5] [] N Q := by
  intro f0
  induction f0 with
  | zero => intro p u5 N i1 i2 i3 hf0; exact absurd hf0 (Nat.not_lt_zero _)
  | succ f0 ih =>
    intro p u5 N i1 i2 i3 hf0
    have hK := yKr_K hV
    have hn := hV.1
    have hM2 : yMo N σ := hM.cg (i3.1 209 (by decide) (by decide))
    refine zw_iload ⟨rfl, rfl⟩ rfl ?_
    refine zw_iload ⟨rfl, rfl⟩ rfl ?_
    refine zw_icge ⟨rfl, rfl⟩ rfl (fun c1 => ?_) (fun c1 => ?_)
    · skip
      refine zw_void rfl ?_
      have ee : p = e := by omega
      rw [ee] at i2
      exact kk _ ⟨i2, i3⟩
    · skip
      have hs1 := yfo_c (yrs_1 σ kd) R i1.1
      have hs2 := ysm_s (ycs σ kd) i1.1
      have hs3 := ysm_mo (ycs σ kd) (fun q => (ycs_r σ kd q).1) (show b ≤ p + 1 by omega) (show p + 1 ≤ e by omega)
      have hs4 : ycs σ kd p = _ := rfl
      conv at hs4 => rhs; unfold ycs
      have hl : 0 ≤ yL σ p ∧ yL σ p < 26 := by unfold yL; rw [if_pos (by omega)]; exact hV.2.2.2.2.2 p (by omega) (by omega)
      have hkk : σ (2 + yL σ p) = yK σ p := by unfold yL yK; rw [if_pos (by omega), if_pos (by omega)]
      have hx0 : 0 ≤ (if ykd σ (ypt σ (yL σ p) 0) = kd then (1 : Int) else 0) := by split <;> omega
      have hx1 : 0 ≤ (if ykd σ (ypt σ (yL σ p) 1) = kd then (1 : Int) else 0) := by split <;> omega
      refine zw_aload ⟨rfl, rfl⟩ rfl ?_
      refine zw_iload ⟨rfl, rfl⟩ rfl ?_
      refine zw_callv2 ⟨rfl, rfl⟩ rfl zc_208 rfl ?_
      refine m_MletterAt hV hM2 ⟨by omega, by omega⟩ ?_
      refine zw_istore_5 ⟨rfl, rfl⟩ ?_
      refine zw_aload ⟨rfl, rfl⟩ rfl ?_
      refine zw_iload ⟨rfl, rfl⟩ rfl ?_
      refine zw_callv2 ⟨rfl, rfl⟩ rfl zc_208 rfl ?_
      refine m_MkindOf hV hM2 (by omega) ?_
      refine zw_iload ⟨rfl, rfl⟩ rfl ?_
      refine zw_icne ⟨rfl, rfl⟩ rfl (fun c2 => ?_) (fun c2 => ?_)
      · skip
        refine zw_aload ⟨rfl, rfl⟩ rfl ?_
        refine zw_iload ⟨rfl, rfl⟩ rfl ?_
        refine zw_callv2 ⟨rfl, rfl⟩ rfl zc_208 rfl ?_
        refine m_MkindOf hV hM2 (by omega) ?_
        refine zw_const ⟨rfl, rfl⟩ ?_
        refine zw_iceq ⟨rfl, rfl⟩ rfl (fun c3 => ?_) (fun c3 => ?_)
        · skip
          have h9 : yK σ p = 9 := by omega
          have hpp := hV.2.2.2.1 (yL σ p) hl.1 hl.2 (hkk.trans h9)
          have hyk : ykd σ (yL σ p) = 9 := by unfold ykd; rw [if_pos hl]; omega
          have hp54 : σ (54 + yL σ p) = ypt σ (yL σ p) 0 := by unfold ypt; rw [if_pos hyk]; rfl
          have hp80 : σ (80 + yL σ p) = ypt σ (yL σ p) 1 := by unfold ypt; rw [if_pos hyk]; rfl
          have hk0 : σ (2 + ypt σ (yL σ p) 0) = ykd σ (ypt σ (yL σ p) 0) := by rw [← hp54]; unfold ykd; rw [if_pos (by omega)]
          have hk1 : σ (2 + ypt σ (yL σ p) 1) = ykd σ (ypt σ (yL σ p) 1) := by rw [← hp80]; unfold ykd; rw [if_pos (by omega)]
          refine zw_aload ⟨rfl, rfl⟩ rfl ?_
          refine zw_aload ⟨rfl, rfl⟩ rfl ?_
          refine zw_getR 209 ⟨rfl, rfl⟩ zr_208_1 ?_
          refine zw_const ⟨rfl, rfl⟩ ?_
          refine zw_iload ⟨rfl, rfl⟩ rfl ?_
          refine zw_iadd ⟨rfl, rfl⟩ (by omega) ?_
          refine zw_ialdv (v := ypt σ (yL σ p) 0) ⟨rfl, rfl⟩ za_209 (by omega) (((hM2 (54 + yL σ p) (by omega) (by omega)).trans hp54)) ?_
          refine zw_callv2 ⟨rfl, rfl⟩ rfl zc_208 rfl ?_
          refine m_MkindOf hV hM2 (by omega) ?_
          refine zw_iload ⟨rfl, rfl⟩ rfl ?_
          refine zw_icne ⟨rfl, rfl⟩ rfl (fun c4 => ?_) (fun c4 => ?_)
          · skip
            refine zw_aload ⟨rfl, rfl⟩ rfl ?_
            refine zw_aload ⟨rfl, rfl⟩ rfl ?_
            refine zw_getR 209 ⟨rfl, rfl⟩ zr_208_1 ?_
            refine zw_const ⟨rfl, rfl⟩ ?_
            refine zw_iload ⟨rfl, rfl⟩ rfl ?_
            refine zw_iadd ⟨rfl, rfl⟩ (by omega) ?_
            refine zw_ialdv (v := ypt σ (yL σ p) 1) ⟨rfl, rfl⟩ za_209 (by omega) (((hM2 (80 + yL σ p) (by omega) (by omega)).trans hp80)) ?_
            refine zw_callv2 ⟨rfl, rfl⟩ rfl zc_208 rfl ?_
            refine m_MkindOf hV hM2 (by omega) ?_
            refine zw_iload ⟨rfl, rfl⟩ rfl ?_
            refine zw_icne ⟨rfl, rfl⟩ rfl (fun c5 => ?_) (fun c5 => ?_)
            · skip
              refine zw_iinc_4 ⟨rfl, rfl⟩ (by omega) ?_
              refine zw_goto ⟨rfl, rfl⟩ rfl ?_
              refine ih _ _ _ ⟨by omega, by omega⟩ ?_ i3 (by omega)
              rw [yfo_s _ i1.1]
              first | (rw [yrs_n (by omega) (by omega)]; exact i2) | (rw [yrs_9 (by omega) (by omega), yrpt_z (w := 0) (by omega), yrpt_z (w := 1) (by omega)]; exact i2)
            · skip
              refine zw_aload ⟨rfl, rfl⟩ rfl ?_
              refine zw_aload ⟨rfl, rfl⟩ rfl ?_
              refine zw_getR 209 ⟨rfl, rfl⟩ zr_208_1 ?_
              refine zw_const ⟨rfl, rfl⟩ ?_
              refine zw_iload ⟨rfl, rfl⟩ rfl ?_
              refine zw_iadd ⟨rfl, rfl⟩ (by omega) ?_
              refine zw_ialdv (v := ypt σ (yL σ p) 1) ⟨rfl, rfl⟩ za_209 (by omega) (((hM2 (80 + yL σ p) (by omega) (by omega)).trans hp80)) ?_
              refine zw_cavv2 ⟨rfl, rfl⟩ rfl zc_208 rfl ?_
              refine m_Mreads i2 (by (repeat' split at hs4) <;> omega) (fun N1 p1 => ?_)
              refine zw_iinc_4 ⟨rfl, rfl⟩ (by omega) ?_
              refine zw_goto ⟨rfl, rfl⟩ rfl ?_
              refine ih _ _ _ ⟨by omega, by omega⟩ ?_ (i3.tr p1.2) (by omega)
              rw [yfo_s _ i1.1]
              first | (rw [yrs_a (by omega)]; exact p1.1) | (rw [yrs_9 (by omega) (by omega), yrpt_y (w := 0) (by omega), yrpt_z (w := 1) (by omega)]; exact p1.1) | (rw [yrs_9 (by omega) (by omega), yrpt_z (w := 0) (by omega), yrpt_y (w := 1) (by omega)]; exact p1.1)
          · skip
            refine zw_aload ⟨rfl, rfl⟩ rfl ?_
            refine zw_aload ⟨rfl, rfl⟩ rfl ?_
            refine zw_getR 209 ⟨rfl, rfl⟩ zr_208_1 ?_
            refine zw_const ⟨rfl, rfl⟩ ?_
            refine zw_iload ⟨rfl, rfl⟩ rfl ?_
            refine zw_iadd ⟨rfl, rfl⟩ (by omega) ?_
            refine zw_ialdv (v := ypt σ (yL σ p) 0) ⟨rfl, rfl⟩ za_209 (by omega) (((hM2 (54 + yL σ p) (by omega) (by omega)).trans hp54)) ?_
            refine zw_cavv2 ⟨rfl, rfl⟩ rfl zc_208 rfl ?_
            refine m_Mreads i2 (by (repeat' split at hs4) <;> omega) (fun N1 p1 => ?_)
            refine zw_aload ⟨rfl, rfl⟩ rfl ?_
            refine zw_aload ⟨rfl, rfl⟩ rfl ?_
            refine zw_getR 209 ⟨rfl, rfl⟩ zr_208_1 ?_
            refine zw_const ⟨rfl, rfl⟩ ?_
            refine zw_iload ⟨rfl, rfl⟩ rfl ?_
            refine zw_iadd ⟨rfl, rfl⟩ (by omega) ?_
            refine zw_ialdv (v := ypt σ (yL σ p) 1) ⟨rfl, rfl⟩ za_209 (by omega) ((((hM2.cg (p1.2.1 209 (by decide) (by decide))) (80 + yL σ p) (by omega) (by omega)).trans hp80)) ?_
            refine zw_callv2 ⟨rfl, rfl⟩ rfl zc_208 rfl ?_
            refine m_MkindOf hV (hM2.cg (p1.2.1 209 (by decide) (by decide))) (by omega) ?_
            refine zw_iload ⟨rfl, rfl⟩ rfl ?_
            refine zw_icne ⟨rfl, rfl⟩ rfl (fun c6 => ?_) (fun c6 => ?_)
            · skip
              refine zw_iinc_4 ⟨rfl, rfl⟩ (by omega) ?_
              refine zw_goto ⟨rfl, rfl⟩ rfl ?_
              refine ih _ _ _ ⟨by omega, by omega⟩ ?_ (i3.tr p1.2) (by omega)
              rw [yfo_s _ i1.1]
              first | (rw [yrs_a (by omega)]; exact p1.1) | (rw [yrs_9 (by omega) (by omega), yrpt_y (w := 0) (by omega), yrpt_z (w := 1) (by omega)]; exact p1.1) | (rw [yrs_9 (by omega) (by omega), yrpt_z (w := 0) (by omega), yrpt_y (w := 1) (by omega)]; exact p1.1)
            · skip
              refine zw_aload ⟨rfl, rfl⟩ rfl ?_
              refine zw_aload ⟨rfl, rfl⟩ rfl ?_
              refine zw_getR 209 ⟨rfl, rfl⟩ zr_208_1 ?_
              refine zw_const ⟨rfl, rfl⟩ ?_
              refine zw_iload ⟨rfl, rfl⟩ rfl ?_
              refine zw_iadd ⟨rfl, rfl⟩ (by omega) ?_
              refine zw_ialdv (v := ypt σ (yL σ p) 1) ⟨rfl, rfl⟩ za_209 (by omega) ((((hM2.cg (p1.2.1 209 (by decide) (by decide))) (80 + yL σ p) (by omega) (by omega)).trans hp80)) ?_
              refine zw_cavv2 ⟨rfl, rfl⟩ rfl zc_208 rfl ?_
              refine m_Mreads p1.1 (by (try simp only [yps]); (repeat' split at hs4) <;> omega) (fun N2 p2 => ?_)
              refine zw_iinc_4 ⟨rfl, rfl⟩ (by omega) ?_
              refine zw_goto ⟨rfl, rfl⟩ rfl ?_
              refine ih _ _ _ ⟨by omega, by omega⟩ ?_ ((i3.tr p1.2).tr p2.2) (by omega)
              rw [yfo_s _ i1.1]
              first | (rw [yrs_9 (by omega) (by omega), yrpt_y (w := 0) (by omega), yrpt_y (w := 1) (by omega)]; exact p2.1)
        · skip
          refine zw_goto ⟨rfl, rfl⟩ rfl ?_
          refine zw_iinc_4 ⟨rfl, rfl⟩ (by omega) ?_
          refine zw_goto ⟨rfl, rfl⟩ rfl ?_
          refine ih _ _ _ ⟨by omega, by omega⟩ ?_ i3 (by omega)
          rw [yfo_s _ i1.1]
          first | (rw [yrs_n (by omega) (by omega)]; exact i2) | (rw [yrs_9 (by omega) (by omega), yrpt_z (w := 0) (by omega), yrpt_z (w := 1) (by omega)]; exact i2)
      · skip
        refine zw_aload ⟨rfl, rfl⟩ rfl ?_
        refine zw_iload ⟨rfl, rfl⟩ rfl ?_
        refine zw_cavv2 ⟨rfl, rfl⟩ rfl zc_208 rfl ?_
        refine m_Mreads i2 (by (repeat' split at hs4) <;> omega) (fun N1 p1 => ?_)
        refine zw_aload ⟨rfl, rfl⟩ rfl ?_
        refine zw_iload ⟨rfl, rfl⟩ rfl ?_
        refine zw_callv2 ⟨rfl, rfl⟩ rfl zc_208 rfl ?_
        refine m_MkindOf hV (hM2.cg (p1.2.1 209 (by decide) (by decide))) (by omega) ?_
        refine zw_const ⟨rfl, rfl⟩ ?_
        refine zw_iceq ⟨rfl, rfl⟩ rfl (fun q => absurd q (by omega)) (fun _ => ?_)
        refine zw_goto ⟨rfl, rfl⟩ rfl ?_
        refine zw_iinc_4 ⟨rfl, rfl⟩ (by omega) ?_
        refine zw_goto ⟨rfl, rfl⟩ rfl ?_
        refine ih _ _ _ ⟨by omega, by omega⟩ ?_ (i3.tr p1.2) (by omega)
        rw [yfo_s _ i1.1]
        first | (rw [yrs_a (by omega)]; exact p1.1) | (rw [yrs_9 (by omega) (by omega), yrpt_y (w := 0) (by omega), yrpt_z (w := 1) (by omega)]; exact p1.1) | (rw [yrs_9 (by omega) (by omega), yrpt_z (w := 0) (by omega), yrpt_y (w := 1) (by omega)]; exact p1.1)

theorem m_Mrsigns {kd b e : Int} {M : zM} {Q : zV → zM → Prop} {σ : yS} {R : yR} (hV : yVal σ) (hM : yMo M σ) (hR : yRm M R) (hkd : kd ≠ 9) (hbe : 0 ≤ b ∧ b ≤ e ∧ e ≤ σ 0) (hg : R.1 + ysm (ycs σ kd) b e ≤ 120) (kk : ∀ N : zM, (yRm N (yfo (yrs σ kd) b e R) ∧ yrm M N) → Q (3, 0) N) : zWp kM_readsSigns 0 [(1, 208), (0, kd), (0, b), (0, e), (3, 0), (3, 0)] [] M Q := by
  refine zw_iload ⟨rfl, rfl⟩ rfl ?_
  refine zw_istore_4 ⟨rfl, rfl⟩ ?_
  exact m_Mrsigns_l hV hM hR hkd hbe hg kk _ _ _ _ ⟨Int.le_refl _, hbe.2.1⟩ (by rw [yfo_0 _ (Int.le_refl _)]; exact hR) yrm.rf (Nat.lt_succ_self _)

theorem m_Mrb_a {c : Int} {M : zM} {Q : zV → zM → Prop} {σ : yS} {R : yR} (hV : yVal σ) (hM : yMo M σ) (hG : yLay M σ) (hc : 0 ≤ c ∧ c < (yci (yK σ) (σ 0))) (hg : R.1 + ysm (yc0 σ) (yB (yK σ) c) (yB (yK σ) (c + 1)) ≤ 120) (kk : ∀ N : zM, (yRm N (yfo (yr0 σ) (yB (yK σ) c) (yB (yK σ) (c + 1)) R) ∧ yrm M N) → zWp kM_readsBack 46 [(1, 208), (0, c), (0, (yB (yK σ) (c + 1)))] [] N Q) : ∀ (f0 : Nat) (p : Int) (N : zM), ((yB (yK σ) c) ≤ p ∧ p ≤ (yB (yK σ) (c + 1))) → (yRm N (yfo (yr0 σ) (yB (yK σ) c) p R)) → (yrm M N) → ((yB (yK σ) (c + 1)) - p).toNat < f0 → zWp kM_readsBack 16 [(1, 208), (0, c), (0, p)] [] N Q := by
  intro f0
  induction f0 with
  | zero => intro p N i1 i2 i3 hf0; exact absurd hf0 (Nat.not_lt_zero _)
  | succ f0 ih =>
    intro p N i1 i2 i3 hf0
    have hK := yKr_K hV
    have hn := hV.1
    have hci := yci_60 hK
    obtain ⟨⟨a1, a2, a3⟩, -⟩ := yB_cl hK hc.1 hc.2
    have hM2 : yMo N σ := hM.cg (i3.1 209 (by decide) (by decide))
    have hs1 := yfo_c (yr0_1 σ) R i1.1
    have hs3 := ysm_mo (yc0 σ) (yc0_r σ) i1.1 i1.2
    refine zw_iload ⟨rfl, rfl⟩ rfl ?_
    refine zw_aload ⟨rfl, rfl⟩ rfl ?_
    refine zw_getR 212 ⟨rfl, rfl⟩ zr_208_5 ?_
    refine zw_iload ⟨rfl, rfl⟩ rfl ?_
    refine zw_const ⟨rfl, rfl⟩ ?_
    refine zw_iadd ⟨rfl, rfl⟩ (by omega) ?_
    refine zw_ialdv (v := yB (yK σ) ((c + 1))) ⟨rfl, rfl⟩ za_212 (by omega) ((by rw [i3.1 212 (by decide) (by decide)]; exact (hG.2.2.1 ((c + 1)) (by omega) (by omega)).1)) ?_
    refine zw_icge ⟨rfl, rfl⟩ rfl (fun c1 => ?_) (fun c1 => ?_)
    · skip
      have ee : p = (yB (yK σ) (c + 1)) := by omega
      rw [ee] at i2 ⊢
      exact kk _ ⟨i2, i3⟩
    · skip
      refine zw_aload ⟨rfl, rfl⟩ rfl ?_
      have hs2 := ysm_s (yc0 σ) i1.1
      have hs4 := ysm_mo (yc0 σ) (yc0_r σ) (show (yB (yK σ) c) ≤ p + 1 by omega) (show p + 1 ≤ (yB (yK σ) (c + 1)) by omega)
      refine zw_iload ⟨rfl, rfl⟩ rfl ?_
      refine zw_callv2 ⟨rfl, rfl⟩ rfl zc_208 rfl ?_
      refine m_MkindAt hV hM2 (by omega) ?_
      refine zw_calls1 ⟨rfl, rfl⟩ rfl rfl ?_
      refine zw_iload ⟨rfl, rfl⟩ rfl ?_
      refine zw_i2l ⟨rfl, rfl⟩ ?_
      refine zw_lconst ⟨rfl, rfl⟩ ?_
      refine zw_lconst ⟨rfl, rfl⟩ ?_
      refine zw_calLs3 ⟨rfl, rfl⟩ rfl rfl ?_
      refine zw_lload ⟨rfl, rfl⟩ rfl ?_
      refine zw_lload ⟨rfl, rfl⟩ rfl ?_
      refine zw_lcmp ⟨rfl, rfl⟩ ?_
      refine zw_iflt ⟨rfl, rfl⟩ rfl (fun c2 => ?_) (fun c2 => ?_)
      · replace c2 := zlc_lt.mp c2
        refine zw_const ⟨rfl, rfl⟩ ?_
        refine zw_zret rfl (by first | exact Or.inl rfl | exact Or.inr rfl | omega) ?_
        refine zw_zret rfl (by first | exact Or.inl rfl | exact Or.inr rfl | omega) ?_
        refine zw_ifne ⟨rfl, rfl⟩ rfl (fun q => absurd q (by decide)) (fun _ => ?_)
        refine zw_aload ⟨rfl, rfl⟩ rfl ?_
        refine zw_iload ⟨rfl, rfl⟩ rfl ?_
        refine zw_callv2 ⟨rfl, rfl⟩ rfl zc_208 rfl ?_
        refine m_MkindAt hV hM2 (by omega) ?_
        refine zw_const ⟨rfl, rfl⟩ ?_
        refine zw_iceq ⟨rfl, rfl⟩ rfl (fun c4 => ?_) (fun c4 => ?_)
        · skip
          refine zw_iinc_2 ⟨rfl, rfl⟩ (by omega) ?_
          refine zw_goto ⟨rfl, rfl⟩ rfl ?_
          refine ih _ _ ⟨by omega, by omega⟩ ?_ i3 (by omega)
          rw [yfo_s _ i1.1]
          unfold yr0
          rw [if_neg (fun z => by have z1 := z.1; have z2 := z.2; omega)]
          exact i2
        · skip
          refine zw_aload ⟨rfl, rfl⟩ rfl ?_
          refine zw_iload ⟨rfl, rfl⟩ rfl ?_
          refine zw_callv2 ⟨rfl, rfl⟩ rfl zc_208 rfl ?_
          refine m_MkindAt hV hM2 (by omega) ?_
          refine zw_const ⟨rfl, rfl⟩ ?_
          refine zw_iceq ⟨rfl, rfl⟩ rfl (fun c5 => ?_) (fun c5 => ?_)
          · skip
            refine zw_iinc_2 ⟨rfl, rfl⟩ (by omega) ?_
            refine zw_goto ⟨rfl, rfl⟩ rfl ?_
            refine ih _ _ ⟨by omega, by omega⟩ ?_ i3 (by omega)
            rw [yfo_s _ i1.1]
            unfold yr0
            rw [if_neg (fun z => by have z1 := z.1; have z2 := z.2; omega)]
            exact i2
          · skip
            have hs6 : yc0 σ p = 1 := if_pos ⟨fun z => by omega, fun z => by omega⟩
            refine zw_aload ⟨rfl, rfl⟩ rfl ?_
            refine zw_aload ⟨rfl, rfl⟩ rfl ?_
            refine zw_iload ⟨rfl, rfl⟩ rfl ?_
            refine zw_callv2 ⟨rfl, rfl⟩ rfl zc_208 rfl ?_
            refine m_MletterAt hV hM2 ⟨by omega, by omega⟩ ?_
            refine zw_cavv2 ⟨rfl, rfl⟩ rfl zc_208 rfl ?_
            refine m_Mreads i2 (by omega) (fun N1 p1 => ?_)
            refine zw_iinc_2 ⟨rfl, rfl⟩ (by omega) ?_
            refine zw_goto ⟨rfl, rfl⟩ rfl ?_
            refine ih _ _ ⟨by omega, by omega⟩ ?_ (i3.tr p1.2) (by omega)
            rw [yfo_s _ i1.1]
            unfold yr0
            rw [if_pos ⟨fun z => by omega, fun z => by omega⟩]
            exact p1.1
      · replace c2 := (not_congr zlc_lt).mp c2
        refine zw_lload ⟨rfl, rfl⟩ rfl ?_
        refine zw_lload ⟨rfl, rfl⟩ rfl ?_
        refine zw_lcmp ⟨rfl, rfl⟩ ?_
        refine zw_ifgt ⟨rfl, rfl⟩ rfl (fun c6 => ?_) (fun c6 => ?_)
        · replace c6 := zlc_gt.mp c6
          refine zw_const ⟨rfl, rfl⟩ ?_
          refine zw_zret rfl (by first | exact Or.inl rfl | exact Or.inr rfl | omega) ?_
          refine zw_zret rfl (by first | exact Or.inl rfl | exact Or.inr rfl | omega) ?_
          refine zw_ifne ⟨rfl, rfl⟩ rfl (fun q => absurd q (by decide)) (fun _ => ?_)
          refine zw_aload ⟨rfl, rfl⟩ rfl ?_
          refine zw_iload ⟨rfl, rfl⟩ rfl ?_
          refine zw_callv2 ⟨rfl, rfl⟩ rfl zc_208 rfl ?_
          refine m_MkindAt hV hM2 (by omega) ?_
          refine zw_const ⟨rfl, rfl⟩ ?_
          refine zw_iceq ⟨rfl, rfl⟩ rfl (fun c8 => ?_) (fun c8 => ?_)
          · skip
            refine zw_iinc_2 ⟨rfl, rfl⟩ (by omega) ?_
            refine zw_goto ⟨rfl, rfl⟩ rfl ?_
            refine ih _ _ ⟨by omega, by omega⟩ ?_ i3 (by omega)
            rw [yfo_s _ i1.1]
            unfold yr0
            rw [if_neg (fun z => by have z1 := z.1; have z2 := z.2; omega)]
            exact i2
          · skip
            refine zw_aload ⟨rfl, rfl⟩ rfl ?_
            refine zw_iload ⟨rfl, rfl⟩ rfl ?_
            refine zw_callv2 ⟨rfl, rfl⟩ rfl zc_208 rfl ?_
            refine m_MkindAt hV hM2 (by omega) ?_
            refine zw_const ⟨rfl, rfl⟩ ?_
            refine zw_iceq ⟨rfl, rfl⟩ rfl (fun c9 => ?_) (fun c9 => ?_)
            · skip
              refine zw_iinc_2 ⟨rfl, rfl⟩ (by omega) ?_
              refine zw_goto ⟨rfl, rfl⟩ rfl ?_
              refine ih _ _ ⟨by omega, by omega⟩ ?_ i3 (by omega)
              rw [yfo_s _ i1.1]
              unfold yr0
              rw [if_neg (fun z => by have z1 := z.1; have z2 := z.2; omega)]
              exact i2
            · skip
              have hs6 : yc0 σ p = 1 := if_pos ⟨fun z => by omega, fun z => by omega⟩
              refine zw_aload ⟨rfl, rfl⟩ rfl ?_
              refine zw_aload ⟨rfl, rfl⟩ rfl ?_
              refine zw_iload ⟨rfl, rfl⟩ rfl ?_
              refine zw_callv2 ⟨rfl, rfl⟩ rfl zc_208 rfl ?_
              refine m_MletterAt hV hM2 ⟨by omega, by omega⟩ ?_
              refine zw_cavv2 ⟨rfl, rfl⟩ rfl zc_208 rfl ?_
              refine m_Mreads i2 (by omega) (fun N1 p1 => ?_)
              refine zw_iinc_2 ⟨rfl, rfl⟩ (by omega) ?_
              refine zw_goto ⟨rfl, rfl⟩ rfl ?_
              refine ih _ _ ⟨by omega, by omega⟩ ?_ (i3.tr p1.2) (by omega)
              rw [yfo_s _ i1.1]
              unfold yr0
              rw [if_pos ⟨fun z => by omega, fun z => by omega⟩]
              exact p1.1
        · replace c6 := (not_congr zlc_gt).mp c6
          refine zw_const ⟨rfl, rfl⟩ ?_
          refine zw_goto ⟨rfl, rfl⟩ rfl ?_
          refine zw_zret rfl (by first | exact Or.inl rfl | exact Or.inr rfl | omega) ?_
          refine zw_zret rfl (by first | exact Or.inl rfl | exact Or.inr rfl | omega) ?_
          refine zw_ifne ⟨rfl, rfl⟩ rfl (fun _ => ?_) (fun q => absurd (by decide) q)
          refine zw_iinc_2 ⟨rfl, rfl⟩ (by omega) ?_
          refine zw_goto ⟨rfl, rfl⟩ rfl ?_
          refine ih _ _ ⟨by omega, by omega⟩ ?_ i3 (by omega)
          rw [yfo_s _ i1.1]
          unfold yr0
          rw [if_neg (fun z => by have z1 := z.1; have z2 := z.2; omega)]
          exact i2

theorem m_Mrb_b {c : Int} {M : zM} {Q : zV → zM → Prop} {σ : yS} {R : yR} (hV : yVal σ) (hM : yMo M σ) (hG : yLay M σ) (hc : 0 ≤ c ∧ c < (yci (yK σ) (σ 0))) (hg : R.1 + ysm (ycm σ 10) (yB (yK σ) c) (yB (yK σ) (c + 1)) ≤ 120) (kk : ∀ N : zM, (yRm N (yfo (yrk σ 10) (yB (yK σ) c) (yB (yK σ) (c + 1)) R) ∧ yrm M N) → zWp kM_readsBack 91 [(1, 208), (0, c), (0, (yB (yK σ) (c + 1)))] [] N Q) : ∀ (f0 : Nat) (p : Int) (N : zM), ((yB (yK σ) c) ≤ p ∧ p ≤ (yB (yK σ) (c + 1))) → (yRm N (yfo (yrk σ 10) (yB (yK σ) c) p R)) → (yrm M N) → ((yB (yK σ) (c + 1)) - p).toNat < f0 → zWp kM_readsBack 71 [(1, 208), (0, c), (0, p)] [] N Q := by
  intro f0
  induction f0 with
  | zero => intro p N i1 i2 i3 hf0; exact absurd hf0 (Nat.not_lt_zero _)
  | succ f0 ih =>
    intro p N i1 i2 i3 hf0
    have hK := yKr_K hV
    have hn := hV.1
    have hci := yci_60 hK
    obtain ⟨⟨a1, a2, a3⟩, -⟩ := yB_cl hK hc.1 hc.2
    have hM2 : yMo N σ := hM.cg (i3.1 209 (by decide) (by decide))
    have hs1 := yfo_c (yrk_1 σ 10) R i1.1
    have hs3 := ysm_mo (ycm σ 10) (fun q => (ycm_r σ 10 q).1) i1.1 i1.2
    refine zw_iload ⟨rfl, rfl⟩ rfl ?_
    refine zw_aload ⟨rfl, rfl⟩ rfl ?_
    refine zw_getR 212 ⟨rfl, rfl⟩ zr_208_5 ?_
    refine zw_iload ⟨rfl, rfl⟩ rfl ?_
    refine zw_const ⟨rfl, rfl⟩ ?_
    refine zw_iadd ⟨rfl, rfl⟩ (by omega) ?_
    refine zw_ialdv (v := yB (yK σ) ((c + 1))) ⟨rfl, rfl⟩ za_212 (by omega) ((by rw [i3.1 212 (by decide) (by decide)]; exact (hG.2.2.1 ((c + 1)) (by omega) (by omega)).1)) ?_
    refine zw_icge ⟨rfl, rfl⟩ rfl (fun c1 => ?_) (fun c1 => ?_)
    · skip
      have ee : p = (yB (yK σ) (c + 1)) := by omega
      rw [ee] at i2 ⊢
      exact kk _ ⟨i2, i3⟩
    · skip
      have hs2 := ysm_s (ycm σ 10) i1.1
      have hs4 := ysm_mo (ycm σ 10) (fun q => (ycm_r σ 10 q).1) (show (yB (yK σ) c) ≤ p + 1 by omega) (show p + 1 ≤ (yB (yK σ) (c + 1)) by omega)
      refine zw_aload ⟨rfl, rfl⟩ rfl ?_
      refine zw_iload ⟨rfl, rfl⟩ rfl ?_
      refine zw_callv2 ⟨rfl, rfl⟩ rfl zc_208 rfl ?_
      refine m_MkindAt hV hM2 (by omega) ?_
      refine zw_const ⟨rfl, rfl⟩ ?_
      refine zw_icne ⟨rfl, rfl⟩ rfl (fun c2 => ?_) (fun c2 => ?_)
      · skip
        refine zw_iinc_2 ⟨rfl, rfl⟩ (by omega) ?_
        refine zw_goto ⟨rfl, rfl⟩ rfl ?_
        refine ih _ _ ⟨by omega, by omega⟩ ?_ i3 (by omega)
        rw [yfo_s _ i1.1]
        unfold yrk
        rw [if_neg (by omega)]
        exact i2
      · skip
        have hs6 : ycm σ 10 p = 1 := if_pos (by omega)
        refine zw_aload ⟨rfl, rfl⟩ rfl ?_
        refine zw_aload ⟨rfl, rfl⟩ rfl ?_
        refine zw_iload ⟨rfl, rfl⟩ rfl ?_
        refine zw_callv2 ⟨rfl, rfl⟩ rfl zc_208 rfl ?_
        refine m_MletterAt hV hM2 ⟨by omega, by omega⟩ ?_
        refine zw_cavv2 ⟨rfl, rfl⟩ rfl zc_208 rfl ?_
        refine m_Mreads i2 (by omega) (fun N1 p1 => ?_)
        refine zw_iinc_2 ⟨rfl, rfl⟩ (by omega) ?_
        refine zw_goto ⟨rfl, rfl⟩ rfl ?_
        refine ih _ _ ⟨by omega, by omega⟩ ?_ (i3.tr p1.2) (by omega)
        rw [yfo_s _ i1.1]
        unfold yrk
        rw [if_pos (by omega)]
        exact p1.1

theorem m_Mrb_c {c : Int} {M : zM} {Q : zV → zM → Prop} {σ : yS} {R : yR} (hV : yVal σ) (hM : yMo M σ) (hG : yLay M σ) (hc : 0 ≤ c ∧ c < (yci (yK σ) (σ 0))) (hg : R.1 + ysm (ycm σ 11) (yB (yK σ) c) (yB (yK σ) (c + 1)) ≤ 120) (kk : ∀ N : zM, (yRm N (yfo (yrk σ 11) (yB (yK σ) c) (yB (yK σ) (c + 1)) R) ∧ yrm M N) → zWp kM_readsBack 116 [(1, 208), (0, c), (0, (yB (yK σ) (c + 1)))] [] N Q) : ∀ (f0 : Nat) (p : Int) (N : zM), ((yB (yK σ) c) ≤ p ∧ p ≤ (yB (yK σ) (c + 1))) → (yRm N (yfo (yrk σ 11) (yB (yK σ) c) p R)) → (yrm M N) → ((yB (yK σ) (c + 1)) - p).toNat < f0 → zWp kM_readsBack 96 [(1, 208), (0, c), (0, p)] [] N Q := by
  intro f0
  induction f0 with
  | zero => intro p N i1 i2 i3 hf0; exact absurd hf0 (Nat.not_lt_zero _)
  | succ f0 ih =>
    intro p N i1 i2 i3 hf0
    have hK := yKr_K hV
    have hn := hV.1
    have hci := yci_60 hK
    obtain ⟨⟨a1, a2, a3⟩, -⟩ := yB_cl hK hc.1 hc.2
    have hM2 : yMo N σ := hM.cg (i3.1 209 (by decide) (by decide))
    have hs1 := yfo_c (yrk_1 σ 11) R i1.1
    have hs3 := ysm_mo (ycm σ 11) (fun q => (ycm_r σ 11 q).1) i1.1 i1.2
    refine zw_iload ⟨rfl, rfl⟩ rfl ?_
    refine zw_aload ⟨rfl, rfl⟩ rfl ?_
    refine zw_getR 212 ⟨rfl, rfl⟩ zr_208_5 ?_
    refine zw_iload ⟨rfl, rfl⟩ rfl ?_
    refine zw_const ⟨rfl, rfl⟩ ?_
    refine zw_iadd ⟨rfl, rfl⟩ (by omega) ?_
    refine zw_ialdv (v := yB (yK σ) ((c + 1))) ⟨rfl, rfl⟩ za_212 (by omega) ((by rw [i3.1 212 (by decide) (by decide)]; exact (hG.2.2.1 ((c + 1)) (by omega) (by omega)).1)) ?_
    refine zw_icge ⟨rfl, rfl⟩ rfl (fun c1 => ?_) (fun c1 => ?_)
    · skip
      have ee : p = (yB (yK σ) (c + 1)) := by omega
      rw [ee] at i2 ⊢
      exact kk _ ⟨i2, i3⟩
    · skip
      have hs2 := ysm_s (ycm σ 11) i1.1
      have hs4 := ysm_mo (ycm σ 11) (fun q => (ycm_r σ 11 q).1) (show (yB (yK σ) c) ≤ p + 1 by omega) (show p + 1 ≤ (yB (yK σ) (c + 1)) by omega)
      refine zw_aload ⟨rfl, rfl⟩ rfl ?_
      refine zw_iload ⟨rfl, rfl⟩ rfl ?_
      refine zw_callv2 ⟨rfl, rfl⟩ rfl zc_208 rfl ?_
      refine m_MkindAt hV hM2 (by omega) ?_
      refine zw_const ⟨rfl, rfl⟩ ?_
      refine zw_icne ⟨rfl, rfl⟩ rfl (fun c2 => ?_) (fun c2 => ?_)
      · skip
        refine zw_iinc_2 ⟨rfl, rfl⟩ (by omega) ?_
        refine zw_goto ⟨rfl, rfl⟩ rfl ?_
        refine ih _ _ ⟨by omega, by omega⟩ ?_ i3 (by omega)
        rw [yfo_s _ i1.1]
        unfold yrk
        rw [if_neg (by omega)]
        exact i2
      · skip
        have hs6 : ycm σ 11 p = 1 := if_pos (by omega)
        refine zw_aload ⟨rfl, rfl⟩ rfl ?_
        refine zw_aload ⟨rfl, rfl⟩ rfl ?_
        refine zw_iload ⟨rfl, rfl⟩ rfl ?_
        refine zw_callv2 ⟨rfl, rfl⟩ rfl zc_208 rfl ?_
        refine m_MletterAt hV hM2 ⟨by omega, by omega⟩ ?_
        refine zw_cavv2 ⟨rfl, rfl⟩ rfl zc_208 rfl ?_
        refine m_Mreads i2 (by omega) (fun N1 p1 => ?_)
        refine zw_iinc_2 ⟨rfl, rfl⟩ (by omega) ?_
        refine zw_goto ⟨rfl, rfl⟩ rfl ?_
        refine ih _ _ ⟨by omega, by omega⟩ ?_ (i3.tr p1.2) (by omega)
        rw [yfo_s _ i1.1]
        unfold yrk
        rw [if_pos (by omega)]
        exact p1.1

theorem m_Mrb_s3 {c : Int} {M : zM} {Q : zV → zM → Prop} {σ : yS} {R : yR} (hV : yVal σ) (hM : yMo M σ) (hG : yLay M σ) (hc : 0 ≤ c ∧ c < (yci (yK σ) (σ 0))) (hR : yRm M R) (hg : R.1 + ysm (ycm σ 11) (yB (yK σ) c) (yB (yK σ) (c + 1)) ≤ 120) (kk : ∀ N : zM, (yRm N (yfo (yrk σ 11) (yB (yK σ) c) (yB (yK σ) (c + 1)) R) ∧ yrm M N) → zWp kM_readsBack 116 [(1, 208), (0, c), (0, (yB (yK σ) (c + 1)))] [] N Q) : zWp kM_readsBack 91 [(1, 208), (0, c), (0, (yB (yK σ) (c + 1)))] [] M Q := by
  have hK := yKr_K hV
  have hn := hV.1
  have hci := yci_60 hK
  obtain ⟨⟨a1, a2, a3⟩, -⟩ := yB_cl hK hc.1 hc.2
  refine zw_aload ⟨rfl, rfl⟩ rfl ?_
  refine zw_getR 212 ⟨rfl, rfl⟩ zr_208_5 ?_
  refine zw_iload ⟨rfl, rfl⟩ rfl ?_
  refine zw_ialdv (v := yB (yK σ) (c)) ⟨rfl, rfl⟩ za_212 (by omega) ((by rw [(yrm.rf (M := M)).1 212 (by decide) (by decide)]; exact (hG.2.2.1 (c) (by omega) (by omega)).1)) ?_
  refine zw_istore_2 ⟨rfl, rfl⟩ ?_
  exact m_Mrb_c hV hM hG hc hg kk _ _ _ ⟨Int.le_refl _, by omega⟩ (by rw [yfo_0 _ (Int.le_refl _)]; exact hR) yrm.rf (Nat.lt_succ_self _)

theorem m_Mrb_s2 {c : Int} {M : zM} {Q : zV → zM → Prop} {σ : yS} {R : yR} (hV : yVal σ) (hM : yMo M σ) (hG : yLay M σ) (hc : 0 ≤ c ∧ c < (yci (yK σ) (σ 0))) (hR : yRm M R) (hg : R.1 + ysm (ycm σ 10) (yB (yK σ) c) (yB (yK σ) (c + 1)) + ysm (ycm σ 11) (yB (yK σ) c) (yB (yK σ) (c + 1)) ≤ 120) (kk : ∀ N : zM, (yRm N (yfo (yrk σ 11) (yB (yK σ) c) (yB (yK σ) (c + 1)) (yfo (yrk σ 10) (yB (yK σ) c) (yB (yK σ) (c + 1)) R)) ∧ yrm M N) → zWp kM_readsBack 116 [(1, 208), (0, c), (0, (yB (yK σ) (c + 1)))] [] N Q) : zWp kM_readsBack 66 [(1, 208), (0, c), (0, 9)] [] M Q := by
  have hK := yKr_K hV
  have hn := hV.1
  have hci := yci_60 hK
  obtain ⟨⟨a1, a2, a3⟩, -⟩ := yB_cl hK hc.1 hc.2
  have n11 := ysm_nn (fun q => (ycm_r σ 11 q).1) (show (yB (yK σ) c) ≤ (yB (yK σ) (c + 1)) by omega)
  have q1 := yfo_c (yrk_1 σ 10) R (show (yB (yK σ) c) ≤ (yB (yK σ) (c + 1)) by omega)
  refine zw_aload ⟨rfl, rfl⟩ rfl ?_
  refine zw_getR 212 ⟨rfl, rfl⟩ zr_208_5 ?_
  refine zw_iload ⟨rfl, rfl⟩ rfl ?_
  refine zw_ialdv (v := yB (yK σ) (c)) ⟨rfl, rfl⟩ za_212 (by omega) ((by rw [(yrm.rf (M := M)).1 212 (by decide) (by decide)]; exact (hG.2.2.1 (c) (by omega) (by omega)).1)) ?_
  refine zw_istore_2 ⟨rfl, rfl⟩ ?_
  refine m_Mrb_b (R := R) hV hM hG hc (by omega) (fun N p => ?_) _ _ _ ⟨Int.le_refl _, by omega⟩ (by rw [yfo_0 _ (Int.le_refl _)]; exact hR) yrm.rf (Nat.lt_succ_self _)
  exact m_Mrb_s3 hV (hM.cg (p.2.1 209 (by decide) (by decide))) (hG.rb p.2) hc p.1 (by omega) (fun P r => kk _ ⟨r.1, p.2.tr r.2⟩)

theorem m_Mrb_s1 {c : Int} {M : zM} {Q : zV → zM → Prop} {σ : yS} {R : yR} (hV : yVal σ) (hM : yMo M σ) (hG : yLay M σ) (hc : 0 ≤ c ∧ c < (yci (yK σ) (σ 0))) (hR : yRm M R) (hg : R.1 + ysm (ycs σ 5) (yB (yK σ) c) (yB (yK σ) (c + 1)) + ysm (ycs σ 6) (yB (yK σ) c) (yB (yK σ) (c + 1)) + ysm (ycs σ 7) (yB (yK σ) c) (yB (yK σ) (c + 1)) + ysm (ycs σ 8) (yB (yK σ) c) (yB (yK σ) (c + 1)) + ysm (ycm σ 10) (yB (yK σ) c) (yB (yK σ) (c + 1)) + ysm (ycm σ 11) (yB (yK σ) c) (yB (yK σ) (c + 1)) ≤ 120) (kk : ∀ N : zM, (yRm N (yfo (yrk σ 11) (yB (yK σ) c) (yB (yK σ) (c + 1)) (yfo (yrk σ 10) (yB (yK σ) c) (yB (yK σ) (c + 1)) (yfo (yrs σ 8) (yB (yK σ) c) (yB (yK σ) (c + 1)) (yfo (yrs σ 7) (yB (yK σ) c) (yB (yK σ) (c + 1)) (yfo (yrs σ 6) (yB (yK σ) c) (yB (yK σ) (c + 1)) (yfo (yrs σ 5) (yB (yK σ) c) (yB (yK σ) (c + 1)) R)))))) ∧ yrm M N) → zWp kM_readsBack 116 [(1, 208), (0, c), (0, (yB (yK σ) (c + 1)))] [] N Q) : zWp kM_readsBack 46 [(1, 208), (0, c), (0, (yB (yK σ) (c + 1)))] [] M Q := by
  have hK := yKr_K hV
  have hn := hV.1
  have hci := yci_60 hK
  obtain ⟨⟨a1, a2, a3⟩, -⟩ := yB_cl hK hc.1 hc.2
  have hbe : (yB (yK σ) c) ≤ (yB (yK σ) (c + 1)) := by omega
  have n5 := ysm_nn (fun q => (ycs_r σ 5 q).1) hbe
  have n6 := ysm_nn (fun q => (ycs_r σ 6 q).1) hbe
  have n7 := ysm_nn (fun q => (ycs_r σ 7 q).1) hbe
  have n8 := ysm_nn (fun q => (ycs_r σ 8 q).1) hbe
  have n10 := ysm_nn (fun q => (ycm_r σ 10 q).1) hbe
  have n11 := ysm_nn (fun q => (ycm_r σ 11 q).1) hbe
  refine zw_const ⟨rfl, rfl⟩ ?_
  refine zw_istore_2 ⟨rfl, rfl⟩ ?_
  refine zw_iload ⟨rfl, rfl⟩ rfl ?_
  refine zw_const ⟨rfl, rfl⟩ ?_
  refine zw_icgt ⟨rfl, rfl⟩ rfl (fun q => absurd q (by decide)) (fun _ => ?_)
  refine zw_aload ⟨rfl, rfl⟩ rfl ?_
  refine zw_iload ⟨rfl, rfl⟩ rfl ?_
  refine zw_aload ⟨rfl, rfl⟩ rfl ?_
  refine zw_getR 212 ⟨rfl, rfl⟩ zr_208_5 ?_
  refine zw_iload ⟨rfl, rfl⟩ rfl ?_
  refine zw_ialdv (v := yB (yK σ) (c)) ⟨rfl, rfl⟩ za_212 (by omega) ((by rw [(yrm.rf (M := M)).1 212 (by decide) (by decide)]; exact (hG.2.2.1 (c) (by omega) (by omega)).1)) ?_
  refine zw_aload ⟨rfl, rfl⟩ rfl ?_
  refine zw_getR 212 ⟨rfl, rfl⟩ zr_208_5 ?_
  refine zw_iload ⟨rfl, rfl⟩ rfl ?_
  refine zw_const ⟨rfl, rfl⟩ ?_
  refine zw_iadd ⟨rfl, rfl⟩ (by omega) ?_
  refine zw_ialdv (v := yB (yK σ) ((c + 1))) ⟨rfl, rfl⟩ za_212 (by omega) ((by rw [(yrm.rf (M := M)).1 212 (by decide) (by decide)]; exact (hG.2.2.1 ((c + 1)) (by omega) (by omega)).1)) ?_
  refine zw_cavv4 ⟨rfl, rfl⟩ rfl zc_208 rfl ?_
  refine m_Mrsigns hV hM hR (by decide) ⟨a1, by omega, a3⟩ (by (try simp only [yfo_c (yrs_1 σ _) _ hbe]); omega) (fun N1 p1 => ?_)
  have hM1 : yMo N1 σ := hM.cg (p1.2.1 209 (by decide) (by decide))
  have g1 : yrm M N1 := p1.2
  refine zw_iinc_2 ⟨rfl, rfl⟩ (by omega) ?_
  rw [show (5 : Int) + 1 = 6 from rfl]
  refine zw_goto ⟨rfl, rfl⟩ rfl ?_
  refine zw_iload ⟨rfl, rfl⟩ rfl ?_
  refine zw_const ⟨rfl, rfl⟩ ?_
  refine zw_icgt ⟨rfl, rfl⟩ rfl (fun q => absurd q (by decide)) (fun _ => ?_)
  refine zw_aload ⟨rfl, rfl⟩ rfl ?_
  refine zw_iload ⟨rfl, rfl⟩ rfl ?_
  refine zw_aload ⟨rfl, rfl⟩ rfl ?_
  refine zw_getR 212 ⟨rfl, rfl⟩ zr_208_5 ?_
  refine zw_iload ⟨rfl, rfl⟩ rfl ?_
  refine zw_ialdv (v := yB (yK σ) (c)) ⟨rfl, rfl⟩ za_212 (by omega) ((by rw [g1.1 212 (by decide) (by decide)]; exact (hG.2.2.1 (c) (by omega) (by omega)).1)) ?_
  refine zw_aload ⟨rfl, rfl⟩ rfl ?_
  refine zw_getR 212 ⟨rfl, rfl⟩ zr_208_5 ?_
  refine zw_iload ⟨rfl, rfl⟩ rfl ?_
  refine zw_const ⟨rfl, rfl⟩ ?_
  refine zw_iadd ⟨rfl, rfl⟩ (by omega) ?_
  refine zw_ialdv (v := yB (yK σ) ((c + 1))) ⟨rfl, rfl⟩ za_212 (by omega) ((by rw [g1.1 212 (by decide) (by decide)]; exact (hG.2.2.1 ((c + 1)) (by omega) (by omega)).1)) ?_
  refine zw_cavv4 ⟨rfl, rfl⟩ rfl zc_208 rfl ?_
  refine m_Mrsigns hV hM1 p1.1 (by decide) ⟨a1, by omega, a3⟩ (by (try simp only [yfo_c (yrs_1 σ _) _ hbe]); omega) (fun N2 p2 => ?_)
  have hM2 : yMo N2 σ := hM1.cg (p2.2.1 209 (by decide) (by decide))
  have g2 : yrm M N2 := g1.tr p2.2
  refine zw_iinc_2 ⟨rfl, rfl⟩ (by omega) ?_
  rw [show (6 : Int) + 1 = 7 from rfl]
  refine zw_goto ⟨rfl, rfl⟩ rfl ?_
  refine zw_iload ⟨rfl, rfl⟩ rfl ?_
  refine zw_const ⟨rfl, rfl⟩ ?_
  refine zw_icgt ⟨rfl, rfl⟩ rfl (fun q => absurd q (by decide)) (fun _ => ?_)
  refine zw_aload ⟨rfl, rfl⟩ rfl ?_
  refine zw_iload ⟨rfl, rfl⟩ rfl ?_
  refine zw_aload ⟨rfl, rfl⟩ rfl ?_
  refine zw_getR 212 ⟨rfl, rfl⟩ zr_208_5 ?_
  refine zw_iload ⟨rfl, rfl⟩ rfl ?_
  refine zw_ialdv (v := yB (yK σ) (c)) ⟨rfl, rfl⟩ za_212 (by omega) ((by rw [g2.1 212 (by decide) (by decide)]; exact (hG.2.2.1 (c) (by omega) (by omega)).1)) ?_
  refine zw_aload ⟨rfl, rfl⟩ rfl ?_
  refine zw_getR 212 ⟨rfl, rfl⟩ zr_208_5 ?_
  refine zw_iload ⟨rfl, rfl⟩ rfl ?_
  refine zw_const ⟨rfl, rfl⟩ ?_
  refine zw_iadd ⟨rfl, rfl⟩ (by omega) ?_
  refine zw_ialdv (v := yB (yK σ) ((c + 1))) ⟨rfl, rfl⟩ za_212 (by omega) ((by rw [g2.1 212 (by decide) (by decide)]; exact (hG.2.2.1 ((c + 1)) (by omega) (by omega)).1)) ?_
  refine zw_cavv4 ⟨rfl, rfl⟩ rfl zc_208 rfl ?_
  refine m_Mrsigns hV hM2 p2.1 (by decide) ⟨a1, by omega, a3⟩ (by (try simp only [yfo_c (yrs_1 σ _) _ hbe]); omega) (fun N3 p3 => ?_)
  have hM3 : yMo N3 σ := hM2.cg (p3.2.1 209 (by decide) (by decide))
  have g3 : yrm M N3 := g2.tr p3.2
  refine zw_iinc_2 ⟨rfl, rfl⟩ (by omega) ?_
  rw [show (7 : Int) + 1 = 8 from rfl]
  refine zw_goto ⟨rfl, rfl⟩ rfl ?_
  refine zw_iload ⟨rfl, rfl⟩ rfl ?_
  refine zw_const ⟨rfl, rfl⟩ ?_
  refine zw_icgt ⟨rfl, rfl⟩ rfl (fun q => absurd q (by decide)) (fun _ => ?_)
  refine zw_aload ⟨rfl, rfl⟩ rfl ?_
  refine zw_iload ⟨rfl, rfl⟩ rfl ?_
  refine zw_aload ⟨rfl, rfl⟩ rfl ?_
  refine zw_getR 212 ⟨rfl, rfl⟩ zr_208_5 ?_
  refine zw_iload ⟨rfl, rfl⟩ rfl ?_
  refine zw_ialdv (v := yB (yK σ) (c)) ⟨rfl, rfl⟩ za_212 (by omega) ((by rw [g3.1 212 (by decide) (by decide)]; exact (hG.2.2.1 (c) (by omega) (by omega)).1)) ?_
  refine zw_aload ⟨rfl, rfl⟩ rfl ?_
  refine zw_getR 212 ⟨rfl, rfl⟩ zr_208_5 ?_
  refine zw_iload ⟨rfl, rfl⟩ rfl ?_
  refine zw_const ⟨rfl, rfl⟩ ?_
  refine zw_iadd ⟨rfl, rfl⟩ (by omega) ?_
  refine zw_ialdv (v := yB (yK σ) ((c + 1))) ⟨rfl, rfl⟩ za_212 (by omega) ((by rw [g3.1 212 (by decide) (by decide)]; exact (hG.2.2.1 ((c + 1)) (by omega) (by omega)).1)) ?_
  refine zw_cavv4 ⟨rfl, rfl⟩ rfl zc_208 rfl ?_
  refine m_Mrsigns hV hM3 p3.1 (by decide) ⟨a1, by omega, a3⟩ (by (try simp only [yfo_c (yrs_1 σ _) _ hbe]); omega) (fun N4 p4 => ?_)
  have hM4 : yMo N4 σ := hM3.cg (p4.2.1 209 (by decide) (by decide))
  have g4 : yrm M N4 := g3.tr p4.2
  refine zw_iinc_2 ⟨rfl, rfl⟩ (by omega) ?_
  rw [show (8 : Int) + 1 = 9 from rfl]
  refine zw_goto ⟨rfl, rfl⟩ rfl ?_
  refine zw_iload ⟨rfl, rfl⟩ rfl ?_
  refine zw_const ⟨rfl, rfl⟩ ?_
  refine zw_icgt ⟨rfl, rfl⟩ rfl (fun _ => ?_) (fun q => absurd (by decide) q)
  refine m_Mrb_s2 hV hM4 (hG.rb g4) hc p4.1 (by simp only [yfo_c (yrs_1 σ _) _ hbe]; omega) (fun P r => kk _ ⟨r.1, g4.tr r.2⟩)

theorem m_Mrb_s4 {c e : Int} {M : zM} {Q : zV → zM → Prop} (hc : 0 ≤ c ∧ c < 60) (kk : zWp kM_readsBack 7 [(1, 208), (0, c + 1), (0, e)] [] M Q) : zWp kM_readsBack 116 [(1, 208), (0, c), (0, e)] [] M Q := by
  refine zw_iinc_1 ⟨rfl, rfl⟩ (by omega) ?_
  refine zw_goto ⟨rfl, rfl⟩ rfl ?_
  exact kk

theorem m_MreadsBack_l {M : zM} {Q : zV → zM → Prop} {σ : yS} (hV : yVal σ) (hM : yMo M σ) (hG : yLay M σ) (kk : ∀ N : zM, (yRm N (yBack σ) ∧ yrm M N) → Q (3, 0) N) : ∀ (f0 : Nat) (c : Int) (u2 : zV) (N : zM), (0 ≤ c ∧ c ≤ (yci (yK σ) (σ 0))) → (yRm N (yRc σ c)) → (yrm M N) → ((yci (yK σ) (σ 0)) - c).toNat < f0 → zWp kM_readsBack 7 [(1, 208), (0, c), u2] [] N Q := by
  intro f0
  induction f0 with
  | zero => intro c u2 N i1 i2 i3 hf0; exact absurd hf0 (Nat.not_lt_zero _)
  | succ f0 ih =>
    intro c u2 N i1 i2 i3 hf0
    have hK := yKr_K hV
    have hn := hV.1
    have hci := yci_60 hK
    have hM2 : yMo N σ := hM.cg (i3.1 209 (by decide) (by decide))
    refine zw_iload ⟨rfl, rfl⟩ rfl ?_
    refine zw_aload ⟨rfl, rfl⟩ rfl ?_
    refine zw_getIv (v := (yci (yK σ) (σ 0))) ⟨rfl, rfl⟩ zc_208 (by decide) ((i3.2 15 (by decide)).trans hG.1.1) ?_
    refine zw_icge ⟨rfl, rfl⟩ rfl (fun c1 => ?_) (fun c1 => ?_)
    · skip
      refine zw_void rfl ?_
      have ec : c = (yci (yK σ) (σ 0)) := by omega
      rw [ec] at i2
      exact kk _ ⟨i2, i3⟩
    · skip
      obtain ⟨⟨a1, a2, a3⟩, -⟩ := yB_cl hK (show 0 ≤ c by omega) (show c < (yci (yK σ) (σ 0)) by omega)
      have hbe : (yB (yK σ) c) ≤ (yB (yK σ) (c + 1)) := by omega
      have hs := yrd_n (σ := σ) hbe
      have hr := yRc_n hV i1.1 i1.2
      have n5 := ysm_nn (fun q => (ycs_r σ 5 q).1) hbe
      have n6 := ysm_nn (fun q => (ycs_r σ 6 q).1) hbe
      have n7 := ysm_nn (fun q => (ycs_r σ 7 q).1) hbe
      have n8 := ysm_nn (fun q => (ycs_r σ 8 q).1) hbe
      have n10 := ysm_nn (fun q => (ycm_r σ 10 q).1) hbe
      have n11 := ysm_nn (fun q => (ycm_r σ 11 q).1) hbe
      have n0 := ysm_nn (yc0_r σ) hbe
      refine zw_aload ⟨rfl, rfl⟩ rfl ?_
      refine zw_getR 212 ⟨rfl, rfl⟩ zr_208_5 ?_
      refine zw_iload ⟨rfl, rfl⟩ rfl ?_
      refine zw_ialdv (v := yB (yK σ) (c)) ⟨rfl, rfl⟩ za_212 (by omega) ((by rw [i3.1 212 (by decide) (by decide)]; exact (hG.2.2.1 (c) (by omega) (by omega)).1)) ?_
      refine zw_istore_2 ⟨rfl, rfl⟩ ?_
      refine m_Mrb_a (R := yRc σ c) hV hM2 (hG.rb i3) ⟨by omega, by omega⟩ (by omega) (fun P r => ?_) _ _ _ ⟨Int.le_refl _, by omega⟩ (by rw [yfo_0 _ (Int.le_refl _)]; exact i2) yrm.rf (Nat.lt_succ_self _)
      refine m_Mrb_s1 hV (hM2.cg (r.2.1 209 (by decide) (by decide))) ((hG.rb i3).rb r.2) ⟨by omega, by omega⟩ r.1 (by rw [yfo_c (yr0_1 σ) _ hbe]; omega) (fun P2 r2 => ?_)
      refine m_Mrb_s4 ⟨by omega, by omega⟩ (ih _ _ _ ⟨by omega, by omega⟩ ?_ (i3.tr (r.2.tr r2.2)) (by omega))
      rw [yRc_s σ i1.1]
      exact r2.1

theorem m_MreadsBack {M : zM} {Q : zV → zM → Prop} {σ : yS} (hV : yVal σ) (hM : yMo M σ) (kk : ∀ N : zM, (yLay N σ ∧ yRm N (yBack σ) ∧ ymf M N) → Q (3, 0) N) : zWp kM_readsBack 0 [(1, 208), (3, 0), (3, 0)] [] M Q := by
  refine zw_aload ⟨rfl, rfl⟩ rfl ?_
  refine zw_cavv1 ⟨rfl, rfl⟩ rfl zc_208 rfl ?_
  refine m_laysAll hV hM (fun N1 p1 => ?_)
  refine zw_aload ⟨rfl, rfl⟩ rfl ?_
  refine zw_const ⟨rfl, rfl⟩ ?_
  refine zw_putI ⟨rfl, rfl⟩ zc_208 (by decide) (fun h => absurd h (by decide)) ?_
  refine zw_const ⟨rfl, rfl⟩ ?_
  refine zw_istore_1 ⟨rfl, rfl⟩ ?_
  have hci := yci_60 (yKr_K hV)
  have g : yrm N1 (zup N1 208 33 0) := ⟨fun x x1 x2 => zup_row x1, fun j hj => zup_ni hj⟩
  refine m_MreadsBack_l (M := N1) hV (hM.cg (p1.2.1 209 (by decide) (by decide))) p1.1 (fun P r => kk P ⟨p1.1.rb r.2, r.1, p1.2.m.tr r.2.m⟩) _ _ _ _ ⟨Int.le_refl _, hci.1⟩ ?_ g (Nat.lt_succ_self _)
  rw [yRc_0]
  exact ⟨zup_eq _ _ _ _, Int.le_refl _, fun k k1 k2 => absurd k2 (by show ¬ (k < 0); omega)⟩

theorem d_back {i : Int} {M : zM} {Q : zV → zM → Prop} {σ : yS} (hV : yVal σ) (hM : yMo M σ)  (k : ∀ N : zM, ymf M N → Q (0, ya_back σ i) N) : zWp kM_back 0 [(1, 208), (0, i)] [] M Q := by
  have hK := yKr_K hV
  have hn := hV.1
  have hci := yci_60 hK
  have eyL : (yTk σ (yci (yK σ) (σ 0))).1 = (yLast σ).1 := rfl
  have hgl := yLast_r hV
  have hbk : 0 ≤ (yBack σ).1 ∧ (yBack σ).1 ≤ 120 := by have h := yRc_n hV (yci_60 (yKr_K hV)).1 (Int.le_refl _); rw [yB_n (yKr_K hV)] at h; have hn := hV.1; have h2 : (yBack σ).1 ≤ 2 * σ 0 := h.2; exact ⟨h.1, by omega⟩
  refine zw_aload ⟨rfl, rfl⟩ rfl ?_
  refine zw_const ⟨rfl, rfl⟩ ?_
  refine zw_putI ⟨rfl, rfl⟩ zc_208 (by decide) (fun h => absurd h (by decide)) ?_
  refine zw_iload ⟨rfl, rfl⟩ rfl ?_
  refine zw_const ⟨rfl, rfl⟩ ?_
  refine zw_icge ⟨rfl, rfl⟩ rfl (fun c1 => ?_) (fun c1 => ?_)
  · skip
    refine zw_aload ⟨rfl, rfl⟩ rfl ?_
    refine zw_cavv1 ⟨rfl, rfl⟩ rfl zc_208 rfl ?_
    refine m_MreadsBack hV (hM.cg (zup_row (by decide))) (fun N1 p1 => ?_)
    obtain ⟨hG1, hR1, hf0⟩ := p1
    have hf1 : ymf M N1 := ymf_0.tr hf0
    have hM1 : yMo N1 σ := hM.cg (hf1.1 209 (Or.inl rfl))
    refine zw_iload ⟨rfl, rfl⟩ rfl ?_
    refine zw_const ⟨rfl, rfl⟩ ?_
    refine zw_icne ⟨rfl, rfl⟩ rfl (fun c2 => ?_) (fun c2 => ?_)
    · skip
      refine zw_iload ⟨rfl, rfl⟩ rfl ?_
      refine zw_aload ⟨rfl, rfl⟩ rfl ?_
      refine zw_getIv (v := (yBack σ).1) ⟨rfl, rfl⟩ zc_208 (by decide) (hR1.1) ?_
      refine zw_icge ⟨rfl, rfl⟩ rfl (fun c3 => ?_) (fun c3 => ?_)
      · skip
        refine zw_const ⟨rfl, rfl⟩ ?_
        refine zw_ret rfl ?_
        have e : ya_back σ i = (-1) := by unfold ya_back; (repeat' split) <;> first | rfl | omega | (exfalso; omega)
        rw [e] at k
        exact k _ hf1
      · skip
        refine zw_aload ⟨rfl, rfl⟩ rfl ?_
        refine zw_getR 235 ⟨rfl, rfl⟩ zr_208_32 ?_
        refine zw_iload ⟨rfl, rfl⟩ rfl ?_
        refine zw_ialdv (v := (yBack σ).2 i) ⟨rfl, rfl⟩ za_235 (by omega) (hR1.2.2 i (by omega) (by omega)) ?_
        refine zw_goto ⟨rfl, rfl⟩ rfl ?_
        refine zw_ret rfl ?_
        have e : ya_back σ i = (yBack σ).2 i := by unfold ya_back; (repeat' split) <;> first | rfl | omega | (exfalso; omega)
        rw [e] at k
        exact k _ hf1
    · skip
      refine zw_aload ⟨rfl, rfl⟩ rfl ?_
      refine zw_getIv (v := (yBack σ).1) ⟨rfl, rfl⟩ zc_208 (by decide) (hR1.1) ?_
      refine zw_goto ⟨rfl, rfl⟩ rfl ?_
      refine zw_ret rfl ?_
      have e : ya_back σ i = (yBack σ).1 := by unfold ya_back; (repeat' split) <;> first | rfl | omega | (exfalso; omega)
      rw [e] at k
      exact k _ hf1
  · skip
    refine zw_const ⟨rfl, rfl⟩ ?_
    refine zw_ret rfl ?_
    have e : ya_back σ i = (-3) := by unfold ya_back; (repeat' split) <;> first | rfl | omega | (exfalso; omega)
    rw [e] at k
    exact k _ ymf_0

theorem m_MisO_l  {M : zM} {Q : zV → zM → Prop} {σ : yS} (hV : yVal σ) (hM : yMo M σ) (hR1 : yRm M (yBack σ)) (k : Q (0, ya_isOrdered σ) M) : ∀ (f : Nat) (s p : Int), (0 ≤ p ∧ p ≤ σ 0) → ((s = 1 ∧ (yBack σ).1 = σ 0 ∧ ∀ j, 0 ≤ j → j < p → (yBack σ).2 j = yL σ j) ∨ (s = 0 ∧ ya_isOrdered σ = 0)) → (σ 0 - p).toNat < f → zWp kM_isOrdered 16 [(1, 208), (0, s), (0, p)] [] M Q := by
  intro f
  induction f with
  | zero => intro s p i1 i2 hf; exact absurd hf (Nat.not_lt_zero _)
  | succ f ih =>
    intro s p i1 i2 hf
    have hn := hV.1
    refine zw_iload ⟨rfl, rfl⟩ rfl ?_
    refine zw_aload ⟨rfl, rfl⟩ rfl ?_
    refine zw_callv1 ⟨rfl, rfl⟩ rfl zc_208 rfl ?_
    refine m_Mmany hV hM ?_
    refine zw_icge ⟨rfl, rfl⟩ rfl (fun c1 => ?_) (fun c1 => ?_)
    · skip
      refine zw_iload ⟨rfl, rfl⟩ rfl ?_
      refine zw_ifeq ⟨rfl, rfl⟩ rfl (fun c2 => ?_) (fun c2 => ?_)
      · skip
        refine zw_const ⟨rfl, rfl⟩ ?_
        refine zw_ret rfl ?_
        have e : ya_isOrdered σ = 0 := by
          rcases i2 with ⟨e1, _, _⟩ | ⟨_, e2⟩
          · exfalso; omega
          · exact e2
        rw [e] at k
        exact k
      · skip
        refine zw_const ⟨rfl, rfl⟩ ?_
        refine zw_goto ⟨rfl, rfl⟩ rfl ?_
        refine zw_ret rfl ?_
        have e : ya_isOrdered σ = 1 := by
          rcases i2 with ⟨e1, e2, e3⟩ | ⟨e1, _⟩
          · unfold ya_isOrdered; rw [if_pos e2]; exact yall_1 _ _ (fun j j1 j2 => e3 j j1 (by omega))
          · exfalso; omega
        rw [e] at k
        exact k
    · skip
      refine zw_iload ⟨rfl, rfl⟩ rfl ?_
      refine zw_ifeq ⟨rfl, rfl⟩ rfl (fun c3 => ?_) (fun c3 => ?_)
      · skip
        refine zw_iload ⟨rfl, rfl⟩ rfl ?_
        refine zw_ifeq ⟨rfl, rfl⟩ rfl (fun c4 => ?_) (fun c4 => ?_)
        · skip
          refine zw_const ⟨rfl, rfl⟩ ?_
          refine zw_ret rfl ?_
          have e : ya_isOrdered σ = 0 := by
            rcases i2 with ⟨e1, _, _⟩ | ⟨_, e2⟩
            · exfalso; omega
            · exact e2
          rw [e] at k
          exact k
        · skip
          refine zw_const ⟨rfl, rfl⟩ ?_
          refine zw_goto ⟨rfl, rfl⟩ rfl ?_
          refine zw_ret rfl ?_
          have e : ya_isOrdered σ = 1 := by
            rcases i2 with ⟨e1, e2, e3⟩ | ⟨e1, _⟩
            · unfold ya_isOrdered; rw [if_pos e2]; exact yall_1 _ _ (fun j j1 j2 => e3 j j1 (by omega))
            · exfalso; omega
          rw [e] at k
          exact k
      · skip
        have e := i2.resolve_right (fun z => absurd z.1 (by omega))
        have e2 := e.2.1
        have e3 := e.2.2
        refine zw_aload ⟨rfl, rfl⟩ rfl ?_
        refine zw_getR 235 ⟨rfl, rfl⟩ zr_208_32 ?_
        refine zw_iload ⟨rfl, rfl⟩ rfl ?_
        refine zw_ialdv (v := (yBack σ).2 p) ⟨rfl, rfl⟩ za_235 (by omega) (hR1.2.2 p (by omega) (by omega)) ?_
        refine zw_aload ⟨rfl, rfl⟩ rfl ?_
        refine zw_iload ⟨rfl, rfl⟩ rfl ?_
        refine zw_callv2 ⟨rfl, rfl⟩ rfl zc_208 rfl ?_
        refine m_MletterAt hV hM ⟨by omega, by omega⟩ ?_
        refine zw_icne ⟨rfl, rfl⟩ rfl (fun c5 => ?_) (fun c5 => ?_)
        · skip
          refine zw_const ⟨rfl, rfl⟩ ?_
          refine zw_istore_1 ⟨rfl, rfl⟩ ?_
          refine zw_iinc_2 ⟨rfl, rfl⟩ (by omega) ?_
          refine zw_goto ⟨rfl, rfl⟩ rfl ?_
          refine ih _ _ ⟨by omega, by omega⟩ (Or.inr ⟨rfl, ?_⟩) (by omega)
          unfold ya_isOrdered
          rw [if_pos e2]
          exact yall_0 _ _ p i1.1 (by omega) (by show ¬ ((yBack σ).2 p = yL σ p); omega)
        · skip
          refine zw_const ⟨rfl, rfl⟩ ?_
          refine zw_goto ⟨rfl, rfl⟩ rfl ?_
          refine zw_istore_1 ⟨rfl, rfl⟩ ?_
          refine zw_iinc_2 ⟨rfl, rfl⟩ (by omega) ?_
          refine zw_goto ⟨rfl, rfl⟩ rfl ?_
          refine ih _ _ ⟨by omega, by omega⟩ (Or.inl ⟨rfl, e2, fun j j1 j2 => ?_⟩) (by omega)
          by_cases q : j = p
          · subst q; omega
          · exact e3 j j1 (by omega)

theorem d_isOrdered {M : zM} {Q : zV → zM → Prop} {σ : yS} (hV : yVal σ) (hM : yMo M σ)  (k : ∀ N : zM, ymf M N → Q (0, ya_isOrdered σ) N) : zWp kM_isOrdered 0 [(1, 208), (3, 0), (3, 0)] [] M Q := by
  have hK := yKr_K hV
  have hn := hV.1
  have hci := yci_60 hK
  have eyL : (yTk σ (yci (yK σ) (σ 0))).1 = (yLast σ).1 := rfl
  have hgl := yLast_r hV
  have hbk : 0 ≤ (yBack σ).1 ∧ (yBack σ).1 ≤ 120 := by have h := yRc_n hV (yci_60 (yKr_K hV)).1 (Int.le_refl _); rw [yB_n (yKr_K hV)] at h; have hn := hV.1; have h2 : (yBack σ).1 ≤ 2 * σ 0 := h.2; exact ⟨h.1, by omega⟩
  refine zw_aload ⟨rfl, rfl⟩ rfl ?_
  refine zw_const ⟨rfl, rfl⟩ ?_
  refine zw_putI ⟨rfl, rfl⟩ zc_208 (by decide) (fun h => absurd h (by decide)) ?_
  refine zw_aload ⟨rfl, rfl⟩ rfl ?_
  refine zw_cavv1 ⟨rfl, rfl⟩ rfl zc_208 rfl ?_
  refine m_MreadsBack hV (hM.cg (zup_row (by decide))) (fun N1 p1 => ?_)
  obtain ⟨hG1, hR1, hf0⟩ := p1
  have hf1 : ymf M N1 := ymf_0.tr hf0
  have hM1 : yMo N1 σ := hM.cg (hf1.1 209 (Or.inl rfl))
  refine zw_aload ⟨rfl, rfl⟩ rfl ?_
  refine zw_getIv (v := (yBack σ).1) ⟨rfl, rfl⟩ zc_208 (by decide) (hR1.1) ?_
  refine zw_aload ⟨rfl, rfl⟩ rfl ?_
  refine zw_callv1 ⟨rfl, rfl⟩ rfl zc_208 rfl ?_
  refine m_Mmany hV hM1  ?_
  refine zw_icne ⟨rfl, rfl⟩ rfl (fun c1 => ?_) (fun c1 => ?_)
  · skip
    refine zw_const ⟨rfl, rfl⟩ ?_
    refine zw_istore_1 ⟨rfl, rfl⟩ ?_
    refine zw_const ⟨rfl, rfl⟩ ?_
    refine zw_istore_2 ⟨rfl, rfl⟩ ?_
    refine m_MisO_l hV hM1 hR1 (k _ hf1) _ _ _ ⟨Int.le_refl _, hV.1.1⟩ (Or.inr ⟨rfl, if_neg (by omega)⟩) (Nat.lt_succ_self _)
  · skip
    refine zw_const ⟨rfl, rfl⟩ ?_
    refine zw_goto ⟨rfl, rfl⟩ rfl ?_
    refine zw_istore_1 ⟨rfl, rfl⟩ ?_
    refine zw_const ⟨rfl, rfl⟩ ?_
    refine zw_istore_2 ⟨rfl, rfl⟩ ?_
    refine m_MisO_l hV hM1 hR1 (k _ hf1) _ _ _ ⟨Int.le_refl _, hV.1.1⟩ (Or.inl ⟨rfl, by omega, fun j a b => by omega⟩) (Nat.lt_succ_self _)
