/-! What is read back of clusters -/
abbrev yR : Type := Int × (Int → Int)
def yps (R : yR) (l : Int) : yR := (R.1 + 1, fun k => if k = R.1 then l else R.2 k)
def yr0 (σ : yS) (p : Int) (R : yR) : yR := if ¬ (5 ≤ yK σ p ∧ yK σ p ≤ 9) ∧ ¬ (yK σ p = 10 ∨ yK σ p = 11) then yps R (yL σ p) else R
def yrpt (σ : yS) (kd p w : Int) (R : yR) : yR := if ykd σ (ypt σ (yL σ p) w) = kd then yps R (ypt σ (yL σ p) w) else R
def yrs (σ : yS) (kd p : Int) (R : yR) : yR := if yK σ p = kd then yps R (yL σ p) else if yK σ p = 9 then yrpt σ kd p 1 (yrpt σ kd p 0 R) else R
def yrk (σ : yS) (kd p : Int) (R : yR) : yR := if yK σ p = kd then yps R (yL σ p) else R
def yrd (σ : yS) (b e : Int) (R : yR) : yR := yfo (yrk σ 11) b e (yfo (yrk σ 10) b e (yfo (yrs σ 8) b e (yfo (yrs σ 7) b e (yfo (yrs σ 6) b e (yfo (yrs σ 5) b e (yfo (yr0 σ) b e R))))))
def yc0 (σ : yS) (p : Int) : Int := if ¬ (5 ≤ yK σ p ∧ yK σ p ≤ 9) ∧ ¬ (yK σ p = 10 ∨ yK σ p = 11) then 1 else 0
theorem yr0_1 (σ : yS) (p : Int) (R : yR) : (yr0 σ p R).1 = R.1 + yc0 σ p := by unfold yr0 yc0; split <;> simp [yps]
theorem yrpt_1 (σ : yS) (kd p w : Int) (R : yR) : (yrpt σ kd p w R).1 = R.1 + (if ykd σ (ypt σ (yL σ p) w) = kd then 1 else 0) := by unfold yrpt; split <;> simp [yps]
theorem yrs_1 (σ : yS) (kd p : Int) (R : yR) : (yrs σ kd p R).1 = R.1 + ycs σ kd p := by
  unfold yrs ycs
  split
  · simp [yps]
  · split
    · rw [yrpt_1, yrpt_1]; omega
    · omega
theorem yrk_1 (σ : yS) (kd p : Int) (R : yR) : (yrk σ kd p R).1 = R.1 + ycm σ kd p := by unfold yrk ycm; split <;> simp [yps]
theorem yfo_c {f : Int → yR → yR} {g : Int → Int} (h : ∀ p R, (f p R).1 = R.1 + g p) {a p : Int} (R : yR) (hp : a ≤ p) : (yfo f a p R).1 = R.1 + ysm g a p := by
  refine yind (P := fun p => (yfo f a p R).1 = R.1 + ysm g a p) ?_ (fun q h3 ih => ?_) p hp
  · show (yfo _ a a R).1 = _; rw [yfo_0 _ (Int.le_refl _), ysm_0 _ (Int.le_refl _)]; omega
  · show (yfo _ a (q + 1) R).1 = _
    rw [yfo_s _ h3, h, ysm_s _ h3, ih]; omega
theorem yrd_n {σ : yS} {a p : Int} (h : a ≤ p) : ysm (yc0 σ) a p + ysm (ycs σ 5) a p + ysm (ycs σ 6) a p + ysm (ycs σ 7) a p + ysm (ycs σ 8) a p + ysm (ycm σ 10) a p + ysm (ycm σ 11) a p ≤ 2 * (p - a) := by
  refine yind (P := fun p => ysm (yc0 σ) a p + ysm (ycs σ 5) a p + ysm (ycs σ 6) a p + ysm (ycs σ 7) a p + ysm (ycs σ 8) a p + ysm (ycm σ 10) a p + ysm (ycm σ 11) a p ≤ 2 * (p - a)) ?_ (fun q h3 ih => ?_) p h
  · simp only [ysm_0 _ (Int.le_refl a)]; omega
  · simp only [ysm_s _ h3]
    have : yc0 σ q + ycs σ 5 q + ycs σ 6 q + ycs σ 7 q + ycs σ 8 q + ycm σ 10 q + ycm σ 11 q ≤ 2 := by
      unfold yc0 ycs ycm
      by_cases h9 : yK σ q = 9
      · rw [h9]
        generalize ykd σ (ypt σ (yL σ q) 0) = x
        generalize ykd σ (ypt σ (yL σ q) 1) = y
        simp
        split <;> split <;> split <;> split <;> split <;> split <;> split <;> split <;> omega
      · simp only [if_neg h9]
        split <;> split <;> split <;> split <;> split <;> split <;> split <;> omega
    omega
def yRs (σ : yS) : Nat → yR
  | 0 => (0, fun _ => 0)
  | c + 1 => yrd σ (yB (yK σ) c) (yB (yK σ) ((c : Int) + 1)) (yRs σ c)
def yRc (σ : yS) (c : Int) : yR := yRs σ c.toNat
theorem yRc_0 (σ : yS) : yRc σ 0 = (0, fun _ => 0) := rfl
theorem yRc_s (σ : yS) {c : Int} (h : 0 ≤ c) : yRc σ (c + 1) = yrd σ (yB (yK σ) c) (yB (yK σ) (c + 1)) (yRc σ c) := by
  unfold yRc
  rw [show (c + 1).toNat = c.toNat + 1 by omega]
  show yrd σ (yB (yK σ) (c.toNat : Int)) (yB (yK σ) ((c.toNat : Int) + 1)) _ = _
  rw [show (c.toNat : Int) = c by omega]
theorem yc0_r (σ : yS) (p : Int) : 0 ≤ yc0 σ p := by unfold yc0; split <;> omega
theorem yrd_1 {σ : yS} {b e : Int} (h : b ≤ e) (R : yR) : (yrd σ b e R).1 = R.1 + ysm (yc0 σ) b e + ysm (ycs σ 5) b e + ysm (ycs σ 6) b e + ysm (ycs σ 7) b e + ysm (ycs σ 8) b e + ysm (ycm σ 10) b e + ysm (ycm σ 11) b e := by
  unfold yrd
  rw [yfo_c (yrk_1 σ 11) _ h, yfo_c (yrk_1 σ 10) _ h, yfo_c (yrs_1 σ 8) _ h, yfo_c (yrs_1 σ 7) _ h, yfo_c (yrs_1 σ 6) _ h, yfo_c (yrs_1 σ 5) _ h, yfo_c (yr0_1 σ) _ h]
theorem ysm_nn {f : Int → Int} (hf : ∀ q, 0 ≤ f q) {a p : Int} (h : a ≤ p) : 0 ≤ ysm f a p := by
  have := ysm_mo f hf (Int.le_refl a) h
  rw [ysm_0 _ (Int.le_refl _)] at this
  exact this
theorem yRc_n {σ : yS} (hV : yVal σ) {c : Int} (h0 : 0 ≤ c) (h1 : c ≤ yci (yK σ) (σ 0)) : 0 ≤ (yRc σ c).1 ∧ (yRc σ c).1 ≤ 2 * yB (yK σ) c := by
  have hK := yKr_K hV
  revert h1
  refine yind (P := fun c => c ≤ yci (yK σ) (σ 0) → 0 ≤ (yRc σ c).1 ∧ (yRc σ c).1 ≤ 2 * yB (yK σ) c) ?_ (fun c h3 ih => ?_) c h0
  · intro _; rw [yRc_0, yB_0]; simp
  · intro hc
    have ih := ih (by omega)
    obtain ⟨⟨a1, a2, a3⟩, a4, -⟩ := yB_cl hK h3 (show c < yci (yK σ) (σ 0) by omega)
    have hl : yB (yK σ) c ≤ yB (yK σ) (c + 1) := by omega
    have hs := yrd_n (σ := σ) hl
    rw [yRc_s σ h3, yrd_1 hl]
    have n0 := ysm_nn (yc0_r σ) hl
    have n5 := ysm_nn (fun q => (ycs_r σ 5 q).1) hl
    have n6 := ysm_nn (fun q => (ycs_r σ 6 q).1) hl
    have n7 := ysm_nn (fun q => (ycs_r σ 7 q).1) hl
    have n8 := ysm_nn (fun q => (ycs_r σ 8 q).1) hl
    have n10 := ysm_nn (fun q => (ycm_r σ 10 q).1) hl
    have n11 := ysm_nn (fun q => (ycm_r σ 11 q).1) hl
    omega
/-- the class' ReadBack -/
def yRb (M : zM) (R : yR) : Prop := M 138 0 = R.1 ∧ 0 ≤ R.1 ∧ ∀ k, 0 ≤ k → k < R.1 → M 139 k = R.2 k
def yrf (M N : zM) : Prop := ∀ x, x ≠ 138 → x ≠ 139 → N x = M x
theorem yrf.rf {M : zM} : yrf M M := fun _ _ _ => rfl
theorem yrf.tr {M N P : zM} (h : yrf M N) (g : yrf N P) : yrf M P := fun x x1 x2 => (g x x1 x2).trans (h x x1 x2)

theorem m_rput {l : Int} {M : zM} {Q : zV → zM → Prop} {R : yR} (hR : yRb M R) (hg : R.1 < 120) (k : ∀ N : zM, (yRb N (yps R l) ∧ yrf M N) → Q (3, 0) N) : zWp kRb_put 0 [(1, 138), (0, l)] [] M Q := by
  have h0 := hR.2.1
  refine zw_aload ⟨rfl, rfl⟩ rfl ?_
  refine zw_getIv (v := R.1) ⟨rfl, rfl⟩ zc_138 (by decide) (hR.1) ?_
  refine zw_const ⟨rfl, rfl⟩ ?_
  refine zw_icge ⟨rfl, rfl⟩ rfl (fun q => absurd q (by omega)) (fun _ => ?_)
  refine zw_aload ⟨rfl, rfl⟩ rfl ?_
  refine zw_getR 139 ⟨rfl, rfl⟩ zr_138_1 ?_
  refine zw_aload ⟨rfl, rfl⟩ rfl ?_
  refine zw_getIv (v := R.1) ⟨rfl, rfl⟩ zc_138 (by decide) (hR.1) ?_
  refine zw_iload ⟨rfl, rfl⟩ rfl ?_
  refine zw_iast ⟨rfl, rfl⟩ za_139 (by omega) ?_
  refine zw_aload ⟨rfl, rfl⟩ rfl ?_
  refine zw_dup ⟨rfl, rfl⟩ (by decide) ?_
  refine zw_getIv (v := R.1) ⟨rfl, rfl⟩ zc_138 (by decide) ((zup_na (by decide)).trans (hR.1)) ?_
  refine zw_const ⟨rfl, rfl⟩ ?_
  refine zw_iadd ⟨rfl, rfl⟩ (by omega) ?_
  refine zw_putI ⟨rfl, rfl⟩ zc_138 (by decide) (fun h => absurd h (by decide)) ?_
  refine zw_void rfl ?_
  refine k _ ⟨⟨zup_eq _ _ _ _, by show 0 ≤ R.1 + 1; omega, fun j q1 q2 => ?_⟩, fun x x1 x2 => by rw [zup_row x1, zup_row x2]⟩
  by_cases hj : j = R.1
  · subst hj; simp [zup, yps]
  · have := hR.2.2 j q1 (by have : j < R.1 + 1 := q2; omega)
    simp [zup, yps, hj]; exact this

theorem m_readPart {x kd : Int} {M : zM} {Q : zV → zM → Prop} {σ : yS} {R : yR} (hS : yTold M σ) (hR : yRb M R) (hg : R.1 + (if ykd σ x = kd then 1 else 0) ≤ 120) (k : ∀ N : zM, (yRb N (if ykd σ x = kd then yps R x else R) ∧ yrf M N) → Q (3, 0) N) : zWp kRb_readPart 0 [(1, 138), (0, x), (0, kd)] [] M Q := by
  refine zw_aload ⟨rfl, rfl⟩ rfl ?_
  refine zw_getR 2 ⟨rfl, rfl⟩ zr_138_2 ?_
  refine zw_getR 3 ⟨rfl, rfl⟩ zr_2_0 ?_
  refine zw_iload ⟨rfl, rfl⟩ rfl ?_
  refine zw_callv2 ⟨rfl, rfl⟩ rfl zc_3 rfl ?_
  refine m_kindOf_3 hS.1 ?_
  refine zw_iload ⟨rfl, rfl⟩ rfl ?_
  refine zw_icne ⟨rfl, rfl⟩ rfl (fun c1 => ?_) (fun c1 => ?_)
  · skip
    refine zw_void rfl ?_
    exact k _ ⟨by rw [if_neg (by omega)]; exact hR, yrf.rf⟩
  · skip
    rw [if_pos (by omega)] at hg
    refine zw_aload ⟨rfl, rfl⟩ rfl ?_
    refine zw_iload ⟨rfl, rfl⟩ rfl ?_
    refine zw_cavv2 ⟨rfl, rfl⟩ rfl zc_138 rfl ?_
    refine m_rput hR (by omega) (fun N1 p1 => ?_)
    refine zw_void rfl ?_
    exact k _ ⟨by rw [if_pos (by omega)]; exact p1.1, p1.2⟩

theorem m_rsigns_l  {kd b e : Int} {M : zM} {Q : zV → zM → Prop} {σ : yS} {R : yR} (hV : yVal σ) (hS : yTold M σ) (hC : yCut M (yK σ) (σ 0)) (hR : yRb M R) (hbe : 0 ≤ b ∧ b ≤ e ∧ e ≤ σ 0) (hg : R.1 + ysm (ycs σ kd) b e ≤ 120) (k : ∀ N : zM, (yRb N (yfo (yrs σ kd) b e R) ∧ yrf M N) → Q (3, 0) N) : ∀ (f : Nat) (p : Int) (N : zM), (b ≤ p ∧ p ≤ e) → (yRb N (yfo (yrs σ kd) b p R)) → (yrf M N) → (e - p).toNat < f → zWp kRb_readSigns 2 [(1, 138), (0, kd), (0, b), (0, e), (0, p)] [] N Q := by
  intro f
  induction f with
  | zero => intro p N i1 i2 i3 hf; exact absurd hf (Nat.not_lt_zero _)
  | succ f ih =>
    intro p N i1 i2 i3 hf
    have hK := yKr_K hV
    have hn := hV.1
    have hS2 : yTold N σ := hS.cg (fun x y1 y2 => i3 x (by omega) (by omega))
    have hC2 : yCut N (yK σ) (σ 0) := hC.cg (fun x y1 y2 => i3 x (by omega) (by omega))
    refine zw_iload ⟨rfl, rfl⟩ rfl ?_
    refine zw_iload ⟨rfl, rfl⟩ rfl ?_
    refine zw_icge ⟨rfl, rfl⟩ rfl (fun c1 => ?_) (fun c1 => ?_)
    · skip
      refine zw_void rfl ?_
      have ee : p = e := by omega
      rw [ee] at i2
      exact k _ ⟨i2, i3⟩
    · skip
      have hs1 := yfo_c (yrs_1 σ kd) R i1.1
      have hs2 := ysm_s (ycs σ kd) i1.1
      have hs3 := ysm_mo (ycs σ kd) (fun q => (ycs_r σ kd q).1) (show b ≤ p + 1 by omega) (show p + 1 ≤ e by omega)
      have hs4 : ycs σ kd p = _ := rfl
      conv at hs4 => rhs; unfold ycs
      refine zw_aload ⟨rfl, rfl⟩ rfl ?_
      refine zw_getR 105 ⟨rfl, rfl⟩ zr_138_3 ?_
      refine zw_iload ⟨rfl, rfl⟩ rfl ?_
      refine zw_callv2 ⟨rfl, rfl⟩ rfl zc_105 rfl ?_
      refine m_kindAt hK hC2 ?_
      refine zw_iload ⟨rfl, rfl⟩ rfl ?_
      refine zw_icne ⟨rfl, rfl⟩ rfl (fun c2 => ?_) (fun c2 => ?_)
      · skip
        rw [if_neg (by omega)] at hs4
        refine zw_aload ⟨rfl, rfl⟩ rfl ?_
        refine zw_getR 105 ⟨rfl, rfl⟩ zr_138_3 ?_
        refine zw_iload ⟨rfl, rfl⟩ rfl ?_
        refine zw_callv2 ⟨rfl, rfl⟩ rfl zc_105 rfl ?_
        refine m_kindAt hK hC2 ?_
        refine zw_const ⟨rfl, rfl⟩ ?_
        refine zw_icne ⟨rfl, rfl⟩ rfl (fun c3 => ?_) (fun c3 => ?_)
        · skip
          rw [if_neg (by omega)] at hs4
          refine zw_iinc_4 ⟨rfl, rfl⟩ (by omega) ?_
          refine zw_goto ⟨rfl, rfl⟩ rfl ?_
          refine ih _ _ ⟨by omega, by omega⟩ ?_ i3 (by omega)
          rw [yfo_s _ i1.1]
          unfold yrs
          rw [if_neg (by omega), if_neg (by omega)]
          exact i2
        · skip
          rw [if_pos (by omega)] at hs4
          have hx0 : 0 ≤ (if ykd σ (ypt σ (yL σ p) 0) = kd then (1 : Int) else 0) := by split <;> omega
          have hx1 : 0 ≤ (if ykd σ (ypt σ (yL σ p) 1) = kd then (1 : Int) else 0) := by split <;> omega
          refine zw_aload ⟨rfl, rfl⟩ rfl ?_
          refine zw_aload ⟨rfl, rfl⟩ rfl ?_
          refine zw_getR 2 ⟨rfl, rfl⟩ zr_138_2 ?_
          refine zw_getR 3 ⟨rfl, rfl⟩ zr_2_0 ?_
          refine zw_aload ⟨rfl, rfl⟩ rfl ?_
          refine zw_getR 2 ⟨rfl, rfl⟩ zr_138_2 ?_
          refine zw_iload ⟨rfl, rfl⟩ rfl ?_
          refine zw_callv2 ⟨rfl, rfl⟩ rfl zc_2 rfl ?_
          refine m_letterAt_s hV.1.2 hS2 ?_
          refine zw_const ⟨rfl, rfl⟩ ?_
          refine zw_callv3 ⟨rfl, rfl⟩ rfl zc_3 rfl ?_
          refine m_partOf hS2.1 ?_
          refine zw_iload ⟨rfl, rfl⟩ rfl ?_
          refine zw_cavv3 ⟨rfl, rfl⟩ rfl zc_138 rfl ?_
          refine m_readPart hS2 i2 (by omega) (fun N1 p1 => ?_)
          refine zw_aload ⟨rfl, rfl⟩ rfl ?_
          refine zw_aload ⟨rfl, rfl⟩ rfl ?_
          refine zw_getR 2 ⟨rfl, rfl⟩ zr_138_2 ?_
          refine zw_getR 3 ⟨rfl, rfl⟩ zr_2_0 ?_
          refine zw_aload ⟨rfl, rfl⟩ rfl ?_
          refine zw_getR 2 ⟨rfl, rfl⟩ zr_138_2 ?_
          refine zw_iload ⟨rfl, rfl⟩ rfl ?_
          refine zw_callv2 ⟨rfl, rfl⟩ rfl zc_2 rfl ?_
          refine m_letterAt_s hV.1.2 (hS2.cg (fun x y1 y2 => p1.2 x (by omega) (by omega))) ?_
          refine zw_const ⟨rfl, rfl⟩ ?_
          refine zw_callv3 ⟨rfl, rfl⟩ rfl zc_3 rfl ?_
          refine m_partOf (hS2.cg (fun x y1 y2 => p1.2 x (by omega) (by omega))).1 ?_
          refine zw_iload ⟨rfl, rfl⟩ rfl ?_
          refine zw_cavv3 ⟨rfl, rfl⟩ rfl zc_138 rfl ?_
          refine m_readPart (hS2.cg (fun x y1 y2 => p1.2 x (by omega) (by omega))) p1.1 (by rw [show (if ykd σ (ypt σ (yL σ p) 0) = kd then yps (yfo (yrs σ kd) b p R) (ypt σ (yL σ p) 0) else yfo (yrs σ kd) b p R) = yrpt σ kd p 0 (yfo (yrs σ kd) b p R) from rfl, yrpt_1]; omega) (fun N2 p2 => ?_)
          refine zw_iinc_4 ⟨rfl, rfl⟩ (by omega) ?_
          refine zw_goto ⟨rfl, rfl⟩ rfl ?_
          refine ih _ _ ⟨by omega, by omega⟩ ?_ ((i3.tr p1.2).tr p2.2) (by omega)
          rw [yfo_s _ i1.1]
          unfold yrs
          rw [if_neg (by omega), if_pos (by omega)]
          exact p2.1
      · skip
        rw [if_pos (by omega)] at hs4
        refine zw_aload ⟨rfl, rfl⟩ rfl ?_
        refine zw_aload ⟨rfl, rfl⟩ rfl ?_
        refine zw_getR 2 ⟨rfl, rfl⟩ zr_138_2 ?_
        refine zw_iload ⟨rfl, rfl⟩ rfl ?_
        refine zw_callv2 ⟨rfl, rfl⟩ rfl zc_2 rfl ?_
        refine m_letterAt_s hV.1.2 hS2 ?_
        refine zw_cavv2 ⟨rfl, rfl⟩ rfl zc_138 rfl ?_
        refine m_rput i2 (by omega) (fun N1 p1 => ?_)
        refine zw_goto ⟨rfl, rfl⟩ rfl ?_
        refine zw_iinc_4 ⟨rfl, rfl⟩ (by omega) ?_
        refine zw_goto ⟨rfl, rfl⟩ rfl ?_
        refine ih _ _ ⟨by omega, by omega⟩ ?_ (i3.tr p1.2) (by omega)
        rw [yfo_s _ i1.1]
        unfold yrs
        rw [if_pos (by omega)]
        exact p1.1

theorem m_rsigns {kd b e : Int} {M : zM} {Q : zV → zM → Prop} {σ : yS} {R : yR} (hV : yVal σ) (hS : yTold M σ) (hC : yCut M (yK σ) (σ 0)) (hR : yRb M R) (hbe : 0 ≤ b ∧ b ≤ e ∧ e ≤ σ 0) (hg : R.1 + ysm (ycs σ kd) b e ≤ 120) (k : ∀ N : zM, (yRb N (yfo (yrs σ kd) b e R) ∧ yrf M N) → Q (3, 0) N) : zWp kRb_readSigns 0 [(1, 138), (0, kd), (0, b), (0, e), (3, 0)] [] M Q := by
  refine zw_iload ⟨rfl, rfl⟩ rfl ?_
  refine zw_istore_4 ⟨rfl, rfl⟩ ?_
  exact m_rsigns_l hV hS hC hR hbe hg k _ _ _ ⟨Int.le_refl _, hbe.2.1⟩ (by rw [yfo_0 _ (Int.le_refl _)]; exact hR) yrf.rf (Nat.lt_succ_self _)

theorem m_rkind_l  {kd b e : Int} {M : zM} {Q : zV → zM → Prop} {σ : yS} {R : yR} (hV : yVal σ) (hS : yTold M σ) (hC : yCut M (yK σ) (σ 0)) (hR : yRb M R) (hbe : 0 ≤ b ∧ b ≤ e ∧ e ≤ σ 0) (hg : R.1 + ysm (ycm σ kd) b e ≤ 120) (k : ∀ N : zM, (yRb N (yfo (yrk σ kd) b e R) ∧ yrf M N) → Q (3, 0) N) : ∀ (f : Nat) (p : Int) (N : zM), (b ≤ p ∧ p ≤ e) → (yRb N (yfo (yrk σ kd) b p R)) → (yrf M N) → (e - p).toNat < f → zWp kRb_readKind 2 [(1, 138), (0, kd), (0, b), (0, e), (0, p)] [] N Q := by
  intro f
  induction f with
  | zero => intro p N i1 i2 i3 hf; exact absurd hf (Nat.not_lt_zero _)
  | succ f ih =>
    intro p N i1 i2 i3 hf
    have hK := yKr_K hV
    have hn := hV.1
    have hS2 : yTold N σ := hS.cg (fun x y1 y2 => i3 x (by omega) (by omega))
    have hC2 : yCut N (yK σ) (σ 0) := hC.cg (fun x y1 y2 => i3 x (by omega) (by omega))
    refine zw_iload ⟨rfl, rfl⟩ rfl ?_
    refine zw_iload ⟨rfl, rfl⟩ rfl ?_
    refine zw_icge ⟨rfl, rfl⟩ rfl (fun c1 => ?_) (fun c1 => ?_)
    · skip
      refine zw_void rfl ?_
      have ee : p = e := by omega
      rw [ee] at i2
      exact k _ ⟨i2, i3⟩
    · skip
      have hs1 := yfo_c (yrk_1 σ kd) R i1.1
      have hs2 := ysm_s (ycm σ kd) i1.1
      have hs3 := ysm_mo (ycm σ kd) (fun q => (ycm_r σ kd q).1) (show b ≤ p + 1 by omega) (show p + 1 ≤ e by omega)
      have hs4 : ycm σ kd p = _ := rfl
      conv at hs4 => rhs; unfold ycm
      refine zw_aload ⟨rfl, rfl⟩ rfl ?_
      refine zw_getR 105 ⟨rfl, rfl⟩ zr_138_3 ?_
      refine zw_iload ⟨rfl, rfl⟩ rfl ?_
      refine zw_callv2 ⟨rfl, rfl⟩ rfl zc_105 rfl ?_
      refine m_kindAt hK hC2 ?_
      refine zw_iload ⟨rfl, rfl⟩ rfl ?_
      refine zw_icne ⟨rfl, rfl⟩ rfl (fun c2 => ?_) (fun c2 => ?_)
      · skip
        rw [if_neg (by omega)] at hs4
        refine zw_iinc_4 ⟨rfl, rfl⟩ (by omega) ?_
        refine zw_goto ⟨rfl, rfl⟩ rfl ?_
        refine ih _ _ ⟨by omega, by omega⟩ ?_ i3 (by omega)
        rw [yfo_s _ i1.1]
        unfold yrk
        rw [if_neg (by omega)]
        exact i2
      · skip
        rw [if_pos (by omega)] at hs4
        refine zw_aload ⟨rfl, rfl⟩ rfl ?_
        refine zw_aload ⟨rfl, rfl⟩ rfl ?_
        refine zw_getR 2 ⟨rfl, rfl⟩ zr_138_2 ?_
        refine zw_iload ⟨rfl, rfl⟩ rfl ?_
        refine zw_callv2 ⟨rfl, rfl⟩ rfl zc_2 rfl ?_
        refine m_letterAt_s hV.1.2 hS2 ?_
        refine zw_cavv2 ⟨rfl, rfl⟩ rfl zc_138 rfl ?_
        refine m_rput i2 (by omega) (fun N1 p1 => ?_)
        refine zw_iinc_4 ⟨rfl, rfl⟩ (by omega) ?_
        refine zw_goto ⟨rfl, rfl⟩ rfl ?_
        refine ih _ _ ⟨by omega, by omega⟩ ?_ (i3.tr p1.2) (by omega)
        rw [yfo_s _ i1.1]
        unfold yrk
        rw [if_pos (by omega)]
        exact p1.1

theorem m_rkind {kd b e : Int} {M : zM} {Q : zV → zM → Prop} {σ : yS} {R : yR} (hV : yVal σ) (hS : yTold M σ) (hC : yCut M (yK σ) (σ 0)) (hR : yRb M R) (hbe : 0 ≤ b ∧ b ≤ e ∧ e ≤ σ 0) (hg : R.1 + ysm (ycm σ kd) b e ≤ 120) (k : ∀ N : zM, (yRb N (yfo (yrk σ kd) b e R) ∧ yrf M N) → Q (3, 0) N) : zWp kRb_readKind 0 [(1, 138), (0, kd), (0, b), (0, e), (3, 0)] [] M Q := by
  refine zw_iload ⟨rfl, rfl⟩ rfl ?_
  refine zw_istore_4 ⟨rfl, rfl⟩ ?_
  exact m_rkind_l hV hS hC hR hbe hg k _ _ _ ⟨Int.le_refl _, hbe.2.1⟩ (by rw [yfo_0 _ (Int.le_refl _)]; exact hR) yrf.rf (Nat.lt_succ_self _)

section
set_option maxHeartbeats 8000000
theorem m_read_l  {c : Int} {M : zM} {Q : zV → zM → Prop} {σ : yS} {R : yR} (hV : yVal σ) (hS : yTold M σ) (hC : yCut M (yK σ) (σ 0)) (hR : yRb M R) (hc : 0 ≤ c ∧ c < yci (yK σ) (σ 0)) (hg : R.1 ≤ 2 * yB (yK σ) c) (k : ∀ N : zM, (yRb N (yrd σ (yB (yK σ) c) (yB (yK σ) (c + 1)) R) ∧ yrf M N) → Q (3, 0) N) : ∀ (f : Nat) (p : Int) (N : zM), ((yB (yK σ) c) ≤ p ∧ p ≤ (yB (yK σ) (c + 1))) → (yRb N (yfo (yr0 σ) (yB (yK σ) c) p R)) → (yrf M N) → ((yB (yK σ) (c + 1)) - p).toNat < f → zWp kRb_read 13 [(1, 138), (0, c), (0, (yB (yK σ) c)), (0, (yB (yK σ) (c + 1))), (0, p)] [] N Q := by
  intro f
  induction f with
  | zero => intro p N i1 i2 i3 hf; exact absurd hf (Nat.not_lt_zero _)
  | succ f ih =>
    intro p N i1 i2 i3 hf
    have hK := yKr_K hV
    have hn := hV.1
    obtain ⟨⟨a1, a2, a3⟩, -⟩ := yB_cl hK hc.1 hc.2
    have hbe : 0 ≤ (yB (yK σ) c) ∧ (yB (yK σ) c) ≤ (yB (yK σ) (c + 1)) ∧ (yB (yK σ) (c + 1)) ≤ σ 0 := ⟨a1, by omega, a3⟩
    have hS2 : yTold N σ := hS.cg (fun x y1 y2 => i3 x (by omega) (by omega))
    have hC2 : yCut N (yK σ) (σ 0) := hC.cg (fun x y1 y2 => i3 x (by omega) (by omega))
    have hs1 := yfo_c (yr0_1 σ) R i1.1
    have hs3 := ysm_mo (yc0 σ) (yc0_r σ) i1.1 i1.2
    have hs5 := yrd_n (σ := σ) hbe.2.1
    have n0 := ysm_nn (yc0_r σ) hbe.2.1
    have n5 := ysm_nn (fun q => (ycs_r σ 5 q).1) hbe.2.1
    have n6 := ysm_nn (fun q => (ycs_r σ 6 q).1) hbe.2.1
    have n7 := ysm_nn (fun q => (ycs_r σ 7 q).1) hbe.2.1
    have n8 := ysm_nn (fun q => (ycs_r σ 8 q).1) hbe.2.1
    have n10 := ysm_nn (fun q => (ycm_r σ 10 q).1) hbe.2.1
    have n11 := ysm_nn (fun q => (ycm_r σ 11 q).1) hbe.2.1
    refine zw_iload ⟨rfl, rfl⟩ rfl ?_
    refine zw_iload ⟨rfl, rfl⟩ rfl ?_
    refine zw_icge ⟨rfl, rfl⟩ rfl (fun c1 => ?_) (fun c1 => ?_)
    · skip
      have ee : p = (yB (yK σ) (c + 1)) := by omega
      rw [ee] at i2 hs1
      have q1 := hs1
      refine zw_const ⟨rfl, rfl⟩ ?_
      refine zw_istore_4 ⟨rfl, rfl⟩ ?_
      refine zw_iload ⟨rfl, rfl⟩ rfl ?_
      refine zw_const ⟨rfl, rfl⟩ ?_
      refine zw_icgt ⟨rfl, rfl⟩ rfl (fun q => absurd q (by decide)) (fun _ => ?_)
      refine zw_aload ⟨rfl, rfl⟩ rfl ?_
      refine zw_iload ⟨rfl, rfl⟩ rfl ?_
      refine zw_iload ⟨rfl, rfl⟩ rfl ?_
      refine zw_iload ⟨rfl, rfl⟩ rfl ?_
      refine zw_cavv4 ⟨rfl, rfl⟩ rfl zc_138 rfl ?_
      refine m_rsigns hV hS2 hC2 i2 hbe (by simp only [yfo_c (yrk_1 σ _) _ hbe.2.1, yfo_c (yrs_1 σ _) _ hbe.2.1, q1]; omega) (fun N1 p1 => ?_)
      have hS3 : yTold N1 σ := hS2.cg (fun x y1 y2 => p1.2 x (by omega) (by omega))
      have hC3 : yCut N1 (yK σ) (σ 0) := hC2.cg (fun x y1 y2 => p1.2 x (by omega) (by omega))
      refine zw_iinc_4 ⟨rfl, rfl⟩ (by omega) ?_
      rw [show (5 : Int) + 1 = 6 from rfl]
      refine zw_goto ⟨rfl, rfl⟩ rfl ?_
      refine zw_iload ⟨rfl, rfl⟩ rfl ?_
      refine zw_const ⟨rfl, rfl⟩ ?_
      refine zw_icgt ⟨rfl, rfl⟩ rfl (fun q => absurd q (by decide)) (fun _ => ?_)
      refine zw_aload ⟨rfl, rfl⟩ rfl ?_
      refine zw_iload ⟨rfl, rfl⟩ rfl ?_
      refine zw_iload ⟨rfl, rfl⟩ rfl ?_
      refine zw_iload ⟨rfl, rfl⟩ rfl ?_
      refine zw_cavv4 ⟨rfl, rfl⟩ rfl zc_138 rfl ?_
      refine m_rsigns hV hS3 hC3 p1.1 hbe (by simp only [yfo_c (yrk_1 σ _) _ hbe.2.1, yfo_c (yrs_1 σ _) _ hbe.2.1, q1]; omega) (fun N2 p2 => ?_)
      have hS4 : yTold N2 σ := hS3.cg (fun x y1 y2 => p2.2 x (by omega) (by omega))
      have hC4 : yCut N2 (yK σ) (σ 0) := hC3.cg (fun x y1 y2 => p2.2 x (by omega) (by omega))
      refine zw_iinc_4 ⟨rfl, rfl⟩ (by omega) ?_
      rw [show (6 : Int) + 1 = 7 from rfl]
      refine zw_goto ⟨rfl, rfl⟩ rfl ?_
      refine zw_iload ⟨rfl, rfl⟩ rfl ?_
      refine zw_const ⟨rfl, rfl⟩ ?_
      refine zw_icgt ⟨rfl, rfl⟩ rfl (fun q => absurd q (by decide)) (fun _ => ?_)
      refine zw_aload ⟨rfl, rfl⟩ rfl ?_
      refine zw_iload ⟨rfl, rfl⟩ rfl ?_
      refine zw_iload ⟨rfl, rfl⟩ rfl ?_
      refine zw_iload ⟨rfl, rfl⟩ rfl ?_
      refine zw_cavv4 ⟨rfl, rfl⟩ rfl zc_138 rfl ?_
      refine m_rsigns hV hS4 hC4 p2.1 hbe (by simp only [yfo_c (yrk_1 σ _) _ hbe.2.1, yfo_c (yrs_1 σ _) _ hbe.2.1, q1]; omega) (fun N3 p3 => ?_)
      have hS5 : yTold N3 σ := hS4.cg (fun x y1 y2 => p3.2 x (by omega) (by omega))
      have hC5 : yCut N3 (yK σ) (σ 0) := hC4.cg (fun x y1 y2 => p3.2 x (by omega) (by omega))
      refine zw_iinc_4 ⟨rfl, rfl⟩ (by omega) ?_
      rw [show (7 : Int) + 1 = 8 from rfl]
      refine zw_goto ⟨rfl, rfl⟩ rfl ?_
      refine zw_iload ⟨rfl, rfl⟩ rfl ?_
      refine zw_const ⟨rfl, rfl⟩ ?_
      refine zw_icgt ⟨rfl, rfl⟩ rfl (fun q => absurd q (by decide)) (fun _ => ?_)
      refine zw_aload ⟨rfl, rfl⟩ rfl ?_
      refine zw_iload ⟨rfl, rfl⟩ rfl ?_
      refine zw_iload ⟨rfl, rfl⟩ rfl ?_
      refine zw_iload ⟨rfl, rfl⟩ rfl ?_
      refine zw_cavv4 ⟨rfl, rfl⟩ rfl zc_138 rfl ?_
      refine m_rsigns hV hS5 hC5 p3.1 hbe (by simp only [yfo_c (yrk_1 σ _) _ hbe.2.1, yfo_c (yrs_1 σ _) _ hbe.2.1, q1]; omega) (fun N4 p4 => ?_)
      have hS6 : yTold N4 σ := hS5.cg (fun x y1 y2 => p4.2 x (by omega) (by omega))
      have hC6 : yCut N4 (yK σ) (σ 0) := hC5.cg (fun x y1 y2 => p4.2 x (by omega) (by omega))
      refine zw_iinc_4 ⟨rfl, rfl⟩ (by omega) ?_
      rw [show (8 : Int) + 1 = 9 from rfl]
      refine zw_goto ⟨rfl, rfl⟩ rfl ?_
      refine zw_iload ⟨rfl, rfl⟩ rfl ?_
      refine zw_const ⟨rfl, rfl⟩ ?_
      refine zw_icgt ⟨rfl, rfl⟩ rfl (fun _ => ?_) (fun q => absurd (by decide) q)
      refine zw_aload ⟨rfl, rfl⟩ rfl ?_
      refine zw_const ⟨rfl, rfl⟩ ?_
      refine zw_iload ⟨rfl, rfl⟩ rfl ?_
      refine zw_iload ⟨rfl, rfl⟩ rfl ?_
      refine zw_cavv4 ⟨rfl, rfl⟩ rfl zc_138 rfl ?_
      refine m_rkind hV hS6 hC6 p4.1 hbe (by simp only [yfo_c (yrk_1 σ _) _ hbe.2.1, yfo_c (yrs_1 σ _) _ hbe.2.1, q1]; omega) (fun N5 p5 => ?_)
      have hS7 : yTold N5 σ := hS6.cg (fun x y1 y2 => p5.2 x (by omega) (by omega))
      have hC7 : yCut N5 (yK σ) (σ 0) := hC6.cg (fun x y1 y2 => p5.2 x (by omega) (by omega))
      refine zw_aload ⟨rfl, rfl⟩ rfl ?_
      refine zw_const ⟨rfl, rfl⟩ ?_
      refine zw_iload ⟨rfl, rfl⟩ rfl ?_
      refine zw_iload ⟨rfl, rfl⟩ rfl ?_
      refine zw_cavv4 ⟨rfl, rfl⟩ rfl zc_138 rfl ?_
      refine m_rkind hV hS7 hC7 p5.1 hbe (by simp only [yfo_c (yrk_1 σ _) _ hbe.2.1, yfo_c (yrs_1 σ _) _ hbe.2.1, q1]; omega) (fun N6 p6 => ?_)
      have hS8 : yTold N6 σ := hS7.cg (fun x y1 y2 => p6.2 x (by omega) (by omega))
      have hC8 : yCut N6 (yK σ) (σ 0) := hC7.cg (fun x y1 y2 => p6.2 x (by omega) (by omega))
      refine zw_void rfl ?_
      refine k _ ⟨?_, ((((((i3.tr p1.2).tr p2.2).tr p3.2).tr p4.2).tr p5.2).tr p6.2)⟩
      unfold yrd
      exact p6.1
    · skip
      have hs2 := ysm_s (yc0 σ) i1.1
      have hs4 := ysm_mo (yc0 σ) (yc0_r σ) (show (yB (yK σ) c) ≤ p + 1 by omega) (show p + 1 ≤ (yB (yK σ) (c + 1)) by omega)
      refine zw_aload ⟨rfl, rfl⟩ rfl ?_
      refine zw_getR 105 ⟨rfl, rfl⟩ zr_138_3 ?_
      refine zw_iload ⟨rfl, rfl⟩ rfl ?_
      refine zw_callv2 ⟨rfl, rfl⟩ rfl zc_105 rfl ?_
      refine m_kindAt hK hC2 ?_
      refine zw_calls1 ⟨rfl, rfl⟩ rfl rfl ?_
      refine zw_iload ⟨rfl, rfl⟩ rfl ?_
      refine zw_const ⟨rfl, rfl⟩ ?_
      refine zw_iclt ⟨rfl, rfl⟩ rfl (fun c7 => ?_) (fun c7 => ?_)
      · skip
        refine zw_const ⟨rfl, rfl⟩ ?_
        refine zw_zret rfl (by first | exact Or.inl rfl | exact Or.inr rfl | omega) ?_
        refine zw_ifne ⟨rfl, rfl⟩ rfl (fun q => absurd q (by decide)) (fun _ => ?_)
        refine zw_aload ⟨rfl, rfl⟩ rfl ?_
        refine zw_getR 105 ⟨rfl, rfl⟩ zr_138_3 ?_
        refine zw_iload ⟨rfl, rfl⟩ rfl ?_
        refine zw_callv2 ⟨rfl, rfl⟩ rfl zc_105 rfl ?_
        refine m_kindAt hK hC2 ?_
        refine zw_calls1 ⟨rfl, rfl⟩ rfl rfl ?_
        refine zw_iload ⟨rfl, rfl⟩ rfl ?_
        refine zw_const ⟨rfl, rfl⟩ ?_
        refine zw_iceq ⟨rfl, rfl⟩ rfl (fun c9 => ?_) (fun c9 => ?_)
        · skip
          refine zw_const ⟨rfl, rfl⟩ ?_
          refine zw_goto ⟨rfl, rfl⟩ rfl ?_
          refine zw_zret rfl (by first | exact Or.inl rfl | exact Or.inr rfl | omega) ?_
          refine zw_ifne ⟨rfl, rfl⟩ rfl (fun _ => ?_) (fun q => absurd (by decide) q)
          refine zw_iinc_4 ⟨rfl, rfl⟩ (by omega) ?_
          refine zw_goto ⟨rfl, rfl⟩ rfl ?_
          refine ih _ _ ⟨by omega, by omega⟩ ?_ i3 (by omega)
          rw [yfo_s _ i1.1]
          unfold yr0
          rw [if_neg (fun z => by have z1 := z.1; have z2 := z.2; omega)]
          exact i2
        · skip
          refine zw_iload ⟨rfl, rfl⟩ rfl ?_
          refine zw_const ⟨rfl, rfl⟩ ?_
          refine zw_icne ⟨rfl, rfl⟩ rfl (fun c11 => ?_) (fun c11 => ?_)
          · skip
            refine zw_const ⟨rfl, rfl⟩ ?_
            refine zw_zret rfl (by first | exact Or.inl rfl | exact Or.inr rfl | omega) ?_
            refine zw_ifne ⟨rfl, rfl⟩ rfl (fun q => absurd q (by decide)) (fun _ => ?_)
            have hs6 : yc0 σ p = 1 := if_pos ⟨fun z => by omega, fun z => by omega⟩
            refine zw_aload ⟨rfl, rfl⟩ rfl ?_
            refine zw_aload ⟨rfl, rfl⟩ rfl ?_
            refine zw_getR 2 ⟨rfl, rfl⟩ zr_138_2 ?_
            refine zw_iload ⟨rfl, rfl⟩ rfl ?_
            refine zw_callv2 ⟨rfl, rfl⟩ rfl zc_2 rfl ?_
            refine m_letterAt_s hV.1.2 hS2 ?_
            refine zw_cavv2 ⟨rfl, rfl⟩ rfl zc_138 rfl ?_
            refine m_rput i2 (by omega) (fun N1 p1 => ?_)
            refine zw_iinc_4 ⟨rfl, rfl⟩ (by omega) ?_
            refine zw_goto ⟨rfl, rfl⟩ rfl ?_
            refine ih _ _ ⟨by omega, by omega⟩ ?_ (i3.tr p1.2) (by omega)
            rw [yfo_s _ i1.1]
            unfold yr0
            rw [if_pos ⟨fun z => by omega, fun z => by omega⟩]
            exact p1.1
          · skip
            refine zw_const ⟨rfl, rfl⟩ ?_
            refine zw_goto ⟨rfl, rfl⟩ rfl ?_
            refine zw_zret rfl (by first | exact Or.inl rfl | exact Or.inr rfl | omega) ?_
            refine zw_ifne ⟨rfl, rfl⟩ rfl (fun _ => ?_) (fun q => absurd (by decide) q)
            refine zw_iinc_4 ⟨rfl, rfl⟩ (by omega) ?_
            refine zw_goto ⟨rfl, rfl⟩ rfl ?_
            refine ih _ _ ⟨by omega, by omega⟩ ?_ i3 (by omega)
            rw [yfo_s _ i1.1]
            unfold yr0
            rw [if_neg (fun z => by have z1 := z.1; have z2 := z.2; omega)]
            exact i2
      · skip
        refine zw_iload ⟨rfl, rfl⟩ rfl ?_
        refine zw_const ⟨rfl, rfl⟩ ?_
        refine zw_icgt ⟨rfl, rfl⟩ rfl (fun c14 => ?_) (fun c14 => ?_)
        · skip
          refine zw_const ⟨rfl, rfl⟩ ?_
          refine zw_zret rfl (by first | exact Or.inl rfl | exact Or.inr rfl | omega) ?_
          refine zw_ifne ⟨rfl, rfl⟩ rfl (fun q => absurd q (by decide)) (fun _ => ?_)
          refine zw_aload ⟨rfl, rfl⟩ rfl ?_
          refine zw_getR 105 ⟨rfl, rfl⟩ zr_138_3 ?_
          refine zw_iload ⟨rfl, rfl⟩ rfl ?_
          refine zw_callv2 ⟨rfl, rfl⟩ rfl zc_105 rfl ?_
          refine m_kindAt hK hC2 ?_
          refine zw_calls1 ⟨rfl, rfl⟩ rfl rfl ?_
          refine zw_iload ⟨rfl, rfl⟩ rfl ?_
          refine zw_const ⟨rfl, rfl⟩ ?_
          refine zw_iceq ⟨rfl, rfl⟩ rfl (fun c16 => ?_) (fun c16 => ?_)
          · skip
            refine zw_const ⟨rfl, rfl⟩ ?_
            refine zw_goto ⟨rfl, rfl⟩ rfl ?_
            refine zw_zret rfl (by first | exact Or.inl rfl | exact Or.inr rfl | omega) ?_
            refine zw_ifne ⟨rfl, rfl⟩ rfl (fun _ => ?_) (fun q => absurd (by decide) q)
            refine zw_iinc_4 ⟨rfl, rfl⟩ (by omega) ?_
            refine zw_goto ⟨rfl, rfl⟩ rfl ?_
            refine ih _ _ ⟨by omega, by omega⟩ ?_ i3 (by omega)
            rw [yfo_s _ i1.1]
            unfold yr0
            rw [if_neg (fun z => by have z1 := z.1; have z2 := z.2; omega)]
            exact i2
          · skip
            refine zw_iload ⟨rfl, rfl⟩ rfl ?_
            refine zw_const ⟨rfl, rfl⟩ ?_
            refine zw_icne ⟨rfl, rfl⟩ rfl (fun c18 => ?_) (fun c18 => ?_)
            · skip
              refine zw_const ⟨rfl, rfl⟩ ?_
              refine zw_zret rfl (by first | exact Or.inl rfl | exact Or.inr rfl | omega) ?_
              refine zw_ifne ⟨rfl, rfl⟩ rfl (fun q => absurd q (by decide)) (fun _ => ?_)
              have hs6 : yc0 σ p = 1 := if_pos ⟨fun z => by omega, fun z => by omega⟩
              refine zw_aload ⟨rfl, rfl⟩ rfl ?_
              refine zw_aload ⟨rfl, rfl⟩ rfl ?_
              refine zw_getR 2 ⟨rfl, rfl⟩ zr_138_2 ?_
              refine zw_iload ⟨rfl, rfl⟩ rfl ?_
              refine zw_callv2 ⟨rfl, rfl⟩ rfl zc_2 rfl ?_
              refine m_letterAt_s hV.1.2 hS2 ?_
              refine zw_cavv2 ⟨rfl, rfl⟩ rfl zc_138 rfl ?_
              refine m_rput i2 (by omega) (fun N1 p1 => ?_)
              refine zw_iinc_4 ⟨rfl, rfl⟩ (by omega) ?_
              refine zw_goto ⟨rfl, rfl⟩ rfl ?_
              refine ih _ _ ⟨by omega, by omega⟩ ?_ (i3.tr p1.2) (by omega)
              rw [yfo_s _ i1.1]
              unfold yr0
              rw [if_pos ⟨fun z => by omega, fun z => by omega⟩]
              exact p1.1
            · skip
              refine zw_const ⟨rfl, rfl⟩ ?_
              refine zw_goto ⟨rfl, rfl⟩ rfl ?_
              refine zw_zret rfl (by first | exact Or.inl rfl | exact Or.inr rfl | omega) ?_
              refine zw_ifne ⟨rfl, rfl⟩ rfl (fun _ => ?_) (fun q => absurd (by decide) q)
              refine zw_iinc_4 ⟨rfl, rfl⟩ (by omega) ?_
              refine zw_goto ⟨rfl, rfl⟩ rfl ?_
              refine ih _ _ ⟨by omega, by omega⟩ ?_ i3 (by omega)
              rw [yfo_s _ i1.1]
              unfold yr0
              rw [if_neg (fun z => by have z1 := z.1; have z2 := z.2; omega)]
              exact i2
        · skip
          refine zw_const ⟨rfl, rfl⟩ ?_
          refine zw_goto ⟨rfl, rfl⟩ rfl ?_
          refine zw_zret rfl (by first | exact Or.inl rfl | exact Or.inr rfl | omega) ?_
          refine zw_ifne ⟨rfl, rfl⟩ rfl (fun _ => ?_) (fun q => absurd (by decide) q)
          refine zw_iinc_4 ⟨rfl, rfl⟩ (by omega) ?_
          refine zw_goto ⟨rfl, rfl⟩ rfl ?_
          refine ih _ _ ⟨by omega, by omega⟩ ?_ i3 (by omega)
          rw [yfo_s _ i1.1]
          unfold yr0
          rw [if_neg (fun z => by have z1 := z.1; have z2 := z.2; omega)]
          exact i2
end

theorem m_read {c : Int} {M : zM} {Q : zV → zM → Prop} {σ : yS} {R : yR} (hV : yVal σ) (hS : yTold M σ) (hC : yCut M (yK σ) (σ 0)) (hR : yRb M R) (hc : 0 ≤ c ∧ c < yci (yK σ) (σ 0)) (hg : R.1 ≤ 2 * yB (yK σ) c) (k : ∀ N : zM, (yRb N (yrd σ (yB (yK σ) c) (yB (yK σ) (c + 1)) R) ∧ yrf M N) → Q (3, 0) N) : zWp kRb_read 0 [(1, 138), (0, c), (3, 0), (3, 0), (3, 0)] [] M Q := by
  have hK := yKr_K hV
  refine zw_aload ⟨rfl, rfl⟩ rfl ?_
  refine zw_getR 105 ⟨rfl, rfl⟩ zr_138_3 ?_
  refine zw_iload ⟨rfl, rfl⟩ rfl ?_
  refine zw_const ⟨rfl, rfl⟩ ?_
  refine zw_callv3 ⟨rfl, rfl⟩ rfl zc_105 rfl ?_
  refine m_beg_c hK hC hc ?_
  refine zw_istore_2 ⟨rfl, rfl⟩ ?_
  refine zw_aload ⟨rfl, rfl⟩ rfl ?_
  refine zw_getR 105 ⟨rfl, rfl⟩ zr_138_3 ?_
  refine zw_iload ⟨rfl, rfl⟩ rfl ?_
  refine zw_callv2 ⟨rfl, rfl⟩ rfl zc_105 rfl ?_
  refine m_end_c hK hC hc ?_
  refine zw_istore_3 ⟨rfl, rfl⟩ ?_
  refine zw_iload ⟨rfl, rfl⟩ rfl ?_
  refine zw_istore_4 ⟨rfl, rfl⟩ ?_
  obtain ⟨⟨a1, a2, a3⟩, -⟩ := yB_cl hK hc.1 hc.2
  exact m_read_l hV hS hC hR hc hg k _ _ _ ⟨Int.le_refl _, by omega⟩ (by rw [yfo_0 _ (Int.le_refl _)]; exact hR) yrf.rf (Nat.lt_succ_self _)
