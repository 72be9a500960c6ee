/-! What is found -/
def yfp (σ : yS) (tp : Int → Int) (n p : Int) : Int := if ysa (yK σ) (σ 0) p ≠ -1 ∧ ysa (yK σ) (σ 0) (p + n) ≠ -1 then yall (fun k => yL σ (p + k) = tp k - 97) n.toNat else 0
def yfi (σ : yS) (tp : Int → Int) (n a : Int) : Int := if n = 0 then -1 else yfst (fun p => yfp σ tp n p = 1) a (σ 0 - n - a + 1).toNat
def yo_find (σ : yS) (un : Int) (uh : Int → yS) (mk : Int → Int) (im : Int → yS) (tn : Int) (tp : Int → Int) (ff fp : Int) (n a : Int) : Int × yWd := if ¬ (0 ≤ n ∧ n ≤ tn) then (-3, (σ, un, uh, mk, im, tn, tp, ff, fp)) else if ¬ (0 ≤ a ∧ a ≤ σ 0) then (-5, (σ, un, uh, mk, im, tn, tp, ff, fp)) else (yfi σ tp n a, σ, un, uh, mk, im, 0, tp, ff, fp)
theorem yfp_r (σ : yS) (tp : Int → Int) (n p : Int) : yfp σ tp n p = 0 ∨ yfp σ tp n p = 1 := by
  unfold yfp; split
  · exact yall_r _ _
  · exact Or.inl rfl
section
set_option maxHeartbeats 4000000
theorem m_standsAt_l  {p n : Int} {tp : Int → Int} {M : zM} {Q : zV → zM → Prop} {σ : yS} (hV : yVal σ) (hS : yTold M σ) (hT : ∀ k, 0 ≤ k → k < n → M 1 k = tp k) (hp : 0 ≤ p ∧ p + n ≤ σ 0) (hn1 : 1 ≤ n ∧ n ≤ 400) (hb : ∀ k, 0 ≤ k → k < n → 0 ≤ tp k ∧ tp k ≤ 255) (k1 : Q (0, yall (fun k => yL σ (p + k) = tp k - 97) n.toNat) M) : ∀ (f : Nat) (k : Int), (0 ≤ k ∧ k ≤ n) → (∀ j, 0 ≤ j → j < k → yL σ (p + j) = tp j - 97) → (n - k).toNat < f → zWp kX_standsAt 2 [(1, 0), (0, p), (0, n), (0, k)] [] M Q := by
  intro f
  induction f with
  | zero => intro k i1 i2 hf; exact absurd hf (Nat.not_lt_zero _)
  | succ f ih =>
    intro k i1 i2 hf
    have hn9 := hV.1
    refine zw_iload ⟨rfl, rfl⟩ rfl ?_
    refine zw_iload ⟨rfl, rfl⟩ rfl ?_
    refine zw_icge ⟨rfl, rfl⟩ rfl (fun c1 => ?_) (fun c1 => ?_)
    · skip
      refine zw_const ⟨rfl, rfl⟩ ?_
      refine zw_zret rfl (by first | exact Or.inl rfl | exact Or.inr rfl | omega) ?_
      rw [yall_1 _ _ (fun j j1 j2 => i2 j j1 (by omega))] at k1
      exact k1
    · skip
      refine zw_iload ⟨rfl, rfl⟩ rfl ?_
      refine zw_const ⟨rfl, rfl⟩ ?_
      refine zw_icge ⟨rfl, rfl⟩ rfl (fun c2 => ?_) (fun c2 => ?_)
      · skip
        refine zw_const ⟨rfl, rfl⟩ ?_
        refine zw_zret rfl (by first | exact Or.inl rfl | exact Or.inr rfl | omega) ?_
        rw [yall_1 _ _ (fun j j1 j2 => i2 j j1 (by omega))] at k1
        exact k1
      · skip
        have hbk := hb k (by omega) (by omega)
        have hlr := yL_r hV (p := p + k) (by omega) (by omega)
        refine zw_aload ⟨rfl, rfl⟩ rfl ?_
        refine zw_getR 2 ⟨rfl, rfl⟩ zr_0_4 ?_
        refine zw_iload ⟨rfl, rfl⟩ rfl ?_
        refine zw_iload ⟨rfl, rfl⟩ rfl ?_
        refine zw_iadd ⟨rfl, rfl⟩ (by omega) ?_
        refine zw_callv2 ⟨rfl, rfl⟩ rfl zc_2 rfl ?_
        refine m_letterAt_s hV.1.2 hS ?_
        refine zw_aload ⟨rfl, rfl⟩ rfl ?_
        refine zw_getR 1 ⟨rfl, rfl⟩ zr_0_0 ?_
        refine zw_iload ⟨rfl, rfl⟩ rfl ?_
        refine zw_ialdv (v := tp k) ⟨rfl, rfl⟩ za_1 (by omega) (hT k (by omega) (by omega)) ?_
        refine zw_const ⟨rfl, rfl⟩ ?_
        refine zw_isub ⟨rfl, rfl⟩ (by omega) ?_
        refine zw_iceq ⟨rfl, rfl⟩ rfl (fun c3 => ?_) (fun c3 => ?_)
        · skip
          refine zw_iinc_3 ⟨rfl, rfl⟩ (by omega) ?_
          refine zw_goto ⟨rfl, rfl⟩ rfl ?_
          refine ih _ ⟨by omega, by omega⟩ (fun j j1 j2 => ?_) (by omega)
          by_cases q : j = k
          · subst q; omega
          · exact i2 j j1 (by omega)
        · skip
          refine zw_const ⟨rfl, rfl⟩ ?_
          refine zw_zret rfl (by first | exact Or.inl rfl | exact Or.inr rfl | omega) ?_
          rw [yall_0 _ _ k i1.1 (by omega) (by omega)] at k1
          exact k1

theorem m_standsAt {p n : Int} {tp : Int → Int} {M : zM} {Q : zV → zM → Prop} {σ : yS} (hV : yVal σ) (hS : yTold M σ) (hT : ∀ k, 0 ≤ k → k < n → M 1 k = tp k) (hp : 0 ≤ p ∧ p + n ≤ σ 0) (hn1 : 1 ≤ n ∧ n ≤ 400) (hb : ∀ k, 0 ≤ k → k < n → 0 ≤ tp k ∧ tp k ≤ 255) (k1 : Q (0, yall (fun k => yL σ (p + k) = tp k - 97) n.toNat) M) : zWp kX_standsAt 0 [(1, 0), (0, p), (0, n), (3, 0)] [] M Q := by
  refine zw_const ⟨rfl, rfl⟩ ?_
  refine zw_istore_3 ⟨rfl, rfl⟩ ?_
  exact m_standsAt_l hV hS hT hp hn1 hb k1 _ _ ⟨Int.le_refl _, by omega⟩ (fun j a b => by omega) (Nat.lt_succ_self _)

theorem c_find_l  {n a v : Int} {tp : Int → Int} {M : zM} {Q : zV → zM → Prop} {σ : yS} (hV : yVal σ) (hS : yTold M σ) (hG : ySet M σ) (hT : ∀ k, 0 ≤ k → k < n → M 1 k = tp k) (hn1 : 1 ≤ n ∧ n ≤ 400) (hb : ∀ k, 0 ≤ k → k < n → 0 ≤ tp k ∧ tp k ≤ 255) (k1 : Q (0, v) M) : ∀ (f : Nat) (p : Int), (0 ≤ p ∧ p ≤ σ 0) → (yfst (fun p => yfp σ tp n p = 1) p (σ 0 - n - p + 1).toNat = v) → (σ 0 + 1 - p).toNat < f → zWp kX_find 26 [(1, 0), (0, n), (0, a), (0, p)] [] M Q := by
  intro f
  induction f with
  | zero => intro p i1 i2 hf; exact absurd hf (Nat.not_lt_zero _)
  | succ f ih =>
    intro p i1 i2 hf
    have hK := yKr_K hV
    have hn := hV.1
    have hci := yci_60 hK
    refine zw_iload ⟨rfl, rfl⟩ rfl ?_
    refine zw_iload ⟨rfl, rfl⟩ rfl ?_
    refine zw_iadd ⟨rfl, rfl⟩ (by omega) ?_
    refine zw_aload ⟨rfl, rfl⟩ rfl ?_
    refine zw_getR 2 ⟨rfl, rfl⟩ zr_0_4 ?_
    refine zw_getIv (v := σ 0) ⟨rfl, rfl⟩ zc_2 (by decide) (hS.2.1) ?_
    refine zw_icgt ⟨rfl, rfl⟩ rfl (fun c1 => ?_) (fun c1 => ?_)
    · skip
      refine zw_const ⟨rfl, rfl⟩ ?_
      refine zw_ret rfl ?_
      rw [show (σ 0 - n - p + 1).toNat = 0 by omega] at i2
      unfold yfst at i2
      rw [← i2] at k1
      exact k1
    · skip
      rw [show (σ 0 - n - p + 1).toNat = (σ 0 - n - (p + 1) + 1).toNat + 1 by omega] at i2
      unfold yfst at i2
      refine zw_aload ⟨rfl, rfl⟩ rfl ?_
      refine zw_getR 105 ⟨rfl, rfl⟩ zr_0_8 ?_
      refine zw_iload ⟨rfl, rfl⟩ rfl ?_
      refine zw_callv2 ⟨rfl, rfl⟩ rfl zc_105 rfl ?_
      refine m_stopAt hK hG.1.1 ?_
      refine zw_const ⟨rfl, rfl⟩ ?_
      refine zw_iceq ⟨rfl, rfl⟩ rfl (fun c2 => ?_) (fun c2 => ?_)
      · skip
        refine zw_iinc_3 ⟨rfl, rfl⟩ (by omega) ?_
        refine zw_goto ⟨rfl, rfl⟩ rfl ?_
        have e : yfp σ tp n p = 0 := by
          unfold yfp
          first
            | (rw [if_neg (fun z => by have z1 := z.1; have z2 := z.2; omega)]; done)
            | (rw [if_pos ⟨by omega, by omega⟩]; omega)
        rw [if_neg (by omega)] at i2
        exact ih _ ⟨by omega, by omega⟩ i2 (by omega)
      · skip
        refine zw_aload ⟨rfl, rfl⟩ rfl ?_
        refine zw_getR 105 ⟨rfl, rfl⟩ zr_0_8 ?_
        refine zw_iload ⟨rfl, rfl⟩ rfl ?_
        refine zw_iload ⟨rfl, rfl⟩ rfl ?_
        refine zw_iadd ⟨rfl, rfl⟩ (by omega) ?_
        refine zw_callv2 ⟨rfl, rfl⟩ rfl zc_105 rfl ?_
        refine m_stopAt hK hG.1.1 ?_
        refine zw_const ⟨rfl, rfl⟩ ?_
        refine zw_iceq ⟨rfl, rfl⟩ rfl (fun c3 => ?_) (fun c3 => ?_)
        · skip
          refine zw_iinc_3 ⟨rfl, rfl⟩ (by omega) ?_
          refine zw_goto ⟨rfl, rfl⟩ rfl ?_
          have e : yfp σ tp n p = 0 := by
            unfold yfp
            first
              | (rw [if_neg (fun z => by have z1 := z.1; have z2 := z.2; omega)]; done)
              | (rw [if_pos ⟨by omega, by omega⟩]; omega)
          rw [if_neg (by omega)] at i2
          exact ih _ ⟨by omega, by omega⟩ i2 (by omega)
        · skip
          refine zw_aload ⟨rfl, rfl⟩ rfl ?_
          refine zw_iload ⟨rfl, rfl⟩ rfl ?_
          refine zw_iload ⟨rfl, rfl⟩ rfl ?_
          refine zw_callv3 ⟨rfl, rfl⟩ rfl zc_0 rfl ?_
          refine m_standsAt hV hS hT ⟨by omega, by omega⟩ hn1 hb ?_
          have hpr := yall_r (fun k => yL σ (p + k) = tp k - 97) n.toNat
          refine zw_ifeq ⟨rfl, rfl⟩ rfl (fun c4 => ?_) (fun c4 => ?_)
          · skip
            refine zw_iinc_3 ⟨rfl, rfl⟩ (by omega) ?_
            refine zw_goto ⟨rfl, rfl⟩ rfl ?_
            have e : yfp σ tp n p = 0 := by
              unfold yfp
              first
                | (rw [if_neg (fun z => by have z1 := z.1; have z2 := z.2; omega)]; done)
                | (rw [if_pos ⟨by omega, by omega⟩]; omega)
            rw [if_neg (by omega)] at i2
            exact ih _ ⟨by omega, by omega⟩ i2 (by omega)
          · skip
            refine zw_iload ⟨rfl, rfl⟩ rfl ?_
            refine zw_ret rfl ?_
            have e : yfp σ tp n p = 1 := by
              unfold yfp
              rw [if_pos ⟨by omega, by omega⟩]; omega
            rw [if_pos e] at i2
            rw [← i2] at k1
            exact k1

theorem c_find {n a : Int} {M : zM} {Q : zV → zM → Prop} {σ : yS} {un : Int} {uh : Int → yS} {mk : Int → Int} {im : Int → yS} {tn : Int} {tp : Int → Int} {ff fp : Int} (hC : yCW M σ un uh mk im tn tp ff fp) (k : ∀ N : zM, yCw N (yo_find σ un uh mk im tn tp ff fp n a).2 → (∀ x, 208 ≤ x → N x = M x) → Q (0, (yo_find σ un uh mk im tn tp ff fp n a).1) N) : zWp kX_find 0 [(1, 0), (0, n), (0, a), (3, 0)] [] M Q := by
  obtain ⟨hW, hS, hG, hz, hH, hP, hI, hT, hF1, hF2⟩ := id hC
  have hV := hW.1
  have hn := hV.1
  have hu := hW.2.1.1
  have htn := hW.2.2.2.1
  refine zw_iload ⟨rfl, rfl⟩ rfl ?_
  refine zw_iflt ⟨rfl, rfl⟩ rfl (fun c1 => ?_) (fun c1 => ?_)
  · skip
    refine zw_const ⟨rfl, rfl⟩ ?_
    refine zw_ret rfl ?_
    have e : yo_find σ un uh mk im tn tp ff fp n a = (-3, σ, un, uh, mk, im, tn, tp, ff, fp) := by unfold yo_find; (repeat' split) <;> first | rfl | (exfalso; omega)
    rw [e] at k
    exact k _ hC (fun _ _ => rfl)
  · skip
    refine zw_iload ⟨rfl, rfl⟩ rfl ?_
    refine zw_aload ⟨rfl, rfl⟩ rfl ?_
    refine zw_getIv (v := tn) ⟨rfl, rfl⟩ zc_0 (by decide) (hT.1) ?_
    refine zw_icle ⟨rfl, rfl⟩ rfl (fun c2 => ?_) (fun c2 => ?_)
    · skip
      refine zw_iload ⟨rfl, rfl⟩ rfl ?_
      refine zw_iflt ⟨rfl, rfl⟩ rfl (fun c3 => ?_) (fun c3 => ?_)
      · skip
        refine zw_const ⟨rfl, rfl⟩ ?_
        refine zw_ret rfl ?_
        have e : yo_find σ un uh mk im tn tp ff fp n a = (-5, σ, un, uh, mk, im, tn, tp, ff, fp) := by unfold yo_find; (repeat' split) <;> first | rfl | (exfalso; omega)
        rw [e] at k
        exact k _ hC (fun _ _ => rfl)
      · skip
        refine zw_iload ⟨rfl, rfl⟩ rfl ?_
        refine zw_aload ⟨rfl, rfl⟩ rfl ?_
        refine zw_getR 2 ⟨rfl, rfl⟩ zr_0_4 ?_
        refine zw_getIv (v := σ 0) ⟨rfl, rfl⟩ zc_2 (by decide) (hS.2.1) ?_
        refine zw_icle ⟨rfl, rfl⟩ rfl (fun c4 => ?_) (fun c4 => ?_)
        · skip
          refine zw_aload ⟨rfl, rfl⟩ rfl ?_
          refine zw_const ⟨rfl, rfl⟩ ?_
          refine zw_putI ⟨rfl, rfl⟩ zc_0 (by decide) (fun h => absurd h (by decide)) ?_
          refine zw_iload ⟨rfl, rfl⟩ rfl ?_
          refine zw_ifne ⟨rfl, rfl⟩ rfl (fun c5 => ?_) (fun c5 => ?_)
          · skip
            refine zw_iload ⟨rfl, rfl⟩ rfl ?_
            refine zw_istore_3 ⟨rfl, rfl⟩ ?_
            have w1 : yCW (zup M 0 1 0) σ un uh mk im 0 tp ff fp := ⟨⟨hW.1, hW.2.1, hW.2.2.1, ⟨Int.le_refl _, by decide⟩, fun k k1 k2 => by omega⟩, hS.cg (fun b b1 b2 => zup_row (by omega)), hG.cg (fun b b1 b2 => zup_row (by omega)), hz, hH.cg (fun b b1 b2 => zup_row (by omega)), hP, fun i hi => ⟨(hI i hi).1, fun m => ((hI i hi).2 m).cg (fun b b1 b2 => zup_row (by omega))⟩, ⟨zup_eq _ _ _ _, fun k k1 k2 => by omega⟩, (zup_ni (by decide)).trans hF1, (zup_ni (by decide)).trans hF2⟩
            have w2 : ∀ x, 208 ≤ x → zup M 0 1 0 x = M x := fun x hx => zup_row (by omega)
            have e : yo_find σ un uh mk im tn tp ff fp n a = (yfi σ tp n a, σ, un, uh, mk, im, 0, tp, ff, fp) := by unfold yo_find; (repeat' split) <;> first | rfl | (exfalso; omega)
            rw [e] at k
            exact c_find_l (M := zup M 0 1 0) hV w1.2.1 w1.2.2.1 (fun k k1 k2 => (congrFun (zup_row (by decide)) k).trans (hT.2 k k1 (by omega))) ⟨by omega, by omega⟩ (fun k k1 k2 => hW.2.2.2.2 k k1 (by omega)) (k _ w1 w2) _ _ ⟨by omega, by omega⟩ (if_neg (by omega) : yfi σ tp n a = _).symm (Nat.lt_succ_self _)
          · skip
            refine zw_const ⟨rfl, rfl⟩ ?_
            refine zw_ret rfl ?_
            have w1 : yCW (zup M 0 1 0) σ un uh mk im 0 tp ff fp := ⟨⟨hW.1, hW.2.1, hW.2.2.1, ⟨Int.le_refl _, by decide⟩, fun k k1 k2 => by omega⟩, hS.cg (fun b b1 b2 => zup_row (by omega)), hG.cg (fun b b1 b2 => zup_row (by omega)), hz, hH.cg (fun b b1 b2 => zup_row (by omega)), hP, fun i hi => ⟨(hI i hi).1, fun m => ((hI i hi).2 m).cg (fun b b1 b2 => zup_row (by omega))⟩, ⟨zup_eq _ _ _ _, fun k k1 k2 => by omega⟩, (zup_ni (by decide)).trans hF1, (zup_ni (by decide)).trans hF2⟩
            have w2 : ∀ x, 208 ≤ x → zup M 0 1 0 x = M x := fun x hx => zup_row (by omega)
            have e : yo_find σ un uh mk im tn tp ff fp n a = (-1, σ, un, uh, mk, im, 0, tp, ff, fp) := by unfold yo_find yfi; (repeat' split) <;> first | rfl | (exfalso; omega)
            rw [e] at k
            exact k _ w1 w2
        · skip
          refine zw_const ⟨rfl, rfl⟩ ?_
          refine zw_ret rfl ?_
          have e : yo_find σ un uh mk im tn tp ff fp n a = (-5, σ, un, uh, mk, im, tn, tp, ff, fp) := by unfold yo_find; (repeat' split) <;> first | rfl | (exfalso; omega)
          rw [e] at k
          exact k _ hC (fun _ _ => rfl)
    · skip
      refine zw_const ⟨rfl, rfl⟩ ?_
      refine zw_ret rfl ?_
      have e : yo_find σ un uh mk im tn tp ff fp n a = (-3, σ, un, uh, mk, im, tn, tp, ff, fp) := by unfold yo_find; (repeat' split) <;> first | rfl | (exfalso; omega)
      rw [e] at k
      exact k _ hC (fun _ _ => rfl)

theorem d_find_i  {p : Int} {n a : Int} {tp : Int → Int} {M : zM} {Q : zV → zM → Prop} {σ : yS} (hV : yVal σ) (hM : yMo M σ) (hG : yLay M σ) (hT : ∀ k, 0 ≤ k → k < n → M 236 k = zbyte (tp k)) (hn1 : 1 ≤ n ∧ n ≤ 400) (hb : ∀ k, 0 ≤ k → k < n → 0 ≤ tp k ∧ tp k ≤ 255) (hp : 0 ≤ p ∧ p + n ≤ σ 0) (kk : ∀ s k, s = yfp σ tp n p → zWp kM_find 79 [(1, 208), (0, n), (0, a), (0, p), (0, s), (0, k)] [] M Q) : ∀ (f : Nat) (s k : Int), (0 ≤ k ∧ k ≤ n) → ((s = 1 ∧ (ysa (yK σ) (σ 0) p ≠ -1 ∧ ysa (yK σ) (σ 0) (p + n) ≠ -1) ∧ ∀ j, 0 ≤ j → j < k → yL σ (p + j) = tp j - 97) ∨ (s = 0 ∧ yfp σ tp n p = 0)) → (n - k).toNat < f → zWp kM_find 56 [(1, 208), (0, n), (0, a), (0, p), (0, s), (0, k)] [] M Q := by
  intro f
  induction f with
  | zero => intro s k i1 i2 hf; exact absurd hf (Nat.not_lt_zero _)
  | succ f ih =>
    intro s k i1 i2 hf
    have hn9 := hV.1
    refine zw_iload ⟨rfl, rfl⟩ rfl ?_
    refine zw_iload ⟨rfl, rfl⟩ rfl ?_
    refine zw_icge ⟨rfl, rfl⟩ rfl (fun c1 => ?_) (fun c1 => ?_)
    · skip
      refine kk _ _ ?_
      rcases i2 with ⟨e1, e2, e3⟩ | ⟨e1, e2⟩
      · rw [e1]
        unfold yfp
        rw [if_pos e2]
        exact (yall_1 _ _ (fun j j1 j2 => e3 j j1 (by omega))).symm
      · rw [e1, e2]
    · skip
      refine zw_iload ⟨rfl, rfl⟩ rfl ?_
      refine zw_ifeq ⟨rfl, rfl⟩ rfl (fun c2 => ?_) (fun c2 => ?_)
      · skip
        refine kk _ _ ?_
        rcases i2 with ⟨e1, e2, e3⟩ | ⟨e1, e2⟩
        · rw [e1]
          unfold yfp
          rw [if_pos e2]
          exact (yall_1 _ _ (fun j j1 j2 => e3 j j1 (by omega))).symm
        · rw [e1, e2]
      · skip
        have hbk := hb k (by omega) (by omega)
        have hlr := yL_r hV (p := p + k) (by omega) (by omega)
        have hzb : (zbyte (tp k) = tp k ∧ tp k < 128) ∨ (zbyte (tp k) < 0 ∧ 128 ≤ tp k) := by unfold zbyte; omega
        obtain ⟨e1, e2, e3⟩ := i2.resolve_right (fun z => absurd z.1 (by omega))
        refine zw_aload ⟨rfl, rfl⟩ rfl ?_
        refine zw_getR 236 ⟨rfl, rfl⟩ zr_208_34 ?_
        refine zw_iload ⟨rfl, rfl⟩ rfl ?_
        refine zw_baldv (v := zbyte (tp k)) ⟨rfl, rfl⟩ za_236 (by decide) (by omega) (hT k (by omega) (by omega)) ?_
        refine zw_const ⟨rfl, rfl⟩ ?_
        refine zw_aload ⟨rfl, rfl⟩ rfl ?_
        refine zw_iload ⟨rfl, rfl⟩ rfl ?_
        refine zw_iload ⟨rfl, rfl⟩ rfl ?_
        refine zw_iadd ⟨rfl, rfl⟩ (by omega) ?_
        refine zw_callv2 ⟨rfl, rfl⟩ rfl zc_208 rfl ?_
        refine m_MletterAt hV hM ⟨by omega, by omega⟩ ?_
        refine zw_iadd ⟨rfl, rfl⟩ (by omega) ?_
        refine zw_icne ⟨rfl, rfl⟩ rfl (fun c3 => ?_) (fun c3 => ?_)
        · skip
          refine zw_const ⟨rfl, rfl⟩ ?_
          refine zw_istore_4 ⟨rfl, rfl⟩ ?_
          refine zw_iinc_5 ⟨rfl, rfl⟩ (by omega) ?_
          refine zw_goto ⟨rfl, rfl⟩ rfl ?_
          refine ih _ _ ⟨by omega, by omega⟩ (Or.inr ⟨rfl, ?_⟩) (by omega)
          unfold yfp
          rw [if_pos e2]
          exact yall_0 _ _ k i1.1 (by omega) (by omega)
        · skip
          refine zw_const ⟨rfl, rfl⟩ ?_
          refine zw_goto ⟨rfl, rfl⟩ rfl ?_
          refine zw_istore_4 ⟨rfl, rfl⟩ ?_
          refine zw_iinc_5 ⟨rfl, rfl⟩ (by omega) ?_
          refine zw_goto ⟨rfl, rfl⟩ rfl ?_
          refine ih _ _ ⟨by omega, by omega⟩ (Or.inl ⟨rfl, e2, fun j j1 j2 => ?_⟩) (by omega)
          by_cases q : j = k
          · subst q; omega
          · exact e3 j j1 (by omega)

theorem d_find_e {n a p s k : Int} {M : zM} {Q : zV → zM → Prop} (hs : 0 ≤ p ∧ p ≤ 60) (k1 : s ≠ 0 → Q (0, p) M) (k2 : s = 0 → zWp kM_find 30 [(1, 208), (0, n), (0, a), (0, p + 1), (0, s), (0, k)] [] M Q) : zWp kM_find 79 [(1, 208), (0, n), (0, a), (0, p), (0, s), (0, k)] [] M Q := by
  refine zw_iload ⟨rfl, rfl⟩ rfl ?_
  refine zw_ifeq ⟨rfl, rfl⟩ rfl (fun c1 => ?_) (fun c1 => ?_)
  · skip
    refine zw_iinc_3 ⟨rfl, rfl⟩ (by omega) ?_
    refine zw_goto ⟨rfl, rfl⟩ rfl ?_
    exact k2 (by omega)
  · skip
    refine zw_iload ⟨rfl, rfl⟩ rfl ?_
    refine zw_ret rfl ?_
    exact k1 (by omega)

theorem d_find_l {v : Int} {n a : Int} {tp : Int → Int} {M : zM} {Q : zV → zM → Prop} {σ : yS} (hV : yVal σ) (hM : yMo M σ) (hG : yLay M σ) (hT : ∀ k, 0 ≤ k → k < n → M 236 k = zbyte (tp k)) (hn1 : 1 ≤ n ∧ n ≤ 400) (hb : ∀ k, 0 ≤ k → k < n → 0 ≤ tp k ∧ tp k ≤ 255) (k1 : Q (0, v) M) : ∀ (f0 : Nat) (p : Int) (u4 u5 : zV), (0 ≤ p ∧ p ≤ σ 0) → (yfst (fun p => yfp σ tp n p = 1) p (σ 0 - n - p + 1).toNat = v) → (σ 0 + 1 - p).toNat < f0 → zWp kM_find 30 [(1, 208), (0, n), (0, a), (0, p), u4, u5] [] M Q := by
  intro f0
  induction f0 with
  | zero => intro p u4 u5 i1 i2 hf0; exact absurd hf0 (Nat.not_lt_zero _)
  | succ f0 ih =>
    intro p u4 u5 i1 i2 hf0
    have hK := yKr_K hV
    have hn := hV.1
    have hci := yci_60 hK
    refine zw_iload ⟨rfl, rfl⟩ rfl ?_
    refine zw_iload ⟨rfl, rfl⟩ rfl ?_
    refine zw_iadd ⟨rfl, rfl⟩ (by omega) ?_
    refine zw_aload ⟨rfl, rfl⟩ rfl ?_
    refine zw_callv1 ⟨rfl, rfl⟩ rfl zc_208 rfl ?_
    refine m_Mmany hV hM ?_
    refine zw_icgt ⟨rfl, rfl⟩ rfl (fun c1 => ?_) (fun c1 => ?_)
    · skip
      refine zw_const ⟨rfl, rfl⟩ ?_
      refine zw_ret rfl ?_
      rw [show (σ 0 - n - p + 1).toNat = 0 by omega] at i2
      unfold yfst at i2
      rw [← i2] at k1
      exact k1
    · skip
      refine zw_iload ⟨rfl, rfl⟩ rfl ?_
      refine zw_ifle ⟨rfl, rfl⟩ rfl (fun c2 => ?_) (fun c2 => ?_)
      · skip
        refine zw_const ⟨rfl, rfl⟩ ?_
        refine zw_ret rfl ?_
        rw [show (σ 0 - n - p + 1).toNat = 0 by omega] at i2
        unfold yfst at i2
        rw [← i2] at k1
        exact k1
      · skip
        refine zw_aload ⟨rfl, rfl⟩ rfl ?_
        refine zw_iload ⟨rfl, rfl⟩ rfl ?_
        refine zw_callv2 ⟨rfl, rfl⟩ rfl zc_208 rfl ?_
        refine m_stopOf hV hG ?_
        refine zw_const ⟨rfl, rfl⟩ ?_
        refine zw_iceq ⟨rfl, rfl⟩ rfl (fun c3 => ?_) (fun c3 => ?_)
        · skip
          refine zw_const ⟨rfl, rfl⟩ ?_
          refine zw_istore_4 ⟨rfl, rfl⟩ ?_
          refine zw_const ⟨rfl, rfl⟩ ?_
          refine zw_istore_5 ⟨rfl, rfl⟩ ?_
          rw [show (σ 0 - n - p + 1).toNat = (σ 0 - n - (p + 1) + 1).toNat + 1 by omega] at i2
          unfold yfst at i2
          refine d_find_i hV hM hG hT hn1 hb ⟨by omega, by omega⟩ (fun s k hs => ?_) _ _ _ ⟨Int.le_refl _, by omega⟩ (Or.inr ⟨rfl, if_neg (fun z => by have z1 := z.1; have z2 := z.2; omega)⟩) (Nat.lt_succ_self _)
          have hpr := yfp_r σ tp n p
          refine d_find_e (by omega) (fun z => ?_) (fun z => ?_)
          · rw [if_pos (by omega)] at i2
            rw [← i2] at k1
            exact k1
          · rw [if_neg (by omega)] at i2
            exact ih _ _ _ ⟨by omega, by omega⟩ i2 (by omega)
        · skip
          refine zw_aload ⟨rfl, rfl⟩ rfl ?_
          refine zw_iload ⟨rfl, rfl⟩ rfl ?_
          refine zw_iload ⟨rfl, rfl⟩ rfl ?_
          refine zw_iadd ⟨rfl, rfl⟩ (by omega) ?_
          refine zw_callv2 ⟨rfl, rfl⟩ rfl zc_208 rfl ?_
          refine m_stopOf hV hG ?_
          refine zw_const ⟨rfl, rfl⟩ ?_
          refine zw_iceq ⟨rfl, rfl⟩ rfl (fun c4 => ?_) (fun c4 => ?_)
          · skip
            refine zw_const ⟨rfl, rfl⟩ ?_
            refine zw_istore_4 ⟨rfl, rfl⟩ ?_
            refine zw_const ⟨rfl, rfl⟩ ?_
            refine zw_istore_5 ⟨rfl, rfl⟩ ?_
            rw [show (σ 0 - n - p + 1).toNat = (σ 0 - n - (p + 1) + 1).toNat + 1 by omega] at i2
            unfold yfst at i2
            refine d_find_i hV hM hG hT hn1 hb ⟨by omega, by omega⟩ (fun s k hs => ?_) _ _ _ ⟨Int.le_refl _, by omega⟩ (Or.inr ⟨rfl, if_neg (fun z => by have z1 := z.1; have z2 := z.2; omega)⟩) (Nat.lt_succ_self _)
            have hpr := yfp_r σ tp n p
            refine d_find_e (by omega) (fun z => ?_) (fun z => ?_)
            · rw [if_pos (by omega)] at i2
              rw [← i2] at k1
              exact k1
            · rw [if_neg (by omega)] at i2
              exact ih _ _ _ ⟨by omega, by omega⟩ i2 (by omega)
          · skip
            refine zw_const ⟨rfl, rfl⟩ ?_
            refine zw_goto ⟨rfl, rfl⟩ rfl ?_
            refine zw_istore_4 ⟨rfl, rfl⟩ ?_
            refine zw_const ⟨rfl, rfl⟩ ?_
            refine zw_istore_5 ⟨rfl, rfl⟩ ?_
            rw [show (σ 0 - n - p + 1).toNat = (σ 0 - n - (p + 1) + 1).toNat + 1 by omega] at i2
            unfold yfst at i2
            refine d_find_i hV hM hG hT hn1 hb ⟨by omega, by omega⟩ (fun s k hs => ?_) _ _ _ ⟨Int.le_refl _, by omega⟩ (Or.inl ⟨rfl, ⟨by omega, by omega⟩, fun j j1 j2 => by omega⟩) (Nat.lt_succ_self _)
            have hpr := yfp_r σ tp n p
            refine d_find_e (by omega) (fun z => ?_) (fun z => ?_)
            · rw [if_pos (by omega)] at i2
              rw [← i2] at k1
              exact k1
            · rw [if_neg (by omega)] at i2
              exact ih _ _ _ ⟨by omega, by omega⟩ i2 (by omega)

theorem d_find_z {n a p : Int} {M : zM} {Q : zV → zM → Prop} {σ : yS} (hV : yVal σ) (hM : yMo M σ) (hn0 : n = 0) (hp : 0 ≤ p ∧ p ≤ 60) (k : Q (0, -1) M) : zWp kM_find 30 [(1, 208), (0, n), (0, a), (0, p), (3, 0), (3, 0)] [] M Q := by
  refine zw_iload ⟨rfl, rfl⟩ rfl ?_
  refine zw_iload ⟨rfl, rfl⟩ rfl ?_
  refine zw_iadd ⟨rfl, rfl⟩ (by omega) ?_
  refine zw_aload ⟨rfl, rfl⟩ rfl ?_
  refine zw_callv1 ⟨rfl, rfl⟩ rfl zc_208 rfl ?_
  refine m_Mmany hV hM ?_
  refine zw_icgt ⟨rfl, rfl⟩ rfl (fun c1 => ?_) (fun c1 => ?_)
  · skip
    refine zw_const ⟨rfl, rfl⟩ ?_
    refine zw_ret rfl ?_
    exact k
  · skip
    refine zw_iload ⟨rfl, rfl⟩ rfl ?_
    refine zw_ifle ⟨rfl, rfl⟩ rfl (fun _ => ?_) (fun q => absurd (by omega) q)
    refine zw_const ⟨rfl, rfl⟩ ?_
    refine zw_ret rfl ?_
    exact k

theorem d_find {n a : Int} {M : zM} {Q : zV → zM → Prop} {σ : yS} {un : Int} {uh : Int → yS} {mk : Int → Int} {im : Int → yS} {tn : Int} {tp : Int → Int} {ff fp : Int} (hC : yMW M σ un uh mk im tn tp ff fp) (k : ∀ N : zM, yMw N (yo_find σ un uh mk im tn tp ff fp n a).2 → (∀ x, x < 208 → N x = M x) → Q (0, (yo_find σ un uh mk im tn tp ff fp n a).1) N) : zWp kM_find 0 [(1, 208), (0, n), (0, a), (3, 0), (3, 0), (3, 0)] [] M Q := by
  obtain ⟨hW, hM, hH, hI, hT, hF, hWd⟩ := id hC
  obtain ⟨-, hM0, hH0, hI0, hT0, -⟩ := hC.mf (ymf_0 (v := 0))
  have hV := hW.1
  have hn := hV.1
  have hu := hW.2.1.1
  have htn := hW.2.2.2.1
  refine zw_aload ⟨rfl, rfl⟩ rfl ?_
  refine zw_const ⟨rfl, rfl⟩ ?_
  refine zw_putI ⟨rfl, rfl⟩ zc_208 (by decide) (fun h => absurd h (by decide)) ?_
  refine zw_iload ⟨rfl, rfl⟩ rfl ?_
  refine zw_i2l ⟨rfl, rfl⟩ ?_
  refine zw_lconst ⟨rfl, rfl⟩ ?_
  refine zw_aload ⟨rfl, rfl⟩ rfl ?_
  refine zw_getIv (v := tn) ⟨rfl, rfl⟩ zc_208 (by decide) ((zup_ni (by decide)).trans (hT.1)) ?_
  refine zw_i2l ⟨rfl, rfl⟩ ?_
  refine zw_calLs3 ⟨rfl, rfl⟩ rfl rfl ?_
  refine zw_lload ⟨rfl, rfl⟩ rfl ?_
  refine zw_lload ⟨rfl, rfl⟩ rfl ?_
  refine zw_lcmp ⟨rfl, rfl⟩ ?_
  refine zw_iflt ⟨rfl, rfl⟩ rfl (fun c1 => ?_) (fun c1 => ?_)
  · replace c1 := zlc_lt.mp c1
    refine zw_const ⟨rfl, rfl⟩ ?_
    refine zw_zret rfl (by first | exact Or.inl rfl | exact Or.inr rfl | omega) ?_
    refine zw_ifne ⟨rfl, rfl⟩ rfl (fun q => absurd q (by decide)) (fun _ => ?_)
    refine zw_const ⟨rfl, rfl⟩ ?_
    refine zw_ret rfl ?_
    have e : yo_find σ un uh mk im tn tp ff fp n a = (-3, σ, un, uh, mk, im, tn, tp, ff, fp) := by unfold yo_find; (repeat' split) <;> first | rfl | (exfalso; omega)
    rw [e] at k
    exact k _ (hC.mf ymf_0) (fun x hx => zup_row (by omega))
  · replace c1 := (not_congr zlc_lt).mp c1
    refine zw_lload ⟨rfl, rfl⟩ rfl ?_
    refine zw_lload ⟨rfl, rfl⟩ rfl ?_
    refine zw_lcmp ⟨rfl, rfl⟩ ?_
    refine zw_ifgt ⟨rfl, rfl⟩ rfl (fun c3 => ?_) (fun c3 => ?_)
    · replace c3 := zlc_gt.mp c3
      refine zw_const ⟨rfl, rfl⟩ ?_
      refine zw_zret rfl (by first | exact Or.inl rfl | exact Or.inr rfl | omega) ?_
      refine zw_ifne ⟨rfl, rfl⟩ rfl (fun q => absurd q (by decide)) (fun _ => ?_)
      refine zw_const ⟨rfl, rfl⟩ ?_
      refine zw_ret rfl ?_
      have e : yo_find σ un uh mk im tn tp ff fp n a = (-3, σ, un, uh, mk, im, tn, tp, ff, fp) := by unfold yo_find; (repeat' split) <;> first | rfl | (exfalso; omega)
      rw [e] at k
      exact k _ (hC.mf ymf_0) (fun x hx => zup_row (by omega))
    · replace c3 := (not_congr zlc_gt).mp c3
      refine zw_const ⟨rfl, rfl⟩ ?_
      refine zw_goto ⟨rfl, rfl⟩ rfl ?_
      refine zw_zret rfl (by first | exact Or.inl rfl | exact Or.inr rfl | omega) ?_
      refine zw_ifne ⟨rfl, rfl⟩ rfl (fun _ => ?_) (fun q => absurd (by decide) q)
      refine zw_iload ⟨rfl, rfl⟩ rfl ?_
      refine zw_i2l ⟨rfl, rfl⟩ ?_
      refine zw_lconst ⟨rfl, rfl⟩ ?_
      refine zw_aload ⟨rfl, rfl⟩ rfl ?_
      refine zw_callv1 ⟨rfl, rfl⟩ rfl zc_208 rfl ?_
      refine m_Mmany hV hM0 ?_
      refine zw_i2l ⟨rfl, rfl⟩ ?_
      refine zw_calLs3 ⟨rfl, rfl⟩ rfl rfl ?_
      refine zw_lload ⟨rfl, rfl⟩ rfl ?_
      refine zw_lload ⟨rfl, rfl⟩ rfl ?_
      refine zw_lcmp ⟨rfl, rfl⟩ ?_
      refine zw_iflt ⟨rfl, rfl⟩ rfl (fun c6 => ?_) (fun c6 => ?_)
      · replace c6 := zlc_lt.mp c6
        refine zw_const ⟨rfl, rfl⟩ ?_
        refine zw_zret rfl (by first | exact Or.inl rfl | exact Or.inr rfl | omega) ?_
        refine zw_ifne ⟨rfl, rfl⟩ rfl (fun q => absurd q (by decide)) (fun _ => ?_)
        refine zw_const ⟨rfl, rfl⟩ ?_
        refine zw_ret rfl ?_
        have e : yo_find σ un uh mk im tn tp ff fp n a = (-5, σ, un, uh, mk, im, tn, tp, ff, fp) := by unfold yo_find; (repeat' split) <;> first | rfl | (exfalso; omega)
        rw [e] at k
        exact k _ (hC.mf ymf_0) (fun x hx => zup_row (by omega))
      · replace c6 := (not_congr zlc_lt).mp c6
        refine zw_lload ⟨rfl, rfl⟩ rfl ?_
        refine zw_lload ⟨rfl, rfl⟩ rfl ?_
        refine zw_lcmp ⟨rfl, rfl⟩ ?_
        refine zw_ifgt ⟨rfl, rfl⟩ rfl (fun c8 => ?_) (fun c8 => ?_)
        · replace c8 := zlc_gt.mp c8
          refine zw_const ⟨rfl, rfl⟩ ?_
          refine zw_zret rfl (by first | exact Or.inl rfl | exact Or.inr rfl | omega) ?_
          refine zw_ifne ⟨rfl, rfl⟩ rfl (fun q => absurd q (by decide)) (fun _ => ?_)
          refine zw_const ⟨rfl, rfl⟩ ?_
          refine zw_ret rfl ?_
          have e : yo_find σ un uh mk im tn tp ff fp n a = (-5, σ, un, uh, mk, im, tn, tp, ff, fp) := by unfold yo_find; (repeat' split) <;> first | rfl | (exfalso; omega)
          rw [e] at k
          exact k _ (hC.mf ymf_0) (fun x hx => zup_row (by omega))
        · replace c8 := (not_congr zlc_gt).mp c8
          refine zw_const ⟨rfl, rfl⟩ ?_
          refine zw_goto ⟨rfl, rfl⟩ rfl ?_
          refine zw_zret rfl (by first | exact Or.inl rfl | exact Or.inr rfl | omega) ?_
          refine zw_ifne ⟨rfl, rfl⟩ rfl (fun _ => ?_) (fun q => absurd (by decide) q)
          refine zw_aload ⟨rfl, rfl⟩ rfl ?_
          refine zw_const ⟨rfl, rfl⟩ ?_
          refine zw_putI ⟨rfl, rfl⟩ zc_208 (by decide) (fun h => absurd h (by decide)) ?_
          refine zw_aload ⟨rfl, rfl⟩ rfl ?_
          refine zw_cavv1 ⟨rfl, rfl⟩ rfl zc_208 rfl ?_
          refine m_laysAll hV (hM.cg ((zup_row (by decide)).trans (zup_row (by decide)))) (fun N1 p1 => ?_)
          have er : ∀ x, ¬ (212 ≤ x ∧ x ≤ 234) → x ≠ 208 → N1 x = M x := fun x x1 x2 => (p1.2.1 x x1 x2).trans ((zup_row x2).trans (zup_row x2))
          have q3 : N1 208 3 = un := (p1.2.2 3 (by decide) (by decide) (by decide) (by decide)).trans ((zup_ni (by decide)).trans ((zup_ni (by decide)).trans hH.1))
          have q35 : N1 208 35 = 0 := (p1.2.2 35 (by decide) (by decide) (by decide) (by decide)).trans (zup_eq _ _ _ _)
          have q38 : N1 208 38 = ff := (p1.2.2 38 (by decide) (by decide) (by decide) (by decide)).trans ((zup_ni (by decide)).trans ((zup_ni (by decide)).trans hF.1))
          have q39 : N1 208 39 = fp := (p1.2.2 39 (by decide) (by decide) (by decide) (by decide)).trans ((zup_ni (by decide)).trans ((zup_ni (by decide)).trans hF.2))
          have hM1 : yMo N1 σ := hM.cg (er 209 (by decide) (by decide))
          obtain ⟨w1, w2⟩ := yMW_new hC hV (N := N1) (τ := σ) (un' := un) (uh' := uh) hM1 ⟨q3, fun i i1 i2 j j1 j2 => by rw [er 210 (by decide) (by decide)]; exact hH.2 i i1 i2 j j1 j2⟩ hW.2.1 (fun x hx => er x (by omega) (by omega)) (fun j hj => by rw [er 209 (by decide) (by decide)]) (tn' := 0) (ff' := ff) (fp' := fp) ⟨q35, by omega, by omega⟩ ⟨q38, q39⟩
          refine zw_iload ⟨rfl, rfl⟩ rfl ?_
          refine zw_istore_3 ⟨rfl, rfl⟩ ?_
          have e : yo_find σ un uh mk im tn tp ff fp n a = (yfi σ tp n a, σ, un, uh, mk, im, 0, tp, ff, fp) := by unfold yo_find; (repeat' split) <;> first | rfl | (exfalso; omega)
          rw [e] at k
          by_cases hn0 : n = 0
          · rw [show yfi σ tp n a = -1 from if_pos hn0] at k
            exact d_find_z hV hM1 hn0 ⟨by omega, by omega⟩ (k _ w1 w2)
          · exact d_find_l (M := N1) hV hM1 p1.1 (fun k k1 k2 => by rw [er 236 (by decide) (by decide)]; exact hT.2 k k1 (by omega)) ⟨by omega, by omega⟩ (fun k k1 k2 => hW.2.2.2.2 k k1 (by omega)) (k _ w1 w2) _ _ _ _ ⟨by omega, by omega⟩ (if_neg hn0 : yfi σ tp n a = _).symm (Nat.lt_succ_self _)

end