/-! A script's text: the model, all -/
section
set_option maxHeartbeats 4000000
theorem m_Mlays2 {M : zM} {Q : zV → zM → Prop} (kk : ∀ N : zM, (∀ x, x ≠ 237 → N x = M x) → yTd N y00 → Q (3, 0) N) : ∀ (f0 : Nat) (l : Int) (P : zM), (0 ≤ l ∧ l ≤ 26) → (∀ x, x ≠ 237 → P x = M x) → (∀ j, 1 ≤ j → j < 122 → P 237 j = if (54 ≤ j ∧ j < 54 + l) ∨ (80 ≤ j ∧ j < 80 + l) then -1 else 0) → (26 - l).toNat < f0 → zWp kM_laysNone 15 [(1, 237), (0, l)] [] P Q := by
  intro f0
  induction f0 with
  | zero => intro l P i1 iF i2 hf0; exact absurd hf0 (Nat.not_lt_zero _)
  | succ f0 ih =>
    intro l P i1 iF i2 hf0
    refine zw_iload ⟨rfl, rfl⟩ rfl ?_
    refine zw_const ⟨rfl, rfl⟩ ?_
    refine zw_icge ⟨rfl, rfl⟩ rfl (fun c1 => ?_) (fun c1 => ?_)
    · skip
      refine zw_void rfl ?_
      refine kk _ iF (fun j j1 j2 => ?_)
      rw [i2 j j1 j2]
      unfold y00
      by_cases c : 54 ≤ j ∧ j < 106
      · rw [if_pos c, if_pos (by omega)]
      · rw [if_neg c, if_neg (by omega)]
    · skip
      refine zw_aload ⟨rfl, rfl⟩ rfl ?_
      refine zw_const ⟨rfl, rfl⟩ ?_
      refine zw_iload ⟨rfl, rfl⟩ rfl ?_
      refine zw_iadd ⟨rfl, rfl⟩ (by omega) ?_
      refine zw_const ⟨rfl, rfl⟩ ?_
      refine zw_iast ⟨rfl, rfl⟩ za_237 (by omega) ?_
      refine zw_aload ⟨rfl, rfl⟩ rfl ?_
      refine zw_const ⟨rfl, rfl⟩ ?_
      refine zw_iload ⟨rfl, rfl⟩ rfl ?_
      refine zw_iadd ⟨rfl, rfl⟩ (by omega) ?_
      refine zw_const ⟨rfl, rfl⟩ ?_
      refine zw_iast ⟨rfl, rfl⟩ za_237 (by omega) ?_
      refine zw_iinc_1 ⟨rfl, rfl⟩ (by omega) ?_
      refine zw_goto ⟨rfl, rfl⟩ rfl ?_
      refine ih _ _ ⟨by omega, by omega⟩ (fun x hx => (zup_row hx).trans ((zup_row hx).trans (iF x hx))) (fun j j1 j2 => ?_) (by omega)
      by_cases q : j = 80 + l
      · rw [q, zup_eq, if_pos (by omega)]
      · rw [zup_ni q]
        by_cases q2 : j = 54 + l
        · rw [q2, zup_eq, if_pos (by omega)]
        · rw [zup_ni q2, i2 j j1 j2]
          by_cases c : (54 ≤ j ∧ j < 54 + l) ∨ (80 ≤ j ∧ j < 80 + l)
          · rw [if_pos c, if_pos (by omega)]
          · rw [if_neg c, if_neg (by omega)]

theorem m_Mlays1 {M : zM} {Q : zV → zM → Prop} (kk : ∀ N : zM, (∀ x, x ≠ 237 → N x = M x) → yTd N y00 → Q (3, 0) N) : ∀ (f0 : Nat) (l : Int) (P : zM), (0 ≤ l ∧ l ≤ 122) → (∀ x, x ≠ 237 → P x = M x) → (∀ j, 1 ≤ j → j < l → P 237 j = 0) → (122 - l).toNat < f0 → zWp kM_laysNone 2 [(1, 237), (0, l)] [] P Q := by
  intro f0
  induction f0 with
  | zero => intro l P i1 iF i2 hf0; exact absurd hf0 (Nat.not_lt_zero _)
  | succ f0 ih =>
    intro l P i1 iF i2 hf0
    refine zw_iload ⟨rfl, rfl⟩ rfl ?_
    refine zw_const ⟨rfl, rfl⟩ ?_
    refine zw_icge ⟨rfl, rfl⟩ rfl (fun c1 => ?_) (fun c1 => ?_)
    · skip
      refine zw_const ⟨rfl, rfl⟩ ?_
      refine zw_istore_1 ⟨rfl, rfl⟩ ?_
      exact m_Mlays2 (M := P) (fun N g1 g2 => kk N (fun x hx => (g1 x hx).trans (iF x hx)) g2) _ _ _ ⟨Int.le_refl _, by decide⟩ (fun _ _ => rfl) (fun j j1 j2 => by rw [i2 j j1 (by omega), if_neg (by omega)]) (Nat.lt_succ_self _)
    · skip
      refine zw_iload ⟨rfl, rfl⟩ rfl ?_
      refine zw_ifeq ⟨rfl, rfl⟩ rfl (fun c2 => ?_) (fun c2 => ?_)
      · skip
        refine zw_iinc_1 ⟨rfl, rfl⟩ (by omega) ?_
        refine zw_goto ⟨rfl, rfl⟩ rfl ?_
        exact ih _ _ ⟨by omega, by omega⟩ iF (fun j j1 j2 => by omega) (by omega)
      · skip
        refine zw_aload ⟨rfl, rfl⟩ rfl ?_
        refine zw_iload ⟨rfl, rfl⟩ rfl ?_
        refine zw_const ⟨rfl, rfl⟩ ?_
        refine zw_iast ⟨rfl, rfl⟩ za_237 (by omega) ?_
        refine zw_iinc_1 ⟨rfl, rfl⟩ (by omega) ?_
        refine zw_goto ⟨rfl, rfl⟩ rfl ?_
        refine ih _ _ ⟨by omega, by omega⟩ (fun x hx => (zup_row hx).trans (iF x hx)) (fun j j1 j2 => ?_) (by omega)
        by_cases q : j = l
        · rw [q, zup_eq]
        · rw [zup_ni q]; exact i2 j j1 (by omega)

theorem m_MlaysNone {M : zM} {Q : zV → zM → Prop} (kk : ∀ N : zM, (∀ x, x ≠ 237 → N x = M x) → yTd N y00 → Q (3, 0) N) : zWp kM_laysNone 0 [(1, 237), (3, 0)] [] M Q := by
  refine zw_const ⟨rfl, rfl⟩ ?_
  refine zw_istore_1 ⟨rfl, rfl⟩ ?_
  exact m_Mlays1 kk _ _ _ ⟨Int.le_refl _, by decide⟩ (fun _ _ => rfl) (fun j j1 j2 => by omega) (Nat.lt_succ_self _)

theorem m_Mscr_l {v : yLn} {tp : Int → Int} {n : Int} {M : zM} {Q : zV → zM → Prop} (hI : yIm M tp n) (kk : ∀ P : zM, yfR M P → yLm P v → zWp kM_script 28 [(1, 208), (0, n)] [] P Q) : ∀ (f0 : Nat) (g : Int) (P : zM), (0 ≤ g) → (∃ s : yLn, yrun2 tp n g.toNat s = v ∧ yLv n s tp ∧ yLm P s ∧ (s.1 = 0 → n - s.2.2.1 ≤ g)) → (yfR M P) → (g).toNat < f0 → zWp kM_script 17 [(1, 208), (0, n)] [] P Q := by
  intro f0
  induction f0 with
  | zero => intro g P i1 i2 iF hf0; exact absurd hf0 (Nat.not_lt_zero _)
  | succ f0 ih =>
    intro g P i1 i2 iF hf0
    have hn := hI.1.2
    obtain ⟨s, hr, hv, hL, hg⟩ := i2
    refine zw_aload ⟨rfl, rfl⟩ rfl ?_
    refine zw_getIv (v := s.1) ⟨rfl, rfl⟩ zc_208 (by decide) (hL.1) ?_
    refine zw_ifne ⟨rfl, rfl⟩ rfl (fun c1 => ?_) (fun c1 => ?_)
    · skip
      have e := yrun2_x (tp := tp) (m := g.toNat) (s := s) (n := n) (by
        by_cases z : s.1 = 0
        · exact Or.inr (fun y => by have := y.2; omega)
        · exact Or.inr (fun y => z y.1))
      rw [e] at hr
      subst hr
      exact kk _ iF hL
    · skip
      refine zw_aload ⟨rfl, rfl⟩ rfl ?_
      refine zw_getIv (v := s.2.2.1) ⟨rfl, rfl⟩ zc_208 (by decide) ((hL.2.2 (by omega)).1) ?_
      refine zw_aload ⟨rfl, rfl⟩ rfl ?_
      refine zw_getIv (v := n) ⟨rfl, rfl⟩ zc_208 (by decide) (((iF.2 36 (by decide)).trans hI.1.1)) ?_
      refine zw_icge ⟨rfl, rfl⟩ rfl (fun c2 => ?_) (fun c2 => ?_)
      · skip
        have e := yrun2_x (tp := tp) (m := g.toNat) (s := s) (n := n) (by
          by_cases z : s.1 = 0
          · exact Or.inr (fun y => by have := y.2; omega)
          · exact Or.inr (fun y => z y.1))
        rw [e] at hr
        subst hr
        exact kk _ iF hL
      · skip
        refine zw_aload ⟨rfl, rfl⟩ rfl ?_
        refine zw_cavv1 ⟨rfl, rfl⟩ rfl zc_208 rfl ?_
        have h0 : s.1 = 0 := by omega
        have hg0 := hg h0
        have hlv := yln_v h0 hv (by omega)
        refine m_Mline (hI.fr iF) h0 hv (by omega) hL (fun N1 f1 q1 => ?_)
        refine zw_goto ⟨rfl, rfl⟩ rfl ?_
        rw [show g.toNat = (g - 1).toNat + 1 by omega, yrun2_s ⟨h0, by omega⟩] at hr
        exact ih (g - 1) _ (by omega) ⟨yln tp n s, hr, hlv.1, q1, fun z => by have := hlv.2 z; omega⟩ (iF.tr f1) (by omega)

theorem m_Mscr_9 {tp : Int → Int} {n : Int} {M : zM} {Q : zV → zM → Prop} (hI : yIm M tp n) (h37 : M 208 37 = 0) (h38 : M 208 38 = 0) (h39 : M 208 39 = -1) (kk : ∀ P : zM, yfR M P → yLm P (yrd0 tp n) → zWp kM_script 28 [(1, 208), (0, n)] [] P Q) : zWp kM_script 9 [(1, 208), (0, n)] [] M Q := by
  have hn := hI.1.2
  have hbr := ybl_r (tp := tp) (n := n) (p := 0) hn.1
  refine zw_aload ⟨rfl, rfl⟩ rfl ?_
  refine zw_getR 237 ⟨rfl, rfl⟩ zr_208_40 ?_
  refine zw_cavs1 ⟨rfl, rfl⟩ rfl rfl ?_
  refine m_MlaysNone (fun N1 a1 a2 => ?_)
  have f1 : yfR M N1 := ⟨fun x x1 x2 => a1 x x2, fun j _ => congrFun (a1 208 (by decide)) j⟩
  refine zw_aload ⟨rfl, rfl⟩ rfl ?_
  refine zw_const ⟨rfl, rfl⟩ ?_
  refine zw_putI ⟨rfl, rfl⟩ zc_208 (by decide) (fun h => absurd h (by decide)) ?_
  refine zw_aload ⟨rfl, rfl⟩ rfl ?_
  refine zw_cavv1 ⟨rfl, rfl⟩ rfl zc_208 rfl ?_
  refine m_Mblanks (p := 0) (hI.fr (f1.up (by decide))) ⟨by rw [zup_ni (by decide), a1 208 (by decide)]; exact h37, Int.le_refl _, by omega⟩ ?_
  have f2 : yfR M ((zup (zup N1 208 41 0) 208 37 (ybl tp n 0))) := (f1.up (by decide)).up (by decide)
  refine m_Mscr_l (M := (zup (zup N1 208 41 0) 208 37 (ybl tp n 0))) (v := yrd0 tp n) (hI.fr f2) (fun P g1 g2 => kk P (f2.tr g1) g2) _ 400 _ (by decide) ⟨(0, -1, ybl tp n 0, 0, y00), rfl, fun _ => ⟨rfl, ⟨hbr.1.1, hbr.1.2⟩, ybl_e hbr.2, by show (0 : Int) ≤ 0 ∧ (0 : Int) < 2147483648; decide, y00_V⟩, ⟨?_, ?_, fun _ => ⟨zup_eq _ _ _ _, ?_, ?_⟩⟩, fun _ => by show n - ybl tp n 0 ≤ 400; omega⟩ yfR.rf (Nat.lt_succ_self _)
  · rw [zup_ni (by decide), zup_ni (by decide), a1 208 (by decide)]; exact h38
  · rw [zup_ni (by decide), zup_ni (by decide), a1 208 (by decide)]; exact h39
  · rw [zup_ni (by decide), zup_eq]
  · exact a2.cg (by rw [zup_row (by decide), zup_row (by decide)])

theorem d_script_e {n : Int} {M : zM} {Q : zV → zM → Prop} {σ : yS} {un : Int} {uh : Int → yS} {mk : Int → Int} {im : Int → yS} {tn : Int} {tp : Int → Int} {ff fp : Int} {P : zM} (hC : yMW M σ un uh mk im tn tp ff fp) (hn0 : 0 ≤ n ∧ n ≤ tn) (hx : ∀ x, x ≠ 208 → x ≠ 237 → P x = M x) (hj : ∀ j, ¬ (35 ≤ j ∧ j ≤ 41) → j ≠ 0 → P 208 j = M 208 j) (h35 : P 208 35 = 0) (hL : yLm P (yrd0 tp n)) (hv : yLv n (yrd0 tp n) tp) (hff : 0 ≤ (yrd0 tp n).1 ∧ (yrd0 tp n).1 ≤ 3) (k : ∀ N : zM, yMw N (yo_script σ un uh mk im tn tp ff fp n).2 → (∀ x, x < 208 → N x = M x) → Q (0, (yo_script σ un uh mk im tn tp ff fp n).1) N) : zWp kM_script 28 [(1, 208), (0, n)] [] P Q := by
  obtain ⟨hW, hM, hH, hI, hT, hF, hWd⟩ := id hC
  have hV := hW.1
  have hn := hV.1
  have hu := hW.2.1.1
  have htn := hW.2.2.2.1
  have hM2 : yMo P σ := hM.cg (hx 209 (by decide) (by decide))
  have hH2 : yMH P un uh := ⟨(hj 3 (by decide) (by decide)).trans hH.1, fun i i1 i2 j j1 j2 => by rw [hx 210 (by decide) (by decide)]; exact hH.2 i i1 i2 j j1 j2⟩
  refine zw_aload ⟨rfl, rfl⟩ rfl ?_
  refine zw_getIv (v := (yrd0 tp n).1) ⟨rfl, rfl⟩ zc_208 (by decide) (hL.1) ?_
  refine zw_ifeq ⟨rfl, rfl⟩ rfl (fun c1 => ?_) (fun c1 => ?_)
  · skip
    refine zw_aload ⟨rfl, rfl⟩ rfl ?_
    refine zw_cavv1 ⟨rfl, rfl⟩ rfl zc_208 rfl ?_
    refine m_notes hV hu hM2 hH2 (fun N1 p1 => ?_)
    obtain ⟨hM1, hH1, hr1⟩ := p1
    have hok := hL.2.2 (by omega)
    have hvt := (hv (by omega)).2.2.2.2
    have hT1 : yTd N1 (yrd0 tp n).2.2.2.2 := hok.2.2.cg (hr1.1 237 (by decide) (by decide))
    have er : ∀ x, x ≠ 208 → x ≠ 210 → x ≠ 237 → N1 x = M x := fun x x1 x2 x3 => (hr1.1 x x1 x2).trans (hx x x1 x3)
    refine zw_aload ⟨rfl, rfl⟩ rfl ?_
    refine zw_getR 237 ⟨rfl, rfl⟩ zr_208_40 ?_
    refine zw_const ⟨rfl, rfl⟩ ?_
    refine zw_aload ⟨rfl, rfl⟩ rfl ?_
    refine zw_callv1 ⟨rfl, rfl⟩ rfl zc_208 rfl ?_
    refine m_Mmany hV hM1 ?_
    refine zw_iast ⟨rfl, rfl⟩ za_237 (by omega) ?_
    refine zw_aload ⟨rfl, rfl⟩ rfl ?_
    refine zw_getR 237 ⟨rfl, rfl⟩ zr_208_40 ?_
    refine zw_const ⟨rfl, rfl⟩ ?_
    refine zw_aload ⟨rfl, rfl⟩ rfl ?_
    refine zw_getR 209 ⟨rfl, rfl⟩ zr_208_1 ?_
    refine zw_const ⟨rfl, rfl⟩ ?_
    refine zw_const ⟨rfl, rfl⟩ ?_
    refine zw_cavs5 ⟨rfl, rfl⟩ rfl rfl ?_
    refine m_copies (na := 122) (nb := 546) za_237 za_209 ⟨by omega, by omega, by omega, by omega, by omega⟩ ⟨by decide, by decide⟩ (by omega) ?_
    refine zw_aload ⟨rfl, rfl⟩ rfl ?_
    refine zw_aload ⟨rfl, rfl⟩ rfl ?_
    refine zw_getR 209 ⟨rfl, rfl⟩ zr_208_1 ?_
    refine zw_callv2 ⟨rfl, rfl⟩ rfl zc_208 rfl ?_
    have hV2 : yVal (ySn σ (yrd0 tp n).2.2.2.2) := ySn_V hV hvt
    have e0 : ySn σ (yrd0 tp n).2.2.2.2 0 = σ 0 := if_neg (by omega)
    have gM : yMo ((zcpy (zup N1 237 0 (σ 0)) 237 0 209 0 122)) (ySn σ (yrd0 tp n).2.2.2.2) := by
      intro j j1 j2
      unfold zcpy
      by_cases c : j < 122
      · rw [if_pos ⟨rfl, by omega, by omega⟩, show (0 : Int) + (j - 0) = j by omega]
        by_cases z : j = 0
        · rw [z, zup_eq, e0]
        · rw [zup_ni z, hT1 j (by omega) c]
          exact (if_pos ⟨by omega, c⟩ : ySn σ (yrd0 tp n).2.2.2.2 j = _).symm
      · rw [if_neg (by omega), zup_na (by decide), hM1 j j1 j2]
        exact (if_neg (by omega) : ySn σ (yrd0 tp n).2.2.2.2 j = _).symm
    have g2 : ∀ x, x ≠ 237 → x ≠ 209 → ((zcpy (zup N1 237 0 (σ 0)) 237 0 209 0 122)) x = N1 x := fun x x1 x2 => (zcpy_row x2).trans (zup_row x1)
    have g3 : ∀ j, 182 ≤ j → ((zcpy (zup N1 237 0 (σ 0)) 237 0 209 0 122)) 209 j = N1 209 j := fun j hj2 => (if_neg (by omega)).trans (zup_na (by decide))
    generalize ((zcpy (zup N1 237 0 (σ 0)) 237 0 209 0 122)) = E at gM g2 g3 ⊢
    refine m_withKind gM ?_
    refine zw_ret rfl ?_
    obtain ⟨w1, w2⟩ := yMW_new hC hV2 gM ⟨by rw [g2 208 (by decide) (by decide)]; exact hH1.1, fun i i1 i2 j j1 j2 => by rw [g2 210 (by decide) (by decide)]; exact hH1.2 i i1 i2 j j1 j2⟩ (yph_V hW.2.1 hV) (fun x hx2 => (g2 x (by omega) (by omega)).trans (er x (by omega) (by omega) (by omega))) (fun j hj2 => (g3 j hj2).trans (by rw [er 209 (by decide) (by decide) (by decide)])) (tn' := 0) (ff' := 0) (fp' := -1) ⟨by rw [g2 208 (by decide) (by decide), hr1.2 35 (by decide)]; exact h35, by omega, by omega⟩ ⟨by rw [g2 208 (by decide) (by decide), hr1.2 38 (by decide), hL.1]; omega, by rw [g2 208 (by decide) (by decide), hr1.2 39 (by decide), hL.2.1]; exact (hv (by omega)).1⟩
    have e : yo_script σ un uh mk im tn tp ff fp n = (ylt (ySn σ (yrd0 tp n).2.2.2.2), ySn σ (yrd0 tp n).2.2.2.2, ypn un, yph un uh σ, mk, im, 0, tp, 0, -1) := by unfold yo_script; (repeat' split) <;> first | rfl | (exfalso; omega)
    rw [e] at k
    exact k _ w1 w2
  · skip
    refine zw_const ⟨rfl, rfl⟩ ?_
    refine zw_aload ⟨rfl, rfl⟩ rfl ?_
    refine zw_getIv (v := (yrd0 tp n).1) ⟨rfl, rfl⟩ zc_208 (by decide) (hL.1) ?_
    refine zw_isub ⟨rfl, rfl⟩ (by omega) ?_
    refine zw_ret rfl ?_
    obtain ⟨w1, w2⟩ := yMW_new hC hV (N := P) (τ := σ) (un' := un) (uh' := uh) hM2 hH2 hW.2.1 (fun x hx2 => hx x (by omega) (by omega)) (fun j hj2 => by rw [hx 209 (by decide) (by decide)]) (tn' := 0) (ff' := (yrd0 tp n).1) (fp' := (yrd0 tp n).2.1) ⟨h35, by omega, by omega⟩ ⟨hL.1, hL.2.1⟩
    have e : yo_script σ un uh mk im tn tp ff fp n = (-30 - (yrd0 tp n).1, σ, un, uh, mk, im, 0, tp, (yrd0 tp n).1, (yrd0 tp n).2.1) := by unfold yo_script; (repeat' split) <;> first | rfl | (exfalso; omega)
    rw [e] at k
    exact k _ w1 w2

theorem d_script {n : Int} {M : zM} {Q : zV → zM → Prop} {σ : yS} {un : Int} {uh : Int → yS} {mk : Int → Int} {im : Int → yS} {tn : Int} {tp : Int → Int} {ff fp : Int} (hC : yMW M σ un uh mk im tn tp ff fp) (k : ∀ N : zM, yMw N (yo_script σ un uh mk im tn tp ff fp n).2 → (∀ x, x < 208 → N x = M x) → Q (0, (yo_script σ un uh mk im tn tp ff fp n).1) N) : zWp kM_script 0 [(1, 208), (0, n)] [] M Q := by
  obtain ⟨hW, hM, hH, hI, hT, hF, hWd⟩ := id hC
  have htn := hW.2.2.2.1
  refine zw_aload ⟨rfl, rfl⟩ rfl ?_
  refine zw_const ⟨rfl, rfl⟩ ?_
  refine zw_putI ⟨rfl, rfl⟩ zc_208 (by decide) (fun h => absurd h (by decide)) ?_
  refine zw_aload ⟨rfl, rfl⟩ rfl ?_
  refine zw_iload ⟨rfl, rfl⟩ rfl ?_
  refine zw_callv2 ⟨rfl, rfl⟩ rfl zc_208 rfl ?_
  refine zw_iload ⟨rfl, rfl⟩ rfl ?_
  refine zw_i2l ⟨rfl, rfl⟩ ?_
  refine zw_lconst ⟨rfl, rfl⟩ ?_
  refine zw_aload ⟨rfl, rfl⟩ rfl ?_
  refine zw_getIv (v := tn) ⟨rfl, rfl⟩ zc_208 (by decide) ((zup_ni (by decide)).trans (hT.1)) ?_
  refine zw_i2l ⟨rfl, rfl⟩ ?_
  refine zw_calLs3 ⟨rfl, rfl⟩ rfl rfl ?_
  refine zw_lload ⟨rfl, rfl⟩ rfl ?_
  refine zw_lload ⟨rfl, rfl⟩ rfl ?_
  refine zw_lcmp ⟨rfl, rfl⟩ ?_
  refine zw_iflt ⟨rfl, rfl⟩ rfl (fun c1 => ?_) (fun c1 => ?_)
  · replace c1 := zlc_lt.mp c1
    refine zw_const ⟨rfl, rfl⟩ ?_
    refine zw_zret rfl (by first | exact Or.inl rfl | exact Or.inr rfl | omega) ?_
    refine zw_ifne ⟨rfl, rfl⟩ rfl (fun q => absurd q (by decide)) (fun _ => ?_)
    refine zw_const ⟨rfl, rfl⟩ ?_
    refine zw_ret rfl ?_
    refine zw_ifeq ⟨rfl, rfl⟩ rfl (fun q => absurd q (by decide)) (fun _ => ?_)
    refine zw_const ⟨rfl, rfl⟩ ?_
    refine zw_ret rfl ?_
    have e : yo_script σ un uh mk im tn tp ff fp n = (-3, σ, un, uh, mk, im, tn, tp, ff, fp) := by unfold yo_script; (repeat' split) <;> first | rfl | (exfalso; omega)
    rw [e] at k
    exact k _ (hC.mf ymf_0) (fun x hx => zup_row (by omega))
  · replace c1 := (not_congr zlc_lt).mp c1
    refine zw_lload ⟨rfl, rfl⟩ rfl ?_
    refine zw_lload ⟨rfl, rfl⟩ rfl ?_
    refine zw_lcmp ⟨rfl, rfl⟩ ?_
    refine zw_ifgt ⟨rfl, rfl⟩ rfl (fun c4 => ?_) (fun c4 => ?_)
    · replace c4 := zlc_gt.mp c4
      refine zw_const ⟨rfl, rfl⟩ ?_
      refine zw_zret rfl (by first | exact Or.inl rfl | exact Or.inr rfl | omega) ?_
      refine zw_ifne ⟨rfl, rfl⟩ rfl (fun q => absurd q (by decide)) (fun _ => ?_)
      refine zw_const ⟨rfl, rfl⟩ ?_
      refine zw_ret rfl ?_
      refine zw_ifeq ⟨rfl, rfl⟩ rfl (fun q => absurd q (by decide)) (fun _ => ?_)
      refine zw_const ⟨rfl, rfl⟩ ?_
      refine zw_ret rfl ?_
      have e : yo_script σ un uh mk im tn tp ff fp n = (-3, σ, un, uh, mk, im, tn, tp, ff, fp) := by unfold yo_script; (repeat' split) <;> first | rfl | (exfalso; omega)
      rw [e] at k
      exact k _ (hC.mf ymf_0) (fun x hx => zup_row (by omega))
    · replace c4 := (not_congr zlc_gt).mp c4
      refine zw_const ⟨rfl, rfl⟩ ?_
      refine zw_goto ⟨rfl, rfl⟩ rfl ?_
      refine zw_zret rfl (by first | exact Or.inl rfl | exact Or.inr rfl | omega) ?_
      refine zw_ifne ⟨rfl, rfl⟩ rfl (fun _ => ?_) (fun q => absurd (by decide) q)
      refine zw_aload ⟨rfl, rfl⟩ rfl ?_
      refine zw_const ⟨rfl, rfl⟩ ?_
      refine zw_putI ⟨rfl, rfl⟩ zc_208 (by decide) (fun h => absurd h (by decide)) ?_
      refine zw_aload ⟨rfl, rfl⟩ rfl ?_
      refine zw_iload ⟨rfl, rfl⟩ rfl ?_
      refine zw_putI ⟨rfl, rfl⟩ zc_208 (by decide) (fun h => absurd h (by decide)) ?_
      refine zw_aload ⟨rfl, rfl⟩ rfl ?_
      refine zw_const ⟨rfl, rfl⟩ ?_
      refine zw_putI ⟨rfl, rfl⟩ zc_208 (by decide) (fun h => absurd h (by decide)) ?_
      refine zw_aload ⟨rfl, rfl⟩ rfl ?_
      refine zw_const ⟨rfl, rfl⟩ ?_
      refine zw_putI ⟨rfl, rfl⟩ zc_208 (by decide) (fun h => absurd h (by decide)) ?_
      refine zw_aload ⟨rfl, rfl⟩ rfl ?_
      refine zw_const ⟨rfl, rfl⟩ ?_
      refine zw_putI ⟨rfl, rfl⟩ zc_208 (by decide) (fun h => absurd h (by decide)) ?_
      refine zw_const ⟨rfl, rfl⟩ ?_
      refine zw_ret rfl ?_
      refine zw_ifeq ⟨rfl, rfl⟩ rfl (fun _ => ?_) (fun q => absurd (by decide) q)
      have hx : ∀ x, x ≠ 208 → ((zup (zup (zup (zup (zup (zup M 208 0 0) 208 35 0) 208 36 n) 208 37 0) 208 38 0) 208 39 (-1))) x = M x := fun x hx => by simp only [zup_row hx]
      have hj : ∀ j, ¬ (35 ≤ j ∧ j ≤ 41) → j ≠ 0 → ((zup (zup (zup (zup (zup (zup M 208 0 0) 208 35 0) 208 36 n) 208 37 0) 208 38 0) 208 39 (-1))) 208 j = M 208 j := fun j j1 j0 => by rw [zup_ni (by omega), zup_ni (by omega), zup_ni (by omega), zup_ni (by omega), zup_ni (by omega), zup_ni (by omega)]
      have h35 : ((zup (zup (zup (zup (zup (zup M 208 0 0) 208 35 0) 208 36 n) 208 37 0) 208 38 0) 208 39 (-1))) 208 35 = 0 := by simp [zup]
      have h36 : ((zup (zup (zup (zup (zup (zup M 208 0 0) 208 35 0) 208 36 n) 208 37 0) 208 38 0) 208 39 (-1))) 208 36 = n := by simp [zup]
      have h37 : ((zup (zup (zup (zup (zup (zup M 208 0 0) 208 35 0) 208 36 n) 208 37 0) 208 38 0) 208 39 (-1))) 208 37 = 0 := by simp [zup]
      have h38 : ((zup (zup (zup (zup (zup (zup M 208 0 0) 208 35 0) 208 36 n) 208 37 0) 208 38 0) 208 39 (-1))) 208 38 = 0 := by simp [zup]
      have h39 : ((zup (zup (zup (zup (zup (zup M 208 0 0) 208 35 0) 208 36 n) 208 37 0) 208 38 0) 208 39 (-1))) 208 39 = -1 := by simp [zup]
      generalize ((zup (zup (zup (zup (zup (zup M 208 0 0) 208 35 0) 208 36 n) 208 37 0) 208 38 0) 208 39 (-1))) = P0 at hx hj h35 h36 h37 h38 h39 ⊢
      have hff := yrd0_f (tp := tp) (n := n) (by omega)
      refine m_Mscr_9 (M := P0) (tp := tp) ⟨⟨h36, by omega, by omega⟩, fun k k1 k2 => ⟨by rw [hx 236 (by decide)]; exact hT.2 k k1 (by omega), hW.2.2.2.2 k k1 (by omega)⟩, fun k k1 k2 => by rw [hx 238 (by decide)]; exact hWd k k1 k2⟩ h37 h38 h39 (fun P g1 g2 => ?_)
      exact d_script_e hC ⟨by omega, by omega⟩ (fun x x1 x2 => (g1.1 x x1 x2).trans (hx x x1)) (fun j j1 j0 => (g1.2 j (by omega)).trans (hj j j1 j0)) ((g1.2 35 (by decide)).trans h35) g2 hff.2 hff.1 k

end