/-! The model: what it answers, the rest -/
def ybk (σ : yS) (i : Int) : Int := if i = -1 then ysum (fun c => if yso (yK σ (yB (yK σ) c)) = 2 then (1 : Int) else 0) (yci (yK σ) (σ 0)).toNat else ynth (fun c => yso (yK σ (yB (yK σ) c))) 2 i (yci (yK σ) (σ 0)).toNat 0 0
theorem m_Mbroken_l  {i v : Int} {M : zM} {Q : zV → zM → Prop} {σ : yS} (hV : yVal σ) (hG : yLay M σ) (hi : -1 ≤ i) (hv : ynth (fun c => yso (yK σ (yB (yK σ) c))) 2 i (yci (yK σ) (σ 0)).toNat 0 0 = v) (k : Q (0, ybk σ i) M) : ∀ (f : Nat) (m c : Int), ((0 ≤ c ∧ c ≤ (yci (yK σ) (σ 0))) ∧ 0 ≤ m ∧ m ≤ c) → (ynth (fun c => yso (yK σ (yB (yK σ) c))) 2 i ((yci (yK σ) (σ 0)) - c).toNat c m = v) → (m = ysum (fun c => if yso (yK σ (yB (yK σ) c)) = 2 then (1 : Int) else 0) c.toNat) → ((yci (yK σ) (σ 0)) - c).toNat < f → zWp kM_broken 14 [(1, 208), (0, i), (0, m), (0, c)] [] M Q := by
  intro f
  induction f with
  | zero => intro m c i1 i2 i3 hf; exact absurd hf (Nat.not_lt_zero _)
  | succ f ih =>
    intro m c i1 i2 i3 hf
    have hK := yKr_K hV
    have hn := hV.1
    have hci := yci_60 hK
    have eyL : (yTk σ (yci (yK σ) (σ 0))).1 = (yLast σ).1 := rfl
    have hgl := yLast_r hV
    refine zw_iload ⟨rfl, rfl⟩ rfl ?_
    refine zw_aload ⟨rfl, rfl⟩ rfl ?_
    refine zw_getIv (v := (yci (yK σ) (σ 0))) ⟨rfl, rfl⟩ zc_208 (by decide) (hG.1.1) ?_
    refine zw_icge ⟨rfl, rfl⟩ rfl (fun c1 => ?_) (fun c1 => ?_)
    · skip
      refine zw_iload ⟨rfl, rfl⟩ rfl ?_
      refine zw_const ⟨rfl, rfl⟩ ?_
      refine zw_icne ⟨rfl, rfl⟩ rfl (fun c2 => ?_) (fun c2 => ?_)
      · skip
        refine zw_const ⟨rfl, rfl⟩ ?_
        refine zw_ret rfl ?_
        have ec : c = (yci (yK σ) (σ 0)) := by omega
        first | (rw [show ybk σ i = m from by unfold ybk; rw [if_pos (by omega), i3, ec]] at k; exact k) | (rw [show ((yci (yK σ) (σ 0)) - c).toNat = 0 by omega] at i2; rw [show ybk σ i = -1 from by unfold ybk; rw [if_neg (by omega), hv, ← i2]; rfl] at k; exact k)
      · skip
        refine zw_iload ⟨rfl, rfl⟩ rfl ?_
        refine zw_goto ⟨rfl, rfl⟩ rfl ?_
        refine zw_ret rfl ?_
        have ec : c = (yci (yK σ) (σ 0)) := by omega
        first | (rw [show ybk σ i = m from by unfold ybk; rw [if_pos (by omega), i3, ec]] at k; exact k) | (rw [show ((yci (yK σ) (σ 0)) - c).toNat = 0 by omega] at i2; rw [show ybk σ i = -1 from by unfold ybk; rw [if_neg (by omega), hv, ← i2]; rfl] at k; exact k)
    · skip
      rw [show ((yci (yK σ) (σ 0)) - c).toNat = ((yci (yK σ) (σ 0)) - (c + 1)).toNat + 1 by omega] at i2
      unfold ynth at i2
      try dsimp only at i2
      have hs := ysum_s (fun c => if yso (yK σ (yB (yK σ) c)) = 2 then (1 : Int) else 0) i1.1.1
      try dsimp only at hs
      refine zw_aload ⟨rfl, rfl⟩ rfl ?_
      refine zw_getR 214 ⟨rfl, rfl⟩ zr_208_7 ?_
      refine zw_iload ⟨rfl, rfl⟩ rfl ?_
      refine zw_ialdv (v := yso (yK σ (yB (yK σ) (c)))) ⟨rfl, rfl⟩ za_214 (by omega) ((hG.2.1 (c) (by omega) (by omega)).2.2.1) ?_
      refine zw_const ⟨rfl, rfl⟩ ?_
      refine zw_iceq ⟨rfl, rfl⟩ rfl (fun c3 => ?_) (fun c3 => ?_)
      · skip
        refine zw_iload ⟨rfl, rfl⟩ rfl ?_
        refine zw_iload ⟨rfl, rfl⟩ rfl ?_
        refine zw_icne ⟨rfl, rfl⟩ rfl (fun c4 => ?_) (fun c4 => ?_)
        · skip
          refine zw_iinc_2 ⟨rfl, rfl⟩ (by omega) ?_
          refine zw_iinc_3 ⟨rfl, rfl⟩ (by omega) ?_
          refine zw_goto ⟨rfl, rfl⟩ rfl ?_
          refine ih _ _ ⟨⟨by omega, by omega⟩, by omega, by omega⟩ ?_ ?_ (by omega)
          · rw [← i2]
            first | (rw [if_pos (by omega), if_neg (by omega)]; done) | (rw [if_neg (by omega)]; done)
          · rw [hs, ← i3]
            first | (rw [if_pos (by omega)]; done) | (rw [if_neg (by omega)]; omega)
        · skip
          refine zw_iload ⟨rfl, rfl⟩ rfl ?_
          refine zw_ret rfl ?_
          rw [if_pos (by omega), if_pos (by omega)] at i2
          rw [show ybk σ i = c from by unfold ybk; rw [if_neg (by omega), hv, ← i2]] at k
          exact k
      · skip
        refine zw_goto ⟨rfl, rfl⟩ rfl ?_
        refine zw_iinc_3 ⟨rfl, rfl⟩ (by omega) ?_
        refine zw_goto ⟨rfl, rfl⟩ rfl ?_
        refine ih _ _ ⟨⟨by omega, by omega⟩, by omega, by omega⟩ ?_ ?_ (by omega)
        · rw [← i2]
          first | (rw [if_pos (by omega), if_neg (by omega)]; done) | (rw [if_neg (by omega)]; done)
        · rw [hs, ← i3]
          first | (rw [if_pos (by omega)]; done) | (rw [if_neg (by omega)]; omega)

theorem d_broken {i : Int} {M : zM} {Q : zV → zM → Prop} {σ : yS} (hV : yVal σ) (hM : yMo M σ)  (k : ∀ N : zM, ymf M N → Q (0, ya_broken σ i) N) : zWp kM_broken 0 [(1, 208), (0, i), (3, 0), (3, 0)] [] M Q := by
  have hK := yKr_K hV
  have hn := hV.1
  have hci := yci_60 hK
  have eyL : (yTk σ (yci (yK σ) (σ 0))).1 = (yLast σ).1 := rfl
  have hgl := yLast_r hV
  refine zw_aload ⟨rfl, rfl⟩ rfl ?_
  refine zw_const ⟨rfl, rfl⟩ ?_
  refine zw_putI ⟨rfl, rfl⟩ zc_208 (by decide) (fun h => absurd h (by decide)) ?_
  refine zw_iload ⟨rfl, rfl⟩ rfl ?_
  refine zw_const ⟨rfl, rfl⟩ ?_
  refine zw_icge ⟨rfl, rfl⟩ rfl (fun c1 => ?_) (fun c1 => ?_)
  · skip
    refine zw_aload ⟨rfl, rfl⟩ rfl ?_
    refine zw_cavv1 ⟨rfl, rfl⟩ rfl zc_208 rfl ?_
    refine m_laysAll hV (hM.cg (zup_row (by decide))) (fun N1 p1 => ?_)
    have hG1 := p1.1
    have hf1 : ymf M N1 := ymf_0.tr p1.2.m
    have hM1 : yMo N1 σ := hM.cg (hf1.1 209 (Or.inl rfl))
    refine zw_const ⟨rfl, rfl⟩ ?_
    refine zw_istore_2 ⟨rfl, rfl⟩ ?_
    refine zw_const ⟨rfl, rfl⟩ ?_
    refine zw_istore_3 ⟨rfl, rfl⟩ ?_
    refine m_Mbroken_l hV hG1 (by omega) rfl ?_ _ _ _ ⟨⟨by decide, hci.1⟩, by decide, by decide⟩ (by rw [Int.sub_zero]) rfl (Nat.lt_succ_self _)
    rw [show ya_broken σ i = ybk σ i from by unfold ya_broken ybk; rw [if_neg (by omega), ybw_c hK]] at k
    exact k _ hf1
  · skip
    refine zw_const ⟨rfl, rfl⟩ ?_
    refine zw_ret rfl ?_
    have e : ya_broken σ i = (-3) := by unfold ya_broken; (repeat' split) <;> first | rfl | omega | (exfalso; omega)
    rw [e] at k
    exact k _ ymf_0

theorem m_Mnext_u  {p : Int} {M : zM} {Q : zV → zM → Prop} {σ : yS} (hV : yVal σ) (hG : yLay M σ) (hp : 0 ≤ p ∧ p ≤ σ 0) (k : Q (0, ysu (yK σ) (σ 0) p) M) : ∀ (f : Nat) (i : Int), (0 ≤ i ∧ i ≤ (yci (yK σ) (σ 0)) + 1) → (∀ j, 0 ≤ j → j < i → yB (yK σ) j ≤ p) → ((yci (yK σ) (σ 0)) + 1 - i).toNat < f → zWp kM_next 28 [(1, 208), (0, p), (0, 1), (0, i)] [] M Q := by
  intro f
  induction f with
  | zero => intro i h1 h2 hf; exact absurd hf (Nat.not_lt_zero _)
  | succ f ih =>
    intro i h1 h2 hf
    have hK := yKr_K hV
    have hn := hV.1
    have hci := yci_60 hK
    have eyL : (yTk σ (yci (yK σ) (σ 0))).1 = (yLast σ).1 := rfl
    have hgl := yLast_r hV
    have hN := hci
    refine zw_iload ⟨rfl, rfl⟩ rfl ?_
    refine zw_aload ⟨rfl, rfl⟩ rfl ?_
    refine zw_getIv (v := (yci (yK σ) (σ 0))) ⟨rfl, rfl⟩ zc_208 (by decide) (hG.1.1) ?_
    refine zw_icgt ⟨rfl, rfl⟩ rfl (fun c1 => ?_) (fun c1 => ?_)
    · skip
      refine zw_goto ⟨rfl, rfl⟩ rfl ?_
      refine zw_const ⟨rfl, rfl⟩ ?_
      refine zw_ret rfl ?_
      have := h2 (yci (yK σ) (σ 0)) hN.1 (by omega)
      rw [yB_n hK] at this
      rw [show ysu (yK σ) (σ 0) p = -1 from if_neg (by omega)] at k
      exact k
    · skip
      refine zw_aload ⟨rfl, rfl⟩ rfl ?_
      refine zw_getR 212 ⟨rfl, rfl⟩ zr_208_5 ?_
      refine zw_iload ⟨rfl, rfl⟩ rfl ?_
      refine zw_ialdv (v := yB (yK σ) (i)) ⟨rfl, rfl⟩ za_212 (by omega) ((hG.2.2.1 (i) (by omega) (by omega)).1) ?_
      refine zw_iload ⟨rfl, rfl⟩ rfl ?_
      refine zw_icle ⟨rfl, rfl⟩ rfl (fun c2 => ?_) (fun c2 => ?_)
      · skip
        refine zw_iinc_3 ⟨rfl, rfl⟩ (by omega) ?_
        refine zw_goto ⟨rfl, rfl⟩ rfl ?_
        refine ih _ ⟨by omega, by omega⟩ (fun j j1 j2 => ?_) (by omega)
        by_cases e : j = i
        · subst e; omega
        · exact h2 j j1 (by omega)
      · skip
        refine zw_aload ⟨rfl, rfl⟩ rfl ?_
        refine zw_getR 212 ⟨rfl, rfl⟩ zr_208_5 ?_
        refine zw_iload ⟨rfl, rfl⟩ rfl ?_
        refine zw_ialdv (v := yB (yK σ) (i)) ⟨rfl, rfl⟩ za_212 (by omega) ((hG.2.2.1 (i) (by omega) (by omega)).1) ?_
        refine zw_ret rfl ?_
        have a := (yB_gt hK hp h1.1 (by omega)).mp (by omega)
        have b := yci_nn (yK σ) (p + 1)
        have e : i = yci (yK σ) (p + 1) := by
          by_cases hh : yci (yK σ) (p + 1) < i
          · have := h2 _ b hh
            have := (yB_gt hK hp b (by omega)).mpr ⟨Int.le_refl _, a.2⟩
            omega
          · omega
        rw [show ysu (yK σ) (σ 0) p = yB (yK σ) i from by unfold ysu; rw [if_pos a.2, e]] at k
        exact k

theorem m_Mnext_d  {p d : Int} {M : zM} {Q : zV → zM → Prop} {σ : yS} (hV : yVal σ) (hG : yLay M σ) (hp : 0 ≤ p ∧ p ≤ σ 0) (k : Q (0, ysd (yK σ) p) M) : ∀ (f : Nat) (i : Int), (-1 ≤ i ∧ i ≤ (yci (yK σ) (σ 0))) → (∀ j, i < j → j ≤ (yci (yK σ) (σ 0)) → p ≤ yB (yK σ) j) → (i + 1).toNat < f → zWp kM_next 49 [(1, 208), (0, p), (0, d), (0, i)] [] M Q := by
  intro f
  induction f with
  | zero => intro i h1 h2 hf; exact absurd hf (Nat.not_lt_zero _)
  | succ f ih =>
    intro i h1 h2 hf
    have hK := yKr_K hV
    have hn := hV.1
    have hci := yci_60 hK
    have eyL : (yTk σ (yci (yK σ) (σ 0))).1 = (yLast σ).1 := rfl
    have hgl := yLast_r hV
    have hN := hci
    refine zw_iload ⟨rfl, rfl⟩ rfl ?_
    refine zw_iflt ⟨rfl, rfl⟩ rfl (fun c1 => ?_) (fun c1 => ?_)
    · skip
      refine zw_const ⟨rfl, rfl⟩ ?_
      refine zw_ret rfl ?_
      have := h2 0 (by omega) hN.1
      rw [yB_0] at this
      rw [show ysd (yK σ) p = -1 from if_neg (by omega)] at k
      exact k
    · skip
      refine zw_aload ⟨rfl, rfl⟩ rfl ?_
      refine zw_getR 212 ⟨rfl, rfl⟩ zr_208_5 ?_
      refine zw_iload ⟨rfl, rfl⟩ rfl ?_
      refine zw_ialdv (v := yB (yK σ) (i)) ⟨rfl, rfl⟩ za_212 (by omega) ((hG.2.2.1 (i) (by omega) (by omega)).1) ?_
      refine zw_iload ⟨rfl, rfl⟩ rfl ?_
      refine zw_icge ⟨rfl, rfl⟩ rfl (fun c2 => ?_) (fun c2 => ?_)
      · skip
        refine zw_iinc_3 ⟨rfl, rfl⟩ (by omega) ?_
        refine zw_goto ⟨rfl, rfl⟩ rfl ?_
        refine ih _ ⟨by omega, by omega⟩ (fun j j1 j2 => ?_) (by omega)
        by_cases e : j = i
        · subst e; omega
        · exact h2 j (by omega) j2
      · skip
        refine zw_aload ⟨rfl, rfl⟩ rfl ?_
        refine zw_getR 212 ⟨rfl, rfl⟩ zr_208_5 ?_
        refine zw_iload ⟨rfl, rfl⟩ rfl ?_
        refine zw_ialdv (v := yB (yK σ) (i)) ⟨rfl, rfl⟩ za_212 (by omega) ((hG.2.2.1 (i) (by omega) (by omega)).1) ?_
        refine zw_ret rfl ?_
        have r := yB_r hK (show 0 ≤ i by omega) h1.2
        have a := yci_Bi hK (show 0 ≤ i by omega) h1.2
        have b := yci_b (yK σ) r.1.1 r.2
        have c := (yci_mo (yK σ) (show 0 ≤ yB (yK σ) i + 1 by omega) (show yB (yK σ) i + 1 ≤ p by omega)).1
        have d := (yci_mo (yK σ) hp.1 hp.2).1
        have e := h2 (i + 1) (by omega) (by omega)
        have g := (yci_mo (yK σ) hp.1 e).1
        rw [yci_Bi hK (by omega) (by omega)] at g
        rw [show ysd (yK σ) p = yB (yK σ) i from by unfold ysd; rw [if_pos (by omega), show yci (yK σ) p - 1 = i by omega]] at k
        exact k

theorem d_next {p d : Int} {M : zM} {Q : zV → zM → Prop} {σ : yS} (hV : yVal σ) (hM : yMo M σ)  (k : ∀ N : zM, ymf M N → Q (0, ya_next σ p d) N) : zWp kM_next 0 [(1, 208), (0, p), (0, d), (3, 0)] [] M Q := by
  have hK := yKr_K hV
  have hn := hV.1
  have hci := yci_60 hK
  have eyL : (yTk σ (yci (yK σ) (σ 0))).1 = (yLast σ).1 := rfl
  have hgl := yLast_r hV
  refine zw_aload ⟨rfl, rfl⟩ rfl ?_
  refine zw_const ⟨rfl, rfl⟩ ?_
  refine zw_putI ⟨rfl, rfl⟩ zc_208 (by decide) (fun h => absurd h (by decide)) ?_
  refine zw_iload ⟨rfl, rfl⟩ rfl ?_
  refine zw_const ⟨rfl, rfl⟩ ?_
  refine zw_iceq ⟨rfl, rfl⟩ rfl (fun c1 => ?_) (fun c1 => ?_)
  · skip
    refine zw_iload ⟨rfl, rfl⟩ rfl ?_
    refine zw_i2l ⟨rfl, rfl⟩ ?_
    refine zw_lconst ⟨rfl, rfl⟩ ?_
    refine zw_aload ⟨rfl, rfl⟩ rfl ?_
    refine zw_callv1 ⟨rfl, rfl⟩ rfl zc_208 rfl ?_
    refine m_Mmany hV (hM.cg (zup_row (by decide)))  ?_
    refine zw_i2l ⟨rfl, rfl⟩ ?_
    refine zw_calLs3 ⟨rfl, rfl⟩ rfl rfl ?_
    refine zw_lload ⟨rfl, rfl⟩ rfl ?_
    refine zw_lload ⟨rfl, rfl⟩ rfl ?_
    refine zw_lcmp ⟨rfl, rfl⟩ ?_
    refine zw_iflt ⟨rfl, rfl⟩ rfl (fun c2 => ?_) (fun c2 => ?_)
    · replace c2 := zlc_lt.mp c2
      refine zw_const ⟨rfl, rfl⟩ ?_
      refine zw_zret rfl (by first | exact Or.inl rfl | exact Or.inr rfl | omega) ?_
      refine zw_ifne ⟨rfl, rfl⟩ rfl (fun q => absurd q (by decide)) (fun _ => ?_)
      refine zw_const ⟨rfl, rfl⟩ ?_
      refine zw_ret rfl ?_
      have e : ya_next σ p d = (-5) := by unfold ya_next; (repeat' split) <;> first | rfl | omega | (exfalso; omega)
      rw [e] at k
      exact k _ ymf_0
    · replace c2 := (not_congr zlc_lt).mp c2
      refine zw_lload ⟨rfl, rfl⟩ rfl ?_
      refine zw_lload ⟨rfl, rfl⟩ rfl ?_
      refine zw_lcmp ⟨rfl, rfl⟩ ?_
      refine zw_ifgt ⟨rfl, rfl⟩ rfl (fun c4 => ?_) (fun c4 => ?_)
      · replace c4 := zlc_gt.mp c4
        refine zw_const ⟨rfl, rfl⟩ ?_
        refine zw_zret rfl (by first | exact Or.inl rfl | exact Or.inr rfl | omega) ?_
        refine zw_ifne ⟨rfl, rfl⟩ rfl (fun q => absurd q (by decide)) (fun _ => ?_)
        refine zw_const ⟨rfl, rfl⟩ ?_
        refine zw_ret rfl ?_
        have e : ya_next σ p d = (-5) := by unfold ya_next; (repeat' split) <;> first | rfl | omega | (exfalso; omega)
        rw [e] at k
        exact k _ ymf_0
      · replace c4 := (not_congr zlc_gt).mp c4
        refine zw_const ⟨rfl, rfl⟩ ?_
        refine zw_goto ⟨rfl, rfl⟩ rfl ?_
        refine zw_zret rfl (by first | exact Or.inl rfl | exact Or.inr rfl | omega) ?_
        refine zw_ifne ⟨rfl, rfl⟩ rfl (fun _ => ?_) (fun q => absurd (by decide) q)
        refine zw_aload ⟨rfl, rfl⟩ rfl ?_
        refine zw_cavv1 ⟨rfl, rfl⟩ rfl zc_208 rfl ?_
        refine m_laysAll hV (hM.cg (zup_row (by decide))) (fun N1 p1 => ?_)
        have hG1 := p1.1
        have hf1 : ymf M N1 := ymf_0.tr p1.2.m
        have hM1 : yMo N1 σ := hM.cg (hf1.1 209 (Or.inl rfl))
        refine zw_iload ⟨rfl, rfl⟩ rfl ?_
        refine zw_const ⟨rfl, rfl⟩ ?_
        refine zw_icne ⟨rfl, rfl⟩ rfl (fun c7 => ?_) (fun c7 => ?_)
        · skip
          refine zw_aload ⟨rfl, rfl⟩ rfl ?_
          refine zw_getIv (v := (yci (yK σ) (σ 0))) ⟨rfl, rfl⟩ zc_208 (by decide) (hG1.1.1) ?_
          refine zw_istore_3 ⟨rfl, rfl⟩ ?_
          have hd : d = -1 := by omega
          subst hd
          refine m_Mnext_d hV hG1 (by omega) ?_ _ _ ⟨by omega, Int.le_refl _⟩ (fun j a b => by omega) (Nat.lt_succ_self _)
          rw [show ya_next σ p (-1) = ysd (yK σ) p from by unfold ya_next; rw [if_neg (by omega), if_pos (by omega), if_neg (by omega)]] at k
          exact k _ hf1
        · skip
          refine zw_const ⟨rfl, rfl⟩ ?_
          refine zw_istore_3 ⟨rfl, rfl⟩ ?_
          have hd : d = 1 := by omega
          subst hd
          refine m_Mnext_u hV hG1 (by omega) ?_ _ _ ⟨by decide, by omega⟩ (fun j a b => by omega) (Nat.lt_succ_self _)
          rw [show ya_next σ p 1 = ysu (yK σ) (σ 0) p from by unfold ya_next; rw [if_neg (by omega), if_pos (by omega), if_pos rfl]] at k
          exact k _ hf1
  · skip
    refine zw_iload ⟨rfl, rfl⟩ rfl ?_
    refine zw_const ⟨rfl, rfl⟩ ?_
    refine zw_iceq ⟨rfl, rfl⟩ rfl (fun c8 => ?_) (fun c8 => ?_)
    · skip
      refine zw_iload ⟨rfl, rfl⟩ rfl ?_
      refine zw_i2l ⟨rfl, rfl⟩ ?_
      refine zw_lconst ⟨rfl, rfl⟩ ?_
      refine zw_aload ⟨rfl, rfl⟩ rfl ?_
      refine zw_callv1 ⟨rfl, rfl⟩ rfl zc_208 rfl ?_
      refine m_Mmany hV (hM.cg (zup_row (by decide)))  ?_
      refine zw_i2l ⟨rfl, rfl⟩ ?_
      refine zw_calLs3 ⟨rfl, rfl⟩ rfl rfl ?_
      refine zw_lload ⟨rfl, rfl⟩ rfl ?_
      refine zw_lload ⟨rfl, rfl⟩ rfl ?_
      refine zw_lcmp ⟨rfl, rfl⟩ ?_
      refine zw_iflt ⟨rfl, rfl⟩ rfl (fun c9 => ?_) (fun c9 => ?_)
      · replace c9 := zlc_lt.mp c9
        refine zw_const ⟨rfl, rfl⟩ ?_
        refine zw_zret rfl (by first | exact Or.inl rfl | exact Or.inr rfl | omega) ?_
        refine zw_ifne ⟨rfl, rfl⟩ rfl (fun q => absurd q (by decide)) (fun _ => ?_)
        refine zw_const ⟨rfl, rfl⟩ ?_
        refine zw_ret rfl ?_
        have e : ya_next σ p d = (-5) := by unfold ya_next; (repeat' split) <;> first | rfl | omega | (exfalso; omega)
        rw [e] at k
        exact k _ ymf_0
      · replace c9 := (not_congr zlc_lt).mp c9
        refine zw_lload ⟨rfl, rfl⟩ rfl ?_
        refine zw_lload ⟨rfl, rfl⟩ rfl ?_
        refine zw_lcmp ⟨rfl, rfl⟩ ?_
        refine zw_ifgt ⟨rfl, rfl⟩ rfl (fun c11 => ?_) (fun c11 => ?_)
        · replace c11 := zlc_gt.mp c11
          refine zw_const ⟨rfl, rfl⟩ ?_
          refine zw_zret rfl (by first | exact Or.inl rfl | exact Or.inr rfl | omega) ?_
          refine zw_ifne ⟨rfl, rfl⟩ rfl (fun q => absurd q (by decide)) (fun _ => ?_)
          refine zw_const ⟨rfl, rfl⟩ ?_
          refine zw_ret rfl ?_
          have e : ya_next σ p d = (-5) := by unfold ya_next; (repeat' split) <;> first | rfl | omega | (exfalso; omega)
          rw [e] at k
          exact k _ ymf_0
        · replace c11 := (not_congr zlc_gt).mp c11
          refine zw_const ⟨rfl, rfl⟩ ?_
          refine zw_goto ⟨rfl, rfl⟩ rfl ?_
          refine zw_zret rfl (by first | exact Or.inl rfl | exact Or.inr rfl | omega) ?_
          refine zw_ifne ⟨rfl, rfl⟩ rfl (fun _ => ?_) (fun q => absurd (by decide) q)
          refine zw_aload ⟨rfl, rfl⟩ rfl ?_
          refine zw_cavv1 ⟨rfl, rfl⟩ rfl zc_208 rfl ?_
          refine m_laysAll hV (hM.cg (zup_row (by decide))) (fun N1 p1 => ?_)
          have hG1 := p1.1
          have hf1 : ymf M N1 := ymf_0.tr p1.2.m
          have hM1 : yMo N1 σ := hM.cg (hf1.1 209 (Or.inl rfl))
          refine zw_iload ⟨rfl, rfl⟩ rfl ?_
          refine zw_const ⟨rfl, rfl⟩ ?_
          refine zw_icne ⟨rfl, rfl⟩ rfl (fun c14 => ?_) (fun c14 => ?_)
          · skip
            refine zw_aload ⟨rfl, rfl⟩ rfl ?_
            refine zw_getIv (v := (yci (yK σ) (σ 0))) ⟨rfl, rfl⟩ zc_208 (by decide) (hG1.1.1) ?_
            refine zw_istore_3 ⟨rfl, rfl⟩ ?_
            have hd : d = -1 := by omega
            subst hd
            refine m_Mnext_d hV hG1 (by omega) ?_ _ _ ⟨by omega, Int.le_refl _⟩ (fun j a b => by omega) (Nat.lt_succ_self _)
            rw [show ya_next σ p (-1) = ysd (yK σ) p from by unfold ya_next; rw [if_neg (by omega), if_pos (by omega), if_neg (by omega)]] at k
            exact k _ hf1
          · skip
            refine zw_const ⟨rfl, rfl⟩ ?_
            refine zw_istore_3 ⟨rfl, rfl⟩ ?_
            have hd : d = 1 := by omega
            subst hd
            refine m_Mnext_u hV hG1 (by omega) ?_ _ _ ⟨by decide, by omega⟩ (fun j a b => by omega) (Nat.lt_succ_self _)
            rw [show ya_next σ p 1 = ysu (yK σ) (σ 0) p from by unfold ya_next; rw [if_neg (by omega), if_pos (by omega), if_pos rfl]] at k
            exact k _ hf1
    · skip
      refine zw_const ⟨rfl, rfl⟩ ?_
      refine zw_ret rfl ?_
      have e : ya_next σ p d = (-3) := by unfold ya_next; (repeat' split) <;> first | rfl | omega | (exfalso; omega)
      rw [e] at k
      exact k _ ymf_0

theorem d_count {w : Int} {M : zM} {Q : zV → zM → Prop} {σ : yS} (hV : yVal σ) (hM : yMo M σ) {dt dn : Int} (hdt : M 208 35 = dt) (hdn : M 208 3 = dn) (k : ∀ N : zM, ymf M N → Q (0, ya_count σ dt dn w) N) : zWp kM_count 0 [(1, 208), (0, w)] [] M Q := by
  have hK := yKr_K hV
  have hn := hV.1
  have hci := yci_60 hK
  have eyL : (yTk σ (yci (yK σ) (σ 0))).1 = (yLast σ).1 := rfl
  have hgl := yLast_r hV
  refine zw_aload ⟨rfl, rfl⟩ rfl ?_
  refine zw_const ⟨rfl, rfl⟩ ?_
  refine zw_putI ⟨rfl, rfl⟩ zc_208 (by decide) (fun h => absurd h (by decide)) ?_
  refine zw_aload ⟨rfl, rfl⟩ rfl ?_
  refine zw_cavv1 ⟨rfl, rfl⟩ rfl zc_208 rfl ?_
  refine m_laysAll hV (hM.cg (zup_row (by decide))) (fun N1 p1 => ?_)
  have hG1 := p1.1
  have hf1 : ymf M N1 := ymf_0.tr p1.2.m
  have hM1 : yMo N1 σ := hM.cg (hf1.1 209 (Or.inl rfl))
  refine zw_iload ⟨rfl, rfl⟩ rfl ?_
  by_cases e1_0 : w = 0
  · refine zw_table ⟨rfl, rfl⟩ (t' := 7) (by rw [e1_0]; rfl) ?_
    refine zw_aload ⟨rfl, rfl⟩ rfl ?_
    refine zw_callv1 ⟨rfl, rfl⟩ rfl zc_208 rfl ?_
    refine m_Mmany hV hM1  ?_
    refine zw_ret rfl ?_
    have e : ya_count σ dt dn w = σ 0 := by unfold ya_count; (repeat' split) <;> first | rfl | omega | (exfalso; omega)
    rw [e] at k
    exact k _ hf1
  by_cases e1_1 : w = 1
  · refine zw_table ⟨rfl, rfl⟩ (t' := 10) (by rw [e1_1]; rfl) ?_
    refine zw_aload ⟨rfl, rfl⟩ rfl ?_
    refine zw_aload ⟨rfl, rfl⟩ rfl ?_
    refine zw_getR 209 ⟨rfl, rfl⟩ zr_208_1 ?_
    refine zw_callv2 ⟨rfl, rfl⟩ rfl zc_208 rfl ?_
    refine m_withKind hM1 ?_
    refine zw_ret rfl ?_
    have e : ya_count σ dt dn w = ylt σ := by unfold ya_count; (repeat' split) <;> first | rfl | omega | (exfalso; omega)
    rw [e] at k
    exact k _ hf1
  by_cases e1_2 : w = 2
  · refine zw_table ⟨rfl, rfl⟩ (t' := 15) (by rw [e1_2]; rfl) ?_
    refine zw_aload ⟨rfl, rfl⟩ rfl ?_
    refine zw_getR 209 ⟨rfl, rfl⟩ zr_208_1 ?_
    refine zw_const ⟨rfl, rfl⟩ ?_
    refine zw_ialdv (v := σ 1) ⟨rfl, rfl⟩ za_209 (by omega) (hM1 1 (by decide) (by decide)) ?_
    refine zw_ret rfl ?_
    have e : ya_count σ dt dn w = σ 1 := by unfold ya_count; (repeat' split) <;> first | rfl | omega | (exfalso; omega)
    rw [e] at k
    exact k _ hf1
  by_cases e1_3 : w = 3
  · refine zw_table ⟨rfl, rfl⟩ (t' := 20) (by rw [e1_3]; rfl) ?_
    refine zw_aload ⟨rfl, rfl⟩ rfl ?_
    refine zw_getIv (v := dt) ⟨rfl, rfl⟩ zc_208 (by decide) ((hf1.2 35 (by omega)).trans hdt) ?_
    refine zw_ret rfl ?_
    have e : ya_count σ dt dn w = dt := by unfold ya_count; (repeat' split) <;> first | rfl | omega | (exfalso; omega)
    rw [e] at k
    exact k _ hf1
  by_cases e1_4 : w = 4
  · refine zw_table ⟨rfl, rfl⟩ (t' := 23) (by rw [e1_4]; rfl) ?_
    refine zw_aload ⟨rfl, rfl⟩ rfl ?_
    refine zw_getIv (v := dn) ⟨rfl, rfl⟩ zc_208 (by decide) ((hf1.2 3 (by omega)).trans hdn) ?_
    refine zw_ret rfl ?_
    have e : ya_count σ dt dn w = dn := by unfold ya_count; (repeat' split) <;> first | rfl | omega | (exfalso; omega)
    rw [e] at k
    exact k _ hf1
  by_cases e1_5 : w = 5
  · refine zw_table ⟨rfl, rfl⟩ (t' := 26) (by rw [e1_5]; rfl) ?_
    refine zw_aload ⟨rfl, rfl⟩ rfl ?_
    refine zw_aload ⟨rfl, rfl⟩ rfl ?_
    refine zw_getIv (v := (yci (yK σ) (σ 0))) ⟨rfl, rfl⟩ zc_208 (by decide) (hG1.1.1) ?_
    refine zw_callv2 ⟨rfl, rfl⟩ rfl zc_208 rfl ?_
    refine m_MxOf hV hG1 ⟨by omega, by omega⟩ ?_
    refine zw_ret rfl ?_
    have e : ya_count σ dt dn w = yX σ (yci (yK σ) (σ 0)) := by unfold ya_count; (repeat' split) <;> first | rfl | omega | (exfalso; omega)
    rw [e] at k
    exact k _ hf1
  by_cases e1_6 : w = 6
  · refine zw_table ⟨rfl, rfl⟩ (t' := 31) (by rw [e1_6]; rfl) ?_
    refine zw_aload ⟨rfl, rfl⟩ rfl ?_
    refine zw_const ⟨rfl, rfl⟩ ?_
    refine zw_callv2 ⟨rfl, rfl⟩ rfl zc_208 rfl ?_
    refine m_ofForm hV hG1 ?_
    refine zw_ret rfl ?_
    have e : ya_count σ dt dn w = yff (yLast σ) 10 := by unfold ya_count; (repeat' split) <;> first | rfl | omega | (exfalso; omega)
    rw [e] at k
    exact k _ hf1
  by_cases e1_7 : w = 7
  · refine zw_table ⟨rfl, rfl⟩ (t' := 35) (by rw [e1_7]; rfl) ?_
    refine zw_aload ⟨rfl, rfl⟩ rfl ?_
    refine zw_const ⟨rfl, rfl⟩ ?_
    refine zw_callv2 ⟨rfl, rfl⟩ rfl zc_208 rfl ?_
    refine m_ofForm hV hG1 ?_
    refine zw_ret rfl ?_
    have e : ya_count σ dt dn w = yff (yLast σ) 8 := by unfold ya_count; (repeat' split) <;> first | rfl | omega | (exfalso; omega)
    rw [e] at k
    exact k _ hf1
  refine zw_table ⟨rfl, rfl⟩ (t' := 39) (by rw [ztgt_out (by show _ < (0 : Int) ∨ 0 + 8 ≤ _; omega)]; rfl) ?_
  refine zw_const ⟨rfl, rfl⟩ ?_
  refine zw_ret rfl ?_
  have e : ya_count σ dt dn w = (-1) := by unfold ya_count; (repeat' split) <;> first | rfl | omega | (exfalso; omega)
  rw [e] at k
  exact k _ hf1

theorem d_fault {w : Int} {M : zM} {Q : zV → zM → Prop} {σ : yS} (hV : yVal σ) (hM : yMo M σ) {ff fp : Int} (hff : M 208 38 = ff) (hfp : M 208 39 = fp) (k : ∀ N : zM, ymf M N → Q (0, ya_fault ff fp w) N) : zWp kM_fault 0 [(1, 208), (0, w)] [] M Q := by
  have hK := yKr_K hV
  have hn := hV.1
  have hci := yci_60 hK
  have eyL : (yTk σ (yci (yK σ) (σ 0))).1 = (yLast σ).1 := rfl
  have hgl := yLast_r hV
  refine zw_aload ⟨rfl, rfl⟩ rfl ?_
  refine zw_const ⟨rfl, rfl⟩ ?_
  refine zw_putI ⟨rfl, rfl⟩ zc_208 (by decide) (fun h => absurd h (by decide)) ?_
  refine zw_iload ⟨rfl, rfl⟩ rfl ?_
  refine zw_ifne ⟨rfl, rfl⟩ rfl (fun c1 => ?_) (fun c1 => ?_)
  · skip
    refine zw_iload ⟨rfl, rfl⟩ rfl ?_
    refine zw_const ⟨rfl, rfl⟩ ?_
    refine zw_icne ⟨rfl, rfl⟩ rfl (fun c2 => ?_) (fun c2 => ?_)
    · skip
      refine zw_const ⟨rfl, rfl⟩ ?_
      refine zw_ret rfl ?_
      have e : ya_fault ff fp w = (-1) := by unfold ya_fault; (repeat' split) <;> first | rfl | omega | (exfalso; omega)
      rw [e] at k
      exact k _ ymf_0
    · skip
      refine zw_aload ⟨rfl, rfl⟩ rfl ?_
      refine zw_getIv (v := fp) ⟨rfl, rfl⟩ zc_208 (by decide) ((zup_ni (by decide)).trans (hfp)) ?_
      refine zw_goto ⟨rfl, rfl⟩ rfl ?_
      refine zw_ret rfl ?_
      have e : ya_fault ff fp w = fp := by unfold ya_fault; (repeat' split) <;> first | rfl | omega | (exfalso; omega)
      rw [e] at k
      exact k _ ymf_0
  · skip
    refine zw_aload ⟨rfl, rfl⟩ rfl ?_
    refine zw_getIv (v := ff) ⟨rfl, rfl⟩ zc_208 (by decide) ((zup_ni (by decide)).trans (hff)) ?_
    refine zw_goto ⟨rfl, rfl⟩ rfl ?_
    refine zw_ret rfl ?_
    have e : ya_fault ff fp w = ff := by unfold ya_fault; (repeat' split) <;> first | rfl | omega | (exfalso; omega)
    rw [e] at k
    exact k _ ymf_0
