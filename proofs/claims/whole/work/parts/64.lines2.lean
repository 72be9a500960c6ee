/-! A script's text: the class' Reader, lines -/
theorem yscb_99 : yscb 99 := ⟨rfl, rfl, rfl, rfl, rfl, rfl, rfl, rfl, rfl⟩
theorem yscb_3 : yscb 3 := ⟨rfl, rfl, rfl, rfl, rfl, rfl, rfl, rfl, rfl⟩
theorem ytK_01 (tp : Int → Int) (b w len : Int) (τ : yS) : (ytK tp b w len τ).1 = 0 ∨ (ytK tp b w len τ).1 = 1 := by
  refine yfo_i (P := fun s : Int × yS => s.1 = 0 ∨ s.1 = 1) (Or.inr rfl) (fun q _ _ T _ => ?_)
  unfold yk1; split
  · exact Or.inr rfl
  · exact Or.inl rfl
theorem ytM_01 (tp : Int → Int) (b x len : Int) (τ : yS) : (ytM tp b x len τ).1 = 0 ∨ (ytM tp b x len τ).1 = 1 := by
  refine yfo_i (P := fun s : Int × Int × yS => s.1 = 0 ∨ s.1 = 1) (Or.inr rfl) (fun q _ _ T _ => ?_)
  unfold yme1; split
  · exact Or.inr rfl
  · exact Or.inl rfl
theorem ytS_01 (tp : Int → Int) (b len : Int) (τ : yS) : (ytS tp b len τ).1 = 0 ∨ (ytS tp b len τ).1 = 1 := by unfold ytS; split <;> first | exact Or.inr rfl | exact Or.inl rfl
theorem ytr_01 (tp : Int → Int) (b w len : Int) (τ : yS) : (ytr tp b w len τ).1 = 0 ∨ (ytr tp b w len τ).1 = 1 := by
  unfold ytr
  split
  · exact ytS_01 ..
  · split
    · unfold ytP; split <;> first | exact Or.inr rfl | exact Or.inl rfl
    · split
      · exact ytM_01 ..
      · exact ytK_01 ..
theorem yok_01 (tp : Int → Int) (b w len t : Int) (τ : yS) : yok tp b w len t τ = 0 ∨ yok tp b w len t τ = 1 := by
  unfold yok; split
  · exact Or.inl rfl
  · exact ytr_01 ..
theorem ysi1_r (w : Int) : (ysi1 w = 1 ∧ (w = 3 ∨ w = 4 ∨ w = 12 ∨ w = 13 ∨ w = 14)) ∨ (ysi1 w = 0 ∧ ¬ (w = 3 ∨ w = 4 ∨ w = 12 ∨ w = 13 ∨ w = 14)) := by unfold ysi1; split <;> omega
theorem ytt_14 {w t : Int} (hw : 1 ≤ w ∧ w ≤ 17) (ht : 0 ≤ t ∧ t < 2147483648) : yhb (ytt w t) 14 = if w = 14 then 1 else yhb t 14 := by
  have h := ysi1_r w
  unfold ytt
  by_cases q : ysi1 w = 1
  · rw [if_pos q, yhb_or ht (by omega) (by decide)]
    by_cases z : w = 14
    · rw [if_pos z, if_pos (by omega)]
    · rw [if_neg z, if_neg (by omega)]
  · rw [if_neg q, if_neg (by omega)]
section
set_option maxHeartbeats 4000000
theorem m_isToldOnce {w : Int} {M : zM} {Q : zV → zM → Prop} (k : Q (0, ysi1 w) M) : zWp kX_isToldOnce 0 [(0, w)] [] M Q := by
  refine zw_iload ⟨rfl, rfl⟩ rfl ?_
  refine zw_const ⟨rfl, rfl⟩ ?_
  refine zw_iceq ⟨rfl, rfl⟩ rfl (fun c1 => ?_) (fun c1 => ?_)
  · skip
    refine zw_const ⟨rfl, rfl⟩ ?_
    refine zw_goto ⟨rfl, rfl⟩ rfl ?_
    refine zw_zret rfl (by first | exact Or.inl rfl | exact Or.inr rfl | omega) ?_
    rw [show ysi1 w = 1 from by unfold ysi1; split <;> first | rfl | (exfalso; omega)] at k
    exact k
  · skip
    refine zw_iload ⟨rfl, rfl⟩ rfl ?_
    refine zw_const ⟨rfl, rfl⟩ ?_
    refine zw_iceq ⟨rfl, rfl⟩ rfl (fun c2 => ?_) (fun c2 => ?_)
    · skip
      refine zw_const ⟨rfl, rfl⟩ ?_
      refine zw_goto ⟨rfl, rfl⟩ rfl ?_
      refine zw_zret rfl (by first | exact Or.inl rfl | exact Or.inr rfl | omega) ?_
      rw [show ysi1 w = 1 from by unfold ysi1; split <;> first | rfl | (exfalso; omega)] at k
      exact k
    · skip
      refine zw_iload ⟨rfl, rfl⟩ rfl ?_
      refine zw_calls1 ⟨rfl, rfl⟩ rfl rfl ?_
      refine zw_iload ⟨rfl, rfl⟩ rfl ?_
      refine zw_const ⟨rfl, rfl⟩ ?_
      refine zw_iceq ⟨rfl, rfl⟩ rfl (fun c3 => ?_) (fun c3 => ?_)
      · skip
        refine zw_const ⟨rfl, rfl⟩ ?_
        refine zw_goto ⟨rfl, rfl⟩ rfl ?_
        refine zw_zret rfl (by first | exact Or.inl rfl | exact Or.inr rfl | omega) ?_
        refine zw_ifne ⟨rfl, rfl⟩ rfl (fun _ => ?_) (fun q => absurd (by decide) q)
        refine zw_const ⟨rfl, rfl⟩ ?_
        refine zw_goto ⟨rfl, rfl⟩ rfl ?_
        refine zw_zret rfl (by first | exact Or.inl rfl | exact Or.inr rfl | omega) ?_
        rw [show ysi1 w = 1 from by unfold ysi1; split <;> first | rfl | (exfalso; omega)] at k
        exact k
      · skip
        refine zw_iload ⟨rfl, rfl⟩ rfl ?_
        refine zw_const ⟨rfl, rfl⟩ ?_
        refine zw_icne ⟨rfl, rfl⟩ rfl (fun c5 => ?_) (fun c5 => ?_)
        · skip
          refine zw_const ⟨rfl, rfl⟩ ?_
          refine zw_zret rfl (by first | exact Or.inl rfl | exact Or.inr rfl | omega) ?_
          refine zw_ifne ⟨rfl, rfl⟩ rfl (fun q => absurd q (by decide)) (fun _ => ?_)
          refine zw_iload ⟨rfl, rfl⟩ rfl ?_
          refine zw_const ⟨rfl, rfl⟩ ?_
          refine zw_icne ⟨rfl, rfl⟩ rfl (fun c7 => ?_) (fun c7 => ?_)
          · skip
            refine zw_const ⟨rfl, rfl⟩ ?_
            refine zw_zret rfl (by first | exact Or.inl rfl | exact Or.inr rfl | omega) ?_
            rw [show ysi1 w = 0 from by unfold ysi1; split <;> first | rfl | (exfalso; omega)] at k
            exact k
          · skip
            refine zw_const ⟨rfl, rfl⟩ ?_
            refine zw_goto ⟨rfl, rfl⟩ rfl ?_
            refine zw_zret rfl (by first | exact Or.inl rfl | exact Or.inr rfl | omega) ?_
            rw [show ysi1 w = 1 from by unfold ysi1; split <;> first | rfl | (exfalso; omega)] at k
            exact k
        · skip
          refine zw_const ⟨rfl, rfl⟩ ?_
          refine zw_goto ⟨rfl, rfl⟩ rfl ?_
          refine zw_zret rfl (by first | exact Or.inl rfl | exact Or.inr rfl | omega) ?_
          refine zw_ifne ⟨rfl, rfl⟩ rfl (fun _ => ?_) (fun q => absurd (by decide) q)
          refine zw_const ⟨rfl, rfl⟩ ?_
          refine zw_goto ⟨rfl, rfl⟩ rfl ?_
          refine zw_zret rfl (by first | exact Or.inl rfl | exact Or.inr rfl | omega) ?_
          rw [show ysi1 w = 1 from by unfold ysi1; split <;> first | rfl | (exfalso; omega)] at k
          exact k

theorem m_takeRow_b {w b len : Int} {τ : yS} {tp : Int → Int} {n : Int} {M : zM} {Q : zV → zM → Prop} (hI : yIn M tp n) (hl : yLet tp b len) (hb : 0 ≤ b ∧ 1 ≤ len ∧ b + len ≤ n) (hw : 1 ≤ w ∧ w ≤ 17) (hV : yVt τ) (hS : ySr M τ) (hra : w = 14 → len = 1 ∧ M 99 4 = -1) (kk : ∀ P : zM, (∀ x, ¬ (99 ≤ x ∧ x ≤ 103) → P x = M x) → (w ≠ 14 → P 99 4 = M 99 4) → ((ytr tp b w len τ).1 = 1 → ySr P (ytr tp b w len τ).2) → Q (0, (ytr tp b w len τ).1) P) : zWp kRe_takeRow 22 [(1, 98), (0, w), (0, b), (0, len)] [] M Q := by
  have hn := hI.1.2
  refine zw_iload ⟨rfl, rfl⟩ rfl ?_
  by_cases e1_0 : w = 9
  · refine zw_table ⟨rfl, rfl⟩ (t' := 56) (by rw [e1_0]; rfl) ?_
    refine zw_iload ⟨rfl, rfl⟩ rfl ?_
    refine zw_const ⟨rfl, rfl⟩ ?_
    refine zw_icne ⟨rfl, rfl⟩ rfl (fun c2 => ?_) (fun c2 => ?_)
    · skip
      refine zw_const ⟨rfl, rfl⟩ ?_
      refine zw_zret rfl (by first | exact Or.inl rfl | exact Or.inr rfl | omega) ?_
      have er : ytr tp b w len τ = (0, τ) := by
        unfold ytr ytS
        rw [if_pos (by omega), if_neg (fun z => by have z1 := z.1; omega)]
      rw [er] at kk
      exact kk _ (fun _ _ => rfl) (fun _ => rfl) (fun z => absurd z (by show ¬ ((0 : Int) = 1); decide))
    · skip
      refine zw_aload ⟨rfl, rfl⟩ rfl ?_
      refine zw_iload ⟨rfl, rfl⟩ rfl ?_
      refine zw_callv2 ⟨rfl, rfl⟩ rfl zc_98 rfl ?_
      have hlen : len = 3 := by omega
      subst hlen
      have hz := ytS_01 tp b 3 τ
      refine m_takeSplit hI hl ⟨hb.1, hb.2.2⟩ hV hS (fun P1 q1 q4 q2 => ?_)
      refine zw_ifeq ⟨rfl, rfl⟩ rfl (fun c3 => ?_) (fun c3 => ?_)
      · skip
        refine zw_const ⟨rfl, rfl⟩ ?_
        refine zw_zret rfl (by first | exact Or.inl rfl | exact Or.inr rfl | omega) ?_
        have er : ytr tp b w 3 τ = ytS tp b 3 τ := if_pos (by omega)
        rw [er, show (ytS tp b 3 τ).1 = 0 by omega] at kk
        exact kk _ q1 (fun _ => q4) (fun z => q2 (by omega))
      · skip
        refine zw_const ⟨rfl, rfl⟩ ?_
        refine zw_goto ⟨rfl, rfl⟩ rfl ?_
        refine zw_zret rfl (by first | exact Or.inl rfl | exact Or.inr rfl | omega) ?_
        have er : ytr tp b w 3 τ = ytS tp b 3 τ := if_pos (by omega)
        rw [er, show (ytS tp b 3 τ).1 = 1 by omega] at kk
        exact kk _ q1 (fun _ => q4) (fun z => q2 (by omega))
  by_cases e1_1 : w = 10
  · refine zw_table ⟨rfl, rfl⟩ (t' := 67) (by rw [e1_1]; rfl) ?_
    refine zw_aload ⟨rfl, rfl⟩ rfl ?_
    refine zw_iload ⟨rfl, rfl⟩ rfl ?_
    refine zw_iload ⟨rfl, rfl⟩ rfl ?_
    refine zw_iload ⟨rfl, rfl⟩ rfl ?_
    refine zw_callv4 ⟨rfl, rfl⟩ rfl zc_98 rfl ?_
    have hz := ytK_01 tp b w len τ
    refine m_takeKind hI hl ⟨hb.1, by omega, hb.2.2⟩ ⟨by omega, by omega, by omega⟩ hV (fun P1 q1 q2 => ?_) hS
    refine zw_zret rfl (by first | exact Or.inl rfl | exact Or.inr rfl | omega) ?_
    have er : ytr tp b w len τ = ytK tp b w len τ := by unfold ytr; (repeat' split) <;> first | rfl | (exfalso; omega)
    rw [er] at kk
    exact kk _ (fun r hr => q1 r (by omega)) (fun _ => congrFun (q1 99 (by decide)) 4) q2
  by_cases e1_2 : w = 11
  · refine zw_table ⟨rfl, rfl⟩ (t' := 67) (by rw [e1_2]; rfl) ?_
    refine zw_aload ⟨rfl, rfl⟩ rfl ?_
    refine zw_iload ⟨rfl, rfl⟩ rfl ?_
    refine zw_iload ⟨rfl, rfl⟩ rfl ?_
    refine zw_iload ⟨rfl, rfl⟩ rfl ?_
    refine zw_callv4 ⟨rfl, rfl⟩ rfl zc_98 rfl ?_
    have hz := ytK_01 tp b w len τ
    refine m_takeKind hI hl ⟨hb.1, by omega, hb.2.2⟩ ⟨by omega, by omega, by omega⟩ hV (fun P1 q1 q2 => ?_) hS
    refine zw_zret rfl (by first | exact Or.inl rfl | exact Or.inr rfl | omega) ?_
    have er : ytr tp b w len τ = ytK tp b w len τ := by unfold ytr; (repeat' split) <;> first | rfl | (exfalso; omega)
    rw [er] at kk
    exact kk _ (fun r hr => q1 r (by omega)) (fun _ => congrFun (q1 99 (by decide)) 4) q2
  by_cases e1_3 : w = 12
  · refine zw_table ⟨rfl, rfl⟩ (t' := 67) (by rw [e1_3]; rfl) ?_
    refine zw_aload ⟨rfl, rfl⟩ rfl ?_
    refine zw_iload ⟨rfl, rfl⟩ rfl ?_
    refine zw_iload ⟨rfl, rfl⟩ rfl ?_
    refine zw_iload ⟨rfl, rfl⟩ rfl ?_
    refine zw_callv4 ⟨rfl, rfl⟩ rfl zc_98 rfl ?_
    have hz := ytK_01 tp b w len τ
    refine m_takeKind hI hl ⟨hb.1, by omega, hb.2.2⟩ ⟨by omega, by omega, by omega⟩ hV (fun P1 q1 q2 => ?_) hS
    refine zw_zret rfl (by first | exact Or.inl rfl | exact Or.inr rfl | omega) ?_
    have er : ytr tp b w len τ = ytK tp b w len τ := by unfold ytr; (repeat' split) <;> first | rfl | (exfalso; omega)
    rw [er] at kk
    exact kk _ (fun r hr => q1 r (by omega)) (fun _ => congrFun (q1 99 (by decide)) 4) q2
  by_cases e1_4 : w = 13
  · refine zw_table ⟨rfl, rfl⟩ (t' := 67) (by rw [e1_4]; rfl) ?_
    refine zw_aload ⟨rfl, rfl⟩ rfl ?_
    refine zw_iload ⟨rfl, rfl⟩ rfl ?_
    refine zw_iload ⟨rfl, rfl⟩ rfl ?_
    refine zw_iload ⟨rfl, rfl⟩ rfl ?_
    refine zw_callv4 ⟨rfl, rfl⟩ rfl zc_98 rfl ?_
    have hz := ytK_01 tp b w len τ
    refine m_takeKind hI hl ⟨hb.1, by omega, hb.2.2⟩ ⟨by omega, by omega, by omega⟩ hV (fun P1 q1 q2 => ?_) hS
    refine zw_zret rfl (by first | exact Or.inl rfl | exact Or.inr rfl | omega) ?_
    have er : ytr tp b w len τ = ytK tp b w len τ := by unfold ytr; (repeat' split) <;> first | rfl | (exfalso; omega)
    rw [er] at kk
    exact kk _ (fun r hr => q1 r (by omega)) (fun _ => congrFun (q1 99 (by decide)) 4) q2
  by_cases e1_5 : w = 14
  · refine zw_table ⟨rfl, rfl⟩ (t' := 24) (by rw [e1_5]; rfl) ?_
    refine zw_aload ⟨rfl, rfl⟩ rfl ?_
    refine zw_iload ⟨rfl, rfl⟩ rfl ?_
    refine zw_callv2 ⟨rfl, rfl⟩ rfl zc_98 rfl ?_
    have hra2 := hra (by omega)
    obtain ⟨hlen, h4⟩ := hra2
    subst hlen
    have hz := ytM_01 tp b 1 1 τ
    refine m_takeRa hI hl ⟨hb.1, hb.2.2⟩ hV hS h4 (fun P1 q1 q2 => ?_)
    refine zw_zret rfl (by first | exact Or.inl rfl | exact Or.inr rfl | omega) ?_
    have er : ytr tp b w 1 τ = ((ytM tp b 1 1 τ).1, (ytM tp b 1 1 τ).2.2) := by unfold ytr; (repeat' split) <;> first | rfl | (exfalso; omega)
    rw [er] at kk
    exact kk _ q1 (fun z => absurd (by omega) z) q2
  by_cases e1_6 : w = 15
  · refine zw_table ⟨rfl, rfl⟩ (t' := 28) (by rw [e1_6]; rfl) ?_
    refine zw_aload ⟨rfl, rfl⟩ rfl ?_
    refine zw_iload ⟨rfl, rfl⟩ rfl ?_
    refine zw_iload ⟨rfl, rfl⟩ rfl ?_
    refine zw_iload ⟨rfl, rfl⟩ rfl ?_
    refine zw_callv4 ⟨rfl, rfl⟩ rfl zc_98 rfl ?_
    have hxw : (w = 15 ∧ (if w = 15 then (2 : Int) else 4) = 2) ∨ (w = 16 ∧ (if w = 15 then (2 : Int) else 4) = 4) := by
      by_cases z : w = 15
      · exact Or.inl ⟨z, if_pos z⟩
      · exact Or.inr ⟨by omega, if_neg z⟩
    have hz := ytM_01 tp b (if w = 15 then 2 else 4) len τ
    refine m_takeTraits hI hl ⟨hb.1, by omega, hb.2.2⟩ hxw hV hS (fun P1 q1 q4 q2 => ?_)
    refine zw_zret rfl (by first | exact Or.inl rfl | exact Or.inr rfl | omega) ?_
    have er : ytr tp b w len τ = ((ytM tp b (if w = 15 then 2 else 4) len τ).1, (ytM tp b (if w = 15 then 2 else 4) len τ).2.2) := by unfold ytr; (repeat' split) <;> first | rfl | (exfalso; omega)
    rw [er] at kk
    exact kk _ q1 (fun _ => q4) q2
  by_cases e1_7 : w = 16
  · refine zw_table ⟨rfl, rfl⟩ (t' := 28) (by rw [e1_7]; rfl) ?_
    refine zw_aload ⟨rfl, rfl⟩ rfl ?_
    refine zw_iload ⟨rfl, rfl⟩ rfl ?_
    refine zw_iload ⟨rfl, rfl⟩ rfl ?_
    refine zw_iload ⟨rfl, rfl⟩ rfl ?_
    refine zw_callv4 ⟨rfl, rfl⟩ rfl zc_98 rfl ?_
    have hxw : (w = 15 ∧ (if w = 15 then (2 : Int) else 4) = 2) ∨ (w = 16 ∧ (if w = 15 then (2 : Int) else 4) = 4) := by
      by_cases z : w = 15
      · exact Or.inl ⟨z, if_pos z⟩
      · exact Or.inr ⟨by omega, if_neg z⟩
    have hz := ytM_01 tp b (if w = 15 then 2 else 4) len τ
    refine m_takeTraits hI hl ⟨hb.1, by omega, hb.2.2⟩ hxw hV hS (fun P1 q1 q4 q2 => ?_)
    refine zw_zret rfl (by first | exact Or.inl rfl | exact Or.inr rfl | omega) ?_
    have er : ytr tp b w len τ = ((ytM tp b (if w = 15 then 2 else 4) len τ).1, (ytM tp b (if w = 15 then 2 else 4) len τ).2.2) := by unfold ytr; (repeat' split) <;> first | rfl | (exfalso; omega)
    rw [er] at kk
    exact kk _ q1 (fun _ => q4) q2
  by_cases e1_8 : w = 17
  · refine zw_table ⟨rfl, rfl⟩ (t' := 34) (by rw [e1_8]; rfl) ?_
    refine zw_iload ⟨rfl, rfl⟩ rfl ?_
    refine zw_const ⟨rfl, rfl⟩ ?_
    refine zw_icne ⟨rfl, rfl⟩ rfl (fun c4 => ?_) (fun c4 => ?_)
    · skip
      refine zw_const ⟨rfl, rfl⟩ ?_
      refine zw_zret rfl (by first | exact Or.inl rfl | exact Or.inr rfl | omega) ?_
      have er : ytr tp b w len τ = (0, τ) := by
        unfold ytr ytP
        rw [if_neg (by omega), if_pos (by omega), if_neg (fun z => by have z1 := z.1; omega)]
      rw [er] at kk
      exact kk _ (fun _ _ => rfl) (fun _ => rfl) (fun z => absurd z (by show ¬ ((0 : Int) = 1); decide))
    · skip
      refine zw_aload ⟨rfl, rfl⟩ rfl ?_
      refine zw_aload ⟨rfl, rfl⟩ rfl ?_
      refine zw_iload ⟨rfl, rfl⟩ rfl ?_
      refine zw_callv2 ⟨rfl, rfl⟩ rfl zc_98 rfl ?_
      have hl0 := hl 0 (by decide) (by omega)
      rw [Int.add_zero] at hl0
      have hl1 := hl 1 (by decide) (by omega)
      refine m_byteAt hI ?_
      rw [show yby tp n (b) = tp (b) from if_pos ⟨by omega, by omega⟩]
      refine zw_const ⟨rfl, rfl⟩ ?_
      refine zw_isub ⟨rfl, rfl⟩ (by omega) ?_
      refine zw_aload ⟨rfl, rfl⟩ rfl ?_
      refine zw_iload ⟨rfl, rfl⟩ rfl ?_
      refine zw_const ⟨rfl, rfl⟩ ?_
      refine zw_iadd ⟨rfl, rfl⟩ (by omega) ?_
      refine zw_callv2 ⟨rfl, rfl⟩ rfl zc_98 rfl ?_
      have hl0 := hl 0 (by decide) (by omega)
      rw [Int.add_zero] at hl0
      have hl1 := hl 1 (by decide) (by omega)
      refine m_byteAt hI ?_
      rw [show yby tp n (b + 1) = tp (b + 1) from if_pos ⟨by omega, by omega⟩]
      refine zw_const ⟨rfl, rfl⟩ ?_
      refine zw_isub ⟨rfl, rfl⟩ (by omega) ?_
      refine zw_callv3 ⟨rfl, rfl⟩ rfl zc_98 rfl ?_
      have hl0 := hl 0 (by decide) (by omega)
      rw [Int.add_zero] at hl0
      have hl1 := hl 1 (by decide) (by omega)
      refine m_takePair (a := tp b - 97) (c := tp (b + 1) - 97) ⟨by omega, by omega⟩ ⟨by omega, by omega⟩ hV hS (fun r1 P1 q1 q4 q2 q3 => ?_)
      refine zw_ifeq ⟨rfl, rfl⟩ rfl (fun c5 => ?_) (fun c5 => ?_)
      · skip
        refine zw_const ⟨rfl, rfl⟩ ?_
        refine zw_zret rfl (by first | exact Or.inl rfl | exact Or.inr rfl | omega) ?_
        have e0 : tp (b + 0) - 97 = tp b - 97 := by rw [Int.add_zero]
        have hok : ¬ (τ (2 + (tp b - 97)) = 1 ∧ τ (2 + (tp (b + 1) - 97)) = 1 ∧ yjn τ (tp b - 97) (tp (b + 1) - 97) = 0 ∧ τ 1 < 8) := fun z => by have := (q2 z).1; omega
        have er : ytr tp b w len τ = (0, τ) := by
          unfold ytr ytP
          rw [if_neg (by omega), if_pos (by omega), e0, if_neg (fun z => hok z.2)]
        rw [er] at kk
        exact kk _ q1 (fun _ => q4) (fun z => absurd z (by show ¬ ((0 : Int) = 1); decide))
      · skip
        refine zw_const ⟨rfl, rfl⟩ ?_
        refine zw_goto ⟨rfl, rfl⟩ rfl ?_
        refine zw_zret rfl (by first | exact Or.inl rfl | exact Or.inr rfl | omega) ?_
        have e0 : tp (b + 0) - 97 = tp b - 97 := by rw [Int.add_zero]
        have hok : τ (2 + (tp b - 97)) = 1 ∧ τ (2 + (tp (b + 1) - 97)) = 1 ∧ yjn τ (tp b - 97) (tp (b + 1) - 97) = 0 ∧ τ 1 < 8 := by
          by_cases z : τ (2 + (tp b - 97)) = 1 ∧ τ (2 + (tp (b + 1) - 97)) = 1 ∧ yjn τ (tp b - 97) (tp (b + 1) - 97) = 0 ∧ τ 1 < 8
          · exact z
          · exact absurd (q3 z) (by omega)
        have er : ytr tp b w len τ = (1, yAP τ (tp b - 97) (tp (b + 1) - 97)) := by
          unfold ytr ytP
          rw [if_neg (by omega), if_pos (by omega), e0, if_pos ⟨by omega, hok⟩]
        rw [er] at kk
        exact kk _ q1 (fun _ => q4) (fun _ => (q2 hok).2)
  refine zw_table ⟨rfl, rfl⟩ (t' := 67) (by rw [ztgt_out (by show _ < (9 : Int) ∨ 9 + 9 ≤ _; omega)]; rfl) ?_
  refine zw_aload ⟨rfl, rfl⟩ rfl ?_
  refine zw_iload ⟨rfl, rfl⟩ rfl ?_
  refine zw_iload ⟨rfl, rfl⟩ rfl ?_
  refine zw_iload ⟨rfl, rfl⟩ rfl ?_
  refine zw_callv4 ⟨rfl, rfl⟩ rfl zc_98 rfl ?_
  have hz := ytK_01 tp b w len τ
  refine m_takeKind hI hl ⟨hb.1, by omega, hb.2.2⟩ ⟨by omega, by omega, by omega⟩ hV (fun P1 q1 q2 => ?_) hS
  refine zw_zret rfl (by first | exact Or.inl rfl | exact Or.inr rfl | omega) ?_
  have er : ytr tp b w len τ = ytK tp b w len τ := by unfold ytr; (repeat' split) <;> first | rfl | (exfalso; omega)
  rw [er] at kk
  exact kk _ (fun r hr => q1 r (by omega)) (fun _ => congrFun (q1 99 (by decide)) 4) q2

theorem m_takeRow {w b len t : Int} {τ : yS} {tp : Int → Int} {n : Int} {M : zM} {Q : zV → zM → Prop} (hI : yIn M tp n) (hl : yLet tp b len) (hb : 0 ≤ b ∧ 1 ≤ len ∧ b + len ≤ n) (hw : 1 ≤ w ∧ w ≤ 17) (hV : yVt τ) (hS : ySr M τ) (ht : M 98 6 = t ∧ 0 ≤ t ∧ t < 2147483648) (hra : yhb t 14 = 0 → M 99 4 = -1) (kk : ∀ P : zM, (∀ x, ¬ (98 ≤ x ∧ x ≤ 103) → P x = M x) → (∀ j, j ≠ 6 → P 98 j = M 98 j) → (yok tp b w len t τ = 1 → P 98 6 = ytt w t ∧ ySr P (ytr tp b w len τ).2 ∧ (yhb (ytt w t) 14 = 0 → P 99 4 = -1)) → Q (0, yok tp b w len t τ) P) : zWp kRe_takeRow 0 [(1, 98), (0, w), (0, b), (0, len)] [] M Q := by
  have hn := hI.1.2
  have hsi := ysi1_r w
  have hbt := zzz_rng (x := t) (b := w) ⟨by omega, by omega⟩
  have h2p := y2p (l := w) (by omega)
  refine zw_iload ⟨rfl, rfl⟩ rfl ?_
  refine zw_calls1 ⟨rfl, rfl⟩ rfl rfl ?_
  refine m_isToldOnce ?_
  refine zw_ifeq ⟨rfl, rfl⟩ rfl (fun c1 => ?_) (fun c1 => ?_)
  · skip
    have eo : yok tp b w len t τ = (ytr tp b w len τ).1 := if_neg (fun z => by omega)
    rw [eo] at kk
    have h14 := ytt_14 hw ht.2
    have et : ytt w t = t := if_neg (by omega)
    refine m_takeRow_b hI hl hb hw hV hS (fun z => by exfalso; omega) (fun P q1 q2 q3 => ?_)
    refine kk _ (fun x hx => q1 x (by omega)) (fun j hj => congrFun (q1 98 (by decide)) j) (fun z => ⟨((congrFun (q1 98 (by decide)) 6).trans ht.1).trans et.symm, q3 z, fun y => ?_⟩)
    rw [et] at y
    exact (q2 (by omega)).trans (hra y)
  · skip
    refine zw_iload ⟨rfl, rfl⟩ rfl ?_
    refine zw_const ⟨rfl, rfl⟩ ?_
    refine zw_icne ⟨rfl, rfl⟩ rfl (fun c2 => ?_) (fun c2 => ?_)
    · skip
      refine zw_const ⟨rfl, rfl⟩ ?_
      refine zw_zret rfl (by first | exact Or.inl rfl | exact Or.inr rfl | omega) ?_
      have eo : yok tp b w len t τ = 0 := if_pos ⟨by omega, by omega⟩
      rw [eo] at kk
      exact kk _ (fun _ _ => rfl) (fun _ _ => rfl) (fun z => absurd z (by decide))
    · skip
      refine zw_aload ⟨rfl, rfl⟩ rfl ?_
      refine zw_getIv (v := t) ⟨rfl, rfl⟩ zc_98 (by decide) (ht.1) ?_
      refine zw_iload ⟨rfl, rfl⟩ rfl ?_
      refine zw_calls2 ⟨rfl, rfl⟩ rfl rfl ?_
      refine m_hasBit ⟨by omega, by omega⟩ ?_
      refine zw_const ⟨rfl, rfl⟩ ?_
      refine zw_icne ⟨rfl, rfl⟩ rfl (fun c3 => ?_) (fun c3 => ?_)
      · skip
        refine zw_aload ⟨rfl, rfl⟩ rfl ?_
        refine zw_dup ⟨rfl, rfl⟩ (by decide) ?_
        refine zw_getIv (v := t) ⟨rfl, rfl⟩ zc_98 (by decide) (ht.1) ?_
        refine zw_const ⟨rfl, rfl⟩ ?_
        refine zw_iload ⟨rfl, rfl⟩ rfl ?_
        refine zw_ishl ⟨rfl, rfl⟩ (by omega) ?_
        refine zw_ior ⟨rfl, rfl⟩ (by omega) ?_
        refine zw_putI ⟨rfl, rfl⟩ zc_98 (by decide) (fun h => absurd h (by decide)) ?_
        have eo : yok tp b w len t τ = (ytr tp b w len τ).1 := if_neg (fun z => by omega)
        rw [eo] at kk
        have h14 := ytt_14 hw ht.2
        have et : ytt w t = zor t (1 * 2 ^ (Int.toNat w)) := if_pos (by omega)
        have hbz : w = 14 → yhb t 14 = 0 := fun z => by
          have hb2 : yhb t w = 0 := by omega
          rw [z] at hb2; exact hb2
        refine m_takeRow_b (M := (zup M 98 6 (zor t (1 * 2 ^ (Int.toNat w))))) (hI.cg (zup_row (by decide)) (zup_ni (by decide))) hl hb hw hV (hS.cg (fun x x1 x2 => zup_row (by omega))) (fun z => ⟨by omega, (zup_na (by decide)).trans (hra (hbz z))⟩) (fun P q1 q2 q3 => ?_)
        refine kk _ (fun x hx => (q1 x (by omega)).trans (zup_row (by omega))) (fun j hj => (congrFun (q1 98 (by decide)) j).trans (zup_ni hj)) (fun z => ⟨((congrFun (q1 98 (by decide)) 6).trans (zup_eq _ _ _ _)).trans et.symm, q3 z, fun y => ?_⟩)
        rw [h14] at y
        by_cases z14 : w = 14
        · rw [if_pos z14] at y; omega
        · rw [if_neg z14] at y
          exact (q2 z14).trans ((zup_na (by decide)).trans (hra y))
      · skip
        refine zw_const ⟨rfl, rfl⟩ ?_
        refine zw_zret rfl (by first | exact Or.inl rfl | exact Or.inr rfl | omega) ?_
        have eo : yok tp b w len t τ = 0 := if_pos ⟨by omega, by omega⟩
        rw [eo] at kk
        exact kk _ (fun _ _ => rfl) (fun _ _ => rfl) (fun z => absurd z (by decide))

def yLq (N : zM) (tp : Int → Int) (n : Int) (s : yLn) : Prop := (N 98 1 = s.1 ∧ N 98 2 = s.2.1) ∧ (0 ≤ N 98 5 ∧ N 98 5 ≤ n) ∧ (s.1 = 0 → ybl tp n (N 98 5) = s.2.2.1 ∧ N 98 6 = s.2.2.2.1 ∧ ySr N s.2.2.2.2 ∧ (yhb s.2.2.2.1 14 = 0 → N 99 4 = -1))
def yLh (N : zM) (n : Int) (s : yLn) : Prop := (N 98 1 = s.1 ∧ N 98 2 = s.2.1) ∧ (0 ≤ N 98 5 ∧ N 98 5 ≤ n) ∧ (s.1 = 0 → N 98 5 = s.2.2.1 ∧ N 98 6 = s.2.2.2.1 ∧ ySr N s.2.2.2.2 ∧ (yhb s.2.2.2.1 14 = 0 → N 99 4 = -1))
def yf98 (M N : zM) : Prop := (∀ x, ¬ (98 ≤ x ∧ x ≤ 103) → N x = M x) ∧ N 98 4 = M 98 4
theorem yf98.rf {M : zM} : yf98 M M := ⟨fun _ _ => rfl, rfl⟩
theorem yf98.tr {M N P : zM} (h : yf98 M N) (g : yf98 N P) : yf98 M P := ⟨fun x hx => (g.1 x hx).trans (h.1 x hx), g.2.trans h.2⟩
theorem yf98.up {M P : zM} {i v : Int} (h : yf98 M P) (hi : i ≠ 4) : yf98 M (zup P 98 i v) := ⟨fun x hx => (zup_row (by omega)).trans (h.1 x hx), (zup_ni (fun z => hi z.symm)).trans h.2⟩

theorem m_readLine {s : yLn} {tp : Int → Int} {n : Int} {M : zM} {Q : zV → zM → Prop} (hI : yIn M tp n) (h0 : s.1 = 0) (hv : yLv n s tp) (hp : s.2.2.1 < n) (hL : yLh M n s) (kk : ∀ N : zM, yf98 M N → yLq N tp n (yln tp n s) → Q (3, 0) N) : zWp kRe_readLine 0 [(1, 98), (3, 0), (3, 0), (3, 0), (3, 0), (3, 0)] [] M Q := by
  have hn := hI.1.2
  obtain ⟨v1, ⟨v2, v3⟩, v4, v5, v6⟩ := hv h0
  obtain ⟨⟨g1, g2⟩, -, g3⟩ := hL
  obtain ⟨g5, g6, g7, g8⟩ := g3 h0
  rw [h0] at g1
  have l1 := yle_r (tp := tp) v3
  have b1 := (ybl_r (tp := tp) (p := yle tp n s.2.2.1) l1.1.2).1
  have l2 := yle_r (tp := tp) (p := ybl tp n (yle tp n s.2.2.1)) b1.2
  have b2 := ybl_r (tp := tp) (p := yle tp n (ybl tp n (yle tp n s.2.2.1))) l2.1.2
  have hwr := ywf_r tp s.2.2.1 (yle tp n s.2.2.1 - s.2.2.1)
  obtain ⟨y1, hy1⟩ : ∃ y, y = yln tp n s := ⟨_, rfl⟩
  have hyl := hy1
  unfold yln at hyl
  generalize hpp : s.2.2.1 = p at *
  generalize he : yle tp n p = e at *
  generalize hrr : ybl tp n e = r at *
  generalize hqq : yle tp n r = q at *
  generalize hzz : ybl tp n q = z at *
  generalize hww : ywf tp p (e - p) = wd at *
  rw [← hy1] at kk
  refine zw_aload ⟨rfl, rfl⟩ rfl ?_
  refine zw_getIv (v := p) ⟨rfl, rfl⟩ zc_98 (by decide) (g5) ?_
  refine zw_istore_1 ⟨rfl, rfl⟩ ?_
  refine zw_aload ⟨rfl, rfl⟩ rfl ?_
  refine zw_callv1 ⟨rfl, rfl⟩ rfl zc_98 rfl ?_
  refine m_skipLetters hI ⟨g5, v2, v3⟩ ?_
  rw [he]
  refine zw_istore_2 ⟨rfl, rfl⟩ ?_
  refine zw_iload ⟨rfl, rfl⟩ rfl ?_
  refine zw_ifne ⟨rfl, rfl⟩ rfl (fun c1 => ?_) (fun c1 => ?_)
  · skip
    refine zw_aload ⟨rfl, rfl⟩ rfl ?_
    refine zw_iload ⟨rfl, rfl⟩ rfl ?_
    refine zw_iload ⟨rfl, rfl⟩ rfl ?_
    refine zw_callv3 ⟨rfl, rfl⟩ rfl zc_98 rfl ?_
    refine m_wordAt (hI.cg (zup_row (by decide)) (zup_ni (by decide))) ⟨v2, by omega, by omega⟩ ?_
    rw [hww]
    refine zw_istore_3 ⟨rfl, rfl⟩ ?_
    refine zw_iload ⟨rfl, rfl⟩ rfl ?_
    refine zw_const ⟨rfl, rfl⟩ ?_
    refine zw_icne ⟨rfl, rfl⟩ rfl (fun c2 => ?_) (fun c2 => ?_)
    · skip
      refine zw_aload ⟨rfl, rfl⟩ rfl ?_
      refine zw_cavv1 ⟨rfl, rfl⟩ rfl zc_98 rfl ?_
      refine m_skipBlanks (p := e) (hI.cg (zup_row (by decide)) (zup_ni (by decide))) ⟨zup_eq _ _ _ _, by omega, l1.1.2⟩ ?_
      rw [hrr]
      refine zw_aload ⟨rfl, rfl⟩ rfl ?_
      refine zw_getIv (v := r) ⟨rfl, rfl⟩ zc_98 (by decide) (zup_eq _ _ _ _) ?_
      refine zw_istore_4 ⟨rfl, rfl⟩ ?_
      refine zw_aload ⟨rfl, rfl⟩ rfl ?_
      refine zw_callv1 ⟨rfl, rfl⟩ rfl zc_98 rfl ?_
      refine m_skipLetters (p := r) (hI.cg ((zup_row (by decide)).trans (zup_row (by decide))) ((zup_ni (by decide)).trans (zup_ni (by decide)))) ⟨zup_eq _ _ _ _, by omega, b1.2⟩ ?_
      rw [hqq]
      refine zw_istore_5 ⟨rfl, rfl⟩ ?_
      refine zw_iload ⟨rfl, rfl⟩ rfl ?_
      refine zw_ifne ⟨rfl, rfl⟩ rfl (fun c3 => ?_) (fun c3 => ?_)
      · skip
        refine zw_aload ⟨rfl, rfl⟩ rfl ?_
        refine zw_iload ⟨rfl, rfl⟩ rfl ?_
        refine zw_iload ⟨rfl, rfl⟩ rfl ?_
        refine zw_iload ⟨rfl, rfl⟩ rfl ?_
        refine zw_callv4 ⟨rfl, rfl⟩ rfl zc_98 rfl ?_
        have hll : yLet tp r (q - r) := fun k k1 k2 => l2.2.2 (r + k) (by omega) (by omega)
        have e3 : ∀ x, x ≠ 98 → ((zup (zup (zup M 98 5 e) 98 5 r) 98 5 q)) x = M x := fun x hx => by simp only [zup_row hx]
        have e4 : ∀ j, j ≠ 5 → ((zup (zup (zup M 98 5 e) 98 5 r) 98 5 q)) 98 j = M 98 j := fun j hj => by simp only [zup_ni hj]
        refine m_takeRow (τ := s.2.2.2.2) (t := s.2.2.2.1) (M := (zup (zup (zup M 98 5 e) 98 5 r) 98 5 q)) (hI.cg (e3 104 (by decide)) (e4 4 (by decide))) hll ⟨by omega, by omega, by omega⟩ (by omega) v6 (g7.cg (fun x x1 x2 => e3 x (by omega))) ⟨(e4 6 (by decide)).trans g6, v5⟩ (fun y => by rw [e3 99 (by decide)]; exact g8 y) (fun P q1' q2' q3 => ?_)
        have hok01 := yok_01 tp r wd (q - r) s.2.2.2.1 s.2.2.2.2
        have q1 : ∀ x, ¬ (98 ≤ x ∧ x ≤ 103) → P x = M x := fun x hx => (q1' x hx).trans (e3 x (by omega))
        have q24 : P 98 4 = M 98 4 := (q2' 4 (by decide)).trans (e4 4 (by decide))
        have q25 : P 98 5 = q := (q2' 5 (by decide)).trans (zup_eq _ _ _ _)
        have q21 : P 98 1 = 0 := ((q2' 1 (by decide)).trans (e4 1 (by decide))).trans g1
        have q22 : P 98 2 = -1 := ((q2' 2 (by decide)).trans (e4 2 (by decide))).trans (g2.trans v1)
        have qf : yf98 M P := ⟨q1, q24⟩
        refine zw_ifne ⟨rfl, rfl⟩ rfl (fun c4 => ?_) (fun c4 => ?_)
        · skip
          refine zw_aload ⟨rfl, rfl⟩ rfl ?_
          refine zw_cavv1 ⟨rfl, rfl⟩ rfl zc_98 rfl ?_
          refine m_skipBlanks (p := q) (hI.cg (q1 104 (by omega)) q24) ⟨q25, by omega, l2.1.2⟩ ?_
          rw [hzz]
          refine zw_aload ⟨rfl, rfl⟩ rfl ?_
          refine zw_aload ⟨rfl, rfl⟩ rfl ?_
          refine zw_getIv (v := z) ⟨rfl, rfl⟩ zc_98 (by decide) (zup_eq _ _ _ _) ?_
          refine zw_callv2 ⟨rfl, rfl⟩ rfl zc_98 rfl ?_
          refine m_byteAt (hI.cg ((zup_row (by decide)).trans (q1 104 (by omega))) ((zup_ni (by decide)).trans q24)) ?_
          refine zw_const ⟨rfl, rfl⟩ ?_
          refine zw_iceq ⟨rfl, rfl⟩ rfl (fun c5 => ?_) (fun c5 => ?_)
          · skip
            refine zw_aload ⟨rfl, rfl⟩ rfl ?_
            refine zw_dup ⟨rfl, rfl⟩ (by decide) ?_
            refine zw_getIv (v := z) ⟨rfl, rfl⟩ zc_98 (by decide) (zup_eq _ _ _ _) ?_
            refine zw_const ⟨rfl, rfl⟩ ?_
            refine zw_iadd ⟨rfl, rfl⟩ (by omega) ?_
            refine zw_putI ⟨rfl, rfl⟩ zc_98 (by decide) (fun h => absurd h (by decide)) ?_
            refine zw_void rfl ?_
            rw [if_neg (by omega), if_neg (by omega), if_neg (by omega)] at hyl
            have hyl2 : y1 = (0, -1, ybl tp n (z + 1), ytt wd s.2.2.2.1, (ytr tp r wd (q - r) s.2.2.2.2).2) := by
              rw [hyl]; unfold yl5; rw [hzz, if_neg (by omega), if_neg (by omega)]
            obtain ⟨t1, t2, t3⟩ := q3 (by omega)
            have hlt : z < n := by
              by_cases y : z < n
              · exact y
              · have e9 : yby tp n z = -1 := if_neg (fun x => y x.2)
                omega
            refine kk _ (((qf).up (by decide)).up (by decide)) ?_
            rw [hyl2]
            refine ⟨⟨by simp only [zup_ni (show (1 : Int) ≠ 5 by decide)]; exact q21, by simp only [zup_ni (show (2 : Int) ≠ 5 by decide)]; exact q22⟩, ⟨by rw [zup_eq]; omega, by rw [zup_eq]; omega⟩, fun _ => ⟨by rw [zup_eq], by simp only [zup_ni (show (6 : Int) ≠ 5 by decide)]; exact t1, t2.cg (fun x x1 x2 => by simp only [zup_row (show x ≠ 98 by omega)]), fun y => by simp only [zup_row (show (99 : Int) ≠ 98 by decide)]; exact t3 y⟩⟩
          · skip
            refine zw_aload ⟨rfl, rfl⟩ rfl ?_
            refine zw_const ⟨rfl, rfl⟩ ?_
            refine zw_aload ⟨rfl, rfl⟩ rfl ?_
            refine zw_getIv (v := z) ⟨rfl, rfl⟩ zc_98 (by decide) (zup_eq _ _ _ _) ?_
            refine zw_cavv3 ⟨rfl, rfl⟩ rfl zc_98 rfl ?_
            refine zw_aload ⟨rfl, rfl⟩ rfl ?_
            refine zw_iload ⟨rfl, rfl⟩ rfl ?_
            refine zw_putI ⟨rfl, rfl⟩ zc_98 (by decide) (fun h => absurd h (by decide)) ?_
            refine zw_aload ⟨rfl, rfl⟩ rfl ?_
            refine zw_iload ⟨rfl, rfl⟩ rfl ?_
            refine zw_putI ⟨rfl, rfl⟩ zc_98 (by decide) (fun h => absurd h (by decide)) ?_
            refine zw_void rfl ?_
            refine zw_void rfl ?_
            rw [if_neg (by omega), if_neg (by omega), if_neg (by omega)] at hyl
            unfold yl5 at hyl
            rw [hzz, if_neg (by omega), if_pos (by omega)] at hyl
            refine kk _ ((((qf).up (by decide)).up (by decide)).up (by decide)) ?_
            rw [hyl]
            refine ⟨⟨by rw [zup_ni (by decide), zup_eq], by rw [zup_eq]; try (show z = z; omega)⟩, ?_, fun y => absurd y (by show ¬ ((1 : Int) = 0); decide)⟩
            simp only [zup_ni (show (5 : Int) ≠ 1 by decide), zup_ni (show (5 : Int) ≠ 2 by decide), zup_eq]
            try rw [q25]
            omega
        · skip
          refine zw_aload ⟨rfl, rfl⟩ rfl ?_
          refine zw_const ⟨rfl, rfl⟩ ?_
          refine zw_iload ⟨rfl, rfl⟩ rfl ?_
          refine zw_cavv3 ⟨rfl, rfl⟩ rfl zc_98 rfl ?_
          refine zw_aload ⟨rfl, rfl⟩ rfl ?_
          refine zw_iload ⟨rfl, rfl⟩ rfl ?_
          refine zw_putI ⟨rfl, rfl⟩ zc_98 (by decide) (fun h => absurd h (by decide)) ?_
          refine zw_aload ⟨rfl, rfl⟩ rfl ?_
          refine zw_iload ⟨rfl, rfl⟩ rfl ?_
          refine zw_putI ⟨rfl, rfl⟩ zc_98 (by decide) (fun h => absurd h (by decide)) ?_
          refine zw_void rfl ?_
          refine zw_void rfl ?_
          rw [if_neg (by omega), if_neg (by omega), if_neg (by omega)] at hyl
          unfold yl5 at hyl
          rw [if_pos (by omega)] at hyl
          refine kk _ (((qf).up (by decide)).up (by decide)) ?_
          rw [hyl]
          refine ⟨⟨by rw [zup_ni (by decide), zup_eq], by rw [zup_eq]; try (show r = r; omega)⟩, ?_, fun y => absurd y (by show ¬ ((3 : Int) = 0); decide)⟩
          simp only [zup_ni (show (5 : Int) ≠ 1 by decide), zup_ni (show (5 : Int) ≠ 2 by decide), zup_eq]
          try rw [q25]
          omega
      · skip
        refine zw_aload ⟨rfl, rfl⟩ rfl ?_
        refine zw_const ⟨rfl, rfl⟩ ?_
        refine zw_aload ⟨rfl, rfl⟩ rfl ?_
        refine zw_getIv (v := q) ⟨rfl, rfl⟩ zc_98 (by decide) (zup_eq _ _ _ _) ?_
        refine zw_cavv3 ⟨rfl, rfl⟩ rfl zc_98 rfl ?_
        refine zw_aload ⟨rfl, rfl⟩ rfl ?_
        refine zw_iload ⟨rfl, rfl⟩ rfl ?_
        refine zw_putI ⟨rfl, rfl⟩ zc_98 (by decide) (fun h => absurd h (by decide)) ?_
        refine zw_aload ⟨rfl, rfl⟩ rfl ?_
        refine zw_iload ⟨rfl, rfl⟩ rfl ?_
        refine zw_putI ⟨rfl, rfl⟩ zc_98 (by decide) (fun h => absurd h (by decide)) ?_
        refine zw_void rfl ?_
        refine zw_void rfl ?_
        rw [if_neg (by omega), if_neg (by omega), if_pos (by omega)] at hyl
        refine kk _ ((((((yf98.rf).up (by decide)).up (by decide)).up (by decide)).up (by decide)).up (by decide)) ?_
        rw [hyl]
        refine ⟨⟨by rw [zup_ni (by decide), zup_eq], by rw [zup_eq]; try (show q = r; omega)⟩, ?_, fun y => absurd y (by show ¬ ((1 : Int) = 0); decide)⟩
        simp only [zup_ni (show (5 : Int) ≠ 1 by decide), zup_ni (show (5 : Int) ≠ 2 by decide), zup_eq]
        try rw [q25]
        omega
    · skip
      refine zw_aload ⟨rfl, rfl⟩ rfl ?_
      refine zw_const ⟨rfl, rfl⟩ ?_
      refine zw_iload ⟨rfl, rfl⟩ rfl ?_
      refine zw_cavv3 ⟨rfl, rfl⟩ rfl zc_98 rfl ?_
      refine zw_aload ⟨rfl, rfl⟩ rfl ?_
      refine zw_iload ⟨rfl, rfl⟩ rfl ?_
      refine zw_putI ⟨rfl, rfl⟩ zc_98 (by decide) (fun h => absurd h (by decide)) ?_
      refine zw_aload ⟨rfl, rfl⟩ rfl ?_
      refine zw_iload ⟨rfl, rfl⟩ rfl ?_
      refine zw_putI ⟨rfl, rfl⟩ zc_98 (by decide) (fun h => absurd h (by decide)) ?_
      refine zw_void rfl ?_
      refine zw_void rfl ?_
      rw [if_neg (by omega), if_pos (by omega)] at hyl
      refine kk _ ((((yf98.rf).up (by decide)).up (by decide)).up (by decide)) ?_
      rw [hyl]
      refine ⟨⟨by rw [zup_ni (by decide), zup_eq], by rw [zup_eq]; try (show p = p; omega)⟩, ?_, fun y => absurd y (by show ¬ ((2 : Int) = 0); decide)⟩
      simp only [zup_ni (show (5 : Int) ≠ 1 by decide), zup_ni (show (5 : Int) ≠ 2 by decide), zup_eq]
      try rw [q25]
      omega
  · skip
    refine zw_aload ⟨rfl, rfl⟩ rfl ?_
    refine zw_const ⟨rfl, rfl⟩ ?_
    refine zw_aload ⟨rfl, rfl⟩ rfl ?_
    refine zw_getIv (v := e) ⟨rfl, rfl⟩ zc_98 (by decide) (zup_eq _ _ _ _) ?_
    refine zw_cavv3 ⟨rfl, rfl⟩ rfl zc_98 rfl ?_
    refine zw_aload ⟨rfl, rfl⟩ rfl ?_
    refine zw_iload ⟨rfl, rfl⟩ rfl ?_
    refine zw_putI ⟨rfl, rfl⟩ zc_98 (by decide) (fun h => absurd h (by decide)) ?_
    refine zw_aload ⟨rfl, rfl⟩ rfl ?_
    refine zw_iload ⟨rfl, rfl⟩ rfl ?_
    refine zw_putI ⟨rfl, rfl⟩ zc_98 (by decide) (fun h => absurd h (by decide)) ?_
    refine zw_void rfl ?_
    refine zw_void rfl ?_
    rw [if_pos (by omega)] at hyl
    refine kk _ ((((yf98.rf).up (by decide)).up (by decide)).up (by decide)) ?_
    rw [hyl]
    refine ⟨⟨by rw [zup_ni (by decide), zup_eq], by rw [zup_eq]; try (show e = p; omega)⟩, ?_, fun y => absurd y (by show ¬ ((1 : Int) = 0); decide)⟩
    simp only [zup_ni (show (5 : Int) ≠ 1 by decide), zup_ni (show (5 : Int) ≠ 2 by decide), zup_eq]
    try rw [q25]
    omega

end