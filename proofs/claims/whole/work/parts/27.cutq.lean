/-! The class' Cut: what it answers -/
theorem m_kindAt {p : Int} {M : zM} {Q : zV → zM → Prop} {K : Int → Int} {n : Int} (hK : yKr K n) (hC : yCut M K n) (k : Q (0, K p) M) : zWp kCu_kindAt 0 [(1, 105), (0, p)] [] M Q := by
  have hN := yci_60 hK
  have hn := hK.1
  refine zw_iload ⟨rfl, rfl⟩ rfl ?_
  refine zw_iflt ⟨rfl, rfl⟩ rfl (fun c1 => ?_) (fun c1 => ?_)
  · skip
    refine zw_const ⟨rfl, rfl⟩ ?_
    refine zw_ret rfl ?_
    rw [hK.2.2 p (by omega)] at k
    exact k
  · skip
    refine zw_iload ⟨rfl, rfl⟩ rfl ?_
    refine zw_aload ⟨rfl, rfl⟩ rfl ?_
    refine zw_getIv (v := n) ⟨rfl, rfl⟩ zc_105 (by decide) (hC.1.2) ?_
    refine zw_icge ⟨rfl, rfl⟩ rfl (fun c2 => ?_) (fun c2 => ?_)
    · skip
      refine zw_const ⟨rfl, rfl⟩ ?_
      refine zw_ret rfl ?_
      rw [hK.2.2 p (by omega)] at k
      exact k
    · skip
      refine zw_aload ⟨rfl, rfl⟩ rfl ?_
      refine zw_getR 106 ⟨rfl, rfl⟩ zr_105_2 ?_
      refine zw_iload ⟨rfl, rfl⟩ rfl ?_
      refine zw_ialdv (v := M 106 p) ⟨rfl, rfl⟩ za_106 (by omega) rfl ?_
      refine zw_goto ⟨rfl, rfl⟩ rfl ?_
      refine zw_ret rfl ?_
      rw [(hC.2.1 p (by omega) (by omega)).1]
      exact k

def yen (K : Int → Int) (n i : Int) : Int := if 0 ≤ i ∧ i < yci K n then yB K (i + 1) else 0
def ysp (K : Int → Int) (n i : Int) : Int := if 0 ≤ i ∧ i ≤ yci K n then yB K i else -1
theorem m_endOf {i : Int} {M : zM} {Q : zV → zM → Prop} {K : Int → Int} {n : Int} (hK : yKr K n) (hC : yCut M K n) (k : Q (0, yen K n i) M) : zWp kCu_endOf 0 [(1, 105), (0, i)] [] M Q := by
  have hN := yci_60 hK
  have hn := hK.1
  refine zw_aload ⟨rfl, rfl⟩ rfl ?_
  refine zw_iload ⟨rfl, rfl⟩ rfl ?_
  refine zw_callv2 ⟨rfl, rfl⟩ rfl zc_105 rfl ?_
  refine zw_iload ⟨rfl, rfl⟩ rfl ?_
  refine zw_iflt ⟨rfl, rfl⟩ rfl (fun c1 => ?_) (fun c1 => ?_)
  · skip
    refine zw_const ⟨rfl, rfl⟩ ?_
    refine zw_zret rfl (by first | exact Or.inl rfl | exact Or.inr rfl | omega) ?_
    refine zw_ifeq ⟨rfl, rfl⟩ rfl (fun _ => ?_) (fun q => absurd (by decide) q)
    refine zw_const ⟨rfl, rfl⟩ ?_
    refine zw_ret rfl ?_
    rw [show yen K n i = 0 from if_neg (by omega)] at k
    exact k
  · skip
    refine zw_iload ⟨rfl, rfl⟩ rfl ?_
    refine zw_aload ⟨rfl, rfl⟩ rfl ?_
    refine zw_getIv (v := yci K n) ⟨rfl, rfl⟩ zc_105 (by decide) (hC.1.1) ?_
    refine zw_icge ⟨rfl, rfl⟩ rfl (fun c3 => ?_) (fun c3 => ?_)
    · skip
      refine zw_const ⟨rfl, rfl⟩ ?_
      refine zw_zret rfl (by first | exact Or.inl rfl | exact Or.inr rfl | omega) ?_
      refine zw_ifeq ⟨rfl, rfl⟩ rfl (fun _ => ?_) (fun q => absurd (by decide) q)
      refine zw_const ⟨rfl, rfl⟩ ?_
      refine zw_ret rfl ?_
      rw [show yen K n i = 0 from if_neg (by omega)] at k
      exact k
    · skip
      refine zw_const ⟨rfl, rfl⟩ ?_
      refine zw_goto ⟨rfl, rfl⟩ rfl ?_
      refine zw_zret rfl (by first | exact Or.inl rfl | exact Or.inr rfl | omega) ?_
      refine zw_ifeq ⟨rfl, rfl⟩ rfl (fun q => absurd q (by decide)) (fun _ => ?_)
      refine zw_aload ⟨rfl, rfl⟩ rfl ?_
      refine zw_getR 108 ⟨rfl, rfl⟩ zr_105_4 ?_
      refine zw_const ⟨rfl, rfl⟩ ?_
      refine zw_row ⟨rfl, rfl⟩ zrw_108 (by omega) ?_
      rw [show ((109 : Int) + 0) = 109 from rfl]
      refine zw_iload ⟨rfl, rfl⟩ rfl ?_
      refine zw_ialdv (v := M 109 i) ⟨rfl, rfl⟩ za_109 (by omega) rfl ?_
      refine zw_aload ⟨rfl, rfl⟩ rfl ?_
      refine zw_getR 108 ⟨rfl, rfl⟩ zr_105_4 ?_
      refine zw_const ⟨rfl, rfl⟩ ?_
      refine zw_row ⟨rfl, rfl⟩ zrw_108 (by omega) ?_
      rw [show ((109 : Int) + 1) = 110 from rfl]
      refine zw_iload ⟨rfl, rfl⟩ rfl ?_
      refine zw_ialdv (v := M 110 i) ⟨rfl, rfl⟩ za_110 (by omega) rfl ?_
      refine zw_iadd ⟨rfl, rfl⟩ (by have := hC.2.2 i (by omega) (by omega); have := yB_cl hK (c := i) (by omega) (by omega); omega) ?_
      refine zw_goto ⟨rfl, rfl⟩ rfl ?_
      refine zw_ret rfl ?_
      rw [show yen K n i = yB K (i + 1) from if_pos (by omega)] at k
      have := hC.2.2 i (by omega) (by omega)
      rw [this.1, this.2.1, show yB K i + (yB K (i + 1) - yB K i) = yB K (i + 1) by omega]
      exact k

theorem m_factOf {i w : Int} {M : zM} {Q : zV → zM → Prop} {K : Int → Int} {n : Int} (hK : yKr K n) (hC : yCut M K n) (k : Q (0, if (0 ≤ i ∧ i < yci K n) ∧ 0 ≤ w ∧ w < 11 then M (109 + w) i else -1) M) : zWp kCu_factOf 0 [(1, 105), (0, i), (0, w)] [] M Q := by
  have hN := yci_60 hK
  have hn := hK.1
  refine zw_aload ⟨rfl, rfl⟩ rfl ?_
  refine zw_iload ⟨rfl, rfl⟩ rfl ?_
  refine zw_callv2 ⟨rfl, rfl⟩ rfl zc_105 rfl ?_
  refine zw_iload ⟨rfl, rfl⟩ rfl ?_
  refine zw_iflt ⟨rfl, rfl⟩ rfl (fun c1 => ?_) (fun c1 => ?_)
  · skip
    refine zw_const ⟨rfl, rfl⟩ ?_
    refine zw_zret rfl (by first | exact Or.inl rfl | exact Or.inr rfl | omega) ?_
    refine zw_ifeq ⟨rfl, rfl⟩ rfl (fun _ => ?_) (fun q => absurd (by decide) q)
    refine zw_const ⟨rfl, rfl⟩ ?_
    refine zw_ret rfl ?_
    rw [if_neg (by omega)] at k
    exact k
  · skip
    refine zw_iload ⟨rfl, rfl⟩ rfl ?_
    refine zw_aload ⟨rfl, rfl⟩ rfl ?_
    refine zw_getIv (v := yci K n) ⟨rfl, rfl⟩ zc_105 (by decide) (hC.1.1) ?_
    refine zw_icge ⟨rfl, rfl⟩ rfl (fun c3 => ?_) (fun c3 => ?_)
    · skip
      refine zw_const ⟨rfl, rfl⟩ ?_
      refine zw_zret rfl (by first | exact Or.inl rfl | exact Or.inr rfl | omega) ?_
      refine zw_ifeq ⟨rfl, rfl⟩ rfl (fun _ => ?_) (fun q => absurd (by decide) q)
      refine zw_const ⟨rfl, rfl⟩ ?_
      refine zw_ret rfl ?_
      rw [if_neg (by omega)] at k
      exact k
    · skip
      refine zw_const ⟨rfl, rfl⟩ ?_
      refine zw_goto ⟨rfl, rfl⟩ rfl ?_
      refine zw_zret rfl (by first | exact Or.inl rfl | exact Or.inr rfl | omega) ?_
      refine zw_ifeq ⟨rfl, rfl⟩ rfl (fun q => absurd q (by decide)) (fun _ => ?_)
      refine zw_iload ⟨rfl, rfl⟩ rfl ?_
      refine zw_iflt ⟨rfl, rfl⟩ rfl (fun c6 => ?_) (fun c6 => ?_)
      · skip
        refine zw_const ⟨rfl, rfl⟩ ?_
        refine zw_ret rfl ?_
        rw [if_neg (by omega)] at k
        exact k
      · skip
        refine zw_iload ⟨rfl, rfl⟩ rfl ?_
        refine zw_const ⟨rfl, rfl⟩ ?_
        refine zw_icge ⟨rfl, rfl⟩ rfl (fun c7 => ?_) (fun c7 => ?_)
        · skip
          refine zw_const ⟨rfl, rfl⟩ ?_
          refine zw_ret rfl ?_
          rw [if_neg (by omega)] at k
          exact k
        · skip
          refine zw_aload ⟨rfl, rfl⟩ rfl ?_
          refine zw_getR 108 ⟨rfl, rfl⟩ zr_105_4 ?_
          refine zw_iload ⟨rfl, rfl⟩ rfl ?_
          refine zw_row ⟨rfl, rfl⟩ zrw_108 (by omega) ?_
          refine zw_iload ⟨rfl, rfl⟩ rfl ?_
          refine zw_ialdv (v := M (109 + w) i) ⟨rfl, rfl⟩ (za_fact (by omega)) (by omega) rfl ?_
          refine zw_goto ⟨rfl, rfl⟩ rfl ?_
          refine zw_ret rfl ?_
          rw [if_pos (by omega)] at k
          exact k

theorem m_factOf_0 {i : Int} {M : zM} {Q : zV → zM → Prop} {K : Int → Int} {n : Int} (hK : yKr K n) (hC : yCut M K n) (k : Q (0, if 0 ≤ i ∧ i < yci K n then yB K i else -1) M) : zWp kCu_factOf 0 [(1, 105), (0, i), (0, 0)] [] M Q := by
  refine m_factOf hK hC ?_
  by_cases h : 0 ≤ i ∧ i < yci K n
  · rw [if_pos h] at k
    rw [if_pos ⟨h, by decide, by decide⟩]
    have := hC.2.2 i h.1 h.2
    rw [show M (109 + 0) i = yB K i from this.1]
    exact k
  · rw [if_neg h] at k
    rw [if_neg (fun q => h q.1)]
    exact k
theorem m_factOf_1 {i : Int} {M : zM} {Q : zV → zM → Prop} {K : Int → Int} {n : Int} (hK : yKr K n) (hC : yCut M K n) (k : Q (0, if 0 ≤ i ∧ i < yci K n then yB K (i + 1) - yB K i else -1) M) : zWp kCu_factOf 0 [(1, 105), (0, i), (0, 1)] [] M Q := by
  refine m_factOf hK hC ?_
  by_cases h : 0 ≤ i ∧ i < yci K n
  · rw [if_pos h] at k
    rw [if_pos ⟨h, by decide, by decide⟩]
    have := hC.2.2 i h.1 h.2
    rw [show M (109 + 1) i = yB K (i + 1) - yB K i from this.2.1]
    exact k
  · rw [if_neg h] at k
    rw [if_neg (fun q => h q.1)]
    exact k
theorem m_factOf_2 {i : Int} {M : zM} {Q : zV → zM → Prop} {K : Int → Int} {n : Int} (hK : yKr K n) (hC : yCut M K n) (k : Q (0, if 0 ≤ i ∧ i < yci K n then yso (K (yB K i)) else -1) M) : zWp kCu_factOf 0 [(1, 105), (0, i), (0, 2)] [] M Q := by
  refine m_factOf hK hC ?_
  by_cases h : 0 ≤ i ∧ i < yci K n
  · rw [if_pos h] at k
    rw [if_pos ⟨h, by decide, by decide⟩]
    have := hC.2.2 i h.1 h.2
    rw [show M (109 + 2) i = yso (K (yB K i)) from this.2.2]
    exact k
  · rw [if_neg h] at k
    rw [if_neg (fun q => h q.1)]
    exact k
theorem m_ownerOf {p : Int} {M : zM} {Q : zV → zM → Prop} {K : Int → Int} {n : Int} (hK : yKr K n) (hC : yCut M K n) (k : Q (0, if 0 ≤ p ∧ p < n then yci K (p + 1) - 1 else -1) M) : zWp kCu_ownerOf 0 [(1, 105), (0, p)] [] M Q := by
  have hN := yci_60 hK
  have hn := hK.1
  refine zw_iload ⟨rfl, rfl⟩ rfl ?_
  refine zw_iflt ⟨rfl, rfl⟩ rfl (fun c1 => ?_) (fun c1 => ?_)
  · skip
    refine zw_const ⟨rfl, rfl⟩ ?_
    refine zw_ret rfl ?_
    rw [if_neg (by omega)] at k
    exact k
  · skip
    refine zw_iload ⟨rfl, rfl⟩ rfl ?_
    refine zw_aload ⟨rfl, rfl⟩ rfl ?_
    refine zw_getIv (v := n) ⟨rfl, rfl⟩ zc_105 (by decide) (hC.1.2) ?_
    refine zw_icge ⟨rfl, rfl⟩ rfl (fun c2 => ?_) (fun c2 => ?_)
    · skip
      refine zw_const ⟨rfl, rfl⟩ ?_
      refine zw_ret rfl ?_
      rw [if_neg (by omega)] at k
      exact k
    · skip
      refine zw_aload ⟨rfl, rfl⟩ rfl ?_
      refine zw_getR 107 ⟨rfl, rfl⟩ zr_105_3 ?_
      refine zw_iload ⟨rfl, rfl⟩ rfl ?_
      refine zw_ialdv (v := M 107 p) ⟨rfl, rfl⟩ za_107 (by omega) rfl ?_
      refine zw_goto ⟨rfl, rfl⟩ rfl ?_
      refine zw_ret rfl ?_
      rw [if_pos (by omega)] at k
      rw [(hC.2.1 p (by omega) (by omega)).2]
      exact k

theorem m_stopPlace {i : Int} {M : zM} {Q : zV → zM → Prop} {K : Int → Int} {n : Int} (hK : yKr K n) (hC : yCut M K n) (k : Q (0, ysp K n i) M) : zWp kCu_stopPlace 0 [(1, 105), (0, i)] [] M Q := by
  have hN := yci_60 hK
  have hn := hK.1
  refine zw_iload ⟨rfl, rfl⟩ rfl ?_
  refine zw_iflt ⟨rfl, rfl⟩ rfl (fun c1 => ?_) (fun c1 => ?_)
  · skip
    refine zw_const ⟨rfl, rfl⟩ ?_
    refine zw_ret rfl ?_
    rw [show ysp K n i = -1 from if_neg (by omega)] at k
    exact k
  · skip
    refine zw_iload ⟨rfl, rfl⟩ rfl ?_
    refine zw_aload ⟨rfl, rfl⟩ rfl ?_
    refine zw_getIv (v := yci K n) ⟨rfl, rfl⟩ zc_105 (by decide) (hC.1.1) ?_
    refine zw_icle ⟨rfl, rfl⟩ rfl (fun c2 => ?_) (fun c2 => ?_)
    · skip
      refine zw_iload ⟨rfl, rfl⟩ rfl ?_
      refine zw_aload ⟨rfl, rfl⟩ rfl ?_
      refine zw_getIv (v := yci K n) ⟨rfl, rfl⟩ zc_105 (by decide) (hC.1.1) ?_
      refine zw_icne ⟨rfl, rfl⟩ rfl (fun c3 => ?_) (fun c3 => ?_)
      · skip
        refine zw_aload ⟨rfl, rfl⟩ rfl ?_
        refine zw_getR 108 ⟨rfl, rfl⟩ zr_105_4 ?_
        refine zw_const ⟨rfl, rfl⟩ ?_
        refine zw_row ⟨rfl, rfl⟩ zrw_108 (by omega) ?_
        rw [show ((109 : Int) + 0) = 109 from rfl]
        refine zw_iload ⟨rfl, rfl⟩ rfl ?_
        refine zw_ialdv (v := M 109 i) ⟨rfl, rfl⟩ za_109 (by omega) rfl ?_
        refine zw_ret rfl ?_
        rw [show ysp K n i = yB K i from if_pos (by omega)] at k
        rw [(hC.2.2 i (by omega) (by omega)).1]
        exact k
      · skip
        refine zw_aload ⟨rfl, rfl⟩ rfl ?_
        refine zw_getIv (v := n) ⟨rfl, rfl⟩ zc_105 (by decide) (hC.1.2) ?_
        refine zw_goto ⟨rfl, rfl⟩ rfl ?_
        refine zw_ret rfl ?_
        rw [show ysp K n i = yB K i from if_pos (by omega)] at k
        rw [show i = yci K n by omega, yB_n hK] at k
        exact k
    · skip
      refine zw_const ⟨rfl, rfl⟩ ?_
      refine zw_ret rfl ?_
      rw [show ysp K n i = -1 from if_neg (by omega)] at k
      exact k

theorem m_stopAt_l  {p : Int} {M : zM} {Q : zV → zM → Prop} {K : Int → Int} {n : Int} (hK : yKr K n) (hC : yCut M K n) (k : Q (0, ysa K n p) M) : ∀ (f : Nat) (i : Int), (0 ≤ i ∧ i ≤ yci K n + 1) → (∀ j, 0 ≤ j → j < i → yB K j ≠ p) → (yci K n + 1 - i).toNat < f → zWp kCu_stopAt 2 [(1, 105), (0, p), (0, i)] [] M Q := by
  intro f
  induction f with
  | zero => intro i h1 h2 hf; exact absurd hf (Nat.not_lt_zero _)
  | succ f ih =>
    intro i h1 h2 hf
    have hN := yci_60 hK
    have hn := hK.1
    refine zw_iload ⟨rfl, rfl⟩ rfl ?_
    refine zw_aload ⟨rfl, rfl⟩ rfl ?_
    refine zw_getIv (v := yci K n) ⟨rfl, rfl⟩ zc_105 (by decide) (hC.1.1) ?_
    refine zw_icgt ⟨rfl, rfl⟩ rfl (fun c1 => ?_) (fun c1 => ?_)
    · skip
      refine zw_const ⟨rfl, rfl⟩ ?_
      refine zw_ret rfl ?_
      by_cases hh : ysa K n p = -1
      · rw [hh] at k; exact k
      · obtain ⟨a1, a2⟩ := ysa_B hK hh
        exact absurd a2 (h2 _ a1.1 (by omega))
    · skip
      refine zw_aload ⟨rfl, rfl⟩ rfl ?_
      refine zw_iload ⟨rfl, rfl⟩ rfl ?_
      refine zw_callv2 ⟨rfl, rfl⟩ rfl zc_105 rfl ?_
      refine m_stopPlace hK hC ?_
      rw [show ysp K n i = yB K i from if_pos (by omega)]
      refine zw_iload ⟨rfl, rfl⟩ rfl ?_
      refine zw_icne ⟨rfl, rfl⟩ rfl (fun c2 => ?_) (fun c2 => ?_)
      · skip
        refine zw_iinc_2 ⟨rfl, rfl⟩ (by omega) ?_
        refine zw_goto ⟨rfl, rfl⟩ rfl ?_
        refine ih _ ?_ ?_ ?_
        · omega
        · intro j q1 q2; by_cases hj : j = i
          · subst hj; assumption
          · exact h2 j q1 (by omega)
        · omega
      · skip
        refine zw_iload ⟨rfl, rfl⟩ rfl ?_
        refine zw_ret rfl ?_
        rw [yB_iff hK h1.1 (by omega) (by omega)] at k
        exact k

theorem m_stopAt {p : Int} {M : zM} {Q : zV → zM → Prop} {K : Int → Int} {n : Int} (hK : yKr K n) (hC : yCut M K n) (k : Q (0, ysa K n p) M) : zWp kCu_stopAt 0 [(1, 105), (0, p), (3, 0)] [] M Q := by
  refine zw_const ⟨rfl, rfl⟩ ?_
  refine zw_istore_2 ⟨rfl, rfl⟩ ?_
  exact m_stopAt_l hK hC k _ _ ⟨by decide, by have := yci_60 hK; omega⟩ (fun j a b => by omega) (Nat.lt_succ_self _)

theorem m_stopAbove_l  {p : Int} {M : zM} {Q : zV → zM → Prop} {K : Int → Int} {n : Int} (hK : yKr K n) (hC : yCut M K n) (hp : 0 ≤ p ∧ p ≤ n) (k : Q (0, ysu K n p) M) : ∀ (f : Nat) (i : Int), (0 ≤ i ∧ i ≤ yci K n + 1) → (∀ j, 0 ≤ j → j < i → yB K j ≤ p) → (yci K n + 1 - i).toNat < f → zWp kCu_stopAbove 2 [(1, 105), (0, p), (0, i)] [] M Q := by
  intro f
  induction f with
  | zero => intro i h1 h2 hf; exact absurd hf (Nat.not_lt_zero _)
  | succ f ih =>
    intro i h1 h2 hf
    have hN := yci_60 hK
    have hn := hK.1
    refine zw_iload ⟨rfl, rfl⟩ rfl ?_
    refine zw_aload ⟨rfl, rfl⟩ rfl ?_
    refine zw_getIv (v := yci K n) ⟨rfl, rfl⟩ zc_105 (by decide) (hC.1.1) ?_
    refine zw_icgt ⟨rfl, rfl⟩ rfl (fun c1 => ?_) (fun c1 => ?_)
    · skip
      refine zw_const ⟨rfl, rfl⟩ ?_
      refine zw_ret rfl ?_
      have := h2 (yci K n) hN.1 (by omega)
      rw [yB_n hK] at this
      rw [show ysu K n p = -1 from if_neg (by omega)] at k
      exact k
    · skip
      refine zw_aload ⟨rfl, rfl⟩ rfl ?_
      refine zw_iload ⟨rfl, rfl⟩ rfl ?_
      refine zw_callv2 ⟨rfl, rfl⟩ rfl zc_105 rfl ?_
      refine m_stopPlace hK hC ?_
      rw [show ysp K n i = yB K i from if_pos (by omega)]
      refine zw_iload ⟨rfl, rfl⟩ rfl ?_
      refine zw_icle ⟨rfl, rfl⟩ rfl (fun c2 => ?_) (fun c2 => ?_)
      · skip
        refine zw_iinc_2 ⟨rfl, rfl⟩ (by omega) ?_
        refine zw_goto ⟨rfl, rfl⟩ rfl ?_
        refine ih _ ?_ ?_ ?_
        · omega
        · intro j q1 q2; by_cases hj : j = i
          · subst hj; assumption
          · exact h2 j q1 (by omega)
        · omega
      · skip
        refine zw_aload ⟨rfl, rfl⟩ rfl ?_
        refine zw_iload ⟨rfl, rfl⟩ rfl ?_
        refine zw_callv2 ⟨rfl, rfl⟩ rfl zc_105 rfl ?_
        refine m_stopPlace hK hC ?_
        rw [show ysp K n i = yB K i from if_pos (by omega)]
        refine zw_ret rfl ?_
        have a := (yB_gt hK hp h1.1 (by omega)).mp (by omega)
        have b := yci_nn K (p + 1)
        have e : i = yci K (p + 1) := by
          by_cases hh : yci K (p + 1) < i
          · have := h2 _ b hh
            have := (yB_gt hK hp b (by omega)).mpr ⟨Int.le_refl _, a.2⟩
            omega
          · omega
        rw [show ysu K n p = yB K i from by unfold ysu; rw [if_pos a.2, e]] at k
        exact k

theorem m_stopAbove {p : Int} {M : zM} {Q : zV → zM → Prop} {K : Int → Int} {n : Int} (hK : yKr K n) (hC : yCut M K n) (hp : 0 ≤ p ∧ p ≤ n) (k : Q (0, ysu K n p) M) : zWp kCu_stopAbove 0 [(1, 105), (0, p), (3, 0)] [] M Q := by
  refine zw_const ⟨rfl, rfl⟩ ?_
  refine zw_istore_2 ⟨rfl, rfl⟩ ?_
  exact m_stopAbove_l hK hC hp k _ _ ⟨by decide, by have := yci_60 hK; omega⟩ (fun j a b => by omega) (Nat.lt_succ_self _)

theorem m_stopBelow_l  {p : Int} {M : zM} {Q : zV → zM → Prop} {K : Int → Int} {n : Int} (hK : yKr K n) (hC : yCut M K n) (hp : 0 ≤ p ∧ p ≤ n) (k : Q (0, ysd K p) M) : ∀ (f : Nat) (i : Int), (-1 ≤ i ∧ i ≤ yci K n) → (∀ j, i < j → j ≤ yci K n → p ≤ yB K j) → (i + 1).toNat < f → zWp kCu_stopBelow 3 [(1, 105), (0, p), (0, i)] [] M Q := by
  intro f
  induction f with
  | zero => intro i h1 h2 hf; exact absurd hf (Nat.not_lt_zero _)
  | succ f ih =>
    intro i h1 h2 hf
    have hN := yci_60 hK
    have hn := hK.1
    refine zw_iload ⟨rfl, rfl⟩ rfl ?_
    refine zw_iflt ⟨rfl, rfl⟩ rfl (fun c1 => ?_) (fun c1 => ?_)
    · skip
      refine zw_const ⟨rfl, rfl⟩ ?_
      refine zw_ret rfl ?_
      have := h2 0 (by omega) hN.1
      rw [yB_0] at this
      rw [show ysd K p = -1 from if_neg (by omega)] at k
      exact k
    · skip
      refine zw_aload ⟨rfl, rfl⟩ rfl ?_
      refine zw_iload ⟨rfl, rfl⟩ rfl ?_
      refine zw_callv2 ⟨rfl, rfl⟩ rfl zc_105 rfl ?_
      refine m_stopPlace hK hC ?_
      rw [show ysp K n i = yB K i from if_pos (by omega)]
      refine zw_iload ⟨rfl, rfl⟩ rfl ?_
      refine zw_icge ⟨rfl, rfl⟩ rfl (fun c2 => ?_) (fun c2 => ?_)
      · skip
        refine zw_iinc_2 ⟨rfl, rfl⟩ (by omega) ?_
        refine zw_goto ⟨rfl, rfl⟩ rfl ?_
        refine ih _ ?_ ?_ ?_
        · omega
        · intro j q1 q2; by_cases hj : j = i
          · subst hj; omega
          · exact h2 j (by omega) q2
        · omega
      · skip
        refine zw_aload ⟨rfl, rfl⟩ rfl ?_
        refine zw_iload ⟨rfl, rfl⟩ rfl ?_
        refine zw_callv2 ⟨rfl, rfl⟩ rfl zc_105 rfl ?_
        refine m_stopPlace hK hC ?_
        rw [show ysp K n i = yB K i from if_pos (by omega)]
        refine zw_ret rfl ?_
        have r := yB_r hK (show 0 ≤ i by omega) h1.2
        have a := yci_Bi hK (show 0 ≤ i by omega) h1.2
        have b := yci_b K r.1.1 r.2
        have c := (yci_mo K (show 0 ≤ yB K i + 1 by omega) (show yB K i + 1 ≤ p by omega)).1
        have d := (yci_mo K hp.1 hp.2).1
        have e := h2 (i + 1) (by omega) (by omega)
        have g := (yci_mo K hp.1 e).1
        rw [yci_Bi hK (by omega) (by omega)] at g
        rw [show ysd K p = yB K i from by unfold ysd; rw [if_pos (by omega), show yci K p - 1 = i by omega]] at k
        exact k

theorem m_stopBelow {p : Int} {M : zM} {Q : zV → zM → Prop} {K : Int → Int} {n : Int} (hK : yKr K n) (hC : yCut M K n) (hp : 0 ≤ p ∧ p ≤ n) (k : Q (0, ysd K p) M) : zWp kCu_stopBelow 0 [(1, 105), (0, p), (3, 0)] [] M Q := by
  refine zw_aload ⟨rfl, rfl⟩ rfl ?_
  refine zw_getIv (v := yci K n) ⟨rfl, rfl⟩ zc_105 (by decide) (hC.1.1) ?_
  refine zw_istore_2 ⟨rfl, rfl⟩ ?_
  exact m_stopBelow_l hK hC hp k _ _ ⟨by have := yci_60 hK; omega, Int.le_refl _⟩ (fun j a b => by omega) (Nat.lt_succ_self _)

theorem m_brokenAt_l  {i v : Int} {M : zM} {Q : zV → zM → Prop} {K : Int → Int} {n : Int} (hK : yKr K n) (hC : yCut M K n) (k : Q (0, v) M) : ∀ (f : Nat) (m c : Int), ((0 ≤ c ∧ c ≤ yci K n) ∧ 0 ≤ m ∧ m ≤ c) → (ynth (fun c => yso (K (yB K c))) 2 i (yci K n - c).toNat c m = v) → (yci K n - c).toNat < f → zWp kCu_brokenAt 4 [(1, 105), (0, i), (0, m), (0, c)] [] M Q := by
  intro f
  induction f with
  | zero => intro m c h1 h2 hf; exact absurd hf (Nat.not_lt_zero _)
  | succ f ih =>
    intro m c h1 h2 hf
    have hN := yci_60 hK
    have hn := hK.1
    refine zw_iload ⟨rfl, rfl⟩ rfl ?_
    refine zw_aload ⟨rfl, rfl⟩ rfl ?_
    refine zw_getIv (v := yci K n) ⟨rfl, rfl⟩ zc_105 (by decide) (hC.1.1) ?_
    refine zw_icge ⟨rfl, rfl⟩ rfl (fun c1 => ?_) (fun c1 => ?_)
    · skip
      refine zw_const ⟨rfl, rfl⟩ ?_
      refine zw_ret rfl ?_
      rw [show (yci K n - c).toNat = 0 by omega] at h2
      rw [← h2] at k
      exact k
    · skip
      rw [show (yci K n - c).toNat = (yci K n - (c + 1)).toNat + 1 by omega] at h2
      unfold ynth at h2
      try dsimp only at h2
      refine zw_aload ⟨rfl, rfl⟩ rfl ?_
      refine zw_getR 108 ⟨rfl, rfl⟩ zr_105_4 ?_
      refine zw_const ⟨rfl, rfl⟩ ?_
      refine zw_row ⟨rfl, rfl⟩ zrw_108 (by omega) ?_
      rw [show ((109 : Int) + 2) = 111 from rfl]
      refine zw_iload ⟨rfl, rfl⟩ rfl ?_
      refine zw_ialdv (v := yso (K (yB K c))) ⟨rfl, rfl⟩ za_111 (by omega) ((hC.2.2 c (by omega) (by omega)).2.2) ?_
      refine zw_const ⟨rfl, rfl⟩ ?_
      refine zw_icne ⟨rfl, rfl⟩ rfl (fun c2 => ?_) (fun c2 => ?_)
      · skip
        rw [if_neg (by assumption)] at h2
        refine zw_iinc_3 ⟨rfl, rfl⟩ (by omega) ?_
        refine zw_goto ⟨rfl, rfl⟩ rfl ?_
        refine ih _ _ ?_ ?_ ?_
        · omega
        · exact h2
        · omega
      · skip
        rw [if_pos (by omega)] at h2
        refine zw_iload ⟨rfl, rfl⟩ rfl ?_
        refine zw_iload ⟨rfl, rfl⟩ rfl ?_
        refine zw_icne ⟨rfl, rfl⟩ rfl (fun c3 => ?_) (fun c3 => ?_)
        · skip
          rw [if_neg (by assumption)] at h2
          refine zw_iinc_2 ⟨rfl, rfl⟩ (by omega) ?_
          refine zw_iinc_3 ⟨rfl, rfl⟩ (by omega) ?_
          refine zw_goto ⟨rfl, rfl⟩ rfl ?_
          refine ih _ _ ?_ ?_ ?_
          · omega
          · exact h2
          · omega
        · skip
          rw [if_pos (by omega)] at h2
          refine zw_iload ⟨rfl, rfl⟩ rfl ?_
          refine zw_ret rfl ?_
          rw [← h2] at k
          exact k

theorem m_brokenAt {i : Int} {M : zM} {Q : zV → zM → Prop} {K : Int → Int} {n : Int} (hK : yKr K n) (hC : yCut M K n) (k : Q (0, ynth (fun c => yso (K (yB K c))) 2 i (yci K n).toNat 0 0) M) : zWp kCu_brokenAt 0 [(1, 105), (0, i), (3, 0), (3, 0)] [] M Q := by
  refine zw_const ⟨rfl, rfl⟩ ?_
  refine zw_istore_2 ⟨rfl, rfl⟩ ?_
  refine zw_const ⟨rfl, rfl⟩ ?_
  refine zw_istore_3 ⟨rfl, rfl⟩ ?_
  exact m_brokenAt_l hK hC k _ _ _ ⟨⟨by decide, (yci_60 hK).1⟩, by decide, by decide⟩ (by rw [Int.sub_zero]) (Nat.lt_succ_self _)

section
set_option maxHeartbeats 4000000
theorem m_brokenWith_l  {a t : Int} {M : zM} {Q : zV → zM → Prop} {K : Int → Int} {n : Int} (hK : yKr K n) (hC : yCut M K n) (k : Q (0, ybw K n a t) M) : ∀ (f : Nat) (m s p : Int), (0 ≤ p ∧ p ≤ n + 1) → (if p ≤ n then s = (ybs K a t p.toNat).1 ∧ m = (ybs K a t p.toNat).2 else m = ybw K n a t) → (n + 1 - p).toNat < f → zWp kCu_brokenWith 6 [(1, 105), (0, a), (0, t), (0, m), (0, s), (0, p)] [] M Q := by
  intro f
  induction f with
  | zero => intro m s p h1 h2 hf; exact absurd hf (Nat.not_lt_zero _)
  | succ f ih =>
    intro m s p h1 h2 hf
    have hN := yci_60 hK
    have hn := hK.1
    refine zw_iload ⟨rfl, rfl⟩ rfl ?_
    refine zw_aload ⟨rfl, rfl⟩ rfl ?_
    refine zw_getIv (v := n) ⟨rfl, rfl⟩ zc_105 (by decide) (hC.1.2) ?_
    refine zw_icgt ⟨rfl, rfl⟩ rfl (fun c1 => ?_) (fun c1 => ?_)
    · skip
      refine zw_iload ⟨rfl, rfl⟩ rfl ?_
      refine zw_ret rfl ?_
      rw [if_neg (by omega)] at h2
      rw [← h2] at k
      exact k
    · skip
      rw [if_pos (by omega)] at h2
      have hr := ybs_rng K a t p.toNat
      have hr2 := ybr_rng s t
      have hr3 := ybr_rng s (K p)
      have hr4 := ybr_rng (ysb s t) (K p)
      refine zw_iload ⟨rfl, rfl⟩ rfl ?_
      refine zw_iload ⟨rfl, rfl⟩ rfl ?_
      refine zw_icne ⟨rfl, rfl⟩ rfl (fun c2 => ?_) (fun c2 => ?_)
      · skip
        refine zw_iload ⟨rfl, rfl⟩ rfl ?_
        refine zw_aload ⟨rfl, rfl⟩ rfl ?_
        refine zw_getIv (v := n) ⟨rfl, rfl⟩ zc_105 (by decide) (hC.1.2) ?_
        refine zw_icge ⟨rfl, rfl⟩ rfl (fun c3 => ?_) (fun c3 => ?_)
        · skip
          refine zw_iinc_5 ⟨rfl, rfl⟩ (by omega) ?_
          refine zw_goto ⟨rfl, rfl⟩ rfl ?_
          refine ih _ _ _ ?_ ?_ ?_
          · omega
          · by_cases hpn : p + 1 ≤ n
            · rw [if_pos hpn, ybs_s K a t (by omega)]
              first | rw [if_pos (by omega)] | rw [if_neg (by omega)]
              first | (refine ⟨?_, ?_⟩ <;> dsimp only <;> grind) | grind
            · rw [if_neg hpn]
              unfold ybw
              have hpp : p = n := by omega
              subst hpp
              first | rw [if_pos (by omega)] | rw [if_neg (by omega)]
              grind
          · omega
        · skip
          refine zw_iload ⟨rfl, rfl⟩ rfl ?_
          refine zw_iload ⟨rfl, rfl⟩ rfl ?_
          refine zw_aload ⟨rfl, rfl⟩ rfl ?_
          refine zw_iload ⟨rfl, rfl⟩ rfl ?_
          refine zw_callv2 ⟨rfl, rfl⟩ rfl zc_105 rfl ?_
          refine m_kindAt hK hC ?_
          refine zw_calls2 ⟨rfl, rfl⟩ rfl rfl ?_
          refine m_breaks  ?_
          refine zw_ifeq ⟨rfl, rfl⟩ rfl (fun c4 => ?_) (fun c4 => ?_)
          · skip
            refine zw_const ⟨rfl, rfl⟩ ?_
            refine zw_iadd ⟨rfl, rfl⟩ (by omega) ?_
            refine zw_istore_3 ⟨rfl, rfl⟩ ?_
            refine zw_iload ⟨rfl, rfl⟩ rfl ?_
            refine zw_aload ⟨rfl, rfl⟩ rfl ?_
            refine zw_iload ⟨rfl, rfl⟩ rfl ?_
            refine zw_callv2 ⟨rfl, rfl⟩ rfl zc_105 rfl ?_
            refine m_kindAt hK hC ?_
            refine zw_calls2 ⟨rfl, rfl⟩ rfl rfl ?_
            refine m_stateBehind  ?_
            refine zw_istore_4 ⟨rfl, rfl⟩ ?_
            refine zw_iinc_5 ⟨rfl, rfl⟩ (by omega) ?_
            refine zw_goto ⟨rfl, rfl⟩ rfl ?_
            refine ih _ _ _ ?_ ?_ ?_
            · omega
            · by_cases hpn : p + 1 ≤ n
              · rw [if_pos hpn, ybs_s K a t (by omega)]
                first | rw [if_pos (by omega)] | rw [if_neg (by omega)]
                first | (refine ⟨?_, ?_⟩ <;> dsimp only <;> grind) | grind
              · rw [if_neg hpn]
                unfold ybw
                have hpp : p = n := by omega
                subst hpp
                first | rw [if_pos (by omega)] | rw [if_neg (by omega)]
                grind
            · omega
          · skip
            refine zw_const ⟨rfl, rfl⟩ ?_
            refine zw_goto ⟨rfl, rfl⟩ rfl ?_
            refine zw_iadd ⟨rfl, rfl⟩ (by omega) ?_
            refine zw_istore_3 ⟨rfl, rfl⟩ ?_
            refine zw_iload ⟨rfl, rfl⟩ rfl ?_
            refine zw_aload ⟨rfl, rfl⟩ rfl ?_
            refine zw_iload ⟨rfl, rfl⟩ rfl ?_
            refine zw_callv2 ⟨rfl, rfl⟩ rfl zc_105 rfl ?_
            refine m_kindAt hK hC ?_
            refine zw_calls2 ⟨rfl, rfl⟩ rfl rfl ?_
            refine m_stateBehind  ?_
            refine zw_istore_4 ⟨rfl, rfl⟩ ?_
            refine zw_iinc_5 ⟨rfl, rfl⟩ (by omega) ?_
            refine zw_goto ⟨rfl, rfl⟩ rfl ?_
            refine ih _ _ _ ?_ ?_ ?_
            · omega
            · by_cases hpn : p + 1 ≤ n
              · rw [if_pos hpn, ybs_s K a t (by omega)]
                first | rw [if_pos (by omega)] | rw [if_neg (by omega)]
                first | (refine ⟨?_, ?_⟩ <;> dsimp only <;> grind) | grind
              · rw [if_neg hpn]
                unfold ybw
                have hpp : p = n := by omega
                subst hpp
                first | rw [if_pos (by omega)] | rw [if_neg (by omega)]
                grind
            · omega
      · skip
        refine zw_iload ⟨rfl, rfl⟩ rfl ?_
        refine zw_iload ⟨rfl, rfl⟩ rfl ?_
        refine zw_iload ⟨rfl, rfl⟩ rfl ?_
        refine zw_calls2 ⟨rfl, rfl⟩ rfl rfl ?_
        refine m_breaks  ?_
        refine zw_ifeq ⟨rfl, rfl⟩ rfl (fun c5 => ?_) (fun c5 => ?_)
        · skip
          refine zw_const ⟨rfl, rfl⟩ ?_
          refine zw_iadd ⟨rfl, rfl⟩ (by omega) ?_
          refine zw_istore_3 ⟨rfl, rfl⟩ ?_
          refine zw_iload ⟨rfl, rfl⟩ rfl ?_
          refine zw_iload ⟨rfl, rfl⟩ rfl ?_
          refine zw_calls2 ⟨rfl, rfl⟩ rfl rfl ?_
          refine m_stateBehind  ?_
          refine zw_istore_4 ⟨rfl, rfl⟩ ?_
          refine zw_iload ⟨rfl, rfl⟩ rfl ?_
          refine zw_aload ⟨rfl, rfl⟩ rfl ?_
          refine zw_getIv (v := n) ⟨rfl, rfl⟩ zc_105 (by decide) (hC.1.2) ?_
          refine zw_icge ⟨rfl, rfl⟩ rfl (fun c6 => ?_) (fun c6 => ?_)
          · skip
            refine zw_iinc_5 ⟨rfl, rfl⟩ (by omega) ?_
            refine zw_goto ⟨rfl, rfl⟩ rfl ?_
            refine ih _ _ _ ?_ ?_ ?_
            · omega
            · by_cases hpn : p + 1 ≤ n
              · rw [if_pos hpn, ybs_s K a t (by omega)]
                first | rw [if_pos (by omega)] | rw [if_neg (by omega)]
                first | (refine ⟨?_, ?_⟩ <;> dsimp only <;> grind) | grind
              · rw [if_neg hpn]
                unfold ybw
                have hpp : p = n := by omega
                subst hpp
                first | rw [if_pos (by omega)] | rw [if_neg (by omega)]
                grind
            · omega
          · skip
            refine zw_iload ⟨rfl, rfl⟩ rfl ?_
            refine zw_iload ⟨rfl, rfl⟩ rfl ?_
            refine zw_aload ⟨rfl, rfl⟩ rfl ?_
            refine zw_iload ⟨rfl, rfl⟩ rfl ?_
            refine zw_callv2 ⟨rfl, rfl⟩ rfl zc_105 rfl ?_
            refine m_kindAt hK hC ?_
            refine zw_calls2 ⟨rfl, rfl⟩ rfl rfl ?_
            refine m_breaks  ?_
            refine zw_ifeq ⟨rfl, rfl⟩ rfl (fun c7 => ?_) (fun c7 => ?_)
            · skip
              refine zw_const ⟨rfl, rfl⟩ ?_
              refine zw_iadd ⟨rfl, rfl⟩ (by omega) ?_
              refine zw_istore_3 ⟨rfl, rfl⟩ ?_
              refine zw_iload ⟨rfl, rfl⟩ rfl ?_
              refine zw_aload ⟨rfl, rfl⟩ rfl ?_
              refine zw_iload ⟨rfl, rfl⟩ rfl ?_
              refine zw_callv2 ⟨rfl, rfl⟩ rfl zc_105 rfl ?_
              refine m_kindAt hK hC ?_
              refine zw_calls2 ⟨rfl, rfl⟩ rfl rfl ?_
              refine m_stateBehind  ?_
              refine zw_istore_4 ⟨rfl, rfl⟩ ?_
              refine zw_iinc_5 ⟨rfl, rfl⟩ (by omega) ?_
              refine zw_goto ⟨rfl, rfl⟩ rfl ?_
              refine ih _ _ _ ?_ ?_ ?_
              · omega
              · by_cases hpn : p + 1 ≤ n
                · rw [if_pos hpn, ybs_s K a t (by omega)]
                  first | rw [if_pos (by omega)] | rw [if_neg (by omega)]
                  first | (refine ⟨?_, ?_⟩ <;> dsimp only <;> grind) | grind
                · rw [if_neg hpn]
                  unfold ybw
                  have hpp : p = n := by omega
                  subst hpp
                  first | rw [if_pos (by omega)] | rw [if_neg (by omega)]
                  grind
              · omega
            · skip
              refine zw_const ⟨rfl, rfl⟩ ?_
              refine zw_goto ⟨rfl, rfl⟩ rfl ?_
              refine zw_iadd ⟨rfl, rfl⟩ (by omega) ?_
              refine zw_istore_3 ⟨rfl, rfl⟩ ?_
              refine zw_iload ⟨rfl, rfl⟩ rfl ?_
              refine zw_aload ⟨rfl, rfl⟩ rfl ?_
              refine zw_iload ⟨rfl, rfl⟩ rfl ?_
              refine zw_callv2 ⟨rfl, rfl⟩ rfl zc_105 rfl ?_
              refine m_kindAt hK hC ?_
              refine zw_calls2 ⟨rfl, rfl⟩ rfl rfl ?_
              refine m_stateBehind  ?_
              refine zw_istore_4 ⟨rfl, rfl⟩ ?_
              refine zw_iinc_5 ⟨rfl, rfl⟩ (by omega) ?_
              refine zw_goto ⟨rfl, rfl⟩ rfl ?_
              refine ih _ _ _ ?_ ?_ ?_
              · omega
              · by_cases hpn : p + 1 ≤ n
                · rw [if_pos hpn, ybs_s K a t (by omega)]
                  first | rw [if_pos (by omega)] | rw [if_neg (by omega)]
                  first | (refine ⟨?_, ?_⟩ <;> dsimp only <;> grind) | grind
                · rw [if_neg hpn]
                  unfold ybw
                  have hpp : p = n := by omega
                  subst hpp
                  first | rw [if_pos (by omega)] | rw [if_neg (by omega)]
                  grind
              · omega
        · skip
          refine zw_const ⟨rfl, rfl⟩ ?_
          refine zw_goto ⟨rfl, rfl⟩ rfl ?_
          refine zw_iadd ⟨rfl, rfl⟩ (by omega) ?_
          refine zw_istore_3 ⟨rfl, rfl⟩ ?_
          refine zw_iload ⟨rfl, rfl⟩ rfl ?_
          refine zw_iload ⟨rfl, rfl⟩ rfl ?_
          refine zw_calls2 ⟨rfl, rfl⟩ rfl rfl ?_
          refine m_stateBehind  ?_
          refine zw_istore_4 ⟨rfl, rfl⟩ ?_
          refine zw_iload ⟨rfl, rfl⟩ rfl ?_
          refine zw_aload ⟨rfl, rfl⟩ rfl ?_
          refine zw_getIv (v := n) ⟨rfl, rfl⟩ zc_105 (by decide) (hC.1.2) ?_
          refine zw_icge ⟨rfl, rfl⟩ rfl (fun c8 => ?_) (fun c8 => ?_)
          · skip
            refine zw_iinc_5 ⟨rfl, rfl⟩ (by omega) ?_
            refine zw_goto ⟨rfl, rfl⟩ rfl ?_
            refine ih _ _ _ ?_ ?_ ?_
            · omega
            · by_cases hpn : p + 1 ≤ n
              · rw [if_pos hpn, ybs_s K a t (by omega)]
                first | rw [if_pos (by omega)] | rw [if_neg (by omega)]
                first | (refine ⟨?_, ?_⟩ <;> dsimp only <;> grind) | grind
              · rw [if_neg hpn]
                unfold ybw
                have hpp : p = n := by omega
                subst hpp
                first | rw [if_pos (by omega)] | rw [if_neg (by omega)]
                grind
            · omega
          · skip
            refine zw_iload ⟨rfl, rfl⟩ rfl ?_
            refine zw_iload ⟨rfl, rfl⟩ rfl ?_
            refine zw_aload ⟨rfl, rfl⟩ rfl ?_
            refine zw_iload ⟨rfl, rfl⟩ rfl ?_
            refine zw_callv2 ⟨rfl, rfl⟩ rfl zc_105 rfl ?_
            refine m_kindAt hK hC ?_
            refine zw_calls2 ⟨rfl, rfl⟩ rfl rfl ?_
            refine m_breaks  ?_
            refine zw_ifeq ⟨rfl, rfl⟩ rfl (fun c9 => ?_) (fun c9 => ?_)
            · skip
              refine zw_const ⟨rfl, rfl⟩ ?_
              refine zw_iadd ⟨rfl, rfl⟩ (by omega) ?_
              refine zw_istore_3 ⟨rfl, rfl⟩ ?_
              refine zw_iload ⟨rfl, rfl⟩ rfl ?_
              refine zw_aload ⟨rfl, rfl⟩ rfl ?_
              refine zw_iload ⟨rfl, rfl⟩ rfl ?_
              refine zw_callv2 ⟨rfl, rfl⟩ rfl zc_105 rfl ?_
              refine m_kindAt hK hC ?_
              refine zw_calls2 ⟨rfl, rfl⟩ rfl rfl ?_
              refine m_stateBehind  ?_
              refine zw_istore_4 ⟨rfl, rfl⟩ ?_
              refine zw_iinc_5 ⟨rfl, rfl⟩ (by omega) ?_
              refine zw_goto ⟨rfl, rfl⟩ rfl ?_
              refine ih _ _ _ ?_ ?_ ?_
              · omega
              · by_cases hpn : p + 1 ≤ n
                · rw [if_pos hpn, ybs_s K a t (by omega)]
                  first | rw [if_pos (by omega)] | rw [if_neg (by omega)]
                  first | (refine ⟨?_, ?_⟩ <;> dsimp only <;> grind) | grind
                · rw [if_neg hpn]
                  unfold ybw
                  have hpp : p = n := by omega
                  subst hpp
                  first | rw [if_pos (by omega)] | rw [if_neg (by omega)]
                  grind
              · omega
            · skip
              refine zw_const ⟨rfl, rfl⟩ ?_
              refine zw_goto ⟨rfl, rfl⟩ rfl ?_
              refine zw_iadd ⟨rfl, rfl⟩ (by omega) ?_
              refine zw_istore_3 ⟨rfl, rfl⟩ ?_
              refine zw_iload ⟨rfl, rfl⟩ rfl ?_
              refine zw_aload ⟨rfl, rfl⟩ rfl ?_
              refine zw_iload ⟨rfl, rfl⟩ rfl ?_
              refine zw_callv2 ⟨rfl, rfl⟩ rfl zc_105 rfl ?_
              refine m_kindAt hK hC ?_
              refine zw_calls2 ⟨rfl, rfl⟩ rfl rfl ?_
              refine m_stateBehind  ?_
              refine zw_istore_4 ⟨rfl, rfl⟩ ?_
              refine zw_iinc_5 ⟨rfl, rfl⟩ (by omega) ?_
              refine zw_goto ⟨rfl, rfl⟩ rfl ?_
              refine ih _ _ _ ?_ ?_ ?_
              · omega
              · by_cases hpn : p + 1 ≤ n
                · rw [if_pos hpn, ybs_s K a t (by omega)]
                  first | rw [if_pos (by omega)] | rw [if_neg (by omega)]
                  first | (refine ⟨?_, ?_⟩ <;> dsimp only <;> grind) | grind
                · rw [if_neg hpn]
                  unfold ybw
                  have hpp : p = n := by omega
                  subst hpp
                  first | rw [if_pos (by omega)] | rw [if_neg (by omega)]
                  grind
              · omega
end

theorem m_brokenWith {a t : Int} {M : zM} {Q : zV → zM → Prop} {K : Int → Int} {n : Int} (hK : yKr K n) (hC : yCut M K n) (k : Q (0, ybw K n a t) M) : zWp kCu_brokenWith 0 [(1, 105), (0, a), (0, t), (3, 0), (3, 0), (3, 0)] [] M Q := by
  refine zw_const ⟨rfl, rfl⟩ ?_
  refine zw_istore_3 ⟨rfl, rfl⟩ ?_
  refine zw_const ⟨rfl, rfl⟩ ?_
  refine zw_istore_4 ⟨rfl, rfl⟩ ?_
  refine zw_const ⟨rfl, rfl⟩ ?_
  refine zw_istore_5 ⟨rfl, rfl⟩ ?_
  exact m_brokenWith_l hK hC k _ _ _ _ ⟨by decide, by have := hK.1; omega⟩ (by rw [if_pos hK.1.1]; exact ⟨rfl, rfl⟩) (Nat.lt_succ_self _)
