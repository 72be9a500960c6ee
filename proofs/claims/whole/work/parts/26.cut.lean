/-! The class' Cut -/
def yCut (M : zM) (K : Int → Int) (n : Int) : Prop := (M 105 0 = yci K n ∧ M 105 1 = n) ∧ (∀ p, 0 ≤ p → p < n → M 106 p = K p ∧ M 107 p = yci K (p + 1) - 1) ∧
  ∀ c, 0 ≤ c → c < yci K n → M 109 c = yB K c ∧ M 110 c = yB K (c + 1) - yB K c ∧ M 111 c = yso (K (yB K c))
theorem yCut.cg {M N : zM} {K : Int → Int} {n : Int} (h : yCut M K n) (e : ∀ b, 105 ≤ b → b ≤ 111 → N b = M b) : yCut N K n := by
  unfold yCut
  rw [e 105 (by decide) (by decide), e 106 (by decide) (by decide), e 107 (by decide) (by decide), e 109 (by decide) (by decide), e 110 (by decide) (by decide), e 111 (by decide) (by decide)]
  exact h
theorem za_fact {w : Int} (h : 0 ≤ w ∧ w < 11) : zar zS0 (109 + w) = some (1, 60) := by
  have : ∀ k : Nat, k < 11 → zar zS0 (109 + (k : Int)) = some (1, 60) := by decide
  have := this w.toNat (by omega)
  rw [show (w.toNat : Int) = w by omega] at this
  exact this
theorem yso_rng (k : Int) : 0 ≤ yso k ∧ yso k ≤ 3 := by grind [yso]
theorem yci_60 {K : Int → Int} {n : Int} (hK : yKr K n) : 0 ≤ yci K n ∧ yci K n ≤ n := by
  have := yci_mo K (Int.le_refl 0) hK.1.1
  rw [yci_0] at this
  omega
theorem m_kindOf_p {p : Int} {M : zM} {Q : zV → zM → Prop} {σ : yS} (hV : yVal σ) (h0 : 0 ≤ p) (h1 : p < σ 0) (hS : yTold M σ) (k : Q (0, yK σ p) M) : zWp kSc_kindOf 0 [(1, 3), (0, yL σ p)] [] M Q := by
  refine m_kindOf_3 hS.1 ?_
  rw [ykd_L hV h0 h1]
  exact k
theorem yTold.cg {M N : zM} {σ : yS} (h : yTold M σ) (e : ∀ b, 2 ≤ b → b ≤ 8 → N b = M b) : yTold N σ := yStA.cg (a := 2) h (fun b h1 h2 => e b h1 (by omega))

section
set_option maxHeartbeats 4000000
theorem m_split_l {σ : yS} {M : zM} {Q : zV → zM → Prop} (hV : yVal σ) (hS : yTold M σ) (k : ∀ N : zM, (yCut N (yK σ) (σ 0) ∧ ∀ b, ¬ (105 ≤ b ∧ b ≤ 111) → N b = M b) → Q (3, 0) N) : ∀ (f : Nat) (t p : Int) (N : zM), (0 ≤ p ∧ p ≤ σ 0) → (t = ysi (yK σ) p) → (N 105 0 = yci (yK σ) p ∧ N 105 1 = σ 0) → (∀ q, 0 ≤ q → q < p → N 106 q = yK σ q ∧ N 107 q = yci (yK σ) (q + 1) - 1) → (∀ c, 0 ≤ c → c < yci (yK σ) p → N 109 c = yB (yK σ) c ∧ N 111 c = yso (yK σ (yB (yK σ) c)) ∧ N 110 c = (if c + 1 = yci (yK σ) p then p else yB (yK σ) (c + 1)) - yB (yK σ) c) → (∀ b, ¬ (105 ≤ b ∧ b ≤ 111) → N b = M b) → (σ 0 - p).toNat < f → zWp kCu_split 11 [(1, 105), (1, 2), (0, t), (0, p)] [] N Q := by
  intro f
  induction f with
  | zero => intro t p N h1 h2 h3 h4 h5 h6 hf; exact absurd hf (Nat.not_lt_zero _)
  | succ f ih =>
    intro t p N h1 h2 h3 h4 h5 h6 hf
    have hK := yKr_K hV
    have hci := (yci_mo (yK σ) (Int.le_refl 0) h1.1)
    rw [yci_0] at hci
    have hV1 := hV.1
    refine zw_iload ⟨rfl, rfl⟩ rfl ?_
    refine zw_aload ⟨rfl, rfl⟩ rfl ?_
    refine zw_getIv (v := σ 0) ⟨rfl, rfl⟩ zc_105 (by decide) (h3.2) ?_
    refine zw_icge ⟨rfl, rfl⟩ rfl (fun c1 => ?_) (fun c1 => ?_)
    · skip
      refine zw_void rfl ?_
      have hp : p = σ 0 := by omega
      subst hp
      refine k _ ⟨⟨h3, h4, fun c q1 q2 => ?_⟩, h6⟩
      obtain ⟨a1, a2, a3⟩ := h5 c q1 q2
      refine ⟨a1, ?_, a2⟩
      rw [a3]
      split
      · rename_i hc
        rw [hc, yB_n hK]
      · rfl
    · skip
      refine zw_iload ⟨rfl, rfl⟩ rfl ?_
      refine zw_const ⟨rfl, rfl⟩ ?_
      refine zw_icge ⟨rfl, rfl⟩ rfl (fun c2 => ?_) (fun c2 => ?_)
      · skip
        refine zw_void rfl ?_
        have hp : p = σ 0 := by omega
        subst hp
        refine k _ ⟨⟨h3, h4, fun c q1 q2 => ?_⟩, h6⟩
        obtain ⟨a1, a2, a3⟩ := h5 c q1 q2
        refine ⟨a1, ?_, a2⟩
        rw [a3]
        split
        · rename_i hc
          rw [hc, yB_n hK]
        · rfl
      · skip
        refine zw_aload ⟨rfl, rfl⟩ rfl ?_
        refine zw_getR 106 ⟨rfl, rfl⟩ zr_105_2 ?_
        refine zw_iload ⟨rfl, rfl⟩ rfl ?_
        refine zw_aload ⟨rfl, rfl⟩ rfl ?_
        refine zw_getR 3 ⟨rfl, rfl⟩ zr_2_0 ?_
        refine zw_aload ⟨rfl, rfl⟩ rfl ?_
        refine zw_iload ⟨rfl, rfl⟩ rfl ?_
        refine zw_callv2 ⟨rfl, rfl⟩ rfl zc_2 rfl ?_
        refine m_letterAt_s hV.1.2 (hS.cg (fun b y1 y2 => h6 b (by omega))) ?_
        refine zw_callv2 ⟨rfl, rfl⟩ rfl zc_3 rfl ?_
        refine m_kindOf_p hV h1.1 (by omega) (hS.cg (fun b y1 y2 => h6 b (by omega))) ?_
        refine zw_iast ⟨rfl, rfl⟩ za_106 (by omega) ?_
        refine zw_aload ⟨rfl, rfl⟩ rfl ?_
        refine zw_getIv (v := yci (yK σ) p) ⟨rfl, rfl⟩ zc_105 (by decide) ((zup_na (by decide)).trans (h3.1)) ?_
        refine zw_ifeq ⟨rfl, rfl⟩ rfl (fun c3 => ?_) (fun c3 => ?_)
        · skip
          refine zw_aload ⟨rfl, rfl⟩ rfl ?_
          refine zw_getR 108 ⟨rfl, rfl⟩ zr_105_4 ?_
          refine zw_const ⟨rfl, rfl⟩ ?_
          refine zw_row ⟨rfl, rfl⟩ zrw_108 (by omega) ?_
          rw [show ((109 : Int) + 0) = 109 from rfl]
          refine zw_aload ⟨rfl, rfl⟩ rfl ?_
          refine zw_getIv (v := yci (yK σ) p) ⟨rfl, rfl⟩ zc_105 (by decide) ((zup_na (by decide)).trans (h3.1)) ?_
          refine zw_iload ⟨rfl, rfl⟩ rfl ?_
          refine zw_iast ⟨rfl, rfl⟩ za_109 (by omega) ?_
          refine zw_aload ⟨rfl, rfl⟩ rfl ?_
          refine zw_getR 108 ⟨rfl, rfl⟩ zr_105_4 ?_
          refine zw_const ⟨rfl, rfl⟩ ?_
          refine zw_row ⟨rfl, rfl⟩ zrw_108 (by omega) ?_
          rw [show ((109 : Int) + 1) = 110 from rfl]
          refine zw_aload ⟨rfl, rfl⟩ rfl ?_
          refine zw_getIv (v := yci (yK σ) p) ⟨rfl, rfl⟩ zc_105 (by decide) ((zup_na (by decide)).trans ((zup_na (by decide)).trans (h3.1))) ?_
          refine zw_const ⟨rfl, rfl⟩ ?_
          refine zw_iast ⟨rfl, rfl⟩ za_110 (by omega) ?_
          refine zw_aload ⟨rfl, rfl⟩ rfl ?_
          refine zw_getR 108 ⟨rfl, rfl⟩ zr_105_4 ?_
          refine zw_const ⟨rfl, rfl⟩ ?_
          refine zw_row ⟨rfl, rfl⟩ zrw_108 (by omega) ?_
          rw [show ((109 : Int) + 2) = 111 from rfl]
          refine zw_aload ⟨rfl, rfl⟩ rfl ?_
          refine zw_getIv (v := yci (yK σ) p) ⟨rfl, rfl⟩ zc_105 (by decide) ((zup_na (by decide)).trans ((zup_na (by decide)).trans ((zup_na (by decide)).trans (h3.1)))) ?_
          refine zw_aload ⟨rfl, rfl⟩ rfl ?_
          refine zw_getR 106 ⟨rfl, rfl⟩ zr_105_2 ?_
          refine zw_iload ⟨rfl, rfl⟩ rfl ?_
          refine zw_ialdv (v := yK σ p) ⟨rfl, rfl⟩ za_106 (by omega) ((zup_na (by decide)).trans ((zup_na (by decide)).trans (zup_eq _ _ _ _))) ?_
          refine zw_calls1 ⟨rfl, rfl⟩ rfl rfl ?_
          refine m_sortOf  ?_
          refine zw_iast ⟨rfl, rfl⟩ za_111 (by omega) ?_
          refine zw_aload ⟨rfl, rfl⟩ rfl ?_
          refine zw_dup ⟨rfl, rfl⟩ (by decide) ?_
          refine zw_getIv (v := yci (yK σ) p) ⟨rfl, rfl⟩ zc_105 (by decide) ((zup_na (by decide)).trans ((zup_na (by decide)).trans ((zup_na (by decide)).trans ((zup_na (by decide)).trans (h3.1))))) ?_
          refine zw_const ⟨rfl, rfl⟩ ?_
          refine zw_iadd ⟨rfl, rfl⟩ (by omega) ?_
          refine zw_putI ⟨rfl, rfl⟩ zc_105 (by decide) (fun h => absurd h (by decide)) ?_
          refine zw_aload ⟨rfl, rfl⟩ rfl ?_
          refine zw_getR 108 ⟨rfl, rfl⟩ zr_105_4 ?_
          refine zw_const ⟨rfl, rfl⟩ ?_
          refine zw_row ⟨rfl, rfl⟩ zrw_108 (by omega) ?_
          rw [show ((109 : Int) + 1) = 110 from rfl]
          refine zw_aload ⟨rfl, rfl⟩ rfl ?_
          refine zw_getIv (v := (yci (yK σ) p) + 1) ⟨rfl, rfl⟩ zc_105 (by decide) (zup_eq _ _ _ _) ?_
          refine zw_const ⟨rfl, rfl⟩ ?_
          refine zw_isub ⟨rfl, rfl⟩ (by omega) ?_
          rw [show ((yci (yK σ) p) + 1) - 1 = (yci (yK σ) p) by omega]
          refine zw_dup2 ⟨rfl, rfl⟩ ⟨by decide, by decide⟩ ?_
          refine zw_ialdv (v := 0) ⟨rfl, rfl⟩ za_110 (by omega) ((zup_na (by decide)).trans ((zup_na (by decide)).trans (zup_eq _ _ _ _))) ?_
          refine zw_const ⟨rfl, rfl⟩ ?_
          refine zw_iadd ⟨rfl, rfl⟩ (by first | omega | (have h55 := (h5 (yci (yK σ) p - 1) (by omega) (by omega)).2.2; rw [if_pos (by omega)] at h55; have := yB_l hK h1.1 h1.2 (show 0 ≤ yci (yK σ) p - 1 by omega) (by omega); have := (yB_r hK (show 0 ≤ yci (yK σ) p - 1 by omega) (by have := (yci_mo (yK σ) h1.1 h1.2).1; omega)).1; omega)) ?_
          refine zw_iast ⟨rfl, rfl⟩ za_110 (by omega) ?_
          refine zw_aload ⟨rfl, rfl⟩ rfl ?_
          refine zw_getR 107 ⟨rfl, rfl⟩ zr_105_3 ?_
          refine zw_iload ⟨rfl, rfl⟩ rfl ?_
          refine zw_aload ⟨rfl, rfl⟩ rfl ?_
          refine zw_getIv (v := (yci (yK σ) p) + 1) ⟨rfl, rfl⟩ zc_105 (by decide) ((zup_na (by decide)).trans (zup_eq _ _ _ _)) ?_
          refine zw_const ⟨rfl, rfl⟩ ?_
          refine zw_isub ⟨rfl, rfl⟩ (by omega) ?_
          rw [show ((yci (yK σ) p) + 1) - 1 = (yci (yK σ) p) by omega]
          refine zw_iast ⟨rfl, rfl⟩ za_107 (by omega) ?_
          refine zw_iload ⟨rfl, rfl⟩ rfl ?_
          refine zw_aload ⟨rfl, rfl⟩ rfl ?_
          refine zw_getR 106 ⟨rfl, rfl⟩ zr_105_2 ?_
          refine zw_iload ⟨rfl, rfl⟩ rfl ?_
          refine zw_ialdv (v := yK σ p) ⟨rfl, rfl⟩ za_106 (by omega) ((zup_na (by decide)).trans ((zup_na (by decide)).trans ((zup_na (by decide)).trans ((zup_na (by decide)).trans ((zup_na (by decide)).trans ((zup_na (by decide)).trans (zup_eq _ _ _ _))))))) ?_
          refine zw_calls2 ⟨rfl, rfl⟩ rfl rfl ?_
          refine m_stateBehind  ?_
          refine zw_istore_2 ⟨rfl, rfl⟩ ?_
          refine zw_iinc_3 ⟨rfl, rfl⟩ (by omega) ?_
          refine zw_goto ⟨rfl, rfl⟩ rfl ?_
          have hb : ybg (yK σ) p := by
            first
              | (unfold ybg; rw [← h2]; omega)
              | (have hp : p = 0 := by
                   by_cases hp : p = 0
                   · exact hp
                   · have := (yci_mo (yK σ) (show (0 : Int) ≤ 1 by decide) (show 1 ≤ p by omega)).1
                     have h0 := yci_b (yK σ) (Int.le_refl 0) (ybg_0 _)
                     rw [show (0 : Int) + 1 = 1 from rfl, yci_0] at h0
                     omega
                 rw [hp]; exact ybg_0 _)
          have e1 : yci (yK σ) (p + 1) = yci (yK σ) p + 1 := yci_b _ h1.1 hb
          have e2 : yB (yK σ) (yci (yK σ) p) = p := yB_eq hK h1.1 h1.2 hb
          have hnn := yci_nn (yK σ) p
          have h7 := hK.1
          refine ih _ _ _ ?_ ?_ ?_ ?_ ?_ ?_ ?_
          · omega
          · rw [h2, ysi_s _ h1.1]
          · clear ih h4 h5 h6
            refine ⟨?_, ?_⟩
            · rw [e1]; simp [zup, h3.1]
            · simp [zup, h3.2]
          · intro q q1 q2
            have h44 := h4 q q1
            clear ih h5 h6 h4
            by_cases hq : q = p
            · subst hq; rw [e1]; simp [zup, h3.1]
            · have := h44 (by omega); simp [zup, hq]; exact this
          · intro c q1 q2
            rw [e1] at q2 ⊢
            have h55 := h5 c q1
            have h551 := h5 (yci (yK σ) p - 1)
            have h33 := h3.1
            clear ih h4 h6 h5
            grind [zup]
          · intro b q1
            have := h6 b q1
            funext j
            rw [← this]
            clear ih h4 h5 h6
            simp only [zup]
            grind
          · omega
        · skip
          refine zw_iload ⟨rfl, rfl⟩ rfl ?_
          refine zw_aload ⟨rfl, rfl⟩ rfl ?_
          refine zw_getR 106 ⟨rfl, rfl⟩ zr_105_2 ?_
          refine zw_iload ⟨rfl, rfl⟩ rfl ?_
          refine zw_ialdv (v := yK σ p) ⟨rfl, rfl⟩ za_106 (by omega) (zup_eq _ _ _ _) ?_
          refine zw_calls2 ⟨rfl, rfl⟩ rfl rfl ?_
          refine m_goOn  ?_
          refine zw_const ⟨rfl, rfl⟩ ?_
          refine zw_icne ⟨rfl, rfl⟩ rfl (fun c4 => ?_) (fun c4 => ?_)
          · skip
            refine zw_aload ⟨rfl, rfl⟩ rfl ?_
            refine zw_getR 108 ⟨rfl, rfl⟩ zr_105_4 ?_
            refine zw_const ⟨rfl, rfl⟩ ?_
            refine zw_row ⟨rfl, rfl⟩ zrw_108 (by omega) ?_
            rw [show ((109 : Int) + 1) = 110 from rfl]
            refine zw_aload ⟨rfl, rfl⟩ rfl ?_
            refine zw_getIv (v := yci (yK σ) p) ⟨rfl, rfl⟩ zc_105 (by decide) ((zup_na (by decide)).trans (h3.1)) ?_
            refine zw_const ⟨rfl, rfl⟩ ?_
            refine zw_isub ⟨rfl, rfl⟩ (by omega) ?_
            refine zw_dup2 ⟨rfl, rfl⟩ ⟨by decide, by decide⟩ ?_
            refine zw_ialdv (v := N 110 ((yci (yK σ) p) - 1)) ⟨rfl, rfl⟩ za_110 (by omega) (zup_na (by decide)) ?_
            refine zw_const ⟨rfl, rfl⟩ ?_
            refine zw_iadd ⟨rfl, rfl⟩ (by first | omega | (have h55 := (h5 (yci (yK σ) p - 1) (by omega) (by omega)).2.2; rw [if_pos (by omega)] at h55; have := yB_l hK h1.1 h1.2 (show 0 ≤ yci (yK σ) p - 1 by omega) (by omega); have := (yB_r hK (show 0 ≤ yci (yK σ) p - 1 by omega) (by have := (yci_mo (yK σ) h1.1 h1.2).1; omega)).1; omega)) ?_
            refine zw_iast ⟨rfl, rfl⟩ za_110 (by omega) ?_
            refine zw_aload ⟨rfl, rfl⟩ rfl ?_
            refine zw_getR 107 ⟨rfl, rfl⟩ zr_105_3 ?_
            refine zw_iload ⟨rfl, rfl⟩ rfl ?_
            refine zw_aload ⟨rfl, rfl⟩ rfl ?_
            refine zw_getIv (v := yci (yK σ) p) ⟨rfl, rfl⟩ zc_105 (by decide) ((zup_na (by decide)).trans ((zup_na (by decide)).trans (h3.1))) ?_
            refine zw_const ⟨rfl, rfl⟩ ?_
            refine zw_isub ⟨rfl, rfl⟩ (by omega) ?_
            refine zw_iast ⟨rfl, rfl⟩ za_107 (by omega) ?_
            refine zw_iload ⟨rfl, rfl⟩ rfl ?_
            refine zw_aload ⟨rfl, rfl⟩ rfl ?_
            refine zw_getR 106 ⟨rfl, rfl⟩ zr_105_2 ?_
            refine zw_iload ⟨rfl, rfl⟩ rfl ?_
            refine zw_ialdv (v := yK σ p) ⟨rfl, rfl⟩ za_106 (by omega) ((zup_na (by decide)).trans ((zup_na (by decide)).trans (zup_eq _ _ _ _))) ?_
            refine zw_calls2 ⟨rfl, rfl⟩ rfl rfl ?_
            refine m_stateBehind  ?_
            refine zw_istore_2 ⟨rfl, rfl⟩ ?_
            refine zw_iinc_3 ⟨rfl, rfl⟩ (by omega) ?_
            refine zw_goto ⟨rfl, rfl⟩ rfl ?_
            have hb : ¬ ybg (yK σ) p := by unfold ybg; rw [← h2]; assumption
            have e1 : yci (yK σ) (p + 1) = yci (yK σ) p := yci_n _ h1.1 hb
            have e2 : 1 ≤ yci (yK σ) p := by have := yci_nn (yK σ) p; omega
            have hnn := yci_nn (yK σ) p
            have h7 := hK.1
            refine ih _ _ _ ?_ ?_ ?_ ?_ ?_ ?_ ?_
            · omega
            · rw [h2, ysi_s _ h1.1]
            · clear ih h4 h5 h6
              refine ⟨?_, ?_⟩
              · rw [e1]; simp [zup, h3.1]
              · simp [zup, h3.2]
            · intro q q1 q2
              have h44 := h4 q q1
              clear ih h5 h6 h4
              by_cases hq : q = p
              · subst hq; rw [e1]; simp [zup, h3.1]
              · have := h44 (by omega); simp [zup, hq]; exact this
            · intro c q1 q2
              rw [e1] at q2 ⊢
              have h55 := h5 c q1
              have h551 := h5 (yci (yK σ) p - 1)
              have h33 := h3.1
              clear ih h4 h6 h5
              grind [zup]
            · intro b q1
              have := h6 b q1
              funext j
              rw [← this]
              clear ih h4 h5 h6
              simp only [zup]
              grind
            · omega
          · skip
            refine zw_aload ⟨rfl, rfl⟩ rfl ?_
            refine zw_getR 108 ⟨rfl, rfl⟩ zr_105_4 ?_
            refine zw_const ⟨rfl, rfl⟩ ?_
            refine zw_row ⟨rfl, rfl⟩ zrw_108 (by omega) ?_
            rw [show ((109 : Int) + 0) = 109 from rfl]
            refine zw_aload ⟨rfl, rfl⟩ rfl ?_
            refine zw_getIv (v := yci (yK σ) p) ⟨rfl, rfl⟩ zc_105 (by decide) ((zup_na (by decide)).trans (h3.1)) ?_
            refine zw_iload ⟨rfl, rfl⟩ rfl ?_
            refine zw_iast ⟨rfl, rfl⟩ za_109 (by omega) ?_
            refine zw_aload ⟨rfl, rfl⟩ rfl ?_
            refine zw_getR 108 ⟨rfl, rfl⟩ zr_105_4 ?_
            refine zw_const ⟨rfl, rfl⟩ ?_
            refine zw_row ⟨rfl, rfl⟩ zrw_108 (by omega) ?_
            rw [show ((109 : Int) + 1) = 110 from rfl]
            refine zw_aload ⟨rfl, rfl⟩ rfl ?_
            refine zw_getIv (v := yci (yK σ) p) ⟨rfl, rfl⟩ zc_105 (by decide) ((zup_na (by decide)).trans ((zup_na (by decide)).trans (h3.1))) ?_
            refine zw_const ⟨rfl, rfl⟩ ?_
            refine zw_iast ⟨rfl, rfl⟩ za_110 (by omega) ?_
            refine zw_aload ⟨rfl, rfl⟩ rfl ?_
            refine zw_getR 108 ⟨rfl, rfl⟩ zr_105_4 ?_
            refine zw_const ⟨rfl, rfl⟩ ?_
            refine zw_row ⟨rfl, rfl⟩ zrw_108 (by omega) ?_
            rw [show ((109 : Int) + 2) = 111 from rfl]
            refine zw_aload ⟨rfl, rfl⟩ rfl ?_
            refine zw_getIv (v := yci (yK σ) p) ⟨rfl, rfl⟩ zc_105 (by decide) ((zup_na (by decide)).trans ((zup_na (by decide)).trans ((zup_na (by decide)).trans (h3.1)))) ?_
            refine zw_aload ⟨rfl, rfl⟩ rfl ?_
            refine zw_getR 106 ⟨rfl, rfl⟩ zr_105_2 ?_
            refine zw_iload ⟨rfl, rfl⟩ rfl ?_
            refine zw_ialdv (v := yK σ p) ⟨rfl, rfl⟩ za_106 (by omega) ((zup_na (by decide)).trans ((zup_na (by decide)).trans (zup_eq _ _ _ _))) ?_
            refine zw_calls1 ⟨rfl, rfl⟩ rfl rfl ?_
            refine m_sortOf  ?_
            refine zw_iast ⟨rfl, rfl⟩ za_111 (by omega) ?_
            refine zw_aload ⟨rfl, rfl⟩ rfl ?_
            refine zw_dup ⟨rfl, rfl⟩ (by decide) ?_
            refine zw_getIv (v := yci (yK σ) p) ⟨rfl, rfl⟩ zc_105 (by decide) ((zup_na (by decide)).trans ((zup_na (by decide)).trans ((zup_na (by decide)).trans ((zup_na (by decide)).trans (h3.1))))) ?_
            refine zw_const ⟨rfl, rfl⟩ ?_
            refine zw_iadd ⟨rfl, rfl⟩ (by omega) ?_
            refine zw_putI ⟨rfl, rfl⟩ zc_105 (by decide) (fun h => absurd h (by decide)) ?_
            refine zw_aload ⟨rfl, rfl⟩ rfl ?_
            refine zw_getR 108 ⟨rfl, rfl⟩ zr_105_4 ?_
            refine zw_const ⟨rfl, rfl⟩ ?_
            refine zw_row ⟨rfl, rfl⟩ zrw_108 (by omega) ?_
            rw [show ((109 : Int) + 1) = 110 from rfl]
            refine zw_aload ⟨rfl, rfl⟩ rfl ?_
            refine zw_getIv (v := (yci (yK σ) p) + 1) ⟨rfl, rfl⟩ zc_105 (by decide) (zup_eq _ _ _ _) ?_
            refine zw_const ⟨rfl, rfl⟩ ?_
            refine zw_isub ⟨rfl, rfl⟩ (by omega) ?_
            rw [show ((yci (yK σ) p) + 1) - 1 = (yci (yK σ) p) by omega]
            refine zw_dup2 ⟨rfl, rfl⟩ ⟨by decide, by decide⟩ ?_
            refine zw_ialdv (v := 0) ⟨rfl, rfl⟩ za_110 (by omega) ((zup_na (by decide)).trans ((zup_na (by decide)).trans (zup_eq _ _ _ _))) ?_
            refine zw_const ⟨rfl, rfl⟩ ?_
            refine zw_iadd ⟨rfl, rfl⟩ (by first | omega | (have h55 := (h5 (yci (yK σ) p - 1) (by omega) (by omega)).2.2; rw [if_pos (by omega)] at h55; have := yB_l hK h1.1 h1.2 (show 0 ≤ yci (yK σ) p - 1 by omega) (by omega); have := (yB_r hK (show 0 ≤ yci (yK σ) p - 1 by omega) (by have := (yci_mo (yK σ) h1.1 h1.2).1; omega)).1; omega)) ?_
            refine zw_iast ⟨rfl, rfl⟩ za_110 (by omega) ?_
            refine zw_aload ⟨rfl, rfl⟩ rfl ?_
            refine zw_getR 107 ⟨rfl, rfl⟩ zr_105_3 ?_
            refine zw_iload ⟨rfl, rfl⟩ rfl ?_
            refine zw_aload ⟨rfl, rfl⟩ rfl ?_
            refine zw_getIv (v := (yci (yK σ) p) + 1) ⟨rfl, rfl⟩ zc_105 (by decide) ((zup_na (by decide)).trans (zup_eq _ _ _ _)) ?_
            refine zw_const ⟨rfl, rfl⟩ ?_
            refine zw_isub ⟨rfl, rfl⟩ (by omega) ?_
            rw [show ((yci (yK σ) p) + 1) - 1 = (yci (yK σ) p) by omega]
            refine zw_iast ⟨rfl, rfl⟩ za_107 (by omega) ?_
            refine zw_iload ⟨rfl, rfl⟩ rfl ?_
            refine zw_aload ⟨rfl, rfl⟩ rfl ?_
            refine zw_getR 106 ⟨rfl, rfl⟩ zr_105_2 ?_
            refine zw_iload ⟨rfl, rfl⟩ rfl ?_
            refine zw_ialdv (v := yK σ p) ⟨rfl, rfl⟩ za_106 (by omega) ((zup_na (by decide)).trans ((zup_na (by decide)).trans ((zup_na (by decide)).trans ((zup_na (by decide)).trans ((zup_na (by decide)).trans ((zup_na (by decide)).trans (zup_eq _ _ _ _))))))) ?_
            refine zw_calls2 ⟨rfl, rfl⟩ rfl rfl ?_
            refine m_stateBehind  ?_
            refine zw_istore_2 ⟨rfl, rfl⟩ ?_
            refine zw_iinc_3 ⟨rfl, rfl⟩ (by omega) ?_
            refine zw_goto ⟨rfl, rfl⟩ rfl ?_
            have hb : ybg (yK σ) p := by
              first
                | (unfold ybg; rw [← h2]; omega)
                | (have hp : p = 0 := by
                     by_cases hp : p = 0
                     · exact hp
                     · have := (yci_mo (yK σ) (show (0 : Int) ≤ 1 by decide) (show 1 ≤ p by omega)).1
                       have h0 := yci_b (yK σ) (Int.le_refl 0) (ybg_0 _)
                       rw [show (0 : Int) + 1 = 1 from rfl, yci_0] at h0
                       omega
                   rw [hp]; exact ybg_0 _)
            have e1 : yci (yK σ) (p + 1) = yci (yK σ) p + 1 := yci_b _ h1.1 hb
            have e2 : yB (yK σ) (yci (yK σ) p) = p := yB_eq hK h1.1 h1.2 hb
            have hnn := yci_nn (yK σ) p
            have h7 := hK.1
            refine ih _ _ _ ?_ ?_ ?_ ?_ ?_ ?_ ?_
            · omega
            · rw [h2, ysi_s _ h1.1]
            · clear ih h4 h5 h6
              refine ⟨?_, ?_⟩
              · rw [e1]; simp [zup, h3.1]
              · simp [zup, h3.2]
            · intro q q1 q2
              have h44 := h4 q q1
              clear ih h5 h6 h4
              by_cases hq : q = p
              · subst hq; rw [e1]; simp [zup, h3.1]
              · have := h44 (by omega); simp [zup, hq]; exact this
            · intro c q1 q2
              rw [e1] at q2 ⊢
              have h55 := h5 c q1
              have h551 := h5 (yci (yK σ) p - 1)
              have h33 := h3.1
              clear ih h4 h6 h5
              grind [zup]
            · intro b q1
              have := h6 b q1
              funext j
              rw [← this]
              clear ih h4 h5 h6
              simp only [zup]
              grind
            · omega
end

theorem m_split {M : zM} {Q : zV → zM → Prop} {σ : yS} (hV : yVal σ) (hS : yTold M σ) (k : ∀ N : zM, (yCut N (yK σ) (σ 0) ∧ ∀ b, ¬ (105 ≤ b ∧ b ≤ 111) → N b = M b) → Q (3, 0) N) : zWp kCu_split 0 [(1, 105), (1, 2), (3, 0), (3, 0)] [] M Q := by
  refine zw_aload ⟨rfl, rfl⟩ rfl ?_
  refine zw_const ⟨rfl, rfl⟩ ?_
  refine zw_putI ⟨rfl, rfl⟩ zc_105 (by decide) (fun h => absurd h (by decide)) ?_
  refine zw_aload ⟨rfl, rfl⟩ rfl ?_
  refine zw_aload ⟨rfl, rfl⟩ rfl ?_
  refine zw_getIv (v := σ 0) ⟨rfl, rfl⟩ zc_2 (by decide) ((zup_na (by decide)).trans (hS.2.1)) ?_
  refine zw_putI ⟨rfl, rfl⟩ zc_105 (by decide) (fun h => absurd h (by decide)) ?_
  refine zw_const ⟨rfl, rfl⟩ ?_
  refine zw_istore_2 ⟨rfl, rfl⟩ ?_
  refine zw_const ⟨rfl, rfl⟩ ?_
  refine zw_istore_3 ⟨rfl, rfl⟩ ?_
  refine m_split_l hV hS k _ _ _ _ ⟨Int.le_refl _, hV.1.1⟩ rfl ⟨rfl, rfl⟩ (fun q a b => by omega) (fun c a b => by rw [yci_0] at b; omega) (fun b hb => ?_) (Nat.lt_succ_self _)
  rw [zup_row (by omega), zup_row (by omega)]
