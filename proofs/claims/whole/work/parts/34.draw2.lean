theorem ynk_b {K : Int → Int} {n p : Int} (hK : yKr K n) (h : 0 ≤ p) : ynk K p = -1 ∨ (0 ≤ ynk K p ∧ ynk K p < 60) := by
  have hn := hK.1
  unfold ynk
  split
  · rename_i q
    have := (ykp hK (p := p + 1) (by rw [q]; decide))
    omega
  · exact Or.inl rfl
theorem yvi_b {K : Int → Int} {n p : Int} (hK : yKr K n) (h : 0 ≤ p) : yvi K p = -1 ∨ (0 ≤ yvi K p ∧ yvi K p < 60) := by
  have hn := hK.1
  unfold yvi
  split
  · exact Or.inl rfl
  · rename_i q
    have := (ync_r q).2.2.1
    have := (ykp hK (p := yq K p) (by rw [this]; decide))
    omega
theorem yjo_b {K : Int → Int} {n p : Int} (hK : yKr K n) (h : 0 ≤ p) : yjo K p = -1 ∨ (0 ≤ yjo K p ∧ yjo K p < 60) := by
  have hn := hK.1
  unfold yjo
  split
  · exact Or.inl rfl
  · split
    · rename_i q
      have := (ykp hK (p := yq K p + 1) (by rcases q with z | z <;> rw [z] <;> decide))
      omega
    · exact Or.inl rfl
theorem yhf_r (σ : yS) (b k : Int) : yhf σ b k = 0 ∨ yhf σ b k = 1 := by unfold yhf; split <;> simp

section
set_option maxHeartbeats 8000000
theorem m_drawAhead_l  {b : Int} {M : zM} {Q : zV → zM → Prop} {σ : yS} {c : Int} {T : yT} (hV : yVal σ) (hX : yCx M σ b) (hB : (0 ≤ b ∧ b < σ 0) ∧ ybg (yK σ) b) (hD : yDr M c T) (hg : yK σ b = 1 → T.1 + 2 * (yP σ b (yba σ (yK σ) b) - yP σ b (yrp σ (yK σ) b)) ≤ 180) (kk : ∀ N : zM, (yDr N c (yahd σ c b T) ∧ ydf M N) → Q (3, 0) N) : ∀ (f : Nat) (k : Int) (u0 u1 u2 u3 : zV) (N : zM), (yrp σ (yK σ) b ≤ k ∧ k ≤ yba σ (yK σ) b) → (yDr N c (yfo (yahs σ c b) (yrp σ (yK σ) b) k T)) → (ydf M N) → (yba σ (yK σ) b - k).toNat < f → zWp kDr_drawAhead 4 [(1, 126), (0, k), u0, u1, u2, u3] [] N Q := by
  intro f
  induction f with
  | zero => intro k u0 u1 u2 u3 N i1 i2 i3 hf; exact absurd hf (Nat.not_lt_zero _)
  | succ f ih =>
    intro k u0 u1 u2 u3 N i1 i2 i3 hf
    have hK := yKr_K hV
    have hov := (yov_sp hK hB.1.1 hB.1.2 hB.2).2.1
    have hn := hV.1
    have hr := yrp_r σ (yK σ) b
    have hX2 := hX.fr i3
    refine zw_iload ⟨rfl, rfl⟩ rfl ?_
    refine zw_aload ⟨rfl, rfl⟩ rfl ?_
    refine zw_getR 120 ⟨rfl, rfl⟩ zr_126_7 ?_
    refine zw_getIv (v := yba σ (yK σ) b) ⟨rfl, rfl⟩ zc_120 (by decide) (hX2.2.2.2.1.2.1) ?_
    refine zw_icge ⟨rfl, rfl⟩ rfl (fun c1 => ?_) (fun c1 => ?_)
    · skip
      refine zw_void rfl ?_
      refine kk _ ⟨?_, i3⟩
      have e : k = yba σ (yK σ) b := by omega
      unfold yahd
      rw [← e]
      exact i2
    · skip
      have h : yK σ b = 1 := by
        apply Decidable.byContradiction
        intro z
        have := (yA0 (σ := σ) z).2.1
        omega
      have hm := ym_r hK hB.1.1 hB.1.2 h
      have em : yms (yK σ) b = ym (yK σ) b := if_pos h
      have hz := yba_r (σ := σ) hK hB.1.1 hB.1.2 h
      have hgg := hg h
      have ht := yahd_r hV c T hB.1.1 hB.1.2 h i1.1 i1.2
      obtain ⟨TT, hTT⟩ : ∃ TT, TT = (yfo (yahs σ c b) (yrp σ (yK σ) b) k T) := ⟨_, rfl⟩
      rw [← hTT] at i2 ht
      have hll := ypl_lt hK hB.1.1 hB.1.2 h (show 0 ≤ k by omega) (show k < yba σ (yK σ) b by omega) (by omega)
      have hpk := (ypl_r hK hB.1.1 hB.1.2 h (show 0 ≤ k by omega) (by omega)).1
      have hpk1 : yP σ b k ≠ -1 := by unfold yP; omega
      have hjr := (yjf_r σ (yK σ) b (show 0 ≤ k by omega)).1
      have hjr1 : 0 < k → _ := fun hk0 => (yjf_r σ (yK σ) b (show 0 ≤ k - 1 by omega)).1
      unfold yP at hgg ht
      refine zw_iload ⟨rfl, rfl⟩ rfl ?_
      refine zw_aload ⟨rfl, rfl⟩ rfl ?_
      refine zw_getR 120 ⟨rfl, rfl⟩ zr_126_7 ?_
      refine zw_getIv (v := yrp σ (yK σ) b) ⟨rfl, rfl⟩ zc_120 (by decide) (hX2.2.2.2.1.2.2.1) ?_
      refine zw_icle ⟨rfl, rfl⟩ rfl (fun c2 => ?_) (fun c2 => ?_)
      · skip
        refine zw_const ⟨rfl, rfl⟩ ?_
        refine zw_istore_2 ⟨rfl, rfl⟩ ?_
        refine zw_aload ⟨rfl, rfl⟩ rfl ?_
        refine zw_getR 120 ⟨rfl, rfl⟩ zr_126_7 ?_
        refine zw_getR 125 ⟨rfl, rfl⟩ zr_120_14 ?_
        refine zw_iload ⟨rfl, rfl⟩ rfl ?_
        refine zw_baldv (v := yjf σ (yK σ) b k) ⟨rfl, rfl⟩ za_125 (by decide) (by omega) ((hX2.2.2.2.2 k (by omega) (by omega)).2.2.2.2) ?_
        refine zw_ifeq ⟨rfl, rfl⟩ rfl (fun c3 => ?_) (fun c3 => ?_)
        · skip
          refine zw_iload ⟨rfl, rfl⟩ rfl ?_
          refine zw_istore_3 ⟨rfl, rfl⟩ ?_
          refine zw_iload ⟨rfl, rfl⟩ rfl ?_
          refine zw_ifne ⟨rfl, rfl⟩ rfl (fun q => absurd q (by decide)) (fun _ => ?_)
          refine zw_iload ⟨rfl, rfl⟩ rfl ?_
          refine zw_aload ⟨rfl, rfl⟩ rfl ?_
          refine zw_getR 120 ⟨rfl, rfl⟩ zr_126_7 ?_
          refine zw_getIv (v := yba σ (yK σ) b) ⟨rfl, rfl⟩ zc_120 (by decide) (hX2.2.2.2.1.2.1) ?_
          refine zw_iclt ⟨rfl, rfl⟩ rfl (fun c5 => ?_) (fun c5 => ?_)
          · skip
            refine zw_aload ⟨rfl, rfl⟩ rfl ?_
            refine zw_iload ⟨rfl, rfl⟩ rfl ?_
            refine zw_callv2 ⟨rfl, rfl⟩ rfl zc_126 rfl ?_
            have hla : yla σ b k = k := by unfold yla; first | (rw [if_pos (by omega)]; done) | (rw [if_neg (by omega)]; done)
            refine m_isHalf hV hX2 hB h ⟨by omega, by omega⟩ ?_
            have hfr := yhf_r σ b (k)
            have hpl := (ypl_r hK hB.1.1 hB.1.2 h (show 0 ≤ k by omega) (by omega)).1
            have hpl0 : 0 ≤ yP σ b (k) := by unfold yP; omega
            refine zw_istore_4 ⟨rfl, rfl⟩ ?_
            refine zw_aload ⟨rfl, rfl⟩ rfl ?_
            refine zw_iload ⟨rfl, rfl⟩ rfl ?_
            refine zw_iload ⟨rfl, rfl⟩ rfl ?_
            refine zw_iload ⟨rfl, rfl⟩ rfl ?_
            refine zw_const ⟨rfl, rfl⟩ ?_
            refine zw_callv5 ⟨rfl, rfl⟩ rfl zc_126 rfl ?_
            refine m_drawConsonants hV hX2 hB i2 h ⟨by omega, by omega⟩ ⟨by omega, by omega⟩ (by omega) (fun N1 p1 => ?_)
            have hX3 := hX2.fr p1.2
            have q1 := ydcn_1 c TT (k) (yhf σ b (k)) 1 hpk1
            refine zw_istore_5 ⟨rfl, rfl⟩ ?_
            have q1b : N1 126 0 = TT.1 + 1 := by rw [p1.1.1, q1]
            refine zw_aload ⟨rfl, rfl⟩ rfl ?_
            refine zw_const ⟨rfl, rfl⟩ ?_
            refine zw_aload ⟨rfl, rfl⟩ rfl ?_
            refine zw_getR 120 ⟨rfl, rfl⟩ zr_126_7 ?_
            refine zw_getR 122 ⟨rfl, rfl⟩ zr_120_11 ?_
            refine zw_iload ⟨rfl, rfl⟩ rfl ?_
            refine zw_ialdv (v := ynk (yK σ) (yP σ b k)) ⟨rfl, rfl⟩ za_122 (by omega) ((hX3.2.2.2.2 k (by omega) (by omega)).2.1) ?_
            refine zw_const ⟨rfl, rfl⟩ ?_
            refine zw_callv4 ⟨rfl, rfl⟩ rfl zc_126 rfl ?_
            refine m_putLetter hV hX3.1 p1.1 (ynk_b hK (by omega)) (fun hpz => by (try simp only [yplt_1, yshb_1, yem_1]); (repeat' split) <;> omega) (fun N2 p2 => ?_)
            have hX4 := hX3.fr p2.2
            refine zw_pop ⟨rfl, rfl⟩ (by decide) ?_
            refine zw_iload ⟨rfl, rfl⟩ rfl ?_
            refine zw_ifeq ⟨rfl, rfl⟩ rfl (fun c6 => ?_) (fun c6 => ?_)
            · skip
              refine zw_aload ⟨rfl, rfl⟩ rfl ?_
              refine zw_const ⟨rfl, rfl⟩ ?_
              refine zw_aload ⟨rfl, rfl⟩ rfl ?_
              refine zw_getR 120 ⟨rfl, rfl⟩ zr_126_7 ?_
              refine zw_getR 123 ⟨rfl, rfl⟩ zr_120_12 ?_
              refine zw_iload ⟨rfl, rfl⟩ rfl ?_
              refine zw_ialdv (v := yvi (yK σ) (yP σ b k)) ⟨rfl, rfl⟩ za_123 (by omega) ((hX4.2.2.2.2 k (by omega) (by omega)).2.2.1) ?_
              refine zw_const ⟨rfl, rfl⟩ ?_
              refine zw_callv4 ⟨rfl, rfl⟩ rfl zc_126 rfl ?_
              refine m_putLetter hV hX4.1 p2.1 (yvi_b hK (by omega)) (fun hpz => by (try simp only [yplt_1, yshb_1, yem_1]); (repeat' split) <;> omega) (fun N3 p3 => ?_)
              have hX5 := hX4.fr p3.2
              refine zw_pop ⟨rfl, rfl⟩ (by decide) ?_
              refine zw_aload ⟨rfl, rfl⟩ rfl ?_
              refine zw_const ⟨rfl, rfl⟩ ?_
              refine zw_aload ⟨rfl, rfl⟩ rfl ?_
              refine zw_getR 120 ⟨rfl, rfl⟩ zr_126_7 ?_
              refine zw_getR 124 ⟨rfl, rfl⟩ zr_120_13 ?_
              refine zw_iload ⟨rfl, rfl⟩ rfl ?_
              refine zw_ialdv (v := yjo (yK σ) (yP σ b k)) ⟨rfl, rfl⟩ za_124 (by omega) ((hX5.2.2.2.2 k (by omega) (by omega)).2.2.2.1) ?_
              refine zw_const ⟨rfl, rfl⟩ ?_
              refine zw_callv4 ⟨rfl, rfl⟩ rfl zc_126 rfl ?_
              refine m_putLetter hV hX5.1 p3.1 (yjo_b hK (by omega)) (fun hpz => by (try simp only [yplt_1, yshb_1, yem_1]); (repeat' split) <;> omega) (fun N4 p4 => ?_)
              have hX6 := hX5.fr p4.2
              refine zw_pop ⟨rfl, rfl⟩ (by decide) ?_
              refine zw_iinc_1 ⟨rfl, rfl⟩ (by omega) ?_
              refine zw_goto ⟨rfl, rfl⟩ rfl ?_
              refine ih _ _ _ _ _ _ ⟨by omega, by omega⟩ ?_ ((((i3.tr p1.2).tr p2.2).tr p3.2).tr p4.2) (by omega)
              rw [yfo_s _ i1.1, ← hTT]
              unfold yahs
              rw [hla, if_neg (fun z => by rcases z with ⟨z1, z2⟩ | z <;> omega)]
              unfold yah2
              first | rw [if_pos (by assumption)] | rw [if_neg (by assumption)]
              exact p4.1
            · skip
              refine zw_aload ⟨rfl, rfl⟩ rfl ?_
              refine zw_aload ⟨rfl, rfl⟩ rfl ?_
              refine zw_getR 120 ⟨rfl, rfl⟩ zr_126_7 ?_
              refine zw_getR 123 ⟨rfl, rfl⟩ zr_120_12 ?_
              refine zw_iload ⟨rfl, rfl⟩ rfl ?_
              refine zw_ialdv (v := yvi (yK σ) (yP σ b k)) ⟨rfl, rfl⟩ za_123 (by omega) ((hX4.2.2.2.2 k (by omega) (by omega)).2.2.1) ?_
              refine zw_iload ⟨rfl, rfl⟩ rfl ?_
              refine zw_cavv3 ⟨rfl, rfl⟩ rfl zc_126 rfl ?_
              refine m_showBy p2.1 (fun N3 p3 => ?_)
              have hX5 := hX4.fr p3.2
              refine zw_goto ⟨rfl, rfl⟩ rfl ?_
              refine zw_aload ⟨rfl, rfl⟩ rfl ?_
              refine zw_const ⟨rfl, rfl⟩ ?_
              refine zw_aload ⟨rfl, rfl⟩ rfl ?_
              refine zw_getR 120 ⟨rfl, rfl⟩ zr_126_7 ?_
              refine zw_getR 124 ⟨rfl, rfl⟩ zr_120_13 ?_
              refine zw_iload ⟨rfl, rfl⟩ rfl ?_
              refine zw_ialdv (v := yjo (yK σ) (yP σ b k)) ⟨rfl, rfl⟩ za_124 (by omega) ((hX5.2.2.2.2 k (by omega) (by omega)).2.2.2.1) ?_
              refine zw_const ⟨rfl, rfl⟩ ?_
              refine zw_callv4 ⟨rfl, rfl⟩ rfl zc_126 rfl ?_
              refine m_putLetter hV hX5.1 p3.1 (yjo_b hK (by omega)) (fun hpz => by (try simp only [yplt_1, yshb_1, yem_1]); (repeat' split) <;> omega) (fun N4 p4 => ?_)
              have hX6 := hX5.fr p4.2
              refine zw_pop ⟨rfl, rfl⟩ (by decide) ?_
              refine zw_iinc_1 ⟨rfl, rfl⟩ (by omega) ?_
              refine zw_goto ⟨rfl, rfl⟩ rfl ?_
              refine ih _ _ _ _ _ _ ⟨by omega, by omega⟩ ?_ ((((i3.tr p1.2).tr p2.2).tr p3.2).tr p4.2) (by omega)
              rw [yfo_s _ i1.1, ← hTT]
              unfold yahs
              rw [hla, if_neg (fun z => by rcases z with ⟨z1, z2⟩ | z <;> omega)]
              unfold yah2
              first | rw [if_pos (by assumption)] | rw [if_neg (by assumption)]
              exact p4.1
          · skip
            refine zw_goto ⟨rfl, rfl⟩ rfl ?_
            refine zw_iinc_1 ⟨rfl, rfl⟩ (by omega) ?_
            refine zw_goto ⟨rfl, rfl⟩ rfl ?_
            refine ih _ _ _ _ _ _ ⟨by omega, by omega⟩ ?_ i3 (by omega)
            rw [yfo_s _ i1.1, ← hTT]
            unfold yahs
            rw [if_pos (by first | exact Or.inl ⟨by omega, by omega⟩ | (refine Or.inr ?_; unfold yla; first | (rw [if_pos (by omega)]; omega) | (rw [if_neg (by omega)]; omega)))]
            exact i2
        · skip
          refine zw_iload ⟨rfl, rfl⟩ rfl ?_
          refine zw_const ⟨rfl, rfl⟩ ?_
          refine zw_iadd ⟨rfl, rfl⟩ (by omega) ?_
          refine zw_goto ⟨rfl, rfl⟩ rfl ?_
          refine zw_istore_3 ⟨rfl, rfl⟩ ?_
          refine zw_iload ⟨rfl, rfl⟩ rfl ?_
          refine zw_ifne ⟨rfl, rfl⟩ rfl (fun q => absurd q (by decide)) (fun _ => ?_)
          refine zw_iload ⟨rfl, rfl⟩ rfl ?_
          refine zw_aload ⟨rfl, rfl⟩ rfl ?_
          refine zw_getR 120 ⟨rfl, rfl⟩ zr_126_7 ?_
          refine zw_getIv (v := yba σ (yK σ) b) ⟨rfl, rfl⟩ zc_120 (by decide) (hX2.2.2.2.1.2.1) ?_
          refine zw_iclt ⟨rfl, rfl⟩ rfl (fun c8 => ?_) (fun c8 => ?_)
          · skip
            refine zw_aload ⟨rfl, rfl⟩ rfl ?_
            refine zw_iload ⟨rfl, rfl⟩ rfl ?_
            refine zw_callv2 ⟨rfl, rfl⟩ rfl zc_126 rfl ?_
            have hla : yla σ b k = k + 1 := by unfold yla; first | (rw [if_pos (by omega)]; done) | (rw [if_neg (by omega)]; done)
            refine m_isHalf hV hX2 hB h ⟨by omega, by omega⟩ ?_
            have hfr := yhf_r σ b (k + 1)
            have hpl := (ypl_r hK hB.1.1 hB.1.2 h (show 0 ≤ k + 1 by omega) (by omega)).1
            have hpl0 : 0 ≤ yP σ b (k + 1) := by unfold yP; omega
            refine zw_istore_4 ⟨rfl, rfl⟩ ?_
            refine zw_aload ⟨rfl, rfl⟩ rfl ?_
            refine zw_iload ⟨rfl, rfl⟩ rfl ?_
            refine zw_iload ⟨rfl, rfl⟩ rfl ?_
            refine zw_iload ⟨rfl, rfl⟩ rfl ?_
            refine zw_const ⟨rfl, rfl⟩ ?_
            refine zw_callv5 ⟨rfl, rfl⟩ rfl zc_126 rfl ?_
            refine m_drawConsonants hV hX2 hB i2 h ⟨by omega, by omega⟩ ⟨by omega, by omega⟩ (by omega) (fun N1 p1 => ?_)
            have hX3 := hX2.fr p1.2
            have q1 := ydcn_1 c TT (k + 1) (yhf σ b (k + 1)) 1 hpk1
            refine zw_istore_5 ⟨rfl, rfl⟩ ?_
            have q1b : N1 126 0 = TT.1 + 1 := by rw [p1.1.1, q1]
            refine zw_aload ⟨rfl, rfl⟩ rfl ?_
            refine zw_const ⟨rfl, rfl⟩ ?_
            refine zw_aload ⟨rfl, rfl⟩ rfl ?_
            refine zw_getR 120 ⟨rfl, rfl⟩ zr_126_7 ?_
            refine zw_getR 122 ⟨rfl, rfl⟩ zr_120_11 ?_
            refine zw_iload ⟨rfl, rfl⟩ rfl ?_
            refine zw_ialdv (v := ynk (yK σ) (yP σ b (k + 1))) ⟨rfl, rfl⟩ za_122 (by omega) ((hX3.2.2.2.2 (k + 1) (by omega) (by omega)).2.1) ?_
            refine zw_const ⟨rfl, rfl⟩ ?_
            refine zw_callv4 ⟨rfl, rfl⟩ rfl zc_126 rfl ?_
            refine m_putLetter hV hX3.1 p1.1 (ynk_b hK (by omega)) (fun hpz => by (try simp only [yplt_1, yshb_1, yem_1]); (repeat' split) <;> omega) (fun N2 p2 => ?_)
            have hX4 := hX3.fr p2.2
            refine zw_pop ⟨rfl, rfl⟩ (by decide) ?_
            refine zw_iload ⟨rfl, rfl⟩ rfl ?_
            refine zw_ifeq ⟨rfl, rfl⟩ rfl (fun c9 => ?_) (fun c9 => ?_)
            · skip
              refine zw_aload ⟨rfl, rfl⟩ rfl ?_
              refine zw_const ⟨rfl, rfl⟩ ?_
              refine zw_aload ⟨rfl, rfl⟩ rfl ?_
              refine zw_getR 120 ⟨rfl, rfl⟩ zr_126_7 ?_
              refine zw_getR 123 ⟨rfl, rfl⟩ zr_120_12 ?_
              refine zw_iload ⟨rfl, rfl⟩ rfl ?_
              refine zw_ialdv (v := yvi (yK σ) (yP σ b (k + 1))) ⟨rfl, rfl⟩ za_123 (by omega) ((hX4.2.2.2.2 (k + 1) (by omega) (by omega)).2.2.1) ?_
              refine zw_const ⟨rfl, rfl⟩ ?_
              refine zw_callv4 ⟨rfl, rfl⟩ rfl zc_126 rfl ?_
              refine m_putLetter hV hX4.1 p2.1 (yvi_b hK (by omega)) (fun hpz => by (try simp only [yplt_1, yshb_1, yem_1]); (repeat' split) <;> omega) (fun N3 p3 => ?_)
              have hX5 := hX4.fr p3.2
              refine zw_pop ⟨rfl, rfl⟩ (by decide) ?_
              refine zw_aload ⟨rfl, rfl⟩ rfl ?_
              refine zw_const ⟨rfl, rfl⟩ ?_
              refine zw_aload ⟨rfl, rfl⟩ rfl ?_
              refine zw_getR 120 ⟨rfl, rfl⟩ zr_126_7 ?_
              refine zw_getR 124 ⟨rfl, rfl⟩ zr_120_13 ?_
              refine zw_iload ⟨rfl, rfl⟩ rfl ?_
              refine zw_ialdv (v := yjo (yK σ) (yP σ b (k + 1))) ⟨rfl, rfl⟩ za_124 (by omega) ((hX5.2.2.2.2 (k + 1) (by omega) (by omega)).2.2.2.1) ?_
              refine zw_const ⟨rfl, rfl⟩ ?_
              refine zw_callv4 ⟨rfl, rfl⟩ rfl zc_126 rfl ?_
              refine m_putLetter hV hX5.1 p3.1 (yjo_b hK (by omega)) (fun hpz => by (try simp only [yplt_1, yshb_1, yem_1]); (repeat' split) <;> omega) (fun N4 p4 => ?_)
              have hX6 := hX5.fr p4.2
              refine zw_pop ⟨rfl, rfl⟩ (by decide) ?_
              refine zw_iinc_1 ⟨rfl, rfl⟩ (by omega) ?_
              refine zw_goto ⟨rfl, rfl⟩ rfl ?_
              refine ih _ _ _ _ _ _ ⟨by omega, by omega⟩ ?_ ((((i3.tr p1.2).tr p2.2).tr p3.2).tr p4.2) (by omega)
              rw [yfo_s _ i1.1, ← hTT]
              unfold yahs
              rw [hla, if_neg (fun z => by rcases z with ⟨z1, z2⟩ | z <;> omega)]
              unfold yah2
              first | rw [if_pos (by assumption)] | rw [if_neg (by assumption)]
              exact p4.1
            · skip
              refine zw_aload ⟨rfl, rfl⟩ rfl ?_
              refine zw_aload ⟨rfl, rfl⟩ rfl ?_
              refine zw_getR 120 ⟨rfl, rfl⟩ zr_126_7 ?_
              refine zw_getR 123 ⟨rfl, rfl⟩ zr_120_12 ?_
              refine zw_iload ⟨rfl, rfl⟩ rfl ?_
              refine zw_ialdv (v := yvi (yK σ) (yP σ b (k + 1))) ⟨rfl, rfl⟩ za_123 (by omega) ((hX4.2.2.2.2 (k + 1) (by omega) (by omega)).2.2.1) ?_
              refine zw_iload ⟨rfl, rfl⟩ rfl ?_
              refine zw_cavv3 ⟨rfl, rfl⟩ rfl zc_126 rfl ?_
              refine m_showBy p2.1 (fun N3 p3 => ?_)
              have hX5 := hX4.fr p3.2
              refine zw_goto ⟨rfl, rfl⟩ rfl ?_
              refine zw_aload ⟨rfl, rfl⟩ rfl ?_
              refine zw_const ⟨rfl, rfl⟩ ?_
              refine zw_aload ⟨rfl, rfl⟩ rfl ?_
              refine zw_getR 120 ⟨rfl, rfl⟩ zr_126_7 ?_
              refine zw_getR 124 ⟨rfl, rfl⟩ zr_120_13 ?_
              refine zw_iload ⟨rfl, rfl⟩ rfl ?_
              refine zw_ialdv (v := yjo (yK σ) (yP σ b (k + 1))) ⟨rfl, rfl⟩ za_124 (by omega) ((hX5.2.2.2.2 (k + 1) (by omega) (by omega)).2.2.2.1) ?_
              refine zw_const ⟨rfl, rfl⟩ ?_
              refine zw_callv4 ⟨rfl, rfl⟩ rfl zc_126 rfl ?_
              refine m_putLetter hV hX5.1 p3.1 (yjo_b hK (by omega)) (fun hpz => by (try simp only [yplt_1, yshb_1, yem_1]); (repeat' split) <;> omega) (fun N4 p4 => ?_)
              have hX6 := hX5.fr p4.2
              refine zw_pop ⟨rfl, rfl⟩ (by decide) ?_
              refine zw_iinc_1 ⟨rfl, rfl⟩ (by omega) ?_
              refine zw_goto ⟨rfl, rfl⟩ rfl ?_
              refine ih _ _ _ _ _ _ ⟨by omega, by omega⟩ ?_ ((((i3.tr p1.2).tr p2.2).tr p3.2).tr p4.2) (by omega)
              rw [yfo_s _ i1.1, ← hTT]
              unfold yahs
              rw [hla, if_neg (fun z => by rcases z with ⟨z1, z2⟩ | z <;> omega)]
              unfold yah2
              first | rw [if_pos (by assumption)] | rw [if_neg (by assumption)]
              exact p4.1
          · skip
            refine zw_goto ⟨rfl, rfl⟩ rfl ?_
            refine zw_iinc_1 ⟨rfl, rfl⟩ (by omega) ?_
            refine zw_goto ⟨rfl, rfl⟩ rfl ?_
            refine ih _ _ _ _ _ _ ⟨by omega, by omega⟩ ?_ i3 (by omega)
            rw [yfo_s _ i1.1, ← hTT]
            unfold yahs
            rw [if_pos (by first | exact Or.inl ⟨by omega, by omega⟩ | (refine Or.inr ?_; unfold yla; first | (rw [if_pos (by omega)]; omega) | (rw [if_neg (by omega)]; omega)))]
            exact i2
      · skip
        refine zw_aload ⟨rfl, rfl⟩ rfl ?_
        refine zw_getR 120 ⟨rfl, rfl⟩ zr_126_7 ?_
        refine zw_getR 125 ⟨rfl, rfl⟩ zr_120_14 ?_
        refine zw_iload ⟨rfl, rfl⟩ rfl ?_
        refine zw_const ⟨rfl, rfl⟩ ?_
        refine zw_isub ⟨rfl, rfl⟩ (by omega) ?_
        refine zw_baldv (v := yjf σ (yK σ) b (k - 1)) ⟨rfl, rfl⟩ za_125 (by decide) (by omega) ((hX2.2.2.2.2 (k - 1) (by omega) (by omega)).2.2.2.2) ?_
        refine zw_ifeq ⟨rfl, rfl⟩ rfl (fun c10 => ?_) (fun c10 => ?_)
        · skip
          refine zw_const ⟨rfl, rfl⟩ ?_
          refine zw_istore_2 ⟨rfl, rfl⟩ ?_
          refine zw_aload ⟨rfl, rfl⟩ rfl ?_
          refine zw_getR 120 ⟨rfl, rfl⟩ zr_126_7 ?_
          refine zw_getR 125 ⟨rfl, rfl⟩ zr_120_14 ?_
          refine zw_iload ⟨rfl, rfl⟩ rfl ?_
          refine zw_baldv (v := yjf σ (yK σ) b k) ⟨rfl, rfl⟩ za_125 (by decide) (by omega) ((hX2.2.2.2.2 k (by omega) (by omega)).2.2.2.2) ?_
          refine zw_ifeq ⟨rfl, rfl⟩ rfl (fun c11 => ?_) (fun c11 => ?_)
          · skip
            refine zw_iload ⟨rfl, rfl⟩ rfl ?_
            refine zw_istore_3 ⟨rfl, rfl⟩ ?_
            refine zw_iload ⟨rfl, rfl⟩ rfl ?_
            refine zw_ifne ⟨rfl, rfl⟩ rfl (fun q => absurd q (by decide)) (fun _ => ?_)
            refine zw_iload ⟨rfl, rfl⟩ rfl ?_
            refine zw_aload ⟨rfl, rfl⟩ rfl ?_
            refine zw_getR 120 ⟨rfl, rfl⟩ zr_126_7 ?_
            refine zw_getIv (v := yba σ (yK σ) b) ⟨rfl, rfl⟩ zc_120 (by decide) (hX2.2.2.2.1.2.1) ?_
            refine zw_iclt ⟨rfl, rfl⟩ rfl (fun c13 => ?_) (fun c13 => ?_)
            · skip
              refine zw_aload ⟨rfl, rfl⟩ rfl ?_
              refine zw_iload ⟨rfl, rfl⟩ rfl ?_
              refine zw_callv2 ⟨rfl, rfl⟩ rfl zc_126 rfl ?_
              have hla : yla σ b k = k := by unfold yla; first | (rw [if_pos (by omega)]; done) | (rw [if_neg (by omega)]; done)
              refine m_isHalf hV hX2 hB h ⟨by omega, by omega⟩ ?_
              have hfr := yhf_r σ b (k)
              have hpl := (ypl_r hK hB.1.1 hB.1.2 h (show 0 ≤ k by omega) (by omega)).1
              have hpl0 : 0 ≤ yP σ b (k) := by unfold yP; omega
              refine zw_istore_4 ⟨rfl, rfl⟩ ?_
              refine zw_aload ⟨rfl, rfl⟩ rfl ?_
              refine zw_iload ⟨rfl, rfl⟩ rfl ?_
              refine zw_iload ⟨rfl, rfl⟩ rfl ?_
              refine zw_iload ⟨rfl, rfl⟩ rfl ?_
              refine zw_const ⟨rfl, rfl⟩ ?_
              refine zw_callv5 ⟨rfl, rfl⟩ rfl zc_126 rfl ?_
              refine m_drawConsonants hV hX2 hB i2 h ⟨by omega, by omega⟩ ⟨by omega, by omega⟩ (by omega) (fun N1 p1 => ?_)
              have hX3 := hX2.fr p1.2
              have q1 := ydcn_1 c TT (k) (yhf σ b (k)) 1 hpk1
              refine zw_istore_5 ⟨rfl, rfl⟩ ?_
              have q1b : N1 126 0 = TT.1 + 1 := by rw [p1.1.1, q1]
              refine zw_aload ⟨rfl, rfl⟩ rfl ?_
              refine zw_const ⟨rfl, rfl⟩ ?_
              refine zw_aload ⟨rfl, rfl⟩ rfl ?_
              refine zw_getR 120 ⟨rfl, rfl⟩ zr_126_7 ?_
              refine zw_getR 122 ⟨rfl, rfl⟩ zr_120_11 ?_
              refine zw_iload ⟨rfl, rfl⟩ rfl ?_
              refine zw_ialdv (v := ynk (yK σ) (yP σ b k)) ⟨rfl, rfl⟩ za_122 (by omega) ((hX3.2.2.2.2 k (by omega) (by omega)).2.1) ?_
              refine zw_const ⟨rfl, rfl⟩ ?_
              refine zw_callv4 ⟨rfl, rfl⟩ rfl zc_126 rfl ?_
              refine m_putLetter hV hX3.1 p1.1 (ynk_b hK (by omega)) (fun hpz => by (try simp only [yplt_1, yshb_1, yem_1]); (repeat' split) <;> omega) (fun N2 p2 => ?_)
              have hX4 := hX3.fr p2.2
              refine zw_pop ⟨rfl, rfl⟩ (by decide) ?_
              refine zw_iload ⟨rfl, rfl⟩ rfl ?_
              refine zw_ifeq ⟨rfl, rfl⟩ rfl (fun c14 => ?_) (fun c14 => ?_)
              · skip
                refine zw_aload ⟨rfl, rfl⟩ rfl ?_
                refine zw_const ⟨rfl, rfl⟩ ?_
                refine zw_aload ⟨rfl, rfl⟩ rfl ?_
                refine zw_getR 120 ⟨rfl, rfl⟩ zr_126_7 ?_
                refine zw_getR 123 ⟨rfl, rfl⟩ zr_120_12 ?_
                refine zw_iload ⟨rfl, rfl⟩ rfl ?_
                refine zw_ialdv (v := yvi (yK σ) (yP σ b k)) ⟨rfl, rfl⟩ za_123 (by omega) ((hX4.2.2.2.2 k (by omega) (by omega)).2.2.1) ?_
                refine zw_const ⟨rfl, rfl⟩ ?_
                refine zw_callv4 ⟨rfl, rfl⟩ rfl zc_126 rfl ?_
                refine m_putLetter hV hX4.1 p2.1 (yvi_b hK (by omega)) (fun hpz => by (try simp only [yplt_1, yshb_1, yem_1]); (repeat' split) <;> omega) (fun N3 p3 => ?_)
                have hX5 := hX4.fr p3.2
                refine zw_pop ⟨rfl, rfl⟩ (by decide) ?_
                refine zw_aload ⟨rfl, rfl⟩ rfl ?_
                refine zw_const ⟨rfl, rfl⟩ ?_
                refine zw_aload ⟨rfl, rfl⟩ rfl ?_
                refine zw_getR 120 ⟨rfl, rfl⟩ zr_126_7 ?_
                refine zw_getR 124 ⟨rfl, rfl⟩ zr_120_13 ?_
                refine zw_iload ⟨rfl, rfl⟩ rfl ?_
                refine zw_ialdv (v := yjo (yK σ) (yP σ b k)) ⟨rfl, rfl⟩ za_124 (by omega) ((hX5.2.2.2.2 k (by omega) (by omega)).2.2.2.1) ?_
                refine zw_const ⟨rfl, rfl⟩ ?_
                refine zw_callv4 ⟨rfl, rfl⟩ rfl zc_126 rfl ?_
                refine m_putLetter hV hX5.1 p3.1 (yjo_b hK (by omega)) (fun hpz => by (try simp only [yplt_1, yshb_1, yem_1]); (repeat' split) <;> omega) (fun N4 p4 => ?_)
                have hX6 := hX5.fr p4.2
                refine zw_pop ⟨rfl, rfl⟩ (by decide) ?_
                refine zw_iinc_1 ⟨rfl, rfl⟩ (by omega) ?_
                refine zw_goto ⟨rfl, rfl⟩ rfl ?_
                refine ih _ _ _ _ _ _ ⟨by omega, by omega⟩ ?_ ((((i3.tr p1.2).tr p2.2).tr p3.2).tr p4.2) (by omega)
                rw [yfo_s _ i1.1, ← hTT]
                unfold yahs
                rw [hla, if_neg (fun z => by rcases z with ⟨z1, z2⟩ | z <;> omega)]
                unfold yah2
                first | rw [if_pos (by assumption)] | rw [if_neg (by assumption)]
                exact p4.1
              · skip
                refine zw_aload ⟨rfl, rfl⟩ rfl ?_
                refine zw_aload ⟨rfl, rfl⟩ rfl ?_
                refine zw_getR 120 ⟨rfl, rfl⟩ zr_126_7 ?_
                refine zw_getR 123 ⟨rfl, rfl⟩ zr_120_12 ?_
                refine zw_iload ⟨rfl, rfl⟩ rfl ?_
                refine zw_ialdv (v := yvi (yK σ) (yP σ b k)) ⟨rfl, rfl⟩ za_123 (by omega) ((hX4.2.2.2.2 k (by omega) (by omega)).2.2.1) ?_
                refine zw_iload ⟨rfl, rfl⟩ rfl ?_
                refine zw_cavv3 ⟨rfl, rfl⟩ rfl zc_126 rfl ?_
                refine m_showBy p2.1 (fun N3 p3 => ?_)
                have hX5 := hX4.fr p3.2
                refine zw_goto ⟨rfl, rfl⟩ rfl ?_
                refine zw_aload ⟨rfl, rfl⟩ rfl ?_
                refine zw_const ⟨rfl, rfl⟩ ?_
                refine zw_aload ⟨rfl, rfl⟩ rfl ?_
                refine zw_getR 120 ⟨rfl, rfl⟩ zr_126_7 ?_
                refine zw_getR 124 ⟨rfl, rfl⟩ zr_120_13 ?_
                refine zw_iload ⟨rfl, rfl⟩ rfl ?_
                refine zw_ialdv (v := yjo (yK σ) (yP σ b k)) ⟨rfl, rfl⟩ za_124 (by omega) ((hX5.2.2.2.2 k (by omega) (by omega)).2.2.2.1) ?_
                refine zw_const ⟨rfl, rfl⟩ ?_
                refine zw_callv4 ⟨rfl, rfl⟩ rfl zc_126 rfl ?_
                refine m_putLetter hV hX5.1 p3.1 (yjo_b hK (by omega)) (fun hpz => by (try simp only [yplt_1, yshb_1, yem_1]); (repeat' split) <;> omega) (fun N4 p4 => ?_)
                have hX6 := hX5.fr p4.2
                refine zw_pop ⟨rfl, rfl⟩ (by decide) ?_
                refine zw_iinc_1 ⟨rfl, rfl⟩ (by omega) ?_
                refine zw_goto ⟨rfl, rfl⟩ rfl ?_
                refine ih _ _ _ _ _ _ ⟨by omega, by omega⟩ ?_ ((((i3.tr p1.2).tr p2.2).tr p3.2).tr p4.2) (by omega)
                rw [yfo_s _ i1.1, ← hTT]
                unfold yahs
                rw [hla, if_neg (fun z => by rcases z with ⟨z1, z2⟩ | z <;> omega)]
                unfold yah2
                first | rw [if_pos (by assumption)] | rw [if_neg (by assumption)]
                exact p4.1
            · skip
              refine zw_goto ⟨rfl, rfl⟩ rfl ?_
              refine zw_iinc_1 ⟨rfl, rfl⟩ (by omega) ?_
              refine zw_goto ⟨rfl, rfl⟩ rfl ?_
              refine ih _ _ _ _ _ _ ⟨by omega, by omega⟩ ?_ i3 (by omega)
              rw [yfo_s _ i1.1, ← hTT]
              unfold yahs
              rw [if_pos (by first | exact Or.inl ⟨by omega, by omega⟩ | (refine Or.inr ?_; unfold yla; first | (rw [if_pos (by omega)]; omega) | (rw [if_neg (by omega)]; omega)))]
              exact i2
          · skip
            refine zw_iload ⟨rfl, rfl⟩ rfl ?_
            refine zw_const ⟨rfl, rfl⟩ ?_
            refine zw_iadd ⟨rfl, rfl⟩ (by omega) ?_
            refine zw_goto ⟨rfl, rfl⟩ rfl ?_
            refine zw_istore_3 ⟨rfl, rfl⟩ ?_
            refine zw_iload ⟨rfl, rfl⟩ rfl ?_
            refine zw_ifne ⟨rfl, rfl⟩ rfl (fun q => absurd q (by decide)) (fun _ => ?_)
            refine zw_iload ⟨rfl, rfl⟩ rfl ?_
            refine zw_aload ⟨rfl, rfl⟩ rfl ?_
            refine zw_getR 120 ⟨rfl, rfl⟩ zr_126_7 ?_
            refine zw_getIv (v := yba σ (yK σ) b) ⟨rfl, rfl⟩ zc_120 (by decide) (hX2.2.2.2.1.2.1) ?_
            refine zw_iclt ⟨rfl, rfl⟩ rfl (fun c16 => ?_) (fun c16 => ?_)
            · skip
              refine zw_aload ⟨rfl, rfl⟩ rfl ?_
              refine zw_iload ⟨rfl, rfl⟩ rfl ?_
              refine zw_callv2 ⟨rfl, rfl⟩ rfl zc_126 rfl ?_
              have hla : yla σ b k = k + 1 := by unfold yla; first | (rw [if_pos (by omega)]; done) | (rw [if_neg (by omega)]; done)
              refine m_isHalf hV hX2 hB h ⟨by omega, by omega⟩ ?_
              have hfr := yhf_r σ b (k + 1)
              have hpl := (ypl_r hK hB.1.1 hB.1.2 h (show 0 ≤ k + 1 by omega) (by omega)).1
              have hpl0 : 0 ≤ yP σ b (k + 1) := by unfold yP; omega
              refine zw_istore_4 ⟨rfl, rfl⟩ ?_
              refine zw_aload ⟨rfl, rfl⟩ rfl ?_
              refine zw_iload ⟨rfl, rfl⟩ rfl ?_
              refine zw_iload ⟨rfl, rfl⟩ rfl ?_
              refine zw_iload ⟨rfl, rfl⟩ rfl ?_
              refine zw_const ⟨rfl, rfl⟩ ?_
              refine zw_callv5 ⟨rfl, rfl⟩ rfl zc_126 rfl ?_
              refine m_drawConsonants hV hX2 hB i2 h ⟨by omega, by omega⟩ ⟨by omega, by omega⟩ (by omega) (fun N1 p1 => ?_)
              have hX3 := hX2.fr p1.2
              have q1 := ydcn_1 c TT (k + 1) (yhf σ b (k + 1)) 1 hpk1
              refine zw_istore_5 ⟨rfl, rfl⟩ ?_
              have q1b : N1 126 0 = TT.1 + 1 := by rw [p1.1.1, q1]
              refine zw_aload ⟨rfl, rfl⟩ rfl ?_
              refine zw_const ⟨rfl, rfl⟩ ?_
              refine zw_aload ⟨rfl, rfl⟩ rfl ?_
              refine zw_getR 120 ⟨rfl, rfl⟩ zr_126_7 ?_
              refine zw_getR 122 ⟨rfl, rfl⟩ zr_120_11 ?_
              refine zw_iload ⟨rfl, rfl⟩ rfl ?_
              refine zw_ialdv (v := ynk (yK σ) (yP σ b (k + 1))) ⟨rfl, rfl⟩ za_122 (by omega) ((hX3.2.2.2.2 (k + 1) (by omega) (by omega)).2.1) ?_
              refine zw_const ⟨rfl, rfl⟩ ?_
              refine zw_callv4 ⟨rfl, rfl⟩ rfl zc_126 rfl ?_
              refine m_putLetter hV hX3.1 p1.1 (ynk_b hK (by omega)) (fun hpz => by (try simp only [yplt_1, yshb_1, yem_1]); (repeat' split) <;> omega) (fun N2 p2 => ?_)
              have hX4 := hX3.fr p2.2
              refine zw_pop ⟨rfl, rfl⟩ (by decide) ?_
              refine zw_iload ⟨rfl, rfl⟩ rfl ?_
              refine zw_ifeq ⟨rfl, rfl⟩ rfl (fun c17 => ?_) (fun c17 => ?_)
              · skip
                refine zw_aload ⟨rfl, rfl⟩ rfl ?_
                refine zw_const ⟨rfl, rfl⟩ ?_
                refine zw_aload ⟨rfl, rfl⟩ rfl ?_
                refine zw_getR 120 ⟨rfl, rfl⟩ zr_126_7 ?_
                refine zw_getR 123 ⟨rfl, rfl⟩ zr_120_12 ?_
                refine zw_iload ⟨rfl, rfl⟩ rfl ?_
                refine zw_ialdv (v := yvi (yK σ) (yP σ b (k + 1))) ⟨rfl, rfl⟩ za_123 (by omega) ((hX4.2.2.2.2 (k + 1) (by omega) (by omega)).2.2.1) ?_
                refine zw_const ⟨rfl, rfl⟩ ?_
                refine zw_callv4 ⟨rfl, rfl⟩ rfl zc_126 rfl ?_
                refine m_putLetter hV hX4.1 p2.1 (yvi_b hK (by omega)) (fun hpz => by (try simp only [yplt_1, yshb_1, yem_1]); (repeat' split) <;> omega) (fun N3 p3 => ?_)
                have hX5 := hX4.fr p3.2
                refine zw_pop ⟨rfl, rfl⟩ (by decide) ?_
                refine zw_aload ⟨rfl, rfl⟩ rfl ?_
                refine zw_const ⟨rfl, rfl⟩ ?_
                refine zw_aload ⟨rfl, rfl⟩ rfl ?_
                refine zw_getR 120 ⟨rfl, rfl⟩ zr_126_7 ?_
                refine zw_getR 124 ⟨rfl, rfl⟩ zr_120_13 ?_
                refine zw_iload ⟨rfl, rfl⟩ rfl ?_
                refine zw_ialdv (v := yjo (yK σ) (yP σ b (k + 1))) ⟨rfl, rfl⟩ za_124 (by omega) ((hX5.2.2.2.2 (k + 1) (by omega) (by omega)).2.2.2.1) ?_
                refine zw_const ⟨rfl, rfl⟩ ?_
                refine zw_callv4 ⟨rfl, rfl⟩ rfl zc_126 rfl ?_
                refine m_putLetter hV hX5.1 p3.1 (yjo_b hK (by omega)) (fun hpz => by (try simp only [yplt_1, yshb_1, yem_1]); (repeat' split) <;> omega) (fun N4 p4 => ?_)
                have hX6 := hX5.fr p4.2
                refine zw_pop ⟨rfl, rfl⟩ (by decide) ?_
                refine zw_iinc_1 ⟨rfl, rfl⟩ (by omega) ?_
                refine zw_goto ⟨rfl, rfl⟩ rfl ?_
                refine ih _ _ _ _ _ _ ⟨by omega, by omega⟩ ?_ ((((i3.tr p1.2).tr p2.2).tr p3.2).tr p4.2) (by omega)
                rw [yfo_s _ i1.1, ← hTT]
                unfold yahs
                rw [hla, if_neg (fun z => by rcases z with ⟨z1, z2⟩ | z <;> omega)]
                unfold yah2
                first | rw [if_pos (by assumption)] | rw [if_neg (by assumption)]
                exact p4.1
              · skip
                refine zw_aload ⟨rfl, rfl⟩ rfl ?_
                refine zw_aload ⟨rfl, rfl⟩ rfl ?_
                refine zw_getR 120 ⟨rfl, rfl⟩ zr_126_7 ?_
                refine zw_getR 123 ⟨rfl, rfl⟩ zr_120_12 ?_
                refine zw_iload ⟨rfl, rfl⟩ rfl ?_
                refine zw_ialdv (v := yvi (yK σ) (yP σ b (k + 1))) ⟨rfl, rfl⟩ za_123 (by omega) ((hX4.2.2.2.2 (k + 1) (by omega) (by omega)).2.2.1) ?_
                refine zw_iload ⟨rfl, rfl⟩ rfl ?_
                refine zw_cavv3 ⟨rfl, rfl⟩ rfl zc_126 rfl ?_
                refine m_showBy p2.1 (fun N3 p3 => ?_)
                have hX5 := hX4.fr p3.2
                refine zw_goto ⟨rfl, rfl⟩ rfl ?_
                refine zw_aload ⟨rfl, rfl⟩ rfl ?_
                refine zw_const ⟨rfl, rfl⟩ ?_
                refine zw_aload ⟨rfl, rfl⟩ rfl ?_
                refine zw_getR 120 ⟨rfl, rfl⟩ zr_126_7 ?_
                refine zw_getR 124 ⟨rfl, rfl⟩ zr_120_13 ?_
                refine zw_iload ⟨rfl, rfl⟩ rfl ?_
                refine zw_ialdv (v := yjo (yK σ) (yP σ b (k + 1))) ⟨rfl, rfl⟩ za_124 (by omega) ((hX5.2.2.2.2 (k + 1) (by omega) (by omega)).2.2.2.1) ?_
                refine zw_const ⟨rfl, rfl⟩ ?_
                refine zw_callv4 ⟨rfl, rfl⟩ rfl zc_126 rfl ?_
                refine m_putLetter hV hX5.1 p3.1 (yjo_b hK (by omega)) (fun hpz => by (try simp only [yplt_1, yshb_1, yem_1]); (repeat' split) <;> omega) (fun N4 p4 => ?_)
                have hX6 := hX5.fr p4.2
                refine zw_pop ⟨rfl, rfl⟩ (by decide) ?_
                refine zw_iinc_1 ⟨rfl, rfl⟩ (by omega) ?_
                refine zw_goto ⟨rfl, rfl⟩ rfl ?_
                refine ih _ _ _ _ _ _ ⟨by omega, by omega⟩ ?_ ((((i3.tr p1.2).tr p2.2).tr p3.2).tr p4.2) (by omega)
                rw [yfo_s _ i1.1, ← hTT]
                unfold yahs
                rw [hla, if_neg (fun z => by rcases z with ⟨z1, z2⟩ | z <;> omega)]
                unfold yah2
                first | rw [if_pos (by assumption)] | rw [if_neg (by assumption)]
                exact p4.1
            · skip
              refine zw_goto ⟨rfl, rfl⟩ rfl ?_
              refine zw_iinc_1 ⟨rfl, rfl⟩ (by omega) ?_
              refine zw_goto ⟨rfl, rfl⟩ rfl ?_
              refine ih _ _ _ _ _ _ ⟨by omega, by omega⟩ ?_ i3 (by omega)
              rw [yfo_s _ i1.1, ← hTT]
              unfold yahs
              rw [if_pos (by first | exact Or.inl ⟨by omega, by omega⟩ | (refine Or.inr ?_; unfold yla; first | (rw [if_pos (by omega)]; omega) | (rw [if_neg (by omega)]; omega)))]
              exact i2
        · skip
          refine zw_const ⟨rfl, rfl⟩ ?_
          refine zw_goto ⟨rfl, rfl⟩ rfl ?_
          refine zw_istore_2 ⟨rfl, rfl⟩ ?_
          refine zw_aload ⟨rfl, rfl⟩ rfl ?_
          refine zw_getR 120 ⟨rfl, rfl⟩ zr_126_7 ?_
          refine zw_getR 125 ⟨rfl, rfl⟩ zr_120_14 ?_
          refine zw_iload ⟨rfl, rfl⟩ rfl ?_
          refine zw_baldv (v := yjf σ (yK σ) b k) ⟨rfl, rfl⟩ za_125 (by decide) (by omega) ((hX2.2.2.2.2 k (by omega) (by omega)).2.2.2.2) ?_
          refine zw_ifeq ⟨rfl, rfl⟩ rfl (fun c18 => ?_) (fun c18 => ?_)
          · skip
            refine zw_iload ⟨rfl, rfl⟩ rfl ?_
            refine zw_istore_3 ⟨rfl, rfl⟩ ?_
            refine zw_iload ⟨rfl, rfl⟩ rfl ?_
            refine zw_ifne ⟨rfl, rfl⟩ rfl (fun _ => ?_) (fun q => absurd (by decide) q)
            refine zw_iinc_1 ⟨rfl, rfl⟩ (by omega) ?_
            refine zw_goto ⟨rfl, rfl⟩ rfl ?_
            refine ih _ _ _ _ _ _ ⟨by omega, by omega⟩ ?_ i3 (by omega)
            rw [yfo_s _ i1.1, ← hTT]
            unfold yahs
            rw [if_pos (by first | exact Or.inl ⟨by omega, by omega⟩ | (refine Or.inr ?_; unfold yla; first | (rw [if_pos (by omega)]; omega) | (rw [if_neg (by omega)]; omega)))]
            exact i2
          · skip
            refine zw_iload ⟨rfl, rfl⟩ rfl ?_
            refine zw_const ⟨rfl, rfl⟩ ?_
            refine zw_iadd ⟨rfl, rfl⟩ (by omega) ?_
            refine zw_goto ⟨rfl, rfl⟩ rfl ?_
            refine zw_istore_3 ⟨rfl, rfl⟩ ?_
            refine zw_iload ⟨rfl, rfl⟩ rfl ?_
            refine zw_ifne ⟨rfl, rfl⟩ rfl (fun _ => ?_) (fun q => absurd (by decide) q)
            refine zw_iinc_1 ⟨rfl, rfl⟩ (by omega) ?_
            refine zw_goto ⟨rfl, rfl⟩ rfl ?_
            refine ih _ _ _ _ _ _ ⟨by omega, by omega⟩ ?_ i3 (by omega)
            rw [yfo_s _ i1.1, ← hTT]
            unfold yahs
            rw [if_pos (by first | exact Or.inl ⟨by omega, by omega⟩ | (refine Or.inr ?_; unfold yla; first | (rw [if_pos (by omega)]; omega) | (rw [if_neg (by omega)]; omega)))]
            exact i2
end

theorem m_drawAhead {b : Int} {M : zM} {Q : zV → zM → Prop} {σ : yS} {c : Int} {T : yT} (hV : yVal σ) (hX : yCx M σ b) (hB : (0 ≤ b ∧ b < σ 0) ∧ ybg (yK σ) b) (hD : yDr M c T) (hg : yK σ b = 1 → T.1 + 2 * (yP σ b (yba σ (yK σ) b) - yP σ b (yrp σ (yK σ) b)) ≤ 180) (kk : ∀ N : zM, (yDr N c (yahd σ c b T) ∧ ydf M N) → Q (3, 0) N) : zWp kDr_drawAhead 0 [(1, 126), (3, 0), (3, 0), (3, 0), (3, 0), (3, 0)] [] M Q := by
  have hK := yKr_K hV
  have hov := (yov_sp hK hB.1.1 hB.1.2 hB.2).2.1
  have hn := hV.1
  have hr := yrp_r σ (yK σ) b
  refine zw_aload ⟨rfl, rfl⟩ rfl ?_
  refine zw_getR 120 ⟨rfl, rfl⟩ zr_126_7 ?_
  refine zw_getIv (v := yrp σ (yK σ) b) ⟨rfl, rfl⟩ zc_120 (by decide) (hX.2.2.2.1.2.2.1) ?_
  refine zw_istore_1 ⟨rfl, rfl⟩ ?_
  have hz : yrp σ (yK σ) b ≤ yba σ (yK σ) b := by
    by_cases h : yK σ b = 1
    · exact (yba_r (σ := σ) hK hB.1.1 hB.1.2 h).1
    · have := yA0 (σ := σ) h; omega
  exact m_drawAhead_l hV hX hB hD hg kk _ _ _ _ _ _ _ ⟨Int.le_refl _, hz⟩ (by rw [yfo_0 _ (Int.le_refl _)]; exact hD) ydf.rf (Nat.lt_succ_self _)

theorem yow_b {K : Int → Int} {n b : Int} (hK : yKr K n) (h0 : 0 ≤ b) (h1 : b < n) : yow K b = -1 ∨ (0 ≤ yow K b ∧ yow K b < 60) := by
  have hn := hK.1
  unfold yow
  split
  · rename_i q
    have := (ykp hK (p := b + 1) (by rw [q.2]; decide))
    omega
  · split <;> omega

section
set_option maxHeartbeats 8000000
theorem m_drawMiddle {b : Int} {M : zM} {Q : zV → zM → Prop} {σ : yS} {c : Int} {T : yT} (hV : yVal σ) (hX : yCx M σ b) (hB : (0 ≤ b ∧ b < σ 0) ∧ ybg (yK σ) b) (hD : yDr M c T) (hg : yK σ b = 1 → T.1 + 2 ≤ 180) (hg2 : yK σ b ≠ 1 → T.1 + 1 + (if yow (yK σ) b = -1 then 0 else 1) ≤ 180) (kk : ∀ N : zM, (yDr N c (ymid σ c b T) ∧ ydf M N) → Q (3, 0) N) : zWp kDr_drawMiddle 0 [(1, 126), (3, 0)] [] M Q := by
  have hK := yKr_K hV
  have hov := (yov_sp hK hB.1.1 hB.1.2 hB.2).2.1
  have hn := hV.1
  have hr := yrp_r σ (yK σ) b
  have hkr := hK.2.1 b hB.1.1 hB.1.2
  have hso := yso_k hkr.1 hkr.2
  have hyow := yow_b hK hB.1.1 hB.1.2
  refine zw_aload ⟨rfl, rfl⟩ rfl ?_
  refine zw_getR 120 ⟨rfl, rfl⟩ zr_126_7 ?_
  refine zw_getIv (v := yso (yK σ b)) ⟨rfl, rfl⟩ zc_120 (by decide) (hX.2.2.1.1) ?_
  refine zw_ifne ⟨rfl, rfl⟩ rfl (fun c1 => ?_) (fun c1 => ?_)
  · skip
    have h1 : ¬ yK σ b = 1 := by omega
    replace hg2 := hg2 h1
    clear hg
    refine zw_aload ⟨rfl, rfl⟩ rfl ?_
    refine zw_getR 120 ⟨rfl, rfl⟩ zr_126_7 ?_
    refine zw_getIv (v := yso (yK σ b)) ⟨rfl, rfl⟩ zc_120 (by decide) (hX.2.2.1.1) ?_
    refine zw_const ⟨rfl, rfl⟩ ?_
    refine zw_icne ⟨rfl, rfl⟩ rfl (fun c2 => ?_) (fun c2 => ?_)
    · skip
      refine zw_aload ⟨rfl, rfl⟩ rfl ?_
      refine zw_getR 120 ⟨rfl, rfl⟩ zr_126_7 ?_
      refine zw_getIv (v := yso (yK σ b)) ⟨rfl, rfl⟩ zc_120 (by decide) (hX.2.2.1.1) ?_
      refine zw_const ⟨rfl, rfl⟩ ?_
      refine zw_icne ⟨rfl, rfl⟩ rfl (fun c3 => ?_) (fun c3 => ?_)
      · skip
        refine zw_aload ⟨rfl, rfl⟩ rfl ?_
        refine zw_aload ⟨rfl, rfl⟩ rfl ?_
        refine zw_getR 105 ⟨rfl, rfl⟩ zr_126_6 ?_
        refine zw_aload ⟨rfl, rfl⟩ rfl ?_
        refine zw_getR 120 ⟨rfl, rfl⟩ zr_126_7 ?_
        refine zw_getIv (v := b) ⟨rfl, rfl⟩ zc_120 (by decide) (hX.2.2.1.2.1) ?_
        refine zw_callv2 ⟨rfl, rfl⟩ rfl zc_105 rfl ?_
        refine m_kindAt hK hX.2.1 ?_
        refine zw_calls1 ⟨rfl, rfl⟩ rfl rfl ?_
        refine zw_iload ⟨rfl, rfl⟩ rfl ?_
        refine zw_const ⟨rfl, rfl⟩ ?_
        refine zw_iceq ⟨rfl, rfl⟩ rfl (fun c4 => ?_) (fun c4 => ?_)
        · skip
          refine zw_const ⟨rfl, rfl⟩ ?_
          refine zw_goto ⟨rfl, rfl⟩ rfl ?_
          refine zw_zret rfl (by first | exact Or.inl rfl | exact Or.inr rfl | omega) ?_
          refine zw_ifeq ⟨rfl, rfl⟩ rfl (fun q => absurd q (by decide)) (fun _ => ?_)
          refine zw_const ⟨rfl, rfl⟩ ?_
          refine zw_goto ⟨rfl, rfl⟩ rfl ?_
          refine zw_aload ⟨rfl, rfl⟩ rfl ?_
          refine zw_getR 120 ⟨rfl, rfl⟩ zr_126_7 ?_
          refine zw_getIv (v := b) ⟨rfl, rfl⟩ zc_120 (by decide) (hX.2.2.1.2.1) ?_
          refine zw_const ⟨rfl, rfl⟩ ?_
          refine zw_callv4 ⟨rfl, rfl⟩ rfl zc_126 rfl ?_
          refine m_putLetter hV hX.1 hD (Or.inr ⟨by omega, by omega⟩) (fun hpz => by (try simp only [yplt_1, yshb_1, yem_1]); (repeat' split) <;> omega) (fun N1 p1 => ?_)
          have hX1 := hX.fr p1.2
          refine zw_pop ⟨rfl, rfl⟩ (by decide) ?_
          refine zw_aload ⟨rfl, rfl⟩ rfl ?_
          refine zw_const ⟨rfl, rfl⟩ ?_
          refine zw_aload ⟨rfl, rfl⟩ rfl ?_
          refine zw_getR 120 ⟨rfl, rfl⟩ zr_126_7 ?_
          refine zw_getIv (v := yow (yK σ) b) ⟨rfl, rfl⟩ zc_120 (by decide) (hX1.2.2.1.2.2.2.2.2) ?_
          refine zw_const ⟨rfl, rfl⟩ ?_
          refine zw_callv4 ⟨rfl, rfl⟩ rfl zc_126 rfl ?_
          refine m_putLetter hV hX1.1 p1.1 hyow (fun hpz => by (try simp only [yplt_1, yshb_1, yem_1]); (repeat' split) <;> omega) (fun N2 p2 => ?_)
          have hX2 := hX1.fr p2.2
          refine zw_pop ⟨rfl, rfl⟩ (by decide) ?_
          refine zw_void rfl ?_
          refine kk _ ⟨?_, p1.2.tr p2.2⟩
          unfold ymid
          first
            | (rw [if_pos (by assumption), hmd]; exact p2.1)
            | (rw [if_neg (by assumption)]
               first
                 | (rw [if_pos (show yso (yK σ b) = 2 by omega)]; exact p2.1)
                 | (rw [if_neg (show ¬ yso (yK σ b) = 2 by omega), if_pos (show yso (yK σ b) = 1 by omega)]; exact p2.1)
                 | (rw [if_neg (show ¬ yso (yK σ b) = 2 by omega), if_neg (show ¬ yso (yK σ b) = 1 by omega), if_pos (show yK σ b = 12 ∨ yK σ b = 13 by omega)]; exact p2.1)
                 | (rw [if_neg (show ¬ yso (yK σ b) = 2 by omega), if_neg (show ¬ yso (yK σ b) = 1 by omega), if_neg (show ¬ (yK σ b = 12 ∨ yK σ b = 13) by omega)]; exact p2.1))
        · skip
          refine zw_iload ⟨rfl, rfl⟩ rfl ?_
          refine zw_const ⟨rfl, rfl⟩ ?_
          refine zw_icne ⟨rfl, rfl⟩ rfl (fun c6 => ?_) (fun c6 => ?_)
          · skip
            refine zw_const ⟨rfl, rfl⟩ ?_
            refine zw_zret rfl (by first | exact Or.inl rfl | exact Or.inr rfl | omega) ?_
            refine zw_ifeq ⟨rfl, rfl⟩ rfl (fun _ => ?_) (fun q => absurd (by decide) q)
            refine zw_const ⟨rfl, rfl⟩ ?_
            refine zw_aload ⟨rfl, rfl⟩ rfl ?_
            refine zw_getR 120 ⟨rfl, rfl⟩ zr_126_7 ?_
            refine zw_getIv (v := b) ⟨rfl, rfl⟩ zc_120 (by decide) (hX.2.2.1.2.1) ?_
            refine zw_const ⟨rfl, rfl⟩ ?_
            refine zw_callv4 ⟨rfl, rfl⟩ rfl zc_126 rfl ?_
            refine m_putLetter hV hX.1 hD (Or.inr ⟨by omega, by omega⟩) (fun hpz => by (try simp only [yplt_1, yshb_1, yem_1]); (repeat' split) <;> omega) (fun N1 p1 => ?_)
            have hX1 := hX.fr p1.2
            refine zw_pop ⟨rfl, rfl⟩ (by decide) ?_
            refine zw_aload ⟨rfl, rfl⟩ rfl ?_
            refine zw_const ⟨rfl, rfl⟩ ?_
            refine zw_aload ⟨rfl, rfl⟩ rfl ?_
            refine zw_getR 120 ⟨rfl, rfl⟩ zr_126_7 ?_
            refine zw_getIv (v := yow (yK σ) b) ⟨rfl, rfl⟩ zc_120 (by decide) (hX1.2.2.1.2.2.2.2.2) ?_
            refine zw_const ⟨rfl, rfl⟩ ?_
            refine zw_callv4 ⟨rfl, rfl⟩ rfl zc_126 rfl ?_
            refine m_putLetter hV hX1.1 p1.1 hyow (fun hpz => by (try simp only [yplt_1, yshb_1, yem_1]); (repeat' split) <;> omega) (fun N2 p2 => ?_)
            have hX2 := hX1.fr p2.2
            refine zw_pop ⟨rfl, rfl⟩ (by decide) ?_
            refine zw_void rfl ?_
            refine kk _ ⟨?_, p1.2.tr p2.2⟩
            unfold ymid
            first
              | (rw [if_pos (by assumption), hmd]; exact p2.1)
              | (rw [if_neg (by assumption)]
                 first
                   | (rw [if_pos (show yso (yK σ b) = 2 by omega)]; exact p2.1)
                   | (rw [if_neg (show ¬ yso (yK σ b) = 2 by omega), if_pos (show yso (yK σ b) = 1 by omega)]; exact p2.1)
                   | (rw [if_neg (show ¬ yso (yK σ b) = 2 by omega), if_neg (show ¬ yso (yK σ b) = 1 by omega), if_pos (show yK σ b = 12 ∨ yK σ b = 13 by omega)]; exact p2.1)
                   | (rw [if_neg (show ¬ yso (yK σ b) = 2 by omega), if_neg (show ¬ yso (yK σ b) = 1 by omega), if_neg (show ¬ (yK σ b = 12 ∨ yK σ b = 13) by omega)]; exact p2.1))
          · skip
            refine zw_const ⟨rfl, rfl⟩ ?_
            refine zw_goto ⟨rfl, rfl⟩ rfl ?_
            refine zw_zret rfl (by first | exact Or.inl rfl | exact Or.inr rfl | omega) ?_
            refine zw_ifeq ⟨rfl, rfl⟩ rfl (fun q => absurd q (by decide)) (fun _ => ?_)
            refine zw_const ⟨rfl, rfl⟩ ?_
            refine zw_goto ⟨rfl, rfl⟩ rfl ?_
            refine zw_aload ⟨rfl, rfl⟩ rfl ?_
            refine zw_getR 120 ⟨rfl, rfl⟩ zr_126_7 ?_
            refine zw_getIv (v := b) ⟨rfl, rfl⟩ zc_120 (by decide) (hX.2.2.1.2.1) ?_
            refine zw_const ⟨rfl, rfl⟩ ?_
            refine zw_callv4 ⟨rfl, rfl⟩ rfl zc_126 rfl ?_
            refine m_putLetter hV hX.1 hD (Or.inr ⟨by omega, by omega⟩) (fun hpz => by (try simp only [yplt_1, yshb_1, yem_1]); (repeat' split) <;> omega) (fun N1 p1 => ?_)
            have hX1 := hX.fr p1.2
            refine zw_pop ⟨rfl, rfl⟩ (by decide) ?_
            refine zw_aload ⟨rfl, rfl⟩ rfl ?_
            refine zw_const ⟨rfl, rfl⟩ ?_
            refine zw_aload ⟨rfl, rfl⟩ rfl ?_
            refine zw_getR 120 ⟨rfl, rfl⟩ zr_126_7 ?_
            refine zw_getIv (v := yow (yK σ) b) ⟨rfl, rfl⟩ zc_120 (by decide) (hX1.2.2.1.2.2.2.2.2) ?_
            refine zw_const ⟨rfl, rfl⟩ ?_
            refine zw_callv4 ⟨rfl, rfl⟩ rfl zc_126 rfl ?_
            refine m_putLetter hV hX1.1 p1.1 hyow (fun hpz => by (try simp only [yplt_1, yshb_1, yem_1]); (repeat' split) <;> omega) (fun N2 p2 => ?_)
            have hX2 := hX1.fr p2.2
            refine zw_pop ⟨rfl, rfl⟩ (by decide) ?_
            refine zw_void rfl ?_
            refine kk _ ⟨?_, p1.2.tr p2.2⟩
            unfold ymid
            first
              | (rw [if_pos (by assumption), hmd]; exact p2.1)
              | (rw [if_neg (by assumption)]
                 first
                   | (rw [if_pos (show yso (yK σ b) = 2 by omega)]; exact p2.1)
                   | (rw [if_neg (show ¬ yso (yK σ b) = 2 by omega), if_pos (show yso (yK σ b) = 1 by omega)]; exact p2.1)
                   | (rw [if_neg (show ¬ yso (yK σ b) = 2 by omega), if_neg (show ¬ yso (yK σ b) = 1 by omega), if_pos (show yK σ b = 12 ∨ yK σ b = 13 by omega)]; exact p2.1)
                   | (rw [if_neg (show ¬ yso (yK σ b) = 2 by omega), if_neg (show ¬ yso (yK σ b) = 1 by omega), if_neg (show ¬ (yK σ b = 12 ∨ yK σ b = 13) by omega)]; exact p2.1))
      · skip
        refine zw_aload ⟨rfl, rfl⟩ rfl ?_
        refine zw_const ⟨rfl, rfl⟩ ?_
        refine zw_aload ⟨rfl, rfl⟩ rfl ?_
        refine zw_getR 120 ⟨rfl, rfl⟩ zr_126_7 ?_
        refine zw_getIv (v := b) ⟨rfl, rfl⟩ zc_120 (by decide) (hX.2.2.1.2.1) ?_
        refine zw_const ⟨rfl, rfl⟩ ?_
        refine zw_callv4 ⟨rfl, rfl⟩ rfl zc_126 rfl ?_
        refine m_putLetter hV hX.1 hD (Or.inr ⟨by omega, by omega⟩) (fun hpz => by (try simp only [yplt_1, yshb_1, yem_1]); (repeat' split) <;> omega) (fun N1 p1 => ?_)
        have hX1 := hX.fr p1.2
        refine zw_pop ⟨rfl, rfl⟩ (by decide) ?_
        refine zw_goto ⟨rfl, rfl⟩ rfl ?_
        refine zw_aload ⟨rfl, rfl⟩ rfl ?_
        refine zw_const ⟨rfl, rfl⟩ ?_
        refine zw_aload ⟨rfl, rfl⟩ rfl ?_
        refine zw_getR 120 ⟨rfl, rfl⟩ zr_126_7 ?_
        refine zw_getIv (v := yow (yK σ) b) ⟨rfl, rfl⟩ zc_120 (by decide) (hX1.2.2.1.2.2.2.2.2) ?_
        refine zw_const ⟨rfl, rfl⟩ ?_
        refine zw_callv4 ⟨rfl, rfl⟩ rfl zc_126 rfl ?_
        refine m_putLetter hV hX1.1 p1.1 hyow (fun hpz => by (try simp only [yplt_1, yshb_1, yem_1]); (repeat' split) <;> omega) (fun N2 p2 => ?_)
        have hX2 := hX1.fr p2.2
        refine zw_pop ⟨rfl, rfl⟩ (by decide) ?_
        refine zw_void rfl ?_
        refine kk _ ⟨?_, p1.2.tr p2.2⟩
        unfold ymid
        first
          | (rw [if_pos (by assumption), hmd]; exact p2.1)
          | (rw [if_neg (by assumption)]
             first
               | (rw [if_pos (show yso (yK σ b) = 2 by omega)]; exact p2.1)
               | (rw [if_neg (show ¬ yso (yK σ b) = 2 by omega), if_pos (show yso (yK σ b) = 1 by omega)]; exact p2.1)
               | (rw [if_neg (show ¬ yso (yK σ b) = 2 by omega), if_neg (show ¬ yso (yK σ b) = 1 by omega), if_pos (show yK σ b = 12 ∨ yK σ b = 13 by omega)]; exact p2.1)
               | (rw [if_neg (show ¬ yso (yK σ b) = 2 by omega), if_neg (show ¬ yso (yK σ b) = 1 by omega), if_neg (show ¬ (yK σ b = 12 ∨ yK σ b = 13) by omega)]; exact p2.1))
    · skip
      refine zw_aload ⟨rfl, rfl⟩ rfl ?_
      refine zw_const ⟨rfl, rfl⟩ ?_
      refine zw_const ⟨rfl, rfl⟩ ?_
      refine zw_const ⟨rfl, rfl⟩ ?_
      refine zw_const ⟨rfl, rfl⟩ ?_
      refine zw_const ⟨rfl, rfl⟩ ?_
      refine zw_callv6 ⟨rfl, rfl⟩ rfl zc_126 rfl ?_
      refine m_put hD (by omega) (fun N1 p1 => ?_)
      have hX1 := hX.fr p1.2
      refine zw_pop ⟨rfl, rfl⟩ (by decide) ?_
      refine zw_goto ⟨rfl, rfl⟩ rfl ?_
      refine zw_aload ⟨rfl, rfl⟩ rfl ?_
      refine zw_const ⟨rfl, rfl⟩ ?_
      refine zw_aload ⟨rfl, rfl⟩ rfl ?_
      refine zw_getR 120 ⟨rfl, rfl⟩ zr_126_7 ?_
      refine zw_getIv (v := yow (yK σ) b) ⟨rfl, rfl⟩ zc_120 (by decide) (hX1.2.2.1.2.2.2.2.2) ?_
      refine zw_const ⟨rfl, rfl⟩ ?_
      refine zw_callv4 ⟨rfl, rfl⟩ rfl zc_126 rfl ?_
      refine m_putLetter hV hX1.1 p1.1 hyow (fun hpz => by (try simp only [yplt_1, yshb_1, yem_1]); (repeat' split) <;> omega) (fun N2 p2 => ?_)
      have hX2 := hX1.fr p2.2
      refine zw_pop ⟨rfl, rfl⟩ (by decide) ?_
      refine zw_void rfl ?_
      refine kk _ ⟨?_, p1.2.tr p2.2⟩
      unfold ymid
      first
        | (rw [if_pos (by assumption), hmd]; exact p2.1)
        | (rw [if_neg (by assumption)]
           first
             | (rw [if_pos (show yso (yK σ b) = 2 by omega)]; exact p2.1)
             | (rw [if_neg (show ¬ yso (yK σ b) = 2 by omega), if_pos (show yso (yK σ b) = 1 by omega)]; exact p2.1)
             | (rw [if_neg (show ¬ yso (yK σ b) = 2 by omega), if_neg (show ¬ yso (yK σ b) = 1 by omega), if_pos (show yK σ b = 12 ∨ yK σ b = 13 by omega)]; exact p2.1)
             | (rw [if_neg (show ¬ yso (yK σ b) = 2 by omega), if_neg (show ¬ yso (yK σ b) = 1 by omega), if_neg (show ¬ (yK σ b = 12 ∨ yK σ b = 13) by omega)]; exact p2.1))
  · skip
    have h : yK σ b = 1 := by omega
    replace hg := hg h
    have hm := ym_r hK hB.1.1 hB.1.2 h
    have em : yms (yK σ) b = ym (yK σ) b := if_pos h
    have hz := yba_r (σ := σ) hK hB.1.1 hB.1.2 h
    have hjz : 0 < yba σ (yK σ) b → (yjf σ (yK σ) b (yba σ (yK σ) b - 1) = 0 ∨ yjf σ (yK σ) b (yba σ (yK σ) b - 1) = 1) := fun q => (yjf_r σ (yK σ) b (show 0 ≤ yba σ (yK σ) b - 1 by omega)).1
    refine zw_aload ⟨rfl, rfl⟩ rfl ?_
    refine zw_getR 120 ⟨rfl, rfl⟩ zr_126_7 ?_
    refine zw_getIv (v := yba σ (yK σ) b) ⟨rfl, rfl⟩ zc_120 (by decide) (hX.2.2.2.1.2.1) ?_
    refine zw_aload ⟨rfl, rfl⟩ rfl ?_
    refine zw_getR 120 ⟨rfl, rfl⟩ zr_126_7 ?_
    refine zw_getIv (v := yrp σ (yK σ) b) ⟨rfl, rfl⟩ zc_120 (by decide) (hX.2.2.2.1.2.2.1) ?_
    refine zw_icle ⟨rfl, rfl⟩ rfl (fun c9 => ?_) (fun c9 => ?_)
    · skip
      refine zw_const ⟨rfl, rfl⟩ ?_
      refine zw_istore_1 ⟨rfl, rfl⟩ ?_
      refine zw_aload ⟨rfl, rfl⟩ rfl ?_
      refine zw_iload ⟨rfl, rfl⟩ rfl ?_
      refine zw_ifeq ⟨rfl, rfl⟩ rfl (fun _ => ?_) (fun q => absurd (by decide) q)
      refine zw_aload ⟨rfl, rfl⟩ rfl ?_
      refine zw_getR 120 ⟨rfl, rfl⟩ zr_126_7 ?_
      refine zw_getIv (v := yba σ (yK σ) b) ⟨rfl, rfl⟩ zc_120 (by decide) (hX.2.2.2.1.2.1) ?_
      refine zw_aload ⟨rfl, rfl⟩ rfl ?_
      refine zw_getR 120 ⟨rfl, rfl⟩ zr_126_7 ?_
      refine zw_getIv (v := yba σ (yK σ) b) ⟨rfl, rfl⟩ zc_120 (by decide) (hX.2.2.2.1.2.1) ?_
      refine zw_const ⟨rfl, rfl⟩ ?_
      refine zw_const ⟨rfl, rfl⟩ ?_
      refine zw_callv5 ⟨rfl, rfl⟩ rfl zc_126 rfl ?_
      have hmd : ymdb σ b = yba σ (yK σ) b := by unfold ymdb; first | exact if_pos ⟨by omega, by omega⟩ | exact if_neg (by omega)
      refine m_drawConsonants hV hX hB hD h ⟨by omega, by omega⟩ ⟨by omega, by omega⟩ (by omega) (fun N1 p1 => ?_)
      have hX1 := hX.fr p1.2
      have hpk := (ypl_r hK hB.1.1 hB.1.2 h (show 0 ≤ yba σ (yK σ) b by omega) (by omega)).1
      have q1 := ydcn_1 c T (yba σ (yK σ) b) 0 2 (show yP σ b (yba σ (yK σ) b) ≠ -1 by unfold yP; omega)
      refine zw_pop ⟨rfl, rfl⟩ (by decide) ?_
      refine zw_aload ⟨rfl, rfl⟩ rfl ?_
      refine zw_const ⟨rfl, rfl⟩ ?_
      refine zw_aload ⟨rfl, rfl⟩ rfl ?_
      refine zw_getR 120 ⟨rfl, rfl⟩ zr_126_7 ?_
      refine zw_getR 122 ⟨rfl, rfl⟩ zr_120_11 ?_
      refine zw_aload ⟨rfl, rfl⟩ rfl ?_
      refine zw_getR 120 ⟨rfl, rfl⟩ zr_126_7 ?_
      refine zw_getIv (v := yba σ (yK σ) b) ⟨rfl, rfl⟩ zc_120 (by decide) (hX1.2.2.2.1.2.1) ?_
      refine zw_ialdv (v := ynk (yK σ) (yP σ b (yba σ (yK σ) b))) ⟨rfl, rfl⟩ za_122 (by omega) ((hX1.2.2.2.2 (yba σ (yK σ) b) (by omega) (by omega)).2.1) ?_
      refine zw_const ⟨rfl, rfl⟩ ?_
      refine zw_callv4 ⟨rfl, rfl⟩ rfl zc_126 rfl ?_
      refine m_putLetter hV hX1.1 p1.1 (ynk_b hK (by have := (ypl_r hK hB.1.1 hB.1.2 h (show 0 ≤ yba σ (yK σ) b by omega) (by omega)).1; unfold yP; omega)) (fun hpz => by (try simp only [yplt_1, yshb_1, yem_1]); (repeat' split) <;> omega) (fun N2 p2 => ?_)
      have hX2 := hX1.fr p2.2
      refine zw_pop ⟨rfl, rfl⟩ (by decide) ?_
      refine zw_void rfl ?_
      refine kk _ ⟨?_, p1.2.tr p2.2⟩
      unfold ymid
      first
        | (rw [if_pos (by assumption), hmd]; exact p2.1)
        | (rw [if_neg (by assumption)]
           first
             | (rw [if_pos (show yso (yK σ b) = 2 by omega)]; exact p2.1)
             | (rw [if_neg (show ¬ yso (yK σ b) = 2 by omega), if_pos (show yso (yK σ b) = 1 by omega)]; exact p2.1)
             | (rw [if_neg (show ¬ yso (yK σ b) = 2 by omega), if_neg (show ¬ yso (yK σ b) = 1 by omega), if_pos (show yK σ b = 12 ∨ yK σ b = 13 by omega)]; exact p2.1)
             | (rw [if_neg (show ¬ yso (yK σ b) = 2 by omega), if_neg (show ¬ yso (yK σ b) = 1 by omega), if_neg (show ¬ (yK σ b = 12 ∨ yK σ b = 13) by omega)]; exact p2.1))
    · skip
      refine zw_aload ⟨rfl, rfl⟩ rfl ?_
      refine zw_getR 120 ⟨rfl, rfl⟩ zr_126_7 ?_
      refine zw_getR 125 ⟨rfl, rfl⟩ zr_120_14 ?_
      refine zw_aload ⟨rfl, rfl⟩ rfl ?_
      refine zw_getR 120 ⟨rfl, rfl⟩ zr_126_7 ?_
      refine zw_getIv (v := yba σ (yK σ) b) ⟨rfl, rfl⟩ zc_120 (by decide) (hX.2.2.2.1.2.1) ?_
      refine zw_const ⟨rfl, rfl⟩ ?_
      refine zw_isub ⟨rfl, rfl⟩ (by omega) ?_
      refine zw_baldv (v := yjf σ (yK σ) b ((yba σ (yK σ) b) - 1)) ⟨rfl, rfl⟩ za_125 (by decide) (by omega) ((hX.2.2.2.2 ((yba σ (yK σ) b) - 1) (by omega) (by omega)).2.2.2.2) ?_
      refine zw_ifeq ⟨rfl, rfl⟩ rfl (fun c11 => ?_) (fun c11 => ?_)
      · skip
        refine zw_const ⟨rfl, rfl⟩ ?_
        refine zw_istore_1 ⟨rfl, rfl⟩ ?_
        refine zw_aload ⟨rfl, rfl⟩ rfl ?_
        refine zw_iload ⟨rfl, rfl⟩ rfl ?_
        refine zw_ifeq ⟨rfl, rfl⟩ rfl (fun _ => ?_) (fun q => absurd (by decide) q)
        refine zw_aload ⟨rfl, rfl⟩ rfl ?_
        refine zw_getR 120 ⟨rfl, rfl⟩ zr_126_7 ?_
        refine zw_getIv (v := yba σ (yK σ) b) ⟨rfl, rfl⟩ zc_120 (by decide) (hX.2.2.2.1.2.1) ?_
        refine zw_aload ⟨rfl, rfl⟩ rfl ?_
        refine zw_getR 120 ⟨rfl, rfl⟩ zr_126_7 ?_
        refine zw_getIv (v := yba σ (yK σ) b) ⟨rfl, rfl⟩ zc_120 (by decide) (hX.2.2.2.1.2.1) ?_
        refine zw_const ⟨rfl, rfl⟩ ?_
        refine zw_const ⟨rfl, rfl⟩ ?_
        refine zw_callv5 ⟨rfl, rfl⟩ rfl zc_126 rfl ?_
        have hmd : ymdb σ b = yba σ (yK σ) b := by unfold ymdb; first | exact if_pos ⟨by omega, by omega⟩ | exact if_neg (by omega)
        refine m_drawConsonants hV hX hB hD h ⟨by omega, by omega⟩ ⟨by omega, by omega⟩ (by omega) (fun N1 p1 => ?_)
        have hX1 := hX.fr p1.2
        have hpk := (ypl_r hK hB.1.1 hB.1.2 h (show 0 ≤ yba σ (yK σ) b by omega) (by omega)).1
        have q1 := ydcn_1 c T (yba σ (yK σ) b) 0 2 (show yP σ b (yba σ (yK σ) b) ≠ -1 by unfold yP; omega)
        refine zw_pop ⟨rfl, rfl⟩ (by decide) ?_
        refine zw_aload ⟨rfl, rfl⟩ rfl ?_
        refine zw_const ⟨rfl, rfl⟩ ?_
        refine zw_aload ⟨rfl, rfl⟩ rfl ?_
        refine zw_getR 120 ⟨rfl, rfl⟩ zr_126_7 ?_
        refine zw_getR 122 ⟨rfl, rfl⟩ zr_120_11 ?_
        refine zw_aload ⟨rfl, rfl⟩ rfl ?_
        refine zw_getR 120 ⟨rfl, rfl⟩ zr_126_7 ?_
        refine zw_getIv (v := yba σ (yK σ) b) ⟨rfl, rfl⟩ zc_120 (by decide) (hX1.2.2.2.1.2.1) ?_
        refine zw_ialdv (v := ynk (yK σ) (yP σ b (yba σ (yK σ) b))) ⟨rfl, rfl⟩ za_122 (by omega) ((hX1.2.2.2.2 (yba σ (yK σ) b) (by omega) (by omega)).2.1) ?_
        refine zw_const ⟨rfl, rfl⟩ ?_
        refine zw_callv4 ⟨rfl, rfl⟩ rfl zc_126 rfl ?_
        refine m_putLetter hV hX1.1 p1.1 (ynk_b hK (by have := (ypl_r hK hB.1.1 hB.1.2 h (show 0 ≤ yba σ (yK σ) b by omega) (by omega)).1; unfold yP; omega)) (fun hpz => by (try simp only [yplt_1, yshb_1, yem_1]); (repeat' split) <;> omega) (fun N2 p2 => ?_)
        have hX2 := hX1.fr p2.2
        refine zw_pop ⟨rfl, rfl⟩ (by decide) ?_
        refine zw_void rfl ?_
        refine kk _ ⟨?_, p1.2.tr p2.2⟩
        unfold ymid
        first
          | (rw [if_pos (by assumption), hmd]; exact p2.1)
          | (rw [if_neg (by assumption)]
             first
               | (rw [if_pos (show yso (yK σ b) = 2 by omega)]; exact p2.1)
               | (rw [if_neg (show ¬ yso (yK σ b) = 2 by omega), if_pos (show yso (yK σ b) = 1 by omega)]; exact p2.1)
               | (rw [if_neg (show ¬ yso (yK σ b) = 2 by omega), if_neg (show ¬ yso (yK σ b) = 1 by omega), if_pos (show yK σ b = 12 ∨ yK σ b = 13 by omega)]; exact p2.1)
               | (rw [if_neg (show ¬ yso (yK σ b) = 2 by omega), if_neg (show ¬ yso (yK σ b) = 1 by omega), if_neg (show ¬ (yK σ b = 12 ∨ yK σ b = 13) by omega)]; exact p2.1))
      · skip
        refine zw_const ⟨rfl, rfl⟩ ?_
        refine zw_goto ⟨rfl, rfl⟩ rfl ?_
        refine zw_istore_1 ⟨rfl, rfl⟩ ?_
        refine zw_aload ⟨rfl, rfl⟩ rfl ?_
        refine zw_iload ⟨rfl, rfl⟩ rfl ?_
        refine zw_ifeq ⟨rfl, rfl⟩ rfl (fun q => absurd q (by decide)) (fun _ => ?_)
        refine zw_aload ⟨rfl, rfl⟩ rfl ?_
        refine zw_getR 120 ⟨rfl, rfl⟩ zr_126_7 ?_
        refine zw_getIv (v := yba σ (yK σ) b) ⟨rfl, rfl⟩ zc_120 (by decide) (hX.2.2.2.1.2.1) ?_
        refine zw_const ⟨rfl, rfl⟩ ?_
        refine zw_isub ⟨rfl, rfl⟩ (by omega) ?_
        refine zw_goto ⟨rfl, rfl⟩ rfl ?_
        refine zw_aload ⟨rfl, rfl⟩ rfl ?_
        refine zw_getR 120 ⟨rfl, rfl⟩ zr_126_7 ?_
        refine zw_getIv (v := yba σ (yK σ) b) ⟨rfl, rfl⟩ zc_120 (by decide) (hX.2.2.2.1.2.1) ?_
        refine zw_const ⟨rfl, rfl⟩ ?_
        refine zw_const ⟨rfl, rfl⟩ ?_
        refine zw_callv5 ⟨rfl, rfl⟩ rfl zc_126 rfl ?_
        have hmd : ymdb σ b = (yba σ (yK σ) b) - 1 := by unfold ymdb; first | exact if_pos ⟨by omega, by omega⟩ | exact if_neg (by omega)
        refine m_drawConsonants hV hX hB hD h ⟨by omega, by omega⟩ ⟨by omega, by omega⟩ (by omega) (fun N1 p1 => ?_)
        have hX1 := hX.fr p1.2
        have hpk := (ypl_r hK hB.1.1 hB.1.2 h (show 0 ≤ (yba σ (yK σ) b) - 1 by omega) (by omega)).1
        have q1 := ydcn_1 c T (yba σ (yK σ) b) 0 2 (show yP σ b ((yba σ (yK σ) b) - 1) ≠ -1 by unfold yP; omega)
        refine zw_pop ⟨rfl, rfl⟩ (by decide) ?_
        refine zw_aload ⟨rfl, rfl⟩ rfl ?_
        refine zw_const ⟨rfl, rfl⟩ ?_
        refine zw_aload ⟨rfl, rfl⟩ rfl ?_
        refine zw_getR 120 ⟨rfl, rfl⟩ zr_126_7 ?_
        refine zw_getR 122 ⟨rfl, rfl⟩ zr_120_11 ?_
        refine zw_aload ⟨rfl, rfl⟩ rfl ?_
        refine zw_getR 120 ⟨rfl, rfl⟩ zr_126_7 ?_
        refine zw_getIv (v := yba σ (yK σ) b) ⟨rfl, rfl⟩ zc_120 (by decide) (hX1.2.2.2.1.2.1) ?_
        refine zw_ialdv (v := ynk (yK σ) (yP σ b (yba σ (yK σ) b))) ⟨rfl, rfl⟩ za_122 (by omega) ((hX1.2.2.2.2 (yba σ (yK σ) b) (by omega) (by omega)).2.1) ?_
        refine zw_const ⟨rfl, rfl⟩ ?_
        refine zw_callv4 ⟨rfl, rfl⟩ rfl zc_126 rfl ?_
        refine m_putLetter hV hX1.1 p1.1 (ynk_b hK (by have := (ypl_r hK hB.1.1 hB.1.2 h (show 0 ≤ yba σ (yK σ) b by omega) (by omega)).1; unfold yP; omega)) (fun hpz => by (try simp only [yplt_1, yshb_1, yem_1]); (repeat' split) <;> omega) (fun N2 p2 => ?_)
        have hX2 := hX1.fr p2.2
        refine zw_pop ⟨rfl, rfl⟩ (by decide) ?_
        refine zw_void rfl ?_
        refine kk _ ⟨?_, p1.2.tr p2.2⟩
        unfold ymid
        first
          | (rw [if_pos (by assumption), hmd]; exact p2.1)
          | (rw [if_neg (by assumption)]
             first
               | (rw [if_pos (show yso (yK σ b) = 2 by omega)]; exact p2.1)
               | (rw [if_neg (show ¬ yso (yK σ b) = 2 by omega), if_pos (show yso (yK σ b) = 1 by omega)]; exact p2.1)
               | (rw [if_neg (show ¬ yso (yK σ b) = 2 by omega), if_neg (show ¬ yso (yK σ b) = 1 by omega), if_pos (show yK σ b = 12 ∨ yK σ b = 13 by omega)]; exact p2.1)
               | (rw [if_neg (show ¬ yso (yK σ b) = 2 by omega), if_neg (show ¬ yso (yK σ b) = 1 by omega), if_neg (show ¬ (yK σ b = 12 ∨ yK σ b = 13) by omega)]; exact p2.1))
end

section
set_option maxHeartbeats 8000000
theorem m_drawStacked_l  {b : Int} {M : zM} {Q : zV → zM → Prop} {σ : yS} {c : Int} {T : yT} (hV : yVal σ) (hX : yCx M σ b) (hB : (0 ≤ b ∧ b < σ 0) ∧ ybg (yK σ) b) (hD : yDr M c T) (hg : yK σ b = 1 → T.1 + 2 * (ym (yK σ) b - (yba σ (yK σ) b + 1)) ≤ 180) (kk : ∀ N : zM, (yDr N c (ystd σ c b T) ∧ ydf M N) → Q (3, 0) N) : ∀ (f : Nat) (k : Int) (N : zM), (yba σ (yK σ) b + 1 ≤ k ∧ (k ≤ yms (yK σ) b ∨ k = yba σ (yK σ) b + 1)) → (yDr N c (yfo (ystk σ c b) (yba σ (yK σ) b + 1) k T)) → (ydf M N) → (yms (yK σ) b - k).toNat < f → zWp kDr_drawStacked 6 [(1, 126), (0, k)] [] N Q := by
  intro f
  induction f with
  | zero => intro k N i1 i2 i3 hf; exact absurd hf (Nat.not_lt_zero _)
  | succ f ih =>
    intro k N i1 i2 i3 hf
    have hK := yKr_K hV
    have hov := (yov_sp hK hB.1.1 hB.1.2 hB.2).2.1
    have hn := hV.1
    have hr := yrp_r σ (yK σ) b
    have hX0 := hX.fr i3
    refine zw_iload ⟨rfl, rfl⟩ rfl ?_
    refine zw_aload ⟨rfl, rfl⟩ rfl ?_
    refine zw_getR 120 ⟨rfl, rfl⟩ zr_126_7 ?_
    refine zw_getIv (v := yms (yK σ) b) ⟨rfl, rfl⟩ zc_120 (by decide) (hX0.2.2.2.1.1) ?_
    refine zw_icge ⟨rfl, rfl⟩ rfl (fun c1 => ?_) (fun c1 => ?_)
    · skip
      refine zw_void rfl ?_
      refine kk _ ⟨?_, i3⟩
      unfold ystd
      by_cases e : k = yms (yK σ) b
      · rw [← e]; exact i2
      · rw [yfo_0 _ (by omega)]
        rw [yfo_0 _ (by omega)] at i2
        exact i2
    · skip
      have h : yK σ b = 1 := by
        apply Decidable.byContradiction
        intro z
        have := yA0 (σ := σ) z
        omega
      have hm := ym_r hK hB.1.1 hB.1.2 h
      have em : yms (yK σ) b = ym (yK σ) b := if_pos h
      have hz := yba_r (σ := σ) hK hB.1.1 hB.1.2 h
      have hgg := hg h
      have ht := ystd_r hV c T hB.1.1 hB.1.2 h i1.1 (by omega)
      obtain ⟨TT, hTT⟩ : ∃ TT, TT = (yfo (ystk σ c b) (yba σ (yK σ) b + 1) k T) := ⟨_, rfl⟩
      rw [← hTT] at i2 ht
      have hpk := (ypl_r hK hB.1.1 hB.1.2 h (show 0 ≤ k by omega) (by omega)).1
      have hpk0 : 0 ≤ yP σ b k ∧ yP σ b k < 60 := by unfold yP; omega
      have hpk1 : ¬ yP σ b k = -1 := by omega
      refine zw_aload ⟨rfl, rfl⟩ rfl ?_
      refine zw_aload ⟨rfl, rfl⟩ rfl ?_
      refine zw_getR 120 ⟨rfl, rfl⟩ zr_126_7 ?_
      refine zw_getR 123 ⟨rfl, rfl⟩ zr_120_12 ?_
      refine zw_iload ⟨rfl, rfl⟩ rfl ?_
      refine zw_const ⟨rfl, rfl⟩ ?_
      refine zw_isub ⟨rfl, rfl⟩ (by omega) ?_
      refine zw_ialdv (v := yvi (yK σ) (yP σ b (k - 1))) ⟨rfl, rfl⟩ za_123 (by omega) ((hX0.2.2.2.2 (k - 1) (by omega) (by omega)).2.2.1) ?_
      refine zw_aload ⟨rfl, rfl⟩ rfl ?_
      refine zw_const ⟨rfl, rfl⟩ ?_
      refine zw_aload ⟨rfl, rfl⟩ rfl ?_
      refine zw_getR 120 ⟨rfl, rfl⟩ zr_126_7 ?_
      refine zw_getR 121 ⟨rfl, rfl⟩ zr_120_10 ?_
      refine zw_iload ⟨rfl, rfl⟩ rfl ?_
      refine zw_ialdv (v := yP σ b k) ⟨rfl, rfl⟩ za_121 (by omega) ((hX0.2.2.2.2 k (by omega) (by omega)).1) ?_
      refine zw_const ⟨rfl, rfl⟩ ?_
      refine zw_callv4 ⟨rfl, rfl⟩ rfl zc_126 rfl ?_
      refine m_putLetter hV hX0.1 i2 (Or.inr ⟨by omega, by omega⟩) (fun hpz => by (try simp only [yplt_1, yshb_1, yem_1]); (repeat' split) <;> omega) (fun N1 p1 => ?_)
      have hX1 := hX0.fr p1.2
      rw [if_neg hpk1]
      refine zw_cavv3 ⟨rfl, rfl⟩ rfl zc_126 rfl ?_
      refine m_showBy p1.1 (fun N2 p2 => ?_)
      have hX2 := hX1.fr p2.2
      refine zw_aload ⟨rfl, rfl⟩ rfl ?_
      refine zw_const ⟨rfl, rfl⟩ ?_
      refine zw_aload ⟨rfl, rfl⟩ rfl ?_
      refine zw_getR 120 ⟨rfl, rfl⟩ zr_126_7 ?_
      refine zw_getR 122 ⟨rfl, rfl⟩ zr_120_11 ?_
      refine zw_iload ⟨rfl, rfl⟩ rfl ?_
      refine zw_ialdv (v := ynk (yK σ) (yP σ b k)) ⟨rfl, rfl⟩ za_122 (by omega) ((hX2.2.2.2.2 k (by omega) (by omega)).2.1) ?_
      refine zw_const ⟨rfl, rfl⟩ ?_
      refine zw_callv4 ⟨rfl, rfl⟩ rfl zc_126 rfl ?_
      refine m_putLetter hV hX2.1 p2.1 (ynk_b hK (by omega)) (fun hpz => by (try simp only [yplt_1, yshb_1, yem_1]); (repeat' split) <;> omega) (fun N3 p3 => ?_)
      have hX3 := hX2.fr p3.2
      refine zw_pop ⟨rfl, rfl⟩ (by decide) ?_
      refine zw_iinc_1 ⟨rfl, rfl⟩ (by omega) ?_
      refine zw_goto ⟨rfl, rfl⟩ rfl ?_
      refine ih _ _ ⟨by omega, by omega⟩ ?_ (((i3.tr p1.2).tr p2.2).tr p3.2) (by omega)
      rw [yfo_s _ i1.1, ← hTT]
      unfold ystk
      exact p3.1
end

theorem m_drawStacked {b : Int} {M : zM} {Q : zV → zM → Prop} {σ : yS} {c : Int} {T : yT} (hV : yVal σ) (hX : yCx M σ b) (hB : (0 ≤ b ∧ b < σ 0) ∧ ybg (yK σ) b) (hD : yDr M c T) (hg : yK σ b = 1 → T.1 + 2 * (ym (yK σ) b - (yba σ (yK σ) b + 1)) ≤ 180) (kk : ∀ N : zM, (yDr N c (ystd σ c b T) ∧ ydf M N) → Q (3, 0) N) : zWp kDr_drawStacked 0 [(1, 126), (3, 0)] [] M Q := by
  have hK := yKr_K hV
  have hov := (yov_sp hK hB.1.1 hB.1.2 hB.2).2.1
  have hn := hV.1
  have hr := yrp_r σ (yK σ) b
  have hz : 0 ≤ yba σ (yK σ) b ∧ yba σ (yK σ) b ≤ 60 := by
    by_cases h : yK σ b = 1
    · have := yba_r (σ := σ) hK hB.1.1 hB.1.2 h; have := ym_r hK hB.1.1 hB.1.2 h; omega
    · have := yA0 (σ := σ) h; omega
  refine zw_aload ⟨rfl, rfl⟩ rfl ?_
  refine zw_getR 120 ⟨rfl, rfl⟩ zr_126_7 ?_
  refine zw_getIv (v := yba σ (yK σ) b) ⟨rfl, rfl⟩ zc_120 (by decide) (hX.2.2.2.1.2.1) ?_
  refine zw_const ⟨rfl, rfl⟩ ?_
  refine zw_iadd ⟨rfl, rfl⟩ (by omega) ?_
  refine zw_istore_1 ⟨rfl, rfl⟩ ?_
  exact m_drawStacked_l hV hX hB hD hg kk _ _ _ ⟨Int.le_refl _, Or.inr rfl⟩ (by rw [yfo_0 _ (Int.le_refl _)]; exact hD) ydf.rf (Nat.lt_succ_self _)

theorem m_drawDead {b : Int} {M : zM} {Q : zV → zM → Prop} {σ : yS} {c : Int} {T : yT} (hV : yVal σ) (hX : yCx M σ b) (hB : (0 ≤ b ∧ b < σ 0) ∧ ybg (yK σ) b) (hD : yDr M c T) (hg : (yded σ c b T).1 ≤ 180) (kk : ∀ N : zM, (yDr N c (yded σ c b T) ∧ ydf M N) → Q (3, 0) N) : zWp kDr_drawDead 0 [(1, 126), (3, 0)] [] M Q := by
  have hK := yKr_K hV
  have hov := (yov_sp hK hB.1.1 hB.1.2 hB.2).2.1
  have hn := hV.1
  have hr := yrp_r σ (yK σ) b
  have hdd := ydd_r (yK σ) b
  refine zw_aload ⟨rfl, rfl⟩ rfl ?_
  refine zw_getR 120 ⟨rfl, rfl⟩ zr_126_7 ?_
  refine zw_getIv (v := ydd (yK σ) b) ⟨rfl, rfl⟩ zc_120 (by decide) (hX.2.2.1.2.2.2.2.1) ?_
  refine zw_ifne ⟨rfl, rfl⟩ rfl (fun c1 => ?_) (fun c1 => ?_)
  · skip
    have hd1 : ydd (yK σ) b = 1 := by omega
    have hd2 := (ydd_iff hK hB.1.1 hB.1.2 hB.2).mp hd1
    have hg2 : T.1 + 1 ≤ 180 ∧ ((ytl (yK σ) b + 1 < yov (yK σ) b ∧ (yK σ (ytl (yK σ) b + 1) = 12 ∨ yK σ (ytl (yK σ) b + 1) = 13)) → T.1 + 2 ≤ 180) := by
      unfold yded at hg
      rw [if_pos hd1] at hg
      split at hg
      · rw [yplt_1, yplt_1, if_neg (by omega), if_neg (by omega)] at hg; omega
      · rename_i hq
        rw [yplt_1, if_neg (by omega)] at hg; exact ⟨by omega, fun z => absurd z hq⟩
    refine zw_aload ⟨rfl, rfl⟩ rfl ?_
    refine zw_const ⟨rfl, rfl⟩ ?_
    refine zw_aload ⟨rfl, rfl⟩ rfl ?_
    refine zw_getR 120 ⟨rfl, rfl⟩ zr_126_7 ?_
    refine zw_getIv (v := ytl (yK σ) b) ⟨rfl, rfl⟩ zc_120 (by decide) (hX.2.2.1.2.2.2.1) ?_
    refine zw_const ⟨rfl, rfl⟩ ?_
    refine zw_callv4 ⟨rfl, rfl⟩ rfl zc_126 rfl ?_
    refine m_putLetter hV hX.1 hD (Or.inr ⟨by omega, by omega⟩) (fun _ => by omega) (fun N1 p1 => ?_)
    have hX1 := hX.fr p1.2
    refine zw_pop ⟨rfl, rfl⟩ (by decide) ?_
    refine zw_aload ⟨rfl, rfl⟩ rfl ?_
    refine zw_getR 120 ⟨rfl, rfl⟩ zr_126_7 ?_
    refine zw_getIv (v := ytl (yK σ) b) ⟨rfl, rfl⟩ zc_120 (by decide) (hX1.2.2.1.2.2.2.1) ?_
    refine zw_const ⟨rfl, rfl⟩ ?_
    refine zw_iadd ⟨rfl, rfl⟩ (by omega) ?_
    refine zw_istore_1 ⟨rfl, rfl⟩ ?_
    refine zw_iload ⟨rfl, rfl⟩ rfl ?_
    refine zw_aload ⟨rfl, rfl⟩ rfl ?_
    refine zw_getR 120 ⟨rfl, rfl⟩ zr_126_7 ?_
    refine zw_getIv (v := yov (yK σ) b) ⟨rfl, rfl⟩ zc_120 (by decide) (hX1.2.2.1.2.2.1) ?_
    refine zw_icge ⟨rfl, rfl⟩ rfl (fun c2 => ?_) (fun c2 => ?_)
    · skip
      refine zw_void rfl ?_
      exact kk _ ⟨by unfold yded; rw [if_pos (by omega), if_neg (by omega)]; exact p1.1, p1.2⟩
    · skip
      refine zw_aload ⟨rfl, rfl⟩ rfl ?_
      refine zw_getR 105 ⟨rfl, rfl⟩ zr_126_6 ?_
      refine zw_iload ⟨rfl, rfl⟩ rfl ?_
      refine zw_callv2 ⟨rfl, rfl⟩ rfl zc_105 rfl ?_
      refine m_kindAt hK hX1.2.1 ?_
      refine zw_calls1 ⟨rfl, rfl⟩ rfl rfl ?_
      refine zw_iload ⟨rfl, rfl⟩ rfl ?_
      refine zw_const ⟨rfl, rfl⟩ ?_
      refine zw_iceq ⟨rfl, rfl⟩ rfl (fun c3 => ?_) (fun c3 => ?_)
      · skip
        refine zw_const ⟨rfl, rfl⟩ ?_
        refine zw_goto ⟨rfl, rfl⟩ rfl ?_
        refine zw_zret rfl (by first | exact Or.inl rfl | exact Or.inr rfl | omega) ?_
        refine zw_ifeq ⟨rfl, rfl⟩ rfl (fun q => absurd q (by decide)) (fun _ => ?_)
        refine zw_aload ⟨rfl, rfl⟩ rfl ?_
        refine zw_const ⟨rfl, rfl⟩ ?_
        refine zw_iload ⟨rfl, rfl⟩ rfl ?_
        refine zw_const ⟨rfl, rfl⟩ ?_
        refine zw_callv4 ⟨rfl, rfl⟩ rfl zc_126 rfl ?_
        refine m_putLetter hV hX1.1 p1.1 (Or.inr ⟨by omega, by omega⟩) (fun _ => by rw [yplt_1, if_neg (by omega)]; omega) (fun N2 p2 => ?_)
        have hX2 := hX1.fr p2.2
        refine zw_pop ⟨rfl, rfl⟩ (by decide) ?_
        refine zw_void rfl ?_
        exact kk _ ⟨by unfold yded; rw [if_pos (by omega), if_pos (by omega)]; exact p2.1, p1.2.tr p2.2⟩
      · skip
        refine zw_iload ⟨rfl, rfl⟩ rfl ?_
        refine zw_const ⟨rfl, rfl⟩ ?_
        refine zw_icne ⟨rfl, rfl⟩ rfl (fun c5 => ?_) (fun c5 => ?_)
        · skip
          refine zw_const ⟨rfl, rfl⟩ ?_
          refine zw_zret rfl (by first | exact Or.inl rfl | exact Or.inr rfl | omega) ?_
          refine zw_ifeq ⟨rfl, rfl⟩ rfl (fun _ => ?_) (fun q => absurd (by decide) q)
          refine zw_void rfl ?_
          exact kk _ ⟨by unfold yded; rw [if_pos (by omega), if_neg (by omega)]; exact p1.1, p1.2⟩
        · skip
          refine zw_const ⟨rfl, rfl⟩ ?_
          refine zw_goto ⟨rfl, rfl⟩ rfl ?_
          refine zw_zret rfl (by first | exact Or.inl rfl | exact Or.inr rfl | omega) ?_
          refine zw_ifeq ⟨rfl, rfl⟩ rfl (fun q => absurd q (by decide)) (fun _ => ?_)
          refine zw_aload ⟨rfl, rfl⟩ rfl ?_
          refine zw_const ⟨rfl, rfl⟩ ?_
          refine zw_iload ⟨rfl, rfl⟩ rfl ?_
          refine zw_const ⟨rfl, rfl⟩ ?_
          refine zw_callv4 ⟨rfl, rfl⟩ rfl zc_126 rfl ?_
          refine m_putLetter hV hX1.1 p1.1 (Or.inr ⟨by omega, by omega⟩) (fun _ => by rw [yplt_1, if_neg (by omega)]; omega) (fun N2 p2 => ?_)
          have hX2 := hX1.fr p2.2
          refine zw_pop ⟨rfl, rfl⟩ (by decide) ?_
          refine zw_void rfl ?_
          exact kk _ ⟨by unfold yded; rw [if_pos (by omega), if_pos (by omega)]; exact p2.1, p1.2.tr p2.2⟩
  · skip
    refine zw_void rfl ?_
    exact kk _ ⟨by unfold yded; rw [if_neg (by omega)]; exact hD, ydf.rf⟩

theorem m_drawReph {b : Int} {M : zM} {Q : zV → zM → Prop} {σ : yS} {c : Int} {T : yT} (hV : yVal σ) (hX : yCx M σ b) (hB : (0 ≤ b ∧ b < σ 0) ∧ ybg (yK σ) b) (hD : yDr M c T) (hg : T.1 + 1 ≤ 180 ∨ yrp σ (yK σ) b = 0) (kk : ∀ N : zM, (yDr N c (yrph σ c b T) ∧ ydf M N) → Q (3, 0) N) : zWp kDr_drawReph 0 [(1, 126)] [] M Q := by
  have hK := yKr_K hV
  have hov := (yov_sp hK hB.1.1 hB.1.2 hB.2).2.1
  have hn := hV.1
  have hr := yrp_r σ (yK σ) b
  refine zw_aload ⟨rfl, rfl⟩ rfl ?_
  refine zw_getR 120 ⟨rfl, rfl⟩ zr_126_7 ?_
  refine zw_getIv (v := yrp σ (yK σ) b) ⟨rfl, rfl⟩ zc_120 (by decide) (hX.2.2.2.1.2.2.1) ?_
  refine zw_const ⟨rfl, rfl⟩ ?_
  refine zw_icne ⟨rfl, rfl⟩ rfl (fun c1 => ?_) (fun c1 => ?_)
  · skip
    refine zw_void rfl ?_
    exact kk _ ⟨by unfold yrph; rw [if_neg (by omega)]; exact hD, ydf.rf⟩
  · skip
    have h := hr.2 (by omega)
    have em : yms (yK σ) b = ym (yK σ) b := if_pos h.1
    refine zw_aload ⟨rfl, rfl⟩ rfl ?_
    refine zw_aload ⟨rfl, rfl⟩ rfl ?_
    refine zw_getR 120 ⟨rfl, rfl⟩ zr_126_7 ?_
    refine zw_getR 123 ⟨rfl, rfl⟩ zr_120_12 ?_
    refine zw_const ⟨rfl, rfl⟩ ?_
    refine zw_ialdv (v := yvi (yK σ) b) ⟨rfl, rfl⟩ za_123 (by omega) ((hX.2.2.2.2 0 (by omega) (by omega)).2.2.1) ?_
    refine zw_aload ⟨rfl, rfl⟩ rfl ?_
    refine zw_const ⟨rfl, rfl⟩ ?_
    refine zw_aload ⟨rfl, rfl⟩ rfl ?_
    refine zw_getR 120 ⟨rfl, rfl⟩ zr_126_7 ?_
    refine zw_getR 121 ⟨rfl, rfl⟩ zr_120_10 ?_
    refine zw_const ⟨rfl, rfl⟩ ?_
    refine zw_ialdv (v := b) ⟨rfl, rfl⟩ za_121 (by omega) ((hX.2.2.2.2 0 (by omega) (by omega)).1) ?_
    refine zw_const ⟨rfl, rfl⟩ ?_
    refine zw_callv4 ⟨rfl, rfl⟩ rfl zc_126 rfl ?_
    refine m_putLetter hV hX.1 hD (Or.inr ⟨by omega, by omega⟩) (fun _ => by omega) (fun N1 p1 => ?_)
    have hX1 := hX.fr p1.2
    rw [if_neg (by omega)]
    refine zw_cavv3 ⟨rfl, rfl⟩ rfl zc_126 rfl ?_
    refine m_showBy p1.1 (fun N2 p2 => ?_)
    refine zw_void rfl ?_
    exact kk _ ⟨by unfold yrph; rw [if_pos (by omega)]; exact p2.1, p1.2.tr p2.2⟩
