/-! The class' Anatomy: reph, base, pairs, all of it -/
theorem yjf_s (σ : yS) (K : Int → Int) (b : Int) {k : Int} (h : 0 ≤ k) : yjf σ K b k = if yrp σ K b ≤ k ∧ k < yba σ K b ∧ (k = 0 ∨ yjf σ K b (k - 1) ≠ 1) ∧ yfre σ K b k then 1 else 0 := by
  unfold yjf
  by_cases h0 : k = 0
  · subst h0
    show yjf0 σ K b _ _ 0 = _
    rw [yjf0_0]
    simp
  · rw [yjf0_s σ K b _ _ (show 0 < k by omega)]
    simp [h0]
theorem ynk_m (K : Int → Int) {p : Int} (h : 0 ≤ p) : ynk K p = -1 ↔ K (p + 1) ≠ 4 := by
  unfold ynk; split <;> omega
/-- the letters of a chain -/
theorem yL_r {σ : yS} (hV : yVal σ) {p : Int} (h0 : 0 ≤ p) (h1 : p < σ 0) : 0 ≤ yL σ p ∧ yL σ p < 26 := by
  unfold yL; rw [if_pos ⟨h0, h1⟩]; exact hV.2.2.2.2.2 p h0 h1
def ybp (σ : yS) (K : Int → Int) (b : Int) : Int := if yso (K b) = 2 then -1 else if K b = 1 then ypl K b (yba σ K b) else b

theorem m_hasReph {b : Int} {M : zM} {Q : zV → zM → Prop} {σ : yS} (hV : yVal σ) (hS : yTold M σ) (h0 : 0 ≤ b) (h1 : b < σ 0) (h : yK σ b = 1) (hA : M 120 0 = ym (yK σ) b ∧ ∀ k, 0 ≤ k → k < ym (yK σ) b → M 121 k = ypl (yK σ) b k ∧ M 122 k = ynk (yK σ) (ypl (yK σ) b k) ∧ M 123 k = yvi (yK σ) (ypl (yK σ) b k) ∧ M 124 k = yjo (yK σ) (ypl (yK σ) b k) ∧ M 125 k = 0) (k : Q (0, yrp σ (yK σ) b) M) : zWp kAn_hasReph 0 [(1, 120), (1, 2)] [] M Q := by
  have hK := yKr_K hV
  have hm := ym_r hK h0 h1 h
  have hn := hV.1
  have hl := yL_r hV h0 h1
  have hra := hS.1.2.2.1 (yL σ b) hl.1 hl.2
  replace hra : yL σ b = M 3 4 ↔ σ (28 + yL σ b) % 2 = 1 := by rw [← hra]; exact eq_comm
  refine zw_aload ⟨rfl, rfl⟩ rfl ?_
  refine zw_getIv (v := ym (yK σ) b) ⟨rfl, rfl⟩ zc_120 (by decide) (hA.1) ?_
  refine zw_const ⟨rfl, rfl⟩ ?_
  refine zw_icle ⟨rfl, rfl⟩ rfl (fun c1 => ?_) (fun c1 => ?_)
  · skip
    refine zw_const ⟨rfl, rfl⟩ ?_
    refine zw_zret rfl (by first | exact Or.inl rfl | exact Or.inr rfl | omega) ?_
    rw [show yrp σ (yK σ) b = 0 from by unfold yrp; rw [if_neg (fun z => by have z3 := hra.mpr z.2.2.1; have z4 := (ynk_m (yK σ) h0).mpr z.2.2.2.1; have := z.2.1; have := z.2.2.2.2; omega)]] at k
    exact k
  · skip
    refine zw_aload ⟨rfl, rfl⟩ rfl ?_
    refine zw_aload ⟨rfl, rfl⟩ rfl ?_
    refine zw_getR 121 ⟨rfl, rfl⟩ zr_120_10 ?_
    refine zw_const ⟨rfl, rfl⟩ ?_
    refine zw_ialdv (v := b) ⟨rfl, rfl⟩ za_121 (by omega) ((hA.2 0 (by decide) (by omega)).1) ?_
    refine zw_callv2 ⟨rfl, rfl⟩ rfl zc_2 rfl ?_
    refine m_letterAt_s hV.1.2 hS ?_
    refine zw_aload ⟨rfl, rfl⟩ rfl ?_
    refine zw_getR 3 ⟨rfl, rfl⟩ zr_2_0 ?_
    refine zw_getIv (v := M 3 4) ⟨rfl, rfl⟩ zc_3 (by decide) rfl ?_
    refine zw_icne ⟨rfl, rfl⟩ rfl (fun c2 => ?_) (fun c2 => ?_)
    · skip
      refine zw_const ⟨rfl, rfl⟩ ?_
      refine zw_zret rfl (by first | exact Or.inl rfl | exact Or.inr rfl | omega) ?_
      rw [show yrp σ (yK σ) b = 0 from by unfold yrp; rw [if_neg (fun z => by have z3 := hra.mpr z.2.2.1; have z4 := (ynk_m (yK σ) h0).mpr z.2.2.2.1; have := z.2.1; have := z.2.2.2.2; omega)]] at k
      exact k
    · skip
      refine zw_aload ⟨rfl, rfl⟩ rfl ?_
      refine zw_getR 122 ⟨rfl, rfl⟩ zr_120_11 ?_
      refine zw_const ⟨rfl, rfl⟩ ?_
      refine zw_ialdv (v := ynk (yK σ) b) ⟨rfl, rfl⟩ za_122 (by omega) ((hA.2 0 (by decide) (by omega)).2.1) ?_
      refine zw_const ⟨rfl, rfl⟩ ?_
      refine zw_icne ⟨rfl, rfl⟩ rfl (fun c3 => ?_) (fun c3 => ?_)
      · skip
        refine zw_const ⟨rfl, rfl⟩ ?_
        refine zw_zret rfl (by first | exact Or.inl rfl | exact Or.inr rfl | omega) ?_
        rw [show yrp σ (yK σ) b = 0 from by unfold yrp; rw [if_neg (fun z => by have z3 := hra.mpr z.2.2.1; have z4 := (ynk_m (yK σ) h0).mpr z.2.2.2.1; have := z.2.1; have := z.2.2.2.2; omega)]] at k
        exact k
      · skip
        refine zw_aload ⟨rfl, rfl⟩ rfl ?_
        refine zw_getR 124 ⟨rfl, rfl⟩ zr_120_13 ?_
        refine zw_const ⟨rfl, rfl⟩ ?_
        refine zw_ialdv (v := yjo (yK σ) b) ⟨rfl, rfl⟩ za_124 (by omega) ((hA.2 0 (by decide) (by omega)).2.2.2.1) ?_
        refine zw_const ⟨rfl, rfl⟩ ?_
        refine zw_icne ⟨rfl, rfl⟩ rfl (fun c4 => ?_) (fun c4 => ?_)
        · skip
          refine zw_const ⟨rfl, rfl⟩ ?_
          refine zw_zret rfl (by first | exact Or.inl rfl | exact Or.inr rfl | omega) ?_
          rw [show yrp σ (yK σ) b = 0 from by unfold yrp; rw [if_neg (fun z => by have z3 := hra.mpr z.2.2.1; have z4 := (ynk_m (yK σ) h0).mpr z.2.2.2.1; have := z.2.1; have := z.2.2.2.2; omega)]] at k
          exact k
        · skip
          refine zw_const ⟨rfl, rfl⟩ ?_
          refine zw_goto ⟨rfl, rfl⟩ rfl ?_
          refine zw_zret rfl (by first | exact Or.inl rfl | exact Or.inr rfl | omega) ?_
          rw [show yrp σ (yK σ) b = 1 from by unfold yrp; rw [if_pos ⟨h, by omega, hra.mp (by omega), (ynk_m _ h0).mp (by omega), by omega⟩]] at k
          exact k

theorem m_chosenBase_l  {v : Int} {b : Int} {M : zM} {Q : zV → zM → Prop} {σ : yS} (hV : yVal σ) (hS : yTold M σ) (h0 : 0 ≤ b) (h1 : b < σ 0) (h : yK σ b = 1) (hA : M 120 0 = ym (yK σ) b ∧ ∀ k, 0 ≤ k → k < ym (yK σ) b → M 121 k = ypl (yK σ) b k ∧ M 122 k = ynk (yK σ) (ypl (yK σ) b k) ∧ M 123 k = yvi (yK σ) (ypl (yK σ) b k) ∧ M 124 k = yjo (yK σ) (ypl (yK σ) b k) ∧ M 125 k = 0) (ha : M 120 2 = yrp σ (yK σ) b) (kk : Q (0, v) M) : ∀ (f : Nat) (k : Int), (yrp σ (yK σ) b ≤ k ∧ k < ym (yK σ) b) → (ybs0 σ (yK σ) b (yrp σ (yK σ) b) k.toNat = v) → (k).toNat < f → zWp kAn_chosenBase 5 [(1, 120), (1, 2), (0, k)] [] M Q := by
  intro f
  induction f with
  | zero => intro k i1 i2 hf; exact absurd hf (Nat.not_lt_zero _)
  | succ f ih =>
    intro k i1 i2 hf
    have hK := yKr_K hV
    have hm := ym_r hK h0 h1 h
    have hn := hV.1
    have hr := yrp_r σ (yK σ) b
    refine zw_iload ⟨rfl, rfl⟩ rfl ?_
    refine zw_aload ⟨rfl, rfl⟩ rfl ?_
    refine zw_getIv (v := yrp σ (yK σ) b) ⟨rfl, rfl⟩ zc_120 (by decide) (ha) ?_
    refine zw_icle ⟨rfl, rfl⟩ rfl (fun c1 => ?_) (fun c1 => ?_)
    · skip
      refine zw_aload ⟨rfl, rfl⟩ rfl ?_
      refine zw_getIv (v := yrp σ (yK σ) b) ⟨rfl, rfl⟩ zc_120 (by decide) (ha) ?_
      refine zw_ret rfl ?_
      have e : k = yrp σ (yK σ) b := by omega
      have e2 : yrp σ (yK σ) b = v := by
        rw [← i2, e]
        rcases hr.1 with z | z <;> rw [z] <;> unfold ybs0 <;> simp
      rw [e2]
      exact kk
    · skip
      have hp := (ypl_r hK h0 h1 h (show 0 ≤ k by omega) (by omega)).1
      have hl := yL_r hV (show 0 ≤ ypl (yK σ) b k by omega) hp.2.2
      have hbit := (hS.1.2.2.2.1 _ hl.1 hl.2).1
      rw [show k.toNat = (k - 1).toNat + 1 by omega] at i2
      unfold ybs0 at i2
      rw [show (((k - 1).toNat : Nat) : Int) + 1 = k by omega, show (((k - 1).toNat : Nat) : Int) = k - 1 by omega, if_neg (by omega)] at i2
      refine zw_aload ⟨rfl, rfl⟩ rfl ?_
      refine zw_getR 3 ⟨rfl, rfl⟩ zr_2_0 ?_
      refine zw_getIv (v := M 3 5) ⟨rfl, rfl⟩ zc_3 (by decide) rfl ?_
      refine zw_aload ⟨rfl, rfl⟩ rfl ?_
      refine zw_aload ⟨rfl, rfl⟩ rfl ?_
      refine zw_getR 121 ⟨rfl, rfl⟩ zr_120_10 ?_
      refine zw_iload ⟨rfl, rfl⟩ rfl ?_
      refine zw_ialdv (v := ypl (yK σ) b k) ⟨rfl, rfl⟩ za_121 (by omega) ((hA.2 k (by omega) (by omega)).1) ?_
      refine zw_callv2 ⟨rfl, rfl⟩ rfl zc_2 rfl ?_
      refine m_letterAt_s hV.1.2 hS ?_
      refine zw_calls2 ⟨rfl, rfl⟩ rfl rfl ?_
      refine m_hasBit (by omega) ?_
      refine zw_ifeq ⟨rfl, rfl⟩ rfl (fun c2 => ?_) (fun c2 => ?_)
      · skip
        refine zw_iload ⟨rfl, rfl⟩ rfl ?_
        refine zw_ret rfl ?_
        rw [if_pos (by omega)] at i2
        rw [i2]
        exact kk
      · skip
        refine zw_aload ⟨rfl, rfl⟩ rfl ?_
        refine zw_getR 124 ⟨rfl, rfl⟩ zr_120_13 ?_
        refine zw_iload ⟨rfl, rfl⟩ rfl ?_
        refine zw_const ⟨rfl, rfl⟩ ?_
        refine zw_isub ⟨rfl, rfl⟩ (by omega) ?_
        refine zw_ialdv (v := yjo (yK σ) (ypl (yK σ) b (k - 1))) ⟨rfl, rfl⟩ za_124 (by omega) ((hA.2 (k - 1) (by omega) (by omega)).2.2.2.1) ?_
        refine zw_const ⟨rfl, rfl⟩ ?_
        refine zw_iceq ⟨rfl, rfl⟩ rfl (fun c3 => ?_) (fun c3 => ?_)
        · skip
          refine zw_iinc_2 ⟨rfl, rfl⟩ (by omega) ?_
          refine zw_goto ⟨rfl, rfl⟩ rfl ?_
          rw [if_neg (by omega)] at i2
          exact ih _ (by omega) i2 (by omega)
        · skip
          refine zw_iload ⟨rfl, rfl⟩ rfl ?_
          refine zw_ret rfl ?_
          rw [if_pos (by omega)] at i2
          rw [i2]
          exact kk

theorem m_chosenBase {b : Int} {M : zM} {Q : zV → zM → Prop} {σ : yS} (hV : yVal σ) (hS : yTold M σ) (h0 : 0 ≤ b) (h1 : b < σ 0) (h : yK σ b = 1) (hA : M 120 0 = ym (yK σ) b ∧ ∀ k, 0 ≤ k → k < ym (yK σ) b → M 121 k = ypl (yK σ) b k ∧ M 122 k = ynk (yK σ) (ypl (yK σ) b k) ∧ M 123 k = yvi (yK σ) (ypl (yK σ) b k) ∧ M 124 k = yjo (yK σ) (ypl (yK σ) b k) ∧ M 125 k = 0) (ha : M 120 2 = yrp σ (yK σ) b) (k : Q (0, yba σ (yK σ) b) M) : zWp kAn_chosenBase 0 [(1, 120), (1, 2), (3, 0)] [] M Q := by
  have hK := yKr_K hV
  have hm := ym_r hK h0 h1 h
  have hn := hV.1
  refine zw_aload ⟨rfl, rfl⟩ rfl ?_
  refine zw_getIv (v := ym (yK σ) b) ⟨rfl, rfl⟩ zc_120 (by decide) (hA.1) ?_
  refine zw_const ⟨rfl, rfl⟩ ?_
  refine zw_isub ⟨rfl, rfl⟩ (by omega) ?_
  refine zw_istore_2 ⟨rfl, rfl⟩ ?_
  have hr := yrp_r σ (yK σ) b
  exact m_chosenBase_l hV hS h0 h1 h hA ha k _ _ ⟨by omega, by omega⟩ (by unfold yba; rw [if_pos h]) (Nat.lt_succ_self _)

theorem ysum_r (f : Int → Int) (h : ∀ j, 0 ≤ j → f j = 0 ∨ f j = 1) : ∀ k : Nat, 0 ≤ ysum f k ∧ ysum f k ≤ k := by
  intro k
  induction k with
  | zero => exact ⟨Int.le_refl _, Int.le_refl _⟩
  | succ k ih =>
    have := h k (by omega)
    unfold ysum
    omega
theorem yJ_r (σ : yS) (a b : Int) : ∀ k : Nat, yJ σ a b k = 0 ∨ yJ σ a b k = 1 := by
  intro k
  induction k with
  | zero => exact Or.inl rfl
  | succ k ih =>
    unfold yJ
    split
    · exact Or.inr rfl
    · exact ih
theorem yju_r (σ : yS) (a b : Int) : yju σ a b = 0 ∨ yju σ a b = 1 := by
  unfold yju
  split
  · exact yJ_r σ a b _
  · exact Or.inl rfl

section
set_option maxHeartbeats 4000000
theorem m_joinPairs_l  {b : Int} {M : zM} {Q : zV → zM → Prop} {σ : yS} (hV : yVal σ) (hS : yTold M σ) (h0 : 0 ≤ b) (h1 : b < σ 0) (h : yK σ b = 1) (hA : M 120 0 = ym (yK σ) b ∧ ∀ k, 0 ≤ k → k < ym (yK σ) b → M 121 k = ypl (yK σ) b k ∧ M 122 k = ynk (yK σ) (ypl (yK σ) b k) ∧ M 123 k = yvi (yK σ) (ypl (yK σ) b k) ∧ M 124 k = yjo (yK σ) (ypl (yK σ) b k) ∧ M 125 k = 0) (ha : M 120 2 = yrp σ (yK σ) b ∧ M 120 1 = yba σ (yK σ) b ∧ M 120 3 = 0) (kk : ∀ N : zM, (N 120 3 = ypr σ (yK σ) b ∧ (∀ j, j ≠ 3 → N 120 j = M 120 j) ∧ (∀ j, 0 ≤ j → j < ym (yK σ) b → N 125 j = yjf σ (yK σ) b j) ∧ ∀ x, x ≠ 120 → x ≠ 125 → N x = M x) → Q (3, 0) N) : ∀ (f : Nat) (k : Int) (u0 u1 : zV) (N : zM), (yrp σ (yK σ) b ≤ k ∧ k ≤ yba σ (yK σ) b) → (N 120 3 = ysum (yjf σ (yK σ) b) k.toNat) → ((∀ j, j ≠ 3 → N 120 j = M 120 j) ∧ ∀ x, x ≠ 120 → x ≠ 125 → N x = M x) → (∀ j, 0 ≤ j → j < ym (yK σ) b → N 125 j = if j < k then yjf σ (yK σ) b j else 0) → (yba σ (yK σ) b - k).toNat < f → zWp kAn_joinPairs 3 [(1, 120), (1, 2), (0, k), u0, u1] [] N Q := by
  intro f
  induction f with
  | zero => intro k u0 u1 N i1 i2 i3 i4 hf; exact absurd hf (Nat.not_lt_zero _)
  | succ f ih =>
    intro k u0 u1 N i1 i2 i3 i4 hf
    have hK := yKr_K hV
    have hm := ym_r hK h0 h1 h
    have hn := hV.1
    have hr := yrp_r σ (yK σ) b
    have hz := yba_r (σ := σ) hK h0 h1 h
    refine zw_iload ⟨rfl, rfl⟩ rfl ?_
    refine zw_aload ⟨rfl, rfl⟩ rfl ?_
    refine zw_getIv (v := yba σ (yK σ) b) ⟨rfl, rfl⟩ zc_120 (by decide) ((i3.1 1 (by decide)).trans ha.2.1) ?_
    refine zw_icge ⟨rfl, rfl⟩ rfl (fun c1 => ?_) (fun c1 => ?_)
    · skip
      refine zw_void rfl ?_
      have e : k = yba σ (yK σ) b := by omega
      refine kk _ ⟨?_, i3.1, fun j q1 q2 => ?_, i3.2⟩
      · rw [i2, e]; rfl
      · rw [i4 j q1 q2]
        split
        · rfl
        · have := yjf_r σ (yK σ) b q1
          omega
    · skip
      have hp := (ypl_r hK h0 h1 h (show 0 ≤ k by omega) (by omega)).1
      have hp2 := (ypl_r hK h0 h1 h (show 0 ≤ k + 1 by omega) (by omega)).1
      have hjr := (yjf_r σ (yK σ) b (show 0 ≤ k by omega)).1
      have hsz := ysum_r (yjf σ (yK σ) b) (fun j q => (yjf_r σ (yK σ) b q).1) k.toNat
      refine zw_iload ⟨rfl, rfl⟩ rfl ?_
      refine zw_aload ⟨rfl, rfl⟩ rfl ?_
      refine zw_getIv (v := yrp σ (yK σ) b) ⟨rfl, rfl⟩ zc_120 (by decide) ((i3.1 2 (by decide)).trans ha.1) ?_
      refine zw_icle ⟨rfl, rfl⟩ rfl (fun c2 => ?_) (fun c2 => ?_)
      · skip
        have htk : k = 0 ∨ yjf σ (yK σ) b (k - 1) ≠ 1 := by
          by_cases z : k = 0
          · exact Or.inl z
          · refine Or.inr (fun z2 => ?_)
            have := (yjf_r σ (yK σ) b (show 0 ≤ k - 1 by omega)).2 z2
            omega
        refine zw_const ⟨rfl, rfl⟩ ?_
        refine zw_istore_3 ⟨rfl, rfl⟩ ?_
        refine zw_iload ⟨rfl, rfl⟩ rfl ?_
        refine zw_ifne ⟨rfl, rfl⟩ rfl (fun q => absurd q (by decide)) (fun _ => ?_)
        refine zw_aload ⟨rfl, rfl⟩ rfl ?_
        refine zw_getR 124 ⟨rfl, rfl⟩ zr_120_13 ?_
        refine zw_iload ⟨rfl, rfl⟩ rfl ?_
        refine zw_ialdv (v := yjo (yK σ) (ypl (yK σ) b k)) ⟨rfl, rfl⟩ za_124 (by omega) ((congrFun (i3.2 124 (by decide) (by decide)) k).trans (hA.2 k (by omega) (by omega)).2.2.2.1) ?_
        refine zw_const ⟨rfl, rfl⟩ ?_
        refine zw_icne ⟨rfl, rfl⟩ rfl (fun c4 => ?_) (fun c4 => ?_)
        · skip
          refine zw_const ⟨rfl, rfl⟩ ?_
          refine zw_istore_4 ⟨rfl, rfl⟩ ?_
          refine zw_iload ⟨rfl, rfl⟩ rfl ?_
          refine zw_ifeq ⟨rfl, rfl⟩ rfl (fun _ => ?_) (fun q => absurd (by decide) q)
          refine zw_iinc_2 ⟨rfl, rfl⟩ (by omega) ?_
          refine zw_goto ⟨rfl, rfl⟩ rfl ?_
          have e : yjf σ (yK σ) b k = 0 := by
            rw [yjf_s σ (yK σ) b (by omega)]
            refine if_neg (fun z => ?_)
            obtain ⟨z1, z2, z3, z4, z5, z6⟩ := z
            have z7 := (ynk_m (yK σ) (show 0 ≤ ypl (yK σ) b k by omega)).mpr z5
            first | omega | (rcases z3 with z3 | z3 <;> omega)
          refine ih _ _ _ _ ?_ ?_ i3 ?_ ?_
          · omega
          · rw [ysum_s _ (by omega), ← i2, e]; omega
          · intro j q1 q2
            have := i4 j q1 q2
            rw [this]
            by_cases hj : j = k
            · subst hj; rw [if_neg (by omega), if_pos (by omega), e]
            · by_cases q3 : j < k
              · rw [if_pos q3, if_pos (by omega)]
              · rw [if_neg q3, if_neg (by omega)]
          · omega
        · skip
          refine zw_aload ⟨rfl, rfl⟩ rfl ?_
          refine zw_getR 122 ⟨rfl, rfl⟩ zr_120_11 ?_
          refine zw_iload ⟨rfl, rfl⟩ rfl ?_
          refine zw_ialdv (v := ynk (yK σ) (ypl (yK σ) b k)) ⟨rfl, rfl⟩ za_122 (by omega) ((congrFun (i3.2 122 (by decide) (by decide)) k).trans (hA.2 k (by omega) (by omega)).2.1) ?_
          refine zw_const ⟨rfl, rfl⟩ ?_
          refine zw_icne ⟨rfl, rfl⟩ rfl (fun c6 => ?_) (fun c6 => ?_)
          · skip
            refine zw_const ⟨rfl, rfl⟩ ?_
            refine zw_istore_4 ⟨rfl, rfl⟩ ?_
            refine zw_iload ⟨rfl, rfl⟩ rfl ?_
            refine zw_ifeq ⟨rfl, rfl⟩ rfl (fun _ => ?_) (fun q => absurd (by decide) q)
            refine zw_iinc_2 ⟨rfl, rfl⟩ (by omega) ?_
            refine zw_goto ⟨rfl, rfl⟩ rfl ?_
            have e : yjf σ (yK σ) b k = 0 := by
              rw [yjf_s σ (yK σ) b (by omega)]
              refine if_neg (fun z => ?_)
              obtain ⟨z1, z2, z3, z4, z5, z6⟩ := z
              have z7 := (ynk_m (yK σ) (show 0 ≤ ypl (yK σ) b k by omega)).mpr z5
              first | omega | (rcases z3 with z3 | z3 <;> omega)
            refine ih _ _ _ _ ?_ ?_ i3 ?_ ?_
            · omega
            · rw [ysum_s _ (by omega), ← i2, e]; omega
            · intro j q1 q2
              have := i4 j q1 q2
              rw [this]
              by_cases hj : j = k
              · subst hj; rw [if_neg (by omega), if_pos (by omega), e]
              · by_cases q3 : j < k
                · rw [if_pos q3, if_pos (by omega)]
                · rw [if_neg q3, if_neg (by omega)]
            · omega
          · skip
            refine zw_const ⟨rfl, rfl⟩ ?_
            refine zw_goto ⟨rfl, rfl⟩ rfl ?_
            refine zw_istore_4 ⟨rfl, rfl⟩ ?_
            refine zw_iload ⟨rfl, rfl⟩ rfl ?_
            refine zw_ifeq ⟨rfl, rfl⟩ rfl (fun q => absurd q (by decide)) (fun _ => ?_)
            refine zw_aload ⟨rfl, rfl⟩ rfl ?_
            refine zw_getR 3 ⟨rfl, rfl⟩ zr_2_0 ?_
            refine zw_aload ⟨rfl, rfl⟩ rfl ?_
            refine zw_aload ⟨rfl, rfl⟩ rfl ?_
            refine zw_getR 121 ⟨rfl, rfl⟩ zr_120_10 ?_
            refine zw_iload ⟨rfl, rfl⟩ rfl ?_
            refine zw_ialdv (v := ypl (yK σ) b k) ⟨rfl, rfl⟩ za_121 (by omega) ((congrFun (i3.2 121 (by decide) (by decide)) k).trans (hA.2 k (by omega) (by omega)).1) ?_
            refine zw_callv2 ⟨rfl, rfl⟩ rfl zc_2 rfl ?_
            refine m_letterAt_s hV.1.2 (hS.cg (fun x y1 y2 => i3.2 x (by omega) (by omega))) ?_
            refine zw_aload ⟨rfl, rfl⟩ rfl ?_
            refine zw_aload ⟨rfl, rfl⟩ rfl ?_
            refine zw_getR 121 ⟨rfl, rfl⟩ zr_120_10 ?_
            refine zw_iload ⟨rfl, rfl⟩ rfl ?_
            refine zw_const ⟨rfl, rfl⟩ ?_
            refine zw_iadd ⟨rfl, rfl⟩ (by omega) ?_
            refine zw_ialdv (v := ypl (yK σ) b (k + 1)) ⟨rfl, rfl⟩ za_121 (by omega) ((congrFun (i3.2 121 (by decide) (by decide)) (k + 1)).trans (hA.2 (k + 1) (by omega) (by omega)).1) ?_
            refine zw_callv2 ⟨rfl, rfl⟩ rfl zc_2 rfl ?_
            refine m_letterAt_s hV.1.2 (hS.cg (fun x y1 y2 => i3.2 x (by omega) (by omega))) ?_
            refine zw_callv3 ⟨rfl, rfl⟩ rfl zc_3 rfl ?_
            refine m_joined_3 (yTold.cg hS (fun x y1 y2 => i3.2 x (by omega) (by omega))).1 ?_
            have hl1 := yL_r hV (show 0 ≤ ypl (yK σ) b k by omega) hp.2.2
            have hl2 := yL_r hV (show 0 ≤ ypl (yK σ) b (k + 1) by omega) hp2.2.2
            have hju : yju σ (yL σ (ypl (yK σ) b k)) (yL σ (ypl (yK σ) b (k + 1))) = yjn σ (yL σ (ypl (yK σ) b k)) (yL σ (ypl (yK σ) b (k + 1))) := if_pos ⟨hl1.1, hl1.2, hl2.1, hl2.2⟩
            have hjr2 := yju_r σ (yL σ (ypl (yK σ) b k)) (yL σ (ypl (yK σ) b (k + 1)))
            refine zw_ifeq ⟨rfl, rfl⟩ rfl (fun c9 => ?_) (fun c9 => ?_)
            · skip
              refine zw_iinc_2 ⟨rfl, rfl⟩ (by omega) ?_
              refine zw_goto ⟨rfl, rfl⟩ rfl ?_
              have e : yjf σ (yK σ) b k = 0 := by
                rw [yjf_s σ (yK σ) b (by omega)]
                refine if_neg (fun z => ?_)
                obtain ⟨z1, z2, z3, z4, z5, z6⟩ := z
                have z7 := (ynk_m (yK σ) (show 0 ≤ ypl (yK σ) b k by omega)).mpr z5
                first | omega | (rcases z3 with z3 | z3 <;> omega)
              refine ih _ _ _ _ ?_ ?_ i3 ?_ ?_
              · omega
              · rw [ysum_s _ (by omega), ← i2, e]; omega
              · intro j q1 q2
                have := i4 j q1 q2
                rw [this]
                by_cases hj : j = k
                · subst hj; rw [if_neg (by omega), if_pos (by omega), e]
                · by_cases q3 : j < k
                  · rw [if_pos q3, if_pos (by omega)]
                  · rw [if_neg q3, if_neg (by omega)]
              · omega
            · skip
              refine zw_aload ⟨rfl, rfl⟩ rfl ?_
              refine zw_getR 125 ⟨rfl, rfl⟩ zr_120_14 ?_
              refine zw_iload ⟨rfl, rfl⟩ rfl ?_
              refine zw_const ⟨rfl, rfl⟩ ?_
              refine zw_bast3 ⟨rfl, rfl⟩ za_125 (by omega) (by first | exact Or.inl rfl | exact Or.inr rfl | omega) ?_
              refine zw_aload ⟨rfl, rfl⟩ rfl ?_
              refine zw_dup ⟨rfl, rfl⟩ (by decide) ?_
              refine zw_getIv (v := N 120 3) ⟨rfl, rfl⟩ zc_120 (by decide) (zup_na (by decide)) ?_
              refine zw_const ⟨rfl, rfl⟩ ?_
              refine zw_iadd ⟨rfl, rfl⟩ (by omega) ?_
              refine zw_putI ⟨rfl, rfl⟩ zc_120 (by decide) (fun h => absurd h (by decide)) ?_
              refine zw_iinc_2 ⟨rfl, rfl⟩ (by omega) ?_
              refine zw_goto ⟨rfl, rfl⟩ rfl ?_
              have e : yjf σ (yK σ) b k = 1 := by rw [yjf_s σ (yK σ) b (by omega)]; exact if_pos ⟨by omega, by omega, htk, (by omega), (ynk_m _ (by omega)).mp (by omega), (by omega)⟩
              refine ih _ _ _ _ ?_ ?_ ?_ ?_ ?_
              · omega
              · rw [ysum_s _ (by omega), ← i2, e]; simp [zup]
              · refine ⟨fun j q => ?_, fun x q1 q2 => ?_⟩
                · rw [← i3.1 j q]; simp [zup, q]
                · rw [zup_row q1, zup_row q2]; exact i3.2 x q1 q2
              · intro j q1 q2
                have := i4 j q1 q2
                by_cases hj : j = k
                · subst hj; rw [if_pos (by omega), e]; simp [zup]
                · rw [zup_na (by decide), zup_ni hj, this]
                  by_cases q3 : j < k
                  · rw [if_pos q3, if_pos (by omega)]
                  · rw [if_neg q3, if_neg (by omega)]
              · omega
      · skip
        refine zw_aload ⟨rfl, rfl⟩ rfl ?_
        refine zw_getR 125 ⟨rfl, rfl⟩ zr_120_14 ?_
        refine zw_iload ⟨rfl, rfl⟩ rfl ?_
        refine zw_const ⟨rfl, rfl⟩ ?_
        refine zw_isub ⟨rfl, rfl⟩ (by omega) ?_
        refine zw_baldv (v := yjf σ (yK σ) b (k - 1)) ⟨rfl, rfl⟩ za_125 (by decide) (by omega) ((i4 (k - 1) (by omega) (by omega)).trans (if_pos (by omega))) ?_
        refine zw_ifeq ⟨rfl, rfl⟩ rfl (fun c10 => ?_) (fun c10 => ?_)
        · skip
          have htk : k = 0 ∨ yjf σ (yK σ) b (k - 1) ≠ 1 := Or.inr (by omega)
          refine zw_const ⟨rfl, rfl⟩ ?_
          refine zw_istore_3 ⟨rfl, rfl⟩ ?_
          refine zw_iload ⟨rfl, rfl⟩ rfl ?_
          refine zw_ifne ⟨rfl, rfl⟩ rfl (fun q => absurd q (by decide)) (fun _ => ?_)
          refine zw_aload ⟨rfl, rfl⟩ rfl ?_
          refine zw_getR 124 ⟨rfl, rfl⟩ zr_120_13 ?_
          refine zw_iload ⟨rfl, rfl⟩ rfl ?_
          refine zw_ialdv (v := yjo (yK σ) (ypl (yK σ) b k)) ⟨rfl, rfl⟩ za_124 (by omega) ((congrFun (i3.2 124 (by decide) (by decide)) k).trans (hA.2 k (by omega) (by omega)).2.2.2.1) ?_
          refine zw_const ⟨rfl, rfl⟩ ?_
          refine zw_icne ⟨rfl, rfl⟩ rfl (fun c12 => ?_) (fun c12 => ?_)
          · skip
            refine zw_const ⟨rfl, rfl⟩ ?_
            refine zw_istore_4 ⟨rfl, rfl⟩ ?_
            refine zw_iload ⟨rfl, rfl⟩ rfl ?_
            refine zw_ifeq ⟨rfl, rfl⟩ rfl (fun _ => ?_) (fun q => absurd (by decide) q)
            refine zw_iinc_2 ⟨rfl, rfl⟩ (by omega) ?_
            refine zw_goto ⟨rfl, rfl⟩ rfl ?_
            have e : yjf σ (yK σ) b k = 0 := by
              rw [yjf_s σ (yK σ) b (by omega)]
              refine if_neg (fun z => ?_)
              obtain ⟨z1, z2, z3, z4, z5, z6⟩ := z
              have z7 := (ynk_m (yK σ) (show 0 ≤ ypl (yK σ) b k by omega)).mpr z5
              first | omega | (rcases z3 with z3 | z3 <;> omega)
            refine ih _ _ _ _ ?_ ?_ i3 ?_ ?_
            · omega
            · rw [ysum_s _ (by omega), ← i2, e]; omega
            · intro j q1 q2
              have := i4 j q1 q2
              rw [this]
              by_cases hj : j = k
              · subst hj; rw [if_neg (by omega), if_pos (by omega), e]
              · by_cases q3 : j < k
                · rw [if_pos q3, if_pos (by omega)]
                · rw [if_neg q3, if_neg (by omega)]
            · omega
          · skip
            refine zw_aload ⟨rfl, rfl⟩ rfl ?_
            refine zw_getR 122 ⟨rfl, rfl⟩ zr_120_11 ?_
            refine zw_iload ⟨rfl, rfl⟩ rfl ?_
            refine zw_ialdv (v := ynk (yK σ) (ypl (yK σ) b k)) ⟨rfl, rfl⟩ za_122 (by omega) ((congrFun (i3.2 122 (by decide) (by decide)) k).trans (hA.2 k (by omega) (by omega)).2.1) ?_
            refine zw_const ⟨rfl, rfl⟩ ?_
            refine zw_icne ⟨rfl, rfl⟩ rfl (fun c14 => ?_) (fun c14 => ?_)
            · skip
              refine zw_const ⟨rfl, rfl⟩ ?_
              refine zw_istore_4 ⟨rfl, rfl⟩ ?_
              refine zw_iload ⟨rfl, rfl⟩ rfl ?_
              refine zw_ifeq ⟨rfl, rfl⟩ rfl (fun _ => ?_) (fun q => absurd (by decide) q)
              refine zw_iinc_2 ⟨rfl, rfl⟩ (by omega) ?_
              refine zw_goto ⟨rfl, rfl⟩ rfl ?_
              have e : yjf σ (yK σ) b k = 0 := by
                rw [yjf_s σ (yK σ) b (by omega)]
                refine if_neg (fun z => ?_)
                obtain ⟨z1, z2, z3, z4, z5, z6⟩ := z
                have z7 := (ynk_m (yK σ) (show 0 ≤ ypl (yK σ) b k by omega)).mpr z5
                first | omega | (rcases z3 with z3 | z3 <;> omega)
              refine ih _ _ _ _ ?_ ?_ i3 ?_ ?_
              · omega
              · rw [ysum_s _ (by omega), ← i2, e]; omega
              · intro j q1 q2
                have := i4 j q1 q2
                rw [this]
                by_cases hj : j = k
                · subst hj; rw [if_neg (by omega), if_pos (by omega), e]
                · by_cases q3 : j < k
                  · rw [if_pos q3, if_pos (by omega)]
                  · rw [if_neg q3, if_neg (by omega)]
              · omega
            · skip
              refine zw_const ⟨rfl, rfl⟩ ?_
              refine zw_goto ⟨rfl, rfl⟩ rfl ?_
              refine zw_istore_4 ⟨rfl, rfl⟩ ?_
              refine zw_iload ⟨rfl, rfl⟩ rfl ?_
              refine zw_ifeq ⟨rfl, rfl⟩ rfl (fun q => absurd q (by decide)) (fun _ => ?_)
              refine zw_aload ⟨rfl, rfl⟩ rfl ?_
              refine zw_getR 3 ⟨rfl, rfl⟩ zr_2_0 ?_
              refine zw_aload ⟨rfl, rfl⟩ rfl ?_
              refine zw_aload ⟨rfl, rfl⟩ rfl ?_
              refine zw_getR 121 ⟨rfl, rfl⟩ zr_120_10 ?_
              refine zw_iload ⟨rfl, rfl⟩ rfl ?_
              refine zw_ialdv (v := ypl (yK σ) b k) ⟨rfl, rfl⟩ za_121 (by omega) ((congrFun (i3.2 121 (by decide) (by decide)) k).trans (hA.2 k (by omega) (by omega)).1) ?_
              refine zw_callv2 ⟨rfl, rfl⟩ rfl zc_2 rfl ?_
              refine m_letterAt_s hV.1.2 (hS.cg (fun x y1 y2 => i3.2 x (by omega) (by omega))) ?_
              refine zw_aload ⟨rfl, rfl⟩ rfl ?_
              refine zw_aload ⟨rfl, rfl⟩ rfl ?_
              refine zw_getR 121 ⟨rfl, rfl⟩ zr_120_10 ?_
              refine zw_iload ⟨rfl, rfl⟩ rfl ?_
              refine zw_const ⟨rfl, rfl⟩ ?_
              refine zw_iadd ⟨rfl, rfl⟩ (by omega) ?_
              refine zw_ialdv (v := ypl (yK σ) b (k + 1)) ⟨rfl, rfl⟩ za_121 (by omega) ((congrFun (i3.2 121 (by decide) (by decide)) (k + 1)).trans (hA.2 (k + 1) (by omega) (by omega)).1) ?_
              refine zw_callv2 ⟨rfl, rfl⟩ rfl zc_2 rfl ?_
              refine m_letterAt_s hV.1.2 (hS.cg (fun x y1 y2 => i3.2 x (by omega) (by omega))) ?_
              refine zw_callv3 ⟨rfl, rfl⟩ rfl zc_3 rfl ?_
              refine m_joined_3 (yTold.cg hS (fun x y1 y2 => i3.2 x (by omega) (by omega))).1 ?_
              have hl1 := yL_r hV (show 0 ≤ ypl (yK σ) b k by omega) hp.2.2
              have hl2 := yL_r hV (show 0 ≤ ypl (yK σ) b (k + 1) by omega) hp2.2.2
              have hju : yju σ (yL σ (ypl (yK σ) b k)) (yL σ (ypl (yK σ) b (k + 1))) = yjn σ (yL σ (ypl (yK σ) b k)) (yL σ (ypl (yK σ) b (k + 1))) := if_pos ⟨hl1.1, hl1.2, hl2.1, hl2.2⟩
              have hjr2 := yju_r σ (yL σ (ypl (yK σ) b k)) (yL σ (ypl (yK σ) b (k + 1)))
              refine zw_ifeq ⟨rfl, rfl⟩ rfl (fun c17 => ?_) (fun c17 => ?_)
              · skip
                refine zw_iinc_2 ⟨rfl, rfl⟩ (by omega) ?_
                refine zw_goto ⟨rfl, rfl⟩ rfl ?_
                have e : yjf σ (yK σ) b k = 0 := by
                  rw [yjf_s σ (yK σ) b (by omega)]
                  refine if_neg (fun z => ?_)
                  obtain ⟨z1, z2, z3, z4, z5, z6⟩ := z
                  have z7 := (ynk_m (yK σ) (show 0 ≤ ypl (yK σ) b k by omega)).mpr z5
                  first | omega | (rcases z3 with z3 | z3 <;> omega)
                refine ih _ _ _ _ ?_ ?_ i3 ?_ ?_
                · omega
                · rw [ysum_s _ (by omega), ← i2, e]; omega
                · intro j q1 q2
                  have := i4 j q1 q2
                  rw [this]
                  by_cases hj : j = k
                  · subst hj; rw [if_neg (by omega), if_pos (by omega), e]
                  · by_cases q3 : j < k
                    · rw [if_pos q3, if_pos (by omega)]
                    · rw [if_neg q3, if_neg (by omega)]
                · omega
              · skip
                refine zw_aload ⟨rfl, rfl⟩ rfl ?_
                refine zw_getR 125 ⟨rfl, rfl⟩ zr_120_14 ?_
                refine zw_iload ⟨rfl, rfl⟩ rfl ?_
                refine zw_const ⟨rfl, rfl⟩ ?_
                refine zw_bast3 ⟨rfl, rfl⟩ za_125 (by omega) (by first | exact Or.inl rfl | exact Or.inr rfl | omega) ?_
                refine zw_aload ⟨rfl, rfl⟩ rfl ?_
                refine zw_dup ⟨rfl, rfl⟩ (by decide) ?_
                refine zw_getIv (v := N 120 3) ⟨rfl, rfl⟩ zc_120 (by decide) (zup_na (by decide)) ?_
                refine zw_const ⟨rfl, rfl⟩ ?_
                refine zw_iadd ⟨rfl, rfl⟩ (by omega) ?_
                refine zw_putI ⟨rfl, rfl⟩ zc_120 (by decide) (fun h => absurd h (by decide)) ?_
                refine zw_iinc_2 ⟨rfl, rfl⟩ (by omega) ?_
                refine zw_goto ⟨rfl, rfl⟩ rfl ?_
                have e : yjf σ (yK σ) b k = 1 := by rw [yjf_s σ (yK σ) b (by omega)]; exact if_pos ⟨by omega, by omega, htk, (by omega), (ynk_m _ (by omega)).mp (by omega), (by omega)⟩
                refine ih _ _ _ _ ?_ ?_ ?_ ?_ ?_
                · omega
                · rw [ysum_s _ (by omega), ← i2, e]; simp [zup]
                · refine ⟨fun j q => ?_, fun x q1 q2 => ?_⟩
                  · rw [← i3.1 j q]; simp [zup, q]
                  · rw [zup_row q1, zup_row q2]; exact i3.2 x q1 q2
                · intro j q1 q2
                  have := i4 j q1 q2
                  by_cases hj : j = k
                  · subst hj; rw [if_pos (by omega), e]; simp [zup]
                  · rw [zup_na (by decide), zup_ni hj, this]
                    by_cases q3 : j < k
                    · rw [if_pos q3, if_pos (by omega)]
                    · rw [if_neg q3, if_neg (by omega)]
                · omega
        · skip
          have htk : k ≠ 0 ∧ yjf σ (yK σ) b (k - 1) = 1 := ⟨by omega, by have := (yjf_r σ (yK σ) b (show 0 ≤ k - 1 by omega)).1; omega⟩
          refine zw_const ⟨rfl, rfl⟩ ?_
          refine zw_goto ⟨rfl, rfl⟩ rfl ?_
          refine zw_istore_3 ⟨rfl, rfl⟩ ?_
          refine zw_iload ⟨rfl, rfl⟩ rfl ?_
          refine zw_ifne ⟨rfl, rfl⟩ rfl (fun _ => ?_) (fun q => absurd (by decide) q)
          refine zw_const ⟨rfl, rfl⟩ ?_
          refine zw_istore_4 ⟨rfl, rfl⟩ ?_
          refine zw_iload ⟨rfl, rfl⟩ rfl ?_
          refine zw_ifeq ⟨rfl, rfl⟩ rfl (fun _ => ?_) (fun q => absurd (by decide) q)
          refine zw_iinc_2 ⟨rfl, rfl⟩ (by omega) ?_
          refine zw_goto ⟨rfl, rfl⟩ rfl ?_
          have e : yjf σ (yK σ) b k = 0 := by
            rw [yjf_s σ (yK σ) b (by omega)]
            refine if_neg (fun z => ?_)
            obtain ⟨z1, z2, z3, z4, z5, z6⟩ := z
            have z7 := (ynk_m (yK σ) (show 0 ≤ ypl (yK σ) b k by omega)).mpr z5
            first | omega | (rcases z3 with z3 | z3 <;> omega)
          refine ih _ _ _ _ ?_ ?_ i3 ?_ ?_
          · omega
          · rw [ysum_s _ (by omega), ← i2, e]; omega
          · intro j q1 q2
            have := i4 j q1 q2
            rw [this]
            by_cases hj : j = k
            · subst hj; rw [if_neg (by omega), if_pos (by omega), e]
            · by_cases q3 : j < k
              · rw [if_pos q3, if_pos (by omega)]
              · rw [if_neg q3, if_neg (by omega)]
          · omega
end

theorem m_joinPairs {b : Int} {M : zM} {Q : zV → zM → Prop} {σ : yS} (hV : yVal σ) (hS : yTold M σ) (h0 : 0 ≤ b) (h1 : b < σ 0) (h : yK σ b = 1) (hA : M 120 0 = ym (yK σ) b ∧ ∀ k, 0 ≤ k → k < ym (yK σ) b → M 121 k = ypl (yK σ) b k ∧ M 122 k = ynk (yK σ) (ypl (yK σ) b k) ∧ M 123 k = yvi (yK σ) (ypl (yK σ) b k) ∧ M 124 k = yjo (yK σ) (ypl (yK σ) b k) ∧ M 125 k = 0) (ha : M 120 2 = yrp σ (yK σ) b ∧ M 120 1 = yba σ (yK σ) b ∧ M 120 3 = 0) (kk : ∀ N : zM, (N 120 3 = ypr σ (yK σ) b ∧ (∀ j, j ≠ 3 → N 120 j = M 120 j) ∧ (∀ j, 0 ≤ j → j < ym (yK σ) b → N 125 j = yjf σ (yK σ) b j) ∧ ∀ x, x ≠ 120 → x ≠ 125 → N x = M x) → Q (3, 0) N) : zWp kAn_joinPairs 0 [(1, 120), (1, 2), (3, 0), (3, 0), (3, 0)] [] M Q := by
  have hK := yKr_K hV
  have hm := ym_r hK h0 h1 h
  have hn := hV.1
  refine zw_aload ⟨rfl, rfl⟩ rfl ?_
  refine zw_getIv (v := yrp σ (yK σ) b) ⟨rfl, rfl⟩ zc_120 (by decide) (ha.1) ?_
  refine zw_istore_2 ⟨rfl, rfl⟩ ?_
  have hz := yba_r (σ := σ) hK h0 h1 h
  have hr := yrp_r σ (yK σ) b
  refine m_joinPairs_l hV hS h0 h1 h hA ha kk _ _ _ _ _ ⟨Int.le_refl _, hz.1⟩ ?_ ⟨fun _ _ => rfl, fun _ _ _ => rfl⟩ (fun j q1 q2 => ?_) (Nat.lt_succ_self _)
  · rw [ha.2.2]
    rcases hr.1 with z | z
    · rw [z]; rfl
    · rw [z]
      show 0 = 0 + yjf σ (yK σ) b 0
      have := yjf_r σ (yK σ) b (Int.le_refl 0)
      omega
  · rw [(hA.2 j q1 q2).2.2.2.2]
    split
    · have := yjf_r σ (yK σ) b q1
      omega
    · rfl
