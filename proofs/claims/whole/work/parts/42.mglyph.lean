/-! The model's glyphs -/
def yMa (M : zM) (σ : yS) (b : Int) : Prop := yMo M σ ∧ M 208 22 = ytl (yK σ) b ∧ M 208 21 = yms (yK σ) b
def yMb (M : zM) (σ : yS) (b : Int) : Prop := yMa M σ b ∧ ∀ k, 0 ≤ k → k < yms (yK σ) b → M 222 k = yP σ b k ∧ M 223 k = ynk (yK σ) (yP σ b k) ∧ M 224 k = yvi (yK σ) (yP σ b k) ∧ M 225 k = yjo (yK σ) (yP σ b k) ∧ M 226 k = yjf σ (yK σ) b k
def yGm (M : zM) (T : yT) : Prop := M 208 31 = T.1 ∧ 0 ≤ T.1 ∧ (∀ k, 0 ≤ k → k < T.1 → M 227 k = T.2.1 0 k ∧ M 228 k = T.2.1 1 k ∧ M 229 k = T.2.1 2 k ∧ M 230 k = T.2.1 3 k ∧ M 231 k = T.2.1 4 k ∧ M 232 k = T.2.1 5 k ∧ M 233 k = yW T k) ∧ ∀ p, 0 ≤ p → p < 60 → M 234 p = T.2.2 p
def ygf (M N : zM) : Prop := (∀ x, ¬ (227 ≤ x ∧ x ≤ 234) → x ≠ 208 → N x = M x) ∧ ∀ j, j ≠ 31 → N 208 j = M 208 j
theorem ygf.rf {M : zM} : ygf M M := ⟨fun _ _ _ => rfl, fun _ _ => rfl⟩
theorem ygf.tr {M N P : zM} (h : ygf M N) (g : ygf N P) : ygf M P := ⟨fun x x1 x2 => (g.1 x x1 x2).trans (h.1 x x1 x2), fun j hj => (g.2 j hj).trans (h.2 j hj)⟩
theorem yMa.fr {M N : zM} {σ : yS} {b : Int} (h : yMa M σ b) (g : ygf M N) : yMa N σ b := ⟨h.1.cg (g.1 209 (by decide) (by decide)), (g.2 22 (by decide)).trans h.2.1, (g.2 21 (by decide)).trans h.2.2⟩
theorem yMb.fr {M N : zM} {σ : yS} {b : Int} (h : yMb M σ b) (g : ygf M N) : yMb N σ b := ⟨h.1.fr g, fun k k1 k2 => by
  rw [g.1 222 (by decide) (by decide), g.1 223 (by decide) (by decide), g.1 224 (by decide) (by decide), g.1 225 (by decide) (by decide), g.1 226 (by decide) (by decide)]
  exact h.2 k k1 k2⟩
theorem yGm.sx {M : zM} {T U : yT} (h : yGm M T) (h1 : T.1 = U.1) (h2 : T.2.1 = U.2.1) (h3 : ∀ p, 0 ≤ p → p < 60 → T.2.2 p = U.2.2 p) : yGm M U := by
  obtain ⟨a, b, c, d⟩ := h
  unfold yGm
  rw [← h1]
  refine ⟨a, b, fun k k1 k2 => ?_, fun p p1 p2 => (d p p1 p2).trans (h3 p p1 p2)⟩
  have := c k k1 k2
  unfold yW at this ⊢
  rw [← h2]
  exact this
def ywo (σ : yS) (f l : Int) : Int := if f = 0 ∨ f = 13 then 4 else if f = 1 then 2 else if f = 2 then 5 else if f = 3 ∨ f = 11 ∨ f = 12 then 3 else if f = 6 then (if (if l = -1 then -1 else σ (2 + l)) = 5 ∨ (if l = -1 then -1 else σ (2 + l)) = 8 then 2 else 0) else if f = 7 then (if (if l = -1 then -1 else σ (2 + l)) = 11 then 1 else 0) else 0
theorem ywo_e (σ : yS) {f : Int} (l rk : Int) (h6 : f ≠ 6) (h7 : f ≠ 7) : ywo σ f l = ywd f rk := by
  unfold ywo ywd
  rw [if_neg h6, if_neg h7, if_neg h6, if_neg h7]
theorem ywo_6 {σ : yS} {l kd rk : Int} (hl : l ≠ -1) (h : σ (2 + l) = kd) (hk : (kd = 5 ∨ kd = 8) ↔ (rk = 0 ∨ rk = 8)) : ywo σ 6 l = ywd 6 rk := by
  have e1 : ywo σ 6 l = if kd = 5 ∨ kd = 8 then 2 else 0 := by
    unfold ywo
    rw [if_neg hl, h]
    rfl
  have e2 : ywd 6 rk = if rk = 0 ∨ rk = 8 then 2 else 0 := rfl
  rw [e1, e2]
  split <;> split <;> first | rfl | (exfalso; omega)
theorem ywo_7 {σ : yS} {l kd rk : Int} (hl : l ≠ -1) (h : σ (2 + l) = kd) (hk : kd = 11 ↔ rk = 9) : ywo σ 7 l = ywd 7 rk := by
  have e1 : ywo σ 7 l = if kd = 11 then 1 else 0 := by
    unfold ywo
    rw [if_neg hl, h]
    rfl
  have e2 : ywd 7 rk = if rk = 9 then 1 else 0 := rfl
  rw [e1, e2]
  split <;> split <;> first | rfl | (exfalso; omega)
theorem yK_L {σ : yS} (hV : yVal σ) {p : Int} (h0 : 0 ≤ p) (h1 : p < σ 0) : σ (2 + yL σ p) = yK σ p := by
  have h := ykd_L hV h0 h1
  unfold ykd at h
  rw [if_pos (yL_r hV h0 h1)] at h
  exact h

theorem m_widthOf {f l : Int} {M : zM} {Q : zV → zM → Prop} {σ : yS} (hV : yVal σ) (hM : yMo M σ) (hl : l = -1 ∨ 0 ≤ l ∧ l < 26) (k : Q (0, ywo σ f l) M) : zWp kM_widthOf 0 [(1, 208), (0, f), (0, l), (3, 0)] [] M Q := by
  refine zw_iload ⟨rfl, rfl⟩ rfl ?_
  refine zw_const ⟨rfl, rfl⟩ ?_
  refine zw_icne ⟨rfl, rfl⟩ rfl (fun c1 => ?_) (fun c1 => ?_)
  · skip
    refine zw_aload ⟨rfl, rfl⟩ rfl ?_
    refine zw_iload ⟨rfl, rfl⟩ rfl ?_
    refine zw_callv2 ⟨rfl, rfl⟩ rfl zc_208 rfl ?_
    refine m_MkindOf hV hM (by omega) ?_
    refine zw_istore_3 ⟨rfl, rfl⟩ ?_
    refine zw_iload ⟨rfl, rfl⟩ rfl ?_
    by_cases e2_0 : f = 0
    · refine zw_table ⟨rfl, rfl⟩ (t' := 11) (by rw [e2_0]; rfl) ?_
      refine zw_const ⟨rfl, rfl⟩ ?_
      refine zw_ret rfl ?_
      rw [show ywo σ f l = 4 from by unfold ywo; grind] at k
      exact k
    by_cases e2_1 : f = 1
    · refine zw_table ⟨rfl, rfl⟩ (t' := 13) (by rw [e2_1]; rfl) ?_
      refine zw_const ⟨rfl, rfl⟩ ?_
      refine zw_ret rfl ?_
      rw [show ywo σ f l = 2 from by unfold ywo; grind] at k
      exact k
    by_cases e2_2 : f = 2
    · refine zw_table ⟨rfl, rfl⟩ (t' := 15) (by rw [e2_2]; rfl) ?_
      refine zw_const ⟨rfl, rfl⟩ ?_
      refine zw_ret rfl ?_
      rw [show ywo σ f l = 5 from by unfold ywo; grind] at k
      exact k
    by_cases e2_3 : f = 3
    · refine zw_table ⟨rfl, rfl⟩ (t' := 17) (by rw [e2_3]; rfl) ?_
      refine zw_const ⟨rfl, rfl⟩ ?_
      refine zw_ret rfl ?_
      rw [show ywo σ f l = 3 from by unfold ywo; grind] at k
      exact k
    by_cases e2_4 : f = 4
    · refine zw_table ⟨rfl, rfl⟩ (t' := 38) (by rw [e2_4]; rfl) ?_
      refine zw_const ⟨rfl, rfl⟩ ?_
      refine zw_ret rfl ?_
      rw [show ywo σ f l = 0 from by unfold ywo; grind] at k
      exact k
    by_cases e2_5 : f = 5
    · refine zw_table ⟨rfl, rfl⟩ (t' := 38) (by rw [e2_5]; rfl) ?_
      refine zw_const ⟨rfl, rfl⟩ ?_
      refine zw_ret rfl ?_
      rw [show ywo σ f l = 0 from by unfold ywo; grind] at k
      exact k
    by_cases e2_6 : f = 6
    · refine zw_table ⟨rfl, rfl⟩ (t' := 21) (by rw [e2_6]; rfl) ?_
      refine zw_iload ⟨rfl, rfl⟩ rfl ?_
      refine zw_const ⟨rfl, rfl⟩ ?_
      refine zw_iceq ⟨rfl, rfl⟩ rfl (fun c3 => ?_) (fun c3 => ?_)
      · skip
        refine zw_const ⟨rfl, rfl⟩ ?_
        refine zw_goto ⟨rfl, rfl⟩ rfl ?_
        refine zw_ret rfl ?_
        rw [show ywo σ f l = 2 from by unfold ywo; grind] at k
        exact k
      · skip
        refine zw_iload ⟨rfl, rfl⟩ rfl ?_
        refine zw_const ⟨rfl, rfl⟩ ?_
        refine zw_icne ⟨rfl, rfl⟩ rfl (fun c4 => ?_) (fun c4 => ?_)
        · skip
          refine zw_const ⟨rfl, rfl⟩ ?_
          refine zw_ret rfl ?_
          rw [show ywo σ f l = 0 from by unfold ywo; grind] at k
          exact k
        · skip
          refine zw_const ⟨rfl, rfl⟩ ?_
          refine zw_goto ⟨rfl, rfl⟩ rfl ?_
          refine zw_ret rfl ?_
          rw [show ywo σ f l = 2 from by unfold ywo; grind] at k
          exact k
    by_cases e2_7 : f = 7
    · refine zw_table ⟨rfl, rfl⟩ (t' := 31) (by rw [e2_7]; rfl) ?_
      refine zw_iload ⟨rfl, rfl⟩ rfl ?_
      refine zw_const ⟨rfl, rfl⟩ ?_
      refine zw_icne ⟨rfl, rfl⟩ rfl (fun c5 => ?_) (fun c5 => ?_)
      · skip
        refine zw_const ⟨rfl, rfl⟩ ?_
        refine zw_ret rfl ?_
        rw [show ywo σ f l = 0 from by unfold ywo; grind] at k
        exact k
      · skip
        refine zw_const ⟨rfl, rfl⟩ ?_
        refine zw_goto ⟨rfl, rfl⟩ rfl ?_
        refine zw_ret rfl ?_
        rw [show ywo σ f l = 1 from by unfold ywo; grind] at k
        exact k
    by_cases e2_8 : f = 8
    · refine zw_table ⟨rfl, rfl⟩ (t' := 38) (by rw [e2_8]; rfl) ?_
      refine zw_const ⟨rfl, rfl⟩ ?_
      refine zw_ret rfl ?_
      rw [show ywo σ f l = 0 from by unfold ywo; grind] at k
      exact k
    by_cases e2_9 : f = 9
    · refine zw_table ⟨rfl, rfl⟩ (t' := 38) (by rw [e2_9]; rfl) ?_
      refine zw_const ⟨rfl, rfl⟩ ?_
      refine zw_ret rfl ?_
      rw [show ywo σ f l = 0 from by unfold ywo; grind] at k
      exact k
    by_cases e2_10 : f = 10
    · refine zw_table ⟨rfl, rfl⟩ (t' := 38) (by rw [e2_10]; rfl) ?_
      refine zw_const ⟨rfl, rfl⟩ ?_
      refine zw_ret rfl ?_
      rw [show ywo σ f l = 0 from by unfold ywo; grind] at k
      exact k
    by_cases e2_11 : f = 11
    · refine zw_table ⟨rfl, rfl⟩ (t' := 17) (by rw [e2_11]; rfl) ?_
      refine zw_const ⟨rfl, rfl⟩ ?_
      refine zw_ret rfl ?_
      rw [show ywo σ f l = 3 from by unfold ywo; grind] at k
      exact k
    by_cases e2_12 : f = 12
    · refine zw_table ⟨rfl, rfl⟩ (t' := 17) (by rw [e2_12]; rfl) ?_
      refine zw_const ⟨rfl, rfl⟩ ?_
      refine zw_ret rfl ?_
      rw [show ywo σ f l = 3 from by unfold ywo; grind] at k
      exact k
    by_cases e2_13 : f = 13
    · refine zw_table ⟨rfl, rfl⟩ (t' := 19) (by rw [e2_13]; rfl) ?_
      refine zw_const ⟨rfl, rfl⟩ ?_
      refine zw_ret rfl ?_
      rw [show ywo σ f l = 4 from by unfold ywo; grind] at k
      exact k
    refine zw_table ⟨rfl, rfl⟩ (t' := 38) (by rw [ztgt_out (by show _ < (0 : Int) ∨ 0 + 14 ≤ _; omega)]; rfl) ?_
    refine zw_const ⟨rfl, rfl⟩ ?_
    refine zw_ret rfl ?_
    rw [show ywo σ f l = 0 from by unfold ywo; grind] at k
    exact k
  · skip
    refine zw_const ⟨rfl, rfl⟩ ?_
    refine zw_goto ⟨rfl, rfl⟩ rfl ?_
    refine zw_istore_3 ⟨rfl, rfl⟩ ?_
    refine zw_iload ⟨rfl, rfl⟩ rfl ?_
    by_cases e6_0 : f = 0
    · refine zw_table ⟨rfl, rfl⟩ (t' := 11) (by rw [e6_0]; rfl) ?_
      refine zw_const ⟨rfl, rfl⟩ ?_
      refine zw_ret rfl ?_
      rw [show ywo σ f l = 4 from by unfold ywo; grind] at k
      exact k
    by_cases e6_1 : f = 1
    · refine zw_table ⟨rfl, rfl⟩ (t' := 13) (by rw [e6_1]; rfl) ?_
      refine zw_const ⟨rfl, rfl⟩ ?_
      refine zw_ret rfl ?_
      rw [show ywo σ f l = 2 from by unfold ywo; grind] at k
      exact k
    by_cases e6_2 : f = 2
    · refine zw_table ⟨rfl, rfl⟩ (t' := 15) (by rw [e6_2]; rfl) ?_
      refine zw_const ⟨rfl, rfl⟩ ?_
      refine zw_ret rfl ?_
      rw [show ywo σ f l = 5 from by unfold ywo; grind] at k
      exact k
    by_cases e6_3 : f = 3
    · refine zw_table ⟨rfl, rfl⟩ (t' := 17) (by rw [e6_3]; rfl) ?_
      refine zw_const ⟨rfl, rfl⟩ ?_
      refine zw_ret rfl ?_
      rw [show ywo σ f l = 3 from by unfold ywo; grind] at k
      exact k
    by_cases e6_4 : f = 4
    · refine zw_table ⟨rfl, rfl⟩ (t' := 38) (by rw [e6_4]; rfl) ?_
      refine zw_const ⟨rfl, rfl⟩ ?_
      refine zw_ret rfl ?_
      rw [show ywo σ f l = 0 from by unfold ywo; grind] at k
      exact k
    by_cases e6_5 : f = 5
    · refine zw_table ⟨rfl, rfl⟩ (t' := 38) (by rw [e6_5]; rfl) ?_
      refine zw_const ⟨rfl, rfl⟩ ?_
      refine zw_ret rfl ?_
      rw [show ywo σ f l = 0 from by unfold ywo; grind] at k
      exact k
    by_cases e6_6 : f = 6
    · refine zw_table ⟨rfl, rfl⟩ (t' := 21) (by rw [e6_6]; rfl) ?_
      refine zw_iload ⟨rfl, rfl⟩ rfl ?_
      refine zw_const ⟨rfl, rfl⟩ ?_
      refine zw_iceq ⟨rfl, rfl⟩ rfl (fun q => absurd q (by decide)) (fun _ => ?_)
      refine zw_iload ⟨rfl, rfl⟩ rfl ?_
      refine zw_const ⟨rfl, rfl⟩ ?_
      refine zw_icne ⟨rfl, rfl⟩ rfl (fun _ => ?_) (fun q => absurd (by decide) q)
      refine zw_const ⟨rfl, rfl⟩ ?_
      refine zw_ret rfl ?_
      rw [show ywo σ f l = 0 from by unfold ywo; grind] at k
      exact k
    by_cases e6_7 : f = 7
    · refine zw_table ⟨rfl, rfl⟩ (t' := 31) (by rw [e6_7]; rfl) ?_
      refine zw_iload ⟨rfl, rfl⟩ rfl ?_
      refine zw_const ⟨rfl, rfl⟩ ?_
      refine zw_icne ⟨rfl, rfl⟩ rfl (fun _ => ?_) (fun q => absurd (by decide) q)
      refine zw_const ⟨rfl, rfl⟩ ?_
      refine zw_ret rfl ?_
      rw [show ywo σ f l = 0 from by unfold ywo; grind] at k
      exact k
    by_cases e6_8 : f = 8
    · refine zw_table ⟨rfl, rfl⟩ (t' := 38) (by rw [e6_8]; rfl) ?_
      refine zw_const ⟨rfl, rfl⟩ ?_
      refine zw_ret rfl ?_
      rw [show ywo σ f l = 0 from by unfold ywo; grind] at k
      exact k
    by_cases e6_9 : f = 9
    · refine zw_table ⟨rfl, rfl⟩ (t' := 38) (by rw [e6_9]; rfl) ?_
      refine zw_const ⟨rfl, rfl⟩ ?_
      refine zw_ret rfl ?_
      rw [show ywo σ f l = 0 from by unfold ywo; grind] at k
      exact k
    by_cases e6_10 : f = 10
    · refine zw_table ⟨rfl, rfl⟩ (t' := 38) (by rw [e6_10]; rfl) ?_
      refine zw_const ⟨rfl, rfl⟩ ?_
      refine zw_ret rfl ?_
      rw [show ywo σ f l = 0 from by unfold ywo; grind] at k
      exact k
    by_cases e6_11 : f = 11
    · refine zw_table ⟨rfl, rfl⟩ (t' := 17) (by rw [e6_11]; rfl) ?_
      refine zw_const ⟨rfl, rfl⟩ ?_
      refine zw_ret rfl ?_
      rw [show ywo σ f l = 3 from by unfold ywo; grind] at k
      exact k
    by_cases e6_12 : f = 12
    · refine zw_table ⟨rfl, rfl⟩ (t' := 17) (by rw [e6_12]; rfl) ?_
      refine zw_const ⟨rfl, rfl⟩ ?_
      refine zw_ret rfl ?_
      rw [show ywo σ f l = 3 from by unfold ywo; grind] at k
      exact k
    by_cases e6_13 : f = 13
    · refine zw_table ⟨rfl, rfl⟩ (t' := 19) (by rw [e6_13]; rfl) ?_
      refine zw_const ⟨rfl, rfl⟩ ?_
      refine zw_ret rfl ?_
      rw [show ywo σ f l = 4 from by unfold ywo; grind] at k
      exact k
    refine zw_table ⟨rfl, rfl⟩ (t' := 38) (by rw [ztgt_out (by show _ < (0 : Int) ∨ 0 + 14 ≤ _; omega)]; rfl) ?_
    refine zw_const ⟨rfl, rfl⟩ ?_
    refine zw_ret rfl ?_
    rw [show ywo σ f l = 0 from by unfold ywo; grind] at k
    exact k

theorem m_shows {c rk f l p : Int} {M : zM} {Q : zV → zM → Prop} {σ : yS} (hV : yVal σ) (hM : yMo M σ) {T : yT} (hD : yGm M T) (hl : l = -1 ∨ 0 ≤ l ∧ l < 26) (hp : p = -1 ∨ 0 ≤ p ∧ p < 60) (hg : T.1 < 180) (hw : ywo σ f l = ywd f rk) (k : ∀ N : zM, (yGm N (if p = -1 then yem T f l (-1) p rk c else yshb (yem T f l (-1) p rk c) p T.1) ∧ ygf M N) → Q (3, 0) N) : zWp kM_shows 0 [(1, 208), (0, c), (0, rk), (0, f), (0, l), (0, p)] [] M Q := by
  have h0 := hD.2.1
  refine zw_aload ⟨rfl, rfl⟩ rfl ?_
  refine zw_getR 227 ⟨rfl, rfl⟩ zr_208_23 ?_
  refine zw_aload ⟨rfl, rfl⟩ rfl ?_
  refine zw_getIv (v := T.1) ⟨rfl, rfl⟩ zc_208 (by decide) (hD.1) ?_
  refine zw_iload ⟨rfl, rfl⟩ rfl ?_
  refine zw_iast ⟨rfl, rfl⟩ za_227 (by omega) ?_
  refine zw_aload ⟨rfl, rfl⟩ rfl ?_
  refine zw_getR 228 ⟨rfl, rfl⟩ zr_208_24 ?_
  refine zw_aload ⟨rfl, rfl⟩ rfl ?_
  refine zw_getIv (v := T.1) ⟨rfl, rfl⟩ zc_208 (by decide) ((zup_na (by decide)).trans (hD.1)) ?_
  refine zw_iload ⟨rfl, rfl⟩ rfl ?_
  refine zw_iast ⟨rfl, rfl⟩ za_228 (by omega) ?_
  refine zw_aload ⟨rfl, rfl⟩ rfl ?_
  refine zw_getR 229 ⟨rfl, rfl⟩ zr_208_25 ?_
  refine zw_aload ⟨rfl, rfl⟩ rfl ?_
  refine zw_getIv (v := T.1) ⟨rfl, rfl⟩ zc_208 (by decide) ((zup_na (by decide)).trans ((zup_na (by decide)).trans (hD.1))) ?_
  refine zw_const ⟨rfl, rfl⟩ ?_
  refine zw_iast ⟨rfl, rfl⟩ za_229 (by omega) ?_
  refine zw_aload ⟨rfl, rfl⟩ rfl ?_
  refine zw_getR 230 ⟨rfl, rfl⟩ zr_208_26 ?_
  refine zw_aload ⟨rfl, rfl⟩ rfl ?_
  refine zw_getIv (v := T.1) ⟨rfl, rfl⟩ zc_208 (by decide) ((zup_na (by decide)).trans ((zup_na (by decide)).trans ((zup_na (by decide)).trans (hD.1)))) ?_
  refine zw_iload ⟨rfl, rfl⟩ rfl ?_
  refine zw_iast ⟨rfl, rfl⟩ za_230 (by omega) ?_
  refine zw_aload ⟨rfl, rfl⟩ rfl ?_
  refine zw_getR 231 ⟨rfl, rfl⟩ zr_208_27 ?_
  refine zw_aload ⟨rfl, rfl⟩ rfl ?_
  refine zw_getIv (v := T.1) ⟨rfl, rfl⟩ zc_208 (by decide) ((zup_na (by decide)).trans ((zup_na (by decide)).trans ((zup_na (by decide)).trans ((zup_na (by decide)).trans (hD.1))))) ?_
  refine zw_iload ⟨rfl, rfl⟩ rfl ?_
  refine zw_iast ⟨rfl, rfl⟩ za_231 (by omega) ?_
  refine zw_aload ⟨rfl, rfl⟩ rfl ?_
  refine zw_getR 232 ⟨rfl, rfl⟩ zr_208_28 ?_
  refine zw_aload ⟨rfl, rfl⟩ rfl ?_
  refine zw_getIv (v := T.1) ⟨rfl, rfl⟩ zc_208 (by decide) ((zup_na (by decide)).trans ((zup_na (by decide)).trans ((zup_na (by decide)).trans ((zup_na (by decide)).trans ((zup_na (by decide)).trans (hD.1)))))) ?_
  refine zw_iload ⟨rfl, rfl⟩ rfl ?_
  refine zw_iast ⟨rfl, rfl⟩ za_232 (by omega) ?_
  refine zw_aload ⟨rfl, rfl⟩ rfl ?_
  refine zw_getR 233 ⟨rfl, rfl⟩ zr_208_29 ?_
  refine zw_aload ⟨rfl, rfl⟩ rfl ?_
  refine zw_getIv (v := T.1) ⟨rfl, rfl⟩ zc_208 (by decide) ((zup_na (by decide)).trans ((zup_na (by decide)).trans ((zup_na (by decide)).trans ((zup_na (by decide)).trans ((zup_na (by decide)).trans ((zup_na (by decide)).trans (hD.1))))))) ?_
  refine zw_aload ⟨rfl, rfl⟩ rfl ?_
  refine zw_iload ⟨rfl, rfl⟩ rfl ?_
  refine zw_iload ⟨rfl, rfl⟩ rfl ?_
  refine zw_callv3 ⟨rfl, rfl⟩ rfl zc_208 rfl ?_
  refine m_widthOf hV (hM.cg (by rw [zup_row (by decide), zup_row (by decide), zup_row (by decide), zup_row (by decide), zup_row (by decide), zup_row (by decide)])) hl ?_
  refine zw_iast ⟨rfl, rfl⟩ za_233 (by omega) ?_
  refine zw_iload ⟨rfl, rfl⟩ rfl ?_
  refine zw_const ⟨rfl, rfl⟩ ?_
  refine zw_iceq ⟨rfl, rfl⟩ rfl (fun c1 => ?_) (fun c1 => ?_)
  · skip
    refine zw_aload ⟨rfl, rfl⟩ rfl ?_
    refine zw_dup ⟨rfl, rfl⟩ (by decide) ?_
    refine zw_getIv (v := T.1) ⟨rfl, rfl⟩ zc_208 (by decide) ((zup_na (by decide)).trans ((zup_na (by decide)).trans ((zup_na (by decide)).trans ((zup_na (by decide)).trans ((zup_na (by decide)).trans ((zup_na (by decide)).trans ((zup_na (by decide)).trans (hD.1)))))))) ?_
    refine zw_const ⟨rfl, rfl⟩ ?_
    refine zw_iadd ⟨rfl, rfl⟩ (by omega) ?_
    refine zw_putI ⟨rfl, rfl⟩ zc_208 (by decide) (fun h => absurd h (by decide)) ?_
    refine zw_void rfl ?_
    refine k _ ⟨?_, ⟨fun x x1 x2 => ?_, fun j hj => ?_⟩⟩
    · rw [if_pos (by omega)]
      refine ⟨zup_eq _ _ _ _, by show 0 ≤ T.1 + 1; omega, fun j q1 q2 => ?_, fun q q1 q2 => ?_⟩
      · by_cases hj : j = T.1
        · subst hj
          refine ⟨?_, ?_, ?_, ?_, ?_, ?_, ?_⟩
          all_goals first | (simp [zup, yem, yrw, yshb]; done) | (simp [zup, yem, yrw, yshb, yW]; exact hw)
        · have := hD.2.2.1 j q1 (by have : j < T.1 + 1 := q2; omega)
          unfold yW at this ⊢
          simp [zup, yem, yshb, hj]; exact this
      · have := hD.2.2.2 q q1 q2
        exact this
    · rw [zup_row x2, zup_row (by omega), zup_row (by omega), zup_row (by omega), zup_row (by omega), zup_row (by omega), zup_row (by omega), zup_row (by omega)]
    · rw [zup_ni hj, zup_na (by decide), zup_na (by decide), zup_na (by decide), zup_na (by decide), zup_na (by decide), zup_na (by decide), zup_na (by decide)]
  · skip
    refine zw_aload ⟨rfl, rfl⟩ rfl ?_
    refine zw_getR 234 ⟨rfl, rfl⟩ zr_208_30 ?_
    refine zw_iload ⟨rfl, rfl⟩ rfl ?_
    refine zw_aload ⟨rfl, rfl⟩ rfl ?_
    refine zw_getIv (v := T.1) ⟨rfl, rfl⟩ zc_208 (by decide) ((zup_na (by decide)).trans ((zup_na (by decide)).trans ((zup_na (by decide)).trans ((zup_na (by decide)).trans ((zup_na (by decide)).trans ((zup_na (by decide)).trans ((zup_na (by decide)).trans (hD.1)))))))) ?_
    refine zw_iast ⟨rfl, rfl⟩ za_234 (by omega) ?_
    refine zw_aload ⟨rfl, rfl⟩ rfl ?_
    refine zw_dup ⟨rfl, rfl⟩ (by decide) ?_
    refine zw_getIv (v := T.1) ⟨rfl, rfl⟩ zc_208 (by decide) ((zup_na (by decide)).trans ((zup_na (by decide)).trans ((zup_na (by decide)).trans ((zup_na (by decide)).trans ((zup_na (by decide)).trans ((zup_na (by decide)).trans ((zup_na (by decide)).trans ((zup_na (by decide)).trans (hD.1))))))))) ?_
    refine zw_const ⟨rfl, rfl⟩ ?_
    refine zw_iadd ⟨rfl, rfl⟩ (by omega) ?_
    refine zw_putI ⟨rfl, rfl⟩ zc_208 (by decide) (fun h => absurd h (by decide)) ?_
    refine zw_void rfl ?_
    refine k _ ⟨?_, ⟨fun x x1 x2 => ?_, fun j hj => ?_⟩⟩
    · rw [if_neg (by omega)]
      refine ⟨zup_eq _ _ _ _, by show 0 ≤ T.1 + 1; omega, fun j q1 q2 => ?_, fun q q1 q2 => ?_⟩
      · by_cases hj : j = T.1
        · subst hj
          refine ⟨?_, ?_, ?_, ?_, ?_, ?_, ?_⟩
          all_goals first | (simp [zup, yem, yrw, yshb]; done) | (simp [zup, yem, yrw, yshb, yW]; exact hw)
        · have := hD.2.2.1 j q1 (by have : j < T.1 + 1 := q2; omega)
          unfold yW at this ⊢
          simp [zup, yem, yshb, hj]; exact this
      · have := hD.2.2.2 q q1 q2
        by_cases hq : q = p
        · subst hq; simp [zup, yshb]
        · simp [zup, yem, yshb, hq]; exact this
    · rw [zup_row x2, zup_row (by omega), zup_row (by omega), zup_row (by omega), zup_row (by omega), zup_row (by omega), zup_row (by omega), zup_row (by omega), zup_row (by omega)]
    · rw [zup_ni hj, zup_na (by decide), zup_na (by decide), zup_na (by decide), zup_na (by decide), zup_na (by decide), zup_na (by decide), zup_na (by decide), zup_na (by decide)]

theorem m_showsAt {c rk f p : Int} {M : zM} {Q : zV → zM → Prop} {σ : yS} (hV : yVal σ) (hM : yMo M σ) {T : yT} (hD : yGm M T) (hp : p = -1 ∨ 0 ≤ p ∧ p < σ 0) (hg : p ≠ -1 → T.1 < 180) (hw : p ≠ -1 → ywo σ f (yL σ p) = ywd f rk) (k : ∀ N : zM, (yGm N (yplt σ c T f p rk) ∧ ygf M N) → Q (3, 0) N) : zWp kM_showsAt 0 [(1, 208), (0, c), (0, rk), (0, f), (0, p)] [] M Q := by
  have hn := hV.1
  refine zw_iload ⟨rfl, rfl⟩ rfl ?_
  refine zw_const ⟨rfl, rfl⟩ ?_
  refine zw_iceq ⟨rfl, rfl⟩ rfl (fun c1 => ?_) (fun c1 => ?_)
  · skip
    refine zw_void rfl ?_
    exact k _ ⟨by unfold yplt; rw [if_pos (by omega)]; exact hD, ygf.rf⟩
  · skip
    refine zw_aload ⟨rfl, rfl⟩ rfl ?_
    refine zw_iload ⟨rfl, rfl⟩ rfl ?_
    refine zw_iload ⟨rfl, rfl⟩ rfl ?_
    refine zw_iload ⟨rfl, rfl⟩ rfl ?_
    refine zw_aload ⟨rfl, rfl⟩ rfl ?_
    refine zw_iload ⟨rfl, rfl⟩ rfl ?_
    refine zw_callv2 ⟨rfl, rfl⟩ rfl zc_208 rfl ?_
    refine m_MletterAt hV hM ⟨by omega, by omega⟩ ?_
    refine zw_iload ⟨rfl, rfl⟩ rfl ?_
    refine zw_cavv6 ⟨rfl, rfl⟩ rfl zc_208 rfl ?_
    refine m_shows hV hM hD (Or.inr (yL_r hV (by omega) (by omega))) (Or.inr ⟨by omega, by omega⟩) (hg (by omega)) (hw (by omega)) (fun N1 p1 => ?_)
    refine zw_void rfl ?_
    have p11 := p1.1
    rw [if_neg (by omega)] at p11
    exact k _ ⟨by unfold yplt; rw [if_neg (by omega)]; exact p11, p1.2⟩

theorem m_showsWith {k gl : Int} {M : zM} {Q : zV → zM → Prop} {σ : yS} {b : Int} {T : yT} (hD : yGm M T) (hB : yMb M σ b) (hk : 0 ≤ k ∧ k < yms (yK σ) b ∧ yms (yK σ) b ≤ 60) (hv : yvi (yK σ) (yP σ b k) = -1 ∨ (0 ≤ yvi (yK σ) (yP σ b k) ∧ yvi (yK σ) (yP σ b k) < 60)) (kk : ∀ N : zM, (yGm N (yshb T (yvi (yK σ) (yP σ b k)) gl) ∧ ygf M N) → Q (3, 0) N) : zWp kM_showsWith 0 [(1, 208), (0, k), (0, gl)] [] M Q := by
  refine zw_aload ⟨rfl, rfl⟩ rfl ?_
  refine zw_getR 224 ⟨rfl, rfl⟩ zr_208_18 ?_
  refine zw_iload ⟨rfl, rfl⟩ rfl ?_
  refine zw_ialdv (v := yvi (yK σ) (yP σ b k)) ⟨rfl, rfl⟩ za_224 (by omega) ((hB.2 k hk.1 hk.2.1).2.2.1) ?_
  refine zw_const ⟨rfl, rfl⟩ ?_
  refine zw_iceq ⟨rfl, rfl⟩ rfl (fun c1 => ?_) (fun c1 => ?_)
  · skip
    refine zw_void rfl ?_
    refine kk _ ⟨hD.sx rfl rfl (fun q q1 q2 => ?_), ygf.rf⟩
    show T.2.2 q = if q = _ then gl else T.2.2 q
    rw [if_neg (by omega)]
  · skip
    refine zw_aload ⟨rfl, rfl⟩ rfl ?_
    refine zw_getR 234 ⟨rfl, rfl⟩ zr_208_30 ?_
    refine zw_aload ⟨rfl, rfl⟩ rfl ?_
    refine zw_getR 224 ⟨rfl, rfl⟩ zr_208_18 ?_
    refine zw_iload ⟨rfl, rfl⟩ rfl ?_
    refine zw_ialdv (v := yvi (yK σ) (yP σ b k)) ⟨rfl, rfl⟩ za_224 (by omega) ((hB.2 k hk.1 hk.2.1).2.2.1) ?_
    refine zw_iload ⟨rfl, rfl⟩ rfl ?_
    refine zw_iast ⟨rfl, rfl⟩ za_234 (by omega) ?_
    refine zw_void rfl ?_
    refine kk _ ⟨⟨hD.1, hD.2.1, hD.2.2.1, fun q q1 q2 => ?_⟩, ⟨fun x x1 x2 => zup_row (by omega), fun j hj => rfl⟩⟩
    have := hD.2.2.2 q q1 q2
    by_cases hq : q = yvi (yK σ) (yP σ b k)
    · rw [hq, zup_eq]; exact (if_pos rfl).symm
    · rw [zup_ni hq]; exact this.trans (if_neg hq).symm

section
set_option maxHeartbeats 8000000
theorem m_showsSigns_l {c kd rk : Int} {M : zM} {Q : zV → zM → Prop} {σ : yS} {b : Int} (hV : yVal σ) (hA : yMa M σ b) (hB : (0 ≤ b ∧ b < σ 0) ∧ ybg (yK σ) b) {T : yT} (hD : yGm M T) (hkd : (5 ≤ kd ∧ kd ≤ 8) ∧ ((kd = 5 ∨ kd = 8) ↔ (rk = 0 ∨ rk = 8))) (hg : T.1 + ysm (ycs σ kd) (ytl (yK σ) b) (yov (yK σ) b) ≤ 180) (k : ∀ N : zM, (yGm N (ysgn σ kd rk c b T) ∧ ygf M N) → Q (3, 0) N) : ∀ (f : Nat) (p : Int) (u0 u1 u2 u3 : zV) (N : zM), (ytl (yK σ) b ≤ p ∧ p ≤ yov (yK σ) b) → (yGm N (yfo (ysgs σ kd rk c) (ytl (yK σ) b) p T)) → (ygf M N) → (yov (yK σ) b - p).toNat < f → zWp kM_showsSigns 3 [(1, 208), (0, c), (0, rk), (0, kd), (0, yov (yK σ) b), (0, p), u0, u1, u2, u3] [] N Q := by
  intro f
  induction f with
  | zero => intro p u0 u1 u2 u3 N i1 i2 i3 hf; exact absurd hf (Nat.not_lt_zero _)
  | succ f ih =>
    intro p u0 u1 u2 u3 N i1 i2 i3 hf
    have hK := yKr_K hV
    have hov := (yov_sp hK hB.1.1 hB.1.2 hB.2).2.1
    have hn := hV.1
    have hM2 : yMo N σ := hA.1.cg (i3.1 209 (by decide) (by decide))
    refine zw_iload ⟨rfl, rfl⟩ rfl ?_
    refine zw_iload ⟨rfl, rfl⟩ rfl ?_
    refine zw_icge ⟨rfl, rfl⟩ rfl (fun c1 => ?_) (fun c1 => ?_)
    · skip
      refine zw_void rfl ?_
      refine k _ ⟨?_, i3⟩
      have e : p = yov (yK σ) b := by omega
      unfold ysgn
      rw [← e]
      exact i2
    · skip
      have hs1 := yfo_sg σ (kd := kd) (by omega) rk c T i1.1
      have hs2 := ysm_s (ycs σ kd) i1.1
      have hs3 := ysm_mo (ycs σ kd) (fun q => (ycs_r σ kd q).1) (show ytl (yK σ) b ≤ p + 1 by omega) (show p + 1 ≤ yov (yK σ) b by omega)
      have hs4 : ycs σ kd p = _ := rfl
      conv at hs4 => rhs; unfold ycs
      obtain ⟨TT, hTT⟩ : ∃ TT, TT = (yfo (ysgs σ kd rk c) (ytl (yK σ) b) p T) := ⟨_, rfl⟩
      rw [← hTT] at i2 hs1
      have hT0 := i2.2.1
      have hpn : ¬ p = -1 := by omega
      have hl := yL_r hV (show 0 ≤ p by omega) (show p < σ 0 by omega)
      have hkp := yK_L hV (show 0 ≤ p by omega) (show p < σ 0 by omega)
      refine zw_aload ⟨rfl, rfl⟩ rfl ?_
      refine zw_iload ⟨rfl, rfl⟩ rfl ?_
      refine zw_callv2 ⟨rfl, rfl⟩ rfl zc_208 rfl ?_
      refine m_MletterAt hV hM2 ⟨by omega, by omega⟩ ?_
      refine zw_istore_6 ⟨rfl, rfl⟩ ?_
      refine zw_aload ⟨rfl, rfl⟩ rfl ?_
      refine zw_iload ⟨rfl, rfl⟩ rfl ?_
      refine zw_callv2 ⟨rfl, rfl⟩ rfl zc_208 rfl ?_
      refine m_MkindOf hV hM2 hl ?_
      rw [hkp]
      refine zw_iload ⟨rfl, rfl⟩ rfl ?_
      refine zw_icne ⟨rfl, rfl⟩ rfl (fun c2 => ?_) (fun c2 => ?_)
      · skip
        refine zw_aload ⟨rfl, rfl⟩ rfl ?_
        refine zw_iload ⟨rfl, rfl⟩ rfl ?_
        refine zw_callv2 ⟨rfl, rfl⟩ rfl zc_208 rfl ?_
        refine m_MkindOf hV hM2 hl ?_
        rw [hkp]
        refine zw_const ⟨rfl, rfl⟩ ?_
        refine zw_iceq ⟨rfl, rfl⟩ rfl (fun c3 => ?_) (fun c3 => ?_)
        · skip
          have hk9 : yK σ p = 9 := by omega
          rw [if_neg (by omega), if_pos hk9] at hs4
          have hpt := hV.2.2.2.1 _ hl.1 hl.2 (by rw [hkp]; exact hk9)
          have e0 : ypt σ (yL σ p) 0 = σ (54 + yL σ p) := by unfold ypt ykd; rw [if_pos hl, hkp, if_pos hk9, if_pos rfl]
          have e1 : ypt σ (yL σ p) 1 = σ (80 + yL σ p) := by unfold ypt ykd; rw [if_pos hl, hkp, if_pos hk9, if_neg (by decide)]
          have k0 : ykd σ (ypt σ (yL σ p) 0) = σ (2 + σ (54 + yL σ p)) := by rw [e0]; exact if_pos ⟨hpt.1.1, hpt.1.2.1⟩
          have k1 : ykd σ (ypt σ (yL σ p) 1) = σ (2 + σ (80 + yL σ p)) := by rw [e1]; exact if_pos ⟨hpt.2.1, hpt.2.2.1⟩
          rw [k0, k1] at hs4
          refine zw_aload ⟨rfl, rfl⟩ rfl ?_
          refine zw_getR 209 ⟨rfl, rfl⟩ zr_208_1 ?_
          refine zw_const ⟨rfl, rfl⟩ ?_
          refine zw_iload ⟨rfl, rfl⟩ rfl ?_
          refine zw_iadd ⟨rfl, rfl⟩ (by omega) ?_
          refine zw_ialdv (v := σ (54 + yL σ p)) ⟨rfl, rfl⟩ za_209 (by omega) (hM2 _ (by omega) (by omega)) ?_
          refine zw_istore_7 ⟨rfl, rfl⟩ ?_
          refine zw_aload ⟨rfl, rfl⟩ rfl ?_
          refine zw_getR 209 ⟨rfl, rfl⟩ zr_208_1 ?_
          refine zw_const ⟨rfl, rfl⟩ ?_
          refine zw_iload ⟨rfl, rfl⟩ rfl ?_
          refine zw_iadd ⟨rfl, rfl⟩ (by omega) ?_
          refine zw_ialdv (v := σ (80 + yL σ p)) ⟨rfl, rfl⟩ za_209 (by omega) (hM2 _ (by omega) (by omega)) ?_
          refine zw_istore_8 ⟨rfl, rfl⟩ ?_
          refine zw_aload ⟨rfl, rfl⟩ rfl ?_
          refine zw_getR 234 ⟨rfl, rfl⟩ zr_208_30 ?_
          refine zw_iload ⟨rfl, rfl⟩ rfl ?_
          refine zw_ialdv (v := TT.2.2 p) ⟨rfl, rfl⟩ za_234 (by omega) (i2.2.2.2 p (by omega) (by omega)) ?_
          refine zw_istore_9 ⟨rfl, rfl⟩ ?_
          refine zw_aload ⟨rfl, rfl⟩ rfl ?_
          refine zw_iload ⟨rfl, rfl⟩ rfl ?_
          refine zw_callv2 ⟨rfl, rfl⟩ rfl zc_208 rfl ?_
          refine m_MkindOf hV hM2 ⟨hpt.1.1, hpt.1.2.1⟩ ?_
          refine zw_iload ⟨rfl, rfl⟩ rfl ?_
          refine zw_icne ⟨rfl, rfl⟩ rfl (fun c4 => ?_) (fun c4 => ?_)
          · skip
            have hq1 : ¬ ykd σ (ypt σ (yL σ p) 0) = kd := by omega
            rw [if_neg (by omega)] at hs4
            refine zw_aload ⟨rfl, rfl⟩ rfl ?_
            refine zw_iload ⟨rfl, rfl⟩ rfl ?_
            refine zw_callv2 ⟨rfl, rfl⟩ rfl zc_208 rfl ?_
            refine m_MkindOf hV hM2 ⟨hpt.2.1, hpt.2.2.1⟩ ?_
            refine zw_iload ⟨rfl, rfl⟩ rfl ?_
            refine zw_icne ⟨rfl, rfl⟩ rfl (fun c5 => ?_) (fun c5 => ?_)
            · skip
              have hq2 : ¬ ykd σ (ypt σ (yL σ p) 1) = kd := by omega
              rw [if_neg (by omega)] at hs4
              refine zw_aload ⟨rfl, rfl⟩ rfl ?_
              refine zw_getR 234 ⟨rfl, rfl⟩ zr_208_30 ?_
              refine zw_iload ⟨rfl, rfl⟩ rfl ?_
              refine zw_iload ⟨rfl, rfl⟩ rfl ?_
              refine zw_iast ⟨rfl, rfl⟩ za_234 (by omega) ?_
              refine zw_iinc_5 ⟨rfl, rfl⟩ (by omega) ?_
              refine zw_goto ⟨rfl, rfl⟩ rfl ?_
              refine ih _  _ _ _ _ _ ⟨by omega, by omega⟩ ?_ (i3.tr ⟨fun x x1 x2 => zup_row (by omega), fun j hj => rfl⟩) (by omega)
              rw [yfo_s _ i1.1, ← hTT]
              unfold ysgs
              rw [if_neg (by omega), if_pos (by omega)]
              have D := i2
              unfold ydp
              first
                | rw [if_pos hq1, if_pos rfl, if_pos hq2, if_neg (by decide)]
                | rw [if_pos hq1, if_pos rfl, if_neg hq2]
                | rw [if_neg hq1, if_pos hq2, if_neg (by decide)]
                | rw [if_neg hq1, if_neg hq2]
              try simp only [e0, e1]
              refine ⟨D.1, D.2.1, D.2.2.1, fun q q1 q2 => ?_⟩
              have h9 := D.2.2.2 q q1 q2
              have h8 := i2.2.2.2 q q1 q2
              by_cases e : q = p
              · subst e; simp [zup, yem, yshb]
              · rw [zup_ni e]; refine h9.trans ?_; simp [yem, yshb, e]
            · skip
              have hq2 : ykd σ (ypt σ (yL σ p) 1) = kd := by omega
              rw [if_pos (by omega)] at hs4
              refine zw_aload ⟨rfl, rfl⟩ rfl ?_
              refine zw_iload ⟨rfl, rfl⟩ rfl ?_
              refine zw_iload ⟨rfl, rfl⟩ rfl ?_
              refine zw_const ⟨rfl, rfl⟩ ?_
              refine zw_iload ⟨rfl, rfl⟩ rfl ?_
              refine zw_iload ⟨rfl, rfl⟩ rfl ?_
              refine zw_cavv6 ⟨rfl, rfl⟩ rfl zc_208 rfl ?_
              refine m_shows hV hM2 i2 (Or.inr ⟨hpt.2.1, hpt.2.2.1⟩) (Or.inr ⟨by omega, by omega⟩) (by omega) (ywo_6 (by omega) (kd := kd) (by omega) hkd.2) (fun N1 p1 => ?_)
              rw [if_neg hpn] at p1
              refine zw_aload ⟨rfl, rfl⟩ rfl ?_
              refine zw_getR 234 ⟨rfl, rfl⟩ zr_208_30 ?_
              refine zw_iload ⟨rfl, rfl⟩ rfl ?_
              refine zw_iload ⟨rfl, rfl⟩ rfl ?_
              refine zw_iast ⟨rfl, rfl⟩ za_234 (by omega) ?_
              refine zw_iinc_5 ⟨rfl, rfl⟩ (by omega) ?_
              refine zw_goto ⟨rfl, rfl⟩ rfl ?_
              refine ih _  _ _ _ _ _ ⟨by omega, by omega⟩ ?_ ((i3.tr p1.2).tr ⟨fun x x1 x2 => zup_row (by omega), fun j hj => rfl⟩) (by omega)
              rw [yfo_s _ i1.1, ← hTT]
              unfold ysgs
              rw [if_neg (by omega), if_pos (by omega)]
              have D := p1.1
              unfold ydp
              first
                | rw [if_pos hq1, if_pos rfl, if_pos hq2, if_neg (by decide)]
                | rw [if_pos hq1, if_pos rfl, if_neg hq2]
                | rw [if_neg hq1, if_pos hq2, if_neg (by decide)]
                | rw [if_neg hq1, if_neg hq2]
              try simp only [e0, e1]
              refine ⟨D.1, D.2.1, D.2.2.1, fun q q1 q2 => ?_⟩
              have h9 := D.2.2.2 q q1 q2
              have h8 := i2.2.2.2 q q1 q2
              by_cases e : q = p
              · subst e; simp [zup, yem, yshb]
              · rw [zup_ni e]; refine h9.trans ?_; simp [yem, yshb, e]
          · skip
            have hq1 : ykd σ (ypt σ (yL σ p) 0) = kd := by omega
            rw [if_pos (by omega)] at hs4
            refine zw_aload ⟨rfl, rfl⟩ rfl ?_
            refine zw_iload ⟨rfl, rfl⟩ rfl ?_
            refine zw_iload ⟨rfl, rfl⟩ rfl ?_
            refine zw_const ⟨rfl, rfl⟩ ?_
            refine zw_iload ⟨rfl, rfl⟩ rfl ?_
            refine zw_iload ⟨rfl, rfl⟩ rfl ?_
            refine zw_cavv6 ⟨rfl, rfl⟩ rfl zc_208 rfl ?_
            refine m_shows hV hM2 i2 (Or.inr ⟨hpt.1.1, hpt.1.2.1⟩) (Or.inr ⟨by omega, by omega⟩) (by omega) (ywo_6 (by omega) (kd := kd) (by omega) hkd.2) (fun N1 p1 => ?_)
            rw [if_neg hpn] at p1
            refine zw_aload ⟨rfl, rfl⟩ rfl ?_
            refine zw_getIv (v := TT.1 + 1) ⟨rfl, rfl⟩ zc_208 (by decide) (p1.1.1) ?_
            refine zw_const ⟨rfl, rfl⟩ ?_
            refine zw_isub ⟨rfl, rfl⟩ (by omega) ?_
            rw [show (TT.1 + 1) - 1 = TT.1 by omega]
            refine zw_istore_9 ⟨rfl, rfl⟩ ?_
            refine zw_aload ⟨rfl, rfl⟩ rfl ?_
            refine zw_iload ⟨rfl, rfl⟩ rfl ?_
            refine zw_callv2 ⟨rfl, rfl⟩ rfl zc_208 rfl ?_
            refine m_MkindOf hV (hM2.cg (p1.2.1 209 (by decide) (by decide))) ⟨hpt.2.1, hpt.2.2.1⟩ ?_
            refine zw_iload ⟨rfl, rfl⟩ rfl ?_
            refine zw_icne ⟨rfl, rfl⟩ rfl (fun c6 => ?_) (fun c6 => ?_)
            · skip
              have hq2 : ¬ ykd σ (ypt σ (yL σ p) 1) = kd := by omega
              rw [if_neg (by omega)] at hs4
              refine zw_aload ⟨rfl, rfl⟩ rfl ?_
              refine zw_getR 234 ⟨rfl, rfl⟩ zr_208_30 ?_
              refine zw_iload ⟨rfl, rfl⟩ rfl ?_
              refine zw_iload ⟨rfl, rfl⟩ rfl ?_
              refine zw_iast ⟨rfl, rfl⟩ za_234 (by omega) ?_
              refine zw_iinc_5 ⟨rfl, rfl⟩ (by omega) ?_
              refine zw_goto ⟨rfl, rfl⟩ rfl ?_
              refine ih _  _ _ _ _ _ ⟨by omega, by omega⟩ ?_ ((i3.tr p1.2).tr ⟨fun x x1 x2 => zup_row (by omega), fun j hj => rfl⟩) (by omega)
              rw [yfo_s _ i1.1, ← hTT]
              unfold ysgs
              rw [if_neg (by omega), if_pos (by omega)]
              have D := p1.1
              unfold ydp
              first
                | rw [if_pos hq1, if_pos rfl, if_pos hq2, if_neg (by decide)]
                | rw [if_pos hq1, if_pos rfl, if_neg hq2]
                | rw [if_neg hq1, if_pos hq2, if_neg (by decide)]
                | rw [if_neg hq1, if_neg hq2]
              try simp only [e0, e1]
              refine ⟨D.1, D.2.1, D.2.2.1, fun q q1 q2 => ?_⟩
              have h9 := D.2.2.2 q q1 q2
              have h8 := i2.2.2.2 q q1 q2
              by_cases e : q = p
              · subst e; simp [zup, yem, yshb]
              · rw [zup_ni e]; refine h9.trans ?_; simp [yem, yshb, e]
            · skip
              have hq2 : ykd σ (ypt σ (yL σ p) 1) = kd := by omega
              rw [if_pos (by omega)] at hs4
              refine zw_aload ⟨rfl, rfl⟩ rfl ?_
              refine zw_iload ⟨rfl, rfl⟩ rfl ?_
              refine zw_iload ⟨rfl, rfl⟩ rfl ?_
              refine zw_const ⟨rfl, rfl⟩ ?_
              refine zw_iload ⟨rfl, rfl⟩ rfl ?_
              refine zw_iload ⟨rfl, rfl⟩ rfl ?_
              refine zw_cavv6 ⟨rfl, rfl⟩ rfl zc_208 rfl ?_
              refine m_shows hV (hM2.cg (p1.2.1 209 (by decide) (by decide))) p1.1 (Or.inr ⟨hpt.2.1, hpt.2.2.1⟩) (Or.inr ⟨by omega, by omega⟩) (by show TT.1 + 1 < 180; omega) (ywo_6 (by omega) (kd := kd) (by omega) hkd.2) (fun N2 p2 => ?_)
              rw [if_neg hpn] at p2
              refine zw_aload ⟨rfl, rfl⟩ rfl ?_
              refine zw_getR 234 ⟨rfl, rfl⟩ zr_208_30 ?_
              refine zw_iload ⟨rfl, rfl⟩ rfl ?_
              refine zw_iload ⟨rfl, rfl⟩ rfl ?_
              refine zw_iast ⟨rfl, rfl⟩ za_234 (by omega) ?_
              refine zw_iinc_5 ⟨rfl, rfl⟩ (by omega) ?_
              refine zw_goto ⟨rfl, rfl⟩ rfl ?_
              refine ih _  _ _ _ _ _ ⟨by omega, by omega⟩ ?_ (((i3.tr p1.2).tr p2.2).tr ⟨fun x x1 x2 => zup_row (by omega), fun j hj => rfl⟩) (by omega)
              rw [yfo_s _ i1.1, ← hTT]
              unfold ysgs
              rw [if_neg (by omega), if_pos (by omega)]
              have D := p2.1
              unfold ydp
              first
                | rw [if_pos hq1, if_pos rfl, if_pos hq2, if_neg (by decide)]
                | rw [if_pos hq1, if_pos rfl, if_neg hq2]
                | rw [if_neg hq1, if_pos hq2, if_neg (by decide)]
                | rw [if_neg hq1, if_neg hq2]
              try simp only [e0, e1]
              refine ⟨D.1, D.2.1, D.2.2.1, fun q q1 q2 => ?_⟩
              have h9 := D.2.2.2 q q1 q2
              have h8 := i2.2.2.2 q q1 q2
              by_cases e : q = p
              · subst e; simp [zup, yem, yshb]
              · rw [zup_ni e]; refine h9.trans ?_; simp [yem, yshb, e]
        · skip
          have hk9 : ¬ yK σ p = 9 := by omega
          refine zw_goto ⟨rfl, rfl⟩ rfl ?_
          refine zw_iinc_5 ⟨rfl, rfl⟩ (by omega) ?_
          refine zw_goto ⟨rfl, rfl⟩ rfl ?_
          refine ih _  _ _ _ _ _ ⟨by omega, by omega⟩ ?_ i3 (by omega)
          rw [yfo_s _ i1.1, ← hTT]
          unfold ysgs
          rw [if_neg (by omega), if_neg (by omega)]
          exact i2
      · skip
        rw [if_pos (by omega)] at hs4
        refine zw_aload ⟨rfl, rfl⟩ rfl ?_
        refine zw_iload ⟨rfl, rfl⟩ rfl ?_
        refine zw_iload ⟨rfl, rfl⟩ rfl ?_
        refine zw_const ⟨rfl, rfl⟩ ?_
        refine zw_iload ⟨rfl, rfl⟩ rfl ?_
        refine zw_cavv5 ⟨rfl, rfl⟩ rfl zc_208 rfl ?_
        refine m_showsAt hV hM2 i2 (Or.inr ⟨by omega, by omega⟩) (fun _ => by omega) (fun _ => ywo_6 (by omega) (hkp.trans (by omega)) hkd.2) (fun N1 p1 => ?_)
        refine zw_aload ⟨rfl, rfl⟩ rfl ?_
        refine zw_iload ⟨rfl, rfl⟩ rfl ?_
        refine zw_callv2 ⟨rfl, rfl⟩ rfl zc_208 rfl ?_
        refine m_MkindOf hV (hM2.cg (p1.2.1 209 (by decide) (by decide))) hl ?_
        rw [hkp]
        refine zw_const ⟨rfl, rfl⟩ ?_
        refine zw_iceq ⟨rfl, rfl⟩ rfl (fun q => absurd q (by omega)) (fun _ => ?_)
        refine zw_goto ⟨rfl, rfl⟩ rfl ?_
        refine zw_iinc_5 ⟨rfl, rfl⟩ (by omega) ?_
        refine zw_goto ⟨rfl, rfl⟩ rfl ?_
        refine ih _  _ _ _ _ _ ⟨by omega, by omega⟩ ?_ (i3.tr p1.2) (by omega)
        rw [yfo_s _ i1.1, ← hTT]
        unfold ysgs
        rw [if_pos (by omega)]
        exact p1.1
end

theorem m_showsSigns {c kd rk : Int} {M : zM} {Q : zV → zM → Prop} {σ : yS} {b : Int} (hV : yVal σ) (hA : yMa M σ b) (hB : (0 ≤ b ∧ b < σ 0) ∧ ybg (yK σ) b) {T : yT} (hD : yGm M T) (hkd : (5 ≤ kd ∧ kd ≤ 8) ∧ ((kd = 5 ∨ kd = 8) ↔ (rk = 0 ∨ rk = 8))) (hg : T.1 + ysm (ycs σ kd) (ytl (yK σ) b) (yov (yK σ) b) ≤ 180) (k : ∀ N : zM, (yGm N (ysgn σ kd rk c b T) ∧ ygf M N) → Q (3, 0) N) : zWp kM_showsSigns 0 [(1, 208), (0, c), (0, rk), (0, kd), (0, yov (yK σ) b), (3, 0), (3, 0), (3, 0), (3, 0), (3, 0)] [] M Q := by
  have hK := yKr_K hV
  have hov := (yov_sp hK hB.1.1 hB.1.2 hB.2).2.1
  have hn := hV.1
  refine zw_aload ⟨rfl, rfl⟩ rfl ?_
  refine zw_getIv (v := ytl (yK σ) b) ⟨rfl, rfl⟩ zc_208 (by decide) (hA.2.1) ?_
  refine zw_istore_5 ⟨rfl, rfl⟩ ?_
  exact m_showsSigns_l hV hA hB hD hkd hg k _ _  _ _ _ _ _ ⟨Int.le_refl _, by omega⟩ (by rw [yfo_0 _ (Int.le_refl _)]; exact hD) ygf.rf (Nat.lt_succ_self _)

section
set_option maxHeartbeats 8000000
theorem m_showsKind_l {c kd rk : Int} {M : zM} {Q : zV → zM → Prop} {σ : yS} {b : Int} (hV : yVal σ) (hA : yMa M σ b) (hB : (0 ≤ b ∧ b < σ 0) ∧ ybg (yK σ) b) {T : yT} (hD : yGm M T) (hkd : (kd = 10 ∨ kd = 11) ∧ (kd = 11 ↔ rk = 9)) (hg : T.1 + ysm (ycm σ kd) (ytl (yK σ) b) (yov (yK σ) b) ≤ 180) (k : ∀ N : zM, (yGm N (ymrk σ kd rk c b T) ∧ ygf M N) → Q (3, 0) N) : ∀ (f : Nat) (p : Int) (N : zM), (ytl (yK σ) b ≤ p ∧ p ≤ yov (yK σ) b) → (yGm N (yfo (ymks σ kd rk c) (ytl (yK σ) b) p T)) → (ygf M N) → (yov (yK σ) b - p).toNat < f → zWp kM_showsKind 3 [(1, 208), (0, c), (0, rk), (0, kd), (0, yov (yK σ) b), (0, p)] [] N Q := by
  intro f
  induction f with
  | zero => intro p N i1 i2 i3 hf; exact absurd hf (Nat.not_lt_zero _)
  | succ f ih =>
    intro p N i1 i2 i3 hf
    have hK := yKr_K hV
    have hov := (yov_sp hK hB.1.1 hB.1.2 hB.2).2.1
    have hn := hV.1
    have hM2 : yMo N σ := hA.1.cg (i3.1 209 (by decide) (by decide))
    refine zw_iload ⟨rfl, rfl⟩ rfl ?_
    refine zw_iload ⟨rfl, rfl⟩ rfl ?_
    refine zw_icge ⟨rfl, rfl⟩ rfl (fun c1 => ?_) (fun c1 => ?_)
    · skip
      refine zw_void rfl ?_
      refine k _ ⟨?_, i3⟩
      have e : p = yov (yK σ) b := by omega
      unfold ymrk
      rw [← e]
      exact i2
    · skip
      have hs1 := yfo_mk σ (kd := kd) (by omega) rk c T i1.1
      have hs2 := ysm_s (ycm σ kd) i1.1
      have hs3 := ysm_mo (ycm σ kd) (fun q => (ycm_r σ kd q).1) (show ytl (yK σ) b ≤ p + 1 by omega) (show p + 1 ≤ yov (yK σ) b by omega)
      have hs4 : ycm σ kd p = _ := rfl
      conv at hs4 => rhs; unfold ycm
      obtain ⟨TT, hTT⟩ : ∃ TT, TT = (yfo (ymks σ kd rk c) (ytl (yK σ) b) p T) := ⟨_, rfl⟩
      rw [← hTT] at i2 hs1
      have hT0 := i2.2.1
      have hpn : ¬ p = -1 := by omega
      have hl := yL_r hV (show 0 ≤ p by omega) (show p < σ 0 by omega)
      have hkp := yK_L hV (show 0 ≤ p by omega) (show p < σ 0 by omega)
      refine zw_aload ⟨rfl, rfl⟩ rfl ?_
      refine zw_iload ⟨rfl, rfl⟩ rfl ?_
      refine zw_callv2 ⟨rfl, rfl⟩ rfl zc_208 rfl ?_
      refine m_MkindAt hV hM2 (by omega) ?_
      refine zw_iload ⟨rfl, rfl⟩ rfl ?_
      refine zw_icne ⟨rfl, rfl⟩ rfl (fun c2 => ?_) (fun c2 => ?_)
      · skip
        rw [if_neg (by omega)] at hs4
        refine zw_iinc_5 ⟨rfl, rfl⟩ (by omega) ?_
        refine zw_goto ⟨rfl, rfl⟩ rfl ?_
        refine ih _ _ ⟨by omega, by omega⟩ ?_ i3 (by omega)
        rw [yfo_s _ i1.1, ← hTT]
        unfold ymks
        rw [if_neg (by omega)]
        exact i2
      · skip
        rw [if_pos (by omega)] at hs4
        refine zw_aload ⟨rfl, rfl⟩ rfl ?_
        refine zw_iload ⟨rfl, rfl⟩ rfl ?_
        refine zw_iload ⟨rfl, rfl⟩ rfl ?_
        refine zw_const ⟨rfl, rfl⟩ ?_
        refine zw_iload ⟨rfl, rfl⟩ rfl ?_
        refine zw_cavv5 ⟨rfl, rfl⟩ rfl zc_208 rfl ?_
        refine m_showsAt hV hM2 i2 (Or.inr ⟨by omega, by omega⟩) (fun _ => by omega) (fun _ => ywo_7 (by omega) (hkp.trans (by omega)) hkd.2) (fun N1 p1 => ?_)
        refine zw_iinc_5 ⟨rfl, rfl⟩ (by omega) ?_
        refine zw_goto ⟨rfl, rfl⟩ rfl ?_
        refine ih _ _ ⟨by omega, by omega⟩ ?_ (i3.tr p1.2) (by omega)
        rw [yfo_s _ i1.1, ← hTT]
        unfold ymks
        rw [if_pos (by omega)]
        exact p1.1
end

theorem m_showsKind {c kd rk : Int} {M : zM} {Q : zV → zM → Prop} {σ : yS} {b : Int} (hV : yVal σ) (hA : yMa M σ b) (hB : (0 ≤ b ∧ b < σ 0) ∧ ybg (yK σ) b) {T : yT} (hD : yGm M T) (hkd : (kd = 10 ∨ kd = 11) ∧ (kd = 11 ↔ rk = 9)) (hg : T.1 + ysm (ycm σ kd) (ytl (yK σ) b) (yov (yK σ) b) ≤ 180) (k : ∀ N : zM, (yGm N (ymrk σ kd rk c b T) ∧ ygf M N) → Q (3, 0) N) : zWp kM_showsKind 0 [(1, 208), (0, c), (0, rk), (0, kd), (0, yov (yK σ) b), (3, 0)] [] M Q := by
  have hK := yKr_K hV
  have hov := (yov_sp hK hB.1.1 hB.1.2 hB.2).2.1
  have hn := hV.1
  refine zw_aload ⟨rfl, rfl⟩ rfl ?_
  refine zw_getIv (v := ytl (yK σ) b) ⟨rfl, rfl⟩ zc_208 (by decide) (hA.2.1) ?_
  refine zw_istore_5 ⟨rfl, rfl⟩ ?_
  exact m_showsKind_l hV hA hB hD hkd hg k _ _  _ ⟨Int.le_refl _, by omega⟩ (by rw [yfo_0 _ (Int.le_refl _)]; exact hD) ygf.rf (Nat.lt_succ_self _)
