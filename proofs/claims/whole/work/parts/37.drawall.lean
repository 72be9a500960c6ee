/-! All clusters' glyphs, one behind the other; widths; the class' measure and draw -/
def ywd (f rk : Int) : Int := if f = 0 ∨ f = 13 then 4 else if f = 1 then 2 else if f = 2 then 5 else if f = 3 ∨ f = 11 ∨ f = 12 then 3 else if f = 6 then (if rk = 0 ∨ rk = 8 then 2 else 0) else if f = 7 then (if rk = 9 then 1 else 0) else 0
theorem ywd_r (f rk : Int) : 0 ≤ ywd f rk ∧ ywd f rk ≤ 5 := by unfold ywd; (repeat' split) <;> omega
def yW (T : yT) (k : Int) : Int := ywd (T.2.1 0 k) (T.2.1 5 k)
def yTs (σ : yS) (S : Int → Int) : Nat → yT
  | 0 => (0, fun _ _ => 0, S)
  | c + 1 => ydrw σ c (yB (yK σ) c) (yTs σ S c)
def yTc (σ : yS) (S : Int → Int) (c : Int) : yT := yTs σ S c.toNat
theorem yTc_0 (σ : yS) (S : Int → Int) : yTc σ S 0 = (0, fun _ _ => 0, S) := rfl
theorem yTc_s (σ : yS) (S : Int → Int) {c : Int} (h : 0 ≤ c) : yTc σ S (c + 1) = ydrw σ c (yB (yK σ) c) (yTc σ S c) := by
  unfold yTc
  rw [show (c + 1).toNat = c.toNat + 1 by omega]
  show ydrw σ (c.toNat : Int) (yB (yK σ) (c.toNat : Int)) _ = _
  rw [show (c.toNat : Int) = c by omega]
theorem yTc_n {σ : yS} (hV : yVal σ) (S : Int → Int) {c : Int} (h0 : 0 ≤ c) (h1 : c ≤ yci (yK σ) (σ 0)) : 0 ≤ (yTc σ S c).1 ∧ (yTc σ S c).1 ≤ 3 * yB (yK σ) c := by
  have hK := yKr_K hV
  revert h1
  refine yind (P := fun c => c ≤ yci (yK σ) (σ 0) → 0 ≤ (yTc σ S c).1 ∧ (yTc σ S c).1 ≤ 3 * yB (yK σ) c) ?_ (fun c h3 ih => ?_) c h0
  · intro _; rw [yTc_0, yB_0]; simp
  · intro hc
    have ih := ih (by omega)
    obtain ⟨⟨a1, a2, a3⟩, a4, -⟩ := yB_cl hK h3 (show c < yci (yK σ) (σ 0) by omega)
    rw [yTc_s σ S h3, yB_ov hK h3 (by omega)]
    have := ydrw_n hV a1 (show yB (yK σ) c < σ 0 by omega) a4 c (yTc σ S c)
    have := (yPre_drw σ c (yB (yK σ) c) (yTc σ S c)).1
    omega
theorem yTc_a {σ : yS} (hV : yVal σ) (S S' : Int → Int) {c : Int} (h0 : 0 ≤ c) (h1 : c ≤ yci (yK σ) (σ 0)) : yAgr (fun q => 0 ≤ q ∧ q < yB (yK σ) c) (yTc σ S c) (yTc σ S' c) := by
  have hK := yKr_K hV
  revert h1
  refine yind (P := fun c => c ≤ yci (yK σ) (σ 0) → yAgr (fun q => 0 ≤ q ∧ q < yB (yK σ) c) (yTc σ S c) (yTc σ S' c)) ?_ (fun c h3 ih => ?_) c h0
  · intro _
    refine ⟨rfl, rfl, fun p hp => ?_⟩
    rw [yB_0] at hp; omega
  · intro hc
    obtain ⟨⟨a1, a2, a3⟩, a4, -⟩ := yB_cl hK h3 (show c < yci (yK σ) (σ 0) by omega)
    rw [yTc_s σ S h3, yTc_s σ S' h3, yB_ov hK h3 (by omega)]
    refine (yCov_drw hV a1 (show yB (yK σ) c < σ 0 by omega) a4 c _ _ _ (ih (by omega))).mo (fun q hq => ?_)
    by_cases e : q < yB (yK σ) c
    · exact Or.inl ⟨hq.1, e⟩
    · exact Or.inr ⟨by omega, hq.2⟩
/-- the glyphs of a script and text: those of the first c clusters -/
def yTk (σ : yS) (c : Int) : yT := yTc σ (fun _ => -1) c
def yX (σ : yS) (c : Int) : Int := ysm (yW (yTk σ c)) 0 (yTk σ c).1
theorem yTk_a {σ : yS} (hV : yVal σ) (S : Int → Int) {c : Int} (h0 : 0 ≤ c) (h1 : c ≤ yci (yK σ) (σ 0)) : yAgr (fun q => 0 ≤ q ∧ q < yB (yK σ) c) (yTc σ S c) (yTk σ c) := yTc_a hV S _ h0 h1
theorem ysm_cg {f g : Int → Int} {a p : Int} (h : ∀ k, a ≤ k → k < p → f k = g k) : ysm f a p = ysm g a p := by
  by_cases hp : a ≤ p
  · revert h
    refine yind (P := fun p => (∀ k, a ≤ k → k < p → f k = g k) → ysm f a p = ysm g a p) ?_ (fun q h3 ih => ?_) p hp
    · intro _; rw [ysm_0 _ (Int.le_refl _), ysm_0 _ (Int.le_refl _)]
    · intro h
      rw [ysm_s _ h3, ysm_s _ h3, ih (fun k k1 k2 => h k k1 (by omega)), h q h3 (by omega)]
  · rw [ysm_0 _ (by omega), ysm_0 _ (by omega)]
theorem ysm_add (f : Int → Int) {a b c : Int} (h : a ≤ b) (h2 : b ≤ c) : ysm f a c = ysm f a b + ysm f b c := by
  refine yind (P := fun c => ysm f a c = ysm f a b + ysm f b c) ?_ (fun q h3 ih => ?_) c h2
  · show ysm f a b = _; rw [ysm_0 f (Int.le_refl b)]; omega
  · show ysm f a (q + 1) = _; rw [ysm_s _ (by omega), ysm_s _ h3, ih]; omega
theorem ysm_b {f : Int → Int} {m : Int} (hf : ∀ k, 0 ≤ f k ∧ f k ≤ m) {a p : Int} (h : a ≤ p) : 0 ≤ ysm f a p ∧ ysm f a p ≤ m * (p - a) := by
  refine yind (P := fun p => 0 ≤ ysm f a p ∧ ysm f a p ≤ m * (p - a)) ?_ (fun q h3 ih => ?_) p h
  · show 0 ≤ ysm f a a ∧ _; rw [ysm_0 _ (Int.le_refl _), Int.sub_self, Int.mul_zero]; omega
  · show 0 ≤ ysm f a (q + 1) ∧ _
    rw [ysm_s _ h3, show q + 1 - a = (q - a) + 1 by omega, Int.mul_add, Int.mul_one]
    have := hf q
    omega
theorem yX_s {σ : yS} (hV : yVal σ) {c : Int} (h0 : 0 ≤ c) : yX σ (c + 1) = yX σ c + ysm (yW (yTk σ (c + 1))) (yTk σ c).1 (yTk σ (c + 1)).1 := by
  unfold yX
  have hp := yPre_drw σ c (yB (yK σ) c) (yTk σ c)
  have e : yTk σ (c + 1) = ydrw σ c (yB (yK σ) c) (yTk σ c) := yTc_s σ _ h0
  rw [← e] at hp
  have h0' : 0 ≤ (yTk σ c).1 := by
    have : ∀ k : Nat, 0 ≤ (yTs σ (fun _ => -1) k).1 := by
      intro k
      induction k with
      | zero => exact Int.le_refl _
      | succ k ih => exact Int.le_trans ih (yPre_drw σ k _ _).1
    exact this _
  rw [ysm_add (yW (yTk σ (c + 1))) h0' hp.1, ysm_cg (f := yW (yTk σ (c + 1))) (g := yW (yTk σ c)) (a := 0) (p := (yTk σ c).1) (fun k k1 k2 => by unfold yW; rw [hp.2 0 k k2, hp.2 5 k k2])]
theorem yX_r {σ : yS} (hV : yVal σ) {c : Int} (h0 : 0 ≤ c) (h1 : c ≤ yci (yK σ) (σ 0)) : 0 ≤ yX σ c ∧ yX σ c ≤ 900 := by
  have h := yTc_n hV (fun _ => -1) h0 h1
  have := ysm_b (f := yW (yTk σ c)) (m := 5) (fun k => ywd_r _ _) h.1
  have hb := (yB_r (yKr_K hV) h0 h1).1
  have hn := hV.1
  unfold yX
  have e : (yTk σ c).1 = (yTc σ (fun _ => -1) c).1 := rfl
  rw [e]
  omega

theorem m_wideOf {f rk : Int} {M : zM} {Q : zV → zM → Prop} (k : Q (0, ywd f rk) M) : zWp kX_wideOf 0 [(0, f), (0, rk)] [] M Q := by
  refine zw_iload ⟨rfl, rfl⟩ rfl ?_
  by_cases e1_0 : f = 0
  · refine zw_table ⟨rfl, rfl⟩ (t' := 2) (by rw [e1_0]; rfl) ?_
    refine zw_const ⟨rfl, rfl⟩ ?_
    refine zw_ret rfl ?_
    rw [show ywd f rk = 4 from by unfold ywd; grind] at k
    exact k
  by_cases e1_1 : f = 1
  · refine zw_table ⟨rfl, rfl⟩ (t' := 4) (by rw [e1_1]; rfl) ?_
    refine zw_const ⟨rfl, rfl⟩ ?_
    refine zw_ret rfl ?_
    rw [show ywd f rk = 2 from by unfold ywd; grind] at k
    exact k
  by_cases e1_2 : f = 2
  · refine zw_table ⟨rfl, rfl⟩ (t' := 6) (by rw [e1_2]; rfl) ?_
    refine zw_const ⟨rfl, rfl⟩ ?_
    refine zw_ret rfl ?_
    rw [show ywd f rk = 5 from by unfold ywd; grind] at k
    exact k
  by_cases e1_3 : f = 3
  · refine zw_table ⟨rfl, rfl⟩ (t' := 8) (by rw [e1_3]; rfl) ?_
    refine zw_const ⟨rfl, rfl⟩ ?_
    refine zw_ret rfl ?_
    rw [show ywd f rk = 3 from by unfold ywd; grind] at k
    exact k
  by_cases e1_4 : f = 4
  · refine zw_table ⟨rfl, rfl⟩ (t' := 26) (by rw [e1_4]; rfl) ?_
    refine zw_const ⟨rfl, rfl⟩ ?_
    refine zw_ret rfl ?_
    rw [show ywd f rk = 0 from by unfold ywd; grind] at k
    exact k
  by_cases e1_5 : f = 5
  · refine zw_table ⟨rfl, rfl⟩ (t' := 26) (by rw [e1_5]; rfl) ?_
    refine zw_const ⟨rfl, rfl⟩ ?_
    refine zw_ret rfl ?_
    rw [show ywd f rk = 0 from by unfold ywd; grind] at k
    exact k
  by_cases e1_6 : f = 6
  · refine zw_table ⟨rfl, rfl⟩ (t' := 10) (by rw [e1_6]; rfl) ?_
    refine zw_iload ⟨rfl, rfl⟩ rfl ?_
    refine zw_ifeq ⟨rfl, rfl⟩ rfl (fun c2 => ?_) (fun c2 => ?_)
    · skip
      refine zw_const ⟨rfl, rfl⟩ ?_
      refine zw_goto ⟨rfl, rfl⟩ rfl ?_
      refine zw_ret rfl ?_
      rw [show ywd f rk = 2 from by unfold ywd; grind] at k
      exact k
    · skip
      refine zw_iload ⟨rfl, rfl⟩ rfl ?_
      refine zw_const ⟨rfl, rfl⟩ ?_
      refine zw_icne ⟨rfl, rfl⟩ rfl (fun c3 => ?_) (fun c3 => ?_)
      · skip
        refine zw_const ⟨rfl, rfl⟩ ?_
        refine zw_ret rfl ?_
        rw [show ywd f rk = 0 from by unfold ywd; grind] at k
        exact k
      · skip
        refine zw_const ⟨rfl, rfl⟩ ?_
        refine zw_goto ⟨rfl, rfl⟩ rfl ?_
        refine zw_ret rfl ?_
        rw [show ywd f rk = 2 from by unfold ywd; grind] at k
        exact k
  by_cases e1_7 : f = 7
  · refine zw_table ⟨rfl, rfl⟩ (t' := 19) (by rw [e1_7]; rfl) ?_
    refine zw_iload ⟨rfl, rfl⟩ rfl ?_
    refine zw_const ⟨rfl, rfl⟩ ?_
    refine zw_icne ⟨rfl, rfl⟩ rfl (fun c4 => ?_) (fun c4 => ?_)
    · skip
      refine zw_const ⟨rfl, rfl⟩ ?_
      refine zw_ret rfl ?_
      rw [show ywd f rk = 0 from by unfold ywd; grind] at k
      exact k
    · skip
      refine zw_const ⟨rfl, rfl⟩ ?_
      refine zw_goto ⟨rfl, rfl⟩ rfl ?_
      refine zw_ret rfl ?_
      rw [show ywd f rk = 1 from by unfold ywd; grind] at k
      exact k
  by_cases e1_8 : f = 8
  · refine zw_table ⟨rfl, rfl⟩ (t' := 26) (by rw [e1_8]; rfl) ?_
    refine zw_const ⟨rfl, rfl⟩ ?_
    refine zw_ret rfl ?_
    rw [show ywd f rk = 0 from by unfold ywd; grind] at k
    exact k
  by_cases e1_9 : f = 9
  · refine zw_table ⟨rfl, rfl⟩ (t' := 26) (by rw [e1_9]; rfl) ?_
    refine zw_const ⟨rfl, rfl⟩ ?_
    refine zw_ret rfl ?_
    rw [show ywd f rk = 0 from by unfold ywd; grind] at k
    exact k
  by_cases e1_10 : f = 10
  · refine zw_table ⟨rfl, rfl⟩ (t' := 26) (by rw [e1_10]; rfl) ?_
    refine zw_const ⟨rfl, rfl⟩ ?_
    refine zw_ret rfl ?_
    rw [show ywd f rk = 0 from by unfold ywd; grind] at k
    exact k
  by_cases e1_11 : f = 11
  · refine zw_table ⟨rfl, rfl⟩ (t' := 8) (by rw [e1_11]; rfl) ?_
    refine zw_const ⟨rfl, rfl⟩ ?_
    refine zw_ret rfl ?_
    rw [show ywd f rk = 3 from by unfold ywd; grind] at k
    exact k
  by_cases e1_12 : f = 12
  · refine zw_table ⟨rfl, rfl⟩ (t' := 8) (by rw [e1_12]; rfl) ?_
    refine zw_const ⟨rfl, rfl⟩ ?_
    refine zw_ret rfl ?_
    rw [show ywd f rk = 3 from by unfold ywd; grind] at k
    exact k
  by_cases e1_13 : f = 13
  · refine zw_table ⟨rfl, rfl⟩ (t' := 2) (by rw [e1_13]; rfl) ?_
    refine zw_const ⟨rfl, rfl⟩ ?_
    refine zw_ret rfl ?_
    rw [show ywd f rk = 4 from by unfold ywd; grind] at k
    exact k
  refine zw_table ⟨rfl, rfl⟩ (t' := 26) (by rw [ztgt_out (by show _ < (0 : Int) ∨ 0 + 14 ≤ _; omega)]; rfl) ?_
  refine zw_const ⟨rfl, rfl⟩ ?_
  refine zw_ret rfl ?_
  rw [show ywd f rk = 0 from by unfold ywd; grind] at k
  exact k

theorem m_measure_l  {i g0 X0 : Int} {M : zM} {Q : zV → zM → Prop} {c : Int} {T : yT} (hi : 0 ≤ i ∧ i < 60) (hD : yDr M c T) (hg : 0 ≤ g0 ∧ g0 ≤ T.1 ∧ T.1 ≤ 180) (h7 : M 137 i = g0 ∧ M 137 (i + 1) = T.1) (h6 : M 136 i = X0 ∧ 0 ≤ X0 ∧ X0 ≤ 900) (kk : ∀ N : zM, (N 136 (i + 1) = X0 + ysm (yW T) g0 T.1 ∧ (∀ j, j ≠ i + 1 → N 136 j = M 136 j) ∧ (∀ k, g0 ≤ k → k < T.1 → N 134 k = yW T k) ∧ (∀ k, k < g0 → N 134 k = M 134 k) ∧ ∀ x, x ≠ 134 → x ≠ 136 → N x = M x) → Q (3, 0) N) : ∀ (f : Nat) (p : Int) (N : zM), (g0 ≤ p ∧ p ≤ T.1) → (N 136 (i + 1) = X0 + ysm (yW T) g0 p ∧ ∀ j, j ≠ i + 1 → N 136 j = M 136 j) → ((∀ k, g0 ≤ k → k < p → N 134 k = yW T k) ∧ ∀ k, k < g0 → N 134 k = M 134 k) → (∀ x, x ≠ 134 → x ≠ 136 → N x = M x) → (T.1 - p).toNat < f → zWp kDr_measure 15 [(1, 126), (0, i), (0, p)] [] N Q := by
  intro f
  induction f with
  | zero => intro p N i1 i2 i3 i4 hf; exact absurd hf (Nat.not_lt_zero _)
  | succ f ih =>
    intro p N i1 i2 i3 i4 hf
    refine zw_iload ⟨rfl, rfl⟩ rfl ?_
    refine zw_aload ⟨rfl, rfl⟩ rfl ?_
    refine zw_getR 137 ⟨rfl, rfl⟩ zr_126_4 ?_
    refine zw_iload ⟨rfl, rfl⟩ rfl ?_
    refine zw_const ⟨rfl, rfl⟩ ?_
    refine zw_iadd ⟨rfl, rfl⟩ (by omega) ?_
    refine zw_ialdv (v := T.1) ⟨rfl, rfl⟩ za_137 (by omega) ((congrFun (i4 137 (by decide) (by decide)) (i + 1)).trans h7.2) ?_
    refine zw_icge ⟨rfl, rfl⟩ rfl (fun c1 => ?_) (fun c1 => ?_)
    · skip
      refine zw_void rfl ?_
      have e : p = T.1 := by omega
      rw [e] at i2 i3
      exact kk _ ⟨i2.1, i2.2, i3.1, i3.2, i4⟩
    · skip
      have hs := ysm_b (f := yW T) (m := 5) (fun k => ywd_r _ _) i1.1
      have hw : 0 ≤ yW T p ∧ yW T p ≤ 5 := ywd_r _ _
      refine zw_aload ⟨rfl, rfl⟩ rfl ?_
      refine zw_getR 127 ⟨rfl, rfl⟩ zr_126_1 ?_
      refine zw_const ⟨rfl, rfl⟩ ?_
      refine zw_row ⟨rfl, rfl⟩ zrw_127 (by omega) ?_
      rw [show ((128 : Int) + 6) = 134 from rfl]
      refine zw_iload ⟨rfl, rfl⟩ rfl ?_
      refine zw_aload ⟨rfl, rfl⟩ rfl ?_
      refine zw_getR 127 ⟨rfl, rfl⟩ zr_126_1 ?_
      refine zw_const ⟨rfl, rfl⟩ ?_
      refine zw_row ⟨rfl, rfl⟩ zrw_127 (by omega) ?_
      rw [show ((128 : Int) + 0) = 128 from rfl]
      refine zw_iload ⟨rfl, rfl⟩ rfl ?_
      refine zw_ialdv (v := T.2.1 0 p) ⟨rfl, rfl⟩ za_128 (by omega) ((congrFun (i4 128 (by decide) (by decide)) p).trans (hD.2.2.2.1 p (by omega) (by omega)).1) ?_
      refine zw_aload ⟨rfl, rfl⟩ rfl ?_
      refine zw_getR 127 ⟨rfl, rfl⟩ zr_126_1 ?_
      refine zw_const ⟨rfl, rfl⟩ ?_
      refine zw_row ⟨rfl, rfl⟩ zrw_127 (by omega) ?_
      rw [show ((128 : Int) + 5) = 133 from rfl]
      refine zw_iload ⟨rfl, rfl⟩ rfl ?_
      refine zw_ialdv (v := T.2.1 5 p) ⟨rfl, rfl⟩ za_133 (by omega) ((congrFun (i4 133 (by decide) (by decide)) p).trans (hD.2.2.2.1 p (by omega) (by omega)).2.2.2.2.2) ?_
      refine zw_calls2 ⟨rfl, rfl⟩ rfl rfl ?_
      refine m_wideOf  ?_
      refine zw_iast ⟨rfl, rfl⟩ za_134 (by omega) ?_
      refine zw_aload ⟨rfl, rfl⟩ rfl ?_
      refine zw_getR 136 ⟨rfl, rfl⟩ zr_126_3 ?_
      refine zw_iload ⟨rfl, rfl⟩ rfl ?_
      refine zw_const ⟨rfl, rfl⟩ ?_
      refine zw_iadd ⟨rfl, rfl⟩ (by omega) ?_
      refine zw_dup2 ⟨rfl, rfl⟩ ⟨by decide, by decide⟩ ?_
      refine zw_ialdv (v := X0 + ysm (yW T) g0 p) ⟨rfl, rfl⟩ za_136 (by omega) ((zup_na (by decide)).trans (i2.1)) ?_
      refine zw_aload ⟨rfl, rfl⟩ rfl ?_
      refine zw_getR 127 ⟨rfl, rfl⟩ zr_126_1 ?_
      refine zw_const ⟨rfl, rfl⟩ ?_
      refine zw_row ⟨rfl, rfl⟩ zrw_127 (by omega) ?_
      rw [show ((128 : Int) + 6) = 134 from rfl]
      refine zw_iload ⟨rfl, rfl⟩ rfl ?_
      refine zw_ialdv (v := yW T p) ⟨rfl, rfl⟩ za_134 (by omega) (zup_eq _ _ _ _) ?_
      refine zw_iadd ⟨rfl, rfl⟩ (by omega) ?_
      refine zw_iast ⟨rfl, rfl⟩ za_136 (by omega) ?_
      refine zw_iinc_2 ⟨rfl, rfl⟩ (by omega) ?_
      refine zw_goto ⟨rfl, rfl⟩ rfl ?_
      refine ih _ _ ⟨by omega, by omega⟩ ⟨?_, ?_⟩ ⟨?_, ?_⟩ ?_ (by omega)
      · rw [zup_eq, ysm_s _ i1.1]; omega
      · intro j hj; rw [zup_ni hj, zup_na (by decide)]; exact i2.2 j hj
      · intro k k1 k2
        rw [zup_na (by decide)]
        by_cases e : k = p
        · subst e; exact zup_eq _ _ _ _
        · rw [zup_ni e]; exact i3.1 k k1 (by omega)
      · intro k k1; rw [zup_na (by decide), zup_ni (by omega)]; exact i3.2 k k1
      · intro x x1 x2; rw [zup_row x2, zup_row x1]; exact i4 x x1 x2

theorem m_measure {i g0 X0 : Int} {M : zM} {Q : zV → zM → Prop} {c : Int} {T : yT} (hi : 0 ≤ i ∧ i < 60) (hD : yDr M c T) (hg : 0 ≤ g0 ∧ g0 ≤ T.1 ∧ T.1 ≤ 180) (h7 : M 137 i = g0 ∧ M 137 (i + 1) = T.1) (h6 : M 136 i = X0 ∧ 0 ≤ X0 ∧ X0 ≤ 900) (kk : ∀ N : zM, (N 136 (i + 1) = X0 + ysm (yW T) g0 T.1 ∧ (∀ j, j ≠ i + 1 → N 136 j = M 136 j) ∧ (∀ k, g0 ≤ k → k < T.1 → N 134 k = yW T k) ∧ (∀ k, k < g0 → N 134 k = M 134 k) ∧ ∀ x, x ≠ 134 → x ≠ 136 → N x = M x) → Q (3, 0) N) : zWp kDr_measure 0 [(1, 126), (0, i), (3, 0)] [] M Q := by
  refine zw_aload ⟨rfl, rfl⟩ rfl ?_
  refine zw_getR 136 ⟨rfl, rfl⟩ zr_126_3 ?_
  refine zw_iload ⟨rfl, rfl⟩ rfl ?_
  refine zw_const ⟨rfl, rfl⟩ ?_
  refine zw_iadd ⟨rfl, rfl⟩ (by omega) ?_
  refine zw_aload ⟨rfl, rfl⟩ rfl ?_
  refine zw_getR 136 ⟨rfl, rfl⟩ zr_126_3 ?_
  refine zw_iload ⟨rfl, rfl⟩ rfl ?_
  refine zw_ialdv (v := X0) ⟨rfl, rfl⟩ za_136 (by omega) (h6.1) ?_
  refine zw_iast ⟨rfl, rfl⟩ za_136 (by omega) ?_
  refine zw_aload ⟨rfl, rfl⟩ rfl ?_
  refine zw_getR 137 ⟨rfl, rfl⟩ zr_126_4 ?_
  refine zw_iload ⟨rfl, rfl⟩ rfl ?_
  refine zw_ialdv (v := g0) ⟨rfl, rfl⟩ za_137 (by omega) ((zup_na (by decide)).trans (h7.1)) ?_
  refine zw_istore_2 ⟨rfl, rfl⟩ ?_
  exact m_measure_l hi hD hg h7 h6 kk _ _ _ ⟨Int.le_refl _, hg.2.1⟩ ⟨by rw [zup_eq, ysm_0 _ (Int.le_refl _)]; omega, fun j hj => zup_ni hj⟩ ⟨fun k k1 k2 => by omega, fun k _ => rfl⟩ (fun x x1 x2 => zup_row x2) (Nat.lt_succ_self _)

theorem ymid_1 {σ : yS} {b : Int} (c : Int) (T : yT) (h0 : 0 ≤ b) (h : yK σ b ≠ 1) : (ymid σ c b T).1 = T.1 + 1 + (if yow (yK σ) b = -1 then 0 else 1) := by
  unfold ymid
  rw [if_neg h, yplt_1]
  have e : (if yso (yK σ b) = 2 then yem T 11 (-1) (-1) (-1) 2 c else if yso (yK σ b) = 1 then yplt σ c T 13 b 2 else yplt σ c T (if yK σ b = 12 ∨ yK σ b = 13 then 10 else 12) b 2).1 = T.1 + 1 := by
    split
    · rfl
    · split
      · rw [yplt_1, if_neg (by omega)]
      · rw [yplt_1, if_neg (by omega)]
  rw [e]
  split <;> omega
theorem ystage {σ : yS} {b c : Int} {T T1 T2 T3 T4 T5 T6 T7 T8 T9 T10 : yT} (hV : yVal σ) (hB : (0 ≤ b ∧ b < σ 0) ∧ ybg (yK σ) b) (hT : T.1 + 3 * (yov (yK σ) b - b) ≤ 180) (e1 : T1 = ysgn σ 5 0 c b T) (e2 : T2 = yahd σ c b T1) (e3 : T3 = ymid σ c b T2) (e4 : T4 = ystd σ c b T3) (e5 : T5 = ysgn σ 7 4 c b T4) (e6 : T6 = yded σ c b T5) (e7 : T7 = ysgn σ 6 5 c b T6) (e8 : T8 = yrph σ c b T7) (e9 : T9 = ymrk σ 10 7 c b T8) (e10 : T10 = ysgn σ 8 8 c b T9) : T.1 + ysm (ycs σ 5) (ytl (yK σ) b) (yov (yK σ) b) ≤ 180 ∧ (yK σ b = 1 → T1.1 + 2 * (yP σ b (yba σ (yK σ) b) - yP σ b (yrp σ (yK σ) b)) ≤ 180) ∧ (yK σ b = 1 → T2.1 + 2 ≤ 180) ∧ (yK σ b ≠ 1 → T2.1 + 1 + (if yow (yK σ) b = -1 then 0 else 1) ≤ 180) ∧ (yK σ b = 1 → T3.1 + 2 * (ym (yK σ) b - (yba σ (yK σ) b + 1)) ≤ 180) ∧ T4.1 + ysm (ycs σ 7) (ytl (yK σ) b) (yov (yK σ) b) ≤ 180 ∧ T6.1 ≤ 180 ∧ T6.1 + ysm (ycs σ 6) (ytl (yK σ) b) (yov (yK σ) b) ≤ 180 ∧ (T7.1 + 1 ≤ 180 ∨ yrp σ (yK σ) b = 0) ∧ T8.1 + ysm (ycm σ 10) (ytl (yK σ) b) (yov (yK σ) b) ≤ 180 ∧ T9.1 + ysm (ycs σ 8) (ytl (yK σ) b) (yov (yK σ) b) ≤ 180 ∧ T10.1 + ysm (ycm σ 11) (ytl (yK σ) b) (yov (yK σ) b) ≤ 180 := by
  obtain ⟨⟨h0, h1⟩, hb⟩ := hB
  have hK := yKr_K hV
  obtain ⟨⟨hru, -⟩, hov, -⟩ := yov_sp hK h0 h1 hb
  have hlt := hru.1
  have ht := ytail_n hV hov.2.1
  have s1 := yfo_sg σ (kd := 5) (by decide) 0 c T hov.2.1
  have hh := yhead_n hV h0 h1 hb c T1
  have s5 := yfo_sg σ (kd := 7) (by decide) 4 c T4 hov.2.1
  have s6 := yded_n hV h0 h1 hb c T5
  have s7 := yfo_sg σ (kd := 6) (by decide) 5 c T6 hov.2.1
  have s8 := (yrph_r c b T7 (σ := σ)).2
  have s9 := yfo_mk σ (kd := 10) (by decide) 7 c T8 hov.2.1
  have s10 := yfo_sg σ (kd := 8) (by decide) 8 c T9 hov.2.1
  have r1 : T1.1 = _ := (congrArg Prod.fst e1).trans s1
  have r5 : T5.1 = _ := (congrArg Prod.fst e5).trans s5
  have r7 : T7.1 = _ := (congrArg Prod.fst e7).trans s7
  have r9 : T9.1 = _ := (congrArg Prod.fst e9).trans s9
  have r10 : T10.1 = _ := (congrArg Prod.fst e10).trans s10
  have hr := (yrp_r σ (yK σ) b).1
  rw [← e2, ← e3, ← e4] at hh
  rw [← e6] at s6
  rw [← e8] at s8
  have nn : ∀ (f : Int → Int), (∀ q, 0 ≤ f q) → 0 ≤ ysm f (ytl (yK σ) b) (yov (yK σ) b) := fun f hf => by
    have := ysm_mo f hf (Int.le_refl (ytl (yK σ) b)) hov.2.1
    rw [ysm_0 _ (Int.le_refl _)] at this
    exact this
  have n5 := nn (ycs σ 5) (fun q => (ycs_r σ 5 q).1)
  have n6 := nn (ycs σ 6) (fun q => (ycs_r σ 6 q).1)
  have n7 := nn (ycs σ 7) (fun q => (ycs_r σ 7 q).1)
  have n8 := nn (ycs σ 8) (fun q => (ycs_r σ 8 q).1)
  have n10 := nn (ycm σ 10) (fun q => (ycm_r σ 10 q).1)
  have n11 := nn (ycm σ 11) (fun q => (ycm_r σ 11 q).1)
  have nd := nn (fun q => if yK σ q = 3 ∨ yK σ q = 12 ∨ yK σ q = 13 then 1 else 0) (fun q => by show (0 : Int) ≤ if _ then _ else _; split <;> omega)
  have : (if yrp σ (yK σ) b = 1 then (1 : Int) else 0) = yrp σ (yK σ) b := by split <;> omega
  have h3k : yK σ b ≠ 1 → T3.1 = T2.1 + 1 + (if yow (yK σ) b = -1 then 0 else 1) := fun z => by rw [e3]; exact ymid_1 c T2 h0 z
  have h2k : yK σ b = 1 → T2.1 + 2 ≤ T1.1 + 2 * (ytl (yK σ) b - b) := fun z => by
    have hz := yba_r (σ := σ) hK h0 h1 z
    have rm := ym_r hK h0 h1 z
    have ha := (yahd_r hV c T1 h0 h1 z hz.1 (Int.le_refl _)).2
    have e : yfo (yahs σ c b) (yrp σ (yK σ) b) (yba σ (yK σ) b) T1 = T2 := e2.symm
    rw [e] at ha
    have g2 := (yq_le hK h0 h1 z (show 0 ≤ yba σ (yK σ) b by omega) (by omega)).1
    have g3 := yq_r (yK σ) (ypl (yK σ) b (yba σ (yK σ) b))
    have g4 := (ypl_r hK h0 h1 z (show 0 ≤ yrp σ (yK σ) b by omega) (by omega)).1.2.1
    unfold yP at ha
    omega
  obtain ⟨hh1, hh2, hh3, hh4, hh5⟩ := hh
  refine ⟨by omega, fun z => ?_, fun z => ?_, fun z => ?_, fun z => ?_, by omega, by omega, by omega, ?_, by omega, by omega, by omega⟩
  · have := hh1 z; omega
  · have := h2k z; omega
  · have := h3k z; omega
  · have := hh2 z; omega
  · rcases hr with z | z
    · exact Or.inr z
    · left; omega

section
set_option maxHeartbeats 8000000
theorem m_draw {c c0 : Int} {M : zM} {Q : zV → zM → Prop} {σ : yS} {T : yT} (hV : yVal σ) (hX : yCx M σ (yB (yK σ) c)) (hc : 0 ≤ c ∧ c < yci (yK σ) (σ 0)) (hD : yDr M c0 T) (hT : T.1 ≤ 3 * yB (yK σ) c) (h7 : M 137 c = T.1) (h6 : 0 ≤ M 136 c ∧ M 136 c ≤ 900) (kk : ∀ N : zM, (yDr N c (ydrw σ c (yB (yK σ) c) T) ∧ N 137 (c + 1) = (ydrw σ c (yB (yK σ) c) T).1 ∧ N 136 (c + 1) = M 136 c + ysm (yW (ydrw σ c (yB (yK σ) c) T)) T.1 (ydrw σ c (yB (yK σ) c) T).1 ∧ (∀ j, j ≠ c + 1 → N 137 j = M 137 j ∧ N 136 j = M 136 j) ∧ (∀ k, T.1 ≤ k → k < (ydrw σ c (yB (yK σ) c) T).1 → N 134 k = yW (ydrw σ c (yB (yK σ) c) T) k) ∧ (∀ k, k < T.1 → N 134 k = M 134 k) ∧ (∀ j, j ≠ 0 → j ≠ 8 → N 126 j = M 126 j) ∧ ∀ x, ¬ (126 ≤ x ∧ x ≤ 137 ∧ x ≠ 127) → N x = M x) → Q (3, 0) N) : zWp kDr_draw 0 [(1, 126), (0, c)] [] M Q := by
  have hK := yKr_K hV
  obtain ⟨⟨b0, blt, ble⟩, hbg, -⟩ := yB_cl hK hc.1 hc.2
  have hci := yci_60 hK
  have hn := hV.1
  have eov := yB_ov hK hc.1 hc.2
  have hB : (0 ≤ yB (yK σ) c ∧ yB (yK σ) c < σ 0) ∧ ybg (yK σ) (yB (yK σ) c) := ⟨⟨b0, by omega⟩, hbg⟩
  have pre := yPre_drw σ c (yB (yK σ) c) T
  have tot := ydrw_n hV b0 hB.1.2 hbg c T
  obtain ⟨T1, e1⟩ : ∃ U, U = ysgn σ 5 0 c (yB (yK σ) c) T := ⟨_, rfl⟩
  obtain ⟨T2, e2⟩ : ∃ U, U = yahd σ c (yB (yK σ) c) T1 := ⟨_, rfl⟩
  obtain ⟨T3, e3⟩ : ∃ U, U = ymid σ c (yB (yK σ) c) T2 := ⟨_, rfl⟩
  obtain ⟨T4, e4⟩ : ∃ U, U = ystd σ c (yB (yK σ) c) T3 := ⟨_, rfl⟩
  obtain ⟨T5, e5⟩ : ∃ U, U = ysgn σ 7 4 c (yB (yK σ) c) T4 := ⟨_, rfl⟩
  obtain ⟨T6, e6⟩ : ∃ U, U = yded σ c (yB (yK σ) c) T5 := ⟨_, rfl⟩
  obtain ⟨T7, e7⟩ : ∃ U, U = ysgn σ 6 5 c (yB (yK σ) c) T6 := ⟨_, rfl⟩
  obtain ⟨T8, e8⟩ : ∃ U, U = yrph σ c (yB (yK σ) c) T7 := ⟨_, rfl⟩
  obtain ⟨T9, e9⟩ : ∃ U, U = ymrk σ 10 7 c (yB (yK σ) c) T8 := ⟨_, rfl⟩
  obtain ⟨T10, e10⟩ : ∃ U, U = ysgn σ 8 8 c (yB (yK σ) c) T9 := ⟨_, rfl⟩
  obtain ⟨T11, e11⟩ : ∃ U, U = ymrk σ 11 9 c (yB (yK σ) c) T10 := ⟨_, rfl⟩
  have eT : ydrw σ c (yB (yK σ) c) T = T11 := by unfold ydrw; rw [← e1, ← e2, ← e3, ← e4, ← e5, ← e6, ← e7, ← e8, ← e9, ← e10, ← e11]
  rw [eT] at pre tot
  have sg := ystage hV hB (by omega) e1 e2 e3 e4 e5 e6 e7 e8 e9 e10
  refine zw_aload ⟨rfl, rfl⟩ rfl ?_
  refine zw_getR 105 ⟨rfl, rfl⟩ zr_126_6 ?_
  refine zw_iload ⟨rfl, rfl⟩ rfl ?_
  refine zw_callv2 ⟨rfl, rfl⟩ rfl zc_105 rfl ?_
  refine zw_iload ⟨rfl, rfl⟩ rfl ?_
  refine zw_iflt ⟨rfl, rfl⟩ rfl (fun q => absurd q (by omega)) (fun _ => ?_)
  refine zw_iload ⟨rfl, rfl⟩ rfl ?_
  refine zw_aload ⟨rfl, rfl⟩ rfl ?_
  refine zw_getIv (v := yci (yK σ) (σ 0)) ⟨rfl, rfl⟩ zc_105 (by decide) (hX.2.1.1.1) ?_
  refine zw_icge ⟨rfl, rfl⟩ rfl (fun q => absurd q (by omega)) (fun _ => ?_)
  refine zw_const ⟨rfl, rfl⟩ ?_
  refine zw_goto ⟨rfl, rfl⟩ rfl ?_
  refine zw_zret rfl (by first | exact Or.inl rfl | exact Or.inr rfl | omega) ?_
  refine zw_ifne ⟨rfl, rfl⟩ rfl (fun _ => ?_) (fun q => absurd (by decide) q)
  refine zw_aload ⟨rfl, rfl⟩ rfl ?_
  refine zw_iload ⟨rfl, rfl⟩ rfl ?_
  refine zw_putI ⟨rfl, rfl⟩ zc_126 (by decide) (fun h => absurd h (by decide)) ?_
  have hX0 : yCx (zup M 126 8 c) σ (yB (yK σ) c) := ⟨hX.1.cg (fun x y1 y2 => zup_row (by omega)), hX.2.1.cg (fun x y1 y2 => zup_row (by omega)), hX.2.2.cg (fun x y1 y2 => zup_row (by omega))⟩
  have hD0 : yDr (zup M 126 8 c) c T := ⟨hD.1, hD.2.1, rfl, hD.2.2.2.1, hD.2.2.2.2⟩
  refine zw_aload ⟨rfl, rfl⟩ rfl ?_
  refine zw_const ⟨rfl, rfl⟩ ?_
  refine zw_const ⟨rfl, rfl⟩ ?_
  refine zw_cavv3 ⟨rfl, rfl⟩ rfl zc_126 rfl ?_
  refine m_drawSigns hV hX0 hB hD0 (by decide) sg.1 (fun N1 p1 => ?_)
  have hX1 := hX0.fr p1.2
  have D1 := p1.1
  rw [← e1] at D1
  have F1 := p1.2
  refine zw_aload ⟨rfl, rfl⟩ rfl ?_
  refine zw_cavv1 ⟨rfl, rfl⟩ rfl zc_126 rfl ?_
  refine m_drawAhead hV hX1 hB D1  sg.2.1 (fun N2 p2 => ?_)
  have hX2 := hX1.fr p2.2
  have D2 := p2.1
  rw [← e2] at D2
  have F2 := F1.tr p2.2
  refine zw_aload ⟨rfl, rfl⟩ rfl ?_
  refine zw_cavv1 ⟨rfl, rfl⟩ rfl zc_126 rfl ?_
  refine m_drawMiddle hV hX2 hB D2  sg.2.2.1 sg.2.2.2.1 (fun N3 p3 => ?_)
  have hX3 := hX2.fr p3.2
  have D3 := p3.1
  rw [← e3] at D3
  have F3 := F2.tr p3.2
  refine zw_aload ⟨rfl, rfl⟩ rfl ?_
  refine zw_cavv1 ⟨rfl, rfl⟩ rfl zc_126 rfl ?_
  refine m_drawStacked hV hX3 hB D3  sg.2.2.2.2.1 (fun N4 p4 => ?_)
  have hX4 := hX3.fr p4.2
  have D4 := p4.1
  rw [← e4] at D4
  have F4 := F3.tr p4.2
  refine zw_aload ⟨rfl, rfl⟩ rfl ?_
  refine zw_const ⟨rfl, rfl⟩ ?_
  refine zw_const ⟨rfl, rfl⟩ ?_
  refine zw_cavv3 ⟨rfl, rfl⟩ rfl zc_126 rfl ?_
  refine m_drawSigns hV hX4 hB D4 (by decide) sg.2.2.2.2.2.1 (fun N5 p5 => ?_)
  have hX5 := hX4.fr p5.2
  have D5 := p5.1
  rw [← e5] at D5
  have F5 := F4.tr p5.2
  refine zw_aload ⟨rfl, rfl⟩ rfl ?_
  refine zw_cavv1 ⟨rfl, rfl⟩ rfl zc_126 rfl ?_
  refine m_drawDead hV hX5 hB D5  (by rw [← e6]; exact sg.2.2.2.2.2.2.1) (fun N6 p6 => ?_)
  have hX6 := hX5.fr p6.2
  have D6 := p6.1
  rw [← e6] at D6
  have F6 := F5.tr p6.2
  refine zw_aload ⟨rfl, rfl⟩ rfl ?_
  refine zw_const ⟨rfl, rfl⟩ ?_
  refine zw_const ⟨rfl, rfl⟩ ?_
  refine zw_cavv3 ⟨rfl, rfl⟩ rfl zc_126 rfl ?_
  refine m_drawSigns hV hX6 hB D6 (by decide) sg.2.2.2.2.2.2.2.1 (fun N7 p7 => ?_)
  have hX7 := hX6.fr p7.2
  have D7 := p7.1
  rw [← e7] at D7
  have F7 := F6.tr p7.2
  refine zw_aload ⟨rfl, rfl⟩ rfl ?_
  refine zw_cavv1 ⟨rfl, rfl⟩ rfl zc_126 rfl ?_
  refine m_drawReph hV hX7 hB D7  sg.2.2.2.2.2.2.2.2.1 (fun N8 p8 => ?_)
  have hX8 := hX7.fr p8.2
  have D8 := p8.1
  rw [← e8] at D8
  have F8 := F7.tr p8.2
  refine zw_aload ⟨rfl, rfl⟩ rfl ?_
  refine zw_const ⟨rfl, rfl⟩ ?_
  refine zw_const ⟨rfl, rfl⟩ ?_
  refine zw_cavv3 ⟨rfl, rfl⟩ rfl zc_126 rfl ?_
  refine m_drawMarks hV hX8 hB D8 (by decide) sg.2.2.2.2.2.2.2.2.2.1 (fun N9 p9 => ?_)
  have hX9 := hX8.fr p9.2
  have D9 := p9.1
  rw [← e9] at D9
  have F9 := F8.tr p9.2
  refine zw_aload ⟨rfl, rfl⟩ rfl ?_
  refine zw_const ⟨rfl, rfl⟩ ?_
  refine zw_const ⟨rfl, rfl⟩ ?_
  refine zw_cavv3 ⟨rfl, rfl⟩ rfl zc_126 rfl ?_
  refine m_drawSigns hV hX9 hB D9 (by decide) sg.2.2.2.2.2.2.2.2.2.2.1 (fun N10 p10 => ?_)
  have hX10 := hX9.fr p10.2
  have D10 := p10.1
  rw [← e10] at D10
  have F10 := F9.tr p10.2
  refine zw_aload ⟨rfl, rfl⟩ rfl ?_
  refine zw_const ⟨rfl, rfl⟩ ?_
  refine zw_const ⟨rfl, rfl⟩ ?_
  refine zw_cavv3 ⟨rfl, rfl⟩ rfl zc_126 rfl ?_
  refine m_drawMarks hV hX10 hB D10 (by decide) sg.2.2.2.2.2.2.2.2.2.2.2 (fun N11 p11 => ?_)
  have hX11 := hX10.fr p11.2
  have D11 := p11.1
  rw [← e11] at D11
  have F11 := F10.tr p11.2
  refine zw_aload ⟨rfl, rfl⟩ rfl ?_
  refine zw_getR 137 ⟨rfl, rfl⟩ zr_126_4 ?_
  refine zw_iload ⟨rfl, rfl⟩ rfl ?_
  refine zw_const ⟨rfl, rfl⟩ ?_
  refine zw_iadd ⟨rfl, rfl⟩ (by omega) ?_
  refine zw_aload ⟨rfl, rfl⟩ rfl ?_
  refine zw_getIv (v := N11 126 0) ⟨rfl, rfl⟩ zc_126 (by decide) rfl ?_
  refine zw_iast ⟨rfl, rfl⟩ za_137 (by omega) ?_
  refine zw_aload ⟨rfl, rfl⟩ rfl ?_
  refine zw_iload ⟨rfl, rfl⟩ rfl ?_
  refine zw_cavv2 ⟨rfl, rfl⟩ rfl zc_126 rfl ?_
  have D12 : yDr (zup N11 137 (c + 1) (N11 126 0)) c T11 := ⟨D11.1, D11.2.1, D11.2.2.1, D11.2.2.2.1, D11.2.2.2.2⟩
  refine m_measure (g0 := T.1) (X0 := M 136 c) ⟨hc.1, by omega⟩ D12 ⟨hD.2.1, pre.1, by omega⟩ ⟨by rw [zup_ni (by omega), F11.1 137 (by decide)]; exact h7, by rw [zup_eq]; exact D11.1⟩ ⟨congrFun (F11.1 136 (by decide)) c, h6⟩ (fun N12 p12 => ?_)
  refine zw_void rfl ?_
  obtain ⟨a1, a2, a3, a4, a5⟩ := p12
  rw [eT] at kk
  have g : ∀ x, x ≠ 134 → x ≠ 136 → x ≠ 137 → N12 x = N11 x := fun x x1 x2 x3 => (a5 x x1 x2).trans (zup_row x3)
  refine kk _ ⟨?_, ?_, a1, fun j hj => ⟨?_, ?_⟩, a3, fun k k1 => ?_, fun j j1 j2 => ?_, fun x hx => ?_⟩
  · unfold yDr
    rw [g 126 (by decide) (by decide) (by decide), g 128 (by decide) (by decide) (by decide), g 129 (by decide) (by decide) (by decide), g 130 (by decide) (by decide) (by decide), g 131 (by decide) (by decide) (by decide), g 132 (by decide) (by decide) (by decide), g 133 (by decide) (by decide) (by decide), g 135 (by decide) (by decide) (by decide)]
    exact D11
  · rw [a5 137 (by decide) (by decide), zup_eq]; exact D11.1
  · rw [a5 137 (by decide) (by decide), zup_ni hj, F11.1 137 (by decide)]; rfl
  · rw [a2 j hj, zup_na (by decide), F11.1 136 (by decide)]; rfl
  · rw [a4 k k1, zup_na (by decide), F11.1 134 (by decide)]; rfl
  · rw [g 126 (by decide) (by decide) (by decide), F11.2 j j1]; exact zup_ni j2
  · rw [g x (by omega) (by omega) (by omega), F11.1 x (by omega)]; exact zup_row (by omega)
end
