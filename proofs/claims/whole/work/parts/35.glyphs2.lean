/-! Glyphs: what stays, how many come, what is covered -/
def yPre (T U : yT) : Prop := T.1 ≤ U.1 ∧ ∀ w k, k < T.1 → U.2.1 w k = T.2.1 w k
theorem yPre.rf {T : yT} : yPre T T := ⟨Int.le_refl _, fun _ _ _ => rfl⟩
theorem yPre.tr {T U V : yT} (h : yPre T U) (g : yPre U V) : yPre T V := ⟨Int.le_trans h.1 g.1, fun w k hk => (g.2 w k (Int.lt_of_lt_of_le hk h.1)).trans (h.2 w k hk)⟩
theorem yPre_em (T : yT) (f o1 o2 p rk c : Int) : yPre T (yem T f o1 o2 p rk c) := ⟨by show T.1 ≤ T.1 + 1; omega, fun w k hk => if_neg (by omega)⟩
theorem yPre_sh (T : yT) (p g : Int) : yPre T (yshb T p g) := ⟨Int.le_refl _, fun _ _ _ => rfl⟩
theorem yPre_plt (σ : yS) (c : Int) (T : yT) (f p rk : Int) : yPre T (yplt σ c T f p rk) := by
  unfold yplt
  split
  · exact yPre.rf
  · exact (yPre_em ..).tr (yPre_sh ..)
theorem yPre_dp (σ : yS) (kd rk c p w : Int) (T : yT) : yPre T (ydp σ kd rk c p w T) := by
  unfold ydp
  split
  · split
    · exact (yPre_em ..).tr (yPre_sh ..)
    · exact yPre_em ..
  · exact yPre.rf
theorem yPre_sgs (σ : yS) (kd rk c p : Int) (T : yT) : yPre T (ysgs σ kd rk c p T) := by
  unfold ysgs
  split
  · exact yPre_plt ..
  · split
    · exact (yPre_dp ..).tr (yPre_dp ..)
    · exact yPre.rf
theorem yPre_mks (σ : yS) (kd rk c p : Int) (T : yT) : yPre T (ymks σ kd rk c p T) := by
  unfold ymks
  split
  · exact yPre_plt ..
  · exact yPre.rf
theorem yPre_fo (f : Int → yT → yT) (h : ∀ p T, yPre T (f p T)) (a p : Int) (T : yT) : yPre T (yfo f a p T) := by
  unfold yfo
  generalize (p - a).toNat = m
  induction m with
  | zero => exact yPre.rf
  | succ m ih => exact ih.tr (h _ _)
theorem yPre_dcn (σ : yS) (c : Int) (T : yT) (b k la hf rk : Int) : yPre T (ydcn σ c T b k la hf rk) := by
  unfold ydcn
  split
  · exact yPre_plt ..
  · exact (((yPre_em ..).tr (yPre_sh ..)).tr (yPre_sh ..)).tr (yPre_sh ..)
theorem yPre_ahs (σ : yS) (c b k : Int) (T : yT) : yPre T (yahs σ c b k T) := by
  unfold yahs
  split
  · exact yPre.rf
  · unfold yah2
    split
    · exact (((yPre_dcn ..).tr (yPre_plt ..)).tr (yPre_plt ..)).tr (yPre_plt ..)
    · exact (((yPre_dcn ..).tr (yPre_plt ..)).tr (yPre_sh ..)).tr (yPre_plt ..)
theorem yPre_mid (σ : yS) (c b : Int) (T : yT) : yPre T (ymid σ c b T) := by
  unfold ymid
  split
  · exact (yPre_dcn ..).tr (yPre_plt ..)
  · split
    · exact (yPre_em ..).tr (yPre_plt ..)
    · split
      · exact (yPre_plt ..).tr (yPre_plt ..)
      · exact (yPre_plt ..).tr (yPre_plt ..)
theorem yPre_stk (σ : yS) (c b k : Int) (T : yT) : yPre T (ystk σ c b k T) := by
  unfold ystk
  exact ((yPre_plt ..).tr (yPre_sh ..)).tr (yPre_plt ..)
theorem yPre_ded (σ : yS) (c b : Int) (T : yT) : yPre T (yded σ c b T) := by
  unfold yded
  split
  · split
    · exact (yPre_plt ..).tr (yPre_plt ..)
    · exact yPre_plt ..
  · exact yPre.rf
theorem yPre_rph (σ : yS) (c b : Int) (T : yT) : yPre T (yrph σ c b T) := by
  unfold yrph
  split
  · exact (yPre_plt ..).tr (yPre_sh ..)
  · exact yPre.rf
theorem yPre_sgn (σ : yS) (kd rk c b : Int) (T : yT) : yPre T (ysgn σ kd rk c b T) := yPre_fo _ (fun p T => yPre_sgs σ kd rk c p T) _ _ _
theorem yPre_mrk (σ : yS) (kd rk c b : Int) (T : yT) : yPre T (ymrk σ kd rk c b T) := yPre_fo _ (fun p T => yPre_mks σ kd rk c p T) _ _ _
theorem yPre_ahd (σ : yS) (c b : Int) (T : yT) : yPre T (yahd σ c b T) := yPre_fo _ (fun p T => yPre_ahs σ c b p T) _ _ _
theorem yPre_std (σ : yS) (c b : Int) (T : yT) : yPre T (ystd σ c b T) := yPre_fo _ (fun p T => yPre_stk σ c b p T) _ _ _
theorem yPre_drw (σ : yS) (c b : Int) (T : yT) : yPre T (ydrw σ c b T) := by
  unfold ydrw
  exact ((((((((((yPre_sgn ..).tr (yPre_ahd ..)).tr (yPre_mid ..)).tr (yPre_std ..)).tr (yPre_sgn ..)).tr (yPre_ded ..)).tr (yPre_sgn ..)).tr (yPre_rph ..)).tr (yPre_mrk ..)).tr (yPre_sgn ..)).tr (yPre_mrk ..)
/-- how many come at most: ahead of the end 2 a place and one, in all 3 a place -/
theorem yded_n {σ : yS} {b : Int} (hV : yVal σ) (h0 : 0 ≤ b) (h1 : b < σ 0) (hb : ybg (yK σ) b) (c : Int) (T : yT) : (yded σ c b T).1 ≤ T.1 + ysm (fun q => if yK σ q = 3 ∨ yK σ q = 12 ∨ yK σ q = 13 then 1 else 0) (ytl (yK σ) b) (yov (yK σ) b) := by
  have hK := yKr_K hV
  have hov := (yov_sp hK h0 h1 hb).2.1
  have hnn : ∀ q, 0 ≤ (fun q => if yK σ q = 3 ∨ yK σ q = 12 ∨ yK σ q = 13 then (1 : Int) else 0) q := fun q => by show (0 : Int) ≤ if _ then _ else _; split <;> omega
  have hm := ysm_mo _ hnn (Int.le_refl (ytl (yK σ) b)) hov.2.1
  rw [ysm_0 _ (Int.le_refl _)] at hm
  unfold yded
  split
  · rename_i hd
    have hd2 := (ydd_iff hK h0 h1 hb).mp hd
    have e1 := ysm_s (fun q => if yK σ q = 3 ∨ yK σ q = 12 ∨ yK σ q = 13 then (1 : Int) else 0) (Int.le_refl (ytl (yK σ) b))
    rw [ysm_0 _ (Int.le_refl _), if_pos (Or.inl hd2.2)] at e1
    split
    · rename_i hj
      have e2 := ysm_s (fun q => if yK σ q = 3 ∨ yK σ q = 12 ∨ yK σ q = 13 then (1 : Int) else 0) (show ytl (yK σ) b ≤ ytl (yK σ) b + 1 by omega)
      rw [e1, if_pos (Or.inr hj.2)] at e2
      have hm2 := ysm_mo _ hnn (show ytl (yK σ) b ≤ ytl (yK σ) b + 1 + 1 by omega) (show ytl (yK σ) b + 1 + 1 ≤ yov (yK σ) b by omega)
      rw [yplt_1, yplt_1]
      split <;> split <;> omega
    · have hm2 := ysm_mo _ hnn (show ytl (yK σ) b ≤ ytl (yK σ) b + 1 by omega) (show ytl (yK σ) b + 1 ≤ yov (yK σ) b by omega)
      rw [yplt_1]
      split <;> omega
  · omega
theorem ymid_n {σ : yS} {b : Int} (hV : yVal σ) (h0 : 0 ≤ b) (h1 : b < σ 0) (h : yK σ b ≠ 1) (c : Int) (T : yT) : (ymid σ c b T).1 ≤ T.1 + 2 * (ytl (yK σ) b - b) + 1 := by
  have hK := yKr_K hV
  have hkr := hK.2.1 b h0 h1
  have hso := yso_k hkr.1 hkr.2
  have := (ymid_r c b T (σ := σ)).2
  by_cases h4 : ytl (yK σ) b = b
  · have h2 : yso (yK σ b) = 2 ∧ yK σ b ≠ 4 := by
      unfold ytl at h4
      rw [if_neg h] at h4
      split at h4
      · split at h4 <;> omega
      · split at h4
        · rename_i q; refine ⟨q, fun z => ?_⟩; rw [if_pos z] at h4; omega
        · omega
    unfold ymid
    rw [if_neg h, if_pos h2.1, yplt_1, yem_1]
    have : yow (yK σ) b = -1 := by unfold yow; rw [if_neg (by omega), if_neg h2.2]
    rw [if_pos this]
    omega
  · have : b ≤ ytl (yK σ) b := by
      unfold ytl; rw [if_neg h]; repeat' split
      all_goals omega
    omega
/-- all stages' counts: the sums and the last bound -/
theorem yhead_n {σ : yS} {b : Int} (hV : yVal σ) (h0 : 0 ≤ b) (h1 : b < σ 0) (hb : ybg (yK σ) b) (c : Int) (T : yT) : (yK σ b = 1 → T.1 + 2 * (yP σ b (yba σ (yK σ) b) - yP σ b (yrp σ (yK σ) b)) ≤ T.1 + 2 * (ytl (yK σ) b - b)) ∧ (yK σ b = 1 → (ymid σ c b (yahd σ c b T)).1 + 2 * (ym (yK σ) b - (yba σ (yK σ) b + 1)) + yrp σ (yK σ) b ≤ T.1 + 2 * (ytl (yK σ) b - b)) ∧
    (ymid σ c b (yahd σ c b T)).1 ≤ T.1 + 2 * (ytl (yK σ) b - b) + 1 ∧ (yahd σ c b T).1 + 2 ≤ T.1 + 2 * (ytl (yK σ) b - b) + 2 ∧ (ystd σ c b (ymid σ c b (yahd σ c b T))).1 + yrp σ (yK σ) b ≤ T.1 + 2 * (ytl (yK σ) b - b) + 1 := by
  have hK := yKr_K hV
  have hov := (yov_sp hK h0 h1 hb).2.1
  have hr := yrp_r σ (yK σ) b
  have hm := ymid_r c b (yahd σ c b T) (σ := σ)
  by_cases h : yK σ b = 1
  · have hz := yba_r (σ := σ) hK h0 h1 h
    have rm := ym_r hK h0 h1 h
    have ha := yahd_r hV c T h0 h1 h hz.1 (Int.le_refl _)
    have e : (yahd σ c b T) = yfo (yahs σ c b) (yrp σ (yK σ) b) (yba σ (yK σ) b) T := rfl
    rw [← e] at ha
    have hs := ystd_r hV c (ymid σ c b (yahd σ c b T)) h0 h1 h (show yba σ (yK σ) b + 1 ≤ ym (yK σ) b by omega) (Int.le_refl _)
    have e2 : ystd σ c b (ymid σ c b (yahd σ c b T)) = yfo (ystk σ c b) (yba σ (yK σ) b + 1) (ym (yK σ) b) (ymid σ c b (yahd σ c b T)) := by unfold ystd; rw [show yms (yK σ) b = ym (yK σ) b from if_pos h]
    rw [← e2] at hs
    have g1 := ypl_mo hK h0 h1 h (ym (yK σ) b - 1 - yba σ (yK σ) b).toNat (yba σ (yK σ) b) (by omega) (by omega)
    rw [show yba σ (yK σ) b + ((ym (yK σ) b - 1 - yba σ (yK σ) b).toNat : Int) = ym (yK σ) b - 1 by omega] at g1
    have g2 := (yq_le hK h0 h1 h (show 0 ≤ ym (yK σ) b - 1 by omega) (by omega)).1
    have g3 := yq_r (yK σ) (ypl (yK σ) b (ym (yK σ) b - 1))
    have g4 : b + 2 * yrp σ (yK σ) b ≤ yP σ b (yrp σ (yK σ) b) := by
      have := (ypl_r hK h0 h1 h (show 0 ≤ yrp σ (yK σ) b by omega) (by omega)).1.2.1
      exact this
    unfold yP at *
    refine ⟨fun _ => by omega, fun _ => by omega, by omega, by omega, by omega⟩
  · obtain ⟨z1, z2, z3, z4⟩ := yA0 (σ := σ) h
    have e1 : yahd σ c b T = T := by unfold yahd; rw [z2, z3]; exact yfo_0 _ (Int.le_refl _) _
    have e2 : ystd σ c b (ymid σ c b T) = ymid σ c b T := by unfold ystd; rw [z2, z1]; exact yfo_0 _ (by omega) _
    have hn := ymid_n hV h0 h1 h c T
    rw [e1] at hm ⊢
    rw [e2, z3]
    refine ⟨fun z => absurd z h, fun z => absurd z h, by omega, by omega, by omega⟩
theorem ydrw_n {σ : yS} {b : Int} (hV : yVal σ) (h0 : 0 ≤ b) (h1 : b < σ 0) (hb : ybg (yK σ) b) (c : Int) (T : yT) : (ydrw σ c b T).1 ≤ T.1 + 3 * (yov (yK σ) b - b) := by
  have hK := yKr_K hV
  obtain ⟨⟨hru, -⟩, hov, -⟩ := yov_sp hK h0 h1 hb
  have hlt := hru.1
  have ht := ytail_n hV hov.2.1
  obtain ⟨T1, e1⟩ : ∃ T1, T1 = ysgn σ 5 0 c b T := ⟨_, rfl⟩
  have s1 := yfo_sg σ (kd := 5) (by decide) 0 c T hov.2.1
  have hh := (yhead_n hV h0 h1 hb c T1).2.2.2.2
  obtain ⟨T4, e4⟩ : ∃ T4, T4 = ystd σ c b (ymid σ c b (yahd σ c b T1)) := ⟨_, rfl⟩
  have s5 := yfo_sg σ (kd := 7) (by decide) 4 c T4 hov.2.1
  obtain ⟨T5, e5⟩ : ∃ T5, T5 = ysgn σ 7 4 c b T4 := ⟨_, rfl⟩
  have s6 := yded_n hV h0 h1 hb c T5
  obtain ⟨T6, e6⟩ : ∃ T6, T6 = yded σ c b T5 := ⟨_, rfl⟩
  have s7 := yfo_sg σ (kd := 6) (by decide) 5 c T6 hov.2.1
  obtain ⟨T7, e7⟩ : ∃ T7, T7 = ysgn σ 6 5 c b T6 := ⟨_, rfl⟩
  have s8 := (yrph_r c b T7 (σ := σ)).2
  obtain ⟨T8, e8⟩ : ∃ T8, T8 = yrph σ c b T7 := ⟨_, rfl⟩
  have s9 := yfo_mk σ (kd := 10) (by decide) 7 c T8 hov.2.1
  obtain ⟨T9, e9⟩ : ∃ T9, T9 = ymrk σ 10 7 c b T8 := ⟨_, rfl⟩
  have s10 := yfo_sg σ (kd := 8) (by decide) 8 c T9 hov.2.1
  obtain ⟨T10, e10⟩ : ∃ T10, T10 = ysgn σ 8 8 c b T9 := ⟨_, rfl⟩
  have s11 := yfo_mk σ (kd := 11) (by decide) 9 c T10 hov.2.1
  have e : ydrw σ c b T = ymrk σ 11 9 c b T10 := by unfold ydrw; rw [← e1, ← e4, ← e5, ← e6, ← e7, ← e8, ← e9, ← e10]
  have r1 : T1.1 = _ := (congrArg Prod.fst e1).trans s1
  have r5 : T5.1 = _ := (congrArg Prod.fst e5).trans s5
  have r7 : T7.1 = _ := (congrArg Prod.fst e7).trans s7
  have r9 : T9.1 = _ := (congrArg Prod.fst e9).trans s9
  have r10 : T10.1 = _ := (congrArg Prod.fst e10).trans s10
  have r11 : (ydrw σ c b T).1 = _ := (congrArg Prod.fst e).trans s11
  have hr := (yrp_r σ (yK σ) b).1
  rw [← e4] at hh
  rw [← e6] at s6
  rw [← e8] at s8
  have : (if yrp σ (yK σ) b = 1 then (1 : Int) else 0) = yrp σ (yK σ) b := by split <;> omega
  omega
/-- two that know the same glyphs, and of places X the same -/
def yAgr (X : Int → Prop) (T U : yT) : Prop := T.1 = U.1 ∧ T.2.1 = U.2.1 ∧ ∀ p, X p → T.2.2 p = U.2.2 p
def yCov (f : yT → yT) (P : Int → Prop) : Prop := ∀ (X : Int → Prop) (T U : yT), yAgr X T U → yAgr (fun q => X q ∨ P q) (f T) (f U)
theorem yCov.mo {f : yT → yT} {P R : Int → Prop} (h : yCov f P) (g : ∀ q, R q → P q) : yCov f R := fun X T U hx => by
  obtain ⟨a, b, c⟩ := h X T U hx
  exact ⟨a, b, fun p hp => c p (hp.imp id (g p))⟩
theorem yCov.cm {f g : yT → yT} {P R : Int → Prop} (h : yCov f P) (k : yCov g R) : yCov (fun T => g (f T)) (fun q => P q ∨ R q) := fun X T U hx => by
  obtain ⟨a, b, c⟩ := k _ _ _ (h X T U hx)
  refine ⟨a, b, fun p hp => c p ?_⟩
  rcases hp with z | z | z
  · exact Or.inl (Or.inl z)
  · exact Or.inl (Or.inr z)
  · exact Or.inr z
theorem yCov_id : yCov (fun T => T) (fun _ => False) := fun X T U h => ⟨h.1, h.2.1, fun p hp => hp.elim (h.2.2 p) False.elim⟩
theorem yAgr_em {X : Int → Prop} {T U : yT} (h : yAgr X T U) (f o1 o2 p rk c : Int) : yAgr X (yem T f o1 o2 p rk c) (yem U f o1 o2 p rk c) := by
  obtain ⟨a, b, d⟩ := h
  refine ⟨by show T.1 + 1 = U.1 + 1; rw [a], ?_, d⟩
  show (fun w k => if k = T.1 then _ else T.2.1 w k) = fun w k => if k = U.1 then _ else U.2.1 w k
  rw [a, b]
theorem yAgr_sh {X : Int → Prop} {T U : yT} (h : yAgr X T U) {p g g' : Int} (hg : g = g') : yAgr (fun q => X q ∨ q = p) (yshb T p g) (yshb U p g') := by
  subst hg
  refine ⟨h.1, h.2.1, fun q hq => ?_⟩
  show (if q = p then g else T.2.2 q) = if q = p then g else U.2.2 q
  split
  · rfl
  · rename_i z; exact h.2.2 q (hq.resolve_right z)
theorem yAgr.mo {X Y : Int → Prop} {T U : yT} (h : yAgr X T U) (g : ∀ q, Y q → X q) : yAgr Y T U := ⟨h.1, h.2.1, fun q hq => h.2.2 q (g q hq)⟩
theorem yCov_plt (σ : yS) (c f p rk : Int) : yCov (fun T => yplt σ c T f p rk) (fun q => q = p ∧ p ≠ -1) := by
  intro X T U h
  show yAgr _ (yplt σ c T f p rk) (yplt σ c U f p rk)
  unfold yplt
  split
  · rename_i z; exact h.mo (fun q hq => hq.elim id (fun y => absurd z y.2))
  · exact (yAgr_sh (yAgr_em h ..) h.1).mo (fun q hq => hq.imp id (fun z => z.1))
theorem yCov_em (f o1 o2 p rk c : Int) : yCov (fun T => yem T f o1 o2 p rk c) (fun _ => False) := fun X T U h => (yAgr_em h ..).mo (fun q hq => hq.elim id False.elim)
theorem yCov_ite {P : Prop} (hP : Decidable P) {f g : yT → yT} {R : Int → Prop} (h1 : P → yCov f R) (h2 : ¬ P → yCov g R) : yCov (fun T => if P then f T else g T) R := by
  intro X T U h
  show yAgr _ (if P then f T else g T) (if P then f U else g U)
  split
  · rename_i z; exact h1 z X T U h
  · rename_i z; exact h2 z X T U h
theorem yCov_dp (σ : yS) (kd rk c p w : Int) : yCov (ydp σ kd rk c p w) (fun q => q = p ∧ w = 0 ∧ ykd σ (ypt σ (yL σ p) w) = kd) := by
  intro X T U h
  unfold ydp
  split
  · split
    · exact (yAgr_sh (yAgr_em h ..) h.1).mo (fun q hq => hq.imp id (fun z => z.1))
    · rename_i z; exact (yAgr_em h ..).mo (fun q hq => hq.elim id (fun y => absurd y.2.1 z))
  · rename_i z; exact h.mo (fun q hq => hq.elim id (fun y => absurd y.2.2 z))
theorem yCov_sgs (σ : yS) {kd : Int} (hkd : kd ≠ -1) (rk c p : Int) : yCov (ysgs σ kd rk c p) (fun q => q = p ∧ (yK σ p = kd ∨ (yK σ p = 9 ∧ ykd σ (ypt σ (yL σ p) 0) = kd))) := by
  intro X T U h
  unfold ysgs
  split
  · rename_i z; exact (yCov_plt σ c 6 p rk X T U h).mo (fun q hq => hq.imp id (fun y => ⟨y.1, yKm σ (by rw [z]; exact hkd)⟩))
  · split
    · rename_i z z2
      exact (((yCov_dp σ kd rk c p 0).cm (yCov_dp σ kd rk c p 1)) X T U h).mo (fun q hq => hq.imp id (fun y => Or.inl ⟨y.1, rfl, (y.2.resolve_left z).2⟩))
    · rename_i z z2; exact h.mo (fun q hq => hq.elim id (fun y => (y.2.elim (fun w => absurd w z) (fun w => absurd w.1 z2))))
theorem yCov_mks (σ : yS) {kd : Int} (hkd : kd ≠ -1) (rk c p : Int) : yCov (ymks σ kd rk c p) (fun q => q = p ∧ yK σ p = kd) := by
  intro X T U h
  unfold ymks
  split
  · rename_i z; exact (yCov_plt σ c 7 p rk X T U h).mo (fun q hq => hq.imp id (fun y => ⟨y.1, yKm σ (by rw [z]; exact hkd)⟩))
  · rename_i z; exact h.mo (fun q hq => hq.elim id (fun y => absurd y.2 z))
theorem yCov_fo {f : Int → yT → yT} {P : Int → Int → Prop} (h : ∀ p, yCov (f p) (P p)) (a p : Int) : yCov (yfo f a p) (fun q => ∃ k, a ≤ k ∧ k < p ∧ P k q) := by
  by_cases hp : a ≤ p
  · refine yind (P := fun p => yCov (yfo f a p) (fun q => ∃ k, a ≤ k ∧ k < p ∧ P k q)) ?_ (fun r h3 ih => ?_) p hp
    · intro X T U hx
      rw [yfo_0 _ (Int.le_refl _), yfo_0 _ (Int.le_refl _)]
      exact hx.mo (fun q hq => hq.elim id (fun ⟨k, k1, k2, _⟩ => by omega))
    · intro X T U hx
      rw [yfo_s _ h3, yfo_s _ h3]
      refine (h r _ _ _ (ih X T U hx)).mo (fun q hq => ?_)
      rcases hq with z | ⟨k, k1, k2, k3⟩
      · exact Or.inl (Or.inl z)
      · by_cases e : k = r
        · subst e; exact Or.inr k3
        · exact Or.inl (Or.inr ⟨k, k1, by omega, k3⟩)
  · intro X T U hx
    rw [yfo_0 _ (by omega), yfo_0 _ (by omega)]
    exact hx.mo (fun q hq => hq.elim id (fun ⟨k, k1, k2, _⟩ => by omega))

theorem yCov_f {f : yT → yT} {P : Int → Prop} (h : yCov f P) {X : Int → Prop} {T U : yT} (hx : yAgr X T U) : yAgr (fun q => X q ∨ P q) (f T) (f U) := h X T U hx
theorem yCov_sgn (σ : yS) {kd : Int} (hkd : kd ≠ -1) (rk c b : Int) : yCov (ysgn σ kd rk c b) (fun q => (ytl (yK σ) b ≤ q ∧ q < yov (yK σ) b) ∧ (yK σ q = kd ∨ (yK σ q = 9 ∧ ykd σ (ypt σ (yL σ q) 0) = kd))) :=
  (yCov_fo (fun p => yCov_sgs σ hkd rk c p) _ _).mo (fun q hq => ⟨q, hq.1.1, hq.1.2, rfl, hq.2⟩)
theorem yCov_mrk (σ : yS) {kd : Int} (hkd : kd ≠ -1) (rk c b : Int) : yCov (ymrk σ kd rk c b) (fun q => (ytl (yK σ) b ≤ q ∧ q < yov (yK σ) b) ∧ yK σ q = kd) :=
  (yCov_fo (fun p => yCov_mks σ hkd rk c p) _ _).mo (fun q hq => ⟨q, hq.1.1, hq.1.2, rfl, hq.2⟩)
theorem yCov_dcn (σ : yS) (c b k la hf rk : Int) (hk : yP σ b k ≠ -1) : yCov (fun T => ydcn σ c T b k la hf rk) (fun q => q = yP σ b k ∨ (k ≠ la ∧ (q = yvi (yK σ) (yP σ b k) ∨ q = yP σ b la))) := by
  intro X T U h
  show yAgr _ (ydcn σ c T b k la hf rk) (ydcn σ c U b k la hf rk)
  unfold ydcn
  split
  · rename_i z; exact (yCov_plt σ c _ _ rk X T U h).mo (fun q hq => hq.imp id (fun y => ⟨y.elim id (fun w => absurd z w.1), hk⟩))
  · rename_i z
    refine (yAgr_sh (yAgr_sh (yAgr_sh (yAgr_em h ..) h.1) h.1) h.1).mo (fun q hq => ?_)
    rcases hq with w | w | ⟨_, w | w⟩
    · exact Or.inl (Or.inl (Or.inl w))
    · exact Or.inl (Or.inl (Or.inr w))
    · exact Or.inl (Or.inr w)
    · exact Or.inr w
theorem yAgr_pl {X : Int → Prop} {T U : yT} (h : yAgr X T U) (σ : yS) (c f p rk : Int) : yAgr (fun q => X q ∨ (q = p ∧ p ≠ -1)) (yplt σ c T f p rk) (yplt σ c U f p rk) := yCov_plt σ c f p rk X T U h
theorem yCov_ah2 (σ : yS) (c b k la hf : Int) (hk : yP σ b k ≠ -1) : yCov (fun T => yah2 σ c b k la hf T) (fun q => q ≠ -1 ∧ (q = yP σ b k ∨ (k ≠ la ∧ (q = yvi (yK σ) (yP σ b k) ∨ q = yP σ b la)) ∨ q = ynk (yK σ) (yP σ b la) ∨ q = yvi (yK σ) (yP σ b la) ∨ q = yjo (yK σ) (yP σ b la))) := by
  intro X T U h
  show yAgr _ (yah2 σ c b k la hf T) (yah2 σ c b k la hf U)
  unfold yah2
  have h1 := yCov_dcn σ c b k la hf 1 hk X T U h
  have h2 := yAgr_pl h1 σ c 9 (ynk (yK σ) (yP σ b la)) 1
  split
  · refine (yAgr_pl (yAgr_pl h2 σ c 8 (yvi (yK σ) (yP σ b la)) 1) σ c 10 (yjo (yK σ) (yP σ b la)) 1).mo (fun q hq => ?_)
    rcases hq with w | ⟨w0, w | w | w | w | w⟩
    · exact Or.inl (Or.inl (Or.inl (Or.inl w)))
    · exact Or.inl (Or.inl (Or.inl (Or.inr (Or.inl w))))
    · exact Or.inl (Or.inl (Or.inl (Or.inr (Or.inr w))))
    · exact Or.inl (Or.inl (Or.inr ⟨w, w ▸ w0⟩))
    · exact Or.inl (Or.inr ⟨w, w ▸ w0⟩)
    · exact Or.inr ⟨w, w ▸ w0⟩
  · refine (yAgr_pl (yAgr_sh h2 (p := yvi (yK σ) (yP σ b la)) h.1) σ c 10 (yjo (yK σ) (yP σ b la)) 1).mo (fun q hq => ?_)
    rcases hq with w | ⟨w0, w | w | w | w | w⟩
    · exact Or.inl (Or.inl (Or.inl (Or.inl w)))
    · exact Or.inl (Or.inl (Or.inl (Or.inr (Or.inl w))))
    · exact Or.inl (Or.inl (Or.inl (Or.inr (Or.inr w))))
    · exact Or.inl (Or.inl (Or.inr ⟨w, w ▸ w0⟩))
    · exact Or.inl (Or.inr w)
    · exact Or.inr ⟨w, w ▸ w0⟩
theorem yCov_ahs (σ : yS) (c b k : Int) (hk : yP σ b k ≠ -1) : yCov (yahs σ c b k) (fun q => q ≠ -1 ∧ ¬ ((yrp σ (yK σ) b < k ∧ yjf σ (yK σ) b (k - 1) = 1) ∨ yba σ (yK σ) b ≤ yla σ b k) ∧ (q = yP σ b k ∨ (k ≠ yla σ b k ∧ (q = yvi (yK σ) (yP σ b k) ∨ q = yP σ b (yla σ b k))) ∨ q = ynk (yK σ) (yP σ b (yla σ b k)) ∨ q = yvi (yK σ) (yP σ b (yla σ b k)) ∨ q = yjo (yK σ) (yP σ b (yla σ b k)))) := by
  intro X T U h
  unfold yahs
  split
  · rename_i z; exact h.mo (fun q hq => hq.elim id (fun y => absurd z y.2.1))
  · exact (yCov_ah2 σ c b k (yla σ b k) _ hk X T U h).mo (fun q hq => hq.imp id (fun y => ⟨y.1, y.2.2⟩))
theorem yCov_stk (σ : yS) (c b k : Int) (hk : yP σ b k ≠ -1) : yCov (ystk σ c b k) (fun q => q ≠ -1 ∧ (q = yP σ b k ∨ q = yvi (yK σ) (yP σ b (k - 1)) ∨ q = ynk (yK σ) (yP σ b k))) := by
  intro X T U h
  unfold ystk
  refine (yAgr_pl (yAgr_sh (yAgr_pl h σ c 4 (yP σ b k) 3) (p := yvi (yK σ) (yP σ b (k - 1))) h.1) σ c 9 (ynk (yK σ) (yP σ b k)) 3).mo (fun q hq => ?_)
  rcases hq with w | ⟨w0, w | w | w⟩
  · exact Or.inl (Or.inl (Or.inl w))
  · exact Or.inl (Or.inl (Or.inr ⟨w, hk⟩))
  · exact Or.inl (Or.inr w)
  · exact Or.inr ⟨w, w ▸ w0⟩
theorem yCov_fo2 {f : Int → yT → yT} {P : Int → Int → Prop} {a z : Int} (h : ∀ p, a ≤ p → p < z → yCov (f p) (P p)) : yCov (yfo f a z) (fun q => ∃ k, a ≤ k ∧ k < z ∧ P k q) := by
  by_cases hp : a ≤ z
  · have : ∀ p, a ≤ p → p ≤ z → yCov (yfo f a p) (fun q => ∃ k, a ≤ k ∧ k < p ∧ P k q) := by
      intro p h1
      refine yind (P := fun p => p ≤ z → yCov (yfo f a p) (fun q => ∃ k, a ≤ k ∧ k < p ∧ P k q)) ?_ (fun r h3 ih => ?_) p h1
      · intro _ X T U hx
        rw [yfo_0 _ (Int.le_refl _), yfo_0 _ (Int.le_refl _)]
        exact hx.mo (fun q hq => hq.elim id (fun ⟨k, k1, k2, _⟩ => by omega))
      · intro hr X T U hx
        rw [yfo_s _ h3, yfo_s _ h3]
        refine (h r h3 (by omega) _ _ _ (ih (by omega) X T U hx)).mo (fun q hq => ?_)
        rcases hq with z | ⟨k, k1, k2, k3⟩
        · exact Or.inl (Or.inl z)
        · by_cases e : k = r
          · subst e; exact Or.inr k3
          · exact Or.inl (Or.inr ⟨k, k1, by omega, k3⟩)
    exact this z hp (Int.le_refl _)
  · intro X T U hx
    rw [yfo_0 _ (by omega), yfo_0 _ (by omega)]
    exact hx.mo (fun q hq => hq.elim id (fun ⟨k, k1, k2, _⟩ => by omega))
theorem yCov_mid1 (σ : yS) (c b : Int) (h1 : yK σ b = 1) (hk : yP σ b (ymdb σ b) ≠ -1) : yCov (ymid σ c b) (fun q => q ≠ -1 ∧ (q = yP σ b (ymdb σ b) ∨ (ymdb σ b ≠ yba σ (yK σ) b ∧ (q = yvi (yK σ) (yP σ b (ymdb σ b)) ∨ q = yP σ b (yba σ (yK σ) b))) ∨ q = ynk (yK σ) (yP σ b (yba σ (yK σ) b)))) := by
  intro X T U h
  unfold ymid
  rw [if_pos h1, if_pos h1]
  refine (yAgr_pl (yCov_dcn σ c b (ymdb σ b) (yba σ (yK σ) b) 0 2 hk X T U h) σ c 9 (ynk (yK σ) (yP σ b (yba σ (yK σ) b))) 2).mo (fun q hq => ?_)
  rcases hq with w | ⟨w0, w | w | w⟩
  · exact Or.inl (Or.inl w)
  · exact Or.inl (Or.inr (Or.inl w))
  · exact Or.inl (Or.inr (Or.inr w))
  · exact Or.inr ⟨w, w ▸ w0⟩
theorem yCov_mid0 (σ : yS) (c b : Int) (h1 : yK σ b ≠ 1) : yCov (ymid σ c b) (fun q => q ≠ -1 ∧ ((q = b ∧ yso (yK σ b) ≠ 2) ∨ q = yow (yK σ) b)) := by
  intro X T U h
  unfold ymid
  rw [if_neg h1, if_neg h1]
  split
  · rename_i z
    refine (yAgr_pl (yAgr_em h ..) σ c 9 (yow (yK σ) b) 2).mo (fun q hq => ?_)
    rcases hq with w | ⟨w0, w | w⟩
    · exact Or.inl w
    · exact absurd z w.2
    · exact Or.inr ⟨w, w ▸ w0⟩
  · split
    · refine (yAgr_pl (yAgr_pl h σ c 13 b 2) σ c 9 (yow (yK σ) b) 2).mo (fun q hq => ?_)
      rcases hq with w | ⟨w0, w | w⟩
      · exact Or.inl (Or.inl w)
      · exact Or.inl (Or.inr ⟨w.1, w.1 ▸ w0⟩)
      · exact Or.inr ⟨w, w ▸ w0⟩
    · refine (yAgr_pl (yAgr_pl h σ c _ b 2) σ c 9 (yow (yK σ) b) 2).mo (fun q hq => ?_)
      rcases hq with w | ⟨w0, w | w⟩
      · exact Or.inl (Or.inl w)
      · exact Or.inl (Or.inr ⟨w.1, w.1 ▸ w0⟩)
      · exact Or.inr ⟨w, w ▸ w0⟩
theorem yCov_ded (σ : yS) (c b : Int) : yCov (yded σ c b) (fun q => (0 ≤ q ∧ ydd (yK σ) b = 1) ∧ (q = ytl (yK σ) b ∨ (q = ytl (yK σ) b + 1 ∧ q < yov (yK σ) b ∧ (yK σ q = 12 ∨ yK σ q = 13)))) := by
  intro X T U h
  unfold yded
  split
  · split
    · refine (yAgr_pl (yAgr_pl h σ c 8 (ytl (yK σ) b) 4) σ c 10 (ytl (yK σ) b + 1) 4).mo (fun q hq => ?_)
      rcases hq with w | ⟨w0, w | w⟩
      · exact Or.inl (Or.inl w)
      · exact Or.inl (Or.inr ⟨w, by omega⟩)
      · exact Or.inr ⟨w.1, by omega⟩
    · rename_i z1 z
      refine (yAgr_pl h σ c 8 (ytl (yK σ) b) 4).mo (fun q hq => ?_)
      rcases hq with w | ⟨w0, w | w⟩
      · exact Or.inl w
      · exact Or.inr ⟨w, by omega⟩
      · obtain ⟨w1, w2, w3⟩ := w
        subst w1
        exact absurd ⟨w2, w3⟩ z
  · rename_i z; exact h.mo (fun q hq => hq.elim id (fun y => absurd y.1.2 z))
theorem yCov_rph (σ : yS) (c b : Int) (h0 : 0 ≤ b) : yCov (yrph σ c b) (fun q => yrp σ (yK σ) b = 1 ∧ (q = b ∨ q = yvi (yK σ) b)) := by
  intro X T U h
  unfold yrph
  split
  · refine (yAgr_sh (yAgr_pl h σ c 5 b 6) (p := yvi (yK σ) b) h.1).mo (fun q hq => ?_)
    rcases hq with w | ⟨w0, w | w⟩
    · exact Or.inl (Or.inl w)
    · exact Or.inl (Or.inr ⟨w, by omega⟩)
    · exact Or.inr w
  · rename_i z; exact h.mo (fun q hq => hq.elim id (fun y => absurd y.1 z))
