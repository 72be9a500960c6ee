/-! The model: laysGlyphs, laysCluster, laysAll -/
def yrst (b e : Int) (T : yT) : yT := (T.1, T.2.1, fun q => if b ≤ q ∧ q < e then -1 else T.2.2 q)
theorem ydrw_fin (σ : yS) (c b : Int) (T : yT) : ydrw σ c b T = yFin σ c b (ystd σ c b (ymid σ c b (yahd σ c b (ysgn σ 5 0 c b T)))) := rfl
theorem ystd_0 {σ : yS} {b c : Int} (T : yT) (h : yK σ b ≠ 1) : yahd σ c b T = T ∧ ystd σ c b T = T := by
  obtain ⟨z1, z2, z3, z4⟩ := yA0 (σ := σ) h
  constructor
  · unfold yahd; rw [z2, z3]; exact yfo_0 _ (Int.le_refl _) _
  · unfold ystd; rw [z2, z1]; exact yfo_0 _ (by omega) _
/-- the model's chain rows of a cluster, before its pairs are known -/
def yAr (M : zM) (σ : yS) (b : Int) : Prop := M 208 21 = ym (yK σ) b ∧ ∀ k, 0 ≤ k → k < ym (yK σ) b → M 222 k = ypl (yK σ) b k ∧ M 223 k = ynk (yK σ) (ypl (yK σ) b k) ∧ M 224 k = yvi (yK σ) (ypl (yK σ) b k) ∧ M 225 k = yjo (yK σ) (ypl (yK σ) b k) ∧ M 226 k = 0

section
set_option maxHeartbeats 8000000
theorem m_lg_28 {f z : Int} {M : zM} {Q : zV → zM → Prop} {σ : yS} {b c : Int} {T : yT} (hV : yVal σ) (hb : (0 ≤ b ∧ b < σ 0) ∧ ybg (yK σ) b) (hc : 0 ≤ c ∧ c < 60) (hA : yMa M σ b) (hAr : yK σ b = 1 → yAr M σ b) (hD : yGm M T) (hT : T.1 ≤ 3 * b) (hs : M 214 c = yso (yK σ b)) (hfr0 : M 212 c = b) (hd : M 215 c = ydd (yK σ) b) (h0 : M 218 c = 0 ∧ M 219 c = 0 ∧ M 220 c = 0) (h217 : yK σ b ≠ 1 → M 217 c = (if yso (yK σ b) = 2 then -1 else b)) (hf : f = yrp σ (yK σ) b) (hz : z = yba σ (yK σ) b) (kk : ∀ N : zM, (yGm N (ydrw σ c b (yrst b (yov (yK σ) b) T)) ∧ ylf c M N ∧ N 217 c = ybp σ (yK σ) b ∧ N 218 c = yrp σ (yK σ) b ∧ N 219 c = (if yms (yK σ) b = 0 then 0 else yms (yK σ) b - 1 - yba σ (yK σ) b) ∧ N 220 c = ypr σ (yK σ) b) → Q (3, 0) N) : ∀ (f0 : Nat) (p : Int) (u6 : zV) (N : zM), (b ≤ p ∧ p ≤ yov (yK σ) b) → ((∀ q, b ≤ q → q < p → N 234 q = -1) ∧ ∀ q, ¬ (b ≤ q ∧ q < p) → N 234 q = M 234 q) → (∀ x, x ≠ 234 → N x = M x) → (yov (yK σ) b - p).toNat < f0 → zWp kM_laysGlyphs 28 [(1, 208), (0, c), (0, yov (yK σ) b), (0, f), (0, z), (0, p), u6] [] N Q := by
  intro f0
  induction f0 with
  | zero => intro p u6 N i1 i2 i3 hf0; exact absurd hf0 (Nat.not_lt_zero _)
  | succ f0 ih =>
    intro p u6 N i1 i2 i3 hf0
    have hK := yKr_K hV
    have hn := hV.1
    have hov := (yov_sp hK hb.1.1 hb.1.2 hb.2).2.1
    have hkr := hK.2.1 b hb.1.1 hb.1.2
    have hso := yso_k hkr.1 hkr.2
    have hr := yrp_r σ (yK σ) b
    refine zw_iload ⟨rfl, rfl⟩ rfl ?_
    refine zw_iload ⟨rfl, rfl⟩ rfl ?_
    refine zw_icge ⟨rfl, rfl⟩ rfl (fun c1 => ?_) (fun c1 => ?_)
    · skip
      refine zw_aload ⟨rfl, rfl⟩ rfl ?_
      refine zw_iload ⟨rfl, rfl⟩ rfl ?_
      refine zw_const ⟨rfl, rfl⟩ ?_
      refine zw_const ⟨rfl, rfl⟩ ?_
      refine zw_iload ⟨rfl, rfl⟩ rfl ?_
      refine zw_cavv5 ⟨rfl, rfl⟩ rfl zc_208 rfl ?_
      have ep : p = yov (yK σ) b := by omega
      rw [ep] at i2
      obtain ⟨R, eR⟩ : ∃ R, R = (yrst b (yov (yK σ) b) T) := ⟨_, rfl⟩
      have hR1 : R.1 = T.1 := by rw [eR]; rfl
      have DR : yGm N R := by
        rw [eR]
        refine ⟨(congrFun (i3 208 (by decide)) 31).trans hD.1, hD.2.1, fun k k1 k2 => ?_, fun q q1 q2 => ?_⟩
        · rw [i3 227 (by decide), i3 228 (by decide), i3 229 (by decide), i3 230 (by decide), i3 231 (by decide), i3 232 (by decide), i3 233 (by decide)]
          exact hD.2.2.1 k k1 k2
        · show N 234 q = if b ≤ q ∧ q < _ then -1 else T.2.2 q
          by_cases h : b ≤ q ∧ q < yov (yK σ) b
          · rw [if_pos h]; exact i2.1 q h.1 h.2
          · rw [if_neg h, i2.2 q h]; exact hD.2.2.2 q q1 q2
      have e8 : ∀ j, j ≠ 31 → N 208 j = M 208 j := fun j _ => by rw [i3 208 (by decide)]
      have hA0 : yMa N σ b := hA.cg (i3 209 (by decide)) e8
      have sg := ystage (c := c) (T := R) hV hb (by omega) rfl rfl rfl rfl rfl rfl rfl rfl rfl rfl
      refine m_showsSigns hV hA0 hb DR ⟨by decide, by decide⟩ sg.1 (fun N1 p1 => ?_)
      have hA1 := hA0.fr p1.2
      have D1 := p1.1
      have g1 : ylf c M N1 := ylf.tr ⟨fun x x1 x2 x3 => i3 x (by omega), e8, fun x x1 x2 j _ => by rw [i3 x (by omega)]⟩ p1.2.l
      have gr : ∀ x, ¬ (227 ≤ x ∧ x ≤ 234) → x ≠ 208 → N1 x = M x := fun x x1 x2 => (p1.2.1 x x1 x2).trans (i3 x (by omega))
      refine zw_aload ⟨rfl, rfl⟩ rfl ?_
      refine zw_getR 214 ⟨rfl, rfl⟩ zr_208_7 ?_
      refine zw_iload ⟨rfl, rfl⟩ rfl ?_
      refine zw_ialdv (v := yso (yK σ b)) ⟨rfl, rfl⟩ za_214 (by omega) ((congrFun (gr 214 (by decide) (by decide)) c).trans hs) ?_
      refine zw_ifne ⟨rfl, rfl⟩ rfl (fun c2 => ?_) (fun c2 => ?_)
      · skip
        refine zw_aload ⟨rfl, rfl⟩ rfl ?_
        refine zw_iload ⟨rfl, rfl⟩ rfl ?_
        refine zw_aload ⟨rfl, rfl⟩ rfl ?_
        refine zw_getR 212 ⟨rfl, rfl⟩ zr_208_5 ?_
        refine zw_iload ⟨rfl, rfl⟩ rfl ?_
        refine zw_ialdv (v := b) ⟨rfl, rfl⟩ za_212 (by omega) ((congrFun (gr 212 (by decide) (by decide)) c).trans hfr0) ?_
        refine zw_cavv3 ⟨rfl, rfl⟩ rfl zc_208 rfl ?_
        have h1 : yK σ b ≠ 1 := fun y => by have := hso.1.mpr y; omega
        have s1 := ystd_0 (c := c) (ysgn σ 5 0 c b R) h1
        have sgx := sg.2.2.2.1 h1
        rw [s1.1] at sgx
        refine m_showsAlone hV hA1 hb h1 D1 hc (by rw [gr 214 (by decide) (by decide)]; exact hs) sgx (fun N2 p2 => ?_)
        have s2 := ystd_0 (c := c) (ymid σ c b (ysgn σ 5 0 c b R)) h1
        refine m_lg_163 hV hb hc (hA1.fr p2.2) (fun y => absurd y h1) p2.1 (by
          have := sg.2.2.2.2.2
          rw [s1.1, s2.2] at this
          exact this) hf (by rw [p2.2.1 215 (by decide) (by decide), gr 215 (by decide) (by decide)]; exact hd) (fun P p3 => kk P ⟨?_, g1.tr ((p2.2.l (c := c)).tr p3.2.l), ?_, ?_, ?_, ?_⟩)
        · rw [← eR, ydrw_fin, s1.1, s2.2]; exact p3.1
        · rw [p3.2.1 217 (by decide) (by decide), p2.2.1 217 (by decide) (by decide), gr 217 (by decide) (by decide), h217 h1]
          unfold ybp
          (repeat' split) <;> first | rfl | contradiction
        · rw [p3.2.1 218 (by decide) (by decide), p2.2.1 218 (by decide) (by decide), gr 218 (by decide) (by decide), h0.1]; exact (yA0 h1).2.2.1.symm
        · rw [p3.2.1 219 (by decide) (by decide), p2.2.1 219 (by decide) (by decide), gr 219 (by decide) (by decide), h0.2.1, if_pos (yA0 (σ := σ) h1).1]
        · rw [p3.2.1 220 (by decide) (by decide), p2.2.1 220 (by decide) (by decide), gr 220 (by decide) (by decide), h0.2.2]; exact (yA0 h1).2.2.2.symm
      · skip
        refine zw_aload ⟨rfl, rfl⟩ rfl ?_
        refine zw_iload ⟨rfl, rfl⟩ rfl ?_
        refine zw_iload ⟨rfl, rfl⟩ rfl ?_
        refine zw_cavv3 ⟨rfl, rfl⟩ rfl zc_208 rfl ?_
        have h1 : yK σ b = 1 := hso.1.mp (by omega)
        have em : yms (yK σ) b = ym (yK σ) b := if_pos h1
        have hm := ym_r hK hb.1.1 hb.1.2 h1
        have hzz := yba_r (σ := σ) hK hb.1.1 hb.1.2 h1
        have hAr1 : yAr N1 σ b := ⟨(p1.2.2 21 (by decide)).trans ((e8 21 (by decide)).trans (hAr h1).1), fun k k1 k2 => by
          rw [gr 222 (by decide) (by decide), gr 223 (by decide) (by decide), gr 224 (by decide) (by decide), gr 225 (by decide) (by decide), gr 226 (by decide) (by decide)]
          exact (hAr h1).2 k k1 k2⟩
        subst hf
        subst hz
        refine m_joinsChain hV hA1.1 hb.1.1 hb.1.2 h1 hAr1 (fun N2 p2 => ?_)
        have hB2 : yMb N2 σ b := by
          refine ⟨hA1.cg (p2.2 209 (by decide)) (fun j _ => by rw [p2.2 208 (by decide)]), fun k k1 k2 => ?_⟩
          rw [em] at k2
          have a := hAr1.2 k k1 k2
          rw [p2.2 222 (by decide), p2.2 223 (by decide), p2.2 224 (by decide), p2.2 225 (by decide)]
          exact ⟨a.1, a.2.1, a.2.2.1, a.2.2.2.1, p2.1 k k1 k2⟩
        have D2 : yGm N2 (ysgn σ 5 0 c b R) := D1.cg (fun x x1 x2 => p2.2 x (by omega)) (by rw [p2.2 208 (by decide)])
        have g2 : ylf c N1 N2 := ⟨fun x x1 x2 x3 => p2.2 x (by omega), fun j _ => by rw [p2.2 208 (by decide)], fun x x1 x2 j _ => by rw [p2.2 x (by omega)]⟩
        refine zw_iload ⟨rfl, rfl⟩ rfl ?_
        refine zw_istore_5 ⟨rfl, rfl⟩ ?_
        refine m_lg_55 hV hb hc h1 hB2 D2 (sg.2.1 h1) (sg.2.2.1 h1) (sg.2.2.2.2.1 h1) (by
          have := sg.2.2.2.2.2
          exact this) (by rw [p2.2 215 (by decide), gr 215 (by decide) (by decide)]; exact hd) (by rw [p2.2 220 (by decide), gr 220 (by decide) (by decide)]; exact h0.2.2) (fun P p3 => kk P ⟨?_, g1.tr (g2.tr p3.2.1), ?_, p3.2.2.2.2.1, ?_, p3.2.2.1⟩) _ _ _ _ ⟨Int.le_refl _, hzz.1⟩ (by rw [yfo_0 _ (Int.le_refl _)]; exact D2) ygf.rf (Or.inl rfl) (Nat.lt_succ_self _)
        · rw [← eR, ydrw_fin]; exact p3.1
        · rw [p3.2.2.2.1]; unfold ybp; rw [if_neg (by have := hso.1.mpr h1; omega), if_pos h1]; rfl
        · rw [p3.2.2.2.2.2, if_neg (by omega), em]
    · skip
      refine zw_aload ⟨rfl, rfl⟩ rfl ?_
      refine zw_getR 234 ⟨rfl, rfl⟩ zr_208_30 ?_
      refine zw_iload ⟨rfl, rfl⟩ rfl ?_
      refine zw_const ⟨rfl, rfl⟩ ?_
      refine zw_iast ⟨rfl, rfl⟩ za_234 (by omega) ?_
      refine zw_iinc_5 ⟨rfl, rfl⟩ (by omega) ?_
      refine zw_goto ⟨rfl, rfl⟩ rfl ?_
      refine ih _ _ _ ⟨by omega, by omega⟩ ⟨fun q q1 q2 => ?_, fun q q1 => ?_⟩ (fun x hx => by rw [zup_row hx]; exact i3 x hx) (by omega)
      · by_cases e : q = p
        · subst e; exact zup_eq _ _ _ _
        · rw [zup_ni e]; exact i2.1 q q1 (by omega)
      · rw [zup_ni (by omega)]; exact i2.2 q (by omega)
end

theorem m_laysGlyphs1 {M : zM} {Q : zV → zM → Prop} {σ : yS} {b c : Int} {T : yT} (hV : yVal σ) (hb : (0 ≤ b ∧ b < σ 0) ∧ ybg (yK σ) b) (hc : 0 ≤ c ∧ c < 60) (hA : yMa M σ b) (hAr : yK σ b = 1 → yAr M σ b) (hD : yGm M T) (hT : T.1 ≤ 3 * b) (hs : M 214 c = yso (yK σ b)) (hfr0 : M 212 c = b) (hd : M 215 c = ydd (yK σ) b) (h0 : M 218 c = 0 ∧ M 219 c = 0 ∧ M 220 c = 0) (h217 : yK σ b ≠ 1 → M 217 c = (if yso (yK σ b) = 2 then -1 else b)) (kk : ∀ N : zM, (yGm N (ydrw σ c b (yrst b (yov (yK σ) b) T)) ∧ ylf c M N ∧ N 217 c = ybp σ (yK σ) b ∧ N 218 c = yrp σ (yK σ) b ∧ N 219 c = (if yms (yK σ) b = 0 then 0 else yms (yK σ) b - 1 - yba σ (yK σ) b) ∧ N 220 c = ypr σ (yK σ) b) → Q (3, 0) N) (h1 : yK σ b = 1) : zWp kM_laysGlyphs 0 [(1, 208), (0, c), (0, yov (yK σ) b), (3, 0), (3, 0), (3, 0), (3, 0)] [] M Q := by
  have hK := yKr_K hV
  have hn := hV.1
  have hov := (yov_sp hK hb.1.1 hb.1.2 hb.2).2.1
  have hkr := hK.2.1 b hb.1.1 hb.1.2
  have hso := yso_k hkr.1 hkr.2
  have hr := yrp_r σ (yK σ) b
  have hso1 := hso.1
  refine zw_aload ⟨rfl, rfl⟩ rfl ?_
  refine zw_getR 214 ⟨rfl, rfl⟩ zr_208_7 ?_
  refine zw_iload ⟨rfl, rfl⟩ rfl ?_
  refine zw_ialdv (v := yso (yK σ b)) ⟨rfl, rfl⟩ za_214 (by omega) (hs) ?_
  refine zw_ifne ⟨rfl, rfl⟩ rfl (fun q => absurd q (by omega)) (fun _ => ?_)
  refine zw_aload ⟨rfl, rfl⟩ rfl ?_
  refine zw_callv1 ⟨rfl, rfl⟩ rfl zc_208 rfl ?_
  have hm := ym_r hK hb.1.1 hb.1.2 h1
  have hzz := yba_r (σ := σ) hK hb.1.1 hb.1.2 h1
  refine m_MhasReph hV hA.1 hb.1.1 hb.1.2 h1 (hAr h1) ?_
  refine zw_ifeq ⟨rfl, rfl⟩ rfl (fun c2 => ?_) (fun c2 => ?_)
  · skip
    refine zw_const ⟨rfl, rfl⟩ ?_
    refine zw_istore_3 ⟨rfl, rfl⟩ ?_
    refine zw_aload ⟨rfl, rfl⟩ rfl ?_
    refine zw_getR 214 ⟨rfl, rfl⟩ zr_208_7 ?_
    refine zw_iload ⟨rfl, rfl⟩ rfl ?_
    refine zw_ialdv (v := yso (yK σ b)) ⟨rfl, rfl⟩ za_214 (by omega) (hs) ?_
    refine zw_ifne ⟨rfl, rfl⟩ rfl (fun q => absurd q (by omega)) (fun _ => ?_)
    refine zw_aload ⟨rfl, rfl⟩ rfl ?_
    refine zw_iload ⟨rfl, rfl⟩ rfl ?_
    refine zw_callv2 ⟨rfl, rfl⟩ rfl zc_208 rfl ?_
    have ef : yrp σ (yK σ) b = 0 := by omega
    have ez : ybs0 σ (yK σ) b 0 (ym (yK σ) b - 1).toNat = yba σ (yK σ) b := by unfold yba; rw [if_pos h1, ef]
    refine m_baseOf hV hA.1 hb.1.1 hb.1.2 h1 (hAr h1) ⟨by omega, by omega⟩ ?_
    rw [ez]
    refine zw_goto ⟨rfl, rfl⟩ rfl ?_
    refine zw_istore_4 ⟨rfl, rfl⟩ ?_
    refine zw_aload ⟨rfl, rfl⟩ rfl ?_
    refine zw_getR 212 ⟨rfl, rfl⟩ zr_208_5 ?_
    refine zw_iload ⟨rfl, rfl⟩ rfl ?_
    refine zw_ialdv (v := b) ⟨rfl, rfl⟩ za_212 (by omega) (hfr0) ?_
    refine zw_istore_5 ⟨rfl, rfl⟩ ?_
    refine m_lg_28 hV hb hc hA hAr hD hT hs hfr0 hd h0 h217 (f := 0) (z := yba σ (yK σ) b) (by omega) (by rfl) kk _ _ _ _ ⟨Int.le_refl _, by omega⟩ ⟨fun q q1 q2 => by omega, fun _ _ => rfl⟩ (fun _ _ => rfl) (Nat.lt_succ_self _)
  · skip
    refine zw_const ⟨rfl, rfl⟩ ?_
    refine zw_goto ⟨rfl, rfl⟩ rfl ?_
    refine zw_istore_3 ⟨rfl, rfl⟩ ?_
    refine zw_aload ⟨rfl, rfl⟩ rfl ?_
    refine zw_getR 214 ⟨rfl, rfl⟩ zr_208_7 ?_
    refine zw_iload ⟨rfl, rfl⟩ rfl ?_
    refine zw_ialdv (v := yso (yK σ b)) ⟨rfl, rfl⟩ za_214 (by omega) (hs) ?_
    refine zw_ifne ⟨rfl, rfl⟩ rfl (fun q => absurd q (by omega)) (fun _ => ?_)
    refine zw_aload ⟨rfl, rfl⟩ rfl ?_
    refine zw_iload ⟨rfl, rfl⟩ rfl ?_
    refine zw_callv2 ⟨rfl, rfl⟩ rfl zc_208 rfl ?_
    have ef : yrp σ (yK σ) b = 1 := by omega
    have ez : ybs0 σ (yK σ) b 1 (ym (yK σ) b - 1).toNat = yba σ (yK σ) b := by unfold yba; rw [if_pos h1, ef]
    refine m_baseOf hV hA.1 hb.1.1 hb.1.2 h1 (hAr h1) ⟨by omega, by omega⟩ ?_
    rw [ez]
    refine zw_goto ⟨rfl, rfl⟩ rfl ?_
    refine zw_istore_4 ⟨rfl, rfl⟩ ?_
    refine zw_aload ⟨rfl, rfl⟩ rfl ?_
    refine zw_getR 212 ⟨rfl, rfl⟩ zr_208_5 ?_
    refine zw_iload ⟨rfl, rfl⟩ rfl ?_
    refine zw_ialdv (v := b) ⟨rfl, rfl⟩ za_212 (by omega) (hfr0) ?_
    refine zw_istore_5 ⟨rfl, rfl⟩ ?_
    refine m_lg_28 hV hb hc hA hAr hD hT hs hfr0 hd h0 h217 (f := 1) (z := yba σ (yK σ) b) (by omega) (by rfl) kk _ _ _ _ ⟨Int.le_refl _, by omega⟩ ⟨fun q q1 q2 => by omega, fun _ _ => rfl⟩ (fun _ _ => rfl) (Nat.lt_succ_self _)

theorem m_laysGlyphs0 {M : zM} {Q : zV → zM → Prop} {σ : yS} {b c : Int} {T : yT} (hV : yVal σ) (hb : (0 ≤ b ∧ b < σ 0) ∧ ybg (yK σ) b) (hc : 0 ≤ c ∧ c < 60) (hA : yMa M σ b) (hAr : yK σ b = 1 → yAr M σ b) (hD : yGm M T) (hT : T.1 ≤ 3 * b) (hs : M 214 c = yso (yK σ b)) (hfr0 : M 212 c = b) (hd : M 215 c = ydd (yK σ) b) (h0 : M 218 c = 0 ∧ M 219 c = 0 ∧ M 220 c = 0) (h217 : yK σ b ≠ 1 → M 217 c = (if yso (yK σ b) = 2 then -1 else b)) (kk : ∀ N : zM, (yGm N (ydrw σ c b (yrst b (yov (yK σ) b) T)) ∧ ylf c M N ∧ N 217 c = ybp σ (yK σ) b ∧ N 218 c = yrp σ (yK σ) b ∧ N 219 c = (if yms (yK σ) b = 0 then 0 else yms (yK σ) b - 1 - yba σ (yK σ) b) ∧ N 220 c = ypr σ (yK σ) b) → Q (3, 0) N) (h1 : yK σ b ≠ 1) : zWp kM_laysGlyphs 0 [(1, 208), (0, c), (0, yov (yK σ) b), (3, 0), (3, 0), (3, 0), (3, 0)] [] M Q := by
  have hK := yKr_K hV
  have hn := hV.1
  have hov := (yov_sp hK hb.1.1 hb.1.2 hb.2).2.1
  have hkr := hK.2.1 b hb.1.1 hb.1.2
  have hso := yso_k hkr.1 hkr.2
  have hr := yrp_r σ (yK σ) b
  have hso1 := hso.1
  refine zw_aload ⟨rfl, rfl⟩ rfl ?_
  refine zw_getR 214 ⟨rfl, rfl⟩ zr_208_7 ?_
  refine zw_iload ⟨rfl, rfl⟩ rfl ?_
  refine zw_ialdv (v := yso (yK σ b)) ⟨rfl, rfl⟩ za_214 (by omega) (hs) ?_
  refine zw_ifne ⟨rfl, rfl⟩ rfl (fun _ => ?_) (fun q => absurd (by omega) q)
  refine zw_const ⟨rfl, rfl⟩ ?_
  refine zw_istore_3 ⟨rfl, rfl⟩ ?_
  refine zw_aload ⟨rfl, rfl⟩ rfl ?_
  refine zw_getR 214 ⟨rfl, rfl⟩ zr_208_7 ?_
  refine zw_iload ⟨rfl, rfl⟩ rfl ?_
  refine zw_ialdv (v := yso (yK σ b)) ⟨rfl, rfl⟩ za_214 (by omega) (hs) ?_
  refine zw_ifne ⟨rfl, rfl⟩ rfl (fun _ => ?_) (fun q => absurd (by omega) q)
  refine zw_const ⟨rfl, rfl⟩ ?_
  refine zw_istore_4 ⟨rfl, rfl⟩ ?_
  refine zw_aload ⟨rfl, rfl⟩ rfl ?_
  refine zw_getR 212 ⟨rfl, rfl⟩ zr_208_5 ?_
  refine zw_iload ⟨rfl, rfl⟩ rfl ?_
  refine zw_ialdv (v := b) ⟨rfl, rfl⟩ za_212 (by omega) (hfr0) ?_
  refine zw_istore_5 ⟨rfl, rfl⟩ ?_
  refine m_lg_28 hV hb hc hA hAr hD hT hs hfr0 hd h0 h217 (f := 0) (z := 0) (by exact (yA0 h1).2.2.1.symm) (by exact (yA0 h1).2.1.symm) kk _ _ _ _ ⟨Int.le_refl _, by omega⟩ ⟨fun q q1 q2 => by omega, fun _ _ => rfl⟩ (fun _ _ => rfl) (Nat.lt_succ_self _)

theorem m_laysGlyphs {M : zM} {Q : zV → zM → Prop} {σ : yS} {b c : Int} {T : yT} (hV : yVal σ) (hb : (0 ≤ b ∧ b < σ 0) ∧ ybg (yK σ) b) (hc : 0 ≤ c ∧ c < 60) (hA : yMa M σ b) (hAr : yK σ b = 1 → yAr M σ b) (hD : yGm M T) (hT : T.1 ≤ 3 * b) (hs : M 214 c = yso (yK σ b)) (hfr0 : M 212 c = b) (hd : M 215 c = ydd (yK σ) b) (h0 : M 218 c = 0 ∧ M 219 c = 0 ∧ M 220 c = 0) (h217 : yK σ b ≠ 1 → M 217 c = (if yso (yK σ b) = 2 then -1 else b)) (kk : ∀ N : zM, (yGm N (ydrw σ c b (yrst b (yov (yK σ) b) T)) ∧ ylf c M N ∧ N 217 c = ybp σ (yK σ) b ∧ N 218 c = yrp σ (yK σ) b ∧ N 219 c = (if yms (yK σ) b = 0 then 0 else yms (yK σ) b - 1 - yba σ (yK σ) b) ∧ N 220 c = ypr σ (yK σ) b) → Q (3, 0) N) : zWp kM_laysGlyphs 0 [(1, 208), (0, c), (0, yov (yK σ) b), (3, 0), (3, 0), (3, 0), (3, 0)] [] M Q := by
  by_cases h1 : yK σ b = 1
  · exact m_laysGlyphs1 hV hb hc hA hAr hD hT hs hfr0 hd h0 h217 kk h1
  · exact m_laysGlyphs0 hV hb hc hA hAr hD hT hs hfr0 hd h0 h217 kk h1
