/-! The model: laysCluster, laysAll -/
def ycf (c : Int) (M N : zM) : Prop := (∀ x, ¬ (212 ≤ x ∧ x ≤ 220) → ¬ (222 ≤ x ∧ x ≤ 234) → x ≠ 208 → N x = M x) ∧ (∀ j, j ≠ 21 → j ≠ 22 → j ≠ 31 → N 208 j = M 208 j) ∧ ∀ x, 212 ≤ x → x ≤ 220 → ∀ j, j ≠ c → N x j = M x j
theorem ycf.tr {c : Int} {M N P : zM} (h : ycf c M N) (g : ycf c N P) : ycf c M P := ⟨fun x a b d => (g.1 x a b d).trans (h.1 x a b d), fun j j1 j2 j3 => (g.2.1 j j1 j2 j3).trans (h.2.1 j j1 j2 j3), fun x a b j hj => (g.2.2 x a b j hj).trans (h.2.2 x a b j hj)⟩
theorem ycf.up {c : Int} {M : zM} {x v : Int} (h : 212 ≤ x ∧ x ≤ 220) : ycf c M (zup M x c v) := ⟨fun y a b d => zup_row (by omega), fun j _ _ _ => zup_na (by omega), fun y a b j hj => zup_ni hj⟩
theorem ycf.u8 {c : Int} {M : zM} {i v : Int} (h : i = 21 ∨ i = 22) : ycf c M (zup M 208 i v) := ⟨fun y a b d => zup_row d, fun j j1 j2 _ => zup_ni (by omega), fun y a b j hj => zup_na (by omega)⟩
theorem ylf.c {c : Int} {M N : zM} (h : ylf c M N) : ycf c M N := ⟨fun x a b d => h.1 x (by omega) (by omega) d, fun j _ _ j3 => h.2.1 j j3, fun x a b j hj => by
  by_cases q : 217 ≤ x
  · exact h.2.2 x q b j hj
  · rw [h.1 x (by omega) (by omega) (by omega)]⟩
/-- what the model knows of a cluster -/
def yCl (M : zM) (σ : yS) (c b e : Int) : Prop := M 212 c = b ∧ M 213 c = e - b ∧ M 214 c = yso (yK σ b) ∧ M 215 c = ydd (yK σ) b ∧ M 216 c = yms (yK σ) b ∧ M 217 c = ybp σ (yK σ) b ∧ M 218 c = yrp σ (yK σ) b ∧ M 219 c = (if yms (yK σ) b = 0 then 0 else yms (yK σ) b - 1 - yba σ (yK σ) b) ∧ M 220 c = ypr σ (yK σ) b

theorem m_lc_124 {e : Int} {u : zV} {M : zM} {Q : zV → zM → Prop} {σ : yS} {b c : Int} {T : yT} (hV : yVal σ) (hb : (0 ≤ b ∧ b < σ 0) ∧ ybg (yK σ) b) (hc : 0 ≤ c ∧ c < 60) (hA : yMa M σ b) (hAr : yK σ b = 1 → yAr M σ b) (hD : yGm M T) (hT : T.1 ≤ 3 * b) (hs : M 214 c = yso (yK σ b)) (hfr0 : M 212 c = b) (hd : M 215 c = ydd (yK σ) b) (h0 : M 218 c = 0 ∧ M 219 c = 0 ∧ M 220 c = 0) (h217 : yK σ b ≠ 1 → M 217 c = (if yso (yK σ b) = 2 then -1 else b)) (he : e = (yov (yK σ) b)) (kk : ∀ N : zM, (yGm N (ydrw σ c b (yrst b (yov (yK σ) b) T)) ∧ yCl N σ c b (yov (yK σ) b) ∧ ycf c M N) → Q (0, (yov (yK σ) b)) N) : zWp kM_laysCluster 124 [(1, 208), (0, c), (0, b), u, (0, e)] [] M Q := by
  have hn := hV.1
  have hov := (yov_sp (yKr_K hV) hb.1.1 hb.1.2 hb.2).2.1
  refine zw_aload ⟨rfl, rfl⟩ rfl ?_
  refine zw_getR 213 ⟨rfl, rfl⟩ zr_208_6 ?_
  refine zw_iload ⟨rfl, rfl⟩ rfl ?_
  refine zw_iload ⟨rfl, rfl⟩ rfl ?_
  refine zw_iload ⟨rfl, rfl⟩ rfl ?_
  refine zw_isub ⟨rfl, rfl⟩ (by omega) ?_
  refine zw_iast ⟨rfl, rfl⟩ za_213 (by omega) ?_
  refine zw_aload ⟨rfl, rfl⟩ rfl ?_
  refine zw_getR 216 ⟨rfl, rfl⟩ zr_208_9 ?_
  refine zw_iload ⟨rfl, rfl⟩ rfl ?_
  refine zw_aload ⟨rfl, rfl⟩ rfl ?_
  refine zw_getIv (v := yms (yK σ) b) ⟨rfl, rfl⟩ zc_208 (by decide) ((zup_na (by decide)).trans (hA.2.2)) ?_
  refine zw_iast ⟨rfl, rfl⟩ za_216 (by omega) ?_
  refine zw_aload ⟨rfl, rfl⟩ rfl ?_
  refine zw_iload ⟨rfl, rfl⟩ rfl ?_
  refine zw_iload ⟨rfl, rfl⟩ rfl ?_
  refine zw_cavv3 ⟨rfl, rfl⟩ rfl zc_208 rfl ?_
  have gr : ∀ x, x ≠ 213 → x ≠ 216 → (zup (zup M 213 c (e - b)) 216 c (yms (yK σ) b)) x = M x := fun x x1 x2 => by rw [zup_row x2, zup_row x1]
  subst he
  refine m_laysGlyphs hV hb hc (hA.cg (gr 209 (by decide) (by decide)) (fun j _ => by rw [gr 208 (by decide) (by decide)])) (fun y => ⟨by rw [gr 208 (by decide) (by decide)]; exact (hAr y).1, fun k k1 k2 => by
    rw [gr 222 (by decide) (by decide), gr 223 (by decide) (by decide), gr 224 (by decide) (by decide), gr 225 (by decide) (by decide), gr 226 (by decide) (by decide)]
    exact (hAr y).2 k k1 k2⟩) (hD.cg (fun x x1 x2 => gr x (by omega) (by omega)) (by rw [gr 208 (by decide) (by decide)])) hT (by rw [gr 214 (by decide) (by decide)]; exact hs) (by rw [gr 212 (by decide) (by decide)]; exact hfr0) (by rw [gr 215 (by decide) (by decide)]; exact hd) (by rw [gr 218 (by decide) (by decide), gr 219 (by decide) (by decide), gr 220 (by decide) (by decide)]; exact h0) (by rw [gr 217 (by decide) (by decide)]; exact h217) (fun N1 p1 => ?_)
  refine zw_iload ⟨rfl, rfl⟩ rfl ?_
  refine zw_ret rfl ?_
  obtain ⟨a1, a2, a3, a4, a5, a6⟩ := p1
  refine kk _ ⟨a1, ⟨?_, ?_, ?_, ?_, ?_, a3, a4, a5, a6⟩, ?_⟩
  · rw [a2.1 212 (by decide) (by decide) (by decide), gr 212 (by decide) (by decide)]; exact hfr0
  · rw [a2.1 213 (by decide) (by decide) (by decide), zup_na (by decide), zup_eq]
  · rw [a2.1 214 (by decide) (by decide) (by decide), gr 214 (by decide) (by decide)]; exact hs
  · rw [a2.1 215 (by decide) (by decide) (by decide), gr 215 (by decide) (by decide)]; exact hd
  · rw [a2.1 216 (by decide) (by decide) (by decide), zup_eq]
  · exact ((ycf.up (by decide)).tr (ycf.up (by decide))).tr a2.c

section
set_option maxHeartbeats 8000000
theorem m_laysCluster {M : zM} {Q : zV → zM → Prop} {σ : yS} {b c : Int} {T : yT} (hV : yVal σ) (hb : (0 ≤ b ∧ b < σ 0) ∧ ybg (yK σ) b) (hc : 0 ≤ c ∧ c < 60) (hM : yMo M σ) (hD : yGm M T) (hT : T.1 ≤ 3 * b) (kk : ∀ N : zM, (yGm N (ydrw σ c b (yrst b (yov (yK σ) b) T)) ∧ yCl N σ c b (yov (yK σ) b) ∧ ycf c M N) → Q (0, (yov (yK σ) b)) N) : zWp kM_laysCluster 0 [(1, 208), (0, c), (0, b), (3, 0), (3, 0)] [] M Q := by
  have hK := yKr_K hV
  have hn := hV.1
  have hkr := hK.2.1 b hb.1.1 hb.1.2
  have hso := yso_k hkr.1 hkr.2
  have hov := (yov_sp hK hb.1.1 hb.1.2 hb.2).2.1
  refine zw_aload ⟨rfl, rfl⟩ rfl ?_
  refine zw_iload ⟨rfl, rfl⟩ rfl ?_
  refine zw_callv2 ⟨rfl, rfl⟩ rfl zc_208 rfl ?_
  refine m_MkindAt hV hM (by omega) ?_
  refine zw_istore_3 ⟨rfl, rfl⟩ ?_
  refine zw_aload ⟨rfl, rfl⟩ rfl ?_
  refine zw_getR 212 ⟨rfl, rfl⟩ zr_208_5 ?_
  refine zw_iload ⟨rfl, rfl⟩ rfl ?_
  refine zw_iload ⟨rfl, rfl⟩ rfl ?_
  refine zw_iast ⟨rfl, rfl⟩ za_212 (by omega) ?_
  refine zw_aload ⟨rfl, rfl⟩ rfl ?_
  refine zw_getR 215 ⟨rfl, rfl⟩ zr_208_8 ?_
  refine zw_iload ⟨rfl, rfl⟩ rfl ?_
  refine zw_const ⟨rfl, rfl⟩ ?_
  refine zw_iast ⟨rfl, rfl⟩ za_215 (by omega) ?_
  refine zw_aload ⟨rfl, rfl⟩ rfl ?_
  refine zw_const ⟨rfl, rfl⟩ ?_
  refine zw_putI ⟨rfl, rfl⟩ zc_208 (by decide) (fun h => absurd h (by decide)) ?_
  refine zw_aload ⟨rfl, rfl⟩ rfl ?_
  refine zw_getR 217 ⟨rfl, rfl⟩ zr_208_10 ?_
  refine zw_iload ⟨rfl, rfl⟩ rfl ?_
  refine zw_iload ⟨rfl, rfl⟩ rfl ?_
  refine zw_iast ⟨rfl, rfl⟩ za_217 (by omega) ?_
  refine zw_aload ⟨rfl, rfl⟩ rfl ?_
  refine zw_getR 218 ⟨rfl, rfl⟩ zr_208_11 ?_
  refine zw_iload ⟨rfl, rfl⟩ rfl ?_
  refine zw_const ⟨rfl, rfl⟩ ?_
  refine zw_iast ⟨rfl, rfl⟩ za_218 (by omega) ?_
  refine zw_aload ⟨rfl, rfl⟩ rfl ?_
  refine zw_getR 219 ⟨rfl, rfl⟩ zr_208_12 ?_
  refine zw_iload ⟨rfl, rfl⟩ rfl ?_
  refine zw_const ⟨rfl, rfl⟩ ?_
  refine zw_iast ⟨rfl, rfl⟩ za_219 (by omega) ?_
  refine zw_aload ⟨rfl, rfl⟩ rfl ?_
  refine zw_getR 220 ⟨rfl, rfl⟩ zr_208_13 ?_
  refine zw_iload ⟨rfl, rfl⟩ rfl ?_
  refine zw_const ⟨rfl, rfl⟩ ?_
  refine zw_iast ⟨rfl, rfl⟩ za_220 (by omega) ?_
  refine zw_iload ⟨rfl, rfl⟩ rfl ?_
  refine zw_const ⟨rfl, rfl⟩ ?_
  refine zw_icne ⟨rfl, rfl⟩ rfl (fun c1 => ?_) (fun c1 => ?_)
  · skip
    refine zw_iload ⟨rfl, rfl⟩ rfl ?_
    refine zw_const ⟨rfl, rfl⟩ ?_
    refine zw_icne ⟨rfl, rfl⟩ rfl (fun c2 => ?_) (fun c2 => ?_)
    · skip
      refine zw_iload ⟨rfl, rfl⟩ rfl ?_
      refine zw_ifeq ⟨rfl, rfl⟩ rfl (fun c3 => ?_) (fun c3 => ?_)
      · skip
        refine zw_aload ⟨rfl, rfl⟩ rfl ?_
        refine zw_getR 214 ⟨rfl, rfl⟩ zr_208_7 ?_
        refine zw_iload ⟨rfl, rfl⟩ rfl ?_
        refine zw_const ⟨rfl, rfl⟩ ?_
        refine zw_iast ⟨rfl, rfl⟩ za_214 (by omega) ?_
        refine zw_aload ⟨rfl, rfl⟩ rfl ?_
        refine zw_iload ⟨rfl, rfl⟩ rfl ?_
        refine zw_const ⟨rfl, rfl⟩ ?_
        refine zw_iadd ⟨rfl, rfl⟩ (by omega) ?_
        refine zw_putI ⟨rfl, rfl⟩ zc_208 (by decide) (fun h => absurd h (by decide)) ?_
        refine zw_aload ⟨rfl, rfl⟩ rfl ?_
        refine zw_getIv (v := b + 1) ⟨rfl, rfl⟩ zc_208 (by decide) (zup_eq _ _ _ _) ?_
        refine zw_istore_4 ⟨rfl, rfl⟩ ?_
        refine zw_goto ⟨rfl, rfl⟩ rfl ?_
        have h1 : yK σ b ≠ 1 := by assumption
        have f0 : ycf c M ((zup (zup (zup (zup (zup (zup (zup (zup (zup M 212 c b) 215 c 0) 208 21 0) 217 c b) 218 c 0) 219 c 0) 220 c 0) 214 c 3) 208 22 (b + 1))) := (ycf.tr (ycf.tr (ycf.tr (ycf.tr (ycf.tr (ycf.tr (ycf.tr (ycf.tr (ycf.up (by decide)) (ycf.up (by decide))) (ycf.u8 (by decide))) (ycf.up (by decide))) (ycf.up (by decide))) (ycf.up (by decide))) (ycf.up (by decide))) (ycf.up (by decide))) (ycf.u8 (by decide)))
        have e22 : ytl (yK σ) b = b + 1 := by unfold ytl; (repeat' split) <;> omega
        refine m_lc_124 hV hb hc ⟨hM.cg (by rw [zup_row (by decide), zup_row (by decide), zup_row (by decide), zup_row (by decide), zup_row (by decide), zup_row (by decide), zup_row (by decide), zup_row (by decide), zup_row (by decide)]), ?_, ?_⟩ (fun y => absurd y h1) (hD.cg (fun x x1 x2 => by rw [zup_row (by omega), zup_row (by omega), zup_row (by omega), zup_row (by omega), zup_row (by omega), zup_row (by omega), zup_row (by omega), zup_row (by omega), zup_row (by omega)]) ?_) hT ?_ ?_ ?_ ⟨?_, ?_, ?_⟩ (fun _ => ?_) ?_ (fun P p => kk P ⟨p.1, p.2.1, f0.tr p.2.2⟩)
        · rw [e22]; simp [zup]
        · rw [(yA0 (σ := σ) h1).1]; simp [zup]
        · simp [zup]
        · have hso' := hso
          simp [zup]; omega
        · simp [zup]
        · refine Eq.trans (b := 0) (by simp [zup]) ?_
          unfold ydd
          rw [if_neg (by omega)]
        · simp [zup]
        · simp [zup]
        · simp [zup]
        · simp [zup]; (repeat' split) <;> first | rfl | omega
        · unfold yov
          first
            | (rw [if_pos (by omega), e22]; done)
            | (rw [if_neg (by omega), if_pos (by omega), e22]; done)
            | (rw [if_neg (by omega), if_neg (by omega)]; done)
      · skip
        refine zw_iload ⟨rfl, rfl⟩ rfl ?_
        refine zw_calls1 ⟨rfl, rfl⟩ rfl rfl ?_
        refine zw_iload ⟨rfl, rfl⟩ rfl ?_
        refine zw_const ⟨rfl, rfl⟩ ?_
        refine zw_iceq ⟨rfl, rfl⟩ rfl (fun c4 => ?_) (fun c4 => ?_)
        · skip
          refine zw_const ⟨rfl, rfl⟩ ?_
          refine zw_goto ⟨rfl, rfl⟩ rfl ?_
          refine zw_zret rfl (by first | exact Or.inl rfl | exact Or.inr rfl | omega) ?_
          refine zw_ifeq ⟨rfl, rfl⟩ rfl (fun q => absurd q (by decide)) (fun _ => ?_)
          refine zw_aload ⟨rfl, rfl⟩ rfl ?_
          refine zw_getR 214 ⟨rfl, rfl⟩ zr_208_7 ?_
          refine zw_iload ⟨rfl, rfl⟩ rfl ?_
          refine zw_const ⟨rfl, rfl⟩ ?_
          refine zw_iast ⟨rfl, rfl⟩ za_214 (by omega) ?_
          refine zw_aload ⟨rfl, rfl⟩ rfl ?_
          refine zw_iload ⟨rfl, rfl⟩ rfl ?_
          refine zw_const ⟨rfl, rfl⟩ ?_
          refine zw_iadd ⟨rfl, rfl⟩ (by omega) ?_
          refine zw_putI ⟨rfl, rfl⟩ zc_208 (by decide) (fun h => absurd h (by decide)) ?_
          refine zw_aload ⟨rfl, rfl⟩ rfl ?_
          refine zw_getIv (v := b + 1) ⟨rfl, rfl⟩ zc_208 (by decide) (zup_eq _ _ _ _) ?_
          refine zw_istore_4 ⟨rfl, rfl⟩ ?_
          refine zw_goto ⟨rfl, rfl⟩ rfl ?_
          have h1 : yK σ b ≠ 1 := by assumption
          have f0 : ycf c M ((zup (zup (zup (zup (zup (zup (zup (zup (zup M 212 c b) 215 c 0) 208 21 0) 217 c b) 218 c 0) 219 c 0) 220 c 0) 214 c 3) 208 22 (b + 1))) := (ycf.tr (ycf.tr (ycf.tr (ycf.tr (ycf.tr (ycf.tr (ycf.tr (ycf.tr (ycf.up (by decide)) (ycf.up (by decide))) (ycf.u8 (by decide))) (ycf.up (by decide))) (ycf.up (by decide))) (ycf.up (by decide))) (ycf.up (by decide))) (ycf.up (by decide))) (ycf.u8 (by decide)))
          have e22 : ytl (yK σ) b = b + 1 := by unfold ytl; (repeat' split) <;> omega
          refine m_lc_124 hV hb hc ⟨hM.cg (by rw [zup_row (by decide), zup_row (by decide), zup_row (by decide), zup_row (by decide), zup_row (by decide), zup_row (by decide), zup_row (by decide), zup_row (by decide), zup_row (by decide)]), ?_, ?_⟩ (fun y => absurd y h1) (hD.cg (fun x x1 x2 => by rw [zup_row (by omega), zup_row (by omega), zup_row (by omega), zup_row (by omega), zup_row (by omega), zup_row (by omega), zup_row (by omega), zup_row (by omega), zup_row (by omega)]) ?_) hT ?_ ?_ ?_ ⟨?_, ?_, ?_⟩ (fun _ => ?_) ?_ (fun P p => kk P ⟨p.1, p.2.1, f0.tr p.2.2⟩)
          · rw [e22]; simp [zup]
          · rw [(yA0 (σ := σ) h1).1]; simp [zup]
          · simp [zup]
          · have hso' := hso
            simp [zup]; omega
          · simp [zup]
          · refine Eq.trans (b := 0) (by simp [zup]) ?_
            unfold ydd
            rw [if_neg (by omega)]
          · simp [zup]
          · simp [zup]
          · simp [zup]
          · simp [zup]; (repeat' split) <;> first | rfl | omega
          · unfold yov
            first
              | (rw [if_pos (by omega), e22]; done)
              | (rw [if_neg (by omega), if_pos (by omega), e22]; done)
              | (rw [if_neg (by omega), if_neg (by omega)]; done)
        · skip
          refine zw_iload ⟨rfl, rfl⟩ rfl ?_
          refine zw_const ⟨rfl, rfl⟩ ?_
          refine zw_icne ⟨rfl, rfl⟩ rfl (fun c6 => ?_) (fun c6 => ?_)
          · skip
            refine zw_const ⟨rfl, rfl⟩ ?_
            refine zw_zret rfl (by first | exact Or.inl rfl | exact Or.inr rfl | omega) ?_
            refine zw_ifeq ⟨rfl, rfl⟩ rfl (fun _ => ?_) (fun q => absurd (by decide) q)
            refine zw_aload ⟨rfl, rfl⟩ rfl ?_
            refine zw_getR 214 ⟨rfl, rfl⟩ zr_208_7 ?_
            refine zw_iload ⟨rfl, rfl⟩ rfl ?_
            refine zw_const ⟨rfl, rfl⟩ ?_
            refine zw_iast ⟨rfl, rfl⟩ za_214 (by omega) ?_
            refine zw_aload ⟨rfl, rfl⟩ rfl ?_
            refine zw_getR 217 ⟨rfl, rfl⟩ zr_208_10 ?_
            refine zw_iload ⟨rfl, rfl⟩ rfl ?_
            refine zw_const ⟨rfl, rfl⟩ ?_
            refine zw_iast ⟨rfl, rfl⟩ za_217 (by omega) ?_
            refine zw_aload ⟨rfl, rfl⟩ rfl ?_
            refine zw_iload ⟨rfl, rfl⟩ rfl ?_
            refine zw_iload ⟨rfl, rfl⟩ rfl ?_
            refine zw_const ⟨rfl, rfl⟩ ?_
            refine zw_icne ⟨rfl, rfl⟩ rfl (fun c8 => ?_) (fun c8 => ?_)
            · skip
              refine zw_iload ⟨rfl, rfl⟩ rfl ?_
              refine zw_callv3 ⟨rfl, rfl⟩ rfl zc_208 rfl ?_
              have et : b = ytl (yK σ) b := by unfold ytl; (repeat' split) <;> omega
              refine m_ends hV (hM.cg (by rw [zup_row (by decide), zup_row (by decide), zup_row (by decide), zup_row (by decide), zup_row (by decide), zup_row (by decide), zup_row (by decide), zup_row (by decide), zup_row (by decide)])) hc (by omega) ?_
              refine zw_istore_4 ⟨rfl, rfl⟩ ?_
              have h1 : yK σ b ≠ 1 := by assumption
              have f0 : ycf c M ((zup (zup (zup (zup (zup (zup (zup (zup (zup (zup (zup M 212 c b) 215 c 0) 208 21 0) 217 c b) 218 c 0) 219 c 0) 220 c 0) 214 c 2) 217 c (-1)) 208 22 b) 215 c (if yK σ (b) = 3 then 1 else 0))) := (ycf.tr (ycf.tr (ycf.tr (ycf.tr (ycf.tr (ycf.tr (ycf.tr (ycf.tr (ycf.tr (ycf.tr (ycf.up (by decide)) (ycf.up (by decide))) (ycf.u8 (by decide))) (ycf.up (by decide))) (ycf.up (by decide))) (ycf.up (by decide))) (ycf.up (by decide))) (ycf.up (by decide))) (ycf.up (by decide))) (ycf.u8 (by decide))) (ycf.up (by decide)))
              have e22 : ytl (yK σ) b = b := by unfold ytl; (repeat' split) <;> omega
              refine m_lc_124 hV hb hc ⟨hM.cg (by rw [zup_row (by decide), zup_row (by decide), zup_row (by decide), zup_row (by decide), zup_row (by decide), zup_row (by decide), zup_row (by decide), zup_row (by decide), zup_row (by decide), zup_row (by decide), zup_row (by decide)]), ?_, ?_⟩ (fun y => absurd y h1) (hD.cg (fun x x1 x2 => by rw [zup_row (by omega), zup_row (by omega), zup_row (by omega), zup_row (by omega), zup_row (by omega), zup_row (by omega), zup_row (by omega), zup_row (by omega), zup_row (by omega), zup_row (by omega), zup_row (by omega)]) ?_) hT ?_ ?_ ?_ ⟨?_, ?_, ?_⟩ (fun _ => ?_) ?_ (fun P p => kk P ⟨p.1, p.2.1, f0.tr p.2.2⟩)
              · rw [e22]; simp [zup]
              · rw [(yA0 (σ := σ) h1).1]; simp [zup]
              · simp [zup]
              · have hso' := hso
                simp [zup]; omega
              · simp [zup]
              · refine Eq.trans (b := if yK σ (b) = 3 then 1 else 0) (by simp [zup]) ?_
                unfold ydd
                rw [e22]
                by_cases q : yK σ (b) = 3
                · rw [if_pos q, if_pos ⟨Or.inr (by omega), q⟩]
                · rw [if_neg q, if_neg (fun z => q z.2)]
              · simp [zup]
              · simp [zup]
              · simp [zup]
              · simp [zup]; (repeat' split) <;> first | rfl | omega
              · unfold yov
                first
                  | (rw [if_pos (by omega), e22]; done)
                  | (rw [if_neg (by omega), if_pos (by omega), e22]; done)
                  | (rw [if_neg (by omega), if_neg (by omega)]; done)
            · skip
              refine zw_iload ⟨rfl, rfl⟩ rfl ?_
              refine zw_const ⟨rfl, rfl⟩ ?_
              refine zw_iadd ⟨rfl, rfl⟩ (by omega) ?_
              refine zw_goto ⟨rfl, rfl⟩ rfl ?_
              refine zw_callv3 ⟨rfl, rfl⟩ rfl zc_208 rfl ?_
              have et : b + 1 = ytl (yK σ) b := by unfold ytl; (repeat' split) <;> omega
              refine m_ends hV (hM.cg (by rw [zup_row (by decide), zup_row (by decide), zup_row (by decide), zup_row (by decide), zup_row (by decide), zup_row (by decide), zup_row (by decide), zup_row (by decide), zup_row (by decide)])) hc (by omega) ?_
              refine zw_istore_4 ⟨rfl, rfl⟩ ?_
              have h1 : yK σ b ≠ 1 := by assumption
              have f0 : ycf c M ((zup (zup (zup (zup (zup (zup (zup (zup (zup (zup (zup M 212 c b) 215 c 0) 208 21 0) 217 c b) 218 c 0) 219 c 0) 220 c 0) 214 c 2) 217 c (-1)) 208 22 (b + 1)) 215 c (if yK σ (b + 1) = 3 then 1 else 0))) := (ycf.tr (ycf.tr (ycf.tr (ycf.tr (ycf.tr (ycf.tr (ycf.tr (ycf.tr (ycf.tr (ycf.tr (ycf.up (by decide)) (ycf.up (by decide))) (ycf.u8 (by decide))) (ycf.up (by decide))) (ycf.up (by decide))) (ycf.up (by decide))) (ycf.up (by decide))) (ycf.up (by decide))) (ycf.up (by decide))) (ycf.u8 (by decide))) (ycf.up (by decide)))
              have e22 : ytl (yK σ) b = b + 1 := by unfold ytl; (repeat' split) <;> omega
              refine m_lc_124 hV hb hc ⟨hM.cg (by rw [zup_row (by decide), zup_row (by decide), zup_row (by decide), zup_row (by decide), zup_row (by decide), zup_row (by decide), zup_row (by decide), zup_row (by decide), zup_row (by decide), zup_row (by decide), zup_row (by decide)]), ?_, ?_⟩ (fun y => absurd y h1) (hD.cg (fun x x1 x2 => by rw [zup_row (by omega), zup_row (by omega), zup_row (by omega), zup_row (by omega), zup_row (by omega), zup_row (by omega), zup_row (by omega), zup_row (by omega), zup_row (by omega), zup_row (by omega), zup_row (by omega)]) ?_) hT ?_ ?_ ?_ ⟨?_, ?_, ?_⟩ (fun _ => ?_) ?_ (fun P p => kk P ⟨p.1, p.2.1, f0.tr p.2.2⟩)
              · rw [e22]; simp [zup]
              · rw [(yA0 (σ := σ) h1).1]; simp [zup]
              · simp [zup]
              · have hso' := hso
                simp [zup]; omega
              · simp [zup]
              · refine Eq.trans (b := if yK σ (b + 1) = 3 then 1 else 0) (by simp [zup]) ?_
                unfold ydd
                rw [e22]
                by_cases q : yK σ (b + 1) = 3
                · rw [if_pos q, if_pos ⟨Or.inr (by omega), q⟩]
                · rw [if_neg q, if_neg (fun z => q z.2)]
              · simp [zup]
              · simp [zup]
              · simp [zup]
              · simp [zup]; (repeat' split) <;> first | rfl | omega
              · unfold yov
                first
                  | (rw [if_pos (by omega), e22]; done)
                  | (rw [if_neg (by omega), if_pos (by omega), e22]; done)
                  | (rw [if_neg (by omega), if_neg (by omega)]; done)
          · skip
            refine zw_const ⟨rfl, rfl⟩ ?_
            refine zw_goto ⟨rfl, rfl⟩ rfl ?_
            refine zw_zret rfl (by first | exact Or.inl rfl | exact Or.inr rfl | omega) ?_
            refine zw_ifeq ⟨rfl, rfl⟩ rfl (fun q => absurd q (by decide)) (fun _ => ?_)
            refine zw_aload ⟨rfl, rfl⟩ rfl ?_
            refine zw_getR 214 ⟨rfl, rfl⟩ zr_208_7 ?_
            refine zw_iload ⟨rfl, rfl⟩ rfl ?_
            refine zw_const ⟨rfl, rfl⟩ ?_
            refine zw_iast ⟨rfl, rfl⟩ za_214 (by omega) ?_
            refine zw_aload ⟨rfl, rfl⟩ rfl ?_
            refine zw_iload ⟨rfl, rfl⟩ rfl ?_
            refine zw_const ⟨rfl, rfl⟩ ?_
            refine zw_iadd ⟨rfl, rfl⟩ (by omega) ?_
            refine zw_putI ⟨rfl, rfl⟩ zc_208 (by decide) (fun h => absurd h (by decide)) ?_
            refine zw_aload ⟨rfl, rfl⟩ rfl ?_
            refine zw_getIv (v := b + 1) ⟨rfl, rfl⟩ zc_208 (by decide) (zup_eq _ _ _ _) ?_
            refine zw_istore_4 ⟨rfl, rfl⟩ ?_
            refine zw_goto ⟨rfl, rfl⟩ rfl ?_
            have h1 : yK σ b ≠ 1 := by assumption
            have f0 : ycf c M ((zup (zup (zup (zup (zup (zup (zup (zup (zup M 212 c b) 215 c 0) 208 21 0) 217 c b) 218 c 0) 219 c 0) 220 c 0) 214 c 3) 208 22 (b + 1))) := (ycf.tr (ycf.tr (ycf.tr (ycf.tr (ycf.tr (ycf.tr (ycf.tr (ycf.tr (ycf.up (by decide)) (ycf.up (by decide))) (ycf.u8 (by decide))) (ycf.up (by decide))) (ycf.up (by decide))) (ycf.up (by decide))) (ycf.up (by decide))) (ycf.up (by decide))) (ycf.u8 (by decide)))
            have e22 : ytl (yK σ) b = b + 1 := by unfold ytl; (repeat' split) <;> omega
            refine m_lc_124 hV hb hc ⟨hM.cg (by rw [zup_row (by decide), zup_row (by decide), zup_row (by decide), zup_row (by decide), zup_row (by decide), zup_row (by decide), zup_row (by decide), zup_row (by decide), zup_row (by decide)]), ?_, ?_⟩ (fun y => absurd y h1) (hD.cg (fun x x1 x2 => by rw [zup_row (by omega), zup_row (by omega), zup_row (by omega), zup_row (by omega), zup_row (by omega), zup_row (by omega), zup_row (by omega), zup_row (by omega), zup_row (by omega)]) ?_) hT ?_ ?_ ?_ ⟨?_, ?_, ?_⟩ (fun _ => ?_) ?_ (fun P p => kk P ⟨p.1, p.2.1, f0.tr p.2.2⟩)
            · rw [e22]; simp [zup]
            · rw [(yA0 (σ := σ) h1).1]; simp [zup]
            · simp [zup]
            · have hso' := hso
              simp [zup]; omega
            · simp [zup]
            · refine Eq.trans (b := 0) (by simp [zup]) ?_
              unfold ydd
              rw [if_neg (by omega)]
            · simp [zup]
            · simp [zup]
            · simp [zup]
            · simp [zup]; (repeat' split) <;> first | rfl | omega
            · unfold yov
              first
                | (rw [if_pos (by omega), e22]; done)
                | (rw [if_neg (by omega), if_pos (by omega), e22]; done)
                | (rw [if_neg (by omega), if_neg (by omega)]; done)
    · skip
      refine zw_aload ⟨rfl, rfl⟩ rfl ?_
      refine zw_getR 214 ⟨rfl, rfl⟩ zr_208_7 ?_
      refine zw_iload ⟨rfl, rfl⟩ rfl ?_
      refine zw_const ⟨rfl, rfl⟩ ?_
      refine zw_iast ⟨rfl, rfl⟩ za_214 (by omega) ?_
      refine zw_aload ⟨rfl, rfl⟩ rfl ?_
      refine zw_aload ⟨rfl, rfl⟩ rfl ?_
      refine zw_iload ⟨rfl, rfl⟩ rfl ?_
      refine zw_const ⟨rfl, rfl⟩ ?_
      refine zw_iadd ⟨rfl, rfl⟩ (by omega) ?_
      refine zw_callv2 ⟨rfl, rfl⟩ rfl zc_208 rfl ?_
      refine m_MkindAt hV (hM.cg (by rw [zup_row (by decide), zup_row (by decide), zup_row (by decide), zup_row (by decide), zup_row (by decide), zup_row (by decide), zup_row (by decide), zup_row (by decide)])) (by omega) ?_
      refine zw_const ⟨rfl, rfl⟩ ?_
      refine zw_icne ⟨rfl, rfl⟩ rfl (fun c10 => ?_) (fun c10 => ?_)
      · skip
        refine zw_iload ⟨rfl, rfl⟩ rfl ?_
        refine zw_const ⟨rfl, rfl⟩ ?_
        refine zw_iadd ⟨rfl, rfl⟩ (by omega) ?_
        refine zw_putI ⟨rfl, rfl⟩ zc_208 (by decide) (fun h => absurd h (by decide)) ?_
        refine zw_aload ⟨rfl, rfl⟩ rfl ?_
        refine zw_aload ⟨rfl, rfl⟩ rfl ?_
        refine zw_getIv (v := b + 1) ⟨rfl, rfl⟩ zc_208 (by decide) (zup_eq _ _ _ _) ?_
        refine zw_callv2 ⟨rfl, rfl⟩ rfl zc_208 rfl ?_
        have et : b + 1 = ytl (yK σ) b := by unfold ytl; (repeat' split) <;> omega
        refine m_marksFrom hV (hM.cg (by rw [zup_row (by decide), zup_row (by decide), zup_row (by decide), zup_row (by decide), zup_row (by decide), zup_row (by decide), zup_row (by decide), zup_row (by decide), zup_row (by decide)])) (by omega) ?_
        refine zw_istore_4 ⟨rfl, rfl⟩ ?_
        refine zw_goto ⟨rfl, rfl⟩ rfl ?_
        have h1 : yK σ b ≠ 1 := by assumption
        have f0 : ycf c M ((zup (zup (zup (zup (zup (zup (zup (zup (zup M 212 c b) 215 c 0) 208 21 0) 217 c b) 218 c 0) 219 c 0) 220 c 0) 214 c 1) 208 22 (b + 1))) := (ycf.tr (ycf.tr (ycf.tr (ycf.tr (ycf.tr (ycf.tr (ycf.tr (ycf.tr (ycf.up (by decide)) (ycf.up (by decide))) (ycf.u8 (by decide))) (ycf.up (by decide))) (ycf.up (by decide))) (ycf.up (by decide))) (ycf.up (by decide))) (ycf.up (by decide))) (ycf.u8 (by decide)))
        have e22 : ytl (yK σ) b = b + 1 := by unfold ytl; (repeat' split) <;> omega
        refine m_lc_124 hV hb hc ⟨hM.cg (by rw [zup_row (by decide), zup_row (by decide), zup_row (by decide), zup_row (by decide), zup_row (by decide), zup_row (by decide), zup_row (by decide), zup_row (by decide), zup_row (by decide)]), ?_, ?_⟩ (fun y => absurd y h1) (hD.cg (fun x x1 x2 => by rw [zup_row (by omega), zup_row (by omega), zup_row (by omega), zup_row (by omega), zup_row (by omega), zup_row (by omega), zup_row (by omega), zup_row (by omega), zup_row (by omega)]) ?_) hT ?_ ?_ ?_ ⟨?_, ?_, ?_⟩ (fun _ => ?_) ?_ (fun P p => kk P ⟨p.1, p.2.1, f0.tr p.2.2⟩)
        · rw [e22]; simp [zup]
        · rw [(yA0 (σ := σ) h1).1]; simp [zup]
        · simp [zup]
        · have hso' := hso
          simp [zup]; omega
        · simp [zup]
        · refine Eq.trans (b := 0) (by simp [zup]) ?_
          unfold ydd
          rw [if_neg (by omega)]
        · simp [zup]
        · simp [zup]
        · simp [zup]
        · simp [zup]; (repeat' split) <;> first | rfl | omega
        · unfold yov
          first
            | (rw [if_pos (by omega), e22]; done)
            | (rw [if_neg (by omega), if_pos (by omega), e22]; done)
            | (rw [if_neg (by omega), if_neg (by omega)]; done)
      · skip
        refine zw_iload ⟨rfl, rfl⟩ rfl ?_
        refine zw_const ⟨rfl, rfl⟩ ?_
        refine zw_iadd ⟨rfl, rfl⟩ (by omega) ?_
        refine zw_goto ⟨rfl, rfl⟩ rfl ?_
        refine zw_putI ⟨rfl, rfl⟩ zc_208 (by decide) (fun h => absurd h (by decide)) ?_
        refine zw_aload ⟨rfl, rfl⟩ rfl ?_
        refine zw_aload ⟨rfl, rfl⟩ rfl ?_
        refine zw_getIv (v := b + 2) ⟨rfl, rfl⟩ zc_208 (by decide) (zup_eq _ _ _ _) ?_
        refine zw_callv2 ⟨rfl, rfl⟩ rfl zc_208 rfl ?_
        have et : b + 2 = ytl (yK σ) b := by unfold ytl; (repeat' split) <;> omega
        refine m_marksFrom hV (hM.cg (by rw [zup_row (by decide), zup_row (by decide), zup_row (by decide), zup_row (by decide), zup_row (by decide), zup_row (by decide), zup_row (by decide), zup_row (by decide), zup_row (by decide)])) (by omega) ?_
        refine zw_istore_4 ⟨rfl, rfl⟩ ?_
        refine zw_goto ⟨rfl, rfl⟩ rfl ?_
        have h1 : yK σ b ≠ 1 := by assumption
        have f0 : ycf c M ((zup (zup (zup (zup (zup (zup (zup (zup (zup M 212 c b) 215 c 0) 208 21 0) 217 c b) 218 c 0) 219 c 0) 220 c 0) 214 c 1) 208 22 (b + 2))) := (ycf.tr (ycf.tr (ycf.tr (ycf.tr (ycf.tr (ycf.tr (ycf.tr (ycf.tr (ycf.up (by decide)) (ycf.up (by decide))) (ycf.u8 (by decide))) (ycf.up (by decide))) (ycf.up (by decide))) (ycf.up (by decide))) (ycf.up (by decide))) (ycf.up (by decide))) (ycf.u8 (by decide)))
        have e22 : ytl (yK σ) b = b + 2 := by unfold ytl; (repeat' split) <;> omega
        refine m_lc_124 hV hb hc ⟨hM.cg (by rw [zup_row (by decide), zup_row (by decide), zup_row (by decide), zup_row (by decide), zup_row (by decide), zup_row (by decide), zup_row (by decide), zup_row (by decide), zup_row (by decide)]), ?_, ?_⟩ (fun y => absurd y h1) (hD.cg (fun x x1 x2 => by rw [zup_row (by omega), zup_row (by omega), zup_row (by omega), zup_row (by omega), zup_row (by omega), zup_row (by omega), zup_row (by omega), zup_row (by omega), zup_row (by omega)]) ?_) hT ?_ ?_ ?_ ⟨?_, ?_, ?_⟩ (fun _ => ?_) ?_ (fun P p => kk P ⟨p.1, p.2.1, f0.tr p.2.2⟩)
        · rw [e22]; simp [zup]
        · rw [(yA0 (σ := σ) h1).1]; simp [zup]
        · simp [zup]
        · have hso' := hso
          simp [zup]; omega
        · simp [zup]
        · refine Eq.trans (b := 0) (by simp [zup]) ?_
          unfold ydd
          rw [if_neg (by omega)]
        · simp [zup]
        · simp [zup]
        · simp [zup]
        · simp [zup]; (repeat' split) <;> first | rfl | omega
        · unfold yov
          first
            | (rw [if_pos (by omega), e22]; done)
            | (rw [if_neg (by omega), if_pos (by omega), e22]; done)
            | (rw [if_neg (by omega), if_neg (by omega)]; done)
  · skip
    refine zw_aload ⟨rfl, rfl⟩ rfl ?_
    refine zw_getR 214 ⟨rfl, rfl⟩ zr_208_7 ?_
    refine zw_iload ⟨rfl, rfl⟩ rfl ?_
    refine zw_const ⟨rfl, rfl⟩ ?_
    refine zw_iast ⟨rfl, rfl⟩ za_214 (by omega) ?_
    refine zw_aload ⟨rfl, rfl⟩ rfl ?_
    refine zw_iload ⟨rfl, rfl⟩ rfl ?_
    refine zw_aload ⟨rfl, rfl⟩ rfl ?_
    refine zw_iload ⟨rfl, rfl⟩ rfl ?_
    refine zw_callv2 ⟨rfl, rfl⟩ rfl zc_208 rfl ?_
    have h1 : yK σ b = 1 := by omega
    refine m_chains hV (hM.cg (by rw [zup_row (by decide), zup_row (by decide), zup_row (by decide), zup_row (by decide), zup_row (by decide), zup_row (by decide), zup_row (by decide), zup_row (by decide)])) hb.1.1 hb.1.2 h1 (fun N1 p1 => ?_)
    obtain ⟨p1, g1, g2⟩ := p1
    have hM1 : yMo N1 σ := hM.cg (by rw [g1 209 (by decide) (by decide)]; rw [zup_row (by decide), zup_row (by decide), zup_row (by decide), zup_row (by decide), zup_row (by decide), zup_row (by decide), zup_row (by decide), zup_row (by decide)])
    have et : yq (yK σ) (ypl (yK σ) b (ym (yK σ) b - 1)) = ytl (yK σ) b := (if_pos h1).symm
    rw [et]
    refine zw_callv3 ⟨rfl, rfl⟩ rfl zc_208 rfl ?_
    refine m_ends hV hM1 hc (by omega) ?_
    refine zw_istore_4 ⟨rfl, rfl⟩ ?_
    refine zw_goto ⟨rfl, rfl⟩ rfl ?_
    have f0 : ycf c M ((zup (zup (zup (zup (zup (zup (zup (zup M 212 c b) 215 c 0) 208 21 0) 217 c b) 218 c 0) 219 c 0) 220 c 0) 214 c 0)) := (ycf.tr (ycf.tr (ycf.tr (ycf.tr (ycf.tr (ycf.tr (ycf.tr (ycf.up (by decide)) (ycf.up (by decide))) (ycf.u8 (by decide))) (ycf.up (by decide))) (ycf.up (by decide))) (ycf.up (by decide))) (ycf.up (by decide))) (ycf.up (by decide)))
    have f1 : ycf c ((zup (zup (zup (zup (zup (zup (zup (zup M 212 c b) 215 c 0) 208 21 0) 217 c b) 218 c 0) 219 c 0) 220 c 0) 214 c 0)) N1 := ⟨fun x x1 x2 x3 => g1 x (by omega) x3, fun j j1 j2 j3 => g2 j j1, fun x x1 x2 j _ => by rw [g1 x (by omega) (by omega)]⟩
    have f2 : ycf c N1 ((zup (zup N1 208 22 (ytl (yK σ) b)) 215 c (if yK σ (ytl (yK σ) b) = 3 then 1 else 0))) := ycf.tr (ycf.u8 (Or.inr rfl)) (ycf.up (by decide))
    have hs0 : yso (yK σ b) = 0 := hso.1.mpr h1
    refine m_lc_124 hV hb hc ⟨hM1.cg (by rw [zup_row (by decide), zup_row (by decide)]), rfl, p1.1.trans (if_pos h1).symm⟩ (fun _ => p1) ?_ hT ?_ ?_ ?_ ⟨?_, ?_, ?_⟩ (fun y => absurd h1 y) ?_ (fun P p => kk P ⟨p.1, p.2.1, f0.tr (f1.tr (f2.tr p.2.2))⟩)
    · refine hD.cg (fun x x1 x2 => ?_) ?_
      · rw [zup_row (by omega), zup_row (by omega), g1 x (by omega) (by omega)]
        rw [zup_row (by omega), zup_row (by omega), zup_row (by omega), zup_row (by omega), zup_row (by omega), zup_row (by omega), zup_row (by omega), zup_row (by omega)]
      · show N1 208 31 = _
        rw [g2 31 (by decide)]
        simp [zup]
    · show N1 214 c = _
      rw [hs0, g1 214 (by decide) (by decide)]
      simp [zup]
    · show N1 212 c = _
      rw [g1 212 (by decide) (by decide)]
      simp [zup]
    · rw [zup_eq]; unfold ydd; by_cases q : yK σ (ytl (yK σ) b) = 3
      · rw [if_pos q, if_pos ⟨Or.inl hs0, q⟩]
      · rw [if_neg q, if_neg (fun z => q z.2)]
    · show N1 218 c = _
      rw [g1 218 (by decide) (by decide)]
      simp [zup]
    · show N1 219 c = _
      rw [g1 219 (by decide) (by decide)]
      simp [zup]
    · show N1 220 c = _
      rw [g1 220 (by decide) (by decide)]
      simp [zup]
    · unfold yov; rw [if_pos (Or.inl hs0)]
end
