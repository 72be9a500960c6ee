/-! The model's glyphs of a cluster -/
def ylf (c : Int) (M N : zM) : Prop := (∀ x, ¬ (217 ≤ x ∧ x ≤ 220) → ¬ (226 ≤ x ∧ x ≤ 234) → x ≠ 208 → N x = M x) ∧ (∀ j, j ≠ 31 → N 208 j = M 208 j) ∧ ∀ x, 217 ≤ x → x ≤ 220 → ∀ j, j ≠ c → N x j = M x j
theorem ylf.rf {c : Int} {M : zM} : ylf c M M := ⟨fun _ _ _ _ => rfl, fun _ _ => rfl, fun _ _ _ _ _ => rfl⟩
theorem ylf.tr {c : Int} {M N P : zM} (h : ylf c M N) (g : ylf c N P) : ylf c M P := ⟨fun x a b d => (g.1 x a b d).trans (h.1 x a b d), fun j hj => (g.2.1 j hj).trans (h.2.1 j hj), fun x a b j hj => (g.2.2 x a b j hj).trans (h.2.2 x a b j hj)⟩
theorem yahs_sk {σ : yS} {c b k : Int} {T : yT} (h : (yrp σ (yK σ) b < k ∧ yjf σ (yK σ) b (k - 1) = 1) ∨ yba σ (yK σ) b ≤ yla σ b k) : yahs σ c b k T = T := if_pos h
theorem ygf.l {c : Int} {M N : zM} (h : ygf M N) : ylf c M N := ⟨fun x a b d => h.1 x (by omega) d, h.2, fun x a b j _ => by rw [h.1 x (by omega) (by omega)]⟩
theorem yGm.cg {M N : zM} {T : yT} (h : yGm M T) (e : ∀ x, 227 ≤ x → x ≤ 234 → N x = M x) (e8 : N 208 31 = M 208 31) : yGm N T := by
  unfold yGm
  rw [e8, e 227 (by decide) (by decide), e 228 (by decide) (by decide), e 229 (by decide) (by decide), e 230 (by decide) (by decide), e 231 (by decide) (by decide), e 232 (by decide) (by decide), e 233 (by decide) (by decide), e 234 (by decide) (by decide)]
  exact h
def yFin (σ : yS) (c b : Int) (T : yT) : yT := ymrk σ 11 9 c b (ysgn σ 8 8 c b (ymrk σ 10 7 c b (yrph σ c b (ysgn σ 6 5 c b (yded σ c b (ysgn σ 7 4 c b T))))))
def yBd (σ : yS) (c b : Int) (T : yT) : Prop := T.1 + ysm (ycs σ 7) (ytl (yK σ) b) (yov (yK σ) b) ≤ 180 ∧ (yded σ c b (ysgn σ 7 4 c b T)).1 ≤ 180 ∧ (yded σ c b (ysgn σ 7 4 c b T)).1 + ysm (ycs σ 6) (ytl (yK σ) b) (yov (yK σ) b) ≤ 180 ∧ ((ysgn σ 6 5 c b (yded σ c b (ysgn σ 7 4 c b T))).1 + 1 ≤ 180 ∨ yrp σ (yK σ) b = 0) ∧
  (yrph σ c b (ysgn σ 6 5 c b (yded σ c b (ysgn σ 7 4 c b T)))).1 + ysm (ycm σ 10) (ytl (yK σ) b) (yov (yK σ) b) ≤ 180 ∧ (ymrk σ 10 7 c b (yrph σ c b (ysgn σ 6 5 c b (yded σ c b (ysgn σ 7 4 c b T))))).1 + ysm (ycs σ 8) (ytl (yK σ) b) (yov (yK σ) b) ≤ 180 ∧ (ysgn σ 8 8 c b (ymrk σ 10 7 c b (yrph σ c b (ysgn σ 6 5 c b (yded σ c b (ysgn σ 7 4 c b T)))))).1 + ysm (ycm σ 11) (ytl (yK σ) b) (yov (yK σ) b) ≤ 180

section
set_option maxHeartbeats 8000000
theorem m_lg_163 {f : Int} {u4 u5 u6 : zV} {M : zM} {Q : zV → zM → Prop} {σ : yS} {b c : Int} {T : yT} (hV : yVal σ) (hb : (0 ≤ b ∧ b < σ 0) ∧ ybg (yK σ) b) (hc : 0 ≤ c ∧ c < 60) (hA : yMa M σ b) (hB : yK σ b = 1 → yMb M σ b) (hD : yGm M T) (hbd : yBd σ c b T) (hf : f = yrp σ (yK σ) b) (hd : M 215 c = ydd (yK σ) b) (kk : ∀ N : zM, (yGm N (yFin σ c b T) ∧ ygf M N) → Q (3, 0) N) : zWp kM_laysGlyphs 163 [(1, 208), (0, c), (0, yov (yK σ) b), (0, f), u4, u5, u6] [] M Q := by
  have hK := yKr_K hV
  have hn := hV.1
  have hov := (yov_sp hK hb.1.1 hb.1.2 hb.2).2.1
  obtain ⟨hbd1, hbd2, hbd3, hbd4, hbd5, hbd6, hbd7⟩ := hbd
  have hT0 := hD.2.1
  have h00 : T.1 ≤ (ysgn σ 6 5 c b (yded σ c b (ysgn σ 7 4 c b T))).1 := (((yPre_sgn ..).tr (yPre_ded ..)).tr (yPre_sgn ..)).1
  have hdr := ydd_r (yK σ) b
  have hrr := yrp_r σ (yK σ) b
  refine zw_aload ⟨rfl, rfl⟩ rfl ?_
  refine zw_iload ⟨rfl, rfl⟩ rfl ?_
  refine zw_const ⟨rfl, rfl⟩ ?_
  refine zw_const ⟨rfl, rfl⟩ ?_
  refine zw_iload ⟨rfl, rfl⟩ rfl ?_
  refine zw_cavv5 ⟨rfl, rfl⟩ rfl zc_208 rfl ?_
  refine m_showsSigns hV hA hb hD ⟨by decide, by decide⟩ (by exact hbd1) (fun N1 p1 => ?_)
  have hA1 := hA.fr p1.2
  have F1 := p1.2
  have d1 := p1.1
  refine zw_aload ⟨rfl, rfl⟩ rfl ?_
  refine zw_getR 215 ⟨rfl, rfl⟩ zr_208_8 ?_
  refine zw_iload ⟨rfl, rfl⟩ rfl ?_
  refine zw_ialdv (v := ydd (yK σ) b) ⟨rfl, rfl⟩ za_215 (by omega) ((congrFun (F1.1 215 (by decide) (by decide)) c).trans hd) ?_
  refine zw_const ⟨rfl, rfl⟩ ?_
  refine zw_icne ⟨rfl, rfl⟩ rfl (fun c1 => ?_) (fun c1 => ?_)
  · skip
    refine zw_aload ⟨rfl, rfl⟩ rfl ?_
    refine zw_iload ⟨rfl, rfl⟩ rfl ?_
    refine zw_const ⟨rfl, rfl⟩ ?_
    refine zw_const ⟨rfl, rfl⟩ ?_
    refine zw_iload ⟨rfl, rfl⟩ rfl ?_
    refine zw_cavv5 ⟨rfl, rfl⟩ rfl zc_208 rfl ?_
    refine m_showsSigns hV hA1 hb (T := yded σ c b (ysgn σ 7 4 c b T)) (by first | exact e6 | (rw [show yded σ c b (ysgn σ 7 4 c b T) = ysgn σ 7 4 c b T from if_neg (by omega)]; exact d1)) ⟨by decide, by decide⟩ (by exact hbd3) (fun N2 p2 => ?_)
    have hA2 := hA1.fr p2.2
    have F2 := F1.tr p2.2
    have d2 := p2.1
    refine zw_iload ⟨rfl, rfl⟩ rfl ?_
    refine zw_const ⟨rfl, rfl⟩ ?_
    refine zw_icne ⟨rfl, rfl⟩ rfl (fun c2 => ?_) (fun c2 => ?_)
    · skip
      refine zw_aload ⟨rfl, rfl⟩ rfl ?_
      refine zw_iload ⟨rfl, rfl⟩ rfl ?_
      refine zw_const ⟨rfl, rfl⟩ ?_
      refine zw_const ⟨rfl, rfl⟩ ?_
      refine zw_iload ⟨rfl, rfl⟩ rfl ?_
      refine zw_cavv5 ⟨rfl, rfl⟩ rfl zc_208 rfl ?_
      refine m_showsKind hV hA2 hb (T := yrph σ c b (ysgn σ 6 5 c b (yded σ c b (ysgn σ 7 4 c b T)))) (by first | exact e8 | (rw [show yrph σ c b (ysgn σ 6 5 c b (yded σ c b (ysgn σ 7 4 c b T))) = ysgn σ 6 5 c b (yded σ c b (ysgn σ 7 4 c b T)) from if_neg (by omega)]; exact d2)) ⟨by decide, by decide⟩ (by exact hbd5) (fun N3 p3 => ?_)
      have hA3 := hA2.fr p3.2
      have F3 := F2.tr p3.2
      have d3 := p3.1
      refine zw_aload ⟨rfl, rfl⟩ rfl ?_
      refine zw_iload ⟨rfl, rfl⟩ rfl ?_
      refine zw_const ⟨rfl, rfl⟩ ?_
      refine zw_const ⟨rfl, rfl⟩ ?_
      refine zw_iload ⟨rfl, rfl⟩ rfl ?_
      refine zw_cavv5 ⟨rfl, rfl⟩ rfl zc_208 rfl ?_
      refine m_showsSigns hV hA3 hb d3 ⟨by decide, by decide⟩ (by exact hbd6) (fun N4 p4 => ?_)
      have hA4 := hA3.fr p4.2
      have F4 := F3.tr p4.2
      have d4 := p4.1
      refine zw_aload ⟨rfl, rfl⟩ rfl ?_
      refine zw_iload ⟨rfl, rfl⟩ rfl ?_
      refine zw_const ⟨rfl, rfl⟩ ?_
      refine zw_const ⟨rfl, rfl⟩ ?_
      refine zw_iload ⟨rfl, rfl⟩ rfl ?_
      refine zw_cavv5 ⟨rfl, rfl⟩ rfl zc_208 rfl ?_
      refine m_showsKind hV hA4 hb d4 ⟨by decide, by decide⟩ (by exact hbd7) (fun N5 p5 => ?_)
      have hA5 := hA4.fr p5.2
      have F5 := F4.tr p5.2
      have d5 := p5.1
      refine zw_void rfl ?_
      refine kk _ ⟨?_, F5⟩
      unfold yFin
      exact d5
    · skip
      have h1 := (hrr.2 (by omega)).1
      have hm := ym_r hK hb.1.1 hb.1.2 h1
      have em : yms (yK σ) b = ym (yK σ) b := if_pos h1
      refine zw_aload ⟨rfl, rfl⟩ rfl ?_
      refine zw_iload ⟨rfl, rfl⟩ rfl ?_
      refine zw_const ⟨rfl, rfl⟩ ?_
      refine zw_const ⟨rfl, rfl⟩ ?_
      refine zw_aload ⟨rfl, rfl⟩ rfl ?_
      refine zw_getR 222 ⟨rfl, rfl⟩ zr_208_16 ?_
      refine zw_const ⟨rfl, rfl⟩ ?_
      refine zw_ialdv (v := b) ⟨rfl, rfl⟩ za_222 (by omega) ((((hB h1).fr F2).2 0 (by decide) (by omega)).1) ?_
      refine zw_cavv5 ⟨rfl, rfl⟩ rfl zc_208 rfl ?_
      refine m_showsAt hV hA2.1 d2 (Or.inr ⟨by omega, by omega⟩) (fun _ => by omega) (fun _ => ywo_e σ _ _ (by decide) (by decide)) (fun N3 p3 => ?_)
      have hA3 := hA2.fr p3.2
      have F3 := F2.tr p3.2
      have d3 := p3.1
      have nG : N3 208 31 = (ysgn σ 6 5 c b (yded σ c b (ysgn σ 7 4 c b T))).1 + 1 := by rw [d3.1, yplt_1, if_neg (by omega)]
      refine zw_aload ⟨rfl, rfl⟩ rfl ?_
      refine zw_const ⟨rfl, rfl⟩ ?_
      refine zw_aload ⟨rfl, rfl⟩ rfl ?_
      refine zw_getIv (v := (ysgn σ 6 5 c b (yded σ c b (ysgn σ 7 4 c b T))).1 + 1) ⟨rfl, rfl⟩ zc_208 (by decide) (nG) ?_
      refine zw_const ⟨rfl, rfl⟩ ?_
      refine zw_isub ⟨rfl, rfl⟩ (by omega) ?_
      rw [show ((ysgn σ 6 5 c b (yded σ c b (ysgn σ 7 4 c b T))).1 + 1) - 1 = (ysgn σ 6 5 c b (yded σ c b (ysgn σ 7 4 c b T))).1 by omega]
      refine zw_cavv3 ⟨rfl, rfl⟩ rfl zc_208 rfl ?_
      refine m_showsWith d3 ((hB h1).fr F3) ⟨by omega, by omega, by omega⟩ (by rcases yvi_p (p := yP σ b 0) hK with z | z; exact Or.inl z; exact Or.inr ⟨z.1, by omega⟩) (fun N4 p4 => ?_)
      have hA4 := hA3.fr p4.2
      have F4 := F3.tr p4.2
      have d4 := p4.1
      have e8 : yGm N4 (yrph σ c b (ysgn σ 6 5 c b (yded σ c b (ysgn σ 7 4 c b T)))) := by unfold yrph; rw [if_pos (by omega)]; exact d4
      refine zw_aload ⟨rfl, rfl⟩ rfl ?_
      refine zw_iload ⟨rfl, rfl⟩ rfl ?_
      refine zw_const ⟨rfl, rfl⟩ ?_
      refine zw_const ⟨rfl, rfl⟩ ?_
      refine zw_iload ⟨rfl, rfl⟩ rfl ?_
      refine zw_cavv5 ⟨rfl, rfl⟩ rfl zc_208 rfl ?_
      refine m_showsKind hV hA4 hb (T := yrph σ c b (ysgn σ 6 5 c b (yded σ c b (ysgn σ 7 4 c b T)))) (by first | exact e8 | (rw [show yrph σ c b (ysgn σ 6 5 c b (yded σ c b (ysgn σ 7 4 c b T))) = ysgn σ 6 5 c b (yded σ c b (ysgn σ 7 4 c b T)) from if_neg (by omega)]; exact d4)) ⟨by decide, by decide⟩ (by exact hbd5) (fun N5 p5 => ?_)
      have hA5 := hA4.fr p5.2
      have F5 := F4.tr p5.2
      have d5 := p5.1
      refine zw_aload ⟨rfl, rfl⟩ rfl ?_
      refine zw_iload ⟨rfl, rfl⟩ rfl ?_
      refine zw_const ⟨rfl, rfl⟩ ?_
      refine zw_const ⟨rfl, rfl⟩ ?_
      refine zw_iload ⟨rfl, rfl⟩ rfl ?_
      refine zw_cavv5 ⟨rfl, rfl⟩ rfl zc_208 rfl ?_
      refine m_showsSigns hV hA5 hb d5 ⟨by decide, by decide⟩ (by exact hbd6) (fun N6 p6 => ?_)
      have hA6 := hA5.fr p6.2
      have F6 := F5.tr p6.2
      have d6 := p6.1
      refine zw_aload ⟨rfl, rfl⟩ rfl ?_
      refine zw_iload ⟨rfl, rfl⟩ rfl ?_
      refine zw_const ⟨rfl, rfl⟩ ?_
      refine zw_const ⟨rfl, rfl⟩ ?_
      refine zw_iload ⟨rfl, rfl⟩ rfl ?_
      refine zw_cavv5 ⟨rfl, rfl⟩ rfl zc_208 rfl ?_
      refine m_showsKind hV hA6 hb d6 ⟨by decide, by decide⟩ (by exact hbd7) (fun N7 p7 => ?_)
      have hA7 := hA6.fr p7.2
      have F7 := F6.tr p7.2
      have d7 := p7.1
      refine zw_void rfl ?_
      refine kk _ ⟨?_, F7⟩
      unfold yFin
      exact d7
  · skip
    have hd1 : ydd (yK σ) b = 1 := by omega
    have hd2 := (ydd_iff hK hb.1.1 hb.1.2 hb.2).mp hd1
    have hg2 : (ysgn σ 7 4 c b T).1 + 1 ≤ 180 ∧ ((ytl (yK σ) b + 1 < yov (yK σ) b ∧ (yK σ (ytl (yK σ) b + 1) = 12 ∨ yK σ (ytl (yK σ) b + 1) = 13)) → (ysgn σ 7 4 c b T).1 + 2 ≤ 180) := by
      unfold yded at hbd2
      rw [if_pos hd1] at hbd2
      split at hbd2
      · rw [yplt_1, yplt_1, if_neg (by omega), if_neg (by omega)] at hbd2; omega
      · rename_i hq
        rw [yplt_1, if_neg (by omega)] at hbd2; exact ⟨by omega, fun z => absurd z hq⟩
    refine zw_aload ⟨rfl, rfl⟩ rfl ?_
    refine zw_iload ⟨rfl, rfl⟩ rfl ?_
    refine zw_const ⟨rfl, rfl⟩ ?_
    refine zw_const ⟨rfl, rfl⟩ ?_
    refine zw_aload ⟨rfl, rfl⟩ rfl ?_
    refine zw_getIv (v := ytl (yK σ) b) ⟨rfl, rfl⟩ zc_208 (by decide) (hA1.2.1) ?_
    refine zw_cavv5 ⟨rfl, rfl⟩ rfl zc_208 rfl ?_
    refine m_showsAt hV hA1.1 d1 (Or.inr ⟨by omega, by omega⟩) (fun _ => by omega) (fun _ => ywo_e σ _ _ (by decide) (by decide)) (fun N2 p2 => ?_)
    have hA2 := hA1.fr p2.2
    have F2 := F1.tr p2.2
    have d2 := p2.1
    refine zw_aload ⟨rfl, rfl⟩ rfl ?_
    refine zw_iload ⟨rfl, rfl⟩ rfl ?_
    refine zw_const ⟨rfl, rfl⟩ ?_
    refine zw_const ⟨rfl, rfl⟩ ?_
    refine zw_aload ⟨rfl, rfl⟩ rfl ?_
    refine zw_getIv (v := ytl (yK σ) b) ⟨rfl, rfl⟩ zc_208 (by decide) (hA2.2.1) ?_
    refine zw_const ⟨rfl, rfl⟩ ?_
    refine zw_iadd ⟨rfl, rfl⟩ (by omega) ?_
    refine zw_iload ⟨rfl, rfl⟩ rfl ?_
    refine zw_icge ⟨rfl, rfl⟩ rfl (fun c3 => ?_) (fun c3 => ?_)
    · skip
      refine zw_const ⟨rfl, rfl⟩ ?_
      refine zw_cavv5 ⟨rfl, rfl⟩ rfl zc_208 rfl ?_
      refine m_showsAt hV hA2.1 d2 (Or.inl rfl) (fun hpz => by rw [yplt_1, if_neg (by omega)]; omega) (fun _ => ywo_e σ _ _ (by decide) (by decide)) (fun N3 p3 => ?_)
      have hA3 := hA2.fr p3.2
      have F3 := F2.tr p3.2
      have d3 := p3.1
      have w6 : yded σ c b (ysgn σ 7 4 c b T) = _ := rfl
      conv at w6 => rhs; unfold yded
      rw [if_pos hd1] at w6
      rw [if_neg (by omega)] at w6
      have e6 : yGm N3 (yded σ c b (ysgn σ 7 4 c b T)) := by rw [w6]; exact d3
      refine zw_aload ⟨rfl, rfl⟩ rfl ?_
      refine zw_iload ⟨rfl, rfl⟩ rfl ?_
      refine zw_const ⟨rfl, rfl⟩ ?_
      refine zw_const ⟨rfl, rfl⟩ ?_
      refine zw_iload ⟨rfl, rfl⟩ rfl ?_
      refine zw_cavv5 ⟨rfl, rfl⟩ rfl zc_208 rfl ?_
      refine m_showsSigns hV hA3 hb (T := yded σ c b (ysgn σ 7 4 c b T)) (by first | exact e6 | (rw [show yded σ c b (ysgn σ 7 4 c b T) = ysgn σ 7 4 c b T from if_neg (by omega)]; exact d3)) ⟨by decide, by decide⟩ (by exact hbd3) (fun N4 p4 => ?_)
      have hA4 := hA3.fr p4.2
      have F4 := F3.tr p4.2
      have d4 := p4.1
      refine zw_iload ⟨rfl, rfl⟩ rfl ?_
      refine zw_const ⟨rfl, rfl⟩ ?_
      refine zw_icne ⟨rfl, rfl⟩ rfl (fun c4 => ?_) (fun c4 => ?_)
      · skip
        refine zw_aload ⟨rfl, rfl⟩ rfl ?_
        refine zw_iload ⟨rfl, rfl⟩ rfl ?_
        refine zw_const ⟨rfl, rfl⟩ ?_
        refine zw_const ⟨rfl, rfl⟩ ?_
        refine zw_iload ⟨rfl, rfl⟩ rfl ?_
        refine zw_cavv5 ⟨rfl, rfl⟩ rfl zc_208 rfl ?_
        refine m_showsKind hV hA4 hb (T := yrph σ c b (ysgn σ 6 5 c b (yded σ c b (ysgn σ 7 4 c b T)))) (by first | exact e8 | (rw [show yrph σ c b (ysgn σ 6 5 c b (yded σ c b (ysgn σ 7 4 c b T))) = ysgn σ 6 5 c b (yded σ c b (ysgn σ 7 4 c b T)) from if_neg (by omega)]; exact d4)) ⟨by decide, by decide⟩ (by exact hbd5) (fun N5 p5 => ?_)
        have hA5 := hA4.fr p5.2
        have F5 := F4.tr p5.2
        have d5 := p5.1
        refine zw_aload ⟨rfl, rfl⟩ rfl ?_
        refine zw_iload ⟨rfl, rfl⟩ rfl ?_
        refine zw_const ⟨rfl, rfl⟩ ?_
        refine zw_const ⟨rfl, rfl⟩ ?_
        refine zw_iload ⟨rfl, rfl⟩ rfl ?_
        refine zw_cavv5 ⟨rfl, rfl⟩ rfl zc_208 rfl ?_
        refine m_showsSigns hV hA5 hb d5 ⟨by decide, by decide⟩ (by exact hbd6) (fun N6 p6 => ?_)
        have hA6 := hA5.fr p6.2
        have F6 := F5.tr p6.2
        have d6 := p6.1
        refine zw_aload ⟨rfl, rfl⟩ rfl ?_
        refine zw_iload ⟨rfl, rfl⟩ rfl ?_
        refine zw_const ⟨rfl, rfl⟩ ?_
        refine zw_const ⟨rfl, rfl⟩ ?_
        refine zw_iload ⟨rfl, rfl⟩ rfl ?_
        refine zw_cavv5 ⟨rfl, rfl⟩ rfl zc_208 rfl ?_
        refine m_showsKind hV hA6 hb d6 ⟨by decide, by decide⟩ (by exact hbd7) (fun N7 p7 => ?_)
        have hA7 := hA6.fr p7.2
        have F7 := F6.tr p7.2
        have d7 := p7.1
        refine zw_void rfl ?_
        refine kk _ ⟨?_, F7⟩
        unfold yFin
        exact d7
      · skip
        have h1 := (hrr.2 (by omega)).1
        have hm := ym_r hK hb.1.1 hb.1.2 h1
        have em : yms (yK σ) b = ym (yK σ) b := if_pos h1
        refine zw_aload ⟨rfl, rfl⟩ rfl ?_
        refine zw_iload ⟨rfl, rfl⟩ rfl ?_
        refine zw_const ⟨rfl, rfl⟩ ?_
        refine zw_const ⟨rfl, rfl⟩ ?_
        refine zw_aload ⟨rfl, rfl⟩ rfl ?_
        refine zw_getR 222 ⟨rfl, rfl⟩ zr_208_16 ?_
        refine zw_const ⟨rfl, rfl⟩ ?_
        refine zw_ialdv (v := b) ⟨rfl, rfl⟩ za_222 (by omega) ((((hB h1).fr F4).2 0 (by decide) (by omega)).1) ?_
        refine zw_cavv5 ⟨rfl, rfl⟩ rfl zc_208 rfl ?_
        refine m_showsAt hV hA4.1 d4 (Or.inr ⟨by omega, by omega⟩) (fun _ => by omega) (fun _ => ywo_e σ _ _ (by decide) (by decide)) (fun N5 p5 => ?_)
        have hA5 := hA4.fr p5.2
        have F5 := F4.tr p5.2
        have d5 := p5.1
        have nG : N5 208 31 = (ysgn σ 6 5 c b (yded σ c b (ysgn σ 7 4 c b T))).1 + 1 := by rw [d5.1, yplt_1, if_neg (by omega)]
        refine zw_aload ⟨rfl, rfl⟩ rfl ?_
        refine zw_const ⟨rfl, rfl⟩ ?_
        refine zw_aload ⟨rfl, rfl⟩ rfl ?_
        refine zw_getIv (v := (ysgn σ 6 5 c b (yded σ c b (ysgn σ 7 4 c b T))).1 + 1) ⟨rfl, rfl⟩ zc_208 (by decide) (nG) ?_
        refine zw_const ⟨rfl, rfl⟩ ?_
        refine zw_isub ⟨rfl, rfl⟩ (by omega) ?_
        rw [show ((ysgn σ 6 5 c b (yded σ c b (ysgn σ 7 4 c b T))).1 + 1) - 1 = (ysgn σ 6 5 c b (yded σ c b (ysgn σ 7 4 c b T))).1 by omega]
        refine zw_cavv3 ⟨rfl, rfl⟩ rfl zc_208 rfl ?_
        refine m_showsWith d5 ((hB h1).fr F5) ⟨by omega, by omega, by omega⟩ (by rcases yvi_p (p := yP σ b 0) hK with z | z; exact Or.inl z; exact Or.inr ⟨z.1, by omega⟩) (fun N6 p6 => ?_)
        have hA6 := hA5.fr p6.2
        have F6 := F5.tr p6.2
        have d6 := p6.1
        have e8 : yGm N6 (yrph σ c b (ysgn σ 6 5 c b (yded σ c b (ysgn σ 7 4 c b T)))) := by unfold yrph; rw [if_pos (by omega)]; exact d6
        refine zw_aload ⟨rfl, rfl⟩ rfl ?_
        refine zw_iload ⟨rfl, rfl⟩ rfl ?_
        refine zw_const ⟨rfl, rfl⟩ ?_
        refine zw_const ⟨rfl, rfl⟩ ?_
        refine zw_iload ⟨rfl, rfl⟩ rfl ?_
        refine zw_cavv5 ⟨rfl, rfl⟩ rfl zc_208 rfl ?_
        refine m_showsKind hV hA6 hb (T := yrph σ c b (ysgn σ 6 5 c b (yded σ c b (ysgn σ 7 4 c b T)))) (by first | exact e8 | (rw [show yrph σ c b (ysgn σ 6 5 c b (yded σ c b (ysgn σ 7 4 c b T))) = ysgn σ 6 5 c b (yded σ c b (ysgn σ 7 4 c b T)) from if_neg (by omega)]; exact d6)) ⟨by decide, by decide⟩ (by exact hbd5) (fun N7 p7 => ?_)
        have hA7 := hA6.fr p7.2
        have F7 := F6.tr p7.2
        have d7 := p7.1
        refine zw_aload ⟨rfl, rfl⟩ rfl ?_
        refine zw_iload ⟨rfl, rfl⟩ rfl ?_
        refine zw_const ⟨rfl, rfl⟩ ?_
        refine zw_const ⟨rfl, rfl⟩ ?_
        refine zw_iload ⟨rfl, rfl⟩ rfl ?_
        refine zw_cavv5 ⟨rfl, rfl⟩ rfl zc_208 rfl ?_
        refine m_showsSigns hV hA7 hb d7 ⟨by decide, by decide⟩ (by exact hbd6) (fun N8 p8 => ?_)
        have hA8 := hA7.fr p8.2
        have F8 := F7.tr p8.2
        have d8 := p8.1
        refine zw_aload ⟨rfl, rfl⟩ rfl ?_
        refine zw_iload ⟨rfl, rfl⟩ rfl ?_
        refine zw_const ⟨rfl, rfl⟩ ?_
        refine zw_const ⟨rfl, rfl⟩ ?_
        refine zw_iload ⟨rfl, rfl⟩ rfl ?_
        refine zw_cavv5 ⟨rfl, rfl⟩ rfl zc_208 rfl ?_
        refine m_showsKind hV hA8 hb d8 ⟨by decide, by decide⟩ (by exact hbd7) (fun N9 p9 => ?_)
        have hA9 := hA8.fr p9.2
        have F9 := F8.tr p9.2
        have d9 := p9.1
        refine zw_void rfl ?_
        refine kk _ ⟨?_, F9⟩
        unfold yFin
        exact d9
    · skip
      refine zw_aload ⟨rfl, rfl⟩ rfl ?_
      refine zw_aload ⟨rfl, rfl⟩ rfl ?_
      refine zw_getIv (v := ytl (yK σ) b) ⟨rfl, rfl⟩ zc_208 (by decide) (hA2.2.1) ?_
      refine zw_const ⟨rfl, rfl⟩ ?_
      refine zw_iadd ⟨rfl, rfl⟩ (by omega) ?_
      refine zw_callv2 ⟨rfl, rfl⟩ rfl zc_208 rfl ?_
      refine zw_aload ⟨rfl, rfl⟩ rfl ?_
      refine zw_iload ⟨rfl, rfl⟩ rfl ?_
      refine zw_callv2 ⟨rfl, rfl⟩ rfl zc_208 rfl ?_
      refine m_MkindAt hV hA2.1 (by omega) ?_
      refine zw_calls1 ⟨rfl, rfl⟩ rfl rfl ?_
      refine zw_iload ⟨rfl, rfl⟩ rfl ?_
      refine zw_const ⟨rfl, rfl⟩ ?_
      refine zw_iceq ⟨rfl, rfl⟩ rfl (fun c5 => ?_) (fun c5 => ?_)
      · skip
        refine zw_const ⟨rfl, rfl⟩ ?_
        refine zw_goto ⟨rfl, rfl⟩ rfl ?_
        refine zw_zret rfl (by first | exact Or.inl rfl | exact Or.inr rfl | omega) ?_
        refine zw_ifeq ⟨rfl, rfl⟩ rfl (fun q => absurd q (by decide)) (fun _ => ?_)
        refine zw_iload ⟨rfl, rfl⟩ rfl ?_
        refine zw_goto ⟨rfl, rfl⟩ rfl ?_
        refine zw_ret rfl ?_
        refine zw_goto ⟨rfl, rfl⟩ rfl ?_
        refine zw_cavv5 ⟨rfl, rfl⟩ rfl zc_208 rfl ?_
        refine m_showsAt hV hA2.1 d2 (Or.inr ⟨by omega, by omega⟩) (fun hpz => by rw [yplt_1, if_neg (by omega)]; omega) (fun _ => ywo_e σ _ _ (by decide) (by decide)) (fun N3 p3 => ?_)
        have hA3 := hA2.fr p3.2
        have F3 := F2.tr p3.2
        have d3 := p3.1
        have w6 : yded σ c b (ysgn σ 7 4 c b T) = _ := rfl
        conv at w6 => rhs; unfold yded
        rw [if_pos hd1] at w6
        first | (rw [if_pos ⟨by omega, by omega⟩] at w6) | (rw [if_pos ⟨by omega, Or.inl (by omega)⟩] at w6)
        have e6 : yGm N3 (yded σ c b (ysgn σ 7 4 c b T)) := by rw [w6]; exact d3
        refine zw_aload ⟨rfl, rfl⟩ rfl ?_
        refine zw_iload ⟨rfl, rfl⟩ rfl ?_
        refine zw_const ⟨rfl, rfl⟩ ?_
        refine zw_const ⟨rfl, rfl⟩ ?_
        refine zw_iload ⟨rfl, rfl⟩ rfl ?_
        refine zw_cavv5 ⟨rfl, rfl⟩ rfl zc_208 rfl ?_
        refine m_showsSigns hV hA3 hb (T := yded σ c b (ysgn σ 7 4 c b T)) (by first | exact e6 | (rw [show yded σ c b (ysgn σ 7 4 c b T) = ysgn σ 7 4 c b T from if_neg (by omega)]; exact d3)) ⟨by decide, by decide⟩ (by exact hbd3) (fun N4 p4 => ?_)
        have hA4 := hA3.fr p4.2
        have F4 := F3.tr p4.2
        have d4 := p4.1
        refine zw_iload ⟨rfl, rfl⟩ rfl ?_
        refine zw_const ⟨rfl, rfl⟩ ?_
        refine zw_icne ⟨rfl, rfl⟩ rfl (fun c7 => ?_) (fun c7 => ?_)
        · skip
          refine zw_aload ⟨rfl, rfl⟩ rfl ?_
          refine zw_iload ⟨rfl, rfl⟩ rfl ?_
          refine zw_const ⟨rfl, rfl⟩ ?_
          refine zw_const ⟨rfl, rfl⟩ ?_
          refine zw_iload ⟨rfl, rfl⟩ rfl ?_
          refine zw_cavv5 ⟨rfl, rfl⟩ rfl zc_208 rfl ?_
          refine m_showsKind hV hA4 hb (T := yrph σ c b (ysgn σ 6 5 c b (yded σ c b (ysgn σ 7 4 c b T)))) (by first | exact e8 | (rw [show yrph σ c b (ysgn σ 6 5 c b (yded σ c b (ysgn σ 7 4 c b T))) = ysgn σ 6 5 c b (yded σ c b (ysgn σ 7 4 c b T)) from if_neg (by omega)]; exact d4)) ⟨by decide, by decide⟩ (by exact hbd5) (fun N5 p5 => ?_)
          have hA5 := hA4.fr p5.2
          have F5 := F4.tr p5.2
          have d5 := p5.1
          refine zw_aload ⟨rfl, rfl⟩ rfl ?_
          refine zw_iload ⟨rfl, rfl⟩ rfl ?_
          refine zw_const ⟨rfl, rfl⟩ ?_
          refine zw_const ⟨rfl, rfl⟩ ?_
          refine zw_iload ⟨rfl, rfl⟩ rfl ?_
          refine zw_cavv5 ⟨rfl, rfl⟩ rfl zc_208 rfl ?_
          refine m_showsSigns hV hA5 hb d5 ⟨by decide, by decide⟩ (by exact hbd6) (fun N6 p6 => ?_)
          have hA6 := hA5.fr p6.2
          have F6 := F5.tr p6.2
          have d6 := p6.1
          refine zw_aload ⟨rfl, rfl⟩ rfl ?_
          refine zw_iload ⟨rfl, rfl⟩ rfl ?_
          refine zw_const ⟨rfl, rfl⟩ ?_
          refine zw_const ⟨rfl, rfl⟩ ?_
          refine zw_iload ⟨rfl, rfl⟩ rfl ?_
          refine zw_cavv5 ⟨rfl, rfl⟩ rfl zc_208 rfl ?_
          refine m_showsKind hV hA6 hb d6 ⟨by decide, by decide⟩ (by exact hbd7) (fun N7 p7 => ?_)
          have hA7 := hA6.fr p7.2
          have F7 := F6.tr p7.2
          have d7 := p7.1
          refine zw_void rfl ?_
          refine kk _ ⟨?_, F7⟩
          unfold yFin
          exact d7
        · skip
          have h1 := (hrr.2 (by omega)).1
          have hm := ym_r hK hb.1.1 hb.1.2 h1
          have em : yms (yK σ) b = ym (yK σ) b := if_pos h1
          refine zw_aload ⟨rfl, rfl⟩ rfl ?_
          refine zw_iload ⟨rfl, rfl⟩ rfl ?_
          refine zw_const ⟨rfl, rfl⟩ ?_
          refine zw_const ⟨rfl, rfl⟩ ?_
          refine zw_aload ⟨rfl, rfl⟩ rfl ?_
          refine zw_getR 222 ⟨rfl, rfl⟩ zr_208_16 ?_
          refine zw_const ⟨rfl, rfl⟩ ?_
          refine zw_ialdv (v := b) ⟨rfl, rfl⟩ za_222 (by omega) ((((hB h1).fr F4).2 0 (by decide) (by omega)).1) ?_
          refine zw_cavv5 ⟨rfl, rfl⟩ rfl zc_208 rfl ?_
          refine m_showsAt hV hA4.1 d4 (Or.inr ⟨by omega, by omega⟩) (fun _ => by omega) (fun _ => ywo_e σ _ _ (by decide) (by decide)) (fun N5 p5 => ?_)
          have hA5 := hA4.fr p5.2
          have F5 := F4.tr p5.2
          have d5 := p5.1
          have nG : N5 208 31 = (ysgn σ 6 5 c b (yded σ c b (ysgn σ 7 4 c b T))).1 + 1 := by rw [d5.1, yplt_1, if_neg (by omega)]
          refine zw_aload ⟨rfl, rfl⟩ rfl ?_
          refine zw_const ⟨rfl, rfl⟩ ?_
          refine zw_aload ⟨rfl, rfl⟩ rfl ?_
          refine zw_getIv (v := (ysgn σ 6 5 c b (yded σ c b (ysgn σ 7 4 c b T))).1 + 1) ⟨rfl, rfl⟩ zc_208 (by decide) (nG) ?_
          refine zw_const ⟨rfl, rfl⟩ ?_
          refine zw_isub ⟨rfl, rfl⟩ (by omega) ?_
          rw [show ((ysgn σ 6 5 c b (yded σ c b (ysgn σ 7 4 c b T))).1 + 1) - 1 = (ysgn σ 6 5 c b (yded σ c b (ysgn σ 7 4 c b T))).1 by omega]
          refine zw_cavv3 ⟨rfl, rfl⟩ rfl zc_208 rfl ?_
          refine m_showsWith d5 ((hB h1).fr F5) ⟨by omega, by omega, by omega⟩ (by rcases yvi_p (p := yP σ b 0) hK with z | z; exact Or.inl z; exact Or.inr ⟨z.1, by omega⟩) (fun N6 p6 => ?_)
          have hA6 := hA5.fr p6.2
          have F6 := F5.tr p6.2
          have d6 := p6.1
          have e8 : yGm N6 (yrph σ c b (ysgn σ 6 5 c b (yded σ c b (ysgn σ 7 4 c b T)))) := by unfold yrph; rw [if_pos (by omega)]; exact d6
          refine zw_aload ⟨rfl, rfl⟩ rfl ?_
          refine zw_iload ⟨rfl, rfl⟩ rfl ?_
          refine zw_const ⟨rfl, rfl⟩ ?_
          refine zw_const ⟨rfl, rfl⟩ ?_
          refine zw_iload ⟨rfl, rfl⟩ rfl ?_
          refine zw_cavv5 ⟨rfl, rfl⟩ rfl zc_208 rfl ?_
          refine m_showsKind hV hA6 hb (T := yrph σ c b (ysgn σ 6 5 c b (yded σ c b (ysgn σ 7 4 c b T)))) (by first | exact e8 | (rw [show yrph σ c b (ysgn σ 6 5 c b (yded σ c b (ysgn σ 7 4 c b T))) = ysgn σ 6 5 c b (yded σ c b (ysgn σ 7 4 c b T)) from if_neg (by omega)]; exact d6)) ⟨by decide, by decide⟩ (by exact hbd5) (fun N7 p7 => ?_)
          have hA7 := hA6.fr p7.2
          have F7 := F6.tr p7.2
          have d7 := p7.1
          refine zw_aload ⟨rfl, rfl⟩ rfl ?_
          refine zw_iload ⟨rfl, rfl⟩ rfl ?_
          refine zw_const ⟨rfl, rfl⟩ ?_
          refine zw_const ⟨rfl, rfl⟩ ?_
          refine zw_iload ⟨rfl, rfl⟩ rfl ?_
          refine zw_cavv5 ⟨rfl, rfl⟩ rfl zc_208 rfl ?_
          refine m_showsSigns hV hA7 hb d7 ⟨by decide, by decide⟩ (by exact hbd6) (fun N8 p8 => ?_)
          have hA8 := hA7.fr p8.2
          have F8 := F7.tr p8.2
          have d8 := p8.1
          refine zw_aload ⟨rfl, rfl⟩ rfl ?_
          refine zw_iload ⟨rfl, rfl⟩ rfl ?_
          refine zw_const ⟨rfl, rfl⟩ ?_
          refine zw_const ⟨rfl, rfl⟩ ?_
          refine zw_iload ⟨rfl, rfl⟩ rfl ?_
          refine zw_cavv5 ⟨rfl, rfl⟩ rfl zc_208 rfl ?_
          refine m_showsKind hV hA8 hb d8 ⟨by decide, by decide⟩ (by exact hbd7) (fun N9 p9 => ?_)
          have hA9 := hA8.fr p9.2
          have F9 := F8.tr p9.2
          have d9 := p9.1
          refine zw_void rfl ?_
          refine kk _ ⟨?_, F9⟩
          unfold yFin
          exact d9
      · skip
        refine zw_iload ⟨rfl, rfl⟩ rfl ?_
        refine zw_const ⟨rfl, rfl⟩ ?_
        refine zw_icne ⟨rfl, rfl⟩ rfl (fun c8 => ?_) (fun c8 => ?_)
        · skip
          refine zw_const ⟨rfl, rfl⟩ ?_
          refine zw_zret rfl (by first | exact Or.inl rfl | exact Or.inr rfl | omega) ?_
          refine zw_ifeq ⟨rfl, rfl⟩ rfl (fun _ => ?_) (fun q => absurd (by decide) q)
          refine zw_const ⟨rfl, rfl⟩ ?_
          refine zw_ret rfl ?_
          refine zw_goto ⟨rfl, rfl⟩ rfl ?_
          refine zw_cavv5 ⟨rfl, rfl⟩ rfl zc_208 rfl ?_
          refine m_showsAt hV hA2.1 d2 (Or.inl rfl) (fun hpz => by rw [yplt_1, if_neg (by omega)]; omega) (fun _ => ywo_e σ _ _ (by decide) (by decide)) (fun N3 p3 => ?_)
          have hA3 := hA2.fr p3.2
          have F3 := F2.tr p3.2
          have d3 := p3.1
          have w6 : yded σ c b (ysgn σ 7 4 c b T) = _ := rfl
          conv at w6 => rhs; unfold yded
          rw [if_pos hd1] at w6
          rw [if_neg (by omega)] at w6
          have e6 : yGm N3 (yded σ c b (ysgn σ 7 4 c b T)) := by rw [w6]; exact d3
          refine zw_aload ⟨rfl, rfl⟩ rfl ?_
          refine zw_iload ⟨rfl, rfl⟩ rfl ?_
          refine zw_const ⟨rfl, rfl⟩ ?_
          refine zw_const ⟨rfl, rfl⟩ ?_
          refine zw_iload ⟨rfl, rfl⟩ rfl ?_
          refine zw_cavv5 ⟨rfl, rfl⟩ rfl zc_208 rfl ?_
          refine m_showsSigns hV hA3 hb (T := yded σ c b (ysgn σ 7 4 c b T)) (by first | exact e6 | (rw [show yded σ c b (ysgn σ 7 4 c b T) = ysgn σ 7 4 c b T from if_neg (by omega)]; exact d3)) ⟨by decide, by decide⟩ (by exact hbd3) (fun N4 p4 => ?_)
          have hA4 := hA3.fr p4.2
          have F4 := F3.tr p4.2
          have d4 := p4.1
          refine zw_iload ⟨rfl, rfl⟩ rfl ?_
          refine zw_const ⟨rfl, rfl⟩ ?_
          refine zw_icne ⟨rfl, rfl⟩ rfl (fun c10 => ?_) (fun c10 => ?_)
          · skip
            refine zw_aload ⟨rfl, rfl⟩ rfl ?_
            refine zw_iload ⟨rfl, rfl⟩ rfl ?_
            refine zw_const ⟨rfl, rfl⟩ ?_
            refine zw_const ⟨rfl, rfl⟩ ?_
            refine zw_iload ⟨rfl, rfl⟩ rfl ?_
            refine zw_cavv5 ⟨rfl, rfl⟩ rfl zc_208 rfl ?_
            refine m_showsKind hV hA4 hb (T := yrph σ c b (ysgn σ 6 5 c b (yded σ c b (ysgn σ 7 4 c b T)))) (by first | exact e8 | (rw [show yrph σ c b (ysgn σ 6 5 c b (yded σ c b (ysgn σ 7 4 c b T))) = ysgn σ 6 5 c b (yded σ c b (ysgn σ 7 4 c b T)) from if_neg (by omega)]; exact d4)) ⟨by decide, by decide⟩ (by exact hbd5) (fun N5 p5 => ?_)
            have hA5 := hA4.fr p5.2
            have F5 := F4.tr p5.2
            have d5 := p5.1
            refine zw_aload ⟨rfl, rfl⟩ rfl ?_
            refine zw_iload ⟨rfl, rfl⟩ rfl ?_
            refine zw_const ⟨rfl, rfl⟩ ?_
            refine zw_const ⟨rfl, rfl⟩ ?_
            refine zw_iload ⟨rfl, rfl⟩ rfl ?_
            refine zw_cavv5 ⟨rfl, rfl⟩ rfl zc_208 rfl ?_
            refine m_showsSigns hV hA5 hb d5 ⟨by decide, by decide⟩ (by exact hbd6) (fun N6 p6 => ?_)
            have hA6 := hA5.fr p6.2
            have F6 := F5.tr p6.2
            have d6 := p6.1
            refine zw_aload ⟨rfl, rfl⟩ rfl ?_
            refine zw_iload ⟨rfl, rfl⟩ rfl ?_
            refine zw_const ⟨rfl, rfl⟩ ?_
            refine zw_const ⟨rfl, rfl⟩ ?_
            refine zw_iload ⟨rfl, rfl⟩ rfl ?_
            refine zw_cavv5 ⟨rfl, rfl⟩ rfl zc_208 rfl ?_
            refine m_showsKind hV hA6 hb d6 ⟨by decide, by decide⟩ (by exact hbd7) (fun N7 p7 => ?_)
            have hA7 := hA6.fr p7.2
            have F7 := F6.tr p7.2
            have d7 := p7.1
            refine zw_void rfl ?_
            refine kk _ ⟨?_, F7⟩
            unfold yFin
            exact d7
          · skip
            have h1 := (hrr.2 (by omega)).1
            have hm := ym_r hK hb.1.1 hb.1.2 h1
            have em : yms (yK σ) b = ym (yK σ) b := if_pos h1
            refine zw_aload ⟨rfl, rfl⟩ rfl ?_
            refine zw_iload ⟨rfl, rfl⟩ rfl ?_
            refine zw_const ⟨rfl, rfl⟩ ?_
            refine zw_const ⟨rfl, rfl⟩ ?_
            refine zw_aload ⟨rfl, rfl⟩ rfl ?_
            refine zw_getR 222 ⟨rfl, rfl⟩ zr_208_16 ?_
            refine zw_const ⟨rfl, rfl⟩ ?_
            refine zw_ialdv (v := b) ⟨rfl, rfl⟩ za_222 (by omega) ((((hB h1).fr F4).2 0 (by decide) (by omega)).1) ?_
            refine zw_cavv5 ⟨rfl, rfl⟩ rfl zc_208 rfl ?_
            refine m_showsAt hV hA4.1 d4 (Or.inr ⟨by omega, by omega⟩) (fun _ => by omega) (fun _ => ywo_e σ _ _ (by decide) (by decide)) (fun N5 p5 => ?_)
            have hA5 := hA4.fr p5.2
            have F5 := F4.tr p5.2
            have d5 := p5.1
            have nG : N5 208 31 = (ysgn σ 6 5 c b (yded σ c b (ysgn σ 7 4 c b T))).1 + 1 := by rw [d5.1, yplt_1, if_neg (by omega)]
            refine zw_aload ⟨rfl, rfl⟩ rfl ?_
            refine zw_const ⟨rfl, rfl⟩ ?_
            refine zw_aload ⟨rfl, rfl⟩ rfl ?_
            refine zw_getIv (v := (ysgn σ 6 5 c b (yded σ c b (ysgn σ 7 4 c b T))).1 + 1) ⟨rfl, rfl⟩ zc_208 (by decide) (nG) ?_
            refine zw_const ⟨rfl, rfl⟩ ?_
            refine zw_isub ⟨rfl, rfl⟩ (by omega) ?_
            rw [show ((ysgn σ 6 5 c b (yded σ c b (ysgn σ 7 4 c b T))).1 + 1) - 1 = (ysgn σ 6 5 c b (yded σ c b (ysgn σ 7 4 c b T))).1 by omega]
            refine zw_cavv3 ⟨rfl, rfl⟩ rfl zc_208 rfl ?_
            refine m_showsWith d5 ((hB h1).fr F5) ⟨by omega, by omega, by omega⟩ (by rcases yvi_p (p := yP σ b 0) hK with z | z; exact Or.inl z; exact Or.inr ⟨z.1, by omega⟩) (fun N6 p6 => ?_)
            have hA6 := hA5.fr p6.2
            have F6 := F5.tr p6.2
            have d6 := p6.1
            have e8 : yGm N6 (yrph σ c b (ysgn σ 6 5 c b (yded σ c b (ysgn σ 7 4 c b T)))) := by unfold yrph; rw [if_pos (by omega)]; exact d6
            refine zw_aload ⟨rfl, rfl⟩ rfl ?_
            refine zw_iload ⟨rfl, rfl⟩ rfl ?_
            refine zw_const ⟨rfl, rfl⟩ ?_
            refine zw_const ⟨rfl, rfl⟩ ?_
            refine zw_iload ⟨rfl, rfl⟩ rfl ?_
            refine zw_cavv5 ⟨rfl, rfl⟩ rfl zc_208 rfl ?_
            refine m_showsKind hV hA6 hb (T := yrph σ c b (ysgn σ 6 5 c b (yded σ c b (ysgn σ 7 4 c b T)))) (by first | exact e8 | (rw [show yrph σ c b (ysgn σ 6 5 c b (yded σ c b (ysgn σ 7 4 c b T))) = ysgn σ 6 5 c b (yded σ c b (ysgn σ 7 4 c b T)) from if_neg (by omega)]; exact d6)) ⟨by decide, by decide⟩ (by exact hbd5) (fun N7 p7 => ?_)
            have hA7 := hA6.fr p7.2
            have F7 := F6.tr p7.2
            have d7 := p7.1
            refine zw_aload ⟨rfl, rfl⟩ rfl ?_
            refine zw_iload ⟨rfl, rfl⟩ rfl ?_
            refine zw_const ⟨rfl, rfl⟩ ?_
            refine zw_const ⟨rfl, rfl⟩ ?_
            refine zw_iload ⟨rfl, rfl⟩ rfl ?_
            refine zw_cavv5 ⟨rfl, rfl⟩ rfl zc_208 rfl ?_
            refine m_showsSigns hV hA7 hb d7 ⟨by decide, by decide⟩ (by exact hbd6) (fun N8 p8 => ?_)
            have hA8 := hA7.fr p8.2
            have F8 := F7.tr p8.2
            have d8 := p8.1
            refine zw_aload ⟨rfl, rfl⟩ rfl ?_
            refine zw_iload ⟨rfl, rfl⟩ rfl ?_
            refine zw_const ⟨rfl, rfl⟩ ?_
            refine zw_const ⟨rfl, rfl⟩ ?_
            refine zw_iload ⟨rfl, rfl⟩ rfl ?_
            refine zw_cavv5 ⟨rfl, rfl⟩ rfl zc_208 rfl ?_
            refine m_showsKind hV hA8 hb d8 ⟨by decide, by decide⟩ (by exact hbd7) (fun N9 p9 => ?_)
            have hA9 := hA8.fr p9.2
            have F9 := F8.tr p9.2
            have d9 := p9.1
            refine zw_void rfl ?_
            refine kk _ ⟨?_, F9⟩
            unfold yFin
            exact d9
        · skip
          refine zw_const ⟨rfl, rfl⟩ ?_
          refine zw_goto ⟨rfl, rfl⟩ rfl ?_
          refine zw_zret rfl (by first | exact Or.inl rfl | exact Or.inr rfl | omega) ?_
          refine zw_ifeq ⟨rfl, rfl⟩ rfl (fun q => absurd q (by decide)) (fun _ => ?_)
          refine zw_iload ⟨rfl, rfl⟩ rfl ?_
          refine zw_goto ⟨rfl, rfl⟩ rfl ?_
          refine zw_ret rfl ?_
          refine zw_goto ⟨rfl, rfl⟩ rfl ?_
          refine zw_cavv5 ⟨rfl, rfl⟩ rfl zc_208 rfl ?_
          refine m_showsAt hV hA2.1 d2 (Or.inr ⟨by omega, by omega⟩) (fun hpz => by rw [yplt_1, if_neg (by omega)]; omega) (fun _ => ywo_e σ _ _ (by decide) (by decide)) (fun N3 p3 => ?_)
          have hA3 := hA2.fr p3.2
          have F3 := F2.tr p3.2
          have d3 := p3.1
          have w6 : yded σ c b (ysgn σ 7 4 c b T) = _ := rfl
          conv at w6 => rhs; unfold yded
          rw [if_pos hd1] at w6
          first | (rw [if_pos ⟨by omega, by omega⟩] at w6) | (rw [if_pos ⟨by omega, Or.inl (by omega)⟩] at w6)
          have e6 : yGm N3 (yded σ c b (ysgn σ 7 4 c b T)) := by rw [w6]; exact d3
          refine zw_aload ⟨rfl, rfl⟩ rfl ?_
          refine zw_iload ⟨rfl, rfl⟩ rfl ?_
          refine zw_const ⟨rfl, rfl⟩ ?_
          refine zw_const ⟨rfl, rfl⟩ ?_
          refine zw_iload ⟨rfl, rfl⟩ rfl ?_
          refine zw_cavv5 ⟨rfl, rfl⟩ rfl zc_208 rfl ?_
          refine m_showsSigns hV hA3 hb (T := yded σ c b (ysgn σ 7 4 c b T)) (by first | exact e6 | (rw [show yded σ c b (ysgn σ 7 4 c b T) = ysgn σ 7 4 c b T from if_neg (by omega)]; exact d3)) ⟨by decide, by decide⟩ (by exact hbd3) (fun N4 p4 => ?_)
          have hA4 := hA3.fr p4.2
          have F4 := F3.tr p4.2
          have d4 := p4.1
          refine zw_iload ⟨rfl, rfl⟩ rfl ?_
          refine zw_const ⟨rfl, rfl⟩ ?_
          refine zw_icne ⟨rfl, rfl⟩ rfl (fun c12 => ?_) (fun c12 => ?_)
          · skip
            refine zw_aload ⟨rfl, rfl⟩ rfl ?_
            refine zw_iload ⟨rfl, rfl⟩ rfl ?_
            refine zw_const ⟨rfl, rfl⟩ ?_
            refine zw_const ⟨rfl, rfl⟩ ?_
            refine zw_iload ⟨rfl, rfl⟩ rfl ?_
            refine zw_cavv5 ⟨rfl, rfl⟩ rfl zc_208 rfl ?_
            refine m_showsKind hV hA4 hb (T := yrph σ c b (ysgn σ 6 5 c b (yded σ c b (ysgn σ 7 4 c b T)))) (by first | exact e8 | (rw [show yrph σ c b (ysgn σ 6 5 c b (yded σ c b (ysgn σ 7 4 c b T))) = ysgn σ 6 5 c b (yded σ c b (ysgn σ 7 4 c b T)) from if_neg (by omega)]; exact d4)) ⟨by decide, by decide⟩ (by exact hbd5) (fun N5 p5 => ?_)
            have hA5 := hA4.fr p5.2
            have F5 := F4.tr p5.2
            have d5 := p5.1
            refine zw_aload ⟨rfl, rfl⟩ rfl ?_
            refine zw_iload ⟨rfl, rfl⟩ rfl ?_
            refine zw_const ⟨rfl, rfl⟩ ?_
            refine zw_const ⟨rfl, rfl⟩ ?_
            refine zw_iload ⟨rfl, rfl⟩ rfl ?_
            refine zw_cavv5 ⟨rfl, rfl⟩ rfl zc_208 rfl ?_
            refine m_showsSigns hV hA5 hb d5 ⟨by decide, by decide⟩ (by exact hbd6) (fun N6 p6 => ?_)
            have hA6 := hA5.fr p6.2
            have F6 := F5.tr p6.2
            have d6 := p6.1
            refine zw_aload ⟨rfl, rfl⟩ rfl ?_
            refine zw_iload ⟨rfl, rfl⟩ rfl ?_
            refine zw_const ⟨rfl, rfl⟩ ?_
            refine zw_const ⟨rfl, rfl⟩ ?_
            refine zw_iload ⟨rfl, rfl⟩ rfl ?_
            refine zw_cavv5 ⟨rfl, rfl⟩ rfl zc_208 rfl ?_
            refine m_showsKind hV hA6 hb d6 ⟨by decide, by decide⟩ (by exact hbd7) (fun N7 p7 => ?_)
            have hA7 := hA6.fr p7.2
            have F7 := F6.tr p7.2
            have d7 := p7.1
            refine zw_void rfl ?_
            refine kk _ ⟨?_, F7⟩
            unfold yFin
            exact d7
          · skip
            have h1 := (hrr.2 (by omega)).1
            have hm := ym_r hK hb.1.1 hb.1.2 h1
            have em : yms (yK σ) b = ym (yK σ) b := if_pos h1
            refine zw_aload ⟨rfl, rfl⟩ rfl ?_
            refine zw_iload ⟨rfl, rfl⟩ rfl ?_
            refine zw_const ⟨rfl, rfl⟩ ?_
            refine zw_const ⟨rfl, rfl⟩ ?_
            refine zw_aload ⟨rfl, rfl⟩ rfl ?_
            refine zw_getR 222 ⟨rfl, rfl⟩ zr_208_16 ?_
            refine zw_const ⟨rfl, rfl⟩ ?_
            refine zw_ialdv (v := b) ⟨rfl, rfl⟩ za_222 (by omega) ((((hB h1).fr F4).2 0 (by decide) (by omega)).1) ?_
            refine zw_cavv5 ⟨rfl, rfl⟩ rfl zc_208 rfl ?_
            refine m_showsAt hV hA4.1 d4 (Or.inr ⟨by omega, by omega⟩) (fun _ => by omega) (fun _ => ywo_e σ _ _ (by decide) (by decide)) (fun N5 p5 => ?_)
            have hA5 := hA4.fr p5.2
            have F5 := F4.tr p5.2
            have d5 := p5.1
            have nG : N5 208 31 = (ysgn σ 6 5 c b (yded σ c b (ysgn σ 7 4 c b T))).1 + 1 := by rw [d5.1, yplt_1, if_neg (by omega)]
            refine zw_aload ⟨rfl, rfl⟩ rfl ?_
            refine zw_const ⟨rfl, rfl⟩ ?_
            refine zw_aload ⟨rfl, rfl⟩ rfl ?_
            refine zw_getIv (v := (ysgn σ 6 5 c b (yded σ c b (ysgn σ 7 4 c b T))).1 + 1) ⟨rfl, rfl⟩ zc_208 (by decide) (nG) ?_
            refine zw_const ⟨rfl, rfl⟩ ?_
            refine zw_isub ⟨rfl, rfl⟩ (by omega) ?_
            rw [show ((ysgn σ 6 5 c b (yded σ c b (ysgn σ 7 4 c b T))).1 + 1) - 1 = (ysgn σ 6 5 c b (yded σ c b (ysgn σ 7 4 c b T))).1 by omega]
            refine zw_cavv3 ⟨rfl, rfl⟩ rfl zc_208 rfl ?_
            refine m_showsWith d5 ((hB h1).fr F5) ⟨by omega, by omega, by omega⟩ (by rcases yvi_p (p := yP σ b 0) hK with z | z; exact Or.inl z; exact Or.inr ⟨z.1, by omega⟩) (fun N6 p6 => ?_)
            have hA6 := hA5.fr p6.2
            have F6 := F5.tr p6.2
            have d6 := p6.1
            have e8 : yGm N6 (yrph σ c b (ysgn σ 6 5 c b (yded σ c b (ysgn σ 7 4 c b T)))) := by unfold yrph; rw [if_pos (by omega)]; exact d6
            refine zw_aload ⟨rfl, rfl⟩ rfl ?_
            refine zw_iload ⟨rfl, rfl⟩ rfl ?_
            refine zw_const ⟨rfl, rfl⟩ ?_
            refine zw_const ⟨rfl, rfl⟩ ?_
            refine zw_iload ⟨rfl, rfl⟩ rfl ?_
            refine zw_cavv5 ⟨rfl, rfl⟩ rfl zc_208 rfl ?_
            refine m_showsKind hV hA6 hb (T := yrph σ c b (ysgn σ 6 5 c b (yded σ c b (ysgn σ 7 4 c b T)))) (by first | exact e8 | (rw [show yrph σ c b (ysgn σ 6 5 c b (yded σ c b (ysgn σ 7 4 c b T))) = ysgn σ 6 5 c b (yded σ c b (ysgn σ 7 4 c b T)) from if_neg (by omega)]; exact d6)) ⟨by decide, by decide⟩ (by exact hbd5) (fun N7 p7 => ?_)
            have hA7 := hA6.fr p7.2
            have F7 := F6.tr p7.2
            have d7 := p7.1
            refine zw_aload ⟨rfl, rfl⟩ rfl ?_
            refine zw_iload ⟨rfl, rfl⟩ rfl ?_
            refine zw_const ⟨rfl, rfl⟩ ?_
            refine zw_const ⟨rfl, rfl⟩ ?_
            refine zw_iload ⟨rfl, rfl⟩ rfl ?_
            refine zw_cavv5 ⟨rfl, rfl⟩ rfl zc_208 rfl ?_
            refine m_showsSigns hV hA7 hb d7 ⟨by decide, by decide⟩ (by exact hbd6) (fun N8 p8 => ?_)
            have hA8 := hA7.fr p8.2
            have F8 := F7.tr p8.2
            have d8 := p8.1
            refine zw_aload ⟨rfl, rfl⟩ rfl ?_
            refine zw_iload ⟨rfl, rfl⟩ rfl ?_
            refine zw_const ⟨rfl, rfl⟩ ?_
            refine zw_const ⟨rfl, rfl⟩ ?_
            refine zw_iload ⟨rfl, rfl⟩ rfl ?_
            refine zw_cavv5 ⟨rfl, rfl⟩ rfl zc_208 rfl ?_
            refine m_showsKind hV hA8 hb d8 ⟨by decide, by decide⟩ (by exact hbd7) (fun N9 p9 => ?_)
            have hA9 := hA8.fr p9.2
            have F9 := F8.tr p9.2
            have d9 := p9.1
            refine zw_void rfl ?_
            refine kk _ ⟨?_, F9⟩
            unfold yFin
            exact d9
end

theorem yMa.cg {M N : zM} {σ : yS} {b : Int} (h : yMa M σ b) (e : N 209 = M 209) (e8 : ∀ j, j ≠ 31 → N 208 j = M 208 j) : yMa N σ b := ⟨h.1.cg e, (e8 22 (by decide)).trans h.2.1, (e8 21 (by decide)).trans h.2.2⟩
theorem yMb.cg {M N : zM} {σ : yS} {b : Int} (h : yMb M σ b) (e : ∀ x, 209 ≤ x → x ≤ 226 → ¬ (217 ≤ x ∧ x ≤ 220) → N x = M x) (e8 : ∀ j, j ≠ 31 → N 208 j = M 208 j) : yMb N σ b := ⟨h.1.cg (e 209 (by decide) (by decide) (by decide)) e8, fun k k1 k2 => by
  rw [e 222 (by decide) (by decide) (by decide), e 223 (by decide) (by decide) (by decide), e 224 (by decide) (by decide) (by decide), e 225 (by decide) (by decide) (by decide), e 226 (by decide) (by decide) (by decide)]
  exact h.2 k k1 k2⟩

section
set_option maxHeartbeats 8000000
theorem m_lg_135 {u5 : zV} {M : zM} {Q : zV → zM → Prop} {σ : yS} {b c : Int} {T : yT} (hV : yVal σ) (hb : (0 ≤ b ∧ b < σ 0) ∧ ybg (yK σ) b) (hc : 0 ≤ c ∧ c < 60) (h1 : yK σ b = 1) (hB : yMb M σ b) (hD : yGm M T) (hbd : yBd σ c b T) (hd : M 215 c = ydd (yK σ) b) (kk : ∀ N : zM, (yGm N (yFin σ c b T) ∧ ylf c M N ∧ N 220 c = ypr σ (yK σ) b ∧ N 217 c = M 217 c ∧ N 218 c = M 218 c ∧ N 219 c = M 219 c) → Q (3, 0) N) : ∀ (f0 : Nat) (i : Int) (N : zM), (yrp σ (yK σ) b ≤ i ∧ i ≤ yba σ (yK σ) b) → (N 220 c = ysum (yjf σ (yK σ) b) i.toNat) → ((∀ x, x ≠ 220 → N x = M x) ∧ ∀ j, j ≠ c → N 220 j = M 220 j) → (yba σ (yK σ) b - i).toNat < f0 → zWp kM_laysGlyphs 135 [(1, 208), (0, c), (0, yov (yK σ) b), (0, yrp σ (yK σ) b), (0, yba σ (yK σ) b), u5, (0, i)] [] N Q := by
  intro f0
  induction f0 with
  | zero => intro i N i1 i2 i3 hf0; exact absurd hf0 (Nat.not_lt_zero _)
  | succ f0 ih =>
    intro i N i1 i2 i3 hf0
    have hK := yKr_K hV
    have hn := hV.1
    have hov := (yov_sp hK hb.1.1 hb.1.2 hb.2).2.1
    have hm := ym_r hK hb.1.1 hb.1.2 h1
    have em : yms (yK σ) b = ym (yK σ) b := if_pos h1
    have hz := yba_r (σ := σ) hK hb.1.1 hb.1.2 h1
    have hr := yrp_r σ (yK σ) b
    refine zw_iload ⟨rfl, rfl⟩ rfl ?_
    refine zw_iload ⟨rfl, rfl⟩ rfl ?_
    refine zw_icge ⟨rfl, rfl⟩ rfl (fun c1 => ?_) (fun c1 => ?_)
    · skip
      refine zw_goto ⟨rfl, rfl⟩ rfl ?_
      have e : i = yba σ (yK σ) b := by omega
      have e8 : ∀ j, j ≠ 31 → N 208 j = M 208 j := fun j _ => by rw [i3.1 208 (by decide)]
      refine m_lg_163 (f := yrp σ (yK σ) b) hV hb hc (hB.1.cg (i3.1 209 (by decide)) e8) (fun _ => hB.cg (fun x x1 x2 x3 => i3.1 x (by omega)) e8) (hD.cg (fun x x1 x2 => i3.1 x (by omega)) (by rw [i3.1 208 (by decide)])) hbd rfl (by rw [i3.1 215 (by decide)]; exact hd) (fun P p => kk P ⟨p.1, ⟨fun x x1 x2 x3 => (p.2.1 x (by omega) x3).trans (i3.1 x (by omega)), fun j hj => (p.2.2 j hj).trans (e8 j hj), fun x x1 x2 j hj => ?_⟩, ?_, ?_, ?_, ?_⟩)
      · rw [p.2.1 x (by omega) (by omega)]
        by_cases h220 : x = 220
        · subst h220; exact i3.2 j hj
        · rw [i3.1 x h220]
      · rw [p.2.1 220 (by decide) (by decide), i2, e]; rfl
      · rw [p.2.1 217 (by decide) (by decide), i3.1 217 (by decide)]
      · rw [p.2.1 218 (by decide) (by decide), i3.1 218 (by decide)]
      · rw [p.2.1 219 (by decide) (by decide), i3.1 219 (by decide)]
    · skip
      have hjr := (yjf_r σ (yK σ) b (show 0 ≤ i by omega)).1
      have hsz := ysum_r (yjf σ (yK σ) b) (fun j q => (yjf_r σ (yK σ) b q).1) i.toNat
      refine zw_aload ⟨rfl, rfl⟩ rfl ?_
      refine zw_getR 220 ⟨rfl, rfl⟩ zr_208_13 ?_
      refine zw_iload ⟨rfl, rfl⟩ rfl ?_
      refine zw_dup2 ⟨rfl, rfl⟩ ⟨by decide, by decide⟩ ?_
      refine zw_ialdv (v := ysum (yjf σ (yK σ) b) i.toNat) ⟨rfl, rfl⟩ za_220 (by omega) (i2) ?_
      refine zw_aload ⟨rfl, rfl⟩ rfl ?_
      refine zw_getR 226 ⟨rfl, rfl⟩ zr_208_20 ?_
      refine zw_iload ⟨rfl, rfl⟩ rfl ?_
      refine zw_baldv (v := yjf σ (yK σ) b i) ⟨rfl, rfl⟩ za_226 (by decide) (by omega) ((congrFun (i3.1 226 (by decide)) i).trans (hB.2 i (by omega) (by omega)).2.2.2.2) ?_
      refine zw_ifeq ⟨rfl, rfl⟩ rfl (fun c2 => ?_) (fun c2 => ?_)
      · skip
        refine zw_const ⟨rfl, rfl⟩ ?_
        refine zw_iadd ⟨rfl, rfl⟩ (by omega) ?_
        refine zw_iast ⟨rfl, rfl⟩ za_220 (by omega) ?_
        refine zw_iinc_6 ⟨rfl, rfl⟩ (by omega) ?_
        refine zw_goto ⟨rfl, rfl⟩ rfl ?_
        refine ih _ _ ⟨by omega, by omega⟩ ?_ ⟨fun x hx => by rw [zup_row hx]; exact i3.1 x hx, fun j hj => by rw [zup_ni hj]; exact i3.2 j hj⟩ (by omega)
        rw [zup_eq, ysum_s _ (by omega)]
        omega
      · skip
        refine zw_const ⟨rfl, rfl⟩ ?_
        refine zw_goto ⟨rfl, rfl⟩ rfl ?_
        refine zw_iadd ⟨rfl, rfl⟩ (by omega) ?_
        refine zw_iast ⟨rfl, rfl⟩ za_220 (by omega) ?_
        refine zw_iinc_6 ⟨rfl, rfl⟩ (by omega) ?_
        refine zw_goto ⟨rfl, rfl⟩ rfl ?_
        refine ih _ _ ⟨by omega, by omega⟩ ?_ ⟨fun x hx => by rw [zup_row hx]; exact i3.1 x hx, fun j hj => by rw [zup_ni hj]; exact i3.2 j hj⟩ (by omega)
        rw [zup_eq, ysum_s _ (by omega)]
        omega
end

section
set_option maxHeartbeats 8000000
theorem m_lg_100 {u5 : zV} {M : zM} {Q : zV → zM → Prop} {σ : yS} {b c : Int} {T : yT} (hV : yVal σ) (hb : (0 ≤ b ∧ b < σ 0) ∧ ybg (yK σ) b) (hc : 0 ≤ c ∧ c < 60) (h1 : yK σ b = 1) (hB : yMb M σ b) (hD : yGm M T) (hg : T.1 + 2 * (ym (yK σ) b - (yba σ (yK σ) b + 1)) ≤ 180) (hbd : yBd σ c b (ystd σ c b T)) (hd : M 215 c = ydd (yK σ) b) (h220 : M 220 c = 0) (kk : ∀ N : zM, (yGm N (yFin σ c b (ystd σ c b T)) ∧ ylf c M N ∧ N 220 c = ypr σ (yK σ) b ∧ N 217 c = yP σ b (yba σ (yK σ) b) ∧ N 218 c = yrp σ (yK σ) b ∧ N 219 c = ym (yK σ) b - 1 - yba σ (yK σ) b) → Q (3, 0) N) : ∀ (f0 : Nat) (i : Int) (N : zM), (yba σ (yK σ) b + 1 ≤ i ∧ i ≤ ym (yK σ) b) → (yGm N (yfo (ystk σ c b) (yba σ (yK σ) b + 1) i T)) → (ygf M N) → (ym (yK σ) b - i).toNat < f0 → zWp kM_laysGlyphs 100 [(1, 208), (0, c), (0, yov (yK σ) b), (0, yrp σ (yK σ) b), (0, yba σ (yK σ) b), u5, (0, i)] [] N Q := by
  intro f0
  induction f0 with
  | zero => intro i N i1 i2 i3 hf0; exact absurd hf0 (Nat.not_lt_zero _)
  | succ f0 ih =>
    intro i N i1 i2 i3 hf0
    have hK := yKr_K hV
    have hn := hV.1
    have hov := (yov_sp hK hb.1.1 hb.1.2 hb.2).2.1
    have hm := ym_r hK hb.1.1 hb.1.2 h1
    have em : yms (yK σ) b = ym (yK σ) b := if_pos h1
    have hz := yba_r (σ := σ) hK hb.1.1 hb.1.2 h1
    have hr := yrp_r σ (yK σ) b
    have hB0 := hB.fr i3
    refine zw_iload ⟨rfl, rfl⟩ rfl ?_
    refine zw_aload ⟨rfl, rfl⟩ rfl ?_
    refine zw_getIv (v := ym (yK σ) b) ⟨rfl, rfl⟩ zc_208 (by decide) (hB0.1.2.2.trans em) ?_
    refine zw_icge ⟨rfl, rfl⟩ rfl (fun c1 => ?_) (fun c1 => ?_)
    · skip
      refine zw_aload ⟨rfl, rfl⟩ rfl ?_
      refine zw_getR 217 ⟨rfl, rfl⟩ zr_208_10 ?_
      refine zw_iload ⟨rfl, rfl⟩ rfl ?_
      refine zw_aload ⟨rfl, rfl⟩ rfl ?_
      refine zw_getR 222 ⟨rfl, rfl⟩ zr_208_16 ?_
      refine zw_iload ⟨rfl, rfl⟩ rfl ?_
      refine zw_ialdv (v := yP σ b (yba σ (yK σ) b)) ⟨rfl, rfl⟩ za_222 (by omega) ((hB0.2 (yba σ (yK σ) b) (by omega) (by omega)).1) ?_
      refine zw_iast ⟨rfl, rfl⟩ za_217 (by omega) ?_
      refine zw_aload ⟨rfl, rfl⟩ rfl ?_
      refine zw_getR 218 ⟨rfl, rfl⟩ zr_208_11 ?_
      refine zw_iload ⟨rfl, rfl⟩ rfl ?_
      refine zw_iload ⟨rfl, rfl⟩ rfl ?_
      refine zw_iast ⟨rfl, rfl⟩ za_218 (by omega) ?_
      refine zw_aload ⟨rfl, rfl⟩ rfl ?_
      refine zw_getR 219 ⟨rfl, rfl⟩ zr_208_12 ?_
      refine zw_iload ⟨rfl, rfl⟩ rfl ?_
      refine zw_aload ⟨rfl, rfl⟩ rfl ?_
      refine zw_getIv (v := ym (yK σ) b) ⟨rfl, rfl⟩ zc_208 (by decide) ((zup_na (by decide)).trans ((zup_na (by decide)).trans (hB0.1.2.2.trans em))) ?_
      refine zw_const ⟨rfl, rfl⟩ ?_
      refine zw_isub ⟨rfl, rfl⟩ (by omega) ?_
      refine zw_iload ⟨rfl, rfl⟩ rfl ?_
      refine zw_isub ⟨rfl, rfl⟩ (by omega) ?_
      refine zw_iast ⟨rfl, rfl⟩ za_219 (by omega) ?_
      refine zw_iload ⟨rfl, rfl⟩ rfl ?_
      refine zw_istore_6 ⟨rfl, rfl⟩ ?_
      have e : i = ym (yK σ) b := by omega
      have e2 : yfo (ystk σ c b) (yba σ (yK σ) b + 1) i T = ystd σ c b T := by unfold ystd; rw [e, em]
      rw [e2] at i2
      have gr : ∀ x, ¬ (217 ≤ x ∧ x ≤ 219) → (zup (zup (zup N 217 c (yP σ b (yba σ (yK σ) b))) 218 c (yrp σ (yK σ) b)) 219 c (((ym (yK σ) b) - 1) - (yba σ (yK σ) b))) x = N x := fun x hx => by rw [zup_row (by omega), zup_row (by omega), zup_row (by omega)]
      have e8 : ∀ j, j ≠ 31 → (zup (zup (zup N 217 c (yP σ b (yba σ (yK σ) b))) 218 c (yrp σ (yK σ) b)) 219 c (((ym (yK σ) b) - 1) - (yba σ (yK σ) b))) 208 j = N 208 j := fun j _ => rfl
      refine m_lg_135 hV hb hc h1 (hB0.cg (fun x x1 x2 x3 => gr x (by omega)) e8) (i2.cg (fun x x1 x2 => gr x (by omega)) rfl) hbd (by rw [gr 215 (by decide), i3.1 215 (by decide) (by decide)]; exact hd) (fun P p => kk P ⟨p.1, ?_, p.2.2.1, p.2.2.2.1.trans ?_, p.2.2.2.2.1.trans ?_, p.2.2.2.2.2.trans ?_⟩) _ _ _ ⟨Int.le_refl _, by omega⟩ ?_ ⟨fun _ _ => rfl, fun _ _ => rfl⟩ (Nat.lt_succ_self _)
      · refine (i3.l (c := c)).tr (ylf.tr ⟨fun x x1 x2 x3 => gr x (by omega), fun j hj => rfl, fun x x1 x2 j hj => ?_⟩ p.2.1)
        by_cases q : x = 217
        · subst q; rw [zup_na (by decide), zup_na (by decide), zup_ni hj]
        · by_cases q2 : x = 218
          · subst q2; rw [zup_na (by decide), zup_ni hj, zup_na (by decide)]
          · by_cases q3 : x = 219
            · subst q3; rw [zup_ni hj, zup_na (by decide), zup_na (by decide)]
            · rw [gr x (by omega)]
      · rw [zup_na (by decide), zup_na (by decide), zup_eq]
      · rw [zup_na (by decide), zup_eq]
      · rw [zup_eq]
      · rw [gr 220 (by decide), i3.1 220 (by decide) (by decide), h220]
        rcases hr.1 with z | z
        · rw [z]; rfl
        · rw [z]
          show 0 = 0 + yjf σ (yK σ) b 0
          have := yjf_r σ (yK σ) b (Int.le_refl 0)
          omega
    · skip
      refine zw_aload ⟨rfl, rfl⟩ rfl ?_
      refine zw_iload ⟨rfl, rfl⟩ rfl ?_
      refine zw_iload ⟨rfl, rfl⟩ rfl ?_
      refine zw_cavv3 ⟨rfl, rfl⟩ rfl zc_208 rfl ?_
      have ht := ystd_r hV c T hb.1.1 hb.1.2 h1 i1.1 (by omega)
      refine m_showsStacked hV hB0 hb h1 i2 ⟨by omega, by omega⟩ (by omega) (fun N1 p1 => ?_)
      refine zw_iinc_6 ⟨rfl, rfl⟩ (by omega) ?_
      refine zw_goto ⟨rfl, rfl⟩ rfl ?_
      refine ih _ _ ⟨by omega, by omega⟩ ?_ (i3.tr p1.2) (by omega)
      rw [yfo_s _ i1.1]
      exact p1.1
end

section
set_option maxHeartbeats 8000000
theorem m_lg_55 {M : zM} {Q : zV → zM → Prop} {σ : yS} {b c : Int} {T : yT} (hV : yVal σ) (hb : (0 ≤ b ∧ b < σ 0) ∧ ybg (yK σ) b) (hc : 0 ≤ c ∧ c < 60) (h1 : yK σ b = 1) (hB : yMb M σ b) (hD : yGm M T) (hg2 : T.1 + 2 * (yP σ b (yba σ (yK σ) b) - yP σ b (yrp σ (yK σ) b)) ≤ 180) (hg3 : (yahd σ c b T).1 + 2 ≤ 180) (hg : (ymid σ c b (yahd σ c b T)).1 + 2 * (ym (yK σ) b - (yba σ (yK σ) b + 1)) ≤ 180) (hbd : yBd σ c b (ystd σ c b (ymid σ c b (yahd σ c b T)))) (hd : M 215 c = ydd (yK σ) b) (h220 : M 220 c = 0) (kk : ∀ N : zM, (yGm N (yFin σ c b (ystd σ c b (ymid σ c b (yahd σ c b T)))) ∧ ylf c M N ∧ N 220 c = ypr σ (yK σ) b ∧ N 217 c = yP σ b (yba σ (yK σ) b) ∧ N 218 c = yrp σ (yK σ) b ∧ N 219 c = ym (yK σ) b - 1 - yba σ (yK σ) b) → Q (3, 0) N) : ∀ (f0 : Nat) (k : Int) (u6 : zV) (N : zM), (yrp σ (yK σ) b ≤ k ∧ k ≤ yba σ (yK σ) b) → (yGm N (yfo (yahs σ c b) (yrp σ (yK σ) b) k T)) → (ygf M N) → (k = yrp σ (yK σ) b ∨ yjf σ (yK σ) b (k - 1) ≠ 1) → (yba σ (yK σ) b - k).toNat < f0 → zWp kM_laysGlyphs 55 [(1, 208), (0, c), (0, yov (yK σ) b), (0, yrp σ (yK σ) b), (0, yba σ (yK σ) b), (0, k), u6] [] N Q := by
  intro f0
  induction f0 with
  | zero => intro k u6 N i1 i2 i3 i4 hf0; exact absurd hf0 (Nat.not_lt_zero _)
  | succ f0 ih =>
    intro k u6 N i1 i2 i3 i4 hf0
    have hK := yKr_K hV
    have hn := hV.1
    have hov := (yov_sp hK hb.1.1 hb.1.2 hb.2).2.1
    have hm := ym_r hK hb.1.1 hb.1.2 h1
    have em : yms (yK σ) b = ym (yK σ) b := if_pos h1
    have hz := yba_r (σ := σ) hK hb.1.1 hb.1.2 h1
    have hr := yrp_r σ (yK σ) b
    have hB0 := hB.fr i3
    have hjk := yjf_r σ (yK σ) b (show 0 ≤ k by omega)
    refine zw_iload ⟨rfl, rfl⟩ rfl ?_
    refine zw_iload ⟨rfl, rfl⟩ rfl ?_
    refine zw_icge ⟨rfl, rfl⟩ rfl (fun c1 => ?_) (fun c1 => ?_)
    · skip
      refine zw_aload ⟨rfl, rfl⟩ rfl ?_
      refine zw_iload ⟨rfl, rfl⟩ rfl ?_
      refine zw_const ⟨rfl, rfl⟩ ?_
      refine zw_aload ⟨rfl, rfl⟩ rfl ?_
      refine zw_getR 226 ⟨rfl, rfl⟩ zr_208_20 ?_
      refine zw_iload ⟨rfl, rfl⟩ rfl ?_
      refine zw_baldv (v := yjf σ (yK σ) b k) ⟨rfl, rfl⟩ za_226 (by decide) (by omega) ((hB0.2 k (by omega) (by omega)).2.2.2.2) ?_
      refine zw_ifeq ⟨rfl, rfl⟩ rfl (fun c2 => ?_) (fun c2 => ?_)
      · skip
        refine zw_const ⟨rfl, rfl⟩ ?_
        refine zw_iload ⟨rfl, rfl⟩ rfl ?_
        refine zw_cavv5 ⟨rfl, rfl⟩ rfl zc_208 rfl ?_
        have hTe : (yfo (yahs σ c b) (yrp σ (yK σ) b) k T) = (yahd σ c b T) := by
          by_cases e : k = yba σ (yK σ) b
          · unfold yahd; rw [e]
          · have ek : k + 1 = yba σ (yK σ) b := by omega
            have ej : yjf σ (yK σ) b k = 1 := by omega
            unfold yahd
            rw [← ek, yfo_s _ i1.1]
            unfold yahs
            rw [if_pos (Or.inr (by unfold yla; rw [if_pos ej]; omega))]
        rw [hTe] at i2
        have hmb : ymdb σ b = k ∧ yla σ b k = yba σ (yK σ) b := by
          have hjj : 0 ≤ k → (yjf σ (yK σ) b k = 1 → k < yba σ (yK σ) b) := fun z => fun y => ((yjf_r σ (yK σ) b z).2 y).2
          by_cases e : k = yba σ (yK σ) b
          · have e0 : yjf σ (yK σ) b k ≠ 1 := fun y => by have := hjj (by omega) y; omega
            refine ⟨?_, by unfold yla; rw [if_neg e0, e]⟩
            unfold ymdb
            rw [if_neg (by rw [← e]; omega)]
            exact e.symm
          · have ek : k + 1 = yba σ (yK σ) b := by omega
            have ej : yjf σ (yK σ) b k = 1 := by omega
            refine ⟨?_, by unfold yla; rw [if_pos ej, ek]⟩
            unfold ymdb
            rw [if_pos ⟨by omega, by rw [← ek, show k + 1 - 1 = k by omega]; exact ej⟩]
            omega
        refine m_showsJoined (hf := 0) hV hB0 hb h1 i2 ⟨by omega, by omega, fun z => by have := hmb.2; unfold yla at this; rw [if_pos z] at this; omega⟩ (by first | (rw [if_pos (by omega)]; rfl) | (rw [if_neg (by omega)]; rfl)) (by omega) (fun N1 p1 => ?_)
        rw [hmb.2, ← hmb.1] at p1
        have hB1 := hB0.fr p1.2
        have hpk := (ypl_r hK hb.1.1 hb.1.2 h1 (show 0 ≤ ymdb σ b by omega) (by omega)).1
        have q1 := ydcn_1 c (yahd σ c b T) (yba σ (yK σ) b) 0 2 (show yP σ b (ymdb σ b) ≠ -1 by unfold yP; omega)
        refine zw_aload ⟨rfl, rfl⟩ rfl ?_
        refine zw_iload ⟨rfl, rfl⟩ rfl ?_
        refine zw_const ⟨rfl, rfl⟩ ?_
        refine zw_const ⟨rfl, rfl⟩ ?_
        refine zw_aload ⟨rfl, rfl⟩ rfl ?_
        refine zw_getR 223 ⟨rfl, rfl⟩ zr_208_17 ?_
        refine zw_iload ⟨rfl, rfl⟩ rfl ?_
        refine zw_ialdv (v := ynk (yK σ) (yP σ b ((yba σ (yK σ) b)))) ⟨rfl, rfl⟩ za_223 (by omega) ((hB1.2 ((yba σ (yK σ) b)) (by omega) (by omega)).2.1) ?_
        refine zw_cavv5 ⟨rfl, rfl⟩ rfl zc_208 rfl ?_
        refine m_showsAt hV hB1.1.1 p1.1 (ynk_p hK) (fun _ => by omega) (fun _ => ywo_e σ _ _ (by decide) (by decide)) (fun N2 p2 => ?_)
        have hB2 := hB1.fr p2.2
        have F2 := (i3.tr p1.2).tr p2.2
        have D2 : yGm N2 (ymid σ c b (yahd σ c b T)) := by unfold ymid; rw [if_pos h1]; exact p2.1
        refine zw_iload ⟨rfl, rfl⟩ rfl ?_
        refine zw_const ⟨rfl, rfl⟩ ?_
        refine zw_iadd ⟨rfl, rfl⟩ (by omega) ?_
        refine zw_istore_6 ⟨rfl, rfl⟩ ?_
        refine m_lg_100 hV hb hc h1 hB2 D2 hg hbd (by rw [F2.1 215 (by decide) (by decide)]; exact hd) (by rw [F2.1 220 (by decide) (by decide)]; exact h220) (fun P p => kk P ⟨p.1, (F2.l (c := c)).tr p.2.1, p.2.2⟩) _ _ _ ⟨Int.le_refl _, by omega⟩ (by rw [yfo_0 _ (Int.le_refl _)]; exact D2) ygf.rf (Nat.lt_succ_self _)
      · skip
        refine zw_const ⟨rfl, rfl⟩ ?_
        refine zw_goto ⟨rfl, rfl⟩ rfl ?_
        refine zw_iload ⟨rfl, rfl⟩ rfl ?_
        refine zw_cavv5 ⟨rfl, rfl⟩ rfl zc_208 rfl ?_
        have hTe : (yfo (yahs σ c b) (yrp σ (yK σ) b) k T) = (yahd σ c b T) := by
          by_cases e : k = yba σ (yK σ) b
          · unfold yahd; rw [e]
          · have ek : k + 1 = yba σ (yK σ) b := by omega
            have ej : yjf σ (yK σ) b k = 1 := by omega
            unfold yahd
            rw [← ek, yfo_s _ i1.1]
            unfold yahs
            rw [if_pos (Or.inr (by unfold yla; rw [if_pos ej]; omega))]
        rw [hTe] at i2
        have hmb : ymdb σ b = k ∧ yla σ b k = yba σ (yK σ) b := by
          have hjj : 0 ≤ k → (yjf σ (yK σ) b k = 1 → k < yba σ (yK σ) b) := fun z => fun y => ((yjf_r σ (yK σ) b z).2 y).2
          by_cases e : k = yba σ (yK σ) b
          · have e0 : yjf σ (yK σ) b k ≠ 1 := fun y => by have := hjj (by omega) y; omega
            refine ⟨?_, by unfold yla; rw [if_neg e0, e]⟩
            unfold ymdb
            rw [if_neg (by rw [← e]; omega)]
            exact e.symm
          · have ek : k + 1 = yba σ (yK σ) b := by omega
            have ej : yjf σ (yK σ) b k = 1 := by omega
            refine ⟨?_, by unfold yla; rw [if_pos ej, ek]⟩
            unfold ymdb
            rw [if_pos ⟨by omega, by rw [← ek, show k + 1 - 1 = k by omega]; exact ej⟩]
            omega
        refine m_showsJoined (hf := 0) hV hB0 hb h1 i2 ⟨by omega, by omega, fun z => by have := hmb.2; unfold yla at this; rw [if_pos z] at this; omega⟩ (by first | (rw [if_pos (by omega)]; rfl) | (rw [if_neg (by omega)]; rfl)) (by omega) (fun N1 p1 => ?_)
        rw [hmb.2, ← hmb.1] at p1
        have hB1 := hB0.fr p1.2
        have hpk := (ypl_r hK hb.1.1 hb.1.2 h1 (show 0 ≤ ymdb σ b by omega) (by omega)).1
        have q1 := ydcn_1 c (yahd σ c b T) (yba σ (yK σ) b) 0 2 (show yP σ b (ymdb σ b) ≠ -1 by unfold yP; omega)
        refine zw_aload ⟨rfl, rfl⟩ rfl ?_
        refine zw_iload ⟨rfl, rfl⟩ rfl ?_
        refine zw_const ⟨rfl, rfl⟩ ?_
        refine zw_const ⟨rfl, rfl⟩ ?_
        refine zw_aload ⟨rfl, rfl⟩ rfl ?_
        refine zw_getR 223 ⟨rfl, rfl⟩ zr_208_17 ?_
        refine zw_iload ⟨rfl, rfl⟩ rfl ?_
        refine zw_ialdv (v := ynk (yK σ) (yP σ b ((yba σ (yK σ) b)))) ⟨rfl, rfl⟩ za_223 (by omega) ((hB1.2 ((yba σ (yK σ) b)) (by omega) (by omega)).2.1) ?_
        refine zw_cavv5 ⟨rfl, rfl⟩ rfl zc_208 rfl ?_
        refine m_showsAt hV hB1.1.1 p1.1 (ynk_p hK) (fun _ => by omega) (fun _ => ywo_e σ _ _ (by decide) (by decide)) (fun N2 p2 => ?_)
        have hB2 := hB1.fr p2.2
        have F2 := (i3.tr p1.2).tr p2.2
        have D2 : yGm N2 (ymid σ c b (yahd σ c b T)) := by unfold ymid; rw [if_pos h1]; exact p2.1
        refine zw_iload ⟨rfl, rfl⟩ rfl ?_
        refine zw_const ⟨rfl, rfl⟩ ?_
        refine zw_iadd ⟨rfl, rfl⟩ (by omega) ?_
        refine zw_istore_6 ⟨rfl, rfl⟩ ?_
        refine m_lg_100 hV hb hc h1 hB2 D2 hg hbd (by rw [F2.1 215 (by decide) (by decide)]; exact hd) (by rw [F2.1 220 (by decide) (by decide)]; exact h220) (fun P p => kk P ⟨p.1, (F2.l (c := c)).tr p.2.1, p.2.2⟩) _ _ _ ⟨Int.le_refl _, by omega⟩ (by rw [yfo_0 _ (Int.le_refl _)]; exact D2) ygf.rf (Nat.lt_succ_self _)
    · skip
      refine zw_aload ⟨rfl, rfl⟩ rfl ?_
      refine zw_getR 226 ⟨rfl, rfl⟩ zr_208_20 ?_
      refine zw_iload ⟨rfl, rfl⟩ rfl ?_
      refine zw_baldv (v := yjf σ (yK σ) b k) ⟨rfl, rfl⟩ za_226 (by decide) (by omega) ((hB0.2 k (by omega) (by omega)).2.2.2.2) ?_
      refine zw_ifeq ⟨rfl, rfl⟩ rfl (fun c3 => ?_) (fun c3 => ?_)
      · skip
        refine zw_aload ⟨rfl, rfl⟩ rfl ?_
        refine zw_iload ⟨rfl, rfl⟩ rfl ?_
        refine zw_iload ⟨rfl, rfl⟩ rfl ?_
        refine zw_callv3 ⟨rfl, rfl⟩ rfl zc_208 rfl ?_
        have ht := yahd_r hV c T hb.1.1 hb.1.2 h1 i1.1 i1.2
        have hll := ypl_lt hK hb.1.1 hb.1.2 h1 (show 0 ≤ k by omega) (show k < yba σ (yK σ) b by omega) (by omega)
        have hla : (yla σ b k = k ∧ yjf σ (yK σ) b k ≠ 1) ∨ (yla σ b k = k + 1 ∧ yjf σ (yK σ) b k = 1) := by unfold yla; split <;> omega
        have hnz : yla σ b k < yba σ (yK σ) b := by omega
        refine m_showsAhead hV hB0 hb h1 i2 ⟨by omega, by omega⟩ (by unfold yP at ht hg2; omega) (fun N1 p1 => ?_)
        refine zw_istore_5 ⟨rfl, rfl⟩ ?_
        refine zw_goto ⟨rfl, rfl⟩ rfl ?_
        refine ih _ _ _ ⟨by omega, by omega⟩ ?_ (i3.tr p1.2) ?_ (by omega)
        · have nsk : ¬ ((yrp σ (yK σ) b < k ∧ yjf σ (yK σ) b (k - 1) = 1) ∨ yba σ (yK σ) b ≤ yla σ b k) := by omega
          have es : yahs σ c b k (yfo (yahs σ c b) (yrp σ (yK σ) b) k T) = yah2 σ c b k (yla σ b k) (yhf σ b (yla σ b k)) (yfo (yahs σ c b) (yrp σ (yK σ) b) k T) := by unfold yahs; rw [if_neg nsk]
          rcases hla with ⟨z1, z2⟩ | ⟨z1, z2⟩
          · have p11 := p1.1
            rw [← es] at p11
            rw [z1, yfo_s _ i1.1]
            exact p11
          · have p11 := p1.1
            rw [← es, ← yfo_s (yahs σ c b) i1.1] at p11
            rw [z1, yfo_s _ (show yrp σ (yK σ) b ≤ k + 1 by omega)]
            have e3 : yahs σ c b (k + 1) (yfo (yahs σ c b) (yrp σ (yK σ) b) (k + 1) T) = yfo (yahs σ c b) (yrp σ (yK σ) b) (k + 1) T := by
              exact yahs_sk (Or.inl ⟨by omega, by rw [show k + 1 - 1 = k by omega]; exact z2⟩)
            rw [e3]
            exact p11
        · right
          rw [show yla σ b k + 1 - 1 = yla σ b k by omega]
          rcases hla with ⟨z1, z2⟩ | ⟨z1, z2⟩
          · rw [z1]; exact z2
          · rw [z1]
            intro y
            have := (yjf_e (show 0 ≤ k + 1 by omega) y).2.1
            rw [show k + 1 - 1 = k by omega] at this
            rcases this with w | w
            · omega
            · exact w z2
      · skip
        refine zw_iload ⟨rfl, rfl⟩ rfl ?_
        refine zw_const ⟨rfl, rfl⟩ ?_
        refine zw_iadd ⟨rfl, rfl⟩ (by omega) ?_
        refine zw_iload ⟨rfl, rfl⟩ rfl ?_
        refine zw_iceq ⟨rfl, rfl⟩ rfl (fun c4 => ?_) (fun c4 => ?_)
        · skip
          refine zw_aload ⟨rfl, rfl⟩ rfl ?_
          refine zw_iload ⟨rfl, rfl⟩ rfl ?_
          refine zw_const ⟨rfl, rfl⟩ ?_
          refine zw_aload ⟨rfl, rfl⟩ rfl ?_
          refine zw_getR 226 ⟨rfl, rfl⟩ zr_208_20 ?_
          refine zw_iload ⟨rfl, rfl⟩ rfl ?_
          refine zw_baldv (v := yjf σ (yK σ) b k) ⟨rfl, rfl⟩ za_226 (by decide) (by omega) ((hB0.2 k (by omega) (by omega)).2.2.2.2) ?_
          refine zw_ifeq ⟨rfl, rfl⟩ rfl (fun c5 => ?_) (fun c5 => ?_)
          · skip
            refine zw_const ⟨rfl, rfl⟩ ?_
            refine zw_iload ⟨rfl, rfl⟩ rfl ?_
            refine zw_cavv5 ⟨rfl, rfl⟩ rfl zc_208 rfl ?_
            have hTe : (yfo (yahs σ c b) (yrp σ (yK σ) b) k T) = (yahd σ c b T) := by
              by_cases e : k = yba σ (yK σ) b
              · unfold yahd; rw [e]
              · have ek : k + 1 = yba σ (yK σ) b := by omega
                have ej : yjf σ (yK σ) b k = 1 := by omega
                unfold yahd
                rw [← ek, yfo_s _ i1.1]
                unfold yahs
                rw [if_pos (Or.inr (by unfold yla; rw [if_pos ej]; omega))]
            rw [hTe] at i2
            have hmb : ymdb σ b = k ∧ yla σ b k = yba σ (yK σ) b := by
              have hjj : 0 ≤ k → (yjf σ (yK σ) b k = 1 → k < yba σ (yK σ) b) := fun z => fun y => ((yjf_r σ (yK σ) b z).2 y).2
              by_cases e : k = yba σ (yK σ) b
              · have e0 : yjf σ (yK σ) b k ≠ 1 := fun y => by have := hjj (by omega) y; omega
                refine ⟨?_, by unfold yla; rw [if_neg e0, e]⟩
                unfold ymdb
                rw [if_neg (by rw [← e]; omega)]
                exact e.symm
              · have ek : k + 1 = yba σ (yK σ) b := by omega
                have ej : yjf σ (yK σ) b k = 1 := by omega
                refine ⟨?_, by unfold yla; rw [if_pos ej, ek]⟩
                unfold ymdb
                rw [if_pos ⟨by omega, by rw [← ek, show k + 1 - 1 = k by omega]; exact ej⟩]
                omega
            refine m_showsJoined (hf := 0) hV hB0 hb h1 i2 ⟨by omega, by omega, fun z => by have := hmb.2; unfold yla at this; rw [if_pos z] at this; omega⟩ (by first | (rw [if_pos (by omega)]; rfl) | (rw [if_neg (by omega)]; rfl)) (by omega) (fun N1 p1 => ?_)
            rw [hmb.2, ← hmb.1] at p1
            have hB1 := hB0.fr p1.2
            have hpk := (ypl_r hK hb.1.1 hb.1.2 h1 (show 0 ≤ ymdb σ b by omega) (by omega)).1
            have q1 := ydcn_1 c (yahd σ c b T) (yba σ (yK σ) b) 0 2 (show yP σ b (ymdb σ b) ≠ -1 by unfold yP; omega)
            refine zw_aload ⟨rfl, rfl⟩ rfl ?_
            refine zw_iload ⟨rfl, rfl⟩ rfl ?_
            refine zw_const ⟨rfl, rfl⟩ ?_
            refine zw_const ⟨rfl, rfl⟩ ?_
            refine zw_aload ⟨rfl, rfl⟩ rfl ?_
            refine zw_getR 223 ⟨rfl, rfl⟩ zr_208_17 ?_
            refine zw_iload ⟨rfl, rfl⟩ rfl ?_
            refine zw_ialdv (v := ynk (yK σ) (yP σ b ((yba σ (yK σ) b)))) ⟨rfl, rfl⟩ za_223 (by omega) ((hB1.2 ((yba σ (yK σ) b)) (by omega) (by omega)).2.1) ?_
            refine zw_cavv5 ⟨rfl, rfl⟩ rfl zc_208 rfl ?_
            refine m_showsAt hV hB1.1.1 p1.1 (ynk_p hK) (fun _ => by omega) (fun _ => ywo_e σ _ _ (by decide) (by decide)) (fun N2 p2 => ?_)
            have hB2 := hB1.fr p2.2
            have F2 := (i3.tr p1.2).tr p2.2
            have D2 : yGm N2 (ymid σ c b (yahd σ c b T)) := by unfold ymid; rw [if_pos h1]; exact p2.1
            refine zw_iload ⟨rfl, rfl⟩ rfl ?_
            refine zw_const ⟨rfl, rfl⟩ ?_
            refine zw_iadd ⟨rfl, rfl⟩ (by omega) ?_
            refine zw_istore_6 ⟨rfl, rfl⟩ ?_
            refine m_lg_100 hV hb hc h1 hB2 D2 hg hbd (by rw [F2.1 215 (by decide) (by decide)]; exact hd) (by rw [F2.1 220 (by decide) (by decide)]; exact h220) (fun P p => kk P ⟨p.1, (F2.l (c := c)).tr p.2.1, p.2.2⟩) _ _ _ ⟨Int.le_refl _, by omega⟩ (by rw [yfo_0 _ (Int.le_refl _)]; exact D2) ygf.rf (Nat.lt_succ_self _)
          · skip
            refine zw_const ⟨rfl, rfl⟩ ?_
            refine zw_goto ⟨rfl, rfl⟩ rfl ?_
            refine zw_iload ⟨rfl, rfl⟩ rfl ?_
            refine zw_cavv5 ⟨rfl, rfl⟩ rfl zc_208 rfl ?_
            have hTe : (yfo (yahs σ c b) (yrp σ (yK σ) b) k T) = (yahd σ c b T) := by
              by_cases e : k = yba σ (yK σ) b
              · unfold yahd; rw [e]
              · have ek : k + 1 = yba σ (yK σ) b := by omega
                have ej : yjf σ (yK σ) b k = 1 := by omega
                unfold yahd
                rw [← ek, yfo_s _ i1.1]
                unfold yahs
                rw [if_pos (Or.inr (by unfold yla; rw [if_pos ej]; omega))]
            rw [hTe] at i2
            have hmb : ymdb σ b = k ∧ yla σ b k = yba σ (yK σ) b := by
              have hjj : 0 ≤ k → (yjf σ (yK σ) b k = 1 → k < yba σ (yK σ) b) := fun z => fun y => ((yjf_r σ (yK σ) b z).2 y).2
              by_cases e : k = yba σ (yK σ) b
              · have e0 : yjf σ (yK σ) b k ≠ 1 := fun y => by have := hjj (by omega) y; omega
                refine ⟨?_, by unfold yla; rw [if_neg e0, e]⟩
                unfold ymdb
                rw [if_neg (by rw [← e]; omega)]
                exact e.symm
              · have ek : k + 1 = yba σ (yK σ) b := by omega
                have ej : yjf σ (yK σ) b k = 1 := by omega
                refine ⟨?_, by unfold yla; rw [if_pos ej, ek]⟩
                unfold ymdb
                rw [if_pos ⟨by omega, by rw [← ek, show k + 1 - 1 = k by omega]; exact ej⟩]
                omega
            refine m_showsJoined (hf := 0) hV hB0 hb h1 i2 ⟨by omega, by omega, fun z => by have := hmb.2; unfold yla at this; rw [if_pos z] at this; omega⟩ (by first | (rw [if_pos (by omega)]; rfl) | (rw [if_neg (by omega)]; rfl)) (by omega) (fun N1 p1 => ?_)
            rw [hmb.2, ← hmb.1] at p1
            have hB1 := hB0.fr p1.2
            have hpk := (ypl_r hK hb.1.1 hb.1.2 h1 (show 0 ≤ ymdb σ b by omega) (by omega)).1
            have q1 := ydcn_1 c (yahd σ c b T) (yba σ (yK σ) b) 0 2 (show yP σ b (ymdb σ b) ≠ -1 by unfold yP; omega)
            refine zw_aload ⟨rfl, rfl⟩ rfl ?_
            refine zw_iload ⟨rfl, rfl⟩ rfl ?_
            refine zw_const ⟨rfl, rfl⟩ ?_
            refine zw_const ⟨rfl, rfl⟩ ?_
            refine zw_aload ⟨rfl, rfl⟩ rfl ?_
            refine zw_getR 223 ⟨rfl, rfl⟩ zr_208_17 ?_
            refine zw_iload ⟨rfl, rfl⟩ rfl ?_
            refine zw_ialdv (v := ynk (yK σ) (yP σ b ((yba σ (yK σ) b)))) ⟨rfl, rfl⟩ za_223 (by omega) ((hB1.2 ((yba σ (yK σ) b)) (by omega) (by omega)).2.1) ?_
            refine zw_cavv5 ⟨rfl, rfl⟩ rfl zc_208 rfl ?_
            refine m_showsAt hV hB1.1.1 p1.1 (ynk_p hK) (fun _ => by omega) (fun _ => ywo_e σ _ _ (by decide) (by decide)) (fun N2 p2 => ?_)
            have hB2 := hB1.fr p2.2
            have F2 := (i3.tr p1.2).tr p2.2
            have D2 : yGm N2 (ymid σ c b (yahd σ c b T)) := by unfold ymid; rw [if_pos h1]; exact p2.1
            refine zw_iload ⟨rfl, rfl⟩ rfl ?_
            refine zw_const ⟨rfl, rfl⟩ ?_
            refine zw_iadd ⟨rfl, rfl⟩ (by omega) ?_
            refine zw_istore_6 ⟨rfl, rfl⟩ ?_
            refine m_lg_100 hV hb hc h1 hB2 D2 hg hbd (by rw [F2.1 215 (by decide) (by decide)]; exact hd) (by rw [F2.1 220 (by decide) (by decide)]; exact h220) (fun P p => kk P ⟨p.1, (F2.l (c := c)).tr p.2.1, p.2.2⟩) _ _ _ ⟨Int.le_refl _, by omega⟩ (by rw [yfo_0 _ (Int.le_refl _)]; exact D2) ygf.rf (Nat.lt_succ_self _)
        · skip
          refine zw_aload ⟨rfl, rfl⟩ rfl ?_
          refine zw_iload ⟨rfl, rfl⟩ rfl ?_
          refine zw_iload ⟨rfl, rfl⟩ rfl ?_
          refine zw_callv3 ⟨rfl, rfl⟩ rfl zc_208 rfl ?_
          have ht := yahd_r hV c T hb.1.1 hb.1.2 h1 i1.1 i1.2
          have hll := ypl_lt hK hb.1.1 hb.1.2 h1 (show 0 ≤ k by omega) (show k < yba σ (yK σ) b by omega) (by omega)
          have hla : (yla σ b k = k ∧ yjf σ (yK σ) b k ≠ 1) ∨ (yla σ b k = k + 1 ∧ yjf σ (yK σ) b k = 1) := by unfold yla; split <;> omega
          have hnz : yla σ b k < yba σ (yK σ) b := by omega
          refine m_showsAhead hV hB0 hb h1 i2 ⟨by omega, by omega⟩ (by unfold yP at ht hg2; omega) (fun N1 p1 => ?_)
          refine zw_istore_5 ⟨rfl, rfl⟩ ?_
          refine zw_goto ⟨rfl, rfl⟩ rfl ?_
          refine ih _ _ _ ⟨by omega, by omega⟩ ?_ (i3.tr p1.2) ?_ (by omega)
          · have nsk : ¬ ((yrp σ (yK σ) b < k ∧ yjf σ (yK σ) b (k - 1) = 1) ∨ yba σ (yK σ) b ≤ yla σ b k) := by omega
            have es : yahs σ c b k (yfo (yahs σ c b) (yrp σ (yK σ) b) k T) = yah2 σ c b k (yla σ b k) (yhf σ b (yla σ b k)) (yfo (yahs σ c b) (yrp σ (yK σ) b) k T) := by unfold yahs; rw [if_neg nsk]
            rcases hla with ⟨z1, z2⟩ | ⟨z1, z2⟩
            · have p11 := p1.1
              rw [← es] at p11
              rw [z1, yfo_s _ i1.1]
              exact p11
            · have p11 := p1.1
              rw [← es, ← yfo_s (yahs σ c b) i1.1] at p11
              rw [z1, yfo_s _ (show yrp σ (yK σ) b ≤ k + 1 by omega)]
              have e3 : yahs σ c b (k + 1) (yfo (yahs σ c b) (yrp σ (yK σ) b) (k + 1) T) = yfo (yahs σ c b) (yrp σ (yK σ) b) (k + 1) T := by
                exact yahs_sk (Or.inl ⟨by omega, by rw [show k + 1 - 1 = k by omega]; exact z2⟩)
              rw [e3]
              exact p11
          · right
            rw [show yla σ b k + 1 - 1 = yla σ b k by omega]
            rcases hla with ⟨z1, z2⟩ | ⟨z1, z2⟩
            · rw [z1]; exact z2
            · rw [z1]
              intro y
              have := (yjf_e (show 0 ≤ k + 1 by omega) y).2.1
              rw [show k + 1 - 1 = k by omega] at this
              rcases this with w | w
              · omega
              · exact w z2
end
