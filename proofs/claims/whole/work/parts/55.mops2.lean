/-! The model's calls that change, the rest -/
def ycF (σ : yS) (a : Int) : Int := if ysa (yK σ) (σ 0) a < yci (yK σ) (σ 0) then ysa (yK σ) (σ 0) a else -1
section
set_option maxHeartbeats 4000000
theorem m_clusterFrom_l  {a : Int} {M : zM} {Q : zV → zM → Prop} {σ : yS} (hV : yVal σ) (hG : yLay M σ) (k : Q (0, ycF σ a) M) : ∀ (f : Nat) (c : Int), (0 ≤ c ∧ c ≤ (yci (yK σ) (σ 0))) → (∀ j, 0 ≤ j → j < c → yB (yK σ) j ≠ a) → ((yci (yK σ) (σ 0)) - c).toNat < f → zWp kM_clusterFrom 4 [(1, 208), (0, a), (0, c)] [] M Q := by
  intro f
  induction f with
  | zero => intro c i1 i2 hf; exact absurd hf (Nat.not_lt_zero _)
  | succ f ih =>
    intro c i1 i2 hf
    have hK := yKr_K hV
    have hn := hV.1
    have hci := yci_60 hK
    refine zw_iload ⟨rfl, rfl⟩ rfl ?_
    refine zw_aload ⟨rfl, rfl⟩ rfl ?_
    refine zw_getIv (v := (yci (yK σ) (σ 0))) ⟨rfl, rfl⟩ zc_208 (by decide) (hG.1.1) ?_
    refine zw_icge ⟨rfl, rfl⟩ rfl (fun c1 => ?_) (fun c1 => ?_)
    · skip
      refine zw_const ⟨rfl, rfl⟩ ?_
      refine zw_ret rfl ?_
      have e : ycF σ a = -1 := by
        by_cases hh : ysa (yK σ) (σ 0) a = -1
        · unfold ycF; rw [hh]; split <;> rfl
        · obtain ⟨a1, a2⟩ := ysa_B hK hh
          exact if_neg (fun z => absurd a2 (i2 _ a1.1 (by omega)))
      rw [e] at k
      exact k
    · skip
      refine zw_aload ⟨rfl, rfl⟩ rfl ?_
      refine zw_getR 212 ⟨rfl, rfl⟩ zr_208_5 ?_
      refine zw_iload ⟨rfl, rfl⟩ rfl ?_
      refine zw_ialdv (v := yB (yK σ) (c)) ⟨rfl, rfl⟩ za_212 (by omega) ((hG.2.2.1 (c) (by omega) (by omega)).1) ?_
      refine zw_iload ⟨rfl, rfl⟩ rfl ?_
      refine zw_icne ⟨rfl, rfl⟩ rfl (fun c2 => ?_) (fun c2 => ?_)
      · skip
        refine zw_iinc_2 ⟨rfl, rfl⟩ (by omega) ?_
        refine zw_goto ⟨rfl, rfl⟩ rfl ?_
        refine ih _ ⟨by omega, by omega⟩ (fun j j1 j2 => ?_) (by omega)
        by_cases e : j = c
        · subst e; assumption
        · exact i2 j j1 (by omega)
      · skip
        refine zw_iload ⟨rfl, rfl⟩ rfl ?_
        refine zw_ret rfl ?_
        have e := yB_iff hK i1.1 (by omega) (show yB (yK σ) c = a by omega)
        rw [show ycF σ a = c from by unfold ycF; rw [e, if_pos (by omega)]] at k
        exact k

theorem m_clusterFrom {a : Int} {M : zM} {Q : zV → zM → Prop} {σ : yS} (hV : yVal σ) (hM : yMo M σ) (kk : ∀ N : zM, (yLay N σ ∧ yaf M N) → Q (0, ycF σ a) N) : zWp kM_clusterFrom 0 [(1, 208), (0, a), (3, 0)] [] M Q := by
  refine zw_aload ⟨rfl, rfl⟩ rfl ?_
  refine zw_cavv1 ⟨rfl, rfl⟩ rfl zc_208 rfl ?_
  refine m_laysAll hV hM (fun N1 p1 => ?_)
  refine zw_const ⟨rfl, rfl⟩ ?_
  refine zw_istore_2 ⟨rfl, rfl⟩ ?_
  exact m_clusterFrom_l hV p1.1 (kk N1 p1) _ _ ⟨by decide, (yci_60 (yKr_K hV)).1⟩ (fun j a b => by omega) (Nat.lt_succ_self _)

theorem d_delete {a : Int} {M : zM} {Q : zV → zM → Prop} {σ : yS} {un : Int} {uh : Int → yS} {mk : Int → Int} {im : Int → yS} {tn : Int} {tp : Int → Int} {ff fp : Int} (hC : yMW M σ un uh mk im tn tp ff fp) (k : ∀ N : zM, yMw N (yo_delete σ un uh mk im tn tp ff fp a).2 → (∀ x, x < 208 → N x = M x) → Q (0, (yo_delete σ un uh mk im tn tp ff fp a).1) N) : zWp kM_delete 0 [(1, 208), (0, a), (3, 0)] [] M Q := by
  obtain ⟨hW, hM, hH, hI, hT, hF, hWd⟩ := id hC
  obtain ⟨-, hM0, hH0, hI0, hT0, -⟩ := hC.mf (ymf_0 (v := 0))
  have hV := hW.1
  have hn := hV.1
  have hu := hW.2.1.1
  have htn := hW.2.2.2.1
  refine zw_aload ⟨rfl, rfl⟩ rfl ?_
  refine zw_const ⟨rfl, rfl⟩ ?_
  refine zw_putI ⟨rfl, rfl⟩ zc_208 (by decide) (fun h => absurd h (by decide)) ?_
  refine zw_aload ⟨rfl, rfl⟩ rfl ?_
  refine zw_iload ⟨rfl, rfl⟩ rfl ?_
  refine zw_callv2 ⟨rfl, rfl⟩ rfl zc_208 rfl ?_
  refine m_clusterFrom hV hM0 (fun N2 p2 => ?_)
  have hf2 : ymf M N2 := ymf_0.tr p2.2.m
  have hM2 : yMo N2 σ := (hC.mf hf2).2.1
  have hH2 : yMH N2 un uh := (hC.mf hf2).2.2.1
  have hK := yKr_K hV
  have hci := yci_60 hK
  have hsa := ysa_B hK (p := a)
  have hcF : (ycF σ a = -1 ∧ (ysa (yK σ) (σ 0) a = -1 ∨ (yci (yK σ) (σ 0)) ≤ ysa (yK σ) (σ 0) a)) ∨ (ycF σ a = ysa (yK σ) (σ 0) a ∧ ysa (yK σ) (σ 0) a ≠ -1 ∧ ysa (yK σ) (σ 0) a < (yci (yK σ) (σ 0))) := by
    unfold ycF; split <;> omega
  refine zw_istore_2 ⟨rfl, rfl⟩ ?_
  refine zw_iload ⟨rfl, rfl⟩ rfl ?_
  refine zw_const ⟨rfl, rfl⟩ ?_
  refine zw_icne ⟨rfl, rfl⟩ rfl (fun c1 => ?_) (fun c1 => ?_)
  · skip
    refine zw_aload ⟨rfl, rfl⟩ rfl ?_
    refine zw_cavv1 ⟨rfl, rfl⟩ rfl zc_208 rfl ?_
    refine m_notes hV hu hM2 hH2 (fun N1 p1 => ?_)
    obtain ⟨hM1, hH1, hr1⟩ := p1
    have er : ∀ x, x < 208 ∨ x = 211 ∨ x = 236 ∨ x = 238 → N1 x = M x := fun x hx => (hr1.1 x (by omega) (by omega)).trans (hf2.1 x (by omega))
    have e9 : ∀ j, 182 ≤ j → N1 209 j = M 209 j := fun j _ => by rw [hr1.1 209 (by decide) (by decide), hf2.1 209 (by decide)]
    have q35 : N1 208 35 = tn := (hr1.2 35 (by decide)).trans ((hf2.2 35 (by decide)).trans hT.1)
    have q38 : N1 208 38 = ff := (hr1.2 38 (by decide)).trans ((hf2.2 38 (by decide)).trans hF.1)
    have q39 : N1 208 39 = fp := (hr1.2 39 (by decide)).trans ((hf2.2 39 (by decide)).trans hF.2)
    have hcF1 := hcF.resolve_left (by omega)
    have hsa1 := hsa hcF1.2.1
    have hcl := (yB_cl hK (c := ysa (yK σ) (σ 0) a) hsa1.1.1 hcF1.2.2).1
    obtain ⟨d, hd⟩ : ∃ d, d = yB (yK σ) (ysa (yK σ) (σ 0) a + 1) - yB (yK σ) (ysa (yK σ) (σ 0) a) := ⟨_, rfl⟩
    have s13 : N1 213 (ycF σ a) = d := by rw [hr1.1 213 (by decide) (by decide), hcF1.1, (p2.1.2.1 _ hsa1.1.1 hcF1.2.2).2.1]; exact hd.symm
    refine zw_aload ⟨rfl, rfl⟩ rfl ?_
    refine zw_iload ⟨rfl, rfl⟩ rfl ?_
    refine zw_aload ⟨rfl, rfl⟩ rfl ?_
    refine zw_getR 213 ⟨rfl, rfl⟩ zr_208_6 ?_
    refine zw_iload ⟨rfl, rfl⟩ rfl ?_
    refine zw_ialdv (v := d) ⟨rfl, rfl⟩ za_213 (by omega) (s13) ?_
    refine zw_cavv3 ⟨rfl, rfl⟩ rfl zc_208 rfl ?_
    have ha : 0 ≤ a ∧ 0 ≤ d ∧ a + d ≤ σ 0 := by omega
    obtain ⟨g1, g2, g3⟩ := yGo_M hV hM1 ha
    refine m_goes hV hM1 ha ?_
    generalize hE : (zup (zcpy N1 209 (122 + a + d) 209 (122 + a) (σ 0 - d - a)) 209 0 (σ 0 - d)) = E at g1 g2 g3 ⊢
    have s13E : E 213 (ycF σ a) = d := by rw [g2 213 (by decide)]; exact s13
    refine zw_aload ⟨rfl, rfl⟩ rfl ?_
    refine zw_getR 213 ⟨rfl, rfl⟩ zr_208_6 ?_
    refine zw_iload ⟨rfl, rfl⟩ rfl ?_
    refine zw_ialdv (v := d) ⟨rfl, rfl⟩ za_213 (by omega) (s13E) ?_
    refine zw_ret rfl ?_
    obtain ⟨w1, w2⟩ := yMW_new hC (yGo_V hV ha) g1 ⟨by rw [g2 208 (by decide)]; exact hH1.1, fun i i1 i2 j j1 j2 => by rw [g2 210 (by decide)]; exact hH1.2 i i1 i2 j j1 j2⟩ (yph_V hW.2.1 hV) (fun x hx => (g2 x (by omega)).trans (er x (by omega))) (fun j hj => (g3 j hj).trans (e9 j hj)) (tn' := tn) (ff' := ff) (fp' := fp) ⟨by rw [g2 208 (by decide)]; exact q35, by omega, by omega⟩ ⟨by rw [g2 208 (by decide)]; exact q38, by rw [g2 208 (by decide)]; exact q39⟩
    subst hd
    have e : yo_delete σ un uh mk im tn tp ff fp a = (yB (yK σ) (ysa (yK σ) (σ 0) a + 1) - yB (yK σ) (ysa (yK σ) (σ 0) a), yGo σ a (yB (yK σ) (ysa (yK σ) (σ 0) a + 1) - yB (yK σ) (ysa (yK σ) (σ 0) a)), ypn un, yph un uh σ, mk, im, tn, tp, ff, fp) := by unfold yo_delete; (repeat' split) <;> first | rfl | (exfalso; omega)
    rw [e] at k
    exact k _ (w1) (w2)
  · skip
    refine zw_const ⟨rfl, rfl⟩ ?_
    refine zw_ret rfl ?_
    have e : yo_delete σ un uh mk im tn tp ff fp a = ((-5), σ, un, uh, mk, im, tn, tp, ff, fp) := by unfold yo_delete; (repeat' split) <;> first | rfl | (exfalso; omega)
    rw [e] at k
    exact k _ (hC.mf hf2) (fun x hx => hf2.1 x (by omega))

theorem yOr_M {M N1 : zM} {σ : yS} (hV : yVal σ) (hM : yMo N1 σ) (hR : ∀ k, 0 ≤ k → k < (yBack σ).1 → N1 235 k = (yBack σ).2 k) (h6 : 0 ≤ (yBack σ).1 ∧ (yBack σ).1 ≤ 60) : yMo (zup (zcpy N1 235 0 209 122 (yBack σ).1) 209 0 (yBack σ).1) (yOr σ) ∧ (∀ x, x ≠ 209 → (zup (zcpy N1 235 0 209 122 (yBack σ).1) 209 0 (yBack σ).1) x = N1 x) ∧ ∀ j, 182 ≤ j → (zup (zcpy N1 235 0 209 122 (yBack σ).1) 209 0 (yBack σ).1) 209 j = N1 209 j := by
  refine ⟨fun j j1 j2 => ?_, fun x hx => (zup_row hx).trans (zcpy_row hx), fun j hj => ?_⟩
  · by_cases q : j = 0
    · subst q; rw [zup_eq]; exact (if_pos rfl).symm
    · rw [zup_ni q]
      unfold zcpy yOr
      rw [if_neg q]
      by_cases c : 122 ≤ j ∧ j < 122 + (yBack σ).1
      · rw [if_pos ⟨rfl, c.1, c.2⟩, if_pos c, show (0 : Int) + (j - 122) = j - 122 by omega]
        exact hR _ (by omega) (by omega)
      · rw [if_neg (fun z => c z.2), if_neg c]
        exact hM j j1 j2
  · rw [zup_ni (by omega)]
    exact if_neg (fun q => by omega)

theorem d_order {M : zM} {Q : zV → zM → Prop} {σ : yS} {un : Int} {uh : Int → yS} {mk : Int → Int} {im : Int → yS} {tn : Int} {tp : Int → Int} {ff fp : Int} (hC : yMW M σ un uh mk im tn tp ff fp) (k : ∀ N : zM, yMw N (yo_order σ un uh mk im tn tp ff fp).2 → (∀ x, x < 208 → N x = M x) → Q (0, (yo_order σ un uh mk im tn tp ff fp).1) N) : zWp kM_order 0 [(1, 208)] [] M Q := by
  obtain ⟨hW, hM, hH, hI, hT, hF, hWd⟩ := id hC
  obtain ⟨-, hM0, hH0, hI0, hT0, -⟩ := hC.mf (ymf_0 (v := 0))
  have hV := hW.1
  have hn := hV.1
  have hu := hW.2.1.1
  have htn := hW.2.2.2.1
  have hbr := yBack_r hV
  refine zw_aload ⟨rfl, rfl⟩ rfl ?_
  refine zw_const ⟨rfl, rfl⟩ ?_
  refine zw_putI ⟨rfl, rfl⟩ zc_208 (by decide) (fun h => absurd h (by decide)) ?_
  refine zw_aload ⟨rfl, rfl⟩ rfl ?_
  refine zw_cavv1 ⟨rfl, rfl⟩ rfl zc_208 rfl ?_
  refine m_MreadsBack hV hM0 (fun N2 p2 => ?_)
  obtain ⟨hG2, hR2, hf0⟩ := p2
  have hf2 : ymf M N2 := ymf_0.tr hf0
  have hM2 : yMo N2 σ := (hC.mf hf2).2.1
  have hH2 : yMH N2 un uh := (hC.mf hf2).2.2.1
  refine zw_aload ⟨rfl, rfl⟩ rfl ?_
  refine zw_getIv (v := (yBack σ).1) ⟨rfl, rfl⟩ zc_208 (by decide) (hR2.1) ?_
  refine zw_const ⟨rfl, rfl⟩ ?_
  refine zw_icle ⟨rfl, rfl⟩ rfl (fun c1 => ?_) (fun c1 => ?_)
  · skip
    refine zw_aload ⟨rfl, rfl⟩ rfl ?_
    refine zw_cavv1 ⟨rfl, rfl⟩ rfl zc_208 rfl ?_
    refine m_notes hV hu hM2 hH2 (fun N1 p1 => ?_)
    obtain ⟨hM1, hH1, hr1⟩ := p1
    have er : ∀ x, x < 208 ∨ x = 211 ∨ x = 236 ∨ x = 238 → N1 x = M x := fun x hx => (hr1.1 x (by omega) (by omega)).trans (hf2.1 x (by omega))
    have e9 : ∀ j, 182 ≤ j → N1 209 j = M 209 j := fun j _ => by rw [hr1.1 209 (by decide) (by decide), hf2.1 209 (by decide)]
    have q35 : N1 208 35 = tn := (hr1.2 35 (by decide)).trans ((hf2.2 35 (by decide)).trans hT.1)
    have q38 : N1 208 38 = ff := (hr1.2 38 (by decide)).trans ((hf2.2 38 (by decide)).trans hF.1)
    have q39 : N1 208 39 = fp := (hr1.2 39 (by decide)).trans ((hf2.2 39 (by decide)).trans hF.2)
    have q33 : N1 208 33 = (yBack σ).1 := (hr1.2 33 (by decide)).trans hR2.1
    have hR1 : ∀ k, 0 ≤ k → k < (yBack σ).1 → N1 235 k = (yBack σ).2 k := fun k k1 k2 => by rw [hr1.1 235 (by decide) (by decide)]; exact hR2.2.2 k k1 k2
    refine zw_aload ⟨rfl, rfl⟩ rfl ?_
    refine zw_getR 235 ⟨rfl, rfl⟩ zr_208_32 ?_
    refine zw_const ⟨rfl, rfl⟩ ?_
    refine zw_aload ⟨rfl, rfl⟩ rfl ?_
    refine zw_getR 209 ⟨rfl, rfl⟩ zr_208_1 ?_
    refine zw_const ⟨rfl, rfl⟩ ?_
    refine zw_aload ⟨rfl, rfl⟩ rfl ?_
    refine zw_getIv (v := (yBack σ).1) ⟨rfl, rfl⟩ zc_208 (by decide) (q33) ?_
    refine zw_cavs5 ⟨rfl, rfl⟩ rfl rfl ?_
    refine m_copies (na := 120) (nb := 546) za_235 za_209 ⟨by omega, by omega, by omega, by omega, by omega⟩ ⟨by decide, by decide⟩ (by omega) ?_
    refine zw_aload ⟨rfl, rfl⟩ rfl ?_
    refine zw_getR 209 ⟨rfl, rfl⟩ zr_208_1 ?_
    refine zw_const ⟨rfl, rfl⟩ ?_
    refine zw_aload ⟨rfl, rfl⟩ rfl ?_
    refine zw_getIv (v := (yBack σ).1) ⟨rfl, rfl⟩ zc_208 (by decide) ((zcpy_na (by decide)).trans (q33)) ?_
    refine zw_iast ⟨rfl, rfl⟩ za_209 (by omega) ?_
    refine zw_aload ⟨rfl, rfl⟩ rfl ?_
    refine zw_getIv (v := (yBack σ).1) ⟨rfl, rfl⟩ zc_208 (by decide) ((zup_na (by decide)).trans ((zcpy_na (by decide)).trans (q33))) ?_
    refine zw_ret rfl ?_
    obtain ⟨g1, g2, g3⟩ := yOr_M (M := M) hV hM1 hR1 ⟨hbr.1, by omega⟩
    obtain ⟨w1, w2⟩ := yMW_new hC (yOr_V hV (by omega)) g1 ⟨by rw [g2 208 (by decide)]; exact hH1.1, fun i i1 i2 j j1 j2 => by rw [g2 210 (by decide)]; exact hH1.2 i i1 i2 j j1 j2⟩ (yph_V hW.2.1 hV) (fun x hx => (g2 x (by omega)).trans (er x (by omega))) (fun j hj => (g3 j hj).trans (e9 j hj)) (tn' := tn) (ff' := ff) (fp' := fp) ⟨by rw [g2 208 (by decide)]; exact q35, by omega, by omega⟩ ⟨by rw [g2 208 (by decide)]; exact q38, by rw [g2 208 (by decide)]; exact q39⟩
    have e : yo_order σ un uh mk im tn tp ff fp = ((yBack σ).1, yOr σ, ypn un, yph un uh σ, mk, im, tn, tp, ff, fp) := by unfold yo_order; (repeat' split) <;> first | rfl | (exfalso; omega)
    rw [e] at k
    exact k _ (w1) (w2)
  · skip
    refine zw_const ⟨rfl, rfl⟩ ?_
    refine zw_ret rfl ?_
    have e : yo_order σ un uh mk im tn tp ff fp = ((-4), σ, un, uh, mk, im, tn, tp, ff, fp) := by unfold yo_order; (repeat' split) <;> first | rfl | (exfalso; omega)
    rw [e] at k
    exact k _ (hC.mf hf2) (fun x hx => hf2.1 x (by omega))

theorem m_Mtx_l {n : Int} {tp : Int → Int} {M : zM} {Q : zV → zM → Prop} (hn : 0 ≤ n ∧ n ≤ 60) (hT : ∀ j, 0 ≤ j → j < n → M 236 j = zbyte (tp j)) (hb : ∀ j, 0 ≤ j → j < n → 0 ≤ tp j ∧ tp j ≤ 255) (kk : ∀ N : zM, ((∀ x, x ≠ 208 → N x = M x) ∧ (∀ j, j ≠ 39 → N 208 j = M 208 j) ∧ N 208 39 = yfl tp n.toNat) → zWp kM_text 34 [(1, 208), (0, n), (0, -1)] [] N Q) : ∀ (f0 : Nat) (k : Int) (N : zM), (-1 ≤ k ∧ k < n) → ((∀ x, x ≠ 208 → N x = M x) ∧ ∀ j, j ≠ 39 → N 208 j = M 208 j) → ((N 208 39 = -1 ∧ ∀ j, k < j → j < n → (97 ≤ tp j ∧ tp j ≤ 122)) ∨ ((k < N 208 39 ∧ N 208 39 < n) ∧ ¬ (97 ≤ tp (N 208 39) ∧ tp (N 208 39) ≤ 122) ∧ ∀ j, k < j → j < N 208 39 → (97 ≤ tp j ∧ tp j ≤ 122))) → (k + 1).toNat < f0 → zWp kM_text 18 [(1, 208), (0, n), (0, k)] [] N Q := by
  intro f0
  induction f0 with
  | zero => intro k N i1 i2 i3 hf0; exact absurd hf0 (Nat.not_lt_zero _)
  | succ f0 ih =>
    intro k N i1 i2 i3 hf0
    refine zw_iload ⟨rfl, rfl⟩ rfl ?_
    refine zw_iflt ⟨rfl, rfl⟩ rfl (fun c1 => ?_) (fun c1 => ?_)
    · skip
      have ek : k = -1 := by omega
      subst ek
      refine kk _ ⟨i2.1, i2.2, ?_⟩
      rcases i3 with ⟨a1, a2⟩ | ⟨a1, a2, a3⟩
      · rw [a1, yfl_n n.toNat (fun j j1 j2 => a2 j (by omega) (by omega))]
      · exact (yfl_p (by omega) a2 (fun j j1 j2 => a3 j (by omega) j2) n.toNat (by omega)).symm
    · skip
      have hbk := hb k (by omega) (by omega)
      have hz : (zbyte (tp k) = tp k ∧ tp k < 128) ∨ (zbyte (tp k) < 0 ∧ 128 ≤ tp k) := by unfold zbyte; omega
      refine zw_aload ⟨rfl, rfl⟩ rfl ?_
      refine zw_getR 236 ⟨rfl, rfl⟩ zr_208_34 ?_
      refine zw_iload ⟨rfl, rfl⟩ rfl ?_
      refine zw_baldv (v := zbyte (tp k)) ⟨rfl, rfl⟩ za_236 (by decide) (by omega) (((congrFun (i2.1 236 (by decide)) k).trans (hT k (by omega) (by omega)))) ?_
      refine zw_i2l ⟨rfl, rfl⟩ ?_
      refine zw_lconst ⟨rfl, rfl⟩ ?_
      refine zw_lconst ⟨rfl, rfl⟩ ?_
      refine zw_calLs3 ⟨rfl, rfl⟩ rfl rfl ?_
      refine zw_lload ⟨rfl, rfl⟩ rfl ?_
      refine zw_lload ⟨rfl, rfl⟩ rfl ?_
      refine zw_lcmp ⟨rfl, rfl⟩ ?_
      refine zw_iflt ⟨rfl, rfl⟩ rfl (fun c2 => ?_) (fun c2 => ?_)
      · replace c2 := zlc_lt.mp c2
        refine zw_const ⟨rfl, rfl⟩ ?_
        refine zw_zret rfl (by first | exact Or.inl rfl | exact Or.inr rfl | omega) ?_
        refine zw_ifne ⟨rfl, rfl⟩ rfl (fun q => absurd q (by decide)) (fun _ => ?_)
        refine zw_aload ⟨rfl, rfl⟩ rfl ?_
        refine zw_iload ⟨rfl, rfl⟩ rfl ?_
        refine zw_putI ⟨rfl, rfl⟩ zc_208 (by decide) (fun h => absurd h (by decide)) ?_
        refine zw_iinc_2 ⟨rfl, rfl⟩ (by omega) ?_
        refine zw_goto ⟨rfl, rfl⟩ rfl ?_
        refine ih _ _ ⟨by omega, by omega⟩ ⟨fun x hx => (zup_row hx).trans (i2.1 x hx), fun j hj => (zup_ni hj).trans (i2.2 j hj)⟩ (Or.inr ⟨by rw [zup_eq]; omega, by rw [zup_eq]; omega, fun j j1 j2 => by rw [zup_eq] at j2; omega⟩) (by omega)
      · replace c2 := (not_congr zlc_lt).mp c2
        refine zw_lload ⟨rfl, rfl⟩ rfl ?_
        refine zw_lload ⟨rfl, rfl⟩ rfl ?_
        refine zw_lcmp ⟨rfl, rfl⟩ ?_
        refine zw_ifgt ⟨rfl, rfl⟩ rfl (fun c4 => ?_) (fun c4 => ?_)
        · replace c4 := zlc_gt.mp c4
          refine zw_const ⟨rfl, rfl⟩ ?_
          refine zw_zret rfl (by first | exact Or.inl rfl | exact Or.inr rfl | omega) ?_
          refine zw_ifne ⟨rfl, rfl⟩ rfl (fun q => absurd q (by decide)) (fun _ => ?_)
          refine zw_aload ⟨rfl, rfl⟩ rfl ?_
          refine zw_iload ⟨rfl, rfl⟩ rfl ?_
          refine zw_putI ⟨rfl, rfl⟩ zc_208 (by decide) (fun h => absurd h (by decide)) ?_
          refine zw_iinc_2 ⟨rfl, rfl⟩ (by omega) ?_
          refine zw_goto ⟨rfl, rfl⟩ rfl ?_
          refine ih _ _ ⟨by omega, by omega⟩ ⟨fun x hx => (zup_row hx).trans (i2.1 x hx), fun j hj => (zup_ni hj).trans (i2.2 j hj)⟩ (Or.inr ⟨by rw [zup_eq]; omega, by rw [zup_eq]; omega, fun j j1 j2 => by rw [zup_eq] at j2; omega⟩) (by omega)
        · replace c4 := (not_congr zlc_gt).mp c4
          refine zw_const ⟨rfl, rfl⟩ ?_
          refine zw_goto ⟨rfl, rfl⟩ rfl ?_
          refine zw_zret rfl (by first | exact Or.inl rfl | exact Or.inr rfl | omega) ?_
          refine zw_ifne ⟨rfl, rfl⟩ rfl (fun _ => ?_) (fun q => absurd (by decide) q)
          refine zw_iinc_2 ⟨rfl, rfl⟩ (by omega) ?_
          refine zw_goto ⟨rfl, rfl⟩ rfl ?_
          refine ih _ _ ⟨by omega, by omega⟩ i2 ?_ (by omega)
          rcases i3 with ⟨a1, a2⟩ | ⟨a1, a2, a3⟩
          · refine Or.inl ⟨a1, fun j j1 j2 => ?_⟩
            by_cases q : j = k
            · subst q; omega
            · exact a2 j (by omega) j2
          · refine Or.inr ⟨by omega, a2, fun j j1 j2 => ?_⟩
            by_cases q : j = k
            · subst q; omega
            · exact a3 j (by omega) j2

theorem m_Mty_l {n : Int} {tp : Int → Int} {M : zM} {Q : zV → zM → Prop} (hn : 0 ≤ n ∧ n ≤ 60) (hT : ∀ j, 0 ≤ j → j < n → M 236 j = zbyte (tp j)) (hb : ∀ j, 0 ≤ j → j < n → 0 ≤ tp j ∧ tp j ≤ 255) (hl : ∀ j, 0 ≤ j → j < n → (97 ≤ tp j ∧ tp j ≤ 122)) (kk : ∀ N : zM, ((∀ x, x ≠ 209 → N x = M x) ∧ N 209 0 = n ∧ (∀ j, j ≠ 0 → ¬ (122 ≤ j ∧ j < 122 + n) → N 209 j = M 209 j) ∧ ∀ j, 0 ≤ j → j < n → N 209 (122 + j) = tp j - 97) → Q (0, n) N) : ∀ (f0 : Nat) (k : Int) (N : zM), (0 ≤ k ∧ k ≤ n) → (∀ x, x ≠ 209 → N x = M x) → (∀ j, ¬ (122 ≤ j ∧ j < 122 + k) → N 209 j = M 209 j) → (∀ j, 0 ≤ j → j < k → N 209 (122 + j) = tp j - 97) → (n - k).toNat < f0 → zWp kM_text 47 [(1, 208), (0, n), (0, k)] [] N Q := by
  intro f0
  induction f0 with
  | zero => intro k N i1 i2 i3 i4 hf0; exact absurd hf0 (Nat.not_lt_zero _)
  | succ f0 ih =>
    intro k N i1 i2 i3 i4 hf0
    refine zw_iload ⟨rfl, rfl⟩ rfl ?_
    refine zw_iload ⟨rfl, rfl⟩ rfl ?_
    refine zw_icge ⟨rfl, rfl⟩ rfl (fun c1 => ?_) (fun c1 => ?_)
    · skip
      refine zw_aload ⟨rfl, rfl⟩ rfl ?_
      refine zw_getR 209 ⟨rfl, rfl⟩ zr_208_1 ?_
      refine zw_const ⟨rfl, rfl⟩ ?_
      refine zw_iload ⟨rfl, rfl⟩ rfl ?_
      refine zw_iast ⟨rfl, rfl⟩ za_209 (by omega) ?_
      refine zw_iload ⟨rfl, rfl⟩ rfl ?_
      refine zw_ret rfl ?_
      have ek : k = n := by omega
      subst ek
      refine kk _ ⟨fun x hx => (zup_row hx).trans (i2 x hx), zup_eq _ _ _ _, fun j j0 j1 => (zup_ni j0).trans (i3 j j1), fun j j1 j2 => (zup_ni (by omega)).trans (i4 j j1 j2)⟩
    · skip
      have hbk := hb k (by omega) (by omega)
      have hlk := hl k (by omega) (by omega)
      have hz : zbyte (tp k) = tp k := by unfold zbyte; omega
      refine zw_aload ⟨rfl, rfl⟩ rfl ?_
      refine zw_getR 209 ⟨rfl, rfl⟩ zr_208_1 ?_
      refine zw_const ⟨rfl, rfl⟩ ?_
      refine zw_iload ⟨rfl, rfl⟩ rfl ?_
      refine zw_iadd ⟨rfl, rfl⟩ (by omega) ?_
      refine zw_aload ⟨rfl, rfl⟩ rfl ?_
      refine zw_getR 236 ⟨rfl, rfl⟩ zr_208_34 ?_
      refine zw_iload ⟨rfl, rfl⟩ rfl ?_
      refine zw_baldv (v := zbyte (tp k)) ⟨rfl, rfl⟩ za_236 (by decide) (by omega) (((congrFun (i2 236 (by decide)) k).trans (hT k (by omega) (by omega)))) ?_
      refine zw_const ⟨rfl, rfl⟩ ?_
      refine zw_isub ⟨rfl, rfl⟩ (by omega) ?_
      refine zw_iast ⟨rfl, rfl⟩ za_209 (by omega) ?_
      refine zw_iinc_2 ⟨rfl, rfl⟩ (by omega) ?_
      refine zw_goto ⟨rfl, rfl⟩ rfl ?_
      refine ih _ _ ⟨by omega, by omega⟩ (fun x hx => (zup_row hx).trans (i2 x hx)) (fun j hj => ?_) (fun j j1 j2 => ?_) (by omega)
      · rw [zup_ni (by omega)]; exact i3 j (by omega)
      · by_cases q : j = k
        · subst q; rw [zup_eq, hz]
        · rw [zup_ni (by omega)]; exact i4 j j1 (by omega)

theorem m_Mtz {n : Int} {M : zM} {Q : zV → zM → Prop} {σ : yS} {un : Int} {uh : Int → yS} {mk : Int → Int} {im : Int → yS} {tn : Int} {tp : Int → Int} {ff fp : Int} (hC : yMW M σ un uh mk im tn tp ff fp) (hn : (0 ≤ n ∧ n ≤ tn) ∧ n ≤ 60) {P : zM} (hx : ∀ x, x ≠ 208 → P x = M x) (hj : ∀ j, ¬ (35 ≤ j ∧ j ≤ 39) → j ≠ 0 → P 208 j = M 208 j) (h35 : P 208 35 = 0) (h38 : P 208 38 = 0) (h39 : P 208 39 = yfl tp n.toNat) (k : ∀ N : zM, yMw N (yo_text σ un uh mk im tn tp ff fp n).2 → (∀ x, x < 208 → N x = M x) → Q (0, (yo_text σ un uh mk im tn tp ff fp n).1) N) : zWp kM_text 34 [(1, 208), (0, n), (0, -1)] [] P Q := by
  obtain ⟨hW, hM, hH, hI, hT, hF, hWd⟩ := id hC
  have hV := hW.1
  have hu := hW.2.1.1
  have htn := hW.2.2.2.1
  refine zw_aload ⟨rfl, rfl⟩ rfl ?_
  refine zw_getIv (v := yfl tp n.toNat) ⟨rfl, rfl⟩ zc_208 (by decide) (h39) ?_
  refine zw_const ⟨rfl, rfl⟩ ?_
  refine zw_iceq ⟨rfl, rfl⟩ rfl (fun c1 => ?_) (fun c1 => ?_)
  · skip
    refine zw_aload ⟨rfl, rfl⟩ rfl ?_
    refine zw_cavv1 ⟨rfl, rfl⟩ rfl zc_208 rfl ?_
    have hM2 : yMo P σ := hM.cg (hx 209 (by decide))
    have hH2 : yMH P un uh := ⟨(hj 3 (by decide) (by decide)).trans hH.1, fun i i1 i2 j j1 j2 => by rw [hx 210 (by decide)]; exact hH.2 i i1 i2 j j1 j2⟩
    refine m_notes hV hu hM2 hH2 (fun N1 p1 => ?_)
    obtain ⟨hM1, hH1, hr1⟩ := p1
    refine zw_const ⟨rfl, rfl⟩ ?_
    refine zw_istore_2 ⟨rfl, rfl⟩ ?_
    have hfl := (yfl_r (tp := tp) n.toNat).resolve_right (by omega)
    refine m_Mty_l (M := N1) ⟨hn.1.1, hn.2⟩ (fun j j1 j2 => by rw [hr1.1 236 (by decide) (by decide), hx 236 (by decide)]; exact hT.2 j j1 (by omega)) (fun j j1 j2 => hW.2.2.2.2 j j1 (by omega)) (fun j j1 j2 => hfl.2 j j1 (by omega)) (fun N2 p2 => ?_) _ _ _ ⟨Int.le_refl _, hn.1.1⟩ (fun _ _ => rfl) (fun _ _ => rfl) (fun j j1 j2 => by omega) (Nat.lt_succ_self _)
    obtain ⟨r1, r2, r3, r4⟩ := p2
    obtain ⟨w1, w2⟩ := yMW_new hC (yTx_V hV ⟨hn.1.1, hn.2⟩ (fun j j1 j2 => hfl.2 j j1 (by omega))) (N := N2) (τ := yTx σ tp n) (fun j j1 j2 => by
      unfold yTx
      by_cases q : j = 0
      · rw [if_pos q, q]; exact r2
      · rw [if_neg q]
        by_cases c : 122 ≤ j ∧ j < 122 + n
        · rw [if_pos c]
          have h := r4 (j - 122) (by omega) (by omega)
          rw [show 122 + (j - 122) = j by omega] at h
          exact h
        · rw [if_neg c, r3 j q c]; exact hM1 j j1 j2) ⟨by rw [r1 208 (by decide)]; exact hH1.1, fun i i1 i2 j j1 j2 => by rw [r1 210 (by decide)]; exact hH1.2 i i1 i2 j j1 j2⟩ (yph_V hW.2.1 hV) (fun x hx2 => (r1 x (by omega)).trans ((hr1.1 x (by omega) (by omega)).trans (hx x (by omega)))) (fun j hj2 => by rw [r3 j (by omega) (by omega), hr1.1 209 (by decide) (by decide), hx 209 (by decide)]) (tn' := 0) (ff' := 0) (fp' := -1) ⟨by rw [r1 208 (by decide), hr1.2 35 (by decide)]; exact h35, by omega, by omega⟩ ⟨by rw [r1 208 (by decide), hr1.2 38 (by decide)]; exact h38, by rw [r1 208 (by decide), hr1.2 39 (by decide), h39]; exact hfl.1⟩
    have e : yo_text σ un uh mk im tn tp ff fp n = (n, yTx σ tp n, ypn un, yph un uh σ, mk, im, 0, tp, 0, -1) := by unfold yo_text; (repeat' split) <;> first | rfl | (exfalso; omega)
    rw [e] at k
    exact k _ w1 w2
  · skip
    refine zw_aload ⟨rfl, rfl⟩ rfl ?_
    refine zw_const ⟨rfl, rfl⟩ ?_
    refine zw_putI ⟨rfl, rfl⟩ zc_208 (by decide) (fun h => absurd h (by decide)) ?_
    refine zw_const ⟨rfl, rfl⟩ ?_
    refine zw_ret rfl ?_
    obtain ⟨w1, w2⟩ := yMW_new hC hV (N := zup P 208 38 1) (τ := σ) (un' := un) (uh' := uh) (hM.cg ((zup_row (by decide)).trans (hx 209 (by decide)))) ⟨(zup_ni (by decide)).trans ((hj 3 (by decide) (by decide)).trans hH.1), fun i i1 i2 j j1 j2 => by rw [zup_row (by decide), hx 210 (by decide)]; exact hH.2 i i1 i2 j j1 j2⟩ hW.2.1 (fun x hx2 => (zup_row (by omega)).trans (hx x (by omega))) (fun j hj2 => by rw [zup_row (by decide), hx 209 (by decide)]) (tn' := 0) (ff' := 1) (fp' := yfl tp n.toNat) ⟨(zup_ni (by decide)).trans h35, by omega, by omega⟩ ⟨zup_eq _ _ _ _, (zup_ni (by decide)).trans h39⟩
    have e : yo_text σ un uh mk im tn tp ff fp n = (-31, σ, un, uh, mk, im, 0, tp, 1, yfl tp n.toNat) := by unfold yo_text; (repeat' split) <;> first | rfl | (exfalso; omega)
    rw [e] at k
    exact k _ w1 w2

theorem d_text {n : Int} {M : zM} {Q : zV → zM → Prop} {σ : yS} {un : Int} {uh : Int → yS} {mk : Int → Int} {im : Int → yS} {tn : Int} {tp : Int → Int} {ff fp : Int} (hC : yMW M σ un uh mk im tn tp ff fp) (k : ∀ N : zM, yMw N (yo_text σ un uh mk im tn tp ff fp n).2 → (∀ x, x < 208 → N x = M x) → Q (0, (yo_text σ un uh mk im tn tp ff fp n).1) N) : zWp kM_text 0 [(1, 208), (0, n), (3, 0)] [] M Q := by
  obtain ⟨hW, hM, hH, hI, hT, hF, hWd⟩ := id hC
  have hV := hW.1
  have hu := hW.2.1.1
  have htn := hW.2.2.2.1
  refine zw_aload ⟨rfl, rfl⟩ rfl ?_
  refine zw_const ⟨rfl, rfl⟩ ?_
  refine zw_putI ⟨rfl, rfl⟩ zc_208 (by decide) (fun h => absurd h (by decide)) ?_
  refine zw_aload ⟨rfl, rfl⟩ rfl ?_
  refine zw_iload ⟨rfl, rfl⟩ rfl ?_
  refine zw_callv2 ⟨rfl, rfl⟩ rfl zc_208 rfl ?_
  refine zw_iload ⟨rfl, rfl⟩ rfl ?_
  refine zw_i2l ⟨rfl, rfl⟩ ?_
  refine zw_lconst ⟨rfl, rfl⟩ ?_
  refine zw_aload ⟨rfl, rfl⟩ rfl ?_
  refine zw_getIv (v := tn) ⟨rfl, rfl⟩ zc_208 (by decide) ((zup_ni (by decide)).trans (hT.1)) ?_
  refine zw_i2l ⟨rfl, rfl⟩ ?_
  refine zw_calLs3 ⟨rfl, rfl⟩ rfl rfl ?_
  refine zw_lload ⟨rfl, rfl⟩ rfl ?_
  refine zw_lload ⟨rfl, rfl⟩ rfl ?_
  refine zw_lcmp ⟨rfl, rfl⟩ ?_
  refine zw_iflt ⟨rfl, rfl⟩ rfl (fun c1 => ?_) (fun c1 => ?_)
  · replace c1 := zlc_lt.mp c1
    refine zw_const ⟨rfl, rfl⟩ ?_
    refine zw_zret rfl (by first | exact Or.inl rfl | exact Or.inr rfl | omega) ?_
    refine zw_ifne ⟨rfl, rfl⟩ rfl (fun q => absurd q (by decide)) (fun _ => ?_)
    refine zw_const ⟨rfl, rfl⟩ ?_
    refine zw_ret rfl ?_
    refine zw_ifeq ⟨rfl, rfl⟩ rfl (fun q => absurd q (by decide)) (fun _ => ?_)
    refine zw_const ⟨rfl, rfl⟩ ?_
    refine zw_ret rfl ?_
    have e : yo_text σ un uh mk im tn tp ff fp n = (-3, σ, un, uh, mk, im, tn, tp, ff, fp) := by unfold yo_text; (repeat' split) <;> first | rfl | (exfalso; omega)
    rw [e] at k
    exact k _ (hC.mf ymf_0) (fun x hx => zup_row (by omega))
  · replace c1 := (not_congr zlc_lt).mp c1
    refine zw_lload ⟨rfl, rfl⟩ rfl ?_
    refine zw_lload ⟨rfl, rfl⟩ rfl ?_
    refine zw_lcmp ⟨rfl, rfl⟩ ?_
    refine zw_ifgt ⟨rfl, rfl⟩ rfl (fun c4 => ?_) (fun c4 => ?_)
    · replace c4 := zlc_gt.mp c4
      refine zw_const ⟨rfl, rfl⟩ ?_
      refine zw_zret rfl (by first | exact Or.inl rfl | exact Or.inr rfl | omega) ?_
      refine zw_ifne ⟨rfl, rfl⟩ rfl (fun q => absurd q (by decide)) (fun _ => ?_)
      refine zw_const ⟨rfl, rfl⟩ ?_
      refine zw_ret rfl ?_
      refine zw_ifeq ⟨rfl, rfl⟩ rfl (fun q => absurd q (by decide)) (fun _ => ?_)
      refine zw_const ⟨rfl, rfl⟩ ?_
      refine zw_ret rfl ?_
      have e : yo_text σ un uh mk im tn tp ff fp n = (-3, σ, un, uh, mk, im, tn, tp, ff, fp) := by unfold yo_text; (repeat' split) <;> first | rfl | (exfalso; omega)
      rw [e] at k
      exact k _ (hC.mf ymf_0) (fun x hx => zup_row (by omega))
    · replace c4 := (not_congr zlc_gt).mp c4
      refine zw_const ⟨rfl, rfl⟩ ?_
      refine zw_goto ⟨rfl, rfl⟩ rfl ?_
      refine zw_zret rfl (by first | exact Or.inl rfl | exact Or.inr rfl | omega) ?_
      refine zw_ifne ⟨rfl, rfl⟩ rfl (fun _ => ?_) (fun q => absurd (by decide) q)
      refine zw_aload ⟨rfl, rfl⟩ rfl ?_
      refine zw_const ⟨rfl, rfl⟩ ?_
      refine zw_putI ⟨rfl, rfl⟩ zc_208 (by decide) (fun h => absurd h (by decide)) ?_
      refine zw_aload ⟨rfl, rfl⟩ rfl ?_
      refine zw_iload ⟨rfl, rfl⟩ rfl ?_
      refine zw_putI ⟨rfl, rfl⟩ zc_208 (by decide) (fun h => absurd h (by decide)) ?_
      refine zw_aload ⟨rfl, rfl⟩ rfl ?_
      refine zw_const ⟨rfl, rfl⟩ ?_
      refine zw_putI ⟨rfl, rfl⟩ zc_208 (by decide) (fun h => absurd h (by decide)) ?_
      refine zw_aload ⟨rfl, rfl⟩ rfl ?_
      refine zw_const ⟨rfl, rfl⟩ ?_
      refine zw_putI ⟨rfl, rfl⟩ zc_208 (by decide) (fun h => absurd h (by decide)) ?_
      refine zw_aload ⟨rfl, rfl⟩ rfl ?_
      refine zw_const ⟨rfl, rfl⟩ ?_
      refine zw_putI ⟨rfl, rfl⟩ zc_208 (by decide) (fun h => absurd h (by decide)) ?_
      refine zw_const ⟨rfl, rfl⟩ ?_
      refine zw_ret rfl ?_
      refine zw_ifeq ⟨rfl, rfl⟩ rfl (fun _ => ?_) (fun q => absurd (by decide) q)
      refine zw_iload ⟨rfl, rfl⟩ rfl ?_
      refine zw_const ⟨rfl, rfl⟩ ?_
      refine zw_icle ⟨rfl, rfl⟩ rfl (fun c9 => ?_) (fun c9 => ?_)
      · skip
        refine zw_iload ⟨rfl, rfl⟩ rfl ?_
        refine zw_const ⟨rfl, rfl⟩ ?_
        refine zw_isub ⟨rfl, rfl⟩ (by omega) ?_
        refine zw_istore_2 ⟨rfl, rfl⟩ ?_
        have hx : ∀ x, x ≠ 208 → ((zup (zup (zup (zup (zup (zup M 208 0 0) 208 35 0) 208 36 n) 208 37 0) 208 38 0) 208 39 (-1))) x = M x := fun x hx => by simp only [zup_row hx]
        have hj : ∀ j, ¬ (35 ≤ j ∧ j ≤ 39) → j ≠ 0 → ((zup (zup (zup (zup (zup (zup M 208 0 0) 208 35 0) 208 36 n) 208 37 0) 208 38 0) 208 39 (-1))) 208 j = M 208 j := fun j j1 j0 => by rw [zup_ni (by omega), zup_ni (by omega), zup_ni (by omega), zup_ni (by omega), zup_ni (by omega), zup_ni (by omega)]
        have h35 : ((zup (zup (zup (zup (zup (zup M 208 0 0) 208 35 0) 208 36 n) 208 37 0) 208 38 0) 208 39 (-1))) 208 35 = 0 := by simp [zup]
        have h38 : ((zup (zup (zup (zup (zup (zup M 208 0 0) 208 35 0) 208 36 n) 208 37 0) 208 38 0) 208 39 (-1))) 208 38 = 0 := by simp [zup]
        have h39 : ((zup (zup (zup (zup (zup (zup M 208 0 0) 208 35 0) 208 36 n) 208 37 0) 208 38 0) 208 39 (-1))) 208 39 = -1 := by simp [zup]
        generalize ((zup (zup (zup (zup (zup (zup M 208 0 0) 208 35 0) 208 36 n) 208 37 0) 208 38 0) 208 39 (-1))) = P0 at hx hj h35 h38 h39 ⊢
        refine m_Mtx_l (M := P0) ⟨by omega, by omega⟩ (fun j j1 j2 => by rw [hx 236 (by decide)]; exact hT.2 j j1 (by omega)) (fun j j1 j2 => hW.2.2.2.2 j j1 (by omega)) (fun P p => ?_) _ _ _ ⟨by omega, by omega⟩ ⟨fun _ _ => rfl, fun _ _ => rfl⟩ (Or.inl ⟨h39, fun j j1 j2 => by omega⟩) (Nat.lt_succ_self _)
        exact m_Mtz hC ⟨⟨by omega, by omega⟩, by omega⟩ (fun x hx2 => (p.1 x hx2).trans (hx x hx2)) (fun j j1 j0 => (p.2.1 j (by omega)).trans (hj j j1 j0)) ((p.2.1 35 (by decide)).trans h35) ((p.2.1 38 (by decide)).trans h38) p.2.2 k
      · skip
        refine zw_const ⟨rfl, rfl⟩ ?_
        refine zw_ret rfl ?_
        obtain ⟨w1, w2⟩ := yMW_new hC hV (N := (zup (zup (zup (zup (zup (zup M 208 0 0) 208 35 0) 208 36 n) 208 37 0) 208 38 0) 208 39 (-1))) (τ := σ) (un' := un) (uh' := uh) (hM.cg (by simp only [zup_row (show (209 : Int) ≠ 208 by decide)])) ⟨by rw [zup_ni (by decide), zup_ni (by decide), zup_ni (by decide), zup_ni (by decide), zup_ni (by decide), zup_ni (by decide)]; exact hH.1, fun i i1 i2 j j1 j2 => by simp only [zup_row (show (210 : Int) ≠ 208 by decide)]; exact hH.2 i i1 i2 j j1 j2⟩ hW.2.1 (fun x hx => by simp only [zup_row (show x ≠ 208 by omega)]) (fun j hj => by simp only [zup_row (show (209 : Int) ≠ 208 by decide)]) (tn' := 0) (ff' := 0) (fp' := -1) ⟨by simp [zup], by omega, by omega⟩ ⟨by simp [zup], by simp [zup]⟩
        have e : yo_text σ un uh mk im tn tp ff fp n = (-4, σ, un, uh, mk, im, 0, tp, 0, -1) := by unfold yo_text; (repeat' split) <;> first | rfl | (exfalso; omega)
        rw [e] at k
        exact k _ w1 w2

theorem yzb {v k r : Int} (hk : 0 ≤ k) (hr : r = k % 4) : zbyte (v / 2 ^ (Int.toNat (24 - 8 * (k % 4)))) = zbyte (yb4 v r) := by
  have h : k % 4 = 0 ∨ k % 4 = 1 ∨ k % 4 = 2 ∨ k % 4 = 3 := by omega
  unfold yb4 zbyte
  rcases h with h | h | h | h <;> rw [hr, h]
  · rw [show (2 : Int) ^ (Int.toNat (24 - 8 * 0)) = 16777216 from by decide, if_pos rfl]; omega
  · rw [show (2 : Int) ^ (Int.toNat (24 - 8 * 1)) = 65536 from by decide, if_neg (by decide), if_pos rfl]; omega
  · rw [show (2 : Int) ^ (Int.toNat (24 - 8 * 2)) = 256 from by decide, if_neg (by decide), if_neg (by decide), if_pos rfl]; omega
  · rw [show (2 : Int) ^ (Int.toNat (24 - 8 * 3)) = 1 from by decide, if_neg (by decide), if_neg (by decide), if_neg (by decide)]; omega

theorem m_Mfeed_l {a b c d e tn : Int} {M : zM} {Q : zV → zM → Prop} (ht : 0 ≤ tn ∧ tn ≤ 380) (kk : ∀ N : zM, ((∀ x, x ≠ 208 → x ≠ 236 → N x = M x) ∧ (∀ j, j ≠ 35 → N 208 j = M 208 j) ∧ N 208 35 = tn + 20 ∧ ∀ j, N 236 j = if tn ≤ j ∧ j < tn + 20 then zbyte (yfd a b c d e (j - tn)) else M 236 j) → Q (0, tn + 20) N) : ∀ (f0 : Nat) (k : Int) (u7 : zV) (N : zM), (0 ≤ k ∧ k ≤ 20) → (∀ x, x ≠ 208 → x ≠ 236 → N x = M x) → (∀ j, j ≠ 35 → N 208 j = M 208 j) → (N 208 35 = tn + k) → (∀ j, N 236 j = if tn ≤ j ∧ j < tn + k then zbyte (yfd a b c d e (j - tn)) else M 236 j) → (20 - k).toNat < f0 → zWp kM_feed 13 [(1, 208), (0, a), (0, b), (0, c), (0, d), (0, e), (0, k), u7] [] N Q := by
  intro f0
  induction f0 with
  | zero => intro k u7 N i1 i2 i3 i4 i5 hf0; exact absurd hf0 (Nat.not_lt_zero _)
  | succ f0 ih =>
    intro k u7 N i1 i2 i3 i4 i5 hf0
    refine zw_iload ⟨rfl, rfl⟩ rfl ?_
    refine zw_const ⟨rfl, rfl⟩ ?_
    refine zw_icge ⟨rfl, rfl⟩ rfl (fun c1 => ?_) (fun c1 => ?_)
    · skip
      refine zw_aload ⟨rfl, rfl⟩ rfl ?_
      refine zw_getIv (v := tn + k) ⟨rfl, rfl⟩ zc_208 (by decide) (i4) ?_
      refine zw_ret rfl ?_
      have ek : k = 20 := by omega
      subst ek
      exact kk _ ⟨i2, i3, i4, i5⟩
    · skip
      refine zw_iload ⟨rfl, rfl⟩ rfl ?_
      refine zw_const ⟨rfl, rfl⟩ ?_
      refine zw_icge ⟨rfl, rfl⟩ rfl (fun c2 => ?_) (fun c2 => ?_)
      · skip
        refine zw_iload ⟨rfl, rfl⟩ rfl ?_
        refine zw_const ⟨rfl, rfl⟩ ?_
        refine zw_icge ⟨rfl, rfl⟩ rfl (fun c3 => ?_) (fun c3 => ?_)
        · skip
          refine zw_iload ⟨rfl, rfl⟩ rfl ?_
          refine zw_const ⟨rfl, rfl⟩ ?_
          refine zw_icge ⟨rfl, rfl⟩ rfl (fun c4 => ?_) (fun c4 => ?_)
          · skip
            refine zw_iload ⟨rfl, rfl⟩ rfl ?_
            refine zw_const ⟨rfl, rfl⟩ ?_
            refine zw_icge ⟨rfl, rfl⟩ rfl (fun c5 => ?_) (fun c5 => ?_)
            · skip
              refine zw_iload ⟨rfl, rfl⟩ rfl ?_
              refine zw_istore_7 ⟨rfl, rfl⟩ ?_
              refine zw_aload ⟨rfl, rfl⟩ rfl ?_
              refine zw_getR 236 ⟨rfl, rfl⟩ zr_208_34 ?_
              refine zw_aload ⟨rfl, rfl⟩ rfl ?_
              refine zw_getIv (v := tn + k) ⟨rfl, rfl⟩ zc_208 (by decide) (i4) ?_
              refine zw_iload ⟨rfl, rfl⟩ rfl ?_
              refine zw_const ⟨rfl, rfl⟩ ?_
              refine zw_const ⟨rfl, rfl⟩ ?_
              refine zw_iload ⟨rfl, rfl⟩ rfl ?_
              refine zw_const ⟨rfl, rfl⟩ ?_
              refine zw_irem ⟨rfl, rfl⟩ (by omega) ?_
              refine zw_imul ⟨rfl, rfl⟩ (by omega) ?_
              refine zw_isub ⟨rfl, rfl⟩ (by omega) ?_
              refine zw_ishr ⟨rfl, rfl⟩ (by omega) ?_
              refine zw_i2b ⟨rfl, rfl⟩ ?_
              refine zw_bast2 ⟨rfl, rfl⟩ za_236 (by omega) (by unfold zbyte; omega) ?_
              refine zw_aload ⟨rfl, rfl⟩ rfl ?_
              refine zw_dup ⟨rfl, rfl⟩ (by decide) ?_
              refine zw_getIv (v := tn + k) ⟨rfl, rfl⟩ zc_208 (by decide) ((zup_na (by decide)).trans (i4)) ?_
              refine zw_const ⟨rfl, rfl⟩ ?_
              refine zw_iadd ⟨rfl, rfl⟩ (by omega) ?_
              refine zw_putI ⟨rfl, rfl⟩ zc_208 (by decide) (fun h => absurd h (by decide)) ?_
              refine zw_iinc_6 ⟨rfl, rfl⟩ (by omega) ?_
              refine zw_goto ⟨rfl, rfl⟩ rfl ?_
              have ev : zbyte (e / 2 ^ (Int.toNat (24 - 8 * (k % 4)))) = zbyte (yfd a b c d e k) := by
                unfold yfd; rw [if_neg (by omega)]; rw [if_neg (by omega)]; rw [if_neg (by omega)]; rw [if_neg (by omega)]; exact yzb i1.1 (by omega)
              rw [ev]
              refine ih _ _ _ ⟨by omega, by omega⟩ (fun x x1 x2 => (zup_row x1).trans ((zup_row x2).trans (i2 x x1 x2))) (fun j hj => (zup_ni hj).trans ((zup_na (by decide)).trans (i3 j hj))) ?_ (fun j => ?_) (by omega)
              · rw [zup_eq]; omega
              · rw [zup_na (by decide)]
                by_cases q : j = tn + k
                · rw [q, zup_eq, if_pos (by omega), show tn + k - tn = k by omega]
                · rw [zup_ni q, i5 j]
                  by_cases c : tn ≤ j ∧ j < tn + k
                  · rw [if_pos c, if_pos (by omega)]
                  · rw [if_neg c, if_neg (by omega)]
            · skip
              refine zw_iload ⟨rfl, rfl⟩ rfl ?_
              refine zw_goto ⟨rfl, rfl⟩ rfl ?_
              refine zw_istore_7 ⟨rfl, rfl⟩ ?_
              refine zw_aload ⟨rfl, rfl⟩ rfl ?_
              refine zw_getR 236 ⟨rfl, rfl⟩ zr_208_34 ?_
              refine zw_aload ⟨rfl, rfl⟩ rfl ?_
              refine zw_getIv (v := tn + k) ⟨rfl, rfl⟩ zc_208 (by decide) (i4) ?_
              refine zw_iload ⟨rfl, rfl⟩ rfl ?_
              refine zw_const ⟨rfl, rfl⟩ ?_
              refine zw_const ⟨rfl, rfl⟩ ?_
              refine zw_iload ⟨rfl, rfl⟩ rfl ?_
              refine zw_const ⟨rfl, rfl⟩ ?_
              refine zw_irem ⟨rfl, rfl⟩ (by omega) ?_
              refine zw_imul ⟨rfl, rfl⟩ (by omega) ?_
              refine zw_isub ⟨rfl, rfl⟩ (by omega) ?_
              refine zw_ishr ⟨rfl, rfl⟩ (by omega) ?_
              refine zw_i2b ⟨rfl, rfl⟩ ?_
              refine zw_bast2 ⟨rfl, rfl⟩ za_236 (by omega) (by unfold zbyte; omega) ?_
              refine zw_aload ⟨rfl, rfl⟩ rfl ?_
              refine zw_dup ⟨rfl, rfl⟩ (by decide) ?_
              refine zw_getIv (v := tn + k) ⟨rfl, rfl⟩ zc_208 (by decide) ((zup_na (by decide)).trans (i4)) ?_
              refine zw_const ⟨rfl, rfl⟩ ?_
              refine zw_iadd ⟨rfl, rfl⟩ (by omega) ?_
              refine zw_putI ⟨rfl, rfl⟩ zc_208 (by decide) (fun h => absurd h (by decide)) ?_
              refine zw_iinc_6 ⟨rfl, rfl⟩ (by omega) ?_
              refine zw_goto ⟨rfl, rfl⟩ rfl ?_
              have ev : zbyte (d / 2 ^ (Int.toNat (24 - 8 * (k % 4)))) = zbyte (yfd a b c d e k) := by
                unfold yfd; rw [if_neg (by omega)]; rw [if_neg (by omega)]; rw [if_neg (by omega)]; rw [if_pos (by omega)]; exact yzb i1.1 (by omega)
              rw [ev]
              refine ih _ _ _ ⟨by omega, by omega⟩ (fun x x1 x2 => (zup_row x1).trans ((zup_row x2).trans (i2 x x1 x2))) (fun j hj => (zup_ni hj).trans ((zup_na (by decide)).trans (i3 j hj))) ?_ (fun j => ?_) (by omega)
              · rw [zup_eq]; omega
              · rw [zup_na (by decide)]
                by_cases q : j = tn + k
                · rw [q, zup_eq, if_pos (by omega), show tn + k - tn = k by omega]
                · rw [zup_ni q, i5 j]
                  by_cases c : tn ≤ j ∧ j < tn + k
                  · rw [if_pos c, if_pos (by omega)]
                  · rw [if_neg c, if_neg (by omega)]
          · skip
            refine zw_iload ⟨rfl, rfl⟩ rfl ?_
            refine zw_goto ⟨rfl, rfl⟩ rfl ?_
            refine zw_istore_7 ⟨rfl, rfl⟩ ?_
            refine zw_aload ⟨rfl, rfl⟩ rfl ?_
            refine zw_getR 236 ⟨rfl, rfl⟩ zr_208_34 ?_
            refine zw_aload ⟨rfl, rfl⟩ rfl ?_
            refine zw_getIv (v := tn + k) ⟨rfl, rfl⟩ zc_208 (by decide) (i4) ?_
            refine zw_iload ⟨rfl, rfl⟩ rfl ?_
            refine zw_const ⟨rfl, rfl⟩ ?_
            refine zw_const ⟨rfl, rfl⟩ ?_
            refine zw_iload ⟨rfl, rfl⟩ rfl ?_
            refine zw_const ⟨rfl, rfl⟩ ?_
            refine zw_irem ⟨rfl, rfl⟩ (by omega) ?_
            refine zw_imul ⟨rfl, rfl⟩ (by omega) ?_
            refine zw_isub ⟨rfl, rfl⟩ (by omega) ?_
            refine zw_ishr ⟨rfl, rfl⟩ (by omega) ?_
            refine zw_i2b ⟨rfl, rfl⟩ ?_
            refine zw_bast2 ⟨rfl, rfl⟩ za_236 (by omega) (by unfold zbyte; omega) ?_
            refine zw_aload ⟨rfl, rfl⟩ rfl ?_
            refine zw_dup ⟨rfl, rfl⟩ (by decide) ?_
            refine zw_getIv (v := tn + k) ⟨rfl, rfl⟩ zc_208 (by decide) ((zup_na (by decide)).trans (i4)) ?_
            refine zw_const ⟨rfl, rfl⟩ ?_
            refine zw_iadd ⟨rfl, rfl⟩ (by omega) ?_
            refine zw_putI ⟨rfl, rfl⟩ zc_208 (by decide) (fun h => absurd h (by decide)) ?_
            refine zw_iinc_6 ⟨rfl, rfl⟩ (by omega) ?_
            refine zw_goto ⟨rfl, rfl⟩ rfl ?_
            have ev : zbyte (c / 2 ^ (Int.toNat (24 - 8 * (k % 4)))) = zbyte (yfd a b c d e k) := by
              unfold yfd; rw [if_neg (by omega)]; rw [if_neg (by omega)]; rw [if_pos (by omega)]; exact yzb i1.1 (by omega)
            rw [ev]
            refine ih _ _ _ ⟨by omega, by omega⟩ (fun x x1 x2 => (zup_row x1).trans ((zup_row x2).trans (i2 x x1 x2))) (fun j hj => (zup_ni hj).trans ((zup_na (by decide)).trans (i3 j hj))) ?_ (fun j => ?_) (by omega)
            · rw [zup_eq]; omega
            · rw [zup_na (by decide)]
              by_cases q : j = tn + k
              · rw [q, zup_eq, if_pos (by omega), show tn + k - tn = k by omega]
              · rw [zup_ni q, i5 j]
                by_cases c : tn ≤ j ∧ j < tn + k
                · rw [if_pos c, if_pos (by omega)]
                · rw [if_neg c, if_neg (by omega)]
        · skip
          refine zw_iload ⟨rfl, rfl⟩ rfl ?_
          refine zw_goto ⟨rfl, rfl⟩ rfl ?_
          refine zw_istore_7 ⟨rfl, rfl⟩ ?_
          refine zw_aload ⟨rfl, rfl⟩ rfl ?_
          refine zw_getR 236 ⟨rfl, rfl⟩ zr_208_34 ?_
          refine zw_aload ⟨rfl, rfl⟩ rfl ?_
          refine zw_getIv (v := tn + k) ⟨rfl, rfl⟩ zc_208 (by decide) (i4) ?_
          refine zw_iload ⟨rfl, rfl⟩ rfl ?_
          refine zw_const ⟨rfl, rfl⟩ ?_
          refine zw_const ⟨rfl, rfl⟩ ?_
          refine zw_iload ⟨rfl, rfl⟩ rfl ?_
          refine zw_const ⟨rfl, rfl⟩ ?_
          refine zw_irem ⟨rfl, rfl⟩ (by omega) ?_
          refine zw_imul ⟨rfl, rfl⟩ (by omega) ?_
          refine zw_isub ⟨rfl, rfl⟩ (by omega) ?_
          refine zw_ishr ⟨rfl, rfl⟩ (by omega) ?_
          refine zw_i2b ⟨rfl, rfl⟩ ?_
          refine zw_bast2 ⟨rfl, rfl⟩ za_236 (by omega) (by unfold zbyte; omega) ?_
          refine zw_aload ⟨rfl, rfl⟩ rfl ?_
          refine zw_dup ⟨rfl, rfl⟩ (by decide) ?_
          refine zw_getIv (v := tn + k) ⟨rfl, rfl⟩ zc_208 (by decide) ((zup_na (by decide)).trans (i4)) ?_
          refine zw_const ⟨rfl, rfl⟩ ?_
          refine zw_iadd ⟨rfl, rfl⟩ (by omega) ?_
          refine zw_putI ⟨rfl, rfl⟩ zc_208 (by decide) (fun h => absurd h (by decide)) ?_
          refine zw_iinc_6 ⟨rfl, rfl⟩ (by omega) ?_
          refine zw_goto ⟨rfl, rfl⟩ rfl ?_
          have ev : zbyte (b / 2 ^ (Int.toNat (24 - 8 * (k % 4)))) = zbyte (yfd a b c d e k) := by
            unfold yfd; rw [if_neg (by omega)]; rw [if_pos (by omega)]; exact yzb i1.1 (by omega)
          rw [ev]
          refine ih _ _ _ ⟨by omega, by omega⟩ (fun x x1 x2 => (zup_row x1).trans ((zup_row x2).trans (i2 x x1 x2))) (fun j hj => (zup_ni hj).trans ((zup_na (by decide)).trans (i3 j hj))) ?_ (fun j => ?_) (by omega)
          · rw [zup_eq]; omega
          · rw [zup_na (by decide)]
            by_cases q : j = tn + k
            · rw [q, zup_eq, if_pos (by omega), show tn + k - tn = k by omega]
            · rw [zup_ni q, i5 j]
              by_cases c : tn ≤ j ∧ j < tn + k
              · rw [if_pos c, if_pos (by omega)]
              · rw [if_neg c, if_neg (by omega)]
      · skip
        refine zw_iload ⟨rfl, rfl⟩ rfl ?_
        refine zw_goto ⟨rfl, rfl⟩ rfl ?_
        refine zw_istore_7 ⟨rfl, rfl⟩ ?_
        refine zw_aload ⟨rfl, rfl⟩ rfl ?_
        refine zw_getR 236 ⟨rfl, rfl⟩ zr_208_34 ?_
        refine zw_aload ⟨rfl, rfl⟩ rfl ?_
        refine zw_getIv (v := tn + k) ⟨rfl, rfl⟩ zc_208 (by decide) (i4) ?_
        refine zw_iload ⟨rfl, rfl⟩ rfl ?_
        refine zw_const ⟨rfl, rfl⟩ ?_
        refine zw_const ⟨rfl, rfl⟩ ?_
        refine zw_iload ⟨rfl, rfl⟩ rfl ?_
        refine zw_const ⟨rfl, rfl⟩ ?_
        refine zw_irem ⟨rfl, rfl⟩ (by omega) ?_
        refine zw_imul ⟨rfl, rfl⟩ (by omega) ?_
        refine zw_isub ⟨rfl, rfl⟩ (by omega) ?_
        refine zw_ishr ⟨rfl, rfl⟩ (by omega) ?_
        refine zw_i2b ⟨rfl, rfl⟩ ?_
        refine zw_bast2 ⟨rfl, rfl⟩ za_236 (by omega) (by unfold zbyte; omega) ?_
        refine zw_aload ⟨rfl, rfl⟩ rfl ?_
        refine zw_dup ⟨rfl, rfl⟩ (by decide) ?_
        refine zw_getIv (v := tn + k) ⟨rfl, rfl⟩ zc_208 (by decide) ((zup_na (by decide)).trans (i4)) ?_
        refine zw_const ⟨rfl, rfl⟩ ?_
        refine zw_iadd ⟨rfl, rfl⟩ (by omega) ?_
        refine zw_putI ⟨rfl, rfl⟩ zc_208 (by decide) (fun h => absurd h (by decide)) ?_
        refine zw_iinc_6 ⟨rfl, rfl⟩ (by omega) ?_
        refine zw_goto ⟨rfl, rfl⟩ rfl ?_
        have ev : zbyte (a / 2 ^ (Int.toNat (24 - 8 * (k % 4)))) = zbyte (yfd a b c d e k) := by
          unfold yfd; rw [if_pos (by omega)]; exact yzb i1.1 (by omega)
        rw [ev]
        refine ih _ _ _ ⟨by omega, by omega⟩ (fun x x1 x2 => (zup_row x1).trans ((zup_row x2).trans (i2 x x1 x2))) (fun j hj => (zup_ni hj).trans ((zup_na (by decide)).trans (i3 j hj))) ?_ (fun j => ?_) (by omega)
        · rw [zup_eq]; omega
        · rw [zup_na (by decide)]
          by_cases q : j = tn + k
          · rw [q, zup_eq, if_pos (by omega), show tn + k - tn = k by omega]
          · rw [zup_ni q, i5 j]
            by_cases c : tn ≤ j ∧ j < tn + k
            · rw [if_pos c, if_pos (by omega)]
            · rw [if_neg c, if_neg (by omega)]

theorem d_feed {a b c d e : Int} {M : zM} {Q : zV → zM → Prop} {σ : yS} {un : Int} {uh : Int → yS} {mk : Int → Int} {im : Int → yS} {tn : Int} {tp : Int → Int} {ff fp : Int} (hC : yMW M σ un uh mk im tn tp ff fp) (k : ∀ N : zM, yMw N (yo_feed σ un uh mk im tn tp ff fp a b c d e).2 → (∀ x, x < 208 → N x = M x) → Q (0, (yo_feed σ un uh mk im tn tp ff fp a b c d e).1) N) : zWp kM_feed 0 [(1, 208), (0, a), (0, b), (0, c), (0, d), (0, e), (3, 0), (3, 0)] [] M Q := by
  obtain ⟨hW, hM, hH, hI, hT, hF, hWd⟩ := id hC
  obtain ⟨-, hM0, hH0, hI0, hT0, -⟩ := hC.mf (ymf_0 (v := 0))
  have hV := hW.1
  have hn := hV.1
  have hu := hW.2.1.1
  have htn := hW.2.2.2.1
  refine zw_aload ⟨rfl, rfl⟩ rfl ?_
  refine zw_const ⟨rfl, rfl⟩ ?_
  refine zw_putI ⟨rfl, rfl⟩ zc_208 (by decide) (fun h => absurd h (by decide)) ?_
  refine zw_aload ⟨rfl, rfl⟩ rfl ?_
  refine zw_getIv (v := tn) ⟨rfl, rfl⟩ zc_208 (by decide) ((zup_ni (by decide)).trans (hT.1)) ?_
  refine zw_const ⟨rfl, rfl⟩ ?_
  refine zw_iadd ⟨rfl, rfl⟩ (by omega) ?_
  refine zw_const ⟨rfl, rfl⟩ ?_
  refine zw_icle ⟨rfl, rfl⟩ rfl (fun c1 => ?_) (fun c1 => ?_)
  · skip
    refine zw_const ⟨rfl, rfl⟩ ?_
    refine zw_istore_6 ⟨rfl, rfl⟩ ?_
    refine m_Mfeed_l (M := zup M 208 0 0) ⟨htn.1, by omega⟩ (fun N p => ?_) _ _ _ _ ⟨Int.le_refl _, by decide⟩ (fun _ _ _ => rfl) (fun _ _ => rfl) ((zup_ni (by decide)).trans (hT.1.trans (Int.add_zero _).symm)) (fun j => (if_neg (fun q => by omega)).symm) (Nat.lt_succ_self _)
    obtain ⟨p1, p2, p3, p4⟩ := p
    have er : ∀ x, x ≠ 208 → x ≠ 236 → N x = M x := fun x x1 x2 => (p1 x x1 x2).trans (zup_row x1)
    have e1 : yo_feed σ un uh mk im tn tp ff fp a b c d e = (tn + 20, σ, un, uh, mk, im, tn + 20, ytq tn tp a b c d e, ff, fp) := by unfold yo_feed; (repeat' split) <;> first | rfl | (exfalso; omega)
    rw [e1] at k
    refine k _ ⟨⟨hW.1, hW.2.1, hW.2.2.1, ⟨show 0 ≤ tn + 20 by omega, show tn + 20 ≤ 400 by omega⟩, fun j j1 j2 => ?_⟩, hM.cg (er 209 (by decide) (by decide)), ⟨(p2 3 (by decide)).trans ((zup_ni (by decide)).trans hH.1), fun i i1 i2 j j1 j2 => by rw [er 210 (by decide) (by decide)]; exact hH.2 i i1 i2 j j1 j2⟩, fun i hi => by rw [er 211 (by decide) (by decide), er 209 (by decide) (by decide)]; exact hI i hi, ⟨p3, fun j j1 j2 => ?_⟩, ⟨(p2 38 (by decide)).trans ((zup_ni (by decide)).trans hF.1), (p2 39 (by decide)).trans ((zup_ni (by decide)).trans hF.2)⟩, fun j j1 j2 => by rw [er 238 (by decide) (by decide)]; exact hWd j j1 j2⟩ (fun x hx => er x (by omega) (by omega))
    · show 0 ≤ ytq tn tp a b c d e j ∧ ytq tn tp a b c d e j ≤ 255
      have j2 : j < tn + 20 := j2
      unfold ytq
      split
      · exact yfd_r _ _ _ _ _ _
      · exact hW.2.2.2.2 j j1 (by omega)
    · have j2 : j < tn + 20 := j2
      show N 236 j = zbyte (ytq tn tp a b c d e j)
      rw [p4 j]
      unfold ytq
      by_cases c : tn ≤ j
      · rw [if_pos ⟨c, j2⟩, if_pos c]
      · rw [if_neg (fun q => c q.1), if_neg c, zup_row (by decide)]
        exact hT.2 j j1 (by omega)
  · skip
    refine zw_const ⟨rfl, rfl⟩ ?_
    refine zw_ret rfl ?_
    have e : yo_feed σ un uh mk im tn tp ff fp a b c d e = ((-3), σ, un, uh, mk, im, tn, tp, ff, fp) := by unfold yo_feed; (repeat' split) <;> first | rfl | (exfalso; omega)
    rw [e] at k
    exact k _ (hC.mf ymf_0) (fun x hx => zup_row (by omega))

end