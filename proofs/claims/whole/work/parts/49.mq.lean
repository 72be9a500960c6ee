/-! The model: what it answers once all is laid -/
def ymf (M N : zM) : Prop := (∀ x, x = 209 ∨ x = 210 ∨ x = 211 ∨ x = 236 ∨ x = 238 ∨ x < 208 → N x = M x) ∧ ∀ j, j = 3 ∨ j = 35 ∨ j = 38 ∨ j = 39 → N 208 j = M 208 j
theorem ymf.tr {M N P : zM} (h : ymf M N) (g : ymf N P) : ymf M P := ⟨fun x hx => (g.1 x hx).trans (h.1 x hx), fun j hj => (g.2 j hj).trans (h.2 j hj)⟩
theorem ymf_0 {M : zM} {v : Int} : ymf M (zup M 208 0 v) := ⟨fun x hx => zup_row (by omega), fun j hj => zup_ni (by omega)⟩
theorem yaf.m {M N : zM} (h : yaf M N) : ymf M N := ⟨fun x hx => h.1 x (by omega) (by omega), fun j hj => h.2 j (by omega) (by omega) (by omega) (by omega)⟩
theorem yTk_pre (σ : yS) {i j : Int} (h0 : 0 ≤ i) (h : i ≤ j) : yPre (yTk σ i) (yTk σ j) := by
  refine yind (P := fun j => yPre (yTk σ i) (yTk σ j)) yPre.rf (fun q h3 ih => ?_) j h
  show yPre _ (yTk σ (q + 1))
  rw [show yTk σ (q + 1) = ydrw σ q (yB (yK σ) q) (yTk σ q) from yTc_s σ _ (by omega)]
  exact ih.tr (yPre_drw ..)
theorem yX_d {σ : yS} (hV : yVal σ) {i : Int} (h0 : 0 ≤ i) (h1 : i < yci (yK σ) (σ 0)) : ysm (yW (yLast σ)) (yTk σ i).1 (yTk σ (i + 1)).1 = yX σ (i + 1) - yX σ i := by
  have hp := yTk_pre σ (i := i + 1) (j := yci (yK σ) (σ 0)) (by omega) (by omega)
  have h := yX_s hV h0
  rw [h, ysm_cg (f := yW (yLast σ)) (g := yW (yTk σ (i + 1))) (fun k k1 k2 => by unfold yW; rw [hp.2 0 k k2, hp.2 5 k k2])]
  omega
theorem yg_r {σ : yS} (hV : yVal σ) {i : Int} (h0 : 0 ≤ i) (h1 : i ≤ yci (yK σ) (σ 0)) : 0 ≤ (yTk σ i).1 ∧ (yTk σ i).1 ≤ (yLast σ).1 := ⟨(yTc_n hV (fun _ => -1) h0 h1).1, (yTk_pre σ h0 h1).1⟩
theorem yci_w {K : Int → Int} {n c p : Int} (hK : yKr K n) (h0 : 0 ≤ c) (h1 : c < yci K n) (ha : yB K c ≤ p) (hb : p < yB K (c + 1)) : yci K (p + 1) - 1 = c := by
  obtain ⟨⟨a1, a2, a3⟩, a4, a5, a6⟩ := yB_cl hK h0 h1
  rw [yci_in K a1 a4 (q := p + 1) (fun s s1 s2 => a6 s s1 (by omega)) (by omega), yci_Bi hK h0 (by omega)]
  omega
/-- how many clusters are broken, told along the text -/
theorem ybs_c {K : Int → Int} {n : Int} (hK : yKr K n) : ∀ p : Nat, (p : Int) ≤ n → (ybs K (-1) 0 p).1 = ysi K p ∧ (ybs K (-1) 0 p).2 = ysum (fun c => if yso (K (yB K c)) = 2 then 1 else 0) (yci K p).toNat := by
  intro p
  induction p with
  | zero => intro _; exact ⟨rfl, rfl⟩
  | succ p ih =>
    intro hp
    obtain ⟨a, b⟩ := ih (by omega)
    unfold ybs
    rw [if_neg (by omega)]
    rw [show ((p + 1 : Nat) : Int) = (p : Int) + 1 by omega]
    refine ⟨?_, ?_⟩
    · rw [ysi_s K (by omega), ← a]
    · show (ybs K (-1) 0 p).2 + ybr (ybs K (-1) 0 p).1 (K p) = _
      rw [a, b]
      by_cases hb : ybg K p
      · rw [yci_b K (by omega) hb, ysum_s _ (yci_nn K p), yB_eq hK (by omega) (by omega) hb]
        have : ygo (ysi K p) (K p) = -1 := hb
        unfold ybr
        by_cases h2 : yso (K p) = 2
        · rw [if_pos ⟨h2, this⟩, if_pos h2]
        · rw [if_neg (fun z => h2 z.1), if_neg h2]
      · rw [yci_n K (by omega) hb]
        unfold ybr
        rw [if_neg (fun z => hb z.2)]
        omega
theorem ybw_c {K : Int → Int} {n : Int} (hK : yKr K n) : ybw K n (-1) 0 = ysum (fun c => if yso (K (yB K c)) = 2 then 1 else 0) (yci K n).toNat := by
  have hn := hK.1
  have := (ybs_c hK n.toNat (by omega)).2
  rw [show ((n.toNat : Nat) : Int) = n by omega] at this
  unfold ybw
  rw [if_neg (by omega)]
  exact this

theorem m_clusterWidth_l  {i : Int} {M : zM} {Q : zV → zM → Prop} {σ : yS} (hV : yVal σ) (hG : yLay M σ) (hi : 0 ≤ i ∧ i < (yci (yK σ) (σ 0))) (k : Q (0, yX σ (i + 1) - yX σ i) M) : ∀ (f : Nat) (m p : Int), ((yTk σ i).1 ≤ p ∧ p ≤ (yTk σ (i + 1)).1) → (m = ysm (yW (yLast σ)) (yTk σ i).1 p) → ((yTk σ (i + 1)).1 - p).toNat < f → zWp kM_clusterWidth 7 [(1, 208), (0, i), (0, m), (0, p)] [] M Q := by
  intro f
  induction f with
  | zero => intro m p i1 i2 hf; exact absurd hf (Nat.not_lt_zero _)
  | succ f ih =>
    intro m p i1 i2 hf
    have hK := yKr_K hV
    have hn := hV.1
    have hci := yci_60 hK
    have eyL : (yTk σ (yci (yK σ) (σ 0))).1 = (yLast σ).1 := rfl
    have hgl := yLast_r hV
    have hg1 := yg_r hV hi.1 (by omega)
    have hg2 := yg_r hV (show 0 ≤ i + 1 by omega) (show i + 1 ≤ (yci (yK σ) (σ 0)) by omega)
    have hs := ysm_b (f := yW (yLast σ)) (m := 5) (fun k => ywd_r _ _) i1.1
    have hw : 0 ≤ yW (yLast σ) p ∧ yW (yLast σ) p ≤ 5 := ywd_r _ _
    refine zw_iload ⟨rfl, rfl⟩ rfl ?_
    refine zw_aload ⟨rfl, rfl⟩ rfl ?_
    refine zw_getR 221 ⟨rfl, rfl⟩ zr_208_14 ?_
    refine zw_iload ⟨rfl, rfl⟩ rfl ?_
    refine zw_const ⟨rfl, rfl⟩ ?_
    refine zw_iadd ⟨rfl, rfl⟩ (by omega) ?_
    refine zw_ialdv (v := (yTk σ ((i + 1))).1) ⟨rfl, rfl⟩ za_221 (by omega) ((hG.2.2.1 ((i + 1)) (by omega) (by omega)).2) ?_
    refine zw_icge ⟨rfl, rfl⟩ rfl (fun c1 => ?_) (fun c1 => ?_)
    · skip
      refine zw_iload ⟨rfl, rfl⟩ rfl ?_
      refine zw_ret rfl ?_
      rw [← yX_d hV hi.1 hi.2, show (yTk σ (i + 1)).1 = p by omega, ← i2] at k
      exact k
    · skip
      refine zw_iload ⟨rfl, rfl⟩ rfl ?_
      refine zw_aload ⟨rfl, rfl⟩ rfl ?_
      refine zw_getR 233 ⟨rfl, rfl⟩ zr_208_29 ?_
      refine zw_iload ⟨rfl, rfl⟩ rfl ?_
      refine zw_ialdv (v := yW (yLast σ) (p)) ⟨rfl, rfl⟩ za_233 (by omega) ((hG.2.2.2.1 (p) (by omega) (by omega)).2.2.2.2.2.2) ?_
      refine zw_iadd ⟨rfl, rfl⟩ (by omega) ?_
      refine zw_istore_2 ⟨rfl, rfl⟩ ?_
      refine zw_iinc_3 ⟨rfl, rfl⟩ (by omega) ?_
      refine zw_goto ⟨rfl, rfl⟩ rfl ?_
      refine ih _ _ ⟨by omega, by omega⟩ ?_ (by omega)
      rw [ysm_s _ i1.1, ← i2]

theorem m_clusterWidth {i : Int} {M : zM} {Q : zV → zM → Prop} {σ : yS} (hV : yVal σ) (hG : yLay M σ) (hi : 0 ≤ i ∧ i < (yci (yK σ) (σ 0))) (k : Q (0, yX σ (i + 1) - yX σ i) M) : zWp kM_clusterWidth 0 [(1, 208), (0, i), (3, 0), (3, 0)] [] M Q := by
  have hK := yKr_K hV
  have hn := hV.1
  have hci := yci_60 hK
  have eyL : (yTk σ (yci (yK σ) (σ 0))).1 = (yLast σ).1 := rfl
  have hgl := yLast_r hV
  refine zw_const ⟨rfl, rfl⟩ ?_
  refine zw_istore_2 ⟨rfl, rfl⟩ ?_
  refine zw_aload ⟨rfl, rfl⟩ rfl ?_
  refine zw_getR 221 ⟨rfl, rfl⟩ zr_208_14 ?_
  refine zw_iload ⟨rfl, rfl⟩ rfl ?_
  refine zw_ialdv (v := (yTk σ (i)).1) ⟨rfl, rfl⟩ za_221 (by omega) ((hG.2.2.1 (i) (by omega) (by omega)).2) ?_
  refine zw_istore_3 ⟨rfl, rfl⟩ ?_
  exact m_clusterWidth_l hV hG hi k _ _ _ ⟨Int.le_refl _, (yTk_pre σ hi.1 (by omega)).1⟩ (ysm_0 _ (Int.le_refl _)).symm (Nat.lt_succ_self _)

theorem m_MxOf_l  {s : Int} {M : zM} {Q : zV → zM → Prop} {σ : yS} (hV : yVal σ) (hG : yLay M σ) (hs : 0 ≤ s ∧ s ≤ (yci (yK σ) (σ 0))) (k : Q (0, yX σ s) M) : ∀ (f : Nat) (m c : Int), (0 ≤ c ∧ c ≤ s) → (m = yX σ c) → (s - c).toNat < f → zWp kM_xOf 4 [(1, 208), (0, s), (0, m), (0, c)] [] M Q := by
  intro f
  induction f with
  | zero => intro m c i1 i2 hf; exact absurd hf (Nat.not_lt_zero _)
  | succ f ih =>
    intro m c i1 i2 hf
    have hK := yKr_K hV
    have hn := hV.1
    have hci := yci_60 hK
    have eyL : (yTk σ (yci (yK σ) (σ 0))).1 = (yLast σ).1 := rfl
    have hgl := yLast_r hV
    refine zw_iload ⟨rfl, rfl⟩ rfl ?_
    refine zw_iload ⟨rfl, rfl⟩ rfl ?_
    refine zw_icge ⟨rfl, rfl⟩ rfl (fun c1 => ?_) (fun c1 => ?_)
    · skip
      refine zw_iload ⟨rfl, rfl⟩ rfl ?_
      refine zw_ret rfl ?_
      rw [show s = c by omega, ← i2] at k
      exact k
    · skip
      have hx1 := yX_r hV i1.1 (by omega)
      have hx2 := yX_r hV (show 0 ≤ c + 1 by omega) (show c + 1 ≤ (yci (yK σ) (σ 0)) by omega)
      refine zw_iload ⟨rfl, rfl⟩ rfl ?_
      refine zw_aload ⟨rfl, rfl⟩ rfl ?_
      refine zw_iload ⟨rfl, rfl⟩ rfl ?_
      refine zw_callv2 ⟨rfl, rfl⟩ rfl zc_208 rfl ?_
      refine m_clusterWidth hV hG ⟨by omega, by omega⟩ ?_
      refine zw_iadd ⟨rfl, rfl⟩ (by omega) ?_
      refine zw_istore_2 ⟨rfl, rfl⟩ ?_
      refine zw_iinc_3 ⟨rfl, rfl⟩ (by omega) ?_
      refine zw_goto ⟨rfl, rfl⟩ rfl ?_
      exact ih _ _ ⟨by omega, by omega⟩ (by omega) (by omega)

theorem m_MxOf {s : Int} {M : zM} {Q : zV → zM → Prop} {σ : yS} (hV : yVal σ) (hG : yLay M σ) (hs : 0 ≤ s ∧ s ≤ (yci (yK σ) (σ 0))) (k : Q (0, yX σ s) M) : zWp kM_xOf 0 [(1, 208), (0, s), (3, 0), (3, 0)] [] M Q := by
  refine zw_const ⟨rfl, rfl⟩ ?_
  refine zw_istore_2 ⟨rfl, rfl⟩ ?_
  refine zw_const ⟨rfl, rfl⟩ ?_
  refine zw_istore_3 ⟨rfl, rfl⟩ ?_
  exact m_MxOf_l hV hG hs k _ _ _ ⟨Int.le_refl _, hs.1⟩ (by unfold yX; rw [yTk_0]; rfl) (Nat.lt_succ_self _)

theorem m_stopOf_l  {p : Int} {M : zM} {Q : zV → zM → Prop} {σ : yS} (hV : yVal σ) (hG : yLay M σ) (k : Q (0, ysa (yK σ) (σ 0) p) M) : ∀ (f : Nat) (c : Int), (0 ≤ c ∧ c ≤ (yci (yK σ) (σ 0)) + 1) → (∀ j, 0 ≤ j → j < c → yB (yK σ) j ≠ p) → ((yci (yK σ) (σ 0)) + 1 - c).toNat < f → zWp kM_stopOf 2 [(1, 208), (0, p), (0, c)] [] M Q := by
  intro f
  induction f with
  | zero => intro c i1 i2 hf; exact absurd hf (Nat.not_lt_zero _)
  | succ f ih =>
    intro c i1 i2 hf
    have hK := yKr_K hV
    have hn := hV.1
    have hci := yci_60 hK
    have eyL : (yTk σ (yci (yK σ) (σ 0))).1 = (yLast σ).1 := rfl
    have hgl := yLast_r hV
    refine zw_iload ⟨rfl, rfl⟩ rfl ?_
    refine zw_aload ⟨rfl, rfl⟩ rfl ?_
    refine zw_getIv (v := (yci (yK σ) (σ 0))) ⟨rfl, rfl⟩ zc_208 (by decide) (hG.1.1) ?_
    refine zw_icgt ⟨rfl, rfl⟩ rfl (fun c1 => ?_) (fun c1 => ?_)
    · skip
      refine zw_const ⟨rfl, rfl⟩ ?_
      refine zw_ret rfl ?_
      by_cases hh : ysa (yK σ) (σ 0) p = -1
      · rw [hh] at k; exact k
      · obtain ⟨a1, a2⟩ := ysa_B hK hh
        exact absurd a2 (i2 _ a1.1 (by omega))
    · skip
      refine zw_aload ⟨rfl, rfl⟩ rfl ?_
      refine zw_getR 212 ⟨rfl, rfl⟩ zr_208_5 ?_
      refine zw_iload ⟨rfl, rfl⟩ rfl ?_
      refine zw_ialdv (v := yB (yK σ) (c)) ⟨rfl, rfl⟩ za_212 (by omega) ((hG.2.2.1 (c) (by omega) (by omega)).1) ?_
      refine zw_iload ⟨rfl, rfl⟩ rfl ?_
      refine zw_icne ⟨rfl, rfl⟩ rfl (fun c2 => ?_) (fun c2 => ?_)
      · skip
        refine zw_iinc_2 ⟨rfl, rfl⟩ (by omega) ?_
        refine zw_goto ⟨rfl, rfl⟩ rfl ?_
        refine ih _ ⟨by omega, by omega⟩ (fun j j1 j2 => ?_) (by omega)
        by_cases e : j = c
        · subst e; assumption
        · exact i2 j j1 (by omega)
      · skip
        refine zw_iload ⟨rfl, rfl⟩ rfl ?_
        refine zw_ret rfl ?_
        rw [yB_iff hK i1.1 (by omega) (by omega)] at k
        exact k

theorem m_stopOf {p : Int} {M : zM} {Q : zV → zM → Prop} {σ : yS} (hV : yVal σ) (hG : yLay M σ) (k : Q (0, ysa (yK σ) (σ 0) p) M) : zWp kM_stopOf 0 [(1, 208), (0, p), (3, 0)] [] M Q := by
  have hK := yKr_K hV
  have hn := hV.1
  have hci := yci_60 hK
  have eyL : (yTk σ (yci (yK σ) (σ 0))).1 = (yLast σ).1 := rfl
  have hgl := yLast_r hV
  refine zw_const ⟨rfl, rfl⟩ ?_
  refine zw_istore_2 ⟨rfl, rfl⟩ ?_
  exact m_stopOf_l hV hG k _ _ ⟨by decide, by omega⟩ (fun j a b => by omega) (Nat.lt_succ_self _)

theorem m_clusterWith_l  {p : Int} {M : zM} {Q : zV → zM → Prop} {σ : yS} (hV : yVal σ) (hG : yLay M σ) (hp : 0 ≤ p ∧ p < σ 0) (k : Q (0, yci (yK σ) (p + 1) - 1) M) : ∀ (f : Nat) (c : Int), (0 ≤ c ∧ c < (yci (yK σ) (σ 0))) → (yB (yK σ) c ≤ p) → ((yci (yK σ) (σ 0)) - c).toNat < f → zWp kM_clusterWith 2 [(1, 208), (0, p), (0, c)] [] M Q := by
  intro f
  induction f with
  | zero => intro c i1 i2 hf; exact absurd hf (Nat.not_lt_zero _)
  | succ f ih =>
    intro c i1 i2 hf
    have hK := yKr_K hV
    have hn := hV.1
    have hci := yci_60 hK
    have eyL : (yTk σ (yci (yK σ) (σ 0))).1 = (yLast σ).1 := rfl
    have hgl := yLast_r hV
    have hbn := yB_n hK
    refine zw_aload ⟨rfl, rfl⟩ rfl ?_
    refine zw_getR 212 ⟨rfl, rfl⟩ zr_208_5 ?_
    refine zw_iload ⟨rfl, rfl⟩ rfl ?_
    refine zw_const ⟨rfl, rfl⟩ ?_
    refine zw_iadd ⟨rfl, rfl⟩ (by omega) ?_
    refine zw_ialdv (v := yB (yK σ) ((c + 1))) ⟨rfl, rfl⟩ za_212 (by omega) ((hG.2.2.1 ((c + 1)) (by omega) (by omega)).1) ?_
    refine zw_iload ⟨rfl, rfl⟩ rfl ?_
    refine zw_icgt ⟨rfl, rfl⟩ rfl (fun c1 => ?_) (fun c1 => ?_)
    · skip
      refine zw_iload ⟨rfl, rfl⟩ rfl ?_
      refine zw_ret rfl ?_
      rw [yci_w hK i1.1 i1.2 i2 (by omega)] at k
      exact k
    · skip
      refine zw_iinc_2 ⟨rfl, rfl⟩ (by omega) ?_
      refine zw_goto ⟨rfl, rfl⟩ rfl ?_
      have hne : c + 1 ≠ (yci (yK σ) (σ 0)) := fun z => by rw [← z] at hbn; omega
      exact ih _ ⟨by omega, by omega⟩ (by omega) (by omega)

theorem m_clusterWith {p : Int} {M : zM} {Q : zV → zM → Prop} {σ : yS} (hV : yVal σ) (hG : yLay M σ) (hp : 0 ≤ p ∧ p < σ 0) (k : Q (0, yci (yK σ) (p + 1) - 1) M) : zWp kM_clusterWith 0 [(1, 208), (0, p), (3, 0)] [] M Q := by
  have hK := yKr_K hV
  have hn := hV.1
  have hci := yci_60 hK
  have eyL : (yTk σ (yci (yK σ) (σ 0))).1 = (yLast σ).1 := rfl
  have hgl := yLast_r hV
  refine zw_const ⟨rfl, rfl⟩ ?_
  refine zw_istore_2 ⟨rfl, rfl⟩ ?_
  have h01 := yci_b (yK σ) (Int.le_refl 0) (ybg_0 _)
  have h02 := (yci_mo (yK σ) (show (0 : Int) ≤ 0 + 1 by decide) (show 0 + 1 ≤ σ 0 by omega)).1
  rw [yci_0] at h01
  exact m_clusterWith_l hV hG hp k _ _ ⟨by decide, by omega⟩ (by rw [yB_0]; exact hp.1) (Nat.lt_succ_self _)

theorem m_ofForm_l  {fm : Int} {M : zM} {Q : zV → zM → Prop} {σ : yS} (hV : yVal σ) (hG : yLay M σ) (k : Q (0, yff (yLast σ) fm) M) : ∀ (f : Nat) (m p : Int), (0 ≤ p ∧ p ≤ (yLast σ).1) → (m = ysm (fun k => if (yLast σ).2.1 0 k = fm then (1 : Int) else 0) 0 p) → ((yLast σ).1 - p).toNat < f → zWp kM_ofForm 4 [(1, 208), (0, fm), (0, m), (0, p)] [] M Q := by
  intro f
  induction f with
  | zero => intro m p i1 i2 hf; exact absurd hf (Nat.not_lt_zero _)
  | succ f ih =>
    intro m p i1 i2 hf
    have hK := yKr_K hV
    have hn := hV.1
    have hci := yci_60 hK
    have eyL : (yTk σ (yci (yK σ) (σ 0))).1 = (yLast σ).1 := rfl
    have hgl := yLast_r hV
    have hs := ysm_b (f := (fun k => if (yLast σ).2.1 0 k = fm then (1 : Int) else 0)) (m := 1) (fun k => by show 0 ≤ (if _ then (1 : Int) else 0) ∧ _; split <;> omega) i1.1
    refine zw_iload ⟨rfl, rfl⟩ rfl ?_
    refine zw_aload ⟨rfl, rfl⟩ rfl ?_
    refine zw_getIv (v := (yLast σ).1) ⟨rfl, rfl⟩ zc_208 (by decide) (hG.1.2) ?_
    refine zw_icge ⟨rfl, rfl⟩ rfl (fun c1 => ?_) (fun c1 => ?_)
    · skip
      refine zw_iload ⟨rfl, rfl⟩ rfl ?_
      refine zw_ret rfl ?_
      rw [show yff (yLast σ) fm = m from by rw [i2, show p = (yLast σ).1 by omega]; rfl] at k
      exact k
    · skip
      refine zw_iload ⟨rfl, rfl⟩ rfl ?_
      refine zw_aload ⟨rfl, rfl⟩ rfl ?_
      refine zw_getR 227 ⟨rfl, rfl⟩ zr_208_23 ?_
      refine zw_iload ⟨rfl, rfl⟩ rfl ?_
      refine zw_ialdv (v := (yLast σ).2.1 0 (p)) ⟨rfl, rfl⟩ za_227 (by omega) ((hG.2.2.2.1 (p) (by omega) (by omega)).1) ?_
      refine zw_iload ⟨rfl, rfl⟩ rfl ?_
      refine zw_icne ⟨rfl, rfl⟩ rfl (fun c2 => ?_) (fun c2 => ?_)
      · skip
        refine zw_const ⟨rfl, rfl⟩ ?_
        refine zw_iadd ⟨rfl, rfl⟩ (by omega) ?_
        refine zw_istore_2 ⟨rfl, rfl⟩ ?_
        refine zw_iinc_3 ⟨rfl, rfl⟩ (by omega) ?_
        refine zw_goto ⟨rfl, rfl⟩ rfl ?_
        refine ih _ _ ⟨by omega, by omega⟩ ?_ (by omega)
        rw [ysm_s _ i1.1, ← i2]
        try dsimp only
        first | (rw [if_pos (by omega)]; done) | (rw [if_neg (by assumption)]; done) | (rw [if_neg (by omega)]; done)
      · skip
        refine zw_const ⟨rfl, rfl⟩ ?_
        refine zw_goto ⟨rfl, rfl⟩ rfl ?_
        refine zw_iadd ⟨rfl, rfl⟩ (by omega) ?_
        refine zw_istore_2 ⟨rfl, rfl⟩ ?_
        refine zw_iinc_3 ⟨rfl, rfl⟩ (by omega) ?_
        refine zw_goto ⟨rfl, rfl⟩ rfl ?_
        refine ih _ _ ⟨by omega, by omega⟩ ?_ (by omega)
        rw [ysm_s _ i1.1, ← i2]
        try dsimp only
        first | (rw [if_pos (by omega)]; done) | (rw [if_neg (by assumption)]; done) | (rw [if_neg (by omega)]; done)

theorem m_ofForm {f : Int} {M : zM} {Q : zV → zM → Prop} {σ : yS} (hV : yVal σ) (hG : yLay M σ) (k : Q (0, yff (yLast σ) f) M) : zWp kM_ofForm 0 [(1, 208), (0, f), (3, 0), (3, 0)] [] M Q := by
  refine zw_const ⟨rfl, rfl⟩ ?_
  refine zw_istore_2 ⟨rfl, rfl⟩ ?_
  refine zw_const ⟨rfl, rfl⟩ ?_
  refine zw_istore_3 ⟨rfl, rfl⟩ ?_
  exact m_ofForm_l hV hG k _ _ _ ⟨Int.le_refl _, (yLast_r hV).1⟩ (ysm_0 _ (Int.le_refl _)).symm (Nat.lt_succ_self _)

theorem m_withKind_l  {M : zM} {Q : zV → zM → Prop} {σ : yS} (hM : yMo M σ) (k : Q (0, ylt σ) M) : ∀ (f : Nat) (a l : Int), (0 ≤ l ∧ l ≤ 26) → (a = yct (fun l => σ (2 + l)) l.toNat) → (26 - l).toNat < f → zWp kM_lettersWithKind 4 [(1, 208), (1, 209), (0, a), (0, l)] [] M Q := by
  intro f
  induction f with
  | zero => intro a l h1 h2 hf; exact absurd hf (Nat.not_lt_zero _)
  | succ f ih =>
    intro a l h1 h2 hf
    refine zw_iload ⟨rfl, rfl⟩ rfl ?_
    refine zw_const ⟨rfl, rfl⟩ ?_
    refine zw_icge ⟨rfl, rfl⟩ rfl (fun c1 => ?_) (fun c1 => ?_)
    · skip
      refine zw_iload ⟨rfl, rfl⟩ rfl ?_
      refine zw_ret rfl ?_
      rw [show ylt σ = a from by rw [h2, show l.toNat = 26 by omega]; rfl] at k
      exact k
    · skip
      refine zw_iload ⟨rfl, rfl⟩ rfl ?_
      refine zw_aload ⟨rfl, rfl⟩ rfl ?_
      refine zw_const ⟨rfl, rfl⟩ ?_
      refine zw_iload ⟨rfl, rfl⟩ rfl ?_
      refine zw_iadd ⟨rfl, rfl⟩ (by omega) ?_
      refine zw_ialdv (v := σ ((2 + l))) ⟨rfl, rfl⟩ za_209 (by omega) (hM ((2 + l)) (by omega) (by omega)) ?_
      refine zw_ifeq ⟨rfl, rfl⟩ rfl (fun c2 => ?_) (fun c2 => ?_)
      · skip
        refine zw_const ⟨rfl, rfl⟩ ?_
        refine zw_iadd ⟨rfl, rfl⟩ (by have := yct_rng (fun l => σ (2 + l)) l.toNat; omega) ?_
        refine zw_istore_2 ⟨rfl, rfl⟩ ?_
        refine zw_iinc_3 ⟨rfl, rfl⟩ (by omega) ?_
        refine zw_goto ⟨rfl, rfl⟩ rfl ?_
        refine ih _ _ ⟨by omega, by omega⟩ ?_ (by omega)
        rw [yct_s _ h1.1, h2]; grind
      · skip
        refine zw_const ⟨rfl, rfl⟩ ?_
        refine zw_goto ⟨rfl, rfl⟩ rfl ?_
        refine zw_iadd ⟨rfl, rfl⟩ (by have := yct_rng (fun l => σ (2 + l)) l.toNat; omega) ?_
        refine zw_istore_2 ⟨rfl, rfl⟩ ?_
        refine zw_iinc_3 ⟨rfl, rfl⟩ (by omega) ?_
        refine zw_goto ⟨rfl, rfl⟩ rfl ?_
        refine ih _ _ ⟨by omega, by omega⟩ ?_ (by omega)
        rw [yct_s _ h1.1, h2]; grind

theorem m_withKind {M : zM} {Q : zV → zM → Prop} {σ : yS} (hM : yMo M σ) (k : Q (0, ylt σ) M) : zWp kM_lettersWithKind 0 [(1, 208), (1, 209), (3, 0), (3, 0)] [] M Q := by
  refine zw_const ⟨rfl, rfl⟩ ?_
  refine zw_istore_2 ⟨rfl, rfl⟩ ?_
  refine zw_const ⟨rfl, rfl⟩ ?_
  refine zw_istore_3 ⟨rfl, rfl⟩ ?_
  exact m_withKind_l hM k _ _ _ ⟨by decide, by decide⟩ rfl (Nat.lt_succ_self _)

theorem d_at {p : Int} {M : zM} {Q : zV → zM → Prop} {σ : yS} (hV : yVal σ) (hM : yMo M σ)  (k : ∀ N : zM, ymf M N → Q (0, ya_at σ p) N) : zWp kM_at 0 [(1, 208), (0, p)] [] M Q := by
  have hK := yKr_K hV
  have hn := hV.1
  have hci := yci_60 hK
  have eyL : (yTk σ (yci (yK σ) (σ 0))).1 = (yLast σ).1 := rfl
  have hgl := yLast_r hV
  refine zw_aload ⟨rfl, rfl⟩ rfl ?_
  refine zw_const ⟨rfl, rfl⟩ ?_
  refine zw_putI ⟨rfl, rfl⟩ zc_208 (by decide) (fun h => absurd h (by decide)) ?_
  refine zw_iload ⟨rfl, rfl⟩ rfl ?_
  refine zw_ifge ⟨rfl, rfl⟩ rfl (fun c1 => ?_) (fun c1 => ?_)
  · skip
    refine zw_iload ⟨rfl, rfl⟩ rfl ?_
    refine zw_aload ⟨rfl, rfl⟩ rfl ?_
    refine zw_callv1 ⟨rfl, rfl⟩ rfl zc_208 rfl ?_
    refine m_Mmany hV (hM.cg (zup_row (by decide)))  ?_
    refine zw_icge ⟨rfl, rfl⟩ rfl (fun c2 => ?_) (fun c2 => ?_)
    · skip
      refine zw_const ⟨rfl, rfl⟩ ?_
      refine zw_ret rfl ?_
      have e : ya_at σ p = (-1) := by unfold ya_at; (repeat' split) <;> first | rfl | omega | (exfalso; omega) | exact if_neg (by omega)
      rw [e] at k
      exact k _ ymf_0
    · skip
      refine zw_aload ⟨rfl, rfl⟩ rfl ?_
      refine zw_iload ⟨rfl, rfl⟩ rfl ?_
      refine zw_callv2 ⟨rfl, rfl⟩ rfl zc_208 rfl ?_
      refine m_MletterAt hV (hM.cg (zup_row (by decide))) ⟨by omega, by omega⟩ ?_
      refine zw_goto ⟨rfl, rfl⟩ rfl ?_
      refine zw_ret rfl ?_
      have e : ya_at σ p = yL σ p := by unfold ya_at; (repeat' split) <;> first | rfl | omega | (exfalso; omega) | exact if_neg (by omega)
      rw [e] at k
      exact k _ ymf_0
  · skip
    refine zw_const ⟨rfl, rfl⟩ ?_
    refine zw_ret rfl ?_
    have e : ya_at σ p = (-3) := by unfold ya_at; (repeat' split) <;> first | rfl | omega | (exfalso; omega) | exact if_neg (by omega)
    rw [e] at k
    exact k _ ymf_0

theorem d_clusters {M : zM} {Q : zV → zM → Prop} {σ : yS} (hV : yVal σ) (hM : yMo M σ)  (k : ∀ N : zM, ymf M N → Q (0, (yci (yK σ) (σ 0))) N) : zWp kM_clusters 0 [(1, 208)] [] M Q := by
  have hK := yKr_K hV
  have hn := hV.1
  have hci := yci_60 hK
  have eyL : (yTk σ (yci (yK σ) (σ 0))).1 = (yLast σ).1 := rfl
  have hgl := yLast_r hV
  refine zw_aload ⟨rfl, rfl⟩ rfl ?_
  refine zw_const ⟨rfl, rfl⟩ ?_
  refine zw_putI ⟨rfl, rfl⟩ zc_208 (by decide) (fun h => absurd h (by decide)) ?_
  refine zw_aload ⟨rfl, rfl⟩ rfl ?_
  refine zw_cavv1 ⟨rfl, rfl⟩ rfl zc_208 rfl ?_
  refine m_laysAll hV (hM.cg (zup_row (by decide))) (fun N1 p1 => ?_)
  have hG1 := p1.1
  have hf1 : ymf M N1 := ymf_0.tr p1.2.m
  have hM1 : yMo N1 σ := hM.cg (hf1.1 209 (Or.inl rfl))
  refine zw_aload ⟨rfl, rfl⟩ rfl ?_
  refine zw_getIv (v := (yci (yK σ) (σ 0))) ⟨rfl, rfl⟩ zc_208 (by decide) (hG1.1.1) ?_
  refine zw_ret rfl ?_
  have e : (yci (yK σ) (σ 0)) = (yci (yK σ) (σ 0)) := by rfl
  rw [e] at k
  exact k _ hf1

theorem d_glyphs {M : zM} {Q : zV → zM → Prop} {σ : yS} (hV : yVal σ) (hM : yMo M σ)  (k : ∀ N : zM, ymf M N → Q (0, (yLast σ).1) N) : zWp kM_glyphs 0 [(1, 208)] [] M Q := by
  have hK := yKr_K hV
  have hn := hV.1
  have hci := yci_60 hK
  have eyL : (yTk σ (yci (yK σ) (σ 0))).1 = (yLast σ).1 := rfl
  have hgl := yLast_r hV
  refine zw_aload ⟨rfl, rfl⟩ rfl ?_
  refine zw_const ⟨rfl, rfl⟩ ?_
  refine zw_putI ⟨rfl, rfl⟩ zc_208 (by decide) (fun h => absurd h (by decide)) ?_
  refine zw_aload ⟨rfl, rfl⟩ rfl ?_
  refine zw_cavv1 ⟨rfl, rfl⟩ rfl zc_208 rfl ?_
  refine m_laysAll hV (hM.cg (zup_row (by decide))) (fun N1 p1 => ?_)
  have hG1 := p1.1
  have hf1 : ymf M N1 := ymf_0.tr p1.2.m
  have hM1 : yMo N1 σ := hM.cg (hf1.1 209 (Or.inl rfl))
  refine zw_aload ⟨rfl, rfl⟩ rfl ?_
  refine zw_getIv (v := (yLast σ).1) ⟨rfl, rfl⟩ zc_208 (by decide) (hG1.1.2) ?_
  refine zw_ret rfl ?_
  have e : (yLast σ).1 = (yLast σ).1 := by rfl
  rw [e] at k
  exact k _ hf1

theorem d_stops {M : zM} {Q : zV → zM → Prop} {σ : yS} (hV : yVal σ) (hM : yMo M σ)  (k : ∀ N : zM, ymf M N → Q (0, (yci (yK σ) (σ 0)) + 1) N) : zWp kM_stops 0 [(1, 208)] [] M Q := by
  have hK := yKr_K hV
  have hn := hV.1
  have hci := yci_60 hK
  have eyL : (yTk σ (yci (yK σ) (σ 0))).1 = (yLast σ).1 := rfl
  have hgl := yLast_r hV
  refine zw_aload ⟨rfl, rfl⟩ rfl ?_
  refine zw_const ⟨rfl, rfl⟩ ?_
  refine zw_putI ⟨rfl, rfl⟩ zc_208 (by decide) (fun h => absurd h (by decide)) ?_
  refine zw_aload ⟨rfl, rfl⟩ rfl ?_
  refine zw_cavv1 ⟨rfl, rfl⟩ rfl zc_208 rfl ?_
  refine m_laysAll hV (hM.cg (zup_row (by decide))) (fun N1 p1 => ?_)
  have hG1 := p1.1
  have hf1 : ymf M N1 := ymf_0.tr p1.2.m
  have hM1 : yMo N1 σ := hM.cg (hf1.1 209 (Or.inl rfl))
  refine zw_aload ⟨rfl, rfl⟩ rfl ?_
  refine zw_getIv (v := (yci (yK σ) (σ 0))) ⟨rfl, rfl⟩ zc_208 (by decide) (hG1.1.1) ?_
  refine zw_const ⟨rfl, rfl⟩ ?_
  refine zw_iadd ⟨rfl, rfl⟩ (by omega) ?_
  refine zw_ret rfl ?_
  have e : (yci (yK σ) (σ 0)) + 1 = (yci (yK σ) (σ 0)) + 1 := by rfl
  rw [e] at k
  exact k _ hf1

theorem d_of {p : Int} {M : zM} {Q : zV → zM → Prop} {σ : yS} (hV : yVal σ) (hM : yMo M σ)  (k : ∀ N : zM, ymf M N → Q (0, ya_of σ p) N) : zWp kM_of 0 [(1, 208), (0, p)] [] M Q := by
  have hK := yKr_K hV
  have hn := hV.1
  have hci := yci_60 hK
  have eyL : (yTk σ (yci (yK σ) (σ 0))).1 = (yLast σ).1 := rfl
  have hgl := yLast_r hV
  refine zw_aload ⟨rfl, rfl⟩ rfl ?_
  refine zw_const ⟨rfl, rfl⟩ ?_
  refine zw_putI ⟨rfl, rfl⟩ zc_208 (by decide) (fun h => absurd h (by decide)) ?_
  refine zw_iload ⟨rfl, rfl⟩ rfl ?_
  refine zw_ifge ⟨rfl, rfl⟩ rfl (fun c1 => ?_) (fun c1 => ?_)
  · skip
    refine zw_aload ⟨rfl, rfl⟩ rfl ?_
    refine zw_cavv1 ⟨rfl, rfl⟩ rfl zc_208 rfl ?_
    refine m_laysAll hV (hM.cg (zup_row (by decide))) (fun N1 p1 => ?_)
    have hG1 := p1.1
    have hf1 : ymf M N1 := ymf_0.tr p1.2.m
    have hM1 : yMo N1 σ := hM.cg (hf1.1 209 (Or.inl rfl))
    refine zw_iload ⟨rfl, rfl⟩ rfl ?_
    refine zw_aload ⟨rfl, rfl⟩ rfl ?_
    refine zw_callv1 ⟨rfl, rfl⟩ rfl zc_208 rfl ?_
    refine m_Mmany hV hM1  ?_
    refine zw_icge ⟨rfl, rfl⟩ rfl (fun c2 => ?_) (fun c2 => ?_)
    · skip
      refine zw_const ⟨rfl, rfl⟩ ?_
      refine zw_ret rfl ?_
      have e : ya_of σ p = (-1) := by unfold ya_of; (repeat' split) <;> first | rfl | omega | (exfalso; omega)
      rw [e] at k
      exact k _ hf1
    · skip
      refine zw_aload ⟨rfl, rfl⟩ rfl ?_
      refine zw_iload ⟨rfl, rfl⟩ rfl ?_
      refine zw_callv2 ⟨rfl, rfl⟩ rfl zc_208 rfl ?_
      refine m_clusterWith hV hG1 ⟨by omega, by omega⟩ ?_
      refine zw_goto ⟨rfl, rfl⟩ rfl ?_
      refine zw_ret rfl ?_
      have e : ya_of σ p = yci (yK σ) (p + 1) - 1 := by unfold ya_of; (repeat' split) <;> first | rfl | omega | (exfalso; omega)
      rw [e] at k
      exact k _ hf1
  · skip
    refine zw_const ⟨rfl, rfl⟩ ?_
    refine zw_ret rfl ?_
    have e : ya_of σ p = (-3) := by unfold ya_of; (repeat' split) <;> first | rfl | omega | (exfalso; omega)
    rw [e] at k
    exact k _ ymf_0

theorem d_shown {p : Int} {M : zM} {Q : zV → zM → Prop} {σ : yS} (hV : yVal σ) (hM : yMo M σ)  (k : ∀ N : zM, ymf M N → Q (0, ya_shown σ p) N) : zWp kM_shown 0 [(1, 208), (0, p)] [] M Q := by
  have hK := yKr_K hV
  have hn := hV.1
  have hci := yci_60 hK
  have eyL : (yTk σ (yci (yK σ) (σ 0))).1 = (yLast σ).1 := rfl
  have hgl := yLast_r hV
  refine zw_aload ⟨rfl, rfl⟩ rfl ?_
  refine zw_const ⟨rfl, rfl⟩ ?_
  refine zw_putI ⟨rfl, rfl⟩ zc_208 (by decide) (fun h => absurd h (by decide)) ?_
  refine zw_iload ⟨rfl, rfl⟩ rfl ?_
  refine zw_ifge ⟨rfl, rfl⟩ rfl (fun c1 => ?_) (fun c1 => ?_)
  · skip
    refine zw_aload ⟨rfl, rfl⟩ rfl ?_
    refine zw_cavv1 ⟨rfl, rfl⟩ rfl zc_208 rfl ?_
    refine m_laysAll hV (hM.cg (zup_row (by decide))) (fun N1 p1 => ?_)
    have hG1 := p1.1
    have hf1 : ymf M N1 := ymf_0.tr p1.2.m
    have hM1 : yMo N1 σ := hM.cg (hf1.1 209 (Or.inl rfl))
    refine zw_iload ⟨rfl, rfl⟩ rfl ?_
    refine zw_aload ⟨rfl, rfl⟩ rfl ?_
    refine zw_callv1 ⟨rfl, rfl⟩ rfl zc_208 rfl ?_
    refine m_Mmany hV hM1  ?_
    refine zw_icge ⟨rfl, rfl⟩ rfl (fun c2 => ?_) (fun c2 => ?_)
    · skip
      refine zw_const ⟨rfl, rfl⟩ ?_
      refine zw_ret rfl ?_
      have e : ya_shown σ p = (-1) := by unfold ya_shown; (repeat' split) <;> first | rfl | omega | (exfalso; omega)
      rw [e] at k
      exact k _ hf1
    · skip
      refine zw_aload ⟨rfl, rfl⟩ rfl ?_
      refine zw_getR 234 ⟨rfl, rfl⟩ zr_208_30 ?_
      refine zw_iload ⟨rfl, rfl⟩ rfl ?_
      refine zw_ialdv (v := (yLast σ).2.2 (p)) ⟨rfl, rfl⟩ za_234 (by omega) (hG1.2.2.2.2 (p) (by omega) (by omega)) ?_
      refine zw_goto ⟨rfl, rfl⟩ rfl ?_
      refine zw_ret rfl ?_
      have e : ya_shown σ p = (yLast σ).2.2 (p) := by unfold ya_shown; (repeat' split) <;> first | rfl | omega | (exfalso; omega)
      rw [e] at k
      exact k _ hf1
  · skip
    refine zw_const ⟨rfl, rfl⟩ ?_
    refine zw_ret rfl ?_
    have e : ya_shown σ p = (-3) := by unfold ya_shown; (repeat' split) <;> first | rfl | omega | (exfalso; omega)
    rw [e] at k
    exact k _ ymf_0

theorem d_stop {i : Int} {M : zM} {Q : zV → zM → Prop} {σ : yS} (hV : yVal σ) (hM : yMo M σ)  (k : ∀ N : zM, ymf M N → Q (0, ya_stop σ i) N) : zWp kM_stop 0 [(1, 208), (0, i)] [] M Q := by
  have hK := yKr_K hV
  have hn := hV.1
  have hci := yci_60 hK
  have eyL : (yTk σ (yci (yK σ) (σ 0))).1 = (yLast σ).1 := rfl
  have hgl := yLast_r hV
  refine zw_aload ⟨rfl, rfl⟩ rfl ?_
  refine zw_const ⟨rfl, rfl⟩ ?_
  refine zw_putI ⟨rfl, rfl⟩ zc_208 (by decide) (fun h => absurd h (by decide)) ?_
  refine zw_iload ⟨rfl, rfl⟩ rfl ?_
  refine zw_ifge ⟨rfl, rfl⟩ rfl (fun c1 => ?_) (fun c1 => ?_)
  · skip
    refine zw_aload ⟨rfl, rfl⟩ rfl ?_
    refine zw_cavv1 ⟨rfl, rfl⟩ rfl zc_208 rfl ?_
    refine m_laysAll hV (hM.cg (zup_row (by decide))) (fun N1 p1 => ?_)
    have hG1 := p1.1
    have hf1 : ymf M N1 := ymf_0.tr p1.2.m
    have hM1 : yMo N1 σ := hM.cg (hf1.1 209 (Or.inl rfl))
    refine zw_iload ⟨rfl, rfl⟩ rfl ?_
    refine zw_aload ⟨rfl, rfl⟩ rfl ?_
    refine zw_getIv (v := (yci (yK σ) (σ 0))) ⟨rfl, rfl⟩ zc_208 (by decide) (hG1.1.1) ?_
    refine zw_icgt ⟨rfl, rfl⟩ rfl (fun c2 => ?_) (fun c2 => ?_)
    · skip
      refine zw_const ⟨rfl, rfl⟩ ?_
      refine zw_ret rfl ?_
      have e : ya_stop σ i = (-1) := by unfold ya_stop ysp; (repeat' split) <;> first | rfl | omega | (exfalso; omega)
      rw [e] at k
      exact k _ hf1
    · skip
      refine zw_aload ⟨rfl, rfl⟩ rfl ?_
      refine zw_getR 212 ⟨rfl, rfl⟩ zr_208_5 ?_
      refine zw_iload ⟨rfl, rfl⟩ rfl ?_
      refine zw_ialdv (v := yB (yK σ) (i)) ⟨rfl, rfl⟩ za_212 (by omega) ((hG1.2.2.1 (i) (by omega) (by omega)).1) ?_
      refine zw_goto ⟨rfl, rfl⟩ rfl ?_
      refine zw_ret rfl ?_
      have e : ya_stop σ i = yB (yK σ) (i) := by unfold ya_stop ysp; (repeat' split) <;> first | rfl | omega | (exfalso; omega)
      rw [e] at k
      exact k _ hf1
  · skip
    refine zw_const ⟨rfl, rfl⟩ ?_
    refine zw_ret rfl ?_
    have e : ya_stop σ i = (-3) := by unfold ya_stop ysp; (repeat' split) <;> first | rfl | omega | (exfalso; omega)
    rw [e] at k
    exact k _ ymf_0

theorem d_x {p : Int} {M : zM} {Q : zV → zM → Prop} {σ : yS} (hV : yVal σ) (hM : yMo M σ)  (k : ∀ N : zM, ymf M N → Q (0, ya_x σ p) N) : zWp kM_x 0 [(1, 208), (0, p), (3, 0)] [] M Q := by
  have hK := yKr_K hV
  have hn := hV.1
  have hci := yci_60 hK
  have eyL : (yTk σ (yci (yK σ) (σ 0))).1 = (yLast σ).1 := rfl
  have hgl := yLast_r hV
  refine zw_aload ⟨rfl, rfl⟩ rfl ?_
  refine zw_const ⟨rfl, rfl⟩ ?_
  refine zw_putI ⟨rfl, rfl⟩ zc_208 (by decide) (fun h => absurd h (by decide)) ?_
  refine zw_aload ⟨rfl, rfl⟩ rfl ?_
  refine zw_cavv1 ⟨rfl, rfl⟩ rfl zc_208 rfl ?_
  refine m_laysAll hV (hM.cg (zup_row (by decide))) (fun N1 p1 => ?_)
  have hG1 := p1.1
  have hf1 : ymf M N1 := ymf_0.tr p1.2.m
  have hM1 : yMo N1 σ := hM.cg (hf1.1 209 (Or.inl rfl))
  refine zw_aload ⟨rfl, rfl⟩ rfl ?_
  refine zw_iload ⟨rfl, rfl⟩ rfl ?_
  refine zw_callv2 ⟨rfl, rfl⟩ rfl zc_208 rfl ?_
  refine m_stopOf hV hG1 ?_
  refine zw_istore_2 ⟨rfl, rfl⟩ ?_
  refine zw_iload ⟨rfl, rfl⟩ rfl ?_
  refine zw_const ⟨rfl, rfl⟩ ?_
  refine zw_icne ⟨rfl, rfl⟩ rfl (fun c1 => ?_) (fun c1 => ?_)
  · skip
    refine zw_aload ⟨rfl, rfl⟩ rfl ?_
    refine zw_iload ⟨rfl, rfl⟩ rfl ?_
    refine zw_callv2 ⟨rfl, rfl⟩ rfl zc_208 rfl ?_
    have hsa := ysa_B hK (p := p) (by omega)
    refine m_MxOf hV hG1 hsa.1 ?_
    refine zw_ret rfl ?_
    have e : ya_x σ p = yX σ (ysa (yK σ) (σ 0) p) := by unfold ya_x; (repeat' split) <;> first | rfl | omega | (exfalso; omega)
    rw [e] at k
    exact k _ hf1
  · skip
    refine zw_const ⟨rfl, rfl⟩ ?_
    refine zw_goto ⟨rfl, rfl⟩ rfl ?_
    refine zw_ret rfl ?_
    have e : ya_x σ p = (-5) := by unfold ya_x; (repeat' split) <;> first | rfl | omega | (exfalso; omega)
    rw [e] at k
    exact k _ hf1

theorem d_letter {l w : Int} {M : zM} {Q : zV → zM → Prop} {σ : yS} (hV : yVal σ) (hM : yMo M σ)  (k : ∀ N : zM, ymf M N → Q (0, ya_letter σ l w) N) : zWp kM_letter 0 [(1, 208), (0, l), (0, w)] [] M Q := by
  have hK := yKr_K hV
  have hn := hV.1
  have hci := yci_60 hK
  have eyL : (yTk σ (yci (yK σ) (σ 0))).1 = (yLast σ).1 := rfl
  have hgl := yLast_r hV
  refine zw_aload ⟨rfl, rfl⟩ rfl ?_
  refine zw_const ⟨rfl, rfl⟩ ?_
  refine zw_putI ⟨rfl, rfl⟩ zc_208 (by decide) (fun h => absurd h (by decide)) ?_
  refine zw_iload ⟨rfl, rfl⟩ rfl ?_
  refine zw_calls1 ⟨rfl, rfl⟩ rfl rfl ?_
  refine zw_iload ⟨rfl, rfl⟩ rfl ?_
  refine zw_i2l ⟨rfl, rfl⟩ ?_
  refine zw_lconst ⟨rfl, rfl⟩ ?_
  refine zw_lconst ⟨rfl, rfl⟩ ?_
  refine zw_calLs3 ⟨rfl, rfl⟩ rfl rfl ?_
  refine zw_lload ⟨rfl, rfl⟩ rfl ?_
  refine zw_lload ⟨rfl, rfl⟩ rfl ?_
  refine zw_lcmp ⟨rfl, rfl⟩ ?_
  refine zw_iflt ⟨rfl, rfl⟩ rfl (fun c1 => ?_) (fun c1 => ?_)
  · replace c1 := zlc_lt.mp c1
    refine zw_const ⟨rfl, rfl⟩ ?_
    refine zw_zret rfl (by first | exact Or.inl rfl | exact Or.inr rfl | omega) ?_
    refine zw_zret rfl (by first | exact Or.inl rfl | exact Or.inr rfl | omega) ?_
    refine zw_ifne ⟨rfl, rfl⟩ rfl (fun q => absurd q (by decide)) (fun _ => ?_)
    refine zw_const ⟨rfl, rfl⟩ ?_
    refine zw_ret rfl ?_
    have e : ya_letter σ l w = (-2) := by unfold ya_letter; first | (rw [if_pos (by omega)]; done) | (rw [if_neg (by omega)]; (repeat' split) <;> first | rfl | omega | (exfalso; omega))
    rw [e] at k
    exact k _ ymf_0
  · replace c1 := (not_congr zlc_lt).mp c1
    refine zw_lload ⟨rfl, rfl⟩ rfl ?_
    refine zw_lload ⟨rfl, rfl⟩ rfl ?_
    refine zw_lcmp ⟨rfl, rfl⟩ ?_
    refine zw_ifgt ⟨rfl, rfl⟩ rfl (fun c3 => ?_) (fun c3 => ?_)
    · replace c3 := zlc_gt.mp c3
      refine zw_const ⟨rfl, rfl⟩ ?_
      refine zw_zret rfl (by first | exact Or.inl rfl | exact Or.inr rfl | omega) ?_
      refine zw_zret rfl (by first | exact Or.inl rfl | exact Or.inr rfl | omega) ?_
      refine zw_ifne ⟨rfl, rfl⟩ rfl (fun q => absurd q (by decide)) (fun _ => ?_)
      refine zw_const ⟨rfl, rfl⟩ ?_
      refine zw_ret rfl ?_
      have e : ya_letter σ l w = (-2) := by unfold ya_letter; first | (rw [if_pos (by omega)]; done) | (rw [if_neg (by omega)]; (repeat' split) <;> first | rfl | omega | (exfalso; omega))
      rw [e] at k
      exact k _ ymf_0
    · replace c3 := (not_congr zlc_gt).mp c3
      refine zw_const ⟨rfl, rfl⟩ ?_
      refine zw_goto ⟨rfl, rfl⟩ rfl ?_
      refine zw_zret rfl (by first | exact Or.inl rfl | exact Or.inr rfl | omega) ?_
      refine zw_zret rfl (by first | exact Or.inl rfl | exact Or.inr rfl | omega) ?_
      refine zw_ifne ⟨rfl, rfl⟩ rfl (fun _ => ?_) (fun q => absurd (by decide) q)
      refine zw_iload ⟨rfl, rfl⟩ rfl ?_
      by_cases e6_0 : w = 0
      · refine zw_table ⟨rfl, rfl⟩ (t' := 10) (by rw [e6_0]; rfl) ?_
        refine zw_aload ⟨rfl, rfl⟩ rfl ?_
        refine zw_iload ⟨rfl, rfl⟩ rfl ?_
        refine zw_callv2 ⟨rfl, rfl⟩ rfl zc_208 rfl ?_
        refine m_MkindOf hV (hM.cg (zup_row (by decide))) ⟨by omega, by omega⟩ ?_
        refine zw_ret rfl ?_
        have e : ya_letter σ l w = σ (2 + l) := by unfold ya_letter; first | (rw [if_pos (by omega)]; done) | (rw [if_neg (by omega)]; (repeat' split) <;> first | rfl | omega | (exfalso; omega))
        rw [e] at k
        exact k _ ymf_0
      by_cases e6_1 : w = 1
      · refine zw_table ⟨rfl, rfl⟩ (t' := 14) (by rw [e6_1]; rfl) ?_
        refine zw_aload ⟨rfl, rfl⟩ rfl ?_
        refine zw_iload ⟨rfl, rfl⟩ rfl ?_
        refine zw_const ⟨rfl, rfl⟩ ?_
        refine zw_callv3 ⟨rfl, rfl⟩ rfl zc_208 rfl ?_
        have hbr := ybt_r σ l 1
        have hbe : ybt σ l 1 = _ := rfl
        conv at hbe => rhs; simp [ybt]
        refine m_Mdoes hV (hM.cg (zup_row (by decide))) ⟨by omega, by omega⟩ (by decide) ?_
        refine zw_ifeq ⟨rfl, rfl⟩ rfl (fun c7 => ?_) (fun c7 => ?_)
        · skip
          refine zw_const ⟨rfl, rfl⟩ ?_
          refine zw_ret rfl ?_
          have e : ya_letter σ l w = 0 := by unfold ya_letter; first | (rw [if_pos (by omega)]; done) | (rw [if_neg (by omega)]; (repeat' split) <;> first | rfl | omega | (exfalso; omega))
          rw [e] at k
          exact k _ ymf_0
        · skip
          refine zw_const ⟨rfl, rfl⟩ ?_
          refine zw_goto ⟨rfl, rfl⟩ rfl ?_
          refine zw_ret rfl ?_
          have e : ya_letter σ l w = 1 := by unfold ya_letter; first | (rw [if_pos (by omega)]; done) | (rw [if_neg (by omega)]; (repeat' split) <;> first | rfl | omega | (exfalso; omega))
          rw [e] at k
          exact k _ ymf_0
      by_cases e6_2 : w = 2
      · refine zw_table ⟨rfl, rfl⟩ (t' := 23) (by rw [e6_2]; rfl) ?_
        refine zw_aload ⟨rfl, rfl⟩ rfl ?_
        refine zw_iload ⟨rfl, rfl⟩ rfl ?_
        refine zw_const ⟨rfl, rfl⟩ ?_
        refine zw_callv3 ⟨rfl, rfl⟩ rfl zc_208 rfl ?_
        have hbr := ybt_r σ l 2
        have hbe : ybt σ l 2 = _ := rfl
        conv at hbe => rhs; simp [ybt]
        refine m_Mdoes hV (hM.cg (zup_row (by decide))) ⟨by omega, by omega⟩ (by decide) ?_
        refine zw_ifeq ⟨rfl, rfl⟩ rfl (fun c8 => ?_) (fun c8 => ?_)
        · skip
          refine zw_const ⟨rfl, rfl⟩ ?_
          refine zw_ret rfl ?_
          have e : ya_letter σ l w = 0 := by unfold ya_letter; first | (rw [if_pos (by omega)]; done) | (rw [if_neg (by omega)]; (repeat' split) <;> first | rfl | omega | (exfalso; omega))
          rw [e] at k
          exact k _ ymf_0
        · skip
          refine zw_const ⟨rfl, rfl⟩ ?_
          refine zw_goto ⟨rfl, rfl⟩ rfl ?_
          refine zw_ret rfl ?_
          have e : ya_letter σ l w = 1 := by unfold ya_letter; first | (rw [if_pos (by omega)]; done) | (rw [if_neg (by omega)]; (repeat' split) <;> first | rfl | omega | (exfalso; omega))
          rw [e] at k
          exact k _ ymf_0
      by_cases e6_3 : w = 3
      · refine zw_table ⟨rfl, rfl⟩ (t' := 32) (by rw [e6_3]; rfl) ?_
        refine zw_aload ⟨rfl, rfl⟩ rfl ?_
        refine zw_iload ⟨rfl, rfl⟩ rfl ?_
        refine zw_const ⟨rfl, rfl⟩ ?_
        refine zw_callv3 ⟨rfl, rfl⟩ rfl zc_208 rfl ?_
        have hbr := ybt_r σ l 4
        have hbe : ybt σ l 4 = _ := rfl
        conv at hbe => rhs; simp [ybt]
        refine m_Mdoes hV (hM.cg (zup_row (by decide))) ⟨by omega, by omega⟩ (by decide) ?_
        refine zw_ifeq ⟨rfl, rfl⟩ rfl (fun c9 => ?_) (fun c9 => ?_)
        · skip
          refine zw_const ⟨rfl, rfl⟩ ?_
          refine zw_ret rfl ?_
          have e : ya_letter σ l w = 0 := by unfold ya_letter; first | (rw [if_pos (by omega)]; done) | (rw [if_neg (by omega)]; (repeat' split) <;> first | rfl | omega | (exfalso; omega))
          rw [e] at k
          exact k _ ymf_0
        · skip
          refine zw_const ⟨rfl, rfl⟩ ?_
          refine zw_goto ⟨rfl, rfl⟩ rfl ?_
          refine zw_ret rfl ?_
          have e : ya_letter σ l w = 1 := by unfold ya_letter; first | (rw [if_pos (by omega)]; done) | (rw [if_neg (by omega)]; (repeat' split) <;> first | rfl | omega | (exfalso; omega))
          rw [e] at k
          exact k _ ymf_0
      by_cases e6_4 : w = 4
      · refine zw_table ⟨rfl, rfl⟩ (t' := 41) (by rw [e6_4]; rfl) ?_
        refine zw_aload ⟨rfl, rfl⟩ rfl ?_
        refine zw_getR 209 ⟨rfl, rfl⟩ zr_208_1 ?_
        refine zw_const ⟨rfl, rfl⟩ ?_
        refine zw_iload ⟨rfl, rfl⟩ rfl ?_
        refine zw_iadd ⟨rfl, rfl⟩ (by omega) ?_
        refine zw_ialdv (v := σ (54 + l)) ⟨rfl, rfl⟩ za_209 (by omega) ((zup_na (by decide)).trans (hM (54 + l) (by omega) (by omega))) ?_
        refine zw_ret rfl ?_
        have e : ya_letter σ l w = σ (54 + l) := by unfold ya_letter; first | (rw [if_pos (by omega)]; done) | (rw [if_neg (by omega)]; (repeat' split) <;> first | rfl | omega | (exfalso; omega))
        rw [e] at k
        exact k _ ymf_0
      by_cases e6_5 : w = 5
      · refine zw_table ⟨rfl, rfl⟩ (t' := 48) (by rw [e6_5]; rfl) ?_
        refine zw_aload ⟨rfl, rfl⟩ rfl ?_
        refine zw_getR 209 ⟨rfl, rfl⟩ zr_208_1 ?_
        refine zw_const ⟨rfl, rfl⟩ ?_
        refine zw_iload ⟨rfl, rfl⟩ rfl ?_
        refine zw_iadd ⟨rfl, rfl⟩ (by omega) ?_
        refine zw_ialdv (v := σ (80 + l)) ⟨rfl, rfl⟩ za_209 (by omega) ((zup_na (by decide)).trans (hM (80 + l) (by omega) (by omega))) ?_
        refine zw_ret rfl ?_
        have e : ya_letter σ l w = σ (80 + l) := by unfold ya_letter; first | (rw [if_pos (by omega)]; done) | (rw [if_neg (by omega)]; (repeat' split) <;> first | rfl | omega | (exfalso; omega))
        rw [e] at k
        exact k _ ymf_0
      refine zw_table ⟨rfl, rfl⟩ (t' := 55) (by rw [ztgt_out (by show _ < (0 : Int) ∨ 0 + 6 ≤ _; omega)]; rfl) ?_
      refine zw_const ⟨rfl, rfl⟩ ?_
      refine zw_ret rfl ?_
      have e : ya_letter σ l w = (-2) := by unfold ya_letter; first | (rw [if_pos (by omega)]; done) | (rw [if_neg (by omega)]; (repeat' split) <;> first | rfl | omega | (exfalso; omega))
      rw [e] at k
      exact k _ ymf_0

theorem d_joins {a b : Int} {M : zM} {Q : zV → zM → Prop} {σ : yS} (hV : yVal σ) (hM : yMo M σ)  (k : ∀ N : zM, ymf M N → Q (0, ya_joins σ a b) N) : zWp kM_joins 0 [(1, 208), (0, a), (0, b)] [] M Q := by
  have hK := yKr_K hV
  have hn := hV.1
  have hci := yci_60 hK
  have eyL : (yTk σ (yci (yK σ) (σ 0))).1 = (yLast σ).1 := rfl
  have hgl := yLast_r hV
  refine zw_aload ⟨rfl, rfl⟩ rfl ?_
  refine zw_const ⟨rfl, rfl⟩ ?_
  refine zw_putI ⟨rfl, rfl⟩ zc_208 (by decide) (fun h => absurd h (by decide)) ?_
  refine zw_iload ⟨rfl, rfl⟩ rfl ?_
  refine zw_calls1 ⟨rfl, rfl⟩ rfl rfl ?_
  refine zw_iload ⟨rfl, rfl⟩ rfl ?_
  refine zw_i2l ⟨rfl, rfl⟩ ?_
  refine zw_lconst ⟨rfl, rfl⟩ ?_
  refine zw_lconst ⟨rfl, rfl⟩ ?_
  refine zw_calLs3 ⟨rfl, rfl⟩ rfl rfl ?_
  refine zw_lload ⟨rfl, rfl⟩ rfl ?_
  refine zw_lload ⟨rfl, rfl⟩ rfl ?_
  refine zw_lcmp ⟨rfl, rfl⟩ ?_
  refine zw_iflt ⟨rfl, rfl⟩ rfl (fun c1 => ?_) (fun c1 => ?_)
  · replace c1 := zlc_lt.mp c1
    refine zw_const ⟨rfl, rfl⟩ ?_
    refine zw_zret rfl (by first | exact Or.inl rfl | exact Or.inr rfl | omega) ?_
    refine zw_zret rfl (by first | exact Or.inl rfl | exact Or.inr rfl | omega) ?_
    refine zw_ifeq ⟨rfl, rfl⟩ rfl (fun _ => ?_) (fun q => absurd (by decide) q)
    refine zw_const ⟨rfl, rfl⟩ ?_
    refine zw_ret rfl ?_
    have e : ya_joins σ a b = (-2) := by unfold ya_joins; (repeat' split) <;> first | rfl | omega | (exfalso; omega)
    rw [e] at k
    exact k _ ymf_0
  · replace c1 := (not_congr zlc_lt).mp c1
    refine zw_lload ⟨rfl, rfl⟩ rfl ?_
    refine zw_lload ⟨rfl, rfl⟩ rfl ?_
    refine zw_lcmp ⟨rfl, rfl⟩ ?_
    refine zw_ifgt ⟨rfl, rfl⟩ rfl (fun c3 => ?_) (fun c3 => ?_)
    · replace c3 := zlc_gt.mp c3
      refine zw_const ⟨rfl, rfl⟩ ?_
      refine zw_zret rfl (by first | exact Or.inl rfl | exact Or.inr rfl | omega) ?_
      refine zw_zret rfl (by first | exact Or.inl rfl | exact Or.inr rfl | omega) ?_
      refine zw_ifeq ⟨rfl, rfl⟩ rfl (fun _ => ?_) (fun q => absurd (by decide) q)
      refine zw_const ⟨rfl, rfl⟩ ?_
      refine zw_ret rfl ?_
      have e : ya_joins σ a b = (-2) := by unfold ya_joins; (repeat' split) <;> first | rfl | omega | (exfalso; omega)
      rw [e] at k
      exact k _ ymf_0
    · replace c3 := (not_congr zlc_gt).mp c3
      refine zw_const ⟨rfl, rfl⟩ ?_
      refine zw_goto ⟨rfl, rfl⟩ rfl ?_
      refine zw_zret rfl (by first | exact Or.inl rfl | exact Or.inr rfl | omega) ?_
      refine zw_zret rfl (by first | exact Or.inl rfl | exact Or.inr rfl | omega) ?_
      refine zw_ifeq ⟨rfl, rfl⟩ rfl (fun q => absurd q (by decide)) (fun _ => ?_)
      refine zw_iload ⟨rfl, rfl⟩ rfl ?_
      refine zw_calls1 ⟨rfl, rfl⟩ rfl rfl ?_
      refine zw_iload ⟨rfl, rfl⟩ rfl ?_
      refine zw_i2l ⟨rfl, rfl⟩ ?_
      refine zw_lconst ⟨rfl, rfl⟩ ?_
      refine zw_lconst ⟨rfl, rfl⟩ ?_
      refine zw_calLs3 ⟨rfl, rfl⟩ rfl rfl ?_
      refine zw_lload ⟨rfl, rfl⟩ rfl ?_
      refine zw_lload ⟨rfl, rfl⟩ rfl ?_
      refine zw_lcmp ⟨rfl, rfl⟩ ?_
      refine zw_iflt ⟨rfl, rfl⟩ rfl (fun c6 => ?_) (fun c6 => ?_)
      · replace c6 := zlc_lt.mp c6
        refine zw_const ⟨rfl, rfl⟩ ?_
        refine zw_zret rfl (by first | exact Or.inl rfl | exact Or.inr rfl | omega) ?_
        refine zw_zret rfl (by first | exact Or.inl rfl | exact Or.inr rfl | omega) ?_
        refine zw_ifne ⟨rfl, rfl⟩ rfl (fun q => absurd q (by decide)) (fun _ => ?_)
        refine zw_const ⟨rfl, rfl⟩ ?_
        refine zw_ret rfl ?_
        have e : ya_joins σ a b = (-2) := by unfold ya_joins; (repeat' split) <;> first | rfl | omega | (exfalso; omega)
        rw [e] at k
        exact k _ ymf_0
      · replace c6 := (not_congr zlc_lt).mp c6
        refine zw_lload ⟨rfl, rfl⟩ rfl ?_
        refine zw_lload ⟨rfl, rfl⟩ rfl ?_
        refine zw_lcmp ⟨rfl, rfl⟩ ?_
        refine zw_ifgt ⟨rfl, rfl⟩ rfl (fun c8 => ?_) (fun c8 => ?_)
        · replace c8 := zlc_gt.mp c8
          refine zw_const ⟨rfl, rfl⟩ ?_
          refine zw_zret rfl (by first | exact Or.inl rfl | exact Or.inr rfl | omega) ?_
          refine zw_zret rfl (by first | exact Or.inl rfl | exact Or.inr rfl | omega) ?_
          refine zw_ifne ⟨rfl, rfl⟩ rfl (fun q => absurd q (by decide)) (fun _ => ?_)
          refine zw_const ⟨rfl, rfl⟩ ?_
          refine zw_ret rfl ?_
          have e : ya_joins σ a b = (-2) := by unfold ya_joins; (repeat' split) <;> first | rfl | omega | (exfalso; omega)
          rw [e] at k
          exact k _ ymf_0
        · replace c8 := (not_congr zlc_gt).mp c8
          refine zw_const ⟨rfl, rfl⟩ ?_
          refine zw_goto ⟨rfl, rfl⟩ rfl ?_
          refine zw_zret rfl (by first | exact Or.inl rfl | exact Or.inr rfl | omega) ?_
          refine zw_zret rfl (by first | exact Or.inl rfl | exact Or.inr rfl | omega) ?_
          refine zw_ifne ⟨rfl, rfl⟩ rfl (fun _ => ?_) (fun q => absurd (by decide) q)
          refine zw_aload ⟨rfl, rfl⟩ rfl ?_
          refine zw_getR 209 ⟨rfl, rfl⟩ zr_208_1 ?_
          refine zw_iload ⟨rfl, rfl⟩ rfl ?_
          refine zw_iload ⟨rfl, rfl⟩ rfl ?_
          refine zw_calls3 ⟨rfl, rfl⟩ rfl rfl ?_
          have hjr : yjn σ a b = 0 ∨ yjn σ a b = 1 := yJ_r σ a b _
          refine m_doJoin_209 (fun j j1 j2 => (hM.cg (zup_row (by decide)) : yMo _ σ) j j1 (by omega)) hV.2.1 ?_
          refine zw_ifeq ⟨rfl, rfl⟩ rfl (fun c11 => ?_) (fun c11 => ?_)
          · skip
            refine zw_const ⟨rfl, rfl⟩ ?_
            refine zw_ret rfl ?_
            have e : ya_joins σ a b = 0 := by unfold ya_joins; (repeat' split) <;> first | rfl | omega | (exfalso; omega)
            rw [e] at k
            exact k _ ymf_0
          · skip
            refine zw_const ⟨rfl, rfl⟩ ?_
            refine zw_goto ⟨rfl, rfl⟩ rfl ?_
            refine zw_ret rfl ?_
            have e : ya_joins σ a b = 1 := by unfold ya_joins; (repeat' split) <;> first | rfl | omega | (exfalso; omega)
            rw [e] at k
            exact k _ ymf_0

theorem d_cluster {i w : Int} {M : zM} {Q : zV → zM → Prop} {σ : yS} (hV : yVal σ) (hM : yMo M σ)  (k : ∀ N : zM, ymf M N → Q (0, ya_cluster σ i w) N) : zWp kM_cluster 0 [(1, 208), (0, i), (0, w)] [] M Q := by
  have hK := yKr_K hV
  have hn := hV.1
  have hci := yci_60 hK
  have eyL : (yTk σ (yci (yK σ) (σ 0))).1 = (yLast σ).1 := rfl
  have hgl := yLast_r hV
  refine zw_aload ⟨rfl, rfl⟩ rfl ?_
  refine zw_const ⟨rfl, rfl⟩ ?_
  refine zw_putI ⟨rfl, rfl⟩ zc_208 (by decide) (fun h => absurd h (by decide)) ?_
  refine zw_aload ⟨rfl, rfl⟩ rfl ?_
  refine zw_iload ⟨rfl, rfl⟩ rfl ?_
  refine zw_callv2 ⟨rfl, rfl⟩ rfl zc_208 rfl ?_
  refine zw_aload ⟨rfl, rfl⟩ rfl ?_
  refine zw_cavv1 ⟨rfl, rfl⟩ rfl zc_208 rfl ?_
  refine m_laysAll hV (hM.cg (zup_row (by decide))) (fun N1 p1 => ?_)
  have hG1 := p1.1
  have hf1 : ymf M N1 := ymf_0.tr p1.2.m
  have hM1 : yMo N1 σ := hM.cg (hf1.1 209 (Or.inl rfl))
  refine zw_iload ⟨rfl, rfl⟩ rfl ?_
  refine zw_i2l ⟨rfl, rfl⟩ ?_
  refine zw_lconst ⟨rfl, rfl⟩ ?_
  refine zw_aload ⟨rfl, rfl⟩ rfl ?_
  refine zw_getIv (v := (yci (yK σ) (σ 0))) ⟨rfl, rfl⟩ zc_208 (by decide) (hG1.1.1) ?_
  refine zw_const ⟨rfl, rfl⟩ ?_
  refine zw_isub ⟨rfl, rfl⟩ (by omega) ?_
  refine zw_i2l ⟨rfl, rfl⟩ ?_
  refine zw_calLs3 ⟨rfl, rfl⟩ rfl rfl ?_
  refine zw_lload ⟨rfl, rfl⟩ rfl ?_
  refine zw_lload ⟨rfl, rfl⟩ rfl ?_
  refine zw_lcmp ⟨rfl, rfl⟩ ?_
  refine zw_iflt ⟨rfl, rfl⟩ rfl (fun c1 => ?_) (fun c1 => ?_)
  · replace c1 := zlc_lt.mp c1
    refine zw_const ⟨rfl, rfl⟩ ?_
    refine zw_zret rfl (by first | exact Or.inl rfl | exact Or.inr rfl | omega) ?_
    refine zw_zret rfl (by first | exact Or.inl rfl | exact Or.inr rfl | omega) ?_
    refine zw_ifne ⟨rfl, rfl⟩ rfl (fun q => absurd q (by decide)) (fun _ => ?_)
    refine zw_const ⟨rfl, rfl⟩ ?_
    refine zw_ret rfl ?_
    have e : ya_cluster σ i w = (-2) := by unfold ya_cluster; first | (rw [if_neg (by omega)]; done) | (rw [if_pos (by omega)]; done) | (rw [if_pos (by omega)]; unfold yclf; (repeat' split) <;> first | rfl | omega | (exfalso; omega))
    rw [e] at k
    exact k _ hf1
  · replace c1 := (not_congr zlc_lt).mp c1
    refine zw_lload ⟨rfl, rfl⟩ rfl ?_
    refine zw_lload ⟨rfl, rfl⟩ rfl ?_
    refine zw_lcmp ⟨rfl, rfl⟩ ?_
    refine zw_ifgt ⟨rfl, rfl⟩ rfl (fun c3 => ?_) (fun c3 => ?_)
    · replace c3 := zlc_gt.mp c3
      refine zw_const ⟨rfl, rfl⟩ ?_
      refine zw_zret rfl (by first | exact Or.inl rfl | exact Or.inr rfl | omega) ?_
      refine zw_zret rfl (by first | exact Or.inl rfl | exact Or.inr rfl | omega) ?_
      refine zw_ifne ⟨rfl, rfl⟩ rfl (fun q => absurd q (by decide)) (fun _ => ?_)
      refine zw_const ⟨rfl, rfl⟩ ?_
      refine zw_ret rfl ?_
      have e : ya_cluster σ i w = (-2) := by unfold ya_cluster; first | (rw [if_neg (by omega)]; done) | (rw [if_pos (by omega)]; done) | (rw [if_pos (by omega)]; unfold yclf; (repeat' split) <;> first | rfl | omega | (exfalso; omega))
      rw [e] at k
      exact k _ hf1
    · replace c3 := (not_congr zlc_gt).mp c3
      refine zw_const ⟨rfl, rfl⟩ ?_
      refine zw_goto ⟨rfl, rfl⟩ rfl ?_
      refine zw_zret rfl (by first | exact Or.inl rfl | exact Or.inr rfl | omega) ?_
      refine zw_zret rfl (by first | exact Or.inl rfl | exact Or.inr rfl | omega) ?_
      refine zw_ifne ⟨rfl, rfl⟩ rfl (fun _ => ?_) (fun q => absurd (by decide) q)
      have hc := hG1.2.1 i (by omega) (by omega)
      have hg1 := yg_r hV (show 0 ≤ i by omega) (show i ≤ (yci (yK σ) (σ 0)) by omega)
      have hg2 := yg_r hV (show 0 ≤ i + 1 by omega) (show i + 1 ≤ (yci (yK σ) (σ 0)) by omega)
      refine zw_iload ⟨rfl, rfl⟩ rfl ?_
      by_cases e6_0 : w = 0
      · refine zw_table ⟨rfl, rfl⟩ (t' := 11) (by rw [e6_0]; rfl) ?_
        refine zw_aload ⟨rfl, rfl⟩ rfl ?_
        refine zw_getR 212 ⟨rfl, rfl⟩ zr_208_5 ?_
        refine zw_iload ⟨rfl, rfl⟩ rfl ?_
        refine zw_ialdv (v := yB (yK σ) (i)) ⟨rfl, rfl⟩ za_212 (by omega) ((hG1.2.2.1 (i) (by omega) (by omega)).1) ?_
        refine zw_ret rfl ?_
        have e : ya_cluster σ i w = yB (yK σ) (i) := by unfold ya_cluster; first | (rw [if_neg (by omega)]; done) | (rw [if_pos (by omega)]; done) | (rw [if_pos (by omega)]; unfold yclf; (repeat' split) <;> first | rfl | omega | (exfalso; omega))
        rw [e] at k
        exact k _ hf1
      by_cases e6_1 : w = 1
      · refine zw_table ⟨rfl, rfl⟩ (t' := 16) (by rw [e6_1]; rfl) ?_
        refine zw_aload ⟨rfl, rfl⟩ rfl ?_
        refine zw_getR 213 ⟨rfl, rfl⟩ zr_208_6 ?_
        refine zw_iload ⟨rfl, rfl⟩ rfl ?_
        refine zw_ialdv (v := yB (yK σ) (i + 1) - yB (yK σ) i) ⟨rfl, rfl⟩ za_213 (by omega) (hc.2.1) ?_
        refine zw_ret rfl ?_
        have e : ya_cluster σ i w = yB (yK σ) (i + 1) - yB (yK σ) i := by unfold ya_cluster; first | (rw [if_neg (by omega)]; done) | (rw [if_pos (by omega)]; done) | (rw [if_pos (by omega)]; unfold yclf; (repeat' split) <;> first | rfl | omega | (exfalso; omega))
        rw [e] at k
        exact k _ hf1
      by_cases e6_2 : w = 2
      · refine zw_table ⟨rfl, rfl⟩ (t' := 21) (by rw [e6_2]; rfl) ?_
        refine zw_aload ⟨rfl, rfl⟩ rfl ?_
        refine zw_getR 214 ⟨rfl, rfl⟩ zr_208_7 ?_
        refine zw_iload ⟨rfl, rfl⟩ rfl ?_
        refine zw_ialdv (v := yso (yK σ (yB (yK σ) i))) ⟨rfl, rfl⟩ za_214 (by omega) (hc.2.2.1) ?_
        refine zw_ret rfl ?_
        have e : ya_cluster σ i w = yso (yK σ (yB (yK σ) i)) := by unfold ya_cluster; first | (rw [if_neg (by omega)]; done) | (rw [if_pos (by omega)]; done) | (rw [if_pos (by omega)]; unfold yclf; (repeat' split) <;> first | rfl | omega | (exfalso; omega))
        rw [e] at k
        exact k _ hf1
      by_cases e6_3 : w = 3
      · refine zw_table ⟨rfl, rfl⟩ (t' := 26) (by rw [e6_3]; rfl) ?_
        refine zw_aload ⟨rfl, rfl⟩ rfl ?_
        refine zw_getR 215 ⟨rfl, rfl⟩ zr_208_8 ?_
        refine zw_iload ⟨rfl, rfl⟩ rfl ?_
        refine zw_ialdv (v := ydd (yK σ) (yB (yK σ) i)) ⟨rfl, rfl⟩ za_215 (by omega) (hc.2.2.2.1) ?_
        refine zw_ret rfl ?_
        have e : ya_cluster σ i w = ydd (yK σ) (yB (yK σ) i) := by unfold ya_cluster; first | (rw [if_neg (by omega)]; done) | (rw [if_pos (by omega)]; done) | (rw [if_pos (by omega)]; unfold yclf; (repeat' split) <;> first | rfl | omega | (exfalso; omega))
        rw [e] at k
        exact k _ hf1
      by_cases e6_4 : w = 4
      · refine zw_table ⟨rfl, rfl⟩ (t' := 31) (by rw [e6_4]; rfl) ?_
        refine zw_aload ⟨rfl, rfl⟩ rfl ?_
        refine zw_getR 216 ⟨rfl, rfl⟩ zr_208_9 ?_
        refine zw_iload ⟨rfl, rfl⟩ rfl ?_
        refine zw_ialdv (v := yms (yK σ) (yB (yK σ) i)) ⟨rfl, rfl⟩ za_216 (by omega) (hc.2.2.2.2.1) ?_
        refine zw_ret rfl ?_
        have e : ya_cluster σ i w = yms (yK σ) (yB (yK σ) i) := by unfold ya_cluster; first | (rw [if_neg (by omega)]; done) | (rw [if_pos (by omega)]; done) | (rw [if_pos (by omega)]; unfold yclf; (repeat' split) <;> first | rfl | omega | (exfalso; omega))
        rw [e] at k
        exact k _ hf1
      by_cases e6_5 : w = 5
      · refine zw_table ⟨rfl, rfl⟩ (t' := 36) (by rw [e6_5]; rfl) ?_
        refine zw_aload ⟨rfl, rfl⟩ rfl ?_
        refine zw_getR 217 ⟨rfl, rfl⟩ zr_208_10 ?_
        refine zw_iload ⟨rfl, rfl⟩ rfl ?_
        refine zw_ialdv (v := ybp σ (yK σ) (yB (yK σ) i)) ⟨rfl, rfl⟩ za_217 (by omega) (hc.2.2.2.2.2.1) ?_
        refine zw_ret rfl ?_
        have e : ya_cluster σ i w = ybp σ (yK σ) (yB (yK σ) i) := by unfold ya_cluster; first | (rw [if_neg (by omega)]; done) | (rw [if_pos (by omega)]; done) | (rw [if_pos (by omega)]; unfold yclf; (repeat' split) <;> first | rfl | omega | (exfalso; omega))
        rw [e] at k
        exact k _ hf1
      by_cases e6_6 : w = 6
      · refine zw_table ⟨rfl, rfl⟩ (t' := 41) (by rw [e6_6]; rfl) ?_
        refine zw_aload ⟨rfl, rfl⟩ rfl ?_
        refine zw_getR 218 ⟨rfl, rfl⟩ zr_208_11 ?_
        refine zw_iload ⟨rfl, rfl⟩ rfl ?_
        refine zw_ialdv (v := yrp σ (yK σ) (yB (yK σ) i)) ⟨rfl, rfl⟩ za_218 (by omega) (hc.2.2.2.2.2.2.1) ?_
        refine zw_ret rfl ?_
        have e : ya_cluster σ i w = yrp σ (yK σ) (yB (yK σ) i) := by unfold ya_cluster; first | (rw [if_neg (by omega)]; done) | (rw [if_pos (by omega)]; done) | (rw [if_pos (by omega)]; unfold yclf; (repeat' split) <;> first | rfl | omega | (exfalso; omega))
        rw [e] at k
        exact k _ hf1
      by_cases e6_7 : w = 7
      · refine zw_table ⟨rfl, rfl⟩ (t' := 46) (by rw [e6_7]; rfl) ?_
        refine zw_aload ⟨rfl, rfl⟩ rfl ?_
        refine zw_getR 219 ⟨rfl, rfl⟩ zr_208_12 ?_
        refine zw_iload ⟨rfl, rfl⟩ rfl ?_
        refine zw_ialdv (v := if yms (yK σ) (yB (yK σ) i) = 0 then 0 else yms (yK σ) (yB (yK σ) i) - 1 - yba σ (yK σ) (yB (yK σ) i)) ⟨rfl, rfl⟩ za_219 (by omega) (hc.2.2.2.2.2.2.2.1) ?_
        refine zw_ret rfl ?_
        have e : ya_cluster σ i w = if yms (yK σ) (yB (yK σ) i) = 0 then 0 else yms (yK σ) (yB (yK σ) i) - 1 - yba σ (yK σ) (yB (yK σ) i) := by unfold ya_cluster; first | (rw [if_neg (by omega)]; done) | (rw [if_pos (by omega)]; done) | (rw [if_pos (by omega)]; unfold yclf; (repeat' split) <;> first | rfl | omega | (exfalso; omega))
        rw [e] at k
        exact k _ hf1
      by_cases e6_8 : w = 8
      · refine zw_table ⟨rfl, rfl⟩ (t' := 51) (by rw [e6_8]; rfl) ?_
        refine zw_aload ⟨rfl, rfl⟩ rfl ?_
        refine zw_getR 220 ⟨rfl, rfl⟩ zr_208_13 ?_
        refine zw_iload ⟨rfl, rfl⟩ rfl ?_
        refine zw_ialdv (v := ypr σ (yK σ) (yB (yK σ) i)) ⟨rfl, rfl⟩ za_220 (by omega) (hc.2.2.2.2.2.2.2.2) ?_
        refine zw_ret rfl ?_
        have e : ya_cluster σ i w = ypr σ (yK σ) (yB (yK σ) i) := by unfold ya_cluster; first | (rw [if_neg (by omega)]; done) | (rw [if_pos (by omega)]; done) | (rw [if_pos (by omega)]; unfold yclf; (repeat' split) <;> first | rfl | omega | (exfalso; omega))
        rw [e] at k
        exact k _ hf1
      by_cases e6_9 : w = 9
      · refine zw_table ⟨rfl, rfl⟩ (t' := 56) (by rw [e6_9]; rfl) ?_
        refine zw_aload ⟨rfl, rfl⟩ rfl ?_
        refine zw_getR 221 ⟨rfl, rfl⟩ zr_208_14 ?_
        refine zw_iload ⟨rfl, rfl⟩ rfl ?_
        refine zw_const ⟨rfl, rfl⟩ ?_
        refine zw_iadd ⟨rfl, rfl⟩ (by omega) ?_
        refine zw_ialdv (v := (yTk σ ((i + 1))).1) ⟨rfl, rfl⟩ za_221 (by omega) ((hG1.2.2.1 ((i + 1)) (by omega) (by omega)).2) ?_
        refine zw_aload ⟨rfl, rfl⟩ rfl ?_
        refine zw_getR 221 ⟨rfl, rfl⟩ zr_208_14 ?_
        refine zw_iload ⟨rfl, rfl⟩ rfl ?_
        refine zw_ialdv (v := (yTk σ (i)).1) ⟨rfl, rfl⟩ za_221 (by omega) ((hG1.2.2.1 (i) (by omega) (by omega)).2) ?_
        refine zw_isub ⟨rfl, rfl⟩ (by omega) ?_
        refine zw_ret rfl ?_
        have e : ya_cluster σ i w = ((yTk σ ((i + 1))).1) - ((yTk σ (i)).1) := by unfold ya_cluster; first | (rw [if_neg (by omega)]; done) | (rw [if_pos (by omega)]; done) | (rw [if_pos (by omega)]; unfold yclf; (repeat' split) <;> first | rfl | omega | (exfalso; omega))
        rw [e] at k
        exact k _ hf1
      by_cases e6_10 : w = 10
      · refine zw_table ⟨rfl, rfl⟩ (t' := 68) (by rw [e6_10]; rfl) ?_
        refine zw_aload ⟨rfl, rfl⟩ rfl ?_
        refine zw_iload ⟨rfl, rfl⟩ rfl ?_
        refine zw_callv2 ⟨rfl, rfl⟩ rfl zc_208 rfl ?_
        refine m_clusterWidth hV hG1 ⟨by omega, by omega⟩ ?_
        refine zw_ret rfl ?_
        have e : ya_cluster σ i w = yX σ (i + 1) - yX σ i := by unfold ya_cluster; first | (rw [if_neg (by omega)]; done) | (rw [if_pos (by omega)]; done) | (rw [if_pos (by omega)]; unfold yclf; (repeat' split) <;> first | rfl | omega | (exfalso; omega))
        rw [e] at k
        exact k _ hf1
      refine zw_table ⟨rfl, rfl⟩ (t' := 72) (by rw [ztgt_out (by show _ < (0 : Int) ∨ 0 + 11 ≤ _; omega)]; rfl) ?_
      refine zw_const ⟨rfl, rfl⟩ ?_
      refine zw_ret rfl ?_
      have e : ya_cluster σ i w = (-2) := by unfold ya_cluster; first | (rw [if_neg (by omega)]; done) | (rw [if_pos (by omega)]; done) | (rw [if_pos (by omega)]; unfold yclf; (repeat' split) <;> first | rfl | omega | (exfalso; omega))
      rw [e] at k
      exact k _ hf1

theorem d_glyph {g w : Int} {M : zM} {Q : zV → zM → Prop} {σ : yS} (hV : yVal σ) (hM : yMo M σ)  (k : ∀ N : zM, ymf M N → Q (0, ya_glyph σ g w) N) : zWp kM_glyph 0 [(1, 208), (0, g), (0, w)] [] M Q := by
  have hK := yKr_K hV
  have hn := hV.1
  have hci := yci_60 hK
  have eyL : (yTk σ (yci (yK σ) (σ 0))).1 = (yLast σ).1 := rfl
  have hgl := yLast_r hV
  refine zw_aload ⟨rfl, rfl⟩ rfl ?_
  refine zw_const ⟨rfl, rfl⟩ ?_
  refine zw_putI ⟨rfl, rfl⟩ zc_208 (by decide) (fun h => absurd h (by decide)) ?_
  refine zw_aload ⟨rfl, rfl⟩ rfl ?_
  refine zw_cavv1 ⟨rfl, rfl⟩ rfl zc_208 rfl ?_
  refine m_laysAll hV (hM.cg (zup_row (by decide))) (fun N1 p1 => ?_)
  have hG1 := p1.1
  have hf1 : ymf M N1 := ymf_0.tr p1.2.m
  have hM1 : yMo N1 σ := hM.cg (hf1.1 209 (Or.inl rfl))
  refine zw_iload ⟨rfl, rfl⟩ rfl ?_
  refine zw_i2l ⟨rfl, rfl⟩ ?_
  refine zw_lconst ⟨rfl, rfl⟩ ?_
  refine zw_aload ⟨rfl, rfl⟩ rfl ?_
  refine zw_getIv (v := (yLast σ).1) ⟨rfl, rfl⟩ zc_208 (by decide) (hG1.1.2) ?_
  refine zw_const ⟨rfl, rfl⟩ ?_
  refine zw_isub ⟨rfl, rfl⟩ (by omega) ?_
  refine zw_i2l ⟨rfl, rfl⟩ ?_
  refine zw_calLs3 ⟨rfl, rfl⟩ rfl rfl ?_
  refine zw_lload ⟨rfl, rfl⟩ rfl ?_
  refine zw_lload ⟨rfl, rfl⟩ rfl ?_
  refine zw_lcmp ⟨rfl, rfl⟩ ?_
  refine zw_iflt ⟨rfl, rfl⟩ rfl (fun c1 => ?_) (fun c1 => ?_)
  · replace c1 := zlc_lt.mp c1
    refine zw_const ⟨rfl, rfl⟩ ?_
    refine zw_zret rfl (by first | exact Or.inl rfl | exact Or.inr rfl | omega) ?_
    refine zw_ifne ⟨rfl, rfl⟩ rfl (fun q => absurd q (by decide)) (fun _ => ?_)
    refine zw_const ⟨rfl, rfl⟩ ?_
    refine zw_ret rfl ?_
    have e : ya_glyph σ g w = (-2) := by unfold ya_glyph; first | (rw [if_neg (by omega)]; done) | (rw [if_pos (by omega)]; unfold ygl; (first | (have hw0 : w = 0 := by omega) | (have hw0 : w = 1 := by omega) | (have hw0 : w = 2 := by omega) | (have hw0 : w = 3 := by omega) | (have hw0 : w = 4 := by omega) | (have hw0 : w = 5 := by omega) | (have hw0 : w = 6 := by omega)); rw [hw0]; first | rfl | (simp; done) | (rw [if_pos rfl]; done) | (rw [if_neg (by decide)]; rfl))
    rw [e] at k
    exact k _ hf1
  · replace c1 := (not_congr zlc_lt).mp c1
    refine zw_lload ⟨rfl, rfl⟩ rfl ?_
    refine zw_lload ⟨rfl, rfl⟩ rfl ?_
    refine zw_lcmp ⟨rfl, rfl⟩ ?_
    refine zw_ifgt ⟨rfl, rfl⟩ rfl (fun c3 => ?_) (fun c3 => ?_)
    · replace c3 := zlc_gt.mp c3
      refine zw_const ⟨rfl, rfl⟩ ?_
      refine zw_zret rfl (by first | exact Or.inl rfl | exact Or.inr rfl | omega) ?_
      refine zw_ifne ⟨rfl, rfl⟩ rfl (fun q => absurd q (by decide)) (fun _ => ?_)
      refine zw_const ⟨rfl, rfl⟩ ?_
      refine zw_ret rfl ?_
      have e : ya_glyph σ g w = (-2) := by unfold ya_glyph; first | (rw [if_neg (by omega)]; done) | (rw [if_pos (by omega)]; unfold ygl; (first | (have hw0 : w = 0 := by omega) | (have hw0 : w = 1 := by omega) | (have hw0 : w = 2 := by omega) | (have hw0 : w = 3 := by omega) | (have hw0 : w = 4 := by omega) | (have hw0 : w = 5 := by omega) | (have hw0 : w = 6 := by omega)); rw [hw0]; first | rfl | (simp; done) | (rw [if_pos rfl]; done) | (rw [if_neg (by decide)]; rfl))
      rw [e] at k
      exact k _ hf1
    · replace c3 := (not_congr zlc_gt).mp c3
      refine zw_const ⟨rfl, rfl⟩ ?_
      refine zw_goto ⟨rfl, rfl⟩ rfl ?_
      refine zw_zret rfl (by first | exact Or.inl rfl | exact Or.inr rfl | omega) ?_
      refine zw_ifne ⟨rfl, rfl⟩ rfl (fun _ => ?_) (fun q => absurd (by decide) q)
      refine zw_iload ⟨rfl, rfl⟩ rfl ?_
      by_cases e6_0 : w = 0
      · refine zw_table ⟨rfl, rfl⟩ (t' := 19) (by rw [e6_0]; rfl) ?_
        refine zw_aload ⟨rfl, rfl⟩ rfl ?_
        refine zw_getR 227 ⟨rfl, rfl⟩ zr_208_23 ?_
        refine zw_iload ⟨rfl, rfl⟩ rfl ?_
        refine zw_ialdv (v := (yLast σ).2.1 0 (g)) ⟨rfl, rfl⟩ za_227 (by omega) ((hG1.2.2.2.1 (g) (by omega) (by omega)).1) ?_
        refine zw_ret rfl ?_
        have e : ya_glyph σ g w = (yLast σ).2.1 0 (g) := by unfold ya_glyph; first | (rw [if_neg (by omega)]; done) | (rw [if_pos (by omega)]; unfold ygl; (first | (have hw0 : w = 0 := by omega) | (have hw0 : w = 1 := by omega) | (have hw0 : w = 2 := by omega) | (have hw0 : w = 3 := by omega) | (have hw0 : w = 4 := by omega) | (have hw0 : w = 5 := by omega) | (have hw0 : w = 6 := by omega)); rw [hw0]; first | rfl | (simp; done) | (rw [if_pos rfl]; done) | (rw [if_neg (by decide)]; rfl))
        rw [e] at k
        exact k _ hf1
      by_cases e6_1 : w = 1
      · refine zw_table ⟨rfl, rfl⟩ (t' := 24) (by rw [e6_1]; rfl) ?_
        refine zw_aload ⟨rfl, rfl⟩ rfl ?_
        refine zw_getR 228 ⟨rfl, rfl⟩ zr_208_24 ?_
        refine zw_iload ⟨rfl, rfl⟩ rfl ?_
        refine zw_ialdv (v := (yLast σ).2.1 1 (g)) ⟨rfl, rfl⟩ za_228 (by omega) ((hG1.2.2.2.1 (g) (by omega) (by omega)).2.1) ?_
        refine zw_ret rfl ?_
        have e : ya_glyph σ g w = (yLast σ).2.1 1 (g) := by unfold ya_glyph; first | (rw [if_neg (by omega)]; done) | (rw [if_pos (by omega)]; unfold ygl; (first | (have hw0 : w = 0 := by omega) | (have hw0 : w = 1 := by omega) | (have hw0 : w = 2 := by omega) | (have hw0 : w = 3 := by omega) | (have hw0 : w = 4 := by omega) | (have hw0 : w = 5 := by omega) | (have hw0 : w = 6 := by omega)); rw [hw0]; first | rfl | (simp; done) | (rw [if_pos rfl]; done) | (rw [if_neg (by decide)]; rfl))
        rw [e] at k
        exact k _ hf1
      by_cases e6_2 : w = 2
      · refine zw_table ⟨rfl, rfl⟩ (t' := 29) (by rw [e6_2]; rfl) ?_
        refine zw_aload ⟨rfl, rfl⟩ rfl ?_
        refine zw_getR 229 ⟨rfl, rfl⟩ zr_208_25 ?_
        refine zw_iload ⟨rfl, rfl⟩ rfl ?_
        refine zw_ialdv (v := (yLast σ).2.1 2 (g)) ⟨rfl, rfl⟩ za_229 (by omega) ((hG1.2.2.2.1 (g) (by omega) (by omega)).2.2.1) ?_
        refine zw_ret rfl ?_
        have e : ya_glyph σ g w = (yLast σ).2.1 2 (g) := by unfold ya_glyph; first | (rw [if_neg (by omega)]; done) | (rw [if_pos (by omega)]; unfold ygl; (first | (have hw0 : w = 0 := by omega) | (have hw0 : w = 1 := by omega) | (have hw0 : w = 2 := by omega) | (have hw0 : w = 3 := by omega) | (have hw0 : w = 4 := by omega) | (have hw0 : w = 5 := by omega) | (have hw0 : w = 6 := by omega)); rw [hw0]; first | rfl | (simp; done) | (rw [if_pos rfl]; done) | (rw [if_neg (by decide)]; rfl))
        rw [e] at k
        exact k _ hf1
      by_cases e6_3 : w = 3
      · refine zw_table ⟨rfl, rfl⟩ (t' := 34) (by rw [e6_3]; rfl) ?_
        refine zw_aload ⟨rfl, rfl⟩ rfl ?_
        refine zw_getR 230 ⟨rfl, rfl⟩ zr_208_26 ?_
        refine zw_iload ⟨rfl, rfl⟩ rfl ?_
        refine zw_ialdv (v := (yLast σ).2.1 3 (g)) ⟨rfl, rfl⟩ za_230 (by omega) ((hG1.2.2.2.1 (g) (by omega) (by omega)).2.2.2.1) ?_
        refine zw_ret rfl ?_
        have e : ya_glyph σ g w = (yLast σ).2.1 3 (g) := by unfold ya_glyph; first | (rw [if_neg (by omega)]; done) | (rw [if_pos (by omega)]; unfold ygl; (first | (have hw0 : w = 0 := by omega) | (have hw0 : w = 1 := by omega) | (have hw0 : w = 2 := by omega) | (have hw0 : w = 3 := by omega) | (have hw0 : w = 4 := by omega) | (have hw0 : w = 5 := by omega) | (have hw0 : w = 6 := by omega)); rw [hw0]; first | rfl | (simp; done) | (rw [if_pos rfl]; done) | (rw [if_neg (by decide)]; rfl))
        rw [e] at k
        exact k _ hf1
      by_cases e6_4 : w = 4
      · refine zw_table ⟨rfl, rfl⟩ (t' := 39) (by rw [e6_4]; rfl) ?_
        refine zw_aload ⟨rfl, rfl⟩ rfl ?_
        refine zw_getR 231 ⟨rfl, rfl⟩ zr_208_27 ?_
        refine zw_iload ⟨rfl, rfl⟩ rfl ?_
        refine zw_ialdv (v := (yLast σ).2.1 4 (g)) ⟨rfl, rfl⟩ za_231 (by omega) ((hG1.2.2.2.1 (g) (by omega) (by omega)).2.2.2.2.1) ?_
        refine zw_ret rfl ?_
        have e : ya_glyph σ g w = (yLast σ).2.1 4 (g) := by unfold ya_glyph; first | (rw [if_neg (by omega)]; done) | (rw [if_pos (by omega)]; unfold ygl; (first | (have hw0 : w = 0 := by omega) | (have hw0 : w = 1 := by omega) | (have hw0 : w = 2 := by omega) | (have hw0 : w = 3 := by omega) | (have hw0 : w = 4 := by omega) | (have hw0 : w = 5 := by omega) | (have hw0 : w = 6 := by omega)); rw [hw0]; first | rfl | (simp; done) | (rw [if_pos rfl]; done) | (rw [if_neg (by decide)]; rfl))
        rw [e] at k
        exact k _ hf1
      by_cases e6_5 : w = 5
      · refine zw_table ⟨rfl, rfl⟩ (t' := 44) (by rw [e6_5]; rfl) ?_
        refine zw_aload ⟨rfl, rfl⟩ rfl ?_
        refine zw_getR 232 ⟨rfl, rfl⟩ zr_208_28 ?_
        refine zw_iload ⟨rfl, rfl⟩ rfl ?_
        refine zw_ialdv (v := (yLast σ).2.1 5 (g)) ⟨rfl, rfl⟩ za_232 (by omega) ((hG1.2.2.2.1 (g) (by omega) (by omega)).2.2.2.2.2.1) ?_
        refine zw_ret rfl ?_
        have e : ya_glyph σ g w = (yLast σ).2.1 5 (g) := by unfold ya_glyph; first | (rw [if_neg (by omega)]; done) | (rw [if_pos (by omega)]; unfold ygl; (first | (have hw0 : w = 0 := by omega) | (have hw0 : w = 1 := by omega) | (have hw0 : w = 2 := by omega) | (have hw0 : w = 3 := by omega) | (have hw0 : w = 4 := by omega) | (have hw0 : w = 5 := by omega) | (have hw0 : w = 6 := by omega)); rw [hw0]; first | rfl | (simp; done) | (rw [if_pos rfl]; done) | (rw [if_neg (by decide)]; rfl))
        rw [e] at k
        exact k _ hf1
      by_cases e6_6 : w = 6
      · refine zw_table ⟨rfl, rfl⟩ (t' := 49) (by rw [e6_6]; rfl) ?_
        refine zw_aload ⟨rfl, rfl⟩ rfl ?_
        refine zw_getR 233 ⟨rfl, rfl⟩ zr_208_29 ?_
        refine zw_iload ⟨rfl, rfl⟩ rfl ?_
        refine zw_ialdv (v := yW (yLast σ) (g)) ⟨rfl, rfl⟩ za_233 (by omega) ((hG1.2.2.2.1 (g) (by omega) (by omega)).2.2.2.2.2.2) ?_
        refine zw_ret rfl ?_
        have e : ya_glyph σ g w = yW (yLast σ) (g) := by unfold ya_glyph; first | (rw [if_neg (by omega)]; done) | (rw [if_pos (by omega)]; unfold ygl; (first | (have hw0 : w = 0 := by omega) | (have hw0 : w = 1 := by omega) | (have hw0 : w = 2 := by omega) | (have hw0 : w = 3 := by omega) | (have hw0 : w = 4 := by omega) | (have hw0 : w = 5 := by omega) | (have hw0 : w = 6 := by omega)); rw [hw0]; first | rfl | (simp; done) | (rw [if_pos rfl]; done) | (rw [if_neg (by decide)]; rfl))
        rw [e] at k
        exact k _ hf1
      refine zw_table ⟨rfl, rfl⟩ (t' := 54) (by rw [ztgt_out (by show _ < (0 : Int) ∨ 0 + 7 ≤ _; omega)]; rfl) ?_
      refine zw_const ⟨rfl, rfl⟩ ?_
      refine zw_ret rfl ?_
      have e : ya_glyph σ g w = (-2) := by unfold ya_glyph; first | (rw [if_neg (by omega)]; done) | (rw [if_pos (by omega)]; unfold ygl; (first | (have hw0 : w = 0 := by omega) | (have hw0 : w = 1 := by omega) | (have hw0 : w = 2 := by omega) | (have hw0 : w = 3 := by omega) | (have hw0 : w = 4 := by omega) | (have hw0 : w = 5 := by omega) | (have hw0 : w = 6 := by omega)); rw [hw0]; first | rfl | (simp; done) | (rw [if_pos rfl]; done) | (rw [if_neg (by decide)]; rfl))
      rw [e] at k
      exact k _ hf1
