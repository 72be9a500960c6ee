/-! Lines as even as can be -/
theorem yq2 {x : Int} (h0 : 0 ≤ x) (h1 : x ≤ 200) : 0 ≤ x * x ∧ x * x ≤ 40000 := ⟨Int.mul_nonneg h0 h0, Int.mul_le_mul h1 h1 h0 (by decide)⟩
theorem yX_mo {σ : yS} (hV : yVal σ) {i j : Int} (h0 : 0 ≤ i) (h : i ≤ j) : yX σ i ≤ yX σ j := by
  refine yind (P := fun j => yX σ i ≤ yX σ j) (Int.le_refl _) (fun p h3 ih => ?_) j h
  have e := yX_s hV (c := p) (by omega)
  have := ysm_nn (f := yW (yTk σ (p + 1))) (fun q => (ywd_r _ _).1) (yTk_pre σ (i := p) (j := p + 1) (by omega) (by omega)).1
  show yX σ i ≤ yX σ (p + 1)
  omega
def ysq (σ : yS) (w c : Int) (S : Int → Int) (b : Int) : Int := if b = (yci (yK σ) (σ 0)) then 0 else (w - (yX σ b - yX σ c)) * (w - (yX σ b - yX σ c)) + S b
def yc1 (σ : yS) (w c : Int) (S : Int → Int) (b : Int) (g : Int × Int) : Int × Int := if yX σ b - yX σ c ≤ w ∧ (g.1 = -1 ∨ ysq σ w c S b ≤ g.1) then (ysq σ w c S b, b) else g
def yc2 (σ : yS) (w c : Int) (S : Int → Int) (b : Int) : Int × Int := yfo (yc1 σ w c S) (c + 1) b (-1, 0)
def ych (σ : yS) (w c : Int) (S : Int → Int) : Int × Int := yc2 σ w c S ((yci (yK σ) (σ 0)) + 1)
def yev (σ : yS) (w : Int) : Nat → (Int → Int) × (Int → Int)
  | 0 => ((fun _ => 0), fun _ => 0)
  | m + 1 => ((fun j => if j = (yci (yK σ) (σ 0)) - ((m : Int) + 1) then (ych σ w j (yev σ w m).1).1 else (yev σ w m).1 j), fun j => if j = (yci (yK σ) (σ 0)) - ((m : Int) + 1) then (ych σ w j (yev σ w m).1).2 else (yev σ w m).2 j)
def yE (σ : yS) (w : Int) : (Int → Int) × (Int → Int) := yev σ w (yci (yK σ) (σ 0)).toNat
def ySb (σ : yS) (c : Int) (S : Int → Int) : Prop := ∀ b, c < b → b < (yci (yK σ) (σ 0)) → 0 ≤ S b ∧ S b ≤ 40000 * ((yci (yK σ) (σ 0)) - b)
theorem ysq_r {σ : yS} {w c b : Int} {S : Int → Int} (hV : yVal σ) (hw : 1 ≤ w ∧ w ≤ 200) (hS : ySb σ c S) (h0 : 0 ≤ c ∧ c < b ∧ b ≤ (yci (yK σ) (σ 0))) (h : yX σ b - yX σ c ≤ w) : 0 ≤ ysq σ w c S b ∧ ysq σ w c S b ≤ 40000 * ((yci (yK σ) (σ 0)) - c) := by
  have hm := yX_mo hV h0.1 (show c ≤ b by omega)
  unfold ysq
  split
  · omega
  · have := hS b h0.2.1 (by omega)
    have := yq2 (x := w - (yX σ b - yX σ c)) (by omega) (by omega)
    omega
theorem yc2_0 {σ : yS} {w c : Int} {S : Int → Int} : yc2 σ w c S (c + 1) = (-1, 0) := yfo_0 _ (Int.le_refl _) _
theorem yc2_s {σ : yS} {w c b : Int} {S : Int → Int} (h : c < b) : yc2 σ w c S (b + 1) = yc1 σ w c S b (yc2 σ w c S b) := yfo_s _ (by omega) _
theorem yc2_r {σ : yS} {w c : Int} {S : Int → Int} (hV : yVal σ) (hw : 1 ≤ w ∧ w ≤ 200) (hS : ySb σ c S) (h0 : 0 ≤ c) : ∀ b, c + 1 ≤ b → b ≤ (yci (yK σ) (σ 0)) + 1 → (yc2 σ w c S b).1 = -1 ∨ ((0 ≤ (yc2 σ w c S b).1 ∧ (yc2 σ w c S b).1 ≤ 40000 * ((yci (yK σ) (σ 0)) - c)) ∧ c < (yc2 σ w c S b).2 ∧ (yc2 σ w c S b).2 ≤ (yci (yK σ) (σ 0))) := by
  refine yind (P := fun b => b ≤ (yci (yK σ) (σ 0)) + 1 → (yc2 σ w c S b).1 = -1 ∨ ((0 ≤ (yc2 σ w c S b).1 ∧ (yc2 σ w c S b).1 ≤ 40000 * ((yci (yK σ) (σ 0)) - c)) ∧ c < (yc2 σ w c S b).2 ∧ (yc2 σ w c S b).2 ≤ (yci (yK σ) (σ 0)))) ?_ ?_
  · intro _; rw [yc2_0]; exact Or.inl rfl
  · intro p p1 ih hp
    rw [yc2_s (by omega)]
    unfold yc1
    split
    · rename_i g
      exact Or.inr ⟨ysq_r hV hw hS ⟨h0, by omega, by omega⟩ g.1, show c < p by omega, show p ≤ (yci (yK σ) (σ 0)) by omega⟩
    · exact ih (by omega)
theorem yc2_ne {σ : yS} {w c : Int} {S : Int → Int} (hV : yVal σ) (hw : 1 ≤ w ∧ w ≤ 200) (hS : ySb σ c S) (h0 : 0 ≤ c ∧ c < (yci (yK σ) (σ 0))) (hf : yX σ (c + 1) - yX σ c ≤ w) : ∀ b, c + 2 ≤ b → b ≤ (yci (yK σ) (σ 0)) + 1 → (yc2 σ w c S b).1 ≠ -1 := by
  refine yind (P := fun b => b ≤ (yci (yK σ) (σ 0)) + 1 → (yc2 σ w c S b).1 ≠ -1) ?_ ?_
  · intro _
    have := ysq_r hV hw hS (b := c + 1) ⟨h0.1, by omega, by omega⟩ hf
    rw [show c + 2 = (c + 1) + 1 by omega, yc2_s (by omega), yc2_0]
    unfold yc1
    rw [if_pos ⟨hf, Or.inl rfl⟩]
    show ysq σ w c S (c + 1) ≠ -1
    omega
  · intro p p1 ih hp
    rw [yc2_s (by omega)]
    unfold yc1
    split
    · rename_i g
      have := ysq_r hV hw hS (b := p) ⟨h0.1, by omega, by omega⟩ g.1
      show ysq σ w c S p ≠ -1
      omega
    · exact ih (by omega)
/-- behind one that is too wide nothing changes -/
theorem yc2_x {σ : yS} {w c b : Int} {S : Int → Int} (hV : yVal σ) (h0 : 0 ≤ c ∧ c < b) (hx : b ≤ (yci (yK σ) (σ 0)) → w < yX σ b - yX σ c) : ∀ p, b ≤ p → p ≤ (yci (yK σ) (σ 0)) + 1 → yc2 σ w c S p = yc2 σ w c S b := by
  refine yind (P := fun p => p ≤ (yci (yK σ) (σ 0)) + 1 → yc2 σ w c S p = yc2 σ w c S b) (fun _ => rfl) ?_
  intro p p1 ih hp
  have hm := yX_mo hV (show 0 ≤ b by omega) p1
  have hx := hx (by omega)
  rw [yc2_s (by omega)]
  unfold yc1
  rw [if_neg (fun z => by have := z.1; omega)]
  exact ih (by omega)
theorem yc2_y {σ : yS} {w c b : Int} {S : Int → Int} (h : c < b) (h1 : yX σ b - yX σ c ≤ w) (h2 : (yc2 σ w c S b).1 = -1 ∨ ysq σ w c S b ≤ (yc2 σ w c S b).1) : yc2 σ w c S (b + 1) = (ysq σ w c S b, b) := (yc2_s h).trans (if_pos ⟨h1, h2⟩)
theorem yc2_n {σ : yS} {w c b : Int} {S : Int → Int} (h : c < b) (h2 : ¬ ((yc2 σ w c S b).1 = -1 ∨ ysq σ w c S b ≤ (yc2 σ w c S b).1)) : yc2 σ w c S (b + 1) = yc2 σ w c S b := (yc2_s h).trans (if_neg (fun z => h2 z.2))
theorem yev_r {σ : yS} {w : Int} (hV : yVal σ) (hw : 1 ≤ w ∧ w ≤ 200) (hf : yfit σ w = 1) : ∀ m : Nat, (m : Int) ≤ (yci (yK σ) (σ 0)) → (∀ c, (yci (yK σ) (σ 0)) - m ≤ c → c < (yci (yK σ) (σ 0)) → (0 ≤ (yev σ w m).1 c ∧ (yev σ w m).1 c ≤ 40000 * ((yci (yK σ) (σ 0)) - c)) ∧ c < (yev σ w m).2 c ∧ (yev σ w m).2 c ≤ (yci (yK σ) (σ 0))) ∧ (yev σ w m).1 (yci (yK σ) (σ 0)) = 0 := by
  intro m
  induction m with
  | zero => intro _; exact ⟨fun c c1 c2 => absurd c1 (by omega), rfl⟩
  | succ m ih =>
    intro hm
    obtain ⟨a, b⟩ := ih (by omega)
    unfold yev
    refine ⟨fun c c1 c2 => ?_, ?_⟩
    · dsimp only
      by_cases q : c = (yci (yK σ) (σ 0)) - ((m : Int) + 1)
      · rw [if_pos q, if_pos q]
        have hS : ySb σ c (yev σ w m).1 := fun b b1 b2 => (a b (by omega) b2).1
        have h1 := yc2_ne hV hw hS ⟨by omega, c2⟩ (yfit_a hf c (by omega) c2) ((yci (yK σ) (σ 0)) + 1) (by omega) (Int.le_refl _)
        exact (yc2_r hV hw hS (by omega) ((yci (yK σ) (σ 0)) + 1) (by omega) (Int.le_refl _)).resolve_left h1
      · rw [if_neg q, if_neg q]
        exact a c (by omega) c2
    · dsimp only
      rw [if_neg (by omega)]
      exact b
def yr1 (σ : yS) (w : Int) (s : yG3) : yG3 := if s.2.2 < (yci (yK σ) (σ 0)) then (s.1 + 1, (fun k => if k = s.1 then (yE σ w).2 s.2.2 else s.2.1 k), (yE σ w).2 s.2.2) else s
def yrn (σ : yS) (w j : Int) : yG3 := yfo (fun _ => yr1 σ w) 0 j (0, (fun _ => 0), 0)
def ygv (σ : yS) (w : Int) : yG3 := yrn σ w (yci (yK σ) (σ 0))
theorem yrn_0 (σ : yS) (w : Int) : yrn σ w 0 = (0, (fun _ => 0), 0) := yfo_0 _ (Int.le_refl _) _
theorem yrn_s (σ : yS) (w : Int) {j : Int} (h : 0 ≤ j) : yrn σ w (j + 1) = yr1 σ w (yrn σ w j) := yfo_s _ h _
theorem yrn_r {σ : yS} {w : Int} (hV : yVal σ) (hw : 1 ≤ w ∧ w ≤ 200) (hf : yfit σ w = 1) : ∀ j, 0 ≤ j → (0 ≤ (yrn σ w j).1 ∧ (yrn σ w j).1 ≤ (yrn σ w j).2.2 ∧ (yrn σ w j).2.2 ≤ (yci (yK σ) (σ 0)) ∧ (yrn σ w j).1 ≤ j) ∧ ((yrn σ w j).2.2 < (yci (yK σ) (σ 0)) → (yrn σ w j).1 = j) ∧ ∀ k, 0 ≤ k → k < (yrn σ w j).1 → 0 ≤ (yrn σ w j).2.1 k ∧ (yrn σ w j).2.1 k ≤ (yci (yK σ) (σ 0)) := by
  have hci := yci_60 (yKr_K hV)
  refine yind (P := fun j => (0 ≤ (yrn σ w j).1 ∧ (yrn σ w j).1 ≤ (yrn σ w j).2.2 ∧ (yrn σ w j).2.2 ≤ (yci (yK σ) (σ 0)) ∧ (yrn σ w j).1 ≤ j) ∧ ((yrn σ w j).2.2 < (yci (yK σ) (σ 0)) → (yrn σ w j).1 = j) ∧ ∀ k, 0 ≤ k → k < (yrn σ w j).1 → 0 ≤ (yrn σ w j).2.1 k ∧ (yrn σ w j).2.1 k ≤ (yci (yK σ) (σ 0))) ?_ ?_
  · rw [yrn_0]
    exact ⟨⟨Int.le_refl _, Int.le_refl _, hci.1, Int.le_refl _⟩, fun _ => rfl, fun k k1 k2 => absurd k2 (by show ¬ (k < 0); omega)⟩
  · intro j j1 ih
    obtain ⟨⟨a1, a2, a3, a4⟩, a5, a6⟩ := ih
    rw [yrn_s σ w j1]
    unfold yr1
    split
    · rename_i g
      have hb := ((yev_r hV hw hf (yci (yK σ) (σ 0)).toNat (by omega)).1 (yrn σ w j).2.2 (by omega) g).2
      have hb1 : (yrn σ w j).2.2 < (yE σ w).2 (yrn σ w j).2.2 := hb.1
      have hb2 : (yE σ w).2 (yrn σ w j).2.2 ≤ (yci (yK σ) (σ 0)) := hb.2
      have a5 := a5 g
      refine ⟨⟨?_, ?_, hb2, ?_⟩, fun _ => ?_, fun k k1 k2 => ?_⟩
      · show 0 ≤ (yrn σ w j).1 + 1; omega
      · show (yrn σ w j).1 + 1 ≤ (yE σ w).2 (yrn σ w j).2.2; omega
      · show (yrn σ w j).1 + 1 ≤ j + 1; omega
      · show (yrn σ w j).1 + 1 = j + 1; omega
      · have k2 : k < (yrn σ w j).1 + 1 := k2
        show 0 ≤ (if k = (yrn σ w j).1 then (yE σ w).2 (yrn σ w j).2.2 else (yrn σ w j).2.1 k) ∧ (if k = (yrn σ w j).1 then (yE σ w).2 (yrn σ w j).2.2 else (yrn σ w j).2.1 k) ≤ (yci (yK σ) (σ 0))
        split
        · omega
        · exact a6 k k1 (by omega)
    · rename_i g
      exact ⟨⟨a1, a2, a3, by omega⟩, fun z => absurd z g, a6⟩
theorem yrn_x {σ : yS} {w j : Int} (h0 : 0 ≤ j) (h : ¬ (yrn σ w j).2.2 < (yci (yK σ) (σ 0))) : ∀ p, j ≤ p → yrn σ w p = yrn σ w j := by
  refine yind (P := fun p => yrn σ w p = yrn σ w j) rfl ?_
  intro p p1 ih
  rw [yrn_s σ w (by omega), ih]
  exact if_neg h
theorem yrn_N {σ : yS} {w : Int} (hV : yVal σ) (hw : 1 ≤ w ∧ w ≤ 200) (hf : yfit σ w = 1) : (ygv σ w).2.2 = (yci (yK σ) (σ 0)) := by
  have hci := yci_60 (yKr_K hV)
  obtain ⟨⟨a1, a2, a3, a4⟩, a5, a6⟩ := yrn_r hV hw hf (yci (yK σ) (σ 0)) hci.1
  show (yrn σ w (yci (yK σ) (σ 0))).2.2 = _
  by_cases g : (yrn σ w (yci (yK σ) (σ 0))).2.2 < (yci (yK σ) (σ 0))
  · have := a5 g; omega
  · omega
def ya_even (σ : yS) (w : Int) : Int := if 1 ≤ w ∧ w ≤ 200 then (if yfit σ w = 1 then (yE σ w).1 0 else -1) else -3
def ya_evenEnd (σ : yS) (w i : Int) : Int := if (1 ≤ w ∧ w ≤ 200) ∧ 0 ≤ i then (if yfit σ w = 1 ∧ i < (ygv σ w).1 then yB (yK σ) ((ygv σ w).2.1 i) else -1) else -3
section
set_option maxHeartbeats 4000000
theorem m_choose_l {w c : Int} {S : Int → Int} {M : zM} {Q : zV → zM → Prop} {σ : yS} (hV : yVal σ) (hG : ySet M σ) (hw : 1 ≤ w ∧ w ≤ 200) (hc : 0 ≤ c ∧ c < (yci (yK σ) (σ 0))) (hS : ySb σ c S) (hR : ∀ b, c < b → b < (yci (yK σ) (σ 0)) → M 142 b = S b) (kk : ∀ P : zM, ((P 142 c = (ych σ w c S).1 ∧ ((ych σ w c S).1 ≠ -1 → P 143 c = (ych σ w c S).2)) ∧ (∀ x, x ≠ 142 → x ≠ 143 → P x = M x) ∧ ∀ j, j ≠ c → P 142 j = M 142 j ∧ P 143 j = M 143 j) → Q (3, 0) P) : ∀ (f0 : Nat) (b : Int) (u6 u7 : zV) (P : zM), (c + 1 ≤ b ∧ b ≤ (yci (yK σ) (σ 0)) + 1) → (P 142 c = (yc2 σ w c S b).1 ∧ ((yc2 σ w c S b).1 ≠ -1 → P 143 c = (yc2 σ w c S b).2)) → (∀ x, x ≠ 142 → x ≠ 143 → P x = M x) → (∀ j, j ≠ c → P 142 j = M 142 j ∧ P 143 j = M 143 j) → ((yci (yK σ) (σ 0)) + 1 - b).toNat < f0 → zWp kWr_chooseBreak 9 [(1, 140), (1, 136), (0, (yci (yK σ) (σ 0))), (0, w), (0, c), (0, b), u6, u7] [] P Q := by
  intro f0
  induction f0 with
  | zero => intro b u6 u7 P i1 i3 iF iJ hf0; exact absurd hf0 (Nat.not_lt_zero _)
  | succ f0 ih =>
    intro b u6 u7 P i1 i3 iF iJ hf0
    have hK := yKr_K hV
    have hn := hV.1
    have hci := yci_60 hK
    have hgr := yc2_r hV hw hS hc.1 b i1.1 i1.2
    refine zw_iload ⟨rfl, rfl⟩ rfl ?_
    refine zw_iload ⟨rfl, rfl⟩ rfl ?_
    refine zw_icgt ⟨rfl, rfl⟩ rfl (fun c1 => ?_) (fun c1 => ?_)
    · skip
      refine zw_void rfl ?_
      have ee : ych σ w c S = (yc2 σ w c S b) := yc2_x hV ⟨hc.1, by omega⟩ (fun z => by omega) _ (by omega) (Int.le_refl _)
      refine kk _ ⟨?_, iF, iJ⟩
      rw [ee]
      exact i3
    · skip
      have hx_b := yX_r hV (show 0 ≤ b by omega) (show b ≤ (yci (yK σ) (σ 0)) by omega)
      have hx_c := yX_r hV (show 0 ≤ c by omega) (show c ≤ (yci (yK σ) (σ 0)) by omega)
      have hmo := yX_mo hV hc.1 (show c ≤ b by omega)
      refine zw_aload ⟨rfl, rfl⟩ rfl ?_
      refine zw_iload ⟨rfl, rfl⟩ rfl ?_
      refine zw_ialdv (v := yX σ (b)) ⟨rfl, rfl⟩ za_136 (by omega) (((congrFun (iF 136 (by decide) (by decide)) (b)).trans (hG.2.1.2.2.2 (b) (by omega) (by omega)).2)) ?_
      refine zw_aload ⟨rfl, rfl⟩ rfl ?_
      refine zw_iload ⟨rfl, rfl⟩ rfl ?_
      refine zw_ialdv (v := yX σ (c)) ⟨rfl, rfl⟩ za_136 (by omega) (((congrFun (iF 136 (by decide) (by decide)) (c)).trans (hG.2.1.2.2.2 (c) (by omega) (by omega)).2)) ?_
      refine zw_isub ⟨rfl, rfl⟩ (by omega) ?_
      refine zw_iload ⟨rfl, rfl⟩ rfl ?_
      refine zw_icgt ⟨rfl, rfl⟩ rfl (fun c2 => ?_) (fun c2 => ?_)
      · skip
        refine zw_void rfl ?_
        have ee : ych σ w c S = (yc2 σ w c S b) := yc2_x hV ⟨hc.1, by omega⟩ (fun z => by omega) _ (by omega) (Int.le_refl _)
        refine kk _ ⟨?_, iF, iJ⟩
        rw [ee]
        exact i3
      · skip
        refine zw_iload ⟨rfl, rfl⟩ rfl ?_
        refine zw_aload ⟨rfl, rfl⟩ rfl ?_
        refine zw_iload ⟨rfl, rfl⟩ rfl ?_
        refine zw_ialdv (v := yX σ (b)) ⟨rfl, rfl⟩ za_136 (by omega) (((congrFun (iF 136 (by decide) (by decide)) (b)).trans (hG.2.1.2.2.2 (b) (by omega) (by omega)).2)) ?_
        refine zw_aload ⟨rfl, rfl⟩ rfl ?_
        refine zw_iload ⟨rfl, rfl⟩ rfl ?_
        refine zw_ialdv (v := yX σ (c)) ⟨rfl, rfl⟩ za_136 (by omega) (((congrFun (iF 136 (by decide) (by decide)) (c)).trans (hG.2.1.2.2.2 (c) (by omega) (by omega)).2)) ?_
        refine zw_isub ⟨rfl, rfl⟩ (by omega) ?_
        refine zw_isub ⟨rfl, rfl⟩ (by omega) ?_
        refine zw_istore_6 ⟨rfl, rfl⟩ ?_
        refine zw_iload ⟨rfl, rfl⟩ rfl ?_
        refine zw_iload ⟨rfl, rfl⟩ rfl ?_
        refine zw_icne ⟨rfl, rfl⟩ rfl (fun c3 => ?_) (fun c3 => ?_)
        · skip
          have hq := yq2 (x := w - (yX σ b - yX σ c)) (by omega) (by omega)
          have hsb := hS b (by omega) (by omega)
          refine zw_iload ⟨rfl, rfl⟩ rfl ?_
          refine zw_iload ⟨rfl, rfl⟩ rfl ?_
          refine zw_imul ⟨rfl, rfl⟩ (by omega) ?_
          refine zw_aload ⟨rfl, rfl⟩ rfl ?_
          refine zw_getR 142 ⟨rfl, rfl⟩ zr_140_2 ?_
          refine zw_iload ⟨rfl, rfl⟩ rfl ?_
          refine zw_ialdv (v := S b) ⟨rfl, rfl⟩ za_142 (by omega) (((iJ b (by omega)).1.trans (hR b (by omega) (by omega)))) ?_
          refine zw_iadd ⟨rfl, rfl⟩ (by omega) ?_
          refine zw_istore_7 ⟨rfl, rfl⟩ ?_
          refine zw_aload ⟨rfl, rfl⟩ rfl ?_
          refine zw_getR 142 ⟨rfl, rfl⟩ zr_140_2 ?_
          refine zw_iload ⟨rfl, rfl⟩ rfl ?_
          refine zw_ialdv (v := (yc2 σ w c S b).1) ⟨rfl, rfl⟩ za_142 (by omega) (i3.1) ?_
          refine zw_const ⟨rfl, rfl⟩ ?_
          refine zw_iceq ⟨rfl, rfl⟩ rfl (fun c4 => ?_) (fun c4 => ?_)
          · skip
            refine zw_aload ⟨rfl, rfl⟩ rfl ?_
            refine zw_getR 142 ⟨rfl, rfl⟩ zr_140_2 ?_
            refine zw_iload ⟨rfl, rfl⟩ rfl ?_
            refine zw_iload ⟨rfl, rfl⟩ rfl ?_
            refine zw_iast ⟨rfl, rfl⟩ za_142 (by omega) ?_
            refine zw_aload ⟨rfl, rfl⟩ rfl ?_
            refine zw_getR 143 ⟨rfl, rfl⟩ zr_140_3 ?_
            refine zw_iload ⟨rfl, rfl⟩ rfl ?_
            refine zw_iload ⟨rfl, rfl⟩ rfl ?_
            refine zw_iast ⟨rfl, rfl⟩ za_143 (by omega) ?_
            refine zw_iinc_5 ⟨rfl, rfl⟩ (by omega) ?_
            refine zw_goto ⟨rfl, rfl⟩ rfl ?_
            have hsq : ysq σ w c S b = ((w - ((yX σ (b)) - (yX σ (c)))) * (w - ((yX σ (b)) - (yX σ (c))))) + (S b) := if_neg (by omega)
            have eg := yc2_y (σ := σ) (w := w) (S := S) (show c < b by omega) (by omega) (by rw [hsq]; omega)
            refine ih _ _ _ _ ⟨by omega, by omega⟩ ?_ (fun x x1 x2 => (zup_row x2).trans ((zup_row x1).trans (iF x x1 x2))) (fun j hj => ⟨(zup_na (by decide)).trans ((zup_ni hj).trans (iJ j hj).1), (zup_ni hj).trans ((zup_na (by decide)).trans (iJ j hj).2)⟩) (by omega)
            rw [eg, hsq]
            exact ⟨(zup_na (by decide)).trans (zup_eq _ _ _ _), fun _ => zup_eq _ _ _ _⟩
          · skip
            refine zw_iload ⟨rfl, rfl⟩ rfl ?_
            refine zw_aload ⟨rfl, rfl⟩ rfl ?_
            refine zw_getR 142 ⟨rfl, rfl⟩ zr_140_2 ?_
            refine zw_iload ⟨rfl, rfl⟩ rfl ?_
            refine zw_ialdv (v := (yc2 σ w c S b).1) ⟨rfl, rfl⟩ za_142 (by omega) (i3.1) ?_
            refine zw_icgt ⟨rfl, rfl⟩ rfl (fun c5 => ?_) (fun c5 => ?_)
            · skip
              refine zw_iinc_5 ⟨rfl, rfl⟩ (by omega) ?_
              refine zw_goto ⟨rfl, rfl⟩ rfl ?_
              have hsq : ysq σ w c S b = ((w - ((yX σ (b)) - (yX σ (c)))) * (w - ((yX σ (b)) - (yX σ (c))))) + (S b) := if_neg (by omega)
              have eg := yc2_n (σ := σ) (w := w) (S := S) (show c < b by omega) (by rw [hsq]; omega)
              exact ih _ _ _ _ ⟨by omega, by omega⟩ (by rw [eg]; exact i3) iF iJ (by omega)
            · skip
              refine zw_aload ⟨rfl, rfl⟩ rfl ?_
              refine zw_getR 142 ⟨rfl, rfl⟩ zr_140_2 ?_
              refine zw_iload ⟨rfl, rfl⟩ rfl ?_
              refine zw_iload ⟨rfl, rfl⟩ rfl ?_
              refine zw_iast ⟨rfl, rfl⟩ za_142 (by omega) ?_
              refine zw_aload ⟨rfl, rfl⟩ rfl ?_
              refine zw_getR 143 ⟨rfl, rfl⟩ zr_140_3 ?_
              refine zw_iload ⟨rfl, rfl⟩ rfl ?_
              refine zw_iload ⟨rfl, rfl⟩ rfl ?_
              refine zw_iast ⟨rfl, rfl⟩ za_143 (by omega) ?_
              refine zw_iinc_5 ⟨rfl, rfl⟩ (by omega) ?_
              refine zw_goto ⟨rfl, rfl⟩ rfl ?_
              have hsq : ysq σ w c S b = ((w - ((yX σ (b)) - (yX σ (c)))) * (w - ((yX σ (b)) - (yX σ (c))))) + (S b) := if_neg (by omega)
              have eg := yc2_y (σ := σ) (w := w) (S := S) (show c < b by omega) (by omega) (by rw [hsq]; omega)
              refine ih _ _ _ _ ⟨by omega, by omega⟩ ?_ (fun x x1 x2 => (zup_row x2).trans ((zup_row x1).trans (iF x x1 x2))) (fun j hj => ⟨(zup_na (by decide)).trans ((zup_ni hj).trans (iJ j hj).1), (zup_ni hj).trans ((zup_na (by decide)).trans (iJ j hj).2)⟩) (by omega)
              rw [eg, hsq]
              exact ⟨(zup_na (by decide)).trans (zup_eq _ _ _ _), fun _ => zup_eq _ _ _ _⟩
        · skip
          refine zw_const ⟨rfl, rfl⟩ ?_
          refine zw_goto ⟨rfl, rfl⟩ rfl ?_
          refine zw_istore_7 ⟨rfl, rfl⟩ ?_
          refine zw_aload ⟨rfl, rfl⟩ rfl ?_
          refine zw_getR 142 ⟨rfl, rfl⟩ zr_140_2 ?_
          refine zw_iload ⟨rfl, rfl⟩ rfl ?_
          refine zw_ialdv (v := (yc2 σ w c S b).1) ⟨rfl, rfl⟩ za_142 (by omega) (i3.1) ?_
          refine zw_const ⟨rfl, rfl⟩ ?_
          refine zw_iceq ⟨rfl, rfl⟩ rfl (fun c6 => ?_) (fun c6 => ?_)
          · skip
            refine zw_aload ⟨rfl, rfl⟩ rfl ?_
            refine zw_getR 142 ⟨rfl, rfl⟩ zr_140_2 ?_
            refine zw_iload ⟨rfl, rfl⟩ rfl ?_
            refine zw_iload ⟨rfl, rfl⟩ rfl ?_
            refine zw_iast ⟨rfl, rfl⟩ za_142 (by omega) ?_
            refine zw_aload ⟨rfl, rfl⟩ rfl ?_
            refine zw_getR 143 ⟨rfl, rfl⟩ zr_140_3 ?_
            refine zw_iload ⟨rfl, rfl⟩ rfl ?_
            refine zw_iload ⟨rfl, rfl⟩ rfl ?_
            refine zw_iast ⟨rfl, rfl⟩ za_143 (by omega) ?_
            refine zw_iinc_5 ⟨rfl, rfl⟩ (by omega) ?_
            refine zw_goto ⟨rfl, rfl⟩ rfl ?_
            have hsq : ysq σ w c S b = 0 := if_pos (by omega)
            have eg := yc2_y (σ := σ) (w := w) (S := S) (show c < b by omega) (by omega) (by rw [hsq]; omega)
            refine ih _ _ _ _ ⟨by omega, by omega⟩ ?_ (fun x x1 x2 => (zup_row x2).trans ((zup_row x1).trans (iF x x1 x2))) (fun j hj => ⟨(zup_na (by decide)).trans ((zup_ni hj).trans (iJ j hj).1), (zup_ni hj).trans ((zup_na (by decide)).trans (iJ j hj).2)⟩) (by omega)
            rw [eg, hsq]
            exact ⟨(zup_na (by decide)).trans (zup_eq _ _ _ _), fun _ => zup_eq _ _ _ _⟩
          · skip
            refine zw_iload ⟨rfl, rfl⟩ rfl ?_
            refine zw_aload ⟨rfl, rfl⟩ rfl ?_
            refine zw_getR 142 ⟨rfl, rfl⟩ zr_140_2 ?_
            refine zw_iload ⟨rfl, rfl⟩ rfl ?_
            refine zw_ialdv (v := (yc2 σ w c S b).1) ⟨rfl, rfl⟩ za_142 (by omega) (i3.1) ?_
            refine zw_icgt ⟨rfl, rfl⟩ rfl (fun c7 => ?_) (fun c7 => ?_)
            · skip
              refine zw_iinc_5 ⟨rfl, rfl⟩ (by omega) ?_
              refine zw_goto ⟨rfl, rfl⟩ rfl ?_
              have hsq : ysq σ w c S b = 0 := if_pos (by omega)
              have eg := yc2_n (σ := σ) (w := w) (S := S) (show c < b by omega) (by rw [hsq]; omega)
              exact ih _ _ _ _ ⟨by omega, by omega⟩ (by rw [eg]; exact i3) iF iJ (by omega)
            · skip
              refine zw_aload ⟨rfl, rfl⟩ rfl ?_
              refine zw_getR 142 ⟨rfl, rfl⟩ zr_140_2 ?_
              refine zw_iload ⟨rfl, rfl⟩ rfl ?_
              refine zw_iload ⟨rfl, rfl⟩ rfl ?_
              refine zw_iast ⟨rfl, rfl⟩ za_142 (by omega) ?_
              refine zw_aload ⟨rfl, rfl⟩ rfl ?_
              refine zw_getR 143 ⟨rfl, rfl⟩ zr_140_3 ?_
              refine zw_iload ⟨rfl, rfl⟩ rfl ?_
              refine zw_iload ⟨rfl, rfl⟩ rfl ?_
              refine zw_iast ⟨rfl, rfl⟩ za_143 (by omega) ?_
              refine zw_iinc_5 ⟨rfl, rfl⟩ (by omega) ?_
              refine zw_goto ⟨rfl, rfl⟩ rfl ?_
              have hsq : ysq σ w c S b = 0 := if_pos (by omega)
              have eg := yc2_y (σ := σ) (w := w) (S := S) (show c < b by omega) (by omega) (by rw [hsq]; omega)
              refine ih _ _ _ _ ⟨by omega, by omega⟩ ?_ (fun x x1 x2 => (zup_row x2).trans ((zup_row x1).trans (iF x x1 x2))) (fun j hj => ⟨(zup_na (by decide)).trans ((zup_ni hj).trans (iJ j hj).1), (zup_ni hj).trans ((zup_na (by decide)).trans (iJ j hj).2)⟩) (by omega)
              rw [eg, hsq]
              exact ⟨(zup_na (by decide)).trans (zup_eq _ _ _ _), fun _ => zup_eq _ _ _ _⟩

theorem m_choose {w c : Int} {S : Int → Int} {M : zM} {Q : zV → zM → Prop} {σ : yS} (hV : yVal σ) (hG : ySet M σ) (hw : 1 ≤ w ∧ w ≤ 200) (hc : 0 ≤ c ∧ c < (yci (yK σ) (σ 0))) (hS : ySb σ c S) (hR : ∀ b, c < b → b < (yci (yK σ) (σ 0)) → M 142 b = S b) (kk : ∀ P : zM, ((P 142 c = (ych σ w c S).1 ∧ ((ych σ w c S).1 ≠ -1 → P 143 c = (ych σ w c S).2)) ∧ (∀ x, x ≠ 142 → x ≠ 143 → P x = M x) ∧ ∀ j, j ≠ c → P 142 j = M 142 j ∧ P 143 j = M 143 j) → Q (3, 0) P) : zWp kWr_chooseBreak 0 [(1, 140), (1, 136), (0, (yci (yK σ) (σ 0))), (0, w), (0, c), (3, 0), (3, 0), (3, 0)] [] M Q := by
  have hK := yKr_K hV
  have hn := hV.1
  have hci := yci_60 hK
  refine zw_aload ⟨rfl, rfl⟩ rfl ?_
  refine zw_getR 142 ⟨rfl, rfl⟩ zr_140_2 ?_
  refine zw_iload ⟨rfl, rfl⟩ rfl ?_
  refine zw_const ⟨rfl, rfl⟩ ?_
  refine zw_iast ⟨rfl, rfl⟩ za_142 (by omega) ?_
  refine zw_iload ⟨rfl, rfl⟩ rfl ?_
  refine zw_const ⟨rfl, rfl⟩ ?_
  refine zw_iadd ⟨rfl, rfl⟩ (by omega) ?_
  refine zw_istore_5 ⟨rfl, rfl⟩ ?_
  have hG2 : ySet (zup M 142 c (-1)) σ := hG.cg (fun b b1 b2 => zup_row (by omega))
  refine m_choose_l (M := zup M 142 c (-1)) hV hG2 hw hc hS (fun b b1 b2 => (zup_ni (by omega)).trans (hR b b1 b2)) (fun P p => kk P ⟨p.1, fun x x1 x2 => (p.2.1 x x1 x2).trans (zup_row x1), fun j hj => ⟨(p.2.2 j hj).1.trans (zup_ni hj), (p.2.2 j hj).2.trans (zup_na (by decide))⟩⟩) _ _ _ _ _ ⟨by omega, by omega⟩ ?_ (fun _ _ _ => rfl) (fun _ _ => ⟨rfl, rfl⟩) (Nat.lt_succ_self _)
  rw [yc2_0]
  exact ⟨zup_eq _ _ _ _, fun z => absurd rfl z⟩

theorem yev_st {σ : yS} {w c : Int} {M P : zM} {r s : Int} (hV : yVal σ) (hw : 1 ≤ w ∧ w ≤ 200) (hf : yfit σ w = 1) (hc : 0 ≤ c ∧ c < (yci (yK σ) (σ 0))) (h1 : (∀ j, c < j → j ≤ (yci (yK σ) (σ 0)) → M r j = (yev σ w ((yci (yK σ) (σ 0)) - 1 - c).toNat).1 j) ∧ ∀ j, c < j → j < (yci (yK σ) (σ 0)) → M s j = (yev σ w ((yci (yK σ) (σ 0)) - 1 - c).toNat).2 j)
    (h2 : P r c = (ych σ w c (yev σ w ((yci (yK σ) (σ 0)) - 1 - c).toNat).1).1 ∧ ((ych σ w c (yev σ w ((yci (yK σ) (σ 0)) - 1 - c).toNat).1).1 ≠ -1 → P s c = (ych σ w c (yev σ w ((yci (yK σ) (σ 0)) - 1 - c).toNat).1).2)) (h3 : ∀ j, j ≠ c → P r j = M r j ∧ P s j = M s j) :
    (∀ j, c + -1 < j → j ≤ (yci (yK σ) (σ 0)) → P r j = (yev σ w ((yci (yK σ) (σ 0)) - 1 - (c + -1)).toNat).1 j) ∧ ∀ j, c + -1 < j → j < (yci (yK σ) (σ 0)) → P s j = (yev σ w ((yci (yK σ) (σ 0)) - 1 - (c + -1)).toNat).2 j := by
  have hS : ySb σ c (yev σ w ((yci (yK σ) (σ 0)) - 1 - c).toNat).1 := fun b b1 b2 => ((yev_r hV hw hf ((yci (yK σ) (σ 0)) - 1 - c).toNat (by omega)).1 b (by omega) b2).1
  have hne := yc2_ne hV hw hS hc (yfit_a hf c hc.1 hc.2) ((yci (yK σ) (σ 0)) + 1) (by omega) (Int.le_refl _)
  rw [show ((yci (yK σ) (σ 0)) - 1 - (c + -1)).toNat = ((yci (yK σ) (σ 0)) - 1 - c).toNat + 1 by omega]
  unfold yev
  refine ⟨fun j j1 j2 => ?_, fun j j1 j2 => ?_⟩
  · dsimp only
    by_cases q : j = c
    · rw [if_pos (by omega), q]; exact h2.1
    · rw [if_neg (by omega), (h3 j q).1]; exact h1.1 j (by omega) j2
  · dsimp only
    by_cases q : j = c
    · rw [if_pos (by omega), q]; exact h2.2 hne
    · rw [if_neg (by omega), (h3 j q).2]; exact h1.2 j (by omega) j2

theorem m_even_f {w : Int} {M : zM} {Q : zV → zM → Prop} {σ : yS} (hV : yVal σ) (hG : ySet M σ) (hw : 1 ≤ w ∧ w ≤ 200) (hf : yfit σ w = 1) (hE : (∀ j, 0 ≤ j → j ≤ (yci (yK σ) (σ 0)) → M 142 j = (yE σ w).1 j) ∧ ∀ j, 0 ≤ j → j < (yci (yK σ) (σ 0)) → M 143 j = (yE σ w).2 j) (kk : ∀ P : zM, (yEn P (ygv σ w) ∧ yfw M P) → Q (0, (yE σ w).1 0) P) : ∀ (f0 : Nat) (s j : Int) (P : zM), (0 ≤ j ∧ j ≤ (yci (yK σ) (σ 0))) → (s = (yrn σ w j).2.2) → (yEn P (yrn σ w j)) → (∀ x, x ≠ 140 → x ≠ 141 → P x = M x) → ((yci (yK σ) (σ 0)) - j).toNat < f0 → zWp kWr_evenly 34 [(1, 140), (1, 136), (0, (yci (yK σ) (σ 0))), (0, w), (0, s), (0, j)] [] P Q := by
  intro f0
  induction f0 with
  | zero => intro s j P i1 i2 i3 iF hf0; exact absurd hf0 (Nat.not_lt_zero _)
  | succ f0 ih =>
    intro s j P i1 i2 i3 iF hf0
    have hK := yKr_K hV
    have hn := hV.1
    have hci := yci_60 hK
    have hr := yrn_r hV hw hf j i1.1
    obtain ⟨⟨r1, r2, r3, r4⟩, r5, r6⟩ := hr
    refine zw_iload ⟨rfl, rfl⟩ rfl ?_
    refine zw_iload ⟨rfl, rfl⟩ rfl ?_
    refine zw_icge ⟨rfl, rfl⟩ rfl (fun c1 => ?_) (fun c1 => ?_)
    · skip
      refine zw_aload ⟨rfl, rfl⟩ rfl ?_
      refine zw_getR 142 ⟨rfl, rfl⟩ zr_140_2 ?_
      refine zw_const ⟨rfl, rfl⟩ ?_
      refine zw_ialdv (v := (yE σ w).1 0) ⟨rfl, rfl⟩ za_142 (by omega) (((congrFun (iF 142 (by decide) (by decide)) 0).trans (hE.1 0 (by omega) hci.1))) ?_
      refine zw_ret rfl ?_
      have ee : ygv σ w = (yrn σ w j) := by
        by_cases z : (yrn σ w j).2.2 < (yci (yK σ) (σ 0))
        · rw [show j = (yci (yK σ) (σ 0)) by omega]; rfl
        · exact yrn_x i1.1 z _ i1.2
      rw [ee] at kk
      exact kk _ ⟨i3, fun x hx => iF x (by omega) (by omega)⟩
    · skip
      refine zw_iload ⟨rfl, rfl⟩ rfl ?_
      refine zw_iload ⟨rfl, rfl⟩ rfl ?_
      refine zw_icge ⟨rfl, rfl⟩ rfl (fun c2 => ?_) (fun c2 => ?_)
      · skip
        refine zw_aload ⟨rfl, rfl⟩ rfl ?_
        refine zw_getR 142 ⟨rfl, rfl⟩ zr_140_2 ?_
        refine zw_const ⟨rfl, rfl⟩ ?_
        refine zw_ialdv (v := (yE σ w).1 0) ⟨rfl, rfl⟩ za_142 (by omega) (((congrFun (iF 142 (by decide) (by decide)) 0).trans (hE.1 0 (by omega) hci.1))) ?_
        refine zw_ret rfl ?_
        have ee : ygv σ w = (yrn σ w j) := by
          by_cases z : (yrn σ w j).2.2 < (yci (yK σ) (σ 0))
          · rw [show j = (yci (yK σ) (σ 0)) by omega]; rfl
          · exact yrn_x i1.1 z _ i1.2
        rw [ee] at kk
        exact kk _ ⟨i3, fun x hx => iF x (by omega) (by omega)⟩
      · skip
        have r7 := r5 (by omega)
        refine zw_aload ⟨rfl, rfl⟩ rfl ?_
        refine zw_getR 143 ⟨rfl, rfl⟩ zr_140_3 ?_
        refine zw_iload ⟨rfl, rfl⟩ rfl ?_
        refine zw_ialdv (v := (yE σ w).2 (s)) ⟨rfl, rfl⟩ za_143 (by omega) (((congrFun (iF 143 (by decide) (by decide)) _).trans (hE.2 _ (by omega) (by omega)))) ?_
        refine zw_istore_4 ⟨rfl, rfl⟩ ?_
        refine zw_aload ⟨rfl, rfl⟩ rfl ?_
        refine zw_iload ⟨rfl, rfl⟩ rfl ?_
        refine zw_cavv2 ⟨rfl, rfl⟩ rfl zc_140 rfl ?_
        refine m_endLine i3.1 ⟨by omega, by omega⟩ ?_
        refine zw_iinc_5 ⟨rfl, rfl⟩ (by omega) ?_
        refine zw_goto ⟨rfl, rfl⟩ rfl ?_
        have es : yrn σ w (j + 1) = ((yrn σ w j).1 + 1, (fun k => if k = (yrn σ w j).1 then (yE σ w).2 (yrn σ w j).2.2 else (yrn σ w j).2.1 k), (yE σ w).2 (yrn σ w j).2.2) := (yrn_s σ w i1.1).trans (if_pos (by omega))
        rw [i2]
        refine ih _ _ _ ⟨by omega, by omega⟩ (by rw [es]) ?_ (fun x x1 x2 => (zup_row x1).trans ((zup_row x2).trans (iF x x1 x2))) (by omega)
        rw [es]
        exact i3.ps rfl rfl

theorem m_even_d {w : Int} {M : zM} {Q : zV → zM → Prop} {σ : yS} (hV : yVal σ) (hG : ySet M σ) (hw : 1 ≤ w ∧ w ≤ 200) (hf : yfit σ w = 1) (kk : ∀ P : zM, (P 140 0 = 0 ∧ ((∀ j, 0 ≤ j → j ≤ (yci (yK σ) (σ 0)) → P 142 j = (yE σ w).1 j) ∧ ∀ j, 0 ≤ j → j < (yci (yK σ) (σ 0)) → P 143 j = (yE σ w).2 j) ∧ yfw M P) → zWp kWr_evenly 30 [(1, 140), (1, 136), (0, (yci (yK σ) (σ 0))), (0, w), (0, -1), (3, 0)] [] P Q) : ∀ (f0 : Nat) (c : Int) (P : zM), (-1 ≤ c ∧ c < (yci (yK σ) (σ 0))) → (P 140 0 = 0) → ((∀ j, c < j → j ≤ (yci (yK σ) (σ 0)) → P 142 j = (yev σ w ((yci (yK σ) (σ 0)) - 1 - c).toNat).1 j) ∧ ∀ j, c < j → j < (yci (yK σ) (σ 0)) → P 143 j = (yev σ w ((yci (yK σ) (σ 0)) - 1 - c).toNat).2 j) → (yfw M P) → (c + 1).toNat < f0 → zWp kWr_evenly 20 [(1, 140), (1, 136), (0, (yci (yK σ) (σ 0))), (0, w), (0, c), (3, 0)] [] P Q := by
  intro f0
  induction f0 with
  | zero => intro c P i1 i0 i3 iF hf0; exact absurd hf0 (Nat.not_lt_zero _)
  | succ f0 ih =>
    intro c P i1 i0 i3 iF hf0
    have hK := yKr_K hV
    have hn := hV.1
    have hci := yci_60 hK
    refine zw_iload ⟨rfl, rfl⟩ rfl ?_
    refine zw_iflt ⟨rfl, rfl⟩ rfl (fun c1 => ?_) (fun c1 => ?_)
    · skip
      have ec : c = -1 := by omega
      subst ec
      rw [show ((yci (yK σ) (σ 0)) - 1 - -1).toNat = (yci (yK σ) (σ 0)).toNat by omega] at i3
      exact kk _ ⟨i0, ⟨fun j j1 j2 => i3.1 j (by omega) j2, fun j j1 j2 => i3.2 j (by omega) j2⟩, iF⟩
    · skip
      refine zw_aload ⟨rfl, rfl⟩ rfl ?_
      refine zw_aload ⟨rfl, rfl⟩ rfl ?_
      refine zw_iload ⟨rfl, rfl⟩ rfl ?_
      refine zw_iload ⟨rfl, rfl⟩ rfl ?_
      refine zw_iload ⟨rfl, rfl⟩ rfl ?_
      refine zw_cavv5 ⟨rfl, rfl⟩ rfl zc_140 rfl ?_
      have hS : ySb σ c (yev σ w ((yci (yK σ) (σ 0)) - 1 - c).toNat).1 := fun b b1 b2 => ((yev_r hV hw hf ((yci (yK σ) (σ 0)) - 1 - c).toNat (by omega)).1 b (by omega) b2).1
      refine m_choose hV (hG.fw iF) hw ⟨by omega, by omega⟩ hS (fun b b1 b2 => i3.1 b b1 (by omega)) (fun P1 p1 => ?_)
      refine zw_iinc_4 ⟨rfl, rfl⟩ (by omega) ?_
      refine zw_goto ⟨rfl, rfl⟩ rfl ?_
      refine ih _ _ ⟨by omega, by omega⟩ ((congrFun (p1.2.1 140 (by decide) (by decide)) 0).trans i0) (yev_st hV hw hf ⟨by omega, by omega⟩ i3 p1.1 p1.2.2) (iF.tr (fun x hx => p1.2.1 x (by omega) (by omega))) (by omega)

theorem m_even_e {w : Int} {M : zM} {Q : zV → zM → Prop} {σ : yS} (hV : yVal σ) (hG : ySet M σ) (hw : 1 ≤ w ∧ w ≤ 200) (hf : yfit σ w = 1) (hE : (∀ j, 0 ≤ j → j ≤ (yci (yK σ) (σ 0)) → M 142 j = (yE σ w).1 j) ∧ ∀ j, 0 ≤ j → j < (yci (yK σ) (σ 0)) → M 143 j = (yE σ w).2 j) (h0 : M 140 0 = 0) (kk : ∀ P : zM, (yEn P (ygv σ w) ∧ yfw M P) → Q (0, (yE σ w).1 0) P) : zWp kWr_evenly 30 [(1, 140), (1, 136), (0, (yci (yK σ) (σ 0))), (0, w), (0, -1), (3, 0)] [] M Q := by
  refine zw_const ⟨rfl, rfl⟩ ?_
  refine zw_istore_4 ⟨rfl, rfl⟩ ?_
  refine zw_const ⟨rfl, rfl⟩ ?_
  refine zw_istore_5 ⟨rfl, rfl⟩ ?_
  exact m_even_f hV hG hw hf hE kk _ _ _ _ ⟨Int.le_refl _, (yci_60 (yKr_K hV)).1⟩ (by rw [yrn_0]) (by rw [yrn_0]; exact ⟨h0, fun k k1 k2 => absurd k2 (by show ¬ (k < 0); omega)⟩) (fun _ _ _ => rfl) (Nat.lt_succ_self _)

def yWe (P : zM) (σ : yS) (w : Int) : Prop := P 140 0 = (if yfit σ w = 1 then (ygv σ w).1 else 0) ∧ (yfit σ w = 1 → yEn P (ygv σ w))
def yel0 (σ : yS) (w : Int) : Int := if yfit σ w = 1 then (yE σ w).1 0 else -1
theorem m_evenly {w : Int} {M : zM} {Q : zV → zM → Prop} {σ : yS} (hV : yVal σ) (hG : ySet M σ) (hw : 1 ≤ w ∧ w ≤ 200) (kk : ∀ P : zM, (yWe P σ w ∧ yfw M P) → Q (0, yel0 σ w) P) : zWp kWr_evenly 0 [(1, 140), (1, 136), (0, (yci (yK σ) (σ 0))), (0, w), (3, 0), (3, 0)] [] M Q := by
  have hK := yKr_K hV
  have hn := hV.1
  have hci := yci_60 hK
  have hfr := yfit_r σ w
  refine zw_aload ⟨rfl, rfl⟩ rfl ?_
  refine zw_const ⟨rfl, rfl⟩ ?_
  refine zw_putI ⟨rfl, rfl⟩ zc_140 (by decide) (fun h => absurd h (by decide)) ?_
  refine zw_aload ⟨rfl, rfl⟩ rfl ?_
  refine zw_aload ⟨rfl, rfl⟩ rfl ?_
  refine zw_iload ⟨rfl, rfl⟩ rfl ?_
  refine zw_iload ⟨rfl, rfl⟩ rfl ?_
  refine zw_callv4 ⟨rfl, rfl⟩ rfl zc_140 rfl ?_
  refine m_fits hV (hG.fw (yfw.rf.up (by decide))) ?_
  refine zw_ifne ⟨rfl, rfl⟩ rfl (fun c1 => ?_) (fun c1 => ?_)
  · skip
    refine zw_aload ⟨rfl, rfl⟩ rfl ?_
    refine zw_getR 142 ⟨rfl, rfl⟩ zr_140_2 ?_
    refine zw_iload ⟨rfl, rfl⟩ rfl ?_
    refine zw_const ⟨rfl, rfl⟩ ?_
    refine zw_iast ⟨rfl, rfl⟩ za_142 (by omega) ?_
    refine zw_iload ⟨rfl, rfl⟩ rfl ?_
    refine zw_const ⟨rfl, rfl⟩ ?_
    refine zw_isub ⟨rfl, rfl⟩ (by omega) ?_
    refine zw_istore_4 ⟨rfl, rfl⟩ ?_
    have hf : yfit σ w = 1 := by omega
    have h1 : yel0 σ w = (yE σ w).1 0 := if_pos hf
    rw [h1] at kk
    have g : yfw M ((zup (zup M 140 0 0) 142 (yci (yK σ) (σ 0)) 0)) := (yfw.rf.up (by decide)).up (by decide)
    refine m_even_d (M := (zup (zup M 140 0 0) 142 (yci (yK σ) (σ 0)) 0)) hV (hG.fw g) hw hf (fun P p => ?_) _ _ _ ⟨by omega, by omega⟩ ((zup_na (by decide)).trans (zup_eq _ _ _ _)) ?_ yfw.rf (Nat.lt_succ_self _)
    · exact m_even_e hV ((hG.fw g).fw p.2.2) hw hf p.2.1 p.1 (fun P2 p2 => kk P2 ⟨⟨p2.1.1.trans (if_pos hf).symm, fun _ => p2.1⟩, g.tr (p.2.2.tr p2.2)⟩)
    · rw [show ((yci (yK σ) (σ 0)) - 1 - ((yci (yK σ) (σ 0)) - 1)).toNat = 0 by omega]
      exact ⟨fun j j1 j2 => by rw [show j = (yci (yK σ) (σ 0)) by omega, zup_eq]; rfl, fun j j1 j2 => by omega⟩
  · skip
    refine zw_const ⟨rfl, rfl⟩ ?_
    refine zw_ret rfl ?_
    have h0 : yel0 σ w = -1 := if_neg (by omega)
    rw [h0] at kk
    exact kk _ ⟨⟨(zup_eq _ _ _ _).trans (if_neg (by omega)).symm, fun z => by omega⟩, yfw.rf.up (by decide)⟩

theorem c_even {w : Int} {M : zM} {Q : zV → zM → Prop} {σ : yS} (hV : yVal σ) (hS : yTold M σ) (hG : ySet M σ)  (k : ∀ P : zM, yfw M P → Q (0, ya_even σ w) P) : zWp kX_even 0 [(1, 0), (0, w)] [] M Q := by
  have hK := yKr_K hV
  have hn := hV.1
  have hci := yci_60 hK
  refine zw_iload ⟨rfl, rfl⟩ rfl ?_
  refine zw_calls1 ⟨rfl, rfl⟩ rfl rfl ?_
  refine zw_iload ⟨rfl, rfl⟩ rfl ?_
  refine zw_const ⟨rfl, rfl⟩ ?_
  refine zw_iclt ⟨rfl, rfl⟩ rfl (fun c1 => ?_) (fun c1 => ?_)
  · skip
    refine zw_const ⟨rfl, rfl⟩ ?_
    refine zw_zret rfl (by first | exact Or.inl rfl | exact Or.inr rfl | omega) ?_
    refine zw_ifne ⟨rfl, rfl⟩ rfl (fun q => absurd q (by decide)) (fun _ => ?_)
    refine zw_const ⟨rfl, rfl⟩ ?_
    refine zw_ret rfl ?_
    rw [show ya_even σ w = -3 from if_neg (by omega)] at k
    exact k _ yfw.rf
  · skip
    refine zw_iload ⟨rfl, rfl⟩ rfl ?_
    refine zw_const ⟨rfl, rfl⟩ ?_
    refine zw_icgt ⟨rfl, rfl⟩ rfl (fun c3 => ?_) (fun c3 => ?_)
    · skip
      refine zw_const ⟨rfl, rfl⟩ ?_
      refine zw_zret rfl (by first | exact Or.inl rfl | exact Or.inr rfl | omega) ?_
      refine zw_ifne ⟨rfl, rfl⟩ rfl (fun q => absurd q (by decide)) (fun _ => ?_)
      refine zw_const ⟨rfl, rfl⟩ ?_
      refine zw_ret rfl ?_
      rw [show ya_even σ w = -3 from if_neg (by omega)] at k
      exact k _ yfw.rf
    · skip
      refine zw_const ⟨rfl, rfl⟩ ?_
      refine zw_goto ⟨rfl, rfl⟩ rfl ?_
      refine zw_zret rfl (by first | exact Or.inl rfl | exact Or.inr rfl | omega) ?_
      refine zw_ifne ⟨rfl, rfl⟩ rfl (fun _ => ?_) (fun q => absurd (by decide) q)
      refine zw_aload ⟨rfl, rfl⟩ rfl ?_
      refine zw_getR 140 ⟨rfl, rfl⟩ zr_0_12 ?_
      refine zw_aload ⟨rfl, rfl⟩ rfl ?_
      refine zw_getR 126 ⟨rfl, rfl⟩ zr_0_10 ?_
      refine zw_getR 136 ⟨rfl, rfl⟩ zr_126_3 ?_
      refine zw_aload ⟨rfl, rfl⟩ rfl ?_
      refine zw_getR 105 ⟨rfl, rfl⟩ zr_0_8 ?_
      refine zw_getIv (v := (yci (yK σ) (σ 0))) ⟨rfl, rfl⟩ zc_105 (by decide) (hG.1.1.1.1) ?_
      refine zw_iload ⟨rfl, rfl⟩ rfl ?_
      refine zw_callv4 ⟨rfl, rfl⟩ rfl zc_140 rfl ?_
      refine m_evenly hV hG ⟨by omega, by omega⟩ (fun P1 p1 => ?_)
      obtain ⟨hw1, hf1⟩ := p1
      have hG1 := hG.fw hf1
      refine zw_ret rfl ?_
      rw [show ya_even σ w = yel0 σ w from if_pos ⟨by omega, by omega⟩] at k
      exact k _ hf1

theorem c_evenEnd {w i : Int} {M : zM} {Q : zV → zM → Prop} {σ : yS} (hV : yVal σ) (hS : yTold M σ) (hG : ySet M σ)  (k : ∀ P : zM, yfw M P → Q (0, ya_evenEnd σ w i) P) : zWp kX_evenEnd 0 [(1, 0), (0, w), (0, i)] [] M Q := by
  have hK := yKr_K hV
  have hn := hV.1
  have hci := yci_60 hK
  refine zw_iload ⟨rfl, rfl⟩ rfl ?_
  refine zw_calls1 ⟨rfl, rfl⟩ rfl rfl ?_
  refine zw_iload ⟨rfl, rfl⟩ rfl ?_
  refine zw_const ⟨rfl, rfl⟩ ?_
  refine zw_iclt ⟨rfl, rfl⟩ rfl (fun c1 => ?_) (fun c1 => ?_)
  · skip
    refine zw_const ⟨rfl, rfl⟩ ?_
    refine zw_zret rfl (by first | exact Or.inl rfl | exact Or.inr rfl | omega) ?_
    refine zw_ifeq ⟨rfl, rfl⟩ rfl (fun _ => ?_) (fun q => absurd (by decide) q)
    refine zw_const ⟨rfl, rfl⟩ ?_
    refine zw_ret rfl ?_
    rw [show ya_evenEnd σ w i = -3 from if_neg (by omega)] at k
    exact k _ yfw.rf
  · skip
    refine zw_iload ⟨rfl, rfl⟩ rfl ?_
    refine zw_const ⟨rfl, rfl⟩ ?_
    refine zw_icgt ⟨rfl, rfl⟩ rfl (fun c3 => ?_) (fun c3 => ?_)
    · skip
      refine zw_const ⟨rfl, rfl⟩ ?_
      refine zw_zret rfl (by first | exact Or.inl rfl | exact Or.inr rfl | omega) ?_
      refine zw_ifeq ⟨rfl, rfl⟩ rfl (fun _ => ?_) (fun q => absurd (by decide) q)
      refine zw_const ⟨rfl, rfl⟩ ?_
      refine zw_ret rfl ?_
      rw [show ya_evenEnd σ w i = -3 from if_neg (by omega)] at k
      exact k _ yfw.rf
    · skip
      refine zw_const ⟨rfl, rfl⟩ ?_
      refine zw_goto ⟨rfl, rfl⟩ rfl ?_
      refine zw_zret rfl (by first | exact Or.inl rfl | exact Or.inr rfl | omega) ?_
      refine zw_ifeq ⟨rfl, rfl⟩ rfl (fun q => absurd q (by decide)) (fun _ => ?_)
      refine zw_iload ⟨rfl, rfl⟩ rfl ?_
      refine zw_ifge ⟨rfl, rfl⟩ rfl (fun c6 => ?_) (fun c6 => ?_)
      · skip
        refine zw_aload ⟨rfl, rfl⟩ rfl ?_
        refine zw_getR 140 ⟨rfl, rfl⟩ zr_0_12 ?_
        refine zw_aload ⟨rfl, rfl⟩ rfl ?_
        refine zw_getR 126 ⟨rfl, rfl⟩ zr_0_10 ?_
        refine zw_getR 136 ⟨rfl, rfl⟩ zr_126_3 ?_
        refine zw_aload ⟨rfl, rfl⟩ rfl ?_
        refine zw_getR 105 ⟨rfl, rfl⟩ zr_0_8 ?_
        refine zw_getIv (v := (yci (yK σ) (σ 0))) ⟨rfl, rfl⟩ zc_105 (by decide) (hG.1.1.1.1) ?_
        refine zw_iload ⟨rfl, rfl⟩ rfl ?_
        refine zw_callv4 ⟨rfl, rfl⟩ rfl zc_140 rfl ?_
        refine m_evenly hV hG ⟨by omega, by omega⟩ (fun P1 p1 => ?_)
        obtain ⟨hw1, hf1⟩ := p1
        have hG1 := hG.fw hf1
        refine zw_pop ⟨rfl, rfl⟩ (by decide) ?_
        refine zw_iload ⟨rfl, rfl⟩ rfl ?_
        refine zw_aload ⟨rfl, rfl⟩ rfl ?_
        refine zw_getR 140 ⟨rfl, rfl⟩ zr_0_12 ?_
        refine zw_getIv (v := (if yfit σ w = 1 then (ygv σ w).1 else 0)) ⟨rfl, rfl⟩ zc_140 (by decide) (hw1.1) ?_
        refine zw_icge ⟨rfl, rfl⟩ rfl (fun c7 => ?_) (fun c7 => ?_)
        · skip
          refine zw_const ⟨rfl, rfl⟩ ?_
          refine zw_ret rfl ?_
          rw [show ya_evenEnd σ w i = _ from (if_pos ⟨⟨by omega, by omega⟩, by omega⟩).trans (if_neg (fun z => by have z1 := z.2; rw [if_pos z.1] at c7; omega))] at k
          exact k _ hf1
        · skip
          have hfr := yfit_r σ w
          have hfit : yfit σ w = 1 := by
            rcases hfr with z | z
            · rw [if_neg (by omega)] at c7; omega
            · exact z
          rw [if_pos hfit] at c7
          have hrr := yrn_r hV (w := w) ⟨by omega, by omega⟩ hfit (yci (yK σ) (σ 0)) hci.1
          have hr : ∀ k, 0 ≤ k → k < (ygv σ w).1 → 0 ≤ (ygv σ w).2.1 k ∧ (ygv σ w).2.1 k ≤ (yci (yK σ) (σ 0)) := hrr.2.2
          have hr2 : (ygv σ w).1 ≤ (yci (yK σ) (σ 0)) := hrr.1.2.2.2
          refine zw_aload ⟨rfl, rfl⟩ rfl ?_
          refine zw_getR 105 ⟨rfl, rfl⟩ zr_0_8 ?_
          refine zw_aload ⟨rfl, rfl⟩ rfl ?_
          refine zw_getR 140 ⟨rfl, rfl⟩ zr_0_12 ?_
          refine zw_getR 141 ⟨rfl, rfl⟩ zr_140_1 ?_
          refine zw_iload ⟨rfl, rfl⟩ rfl ?_
          refine zw_ialdv (v := (ygv σ w).2.1 i) ⟨rfl, rfl⟩ za_141 (by omega) ((hw1.2 hfit).2 i (by omega) (by omega)) ?_
          refine zw_callv2 ⟨rfl, rfl⟩ rfl zc_105 rfl ?_
          refine m_stopPlace hK hG1.1.1 ?_
          rw [show ysp (yK σ) (σ 0) ((ygv σ w).2.1 i) = yB (yK σ) ((ygv σ w).2.1 i) from if_pos (hr i (by omega) (by omega))]
          refine zw_goto ⟨rfl, rfl⟩ rfl ?_
          refine zw_ret rfl ?_
          rw [show ya_evenEnd σ w i = _ from (if_pos ⟨⟨by omega, by omega⟩, by omega⟩).trans (if_pos ⟨hfit, by omega⟩)] at k
          exact k _ hf1
      · skip
        refine zw_const ⟨rfl, rfl⟩ ?_
        refine zw_ret rfl ?_
        rw [show ya_evenEnd σ w i = -3 from if_neg (by omega)] at k
        exact k _ yfw.rf

theorem m_Meven_i {w c : Int} {S : Int → Int} {M : zM} {Q : zV → zM → Prop} {σ : yS} (hV : yVal σ) (hG : yLay M σ) (hw : 1 ≤ w ∧ w ≤ 200) (hc : 0 ≤ c ∧ c < (yci (yK σ) (σ 0))) (hS : ySb σ c S) (hR : ∀ b, c < b → b < (yci (yK σ) (σ 0)) → M 242 b = S b) (kk : ∀ (u b : Int) (u5 : zV) (P : zM), ((P 242 c = (if (ych σ w c S).1 = -1 then 268435456 else (ych σ w c S).1) ∧ ((ych σ w c S).1 ≠ -1 → P 243 c = (ych σ w c S).2)) ∧ (∀ x, x ≠ 242 → x ≠ 243 → P x = M x) ∧ ∀ j, j ≠ c → P 242 j = M 242 j ∧ P 243 j = M 243 j) → zWp kM_evens 86 [(1, 208), (0, w), (0, c), (0, u), (0, b), u5] [] P Q) : ∀ (f0 : Nat) (u b : Int) (u5 : zV) (P : zM), (c + 1 ≤ b ∧ b ≤ (yci (yK σ) (σ 0)) + 1) → (u = yX σ (b - 1) - yX σ c) → (P 242 c = (if (yc2 σ w c S b).1 = -1 then 268435456 else (yc2 σ w c S b).1) ∧ ((yc2 σ w c S b).1 ≠ -1 → P 243 c = (yc2 σ w c S b).2)) → (∀ x, x ≠ 242 → x ≠ 243 → P x = M x) → (∀ j, j ≠ c → P 242 j = M 242 j ∧ P 243 j = M 243 j) → ((yci (yK σ) (σ 0)) + 1 - b).toNat < f0 → zWp kM_evens 32 [(1, 208), (0, w), (0, c), (0, u), (0, b), u5] [] P Q := by
  intro f0
  induction f0 with
  | zero => intro u b u5 P i1 i2 i3 iF iJ hf0; exact absurd hf0 (Nat.not_lt_zero _)
  | succ f0 ih =>
    intro u b u5 P i1 i2 i3 iF iJ hf0
    have hK := yKr_K hV
    have hn := hV.1
    have hci := yci_60 hK
    have hgr := yc2_r hV hw hS hc.1 b i1.1 i1.2
    refine zw_iload ⟨rfl, rfl⟩ rfl ?_
    refine zw_aload ⟨rfl, rfl⟩ rfl ?_
    refine zw_getIv (v := (yci (yK σ) (σ 0))) ⟨rfl, rfl⟩ zc_208 (by decide) (((congrFun (iF 208 (by decide) (by decide)) 15).trans hG.1.1)) ?_
    refine zw_icgt ⟨rfl, rfl⟩ rfl (fun c1 => ?_) (fun c1 => ?_)
    · skip
      have ee : ych σ w c S = (yc2 σ w c S b) := yc2_x hV ⟨hc.1, by omega⟩ (fun z => by omega) _ (by omega) (Int.le_refl _)
      refine kk _ _ _ _ ⟨?_, iF, iJ⟩
      rw [ee]
      exact i3
    · skip
      have hx_b := yX_r hV (show 0 ≤ b by omega) (show b ≤ (yci (yK σ) (σ 0)) by omega)
      have hx_c := yX_r hV (show 0 ≤ c by omega) (show c ≤ (yci (yK σ) (σ 0)) by omega)
      have hx3 := yX_r hV (show 0 ≤ b - 1 by omega) (show b - 1 ≤ (yci (yK σ) (σ 0)) by omega)
      have hmo := yX_mo hV hc.1 (show c ≤ b by omega)
      refine zw_iload ⟨rfl, rfl⟩ rfl ?_
      refine zw_aload ⟨rfl, rfl⟩ rfl ?_
      refine zw_iload ⟨rfl, rfl⟩ rfl ?_
      refine zw_const ⟨rfl, rfl⟩ ?_
      refine zw_isub ⟨rfl, rfl⟩ (by omega) ?_
      refine zw_callv2 ⟨rfl, rfl⟩ rfl zc_208 rfl ?_
      refine m_clusterWidth hV (hG.cx (fun x x1 x2 => iF x (by omega) (by omega)) (congrFun (iF 208 (by decide) (by decide)) 15) (congrFun (iF 208 (by decide) (by decide)) 31)) ⟨by omega, by omega⟩ ?_
      rw [show b - 1 + 1 = b by omega]
      refine zw_iadd ⟨rfl, rfl⟩ (by omega) ?_
      refine zw_istore_3 ⟨rfl, rfl⟩ ?_
      refine zw_iload ⟨rfl, rfl⟩ rfl ?_
      refine zw_iload ⟨rfl, rfl⟩ rfl ?_
      refine zw_icle ⟨rfl, rfl⟩ rfl (fun c2 => ?_) (fun c2 => ?_)
      · skip
        refine zw_iload ⟨rfl, rfl⟩ rfl ?_
        refine zw_aload ⟨rfl, rfl⟩ rfl ?_
        refine zw_getIv (v := (yci (yK σ) (σ 0))) ⟨rfl, rfl⟩ zc_208 (by decide) (((congrFun (iF 208 (by decide) (by decide)) 15).trans hG.1.1)) ?_
        refine zw_icne ⟨rfl, rfl⟩ rfl (fun c3 => ?_) (fun c3 => ?_)
        · skip
          have hq := yq2 (x := w - (u + (yX σ b - yX σ (b - 1)))) (by omega) (by omega)
          have hsb := hS b (by omega) (by omega)
          refine zw_iload ⟨rfl, rfl⟩ rfl ?_
          refine zw_iload ⟨rfl, rfl⟩ rfl ?_
          refine zw_isub ⟨rfl, rfl⟩ (by omega) ?_
          refine zw_iload ⟨rfl, rfl⟩ rfl ?_
          refine zw_iload ⟨rfl, rfl⟩ rfl ?_
          refine zw_isub ⟨rfl, rfl⟩ (by omega) ?_
          refine zw_imul ⟨rfl, rfl⟩ (by omega) ?_
          refine zw_aload ⟨rfl, rfl⟩ rfl ?_
          refine zw_getR 242 ⟨rfl, rfl⟩ zr_208_48 ?_
          refine zw_iload ⟨rfl, rfl⟩ rfl ?_
          refine zw_ialdv (v := S b) ⟨rfl, rfl⟩ za_242 (by omega) (((iJ b (by omega)).1.trans (hR b (by omega) (by omega)))) ?_
          refine zw_iadd ⟨rfl, rfl⟩ (by omega) ?_
          refine zw_istore_5 ⟨rfl, rfl⟩ ?_
          refine zw_iload ⟨rfl, rfl⟩ rfl ?_
          refine zw_aload ⟨rfl, rfl⟩ rfl ?_
          refine zw_getR 242 ⟨rfl, rfl⟩ zr_208_48 ?_
          refine zw_iload ⟨rfl, rfl⟩ rfl ?_
          refine zw_ialdv (v := (if (yc2 σ w c S b).1 = -1 then 268435456 else (yc2 σ w c S b).1)) ⟨rfl, rfl⟩ za_242 (by omega) (i3.1) ?_
          refine zw_icle ⟨rfl, rfl⟩ rfl (fun c4 => ?_) (fun c4 => ?_)
          · skip
            refine zw_aload ⟨rfl, rfl⟩ rfl ?_
            refine zw_getR 242 ⟨rfl, rfl⟩ zr_208_48 ?_
            refine zw_iload ⟨rfl, rfl⟩ rfl ?_
            refine zw_iload ⟨rfl, rfl⟩ rfl ?_
            refine zw_iast ⟨rfl, rfl⟩ za_242 (by omega) ?_
            refine zw_aload ⟨rfl, rfl⟩ rfl ?_
            refine zw_getR 243 ⟨rfl, rfl⟩ zr_208_49 ?_
            refine zw_iload ⟨rfl, rfl⟩ rfl ?_
            refine zw_iload ⟨rfl, rfl⟩ rfl ?_
            refine zw_iast ⟨rfl, rfl⟩ za_243 (by omega) ?_
            refine zw_iinc_4 ⟨rfl, rfl⟩ (by omega) ?_
            refine zw_goto ⟨rfl, rfl⟩ rfl ?_
            have hub : u + (yX σ b - yX σ (b - 1)) = yX σ b - yX σ c := by omega
            rw [hub] at c4
            have hsq : ysq σ w c S b = ((w - (yX σ b - yX σ c)) * (w - (yX σ b - yX σ c))) + (S b) := if_neg (by omega)
            have hsr := ysq_r hV hw hS (b := b) ⟨hc.1, by omega, by omega⟩ (by omega)
            rw [hsq] at hsr
            rw [hub]
            have hcc : (yc2 σ w c S b).1 = -1 ∨ ysq σ w c S b ≤ (yc2 σ w c S b).1 := by
              rw [hsq]
              by_cases z : (yc2 σ w c S b).1 = -1
              · exact Or.inl z
              · rw [if_neg z] at c4; exact Or.inr (by omega)
            have eg := yc2_y (σ := σ) (w := w) (S := S) (show c < b by omega) (by omega) hcc
            refine ih _ _ _ _ ⟨by omega, by omega⟩ (by rw [show b + 1 - 1 = b by omega]; try omega) ?_ (fun x x1 x2 => (zup_row x2).trans ((zup_row x1).trans (iF x x1 x2))) (fun j hj => ⟨(zup_na (by decide)).trans ((zup_ni hj).trans (iJ j hj).1), (zup_ni hj).trans ((zup_na (by decide)).trans (iJ j hj).2)⟩) (by omega)
            rw [eg, hsq]
            exact ⟨(zup_na (by decide)).trans ((zup_eq _ _ _ _).trans (if_neg (by dsimp only; omega)).symm), fun _ => zup_eq _ _ _ _⟩
          · skip
            refine zw_goto ⟨rfl, rfl⟩ rfl ?_
            refine zw_iinc_4 ⟨rfl, rfl⟩ (by omega) ?_
            refine zw_goto ⟨rfl, rfl⟩ rfl ?_
            have hub : u + (yX σ b - yX σ (b - 1)) = yX σ b - yX σ c := by omega
            rw [hub] at c4
            have hsq : ysq σ w c S b = ((w - (yX σ b - yX σ c)) * (w - (yX σ b - yX σ c))) + (S b) := if_neg (by omega)
            have hsr := ysq_r hV hw hS (b := b) ⟨hc.1, by omega, by omega⟩ (by omega)
            rw [hsq] at hsr
            have hcc : ¬ ((yc2 σ w c S b).1 = -1 ∨ ysq σ w c S b ≤ (yc2 σ w c S b).1) := by
              rw [hsq]
              intro z0
              by_cases z : (yc2 σ w c S b).1 = -1
              · rw [if_pos z] at c4; omega
              · rw [if_neg z] at c4; omega
            have eg := yc2_n (σ := σ) (w := w) (S := S) (show c < b by omega) hcc
            exact ih _ _ _ _ ⟨by omega, by omega⟩ (by rw [show b + 1 - 1 = b by omega]; try omega) (by rw [eg]; exact i3) iF iJ (by omega)
        · skip
          refine zw_const ⟨rfl, rfl⟩ ?_
          refine zw_goto ⟨rfl, rfl⟩ rfl ?_
          refine zw_istore_5 ⟨rfl, rfl⟩ ?_
          refine zw_iload ⟨rfl, rfl⟩ rfl ?_
          refine zw_aload ⟨rfl, rfl⟩ rfl ?_
          refine zw_getR 242 ⟨rfl, rfl⟩ zr_208_48 ?_
          refine zw_iload ⟨rfl, rfl⟩ rfl ?_
          refine zw_ialdv (v := (if (yc2 σ w c S b).1 = -1 then 268435456 else (yc2 σ w c S b).1)) ⟨rfl, rfl⟩ za_242 (by omega) (i3.1) ?_
          refine zw_icle ⟨rfl, rfl⟩ rfl (fun c5 => ?_) (fun c5 => ?_)
          · skip
            refine zw_aload ⟨rfl, rfl⟩ rfl ?_
            refine zw_getR 242 ⟨rfl, rfl⟩ zr_208_48 ?_
            refine zw_iload ⟨rfl, rfl⟩ rfl ?_
            refine zw_iload ⟨rfl, rfl⟩ rfl ?_
            refine zw_iast ⟨rfl, rfl⟩ za_242 (by omega) ?_
            refine zw_aload ⟨rfl, rfl⟩ rfl ?_
            refine zw_getR 243 ⟨rfl, rfl⟩ zr_208_49 ?_
            refine zw_iload ⟨rfl, rfl⟩ rfl ?_
            refine zw_iload ⟨rfl, rfl⟩ rfl ?_
            refine zw_iast ⟨rfl, rfl⟩ za_243 (by omega) ?_
            refine zw_iinc_4 ⟨rfl, rfl⟩ (by omega) ?_
            refine zw_goto ⟨rfl, rfl⟩ rfl ?_
            have hsq : ysq σ w c S b = 0 := if_pos (by omega)
            have hsr := ysq_r hV hw hS (b := b) ⟨hc.1, by omega, by omega⟩ (by omega)
            rw [hsq] at hsr
            have hcc : (yc2 σ w c S b).1 = -1 ∨ ysq σ w c S b ≤ (yc2 σ w c S b).1 := by
              rw [hsq]
              by_cases z : (yc2 σ w c S b).1 = -1
              · exact Or.inl z
              · rw [if_neg z] at c5; exact Or.inr (by omega)
            have eg := yc2_y (σ := σ) (w := w) (S := S) (show c < b by omega) (by omega) hcc
            refine ih _ _ _ _ ⟨by omega, by omega⟩ (by rw [show b + 1 - 1 = b by omega]; try omega) ?_ (fun x x1 x2 => (zup_row x2).trans ((zup_row x1).trans (iF x x1 x2))) (fun j hj => ⟨(zup_na (by decide)).trans ((zup_ni hj).trans (iJ j hj).1), (zup_ni hj).trans ((zup_na (by decide)).trans (iJ j hj).2)⟩) (by omega)
            rw [eg, hsq]
            exact ⟨(zup_na (by decide)).trans ((zup_eq _ _ _ _).trans (if_neg (by dsimp only; omega)).symm), fun _ => zup_eq _ _ _ _⟩
          · skip
            refine zw_goto ⟨rfl, rfl⟩ rfl ?_
            refine zw_iinc_4 ⟨rfl, rfl⟩ (by omega) ?_
            refine zw_goto ⟨rfl, rfl⟩ rfl ?_
            have hsq : ysq σ w c S b = 0 := if_pos (by omega)
            have hsr := ysq_r hV hw hS (b := b) ⟨hc.1, by omega, by omega⟩ (by omega)
            rw [hsq] at hsr
            have hcc : ¬ ((yc2 σ w c S b).1 = -1 ∨ ysq σ w c S b ≤ (yc2 σ w c S b).1) := by
              rw [hsq]
              intro z0
              by_cases z : (yc2 σ w c S b).1 = -1
              · rw [if_pos z] at c5; omega
              · rw [if_neg z] at c5; omega
            have eg := yc2_n (σ := σ) (w := w) (S := S) (show c < b by omega) hcc
            exact ih _ _ _ _ ⟨by omega, by omega⟩ (by rw [show b + 1 - 1 = b by omega]; try omega) (by rw [eg]; exact i3) iF iJ (by omega)
      · skip
        refine zw_goto ⟨rfl, rfl⟩ rfl ?_
        have ee : ych σ w c S = (yc2 σ w c S b) := yc2_x hV ⟨hc.1, by omega⟩ (fun z => by omega) _ (by omega) (Int.le_refl _)
        refine kk _ _ _ _ ⟨?_, iF, iJ⟩
        rw [ee]
        exact i3

theorem m_Meven_m {w c u b : Int} {u5 : zV} {M : zM} {Q : zV → zM → Prop} (hc : 0 ≤ c ∧ c ≤ 60) (kk : zWp kM_evens 19 [(1, 208), (0, w), (0, c + -1), (0, u), (0, b), u5] [] M Q) : zWp kM_evens 86 [(1, 208), (0, w), (0, c), (0, u), (0, b), u5] [] M Q := by
  refine zw_iinc_2 ⟨rfl, rfl⟩ (by omega) ?_
  refine zw_goto ⟨rfl, rfl⟩ rfl ?_
  exact kk

theorem m_Meven_d {w : Int} {M : zM} {Q : zV → zM → Prop} {σ : yS} (hV : yVal σ) (hG : yLay M σ) (hw : 1 ≤ w ∧ w ≤ 200) (hf : yfit σ w = 1) (kk : ∀ (u3 u4 u5 : zV) (P : zM), (((∀ j, 0 ≤ j → j ≤ (yci (yK σ) (σ 0)) → P 242 j = (yE σ w).1 j) ∧ ∀ j, 0 ≤ j → j < (yci (yK σ) (σ 0)) → P 243 j = (yE σ w).2 j) ∧ yfm M P) → zWp kM_evens 88 [(1, 208), (0, w), (0, -1), u3, u4, u5] [] P Q) : ∀ (f0 : Nat) (c : Int) (u3 u4 u5 : zV) (P : zM), (-1 ≤ c ∧ c < (yci (yK σ) (σ 0))) → ((∀ j, c < j → j ≤ (yci (yK σ) (σ 0)) → P 242 j = (yev σ w ((yci (yK σ) (σ 0)) - 1 - c).toNat).1 j) ∧ ∀ j, c < j → j < (yci (yK σ) (σ 0)) → P 243 j = (yev σ w ((yci (yK σ) (σ 0)) - 1 - c).toNat).2 j) → (yfm M P) → (c + 1).toNat < f0 → zWp kM_evens 19 [(1, 208), (0, w), (0, c), u3, u4, u5] [] P Q := by
  intro f0
  induction f0 with
  | zero => intro c u3 u4 u5 P i1 i3 iF hf0; exact absurd hf0 (Nat.not_lt_zero _)
  | succ f0 ih =>
    intro c u3 u4 u5 P i1 i3 iF hf0
    have hK := yKr_K hV
    have hn := hV.1
    have hci := yci_60 hK
    refine zw_iload ⟨rfl, rfl⟩ rfl ?_
    refine zw_iflt ⟨rfl, rfl⟩ rfl (fun c1 => ?_) (fun c1 => ?_)
    · skip
      have ec : c = -1 := by omega
      subst ec
      rw [show ((yci (yK σ) (σ 0)) - 1 - -1).toNat = (yci (yK σ) (σ 0)).toNat by omega] at i3
      exact kk _ _ _ _ ⟨⟨fun j j1 j2 => i3.1 j (by omega) j2, fun j j1 j2 => i3.2 j (by omega) j2⟩, iF⟩
    · skip
      refine zw_aload ⟨rfl, rfl⟩ rfl ?_
      refine zw_getR 242 ⟨rfl, rfl⟩ zr_208_48 ?_
      refine zw_iload ⟨rfl, rfl⟩ rfl ?_
      refine zw_const ⟨rfl, rfl⟩ ?_
      refine zw_iast ⟨rfl, rfl⟩ za_242 (by omega) ?_
      refine zw_const ⟨rfl, rfl⟩ ?_
      refine zw_istore_3 ⟨rfl, rfl⟩ ?_
      refine zw_iload ⟨rfl, rfl⟩ rfl ?_
      refine zw_const ⟨rfl, rfl⟩ ?_
      refine zw_iadd ⟨rfl, rfl⟩ (by omega) ?_
      refine zw_istore_4 ⟨rfl, rfl⟩ ?_
      have hS : ySb σ c (yev σ w ((yci (yK σ) (σ 0)) - 1 - c).toNat).1 := fun b b1 b2 => ((yev_r hV hw hf ((yci (yK σ) (σ 0)) - 1 - c).toNat (by omega)).1 b (by omega) b2).1
      have iF2 : yfm M (zup P 242 c 268435456) := iF.u1 (by decide)
      refine m_Meven_i (M := zup P 242 c 268435456) hV (hG.fm iF2) hw ⟨by omega, by omega⟩ hS (fun b b1 b2 => (zup_ni (by omega)).trans (i3.1 b b1 (by omega))) (fun u b u5 P1 p1 => ?_) _ _ _ _ _ ⟨by omega, by omega⟩ (by rw [show c + 1 - 1 = c by omega]; omega) ?_ (fun _ _ _ => rfl) (fun _ _ => ⟨rfl, rfl⟩) (Nat.lt_succ_self _)
      · refine m_Meven_m ⟨by omega, by omega⟩ ?_
        have hne := yc2_ne hV hw hS ⟨by omega, by omega⟩ (yfit_a hf c (by omega) (by omega)) ((yci (yK σ) (σ 0)) + 1) (by omega) (Int.le_refl _)
        have hf1 : yfm M P1 := ⟨fun x hx h8 => (p1.2.1 x (by omega) (by omega)).trans (iF2.1 x hx h8), fun j hj => (congrFun (p1.2.1 208 (by decide) (by decide)) j).trans (iF2.2 j hj)⟩
        exact ih _ _ _ _ _ ⟨by omega, by omega⟩ (yev_st hV hw hf ⟨by omega, by omega⟩ i3 ⟨p1.1.1.trans (if_neg hne), p1.1.2⟩ (fun j hj => ⟨(p1.2.2 j hj).1.trans (zup_ni hj), (p1.2.2 j hj).2.trans (zup_na (by decide))⟩)) hf1 (by omega)
      · rw [yc2_0]
        exact ⟨zup_eq _ _ _ _, fun z => absurd rfl z⟩

theorem m_Meven_f {w : Int} {M : zM} {Q : zV → zM → Prop} {σ : yS} (hV : yVal σ) (hG : yLay M σ) (hw : 1 ≤ w ∧ w ≤ 200) (hf : yfit σ w = 1) {u3 u4 u5 : zV} (hE : (∀ j, 0 ≤ j → j ≤ (yci (yK σ) (σ 0)) → M 242 j = (yE σ w).1 j) ∧ ∀ j, 0 ≤ j → j < (yci (yK σ) (σ 0)) → M 243 j = (yE σ w).2 j) (kk : ∀ P : zM, (yEm P (ygv σ w) ∧ P 242 0 = (yE σ w).1 0 ∧ yfm M P) → Q (0, 1) P) : ∀ (f0 : Nat) (s j : Int) (P : zM), (0 ≤ j ∧ j ≤ s) → (s = (yrn σ w j).2.2) → (yEm P (yrn σ w j)) → (yfm M P) → (∀ x, x ≠ 241 → x ≠ 208 → P x = M x) → ((yrn σ w j).1 = j) → ((yci (yK σ) (σ 0)) - s).toNat < f0 → zWp kM_evens 93 [(1, 208), (0, w), (0, s), u3, u4, u5] [] P Q := by
  intro f0
  induction f0 with
  | zero => intro s j P i1 i2 i3 iF iG i5 hf0; exact absurd hf0 (Nat.not_lt_zero _)
  | succ f0 ih =>
    intro s j P i1 i2 i3 iF iG i5 hf0
    have hK := yKr_K hV
    have hn := hV.1
    have hci := yci_60 hK
    have hr := yrn_r hV hw hf j i1.1
    obtain ⟨⟨r1, r2, r3, r4⟩, r5, r6⟩ := hr
    refine zw_iload ⟨rfl, rfl⟩ rfl ?_
    refine zw_aload ⟨rfl, rfl⟩ rfl ?_
    refine zw_getIv (v := (yci (yK σ) (σ 0))) ⟨rfl, rfl⟩ zc_208 (by decide) (((iF.2 15 (by decide)).trans hG.1.1)) ?_
    refine zw_icge ⟨rfl, rfl⟩ rfl (fun c1 => ?_) (fun c1 => ?_)
    · skip
      refine zw_const ⟨rfl, rfl⟩ ?_
      refine zw_zret rfl (by first | exact Or.inl rfl | exact Or.inr rfl | omega) ?_
      have ee : ygv σ w = (yrn σ w j) := yrn_x i1.1 (by omega) _ (by omega)
      rw [ee] at kk
      exact kk _ ⟨i3, (congrFun (iG 242 (by decide) (by decide)) 0).trans (hE.1 0 (Int.le_refl _) hci.1), iF⟩
    · skip
      have hev := ((yev_r hV hw hf (yci (yK σ) (σ 0)).toNat (by omega)).1 s (by omega) (by omega)).2
      have hev1 : s < (yE σ w).2 s := hev.1
      have hev2 : (yE σ w).2 s ≤ (yci (yK σ) (σ 0)) := hev.2
      refine zw_aload ⟨rfl, rfl⟩ rfl ?_
      refine zw_getR 241 ⟨rfl, rfl⟩ zr_208_47 ?_
      refine zw_aload ⟨rfl, rfl⟩ rfl ?_
      refine zw_getIv (v := (yrn σ w j).1) ⟨rfl, rfl⟩ zc_208 (by decide) (i3.1) ?_
      refine zw_aload ⟨rfl, rfl⟩ rfl ?_
      refine zw_getR 243 ⟨rfl, rfl⟩ zr_208_49 ?_
      refine zw_iload ⟨rfl, rfl⟩ rfl ?_
      refine zw_ialdv (v := (yE σ w).2 (s)) ⟨rfl, rfl⟩ za_243 (by omega) (((congrFun (iG 243 (by decide) (by decide)) _).trans (hE.2 _ (by omega) (by omega)))) ?_
      refine zw_iast ⟨rfl, rfl⟩ za_241 (by omega) ?_
      refine zw_aload ⟨rfl, rfl⟩ rfl ?_
      refine zw_dup ⟨rfl, rfl⟩ (by decide) ?_
      refine zw_getIv (v := (yrn σ w j).1) ⟨rfl, rfl⟩ zc_208 (by decide) ((zup_na (by decide)).trans (i3.1)) ?_
      refine zw_const ⟨rfl, rfl⟩ ?_
      refine zw_iadd ⟨rfl, rfl⟩ (by omega) ?_
      refine zw_putI ⟨rfl, rfl⟩ zc_208 (by decide) (fun h => absurd h (by decide)) ?_
      refine zw_aload ⟨rfl, rfl⟩ rfl ?_
      refine zw_getR 243 ⟨rfl, rfl⟩ zr_208_49 ?_
      refine zw_iload ⟨rfl, rfl⟩ rfl ?_
      refine zw_ialdv (v := (yE σ w).2 (s)) ⟨rfl, rfl⟩ za_243 (by omega) ((zup_na (by decide)).trans ((zup_na (by decide)).trans (((congrFun (iG 243 (by decide) (by decide)) _).trans (hE.2 _ (by omega) (by omega)))))) ?_
      refine zw_istore_2 ⟨rfl, rfl⟩ ?_
      refine zw_goto ⟨rfl, rfl⟩ rfl ?_
      have es : yrn σ w (j + 1) = ((yrn σ w j).1 + 1, (fun k => if k = (yrn σ w j).1 then (yE σ w).2 (yrn σ w j).2.2 else (yrn σ w j).2.1 k), (yE σ w).2 (yrn σ w j).2.2) := (yrn_s σ w i1.1).trans (if_pos (by omega))
      refine ih _ (j + 1) _ ⟨by omega, by omega⟩ (by rw [es, i2]) ?_ ((iF.u1 (by decide)).u2) (fun x x1 x2 => (zup_row x2).trans ((zup_row x1).trans (iG x x1 x2))) (by rw [es]; show (yrn σ w j).1 + 1 = j + 1; omega) (by omega)
      rw [es, i2]
      exact i3.ps rfl rfl

theorem m_Meven_e {w : Int} {M : zM} {Q : zV → zM → Prop} {σ : yS} (hV : yVal σ) (hG : yLay M σ) (hw : 1 ≤ w ∧ w ≤ 200) (hf : yfit σ w = 1) {u3 u4 u5 : zV} (hE : (∀ j, 0 ≤ j → j ≤ (yci (yK σ) (σ 0)) → M 242 j = (yE σ w).1 j) ∧ ∀ j, 0 ≤ j → j < (yci (yK σ) (σ 0)) → M 243 j = (yE σ w).2 j) (kk : ∀ P : zM, (yEm P (ygv σ w) ∧ P 242 0 = (yE σ w).1 0 ∧ yfm M P) → Q (0, 1) P) : zWp kM_evens 88 [(1, 208), (0, w), (0, -1), u3, u4, u5] [] M Q := by
  refine zw_aload ⟨rfl, rfl⟩ rfl ?_
  refine zw_const ⟨rfl, rfl⟩ ?_
  refine zw_putI ⟨rfl, rfl⟩ zc_208 (by decide) (fun h => absurd h (by decide)) ?_
  refine zw_const ⟨rfl, rfl⟩ ?_
  refine zw_istore_2 ⟨rfl, rfl⟩ ?_
  have g : yfm M (zup M 208 50 0) := yfm.rf.u2
  exact m_Meven_f (M := zup M 208 50 0) hV (hG.fm g) hw hf ⟨fun j j1 j2 => (zup_na (by decide)).trans (hE.1 j j1 j2), fun j j1 j2 => (zup_na (by decide)).trans (hE.2 j j1 j2)⟩ (fun P p => kk P ⟨p.1, p.2.1, ⟨fun x hx h8 => (p.2.2.1 x hx h8).trans (zup_row h8), fun j hj => (p.2.2.2 j hj).trans (zup_ni hj)⟩⟩) _ _ _ _ ⟨Int.le_refl _, Int.le_refl _⟩ (by rw [yrn_0]) (by rw [yrn_0]; exact ⟨zup_eq _ _ _ _, fun k k1 k2 => absurd k2 (by show ¬ (k < 0); omega)⟩) yfm.rf (fun _ _ _ => rfl) (by rw [yrn_0]) (Nat.lt_succ_self _)

theorem m_Mevens {w : Int} {M : zM} {Q : zV → zM → Prop} {σ : yS} (hV : yVal σ) (hM : yMo M σ) (hw : 1 ≤ w ∧ w ≤ 200) (kk : ∀ P : zM, (yLay P σ ∧ ymf M P ∧ (yfit σ w = 1 → yEm P (ygv σ w) ∧ P 242 0 = (yE σ w).1 0)) → Q (0, yfit σ w) P) : zWp kM_evens 0 [(1, 208), (0, w), (3, 0), (3, 0), (3, 0), (3, 0)] [] M Q := by
  have hfr := yfit_r σ w
  have hci := yci_60 (yKr_K hV)
  have hn := hV.1
  refine zw_aload ⟨rfl, rfl⟩ rfl ?_
  refine zw_cavv1 ⟨rfl, rfl⟩ rfl zc_208 rfl ?_
  refine m_laysAll hV hM (fun N1 p1 => ?_)
  have hG1 := p1.1
  refine zw_aload ⟨rfl, rfl⟩ rfl ?_
  refine zw_iload ⟨rfl, rfl⟩ rfl ?_
  refine zw_callv2 ⟨rfl, rfl⟩ rfl zc_208 rfl ?_
  refine m_Mfit hV hG1 ?_
  refine zw_ifne ⟨rfl, rfl⟩ rfl (fun c1 => ?_) (fun c1 => ?_)
  · skip
    refine zw_aload ⟨rfl, rfl⟩ rfl ?_
    refine zw_getR 242 ⟨rfl, rfl⟩ zr_208_48 ?_
    refine zw_aload ⟨rfl, rfl⟩ rfl ?_
    refine zw_getIv (v := (yci (yK σ) (σ 0))) ⟨rfl, rfl⟩ zc_208 (by decide) (hG1.1.1) ?_
    refine zw_const ⟨rfl, rfl⟩ ?_
    refine zw_iast ⟨rfl, rfl⟩ za_242 (by omega) ?_
    refine zw_aload ⟨rfl, rfl⟩ rfl ?_
    refine zw_getIv (v := (yci (yK σ) (σ 0))) ⟨rfl, rfl⟩ zc_208 (by decide) ((zup_na (by decide)).trans (hG1.1.1)) ?_
    refine zw_const ⟨rfl, rfl⟩ ?_
    refine zw_isub ⟨rfl, rfl⟩ (by omega) ?_
    refine zw_istore_2 ⟨rfl, rfl⟩ ?_
    have hf : yfit σ w = 1 := by omega
    rw [hf] at kk
    have g : yfm N1 (zup N1 242 (yci (yK σ) (σ 0)) 0) := yfm.rf.u1 (by decide)
    refine m_Meven_d (M := zup N1 242 (yci (yK σ) (σ 0)) 0) hV (hG1.fm g) hw hf (fun u3 u4 u5 P p => ?_) _ _ _ _ _ _ ⟨by omega, by omega⟩ ?_ yfm.rf (Nat.lt_succ_self _)
    · have g2 : yfm N1 P := ⟨fun x hx h8 => (p.2.1 x hx h8).trans (g.1 x hx h8), fun j hj => (p.2.2 j hj).trans (g.2 j hj)⟩
      refine m_Meven_e hV (hG1.fm g2) hw hf p.1 (fun P2 p2 => kk P2 ⟨(hG1.fm g2).fm p2.2.2, p1.2.m.tr (g2.m.tr p2.2.2.m), fun _ => ⟨p2.1, p2.2.1⟩⟩)
    · rw [show ((yci (yK σ) (σ 0)) - 1 - ((yci (yK σ) (σ 0)) - 1)).toNat = 0 by omega]
      exact ⟨fun j j1 j2 => by rw [show j = (yci (yK σ) (σ 0)) by omega, zup_eq]; rfl, fun j j1 j2 => by omega⟩
  · skip
    refine zw_const ⟨rfl, rfl⟩ ?_
    refine zw_zret rfl (by first | exact Or.inl rfl | exact Or.inr rfl | omega) ?_
    have hf : yfit σ w = 0 := by omega
    rw [hf] at kk
    exact kk _ ⟨hG1, p1.2.m, fun z => absurd z (by decide)⟩

theorem d_even {w : Int} {M : zM} {Q : zV → zM → Prop} {σ : yS} (hV : yVal σ) (hM : yMo M σ)  (k : ∀ N : zM, ymf M N → Q (0, ya_even σ w) N) : zWp kM_even 0 [(1, 208), (0, w)] [] M Q := by
  have hK := yKr_K hV
  have hn := hV.1
  have hci := yci_60 hK
  have eyL : (yTk σ (yci (yK σ) (σ 0))).1 = (yLast σ).1 := rfl
  have hgl := yLast_r hV
  refine zw_aload ⟨rfl, rfl⟩ rfl ?_
  refine zw_const ⟨rfl, rfl⟩ ?_
  refine zw_putI ⟨rfl, rfl⟩ zc_208 (by decide) (fun h => absurd h (by decide)) ?_
  refine zw_iload ⟨rfl, rfl⟩ rfl ?_
  refine zw_i2l ⟨rfl, rfl⟩ ?_
  refine zw_lconst ⟨rfl, rfl⟩ ?_
  refine zw_lconst ⟨rfl, rfl⟩ ?_
  refine zw_calLs3 ⟨rfl, rfl⟩ rfl rfl ?_
  refine zw_lload ⟨rfl, rfl⟩ rfl ?_
  refine zw_lload ⟨rfl, rfl⟩ rfl ?_
  refine zw_lcmp ⟨rfl, rfl⟩ ?_
  refine zw_iflt ⟨rfl, rfl⟩ rfl (fun c1 => ?_) (fun c1 => ?_)
  · replace c1 := zlc_lt.mp c1
    refine zw_const ⟨rfl, rfl⟩ ?_
    refine zw_zret rfl (by first | exact Or.inl rfl | exact Or.inr rfl | omega) ?_
    refine zw_ifne ⟨rfl, rfl⟩ rfl (fun q => absurd q (by decide)) (fun _ => ?_)
    refine zw_const ⟨rfl, rfl⟩ ?_
    refine zw_ret rfl ?_
    rw [show ya_even σ w = -3 from if_neg (by omega)] at k
    exact k _ ymf_0
  · replace c1 := (not_congr zlc_lt).mp c1
    refine zw_lload ⟨rfl, rfl⟩ rfl ?_
    refine zw_lload ⟨rfl, rfl⟩ rfl ?_
    refine zw_lcmp ⟨rfl, rfl⟩ ?_
    refine zw_ifgt ⟨rfl, rfl⟩ rfl (fun c3 => ?_) (fun c3 => ?_)
    · replace c3 := zlc_gt.mp c3
      refine zw_const ⟨rfl, rfl⟩ ?_
      refine zw_zret rfl (by first | exact Or.inl rfl | exact Or.inr rfl | omega) ?_
      refine zw_ifne ⟨rfl, rfl⟩ rfl (fun q => absurd q (by decide)) (fun _ => ?_)
      refine zw_const ⟨rfl, rfl⟩ ?_
      refine zw_ret rfl ?_
      rw [show ya_even σ w = -3 from if_neg (by omega)] at k
      exact k _ ymf_0
    · replace c3 := (not_congr zlc_gt).mp c3
      refine zw_const ⟨rfl, rfl⟩ ?_
      refine zw_goto ⟨rfl, rfl⟩ rfl ?_
      refine zw_zret rfl (by first | exact Or.inl rfl | exact Or.inr rfl | omega) ?_
      refine zw_ifne ⟨rfl, rfl⟩ rfl (fun _ => ?_) (fun q => absurd (by decide) q)
      refine zw_aload ⟨rfl, rfl⟩ rfl ?_
      refine zw_iload ⟨rfl, rfl⟩ rfl ?_
      refine zw_callv2 ⟨rfl, rfl⟩ rfl zc_208 rfl ?_
      refine m_Mevens hV (hM.cg (zup_row (by decide))) ⟨by omega, by omega⟩ (fun N1 p1 => ?_)
      obtain ⟨hG1, hf0, hE1⟩ := p1
      have hf1 : ymf M N1 := ymf_0.tr hf0
      have hfr := yfit_r σ w
      refine zw_ifeq ⟨rfl, rfl⟩ rfl (fun c6 => ?_) (fun c6 => ?_)
      · skip
        refine zw_const ⟨rfl, rfl⟩ ?_
        refine zw_ret rfl ?_
        rw [show ya_even σ w = _ from (if_pos ⟨by omega, by omega⟩).trans (if_neg (by omega))] at k
        exact k _ hf1
      · skip
        refine zw_aload ⟨rfl, rfl⟩ rfl ?_
        refine zw_getR 242 ⟨rfl, rfl⟩ zr_208_48 ?_
        refine zw_const ⟨rfl, rfl⟩ ?_
        refine zw_ialdv (v := (yE σ w).1 0) ⟨rfl, rfl⟩ za_242 (by omega) ((hE1 (by omega)).2) ?_
        refine zw_goto ⟨rfl, rfl⟩ rfl ?_
        refine zw_ret rfl ?_
        rw [show ya_even σ w = _ from (if_pos ⟨by omega, by omega⟩).trans (if_pos (by omega))] at k
        exact k _ hf1

theorem d_evenEnd {w i : Int} {M : zM} {Q : zV → zM → Prop} {σ : yS} (hV : yVal σ) (hM : yMo M σ)  (k : ∀ N : zM, ymf M N → Q (0, ya_evenEnd σ w i) N) : zWp kM_evenEnd 0 [(1, 208), (0, w), (0, i)] [] M Q := by
  have hK := yKr_K hV
  have hn := hV.1
  have hci := yci_60 hK
  have eyL : (yTk σ (yci (yK σ) (σ 0))).1 = (yLast σ).1 := rfl
  have hgl := yLast_r hV
  refine zw_aload ⟨rfl, rfl⟩ rfl ?_
  refine zw_const ⟨rfl, rfl⟩ ?_
  refine zw_putI ⟨rfl, rfl⟩ zc_208 (by decide) (fun h => absurd h (by decide)) ?_
  refine zw_iload ⟨rfl, rfl⟩ rfl ?_
  refine zw_i2l ⟨rfl, rfl⟩ ?_
  refine zw_lconst ⟨rfl, rfl⟩ ?_
  refine zw_lconst ⟨rfl, rfl⟩ ?_
  refine zw_calLs3 ⟨rfl, rfl⟩ rfl rfl ?_
  refine zw_lload ⟨rfl, rfl⟩ rfl ?_
  refine zw_lload ⟨rfl, rfl⟩ rfl ?_
  refine zw_lcmp ⟨rfl, rfl⟩ ?_
  refine zw_iflt ⟨rfl, rfl⟩ rfl (fun c1 => ?_) (fun c1 => ?_)
  · replace c1 := zlc_lt.mp c1
    refine zw_const ⟨rfl, rfl⟩ ?_
    refine zw_zret rfl (by first | exact Or.inl rfl | exact Or.inr rfl | omega) ?_
    refine zw_ifeq ⟨rfl, rfl⟩ rfl (fun _ => ?_) (fun q => absurd (by decide) q)
    refine zw_const ⟨rfl, rfl⟩ ?_
    refine zw_ret rfl ?_
    rw [show ya_evenEnd σ w i = -3 from if_neg (by omega)] at k
    exact k _ ymf_0
  · replace c1 := (not_congr zlc_lt).mp c1
    refine zw_lload ⟨rfl, rfl⟩ rfl ?_
    refine zw_lload ⟨rfl, rfl⟩ rfl ?_
    refine zw_lcmp ⟨rfl, rfl⟩ ?_
    refine zw_ifgt ⟨rfl, rfl⟩ rfl (fun c3 => ?_) (fun c3 => ?_)
    · replace c3 := zlc_gt.mp c3
      refine zw_const ⟨rfl, rfl⟩ ?_
      refine zw_zret rfl (by first | exact Or.inl rfl | exact Or.inr rfl | omega) ?_
      refine zw_ifeq ⟨rfl, rfl⟩ rfl (fun _ => ?_) (fun q => absurd (by decide) q)
      refine zw_const ⟨rfl, rfl⟩ ?_
      refine zw_ret rfl ?_
      rw [show ya_evenEnd σ w i = -3 from if_neg (by omega)] at k
      exact k _ ymf_0
    · replace c3 := (not_congr zlc_gt).mp c3
      refine zw_const ⟨rfl, rfl⟩ ?_
      refine zw_goto ⟨rfl, rfl⟩ rfl ?_
      refine zw_zret rfl (by first | exact Or.inl rfl | exact Or.inr rfl | omega) ?_
      refine zw_ifeq ⟨rfl, rfl⟩ rfl (fun q => absurd q (by decide)) (fun _ => ?_)
      refine zw_iload ⟨rfl, rfl⟩ rfl ?_
      refine zw_ifge ⟨rfl, rfl⟩ rfl (fun c6 => ?_) (fun c6 => ?_)
      · skip
        refine zw_aload ⟨rfl, rfl⟩ rfl ?_
        refine zw_iload ⟨rfl, rfl⟩ rfl ?_
        refine zw_callv2 ⟨rfl, rfl⟩ rfl zc_208 rfl ?_
        refine m_Mevens hV (hM.cg (zup_row (by decide))) ⟨by omega, by omega⟩ (fun N1 p1 => ?_)
        obtain ⟨hG1, hf0, hE1⟩ := p1
        have hf1 : ymf M N1 := ymf_0.tr hf0
        have hfr := yfit_r σ w
        refine zw_ifeq ⟨rfl, rfl⟩ rfl (fun c7 => ?_) (fun c7 => ?_)
        · skip
          refine zw_const ⟨rfl, rfl⟩ ?_
          refine zw_ret rfl ?_
          rw [show ya_evenEnd σ w i = _ from (if_pos ⟨⟨by omega, by omega⟩, by omega⟩).trans (if_neg (fun z => by omega))] at k
          exact k _ hf1
        · skip
          refine zw_iload ⟨rfl, rfl⟩ rfl ?_
          refine zw_aload ⟨rfl, rfl⟩ rfl ?_
          refine zw_getIv (v := (ygv σ w).1) ⟨rfl, rfl⟩ zc_208 (by decide) ((hE1 (by omega)).1.1) ?_
          refine zw_icge ⟨rfl, rfl⟩ rfl (fun c8 => ?_) (fun c8 => ?_)
          · skip
            refine zw_const ⟨rfl, rfl⟩ ?_
            refine zw_ret rfl ?_
            rw [show ya_evenEnd σ w i = _ from (if_pos ⟨⟨by omega, by omega⟩, by omega⟩).trans (if_neg (fun z => by omega))] at k
            exact k _ hf1
          · skip
            have hrr := yrn_r hV (w := w) ⟨by omega, by omega⟩ (show yfit σ w = 1 by omega) (yci (yK σ) (σ 0)) hci.1
            have hr : 0 ≤ (ygv σ w).2.1 i ∧ (ygv σ w).2.1 i ≤ (yci (yK σ) (σ 0)) := hrr.2.2 i (by omega) (by have z : i < (ygv σ w).1 := (by omega); exact z)
            have hr2 : (ygv σ w).1 ≤ (yci (yK σ) (σ 0)) := hrr.1.2.2.2
            refine zw_aload ⟨rfl, rfl⟩ rfl ?_
            refine zw_getR 212 ⟨rfl, rfl⟩ zr_208_5 ?_
            refine zw_aload ⟨rfl, rfl⟩ rfl ?_
            refine zw_getR 241 ⟨rfl, rfl⟩ zr_208_47 ?_
            refine zw_iload ⟨rfl, rfl⟩ rfl ?_
            refine zw_ialdv (v := (ygv σ w).2.1 i) ⟨rfl, rfl⟩ za_241 (by omega) ((hE1 (by omega)).1.2 i (by omega) (by omega)) ?_
            refine zw_ialdv (v := yB (yK σ) (((ygv σ w).2.1 i))) ⟨rfl, rfl⟩ za_212 (by omega) ((hG1.2.2.1 (((ygv σ w).2.1 i)) (by omega) (by omega)).1) ?_
            refine zw_goto ⟨rfl, rfl⟩ rfl ?_
            refine zw_ret rfl ?_
            rw [show ya_evenEnd σ w i = _ from (if_pos ⟨⟨by omega, by omega⟩, by omega⟩).trans (if_pos ⟨by omega, by omega⟩)] at k
            exact k _ hf1
      · skip
        refine zw_const ⟨rfl, rfl⟩ ?_
        refine zw_ret rfl ?_
        rw [show ya_evenEnd σ w i = -3 from if_neg (by omega)] at k
        exact k _ ymf_0

end