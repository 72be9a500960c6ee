/-! What is answered, as functions of the script and text -/
abbrev yLast (σ : yS) : yT := yTk σ (yci (yK σ) (σ 0))
abbrev yBack (σ : yS) : yR := yRc σ (yci (yK σ) (σ 0))
def ya_letter (σ : yS) (l w : Int) : Int := if ¬ (0 ≤ l ∧ l < 26) then -2 else if w = 0 then σ (2 + l) else if w = 1 then σ (28 + l) % 2 else if w = 2 then σ (28 + l) / 2 % 2 else if w = 3 then σ (28 + l) / 4 % 2 else if w = 4 then σ (54 + l) else if w = 5 then σ (80 + l) else -2
def ya_joins (σ : yS) (a b : Int) : Int := if (0 ≤ a ∧ a < 26) ∧ 0 ≤ b ∧ b < 26 then yjn σ a b else -2
def ya_at (σ : yS) (p : Int) : Int := if p < 0 then -3 else yL σ p
def yclf (σ : yS) (i w : Int) : Int := if w = 0 then yB (yK σ) i else if w = 1 then yB (yK σ) (i + 1) - yB (yK σ) i else if w = 2 then yso (yK σ (yB (yK σ) i)) else if w = 3 then ydd (yK σ) (yB (yK σ) i) else if w = 4 then yms (yK σ) (yB (yK σ) i) else if w = 5 then ybp σ (yK σ) (yB (yK σ) i) else if w = 6 then yrp σ (yK σ) (yB (yK σ) i)
  else if w = 7 then (if yms (yK σ) (yB (yK σ) i) = 0 then 0 else yms (yK σ) (yB (yK σ) i) - 1 - yba σ (yK σ) (yB (yK σ) i)) else if w = 8 then ypr σ (yK σ) (yB (yK σ) i) else if w = 9 then (yTk σ (i + 1)).1 - (yTk σ i).1 else if w = 10 then yX σ (i + 1) - yX σ i else -2
def ya_cluster (σ : yS) (i w : Int) : Int := if 0 ≤ i ∧ i < yci (yK σ) (σ 0) then yclf σ i w else -2
def ya_of (σ : yS) (p : Int) : Int := if p < 0 then -3 else if p < σ 0 then yci (yK σ) (p + 1) - 1 else -1
def ya_broken (σ : yS) (i : Int) : Int := if i < -1 then -3 else if i = -1 then ybw (yK σ) (σ 0) (-1) 0 else ynth (fun c => yso (yK σ (yB (yK σ) c))) 2 i (yci (yK σ) (σ 0)).toNat 0 0
def ygl (T : yT) (k w : Int) : Int := if w = 6 then yW T k else T.2.1 w k
def ya_glyph (σ : yS) (k w : Int) : Int := if (0 ≤ k ∧ k < (yLast σ).1) ∧ 0 ≤ w ∧ w < 7 then ygl (yLast σ) k w else -2
def ya_shown (σ : yS) (p : Int) : Int := if p < 0 then -3 else if p < σ 0 then (yLast σ).2.2 p else -1
def ya_back (σ : yS) (i : Int) : Int := if i < -1 then -3 else if i = -1 then (yBack σ).1 else if i < (yBack σ).1 then (yBack σ).2 i else -1
def yall (P : Int → Prop) [∀ k, Decidable (P k)] : Nat → Int
  | 0 => 1
  | k + 1 => if yall P k = 1 ∧ P (k : Int) then 1 else 0
def ya_isOrdered (σ : yS) : Int := if (yBack σ).1 = σ 0 then yall (fun p => (yBack σ).2 p = yL σ p) (σ 0).toNat else 0
def ya_stop (σ : yS) (i : Int) : Int := if i < 0 then -3 else ysp (yK σ) (σ 0) i
def ya_next (σ : yS) (p d : Int) : Int := if d ≠ 1 ∧ d ≠ -1 then -3 else if 0 ≤ p ∧ p ≤ σ 0 then (if d = 1 then ysu (yK σ) (σ 0) p else ysd (yK σ) p) else -5
def ya_x (σ : yS) (p : Int) : Int := if ysa (yK σ) (σ 0) p = -1 then -5 else yX σ (ysa (yK σ) (σ 0) p)
def yff (T : yT) (f : Int) : Int := ysm (fun k => if T.2.1 0 k = f then 1 else 0) 0 T.1
def ya_count (σ : yS) (tn hn w : Int) : Int := if w = 0 then σ 0 else if w = 1 then ylt σ else if w = 2 then σ 1 else if w = 3 then tn else if w = 4 then hn else if w = 5 then yX σ (yci (yK σ) (σ 0)) else if w = 6 then yff (yLast σ) 10 else if w = 7 then yff (yLast σ) 8 else -1
def ya_fault (ff fp w : Int) : Int := if w = 0 then ff else if w = 1 then fp else -1
theorem yall_r (P : Int → Prop) [∀ k, Decidable (P k)] (k : Nat) : yall P k = 0 ∨ yall P k = 1 := by
  cases k with
  | zero => exact Or.inr rfl
  | succ k => unfold yall; split <;> simp
theorem yall_1 (P : Int → Prop) [∀ k, Decidable (P k)] : ∀ (k : Nat), (∀ j, 0 ≤ j → j < (k : Int) → P j) → yall P k = 1 := by
  intro k
  induction k with
  | zero => intro _; rfl
  | succ k ih => intro h; unfold yall; rw [if_pos ⟨ih (fun j a b => h j a (by omega)), h k (by omega) (by omega)⟩]
theorem yall_0 (P : Int → Prop) [∀ k, Decidable (P k)] : ∀ (k : Nat) (j : Int), 0 ≤ j → j < (k : Int) → ¬ P j → yall P k = 0 := by
  intro k
  induction k with
  | zero => intro j a b; omega
  | succ k ih =>
    intro j a b h
    unfold yall
    refine if_neg (fun z => ?_)
    by_cases e : j = k
    · subst e; exact h z.2
    · have := ih j a (by omega) h; omega
theorem yLast_r {σ : yS} (hV : yVal σ) : 0 ≤ (yLast σ).1 ∧ (yLast σ).1 ≤ 180 := by
  have hK := yKr_K hV
  have h := yTc_n hV (fun _ => -1) (yci_60 hK).1 (Int.le_refl _)
  rw [yB_n hK] at h
  have hn := hV.1
  have e : yLast σ = yTc σ (fun _ => -1) (yci (yK σ) (σ 0)) := rfl
  rw [e]
  omega
theorem yBack_r {σ : yS} (hV : yVal σ) : 0 ≤ (yBack σ).1 ∧ (yBack σ).1 ≤ 2 * σ 0 := by
  have hK := yKr_K hV
  have h := yRc_n hV (yci_60 hK).1 (Int.le_refl _)
  rw [yB_n hK] at h
  exact h
theorem za_gfact {w : Int} (h : 0 ≤ w ∧ w < 7) : zar zS0 (128 + w) = some (1, 180) := by
  have : ∀ k : Nat, k < 7 → zar zS0 (128 + (k : Int)) = some (1, 180) := by decide
  have := this w.toNat (by omega)
  rw [show (w.toNat : Int) = w by omega] at this
  exact this

theorem m_xOf {i : Int} {M : zM} {Q : zV → zM → Prop} {σ : yS} (hV : yVal σ) (hG : ySet M σ) (k : Q (0, if 0 ≤ i ∧ i ≤ (yci (yK σ) (σ 0)) then yX σ i else 0) M) : zWp kDr_xOf 0 [(1, 126), (0, i)] [] M Q := by
  have hK := yKr_K hV
  have hn := hV.1
  have hci := yci_60 hK
  have eyL : (yTk σ (yci (yK σ) (σ 0))).1 = (yLast σ).1 := rfl
  have eyB : (yRc σ (yci (yK σ) (σ 0))).1 = (yBack σ).1 := rfl
  refine zw_iload ⟨rfl, rfl⟩ rfl ?_
  refine zw_iflt ⟨rfl, rfl⟩ rfl (fun c1 => ?_) (fun c1 => ?_)
  · skip
    refine zw_const ⟨rfl, rfl⟩ ?_
    refine zw_ret rfl ?_
    rw [if_neg (by omega)] at k
    exact k
  · skip
    refine zw_iload ⟨rfl, rfl⟩ rfl ?_
    refine zw_aload ⟨rfl, rfl⟩ rfl ?_
    refine zw_getR 105 ⟨rfl, rfl⟩ zr_126_6 ?_
    refine zw_getIv (v := (yci (yK σ) (σ 0))) ⟨rfl, rfl⟩ zc_105 (by decide) (hG.1.1.1.1) ?_
    refine zw_icgt ⟨rfl, rfl⟩ rfl (fun c2 => ?_) (fun c2 => ?_)
    · skip
      refine zw_const ⟨rfl, rfl⟩ ?_
      refine zw_ret rfl ?_
      rw [if_neg (by omega)] at k
      exact k
    · skip
      refine zw_aload ⟨rfl, rfl⟩ rfl ?_
      refine zw_getR 136 ⟨rfl, rfl⟩ zr_126_3 ?_
      refine zw_iload ⟨rfl, rfl⟩ rfl ?_
      refine zw_ialdv (v := yX σ (i)) ⟨rfl, rfl⟩ za_136 (by omega) ((hG.2.1.2.2.2 (i) (by omega) (by omega)).2) ?_
      refine zw_goto ⟨rfl, rfl⟩ rfl ?_
      refine zw_ret rfl ?_
      rw [if_pos (by omega)] at k
      exact k

theorem m_widthOfC {i : Int} {M : zM} {Q : zV → zM → Prop} {σ : yS} (hV : yVal σ) (hG : ySet M σ) (k : Q (0, if 0 ≤ i ∧ i < (yci (yK σ) (σ 0)) then yX σ (i + 1) - yX σ i else 0) M) : zWp kDr_widthOf 0 [(1, 126), (0, i)] [] M Q := by
  have hK := yKr_K hV
  have hn := hV.1
  have hci := yci_60 hK
  have eyL : (yTk σ (yci (yK σ) (σ 0))).1 = (yLast σ).1 := rfl
  have eyB : (yRc σ (yci (yK σ) (σ 0))).1 = (yBack σ).1 := rfl
  refine zw_aload ⟨rfl, rfl⟩ rfl ?_
  refine zw_getR 105 ⟨rfl, rfl⟩ zr_126_6 ?_
  refine zw_iload ⟨rfl, rfl⟩ rfl ?_
  refine zw_callv2 ⟨rfl, rfl⟩ rfl zc_105 rfl ?_
  refine zw_iload ⟨rfl, rfl⟩ rfl ?_
  refine zw_iflt ⟨rfl, rfl⟩ rfl (fun c1 => ?_) (fun c1 => ?_)
  · skip
    refine zw_const ⟨rfl, rfl⟩ ?_
    refine zw_zret rfl (by first | exact Or.inl rfl | exact Or.inr rfl | omega) ?_
    refine zw_ifeq ⟨rfl, rfl⟩ rfl (fun _ => ?_) (fun q => absurd (by decide) q)
    refine zw_const ⟨rfl, rfl⟩ ?_
    refine zw_ret rfl ?_
    rw [if_neg (by omega)] at k
    exact k
  · skip
    refine zw_iload ⟨rfl, rfl⟩ rfl ?_
    refine zw_aload ⟨rfl, rfl⟩ rfl ?_
    refine zw_getIv (v := (yci (yK σ) (σ 0))) ⟨rfl, rfl⟩ zc_105 (by decide) (hG.1.1.1.1) ?_
    refine zw_icge ⟨rfl, rfl⟩ rfl (fun c3 => ?_) (fun c3 => ?_)
    · skip
      refine zw_const ⟨rfl, rfl⟩ ?_
      refine zw_zret rfl (by first | exact Or.inl rfl | exact Or.inr rfl | omega) ?_
      refine zw_ifeq ⟨rfl, rfl⟩ rfl (fun _ => ?_) (fun q => absurd (by decide) q)
      refine zw_const ⟨rfl, rfl⟩ ?_
      refine zw_ret rfl ?_
      rw [if_neg (by omega)] at k
      exact k
    · skip
      refine zw_const ⟨rfl, rfl⟩ ?_
      refine zw_goto ⟨rfl, rfl⟩ rfl ?_
      refine zw_zret rfl (by first | exact Or.inl rfl | exact Or.inr rfl | omega) ?_
      refine zw_ifeq ⟨rfl, rfl⟩ rfl (fun q => absurd q (by decide)) (fun _ => ?_)
      have hx1 := yX_r hV (show 0 ≤ i by omega) (show i ≤ (yci (yK σ) (σ 0)) by omega)
      have hx2 := yX_r hV (show 0 ≤ i + 1 by omega) (show i + 1 ≤ (yci (yK σ) (σ 0)) by omega)
      refine zw_aload ⟨rfl, rfl⟩ rfl ?_
      refine zw_getR 136 ⟨rfl, rfl⟩ zr_126_3 ?_
      refine zw_iload ⟨rfl, rfl⟩ rfl ?_
      refine zw_const ⟨rfl, rfl⟩ ?_
      refine zw_iadd ⟨rfl, rfl⟩ (by omega) ?_
      refine zw_ialdv (v := yX σ ((i + 1))) ⟨rfl, rfl⟩ za_136 (by omega) ((hG.2.1.2.2.2 ((i + 1)) (by omega) (by omega)).2) ?_
      refine zw_aload ⟨rfl, rfl⟩ rfl ?_
      refine zw_getR 136 ⟨rfl, rfl⟩ zr_126_3 ?_
      refine zw_iload ⟨rfl, rfl⟩ rfl ?_
      refine zw_ialdv (v := yX σ (i)) ⟨rfl, rfl⟩ za_136 (by omega) ((hG.2.1.2.2.2 (i) (by omega) (by omega)).2) ?_
      refine zw_isub ⟨rfl, rfl⟩ (by omega) ?_
      refine zw_goto ⟨rfl, rfl⟩ rfl ?_
      refine zw_ret rfl ?_
      rw [if_pos (by omega)] at k
      exact k

theorem m_glyphsOfC {i : Int} {M : zM} {Q : zV → zM → Prop} {σ : yS} (hV : yVal σ) (hG : ySet M σ) (k : Q (0, if 0 ≤ i ∧ i < (yci (yK σ) (σ 0)) then (yTk σ (i + 1)).1 - (yTk σ i).1 else 0) M) : zWp kDr_glyphsOf 0 [(1, 126), (0, i)] [] M Q := by
  have hK := yKr_K hV
  have hn := hV.1
  have hci := yci_60 hK
  have eyL : (yTk σ (yci (yK σ) (σ 0))).1 = (yLast σ).1 := rfl
  have eyB : (yRc σ (yci (yK σ) (σ 0))).1 = (yBack σ).1 := rfl
  refine zw_aload ⟨rfl, rfl⟩ rfl ?_
  refine zw_getR 105 ⟨rfl, rfl⟩ zr_126_6 ?_
  refine zw_iload ⟨rfl, rfl⟩ rfl ?_
  refine zw_callv2 ⟨rfl, rfl⟩ rfl zc_105 rfl ?_
  refine zw_iload ⟨rfl, rfl⟩ rfl ?_
  refine zw_iflt ⟨rfl, rfl⟩ rfl (fun c1 => ?_) (fun c1 => ?_)
  · skip
    refine zw_const ⟨rfl, rfl⟩ ?_
    refine zw_zret rfl (by first | exact Or.inl rfl | exact Or.inr rfl | omega) ?_
    refine zw_ifeq ⟨rfl, rfl⟩ rfl (fun _ => ?_) (fun q => absurd (by decide) q)
    refine zw_const ⟨rfl, rfl⟩ ?_
    refine zw_ret rfl ?_
    rw [if_neg (by omega)] at k
    exact k
  · skip
    refine zw_iload ⟨rfl, rfl⟩ rfl ?_
    refine zw_aload ⟨rfl, rfl⟩ rfl ?_
    refine zw_getIv (v := (yci (yK σ) (σ 0))) ⟨rfl, rfl⟩ zc_105 (by decide) (hG.1.1.1.1) ?_
    refine zw_icge ⟨rfl, rfl⟩ rfl (fun c3 => ?_) (fun c3 => ?_)
    · skip
      refine zw_const ⟨rfl, rfl⟩ ?_
      refine zw_zret rfl (by first | exact Or.inl rfl | exact Or.inr rfl | omega) ?_
      refine zw_ifeq ⟨rfl, rfl⟩ rfl (fun _ => ?_) (fun q => absurd (by decide) q)
      refine zw_const ⟨rfl, rfl⟩ ?_
      refine zw_ret rfl ?_
      rw [if_neg (by omega)] at k
      exact k
    · skip
      refine zw_const ⟨rfl, rfl⟩ ?_
      refine zw_goto ⟨rfl, rfl⟩ rfl ?_
      refine zw_zret rfl (by first | exact Or.inl rfl | exact Or.inr rfl | omega) ?_
      refine zw_ifeq ⟨rfl, rfl⟩ rfl (fun q => absurd q (by decide)) (fun _ => ?_)
      have hx1 := yTc_n hV (fun _ => -1) (show 0 ≤ i by omega) (show i ≤ (yci (yK σ) (σ 0)) by omega)
      have hx2 := yTc_n hV (fun _ => -1) (show 0 ≤ i + 1 by omega) (show i + 1 ≤ (yci (yK σ) (σ 0)) by omega)
      have hx3 := (yB_r hK (show 0 ≤ i by omega) (show i ≤ (yci (yK σ) (σ 0)) by omega)).1
      have hx4 := (yB_r hK (show 0 ≤ i + 1 by omega) (show i + 1 ≤ (yci (yK σ) (σ 0)) by omega)).1
      have e1 : yTk σ i = yTc σ (fun _ => -1) i := rfl
      have e2 : yTk σ (i + 1) = yTc σ (fun _ => -1) (i + 1) := rfl
      rw [← e1] at hx1
      rw [← e2] at hx2
      refine zw_aload ⟨rfl, rfl⟩ rfl ?_
      refine zw_getR 137 ⟨rfl, rfl⟩ zr_126_4 ?_
      refine zw_iload ⟨rfl, rfl⟩ rfl ?_
      refine zw_const ⟨rfl, rfl⟩ ?_
      refine zw_iadd ⟨rfl, rfl⟩ (by omega) ?_
      refine zw_ialdv (v := (yTk σ ((i + 1))).1) ⟨rfl, rfl⟩ za_137 (by omega) ((hG.2.1.2.2.2 ((i + 1)) (by omega) (by omega)).1) ?_
      refine zw_aload ⟨rfl, rfl⟩ rfl ?_
      refine zw_getR 137 ⟨rfl, rfl⟩ zr_126_4 ?_
      refine zw_iload ⟨rfl, rfl⟩ rfl ?_
      refine zw_ialdv (v := (yTk σ (i)).1) ⟨rfl, rfl⟩ za_137 (by omega) ((hG.2.1.2.2.2 (i) (by omega) (by omega)).1) ?_
      refine zw_isub ⟨rfl, rfl⟩ (by omega) ?_
      refine zw_goto ⟨rfl, rfl⟩ rfl ?_
      refine zw_ret rfl ?_
      rw [if_pos (by omega)] at k
      exact k

theorem m_glyphsOfForm_l  {fm : Int} {M : zM} {Q : zV → zM → Prop} {σ : yS} (hV : yVal σ) (hG : ySet M σ) (k : Q (0, yff (yLast σ) fm) M) : ∀ (f : Nat) (m p : Int), (0 ≤ p ∧ p ≤ (yLast σ).1) → (m = ysm (fun k => if (yLast σ).2.1 0 k = fm then (1 : Int) else 0) 0 p) → ((yLast σ).1 - p).toNat < f → zWp kDr_glyphsOfForm 4 [(1, 126), (0, fm), (0, m), (0, p)] [] M Q := by
  intro f
  induction f with
  | zero => intro m p i1 i2 hf; exact absurd hf (Nat.not_lt_zero _)
  | succ f ih =>
    intro m p i1 i2 hf
    have hK := yKr_K hV
    have hn := hV.1
    have hci := yci_60 hK
    have eyL : (yTk σ (yci (yK σ) (σ 0))).1 = (yLast σ).1 := rfl
    have eyB : (yRc σ (yci (yK σ) (σ 0))).1 = (yBack σ).1 := rfl
    have hg := yLast_r hV
    have hs := ysm_b (f := (fun k => if (yLast σ).2.1 0 k = fm then (1 : Int) else 0)) (m := 1) (fun k => by show 0 ≤ (if _ then (1 : Int) else 0) ∧ _; split <;> omega) i1.1
    refine zw_iload ⟨rfl, rfl⟩ rfl ?_
    refine zw_aload ⟨rfl, rfl⟩ rfl ?_
    refine zw_getIv (v := (yLast σ).1) ⟨rfl, rfl⟩ zc_126 (by decide) (hG.2.1.1) ?_
    refine zw_icge ⟨rfl, rfl⟩ rfl (fun c1 => ?_) (fun c1 => ?_)
    · skip
      refine zw_iload ⟨rfl, rfl⟩ rfl ?_
      refine zw_ret rfl ?_
      rw [show yff (yLast σ) fm = m from by rw [i2, show p = (yLast σ).1 by omega]; rfl] at k
      exact k
    · skip
      refine zw_iload ⟨rfl, rfl⟩ rfl ?_
      refine zw_aload ⟨rfl, rfl⟩ rfl ?_
      refine zw_getR 127 ⟨rfl, rfl⟩ zr_126_1 ?_
      refine zw_const ⟨rfl, rfl⟩ ?_
      refine zw_row ⟨rfl, rfl⟩ zrw_127 (by omega) ?_
      rw [show ((128 : Int) + 0) = 128 from rfl]
      refine zw_iload ⟨rfl, rfl⟩ rfl ?_
      refine zw_ialdv (v := (yLast σ).2.1 0 p) ⟨rfl, rfl⟩ za_128 (by omega) ((hG.2.1.2.1 p (by omega) (by omega)).1) ?_
      refine zw_iload ⟨rfl, rfl⟩ rfl ?_
      refine zw_icne ⟨rfl, rfl⟩ rfl (fun c2 => ?_) (fun c2 => ?_)
      · skip
        refine zw_const ⟨rfl, rfl⟩ ?_
        refine zw_iadd ⟨rfl, rfl⟩ (by omega) ?_
        refine zw_istore_2 ⟨rfl, rfl⟩ ?_
        refine zw_iinc_3 ⟨rfl, rfl⟩ (by omega) ?_
        refine zw_goto ⟨rfl, rfl⟩ rfl ?_
        refine ih _ _ ⟨by omega, by omega⟩ ?_ (by omega)
        rw [ysm_s _ i1.1, ← i2]
        try dsimp only
        first | (rw [if_pos (by omega)]; done) | (rw [if_neg (by assumption)]; done) | (rw [if_neg (by omega)]; done)
      · skip
        refine zw_const ⟨rfl, rfl⟩ ?_
        refine zw_goto ⟨rfl, rfl⟩ rfl ?_
        refine zw_iadd ⟨rfl, rfl⟩ (by omega) ?_
        refine zw_istore_2 ⟨rfl, rfl⟩ ?_
        refine zw_iinc_3 ⟨rfl, rfl⟩ (by omega) ?_
        refine zw_goto ⟨rfl, rfl⟩ rfl ?_
        refine ih _ _ ⟨by omega, by omega⟩ ?_ (by omega)
        rw [ysm_s _ i1.1, ← i2]
        try dsimp only
        first | (rw [if_pos (by omega)]; done) | (rw [if_neg (by assumption)]; done) | (rw [if_neg (by omega)]; done)

theorem m_glyphsOfForm {f : Int} {M : zM} {Q : zV → zM → Prop} {σ : yS} (hV : yVal σ) (hG : ySet M σ) (k : Q (0, yff (yLast σ) f) M) : zWp kDr_glyphsOfForm 0 [(1, 126), (0, f), (3, 0), (3, 0)] [] M Q := by
  refine zw_const ⟨rfl, rfl⟩ ?_
  refine zw_istore_2 ⟨rfl, rfl⟩ ?_
  refine zw_const ⟨rfl, rfl⟩ ?_
  refine zw_istore_3 ⟨rfl, rfl⟩ ?_
  exact m_glyphsOfForm_l hV hG k _ _ _ ⟨Int.le_refl _, (yLast_r hV).1⟩ (ysm_0 _ (Int.le_refl _)).symm (Nat.lt_succ_self _)

theorem c_letter {l w : Int} {M : zM} {Q : zV → zM → Prop} {σ : yS} (hV : yVal σ) (hS : yTold M σ) (hG : ySet M σ)  (k : Q (0, ya_letter σ l w) M) : zWp kX_letter 0 [(1, 0), (0, l), (0, w), (3, 0)] [] M Q := by
  have hK := yKr_K hV
  have hn := hV.1
  have hci := yci_60 hK
  have eyL : (yTk σ (yci (yK σ) (σ 0))).1 = (yLast σ).1 := rfl
  have eyB : (yRc σ (yci (yK σ) (σ 0))).1 = (yBack σ).1 := rfl
  refine zw_iload ⟨rfl, rfl⟩ rfl ?_
  refine zw_calls1 ⟨rfl, rfl⟩ rfl rfl ?_
  refine zw_iload ⟨rfl, rfl⟩ rfl ?_
  refine zw_iflt ⟨rfl, rfl⟩ rfl (fun c1 => ?_) (fun c1 => ?_)
  · skip
    refine zw_const ⟨rfl, rfl⟩ ?_
    refine zw_zret rfl (by first | exact Or.inl rfl | exact Or.inr rfl | omega) ?_
    refine zw_ifne ⟨rfl, rfl⟩ rfl (fun q => absurd q (by decide)) (fun _ => ?_)
    refine zw_const ⟨rfl, rfl⟩ ?_
    refine zw_ret rfl ?_
    rw [show ya_letter σ l w = (-2) from by unfold ya_letter; first | (rw [if_pos (by omega)]; done) | (rw [if_neg (by omega)]; (repeat' split) <;> first | rfl | omega | (exfalso; omega))] at k
    exact k
  · skip
    refine zw_iload ⟨rfl, rfl⟩ rfl ?_
    refine zw_const ⟨rfl, rfl⟩ ?_
    refine zw_icge ⟨rfl, rfl⟩ rfl (fun c3 => ?_) (fun c3 => ?_)
    · skip
      refine zw_const ⟨rfl, rfl⟩ ?_
      refine zw_zret rfl (by first | exact Or.inl rfl | exact Or.inr rfl | omega) ?_
      refine zw_ifne ⟨rfl, rfl⟩ rfl (fun q => absurd q (by decide)) (fun _ => ?_)
      refine zw_const ⟨rfl, rfl⟩ ?_
      refine zw_ret rfl ?_
      rw [show ya_letter σ l w = (-2) from by unfold ya_letter; first | (rw [if_pos (by omega)]; done) | (rw [if_neg (by omega)]; (repeat' split) <;> first | rfl | omega | (exfalso; omega))] at k
      exact k
    · skip
      refine zw_const ⟨rfl, rfl⟩ ?_
      refine zw_goto ⟨rfl, rfl⟩ rfl ?_
      refine zw_zret rfl (by first | exact Or.inl rfl | exact Or.inr rfl | omega) ?_
      refine zw_ifne ⟨rfl, rfl⟩ rfl (fun _ => ?_) (fun q => absurd (by decide) q)
      have ek : ykd σ l = σ (2 + l) := if_pos ⟨by omega, by omega⟩
      have eb := hS.1.2.2.2.1 l (by omega) (by omega)
      have er := hS.1.2.2.1 l (by omega) (by omega)
      have ep : ypt σ l 0 = σ (54 + l) ∧ ypt σ l 1 = σ (80 + l) := by
        unfold ypt
        rw [ek]
        by_cases h9 : σ (2 + l) = 9
        · rw [if_pos h9, if_pos h9, if_pos rfl, if_neg (by decide)]; exact ⟨rfl, rfl⟩
        · have := hV.2.2.2.2.1 l (by omega) (by omega) h9
          rw [if_neg h9, if_neg h9]; omega
      refine zw_aload ⟨rfl, rfl⟩ rfl ?_
      refine zw_getR 2 ⟨rfl, rfl⟩ zr_0_4 ?_
      refine zw_getR 3 ⟨rfl, rfl⟩ zr_2_0 ?_
      refine zw_astore_3 ⟨rfl, rfl⟩ ?_
      refine zw_iload ⟨rfl, rfl⟩ rfl ?_
      by_cases e6_0 : w = 0
      · refine zw_table ⟨rfl, rfl⟩ (t' := 11) (by rw [e6_0]; rfl) ?_
        refine zw_aload ⟨rfl, rfl⟩ rfl ?_
        refine zw_iload ⟨rfl, rfl⟩ rfl ?_
        refine zw_callv2 ⟨rfl, rfl⟩ rfl zc_3 rfl ?_
        refine m_kindOf_3 hS.1 ?_
        refine zw_ret rfl ?_
        rw [show ya_letter σ l w = ykd σ l from by unfold ya_letter; first | (rw [if_pos (by omega)]; done) | (rw [if_neg (by omega)]; (repeat' split) <;> first | rfl | omega | (exfalso; omega))] at k
        exact k
      by_cases e6_1 : w = 1
      · refine zw_table ⟨rfl, rfl⟩ (t' := 15) (by rw [e6_1]; rfl) ?_
        refine zw_aload ⟨rfl, rfl⟩ rfl ?_
        refine zw_getIv (v := M 3 4) ⟨rfl, rfl⟩ zc_3 (by decide) rfl ?_
        refine zw_iload ⟨rfl, rfl⟩ rfl ?_
        refine zw_icne ⟨rfl, rfl⟩ rfl (fun c7 => ?_) (fun c7 => ?_)
        · skip
          refine zw_const ⟨rfl, rfl⟩ ?_
          refine zw_ret rfl ?_
          rw [show ya_letter σ l w = 0 from by unfold ya_letter; first | (rw [if_pos (by omega)]; done) | (rw [if_neg (by omega)]; (repeat' split) <;> first | rfl | omega | (exfalso; omega))] at k
          exact k
        · skip
          refine zw_const ⟨rfl, rfl⟩ ?_
          refine zw_goto ⟨rfl, rfl⟩ rfl ?_
          refine zw_ret rfl ?_
          rw [show ya_letter σ l w = 1 from by unfold ya_letter; first | (rw [if_pos (by omega)]; done) | (rw [if_neg (by omega)]; (repeat' split) <;> first | rfl | omega | (exfalso; omega))] at k
          exact k
      by_cases e6_2 : w = 2
      · refine zw_table ⟨rfl, rfl⟩ (t' := 23) (by rw [e6_2]; rfl) ?_
        refine zw_aload ⟨rfl, rfl⟩ rfl ?_
        refine zw_getIv (v := M 3 5) ⟨rfl, rfl⟩ zc_3 (by decide) rfl ?_
        refine zw_iload ⟨rfl, rfl⟩ rfl ?_
        refine zw_calls2 ⟨rfl, rfl⟩ rfl rfl ?_
        refine m_hasBit (by omega) ?_
        refine zw_ret rfl ?_
        rw [show ya_letter σ l w = yhb (M 3 5) l from by unfold ya_letter; first | (rw [if_pos (by omega)]; done) | (rw [if_neg (by omega)]; (repeat' split) <;> first | rfl | omega | (exfalso; omega))] at k
        exact k
      by_cases e6_3 : w = 3
      · refine zw_table ⟨rfl, rfl⟩ (t' := 28) (by rw [e6_3]; rfl) ?_
        refine zw_aload ⟨rfl, rfl⟩ rfl ?_
        refine zw_getIv (v := M 3 6) ⟨rfl, rfl⟩ zc_3 (by decide) rfl ?_
        refine zw_iload ⟨rfl, rfl⟩ rfl ?_
        refine zw_calls2 ⟨rfl, rfl⟩ rfl rfl ?_
        refine m_hasBit (by omega) ?_
        refine zw_ret rfl ?_
        rw [show ya_letter σ l w = yhb (M 3 6) l from by unfold ya_letter; first | (rw [if_pos (by omega)]; done) | (rw [if_neg (by omega)]; (repeat' split) <;> first | rfl | omega | (exfalso; omega))] at k
        exact k
      by_cases e6_4 : w = 4
      · refine zw_table ⟨rfl, rfl⟩ (t' := 33) (by rw [e6_4]; rfl) ?_
        refine zw_aload ⟨rfl, rfl⟩ rfl ?_
        refine zw_iload ⟨rfl, rfl⟩ rfl ?_
        refine zw_const ⟨rfl, rfl⟩ ?_
        refine zw_callv3 ⟨rfl, rfl⟩ rfl zc_3 rfl ?_
        refine m_partOf hS.1 ?_
        refine zw_ret rfl ?_
        rw [show ya_letter σ l w = ypt σ l 0 from by unfold ya_letter; first | (rw [if_pos (by omega)]; done) | (rw [if_neg (by omega)]; (repeat' split) <;> first | rfl | omega | (exfalso; omega))] at k
        exact k
      by_cases e6_5 : w = 5
      · refine zw_table ⟨rfl, rfl⟩ (t' := 38) (by rw [e6_5]; rfl) ?_
        refine zw_aload ⟨rfl, rfl⟩ rfl ?_
        refine zw_iload ⟨rfl, rfl⟩ rfl ?_
        refine zw_const ⟨rfl, rfl⟩ ?_
        refine zw_callv3 ⟨rfl, rfl⟩ rfl zc_3 rfl ?_
        refine m_partOf hS.1 ?_
        refine zw_ret rfl ?_
        rw [show ya_letter σ l w = ypt σ l 1 from by unfold ya_letter; first | (rw [if_pos (by omega)]; done) | (rw [if_neg (by omega)]; (repeat' split) <;> first | rfl | omega | (exfalso; omega))] at k
        exact k
      refine zw_table ⟨rfl, rfl⟩ (t' := 43) (by rw [ztgt_out (by show _ < (0 : Int) ∨ 0 + 6 ≤ _; omega)]; rfl) ?_
      refine zw_const ⟨rfl, rfl⟩ ?_
      refine zw_ret rfl ?_
      rw [show ya_letter σ l w = (-2) from by unfold ya_letter; first | (rw [if_pos (by omega)]; done) | (rw [if_neg (by omega)]; (repeat' split) <;> first | rfl | omega | (exfalso; omega))] at k
      exact k

theorem c_joins {a b : Int} {M : zM} {Q : zV → zM → Prop} {σ : yS} (hV : yVal σ) (hS : yTold M σ) (hG : ySet M σ)  (k : Q (0, ya_joins σ a b) M) : zWp kX_joins 0 [(1, 0), (0, a), (0, b)] [] M Q := by
  have hK := yKr_K hV
  have hn := hV.1
  have hci := yci_60 hK
  have eyL : (yTk σ (yci (yK σ) (σ 0))).1 = (yLast σ).1 := rfl
  have eyB : (yRc σ (yci (yK σ) (σ 0))).1 = (yBack σ).1 := rfl
  refine zw_iload ⟨rfl, rfl⟩ rfl ?_
  refine zw_calls1 ⟨rfl, rfl⟩ rfl rfl ?_
  refine zw_iload ⟨rfl, rfl⟩ rfl ?_
  refine zw_iflt ⟨rfl, rfl⟩ rfl (fun c1 => ?_) (fun c1 => ?_)
  · skip
    refine zw_const ⟨rfl, rfl⟩ ?_
    refine zw_zret rfl (by first | exact Or.inl rfl | exact Or.inr rfl | omega) ?_
    refine zw_ifeq ⟨rfl, rfl⟩ rfl (fun _ => ?_) (fun q => absurd (by decide) q)
    refine zw_const ⟨rfl, rfl⟩ ?_
    refine zw_ret rfl ?_
    rw [show ya_joins σ a b = (-2) from by unfold ya_joins; (repeat' split) <;> first | rfl | omega | (exfalso; omega)] at k
    exact k
  · skip
    refine zw_iload ⟨rfl, rfl⟩ rfl ?_
    refine zw_const ⟨rfl, rfl⟩ ?_
    refine zw_icge ⟨rfl, rfl⟩ rfl (fun c3 => ?_) (fun c3 => ?_)
    · skip
      refine zw_const ⟨rfl, rfl⟩ ?_
      refine zw_zret rfl (by first | exact Or.inl rfl | exact Or.inr rfl | omega) ?_
      refine zw_ifeq ⟨rfl, rfl⟩ rfl (fun _ => ?_) (fun q => absurd (by decide) q)
      refine zw_const ⟨rfl, rfl⟩ ?_
      refine zw_ret rfl ?_
      rw [show ya_joins σ a b = (-2) from by unfold ya_joins; (repeat' split) <;> first | rfl | omega | (exfalso; omega)] at k
      exact k
    · skip
      refine zw_const ⟨rfl, rfl⟩ ?_
      refine zw_goto ⟨rfl, rfl⟩ rfl ?_
      refine zw_zret rfl (by first | exact Or.inl rfl | exact Or.inr rfl | omega) ?_
      refine zw_ifeq ⟨rfl, rfl⟩ rfl (fun q => absurd q (by decide)) (fun _ => ?_)
      refine zw_iload ⟨rfl, rfl⟩ rfl ?_
      refine zw_calls1 ⟨rfl, rfl⟩ rfl rfl ?_
      refine zw_iload ⟨rfl, rfl⟩ rfl ?_
      refine zw_iflt ⟨rfl, rfl⟩ rfl (fun c6 => ?_) (fun c6 => ?_)
      · skip
        refine zw_const ⟨rfl, rfl⟩ ?_
        refine zw_zret rfl (by first | exact Or.inl rfl | exact Or.inr rfl | omega) ?_
        refine zw_ifne ⟨rfl, rfl⟩ rfl (fun q => absurd q (by decide)) (fun _ => ?_)
        refine zw_const ⟨rfl, rfl⟩ ?_
        refine zw_ret rfl ?_
        rw [show ya_joins σ a b = (-2) from by unfold ya_joins; (repeat' split) <;> first | rfl | omega | (exfalso; omega)] at k
        exact k
      · skip
        refine zw_iload ⟨rfl, rfl⟩ rfl ?_
        refine zw_const ⟨rfl, rfl⟩ ?_
        refine zw_icge ⟨rfl, rfl⟩ rfl (fun c8 => ?_) (fun c8 => ?_)
        · skip
          refine zw_const ⟨rfl, rfl⟩ ?_
          refine zw_zret rfl (by first | exact Or.inl rfl | exact Or.inr rfl | omega) ?_
          refine zw_ifne ⟨rfl, rfl⟩ rfl (fun q => absurd q (by decide)) (fun _ => ?_)
          refine zw_const ⟨rfl, rfl⟩ ?_
          refine zw_ret rfl ?_
          rw [show ya_joins σ a b = (-2) from by unfold ya_joins; (repeat' split) <;> first | rfl | omega | (exfalso; omega)] at k
          exact k
        · skip
          refine zw_const ⟨rfl, rfl⟩ ?_
          refine zw_goto ⟨rfl, rfl⟩ rfl ?_
          refine zw_zret rfl (by first | exact Or.inl rfl | exact Or.inr rfl | omega) ?_
          refine zw_ifne ⟨rfl, rfl⟩ rfl (fun _ => ?_) (fun q => absurd (by decide) q)
          have ej : yju σ a b = yjn σ a b := if_pos ⟨by omega, by omega, by omega, by omega⟩
          have ej2 := yju_r σ a b
          refine zw_aload ⟨rfl, rfl⟩ rfl ?_
          refine zw_getR 2 ⟨rfl, rfl⟩ zr_0_4 ?_
          refine zw_getR 3 ⟨rfl, rfl⟩ zr_2_0 ?_
          refine zw_iload ⟨rfl, rfl⟩ rfl ?_
          refine zw_iload ⟨rfl, rfl⟩ rfl ?_
          refine zw_callv3 ⟨rfl, rfl⟩ rfl zc_3 rfl ?_
          refine m_joined_3 hS.1 ?_
          refine zw_ifeq ⟨rfl, rfl⟩ rfl (fun c11 => ?_) (fun c11 => ?_)
          · skip
            refine zw_const ⟨rfl, rfl⟩ ?_
            refine zw_ret rfl ?_
            rw [show ya_joins σ a b = 0 from by unfold ya_joins; (repeat' split) <;> first | rfl | omega | (exfalso; omega)] at k
            exact k
          · skip
            refine zw_const ⟨rfl, rfl⟩ ?_
            refine zw_goto ⟨rfl, rfl⟩ rfl ?_
            refine zw_ret rfl ?_
            rw [show ya_joins σ a b = 1 from by unfold ya_joins; (repeat' split) <;> first | rfl | omega | (exfalso; omega)] at k
            exact k

theorem c_at {p : Int} {M : zM} {Q : zV → zM → Prop} {σ : yS} (hV : yVal σ) (hS : yTold M σ) (hG : ySet M σ)  (k : Q (0, ya_at σ p) M) : zWp kX_at 0 [(1, 0), (0, p)] [] M Q := by
  have hK := yKr_K hV
  have hn := hV.1
  have hci := yci_60 hK
  have eyL : (yTk σ (yci (yK σ) (σ 0))).1 = (yLast σ).1 := rfl
  have eyB : (yRc σ (yci (yK σ) (σ 0))).1 = (yBack σ).1 := rfl
  refine zw_iload ⟨rfl, rfl⟩ rfl ?_
  refine zw_ifge ⟨rfl, rfl⟩ rfl (fun c1 => ?_) (fun c1 => ?_)
  · skip
    refine zw_aload ⟨rfl, rfl⟩ rfl ?_
    refine zw_getR 2 ⟨rfl, rfl⟩ zr_0_4 ?_
    refine zw_iload ⟨rfl, rfl⟩ rfl ?_
    refine zw_callv2 ⟨rfl, rfl⟩ rfl zc_2 rfl ?_
    refine m_letterAt_s hV.1.2 hS ?_
    refine zw_ret rfl ?_
    rw [show ya_at σ p = yL σ p from by unfold ya_at; (repeat' split) <;> first | rfl | omega | (exfalso; omega)] at k
    exact k
  · skip
    refine zw_const ⟨rfl, rfl⟩ ?_
    refine zw_ret rfl ?_
    rw [show ya_at σ p = (-3) from by unfold ya_at; (repeat' split) <;> first | rfl | omega | (exfalso; omega)] at k
    exact k

theorem c_clusters {M : zM} {Q : zV → zM → Prop} {σ : yS} (hV : yVal σ) (hS : yTold M σ) (hG : ySet M σ)  (k : Q (0, (yci (yK σ) (σ 0))) M) : zWp kX_clusters 0 [(1, 0)] [] M Q := by
  have hK := yKr_K hV
  have hn := hV.1
  have hci := yci_60 hK
  have eyL : (yTk σ (yci (yK σ) (σ 0))).1 = (yLast σ).1 := rfl
  have eyB : (yRc σ (yci (yK σ) (σ 0))).1 = (yBack σ).1 := rfl
  refine zw_aload ⟨rfl, rfl⟩ rfl ?_
  refine zw_getR 105 ⟨rfl, rfl⟩ zr_0_8 ?_
  refine zw_getIv (v := (yci (yK σ) (σ 0))) ⟨rfl, rfl⟩ zc_105 (by decide) (hG.1.1.1.1) ?_
  refine zw_ret rfl ?_
  exact k

theorem c_cluster {i w : Int} {M : zM} {Q : zV → zM → Prop} {σ : yS} (hV : yVal σ) (hS : yTold M σ) (hG : ySet M σ)  (k : Q (0, ya_cluster σ i w) M) : zWp kX_cluster 0 [(1, 0), (0, i), (0, w)] [] M Q := by
  have hK := yKr_K hV
  have hn := hV.1
  have hci := yci_60 hK
  have eyL : (yTk σ (yci (yK σ) (σ 0))).1 = (yLast σ).1 := rfl
  have eyB : (yRc σ (yci (yK σ) (σ 0))).1 = (yBack σ).1 := rfl
  refine zw_aload ⟨rfl, rfl⟩ rfl ?_
  refine zw_getR 105 ⟨rfl, rfl⟩ zr_0_8 ?_
  refine zw_iload ⟨rfl, rfl⟩ rfl ?_
  refine zw_callv2 ⟨rfl, rfl⟩ rfl zc_105 rfl ?_
  refine zw_iload ⟨rfl, rfl⟩ rfl ?_
  refine zw_iflt ⟨rfl, rfl⟩ rfl (fun c1 => ?_) (fun c1 => ?_)
  · skip
    refine zw_const ⟨rfl, rfl⟩ ?_
    refine zw_zret rfl (by first | exact Or.inl rfl | exact Or.inr rfl | omega) ?_
    refine zw_ifne ⟨rfl, rfl⟩ rfl (fun q => absurd q (by decide)) (fun _ => ?_)
    refine zw_const ⟨rfl, rfl⟩ ?_
    refine zw_ret rfl ?_
    rw [show ya_cluster σ i w = (-2) from by unfold ya_cluster; first | (rw [if_neg (by omega)]; done) | (rw [if_pos (by omega)]; done) | (rw [if_pos (by omega)]; unfold yclf; (repeat' split) <;> first | rfl | omega | (exfalso; omega))] at k
    exact k
  · skip
    refine zw_iload ⟨rfl, rfl⟩ rfl ?_
    refine zw_aload ⟨rfl, rfl⟩ rfl ?_
    refine zw_getIv (v := (yci (yK σ) (σ 0))) ⟨rfl, rfl⟩ zc_105 (by decide) (hG.1.1.1.1) ?_
    refine zw_icge ⟨rfl, rfl⟩ rfl (fun c3 => ?_) (fun c3 => ?_)
    · skip
      refine zw_const ⟨rfl, rfl⟩ ?_
      refine zw_zret rfl (by first | exact Or.inl rfl | exact Or.inr rfl | omega) ?_
      refine zw_ifne ⟨rfl, rfl⟩ rfl (fun q => absurd q (by decide)) (fun _ => ?_)
      refine zw_const ⟨rfl, rfl⟩ ?_
      refine zw_ret rfl ?_
      rw [show ya_cluster σ i w = (-2) from by unfold ya_cluster; first | (rw [if_neg (by omega)]; done) | (rw [if_pos (by omega)]; done) | (rw [if_pos (by omega)]; unfold yclf; (repeat' split) <;> first | rfl | omega | (exfalso; omega))] at k
      exact k
    · skip
      refine zw_const ⟨rfl, rfl⟩ ?_
      refine zw_goto ⟨rfl, rfl⟩ rfl ?_
      refine zw_zret rfl (by first | exact Or.inl rfl | exact Or.inr rfl | omega) ?_
      refine zw_ifne ⟨rfl, rfl⟩ rfl (fun _ => ?_) (fun q => absurd (by decide) q)
      refine zw_iload ⟨rfl, rfl⟩ rfl ?_
      refine zw_const ⟨rfl, rfl⟩ ?_
      refine zw_icne ⟨rfl, rfl⟩ rfl (fun c6 => ?_) (fun c6 => ?_)
      · skip
        refine zw_iload ⟨rfl, rfl⟩ rfl ?_
        refine zw_const ⟨rfl, rfl⟩ ?_
        refine zw_icne ⟨rfl, rfl⟩ rfl (fun c7 => ?_) (fun c7 => ?_)
        · skip
          refine zw_iload ⟨rfl, rfl⟩ rfl ?_
          refine zw_iflt ⟨rfl, rfl⟩ rfl (fun c8 => ?_) (fun c8 => ?_)
          · skip
            refine zw_const ⟨rfl, rfl⟩ ?_
            refine zw_goto ⟨rfl, rfl⟩ rfl ?_
            refine zw_ret rfl ?_
            rw [show ya_cluster σ i w = (-2) from by unfold ya_cluster; first | (rw [if_neg (by omega)]; done) | (rw [if_pos (by omega)]; done) | (rw [if_pos (by omega)]; unfold yclf; (repeat' split) <;> first | rfl | omega | (exfalso; omega))] at k
            exact k
          · skip
            refine zw_iload ⟨rfl, rfl⟩ rfl ?_
            refine zw_const ⟨rfl, rfl⟩ ?_
            refine zw_iclt ⟨rfl, rfl⟩ rfl (fun c9 => ?_) (fun c9 => ?_)
            · skip
              refine zw_aload ⟨rfl, rfl⟩ rfl ?_
              refine zw_getR 105 ⟨rfl, rfl⟩ zr_0_8 ?_
              refine zw_iload ⟨rfl, rfl⟩ rfl ?_
              refine zw_iload ⟨rfl, rfl⟩ rfl ?_
              refine zw_callv3 ⟨rfl, rfl⟩ rfl zc_105 rfl ?_
              have hcl := hG.1.1.2.2 i (by omega) (by omega)
              have hde := hG.1.2 i (by omega) (by omega)
              unfold yDe at hde
              have hfa : M (109 + w) i = yclf σ i w := by
                have hw : w = 0 ∨ w = 1 ∨ w = 2 ∨ w = 3 ∨ w = 4 ∨ w = 5 ∨ w = 6 ∨ w = 7 ∨ w = 8 := by omega
                rcases hw with rfl | rfl | rfl | rfl | rfl | rfl | rfl | rfl | rfl
                · exact hcl.1
                · exact hcl.2.1
                · exact hcl.2.2
                · exact hde.1
                · exact hde.2.1
                · exact hde.2.2.1
                · exact hde.2.2.2.1
                · exact hde.2.2.2.2.1
                · exact hde.2.2.2.2.2
              refine m_factOf hK hG.1.1 ?_
              rw [if_pos ⟨⟨by omega, by omega⟩, by omega, by omega⟩, hfa]
              refine zw_ret rfl ?_
              rw [show ya_cluster σ i w = yclf σ i w from by unfold ya_cluster; first | (rw [if_neg (by omega)]; done) | (rw [if_pos (by omega)]; done) | (rw [if_pos (by omega)]; unfold yclf; (repeat' split) <;> first | rfl | omega | (exfalso; omega))] at k
              exact k
            · skip
              refine zw_const ⟨rfl, rfl⟩ ?_
              refine zw_goto ⟨rfl, rfl⟩ rfl ?_
              refine zw_ret rfl ?_
              rw [show ya_cluster σ i w = (-2) from by unfold ya_cluster; first | (rw [if_neg (by omega)]; done) | (rw [if_pos (by omega)]; done) | (rw [if_pos (by omega)]; unfold yclf; (repeat' split) <;> first | rfl | omega | (exfalso; omega))] at k
              exact k
        · skip
          refine zw_aload ⟨rfl, rfl⟩ rfl ?_
          refine zw_getR 126 ⟨rfl, rfl⟩ zr_0_10 ?_
          refine zw_iload ⟨rfl, rfl⟩ rfl ?_
          refine zw_callv2 ⟨rfl, rfl⟩ rfl zc_126 rfl ?_
          refine m_widthOfC hV hG ?_
          rw [if_pos ⟨by omega, by omega⟩]
          refine zw_ret rfl ?_
          rw [show ya_cluster σ i w = yX σ (i + 1) - yX σ i from by unfold ya_cluster; first | (rw [if_neg (by omega)]; done) | (rw [if_pos (by omega)]; done) | (rw [if_pos (by omega)]; unfold yclf; (repeat' split) <;> first | rfl | omega | (exfalso; omega))] at k
          exact k
      · skip
        refine zw_aload ⟨rfl, rfl⟩ rfl ?_
        refine zw_getR 126 ⟨rfl, rfl⟩ zr_0_10 ?_
        refine zw_iload ⟨rfl, rfl⟩ rfl ?_
        refine zw_callv2 ⟨rfl, rfl⟩ rfl zc_126 rfl ?_
        refine m_glyphsOfC hV hG ?_
        rw [if_pos ⟨by omega, by omega⟩]
        refine zw_ret rfl ?_
        rw [show ya_cluster σ i w = (yTk σ (i + 1)).1 - (yTk σ i).1 from by unfold ya_cluster; first | (rw [if_neg (by omega)]; done) | (rw [if_pos (by omega)]; done) | (rw [if_pos (by omega)]; unfold yclf; (repeat' split) <;> first | rfl | omega | (exfalso; omega))] at k
        exact k

theorem c_of {p : Int} {M : zM} {Q : zV → zM → Prop} {σ : yS} (hV : yVal σ) (hS : yTold M σ) (hG : ySet M σ)  (k : Q (0, ya_of σ p) M) : zWp kX_of 0 [(1, 0), (0, p)] [] M Q := by
  have hK := yKr_K hV
  have hn := hV.1
  have hci := yci_60 hK
  have eyL : (yTk σ (yci (yK σ) (σ 0))).1 = (yLast σ).1 := rfl
  have eyB : (yRc σ (yci (yK σ) (σ 0))).1 = (yBack σ).1 := rfl
  refine zw_iload ⟨rfl, rfl⟩ rfl ?_
  refine zw_ifge ⟨rfl, rfl⟩ rfl (fun c1 => ?_) (fun c1 => ?_)
  · skip
    refine zw_aload ⟨rfl, rfl⟩ rfl ?_
    refine zw_getR 105 ⟨rfl, rfl⟩ zr_0_8 ?_
    refine zw_iload ⟨rfl, rfl⟩ rfl ?_
    refine zw_callv2 ⟨rfl, rfl⟩ rfl zc_105 rfl ?_
    refine m_ownerOf hK hG.1.1 ?_
    refine zw_ret rfl ?_
    rw [show ya_of σ p = if 0 ≤ p ∧ p < σ 0 then yci (yK σ) (p + 1) - 1 else -1 from by unfold ya_of; (repeat' split) <;> first | rfl | omega | (exfalso; omega)] at k
    exact k
  · skip
    refine zw_const ⟨rfl, rfl⟩ ?_
    refine zw_ret rfl ?_
    rw [show ya_of σ p = (-3) from by unfold ya_of; (repeat' split) <;> first | rfl | omega | (exfalso; omega)] at k
    exact k

theorem c_broken {i : Int} {M : zM} {Q : zV → zM → Prop} {σ : yS} (hV : yVal σ) (hS : yTold M σ) (hG : ySet M σ)  (k : Q (0, ya_broken σ i) M) : zWp kX_broken 0 [(1, 0), (0, i)] [] M Q := by
  have hK := yKr_K hV
  have hn := hV.1
  have hci := yci_60 hK
  have eyL : (yTk σ (yci (yK σ) (σ 0))).1 = (yLast σ).1 := rfl
  have eyB : (yRc σ (yci (yK σ) (σ 0))).1 = (yBack σ).1 := rfl
  refine zw_iload ⟨rfl, rfl⟩ rfl ?_
  refine zw_const ⟨rfl, rfl⟩ ?_
  refine zw_icge ⟨rfl, rfl⟩ rfl (fun c1 => ?_) (fun c1 => ?_)
  · skip
    refine zw_iload ⟨rfl, rfl⟩ rfl ?_
    refine zw_const ⟨rfl, rfl⟩ ?_
    refine zw_icne ⟨rfl, rfl⟩ rfl (fun c2 => ?_) (fun c2 => ?_)
    · skip
      refine zw_aload ⟨rfl, rfl⟩ rfl ?_
      refine zw_getR 105 ⟨rfl, rfl⟩ zr_0_8 ?_
      refine zw_iload ⟨rfl, rfl⟩ rfl ?_
      refine zw_callv2 ⟨rfl, rfl⟩ rfl zc_105 rfl ?_
      refine m_brokenAt hK hG.1.1 ?_
      refine zw_ret rfl ?_
      rw [show ya_broken σ i = ynth (fun c => yso (yK σ (yB (yK σ) c))) 2 i (yci (yK σ) (σ 0)).toNat 0 0 from by unfold ya_broken; (repeat' split) <;> first | rfl | omega | (exfalso; omega)] at k
      exact k
    · skip
      refine zw_aload ⟨rfl, rfl⟩ rfl ?_
      refine zw_getR 105 ⟨rfl, rfl⟩ zr_0_8 ?_
      refine zw_const ⟨rfl, rfl⟩ ?_
      refine zw_const ⟨rfl, rfl⟩ ?_
      refine zw_callv3 ⟨rfl, rfl⟩ rfl zc_105 rfl ?_
      refine m_brokenWith hK hG.1.1 ?_
      refine zw_goto ⟨rfl, rfl⟩ rfl ?_
      refine zw_ret rfl ?_
      rw [show ya_broken σ i = ybw (yK σ) (σ 0) (-1) 0 from by unfold ya_broken; (repeat' split) <;> first | rfl | omega | (exfalso; omega)] at k
      exact k
  · skip
    refine zw_const ⟨rfl, rfl⟩ ?_
    refine zw_ret rfl ?_
    rw [show ya_broken σ i = (-3) from by unfold ya_broken; (repeat' split) <;> first | rfl | omega | (exfalso; omega)] at k
    exact k

theorem c_glyphs {M : zM} {Q : zV → zM → Prop} {σ : yS} (hV : yVal σ) (hS : yTold M σ) (hG : ySet M σ)  (k : Q (0, (yLast σ).1) M) : zWp kX_glyphs 0 [(1, 0)] [] M Q := by
  have hK := yKr_K hV
  have hn := hV.1
  have hci := yci_60 hK
  have eyL : (yTk σ (yci (yK σ) (σ 0))).1 = (yLast σ).1 := rfl
  have eyB : (yRc σ (yci (yK σ) (σ 0))).1 = (yBack σ).1 := rfl
  refine zw_aload ⟨rfl, rfl⟩ rfl ?_
  refine zw_getR 126 ⟨rfl, rfl⟩ zr_0_10 ?_
  refine zw_getIv (v := (yLast σ).1) ⟨rfl, rfl⟩ zc_126 (by decide) (hG.2.1.1) ?_
  refine zw_ret rfl ?_
  exact k

theorem c_glyph {g w : Int} {M : zM} {Q : zV → zM → Prop} {σ : yS} (hV : yVal σ) (hS : yTold M σ) (hG : ySet M σ)  (k : Q (0, ya_glyph σ g w) M) : zWp kX_glyph 0 [(1, 0), (0, g), (0, w)] [] M Q := by
  have hK := yKr_K hV
  have hn := hV.1
  have hci := yci_60 hK
  have eyL : (yTk σ (yci (yK σ) (σ 0))).1 = (yLast σ).1 := rfl
  have eyB : (yRc σ (yci (yK σ) (σ 0))).1 = (yBack σ).1 := rfl
  have hg := yLast_r hV
  refine zw_iload ⟨rfl, rfl⟩ rfl ?_
  refine zw_iflt ⟨rfl, rfl⟩ rfl (fun c1 => ?_) (fun c1 => ?_)
  · skip
    refine zw_const ⟨rfl, rfl⟩ ?_
    refine zw_ret rfl ?_
    rw [show ya_glyph σ g w = -2 from if_neg (by omega)] at k
    exact k
  · skip
    refine zw_iload ⟨rfl, rfl⟩ rfl ?_
    refine zw_aload ⟨rfl, rfl⟩ rfl ?_
    refine zw_getR 126 ⟨rfl, rfl⟩ zr_0_10 ?_
    refine zw_getIv (v := (yLast σ).1) ⟨rfl, rfl⟩ zc_126 (by decide) (hG.2.1.1) ?_
    refine zw_icge ⟨rfl, rfl⟩ rfl (fun c2 => ?_) (fun c2 => ?_)
    · skip
      refine zw_const ⟨rfl, rfl⟩ ?_
      refine zw_ret rfl ?_
      rw [show ya_glyph σ g w = -2 from if_neg (by omega)] at k
      exact k
    · skip
      refine zw_iload ⟨rfl, rfl⟩ rfl ?_
      refine zw_iflt ⟨rfl, rfl⟩ rfl (fun c3 => ?_) (fun c3 => ?_)
      · skip
        refine zw_const ⟨rfl, rfl⟩ ?_
        refine zw_ret rfl ?_
        rw [show ya_glyph σ g w = -2 from if_neg (by omega)] at k
        exact k
      · skip
        refine zw_iload ⟨rfl, rfl⟩ rfl ?_
        refine zw_const ⟨rfl, rfl⟩ ?_
        refine zw_iclt ⟨rfl, rfl⟩ rfl (fun c4 => ?_) (fun c4 => ?_)
        · skip
          have hfa : M (128 + w) g = ya_glyph σ g w := by
            have a := hG.2.1.2.1 g (by omega) (by have : g < (yLast σ).1 := (by omega); exact this)
            unfold ya_glyph ygl
            rw [if_pos (by omega)]
            have hw : w = 0 ∨ w = 1 ∨ w = 2 ∨ w = 3 ∨ w = 4 ∨ w = 5 ∨ w = 6 := by omega
            rcases hw with rfl | rfl | rfl | rfl | rfl | rfl | rfl
            · exact a.1
            · exact a.2.1
            · exact a.2.2.1
            · exact a.2.2.2.1
            · exact a.2.2.2.2.1
            · exact a.2.2.2.2.2.1
            · exact a.2.2.2.2.2.2
          refine zw_aload ⟨rfl, rfl⟩ rfl ?_
          refine zw_getR 126 ⟨rfl, rfl⟩ zr_0_10 ?_
          refine zw_getR 127 ⟨rfl, rfl⟩ zr_126_1 ?_
          refine zw_iload ⟨rfl, rfl⟩ rfl ?_
          refine zw_row ⟨rfl, rfl⟩ zrw_127 (by omega) ?_
          refine zw_iload ⟨rfl, rfl⟩ rfl ?_
          refine zw_ialdv (v := M (128 + w) g) ⟨rfl, rfl⟩ (za_gfact (by omega)) (by omega) rfl ?_
          refine zw_ret rfl ?_
          rw [hfa]
          exact k
        · skip
          refine zw_const ⟨rfl, rfl⟩ ?_
          refine zw_ret rfl ?_
          rw [show ya_glyph σ g w = -2 from if_neg (by omega)] at k
          exact k

theorem c_shown {p : Int} {M : zM} {Q : zV → zM → Prop} {σ : yS} (hV : yVal σ) (hS : yTold M σ) (hG : ySet M σ)  (k : Q (0, ya_shown σ p) M) : zWp kX_shown 0 [(1, 0), (0, p)] [] M Q := by
  have hK := yKr_K hV
  have hn := hV.1
  have hci := yci_60 hK
  have eyL : (yTk σ (yci (yK σ) (σ 0))).1 = (yLast σ).1 := rfl
  have eyB : (yRc σ (yci (yK σ) (σ 0))).1 = (yBack σ).1 := rfl
  refine zw_iload ⟨rfl, rfl⟩ rfl ?_
  refine zw_ifge ⟨rfl, rfl⟩ rfl (fun c1 => ?_) (fun c1 => ?_)
  · skip
    refine zw_iload ⟨rfl, rfl⟩ rfl ?_
    refine zw_aload ⟨rfl, rfl⟩ rfl ?_
    refine zw_getR 2 ⟨rfl, rfl⟩ zr_0_4 ?_
    refine zw_getIv (v := σ 0) ⟨rfl, rfl⟩ zc_2 (by decide) (hS.2.1) ?_
    refine zw_icge ⟨rfl, rfl⟩ rfl (fun c2 => ?_) (fun c2 => ?_)
    · skip
      refine zw_const ⟨rfl, rfl⟩ ?_
      refine zw_ret rfl ?_
      rw [show ya_shown σ p = (-1) from by unfold ya_shown; (repeat' split) <;> first | rfl | omega | (exfalso; omega)] at k
      exact k
    · skip
      refine zw_aload ⟨rfl, rfl⟩ rfl ?_
      refine zw_getR 126 ⟨rfl, rfl⟩ zr_0_10 ?_
      refine zw_getR 135 ⟨rfl, rfl⟩ zr_126_2 ?_
      refine zw_iload ⟨rfl, rfl⟩ rfl ?_
      refine zw_ialdv (v := (yLast σ).2.2 p) ⟨rfl, rfl⟩ za_135 (by omega) (hG.2.1.2.2.1 p (by omega) (by omega)) ?_
      refine zw_goto ⟨rfl, rfl⟩ rfl ?_
      refine zw_ret rfl ?_
      rw [show ya_shown σ p = (yLast σ).2.2 p from by unfold ya_shown; (repeat' split) <;> first | rfl | omega | (exfalso; omega)] at k
      exact k
  · skip
    refine zw_const ⟨rfl, rfl⟩ ?_
    refine zw_ret rfl ?_
    rw [show ya_shown σ p = (-3) from by unfold ya_shown; (repeat' split) <;> first | rfl | omega | (exfalso; omega)] at k
    exact k

theorem c_back {i : Int} {M : zM} {Q : zV → zM → Prop} {σ : yS} (hV : yVal σ) (hS : yTold M σ) (hG : ySet M σ)  (k : Q (0, ya_back σ i) M) : zWp kX_back 0 [(1, 0), (0, i)] [] M Q := by
  have hK := yKr_K hV
  have hn := hV.1
  have hci := yci_60 hK
  have eyL : (yTk σ (yci (yK σ) (σ 0))).1 = (yLast σ).1 := rfl
  have eyB : (yRc σ (yci (yK σ) (σ 0))).1 = (yBack σ).1 := rfl
  have hb := yBack_r hV
  refine zw_iload ⟨rfl, rfl⟩ rfl ?_
  refine zw_const ⟨rfl, rfl⟩ ?_
  refine zw_icge ⟨rfl, rfl⟩ rfl (fun c1 => ?_) (fun c1 => ?_)
  · skip
    refine zw_iload ⟨rfl, rfl⟩ rfl ?_
    refine zw_const ⟨rfl, rfl⟩ ?_
    refine zw_icne ⟨rfl, rfl⟩ rfl (fun c2 => ?_) (fun c2 => ?_)
    · skip
      refine zw_iload ⟨rfl, rfl⟩ rfl ?_
      refine zw_aload ⟨rfl, rfl⟩ rfl ?_
      refine zw_getR 138 ⟨rfl, rfl⟩ zr_0_11 ?_
      refine zw_getIv (v := (yBack σ).1) ⟨rfl, rfl⟩ zc_138 (by decide) (hG.2.2.1) ?_
      refine zw_icge ⟨rfl, rfl⟩ rfl (fun c3 => ?_) (fun c3 => ?_)
      · skip
        refine zw_const ⟨rfl, rfl⟩ ?_
        refine zw_ret rfl ?_
        rw [show ya_back σ i = (-1) from by unfold ya_back; (repeat' split) <;> first | rfl | omega | (exfalso; omega)] at k
        exact k
      · skip
        refine zw_aload ⟨rfl, rfl⟩ rfl ?_
        refine zw_getR 138 ⟨rfl, rfl⟩ zr_0_11 ?_
        refine zw_getR 139 ⟨rfl, rfl⟩ zr_138_1 ?_
        refine zw_iload ⟨rfl, rfl⟩ rfl ?_
        refine zw_ialdv (v := (yBack σ).2 i) ⟨rfl, rfl⟩ za_139 (by omega) (hG.2.2.2 i (by omega) (by omega)) ?_
        refine zw_goto ⟨rfl, rfl⟩ rfl ?_
        refine zw_ret rfl ?_
        rw [show ya_back σ i = (yBack σ).2 i from by unfold ya_back; (repeat' split) <;> first | rfl | omega | (exfalso; omega)] at k
        exact k
    · skip
      refine zw_aload ⟨rfl, rfl⟩ rfl ?_
      refine zw_getR 138 ⟨rfl, rfl⟩ zr_0_11 ?_
      refine zw_getIv (v := (yBack σ).1) ⟨rfl, rfl⟩ zc_138 (by decide) (hG.2.2.1) ?_
      refine zw_ret rfl ?_
      rw [show ya_back σ i = (yBack σ).1 from by unfold ya_back; (repeat' split) <;> first | rfl | omega | (exfalso; omega)] at k
      exact k
  · skip
    refine zw_const ⟨rfl, rfl⟩ ?_
    refine zw_ret rfl ?_
    rw [show ya_back σ i = (-3) from by unfold ya_back; (repeat' split) <;> first | rfl | omega | (exfalso; omega)] at k
    exact k

theorem c_isOrdered_l  {M : zM} {Q : zV → zM → Prop} {σ : yS} (hV : yVal σ) (hS : yTold M σ) (hG : ySet M σ) (he : (yBack σ).1 = σ 0) (k : Q (0, ya_isOrdered σ) M) : ∀ (f : Nat) (p : Int), (0 ≤ p ∧ p ≤ σ 0) → (∀ j, 0 ≤ j → j < p → (yBack σ).2 j = yL σ j) → (σ 0 - p).toNat < f → zWp kX_isOrdered 11 [(1, 0), (0, p)] [] M Q := by
  intro f
  induction f with
  | zero => intro p i1 i2 hf; exact absurd hf (Nat.not_lt_zero _)
  | succ f ih =>
    intro p i1 i2 hf
    have hK := yKr_K hV
    have hn := hV.1
    have hci := yci_60 hK
    have eyL : (yTk σ (yci (yK σ) (σ 0))).1 = (yLast σ).1 := rfl
    have eyB : (yRc σ (yci (yK σ) (σ 0))).1 = (yBack σ).1 := rfl
    refine zw_iload ⟨rfl, rfl⟩ rfl ?_
    refine zw_aload ⟨rfl, rfl⟩ rfl ?_
    refine zw_getR 2 ⟨rfl, rfl⟩ zr_0_4 ?_
    refine zw_getIv (v := σ 0) ⟨rfl, rfl⟩ zc_2 (by decide) (hS.2.1) ?_
    refine zw_icge ⟨rfl, rfl⟩ rfl (fun c1 => ?_) (fun c1 => ?_)
    · skip
      refine zw_const ⟨rfl, rfl⟩ ?_
      refine zw_ret rfl ?_
      rw [show ya_isOrdered σ = 1 from by unfold ya_isOrdered; rw [if_pos he]; exact yall_1 _ _ (fun j a b => i2 j a (by omega))] at k
      exact k
    · skip
      have eL : yL σ p = σ (122 + p) := if_pos ⟨by omega, by omega⟩
      refine zw_aload ⟨rfl, rfl⟩ rfl ?_
      refine zw_getR 138 ⟨rfl, rfl⟩ zr_0_11 ?_
      refine zw_getR 139 ⟨rfl, rfl⟩ zr_138_1 ?_
      refine zw_iload ⟨rfl, rfl⟩ rfl ?_
      refine zw_ialdv (v := (yBack σ).2 p) ⟨rfl, rfl⟩ za_139 (by omega) (hG.2.2.2 p (by omega) (by omega)) ?_
      refine zw_aload ⟨rfl, rfl⟩ rfl ?_
      refine zw_getR 2 ⟨rfl, rfl⟩ zr_0_4 ?_
      refine zw_getR 8 ⟨rfl, rfl⟩ zr_2_1 ?_
      refine zw_iload ⟨rfl, rfl⟩ rfl ?_
      refine zw_ialdv (v := σ (122 + p)) ⟨rfl, rfl⟩ za_8 (by omega) (hS.2.2 p (by omega) (by omega)) ?_
      refine zw_iceq ⟨rfl, rfl⟩ rfl (fun c2 => ?_) (fun c2 => ?_)
      · skip
        refine zw_iinc_1 ⟨rfl, rfl⟩ (by omega) ?_
        refine zw_goto ⟨rfl, rfl⟩ rfl ?_
        refine ih _ ⟨by omega, by omega⟩ (fun j j1 j2 => ?_) (by omega)
        by_cases e : j = p
        · subst e; rw [eL]; omega
        · exact i2 j j1 (by omega)
      · skip
        refine zw_const ⟨rfl, rfl⟩ ?_
        refine zw_ret rfl ?_
        rw [show ya_isOrdered σ = 0 from by unfold ya_isOrdered; rw [if_pos he]; exact yall_0 _ _ p i1.1 (by omega) (by rw [eL]; omega)] at k
        exact k

theorem c_isOrdered {M : zM} {Q : zV → zM → Prop} {σ : yS} (hV : yVal σ) (hS : yTold M σ) (hG : ySet M σ)  (k : Q (0, ya_isOrdered σ) M) : zWp kX_isOrdered 0 [(1, 0), (3, 0)] [] M Q := by
  have hK := yKr_K hV
  have hn := hV.1
  have hci := yci_60 hK
  have eyL : (yTk σ (yci (yK σ) (σ 0))).1 = (yLast σ).1 := rfl
  have eyB : (yRc σ (yci (yK σ) (σ 0))).1 = (yBack σ).1 := rfl
  refine zw_aload ⟨rfl, rfl⟩ rfl ?_
  refine zw_getR 138 ⟨rfl, rfl⟩ zr_0_11 ?_
  refine zw_getIv (v := (yBack σ).1) ⟨rfl, rfl⟩ zc_138 (by decide) (hG.2.2.1) ?_
  refine zw_aload ⟨rfl, rfl⟩ rfl ?_
  refine zw_getR 2 ⟨rfl, rfl⟩ zr_0_4 ?_
  refine zw_getIv (v := σ 0) ⟨rfl, rfl⟩ zc_2 (by decide) (hS.2.1) ?_
  refine zw_iceq ⟨rfl, rfl⟩ rfl (fun c1 => ?_) (fun c1 => ?_)
  · skip
    refine zw_const ⟨rfl, rfl⟩ ?_
    refine zw_istore_1 ⟨rfl, rfl⟩ ?_
    exact c_isOrdered_l hV hS hG (by omega) k _ _ ⟨Int.le_refl _, hn.1⟩ (fun j a b => by omega) (Nat.lt_succ_self _)
  · skip
    refine zw_const ⟨rfl, rfl⟩ ?_
    refine zw_ret rfl ?_
    rw [show ya_isOrdered σ = 0 from if_neg (by omega)] at k
    exact k

theorem c_stops {M : zM} {Q : zV → zM → Prop} {σ : yS} (hV : yVal σ) (hS : yTold M σ) (hG : ySet M σ)  (k : Q (0, (yci (yK σ) (σ 0)) + 1) M) : zWp kX_stops 0 [(1, 0)] [] M Q := by
  have hK := yKr_K hV
  have hn := hV.1
  have hci := yci_60 hK
  have eyL : (yTk σ (yci (yK σ) (σ 0))).1 = (yLast σ).1 := rfl
  have eyB : (yRc σ (yci (yK σ) (σ 0))).1 = (yBack σ).1 := rfl
  refine zw_aload ⟨rfl, rfl⟩ rfl ?_
  refine zw_getR 105 ⟨rfl, rfl⟩ zr_0_8 ?_
  refine zw_getIv (v := (yci (yK σ) (σ 0))) ⟨rfl, rfl⟩ zc_105 (by decide) (hG.1.1.1.1) ?_
  refine zw_const ⟨rfl, rfl⟩ ?_
  refine zw_iadd ⟨rfl, rfl⟩ (by omega) ?_
  refine zw_ret rfl ?_
  exact k

theorem c_stop {i : Int} {M : zM} {Q : zV → zM → Prop} {σ : yS} (hV : yVal σ) (hS : yTold M σ) (hG : ySet M σ)  (k : Q (0, ya_stop σ i) M) : zWp kX_stop 0 [(1, 0), (0, i)] [] M Q := by
  have hK := yKr_K hV
  have hn := hV.1
  have hci := yci_60 hK
  have eyL : (yTk σ (yci (yK σ) (σ 0))).1 = (yLast σ).1 := rfl
  have eyB : (yRc σ (yci (yK σ) (σ 0))).1 = (yBack σ).1 := rfl
  refine zw_iload ⟨rfl, rfl⟩ rfl ?_
  refine zw_ifge ⟨rfl, rfl⟩ rfl (fun c1 => ?_) (fun c1 => ?_)
  · skip
    refine zw_aload ⟨rfl, rfl⟩ rfl ?_
    refine zw_getR 105 ⟨rfl, rfl⟩ zr_0_8 ?_
    refine zw_iload ⟨rfl, rfl⟩ rfl ?_
    refine zw_callv2 ⟨rfl, rfl⟩ rfl zc_105 rfl ?_
    refine m_stopPlace hK hG.1.1 ?_
    refine zw_ret rfl ?_
    rw [show ya_stop σ i = ysp (yK σ) (σ 0) i from by unfold ya_stop; (repeat' split) <;> first | rfl | omega | (exfalso; omega)] at k
    exact k
  · skip
    refine zw_const ⟨rfl, rfl⟩ ?_
    refine zw_ret rfl ?_
    rw [show ya_stop σ i = (-3) from by unfold ya_stop; (repeat' split) <;> first | rfl | omega | (exfalso; omega)] at k
    exact k

theorem c_next {p d : Int} {M : zM} {Q : zV → zM → Prop} {σ : yS} (hV : yVal σ) (hS : yTold M σ) (hG : ySet M σ)  (k : Q (0, ya_next σ p d) M) : zWp kX_next 0 [(1, 0), (0, p), (0, d)] [] M Q := by
  have hK := yKr_K hV
  have hn := hV.1
  have hci := yci_60 hK
  have eyL : (yTk σ (yci (yK σ) (σ 0))).1 = (yLast σ).1 := rfl
  have eyB : (yRc σ (yci (yK σ) (σ 0))).1 = (yBack σ).1 := rfl
  refine zw_iload ⟨rfl, rfl⟩ rfl ?_
  refine zw_const ⟨rfl, rfl⟩ ?_
  refine zw_iceq ⟨rfl, rfl⟩ rfl (fun c1 => ?_) (fun c1 => ?_)
  · skip
    refine zw_iload ⟨rfl, rfl⟩ rfl ?_
    refine zw_iflt ⟨rfl, rfl⟩ rfl (fun c2 => ?_) (fun c2 => ?_)
    · skip
      refine zw_const ⟨rfl, rfl⟩ ?_
      refine zw_ret rfl ?_
      rw [show ya_next σ p d = (-5) from by unfold ya_next; (repeat' split) <;> first | rfl | omega | (exfalso; omega)] at k
      exact k
    · skip
      refine zw_iload ⟨rfl, rfl⟩ rfl ?_
      refine zw_aload ⟨rfl, rfl⟩ rfl ?_
      refine zw_getR 2 ⟨rfl, rfl⟩ zr_0_4 ?_
      refine zw_getIv (v := σ 0) ⟨rfl, rfl⟩ zc_2 (by decide) (hS.2.1) ?_
      refine zw_icle ⟨rfl, rfl⟩ rfl (fun c3 => ?_) (fun c3 => ?_)
      · skip
        refine zw_iload ⟨rfl, rfl⟩ rfl ?_
        refine zw_const ⟨rfl, rfl⟩ ?_
        refine zw_icne ⟨rfl, rfl⟩ rfl (fun c4 => ?_) (fun c4 => ?_)
        · skip
          refine zw_aload ⟨rfl, rfl⟩ rfl ?_
          refine zw_getR 105 ⟨rfl, rfl⟩ zr_0_8 ?_
          refine zw_iload ⟨rfl, rfl⟩ rfl ?_
          refine zw_callv2 ⟨rfl, rfl⟩ rfl zc_105 rfl ?_
          refine m_stopBelow hK hG.1.1 ⟨by omega, by omega⟩ ?_
          refine zw_ret rfl ?_
          rw [show ya_next σ p d = ysd (yK σ) p from by unfold ya_next; (repeat' split) <;> first | rfl | omega | (exfalso; omega)] at k
          exact k
        · skip
          refine zw_aload ⟨rfl, rfl⟩ rfl ?_
          refine zw_getR 105 ⟨rfl, rfl⟩ zr_0_8 ?_
          refine zw_iload ⟨rfl, rfl⟩ rfl ?_
          refine zw_callv2 ⟨rfl, rfl⟩ rfl zc_105 rfl ?_
          refine m_stopAbove hK hG.1.1 ⟨by omega, by omega⟩ ?_
          refine zw_goto ⟨rfl, rfl⟩ rfl ?_
          refine zw_ret rfl ?_
          rw [show ya_next σ p d = ysu (yK σ) (σ 0) p from by unfold ya_next; (repeat' split) <;> first | rfl | omega | (exfalso; omega)] at k
          exact k
      · skip
        refine zw_const ⟨rfl, rfl⟩ ?_
        refine zw_ret rfl ?_
        rw [show ya_next σ p d = (-5) from by unfold ya_next; (repeat' split) <;> first | rfl | omega | (exfalso; omega)] at k
        exact k
  · skip
    refine zw_iload ⟨rfl, rfl⟩ rfl ?_
    refine zw_const ⟨rfl, rfl⟩ ?_
    refine zw_iceq ⟨rfl, rfl⟩ rfl (fun c5 => ?_) (fun c5 => ?_)
    · skip
      refine zw_iload ⟨rfl, rfl⟩ rfl ?_
      refine zw_iflt ⟨rfl, rfl⟩ rfl (fun c6 => ?_) (fun c6 => ?_)
      · skip
        refine zw_const ⟨rfl, rfl⟩ ?_
        refine zw_ret rfl ?_
        rw [show ya_next σ p d = (-5) from by unfold ya_next; (repeat' split) <;> first | rfl | omega | (exfalso; omega)] at k
        exact k
      · skip
        refine zw_iload ⟨rfl, rfl⟩ rfl ?_
        refine zw_aload ⟨rfl, rfl⟩ rfl ?_
        refine zw_getR 2 ⟨rfl, rfl⟩ zr_0_4 ?_
        refine zw_getIv (v := σ 0) ⟨rfl, rfl⟩ zc_2 (by decide) (hS.2.1) ?_
        refine zw_icle ⟨rfl, rfl⟩ rfl (fun c7 => ?_) (fun c7 => ?_)
        · skip
          refine zw_iload ⟨rfl, rfl⟩ rfl ?_
          refine zw_const ⟨rfl, rfl⟩ ?_
          refine zw_icne ⟨rfl, rfl⟩ rfl (fun c8 => ?_) (fun c8 => ?_)
          · skip
            refine zw_aload ⟨rfl, rfl⟩ rfl ?_
            refine zw_getR 105 ⟨rfl, rfl⟩ zr_0_8 ?_
            refine zw_iload ⟨rfl, rfl⟩ rfl ?_
            refine zw_callv2 ⟨rfl, rfl⟩ rfl zc_105 rfl ?_
            refine m_stopBelow hK hG.1.1 ⟨by omega, by omega⟩ ?_
            refine zw_ret rfl ?_
            rw [show ya_next σ p d = ysd (yK σ) p from by unfold ya_next; (repeat' split) <;> first | rfl | omega | (exfalso; omega)] at k
            exact k
          · skip
            refine zw_aload ⟨rfl, rfl⟩ rfl ?_
            refine zw_getR 105 ⟨rfl, rfl⟩ zr_0_8 ?_
            refine zw_iload ⟨rfl, rfl⟩ rfl ?_
            refine zw_callv2 ⟨rfl, rfl⟩ rfl zc_105 rfl ?_
            refine m_stopAbove hK hG.1.1 ⟨by omega, by omega⟩ ?_
            refine zw_goto ⟨rfl, rfl⟩ rfl ?_
            refine zw_ret rfl ?_
            rw [show ya_next σ p d = ysu (yK σ) (σ 0) p from by unfold ya_next; (repeat' split) <;> first | rfl | omega | (exfalso; omega)] at k
            exact k
        · skip
          refine zw_const ⟨rfl, rfl⟩ ?_
          refine zw_ret rfl ?_
          rw [show ya_next σ p d = (-5) from by unfold ya_next; (repeat' split) <;> first | rfl | omega | (exfalso; omega)] at k
          exact k
    · skip
      refine zw_const ⟨rfl, rfl⟩ ?_
      refine zw_ret rfl ?_
      rw [show ya_next σ p d = (-3) from by unfold ya_next; (repeat' split) <;> first | rfl | omega | (exfalso; omega)] at k
      exact k

theorem c_x {p : Int} {M : zM} {Q : zV → zM → Prop} {σ : yS} (hV : yVal σ) (hS : yTold M σ) (hG : ySet M σ)  (k : Q (0, ya_x σ p) M) : zWp kX_x 0 [(1, 0), (0, p), (3, 0)] [] M Q := by
  have hK := yKr_K hV
  have hn := hV.1
  have hci := yci_60 hK
  have eyL : (yTk σ (yci (yK σ) (σ 0))).1 = (yLast σ).1 := rfl
  have eyB : (yRc σ (yci (yK σ) (σ 0))).1 = (yBack σ).1 := rfl
  refine zw_aload ⟨rfl, rfl⟩ rfl ?_
  refine zw_getR 105 ⟨rfl, rfl⟩ zr_0_8 ?_
  refine zw_iload ⟨rfl, rfl⟩ rfl ?_
  refine zw_callv2 ⟨rfl, rfl⟩ rfl zc_105 rfl ?_
  refine m_stopAt hK hG.1.1 ?_
  refine zw_istore_2 ⟨rfl, rfl⟩ ?_
  refine zw_iload ⟨rfl, rfl⟩ rfl ?_
  refine zw_const ⟨rfl, rfl⟩ ?_
  refine zw_icne ⟨rfl, rfl⟩ rfl (fun c1 => ?_) (fun c1 => ?_)
  · skip
    refine zw_aload ⟨rfl, rfl⟩ rfl ?_
    refine zw_getR 126 ⟨rfl, rfl⟩ zr_0_10 ?_
    refine zw_iload ⟨rfl, rfl⟩ rfl ?_
    refine zw_callv2 ⟨rfl, rfl⟩ rfl zc_126 rfl ?_
    have hsa := ysa_B hK (p := p) (by omega)
    refine m_xOf hV hG ?_
    rw [if_pos hsa.1]
    refine zw_ret rfl ?_
    rw [show ya_x σ p = yX σ (ysa (yK σ) (σ 0) p) from by unfold ya_x; (repeat' split) <;> first | rfl | omega | (exfalso; omega)] at k
    exact k
  · skip
    refine zw_const ⟨rfl, rfl⟩ ?_
    refine zw_goto ⟨rfl, rfl⟩ rfl ?_
    refine zw_ret rfl ?_
    rw [show ya_x σ p = (-5) from by unfold ya_x; (repeat' split) <;> first | rfl | omega | (exfalso; omega)] at k
    exact k

theorem c_count {w : Int} {M : zM} {Q : zV → zM → Prop} {σ : yS} (hV : yVal σ) (hS : yTold M σ) (hG : ySet M σ) {tn un : Int} (ht : M 0 1 = tn) (hh : M 9 0 = un) (k : Q (0, ya_count σ tn un w) M) : zWp kX_count 0 [(1, 0), (0, w)] [] M Q := by
  have hK := yKr_K hV
  have hn := hV.1
  have hci := yci_60 hK
  have eyL : (yTk σ (yci (yK σ) (σ 0))).1 = (yLast σ).1 := rfl
  have eyB : (yRc σ (yci (yK σ) (σ 0))).1 = (yBack σ).1 := rfl
  refine zw_iload ⟨rfl, rfl⟩ rfl ?_
  by_cases e1_0 : w = 0
  · refine zw_table ⟨rfl, rfl⟩ (t' := 2) (by rw [e1_0]; rfl) ?_
    refine zw_aload ⟨rfl, rfl⟩ rfl ?_
    refine zw_getR 2 ⟨rfl, rfl⟩ zr_0_4 ?_
    refine zw_getIv (v := σ 0) ⟨rfl, rfl⟩ zc_2 (by decide) (hS.2.1) ?_
    refine zw_ret rfl ?_
    rw [show ya_count σ tn un w = σ 0 from by unfold ya_count; (repeat' split) <;> first | rfl | omega | (exfalso; omega)] at k
    exact k
  by_cases e1_1 : w = 1
  · refine zw_table ⟨rfl, rfl⟩ (t' := 6) (by rw [e1_1]; rfl) ?_
    refine zw_aload ⟨rfl, rfl⟩ rfl ?_
    refine zw_getR 2 ⟨rfl, rfl⟩ zr_0_4 ?_
    refine zw_getR 3 ⟨rfl, rfl⟩ zr_2_0 ?_
    refine zw_callv1 ⟨rfl, rfl⟩ rfl zc_3 rfl ?_
    refine m_lettersTold hS.1 ?_
    refine zw_ret rfl ?_
    rw [show ya_count σ tn un w = ylt σ from by unfold ya_count; (repeat' split) <;> first | rfl | omega | (exfalso; omega)] at k
    exact k
  by_cases e1_2 : w = 2
  · refine zw_table ⟨rfl, rfl⟩ (t' := 11) (by rw [e1_2]; rfl) ?_
    refine zw_aload ⟨rfl, rfl⟩ rfl ?_
    refine zw_getR 2 ⟨rfl, rfl⟩ zr_0_4 ?_
    refine zw_getR 3 ⟨rfl, rfl⟩ zr_2_0 ?_
    refine zw_getIv (v := σ 1) ⟨rfl, rfl⟩ zc_3 (by decide) (hS.1.2.2.2.2.2) ?_
    refine zw_ret rfl ?_
    rw [show ya_count σ tn un w = σ 1 from by unfold ya_count; (repeat' split) <;> first | rfl | omega | (exfalso; omega)] at k
    exact k
  by_cases e1_3 : w = 3
  · refine zw_table ⟨rfl, rfl⟩ (t' := 16) (by rw [e1_3]; rfl) ?_
    refine zw_aload ⟨rfl, rfl⟩ rfl ?_
    refine zw_getIv (v := tn) ⟨rfl, rfl⟩ zc_0 (by decide) (ht) ?_
    refine zw_ret rfl ?_
    rw [show ya_count σ tn un w = tn from by unfold ya_count; (repeat' split) <;> first | rfl | omega | (exfalso; omega)] at k
    exact k
  by_cases e1_4 : w = 4
  · refine zw_table ⟨rfl, rfl⟩ (t' := 19) (by rw [e1_4]; rfl) ?_
    refine zw_aload ⟨rfl, rfl⟩ rfl ?_
    refine zw_getR 9 ⟨rfl, rfl⟩ zr_0_5 ?_
    refine zw_getIv (v := un) ⟨rfl, rfl⟩ zc_9 (by decide) (hh) ?_
    refine zw_ret rfl ?_
    rw [show ya_count σ tn un w = un from by unfold ya_count; (repeat' split) <;> first | rfl | omega | (exfalso; omega)] at k
    exact k
  by_cases e1_5 : w = 5
  · refine zw_table ⟨rfl, rfl⟩ (t' := 23) (by rw [e1_5]; rfl) ?_
    refine zw_aload ⟨rfl, rfl⟩ rfl ?_
    refine zw_getR 126 ⟨rfl, rfl⟩ zr_0_10 ?_
    refine zw_aload ⟨rfl, rfl⟩ rfl ?_
    refine zw_getR 105 ⟨rfl, rfl⟩ zr_0_8 ?_
    refine zw_getIv (v := (yci (yK σ) (σ 0))) ⟨rfl, rfl⟩ zc_105 (by decide) (hG.1.1.1.1) ?_
    refine zw_callv2 ⟨rfl, rfl⟩ rfl zc_126 rfl ?_
    refine m_xOf hV hG ?_
    rw [if_pos ⟨hci.1, Int.le_refl _⟩]
    refine zw_ret rfl ?_
    rw [show ya_count σ tn un w = yX σ (yci (yK σ) (σ 0)) from by unfold ya_count; (repeat' split) <;> first | rfl | omega | (exfalso; omega)] at k
    exact k
  by_cases e1_6 : w = 6
  · refine zw_table ⟨rfl, rfl⟩ (t' := 30) (by rw [e1_6]; rfl) ?_
    refine zw_aload ⟨rfl, rfl⟩ rfl ?_
    refine zw_getR 126 ⟨rfl, rfl⟩ zr_0_10 ?_
    refine zw_const ⟨rfl, rfl⟩ ?_
    refine zw_callv2 ⟨rfl, rfl⟩ rfl zc_126 rfl ?_
    refine m_glyphsOfForm hV hG ?_
    refine zw_ret rfl ?_
    rw [show ya_count σ tn un w = yff (yLast σ) 10 from by unfold ya_count; (repeat' split) <;> first | rfl | omega | (exfalso; omega)] at k
    exact k
  by_cases e1_7 : w = 7
  · refine zw_table ⟨rfl, rfl⟩ (t' := 35) (by rw [e1_7]; rfl) ?_
    refine zw_aload ⟨rfl, rfl⟩ rfl ?_
    refine zw_getR 126 ⟨rfl, rfl⟩ zr_0_10 ?_
    refine zw_const ⟨rfl, rfl⟩ ?_
    refine zw_callv2 ⟨rfl, rfl⟩ rfl zc_126 rfl ?_
    refine m_glyphsOfForm hV hG ?_
    refine zw_ret rfl ?_
    rw [show ya_count σ tn un w = yff (yLast σ) 8 from by unfold ya_count; (repeat' split) <;> first | rfl | omega | (exfalso; omega)] at k
    exact k
  refine zw_table ⟨rfl, rfl⟩ (t' := 40) (by rw [ztgt_out (by show _ < (0 : Int) ∨ 0 + 8 ≤ _; omega)]; rfl) ?_
  refine zw_const ⟨rfl, rfl⟩ ?_
  refine zw_ret rfl ?_
  rw [show ya_count σ tn un w = (-1) from by unfold ya_count; (repeat' split) <;> first | rfl | omega | (exfalso; omega)] at k
  exact k

theorem c_fault {w ff fp : Int} {M : zM} {Q : zV → zM → Prop} (hf : M 0 2 = ff) (hp : M 0 3 = fp) (k : Q (0, ya_fault ff fp w) M) : zWp kX_fault 0 [(1, 0), (0, w)] [] M Q := by
  refine zw_iload ⟨rfl, rfl⟩ rfl ?_
  by_cases e1_0 : w = 0
  · refine zw_lookup ⟨rfl, rfl⟩ (t' := 2) (by rw [e1_0]; rfl) ?_
    refine zw_aload ⟨rfl, rfl⟩ rfl ?_
    refine zw_getIv (v := ff) ⟨rfl, rfl⟩ zc_0 (by decide) (hf) ?_
    refine zw_ret rfl ?_
    rw [show ya_fault ff fp w = ff from by unfold ya_fault; (repeat' split) <;> first | rfl | omega | (exfalso; omega)] at k
    exact k
  by_cases e1_1 : w = 1
  · refine zw_lookup ⟨rfl, rfl⟩ (t' := 5) (by rw [e1_1]; rfl) ?_
    refine zw_aload ⟨rfl, rfl⟩ rfl ?_
    refine zw_getIv (v := fp) ⟨rfl, rfl⟩ zc_0 (by decide) (hp) ?_
    refine zw_ret rfl ?_
    rw [show ya_fault ff fp w = fp from by unfold ya_fault; (repeat' split) <;> first | rfl | omega | (exfalso; omega)] at k
    exact k
  refine zw_lookup ⟨rfl, rfl⟩ (t' := 8) (by simp only [zlook, if_neg e1_0, if_neg e1_1]; rfl) ?_
  refine zw_const ⟨rfl, rfl⟩ ?_
  refine zw_ret rfl ?_
  rw [show ya_fault ff fp w = (-1) from by unfold ya_fault; (repeat' split) <;> first | rfl | omega | (exfalso; omega)] at k
  exact k
