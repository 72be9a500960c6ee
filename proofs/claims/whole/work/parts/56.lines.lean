/-! Hits, lines: the spec -/
theorem yLay.cx {M N : zM} {σ : yS} (h : yLay M σ) (e : ∀ x, 212 ≤ x → x ≤ 234 → N x = M x) (e15 : N 208 15 = M 208 15) (e31 : N 208 31 = M 208 31) : yLay N σ := by
  unfold yLay yCl
  rw [e15, e31, e 212 (by decide) (by decide), e 213 (by decide) (by decide), e 214 (by decide) (by decide), e 215 (by decide) (by decide), e 216 (by decide) (by decide), e 217 (by decide) (by decide), e 218 (by decide) (by decide), e 219 (by decide) (by decide), e 220 (by decide) (by decide), e 221 (by decide) (by decide), e 227 (by decide) (by decide), e 228 (by decide) (by decide), e 229 (by decide) (by decide), e 230 (by decide) (by decide), e 231 (by decide) (by decide), e 232 (by decide) (by decide), e 233 (by decide) (by decide), e 234 (by decide) (by decide)]
  exact h
def yfw (M P : zM) : Prop := ∀ x, ¬ (140 ≤ x ∧ x ≤ 207) → P x = M x
theorem yfw.rf {M : zM} : yfw M M := fun _ _ => rfl
theorem yfw.tr {M N P : zM} (h : yfw M N) (g : yfw N P) : yfw M P := fun x hx => (g x hx).trans (h x hx)
theorem yfw.up {M P : zM} {a i v : Int} (h : yfw M P) (ha : 140 ≤ a ∧ a ≤ 207) : yfw M (zup P a i v) := fun x hx => (zup_row (fun e => hx (by omega))).trans (h x hx)
theorem ySet.fw {M P : zM} {σ : yS} (h : ySet M σ) (g : yfw M P) : ySet P σ := h.cg (fun b b1 b2 => g b (by omega))
theorem yTold.fw {M P : zM} {σ : yS} (h : yTold M σ) (g : yfw M P) : yTold P σ := h.cg (fun b b1 b2 => g b (by omega))
def yhd (σ : yS) (x c : Int) : Int := if yX σ c < x then x - yX σ c else yX σ c - x
def yhs (σ : yS) (x : Int) : Nat → Int
  | 0 => 0
  | c + 1 => if yhd σ x ((c : Int) + 1) < yhd σ x (yhs σ x c) then (c : Int) + 1 else yhs σ x c
theorem yhs_r (σ : yS) (x : Int) : ∀ c : Nat, 0 ≤ yhs σ x c ∧ yhs σ x c ≤ c := by
  intro c
  induction c with
  | zero => exact ⟨Int.le_refl _, Int.le_refl _⟩
  | succ c ih => unfold yhs; split <;> omega
def ya_hit (σ : yS) (x : Int) : Int := if 0 ≤ x ∧ x ≤ 999 then yB (yK σ) (yhs σ x (yci (yK σ) (σ 0)).toNat) else -3
def yfit (σ : yS) (w : Int) : Int := yall (fun c => yX σ (c + 1) - yX σ c ≤ w) (yci (yK σ) (σ 0)).toNat
abbrev yG3 : Type := Int × (Int → Int) × Int
def ygs (σ : yS) (w c : Int) (g : yG3) : yG3 := if w < yX σ (c + 1) - yX σ g.2.2 then (g.1 + 1, (fun k => if k = g.1 then c else g.2.1 k), c) else g
def yGd (σ : yS) (w c : Int) : yG3 := yfo (ygs σ w) 0 c (0, (fun _ => 0), 0)
def yGp (σ : yS) (w c : Int) : yG3 := ((yGd σ w c).1 + 1, (fun k => if k = (yGd σ w c).1 then c else (yGd σ w c).2.1 k), c)
def ygr (σ : yS) (w : Int) : yG3 := if (yci (yK σ) (σ 0)) ≤ 0 then (0, (fun _ => 0), 0) else yGp σ w (yci (yK σ) (σ 0))
theorem yGd_0 (σ : yS) (w : Int) : yGd σ w 0 = (0, (fun _ => 0), 0) := yfo_0 _ (Int.le_refl _) _
theorem yGd_s (σ : yS) (w : Int) {c : Int} (h : 0 ≤ c) : yGd σ w (c + 1) = ygs σ w c (yGd σ w c) := yfo_s _ h _
theorem yGd_y {σ : yS} {w c : Int} (h : 0 ≤ c) (g : w < yX σ (c + 1) - yX σ (yGd σ w c).2.2) : yGd σ w (c + 1) = yGp σ w c := by rw [yGd_s σ w h]; exact if_pos g
theorem yGd_n {σ : yS} {w c : Int} (h : 0 ≤ c) (g : ¬ w < yX σ (c + 1) - yX σ (yGd σ w c).2.2) : yGd σ w (c + 1) = yGd σ w c := by rw [yGd_s σ w h]; exact if_neg g
theorem yfit_a {σ : yS} {w : Int} (h : yfit σ w = 1) : ∀ c, 0 ≤ c → c < (yci (yK σ) (σ 0)) → yX σ (c + 1) - yX σ c ≤ w := by
  intro c c1 c2
  by_cases g : yX σ (c + 1) - yX σ c ≤ w
  · exact g
  · have := yall_0 (fun c => yX σ (c + 1) - yX σ c ≤ w) (yci (yK σ) (σ 0)).toNat c c1 (by omega) g
    unfold yfit at h; omega
theorem yfit_r (σ : yS) (w : Int) : yfit σ w = 0 ∨ yfit σ w = 1 := yall_r _ _
theorem yGd_r {σ : yS} {w : Int} (hf : yfit σ w = 1) : ∀ c, 0 ≤ c → c ≤ (yci (yK σ) (σ 0)) → (0 ≤ (yGd σ w c).1 ∧ (yGd σ w c).1 ≤ (yGd σ w c).2.2 ∧ (yGd σ w c).2.2 ≤ c ∧ (0 < c → (yGd σ w c).2.2 < c)) ∧ ∀ k, 0 ≤ k → k < (yGd σ w c).1 → 0 ≤ (yGd σ w c).2.1 k ∧ (yGd σ w c).2.1 k ≤ c := by
  intro c c1
  refine yind (P := fun c => c ≤ (yci (yK σ) (σ 0)) → (0 ≤ (yGd σ w c).1 ∧ (yGd σ w c).1 ≤ (yGd σ w c).2.2 ∧ (yGd σ w c).2.2 ≤ c ∧ (0 < c → (yGd σ w c).2.2 < c)) ∧ ∀ k, 0 ≤ k → k < (yGd σ w c).1 → 0 ≤ (yGd σ w c).2.1 k ∧ (yGd σ w c).2.1 k ≤ c) (a := 0) ?_ ?_ c c1
  · intro _
    rw [yGd_0]
    exact ⟨⟨Int.le_refl _, Int.le_refl _, Int.le_refl _, fun h => h⟩, fun k k1 k2 => absurd k2 (by show ¬ (k < 0); omega)⟩
  · intro p p1 ih hp
    obtain ⟨⟨i1, i2, i3, i4⟩, i5⟩ := ih (by omega)
    by_cases g : w < yX σ (p + 1) - yX σ (yGd σ w p).2.2
    · rw [yGd_y p1 g]
      have hp0 : 0 < p := by
        by_cases z : p = 0
        · exfalso
          have hz := yfit_a hf p p1 (by omega)
          rw [show (yGd σ w p).2.2 = p by omega] at g
          omega
        · omega
      have i4 := i4 hp0
      refine ⟨⟨?_, ?_, ?_, fun _ => ?_⟩, fun k k1 k2 => ?_⟩
      · show 0 ≤ (yGd σ w p).1 + 1; omega
      · show (yGd σ w p).1 + 1 ≤ p; omega
      · show p ≤ p + 1; omega
      · show p < p + 1; omega
      · have k2 : k < (yGd σ w p).1 + 1 := k2
        show 0 ≤ (if k = (yGd σ w p).1 then p else (yGd σ w p).2.1 k) ∧ (if k = (yGd σ w p).1 then p else (yGd σ w p).2.1 k) ≤ p + 1
        split
        · omega
        · have := i5 k k1 (by omega); omega
    · rw [yGd_n p1 g]
      exact ⟨⟨i1, i2, by omega, fun _ => by omega⟩, fun k k1 k2 => by have := i5 k k1 k2; omega⟩
theorem ygr_r {σ : yS} {w : Int} (hn : 0 ≤ (yci (yK σ) (σ 0))) (hf : yfit σ w = 1) : 0 ≤ (ygr σ w).1 ∧ (ygr σ w).1 ≤ (yci (yK σ) (σ 0)) ∧ (0 < (yci (yK σ) (σ 0)) → 0 < (ygr σ w).1) ∧ ∀ k, 0 ≤ k → k < (ygr σ w).1 → 0 ≤ (ygr σ w).2.1 k ∧ (ygr σ w).2.1 k ≤ (yci (yK σ) (σ 0)) := by
  unfold ygr
  by_cases h : (yci (yK σ) (σ 0)) ≤ 0
  · rw [if_pos h]
    exact ⟨Int.le_refl _, hn, fun z => by omega, fun k k1 k2 => absurd k2 (by show ¬ (k < 0); omega)⟩
  · rw [if_neg h]
    obtain ⟨⟨i1, i2, i3, i4⟩, i5⟩ := yGd_r hf (yci (yK σ) (σ 0)) hn (Int.le_refl _)
    have i4 := i4 (by omega)
    refine ⟨?_, ?_, fun _ => ?_, fun k k1 k2 => ?_⟩
    · show 0 ≤ (yGd σ w (yci (yK σ) (σ 0))).1 + 1; omega
    · show (yGd σ w (yci (yK σ) (σ 0))).1 + 1 ≤ _; omega
    · show 0 < (yGd σ w (yci (yK σ) (σ 0))).1 + 1; omega
    · have k2 : k < (yGd σ w (yci (yK σ) (σ 0))).1 + 1 := k2
      show 0 ≤ (if k = (yGd σ w (yci (yK σ) (σ 0))).1 then (yci (yK σ) (σ 0)) else (yGd σ w (yci (yK σ) (σ 0))).2.1 k) ∧ (if k = (yGd σ w (yci (yK σ) (σ 0))).1 then (yci (yK σ) (σ 0)) else (yGd σ w (yci (yK σ) (σ 0))).2.1 k) ≤ (yci (yK σ) (σ 0))
      split
      · omega
      · have := i5 k k1 (by omega); omega
def ya_lines (σ : yS) (w : Int) : Int := if 1 ≤ w ∧ w ≤ 200 then (if yfit σ w = 1 then (ygr σ w).1 else -1) else -3
def ya_lineEnd (σ : yS) (w i : Int) : Int := if (1 ≤ w ∧ w ≤ 200) ∧ 0 ≤ i then (if yfit σ w = 1 ∧ i < (ygr σ w).1 then yB (yK σ) ((ygr σ w).2.1 i) else -1) else -3
def yfst (P : Int → Prop) [∀ k, Decidable (P k)] : Int → Nat → Int
  | _, 0 => -1
  | a, m + 1 => if P a then a else yfst P (a + 1) m
def ynw (σ : yS) (n : Int) : Int := if (yci (yK σ) (σ 0)) = 0 then -1 else yfst (fun w => yfit σ w = 1 ∧ (ygr σ w).1 ≤ n) 1 200
def ya_narrowest (σ : yS) (n : Int) : Int := if 1 ≤ n ∧ n ≤ 60 then ynw σ n else -3
section
set_option maxHeartbeats 4000000
theorem c_hit_l  {x : Int} {M : zM} {Q : zV → zM → Prop} {σ : yS} (hV : yVal σ) (hG : ySet M σ) (hx : 0 ≤ x ∧ x ≤ 999) (k : Q (0, yB (yK σ) (yhs σ x (yci (yK σ) (σ 0)).toNat)) M) : ∀ (f : Nat) (b c : Int), (1 ≤ c ∧ c ≤ (yci (yK σ) (σ 0)) + 1) → (b = yhs σ x (c - 1).toNat) → ((yci (yK σ) (σ 0)) + 1 - c).toNat < f → zWp kX_hit 11 [(1, 0), (0, x), (0, b), (0, c)] [] M Q := by
  intro f
  induction f with
  | zero => intro b c i1 i2 hf; exact absurd hf (Nat.not_lt_zero _)
  | succ f ih =>
    intro b c i1 i2 hf
    have hK := yKr_K hV
    have hn := hV.1
    have hci := yci_60 hK
    have hbr := yhs_r σ x (c - 1).toNat
    refine zw_iload ⟨rfl, rfl⟩ rfl ?_
    refine zw_aload ⟨rfl, rfl⟩ rfl ?_
    refine zw_getR 105 ⟨rfl, rfl⟩ zr_0_8 ?_
    refine zw_getIv (v := (yci (yK σ) (σ 0))) ⟨rfl, rfl⟩ zc_105 (by decide) (hG.1.1.1.1) ?_
    refine zw_icgt ⟨rfl, rfl⟩ rfl (fun c1 => ?_) (fun c1 => ?_)
    · skip
      refine zw_aload ⟨rfl, rfl⟩ rfl ?_
      refine zw_getR 105 ⟨rfl, rfl⟩ zr_0_8 ?_
      refine zw_iload ⟨rfl, rfl⟩ rfl ?_
      refine zw_callv2 ⟨rfl, rfl⟩ rfl zc_105 rfl ?_
      have ec : c = (yci (yK σ) (σ 0)) + 1 := by omega
      refine m_stopPlace hK hG.1.1 ?_
      rw [show ysp (yK σ) (σ 0) b = yB (yK σ) b from if_pos ⟨by omega, by omega⟩]
      refine zw_ret rfl ?_
      rw [show (yci (yK σ) (σ 0)) = c - 1 by omega, ← i2] at k
      exact k
    · skip
      have hx_c := yX_r hV (show 0 ≤ c by omega) (show c ≤ (yci (yK σ) (σ 0)) by omega)
      have hx_b := yX_r hV (show 0 ≤ b by omega) (show b ≤ (yci (yK σ) (σ 0)) by omega)
      have ha_c : (if yX σ c - x < 0 then -(yX σ c - x) else yX σ c - x) = yhd σ x c := by unfold yhd; (repeat' split) <;> omega
      have ha_b : (if yX σ b - x < 0 then -(yX σ b - x) else yX σ b - x) = yhd σ x b := by unfold yhd; (repeat' split) <;> omega
      have hss : yhs σ x c.toNat = if yhd σ x c < yhd σ x b then c else b := by
        rw [show c.toNat = (c - 1).toNat + 1 by omega]; unfold yhs; rw [← i2, show (((c - 1).toNat : Nat) : Int) + 1 = c by omega]
      refine zw_aload ⟨rfl, rfl⟩ rfl ?_
      refine zw_getR 126 ⟨rfl, rfl⟩ zr_0_10 ?_
      refine zw_iload ⟨rfl, rfl⟩ rfl ?_
      refine zw_callv2 ⟨rfl, rfl⟩ rfl zc_126 rfl ?_
      refine m_xOf hV hG ?_
      rw [if_pos ⟨by omega, by omega⟩]
      refine zw_iload ⟨rfl, rfl⟩ rfl ?_
      refine zw_isub ⟨rfl, rfl⟩ (by omega) ?_
      refine zw_abs ⟨rfl, rfl⟩ (by omega) (Nat.le_of_ble_eq_true rfl) ?_
      refine zw_aload ⟨rfl, rfl⟩ rfl ?_
      refine zw_getR 126 ⟨rfl, rfl⟩ zr_0_10 ?_
      refine zw_iload ⟨rfl, rfl⟩ rfl ?_
      refine zw_callv2 ⟨rfl, rfl⟩ rfl zc_126 rfl ?_
      refine m_xOf hV hG ?_
      rw [if_pos ⟨by omega, by omega⟩]
      refine zw_iload ⟨rfl, rfl⟩ rfl ?_
      refine zw_isub ⟨rfl, rfl⟩ (by omega) ?_
      refine zw_abs ⟨rfl, rfl⟩ (by omega) (Nat.le_of_ble_eq_true rfl) ?_
      refine zw_icge ⟨rfl, rfl⟩ rfl (fun c2 => ?_) (fun c2 => ?_)
      · skip
        refine zw_iinc_3 ⟨rfl, rfl⟩ (by omega) ?_
        refine zw_goto ⟨rfl, rfl⟩ rfl ?_
        refine ih _ _ ⟨by omega, by omega⟩ ?_ (by omega)
        rw [show c + 1 - 1 = c by omega, hss]
        first | (rw [if_pos (by omega)]; done) | (rw [if_neg (by omega)]; done)
      · skip
        refine zw_iload ⟨rfl, rfl⟩ rfl ?_
        refine zw_istore_2 ⟨rfl, rfl⟩ ?_
        refine zw_iinc_3 ⟨rfl, rfl⟩ (by omega) ?_
        refine zw_goto ⟨rfl, rfl⟩ rfl ?_
        refine ih _ _ ⟨by omega, by omega⟩ ?_ (by omega)
        rw [show c + 1 - 1 = c by omega, hss]
        first | (rw [if_pos (by omega)]; done) | (rw [if_neg (by omega)]; done)

theorem c_hit {x : Int} {M : zM} {Q : zV → zM → Prop} {σ : yS} (hV : yVal σ) (hS : yTold M σ) (hG : ySet M σ)  (k : Q (0, ya_hit σ x) M) : zWp kX_hit 0 [(1, 0), (0, x), (3, 0), (3, 0)] [] M Q := by
  have hK := yKr_K hV
  have hn := hV.1
  have hci := yci_60 hK
  refine zw_iload ⟨rfl, rfl⟩ rfl ?_
  refine zw_iflt ⟨rfl, rfl⟩ rfl (fun c1 => ?_) (fun c1 => ?_)
  · skip
    refine zw_const ⟨rfl, rfl⟩ ?_
    refine zw_ret rfl ?_
    rw [show ya_hit σ x = -3 from if_neg (by omega)] at k
    exact k
  · skip
    refine zw_iload ⟨rfl, rfl⟩ rfl ?_
    refine zw_const ⟨rfl, rfl⟩ ?_
    refine zw_icle ⟨rfl, rfl⟩ rfl (fun c2 => ?_) (fun c2 => ?_)
    · skip
      refine zw_const ⟨rfl, rfl⟩ ?_
      refine zw_istore_2 ⟨rfl, rfl⟩ ?_
      refine zw_const ⟨rfl, rfl⟩ ?_
      refine zw_istore_3 ⟨rfl, rfl⟩ ?_
      rw [show ya_hit σ x = _ from if_pos ⟨by omega, by omega⟩] at k
      exact c_hit_l hV hG ⟨by omega, by omega⟩ k _ _ _ ⟨Int.le_refl _, by omega⟩ rfl (Nat.lt_succ_self _)
    · skip
      refine zw_const ⟨rfl, rfl⟩ ?_
      refine zw_ret rfl ?_
      rw [show ya_hit σ x = -3 from if_neg (by omega)] at k
      exact k

theorem m_Mapart {c x : Int} {σ : yS} {M : zM} {Q : zV → zM → Prop} (h1 : 0 ≤ yX σ c ∧ yX σ c ≤ 900) (h2 : 0 ≤ x ∧ x ≤ 999) (k : Q (0, yhd σ x c) M) : zWp kM_apart 0 [(0, yX σ c), (0, x)] [] M Q := by
  refine zw_iload ⟨rfl, rfl⟩ rfl ?_
  refine zw_iload ⟨rfl, rfl⟩ rfl ?_
  refine zw_icge ⟨rfl, rfl⟩ rfl (fun c1 => ?_) (fun c1 => ?_)
  · skip
    refine zw_iload ⟨rfl, rfl⟩ rfl ?_
    refine zw_iload ⟨rfl, rfl⟩ rfl ?_
    refine zw_isub ⟨rfl, rfl⟩ (by omega) ?_
    refine zw_ret rfl ?_
    rw [show yhd σ x c = (yX σ c) - x from by unfold yhd; split <;> omega] at k
    exact k
  · skip
    refine zw_iload ⟨rfl, rfl⟩ rfl ?_
    refine zw_iload ⟨rfl, rfl⟩ rfl ?_
    refine zw_isub ⟨rfl, rfl⟩ (by omega) ?_
    refine zw_goto ⟨rfl, rfl⟩ rfl ?_
    refine zw_ret rfl ?_
    rw [show yhd σ x c = x - (yX σ c) from by unfold yhd; split <;> omega] at k
    exact k

theorem d_hit_l  {x : Int} {M : zM} {Q : zV → zM → Prop} {σ : yS} (hV : yVal σ) (hG : yLay M σ) (hx : 0 ≤ x ∧ x ≤ 999) (k : Q (0, yB (yK σ) (yhs σ x (yci (yK σ) (σ 0)).toNat)) M) : ∀ (f : Nat) (b c : Int), (1 ≤ c ∧ c ≤ (yci (yK σ) (σ 0)) + 1) → (b = yhs σ x (c - 1).toNat) → ((yci (yK σ) (σ 0)) + 1 - c).toNat < f → zWp kM_hit 17 [(1, 208), (0, x), (0, b), (0, c)] [] M Q := by
  intro f
  induction f with
  | zero => intro b c i1 i2 hf; exact absurd hf (Nat.not_lt_zero _)
  | succ f ih =>
    intro b c i1 i2 hf
    have hK := yKr_K hV
    have hn := hV.1
    have hci := yci_60 hK
    have hbr := yhs_r σ x (c - 1).toNat
    refine zw_iload ⟨rfl, rfl⟩ rfl ?_
    refine zw_aload ⟨rfl, rfl⟩ rfl ?_
    refine zw_getIv (v := (yci (yK σ) (σ 0))) ⟨rfl, rfl⟩ zc_208 (by decide) (hG.1.1) ?_
    refine zw_icgt ⟨rfl, rfl⟩ rfl (fun c1 => ?_) (fun c1 => ?_)
    · skip
      refine zw_aload ⟨rfl, rfl⟩ rfl ?_
      refine zw_getR 212 ⟨rfl, rfl⟩ zr_208_5 ?_
      refine zw_iload ⟨rfl, rfl⟩ rfl ?_
      refine zw_ialdv (v := yB (yK σ) (b)) ⟨rfl, rfl⟩ za_212 (by omega) ((hG.2.2.1 (b) (by omega) (by omega)).1) ?_
      refine zw_ret rfl ?_
      rw [show (yci (yK σ) (σ 0)) = c - 1 by omega, ← i2] at k
      exact k
    · skip
      have hx_c := yX_r hV (show 0 ≤ c by omega) (show c ≤ (yci (yK σ) (σ 0)) by omega)
      have hx_b := yX_r hV (show 0 ≤ b by omega) (show b ≤ (yci (yK σ) (σ 0)) by omega)
      have hss : yhs σ x c.toNat = if yhd σ x c < yhd σ x b then c else b := by
        rw [show c.toNat = (c - 1).toNat + 1 by omega]; unfold yhs; rw [← i2, show (((c - 1).toNat : Nat) : Int) + 1 = c by omega]
      refine zw_aload ⟨rfl, rfl⟩ rfl ?_
      refine zw_iload ⟨rfl, rfl⟩ rfl ?_
      refine zw_callv2 ⟨rfl, rfl⟩ rfl zc_208 rfl ?_
      refine m_MxOf hV hG ⟨by omega, by omega⟩ ?_
      refine zw_iload ⟨rfl, rfl⟩ rfl ?_
      refine zw_calls2 ⟨rfl, rfl⟩ rfl rfl ?_
      refine m_Mapart ⟨by omega, by omega⟩ ⟨by omega, by omega⟩ ?_
      refine zw_aload ⟨rfl, rfl⟩ rfl ?_
      refine zw_iload ⟨rfl, rfl⟩ rfl ?_
      refine zw_callv2 ⟨rfl, rfl⟩ rfl zc_208 rfl ?_
      refine m_MxOf hV hG ⟨by omega, by omega⟩ ?_
      refine zw_iload ⟨rfl, rfl⟩ rfl ?_
      refine zw_calls2 ⟨rfl, rfl⟩ rfl rfl ?_
      refine m_Mapart ⟨by omega, by omega⟩ ⟨by omega, by omega⟩ ?_
      refine zw_icge ⟨rfl, rfl⟩ rfl (fun c2 => ?_) (fun c2 => ?_)
      · skip
        refine zw_iinc_3 ⟨rfl, rfl⟩ (by omega) ?_
        refine zw_goto ⟨rfl, rfl⟩ rfl ?_
        refine ih _ _ ⟨by omega, by omega⟩ ?_ (by omega)
        rw [show c + 1 - 1 = c by omega, hss]
        first | (rw [if_pos (by omega)]; done) | (rw [if_neg (by omega)]; done)
      · skip
        refine zw_iload ⟨rfl, rfl⟩ rfl ?_
        refine zw_istore_2 ⟨rfl, rfl⟩ ?_
        refine zw_iinc_3 ⟨rfl, rfl⟩ (by omega) ?_
        refine zw_goto ⟨rfl, rfl⟩ rfl ?_
        refine ih _ _ ⟨by omega, by omega⟩ ?_ (by omega)
        rw [show c + 1 - 1 = c by omega, hss]
        first | (rw [if_pos (by omega)]; done) | (rw [if_neg (by omega)]; done)

theorem d_hit {x : Int} {M : zM} {Q : zV → zM → Prop} {σ : yS} (hV : yVal σ) (hM : yMo M σ)  (k : ∀ N : zM, ymf M N → Q (0, ya_hit σ x) N) : zWp kM_hit 0 [(1, 208), (0, x), (3, 0), (3, 0)] [] M Q := by
  have hK := yKr_K hV
  have hn := hV.1
  have hci := yci_60 hK
  have eyL : (yTk σ (yci (yK σ) (σ 0))).1 = (yLast σ).1 := rfl
  have hgl := yLast_r hV
  refine zw_aload ⟨rfl, rfl⟩ rfl ?_
  refine zw_const ⟨rfl, rfl⟩ ?_
  refine zw_putI ⟨rfl, rfl⟩ zc_208 (by decide) (fun h => absurd h (by decide)) ?_
  refine zw_iload ⟨rfl, rfl⟩ rfl ?_
  refine zw_i2l ⟨rfl, rfl⟩ ?_
  refine zw_lconst ⟨rfl, rfl⟩ ?_
  refine zw_lconst ⟨rfl, rfl⟩ ?_
  refine zw_calLs3 ⟨rfl, rfl⟩ rfl rfl ?_
  refine zw_lload ⟨rfl, rfl⟩ rfl ?_
  refine zw_lload ⟨rfl, rfl⟩ rfl ?_
  refine zw_lcmp ⟨rfl, rfl⟩ ?_
  refine zw_iflt ⟨rfl, rfl⟩ rfl (fun c1 => ?_) (fun c1 => ?_)
  · replace c1 := zlc_lt.mp c1
    refine zw_const ⟨rfl, rfl⟩ ?_
    refine zw_zret rfl (by first | exact Or.inl rfl | exact Or.inr rfl | omega) ?_
    refine zw_ifne ⟨rfl, rfl⟩ rfl (fun q => absurd q (by decide)) (fun _ => ?_)
    refine zw_const ⟨rfl, rfl⟩ ?_
    refine zw_ret rfl ?_
    have e : ya_hit σ x = (-3) := by unfold ya_hit; (repeat' split) <;> first | rfl | omega | (exfalso; omega)
    rw [e] at k
    exact k _ ymf_0
  · replace c1 := (not_congr zlc_lt).mp c1
    refine zw_lload ⟨rfl, rfl⟩ rfl ?_
    refine zw_lload ⟨rfl, rfl⟩ rfl ?_
    refine zw_lcmp ⟨rfl, rfl⟩ ?_
    refine zw_ifgt ⟨rfl, rfl⟩ rfl (fun c3 => ?_) (fun c3 => ?_)
    · replace c3 := zlc_gt.mp c3
      refine zw_const ⟨rfl, rfl⟩ ?_
      refine zw_zret rfl (by first | exact Or.inl rfl | exact Or.inr rfl | omega) ?_
      refine zw_ifne ⟨rfl, rfl⟩ rfl (fun q => absurd q (by decide)) (fun _ => ?_)
      refine zw_const ⟨rfl, rfl⟩ ?_
      refine zw_ret rfl ?_
      have e : ya_hit σ x = (-3) := by unfold ya_hit; (repeat' split) <;> first | rfl | omega | (exfalso; omega)
      rw [e] at k
      exact k _ ymf_0
    · replace c3 := (not_congr zlc_gt).mp c3
      refine zw_const ⟨rfl, rfl⟩ ?_
      refine zw_goto ⟨rfl, rfl⟩ rfl ?_
      refine zw_zret rfl (by first | exact Or.inl rfl | exact Or.inr rfl | omega) ?_
      refine zw_ifne ⟨rfl, rfl⟩ rfl (fun _ => ?_) (fun q => absurd (by decide) q)
      refine zw_aload ⟨rfl, rfl⟩ rfl ?_
      refine zw_cavv1 ⟨rfl, rfl⟩ rfl zc_208 rfl ?_
      refine m_laysAll hV (hM.cg (zup_row (by decide))) (fun N1 p1 => ?_)
      have hG1 := p1.1
      have hf1 : ymf M N1 := ymf_0.tr p1.2.m
      have hM1 : yMo N1 σ := hM.cg (hf1.1 209 (Or.inl rfl))
      refine zw_const ⟨rfl, rfl⟩ ?_
      refine zw_istore_2 ⟨rfl, rfl⟩ ?_
      refine zw_const ⟨rfl, rfl⟩ ?_
      refine zw_istore_3 ⟨rfl, rfl⟩ ?_
      rw [show ya_hit σ x = _ from if_pos ⟨by omega, by omega⟩] at k
      exact d_hit_l hV hG1 ⟨by omega, by omega⟩ (k _ hf1) _ _ _ ⟨Int.le_refl _, by omega⟩ rfl (Nat.lt_succ_self _)

theorem m_fits_l  {w : Int} {M : zM} {Q : zV → zM → Prop} {σ : yS} (hV : yVal σ) (hG : ySet M σ) (k : Q (0, yfit σ w) M) : ∀ (f : Nat) (c : Int), (0 ≤ c ∧ c ≤ (yci (yK σ) (σ 0))) → (∀ j, 0 ≤ j → j < c → yX σ (j + 1) - yX σ j ≤ w) → ((yci (yK σ) (σ 0)) - c).toNat < f → zWp kWr_fits 13 [(1, 140), (1, 136), (0, (yci (yK σ) (σ 0))), (0, w), (0, c)] [] M Q := by
  intro f
  induction f with
  | zero => intro c i1 i2 hf; exact absurd hf (Nat.not_lt_zero _)
  | succ f ih =>
    intro c i1 i2 hf
    have hK := yKr_K hV
    have hn := hV.1
    have hci := yci_60 hK
    refine zw_iload ⟨rfl, rfl⟩ rfl ?_
    refine zw_iload ⟨rfl, rfl⟩ rfl ?_
    refine zw_icge ⟨rfl, rfl⟩ rfl (fun c1 => ?_) (fun c1 => ?_)
    · skip
      refine zw_const ⟨rfl, rfl⟩ ?_
      refine zw_zret rfl (by first | exact Or.inl rfl | exact Or.inr rfl | omega) ?_
      rw [show yfit σ w = 1 from yall_1 _ _ (fun j j1 j2 => i2 j j1 (by omega))] at k
      exact k
    · skip
      have hx_c := yX_r hV (show 0 ≤ c by omega) (show c ≤ (yci (yK σ) (σ 0)) by omega)
      have hx_c___1 := yX_r hV (show 0 ≤ c + 1 by omega) (show c + 1 ≤ (yci (yK σ) (σ 0)) by omega)
      refine zw_aload ⟨rfl, rfl⟩ rfl ?_
      refine zw_iload ⟨rfl, rfl⟩ rfl ?_
      refine zw_const ⟨rfl, rfl⟩ ?_
      refine zw_iadd ⟨rfl, rfl⟩ (by omega) ?_
      refine zw_ialdv (v := yX σ ((c + 1))) ⟨rfl, rfl⟩ za_136 (by omega) ((hG.2.1.2.2.2 ((c + 1)) (by omega) (by omega)).2) ?_
      refine zw_aload ⟨rfl, rfl⟩ rfl ?_
      refine zw_iload ⟨rfl, rfl⟩ rfl ?_
      refine zw_ialdv (v := yX σ (c)) ⟨rfl, rfl⟩ za_136 (by omega) ((hG.2.1.2.2.2 (c) (by omega) (by omega)).2) ?_
      refine zw_isub ⟨rfl, rfl⟩ (by omega) ?_
      refine zw_iload ⟨rfl, rfl⟩ rfl ?_
      refine zw_icle ⟨rfl, rfl⟩ rfl (fun c2 => ?_) (fun c2 => ?_)
      · skip
        refine zw_iinc_4 ⟨rfl, rfl⟩ (by omega) ?_
        refine zw_goto ⟨rfl, rfl⟩ rfl ?_
        refine ih _ ⟨by omega, by omega⟩ (fun j j1 j2 => ?_) (by omega)
        by_cases e : j = c
        · subst e; omega
        · exact i2 j j1 (by omega)
      · skip
        refine zw_const ⟨rfl, rfl⟩ ?_
        refine zw_zret rfl (by first | exact Or.inl rfl | exact Or.inr rfl | omega) ?_
        rw [show yfit σ w = 0 from yall_0 _ _ c i1.1 (by omega) (by omega)] at k
        exact k

theorem m_fits {w : Int} {M : zM} {Q : zV → zM → Prop} {σ : yS} (hV : yVal σ) (hG : ySet M σ) (k : Q (0, yfit σ w) M) : zWp kWr_fits 0 [(1, 140), (1, 136), (0, (yci (yK σ) (σ 0))), (0, w), (3, 0)] [] M Q := by
  have hK := yKr_K hV
  have hn := hV.1
  have hci := yci_60 hK
  refine zw_iload ⟨rfl, rfl⟩ rfl ?_
  refine zw_iflt ⟨rfl, rfl⟩ rfl (fun c1 => ?_) (fun c1 => ?_)
  · skip
    refine zw_const ⟨rfl, rfl⟩ ?_
    refine zw_zret rfl (by first | exact Or.inl rfl | exact Or.inr rfl | omega) ?_
    exfalso; omega
  · skip
    refine zw_iload ⟨rfl, rfl⟩ rfl ?_
    refine zw_const ⟨rfl, rfl⟩ ?_
    refine zw_icgt ⟨rfl, rfl⟩ rfl (fun c2 => ?_) (fun c2 => ?_)
    · skip
      refine zw_const ⟨rfl, rfl⟩ ?_
      refine zw_zret rfl (by first | exact Or.inl rfl | exact Or.inr rfl | omega) ?_
      exfalso; omega
    · skip
      refine zw_iload ⟨rfl, rfl⟩ rfl ?_
      refine zw_aload ⟨rfl, rfl⟩ rfl ?_
      refine zw_alen ⟨rfl, rfl⟩ za_136 ?_
      skip
      refine zw_iclt ⟨rfl, rfl⟩ rfl (fun c3 => ?_) (fun c3 => ?_)
      · skip
        refine zw_const ⟨rfl, rfl⟩ ?_
        refine zw_istore_4 ⟨rfl, rfl⟩ ?_
        exact m_fits_l hV hG k _ _ ⟨Int.le_refl _, hci.1⟩ (fun j a b => by omega) (Nat.lt_succ_self _)
      · skip
        refine zw_const ⟨rfl, rfl⟩ ?_
        refine zw_zret rfl (by first | exact Or.inl rfl | exact Or.inr rfl | omega) ?_
        exfalso; omega

theorem m_endLine {v s : Int} {M : zM} {Q : zV → zM → Prop} (hs : M 140 0 = s) (h0 : 0 ≤ s ∧ s ≤ 60) (k : Q (3, 0) (zup (zup M 141 s v) 140 0 (s + 1))) : zWp kWr_endLine 0 [(1, 140), (0, v)] [] M Q := by
  refine zw_aload ⟨rfl, rfl⟩ rfl ?_
  refine zw_getIv (v := s) ⟨rfl, rfl⟩ zc_140 (by decide) (hs) ?_
  refine zw_const ⟨rfl, rfl⟩ ?_
  refine zw_icgt ⟨rfl, rfl⟩ rfl (fun q => absurd q (by omega)) (fun _ => ?_)
  refine zw_aload ⟨rfl, rfl⟩ rfl ?_
  refine zw_getR 141 ⟨rfl, rfl⟩ zr_140_1 ?_
  refine zw_aload ⟨rfl, rfl⟩ rfl ?_
  refine zw_getIv (v := s) ⟨rfl, rfl⟩ zc_140 (by decide) (hs) ?_
  refine zw_iload ⟨rfl, rfl⟩ rfl ?_
  refine zw_iast ⟨rfl, rfl⟩ za_141 (by omega) ?_
  refine zw_aload ⟨rfl, rfl⟩ rfl ?_
  refine zw_dup ⟨rfl, rfl⟩ (by decide) ?_
  refine zw_getIv (v := s) ⟨rfl, rfl⟩ zc_140 (by decide) ((zup_na (by decide)).trans (hs)) ?_
  refine zw_const ⟨rfl, rfl⟩ ?_
  refine zw_iadd ⟨rfl, rfl⟩ (by omega) ?_
  refine zw_putI ⟨rfl, rfl⟩ zc_140 (by decide) (fun h => absurd h (by decide)) ?_
  refine zw_void rfl ?_
  exact k

def yEn (P : zM) (g : yG3) : Prop := P 140 0 = g.1 ∧ ∀ k, 0 ≤ k → k < g.1 → P 141 k = g.2.1 k
theorem yEn.ps {P : zM} {g h : yG3} {c : Int} (hg : yEn P g) (e1 : h.1 = g.1 + 1) (e2 : h.2.1 = fun k => if k = g.1 then c else g.2.1 k) : yEn (zup (zup P 141 g.1 c) 140 0 (g.1 + 1)) h := by
  refine ⟨(zup_eq _ _ _ _).trans e1.symm, fun k k1 k2 => ?_⟩
  rw [zup_na (by decide), e2]
  by_cases q : k = g.1
  · rw [q, zup_eq]; exact (if_pos rfl).symm
  · rw [zup_ni q, hg.2 k k1 (by omega)]; exact (if_neg q).symm

theorem m_greedy_l {w : Int} {M : zM} {Q : zV → zM → Prop} {σ : yS} (hV : yVal σ) (hG : ySet M σ) (hf : yfit σ w = 1) (kk : ∀ P : zM, (yEn P (ygr σ w) ∧ yfw M P) → Q (0, (ygr σ w).1) P) : ∀ (f0 : Nat) (s c : Int) (P : zM), (0 ≤ c ∧ c ≤ (yci (yK σ) (σ 0))) → (s = (yGd σ w c).2.2) → (yEn P (yGd σ w c)) → (yfw M P) → ((yci (yK σ) (σ 0)) - c).toNat < f0 → zWp kWr_greedy 15 [(1, 140), (1, 136), (0, (yci (yK σ) (σ 0))), (0, w), (0, s), (0, c)] [] P Q := by
  intro f0
  induction f0 with
  | zero => intro s c P i1 i2 i3 iF hf0; exact absurd hf0 (Nat.not_lt_zero _)
  | succ f0 ih =>
    intro s c P i1 i2 i3 iF hf0
    have hK := yKr_K hV
    have hn := hV.1
    have hci := yci_60 hK
    have hr := (yGd_r hf c i1.1 i1.2).1
    refine zw_iload ⟨rfl, rfl⟩ rfl ?_
    refine zw_iload ⟨rfl, rfl⟩ rfl ?_
    refine zw_icge ⟨rfl, rfl⟩ rfl (fun c1 => ?_) (fun c1 => ?_)
    · skip
      refine zw_iload ⟨rfl, rfl⟩ rfl ?_
      refine zw_ifle ⟨rfl, rfl⟩ rfl (fun c2 => ?_) (fun c2 => ?_)
      · skip
        refine zw_aload ⟨rfl, rfl⟩ rfl ?_
        refine zw_getIv (v := (yGd σ w c).1) ⟨rfl, rfl⟩ zc_140 (by decide) (i3.1) ?_
        refine zw_ret rfl ?_
        have ec : c = 0 := by omega
        subst ec
        have eg : ygr σ w = yGd σ w 0 := by rw [yGd_0]; exact if_pos (by omega)
        rw [← eg] at i3 ⊢
        exact kk _ ⟨i3, iF⟩
      · skip
        refine zw_aload ⟨rfl, rfl⟩ rfl ?_
        refine zw_iload ⟨rfl, rfl⟩ rfl ?_
        refine zw_cavv2 ⟨rfl, rfl⟩ rfl zc_140 rfl ?_
        refine m_endLine i3.1 ⟨by omega, by omega⟩ ?_
        refine zw_aload ⟨rfl, rfl⟩ rfl ?_
        refine zw_getIv (v := (yGd σ w c).1 + 1) ⟨rfl, rfl⟩ zc_140 (by decide) (zup_eq _ _ _ _) ?_
        refine zw_ret rfl ?_
        have ec : c = (yci (yK σ) (σ 0)) := by omega
        subst ec
        have eg : ygr σ w = yGp σ w (yci (yK σ) (σ 0)) := if_neg (by omega)
        refine (congrArg (fun z => Q (0, z) _) (show (ygr σ w).1 = _ from by rw [eg]; rfl)).mp (kk _ ⟨?_, (iF.up (by decide)).up (by decide)⟩)
        rw [eg]
        exact i3.ps rfl rfl
    · skip
      have hx_c___1 := yX_r hV (show 0 ≤ c + 1 by omega) (show c + 1 ≤ (yci (yK σ) (σ 0)) by omega)
      have hx_s := yX_r hV (show 0 ≤ s by omega) (show s ≤ (yci (yK σ) (σ 0)) by omega)
      refine zw_aload ⟨rfl, rfl⟩ rfl ?_
      refine zw_iload ⟨rfl, rfl⟩ rfl ?_
      refine zw_const ⟨rfl, rfl⟩ ?_
      refine zw_iadd ⟨rfl, rfl⟩ (by omega) ?_
      refine zw_ialdv (v := yX σ ((c + 1))) ⟨rfl, rfl⟩ za_136 (by omega) (((congrFun (iF 136 (by decide)) ((c + 1))).trans (hG.2.1.2.2.2 ((c + 1)) (by omega) (by omega)).2)) ?_
      refine zw_aload ⟨rfl, rfl⟩ rfl ?_
      refine zw_iload ⟨rfl, rfl⟩ rfl ?_
      refine zw_ialdv (v := yX σ (s)) ⟨rfl, rfl⟩ za_136 (by omega) (((congrFun (iF 136 (by decide)) (s)).trans (hG.2.1.2.2.2 (s) (by omega) (by omega)).2)) ?_
      refine zw_isub ⟨rfl, rfl⟩ (by omega) ?_
      refine zw_iload ⟨rfl, rfl⟩ rfl ?_
      refine zw_icle ⟨rfl, rfl⟩ rfl (fun c3 => ?_) (fun c3 => ?_)
      · skip
        refine zw_iinc_5 ⟨rfl, rfl⟩ (by omega) ?_
        refine zw_goto ⟨rfl, rfl⟩ rfl ?_
        have eg := yGd_n (σ := σ) (w := w) i1.1 (by rw [← i2]; omega)
        exact ih _ _ _ ⟨by omega, by omega⟩ (by rw [eg]; exact i2) (by rw [eg]; exact i3) iF (by omega)
      · skip
        refine zw_aload ⟨rfl, rfl⟩ rfl ?_
        refine zw_iload ⟨rfl, rfl⟩ rfl ?_
        refine zw_cavv2 ⟨rfl, rfl⟩ rfl zc_140 rfl ?_
        refine m_endLine i3.1 ⟨by omega, by omega⟩ ?_
        refine zw_iload ⟨rfl, rfl⟩ rfl ?_
        refine zw_istore_4 ⟨rfl, rfl⟩ ?_
        refine zw_iinc_5 ⟨rfl, rfl⟩ (by omega) ?_
        refine zw_goto ⟨rfl, rfl⟩ rfl ?_
        have eg := yGd_y (σ := σ) (w := w) i1.1 (by rw [← i2]; omega)
        refine ih _ _ _ ⟨by omega, by omega⟩ (by rw [eg]; rfl) ?_ ((iF.up (by decide)).up (by decide)) (by omega)
        rw [eg]
        exact i3.ps rfl rfl

def yWr (P : zM) (σ : yS) (w : Int) : Prop := P 140 0 = (if yfit σ w = 1 then (ygr σ w).1 else 0) ∧ (yfit σ w = 1 → yEn P (ygr σ w))
def ygl0 (σ : yS) (w : Int) : Int := if yfit σ w = 1 then (ygr σ w).1 else -1
theorem m_greedy {w : Int} {M : zM} {Q : zV → zM → Prop} {σ : yS} (hV : yVal σ) (hG : ySet M σ) (kk : ∀ P : zM, (yWr P σ w ∧ yfw M P) → Q (0, ygl0 σ w) P) : zWp kWr_greedy 0 [(1, 140), (1, 136), (0, (yci (yK σ) (σ 0))), (0, w), (3, 0), (3, 0)] [] M Q := by
  have hK := yKr_K hV
  have hn := hV.1
  have hci := yci_60 hK
  have hfr := yfit_r σ w
  refine zw_aload ⟨rfl, rfl⟩ rfl ?_
  refine zw_const ⟨rfl, rfl⟩ ?_
  refine zw_putI ⟨rfl, rfl⟩ zc_140 (by decide) (fun h => absurd h (by decide)) ?_
  refine zw_aload ⟨rfl, rfl⟩ rfl ?_
  refine zw_aload ⟨rfl, rfl⟩ rfl ?_
  refine zw_iload ⟨rfl, rfl⟩ rfl ?_
  refine zw_iload ⟨rfl, rfl⟩ rfl ?_
  refine zw_callv4 ⟨rfl, rfl⟩ rfl zc_140 rfl ?_
  refine m_fits hV (hG.fw (yfw.rf.up (by decide))) ?_
  refine zw_ifne ⟨rfl, rfl⟩ rfl (fun c1 => ?_) (fun c1 => ?_)
  · skip
    refine zw_const ⟨rfl, rfl⟩ ?_
    refine zw_istore_4 ⟨rfl, rfl⟩ ?_
    refine zw_const ⟨rfl, rfl⟩ ?_
    refine zw_istore_5 ⟨rfl, rfl⟩ ?_
    have hf : yfit σ w = 1 := by omega
    have h1 : ygl0 σ w = (ygr σ w).1 := if_pos hf
    rw [h1] at kk
    exact m_greedy_l (M := zup M 140 0 0) hV (hG.fw (yfw.rf.up (by decide))) hf (fun P p => kk P ⟨⟨p.1.1.trans (if_pos hf).symm, fun _ => p.1⟩, (yfw.rf.up (by decide)).tr p.2⟩) _ _ _ _ ⟨Int.le_refl _, hci.1⟩ (by rw [yGd_0]) (by rw [yGd_0]; exact ⟨zup_eq _ _ _ _, fun k k1 k2 => absurd k2 (by show ¬ (k < 0); omega)⟩) yfw.rf (Nat.lt_succ_self _)
  · skip
    refine zw_const ⟨rfl, rfl⟩ ?_
    refine zw_ret rfl ?_
    have h0 : ygl0 σ w = -1 := if_neg (by omega)
    rw [h0] at kk
    exact kk _ ⟨⟨(zup_eq _ _ _ _).trans (if_neg (by omega)).symm, fun z => by omega⟩, yfw.rf.up (by decide)⟩

theorem c_lines {w : Int} {M : zM} {Q : zV → zM → Prop} {σ : yS} (hV : yVal σ) (hS : yTold M σ) (hG : ySet M σ)  (k : ∀ P : zM, yfw M P → Q (0, ya_lines σ w) P) : zWp kX_lines 0 [(1, 0), (0, w)] [] M Q := by
  have hK := yKr_K hV
  have hn := hV.1
  have hci := yci_60 hK
  refine zw_iload ⟨rfl, rfl⟩ rfl ?_
  refine zw_calls1 ⟨rfl, rfl⟩ rfl rfl ?_
  refine zw_iload ⟨rfl, rfl⟩ rfl ?_
  refine zw_const ⟨rfl, rfl⟩ ?_
  refine zw_iclt ⟨rfl, rfl⟩ rfl (fun c1 => ?_) (fun c1 => ?_)
  · skip
    refine zw_const ⟨rfl, rfl⟩ ?_
    refine zw_zret rfl (by first | exact Or.inl rfl | exact Or.inr rfl | omega) ?_
    refine zw_ifne ⟨rfl, rfl⟩ rfl (fun q => absurd q (by decide)) (fun _ => ?_)
    refine zw_const ⟨rfl, rfl⟩ ?_
    refine zw_ret rfl ?_
    rw [show ya_lines σ w = -3 from if_neg (by omega)] at k
    exact k _ yfw.rf
  · skip
    refine zw_iload ⟨rfl, rfl⟩ rfl ?_
    refine zw_const ⟨rfl, rfl⟩ ?_
    refine zw_icgt ⟨rfl, rfl⟩ rfl (fun c3 => ?_) (fun c3 => ?_)
    · skip
      refine zw_const ⟨rfl, rfl⟩ ?_
      refine zw_zret rfl (by first | exact Or.inl rfl | exact Or.inr rfl | omega) ?_
      refine zw_ifne ⟨rfl, rfl⟩ rfl (fun q => absurd q (by decide)) (fun _ => ?_)
      refine zw_const ⟨rfl, rfl⟩ ?_
      refine zw_ret rfl ?_
      rw [show ya_lines σ w = -3 from if_neg (by omega)] at k
      exact k _ yfw.rf
    · skip
      refine zw_const ⟨rfl, rfl⟩ ?_
      refine zw_goto ⟨rfl, rfl⟩ rfl ?_
      refine zw_zret rfl (by first | exact Or.inl rfl | exact Or.inr rfl | omega) ?_
      refine zw_ifne ⟨rfl, rfl⟩ rfl (fun _ => ?_) (fun q => absurd (by decide) q)
      refine zw_aload ⟨rfl, rfl⟩ rfl ?_
      refine zw_getR 140 ⟨rfl, rfl⟩ zr_0_12 ?_
      refine zw_aload ⟨rfl, rfl⟩ rfl ?_
      refine zw_getR 126 ⟨rfl, rfl⟩ zr_0_10 ?_
      refine zw_getR 136 ⟨rfl, rfl⟩ zr_126_3 ?_
      refine zw_aload ⟨rfl, rfl⟩ rfl ?_
      refine zw_getR 105 ⟨rfl, rfl⟩ zr_0_8 ?_
      refine zw_getIv (v := (yci (yK σ) (σ 0))) ⟨rfl, rfl⟩ zc_105 (by decide) (hG.1.1.1.1) ?_
      refine zw_iload ⟨rfl, rfl⟩ rfl ?_
      refine zw_callv4 ⟨rfl, rfl⟩ rfl zc_140 rfl ?_
      refine m_greedy hV hG (fun P1 p1 => ?_)
      obtain ⟨hw1, hf1⟩ := p1
      have hG1 := hG.fw hf1
      refine zw_ret rfl ?_
      rw [show ya_lines σ w = ygl0 σ w from if_pos ⟨by omega, by omega⟩] at k
      exact k _ hf1

theorem c_lineEnd {w i : Int} {M : zM} {Q : zV → zM → Prop} {σ : yS} (hV : yVal σ) (hS : yTold M σ) (hG : ySet M σ)  (k : ∀ P : zM, yfw M P → Q (0, ya_lineEnd σ w i) P) : zWp kX_lineEnd 0 [(1, 0), (0, w), (0, i)] [] M Q := by
  have hK := yKr_K hV
  have hn := hV.1
  have hci := yci_60 hK
  refine zw_iload ⟨rfl, rfl⟩ rfl ?_
  refine zw_calls1 ⟨rfl, rfl⟩ rfl rfl ?_
  refine zw_iload ⟨rfl, rfl⟩ rfl ?_
  refine zw_const ⟨rfl, rfl⟩ ?_
  refine zw_iclt ⟨rfl, rfl⟩ rfl (fun c1 => ?_) (fun c1 => ?_)
  · skip
    refine zw_const ⟨rfl, rfl⟩ ?_
    refine zw_zret rfl (by first | exact Or.inl rfl | exact Or.inr rfl | omega) ?_
    refine zw_ifeq ⟨rfl, rfl⟩ rfl (fun _ => ?_) (fun q => absurd (by decide) q)
    refine zw_const ⟨rfl, rfl⟩ ?_
    refine zw_ret rfl ?_
    rw [show ya_lineEnd σ w i = -3 from if_neg (by omega)] at k
    exact k _ yfw.rf
  · skip
    refine zw_iload ⟨rfl, rfl⟩ rfl ?_
    refine zw_const ⟨rfl, rfl⟩ ?_
    refine zw_icgt ⟨rfl, rfl⟩ rfl (fun c3 => ?_) (fun c3 => ?_)
    · skip
      refine zw_const ⟨rfl, rfl⟩ ?_
      refine zw_zret rfl (by first | exact Or.inl rfl | exact Or.inr rfl | omega) ?_
      refine zw_ifeq ⟨rfl, rfl⟩ rfl (fun _ => ?_) (fun q => absurd (by decide) q)
      refine zw_const ⟨rfl, rfl⟩ ?_
      refine zw_ret rfl ?_
      rw [show ya_lineEnd σ w i = -3 from if_neg (by omega)] at k
      exact k _ yfw.rf
    · skip
      refine zw_const ⟨rfl, rfl⟩ ?_
      refine zw_goto ⟨rfl, rfl⟩ rfl ?_
      refine zw_zret rfl (by first | exact Or.inl rfl | exact Or.inr rfl | omega) ?_
      refine zw_ifeq ⟨rfl, rfl⟩ rfl (fun q => absurd q (by decide)) (fun _ => ?_)
      refine zw_iload ⟨rfl, rfl⟩ rfl ?_
      refine zw_ifge ⟨rfl, rfl⟩ rfl (fun c6 => ?_) (fun c6 => ?_)
      · skip
        refine zw_aload ⟨rfl, rfl⟩ rfl ?_
        refine zw_getR 140 ⟨rfl, rfl⟩ zr_0_12 ?_
        refine zw_aload ⟨rfl, rfl⟩ rfl ?_
        refine zw_getR 126 ⟨rfl, rfl⟩ zr_0_10 ?_
        refine zw_getR 136 ⟨rfl, rfl⟩ zr_126_3 ?_
        refine zw_aload ⟨rfl, rfl⟩ rfl ?_
        refine zw_getR 105 ⟨rfl, rfl⟩ zr_0_8 ?_
        refine zw_getIv (v := (yci (yK σ) (σ 0))) ⟨rfl, rfl⟩ zc_105 (by decide) (hG.1.1.1.1) ?_
        refine zw_iload ⟨rfl, rfl⟩ rfl ?_
        refine zw_callv4 ⟨rfl, rfl⟩ rfl zc_140 rfl ?_
        refine m_greedy hV hG (fun P1 p1 => ?_)
        obtain ⟨hw1, hf1⟩ := p1
        have hG1 := hG.fw hf1
        refine zw_pop ⟨rfl, rfl⟩ (by decide) ?_
        refine zw_iload ⟨rfl, rfl⟩ rfl ?_
        refine zw_aload ⟨rfl, rfl⟩ rfl ?_
        refine zw_getR 140 ⟨rfl, rfl⟩ zr_0_12 ?_
        refine zw_getIv (v := (if yfit σ w = 1 then (ygr σ w).1 else 0)) ⟨rfl, rfl⟩ zc_140 (by decide) (hw1.1) ?_
        refine zw_icge ⟨rfl, rfl⟩ rfl (fun c7 => ?_) (fun c7 => ?_)
        · skip
          refine zw_const ⟨rfl, rfl⟩ ?_
          refine zw_ret rfl ?_
          rw [show ya_lineEnd σ w i = _ from (if_pos ⟨⟨by omega, by omega⟩, by omega⟩).trans (if_neg (fun z => by have z1 := z.2; rw [if_pos z.1] at c7; omega))] at k
          exact k _ hf1
        · skip
          have hfr := yfit_r σ w
          have hfit : yfit σ w = 1 := by
            rcases hfr with z | z
            · rw [if_neg (by omega)] at c7; omega
            · exact z
          rw [if_pos hfit] at c7
          have hr := (ygr_r hci.1 hfit).2.2.2
          have hr2 := ygr_r hci.1 hfit
          refine zw_aload ⟨rfl, rfl⟩ rfl ?_
          refine zw_getR 105 ⟨rfl, rfl⟩ zr_0_8 ?_
          refine zw_aload ⟨rfl, rfl⟩ rfl ?_
          refine zw_getR 140 ⟨rfl, rfl⟩ zr_0_12 ?_
          refine zw_getR 141 ⟨rfl, rfl⟩ zr_140_1 ?_
          refine zw_iload ⟨rfl, rfl⟩ rfl ?_
          refine zw_ialdv (v := (ygr σ w).2.1 i) ⟨rfl, rfl⟩ za_141 (by omega) ((hw1.2 hfit).2 i (by omega) (by omega)) ?_
          refine zw_callv2 ⟨rfl, rfl⟩ rfl zc_105 rfl ?_
          refine m_stopPlace hK hG1.1.1 ?_
          rw [show ysp (yK σ) (σ 0) ((ygr σ w).2.1 i) = yB (yK σ) ((ygr σ w).2.1 i) from if_pos (hr i (by omega) (by omega))]
          refine zw_goto ⟨rfl, rfl⟩ rfl ?_
          refine zw_ret rfl ?_
          rw [show ya_lineEnd σ w i = _ from (if_pos ⟨⟨by omega, by omega⟩, by omega⟩).trans (if_pos ⟨hfit, by omega⟩)] at k
          exact k _ hf1
      · skip
        refine zw_const ⟨rfl, rfl⟩ ?_
        refine zw_ret rfl ?_
        rw [show ya_lineEnd σ w i = -3 from if_neg (by omega)] at k
        exact k _ yfw.rf

theorem c_narrowest_l {n v : Int} {M : zM} {Q : zV → zM → Prop} {σ : yS} (hV : yVal σ) (hG : ySet M σ) (hN : (yci (yK σ) (σ 0)) ≠ 0) (kk : ∀ P : zM, yfw M P → Q (0, v) P) : ∀ (f0 : Nat) (w : Int) (u3 : zV) (P : zM), (1 ≤ w ∧ w ≤ 201) → (yfst (fun w => yfit σ w = 1 ∧ (ygr σ w).1 ≤ n) w (201 - w).toNat = v) → (yfw M P) → (201 - w).toNat < f0 → zWp kX_narrowest 16 [(1, 0), (0, n), (0, w), u3] [] P Q := by
  intro f0
  induction f0 with
  | zero => intro w u3 P i1 i2 iF hf0; exact absurd hf0 (Nat.not_lt_zero _)
  | succ f0 ih =>
    intro w u3 P i1 i2 iF hf0
    have hK := yKr_K hV
    have hn := hV.1
    have hci := yci_60 hK
    refine zw_iload ⟨rfl, rfl⟩ rfl ?_
    refine zw_const ⟨rfl, rfl⟩ ?_
    refine zw_icgt ⟨rfl, rfl⟩ rfl (fun c1 => ?_) (fun c1 => ?_)
    · skip
      refine zw_const ⟨rfl, rfl⟩ ?_
      refine zw_ret rfl ?_
      rw [show (201 - w).toNat = 0 by omega] at i2
      unfold yfst at i2
      rw [i2]
      exact kk _ iF
    · skip
      rw [show (201 - w).toNat = (201 - (w + 1)).toNat + 1 by omega] at i2
      unfold yfst at i2
      have hfr := yfit_r σ w
      refine zw_aload ⟨rfl, rfl⟩ rfl ?_
      refine zw_getR 140 ⟨rfl, rfl⟩ zr_0_12 ?_
      refine zw_aload ⟨rfl, rfl⟩ rfl ?_
      refine zw_getR 126 ⟨rfl, rfl⟩ zr_0_10 ?_
      refine zw_getR 136 ⟨rfl, rfl⟩ zr_126_3 ?_
      refine zw_aload ⟨rfl, rfl⟩ rfl ?_
      refine zw_getR 105 ⟨rfl, rfl⟩ zr_0_8 ?_
      refine zw_getIv (v := (yci (yK σ) (σ 0))) ⟨rfl, rfl⟩ zc_105 (by decide) (((congrFun (iF 105 (by decide)) 0).trans hG.1.1.1.1)) ?_
      refine zw_iload ⟨rfl, rfl⟩ rfl ?_
      refine zw_callv4 ⟨rfl, rfl⟩ rfl zc_140 rfl ?_
      refine m_greedy hV (hG.fw iF) (fun P1 p1 => ?_)
      have hf1 := iF.tr p1.2
      have hgl : (yfit σ w = 1 ∧ ygl0 σ w = (ygr σ w).1) ∨ (yfit σ w = 0 ∧ ygl0 σ w = -1) := by
        rcases hfr with z | z
        · exact Or.inr ⟨z, if_neg (by omega)⟩
        · exact Or.inl ⟨z, if_pos z⟩
      have hgr : yfit σ w = 1 → 0 ≤ (ygr σ w).1 := fun z => (ygr_r hci.1 z).1
      refine zw_istore_3 ⟨rfl, rfl⟩ ?_
      refine zw_iload ⟨rfl, rfl⟩ rfl ?_
      refine zw_const ⟨rfl, rfl⟩ ?_
      refine zw_iceq ⟨rfl, rfl⟩ rfl (fun c2 => ?_) (fun c2 => ?_)
      · skip
        refine zw_iinc_2 ⟨rfl, rfl⟩ (by omega) ?_
        refine zw_goto ⟨rfl, rfl⟩ rfl ?_
        refine ih _ _ _ ⟨by omega, by omega⟩ ?_ hf1 (by omega)
        rw [← i2]
        rw [if_neg (fun z => by have z1 := z.1; have z2 := z.2; have z3 := hgr z1; omega)]
      · skip
        refine zw_iload ⟨rfl, rfl⟩ rfl ?_
        refine zw_iload ⟨rfl, rfl⟩ rfl ?_
        refine zw_icgt ⟨rfl, rfl⟩ rfl (fun c3 => ?_) (fun c3 => ?_)
        · skip
          refine zw_iinc_2 ⟨rfl, rfl⟩ (by omega) ?_
          refine zw_goto ⟨rfl, rfl⟩ rfl ?_
          refine ih _ _ _ ⟨by omega, by omega⟩ ?_ hf1 (by omega)
          rw [← i2]
          rw [if_neg (fun z => by have z1 := z.1; have z2 := z.2; have z3 := hgr z1; omega)]
        · skip
          refine zw_iload ⟨rfl, rfl⟩ rfl ?_
          refine zw_ret rfl ?_
          rw [if_pos ⟨by omega, by omega⟩] at i2
          rw [i2]
          exact kk _ hf1

theorem c_narrowest {n : Int} {M : zM} {Q : zV → zM → Prop} {σ : yS} (hV : yVal σ) (hS : yTold M σ) (hG : ySet M σ)  (k : ∀ P : zM, yfw M P → Q (0, ya_narrowest σ n) P) : zWp kX_narrowest 0 [(1, 0), (0, n), (3, 0), (3, 0)] [] M Q := by
  have hK := yKr_K hV
  have hn := hV.1
  have hci := yci_60 hK
  refine zw_iload ⟨rfl, rfl⟩ rfl ?_
  refine zw_const ⟨rfl, rfl⟩ ?_
  refine zw_iclt ⟨rfl, rfl⟩ rfl (fun c1 => ?_) (fun c1 => ?_)
  · skip
    refine zw_const ⟨rfl, rfl⟩ ?_
    refine zw_ret rfl ?_
    rw [show ya_narrowest σ n = -3 from if_neg (by omega)] at k
    exact k _ yfw.rf
  · skip
    refine zw_iload ⟨rfl, rfl⟩ rfl ?_
    refine zw_const ⟨rfl, rfl⟩ ?_
    refine zw_icle ⟨rfl, rfl⟩ rfl (fun c2 => ?_) (fun c2 => ?_)
    · skip
      refine zw_aload ⟨rfl, rfl⟩ rfl ?_
      refine zw_getR 105 ⟨rfl, rfl⟩ zr_0_8 ?_
      refine zw_getIv (v := (yci (yK σ) (σ 0))) ⟨rfl, rfl⟩ zc_105 (by decide) (hG.1.1.1.1) ?_
      refine zw_ifne ⟨rfl, rfl⟩ rfl (fun c3 => ?_) (fun c3 => ?_)
      · skip
        refine zw_const ⟨rfl, rfl⟩ ?_
        refine zw_istore_2 ⟨rfl, rfl⟩ ?_
        refine c_narrowest_l hV hG (n := n) (v := ya_narrowest σ n) (by omega) k _ _ _ _ ⟨Int.le_refl _, by decide⟩ ?_ yfw.rf (Nat.lt_succ_self _)
        exact ((if_pos ⟨by omega, by omega⟩).trans (if_neg (by omega)) : ya_narrowest σ n = _).symm
      · skip
        refine zw_const ⟨rfl, rfl⟩ ?_
        refine zw_ret rfl ?_
        rw [show ya_narrowest σ n = -1 from (if_pos ⟨by omega, by omega⟩).trans (if_pos (by omega))] at k
        exact k _ yfw.rf
    · skip
      refine zw_const ⟨rfl, rfl⟩ ?_
      refine zw_ret rfl ?_
      rw [show ya_narrowest σ n = -3 from if_neg (by omega)] at k
      exact k _ yfw.rf

theorem m_Mfit_l  {w : Int} {M : zM} {Q : zV → zM → Prop} {σ : yS} (hV : yVal σ) (hG : yLay M σ) (k : Q (0, yfit σ w) M) : ∀ (f : Nat) (c : Int), (0 ≤ c ∧ c ≤ (yci (yK σ) (σ 0))) → (∀ j, 0 ≤ j → j < c → yX σ (j + 1) - yX σ j ≤ w) → ((yci (yK σ) (σ 0)) - c).toNat < f → zWp kM_allFit 2 [(1, 208), (0, w), (0, c)] [] M Q := by
  intro f
  induction f with
  | zero => intro c i1 i2 hf; exact absurd hf (Nat.not_lt_zero _)
  | succ f ih =>
    intro c i1 i2 hf
    have hK := yKr_K hV
    have hn := hV.1
    have hci := yci_60 hK
    refine zw_iload ⟨rfl, rfl⟩ rfl ?_
    refine zw_aload ⟨rfl, rfl⟩ rfl ?_
    refine zw_getIv (v := (yci (yK σ) (σ 0))) ⟨rfl, rfl⟩ zc_208 (by decide) (hG.1.1) ?_
    refine zw_icge ⟨rfl, rfl⟩ rfl (fun c1 => ?_) (fun c1 => ?_)
    · skip
      refine zw_const ⟨rfl, rfl⟩ ?_
      refine zw_zret rfl (by first | exact Or.inl rfl | exact Or.inr rfl | omega) ?_
      rw [show yfit σ w = 1 from yall_1 _ _ (fun j j1 j2 => i2 j j1 (by omega))] at k
      exact k
    · skip
      refine zw_aload ⟨rfl, rfl⟩ rfl ?_
      refine zw_iload ⟨rfl, rfl⟩ rfl ?_
      refine zw_callv2 ⟨rfl, rfl⟩ rfl zc_208 rfl ?_
      refine m_clusterWidth hV hG ⟨by omega, by omega⟩ ?_
      refine zw_iload ⟨rfl, rfl⟩ rfl ?_
      refine zw_icle ⟨rfl, rfl⟩ rfl (fun c2 => ?_) (fun c2 => ?_)
      · skip
        refine zw_iinc_2 ⟨rfl, rfl⟩ (by omega) ?_
        refine zw_goto ⟨rfl, rfl⟩ rfl ?_
        refine ih _ ⟨by omega, by omega⟩ (fun j j1 j2 => ?_) (by omega)
        by_cases e : j = c
        · subst e; omega
        · exact i2 j j1 (by omega)
      · skip
        refine zw_const ⟨rfl, rfl⟩ ?_
        refine zw_zret rfl (by first | exact Or.inl rfl | exact Or.inr rfl | omega) ?_
        rw [show yfit σ w = 0 from yall_0 _ _ c i1.1 (by omega) (by omega)] at k
        exact k

theorem m_Mfit {w : Int} {M : zM} {Q : zV → zM → Prop} {σ : yS} (hV : yVal σ) (hG : yLay M σ) (k : Q (0, yfit σ w) M) : zWp kM_allFit 0 [(1, 208), (0, w), (3, 0)] [] M Q := by
  have hK := yKr_K hV
  have hn := hV.1
  have hci := yci_60 hK
  refine zw_const ⟨rfl, rfl⟩ ?_
  refine zw_istore_2 ⟨rfl, rfl⟩ ?_
  exact m_Mfit_l hV hG k _ _ ⟨Int.le_refl _, hci.1⟩ (fun j a b => by omega) (Nat.lt_succ_self _)

theorem m_Mfill_i  {w s : Int} {M : zM} {Q : zV → zM → Prop} {σ : yS} (hV : yVal σ) (hG : yLay M σ) (hw : 1 ≤ w ∧ w ≤ 200) (hfw : yfit σ w = 1) (hs : 0 ≤ s ∧ s < (yci (yK σ) (σ 0))) (hg : (yGd σ w (s + 1)).2.2 = s) (kk : ∀ c u, s < c → c ≤ (yci (yK σ) (σ 0)) → yGd σ w c = yGd σ w (s + 1) → (c < (yci (yK σ) (σ 0)) → w < yX σ (c + 1) - yX σ s) → zWp kM_fillsLines 38 [(1, 208), (0, w), (0, c), (0, u)] [] M Q) : ∀ (f : Nat) (c u : Int), (s ≤ c ∧ c ≤ (yci (yK σ) (σ 0))) → (u = yX σ c - yX σ s) → (s < c → yGd σ w c = yGd σ w (s + 1)) → ((yci (yK σ) (σ 0)) - c).toNat < f → zWp kM_fillsLines 19 [(1, 208), (0, w), (0, c), (0, u)] [] M Q := by
  intro f
  induction f with
  | zero => intro c u i1 i2 i3 hf; exact absurd hf (Nat.not_lt_zero _)
  | succ f ih =>
    intro c u i1 i2 i3 hf
    have hK := yKr_K hV
    have hn := hV.1
    have hci := yci_60 hK
    have hx_c := yX_r hV (show 0 ≤ c by omega) (show c ≤ (yci (yK σ) (σ 0)) by omega)
    have hx_s := yX_r hV (show 0 ≤ s by omega) (show s ≤ (yci (yK σ) (σ 0)) by omega)
    refine zw_iload ⟨rfl, rfl⟩ rfl ?_
    refine zw_aload ⟨rfl, rfl⟩ rfl ?_
    refine zw_getIv (v := (yci (yK σ) (σ 0))) ⟨rfl, rfl⟩ zc_208 (by decide) (hG.1.1) ?_
    refine zw_icge ⟨rfl, rfl⟩ rfl (fun c1 => ?_) (fun c1 => ?_)
    · skip
      have hsc : s < c := by
        by_cases e : s < c
        · exact e
        · exfalso
          have es : c = s := by omega
          have hz := yfit_a hfw s hs.1 hs.2
          rw [es] at i2
          first | omega | (rw [es] at c2; omega)
      exact kk c u hsc i1.2 (i3 hsc) (fun z => by omega)
    · skip
      have hx_c___1 := yX_r hV (show 0 ≤ c + 1 by omega) (show c + 1 ≤ (yci (yK σ) (σ 0)) by omega)
      refine zw_iload ⟨rfl, rfl⟩ rfl ?_
      refine zw_aload ⟨rfl, rfl⟩ rfl ?_
      refine zw_iload ⟨rfl, rfl⟩ rfl ?_
      refine zw_callv2 ⟨rfl, rfl⟩ rfl zc_208 rfl ?_
      refine m_clusterWidth hV hG ⟨by omega, by omega⟩ ?_
      refine zw_iadd ⟨rfl, rfl⟩ (by omega) ?_
      refine zw_iload ⟨rfl, rfl⟩ rfl ?_
      refine zw_icgt ⟨rfl, rfl⟩ rfl (fun c2 => ?_) (fun c2 => ?_)
      · skip
        have hsc : s < c := by
          by_cases e : s < c
          · exact e
          · exfalso
            have es : c = s := by omega
            have hz := yfit_a hfw s hs.1 hs.2
            rw [es] at i2
            first | omega | (rw [es] at c2; omega)
        exact kk c u hsc i1.2 (i3 hsc) (fun z => by omega)
      · skip
        refine zw_iload ⟨rfl, rfl⟩ rfl ?_
        refine zw_aload ⟨rfl, rfl⟩ rfl ?_
        refine zw_iload ⟨rfl, rfl⟩ rfl ?_
        refine zw_callv2 ⟨rfl, rfl⟩ rfl zc_208 rfl ?_
        refine m_clusterWidth hV hG ⟨by omega, by omega⟩ ?_
        refine zw_iadd ⟨rfl, rfl⟩ (by omega) ?_
        refine zw_istore_3 ⟨rfl, rfl⟩ ?_
        refine zw_iinc_2 ⟨rfl, rfl⟩ (by omega) ?_
        refine zw_goto ⟨rfl, rfl⟩ rfl ?_
        refine ih _ _ ⟨by omega, by omega⟩ (by omega) (fun _ => ?_) (by omega)
        by_cases e : s < c
        · rw [yGd_n (by omega) (by rw [i3 e, hg]; omega)]; exact i3 e
        · rw [show c = s by omega]

def yEm (P : zM) (g : yG3) : Prop := P 208 50 = g.1 ∧ ∀ k, 0 ≤ k → k < g.1 → P 241 k = g.2.1 k
theorem yEm.ps {P : zM} {g h : yG3} {c : Int} (hg : yEm P g) (e1 : h.1 = g.1 + 1) (e2 : h.2.1 = fun k => if k = g.1 then c else g.2.1 k) : yEm (zup (zup P 241 g.1 c) 208 50 (g.1 + 1)) h := by
  refine ⟨(zup_eq _ _ _ _).trans e1.symm, fun k k1 k2 => ?_⟩
  rw [zup_na (by decide), e2]
  by_cases q : k = g.1
  · rw [q, zup_eq]; exact (if_pos rfl).symm
  · rw [zup_ni q, hg.2 k k1 (by omega)]; exact (if_neg q).symm
def yfm (M P : zM) : Prop := (∀ x, ¬ (241 ≤ x ∧ x ≤ 243) → x ≠ 208 → P x = M x) ∧ ∀ j, j ≠ 50 → P 208 j = M 208 j
theorem yfm.rf {M : zM} : yfm M M := ⟨fun _ _ _ => rfl, fun _ _ => rfl⟩
theorem yfm.u1 {M P : zM} {a i v : Int} (h : yfm M P) (ha : 241 ≤ a ∧ a ≤ 243) : yfm M (zup P a i v) := ⟨fun x hx h8 => (zup_row (by omega)).trans (h.1 x hx h8), fun j hj => (zup_na (by omega)).trans (h.2 j hj)⟩
theorem yfm.u2 {M P : zM} {v : Int} (h : yfm M P) : yfm M (zup P 208 50 v) := ⟨fun x hx h8 => (zup_row h8).trans (h.1 x hx h8), fun j hj => (zup_ni hj).trans (h.2 j hj)⟩
theorem yfm.m {M P : zM} (h : yfm M P) : ymf M P := ⟨fun x hx => h.1 x (by omega) (by omega), fun j hj => h.2 j (by omega)⟩
theorem yLay.fm {M P : zM} {σ : yS} (h : yLay M σ) (g : yfm M P) : yLay P σ := h.cx (fun x a b => g.1 x (by omega) (by omega)) (g.2 15 (by decide)) (g.2 31 (by decide))

theorem m_Mfill_e {w c u : Int} {g : yG3} {P : zM} {Q : zV → zM → Prop} (hE : yEm P g) (h0 : 0 ≤ g.1 ∧ g.1 < 60) (kk : zWp kM_fillsLines 13 [(1, 208), (0, w), (0, c), (0, u)] [] (zup (zup P 241 g.1 c) 208 50 (g.1 + 1)) Q) : zWp kM_fillsLines 38 [(1, 208), (0, w), (0, c), (0, u)] [] P Q := by
  refine zw_aload ⟨rfl, rfl⟩ rfl ?_
  refine zw_getR 241 ⟨rfl, rfl⟩ zr_208_47 ?_
  refine zw_aload ⟨rfl, rfl⟩ rfl ?_
  refine zw_getIv (v := g.1) ⟨rfl, rfl⟩ zc_208 (by decide) (hE.1) ?_
  refine zw_iload ⟨rfl, rfl⟩ rfl ?_
  refine zw_iast ⟨rfl, rfl⟩ za_241 (by omega) ?_
  refine zw_aload ⟨rfl, rfl⟩ rfl ?_
  refine zw_dup ⟨rfl, rfl⟩ (by decide) ?_
  refine zw_getIv (v := g.1) ⟨rfl, rfl⟩ zc_208 (by decide) ((zup_na (by decide)).trans (hE.1)) ?_
  refine zw_const ⟨rfl, rfl⟩ ?_
  refine zw_iadd ⟨rfl, rfl⟩ (by omega) ?_
  refine zw_putI ⟨rfl, rfl⟩ zc_208 (by decide) (fun h => absurd h (by decide)) ?_
  refine zw_goto ⟨rfl, rfl⟩ rfl ?_
  exact kk

theorem m_Mfill_o {w : Int} {M : zM} {Q : zV → zM → Prop} {σ : yS} (hV : yVal σ) (hG : yLay M σ) (hw : 1 ≤ w ∧ w ≤ 200) (hf : yfit σ w = 1) (kk : ∀ P : zM, (yEm P (ygr σ w) ∧ yfm M P) → Q (0, 1) P) : ∀ (f0 : Nat) (c : Int) (u : zV) (P : zM), (0 ≤ c ∧ c ≤ (yci (yK σ) (σ 0))) → ((c = 0 ∧ P 208 50 = 0) ∨ (0 < c ∧ yEm P (yGp σ w c) ∧ (c < (yci (yK σ) (σ 0)) → w < yX σ (c + 1) - yX σ (yGd σ w c).2.2))) → (yfm M P) → ((yci (yK σ) (σ 0)) - c).toNat < f0 → zWp kM_fillsLines 13 [(1, 208), (0, w), (0, c), u] [] P Q := by
  intro f0
  induction f0 with
  | zero => intro c u P i1 i3 iF hf0; exact absurd hf0 (Nat.not_lt_zero _)
  | succ f0 ih =>
    intro c u P i1 i3 iF hf0
    have hK := yKr_K hV
    have hn := hV.1
    have hci := yci_60 hK
    refine zw_iload ⟨rfl, rfl⟩ rfl ?_
    refine zw_aload ⟨rfl, rfl⟩ rfl ?_
    refine zw_getIv (v := (yci (yK σ) (σ 0))) ⟨rfl, rfl⟩ zc_208 (by decide) (((iF.2 15 (by decide)).trans hG.1.1)) ?_
    refine zw_icge ⟨rfl, rfl⟩ rfl (fun c1 => ?_) (fun c1 => ?_)
    · skip
      refine zw_const ⟨rfl, rfl⟩ ?_
      refine zw_zret rfl (by first | exact Or.inl rfl | exact Or.inr rfl | omega) ?_
      refine kk _ ⟨?_, iF⟩
      have ec : c = (yci (yK σ) (σ 0)) := by omega
      rcases i3 with ⟨e, e2⟩ | ⟨e, e2, e3⟩
      · rw [show ygr σ w = (0, (fun _ => 0), 0) from if_pos (by omega)]
        exact ⟨e2, fun k k1 k2 => absurd k2 (by show ¬ (k < 0); omega)⟩
      · rw [show ygr σ w = yGp σ w (yci (yK σ) (σ 0)) from if_neg (by omega), ← ec]
        exact e2
    · skip
      refine zw_const ⟨rfl, rfl⟩ ?_
      refine zw_istore_3 ⟨rfl, rfl⟩ ?_
      have hG2 := hG.fm iF
      have hg : (yGd σ w (c + 1)).2.2 = c ∧ yEm P (yGd σ w (c + 1)) := by
        rcases i3 with ⟨e, e2⟩ | ⟨e, e2, e3⟩
        · subst e
          have hz := yfit_a hf 0 (Int.le_refl _) (by omega)
          have e4 : yGd σ w (0 + 1) = yGd σ w 0 := yGd_n (Int.le_refl _) (by rw [yGd_0]; show ¬ w < yX σ (0 + 1) - yX σ 0; omega)
          rw [e4, yGd_0]
          exact ⟨rfl, e2, fun k k1 k2 => absurd k2 (by show ¬ (k < 0); omega)⟩
        · rw [yGd_y i1.1 (e3 (by omega))]
          exact ⟨rfl, e2⟩
      refine m_Mfill_i hV hG2 hw hf (s := c) ⟨i1.1, by omega⟩ hg.1 (fun d u2 d1 d2 d3 d4 => ?_) _ _ _ ⟨Int.le_refl _, i1.2⟩ (by omega) (fun z => absurd z (by omega)) (Nat.lt_succ_self _)
      have hr := (yGd_r hf d (by omega) d2).1
      have hr2 := hr.2.2.2 (by omega)
      have hE : yEm P (yGd σ w d) := by rw [d3]; exact hg.2
      refine m_Mfill_e hE ⟨hr.1, by omega⟩ ?_
      refine ih _ _ _ ⟨by omega, d2⟩ (Or.inr ⟨by omega, hE.ps rfl rfl, fun z => ?_⟩) ((iF.u1 (by decide)).u2) (by omega)
      rw [d3, hg.1]
      exact d4 z

theorem m_Mfills {w : Int} {M : zM} {Q : zV → zM → Prop} {σ : yS} (hV : yVal σ) (hM : yMo M σ) (hw : 1 ≤ w ∧ w ≤ 200) (kk : ∀ P : zM, (yLay P σ ∧ ymf M P ∧ (yfit σ w = 1 → yEm P (ygr σ w))) → Q (0, yfit σ w) P) : zWp kM_fillsLines 0 [(1, 208), (0, w), (3, 0), (3, 0)] [] M Q := by
  have hfr := yfit_r σ w
  have hci := yci_60 (yKr_K hV)
  refine zw_aload ⟨rfl, rfl⟩ rfl ?_
  refine zw_cavv1 ⟨rfl, rfl⟩ rfl zc_208 rfl ?_
  refine m_laysAll hV hM (fun N1 p1 => ?_)
  have g1 : yfm N1 (zup N1 208 50 0) := yfm.rf.u2
  have hG1 := p1.1.fm g1
  refine zw_aload ⟨rfl, rfl⟩ rfl ?_
  refine zw_const ⟨rfl, rfl⟩ ?_
  refine zw_putI ⟨rfl, rfl⟩ zc_208 (by decide) (fun h => absurd h (by decide)) ?_
  refine zw_aload ⟨rfl, rfl⟩ rfl ?_
  refine zw_iload ⟨rfl, rfl⟩ rfl ?_
  refine zw_callv2 ⟨rfl, rfl⟩ rfl zc_208 rfl ?_
  refine m_Mfit hV hG1 ?_
  refine zw_ifne ⟨rfl, rfl⟩ rfl (fun c1 => ?_) (fun c1 => ?_)
  · skip
    refine zw_const ⟨rfl, rfl⟩ ?_
    refine zw_istore_2 ⟨rfl, rfl⟩ ?_
    have hf : yfit σ w = 1 := by omega
    rw [hf] at kk
    exact m_Mfill_o hV hG1 hw hf (fun P p => kk P ⟨hG1.fm p.2, p1.2.m.tr (g1.m.tr p.2.m), fun _ => p.1⟩) _ _ _ _ ⟨Int.le_refl _, hci.1⟩ (Or.inl ⟨rfl, zup_eq _ _ _ _⟩) yfm.rf (Nat.lt_succ_self _)
  · skip
    refine zw_const ⟨rfl, rfl⟩ ?_
    refine zw_zret rfl (by first | exact Or.inl rfl | exact Or.inr rfl | omega) ?_
    have hf : yfit σ w = 0 := by omega
    rw [hf] at kk
    exact kk _ ⟨hG1, p1.2.m.tr g1.m, fun z => absurd z (by decide)⟩

theorem d_lines {w : Int} {M : zM} {Q : zV → zM → Prop} {σ : yS} (hV : yVal σ) (hM : yMo M σ)  (k : ∀ N : zM, ymf M N → Q (0, ya_lines σ w) N) : zWp kM_lines 0 [(1, 208), (0, w)] [] M Q := by
  have hK := yKr_K hV
  have hn := hV.1
  have hci := yci_60 hK
  have eyL : (yTk σ (yci (yK σ) (σ 0))).1 = (yLast σ).1 := rfl
  have hgl := yLast_r hV
  refine zw_aload ⟨rfl, rfl⟩ rfl ?_
  refine zw_const ⟨rfl, rfl⟩ ?_
  refine zw_putI ⟨rfl, rfl⟩ zc_208 (by decide) (fun h => absurd h (by decide)) ?_
  refine zw_iload ⟨rfl, rfl⟩ rfl ?_
  refine zw_i2l ⟨rfl, rfl⟩ ?_
  refine zw_lconst ⟨rfl, rfl⟩ ?_
  refine zw_lconst ⟨rfl, rfl⟩ ?_
  refine zw_calLs3 ⟨rfl, rfl⟩ rfl rfl ?_
  refine zw_lload ⟨rfl, rfl⟩ rfl ?_
  refine zw_lload ⟨rfl, rfl⟩ rfl ?_
  refine zw_lcmp ⟨rfl, rfl⟩ ?_
  refine zw_iflt ⟨rfl, rfl⟩ rfl (fun c1 => ?_) (fun c1 => ?_)
  · replace c1 := zlc_lt.mp c1
    refine zw_const ⟨rfl, rfl⟩ ?_
    refine zw_zret rfl (by first | exact Or.inl rfl | exact Or.inr rfl | omega) ?_
    refine zw_ifne ⟨rfl, rfl⟩ rfl (fun q => absurd q (by decide)) (fun _ => ?_)
    refine zw_const ⟨rfl, rfl⟩ ?_
    refine zw_ret rfl ?_
    rw [show ya_lines σ w = -3 from if_neg (by omega)] at k
    exact k _ ymf_0
  · replace c1 := (not_congr zlc_lt).mp c1
    refine zw_lload ⟨rfl, rfl⟩ rfl ?_
    refine zw_lload ⟨rfl, rfl⟩ rfl ?_
    refine zw_lcmp ⟨rfl, rfl⟩ ?_
    refine zw_ifgt ⟨rfl, rfl⟩ rfl (fun c3 => ?_) (fun c3 => ?_)
    · replace c3 := zlc_gt.mp c3
      refine zw_const ⟨rfl, rfl⟩ ?_
      refine zw_zret rfl (by first | exact Or.inl rfl | exact Or.inr rfl | omega) ?_
      refine zw_ifne ⟨rfl, rfl⟩ rfl (fun q => absurd q (by decide)) (fun _ => ?_)
      refine zw_const ⟨rfl, rfl⟩ ?_
      refine zw_ret rfl ?_
      rw [show ya_lines σ w = -3 from if_neg (by omega)] at k
      exact k _ ymf_0
    · replace c3 := (not_congr zlc_gt).mp c3
      refine zw_const ⟨rfl, rfl⟩ ?_
      refine zw_goto ⟨rfl, rfl⟩ rfl ?_
      refine zw_zret rfl (by first | exact Or.inl rfl | exact Or.inr rfl | omega) ?_
      refine zw_ifne ⟨rfl, rfl⟩ rfl (fun _ => ?_) (fun q => absurd (by decide) q)
      refine zw_aload ⟨rfl, rfl⟩ rfl ?_
      refine zw_iload ⟨rfl, rfl⟩ rfl ?_
      refine zw_callv2 ⟨rfl, rfl⟩ rfl zc_208 rfl ?_
      refine m_Mfills hV (hM.cg (zup_row (by decide))) ⟨by omega, by omega⟩ (fun N1 p1 => ?_)
      obtain ⟨hG1, hf0, hE1⟩ := p1
      have hf1 : ymf M N1 := ymf_0.tr hf0
      have hfr := yfit_r σ w
      refine zw_ifeq ⟨rfl, rfl⟩ rfl (fun c6 => ?_) (fun c6 => ?_)
      · skip
        refine zw_const ⟨rfl, rfl⟩ ?_
        refine zw_ret rfl ?_
        rw [show ya_lines σ w = _ from (if_pos ⟨by omega, by omega⟩).trans (if_neg (by omega))] at k
        exact k _ hf1
      · skip
        refine zw_aload ⟨rfl, rfl⟩ rfl ?_
        refine zw_getIv (v := (ygr σ w).1) ⟨rfl, rfl⟩ zc_208 (by decide) ((hE1 (by omega)).1) ?_
        refine zw_goto ⟨rfl, rfl⟩ rfl ?_
        refine zw_ret rfl ?_
        rw [show ya_lines σ w = _ from (if_pos ⟨by omega, by omega⟩).trans (if_pos (by omega))] at k
        exact k _ hf1

theorem d_lineEnd {w i : Int} {M : zM} {Q : zV → zM → Prop} {σ : yS} (hV : yVal σ) (hM : yMo M σ)  (k : ∀ N : zM, ymf M N → Q (0, ya_lineEnd σ w i) N) : zWp kM_lineEnd 0 [(1, 208), (0, w), (0, i)] [] M Q := by
  have hK := yKr_K hV
  have hn := hV.1
  have hci := yci_60 hK
  have eyL : (yTk σ (yci (yK σ) (σ 0))).1 = (yLast σ).1 := rfl
  have hgl := yLast_r hV
  refine zw_aload ⟨rfl, rfl⟩ rfl ?_
  refine zw_const ⟨rfl, rfl⟩ ?_
  refine zw_putI ⟨rfl, rfl⟩ zc_208 (by decide) (fun h => absurd h (by decide)) ?_
  refine zw_iload ⟨rfl, rfl⟩ rfl ?_
  refine zw_i2l ⟨rfl, rfl⟩ ?_
  refine zw_lconst ⟨rfl, rfl⟩ ?_
  refine zw_lconst ⟨rfl, rfl⟩ ?_
  refine zw_calLs3 ⟨rfl, rfl⟩ rfl rfl ?_
  refine zw_lload ⟨rfl, rfl⟩ rfl ?_
  refine zw_lload ⟨rfl, rfl⟩ rfl ?_
  refine zw_lcmp ⟨rfl, rfl⟩ ?_
  refine zw_iflt ⟨rfl, rfl⟩ rfl (fun c1 => ?_) (fun c1 => ?_)
  · replace c1 := zlc_lt.mp c1
    refine zw_const ⟨rfl, rfl⟩ ?_
    refine zw_zret rfl (by first | exact Or.inl rfl | exact Or.inr rfl | omega) ?_
    refine zw_ifeq ⟨rfl, rfl⟩ rfl (fun _ => ?_) (fun q => absurd (by decide) q)
    refine zw_const ⟨rfl, rfl⟩ ?_
    refine zw_ret rfl ?_
    rw [show ya_lineEnd σ w i = -3 from if_neg (by omega)] at k
    exact k _ ymf_0
  · replace c1 := (not_congr zlc_lt).mp c1
    refine zw_lload ⟨rfl, rfl⟩ rfl ?_
    refine zw_lload ⟨rfl, rfl⟩ rfl ?_
    refine zw_lcmp ⟨rfl, rfl⟩ ?_
    refine zw_ifgt ⟨rfl, rfl⟩ rfl (fun c3 => ?_) (fun c3 => ?_)
    · replace c3 := zlc_gt.mp c3
      refine zw_const ⟨rfl, rfl⟩ ?_
      refine zw_zret rfl (by first | exact Or.inl rfl | exact Or.inr rfl | omega) ?_
      refine zw_ifeq ⟨rfl, rfl⟩ rfl (fun _ => ?_) (fun q => absurd (by decide) q)
      refine zw_const ⟨rfl, rfl⟩ ?_
      refine zw_ret rfl ?_
      rw [show ya_lineEnd σ w i = -3 from if_neg (by omega)] at k
      exact k _ ymf_0
    · replace c3 := (not_congr zlc_gt).mp c3
      refine zw_const ⟨rfl, rfl⟩ ?_
      refine zw_goto ⟨rfl, rfl⟩ rfl ?_
      refine zw_zret rfl (by first | exact Or.inl rfl | exact Or.inr rfl | omega) ?_
      refine zw_ifeq ⟨rfl, rfl⟩ rfl (fun q => absurd q (by decide)) (fun _ => ?_)
      refine zw_iload ⟨rfl, rfl⟩ rfl ?_
      refine zw_ifge ⟨rfl, rfl⟩ rfl (fun c6 => ?_) (fun c6 => ?_)
      · skip
        refine zw_aload ⟨rfl, rfl⟩ rfl ?_
        refine zw_iload ⟨rfl, rfl⟩ rfl ?_
        refine zw_callv2 ⟨rfl, rfl⟩ rfl zc_208 rfl ?_
        refine m_Mfills hV (hM.cg (zup_row (by decide))) ⟨by omega, by omega⟩ (fun N1 p1 => ?_)
        obtain ⟨hG1, hf0, hE1⟩ := p1
        have hf1 : ymf M N1 := ymf_0.tr hf0
        have hfr := yfit_r σ w
        refine zw_ifeq ⟨rfl, rfl⟩ rfl (fun c7 => ?_) (fun c7 => ?_)
        · skip
          refine zw_const ⟨rfl, rfl⟩ ?_
          refine zw_ret rfl ?_
          rw [show ya_lineEnd σ w i = _ from (if_pos ⟨⟨by omega, by omega⟩, by omega⟩).trans (if_neg (fun z => by omega))] at k
          exact k _ hf1
        · skip
          refine zw_iload ⟨rfl, rfl⟩ rfl ?_
          refine zw_aload ⟨rfl, rfl⟩ rfl ?_
          refine zw_getIv (v := (ygr σ w).1) ⟨rfl, rfl⟩ zc_208 (by decide) ((hE1 (by omega)).1) ?_
          refine zw_icge ⟨rfl, rfl⟩ rfl (fun c8 => ?_) (fun c8 => ?_)
          · skip
            refine zw_const ⟨rfl, rfl⟩ ?_
            refine zw_ret rfl ?_
            rw [show ya_lineEnd σ w i = _ from (if_pos ⟨⟨by omega, by omega⟩, by omega⟩).trans (if_neg (fun z => by omega))] at k
            exact k _ hf1
          · skip
            have hr := (ygr_r hci.1 (show yfit σ w = 1 by omega)).2.2.2 i (by omega) (by omega)
            have hr2 := ygr_r hci.1 (show yfit σ w = 1 by omega)
            refine zw_aload ⟨rfl, rfl⟩ rfl ?_
            refine zw_getR 212 ⟨rfl, rfl⟩ zr_208_5 ?_
            refine zw_aload ⟨rfl, rfl⟩ rfl ?_
            refine zw_getR 241 ⟨rfl, rfl⟩ zr_208_47 ?_
            refine zw_iload ⟨rfl, rfl⟩ rfl ?_
            refine zw_ialdv (v := (ygr σ w).2.1 i) ⟨rfl, rfl⟩ za_241 (by omega) ((hE1 (by omega)).2 i (by omega) (by omega)) ?_
            refine zw_ialdv (v := yB (yK σ) (((ygr σ w).2.1 i))) ⟨rfl, rfl⟩ za_212 (by omega) ((hG1.2.2.1 (((ygr σ w).2.1 i)) (by omega) (by omega)).1) ?_
            refine zw_goto ⟨rfl, rfl⟩ rfl ?_
            refine zw_ret rfl ?_
            rw [show ya_lineEnd σ w i = _ from (if_pos ⟨⟨by omega, by omega⟩, by omega⟩).trans (if_pos ⟨by omega, by omega⟩)] at k
            exact k _ hf1
      · skip
        refine zw_const ⟨rfl, rfl⟩ ?_
        refine zw_ret rfl ?_
        rw [show ya_lineEnd σ w i = -3 from if_neg (by omega)] at k
        exact k _ ymf_0

theorem d_narrowest_l {n v : Int} {M : zM} {Q : zV → zM → Prop} {σ : yS} (hV : yVal σ) (hM : yMo M σ) (hv : v = ynw σ n) (kk : ∀ P : zM, ymf M P → Q (0, v) P) : ∀ (f0 : Nat) (w : Int) (P : zM), (1 ≤ w ∧ w ≤ 201) → ((yci (yK σ) (σ 0)) ≠ 0 → yfst (fun w => yfit σ w = 1 ∧ (ygr σ w).1 ≤ n) w (201 - w).toNat = v) → (ymf M P) → (201 - w).toNat < f0 → zWp kM_narrowest 13 [(1, 208), (0, n), (0, w)] [] P Q := by
  intro f0
  induction f0 with
  | zero => intro w P i1 i2 iF hf0; exact absurd hf0 (Nat.not_lt_zero _)
  | succ f0 ih =>
    intro w P i1 i2 iF hf0
    have hK := yKr_K hV
    have hn := hV.1
    have hci := yci_60 hK
    refine zw_iload ⟨rfl, rfl⟩ rfl ?_
    refine zw_const ⟨rfl, rfl⟩ ?_
    refine zw_icgt ⟨rfl, rfl⟩ rfl (fun c1 => ?_) (fun c1 => ?_)
    · skip
      refine zw_const ⟨rfl, rfl⟩ ?_
      refine zw_ret rfl ?_
      have e : v = -1 := by
        by_cases z : (yci (yK σ) (σ 0)) = 0
        · rw [hv]; exact if_pos z
        · have i2 := i2 z
          rw [show (201 - w).toNat = 0 by omega] at i2
          exact i2.symm
      rw [e] at kk
      exact kk _ iF
    · skip
      have hfr := yfit_r σ w
      have i4 : (yci (yK σ) (σ 0)) ≠ 0 → (if yfit σ w = 1 ∧ (ygr σ w).1 ≤ n then w else yfst (fun w => yfit σ w = 1 ∧ (ygr σ w).1 ≤ n) (w + 1) (201 - (w + 1)).toNat) = v := fun z => by
        have i2 := i2 z
        rw [show (201 - w).toNat = (201 - (w + 1)).toNat + 1 by omega] at i2
        unfold yfst at i2
        exact i2
      refine zw_aload ⟨rfl, rfl⟩ rfl ?_
      refine zw_iload ⟨rfl, rfl⟩ rfl ?_
      refine zw_callv2 ⟨rfl, rfl⟩ rfl zc_208 rfl ?_
      refine m_Mfills hV (hM.cg (iF.1 209 (Or.inl rfl))) ⟨by omega, by omega⟩ (fun P1 p1 => ?_)
      obtain ⟨hG1, hf0, hE1⟩ := p1
      have hf1 : ymf M P1 := iF.tr hf0
      have hrr : yfit σ w = 1 → 0 ≤ (ygr σ w).1 ∧ (0 < (yci (yK σ) (σ 0)) → 0 < (ygr σ w).1) ∧ (ygr σ w).1 ≤ (yci (yK σ) (σ 0)) := fun z => ⟨(ygr_r hci.1 z).1, (ygr_r hci.1 z).2.2.1, (ygr_r hci.1 z).2.1⟩
      refine zw_ifeq ⟨rfl, rfl⟩ rfl (fun c2 => ?_) (fun c2 => ?_)
      · skip
        refine zw_iinc_2 ⟨rfl, rfl⟩ (by omega) ?_
        refine zw_goto ⟨rfl, rfl⟩ rfl ?_
        refine ih _ _ ⟨by omega, by omega⟩ (fun z => ?_) hf1 (by omega)
        have i4 := i4 z
        rw [if_neg (fun y => by have y1 := y.1; have y2 := y.2; have y3 := hrr y1; omega)] at i4
        exact i4
      · skip
        refine zw_aload ⟨rfl, rfl⟩ rfl ?_
        refine zw_getIv (v := (ygr σ w).1) ⟨rfl, rfl⟩ zc_208 (by decide) ((hE1 (by omega)).1) ?_
        refine zw_ifle ⟨rfl, rfl⟩ rfl (fun c3 => ?_) (fun c3 => ?_)
        · skip
          refine zw_iinc_2 ⟨rfl, rfl⟩ (by omega) ?_
          refine zw_goto ⟨rfl, rfl⟩ rfl ?_
          refine ih _ _ ⟨by omega, by omega⟩ (fun z => ?_) hf1 (by omega)
          have i4 := i4 z
          rw [if_neg (fun y => by have y1 := y.1; have y2 := y.2; have y3 := hrr y1; omega)] at i4
          exact i4
        · skip
          refine zw_aload ⟨rfl, rfl⟩ rfl ?_
          refine zw_getIv (v := (ygr σ w).1) ⟨rfl, rfl⟩ zc_208 (by decide) ((hE1 (by omega)).1) ?_
          refine zw_iload ⟨rfl, rfl⟩ rfl ?_
          refine zw_icgt ⟨rfl, rfl⟩ rfl (fun c4 => ?_) (fun c4 => ?_)
          · skip
            refine zw_iinc_2 ⟨rfl, rfl⟩ (by omega) ?_
            refine zw_goto ⟨rfl, rfl⟩ rfl ?_
            refine ih _ _ ⟨by omega, by omega⟩ (fun z => ?_) hf1 (by omega)
            have i4 := i4 z
            rw [if_neg (fun y => by have y1 := y.1; have y2 := y.2; have y3 := hrr y1; omega)] at i4
            exact i4
          · skip
            refine zw_iload ⟨rfl, rfl⟩ rfl ?_
            refine zw_ret rfl ?_
            have e3 := hrr (by omega)
            have i4 := i4 (by omega)
            rw [if_pos ⟨by omega, by omega⟩] at i4
            rw [i4]
            exact kk _ hf1

theorem d_narrowest {n : Int} {M : zM} {Q : zV → zM → Prop} {σ : yS} (hV : yVal σ) (hM : yMo M σ)  (k : ∀ N : zM, ymf M N → Q (0, ya_narrowest σ n) N) : zWp kM_narrowest 0 [(1, 208), (0, n), (3, 0)] [] M Q := by
  have hK := yKr_K hV
  have hn := hV.1
  have hci := yci_60 hK
  have eyL : (yTk σ (yci (yK σ) (σ 0))).1 = (yLast σ).1 := rfl
  have hgl := yLast_r hV
  refine zw_aload ⟨rfl, rfl⟩ rfl ?_
  refine zw_const ⟨rfl, rfl⟩ ?_
  refine zw_putI ⟨rfl, rfl⟩ zc_208 (by decide) (fun h => absurd h (by decide)) ?_
  refine zw_iload ⟨rfl, rfl⟩ rfl ?_
  refine zw_i2l ⟨rfl, rfl⟩ ?_
  refine zw_lconst ⟨rfl, rfl⟩ ?_
  refine zw_lconst ⟨rfl, rfl⟩ ?_
  refine zw_calLs3 ⟨rfl, rfl⟩ rfl rfl ?_
  refine zw_lload ⟨rfl, rfl⟩ rfl ?_
  refine zw_lload ⟨rfl, rfl⟩ rfl ?_
  refine zw_lcmp ⟨rfl, rfl⟩ ?_
  refine zw_iflt ⟨rfl, rfl⟩ rfl (fun c1 => ?_) (fun c1 => ?_)
  · replace c1 := zlc_lt.mp c1
    refine zw_const ⟨rfl, rfl⟩ ?_
    refine zw_zret rfl (by first | exact Or.inl rfl | exact Or.inr rfl | omega) ?_
    refine zw_ifne ⟨rfl, rfl⟩ rfl (fun q => absurd q (by decide)) (fun _ => ?_)
    refine zw_const ⟨rfl, rfl⟩ ?_
    refine zw_ret rfl ?_
    rw [show ya_narrowest σ n = -3 from if_neg (by omega)] at k
    exact k _ ymf_0
  · replace c1 := (not_congr zlc_lt).mp c1
    refine zw_lload ⟨rfl, rfl⟩ rfl ?_
    refine zw_lload ⟨rfl, rfl⟩ rfl ?_
    refine zw_lcmp ⟨rfl, rfl⟩ ?_
    refine zw_ifgt ⟨rfl, rfl⟩ rfl (fun c3 => ?_) (fun c3 => ?_)
    · replace c3 := zlc_gt.mp c3
      refine zw_const ⟨rfl, rfl⟩ ?_
      refine zw_zret rfl (by first | exact Or.inl rfl | exact Or.inr rfl | omega) ?_
      refine zw_ifne ⟨rfl, rfl⟩ rfl (fun q => absurd q (by decide)) (fun _ => ?_)
      refine zw_const ⟨rfl, rfl⟩ ?_
      refine zw_ret rfl ?_
      rw [show ya_narrowest σ n = -3 from if_neg (by omega)] at k
      exact k _ ymf_0
    · replace c3 := (not_congr zlc_gt).mp c3
      refine zw_const ⟨rfl, rfl⟩ ?_
      refine zw_goto ⟨rfl, rfl⟩ rfl ?_
      refine zw_zret rfl (by first | exact Or.inl rfl | exact Or.inr rfl | omega) ?_
      refine zw_ifne ⟨rfl, rfl⟩ rfl (fun _ => ?_) (fun q => absurd (by decide) q)
      refine zw_const ⟨rfl, rfl⟩ ?_
      refine zw_istore_2 ⟨rfl, rfl⟩ ?_
      rw [show ya_narrowest σ n = ynw σ n from if_pos ⟨by omega, by omega⟩] at k
      exact d_narrowest_l hV (hM.cg (zup_row (by decide))) rfl (fun P p => k P (ymf_0.tr p)) _ _ _ ⟨Int.le_refl _, by decide⟩ (fun z => (if_neg z : ynw σ n = _).symm) ⟨fun _ _ => rfl, fun _ _ => rfl⟩ (Nat.lt_succ_self _)

end