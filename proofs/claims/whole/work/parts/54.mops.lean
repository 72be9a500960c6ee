/-! The model's calls that change -/
theorem zcpy_s {M : zM} {a s b t i : Int} (h0 : 0 ≤ i) (ho : a ≠ b ∨ t ≤ s ∨ s + i < t) : zup (zcpy M a s b t i) b (t + i) (zcpy M a s b t i a (s + i)) = zcpy M a s b t (i + 1) := by
  have e : zcpy M a s b t i a (s + i) = M a (s + i) := if_neg (fun q => by have := q.1; omega)
  rw [e]
  funext x j
  unfold zup zcpy
  by_cases q : x = b ∧ j = t + i
  · rw [if_pos q, if_pos ⟨q.1, by omega, by omega⟩, show s + (j - t) = s + i by omega]
  · rw [if_neg q]
    by_cases q2 : x = b ∧ t ≤ j ∧ j < t + i
    · rw [if_pos q2, if_pos ⟨q2.1, q2.2.1, by omega⟩]
    · rw [if_neg q2, if_neg (fun z => by omega)]
theorem zcpy_0 {M : zM} {a s b t : Int} : zcpy M a s b t 0 = M := by
  funext x j
  exact if_neg (fun q => by omega)
section
set_option maxHeartbeats 4000000
theorem m_copies_l  {a s b t n : Int} {na nb : Nat} {M : zM} {Q : zV → zM → Prop} (ha : zar zS0 a = some (1, na)) (hb : zar zS0 b = some (1, nb)) (hs : 0 ≤ s ∧ 0 ≤ t ∧ 0 ≤ n ∧ s + n ≤ (na : Int) ∧ t + n ≤ (nb : Int)) (hz : (na : Int) ≤ 2000 ∧ (nb : Int) ≤ 2000) (ho : a ≠ b ∨ t ≤ s ∨ s + n ≤ t) (k : Q (3, 0) (zcpy M a s b t n)) : ∀ (f : Nat) (i : Int) (N : zM), (0 ≤ i ∧ i ≤ n) → (N = zcpy M a s b t i) → (n - i).toNat < f → zWp kM_copies 2 [(1, a), (0, s), (1, b), (0, t), (0, n), (0, i)] [] N Q := by
  intro f
  induction f with
  | zero => intro i N i1 i2 hf; exact absurd hf (Nat.not_lt_zero _)
  | succ f ih =>
    intro i N i1 i2 hf
    refine zw_iload ⟨rfl, rfl⟩ rfl ?_
    refine zw_iload ⟨rfl, rfl⟩ rfl ?_
    refine zw_icge ⟨rfl, rfl⟩ rfl (fun c1 => ?_) (fun c1 => ?_)
    · skip
      refine zw_void rfl ?_
      rw [i2, show i = n by omega]
      exact k
    · skip
      refine zw_aload ⟨rfl, rfl⟩ rfl ?_
      refine zw_iload ⟨rfl, rfl⟩ rfl ?_
      refine zw_iload ⟨rfl, rfl⟩ rfl ?_
      refine zw_iadd ⟨rfl, rfl⟩ (by omega) ?_
      refine zw_aload ⟨rfl, rfl⟩ rfl ?_
      refine zw_iload ⟨rfl, rfl⟩ rfl ?_
      refine zw_iload ⟨rfl, rfl⟩ rfl ?_
      refine zw_iadd ⟨rfl, rfl⟩ (by omega) ?_
      refine zw_ialdv (v := N a (s + i)) ⟨rfl, rfl⟩ ha (by omega) rfl ?_
      refine zw_iast ⟨rfl, rfl⟩ hb (by omega) ?_
      refine zw_iinc_5 ⟨rfl, rfl⟩ (by omega) ?_
      refine zw_goto ⟨rfl, rfl⟩ rfl ?_
      refine ih _ _ ⟨by omega, by omega⟩ ?_ (by omega)
      rw [i2]
      exact zcpy_s i1.1 (by omega)

theorem m_copies {a s b t n : Int} {na nb : Nat} {M : zM} {Q : zV → zM → Prop} (ha : zar zS0 a = some (1, na)) (hb : zar zS0 b = some (1, nb)) (hs : 0 ≤ s ∧ 0 ≤ t ∧ 0 ≤ n ∧ s + n ≤ (na : Int) ∧ t + n ≤ (nb : Int)) (hz : (na : Int) ≤ 2000 ∧ (nb : Int) ≤ 2000) (ho : a ≠ b ∨ t ≤ s ∨ s + n ≤ t) (k : Q (3, 0) (zcpy M a s b t n)) : zWp kM_copies 0 [(1, a), (0, s), (1, b), (0, t), (0, n), (3, 0)] [] M Q := by
  refine zw_const ⟨rfl, rfl⟩ ?_
  refine zw_istore_5 ⟨rfl, rfl⟩ ?_
  exact m_copies_l ha hb hs hz ho k _ _ _ ⟨Int.le_refl _, hs.2.2.1⟩ zcpy_0.symm (Nat.lt_succ_self _)

def ynf (M N : zM) : Prop := (∀ x, x ≠ 208 → x ≠ 210 → N x = M x) ∧ ∀ j, j ≠ 3 → N 208 j = M 208 j

theorem m_notes_18 {s : Int} {uh : Int → yS} {σ : yS} {M : zM} {Q : zV → zM → Prop} (hs : M 208 3 = s) (h0 : 0 ≤ s ∧ s ≤ 9) (hM : yMo M σ) (hh : ∀ i, 0 ≤ i → i < s → ∀ j, 0 ≤ j → j < 182 → M 210 (182 * i + j) = uh i j) (k : ∀ N : zM, (yMo N σ ∧ yMH N (s + 1) (fun i => if i = s then σ else uh i) ∧ ynf M N) → Q (3, 0) N) : zWp kM_notes 18 [(1, 208)] [] M Q := by
  refine zw_aload ⟨rfl, rfl⟩ rfl ?_
  refine zw_getR 209 ⟨rfl, rfl⟩ zr_208_1 ?_
  refine zw_const ⟨rfl, rfl⟩ ?_
  refine zw_aload ⟨rfl, rfl⟩ rfl ?_
  refine zw_getR 210 ⟨rfl, rfl⟩ zr_208_2 ?_
  refine zw_const ⟨rfl, rfl⟩ ?_
  refine zw_aload ⟨rfl, rfl⟩ rfl ?_
  refine zw_getIv (v := s) ⟨rfl, rfl⟩ zc_208 (by decide) (hs) ?_
  refine zw_imul ⟨rfl, rfl⟩ (by omega) ?_
  refine zw_const ⟨rfl, rfl⟩ ?_
  refine zw_cavs5 ⟨rfl, rfl⟩ rfl rfl ?_
  refine m_copies (na := 546) (nb := 1820) za_209 za_210 ⟨by omega, by omega, by omega, by omega, by omega⟩ ⟨by decide, by decide⟩ (by omega) ?_
  refine zw_aload ⟨rfl, rfl⟩ rfl ?_
  refine zw_dup ⟨rfl, rfl⟩ (by decide) ?_
  refine zw_getIv (v := s) ⟨rfl, rfl⟩ zc_208 (by decide) ((zcpy_na (by decide)).trans (hs)) ?_
  refine zw_const ⟨rfl, rfl⟩ ?_
  refine zw_iadd ⟨rfl, rfl⟩ (by omega) ?_
  refine zw_putI ⟨rfl, rfl⟩ zc_208 (by decide) (fun h => absurd h (by decide)) ?_
  refine zw_void rfl ?_
  refine k _ ⟨hM.cg ((zup_row (by decide)).trans (zcpy_row (by decide))), ⟨zup_eq _ _ _ _, fun i i1 i2 j j1 j2 => ?_⟩, fun x x1 x2 => (zup_row x1).trans (zcpy_row x2), fun j hj => (zup_ni hj).trans (zcpy_na (by decide))⟩
  rw [zup_na (by decide)]
  unfold zcpy
  by_cases q : i = s
  · dsimp only
    rw [if_pos ⟨rfl, by omega, by omega⟩, if_pos q, show (0 : Int) + (182 * i + j - 182 * s) = j by omega]
    exact hM j j1 j2
  · dsimp only
    rw [if_neg (by omega), if_neg q]
    exact hh i i1 (by omega) j j1 j2

theorem m_notes {un : Int} {uh : Int → yS} {σ : yS} {M : zM} {Q : zV → zM → Prop} (hV : yVal σ) (hu : 0 ≤ un ∧ un ≤ 10) (hM : yMo M σ) (hH : yMH M un uh) (k : ∀ N : zM, (yMo N σ ∧ yMH N (ypn un) (yph un uh σ) ∧ ynf M N) → Q (3, 0) N) : zWp kM_notes 0 [(1, 208)] [] M Q := by
  refine zw_aload ⟨rfl, rfl⟩ rfl ?_
  refine zw_getIv (v := un) ⟨rfl, rfl⟩ zc_208 (by decide) (hH.1) ?_
  refine zw_const ⟨rfl, rfl⟩ ?_
  refine zw_icne ⟨rfl, rfl⟩ rfl (fun c1 => ?_) (fun c1 => ?_)
  · skip
    refine m_notes_18 (s := un) (uh := uh) hH.1 (by omega) hM hH.2 (fun N p => k N ⟨p.1, ?_, p.2.2⟩)
    have e1 : ypn un = un + 1 := if_neg (by omega)
    have e2 : yph un uh σ = fun i => if i = un then σ else uh i := by unfold yph; funext i; rw [if_neg (by omega)]
    rw [e1, e2]
    exact p.2.1
  · skip
    refine zw_aload ⟨rfl, rfl⟩ rfl ?_
    refine zw_getR 210 ⟨rfl, rfl⟩ zr_208_2 ?_
    refine zw_const ⟨rfl, rfl⟩ ?_
    refine zw_aload ⟨rfl, rfl⟩ rfl ?_
    refine zw_getR 210 ⟨rfl, rfl⟩ zr_208_2 ?_
    refine zw_const ⟨rfl, rfl⟩ ?_
    refine zw_const ⟨rfl, rfl⟩ ?_
    refine zw_cavs5 ⟨rfl, rfl⟩ rfl rfl ?_
    refine m_copies (na := 1820) (nb := 1820) za_210 za_210 ⟨by omega, by omega, by omega, by omega, by omega⟩ ⟨by decide, by decide⟩ (by omega) ?_
    refine zw_aload ⟨rfl, rfl⟩ rfl ?_
    refine zw_dup ⟨rfl, rfl⟩ (by decide) ?_
    refine zw_getIv (v := un) ⟨rfl, rfl⟩ zc_208 (by decide) ((zcpy_na (by decide)).trans (hH.1)) ?_
    refine zw_const ⟨rfl, rfl⟩ ?_
    refine zw_isub ⟨rfl, rfl⟩ (by omega) ?_
    refine zw_putI ⟨rfl, rfl⟩ zc_208 (by decide) (fun h => absurd h (by decide)) ?_
    refine m_notes_18 (s := 9) (uh := fun i => uh (i + 1)) (by rw [zup_eq]; omega) ⟨by decide, by decide⟩ (hM.cg ((zup_row (by decide)).trans (zcpy_row (by decide)))) ?_ (fun N p => k N ⟨p.1, ?_, fun x x1 x2 => (p.2.2.1 x x1 x2).trans ((zup_row x1).trans (zcpy_row x2)), fun j hj => (p.2.2.2 j hj).trans ((zup_ni hj).trans (zcpy_na (by decide)))⟩)
    · intro i i1 i2 j j1 j2
      rw [zup_na (by decide)]
      unfold zcpy
      rw [if_pos ⟨rfl, by omega, by omega⟩, show (182 : Int) + (182 * i + j - 0) = 182 * (i + 1) + j by omega]
      exact hH.2 (i + 1) (by omega) (by omega) j j1 j2
    · have e1 : ypn un = 10 := if_pos (by omega)
      have e2 : yph un uh σ = fun i => if i = 9 then σ else uh (i + 1) := by unfold yph; funext i; rw [if_pos (by omega)]
      rw [e1, e2]
      exact p.2.1

theorem yph_V {un : Int} {uh : Int → yS} {σ : yS} (hu : (0 ≤ un ∧ un ≤ 10) ∧ ∀ i, 0 ≤ i → i < un → yVal (uh i)) (hV : yVal σ) : (0 ≤ ypn un ∧ ypn un ≤ 10) ∧ ∀ i, 0 ≤ i → i < ypn un → yVal (yph un uh σ i) := by
  unfold ypn
  refine ⟨by split <;> omega, fun i i1 i2 => ?_⟩
  unfold yph
  by_cases c : 10 ≤ un
  · rw [if_pos c] at i2 ⊢
    by_cases q : i = 9
    · rw [if_pos q]; exact hV
    · rw [if_neg q]; exact hu.2 _ (by omega) (by omega)
  · rw [if_neg c] at i2 ⊢
    by_cases q : i = un
    · rw [if_pos q]; exact hV
    · rw [if_neg q]; exact hu.2 _ (by omega) (by omega)
theorem yMW_new {M N : zM} {σ : yS} {un : Int} {uh : Int → yS} {mk : Int → Int} {im : Int → yS} {tn : Int} {tp : Int → Int} {ff fp : Int} {τ : yS} {un' : Int} {uh' : Int → yS} {tn' ff' fp' : Int} (hC : yMW M σ un uh mk im tn tp ff fp) (hV : yVal τ) (hM : yMo N τ) (hH : yMH N un' uh') (hU : (0 ≤ un' ∧ un' ≤ 10) ∧ ∀ i, 0 ≤ i → i < un' → yVal (uh' i)) (e : ∀ x, x < 208 ∨ x = 211 ∨ x = 236 ∨ x = 238 → N x = M x) (e9 : ∀ j, 182 ≤ j → N 209 j = M 209 j) (t : N 208 35 = tn' ∧ 0 ≤ tn' ∧ tn' ≤ tn) (fs : N 208 38 = ff' ∧ N 208 39 = fp') : yMW N τ un' uh' mk im tn' tp ff' fp' ∧ ∀ x, x < 208 → N x = M x := by
  obtain ⟨hW, hM0, hH0, hI, hT, hF, hWd⟩ := hC
  refine ⟨⟨⟨hV, hU, hW.2.2.1, ⟨t.2.1, Int.le_trans t.2.2 hW.2.2.2.1.2⟩, fun k k1 k2 => hW.2.2.2.2 k k1 (Int.lt_of_lt_of_le k2 t.2.2)⟩, hM, hH, fun i hi => ?_, ⟨t.1, fun k k1 k2 => ?_⟩, fs, fun k k1 k2 => ?_⟩, fun x hx => e x (Or.inl hx)⟩
  · rw [e 211 (by omega)]
    exact ⟨(hI i hi).1, fun m j j1 j2 => (e9 _ (by omega)).trans ((hI i hi).2 m j j1 j2)⟩
  · rw [e 236 (by omega)]; exact hT.2 k k1 (Int.lt_of_lt_of_le k2 t.2.2)
  · rw [e 238 (by omega)]; exact hWd k k1 k2

theorem yGo_M {M : zM} {σ : yS} {a n : Int} (hV : yVal σ) (hM : yMo M σ) (ha : 0 ≤ a ∧ 0 ≤ n ∧ a + n ≤ σ 0) : yMo (zup (zcpy M 209 (122 + a + n) 209 (122 + a) (σ 0 - n - a)) 209 0 (σ 0 - n)) (yGo σ a n) ∧ (∀ x, x ≠ 209 → (zup (zcpy M 209 (122 + a + n) 209 (122 + a) (σ 0 - n - a)) 209 0 (σ 0 - n)) x = M x) ∧ ∀ j, 182 ≤ j → (zup (zcpy M 209 (122 + a + n) 209 (122 + a) (σ 0 - n - a)) 209 0 (σ 0 - n)) 209 j = M 209 j := by
  have hn := hV.1
  refine ⟨fun j j1 j2 => ?_, fun x hx => (zup_row hx).trans (zcpy_row hx), fun j hj => ?_⟩
  · by_cases q : j = 0
    · subst q; rw [zup_eq]; exact (if_pos rfl).symm
    · rw [zup_ni q]
      unfold zcpy yGo
      rw [if_neg q]
      by_cases c : 122 + a ≤ j ∧ j < 122 + σ 0 - n
      · rw [if_pos ⟨rfl, c.1, by omega⟩, if_pos c, show 122 + a + n + (j - (122 + a)) = j + n by omega]
        exact hM _ (by omega) (by omega)
      · rw [if_neg (by omega), if_neg c]
        exact hM j j1 j2
  · rw [zup_ni (by omega)]
    exact if_neg (fun q => by omega)

theorem m_goes_l {a n : Int} {σ : yS} {M : zM} {Q : zV → zM → Prop} (hV : yVal σ) (hM : yMo M σ) (ha : 0 ≤ a ∧ 0 ≤ n ∧ a + n ≤ σ 0) (k : Q (3, 0) (zup (zcpy M 209 (122 + a + n) 209 (122 + a) (σ 0 - n - a)) 209 0 (σ 0 - n))) : ∀ (f0 : Nat) (q : Int) (N : zM), (a ≤ q ∧ q ≤ σ 0 - n) → (N = zcpy M 209 (122 + a + n) 209 (122 + a) (q - a)) → (σ 0 - q).toNat < f0 → zWp kM_goes 2 [(1, 208), (0, a), (0, n), (0, q)] [] N Q := by
  intro f0
  induction f0 with
  | zero => intro q N i1 i2 hf0; exact absurd hf0 (Nat.not_lt_zero _)
  | succ f0 ih =>
    intro q N i1 i2 hf0
    have hn := hV.1
    have e0 : N 209 0 = σ 0 := by rw [i2]; exact (if_neg (fun z => by omega)).trans (hM 0 (by decide) (by decide))
    refine zw_iload ⟨rfl, rfl⟩ rfl ?_
    refine zw_iload ⟨rfl, rfl⟩ rfl ?_
    refine zw_iadd ⟨rfl, rfl⟩ (by omega) ?_
    refine zw_aload ⟨rfl, rfl⟩ rfl ?_
    refine zw_callv1 ⟨rfl, rfl⟩ rfl zc_208 rfl ?_
    refine zw_aload ⟨rfl, rfl⟩ rfl ?_
    refine zw_getR 209 ⟨rfl, rfl⟩ zr_208_1 ?_
    refine zw_const ⟨rfl, rfl⟩ ?_
    refine zw_ialdv (v := σ 0) ⟨rfl, rfl⟩ za_209 (by omega) (e0) ?_
    refine zw_ret rfl ?_
    refine zw_icge ⟨rfl, rfl⟩ rfl (fun c1 => ?_) (fun c1 => ?_)
    · skip
      refine zw_aload ⟨rfl, rfl⟩ rfl ?_
      refine zw_getR 209 ⟨rfl, rfl⟩ zr_208_1 ?_
      refine zw_const ⟨rfl, rfl⟩ ?_
      refine zw_dup2 ⟨rfl, rfl⟩ ⟨by decide, by decide⟩ ?_
      refine zw_ialdv (v := σ 0) ⟨rfl, rfl⟩ za_209 (by omega) (e0) ?_
      refine zw_iload ⟨rfl, rfl⟩ rfl ?_
      refine zw_isub ⟨rfl, rfl⟩ (by omega) ?_
      refine zw_iast ⟨rfl, rfl⟩ za_209 (by omega) ?_
      refine zw_void rfl ?_
      rw [i2, show q - a = σ 0 - n - a by omega]
      exact k
    · skip
      refine zw_aload ⟨rfl, rfl⟩ rfl ?_
      refine zw_getR 209 ⟨rfl, rfl⟩ zr_208_1 ?_
      refine zw_const ⟨rfl, rfl⟩ ?_
      refine zw_iload ⟨rfl, rfl⟩ rfl ?_
      refine zw_iadd ⟨rfl, rfl⟩ (by omega) ?_
      refine zw_aload ⟨rfl, rfl⟩ rfl ?_
      refine zw_getR 209 ⟨rfl, rfl⟩ zr_208_1 ?_
      refine zw_const ⟨rfl, rfl⟩ ?_
      refine zw_iload ⟨rfl, rfl⟩ rfl ?_
      refine zw_iadd ⟨rfl, rfl⟩ (by omega) ?_
      refine zw_iload ⟨rfl, rfl⟩ rfl ?_
      refine zw_iadd ⟨rfl, rfl⟩ (by omega) ?_
      refine zw_ialdv (v := N 209 ((122 + q) + n)) ⟨rfl, rfl⟩ za_209 (by omega) rfl ?_
      refine zw_iast ⟨rfl, rfl⟩ za_209 (by omega) ?_
      refine zw_iinc_3 ⟨rfl, rfl⟩ (by omega) ?_
      refine zw_goto ⟨rfl, rfl⟩ rfl ?_
      refine ih _ _ ⟨by omega, by omega⟩ ?_ (by omega)
      rw [show 122 + q + n = 122 + a + n + (q - a) by omega, show 122 + q = 122 + a + (q - a) by omega, show q + 1 - a = (q - a) + 1 by omega, i2]
      exact zcpy_s (by omega) (Or.inr (Or.inl (by omega)))

theorem m_goes {a n : Int} {σ : yS} {M : zM} {Q : zV → zM → Prop} (hV : yVal σ) (hM : yMo M σ) (ha : 0 ≤ a ∧ 0 ≤ n ∧ a + n ≤ σ 0) (k : Q (3, 0) (zup (zcpy M 209 (122 + a + n) 209 (122 + a) (σ 0 - n - a)) 209 0 (σ 0 - n))) : zWp kM_goes 0 [(1, 208), (0, a), (0, n), (3, 0)] [] M Q := by
  refine zw_iload ⟨rfl, rfl⟩ rfl ?_
  refine zw_istore_3 ⟨rfl, rfl⟩ ?_
  exact m_goes_l hV hM ha k _ _ _ ⟨Int.le_refl _, by omega⟩ (by rw [Int.sub_self]; exact zcpy_0.symm) (Nat.lt_succ_self _)

theorem d_backspace {a : Int} {M : zM} {Q : zV → zM → Prop} {σ : yS} {un : Int} {uh : Int → yS} {mk : Int → Int} {im : Int → yS} {tn : Int} {tp : Int → Int} {ff fp : Int} (hC : yMW M σ un uh mk im tn tp ff fp) (k : ∀ N : zM, yMw N (yo_backspace σ un uh mk im tn tp ff fp a).2 → (∀ x, x < 208 → N x = M x) → Q (0, (yo_backspace σ un uh mk im tn tp ff fp a).1) N) : zWp kM_backspace 0 [(1, 208), (0, a), (3, 0)] [] M Q := by
  obtain ⟨hW, hM, hH, hI, hT, hF, hWd⟩ := id hC
  obtain ⟨-, hM0, hH0, hI0, hT0, -⟩ := hC.mf (ymf_0 (v := 0))
  have hV := hW.1
  have hn := hV.1
  have hu := hW.2.1.1
  have htn := hW.2.2.2.1
  refine zw_aload ⟨rfl, rfl⟩ rfl ?_
  refine zw_const ⟨rfl, rfl⟩ ?_
  refine zw_putI ⟨rfl, rfl⟩ zc_208 (by decide) (fun h => absurd h (by decide)) ?_
  refine zw_iload ⟨rfl, rfl⟩ rfl ?_
  refine zw_i2l ⟨rfl, rfl⟩ ?_
  refine zw_lconst ⟨rfl, rfl⟩ ?_
  refine zw_aload ⟨rfl, rfl⟩ rfl ?_
  refine zw_callv1 ⟨rfl, rfl⟩ rfl zc_208 rfl ?_
  refine m_Mmany hV hM0 ?_
  refine zw_i2l ⟨rfl, rfl⟩ ?_
  refine zw_calLs3 ⟨rfl, rfl⟩ rfl rfl ?_
  refine zw_lload ⟨rfl, rfl⟩ rfl ?_
  refine zw_lload ⟨rfl, rfl⟩ rfl ?_
  refine zw_lcmp ⟨rfl, rfl⟩ ?_
  refine zw_iflt ⟨rfl, rfl⟩ rfl (fun c1 => ?_) (fun c1 => ?_)
  · replace c1 := zlc_lt.mp c1
    refine zw_const ⟨rfl, rfl⟩ ?_
    refine zw_zret rfl (by first | exact Or.inl rfl | exact Or.inr rfl | omega) ?_
    refine zw_ifne ⟨rfl, rfl⟩ rfl (fun q => absurd q (by decide)) (fun _ => ?_)
    refine zw_const ⟨rfl, rfl⟩ ?_
    refine zw_ret rfl ?_
    have e : yo_backspace σ un uh mk im tn tp ff fp a = ((-5), σ, un, uh, mk, im, tn, tp, ff, fp) := by unfold yo_backspace; (repeat' split) <;> first | rfl | (exfalso; omega)
    rw [e] at k
    exact k _ (hC.mf ymf_0) (fun x hx => zup_row (by omega))
  · replace c1 := (not_congr zlc_lt).mp c1
    refine zw_lload ⟨rfl, rfl⟩ rfl ?_
    refine zw_lload ⟨rfl, rfl⟩ rfl ?_
    refine zw_lcmp ⟨rfl, rfl⟩ ?_
    refine zw_ifgt ⟨rfl, rfl⟩ rfl (fun c3 => ?_) (fun c3 => ?_)
    · replace c3 := zlc_gt.mp c3
      refine zw_const ⟨rfl, rfl⟩ ?_
      refine zw_zret rfl (by first | exact Or.inl rfl | exact Or.inr rfl | omega) ?_
      refine zw_ifne ⟨rfl, rfl⟩ rfl (fun q => absurd q (by decide)) (fun _ => ?_)
      refine zw_const ⟨rfl, rfl⟩ ?_
      refine zw_ret rfl ?_
      have e : yo_backspace σ un uh mk im tn tp ff fp a = ((-5), σ, un, uh, mk, im, tn, tp, ff, fp) := by unfold yo_backspace; (repeat' split) <;> first | rfl | (exfalso; omega)
      rw [e] at k
      exact k _ (hC.mf ymf_0) (fun x hx => zup_row (by omega))
    · replace c3 := (not_congr zlc_gt).mp c3
      refine zw_const ⟨rfl, rfl⟩ ?_
      refine zw_goto ⟨rfl, rfl⟩ rfl ?_
      refine zw_zret rfl (by first | exact Or.inl rfl | exact Or.inr rfl | omega) ?_
      refine zw_ifne ⟨rfl, rfl⟩ rfl (fun _ => ?_) (fun q => absurd (by decide) q)
      refine zw_aload ⟨rfl, rfl⟩ rfl ?_
      refine zw_cavv1 ⟨rfl, rfl⟩ rfl zc_208 rfl ?_
      refine m_notes hV hu hM0 hH0 (fun N1 p1 => ?_)
      obtain ⟨hM1, hH1, hr1⟩ := p1
      have er : ∀ x, x < 208 ∨ x = 211 ∨ x = 236 ∨ x = 238 → N1 x = M x := fun x hx => (hr1.1 x (by omega) (by omega)).trans (zup_row (by omega))
      have e9 : ∀ j, 182 ≤ j → N1 209 j = M 209 j := fun j _ => by rw [hr1.1 209 (by decide) (by decide), zup_row (by decide)]
      have q35 : N1 208 35 = tn := (hr1.2 35 (by decide)).trans ((zup_ni (by decide)).trans hT.1)
      have q38 : N1 208 38 = ff := (hr1.2 38 (by decide)).trans ((zup_ni (by decide)).trans hF.1)
      have q39 : N1 208 39 = fp := (hr1.2 39 (by decide)).trans ((zup_ni (by decide)).trans hF.2)
      refine zw_aload ⟨rfl, rfl⟩ rfl ?_
      refine zw_iload ⟨rfl, rfl⟩ rfl ?_
      refine zw_const ⟨rfl, rfl⟩ ?_
      refine zw_isub ⟨rfl, rfl⟩ (by omega) ?_
      refine zw_callv2 ⟨rfl, rfl⟩ rfl zc_208 rfl ?_
      refine m_MletterAt hV hM1 ⟨by omega, by omega⟩ ?_
      refine zw_istore_2 ⟨rfl, rfl⟩ ?_
      refine zw_aload ⟨rfl, rfl⟩ rfl ?_
      refine zw_iload ⟨rfl, rfl⟩ rfl ?_
      refine zw_const ⟨rfl, rfl⟩ ?_
      refine zw_isub ⟨rfl, rfl⟩ (by omega) ?_
      refine zw_const ⟨rfl, rfl⟩ ?_
      refine zw_cavv3 ⟨rfl, rfl⟩ rfl zc_208 rfl ?_
      have ha : 0 ≤ (a - 1) ∧ (0 : Int) ≤ 1 ∧ (a - 1) + 1 ≤ σ 0 := by omega
      obtain ⟨g1, g2, g3⟩ := yGo_M hV hM1 ha
      refine m_goes hV hM1 ha ?_
      generalize hE : (zup (zcpy N1 209 (122 + (a - 1) + 1) 209 (122 + (a - 1)) (σ 0 - 1 - (a - 1))) 209 0 (σ 0 - 1)) = E at g1 g2 g3 ⊢
      refine zw_iload ⟨rfl, rfl⟩ rfl ?_
      refine zw_ret rfl ?_
      obtain ⟨w1, w2⟩ := yMW_new hC (yGo_V hV (by omega)) g1 ⟨by rw [g2 208 (by decide)]; exact hH1.1, fun i i1 i2 j j1 j2 => by rw [g2 210 (by decide)]; exact hH1.2 i i1 i2 j j1 j2⟩ (yph_V hW.2.1 hV) (fun x hx => (g2 x (by omega)).trans (er x (by omega))) (fun j hj => (g3 j hj).trans (e9 j hj)) (tn' := tn) (ff' := ff) (fp' := fp) ⟨by rw [g2 208 (by decide)]; exact q35, by omega, by omega⟩ ⟨by rw [g2 208 (by decide)]; exact q38, by rw [g2 208 (by decide)]; exact q39⟩
      have e : yo_backspace σ un uh mk im tn tp ff fp a = (yL σ (a - 1), yGo σ (a - 1) 1, ypn un, yph un uh σ, mk, im, tn, tp, ff, fp) := by unfold yo_backspace; (repeat' split) <;> first | rfl | (exfalso; omega)
      rw [e] at k
      exact k _ (w1) (w2)

theorem zcpy_b {M : zM} {a q n : Int} (h : a < q ∧ q ≤ n) : zup (zcpy M 209 (122 + q) 209 (123 + q) (n - q)) 209 (122 + q) (zcpy M 209 (122 + q) 209 (123 + q) (n - q) 209 (122 + q - 1)) = zcpy M 209 (122 + (q + -1)) 209 (123 + (q + -1)) (n - (q + -1)) := by
  have e : zcpy M 209 (122 + q) 209 (123 + q) (n - q) 209 (122 + q - 1) = M 209 (122 + q - 1) := if_neg (fun z => by omega)
  rw [e]
  funext x j
  unfold zup zcpy
  by_cases q1 : x = 209 ∧ j = 122 + q
  · rw [if_pos q1, if_pos ⟨q1.1, by omega, by omega⟩, show 122 + (q + -1) + (j - (123 + (q + -1))) = 122 + q - 1 by omega]
  · rw [if_neg q1]
    by_cases q2 : x = 209 ∧ 123 + q ≤ j ∧ j < 123 + q + (n - q)
    · rw [if_pos q2, if_pos ⟨q2.1, by omega, by omega⟩, show 122 + (q + -1) + (j - (123 + (q + -1))) = 122 + q + (j - (123 + q)) by omega]
    · rw [if_neg q2, if_neg (fun z => by omega)]
theorem yIns_M {M : zM} {σ : yS} {a l : Int} (hV : yVal σ) (hM : yMo M σ) (ha : 0 ≤ a ∧ a ≤ σ 0 ∧ σ 0 < 60) : yMo (zup (zup (zcpy M 209 (122 + a) 209 (123 + a) (σ 0 - a)) 209 (122 + a) l) 209 0 (σ 0 + 1)) (yIns σ a l) ∧ (∀ x, x ≠ 209 → (zup (zup (zcpy M 209 (122 + a) 209 (123 + a) (σ 0 - a)) 209 (122 + a) l) 209 0 (σ 0 + 1)) x = M x) ∧ ∀ j, 182 ≤ j → (zup (zup (zcpy M 209 (122 + a) 209 (123 + a) (σ 0 - a)) 209 (122 + a) l) 209 0 (σ 0 + 1)) 209 j = M 209 j := by
  have hn := hV.1
  refine ⟨fun j j1 j2 => ?_, fun x hx => (zup_row hx).trans ((zup_row hx).trans (zcpy_row hx)), fun j hj => ?_⟩
  · by_cases q : j = 0
    · subst q; rw [zup_eq]; exact (if_pos rfl).symm
    · rw [zup_ni q]
      unfold yIns
      rw [if_neg q]
      by_cases c : 122 + a < j ∧ j ≤ 122 + σ 0
      · rw [if_pos c, zup_ni (by omega)]
        unfold zcpy
        rw [if_pos ⟨rfl, by omega, by omega⟩, show 122 + a + (j - (123 + a)) = j - 1 by omega]
        exact hM _ (by omega) (by omega)
      · rw [if_neg c]
        by_cases c2 : j = 122 + a
        · rw [if_pos c2, c2, zup_eq]
        · rw [if_neg c2, zup_ni c2]
          unfold zcpy
          rw [if_neg (by omega)]
          exact hM j j1 j2
  · rw [zup_ni (by omega), zup_ni (by omega)]
    exact if_neg (fun q => by omega)

theorem m_ins_l {a l : Int} {σ : yS} {M : zM} {Q : zV → zM → Prop} (hV : yVal σ) (hM : yMo M σ) (ha : 0 ≤ a ∧ a ≤ σ 0 ∧ σ 0 < 60) (k : Q (0, σ 0 + 1) (zup (zup (zcpy M 209 (122 + a) 209 (123 + a) (σ 0 - a)) 209 (122 + a) l) 209 0 (σ 0 + 1))) : ∀ (f0 : Nat) (q : Int) (N : zM), (a ≤ q ∧ q ≤ σ 0) → (N = zcpy M 209 (122 + q) 209 (123 + q) (σ 0 - q)) → (q - a).toNat < f0 → zWp kM_insert 29 [(1, 208), (0, a), (0, l), (0, q)] [] N Q := by
  intro f0
  induction f0 with
  | zero => intro q N i1 i2 hf0; exact absurd hf0 (Nat.not_lt_zero _)
  | succ f0 ih =>
    intro q N i1 i2 hf0
    have hn := hV.1
    have e0 : N 209 0 = σ 0 := by rw [i2]; exact (if_neg (fun z => by omega)).trans (hM 0 (by decide) (by decide))
    refine zw_iload ⟨rfl, rfl⟩ rfl ?_
    refine zw_iload ⟨rfl, rfl⟩ rfl ?_
    refine zw_icle ⟨rfl, rfl⟩ rfl (fun c1 => ?_) (fun c1 => ?_)
    · skip
      have e1 : zup N 209 (122 + a) l 209 0 = σ 0 := by rw [zup_ni (by omega)]; exact e0
      refine zw_aload ⟨rfl, rfl⟩ rfl ?_
      refine zw_getR 209 ⟨rfl, rfl⟩ zr_208_1 ?_
      refine zw_const ⟨rfl, rfl⟩ ?_
      refine zw_iload ⟨rfl, rfl⟩ rfl ?_
      refine zw_iadd ⟨rfl, rfl⟩ (by omega) ?_
      refine zw_iload ⟨rfl, rfl⟩ rfl ?_
      refine zw_iast ⟨rfl, rfl⟩ za_209 (by omega) ?_
      refine zw_aload ⟨rfl, rfl⟩ rfl ?_
      refine zw_getR 209 ⟨rfl, rfl⟩ zr_208_1 ?_
      refine zw_const ⟨rfl, rfl⟩ ?_
      refine zw_dup2 ⟨rfl, rfl⟩ ⟨by decide, by decide⟩ ?_
      refine zw_iald ⟨rfl, rfl⟩ za_209 (by omega) ?_
      refine zw_const ⟨rfl, rfl⟩ ?_
      refine zw_iadd ⟨rfl, rfl⟩ (by omega) ?_
      refine zw_iast ⟨rfl, rfl⟩ za_209 (by omega) ?_
      refine zw_aload ⟨rfl, rfl⟩ rfl ?_
      refine zw_callv1 ⟨rfl, rfl⟩ rfl zc_208 rfl ?_
      refine zw_aload ⟨rfl, rfl⟩ rfl ?_
      refine zw_getR 209 ⟨rfl, rfl⟩ zr_208_1 ?_
      refine zw_const ⟨rfl, rfl⟩ ?_
      refine zw_ialdv (v := ((zup N 209 (122 + a) l) 209 0) + 1) ⟨rfl, rfl⟩ za_209 (by omega) (zup_eq _ _ _ _) ?_
      refine zw_ret rfl ?_
      refine zw_ret rfl ?_
      have e : q = a := by omega
      subst e
      have e2 : zup N 209 (122 + q) l 209 0 = σ 0 := by rw [zup_ni (by omega)]; exact e0
      rw [e2, i2]
      exact k
    · skip
      refine zw_aload ⟨rfl, rfl⟩ rfl ?_
      refine zw_getR 209 ⟨rfl, rfl⟩ zr_208_1 ?_
      refine zw_const ⟨rfl, rfl⟩ ?_
      refine zw_iload ⟨rfl, rfl⟩ rfl ?_
      refine zw_iadd ⟨rfl, rfl⟩ (by omega) ?_
      refine zw_aload ⟨rfl, rfl⟩ rfl ?_
      refine zw_getR 209 ⟨rfl, rfl⟩ zr_208_1 ?_
      refine zw_const ⟨rfl, rfl⟩ ?_
      refine zw_iload ⟨rfl, rfl⟩ rfl ?_
      refine zw_iadd ⟨rfl, rfl⟩ (by omega) ?_
      refine zw_const ⟨rfl, rfl⟩ ?_
      refine zw_isub ⟨rfl, rfl⟩ (by omega) ?_
      refine zw_ialdv (v := N 209 ((122 + q) - 1)) ⟨rfl, rfl⟩ za_209 (by omega) rfl ?_
      refine zw_iast ⟨rfl, rfl⟩ za_209 (by omega) ?_
      refine zw_iinc_3 ⟨rfl, rfl⟩ (by omega) ?_
      refine zw_goto ⟨rfl, rfl⟩ rfl ?_
      refine ih _ _ ⟨by omega, by omega⟩ ?_ (by omega)
      rw [i2]
      exact zcpy_b (a := a) (n := σ 0) ⟨by omega, i1.2⟩

theorem d_insert {a l : Int} {M : zM} {Q : zV → zM → Prop} {σ : yS} {un : Int} {uh : Int → yS} {mk : Int → Int} {im : Int → yS} {tn : Int} {tp : Int → Int} {ff fp : Int} (hC : yMW M σ un uh mk im tn tp ff fp) (k : ∀ N : zM, yMw N (yo_insert σ un uh mk im tn tp ff fp a l).2 → (∀ x, x < 208 → N x = M x) → Q (0, (yo_insert σ un uh mk im tn tp ff fp a l).1) N) : zWp kM_insert 0 [(1, 208), (0, a), (0, l), (3, 0)] [] M Q := by
  obtain ⟨hW, hM, hH, hI, hT, hF, hWd⟩ := id hC
  obtain ⟨-, hM0, hH0, hI0, hT0, -⟩ := hC.mf (ymf_0 (v := 0))
  have hV := hW.1
  have hn := hV.1
  have hu := hW.2.1.1
  have htn := hW.2.2.2.1
  refine zw_aload ⟨rfl, rfl⟩ rfl ?_
  refine zw_const ⟨rfl, rfl⟩ ?_
  refine zw_putI ⟨rfl, rfl⟩ zc_208 (by decide) (fun h => absurd h (by decide)) ?_
  refine zw_iload ⟨rfl, rfl⟩ rfl ?_
  refine zw_calls1 ⟨rfl, rfl⟩ rfl rfl ?_
  refine zw_iload ⟨rfl, rfl⟩ rfl ?_
  refine zw_i2l ⟨rfl, rfl⟩ ?_
  refine zw_lconst ⟨rfl, rfl⟩ ?_
  refine zw_lconst ⟨rfl, rfl⟩ ?_
  refine zw_calLs3 ⟨rfl, rfl⟩ rfl rfl ?_
  refine zw_lload ⟨rfl, rfl⟩ rfl ?_
  refine zw_lload ⟨rfl, rfl⟩ rfl ?_
  refine zw_lcmp ⟨rfl, rfl⟩ ?_
  refine zw_iflt ⟨rfl, rfl⟩ rfl (fun c1 => ?_) (fun c1 => ?_)
  · replace c1 := zlc_lt.mp c1
    refine zw_const ⟨rfl, rfl⟩ ?_
    refine zw_zret rfl (by first | exact Or.inl rfl | exact Or.inr rfl | omega) ?_
    refine zw_zret rfl (by first | exact Or.inl rfl | exact Or.inr rfl | omega) ?_
    refine zw_ifne ⟨rfl, rfl⟩ rfl (fun q => absurd q (by decide)) (fun _ => ?_)
    refine zw_const ⟨rfl, rfl⟩ ?_
    refine zw_ret rfl ?_
    have e : yo_insert σ un uh mk im tn tp ff fp a l = ((-3), σ, un, uh, mk, im, tn, tp, ff, fp) := by unfold yo_insert; (repeat' split) <;> first | rfl | (exfalso; omega)
    rw [e] at k
    exact k _ (hC.mf ymf_0) (fun x hx => zup_row (by omega))
  · replace c1 := (not_congr zlc_lt).mp c1
    refine zw_lload ⟨rfl, rfl⟩ rfl ?_
    refine zw_lload ⟨rfl, rfl⟩ rfl ?_
    refine zw_lcmp ⟨rfl, rfl⟩ ?_
    refine zw_ifgt ⟨rfl, rfl⟩ rfl (fun c3 => ?_) (fun c3 => ?_)
    · replace c3 := zlc_gt.mp c3
      refine zw_const ⟨rfl, rfl⟩ ?_
      refine zw_zret rfl (by first | exact Or.inl rfl | exact Or.inr rfl | omega) ?_
      refine zw_zret rfl (by first | exact Or.inl rfl | exact Or.inr rfl | omega) ?_
      refine zw_ifne ⟨rfl, rfl⟩ rfl (fun q => absurd q (by decide)) (fun _ => ?_)
      refine zw_const ⟨rfl, rfl⟩ ?_
      refine zw_ret rfl ?_
      have e : yo_insert σ un uh mk im tn tp ff fp a l = ((-3), σ, un, uh, mk, im, tn, tp, ff, fp) := by unfold yo_insert; (repeat' split) <;> first | rfl | (exfalso; omega)
      rw [e] at k
      exact k _ (hC.mf ymf_0) (fun x hx => zup_row (by omega))
    · replace c3 := (not_congr zlc_gt).mp c3
      refine zw_const ⟨rfl, rfl⟩ ?_
      refine zw_goto ⟨rfl, rfl⟩ rfl ?_
      refine zw_zret rfl (by first | exact Or.inl rfl | exact Or.inr rfl | omega) ?_
      refine zw_zret rfl (by first | exact Or.inl rfl | exact Or.inr rfl | omega) ?_
      refine zw_ifne ⟨rfl, rfl⟩ rfl (fun _ => ?_) (fun q => absurd (by decide) q)
      refine zw_iload ⟨rfl, rfl⟩ rfl ?_
      refine zw_i2l ⟨rfl, rfl⟩ ?_
      refine zw_lconst ⟨rfl, rfl⟩ ?_
      refine zw_aload ⟨rfl, rfl⟩ rfl ?_
      refine zw_callv1 ⟨rfl, rfl⟩ rfl zc_208 rfl ?_
      refine m_Mmany hV hM0 ?_
      refine zw_i2l ⟨rfl, rfl⟩ ?_
      refine zw_calLs3 ⟨rfl, rfl⟩ rfl rfl ?_
      refine zw_lload ⟨rfl, rfl⟩ rfl ?_
      refine zw_lload ⟨rfl, rfl⟩ rfl ?_
      refine zw_lcmp ⟨rfl, rfl⟩ ?_
      refine zw_iflt ⟨rfl, rfl⟩ rfl (fun c6 => ?_) (fun c6 => ?_)
      · replace c6 := zlc_lt.mp c6
        refine zw_const ⟨rfl, rfl⟩ ?_
        refine zw_zret rfl (by first | exact Or.inl rfl | exact Or.inr rfl | omega) ?_
        refine zw_ifne ⟨rfl, rfl⟩ rfl (fun q => absurd q (by decide)) (fun _ => ?_)
        refine zw_const ⟨rfl, rfl⟩ ?_
        refine zw_ret rfl ?_
        have e : yo_insert σ un uh mk im tn tp ff fp a l = ((-5), σ, un, uh, mk, im, tn, tp, ff, fp) := by unfold yo_insert; (repeat' split) <;> first | rfl | (exfalso; omega)
        rw [e] at k
        exact k _ (hC.mf ymf_0) (fun x hx => zup_row (by omega))
      · replace c6 := (not_congr zlc_lt).mp c6
        refine zw_lload ⟨rfl, rfl⟩ rfl ?_
        refine zw_lload ⟨rfl, rfl⟩ rfl ?_
        refine zw_lcmp ⟨rfl, rfl⟩ ?_
        refine zw_ifgt ⟨rfl, rfl⟩ rfl (fun c8 => ?_) (fun c8 => ?_)
        · replace c8 := zlc_gt.mp c8
          refine zw_const ⟨rfl, rfl⟩ ?_
          refine zw_zret rfl (by first | exact Or.inl rfl | exact Or.inr rfl | omega) ?_
          refine zw_ifne ⟨rfl, rfl⟩ rfl (fun q => absurd q (by decide)) (fun _ => ?_)
          refine zw_const ⟨rfl, rfl⟩ ?_
          refine zw_ret rfl ?_
          have e : yo_insert σ un uh mk im tn tp ff fp a l = ((-5), σ, un, uh, mk, im, tn, tp, ff, fp) := by unfold yo_insert; (repeat' split) <;> first | rfl | (exfalso; omega)
          rw [e] at k
          exact k _ (hC.mf ymf_0) (fun x hx => zup_row (by omega))
        · replace c8 := (not_congr zlc_gt).mp c8
          refine zw_const ⟨rfl, rfl⟩ ?_
          refine zw_goto ⟨rfl, rfl⟩ rfl ?_
          refine zw_zret rfl (by first | exact Or.inl rfl | exact Or.inr rfl | omega) ?_
          refine zw_ifne ⟨rfl, rfl⟩ rfl (fun _ => ?_) (fun q => absurd (by decide) q)
          refine zw_aload ⟨rfl, rfl⟩ rfl ?_
          refine zw_callv1 ⟨rfl, rfl⟩ rfl zc_208 rfl ?_
          refine m_Mmany hV hM0 ?_
          refine zw_const ⟨rfl, rfl⟩ ?_
          refine zw_icne ⟨rfl, rfl⟩ rfl (fun c11 => ?_) (fun c11 => ?_)
          · skip
            refine zw_aload ⟨rfl, rfl⟩ rfl ?_
            refine zw_cavv1 ⟨rfl, rfl⟩ rfl zc_208 rfl ?_
            refine m_notes hV hu hM0 hH0 (fun N1 p1 => ?_)
            obtain ⟨hM1, hH1, hr1⟩ := p1
            have er : ∀ x, x < 208 ∨ x = 211 ∨ x = 236 ∨ x = 238 → N1 x = M x := fun x hx => (hr1.1 x (by omega) (by omega)).trans (zup_row (by omega))
            have e9 : ∀ j, 182 ≤ j → N1 209 j = M 209 j := fun j _ => by rw [hr1.1 209 (by decide) (by decide), zup_row (by decide)]
            have q35 : N1 208 35 = tn := (hr1.2 35 (by decide)).trans ((zup_ni (by decide)).trans hT.1)
            have q38 : N1 208 38 = ff := (hr1.2 38 (by decide)).trans ((zup_ni (by decide)).trans hF.1)
            have q39 : N1 208 39 = fp := (hr1.2 39 (by decide)).trans ((zup_ni (by decide)).trans hF.2)
            refine zw_aload ⟨rfl, rfl⟩ rfl ?_
            refine zw_callv1 ⟨rfl, rfl⟩ rfl zc_208 rfl ?_
            refine m_Mmany hV hM1 ?_
            refine zw_istore_3 ⟨rfl, rfl⟩ ?_
            obtain ⟨g1, g2, g3⟩ := yIns_M (l := l) hV hM1 (a := a) ⟨by omega, by omega, by omega⟩
            refine m_ins_l hV hM1 ⟨by omega, by omega, by omega⟩ ?_ _ _ _ ⟨by omega, Int.le_refl _⟩ (by rw [Int.sub_self]; exact zcpy_0.symm) (Nat.lt_succ_self _)
            generalize (zup (zup (zcpy N1 209 (122 + a) 209 (123 + a) (σ 0 - a)) 209 (122 + a) l) 209 0 (σ 0 + 1)) = E at g1 g2 g3 ⊢
            obtain ⟨w1, w2⟩ := yMW_new hC (yIns_V hV (by omega) (by omega) (by omega)) g1 ⟨by rw [g2 208 (by decide)]; exact hH1.1, fun i i1 i2 j j1 j2 => by rw [g2 210 (by decide)]; exact hH1.2 i i1 i2 j j1 j2⟩ (yph_V hW.2.1 hV) (fun x hx => (g2 x (by omega)).trans (er x (by omega))) (fun j hj => (g3 j hj).trans (e9 j hj)) (tn' := tn) (ff' := ff) (fp' := fp) ⟨by rw [g2 208 (by decide)]; exact q35, by omega, by omega⟩ ⟨by rw [g2 208 (by decide)]; exact q38, by rw [g2 208 (by decide)]; exact q39⟩
            have e : yo_insert σ un uh mk im tn tp ff fp a l = (σ 0 + 1, yIns σ a l, ypn un, yph un uh σ, mk, im, tn, tp, ff, fp) := by unfold yo_insert; (repeat' split) <;> first | rfl | (exfalso; omega)
            rw [e] at k
            exact k _ w1 w2
          · skip
            refine zw_const ⟨rfl, rfl⟩ ?_
            refine zw_ret rfl ?_
            have e : yo_insert σ un uh mk im tn tp ff fp a l = ((-4), σ, un, uh, mk, im, tn, tp, ff, fp) := by unfold yo_insert; (repeat' split) <;> first | rfl | (exfalso; omega)
            rw [e] at k
            exact k _ (hC.mf ymf_0) (fun x hx => zup_row (by omega))

theorem d_erase {M : zM} {Q : zV → zM → Prop} {σ : yS} {un : Int} {uh : Int → yS} {mk : Int → Int} {im : Int → yS} {tn : Int} {tp : Int → Int} {ff fp : Int} (hC : yMW M σ un uh mk im tn tp ff fp) (k : ∀ N : zM, yMw N (yo_erase σ un uh mk im tn tp ff fp).2 → (∀ x, x < 208 → N x = M x) → Q (0, (yo_erase σ un uh mk im tn tp ff fp).1) N) : zWp kM_erase 0 [(1, 208), (3, 0)] [] M Q := by
  obtain ⟨hW, hM, hH, hI, hT, hF, hWd⟩ := id hC
  obtain ⟨-, hM0, hH0, hI0, hT0, -⟩ := hC.mf (ymf_0 (v := 0))
  have hV := hW.1
  have hn := hV.1
  have hu := hW.2.1.1
  have htn := hW.2.2.2.1
  refine zw_aload ⟨rfl, rfl⟩ rfl ?_
  refine zw_const ⟨rfl, rfl⟩ ?_
  refine zw_putI ⟨rfl, rfl⟩ zc_208 (by decide) (fun h => absurd h (by decide)) ?_
  refine zw_aload ⟨rfl, rfl⟩ rfl ?_
  refine zw_cavv1 ⟨rfl, rfl⟩ rfl zc_208 rfl ?_
  refine m_notes hV hu hM0 hH0 (fun N1 p1 => ?_)
  obtain ⟨hM1, hH1, hr1⟩ := p1
  have er : ∀ x, x < 208 ∨ x = 211 ∨ x = 236 ∨ x = 238 → N1 x = M x := fun x hx => (hr1.1 x (by omega) (by omega)).trans (zup_row (by omega))
  have e9 : ∀ j, 182 ≤ j → N1 209 j = M 209 j := fun j _ => by rw [hr1.1 209 (by decide) (by decide), zup_row (by decide)]
  have q35 : N1 208 35 = tn := (hr1.2 35 (by decide)).trans ((zup_ni (by decide)).trans hT.1)
  have q38 : N1 208 38 = ff := (hr1.2 38 (by decide)).trans ((zup_ni (by decide)).trans hF.1)
  have q39 : N1 208 39 = fp := (hr1.2 39 (by decide)).trans ((zup_ni (by decide)).trans hF.2)
  refine zw_aload ⟨rfl, rfl⟩ rfl ?_
  refine zw_callv1 ⟨rfl, rfl⟩ rfl zc_208 rfl ?_
  refine m_Mmany hV hM1 ?_
  refine zw_istore_1 ⟨rfl, rfl⟩ ?_
  refine zw_aload ⟨rfl, rfl⟩ rfl ?_
  refine zw_getR 209 ⟨rfl, rfl⟩ zr_208_1 ?_
  refine zw_const ⟨rfl, rfl⟩ ?_
  refine zw_const ⟨rfl, rfl⟩ ?_
  refine zw_iast ⟨rfl, rfl⟩ za_209 (by omega) ?_
  refine zw_iload ⟨rfl, rfl⟩ rfl ?_
  refine zw_ret rfl ?_
  obtain ⟨w1, w2⟩ := yMW_new hC (yGo_V (a := 0) (n := σ 0) hV (by omega)) (N := zup N1 209 0 0) (τ := yGo σ 0 (σ 0)) (fun j j1 j2 => by
    by_cases q : j = 0
    · subst q; rw [zup_eq]; unfold yGo; rw [if_pos rfl]; omega
    · rw [zup_ni q]; unfold yGo; rw [if_neg q, if_neg (by omega)]; exact hM1 j j1 j2) ⟨by rw [zup_row (by decide)]; exact hH1.1, fun i i1 i2 j j1 j2 => by rw [zup_row (by decide)]; exact hH1.2 i i1 i2 j j1 j2⟩ (yph_V hW.2.1 hV) (fun x hx => (zup_row (by omega)).trans (er x (by omega))) (fun j hj => (zup_ni (by omega)).trans (e9 j hj)) (tn' := tn) (ff' := ff) (fp' := fp) ⟨by rw [zup_row (by decide)]; exact q35, by omega, by omega⟩ ⟨by rw [zup_row (by decide)]; exact q38, by rw [zup_row (by decide)]; exact q39⟩
  have e : yo_erase σ un uh mk im tn tp ff fp = (σ 0, yGo σ 0 (σ 0), ypn un, yph un uh σ, mk, im, tn, tp, ff, fp) := by unfold yo_erase; rfl
  rw [e] at k
  exact k _ (w1) (w2)

theorem d_undo {n : Int} {M : zM} {Q : zV → zM → Prop} {σ : yS} {un : Int} {uh : Int → yS} {mk : Int → Int} {im : Int → yS} {tn : Int} {tp : Int → Int} {ff fp : Int} (hC : yMW M σ un uh mk im tn tp ff fp) (k : ∀ N : zM, yMw N (yo_undo σ un uh mk im tn tp ff fp n).2 → (∀ x, x < 208 → N x = M x) → Q (0, (yo_undo σ un uh mk im tn tp ff fp n).1) N) : zWp kM_undo 0 [(1, 208), (0, n)] [] M Q := by
  obtain ⟨hW, hM, hH, hI, hT, hF, hWd⟩ := id hC
  obtain ⟨-, hM0, hH0, hI0, hT0, -⟩ := hC.mf (ymf_0 (v := 0))
  have hV := hW.1
  have hn := hV.1
  have hu := hW.2.1.1
  have htn := hW.2.2.2.1
  refine zw_aload ⟨rfl, rfl⟩ rfl ?_
  refine zw_const ⟨rfl, rfl⟩ ?_
  refine zw_putI ⟨rfl, rfl⟩ zc_208 (by decide) (fun h => absurd h (by decide)) ?_
  refine zw_iload ⟨rfl, rfl⟩ rfl ?_
  refine zw_i2l ⟨rfl, rfl⟩ ?_
  refine zw_lconst ⟨rfl, rfl⟩ ?_
  refine zw_lconst ⟨rfl, rfl⟩ ?_
  refine zw_calLs3 ⟨rfl, rfl⟩ rfl rfl ?_
  refine zw_lload ⟨rfl, rfl⟩ rfl ?_
  refine zw_lload ⟨rfl, rfl⟩ rfl ?_
  refine zw_lcmp ⟨rfl, rfl⟩ ?_
  refine zw_iflt ⟨rfl, rfl⟩ rfl (fun c1 => ?_) (fun c1 => ?_)
  · replace c1 := zlc_lt.mp c1
    refine zw_const ⟨rfl, rfl⟩ ?_
    refine zw_zret rfl (by first | exact Or.inl rfl | exact Or.inr rfl | omega) ?_
    refine zw_ifeq ⟨rfl, rfl⟩ rfl (fun _ => ?_) (fun q => absurd (by decide) q)
    refine zw_const ⟨rfl, rfl⟩ ?_
    refine zw_ret rfl ?_
    have e : yo_undo σ un uh mk im tn tp ff fp n = ((-3), σ, un, uh, mk, im, tn, tp, ff, fp) := by unfold yo_undo; (repeat' split) <;> first | rfl | (exfalso; omega)
    rw [e] at k
    exact k _ (hC.mf ymf_0) (fun x hx => zup_row (by omega))
  · replace c1 := (not_congr zlc_lt).mp c1
    refine zw_lload ⟨rfl, rfl⟩ rfl ?_
    refine zw_lload ⟨rfl, rfl⟩ rfl ?_
    refine zw_lcmp ⟨rfl, rfl⟩ ?_
    refine zw_ifgt ⟨rfl, rfl⟩ rfl (fun c3 => ?_) (fun c3 => ?_)
    · replace c3 := zlc_gt.mp c3
      refine zw_const ⟨rfl, rfl⟩ ?_
      refine zw_zret rfl (by first | exact Or.inl rfl | exact Or.inr rfl | omega) ?_
      refine zw_ifeq ⟨rfl, rfl⟩ rfl (fun _ => ?_) (fun q => absurd (by decide) q)
      refine zw_const ⟨rfl, rfl⟩ ?_
      refine zw_ret rfl ?_
      have e : yo_undo σ un uh mk im tn tp ff fp n = ((-3), σ, un, uh, mk, im, tn, tp, ff, fp) := by unfold yo_undo; (repeat' split) <;> first | rfl | (exfalso; omega)
      rw [e] at k
      exact k _ (hC.mf ymf_0) (fun x hx => zup_row (by omega))
    · replace c3 := (not_congr zlc_gt).mp c3
      refine zw_const ⟨rfl, rfl⟩ ?_
      refine zw_goto ⟨rfl, rfl⟩ rfl ?_
      refine zw_zret rfl (by first | exact Or.inl rfl | exact Or.inr rfl | omega) ?_
      refine zw_ifeq ⟨rfl, rfl⟩ rfl (fun q => absurd q (by decide)) (fun _ => ?_)
      refine zw_iload ⟨rfl, rfl⟩ rfl ?_
      refine zw_aload ⟨rfl, rfl⟩ rfl ?_
      refine zw_getIv (v := un) ⟨rfl, rfl⟩ zc_208 (by decide) ((zup_ni (by decide)).trans (hH.1)) ?_
      refine zw_icle ⟨rfl, rfl⟩ rfl (fun c6 => ?_) (fun c6 => ?_)
      · skip
        refine zw_aload ⟨rfl, rfl⟩ rfl ?_
        refine zw_dup ⟨rfl, rfl⟩ (by decide) ?_
        refine zw_getIv (v := un) ⟨rfl, rfl⟩ zc_208 (by decide) ((zup_ni (by decide)).trans (hH.1)) ?_
        refine zw_iload ⟨rfl, rfl⟩ rfl ?_
        refine zw_isub ⟨rfl, rfl⟩ (by omega) ?_
        refine zw_putI ⟨rfl, rfl⟩ zc_208 (by decide) (fun h => absurd h (by decide)) ?_
        refine zw_aload ⟨rfl, rfl⟩ rfl ?_
        refine zw_getR 210 ⟨rfl, rfl⟩ zr_208_2 ?_
        refine zw_const ⟨rfl, rfl⟩ ?_
        refine zw_aload ⟨rfl, rfl⟩ rfl ?_
        refine zw_getIv (v := un - n) ⟨rfl, rfl⟩ zc_208 (by decide) (zup_eq _ _ _ _) ?_
        refine zw_imul ⟨rfl, rfl⟩ (by omega) ?_
        refine zw_aload ⟨rfl, rfl⟩ rfl ?_
        refine zw_getR 209 ⟨rfl, rfl⟩ zr_208_1 ?_
        refine zw_const ⟨rfl, rfl⟩ ?_
        refine zw_const ⟨rfl, rfl⟩ ?_
        refine zw_cavs5 ⟨rfl, rfl⟩ rfl rfl ?_
        refine m_copies (na := 1820) (nb := 546) za_210 za_209 ⟨by omega, by omega, by omega, by omega, by omega⟩ ⟨by decide, by decide⟩ (by omega) ?_
        refine zw_aload ⟨rfl, rfl⟩ rfl ?_
        refine zw_getIv (v := un - n) ⟨rfl, rfl⟩ zc_208 (by decide) ((zcpy_na (by decide)).trans (zup_eq _ _ _ _)) ?_
        refine zw_ret rfl ?_
        obtain ⟨w1, w2⟩ := yMW_new hC (hW.2.1.2 (un - n) (by omega) (by omega)) (N := zcpy (zup (zup M 208 0 0) 208 3 (un - n)) 210 (182 * (un - n)) 209 0 182) (τ := uh (un - n)) (un' := un - n) (uh' := uh) (fun j j1 j2 => by
          unfold zcpy
          rw [if_pos ⟨rfl, by omega, by omega⟩, zup_row (by decide), zup_row (by decide), show 182 * (un - n) + (j - 0) = 182 * (un - n) + j by omega]
          exact hH.2 _ (by omega) (by omega) j j1 j2) ⟨by rw [zcpy_na (by decide), zup_eq], fun i i1 i2 j j1 j2 => by rw [zcpy_na (by decide), zup_na (by decide), zup_na (by decide)]; exact hH.2 i i1 (by omega) j j1 j2⟩ ⟨⟨by omega, by omega⟩, fun i i1 i2 => hW.2.1.2 i i1 (by omega)⟩ (fun x hx => (zcpy_row (by omega)).trans ((zup_row (by omega)).trans (zup_row (by omega)))) (fun j hj => by unfold zcpy; rw [if_neg (by omega), zup_na (by decide), zup_na (by decide)]) (tn' := tn) (ff' := ff) (fp' := fp) ⟨by rw [zcpy_na (by decide), zup_ni (by decide), zup_ni (by decide)]; exact hT.1, by omega, by omega⟩ ⟨by rw [zcpy_na (by decide), zup_ni (by decide), zup_ni (by decide)]; exact hF.1, by rw [zcpy_na (by decide), zup_ni (by decide), zup_ni (by decide)]; exact hF.2⟩
        have e : yo_undo σ un uh mk im tn tp ff fp n = (un - n, uh (un - n), un - n, uh, mk, im, tn, tp, ff, fp) := by unfold yo_undo; (repeat' split) <;> first | rfl | (exfalso; omega)
        rw [e] at k
        exact k _ (w1) (w2)
      · skip
        refine zw_const ⟨rfl, rfl⟩ ?_
        refine zw_ret rfl ?_
        have e : yo_undo σ un uh mk im tn tp ff fp n = ((-3), σ, un, uh, mk, im, tn, tp, ff, fp) := by unfold yo_undo; (repeat' split) <;> first | rfl | (exfalso; omega)
        rw [e] at k
        exact k _ (hC.mf ymf_0) (fun x hx => zup_row (by omega))

theorem d_image {i : Int} {M : zM} {Q : zV → zM → Prop} {σ : yS} {un : Int} {uh : Int → yS} {mk : Int → Int} {im : Int → yS} {tn : Int} {tp : Int → Int} {ff fp : Int} (hC : yMW M σ un uh mk im tn tp ff fp) (k : ∀ N : zM, yMw N (yo_image σ un uh mk im tn tp ff fp i).2 → (∀ x, x < 208 → N x = M x) → Q (0, (yo_image σ un uh mk im tn tp ff fp i).1) N) : zWp kM_image 0 [(1, 208), (0, i)] [] M Q := by
  obtain ⟨hW, hM, hH, hI, hT, hF, hWd⟩ := id hC
  obtain ⟨-, hM0, hH0, hI0, hT0, -⟩ := hC.mf (ymf_0 (v := 0))
  have hV := hW.1
  have hn := hV.1
  have hu := hW.2.1.1
  have htn := hW.2.2.2.1
  refine zw_aload ⟨rfl, rfl⟩ rfl ?_
  refine zw_const ⟨rfl, rfl⟩ ?_
  refine zw_putI ⟨rfl, rfl⟩ zc_208 (by decide) (fun h => absurd h (by decide)) ?_
  refine zw_iload ⟨rfl, rfl⟩ rfl ?_
  refine zw_i2l ⟨rfl, rfl⟩ ?_
  refine zw_lconst ⟨rfl, rfl⟩ ?_
  refine zw_lconst ⟨rfl, rfl⟩ ?_
  refine zw_calLs3 ⟨rfl, rfl⟩ rfl rfl ?_
  refine zw_lload ⟨rfl, rfl⟩ rfl ?_
  refine zw_lload ⟨rfl, rfl⟩ rfl ?_
  refine zw_lcmp ⟨rfl, rfl⟩ ?_
  refine zw_iflt ⟨rfl, rfl⟩ rfl (fun c1 => ?_) (fun c1 => ?_)
  · replace c1 := zlc_lt.mp c1
    refine zw_const ⟨rfl, rfl⟩ ?_
    refine zw_zret rfl (by first | exact Or.inl rfl | exact Or.inr rfl | omega) ?_
    refine zw_ifne ⟨rfl, rfl⟩ rfl (fun q => absurd q (by decide)) (fun _ => ?_)
    refine zw_const ⟨rfl, rfl⟩ ?_
    refine zw_ret rfl ?_
    have e : yo_image σ un uh mk im tn tp ff fp i = ((-2), σ, un, uh, mk, im, tn, tp, ff, fp) := by unfold yo_image; (repeat' split) <;> first | rfl | (exfalso; omega)
    rw [e] at k
    exact k _ (hC.mf ymf_0) (fun x hx => zup_row (by omega))
  · replace c1 := (not_congr zlc_lt).mp c1
    refine zw_lload ⟨rfl, rfl⟩ rfl ?_
    refine zw_lload ⟨rfl, rfl⟩ rfl ?_
    refine zw_lcmp ⟨rfl, rfl⟩ ?_
    refine zw_ifgt ⟨rfl, rfl⟩ rfl (fun c3 => ?_) (fun c3 => ?_)
    · replace c3 := zlc_gt.mp c3
      refine zw_const ⟨rfl, rfl⟩ ?_
      refine zw_zret rfl (by first | exact Or.inl rfl | exact Or.inr rfl | omega) ?_
      refine zw_ifne ⟨rfl, rfl⟩ rfl (fun q => absurd q (by decide)) (fun _ => ?_)
      refine zw_const ⟨rfl, rfl⟩ ?_
      refine zw_ret rfl ?_
      have e : yo_image σ un uh mk im tn tp ff fp i = ((-2), σ, un, uh, mk, im, tn, tp, ff, fp) := by unfold yo_image; (repeat' split) <;> first | rfl | (exfalso; omega)
      rw [e] at k
      exact k _ (hC.mf ymf_0) (fun x hx => zup_row (by omega))
    · replace c3 := (not_congr zlc_gt).mp c3
      refine zw_const ⟨rfl, rfl⟩ ?_
      refine zw_goto ⟨rfl, rfl⟩ rfl ?_
      refine zw_zret rfl (by first | exact Or.inl rfl | exact Or.inr rfl | omega) ?_
      refine zw_ifne ⟨rfl, rfl⟩ rfl (fun _ => ?_) (fun q => absurd (by decide) q)
      refine zw_aload ⟨rfl, rfl⟩ rfl ?_
      refine zw_getR 209 ⟨rfl, rfl⟩ zr_208_1 ?_
      refine zw_const ⟨rfl, rfl⟩ ?_
      refine zw_aload ⟨rfl, rfl⟩ rfl ?_
      refine zw_getR 209 ⟨rfl, rfl⟩ zr_208_1 ?_
      refine zw_const ⟨rfl, rfl⟩ ?_
      refine zw_iload ⟨rfl, rfl⟩ rfl ?_
      refine zw_const ⟨rfl, rfl⟩ ?_
      refine zw_iadd ⟨rfl, rfl⟩ (by omega) ?_
      refine zw_imul ⟨rfl, rfl⟩ (by omega) ?_
      refine zw_const ⟨rfl, rfl⟩ ?_
      refine zw_cavs5 ⟨rfl, rfl⟩ rfl rfl ?_
      refine m_copies (na := 546) (nb := 546) za_209 za_209 ⟨by omega, by omega, by omega, by omega, by omega⟩ ⟨by decide, by decide⟩ (by omega) ?_
      refine zw_aload ⟨rfl, rfl⟩ rfl ?_
      refine zw_getR 211 ⟨rfl, rfl⟩ zr_208_4 ?_
      refine zw_iload ⟨rfl, rfl⟩ rfl ?_
      refine zw_const ⟨rfl, rfl⟩ ?_
      refine zw_bast3 ⟨rfl, rfl⟩ za_211 (by omega) (by first | exact Or.inl rfl | exact Or.inr rfl | omega) ?_
      refine zw_const ⟨rfl, rfl⟩ ?_
      refine zw_ret rfl ?_
      have hi : i = 0 ∨ i = 1 := by omega
      have w2 : ∀ x, x < 208 → (zup (zcpy (zup M 208 0 0) 209 0 209 (182 * (i + 1)) 182) 211 i 1) x = M x := fun x hx => by rw [zup_row (by omega), zcpy_row (by omega), zup_row (by omega)]
      have w1 : yMW (zup (zcpy (zup M 208 0 0) 209 0 209 (182 * (i + 1)) 182) 211 i 1) σ un uh (fun j => if j = i then 1 else mk j) (fun j => if j = i then σ else im j) tn tp ff fp := by
        refine ⟨⟨hW.1, hW.2.1, fun j hj => ?_, hW.2.2.2.1, hW.2.2.2.2⟩, fun j j1 j2 => ?_, ?_, fun j hj => ?_, ?_, ?_, ?_⟩
        · by_cases q : j = i
          · dsimp only; rw [if_pos q, if_pos q]; exact ⟨Or.inr rfl, fun _ => hV⟩
          · dsimp only; rw [if_neg q, if_neg q]; exact hW.2.2.1 j hj
        · rw [zup_na (by decide)]; unfold zcpy; rw [if_neg (by omega), zup_na (by decide)]; exact hM j j1 j2
        · exact ⟨by rw [zup_na (by decide), zcpy_na (by decide), zup_ni (by decide)]; exact hH.1, fun i i1 i2 j j1 j2 => by rw [zup_na (by decide), zcpy_na (by decide), zup_na (by decide)]; exact hH.2 i i1 i2 j j1 j2⟩
        · by_cases q : j = i
          · dsimp only; rw [if_pos q, if_pos q, q]
            refine ⟨zup_eq _ _ _ _, fun _ p p1 p2 => ?_⟩
            rw [zup_na (by decide)]; unfold zcpy
            rw [if_pos ⟨rfl, by omega, by omega⟩, zup_na (by decide), show (0 : Int) + (182 * (i + 1) + p - 182 * (i + 1)) = p by omega]
            exact hM p p1 p2
          · dsimp only; rw [if_neg q, if_neg q]
            refine ⟨by rw [zup_ni q, zcpy_na (by decide), zup_na (by decide)]; exact (hI j hj).1, fun m p p1 p2 => ?_⟩
            rw [zup_na (by decide)]; unfold zcpy
            rw [if_neg (by omega), zup_na (by decide)]
            exact (hI j hj).2 m p p1 p2
        · exact ⟨by rw [zup_na (by decide), zcpy_na (by decide), zup_ni (by decide)]; exact hT.1, fun k k1 k2 => by rw [zup_na (by decide), zcpy_na (by decide), zup_na (by decide)]; exact hT.2 k k1 k2⟩
        · exact ⟨by rw [zup_na (by decide), zcpy_na (by decide), zup_ni (by decide)]; exact hF.1, by rw [zup_na (by decide), zcpy_na (by decide), zup_ni (by decide)]; exact hF.2⟩
        · intro k k1 k2; rw [zup_na (by decide), zcpy_na (by decide), zup_na (by decide)]; exact hWd k k1 k2
      have e : yo_image σ un uh mk im tn tp ff fp i = (0, σ, un, uh, (fun j => if j = i then 1 else mk j), (fun j => if j = i then σ else im j), tn, tp, ff, fp) := by unfold yo_image; (repeat' split) <;> first | rfl | (exfalso; omega)
      rw [e] at k
      exact k _ (w1) (w2)

theorem d_restore {i : Int} {M : zM} {Q : zV → zM → Prop} {σ : yS} {un : Int} {uh : Int → yS} {mk : Int → Int} {im : Int → yS} {tn : Int} {tp : Int → Int} {ff fp : Int} (hC : yMW M σ un uh mk im tn tp ff fp) (k : ∀ N : zM, yMw N (yo_restore σ un uh mk im tn tp ff fp i).2 → (∀ x, x < 208 → N x = M x) → Q (0, (yo_restore σ un uh mk im tn tp ff fp i).1) N) : zWp kM_restore 0 [(1, 208), (0, i)] [] M Q := by
  obtain ⟨hW, hM, hH, hI, hT, hF, hWd⟩ := id hC
  obtain ⟨-, hM0, hH0, hI0, hT0, -⟩ := hC.mf (ymf_0 (v := 0))
  have hV := hW.1
  have hn := hV.1
  have hu := hW.2.1.1
  have htn := hW.2.2.2.1
  refine zw_aload ⟨rfl, rfl⟩ rfl ?_
  refine zw_const ⟨rfl, rfl⟩ ?_
  refine zw_putI ⟨rfl, rfl⟩ zc_208 (by decide) (fun h => absurd h (by decide)) ?_
  refine zw_iload ⟨rfl, rfl⟩ rfl ?_
  refine zw_i2l ⟨rfl, rfl⟩ ?_
  refine zw_lconst ⟨rfl, rfl⟩ ?_
  refine zw_lconst ⟨rfl, rfl⟩ ?_
  refine zw_calLs3 ⟨rfl, rfl⟩ rfl rfl ?_
  refine zw_lload ⟨rfl, rfl⟩ rfl ?_
  refine zw_lload ⟨rfl, rfl⟩ rfl ?_
  refine zw_lcmp ⟨rfl, rfl⟩ ?_
  refine zw_iflt ⟨rfl, rfl⟩ rfl (fun c1 => ?_) (fun c1 => ?_)
  · replace c1 := zlc_lt.mp c1
    refine zw_const ⟨rfl, rfl⟩ ?_
    refine zw_zret rfl (by first | exact Or.inl rfl | exact Or.inr rfl | omega) ?_
    refine zw_ifne ⟨rfl, rfl⟩ rfl (fun q => absurd q (by decide)) (fun _ => ?_)
    refine zw_const ⟨rfl, rfl⟩ ?_
    refine zw_ret rfl ?_
    have e : yo_restore σ un uh mk im tn tp ff fp i = ((-2), σ, un, uh, mk, im, tn, tp, ff, fp) := by unfold yo_restore; have hmm : i = 0 ∨ i = 1 → (mk i = 0 ∨ mk i = 1) := (fun z => (hW.2.2.1 i z).1); (repeat' split) <;> first | rfl | (exfalso; omega)
    rw [e] at k
    exact k _ (hC.mf ymf_0) (fun x hx => zup_row (by omega))
  · replace c1 := (not_congr zlc_lt).mp c1
    refine zw_lload ⟨rfl, rfl⟩ rfl ?_
    refine zw_lload ⟨rfl, rfl⟩ rfl ?_
    refine zw_lcmp ⟨rfl, rfl⟩ ?_
    refine zw_ifgt ⟨rfl, rfl⟩ rfl (fun c3 => ?_) (fun c3 => ?_)
    · replace c3 := zlc_gt.mp c3
      refine zw_const ⟨rfl, rfl⟩ ?_
      refine zw_zret rfl (by first | exact Or.inl rfl | exact Or.inr rfl | omega) ?_
      refine zw_ifne ⟨rfl, rfl⟩ rfl (fun q => absurd q (by decide)) (fun _ => ?_)
      refine zw_const ⟨rfl, rfl⟩ ?_
      refine zw_ret rfl ?_
      have e : yo_restore σ un uh mk im tn tp ff fp i = ((-2), σ, un, uh, mk, im, tn, tp, ff, fp) := by unfold yo_restore; have hmm : i = 0 ∨ i = 1 → (mk i = 0 ∨ mk i = 1) := (fun z => (hW.2.2.1 i z).1); (repeat' split) <;> first | rfl | (exfalso; omega)
      rw [e] at k
      exact k _ (hC.mf ymf_0) (fun x hx => zup_row (by omega))
    · replace c3 := (not_congr zlc_gt).mp c3
      refine zw_const ⟨rfl, rfl⟩ ?_
      refine zw_goto ⟨rfl, rfl⟩ rfl ?_
      refine zw_zret rfl (by first | exact Or.inl rfl | exact Or.inr rfl | omega) ?_
      refine zw_ifne ⟨rfl, rfl⟩ rfl (fun _ => ?_) (fun q => absurd (by decide) q)
      refine zw_aload ⟨rfl, rfl⟩ rfl ?_
      refine zw_getR 211 ⟨rfl, rfl⟩ zr_208_4 ?_
      refine zw_iload ⟨rfl, rfl⟩ rfl ?_
      refine zw_baldv (v := mk i) ⟨rfl, rfl⟩ za_211 (by decide) (by omega) ((zup_na (by decide)).trans ((hI i (by omega)).1)) ?_
      refine zw_ifne ⟨rfl, rfl⟩ rfl (fun c6 => ?_) (fun c6 => ?_)
      · skip
        refine zw_aload ⟨rfl, rfl⟩ rfl ?_
        refine zw_getR 209 ⟨rfl, rfl⟩ zr_208_1 ?_
        refine zw_const ⟨rfl, rfl⟩ ?_
        refine zw_iload ⟨rfl, rfl⟩ rfl ?_
        refine zw_const ⟨rfl, rfl⟩ ?_
        refine zw_iadd ⟨rfl, rfl⟩ (by omega) ?_
        refine zw_imul ⟨rfl, rfl⟩ (by omega) ?_
        refine zw_aload ⟨rfl, rfl⟩ rfl ?_
        refine zw_getR 209 ⟨rfl, rfl⟩ zr_208_1 ?_
        refine zw_const ⟨rfl, rfl⟩ ?_
        refine zw_const ⟨rfl, rfl⟩ ?_
        refine zw_cavs5 ⟨rfl, rfl⟩ rfl rfl ?_
        refine m_copies (na := 546) (nb := 546) za_209 za_209 ⟨by omega, by omega, by omega, by omega, by omega⟩ ⟨by decide, by decide⟩ (by omega) ?_
        refine zw_aload ⟨rfl, rfl⟩ rfl ?_
        refine zw_const ⟨rfl, rfl⟩ ?_
        refine zw_putI ⟨rfl, rfl⟩ zc_208 (by decide) (fun h => absurd h (by decide)) ?_
        refine zw_const ⟨rfl, rfl⟩ ?_
        refine zw_ret rfl ?_
        have hi : i = 0 ∨ i = 1 := by omega
        have hm : mk i = 1 := by have := (hW.2.2.1 i hi).1; omega
        obtain ⟨w1, w2⟩ := yMW_new hC ((hW.2.2.1 i hi).2 hm) (N := (zup (zcpy (zup M 208 0 0) 209 (182 * (i + 1)) 209 0 182) 208 3 0)) (τ := im i) (un' := 0) (uh' := uh) (fun j j1 j2 => by
          rw [zup_na (by decide)]
          unfold zcpy
          rw [if_pos ⟨rfl, by omega, by omega⟩, zup_na (by decide), show 182 * (i + 1) + (j - 0) = 182 * (i + 1) + j by omega]
          exact (hI i hi).2 hm j j1 j2) ⟨zup_eq _ _ _ _, fun i i1 i2 => by omega⟩ ⟨⟨by decide, by decide⟩, fun i i1 i2 => by omega⟩ (fun x hx => (zup_row (by omega)).trans ((zcpy_row (by omega)).trans (zup_row (by omega)))) (fun j hj => by rw [zup_na (by decide)]; unfold zcpy; rw [if_neg (by omega), zup_na (by decide)]) (tn' := tn) (ff' := ff) (fp' := fp) ⟨by rw [zup_ni (by decide), zcpy_na (by decide), zup_ni (by decide)]; exact hT.1, by omega, by omega⟩ ⟨by rw [zup_ni (by decide), zcpy_na (by decide), zup_ni (by decide)]; exact hF.1, by rw [zup_ni (by decide), zcpy_na (by decide), zup_ni (by decide)]; exact hF.2⟩
        have e : yo_restore σ un uh mk im tn tp ff fp i = (0, im i, 0, uh, mk, im, tn, tp, ff, fp) := by unfold yo_restore; have hmm : i = 0 ∨ i = 1 → (mk i = 0 ∨ mk i = 1) := (fun z => (hW.2.2.1 i z).1); (repeat' split) <;> first | rfl | (exfalso; omega)
        rw [e] at k
        exact k _ (w1) (w2)
      · skip
        refine zw_const ⟨rfl, rfl⟩ ?_
        refine zw_ret rfl ?_
        have e : yo_restore σ un uh mk im tn tp ff fp i = ((-6), σ, un, uh, mk, im, tn, tp, ff, fp) := by unfold yo_restore; have hmm : i = 0 ∨ i = 1 → (mk i = 0 ∨ mk i = 1) := (fun z => (hW.2.2.1 i z).1); (repeat' split) <;> first | rfl | (exfalso; omega)
        rw [e] at k
        exact k _ (hC.mf ymf_0) (fun x hx => zup_row (by omega))

end