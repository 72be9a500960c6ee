/-! The model: its row, its letters and kinds, chains and ends -/
def yMo (M : zM) (σ : yS) : Prop := ∀ j, 0 ≤ j → j < 182 → M 209 j = σ j
theorem yMo.cg {M N : zM} {σ : yS} (h : yMo M σ) (e : N 209 = M 209) : yMo N σ := fun j a b => by rw [e]; exact h j a b
def ybt (σ : yS) (l w : Int) : Int := if w = 1 then σ (28 + l) % 2 else if w = 2 then σ (28 + l) / 2 % 2 else σ (28 + l) / 4 % 2
theorem ybt_r (σ : yS) (l w : Int) : ybt σ l w = 0 ∨ ybt σ l w = 1 := by unfold ybt; (repeat' split) <;> omega
theorem zand_b {x w : Int} (h0 : 0 ≤ x) (h1 : x ≤ 7) (hw : w = 1 ∨ w = 2 ∨ w = 4) : (zand x w = 0 ↔ (if w = 1 then x % 2 else if w = 2 then x / 2 % 2 else x / 4 % 2) = 0) := by
  have hx : x = 0 ∨ x = 1 ∨ x = 2 ∨ x = 3 ∨ x = 4 ∨ x = 5 ∨ x = 6 ∨ x = 7 := by omega
  rcases hx with rfl | rfl | rfl | rfl | rfl | rfl | rfl | rfl <;> rcases hw with rfl | rfl | rfl <;> decide
theorem yJ_1 (σ : yS) (a b : Int) : ∀ (n : Nat) (k : Int), 0 ≤ k → k < n → σ (106 + 2 * k) = a → σ (107 + 2 * k) = b → yJ σ a b n = 1 := by
  intro n
  induction n with
  | zero => intro k h0 h1; omega
  | succ n ih =>
    intro k h0 h1 h2 h3
    unfold yJ
    by_cases e : k = n
    · rw [if_pos (by rw [← e]; exact ⟨h2, h3⟩)]
    · split
      · rfl
      · exact ih k h0 (by omega) h2 h3
theorem yJ_0 (σ : yS) (a b : Int) : ∀ (n : Nat), (∀ k, 0 ≤ k → k < (n : Int) → ¬ (σ (106 + 2 * k) = a ∧ σ (107 + 2 * k) = b)) → yJ σ a b n = 0 := by
  intro n
  induction n with
  | zero => intro _; rfl
  | succ n ih =>
    intro h
    unfold yJ
    rw [if_neg (h n (by omega) (by omega))]
    exact ih (fun k k1 k2 => h k k1 (by omega))

theorem m_Mmany {M : zM} {Q : zV → zM → Prop} {σ : yS} (hV : yVal σ) (hM : yMo M σ) (k : Q (0, σ 0) M) : zWp kM_many 0 [(1, 208)] [] M Q := by
  refine zw_aload ⟨rfl, rfl⟩ rfl ?_
  refine zw_getR 209 ⟨rfl, rfl⟩ zr_208_1 ?_
  refine zw_const ⟨rfl, rfl⟩ ?_
  refine zw_ialdv (v := σ 0) ⟨rfl, rfl⟩ za_209 (by omega) (hM 0 (by omega) (by omega)) ?_
  refine zw_ret rfl ?_
  exact k

theorem m_MletterAt {p : Int} {M : zM} {Q : zV → zM → Prop} {σ : yS} (hV : yVal σ) (hM : yMo M σ) (hp : 0 ≤ p ∧ p < σ 0) (k : Q (0, yL σ p) M) : zWp kM_letterAt 0 [(1, 208), (0, p)] [] M Q := by
  have hn := hV.1
  refine zw_aload ⟨rfl, rfl⟩ rfl ?_
  refine zw_getR 209 ⟨rfl, rfl⟩ zr_208_1 ?_
  refine zw_const ⟨rfl, rfl⟩ ?_
  refine zw_iload ⟨rfl, rfl⟩ rfl ?_
  refine zw_iadd ⟨rfl, rfl⟩ (by omega) ?_
  refine zw_ialdv (v := σ (122 + p)) ⟨rfl, rfl⟩ za_209 (by omega) (hM (122 + p) (by omega) (by omega)) ?_
  refine zw_ret rfl ?_
  rw [show yL σ p = σ (122 + p) from if_pos hp] at k
  exact k

theorem m_MkindOf {l : Int} {M : zM} {Q : zV → zM → Prop} {σ : yS} (hV : yVal σ) (hM : yMo M σ) (hl : 0 ≤ l ∧ l < 26) (k : Q (0, σ (2 + l)) M) : zWp kM_kindOf 0 [(1, 208), (0, l)] [] M Q := by
  refine zw_aload ⟨rfl, rfl⟩ rfl ?_
  refine zw_getR 209 ⟨rfl, rfl⟩ zr_208_1 ?_
  refine zw_const ⟨rfl, rfl⟩ ?_
  refine zw_iload ⟨rfl, rfl⟩ rfl ?_
  refine zw_iadd ⟨rfl, rfl⟩ (by omega) ?_
  refine zw_ialdv (v := σ (2 + l)) ⟨rfl, rfl⟩ za_209 (by omega) (hM (2 + l) (by omega) (by omega)) ?_
  refine zw_ret rfl ?_
  exact k

theorem m_Mdoes {l w : Int} {M : zM} {Q : zV → zM → Prop} {σ : yS} (hV : yVal σ) (hM : yMo M σ) (hl : 0 ≤ l ∧ l < 26) (hw : w = 1 ∨ w = 2 ∨ w = 4) (k : Q (0, ybt σ l w) M) : zWp kM_does 0 [(1, 208), (0, l), (0, w)] [] M Q := by
  have hd := (hV.2.2.1 l hl.1 hl.2).2
  have hb := zand_b hd.1 hd.2 hw
  refine zw_aload ⟨rfl, rfl⟩ rfl ?_
  refine zw_getR 209 ⟨rfl, rfl⟩ zr_208_1 ?_
  refine zw_const ⟨rfl, rfl⟩ ?_
  refine zw_iload ⟨rfl, rfl⟩ rfl ?_
  refine zw_iadd ⟨rfl, rfl⟩ (by omega) ?_
  refine zw_ialdv (v := σ (28 + l)) ⟨rfl, rfl⟩ za_209 (by omega) (hM (28 + l) (by omega) (by omega)) ?_
  refine zw_iload ⟨rfl, rfl⟩ rfl ?_
  refine zw_iand ⟨rfl, rfl⟩ (by exact Or.inr ⟨hd.1, by omega⟩) ?_
  refine zw_ifeq ⟨rfl, rfl⟩ rfl (fun c1 => ?_) (fun c1 => ?_)
  · skip
    refine zw_const ⟨rfl, rfl⟩ ?_
    refine zw_zret rfl (by first | exact Or.inl rfl | exact Or.inr rfl | omega) ?_
    rw [show ybt σ l w = 0 from by have := ybt_r σ l w; have hb2 := hb; unfold ybt at *; omega] at k
    exact k
  · skip
    refine zw_const ⟨rfl, rfl⟩ ?_
    refine zw_goto ⟨rfl, rfl⟩ rfl ?_
    refine zw_zret rfl (by first | exact Or.inl rfl | exact Or.inr rfl | omega) ?_
    rw [show ybt σ l w = 1 from by have := ybt_r σ l w; have hb2 := hb; unfold ybt at *; omega] at k
    exact k

theorem m_MkindAt {p : Int} {M : zM} {Q : zV → zM → Prop} {σ : yS} (hV : yVal σ) (hM : yMo M σ) (hp : 0 ≤ p) (k : Q (0, yK σ p) M) : zWp kM_kindAt 0 [(1, 208), (0, p)] [] M Q := by
  refine zw_iload ⟨rfl, rfl⟩ rfl ?_
  refine zw_aload ⟨rfl, rfl⟩ rfl ?_
  refine zw_callv1 ⟨rfl, rfl⟩ rfl zc_208 rfl ?_
  refine m_Mmany hV hM ?_
  refine zw_icge ⟨rfl, rfl⟩ rfl (fun c1 => ?_) (fun c1 => ?_)
  · skip
    refine zw_const ⟨rfl, rfl⟩ ?_
    refine zw_ret rfl ?_
    rw [show yK σ p = -1 from if_neg (by omega)] at k
    exact k
  · skip
    have hl := yL_r hV hp (by omega)
    refine zw_aload ⟨rfl, rfl⟩ rfl ?_
    refine zw_aload ⟨rfl, rfl⟩ rfl ?_
    refine zw_iload ⟨rfl, rfl⟩ rfl ?_
    refine zw_callv2 ⟨rfl, rfl⟩ rfl zc_208 rfl ?_
    refine m_MletterAt hV hM ⟨hp, by omega⟩ ?_
    refine zw_callv2 ⟨rfl, rfl⟩ rfl zc_208 rfl ?_
    refine m_MkindOf hV hM hl ?_
    refine zw_goto ⟨rfl, rfl⟩ rfl ?_
    refine zw_ret rfl ?_
    have e := ykd_L hV hp (by omega)
    unfold ykd at e
    rw [if_pos hl] at e
    rw [e]
    exact k

theorem m_doJoin_209_l  {a b : Int} {M : zM} {Q : zV → zM → Prop} {σ : yS} (hA : ∀ j, 0 ≤ j → j < 122 → M 209 j = σ j) (hn : 0 ≤ σ 1 ∧ σ 1 ≤ 8) (k : Q (0, yjn σ a b) M) : ∀ (f : Nat) (i : Int), (0 ≤ i ∧ i ≤ σ 1) → (∀ j, 0 ≤ j → j < i → ¬ (σ (106 + 2 * j) = a ∧ σ (107 + 2 * j) = b)) → (σ 1 - i).toNat < f → zWp kM_doJoin 2 [(1, 209), (0, a), (0, b), (0, i)] [] M Q := by
  intro f
  induction f with
  | zero => intro i i1 i2 hf; exact absurd hf (Nat.not_lt_zero _)
  | succ f ih =>
    intro i i1 i2 hf
    refine zw_iload ⟨rfl, rfl⟩ rfl ?_
    refine zw_aload ⟨rfl, rfl⟩ rfl ?_
    refine zw_const ⟨rfl, rfl⟩ ?_
    refine zw_ialdv (v := σ (1)) ⟨rfl, rfl⟩ za_209 (by omega) (hA (1) (by omega) (by omega)) ?_
    refine zw_icge ⟨rfl, rfl⟩ rfl (fun c1 => ?_) (fun c1 => ?_)
    · skip
      refine zw_const ⟨rfl, rfl⟩ ?_
      refine zw_zret rfl (by first | exact Or.inl rfl | exact Or.inr rfl | omega) ?_
      rw [show yjn σ a b = 0 from yJ_0 σ a b (σ 1).toNat (fun j j1 j2 => i2 j j1 (by omega))] at k
      exact k
    · skip
      refine zw_aload ⟨rfl, rfl⟩ rfl ?_
      refine zw_const ⟨rfl, rfl⟩ ?_
      refine zw_const ⟨rfl, rfl⟩ ?_
      refine zw_iload ⟨rfl, rfl⟩ rfl ?_
      refine zw_imul ⟨rfl, rfl⟩ (by omega) ?_
      refine zw_iadd ⟨rfl, rfl⟩ (by omega) ?_
      refine zw_ialdv (v := σ ((106 + (2 * i)))) ⟨rfl, rfl⟩ za_209 (by omega) (hA ((106 + (2 * i))) (by omega) (by omega)) ?_
      refine zw_iload ⟨rfl, rfl⟩ rfl ?_
      refine zw_icne ⟨rfl, rfl⟩ rfl (fun c2 => ?_) (fun c2 => ?_)
      · skip
        refine zw_iinc_3 ⟨rfl, rfl⟩ (by omega) ?_
        refine zw_goto ⟨rfl, rfl⟩ rfl ?_
        refine ih _ ⟨by omega, by omega⟩ (fun j j1 j2 => ?_) (by omega)
        by_cases e : j = i
        · subst e; intro z; rw [show 107 + 2 * j = 106 + 2 * j + 1 by omega] at z; first | exact absurd z.1 (by assumption) | exact absurd z.2 (by assumption)
        · exact i2 j j1 (by omega)
      · skip
        refine zw_aload ⟨rfl, rfl⟩ rfl ?_
        refine zw_const ⟨rfl, rfl⟩ ?_
        refine zw_const ⟨rfl, rfl⟩ ?_
        refine zw_iload ⟨rfl, rfl⟩ rfl ?_
        refine zw_imul ⟨rfl, rfl⟩ (by omega) ?_
        refine zw_iadd ⟨rfl, rfl⟩ (by omega) ?_
        refine zw_const ⟨rfl, rfl⟩ ?_
        refine zw_iadd ⟨rfl, rfl⟩ (by omega) ?_
        refine zw_ialdv (v := σ (((106 + (2 * i)) + 1))) ⟨rfl, rfl⟩ za_209 (by omega) (hA (((106 + (2 * i)) + 1)) (by omega) (by omega)) ?_
        refine zw_iload ⟨rfl, rfl⟩ rfl ?_
        refine zw_icne ⟨rfl, rfl⟩ rfl (fun c3 => ?_) (fun c3 => ?_)
        · skip
          refine zw_iinc_3 ⟨rfl, rfl⟩ (by omega) ?_
          refine zw_goto ⟨rfl, rfl⟩ rfl ?_
          refine ih _ ⟨by omega, by omega⟩ (fun j j1 j2 => ?_) (by omega)
          by_cases e : j = i
          · subst e; intro z; rw [show 107 + 2 * j = 106 + 2 * j + 1 by omega] at z; first | exact absurd z.1 (by assumption) | exact absurd z.2 (by assumption)
          · exact i2 j j1 (by omega)
        · skip
          refine zw_const ⟨rfl, rfl⟩ ?_
          refine zw_zret rfl (by first | exact Or.inl rfl | exact Or.inr rfl | omega) ?_
          rw [show yjn σ a b = 1 from yJ_1 σ a b (σ 1).toNat i i1.1 (by omega) (by omega) (by rw [show 107 + 2 * i = 106 + 2 * i + 1 by omega]; omega)] at k
          exact k

theorem m_doJoin_209 {a b : Int} {M : zM} {Q : zV → zM → Prop} {σ : yS} (hA : ∀ j, 0 ≤ j → j < 122 → M 209 j = σ j) (hn : 0 ≤ σ 1 ∧ σ 1 ≤ 8) (k : Q (0, yjn σ a b) M) : zWp kM_doJoin 0 [(1, 209), (0, a), (0, b), (3, 0)] [] M Q := by
  refine zw_const ⟨rfl, rfl⟩ ?_
  refine zw_istore_3 ⟨rfl, rfl⟩ ?_
  exact m_doJoin_209_l hA hn k _ _ ⟨Int.le_refl _, hn.1⟩ (fun j j1 j2 => by omega) (Nat.lt_succ_self _)

theorem m_doJoin_237_l  {a b : Int} {M : zM} {Q : zV → zM → Prop} {σ : yS} (hA : ∀ j, 0 ≤ j → j < 122 → M 237 j = σ j) (hn : 0 ≤ σ 1 ∧ σ 1 ≤ 8) (k : Q (0, yjn σ a b) M) : ∀ (f : Nat) (i : Int), (0 ≤ i ∧ i ≤ σ 1) → (∀ j, 0 ≤ j → j < i → ¬ (σ (106 + 2 * j) = a ∧ σ (107 + 2 * j) = b)) → (σ 1 - i).toNat < f → zWp kM_doJoin 2 [(1, 237), (0, a), (0, b), (0, i)] [] M Q := by
  intro f
  induction f with
  | zero => intro i i1 i2 hf; exact absurd hf (Nat.not_lt_zero _)
  | succ f ih =>
    intro i i1 i2 hf
    refine zw_iload ⟨rfl, rfl⟩ rfl ?_
    refine zw_aload ⟨rfl, rfl⟩ rfl ?_
    refine zw_const ⟨rfl, rfl⟩ ?_
    refine zw_ialdv (v := σ (1)) ⟨rfl, rfl⟩ za_237 (by omega) (hA (1) (by omega) (by omega)) ?_
    refine zw_icge ⟨rfl, rfl⟩ rfl (fun c1 => ?_) (fun c1 => ?_)
    · skip
      refine zw_const ⟨rfl, rfl⟩ ?_
      refine zw_zret rfl (by first | exact Or.inl rfl | exact Or.inr rfl | omega) ?_
      rw [show yjn σ a b = 0 from yJ_0 σ a b (σ 1).toNat (fun j j1 j2 => i2 j j1 (by omega))] at k
      exact k
    · skip
      refine zw_aload ⟨rfl, rfl⟩ rfl ?_
      refine zw_const ⟨rfl, rfl⟩ ?_
      refine zw_const ⟨rfl, rfl⟩ ?_
      refine zw_iload ⟨rfl, rfl⟩ rfl ?_
      refine zw_imul ⟨rfl, rfl⟩ (by omega) ?_
      refine zw_iadd ⟨rfl, rfl⟩ (by omega) ?_
      refine zw_ialdv (v := σ ((106 + (2 * i)))) ⟨rfl, rfl⟩ za_237 (by omega) (hA ((106 + (2 * i))) (by omega) (by omega)) ?_
      refine zw_iload ⟨rfl, rfl⟩ rfl ?_
      refine zw_icne ⟨rfl, rfl⟩ rfl (fun c2 => ?_) (fun c2 => ?_)
      · skip
        refine zw_iinc_3 ⟨rfl, rfl⟩ (by omega) ?_
        refine zw_goto ⟨rfl, rfl⟩ rfl ?_
        refine ih _ ⟨by omega, by omega⟩ (fun j j1 j2 => ?_) (by omega)
        by_cases e : j = i
        · subst e; intro z; rw [show 107 + 2 * j = 106 + 2 * j + 1 by omega] at z; first | exact absurd z.1 (by assumption) | exact absurd z.2 (by assumption)
        · exact i2 j j1 (by omega)
      · skip
        refine zw_aload ⟨rfl, rfl⟩ rfl ?_
        refine zw_const ⟨rfl, rfl⟩ ?_
        refine zw_const ⟨rfl, rfl⟩ ?_
        refine zw_iload ⟨rfl, rfl⟩ rfl ?_
        refine zw_imul ⟨rfl, rfl⟩ (by omega) ?_
        refine zw_iadd ⟨rfl, rfl⟩ (by omega) ?_
        refine zw_const ⟨rfl, rfl⟩ ?_
        refine zw_iadd ⟨rfl, rfl⟩ (by omega) ?_
        refine zw_ialdv (v := σ (((106 + (2 * i)) + 1))) ⟨rfl, rfl⟩ za_237 (by omega) (hA (((106 + (2 * i)) + 1)) (by omega) (by omega)) ?_
        refine zw_iload ⟨rfl, rfl⟩ rfl ?_
        refine zw_icne ⟨rfl, rfl⟩ rfl (fun c3 => ?_) (fun c3 => ?_)
        · skip
          refine zw_iinc_3 ⟨rfl, rfl⟩ (by omega) ?_
          refine zw_goto ⟨rfl, rfl⟩ rfl ?_
          refine ih _ ⟨by omega, by omega⟩ (fun j j1 j2 => ?_) (by omega)
          by_cases e : j = i
          · subst e; intro z; rw [show 107 + 2 * j = 106 + 2 * j + 1 by omega] at z; first | exact absurd z.1 (by assumption) | exact absurd z.2 (by assumption)
          · exact i2 j j1 (by omega)
        · skip
          refine zw_const ⟨rfl, rfl⟩ ?_
          refine zw_zret rfl (by first | exact Or.inl rfl | exact Or.inr rfl | omega) ?_
          rw [show yjn σ a b = 1 from yJ_1 σ a b (σ 1).toNat i i1.1 (by omega) (by omega) (by rw [show 107 + 2 * i = 106 + 2 * i + 1 by omega]; omega)] at k
          exact k

theorem m_doJoin_237 {a b : Int} {M : zM} {Q : zV → zM → Prop} {σ : yS} (hA : ∀ j, 0 ≤ j → j < 122 → M 237 j = σ j) (hn : 0 ≤ σ 1 ∧ σ 1 ≤ 8) (k : Q (0, yjn σ a b) M) : zWp kM_doJoin 0 [(1, 237), (0, a), (0, b), (3, 0)] [] M Q := by
  refine zw_const ⟨rfl, rfl⟩ ?_
  refine zw_istore_3 ⟨rfl, rfl⟩ ?_
  exact m_doJoin_237_l hA hn k _ _ ⟨Int.le_refl _, hn.1⟩ (fun j j1 j2 => by omega) (Nat.lt_succ_self _)

theorem m_laysConsonant {p s : Int} {M : zM} {Q : zV → zM → Prop} {σ : yS} (hV : yVal σ) (hM : yMo M σ) (hp : 0 ≤ p ∧ p < 60) (hs0 : M 208 21 = s) (hs : 0 ≤ s ∧ s < 60) (k : Q (3, 0) (zup (zup (zup (zup (zup (zup M 222 s p) 223 s (ynk (yK σ) p)) 224 s (-1)) 225 s (-1)) 226 s 0) 208 21 (s + 1))) : zWp kM_laysConsonant 0 [(1, 208), (0, p)] [] M Q := by
  refine zw_aload ⟨rfl, rfl⟩ rfl ?_
  refine zw_getR 222 ⟨rfl, rfl⟩ zr_208_16 ?_
  refine zw_aload ⟨rfl, rfl⟩ rfl ?_
  refine zw_getIv (v := s) ⟨rfl, rfl⟩ zc_208 (by decide) (hs0) ?_
  refine zw_iload ⟨rfl, rfl⟩ rfl ?_
  refine zw_iast ⟨rfl, rfl⟩ za_222 (by omega) ?_
  refine zw_aload ⟨rfl, rfl⟩ rfl ?_
  refine zw_getR 223 ⟨rfl, rfl⟩ zr_208_17 ?_
  refine zw_aload ⟨rfl, rfl⟩ rfl ?_
  refine zw_getIv (v := s) ⟨rfl, rfl⟩ zc_208 (by decide) ((zup_na (by decide)).trans (hs0)) ?_
  refine zw_aload ⟨rfl, rfl⟩ rfl ?_
  refine zw_iload ⟨rfl, rfl⟩ rfl ?_
  refine zw_const ⟨rfl, rfl⟩ ?_
  refine zw_iadd ⟨rfl, rfl⟩ (by omega) ?_
  refine zw_callv2 ⟨rfl, rfl⟩ rfl zc_208 rfl ?_
  refine m_MkindAt hV (hM.cg (by rw [zup_row (by decide)])) (by omega) ?_
  refine zw_const ⟨rfl, rfl⟩ ?_
  refine zw_icne ⟨rfl, rfl⟩ rfl (fun c1 => ?_) (fun c1 => ?_)
  · skip
    refine zw_const ⟨rfl, rfl⟩ ?_
    refine zw_iast ⟨rfl, rfl⟩ za_223 (by omega) ?_
    refine zw_aload ⟨rfl, rfl⟩ rfl ?_
    refine zw_getR 224 ⟨rfl, rfl⟩ zr_208_18 ?_
    refine zw_aload ⟨rfl, rfl⟩ rfl ?_
    refine zw_getIv (v := s) ⟨rfl, rfl⟩ zc_208 (by decide) ((zup_na (by decide)).trans ((zup_na (by decide)).trans (hs0))) ?_
    refine zw_const ⟨rfl, rfl⟩ ?_
    refine zw_iast ⟨rfl, rfl⟩ za_224 (by omega) ?_
    refine zw_aload ⟨rfl, rfl⟩ rfl ?_
    refine zw_getR 225 ⟨rfl, rfl⟩ zr_208_19 ?_
    refine zw_aload ⟨rfl, rfl⟩ rfl ?_
    refine zw_getIv (v := s) ⟨rfl, rfl⟩ zc_208 (by decide) ((zup_na (by decide)).trans ((zup_na (by decide)).trans ((zup_na (by decide)).trans (hs0)))) ?_
    refine zw_const ⟨rfl, rfl⟩ ?_
    refine zw_iast ⟨rfl, rfl⟩ za_225 (by omega) ?_
    refine zw_aload ⟨rfl, rfl⟩ rfl ?_
    refine zw_getR 226 ⟨rfl, rfl⟩ zr_208_20 ?_
    refine zw_aload ⟨rfl, rfl⟩ rfl ?_
    refine zw_getIv (v := s) ⟨rfl, rfl⟩ zc_208 (by decide) ((zup_na (by decide)).trans ((zup_na (by decide)).trans ((zup_na (by decide)).trans ((zup_na (by decide)).trans (hs0))))) ?_
    refine zw_const ⟨rfl, rfl⟩ ?_
    refine zw_bast3 ⟨rfl, rfl⟩ za_226 (by omega) (by first | exact Or.inl rfl | exact Or.inr rfl | omega) ?_
    refine zw_aload ⟨rfl, rfl⟩ rfl ?_
    refine zw_dup ⟨rfl, rfl⟩ (by decide) ?_
    refine zw_getIv (v := s) ⟨rfl, rfl⟩ zc_208 (by decide) ((zup_na (by decide)).trans ((zup_na (by decide)).trans ((zup_na (by decide)).trans ((zup_na (by decide)).trans ((zup_na (by decide)).trans (hs0)))))) ?_
    refine zw_const ⟨rfl, rfl⟩ ?_
    refine zw_iadd ⟨rfl, rfl⟩ (by omega) ?_
    refine zw_putI ⟨rfl, rfl⟩ zc_208 (by decide) (fun h => absurd h (by decide)) ?_
    refine zw_void rfl ?_
    rw [show ynk (yK σ) p = (-1) from by unfold ynk; first | (rw [if_pos (by omega)]; done) | (rw [if_neg (by omega)]; done)] at k
    exact k
  · skip
    refine zw_iload ⟨rfl, rfl⟩ rfl ?_
    refine zw_const ⟨rfl, rfl⟩ ?_
    refine zw_iadd ⟨rfl, rfl⟩ (by omega) ?_
    refine zw_goto ⟨rfl, rfl⟩ rfl ?_
    refine zw_iast ⟨rfl, rfl⟩ za_223 (by omega) ?_
    refine zw_aload ⟨rfl, rfl⟩ rfl ?_
    refine zw_getR 224 ⟨rfl, rfl⟩ zr_208_18 ?_
    refine zw_aload ⟨rfl, rfl⟩ rfl ?_
    refine zw_getIv (v := s) ⟨rfl, rfl⟩ zc_208 (by decide) ((zup_na (by decide)).trans ((zup_na (by decide)).trans (hs0))) ?_
    refine zw_const ⟨rfl, rfl⟩ ?_
    refine zw_iast ⟨rfl, rfl⟩ za_224 (by omega) ?_
    refine zw_aload ⟨rfl, rfl⟩ rfl ?_
    refine zw_getR 225 ⟨rfl, rfl⟩ zr_208_19 ?_
    refine zw_aload ⟨rfl, rfl⟩ rfl ?_
    refine zw_getIv (v := s) ⟨rfl, rfl⟩ zc_208 (by decide) ((zup_na (by decide)).trans ((zup_na (by decide)).trans ((zup_na (by decide)).trans (hs0)))) ?_
    refine zw_const ⟨rfl, rfl⟩ ?_
    refine zw_iast ⟨rfl, rfl⟩ za_225 (by omega) ?_
    refine zw_aload ⟨rfl, rfl⟩ rfl ?_
    refine zw_getR 226 ⟨rfl, rfl⟩ zr_208_20 ?_
    refine zw_aload ⟨rfl, rfl⟩ rfl ?_
    refine zw_getIv (v := s) ⟨rfl, rfl⟩ zc_208 (by decide) ((zup_na (by decide)).trans ((zup_na (by decide)).trans ((zup_na (by decide)).trans ((zup_na (by decide)).trans (hs0))))) ?_
    refine zw_const ⟨rfl, rfl⟩ ?_
    refine zw_bast3 ⟨rfl, rfl⟩ za_226 (by omega) (by first | exact Or.inl rfl | exact Or.inr rfl | omega) ?_
    refine zw_aload ⟨rfl, rfl⟩ rfl ?_
    refine zw_dup ⟨rfl, rfl⟩ (by decide) ?_
    refine zw_getIv (v := s) ⟨rfl, rfl⟩ zc_208 (by decide) ((zup_na (by decide)).trans ((zup_na (by decide)).trans ((zup_na (by decide)).trans ((zup_na (by decide)).trans ((zup_na (by decide)).trans (hs0)))))) ?_
    refine zw_const ⟨rfl, rfl⟩ ?_
    refine zw_iadd ⟨rfl, rfl⟩ (by omega) ?_
    refine zw_putI ⟨rfl, rfl⟩ zc_208 (by decide) (fun h => absurd h (by decide)) ?_
    refine zw_void rfl ?_
    rw [show ynk (yK σ) p = p + 1 from by unfold ynk; first | (rw [if_pos (by omega)]; done) | (rw [if_neg (by omega)]; done)] at k
    exact k

theorem ynk_c (K : Int → Int) (x : Int) : (K (x + 1) = 4 ∧ ynk K x = x + 1 ∧ yq K x = x + 2) ∨ (K (x + 1) ≠ 4 ∧ ynk K x = -1 ∧ yq K x = x + 1) := by
  unfold ynk yq
  split
  · rename_i h; exact Or.inl ⟨h, rfl, rfl⟩
  · rename_i h; exact Or.inr ⟨h, rfl, rfl⟩

section
set_option maxHeartbeats 8000000
theorem m_chains_l  {b : Int} {M : zM} {Q : zV → zM → Prop} {σ : yS} (hV : yVal σ) (hM : yMo M σ) (h0 : 0 ≤ b) (h1 : b < σ 0) (h : yK σ b = 1) (kk : ∀ N : zM, ((N 208 21 = ym (yK σ) b ∧ ∀ k, 0 ≤ k → k < ym (yK σ) b → N 222 k = ypl (yK σ) b k ∧ N 223 k = ynk (yK σ) (ypl (yK σ) b k) ∧ N 224 k = yvi (yK σ) (ypl (yK σ) b k) ∧ N 225 k = yjo (yK σ) (ypl (yK σ) b k) ∧ N 226 k = 0) ∧ (∀ x, ¬ (222 ≤ x ∧ x ≤ 226) → x ≠ 208 → N x = M x) ∧ ∀ j, j ≠ 21 → N 208 j = M 208 j) → Q (0, yq (yK σ) (ypl (yK σ) b (ym (yK σ) b - 1))) N) : ∀ (f : Nat) (p g : Int) (u : zV) (N : zM), (1 ≤ N 208 21 ∧ (∀ j, 0 ≤ j → j < N 208 21 - 1 → ync (yK σ) (ypl (yK σ) b j) ≠ -1) ∧ p = yq (yK σ) (ypl (yK σ) b (N 208 21 - 1))) → (g = 1 ∨ (g = 0 ∧ ync (yK σ) (ypl (yK σ) b (N 208 21 - 1)) = -1)) → (∀ k, 0 ≤ k → k < N 208 21 → N 222 k = ypl (yK σ) b k ∧ N 223 k = ynk (yK σ) (ypl (yK σ) b k) ∧ N 224 k = (if k + 1 = N 208 21 then -1 else yvi (yK σ) (ypl (yK σ) b k)) ∧ N 225 k = (if k + 1 = N 208 21 then -1 else yjo (yK σ) (ypl (yK σ) b k)) ∧ N 226 k = 0) → ((∀ x, ¬ (222 ≤ x ∧ x ≤ 226) → x ≠ 208 → N x = M x) ∧ ∀ j, j ≠ 21 → N 208 j = M 208 j) → (2 * (σ 0 - p) + g).toNat < f → zWp kM_chains 12 [(1, 208), (0, b), (0, p), (0, g), u] [] N Q := by
  intro f
  induction f with
  | zero => intro p g u N i1 i2 i3 i4 hf; exact absurd hf (Nat.not_lt_zero _)
  | succ f ih =>
    intro p g u N i1 i2 i3 i4 hf
    have hK := yKr_K hV
    have hn := hV.1
    have hM2 : yMo N σ := hM.cg (i4.1 209 (by decide) (by decide))
    have hm := ym_r hK h0 h1 h
    have hsm : N 208 21 ≤ ym (yK σ) b := by
      by_cases z : ym (yK σ) b < N 208 21
      · have := i1.2.1 (ym (yK σ) b - 1) (by omega) (by omega)
        exact absurd ((ypl_r hK h0 h1 h (show 0 ≤ ym (yK σ) b - 1 by omega) (by omega)).2.mpr rfl) this
      · omega
    have hpp := (ypl_r hK h0 h1 h (show 0 ≤ N 208 21 - 1 by omega) (by omega)).1
    have hqr := yq_r (yK σ) (ypl (yK σ) b (N 208 21 - 1))
    have hqn := yq_n hK hpp.2.2
    refine zw_iload ⟨rfl, rfl⟩ rfl ?_
    refine zw_ifeq ⟨rfl, rfl⟩ rfl (fun c1 => ?_) (fun c1 => ?_)
    · skip
      refine zw_iload ⟨rfl, rfl⟩ rfl ?_
      refine zw_ret rfl ?_
      have hl : ync (yK σ) (ypl (yK σ) b (N 208 21 - 1)) = -1 := by
        rcases i2 with z | z
        · omega
        · exact z.2
      have em := ypl_u hK h0 h1 h (k := N 208 21 - 1) (by omega) i1.2.1 hl
      have es : N 208 21 = ym (yK σ) b := by omega
      have k2 := kk N ⟨⟨es, fun j j1 j2 => ?_⟩, i4⟩
      · rw [← es, ← i1.2.2] at k2
        exact k2
      · obtain ⟨a1, a2, a3, a4, a5⟩ := i3 j j1 (by omega)
        rw [es] at a3 a4
        refine ⟨a1, a2, ?_, ?_, a5⟩
        · rw [a3]; split
          · rename_i z; rw [show j = N 208 21 - 1 by omega]; exact (if_pos hl).symm
          · rfl
        · rw [a4]; split
          · rename_i z; rw [show j = N 208 21 - 1 by omega]; exact (if_pos hl).symm
          · rfl
    · skip
      refine zw_aload ⟨rfl, rfl⟩ rfl ?_
      refine zw_iload ⟨rfl, rfl⟩ rfl ?_
      refine zw_callv2 ⟨rfl, rfl⟩ rfl zc_208 rfl ?_
      refine m_MkindAt hV hM2 (by omega) ?_
      refine zw_const ⟨rfl, rfl⟩ ?_
      refine zw_iceq ⟨rfl, rfl⟩ rfl (fun c2 => ?_) (fun c2 => ?_)
      · skip
        refine zw_aload ⟨rfl, rfl⟩ rfl ?_
        refine zw_iload ⟨rfl, rfl⟩ rfl ?_
        refine zw_const ⟨rfl, rfl⟩ ?_
        refine zw_iadd ⟨rfl, rfl⟩ (by omega) ?_
        refine zw_callv2 ⟨rfl, rfl⟩ rfl zc_208 rfl ?_
        refine m_MkindAt hV hM2 (by omega) ?_
        refine zw_calls1 ⟨rfl, rfl⟩ rfl rfl ?_
        refine zw_iload ⟨rfl, rfl⟩ rfl ?_
        refine zw_const ⟨rfl, rfl⟩ ?_
        refine zw_iceq ⟨rfl, rfl⟩ rfl (fun c3 => ?_) (fun c3 => ?_)
        · skip
          refine zw_const ⟨rfl, rfl⟩ ?_
          refine zw_goto ⟨rfl, rfl⟩ rfl ?_
          refine zw_zret rfl (by first | exact Or.inl rfl | exact Or.inr rfl | omega) ?_
          refine zw_ifeq ⟨rfl, rfl⟩ rfl (fun q => absurd q (by decide)) (fun _ => ?_)
          refine zw_iload ⟨rfl, rfl⟩ rfl ?_
          refine zw_const ⟨rfl, rfl⟩ ?_
          refine zw_iadd ⟨rfl, rfl⟩ (by omega) ?_
          refine zw_goto ⟨rfl, rfl⟩ rfl ?_
          refine zw_istore_4 ⟨rfl, rfl⟩ ?_
          refine zw_iload ⟨rfl, rfl⟩ rfl ?_
          refine zw_const ⟨rfl, rfl⟩ ?_
          refine zw_iceq ⟨rfl, rfl⟩ rfl (fun c5 => ?_) (fun c5 => ?_)
          · skip
            refine zw_const ⟨rfl, rfl⟩ ?_
            refine zw_istore_3 ⟨rfl, rfl⟩ ?_
            refine zw_iload ⟨rfl, rfl⟩ rfl ?_
            refine zw_ifne ⟨rfl, rfl⟩ rfl (fun q => absurd q (by decide)) (fun _ => ?_)
            refine zw_goto ⟨rfl, rfl⟩ rfl ?_
            refine ih _ _ _ _ i1 (Or.inr ⟨rfl, ?_⟩) i3 i4 (by omega)
            have e1 := i1.2.2
            unfold ync
            rw [← e1]
            (repeat' split) <;> omega
          · skip
            refine zw_aload ⟨rfl, rfl⟩ rfl ?_
            refine zw_iload ⟨rfl, rfl⟩ rfl ?_
            refine zw_callv2 ⟨rfl, rfl⟩ rfl zc_208 rfl ?_
            refine m_MkindAt hV hM2 (by omega) ?_
            refine zw_const ⟨rfl, rfl⟩ ?_
            refine zw_icne ⟨rfl, rfl⟩ rfl (fun c7 => ?_) (fun c7 => ?_)
            · skip
              refine zw_const ⟨rfl, rfl⟩ ?_
              refine zw_istore_3 ⟨rfl, rfl⟩ ?_
              refine zw_iload ⟨rfl, rfl⟩ rfl ?_
              refine zw_ifne ⟨rfl, rfl⟩ rfl (fun q => absurd q (by decide)) (fun _ => ?_)
              refine zw_goto ⟨rfl, rfl⟩ rfl ?_
              refine ih _ _ _ _ i1 (Or.inr ⟨rfl, ?_⟩) i3 i4 (by omega)
              have e1 := i1.2.2
              unfold ync
              rw [← e1]
              (repeat' split) <;> omega
            · skip
              refine zw_const ⟨rfl, rfl⟩ ?_
              refine zw_goto ⟨rfl, rfl⟩ rfl ?_
              refine zw_istore_3 ⟨rfl, rfl⟩ ?_
              refine zw_iload ⟨rfl, rfl⟩ rfl ?_
              refine zw_ifne ⟨rfl, rfl⟩ rfl (fun _ => ?_) (fun q => absurd (by decide) q)
              have hnx := fun (x : Int) (hx : yK σ x = 1) => ykp hK (p := x) (by rw [hx]; decide)
              have hq1 := hnx (p + 1)
              have hq2 := hnx (p + 2)
              refine zw_aload ⟨rfl, rfl⟩ rfl ?_
              refine zw_getR 224 ⟨rfl, rfl⟩ zr_208_18 ?_
              refine zw_aload ⟨rfl, rfl⟩ rfl ?_
              refine zw_getIv (v := N 208 21) ⟨rfl, rfl⟩ zc_208 (by decide) rfl ?_
              refine zw_const ⟨rfl, rfl⟩ ?_
              refine zw_isub ⟨rfl, rfl⟩ (by omega) ?_
              refine zw_iload ⟨rfl, rfl⟩ rfl ?_
              refine zw_iast ⟨rfl, rfl⟩ za_224 (by omega) ?_
              refine zw_aload ⟨rfl, rfl⟩ rfl ?_
              refine zw_getR 225 ⟨rfl, rfl⟩ zr_208_19 ?_
              refine zw_aload ⟨rfl, rfl⟩ rfl ?_
              refine zw_getIv (v := N 208 21) ⟨rfl, rfl⟩ zc_208 (by decide) (zup_na (by decide)) ?_
              refine zw_const ⟨rfl, rfl⟩ ?_
              refine zw_isub ⟨rfl, rfl⟩ (by omega) ?_
              refine zw_iload ⟨rfl, rfl⟩ rfl ?_
              refine zw_iload ⟨rfl, rfl⟩ rfl ?_
              refine zw_const ⟨rfl, rfl⟩ ?_
              refine zw_iadd ⟨rfl, rfl⟩ (by omega) ?_
              refine zw_icne ⟨rfl, rfl⟩ rfl (fun c10 => ?_) (fun c10 => ?_)
              · skip
                refine zw_const ⟨rfl, rfl⟩ ?_
                refine zw_iast ⟨rfl, rfl⟩ za_225 (by omega) ?_
                refine zw_aload ⟨rfl, rfl⟩ rfl ?_
                refine zw_iload ⟨rfl, rfl⟩ rfl ?_
                refine zw_cavv2 ⟨rfl, rfl⟩ rfl zc_208 rfl ?_
                refine m_laysConsonant hV (hM2.cg (by rw [zup_row (by decide), zup_row (by decide)])) ⟨by omega, by omega⟩ (s := N 208 21) rfl ⟨by omega, by omega⟩ ?_
                have hnk := ynk_c (yK σ) (p + 2)
                refine zw_aload ⟨rfl, rfl⟩ rfl ?_
                refine zw_aload ⟨rfl, rfl⟩ rfl ?_
                refine zw_getIv (v := N 208 21 + 1) ⟨rfl, rfl⟩ zc_208 (by decide) (zup_eq _ _ _ _) ?_
                refine zw_const ⟨rfl, rfl⟩ ?_
                refine zw_isub ⟨rfl, rfl⟩ (by omega) ?_
                rw [show (N 208 21 + 1) - 1 = N 208 21 by omega]
                refine zw_callv2 ⟨rfl, rfl⟩ rfl zc_208 rfl ?_
                refine zw_aload ⟨rfl, rfl⟩ rfl ?_
                refine zw_getR 223 ⟨rfl, rfl⟩ zr_208_17 ?_
                refine zw_iload ⟨rfl, rfl⟩ rfl ?_
                refine zw_ialdv (v := ynk (yK σ) (p + 2)) ⟨rfl, rfl⟩ za_223 (by omega) ((zup_na (by decide)).trans ((zup_na (by decide)).trans ((zup_na (by decide)).trans ((zup_na (by decide)).trans (zup_eq _ _ _ _))))) ?_
                refine zw_const ⟨rfl, rfl⟩ ?_
                refine zw_icne ⟨rfl, rfl⟩ rfl (fun c11 => ?_) (fun c11 => ?_)
                · skip
                  refine zw_aload ⟨rfl, rfl⟩ rfl ?_
                  refine zw_getR 223 ⟨rfl, rfl⟩ zr_208_17 ?_
                  refine zw_iload ⟨rfl, rfl⟩ rfl ?_
                  refine zw_ialdv (v := ynk (yK σ) (p + 2)) ⟨rfl, rfl⟩ za_223 (by omega) ((zup_na (by decide)).trans ((zup_na (by decide)).trans ((zup_na (by decide)).trans ((zup_na (by decide)).trans (zup_eq _ _ _ _))))) ?_
                  refine zw_const ⟨rfl, rfl⟩ ?_
                  refine zw_iadd ⟨rfl, rfl⟩ (by omega) ?_
                  refine zw_ret rfl ?_
                  refine zw_istore_2 ⟨rfl, rfl⟩ ?_
                  refine zw_goto ⟨rfl, rfl⟩ rfl ?_
                  have hc : ync (yK σ) (ypl (yK σ) b (N 208 21 - 1)) = p + 2 := by
                    have e1 := i1.2.2
                    unfold ync
                    rw [← e1]
                    (repeat' split) <;> omega
                  have hpl : ypl (yK σ) b (N 208 21) = p + 2 := by
                    have := ypl_s (yK σ) b (k := N 208 21 - 1) (by omega)
                    rw [show N 208 21 - 1 + 1 = N 208 21 by omega] at this
                    rw [this, hc]
                  have e0 : (zup (zup (zup (zup (zup (zup (zup (zup N 224 ((N 208 21) - 1) p) 225 ((N 208 21) - 1) (-1)) 222 (N 208 21) (p + 2)) 223 (N 208 21) (ynk (yK σ) (p + 2))) 224 (N 208 21) (-1)) 225 (N 208 21) (-1)) 226 (N 208 21) 0) 208 21 (N 208 21 + 1)) 208 21 = N 208 21 + 1 := zup_eq _ _ _ _
                  refine ih _ _ _ _ ?_ (Or.inl rfl) ?_ ⟨fun x x1 x2 => ?_, fun j hj => ?_⟩ ?_
                  · rw [e0]
                    refine ⟨by omega, fun j j1 j2 => ?_, ?_⟩
                    · by_cases e : j = N 208 21 - 1
                      · rw [e, hc]; omega
                      · exact i1.2.1 j j1 (by omega)
                    · rw [show N 208 21 + 1 - 1 = N 208 21 by omega, hpl]
                      omega
                  · rw [e0]
                    intro k k1 k2
                    by_cases e : k = N 208 21
                    · subst e
                      rw [hpl]
                      simp [zup]
                    · have i33 := i3 k k1 (by omega)
                      rw [if_neg (by omega), if_neg (by omega)]
                      refine ⟨?_, ?_, ?_, ?_, ?_⟩
                      · simp [zup, e]; exact i33.1
                      · simp [zup, e]; exact i33.2.1
                      · simp [zup, e]
                        by_cases e2 : k = N 208 21 - 1
                        · subst e2
                          simp
                          unfold yvi
                          rw [if_neg (by rw [hc]; omega)]
                          exact i1.2.2
                        · rw [if_neg e2]
                          have := i33.2.2.1
                          rw [if_neg (by omega)] at this
                          exact this
                      · simp [zup, e]
                        by_cases e2 : k = N 208 21 - 1
                        · subst e2
                          simp
                          unfold yjo
                          rw [if_neg (by rw [hc]; omega), ← i1.2.2]
                          (repeat' split) <;> omega
                        · rw [if_neg e2]
                          have := i33.2.2.2.1
                          rw [if_neg (by omega)] at this
                          exact this
                      · simp [zup, e]; exact i33.2.2.2.2
                  · rw [zup_row x2, zup_row (by omega), zup_row (by omega), zup_row (by omega), zup_row (by omega), zup_row (by omega), zup_row (by omega), zup_row (by omega)]
                    exact i4.1 x x1 x2
                  · rw [zup_ni hj]; exact i4.2 j hj
                  · omega
                · skip
                  refine zw_aload ⟨rfl, rfl⟩ rfl ?_
                  refine zw_getR 222 ⟨rfl, rfl⟩ zr_208_16 ?_
                  refine zw_iload ⟨rfl, rfl⟩ rfl ?_
                  refine zw_ialdv (v := p + 2) ⟨rfl, rfl⟩ za_222 (by omega) ((zup_na (by decide)).trans ((zup_na (by decide)).trans ((zup_na (by decide)).trans ((zup_na (by decide)).trans ((zup_na (by decide)).trans (zup_eq _ _ _ _)))))) ?_
                  refine zw_const ⟨rfl, rfl⟩ ?_
                  refine zw_iadd ⟨rfl, rfl⟩ (by omega) ?_
                  refine zw_goto ⟨rfl, rfl⟩ rfl ?_
                  refine zw_ret rfl ?_
                  refine zw_istore_2 ⟨rfl, rfl⟩ ?_
                  refine zw_goto ⟨rfl, rfl⟩ rfl ?_
                  have hc : ync (yK σ) (ypl (yK σ) b (N 208 21 - 1)) = p + 2 := by
                    have e1 := i1.2.2
                    unfold ync
                    rw [← e1]
                    (repeat' split) <;> omega
                  have hpl : ypl (yK σ) b (N 208 21) = p + 2 := by
                    have := ypl_s (yK σ) b (k := N 208 21 - 1) (by omega)
                    rw [show N 208 21 - 1 + 1 = N 208 21 by omega] at this
                    rw [this, hc]
                  have e0 : (zup (zup (zup (zup (zup (zup (zup (zup N 224 ((N 208 21) - 1) p) 225 ((N 208 21) - 1) (-1)) 222 (N 208 21) (p + 2)) 223 (N 208 21) (ynk (yK σ) (p + 2))) 224 (N 208 21) (-1)) 225 (N 208 21) (-1)) 226 (N 208 21) 0) 208 21 (N 208 21 + 1)) 208 21 = N 208 21 + 1 := zup_eq _ _ _ _
                  refine ih _ _ _ _ ?_ (Or.inl rfl) ?_ ⟨fun x x1 x2 => ?_, fun j hj => ?_⟩ ?_
                  · rw [e0]
                    refine ⟨by omega, fun j j1 j2 => ?_, ?_⟩
                    · by_cases e : j = N 208 21 - 1
                      · rw [e, hc]; omega
                      · exact i1.2.1 j j1 (by omega)
                    · rw [show N 208 21 + 1 - 1 = N 208 21 by omega, hpl]
                      omega
                  · rw [e0]
                    intro k k1 k2
                    by_cases e : k = N 208 21
                    · subst e
                      rw [hpl]
                      simp [zup]
                    · have i33 := i3 k k1 (by omega)
                      rw [if_neg (by omega), if_neg (by omega)]
                      refine ⟨?_, ?_, ?_, ?_, ?_⟩
                      · simp [zup, e]; exact i33.1
                      · simp [zup, e]; exact i33.2.1
                      · simp [zup, e]
                        by_cases e2 : k = N 208 21 - 1
                        · subst e2
                          simp
                          unfold yvi
                          rw [if_neg (by rw [hc]; omega)]
                          exact i1.2.2
                        · rw [if_neg e2]
                          have := i33.2.2.1
                          rw [if_neg (by omega)] at this
                          exact this
                      · simp [zup, e]
                        by_cases e2 : k = N 208 21 - 1
                        · subst e2
                          simp
                          unfold yjo
                          rw [if_neg (by rw [hc]; omega), ← i1.2.2]
                          (repeat' split) <;> omega
                        · rw [if_neg e2]
                          have := i33.2.2.2.1
                          rw [if_neg (by omega)] at this
                          exact this
                      · simp [zup, e]; exact i33.2.2.2.2
                  · rw [zup_row x2, zup_row (by omega), zup_row (by omega), zup_row (by omega), zup_row (by omega), zup_row (by omega), zup_row (by omega), zup_row (by omega)]
                    exact i4.1 x x1 x2
                  · rw [zup_ni hj]; exact i4.2 j hj
                  · omega
              · skip
                refine zw_iload ⟨rfl, rfl⟩ rfl ?_
                refine zw_const ⟨rfl, rfl⟩ ?_
                refine zw_iadd ⟨rfl, rfl⟩ (by omega) ?_
                refine zw_goto ⟨rfl, rfl⟩ rfl ?_
                refine zw_iast ⟨rfl, rfl⟩ za_225 (by omega) ?_
                refine zw_aload ⟨rfl, rfl⟩ rfl ?_
                refine zw_iload ⟨rfl, rfl⟩ rfl ?_
                refine zw_cavv2 ⟨rfl, rfl⟩ rfl zc_208 rfl ?_
                refine m_laysConsonant hV (hM2.cg (by rw [zup_row (by decide), zup_row (by decide)])) ⟨by omega, by omega⟩ (s := N 208 21) rfl ⟨by omega, by omega⟩ ?_
                have hnk := ynk_c (yK σ) (p + 2)
                refine zw_aload ⟨rfl, rfl⟩ rfl ?_
                refine zw_aload ⟨rfl, rfl⟩ rfl ?_
                refine zw_getIv (v := N 208 21 + 1) ⟨rfl, rfl⟩ zc_208 (by decide) (zup_eq _ _ _ _) ?_
                refine zw_const ⟨rfl, rfl⟩ ?_
                refine zw_isub ⟨rfl, rfl⟩ (by omega) ?_
                rw [show (N 208 21 + 1) - 1 = N 208 21 by omega]
                refine zw_callv2 ⟨rfl, rfl⟩ rfl zc_208 rfl ?_
                refine zw_aload ⟨rfl, rfl⟩ rfl ?_
                refine zw_getR 223 ⟨rfl, rfl⟩ zr_208_17 ?_
                refine zw_iload ⟨rfl, rfl⟩ rfl ?_
                refine zw_ialdv (v := ynk (yK σ) (p + 2)) ⟨rfl, rfl⟩ za_223 (by omega) ((zup_na (by decide)).trans ((zup_na (by decide)).trans ((zup_na (by decide)).trans ((zup_na (by decide)).trans (zup_eq _ _ _ _))))) ?_
                refine zw_const ⟨rfl, rfl⟩ ?_
                refine zw_icne ⟨rfl, rfl⟩ rfl (fun c12 => ?_) (fun c12 => ?_)
                · skip
                  refine zw_aload ⟨rfl, rfl⟩ rfl ?_
                  refine zw_getR 223 ⟨rfl, rfl⟩ zr_208_17 ?_
                  refine zw_iload ⟨rfl, rfl⟩ rfl ?_
                  refine zw_ialdv (v := ynk (yK σ) (p + 2)) ⟨rfl, rfl⟩ za_223 (by omega) ((zup_na (by decide)).trans ((zup_na (by decide)).trans ((zup_na (by decide)).trans ((zup_na (by decide)).trans (zup_eq _ _ _ _))))) ?_
                  refine zw_const ⟨rfl, rfl⟩ ?_
                  refine zw_iadd ⟨rfl, rfl⟩ (by omega) ?_
                  refine zw_ret rfl ?_
                  refine zw_istore_2 ⟨rfl, rfl⟩ ?_
                  refine zw_goto ⟨rfl, rfl⟩ rfl ?_
                  have hc : ync (yK σ) (ypl (yK σ) b (N 208 21 - 1)) = p + 2 := by
                    have e1 := i1.2.2
                    unfold ync
                    rw [← e1]
                    (repeat' split) <;> omega
                  have hpl : ypl (yK σ) b (N 208 21) = p + 2 := by
                    have := ypl_s (yK σ) b (k := N 208 21 - 1) (by omega)
                    rw [show N 208 21 - 1 + 1 = N 208 21 by omega] at this
                    rw [this, hc]
                  have e0 : (zup (zup (zup (zup (zup (zup (zup (zup N 224 ((N 208 21) - 1) p) 225 ((N 208 21) - 1) (p + 1)) 222 (N 208 21) (p + 2)) 223 (N 208 21) (ynk (yK σ) (p + 2))) 224 (N 208 21) (-1)) 225 (N 208 21) (-1)) 226 (N 208 21) 0) 208 21 (N 208 21 + 1)) 208 21 = N 208 21 + 1 := zup_eq _ _ _ _
                  refine ih _ _ _ _ ?_ (Or.inl rfl) ?_ ⟨fun x x1 x2 => ?_, fun j hj => ?_⟩ ?_
                  · rw [e0]
                    refine ⟨by omega, fun j j1 j2 => ?_, ?_⟩
                    · by_cases e : j = N 208 21 - 1
                      · rw [e, hc]; omega
                      · exact i1.2.1 j j1 (by omega)
                    · rw [show N 208 21 + 1 - 1 = N 208 21 by omega, hpl]
                      omega
                  · rw [e0]
                    intro k k1 k2
                    by_cases e : k = N 208 21
                    · subst e
                      rw [hpl]
                      simp [zup]
                    · have i33 := i3 k k1 (by omega)
                      rw [if_neg (by omega), if_neg (by omega)]
                      refine ⟨?_, ?_, ?_, ?_, ?_⟩
                      · simp [zup, e]; exact i33.1
                      · simp [zup, e]; exact i33.2.1
                      · simp [zup, e]
                        by_cases e2 : k = N 208 21 - 1
                        · subst e2
                          simp
                          unfold yvi
                          rw [if_neg (by rw [hc]; omega)]
                          exact i1.2.2
                        · rw [if_neg e2]
                          have := i33.2.2.1
                          rw [if_neg (by omega)] at this
                          exact this
                      · simp [zup, e]
                        by_cases e2 : k = N 208 21 - 1
                        · subst e2
                          simp
                          unfold yjo
                          rw [if_neg (by rw [hc]; omega), ← i1.2.2]
                          (repeat' split) <;> omega
                        · rw [if_neg e2]
                          have := i33.2.2.2.1
                          rw [if_neg (by omega)] at this
                          exact this
                      · simp [zup, e]; exact i33.2.2.2.2
                  · rw [zup_row x2, zup_row (by omega), zup_row (by omega), zup_row (by omega), zup_row (by omega), zup_row (by omega), zup_row (by omega), zup_row (by omega)]
                    exact i4.1 x x1 x2
                  · rw [zup_ni hj]; exact i4.2 j hj
                  · omega
                · skip
                  refine zw_aload ⟨rfl, rfl⟩ rfl ?_
                  refine zw_getR 222 ⟨rfl, rfl⟩ zr_208_16 ?_
                  refine zw_iload ⟨rfl, rfl⟩ rfl ?_
                  refine zw_ialdv (v := p + 2) ⟨rfl, rfl⟩ za_222 (by omega) ((zup_na (by decide)).trans ((zup_na (by decide)).trans ((zup_na (by decide)).trans ((zup_na (by decide)).trans ((zup_na (by decide)).trans (zup_eq _ _ _ _)))))) ?_
                  refine zw_const ⟨rfl, rfl⟩ ?_
                  refine zw_iadd ⟨rfl, rfl⟩ (by omega) ?_
                  refine zw_goto ⟨rfl, rfl⟩ rfl ?_
                  refine zw_ret rfl ?_
                  refine zw_istore_2 ⟨rfl, rfl⟩ ?_
                  refine zw_goto ⟨rfl, rfl⟩ rfl ?_
                  have hc : ync (yK σ) (ypl (yK σ) b (N 208 21 - 1)) = p + 2 := by
                    have e1 := i1.2.2
                    unfold ync
                    rw [← e1]
                    (repeat' split) <;> omega
                  have hpl : ypl (yK σ) b (N 208 21) = p + 2 := by
                    have := ypl_s (yK σ) b (k := N 208 21 - 1) (by omega)
                    rw [show N 208 21 - 1 + 1 = N 208 21 by omega] at this
                    rw [this, hc]
                  have e0 : (zup (zup (zup (zup (zup (zup (zup (zup N 224 ((N 208 21) - 1) p) 225 ((N 208 21) - 1) (p + 1)) 222 (N 208 21) (p + 2)) 223 (N 208 21) (ynk (yK σ) (p + 2))) 224 (N 208 21) (-1)) 225 (N 208 21) (-1)) 226 (N 208 21) 0) 208 21 (N 208 21 + 1)) 208 21 = N 208 21 + 1 := zup_eq _ _ _ _
                  refine ih _ _ _ _ ?_ (Or.inl rfl) ?_ ⟨fun x x1 x2 => ?_, fun j hj => ?_⟩ ?_
                  · rw [e0]
                    refine ⟨by omega, fun j j1 j2 => ?_, ?_⟩
                    · by_cases e : j = N 208 21 - 1
                      · rw [e, hc]; omega
                      · exact i1.2.1 j j1 (by omega)
                    · rw [show N 208 21 + 1 - 1 = N 208 21 by omega, hpl]
                      omega
                  · rw [e0]
                    intro k k1 k2
                    by_cases e : k = N 208 21
                    · subst e
                      rw [hpl]
                      simp [zup]
                    · have i33 := i3 k k1 (by omega)
                      rw [if_neg (by omega), if_neg (by omega)]
                      refine ⟨?_, ?_, ?_, ?_, ?_⟩
                      · simp [zup, e]; exact i33.1
                      · simp [zup, e]; exact i33.2.1
                      · simp [zup, e]
                        by_cases e2 : k = N 208 21 - 1
                        · subst e2
                          simp
                          unfold yvi
                          rw [if_neg (by rw [hc]; omega)]
                          exact i1.2.2
                        · rw [if_neg e2]
                          have := i33.2.2.1
                          rw [if_neg (by omega)] at this
                          exact this
                      · simp [zup, e]
                        by_cases e2 : k = N 208 21 - 1
                        · subst e2
                          simp
                          unfold yjo
                          rw [if_neg (by rw [hc]; omega), ← i1.2.2]
                          (repeat' split) <;> omega
                        · rw [if_neg e2]
                          have := i33.2.2.2.1
                          rw [if_neg (by omega)] at this
                          exact this
                      · simp [zup, e]; exact i33.2.2.2.2
                  · rw [zup_row x2, zup_row (by omega), zup_row (by omega), zup_row (by omega), zup_row (by omega), zup_row (by omega), zup_row (by omega), zup_row (by omega)]
                    exact i4.1 x x1 x2
                  · rw [zup_ni hj]; exact i4.2 j hj
                  · omega
        · skip
          refine zw_iload ⟨rfl, rfl⟩ rfl ?_
          refine zw_const ⟨rfl, rfl⟩ ?_
          refine zw_icne ⟨rfl, rfl⟩ rfl (fun c13 => ?_) (fun c13 => ?_)
          · skip
            refine zw_const ⟨rfl, rfl⟩ ?_
            refine zw_zret rfl (by first | exact Or.inl rfl | exact Or.inr rfl | omega) ?_
            refine zw_ifeq ⟨rfl, rfl⟩ rfl (fun _ => ?_) (fun q => absurd (by decide) q)
            refine zw_iload ⟨rfl, rfl⟩ rfl ?_
            refine zw_const ⟨rfl, rfl⟩ ?_
            refine zw_iadd ⟨rfl, rfl⟩ (by omega) ?_
            refine zw_istore_4 ⟨rfl, rfl⟩ ?_
            refine zw_iload ⟨rfl, rfl⟩ rfl ?_
            refine zw_const ⟨rfl, rfl⟩ ?_
            refine zw_iceq ⟨rfl, rfl⟩ rfl (fun c15 => ?_) (fun c15 => ?_)
            · skip
              refine zw_const ⟨rfl, rfl⟩ ?_
              refine zw_istore_3 ⟨rfl, rfl⟩ ?_
              refine zw_iload ⟨rfl, rfl⟩ rfl ?_
              refine zw_ifne ⟨rfl, rfl⟩ rfl (fun q => absurd q (by decide)) (fun _ => ?_)
              refine zw_goto ⟨rfl, rfl⟩ rfl ?_
              refine ih _ _ _ _ i1 (Or.inr ⟨rfl, ?_⟩) i3 i4 (by omega)
              have e1 := i1.2.2
              unfold ync
              rw [← e1]
              (repeat' split) <;> omega
            · skip
              refine zw_aload ⟨rfl, rfl⟩ rfl ?_
              refine zw_iload ⟨rfl, rfl⟩ rfl ?_
              refine zw_callv2 ⟨rfl, rfl⟩ rfl zc_208 rfl ?_
              refine m_MkindAt hV hM2 (by omega) ?_
              refine zw_const ⟨rfl, rfl⟩ ?_
              refine zw_icne ⟨rfl, rfl⟩ rfl (fun c17 => ?_) (fun c17 => ?_)
              · skip
                refine zw_const ⟨rfl, rfl⟩ ?_
                refine zw_istore_3 ⟨rfl, rfl⟩ ?_
                refine zw_iload ⟨rfl, rfl⟩ rfl ?_
                refine zw_ifne ⟨rfl, rfl⟩ rfl (fun q => absurd q (by decide)) (fun _ => ?_)
                refine zw_goto ⟨rfl, rfl⟩ rfl ?_
                refine ih _ _ _ _ i1 (Or.inr ⟨rfl, ?_⟩) i3 i4 (by omega)
                have e1 := i1.2.2
                unfold ync
                rw [← e1]
                (repeat' split) <;> omega
              · skip
                refine zw_const ⟨rfl, rfl⟩ ?_
                refine zw_goto ⟨rfl, rfl⟩ rfl ?_
                refine zw_istore_3 ⟨rfl, rfl⟩ ?_
                refine zw_iload ⟨rfl, rfl⟩ rfl ?_
                refine zw_ifne ⟨rfl, rfl⟩ rfl (fun _ => ?_) (fun q => absurd (by decide) q)
                have hnx := fun (x : Int) (hx : yK σ x = 1) => ykp hK (p := x) (by rw [hx]; decide)
                have hq1 := hnx (p + 1)
                have hq2 := hnx (p + 2)
                refine zw_aload ⟨rfl, rfl⟩ rfl ?_
                refine zw_getR 224 ⟨rfl, rfl⟩ zr_208_18 ?_
                refine zw_aload ⟨rfl, rfl⟩ rfl ?_
                refine zw_getIv (v := N 208 21) ⟨rfl, rfl⟩ zc_208 (by decide) rfl ?_
                refine zw_const ⟨rfl, rfl⟩ ?_
                refine zw_isub ⟨rfl, rfl⟩ (by omega) ?_
                refine zw_iload ⟨rfl, rfl⟩ rfl ?_
                refine zw_iast ⟨rfl, rfl⟩ za_224 (by omega) ?_
                refine zw_aload ⟨rfl, rfl⟩ rfl ?_
                refine zw_getR 225 ⟨rfl, rfl⟩ zr_208_19 ?_
                refine zw_aload ⟨rfl, rfl⟩ rfl ?_
                refine zw_getIv (v := N 208 21) ⟨rfl, rfl⟩ zc_208 (by decide) (zup_na (by decide)) ?_
                refine zw_const ⟨rfl, rfl⟩ ?_
                refine zw_isub ⟨rfl, rfl⟩ (by omega) ?_
                refine zw_iload ⟨rfl, rfl⟩ rfl ?_
                refine zw_iload ⟨rfl, rfl⟩ rfl ?_
                refine zw_const ⟨rfl, rfl⟩ ?_
                refine zw_iadd ⟨rfl, rfl⟩ (by omega) ?_
                refine zw_icne ⟨rfl, rfl⟩ rfl (fun c20 => ?_) (fun c20 => ?_)
                · skip
                  refine zw_const ⟨rfl, rfl⟩ ?_
                  refine zw_iast ⟨rfl, rfl⟩ za_225 (by omega) ?_
                  refine zw_aload ⟨rfl, rfl⟩ rfl ?_
                  refine zw_iload ⟨rfl, rfl⟩ rfl ?_
                  refine zw_cavv2 ⟨rfl, rfl⟩ rfl zc_208 rfl ?_
                  refine m_laysConsonant hV (hM2.cg (by rw [zup_row (by decide), zup_row (by decide)])) ⟨by omega, by omega⟩ (s := N 208 21) rfl ⟨by omega, by omega⟩ ?_
                  have hnk := ynk_c (yK σ) (p + 1)
                  refine zw_aload ⟨rfl, rfl⟩ rfl ?_
                  refine zw_aload ⟨rfl, rfl⟩ rfl ?_
                  refine zw_getIv (v := N 208 21 + 1) ⟨rfl, rfl⟩ zc_208 (by decide) (zup_eq _ _ _ _) ?_
                  refine zw_const ⟨rfl, rfl⟩ ?_
                  refine zw_isub ⟨rfl, rfl⟩ (by omega) ?_
                  rw [show (N 208 21 + 1) - 1 = N 208 21 by omega]
                  refine zw_callv2 ⟨rfl, rfl⟩ rfl zc_208 rfl ?_
                  refine zw_aload ⟨rfl, rfl⟩ rfl ?_
                  refine zw_getR 223 ⟨rfl, rfl⟩ zr_208_17 ?_
                  refine zw_iload ⟨rfl, rfl⟩ rfl ?_
                  refine zw_ialdv (v := ynk (yK σ) (p + 1)) ⟨rfl, rfl⟩ za_223 (by omega) ((zup_na (by decide)).trans ((zup_na (by decide)).trans ((zup_na (by decide)).trans ((zup_na (by decide)).trans (zup_eq _ _ _ _))))) ?_
                  refine zw_const ⟨rfl, rfl⟩ ?_
                  refine zw_icne ⟨rfl, rfl⟩ rfl (fun c21 => ?_) (fun c21 => ?_)
                  · skip
                    refine zw_aload ⟨rfl, rfl⟩ rfl ?_
                    refine zw_getR 223 ⟨rfl, rfl⟩ zr_208_17 ?_
                    refine zw_iload ⟨rfl, rfl⟩ rfl ?_
                    refine zw_ialdv (v := ynk (yK σ) (p + 1)) ⟨rfl, rfl⟩ za_223 (by omega) ((zup_na (by decide)).trans ((zup_na (by decide)).trans ((zup_na (by decide)).trans ((zup_na (by decide)).trans (zup_eq _ _ _ _))))) ?_
                    refine zw_const ⟨rfl, rfl⟩ ?_
                    refine zw_iadd ⟨rfl, rfl⟩ (by omega) ?_
                    refine zw_ret rfl ?_
                    refine zw_istore_2 ⟨rfl, rfl⟩ ?_
                    refine zw_goto ⟨rfl, rfl⟩ rfl ?_
                    have hc : ync (yK σ) (ypl (yK σ) b (N 208 21 - 1)) = p + 1 := by
                      have e1 := i1.2.2
                      unfold ync
                      rw [← e1]
                      (repeat' split) <;> omega
                    have hpl : ypl (yK σ) b (N 208 21) = p + 1 := by
                      have := ypl_s (yK σ) b (k := N 208 21 - 1) (by omega)
                      rw [show N 208 21 - 1 + 1 = N 208 21 by omega] at this
                      rw [this, hc]
                    have e0 : (zup (zup (zup (zup (zup (zup (zup (zup N 224 ((N 208 21) - 1) p) 225 ((N 208 21) - 1) (-1)) 222 (N 208 21) (p + 1)) 223 (N 208 21) (ynk (yK σ) (p + 1))) 224 (N 208 21) (-1)) 225 (N 208 21) (-1)) 226 (N 208 21) 0) 208 21 (N 208 21 + 1)) 208 21 = N 208 21 + 1 := zup_eq _ _ _ _
                    refine ih _ _ _ _ ?_ (Or.inl rfl) ?_ ⟨fun x x1 x2 => ?_, fun j hj => ?_⟩ ?_
                    · rw [e0]
                      refine ⟨by omega, fun j j1 j2 => ?_, ?_⟩
                      · by_cases e : j = N 208 21 - 1
                        · rw [e, hc]; omega
                        · exact i1.2.1 j j1 (by omega)
                      · rw [show N 208 21 + 1 - 1 = N 208 21 by omega, hpl]
                        omega
                    · rw [e0]
                      intro k k1 k2
                      by_cases e : k = N 208 21
                      · subst e
                        rw [hpl]
                        simp [zup]
                      · have i33 := i3 k k1 (by omega)
                        rw [if_neg (by omega), if_neg (by omega)]
                        refine ⟨?_, ?_, ?_, ?_, ?_⟩
                        · simp [zup, e]; exact i33.1
                        · simp [zup, e]; exact i33.2.1
                        · simp [zup, e]
                          by_cases e2 : k = N 208 21 - 1
                          · subst e2
                            simp
                            unfold yvi
                            rw [if_neg (by rw [hc]; omega)]
                            exact i1.2.2
                          · rw [if_neg e2]
                            have := i33.2.2.1
                            rw [if_neg (by omega)] at this
                            exact this
                        · simp [zup, e]
                          by_cases e2 : k = N 208 21 - 1
                          · subst e2
                            simp
                            unfold yjo
                            rw [if_neg (by rw [hc]; omega), ← i1.2.2]
                            (repeat' split) <;> omega
                          · rw [if_neg e2]
                            have := i33.2.2.2.1
                            rw [if_neg (by omega)] at this
                            exact this
                        · simp [zup, e]; exact i33.2.2.2.2
                    · rw [zup_row x2, zup_row (by omega), zup_row (by omega), zup_row (by omega), zup_row (by omega), zup_row (by omega), zup_row (by omega), zup_row (by omega)]
                      exact i4.1 x x1 x2
                    · rw [zup_ni hj]; exact i4.2 j hj
                    · omega
                  · skip
                    refine zw_aload ⟨rfl, rfl⟩ rfl ?_
                    refine zw_getR 222 ⟨rfl, rfl⟩ zr_208_16 ?_
                    refine zw_iload ⟨rfl, rfl⟩ rfl ?_
                    refine zw_ialdv (v := p + 1) ⟨rfl, rfl⟩ za_222 (by omega) ((zup_na (by decide)).trans ((zup_na (by decide)).trans ((zup_na (by decide)).trans ((zup_na (by decide)).trans ((zup_na (by decide)).trans (zup_eq _ _ _ _)))))) ?_
                    refine zw_const ⟨rfl, rfl⟩ ?_
                    refine zw_iadd ⟨rfl, rfl⟩ (by omega) ?_
                    refine zw_goto ⟨rfl, rfl⟩ rfl ?_
                    refine zw_ret rfl ?_
                    refine zw_istore_2 ⟨rfl, rfl⟩ ?_
                    refine zw_goto ⟨rfl, rfl⟩ rfl ?_
                    have hc : ync (yK σ) (ypl (yK σ) b (N 208 21 - 1)) = p + 1 := by
                      have e1 := i1.2.2
                      unfold ync
                      rw [← e1]
                      (repeat' split) <;> omega
                    have hpl : ypl (yK σ) b (N 208 21) = p + 1 := by
                      have := ypl_s (yK σ) b (k := N 208 21 - 1) (by omega)
                      rw [show N 208 21 - 1 + 1 = N 208 21 by omega] at this
                      rw [this, hc]
                    have e0 : (zup (zup (zup (zup (zup (zup (zup (zup N 224 ((N 208 21) - 1) p) 225 ((N 208 21) - 1) (-1)) 222 (N 208 21) (p + 1)) 223 (N 208 21) (ynk (yK σ) (p + 1))) 224 (N 208 21) (-1)) 225 (N 208 21) (-1)) 226 (N 208 21) 0) 208 21 (N 208 21 + 1)) 208 21 = N 208 21 + 1 := zup_eq _ _ _ _
                    refine ih _ _ _ _ ?_ (Or.inl rfl) ?_ ⟨fun x x1 x2 => ?_, fun j hj => ?_⟩ ?_
                    · rw [e0]
                      refine ⟨by omega, fun j j1 j2 => ?_, ?_⟩
                      · by_cases e : j = N 208 21 - 1
                        · rw [e, hc]; omega
                        · exact i1.2.1 j j1 (by omega)
                      · rw [show N 208 21 + 1 - 1 = N 208 21 by omega, hpl]
                        omega
                    · rw [e0]
                      intro k k1 k2
                      by_cases e : k = N 208 21
                      · subst e
                        rw [hpl]
                        simp [zup]
                      · have i33 := i3 k k1 (by omega)
                        rw [if_neg (by omega), if_neg (by omega)]
                        refine ⟨?_, ?_, ?_, ?_, ?_⟩
                        · simp [zup, e]; exact i33.1
                        · simp [zup, e]; exact i33.2.1
                        · simp [zup, e]
                          by_cases e2 : k = N 208 21 - 1
                          · subst e2
                            simp
                            unfold yvi
                            rw [if_neg (by rw [hc]; omega)]
                            exact i1.2.2
                          · rw [if_neg e2]
                            have := i33.2.2.1
                            rw [if_neg (by omega)] at this
                            exact this
                        · simp [zup, e]
                          by_cases e2 : k = N 208 21 - 1
                          · subst e2
                            simp
                            unfold yjo
                            rw [if_neg (by rw [hc]; omega), ← i1.2.2]
                            (repeat' split) <;> omega
                          · rw [if_neg e2]
                            have := i33.2.2.2.1
                            rw [if_neg (by omega)] at this
                            exact this
                        · simp [zup, e]; exact i33.2.2.2.2
                    · rw [zup_row x2, zup_row (by omega), zup_row (by omega), zup_row (by omega), zup_row (by omega), zup_row (by omega), zup_row (by omega), zup_row (by omega)]
                      exact i4.1 x x1 x2
                    · rw [zup_ni hj]; exact i4.2 j hj
                    · omega
                · skip
                  refine zw_iload ⟨rfl, rfl⟩ rfl ?_
                  refine zw_const ⟨rfl, rfl⟩ ?_
                  refine zw_iadd ⟨rfl, rfl⟩ (by omega) ?_
                  refine zw_goto ⟨rfl, rfl⟩ rfl ?_
                  refine zw_iast ⟨rfl, rfl⟩ za_225 (by omega) ?_
                  refine zw_aload ⟨rfl, rfl⟩ rfl ?_
                  refine zw_iload ⟨rfl, rfl⟩ rfl ?_
                  refine zw_cavv2 ⟨rfl, rfl⟩ rfl zc_208 rfl ?_
                  refine m_laysConsonant hV (hM2.cg (by rw [zup_row (by decide), zup_row (by decide)])) ⟨by omega, by omega⟩ (s := N 208 21) rfl ⟨by omega, by omega⟩ ?_
                  have hnk := ynk_c (yK σ) (p + 1)
                  refine zw_aload ⟨rfl, rfl⟩ rfl ?_
                  refine zw_aload ⟨rfl, rfl⟩ rfl ?_
                  refine zw_getIv (v := N 208 21 + 1) ⟨rfl, rfl⟩ zc_208 (by decide) (zup_eq _ _ _ _) ?_
                  refine zw_const ⟨rfl, rfl⟩ ?_
                  refine zw_isub ⟨rfl, rfl⟩ (by omega) ?_
                  rw [show (N 208 21 + 1) - 1 = N 208 21 by omega]
                  refine zw_callv2 ⟨rfl, rfl⟩ rfl zc_208 rfl ?_
                  refine zw_aload ⟨rfl, rfl⟩ rfl ?_
                  refine zw_getR 223 ⟨rfl, rfl⟩ zr_208_17 ?_
                  refine zw_iload ⟨rfl, rfl⟩ rfl ?_
                  refine zw_ialdv (v := ynk (yK σ) (p + 1)) ⟨rfl, rfl⟩ za_223 (by omega) ((zup_na (by decide)).trans ((zup_na (by decide)).trans ((zup_na (by decide)).trans ((zup_na (by decide)).trans (zup_eq _ _ _ _))))) ?_
                  refine zw_const ⟨rfl, rfl⟩ ?_
                  refine zw_icne ⟨rfl, rfl⟩ rfl (fun c22 => ?_) (fun c22 => ?_)
                  · skip
                    refine zw_aload ⟨rfl, rfl⟩ rfl ?_
                    refine zw_getR 223 ⟨rfl, rfl⟩ zr_208_17 ?_
                    refine zw_iload ⟨rfl, rfl⟩ rfl ?_
                    refine zw_ialdv (v := ynk (yK σ) (p + 1)) ⟨rfl, rfl⟩ za_223 (by omega) ((zup_na (by decide)).trans ((zup_na (by decide)).trans ((zup_na (by decide)).trans ((zup_na (by decide)).trans (zup_eq _ _ _ _))))) ?_
                    refine zw_const ⟨rfl, rfl⟩ ?_
                    refine zw_iadd ⟨rfl, rfl⟩ (by omega) ?_
                    refine zw_ret rfl ?_
                    refine zw_istore_2 ⟨rfl, rfl⟩ ?_
                    refine zw_goto ⟨rfl, rfl⟩ rfl ?_
                    have hc : ync (yK σ) (ypl (yK σ) b (N 208 21 - 1)) = p + 1 := by
                      have e1 := i1.2.2
                      unfold ync
                      rw [← e1]
                      (repeat' split) <;> omega
                    have hpl : ypl (yK σ) b (N 208 21) = p + 1 := by
                      have := ypl_s (yK σ) b (k := N 208 21 - 1) (by omega)
                      rw [show N 208 21 - 1 + 1 = N 208 21 by omega] at this
                      rw [this, hc]
                    have e0 : (zup (zup (zup (zup (zup (zup (zup (zup N 224 ((N 208 21) - 1) p) 225 ((N 208 21) - 1) (p + 1)) 222 (N 208 21) (p + 1)) 223 (N 208 21) (ynk (yK σ) (p + 1))) 224 (N 208 21) (-1)) 225 (N 208 21) (-1)) 226 (N 208 21) 0) 208 21 (N 208 21 + 1)) 208 21 = N 208 21 + 1 := zup_eq _ _ _ _
                    refine ih _ _ _ _ ?_ (Or.inl rfl) ?_ ⟨fun x x1 x2 => ?_, fun j hj => ?_⟩ ?_
                    · rw [e0]
                      refine ⟨by omega, fun j j1 j2 => ?_, ?_⟩
                      · by_cases e : j = N 208 21 - 1
                        · rw [e, hc]; omega
                        · exact i1.2.1 j j1 (by omega)
                      · rw [show N 208 21 + 1 - 1 = N 208 21 by omega, hpl]
                        omega
                    · rw [e0]
                      intro k k1 k2
                      by_cases e : k = N 208 21
                      · subst e
                        rw [hpl]
                        simp [zup]
                      · have i33 := i3 k k1 (by omega)
                        rw [if_neg (by omega), if_neg (by omega)]
                        refine ⟨?_, ?_, ?_, ?_, ?_⟩
                        · simp [zup, e]; exact i33.1
                        · simp [zup, e]; exact i33.2.1
                        · simp [zup, e]
                          by_cases e2 : k = N 208 21 - 1
                          · subst e2
                            simp
                            unfold yvi
                            rw [if_neg (by rw [hc]; omega)]
                            exact i1.2.2
                          · rw [if_neg e2]
                            have := i33.2.2.1
                            rw [if_neg (by omega)] at this
                            exact this
                        · simp [zup, e]
                          by_cases e2 : k = N 208 21 - 1
                          · subst e2
                            simp
                            unfold yjo
                            rw [if_neg (by rw [hc]; omega), ← i1.2.2]
                            (repeat' split) <;> omega
                          · rw [if_neg e2]
                            have := i33.2.2.2.1
                            rw [if_neg (by omega)] at this
                            exact this
                        · simp [zup, e]; exact i33.2.2.2.2
                    · rw [zup_row x2, zup_row (by omega), zup_row (by omega), zup_row (by omega), zup_row (by omega), zup_row (by omega), zup_row (by omega), zup_row (by omega)]
                      exact i4.1 x x1 x2
                    · rw [zup_ni hj]; exact i4.2 j hj
                    · omega
                  · skip
                    refine zw_aload ⟨rfl, rfl⟩ rfl ?_
                    refine zw_getR 222 ⟨rfl, rfl⟩ zr_208_16 ?_
                    refine zw_iload ⟨rfl, rfl⟩ rfl ?_
                    refine zw_ialdv (v := p + 1) ⟨rfl, rfl⟩ za_222 (by omega) ((zup_na (by decide)).trans ((zup_na (by decide)).trans ((zup_na (by decide)).trans ((zup_na (by decide)).trans ((zup_na (by decide)).trans (zup_eq _ _ _ _)))))) ?_
                    refine zw_const ⟨rfl, rfl⟩ ?_
                    refine zw_iadd ⟨rfl, rfl⟩ (by omega) ?_
                    refine zw_goto ⟨rfl, rfl⟩ rfl ?_
                    refine zw_ret rfl ?_
                    refine zw_istore_2 ⟨rfl, rfl⟩ ?_
                    refine zw_goto ⟨rfl, rfl⟩ rfl ?_
                    have hc : ync (yK σ) (ypl (yK σ) b (N 208 21 - 1)) = p + 1 := by
                      have e1 := i1.2.2
                      unfold ync
                      rw [← e1]
                      (repeat' split) <;> omega
                    have hpl : ypl (yK σ) b (N 208 21) = p + 1 := by
                      have := ypl_s (yK σ) b (k := N 208 21 - 1) (by omega)
                      rw [show N 208 21 - 1 + 1 = N 208 21 by omega] at this
                      rw [this, hc]
                    have e0 : (zup (zup (zup (zup (zup (zup (zup (zup N 224 ((N 208 21) - 1) p) 225 ((N 208 21) - 1) (p + 1)) 222 (N 208 21) (p + 1)) 223 (N 208 21) (ynk (yK σ) (p + 1))) 224 (N 208 21) (-1)) 225 (N 208 21) (-1)) 226 (N 208 21) 0) 208 21 (N 208 21 + 1)) 208 21 = N 208 21 + 1 := zup_eq _ _ _ _
                    refine ih _ _ _ _ ?_ (Or.inl rfl) ?_ ⟨fun x x1 x2 => ?_, fun j hj => ?_⟩ ?_
                    · rw [e0]
                      refine ⟨by omega, fun j j1 j2 => ?_, ?_⟩
                      · by_cases e : j = N 208 21 - 1
                        · rw [e, hc]; omega
                        · exact i1.2.1 j j1 (by omega)
                      · rw [show N 208 21 + 1 - 1 = N 208 21 by omega, hpl]
                        omega
                    · rw [e0]
                      intro k k1 k2
                      by_cases e : k = N 208 21
                      · subst e
                        rw [hpl]
                        simp [zup]
                      · have i33 := i3 k k1 (by omega)
                        rw [if_neg (by omega), if_neg (by omega)]
                        refine ⟨?_, ?_, ?_, ?_, ?_⟩
                        · simp [zup, e]; exact i33.1
                        · simp [zup, e]; exact i33.2.1
                        · simp [zup, e]
                          by_cases e2 : k = N 208 21 - 1
                          · subst e2
                            simp
                            unfold yvi
                            rw [if_neg (by rw [hc]; omega)]
                            exact i1.2.2
                          · rw [if_neg e2]
                            have := i33.2.2.1
                            rw [if_neg (by omega)] at this
                            exact this
                        · simp [zup, e]
                          by_cases e2 : k = N 208 21 - 1
                          · subst e2
                            simp
                            unfold yjo
                            rw [if_neg (by rw [hc]; omega), ← i1.2.2]
                            (repeat' split) <;> omega
                          · rw [if_neg e2]
                            have := i33.2.2.2.1
                            rw [if_neg (by omega)] at this
                            exact this
                        · simp [zup, e]; exact i33.2.2.2.2
                    · rw [zup_row x2, zup_row (by omega), zup_row (by omega), zup_row (by omega), zup_row (by omega), zup_row (by omega), zup_row (by omega), zup_row (by omega)]
                      exact i4.1 x x1 x2
                    · rw [zup_ni hj]; exact i4.2 j hj
                    · omega
          · skip
            refine zw_const ⟨rfl, rfl⟩ ?_
            refine zw_goto ⟨rfl, rfl⟩ rfl ?_
            refine zw_zret rfl (by first | exact Or.inl rfl | exact Or.inr rfl | omega) ?_
            refine zw_ifeq ⟨rfl, rfl⟩ rfl (fun q => absurd q (by decide)) (fun _ => ?_)
            refine zw_iload ⟨rfl, rfl⟩ rfl ?_
            refine zw_const ⟨rfl, rfl⟩ ?_
            refine zw_iadd ⟨rfl, rfl⟩ (by omega) ?_
            refine zw_goto ⟨rfl, rfl⟩ rfl ?_
            refine zw_istore_4 ⟨rfl, rfl⟩ ?_
            refine zw_iload ⟨rfl, rfl⟩ rfl ?_
            refine zw_const ⟨rfl, rfl⟩ ?_
            refine zw_iceq ⟨rfl, rfl⟩ rfl (fun c24 => ?_) (fun c24 => ?_)
            · skip
              refine zw_const ⟨rfl, rfl⟩ ?_
              refine zw_istore_3 ⟨rfl, rfl⟩ ?_
              refine zw_iload ⟨rfl, rfl⟩ rfl ?_
              refine zw_ifne ⟨rfl, rfl⟩ rfl (fun q => absurd q (by decide)) (fun _ => ?_)
              refine zw_goto ⟨rfl, rfl⟩ rfl ?_
              refine ih _ _ _ _ i1 (Or.inr ⟨rfl, ?_⟩) i3 i4 (by omega)
              have e1 := i1.2.2
              unfold ync
              rw [← e1]
              (repeat' split) <;> omega
            · skip
              refine zw_aload ⟨rfl, rfl⟩ rfl ?_
              refine zw_iload ⟨rfl, rfl⟩ rfl ?_
              refine zw_callv2 ⟨rfl, rfl⟩ rfl zc_208 rfl ?_
              refine m_MkindAt hV hM2 (by omega) ?_
              refine zw_const ⟨rfl, rfl⟩ ?_
              refine zw_icne ⟨rfl, rfl⟩ rfl (fun c26 => ?_) (fun c26 => ?_)
              · skip
                refine zw_const ⟨rfl, rfl⟩ ?_
                refine zw_istore_3 ⟨rfl, rfl⟩ ?_
                refine zw_iload ⟨rfl, rfl⟩ rfl ?_
                refine zw_ifne ⟨rfl, rfl⟩ rfl (fun q => absurd q (by decide)) (fun _ => ?_)
                refine zw_goto ⟨rfl, rfl⟩ rfl ?_
                refine ih _ _ _ _ i1 (Or.inr ⟨rfl, ?_⟩) i3 i4 (by omega)
                have e1 := i1.2.2
                unfold ync
                rw [← e1]
                (repeat' split) <;> omega
              · skip
                refine zw_const ⟨rfl, rfl⟩ ?_
                refine zw_goto ⟨rfl, rfl⟩ rfl ?_
                refine zw_istore_3 ⟨rfl, rfl⟩ ?_
                refine zw_iload ⟨rfl, rfl⟩ rfl ?_
                refine zw_ifne ⟨rfl, rfl⟩ rfl (fun _ => ?_) (fun q => absurd (by decide) q)
                have hnx := fun (x : Int) (hx : yK σ x = 1) => ykp hK (p := x) (by rw [hx]; decide)
                have hq1 := hnx (p + 1)
                have hq2 := hnx (p + 2)
                refine zw_aload ⟨rfl, rfl⟩ rfl ?_
                refine zw_getR 224 ⟨rfl, rfl⟩ zr_208_18 ?_
                refine zw_aload ⟨rfl, rfl⟩ rfl ?_
                refine zw_getIv (v := N 208 21) ⟨rfl, rfl⟩ zc_208 (by decide) rfl ?_
                refine zw_const ⟨rfl, rfl⟩ ?_
                refine zw_isub ⟨rfl, rfl⟩ (by omega) ?_
                refine zw_iload ⟨rfl, rfl⟩ rfl ?_
                refine zw_iast ⟨rfl, rfl⟩ za_224 (by omega) ?_
                refine zw_aload ⟨rfl, rfl⟩ rfl ?_
                refine zw_getR 225 ⟨rfl, rfl⟩ zr_208_19 ?_
                refine zw_aload ⟨rfl, rfl⟩ rfl ?_
                refine zw_getIv (v := N 208 21) ⟨rfl, rfl⟩ zc_208 (by decide) (zup_na (by decide)) ?_
                refine zw_const ⟨rfl, rfl⟩ ?_
                refine zw_isub ⟨rfl, rfl⟩ (by omega) ?_
                refine zw_iload ⟨rfl, rfl⟩ rfl ?_
                refine zw_iload ⟨rfl, rfl⟩ rfl ?_
                refine zw_const ⟨rfl, rfl⟩ ?_
                refine zw_iadd ⟨rfl, rfl⟩ (by omega) ?_
                refine zw_icne ⟨rfl, rfl⟩ rfl (fun c29 => ?_) (fun c29 => ?_)
                · skip
                  refine zw_const ⟨rfl, rfl⟩ ?_
                  refine zw_iast ⟨rfl, rfl⟩ za_225 (by omega) ?_
                  refine zw_aload ⟨rfl, rfl⟩ rfl ?_
                  refine zw_iload ⟨rfl, rfl⟩ rfl ?_
                  refine zw_cavv2 ⟨rfl, rfl⟩ rfl zc_208 rfl ?_
                  refine m_laysConsonant hV (hM2.cg (by rw [zup_row (by decide), zup_row (by decide)])) ⟨by omega, by omega⟩ (s := N 208 21) rfl ⟨by omega, by omega⟩ ?_
                  have hnk := ynk_c (yK σ) (p + 2)
                  refine zw_aload ⟨rfl, rfl⟩ rfl ?_
                  refine zw_aload ⟨rfl, rfl⟩ rfl ?_
                  refine zw_getIv (v := N 208 21 + 1) ⟨rfl, rfl⟩ zc_208 (by decide) (zup_eq _ _ _ _) ?_
                  refine zw_const ⟨rfl, rfl⟩ ?_
                  refine zw_isub ⟨rfl, rfl⟩ (by omega) ?_
                  rw [show (N 208 21 + 1) - 1 = N 208 21 by omega]
                  refine zw_callv2 ⟨rfl, rfl⟩ rfl zc_208 rfl ?_
                  refine zw_aload ⟨rfl, rfl⟩ rfl ?_
                  refine zw_getR 223 ⟨rfl, rfl⟩ zr_208_17 ?_
                  refine zw_iload ⟨rfl, rfl⟩ rfl ?_
                  refine zw_ialdv (v := ynk (yK σ) (p + 2)) ⟨rfl, rfl⟩ za_223 (by omega) ((zup_na (by decide)).trans ((zup_na (by decide)).trans ((zup_na (by decide)).trans ((zup_na (by decide)).trans (zup_eq _ _ _ _))))) ?_
                  refine zw_const ⟨rfl, rfl⟩ ?_
                  refine zw_icne ⟨rfl, rfl⟩ rfl (fun c30 => ?_) (fun c30 => ?_)
                  · skip
                    refine zw_aload ⟨rfl, rfl⟩ rfl ?_
                    refine zw_getR 223 ⟨rfl, rfl⟩ zr_208_17 ?_
                    refine zw_iload ⟨rfl, rfl⟩ rfl ?_
                    refine zw_ialdv (v := ynk (yK σ) (p + 2)) ⟨rfl, rfl⟩ za_223 (by omega) ((zup_na (by decide)).trans ((zup_na (by decide)).trans ((zup_na (by decide)).trans ((zup_na (by decide)).trans (zup_eq _ _ _ _))))) ?_
                    refine zw_const ⟨rfl, rfl⟩ ?_
                    refine zw_iadd ⟨rfl, rfl⟩ (by omega) ?_
                    refine zw_ret rfl ?_
                    refine zw_istore_2 ⟨rfl, rfl⟩ ?_
                    refine zw_goto ⟨rfl, rfl⟩ rfl ?_
                    have hc : ync (yK σ) (ypl (yK σ) b (N 208 21 - 1)) = p + 2 := by
                      have e1 := i1.2.2
                      unfold ync
                      rw [← e1]
                      (repeat' split) <;> omega
                    have hpl : ypl (yK σ) b (N 208 21) = p + 2 := by
                      have := ypl_s (yK σ) b (k := N 208 21 - 1) (by omega)
                      rw [show N 208 21 - 1 + 1 = N 208 21 by omega] at this
                      rw [this, hc]
                    have e0 : (zup (zup (zup (zup (zup (zup (zup (zup N 224 ((N 208 21) - 1) p) 225 ((N 208 21) - 1) (-1)) 222 (N 208 21) (p + 2)) 223 (N 208 21) (ynk (yK σ) (p + 2))) 224 (N 208 21) (-1)) 225 (N 208 21) (-1)) 226 (N 208 21) 0) 208 21 (N 208 21 + 1)) 208 21 = N 208 21 + 1 := zup_eq _ _ _ _
                    refine ih _ _ _ _ ?_ (Or.inl rfl) ?_ ⟨fun x x1 x2 => ?_, fun j hj => ?_⟩ ?_
                    · rw [e0]
                      refine ⟨by omega, fun j j1 j2 => ?_, ?_⟩
                      · by_cases e : j = N 208 21 - 1
                        · rw [e, hc]; omega
                        · exact i1.2.1 j j1 (by omega)
                      · rw [show N 208 21 + 1 - 1 = N 208 21 by omega, hpl]
                        omega
                    · rw [e0]
                      intro k k1 k2
                      by_cases e : k = N 208 21
                      · subst e
                        rw [hpl]
                        simp [zup]
                      · have i33 := i3 k k1 (by omega)
                        rw [if_neg (by omega), if_neg (by omega)]
                        refine ⟨?_, ?_, ?_, ?_, ?_⟩
                        · simp [zup, e]; exact i33.1
                        · simp [zup, e]; exact i33.2.1
                        · simp [zup, e]
                          by_cases e2 : k = N 208 21 - 1
                          · subst e2
                            simp
                            unfold yvi
                            rw [if_neg (by rw [hc]; omega)]
                            exact i1.2.2
                          · rw [if_neg e2]
                            have := i33.2.2.1
                            rw [if_neg (by omega)] at this
                            exact this
                        · simp [zup, e]
                          by_cases e2 : k = N 208 21 - 1
                          · subst e2
                            simp
                            unfold yjo
                            rw [if_neg (by rw [hc]; omega), ← i1.2.2]
                            (repeat' split) <;> omega
                          · rw [if_neg e2]
                            have := i33.2.2.2.1
                            rw [if_neg (by omega)] at this
                            exact this
                        · simp [zup, e]; exact i33.2.2.2.2
                    · rw [zup_row x2, zup_row (by omega), zup_row (by omega), zup_row (by omega), zup_row (by omega), zup_row (by omega), zup_row (by omega), zup_row (by omega)]
                      exact i4.1 x x1 x2
                    · rw [zup_ni hj]; exact i4.2 j hj
                    · omega
                  · skip
                    refine zw_aload ⟨rfl, rfl⟩ rfl ?_
                    refine zw_getR 222 ⟨rfl, rfl⟩ zr_208_16 ?_
                    refine zw_iload ⟨rfl, rfl⟩ rfl ?_
                    refine zw_ialdv (v := p + 2) ⟨rfl, rfl⟩ za_222 (by omega) ((zup_na (by decide)).trans ((zup_na (by decide)).trans ((zup_na (by decide)).trans ((zup_na (by decide)).trans ((zup_na (by decide)).trans (zup_eq _ _ _ _)))))) ?_
                    refine zw_const ⟨rfl, rfl⟩ ?_
                    refine zw_iadd ⟨rfl, rfl⟩ (by omega) ?_
                    refine zw_goto ⟨rfl, rfl⟩ rfl ?_
                    refine zw_ret rfl ?_
                    refine zw_istore_2 ⟨rfl, rfl⟩ ?_
                    refine zw_goto ⟨rfl, rfl⟩ rfl ?_
                    have hc : ync (yK σ) (ypl (yK σ) b (N 208 21 - 1)) = p + 2 := by
                      have e1 := i1.2.2
                      unfold ync
                      rw [← e1]
                      (repeat' split) <;> omega
                    have hpl : ypl (yK σ) b (N 208 21) = p + 2 := by
                      have := ypl_s (yK σ) b (k := N 208 21 - 1) (by omega)
                      rw [show N 208 21 - 1 + 1 = N 208 21 by omega] at this
                      rw [this, hc]
                    have e0 : (zup (zup (zup (zup (zup (zup (zup (zup N 224 ((N 208 21) - 1) p) 225 ((N 208 21) - 1) (-1)) 222 (N 208 21) (p + 2)) 223 (N 208 21) (ynk (yK σ) (p + 2))) 224 (N 208 21) (-1)) 225 (N 208 21) (-1)) 226 (N 208 21) 0) 208 21 (N 208 21 + 1)) 208 21 = N 208 21 + 1 := zup_eq _ _ _ _
                    refine ih _ _ _ _ ?_ (Or.inl rfl) ?_ ⟨fun x x1 x2 => ?_, fun j hj => ?_⟩ ?_
                    · rw [e0]
                      refine ⟨by omega, fun j j1 j2 => ?_, ?_⟩
                      · by_cases e : j = N 208 21 - 1
                        · rw [e, hc]; omega
                        · exact i1.2.1 j j1 (by omega)
                      · rw [show N 208 21 + 1 - 1 = N 208 21 by omega, hpl]
                        omega
                    · rw [e0]
                      intro k k1 k2
                      by_cases e : k = N 208 21
                      · subst e
                        rw [hpl]
                        simp [zup]
                      · have i33 := i3 k k1 (by omega)
                        rw [if_neg (by omega), if_neg (by omega)]
                        refine ⟨?_, ?_, ?_, ?_, ?_⟩
                        · simp [zup, e]; exact i33.1
                        · simp [zup, e]; exact i33.2.1
                        · simp [zup, e]
                          by_cases e2 : k = N 208 21 - 1
                          · subst e2
                            simp
                            unfold yvi
                            rw [if_neg (by rw [hc]; omega)]
                            exact i1.2.2
                          · rw [if_neg e2]
                            have := i33.2.2.1
                            rw [if_neg (by omega)] at this
                            exact this
                        · simp [zup, e]
                          by_cases e2 : k = N 208 21 - 1
                          · subst e2
                            simp
                            unfold yjo
                            rw [if_neg (by rw [hc]; omega), ← i1.2.2]
                            (repeat' split) <;> omega
                          · rw [if_neg e2]
                            have := i33.2.2.2.1
                            rw [if_neg (by omega)] at this
                            exact this
                        · simp [zup, e]; exact i33.2.2.2.2
                    · rw [zup_row x2, zup_row (by omega), zup_row (by omega), zup_row (by omega), zup_row (by omega), zup_row (by omega), zup_row (by omega), zup_row (by omega)]
                      exact i4.1 x x1 x2
                    · rw [zup_ni hj]; exact i4.2 j hj
                    · omega
                · skip
                  refine zw_iload ⟨rfl, rfl⟩ rfl ?_
                  refine zw_const ⟨rfl, rfl⟩ ?_
                  refine zw_iadd ⟨rfl, rfl⟩ (by omega) ?_
                  refine zw_goto ⟨rfl, rfl⟩ rfl ?_
                  refine zw_iast ⟨rfl, rfl⟩ za_225 (by omega) ?_
                  refine zw_aload ⟨rfl, rfl⟩ rfl ?_
                  refine zw_iload ⟨rfl, rfl⟩ rfl ?_
                  refine zw_cavv2 ⟨rfl, rfl⟩ rfl zc_208 rfl ?_
                  refine m_laysConsonant hV (hM2.cg (by rw [zup_row (by decide), zup_row (by decide)])) ⟨by omega, by omega⟩ (s := N 208 21) rfl ⟨by omega, by omega⟩ ?_
                  have hnk := ynk_c (yK σ) (p + 2)
                  refine zw_aload ⟨rfl, rfl⟩ rfl ?_
                  refine zw_aload ⟨rfl, rfl⟩ rfl ?_
                  refine zw_getIv (v := N 208 21 + 1) ⟨rfl, rfl⟩ zc_208 (by decide) (zup_eq _ _ _ _) ?_
                  refine zw_const ⟨rfl, rfl⟩ ?_
                  refine zw_isub ⟨rfl, rfl⟩ (by omega) ?_
                  rw [show (N 208 21 + 1) - 1 = N 208 21 by omega]
                  refine zw_callv2 ⟨rfl, rfl⟩ rfl zc_208 rfl ?_
                  refine zw_aload ⟨rfl, rfl⟩ rfl ?_
                  refine zw_getR 223 ⟨rfl, rfl⟩ zr_208_17 ?_
                  refine zw_iload ⟨rfl, rfl⟩ rfl ?_
                  refine zw_ialdv (v := ynk (yK σ) (p + 2)) ⟨rfl, rfl⟩ za_223 (by omega) ((zup_na (by decide)).trans ((zup_na (by decide)).trans ((zup_na (by decide)).trans ((zup_na (by decide)).trans (zup_eq _ _ _ _))))) ?_
                  refine zw_const ⟨rfl, rfl⟩ ?_
                  refine zw_icne ⟨rfl, rfl⟩ rfl (fun c31 => ?_) (fun c31 => ?_)
                  · skip
                    refine zw_aload ⟨rfl, rfl⟩ rfl ?_
                    refine zw_getR 223 ⟨rfl, rfl⟩ zr_208_17 ?_
                    refine zw_iload ⟨rfl, rfl⟩ rfl ?_
                    refine zw_ialdv (v := ynk (yK σ) (p + 2)) ⟨rfl, rfl⟩ za_223 (by omega) ((zup_na (by decide)).trans ((zup_na (by decide)).trans ((zup_na (by decide)).trans ((zup_na (by decide)).trans (zup_eq _ _ _ _))))) ?_
                    refine zw_const ⟨rfl, rfl⟩ ?_
                    refine zw_iadd ⟨rfl, rfl⟩ (by omega) ?_
                    refine zw_ret rfl ?_
                    refine zw_istore_2 ⟨rfl, rfl⟩ ?_
                    refine zw_goto ⟨rfl, rfl⟩ rfl ?_
                    have hc : ync (yK σ) (ypl (yK σ) b (N 208 21 - 1)) = p + 2 := by
                      have e1 := i1.2.2
                      unfold ync
                      rw [← e1]
                      (repeat' split) <;> omega
                    have hpl : ypl (yK σ) b (N 208 21) = p + 2 := by
                      have := ypl_s (yK σ) b (k := N 208 21 - 1) (by omega)
                      rw [show N 208 21 - 1 + 1 = N 208 21 by omega] at this
                      rw [this, hc]
                    have e0 : (zup (zup (zup (zup (zup (zup (zup (zup N 224 ((N 208 21) - 1) p) 225 ((N 208 21) - 1) (p + 1)) 222 (N 208 21) (p + 2)) 223 (N 208 21) (ynk (yK σ) (p + 2))) 224 (N 208 21) (-1)) 225 (N 208 21) (-1)) 226 (N 208 21) 0) 208 21 (N 208 21 + 1)) 208 21 = N 208 21 + 1 := zup_eq _ _ _ _
                    refine ih _ _ _ _ ?_ (Or.inl rfl) ?_ ⟨fun x x1 x2 => ?_, fun j hj => ?_⟩ ?_
                    · rw [e0]
                      refine ⟨by omega, fun j j1 j2 => ?_, ?_⟩
                      · by_cases e : j = N 208 21 - 1
                        · rw [e, hc]; omega
                        · exact i1.2.1 j j1 (by omega)
                      · rw [show N 208 21 + 1 - 1 = N 208 21 by omega, hpl]
                        omega
                    · rw [e0]
                      intro k k1 k2
                      by_cases e : k = N 208 21
                      · subst e
                        rw [hpl]
                        simp [zup]
                      · have i33 := i3 k k1 (by omega)
                        rw [if_neg (by omega), if_neg (by omega)]
                        refine ⟨?_, ?_, ?_, ?_, ?_⟩
                        · simp [zup, e]; exact i33.1
                        · simp [zup, e]; exact i33.2.1
                        · simp [zup, e]
                          by_cases e2 : k = N 208 21 - 1
                          · subst e2
                            simp
                            unfold yvi
                            rw [if_neg (by rw [hc]; omega)]
                            exact i1.2.2
                          · rw [if_neg e2]
                            have := i33.2.2.1
                            rw [if_neg (by omega)] at this
                            exact this
                        · simp [zup, e]
                          by_cases e2 : k = N 208 21 - 1
                          · subst e2
                            simp
                            unfold yjo
                            rw [if_neg (by rw [hc]; omega), ← i1.2.2]
                            (repeat' split) <;> omega
                          · rw [if_neg e2]
                            have := i33.2.2.2.1
                            rw [if_neg (by omega)] at this
                            exact this
                        · simp [zup, e]; exact i33.2.2.2.2
                    · rw [zup_row x2, zup_row (by omega), zup_row (by omega), zup_row (by omega), zup_row (by omega), zup_row (by omega), zup_row (by omega), zup_row (by omega)]
                      exact i4.1 x x1 x2
                    · rw [zup_ni hj]; exact i4.2 j hj
                    · omega
                  · skip
                    refine zw_aload ⟨rfl, rfl⟩ rfl ?_
                    refine zw_getR 222 ⟨rfl, rfl⟩ zr_208_16 ?_
                    refine zw_iload ⟨rfl, rfl⟩ rfl ?_
                    refine zw_ialdv (v := p + 2) ⟨rfl, rfl⟩ za_222 (by omega) ((zup_na (by decide)).trans ((zup_na (by decide)).trans ((zup_na (by decide)).trans ((zup_na (by decide)).trans ((zup_na (by decide)).trans (zup_eq _ _ _ _)))))) ?_
                    refine zw_const ⟨rfl, rfl⟩ ?_
                    refine zw_iadd ⟨rfl, rfl⟩ (by omega) ?_
                    refine zw_goto ⟨rfl, rfl⟩ rfl ?_
                    refine zw_ret rfl ?_
                    refine zw_istore_2 ⟨rfl, rfl⟩ ?_
                    refine zw_goto ⟨rfl, rfl⟩ rfl ?_
                    have hc : ync (yK σ) (ypl (yK σ) b (N 208 21 - 1)) = p + 2 := by
                      have e1 := i1.2.2
                      unfold ync
                      rw [← e1]
                      (repeat' split) <;> omega
                    have hpl : ypl (yK σ) b (N 208 21) = p + 2 := by
                      have := ypl_s (yK σ) b (k := N 208 21 - 1) (by omega)
                      rw [show N 208 21 - 1 + 1 = N 208 21 by omega] at this
                      rw [this, hc]
                    have e0 : (zup (zup (zup (zup (zup (zup (zup (zup N 224 ((N 208 21) - 1) p) 225 ((N 208 21) - 1) (p + 1)) 222 (N 208 21) (p + 2)) 223 (N 208 21) (ynk (yK σ) (p + 2))) 224 (N 208 21) (-1)) 225 (N 208 21) (-1)) 226 (N 208 21) 0) 208 21 (N 208 21 + 1)) 208 21 = N 208 21 + 1 := zup_eq _ _ _ _
                    refine ih _ _ _ _ ?_ (Or.inl rfl) ?_ ⟨fun x x1 x2 => ?_, fun j hj => ?_⟩ ?_
                    · rw [e0]
                      refine ⟨by omega, fun j j1 j2 => ?_, ?_⟩
                      · by_cases e : j = N 208 21 - 1
                        · rw [e, hc]; omega
                        · exact i1.2.1 j j1 (by omega)
                      · rw [show N 208 21 + 1 - 1 = N 208 21 by omega, hpl]
                        omega
                    · rw [e0]
                      intro k k1 k2
                      by_cases e : k = N 208 21
                      · subst e
                        rw [hpl]
                        simp [zup]
                      · have i33 := i3 k k1 (by omega)
                        rw [if_neg (by omega), if_neg (by omega)]
                        refine ⟨?_, ?_, ?_, ?_, ?_⟩
                        · simp [zup, e]; exact i33.1
                        · simp [zup, e]; exact i33.2.1
                        · simp [zup, e]
                          by_cases e2 : k = N 208 21 - 1
                          · subst e2
                            simp
                            unfold yvi
                            rw [if_neg (by rw [hc]; omega)]
                            exact i1.2.2
                          · rw [if_neg e2]
                            have := i33.2.2.1
                            rw [if_neg (by omega)] at this
                            exact this
                        · simp [zup, e]
                          by_cases e2 : k = N 208 21 - 1
                          · subst e2
                            simp
                            unfold yjo
                            rw [if_neg (by rw [hc]; omega), ← i1.2.2]
                            (repeat' split) <;> omega
                          · rw [if_neg e2]
                            have := i33.2.2.2.1
                            rw [if_neg (by omega)] at this
                            exact this
                        · simp [zup, e]; exact i33.2.2.2.2
                    · rw [zup_row x2, zup_row (by omega), zup_row (by omega), zup_row (by omega), zup_row (by omega), zup_row (by omega), zup_row (by omega), zup_row (by omega)]
                      exact i4.1 x x1 x2
                    · rw [zup_ni hj]; exact i4.2 j hj
                    · omega
      · skip
        refine zw_const ⟨rfl, rfl⟩ ?_
        refine zw_goto ⟨rfl, rfl⟩ rfl ?_
        refine zw_istore_4 ⟨rfl, rfl⟩ ?_
        refine zw_iload ⟨rfl, rfl⟩ rfl ?_
        refine zw_const ⟨rfl, rfl⟩ ?_
        refine zw_iceq ⟨rfl, rfl⟩ rfl (fun _ => ?_) (fun q => absurd (by decide) q)
        refine zw_const ⟨rfl, rfl⟩ ?_
        refine zw_istore_3 ⟨rfl, rfl⟩ ?_
        refine zw_iload ⟨rfl, rfl⟩ rfl ?_
        refine zw_ifne ⟨rfl, rfl⟩ rfl (fun q => absurd q (by decide)) (fun _ => ?_)
        refine zw_goto ⟨rfl, rfl⟩ rfl ?_
        refine ih _ _ _ _ i1 (Or.inr ⟨rfl, ?_⟩) i3 i4 (by omega)
        have e1 := i1.2.2
        unfold ync
        rw [← e1]
        (repeat' split) <;> omega
end
