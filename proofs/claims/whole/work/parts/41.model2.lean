/-! The model: chains, ends, base, reph, pairs -/
theorem ybs0_s (σ : yS) (K : Int → Int) (b : Int) {a k : Int} (h0 : 0 ≤ a) (h : a < k) : ybs0 σ K b a k.toNat = if σ (28 + yL σ (ypl K b k)) / 2 % 2 = 0 ∨ yjo K (ypl K b (k - 1)) ≠ -1 then k else ybs0 σ K b a (k - 1).toNat := by
  rw [show k.toNat = (k - 1).toNat + 1 by omega]
  show (if (((k - 1).toNat : Nat) : Int) + 1 ≤ a then a else _) = _
  rw [if_neg (by omega), show (((k - 1).toNat : Nat) : Int) + 1 = k by omega, show (((k - 1).toNat : Nat) : Int) = k - 1 by omega]

theorem m_chains {b : Int} {M : zM} {Q : zV → zM → Prop} {σ : yS} (hV : yVal σ) (hM : yMo M σ) (h0 : 0 ≤ b) (h1 : b < σ 0) (h : yK σ b = 1) (kk : ∀ N : zM, ((N 208 21 = ym (yK σ) b ∧ ∀ k, 0 ≤ k → k < ym (yK σ) b → N 222 k = ypl (yK σ) b k ∧ N 223 k = ynk (yK σ) (ypl (yK σ) b k) ∧ N 224 k = yvi (yK σ) (ypl (yK σ) b k) ∧ N 225 k = yjo (yK σ) (ypl (yK σ) b k) ∧ N 226 k = 0) ∧ (∀ x, ¬ (222 ≤ x ∧ x ≤ 226) → x ≠ 208 → N x = M x) ∧ ∀ j, j ≠ 21 → N 208 j = M 208 j) → Q (0, yq (yK σ) (ypl (yK σ) b (ym (yK σ) b - 1))) N) : zWp kM_chains 0 [(1, 208), (0, b), (3, 0), (3, 0), (3, 0)] [] M Q := by
  have hn := hV.1
  refine zw_aload ⟨rfl, rfl⟩ rfl ?_
  refine zw_const ⟨rfl, rfl⟩ ?_
  refine zw_putI ⟨rfl, rfl⟩ zc_208 (by decide) (fun h => absurd h (by decide)) ?_
  refine zw_aload ⟨rfl, rfl⟩ rfl ?_
  refine zw_iload ⟨rfl, rfl⟩ rfl ?_
  refine zw_cavv2 ⟨rfl, rfl⟩ rfl zc_208 rfl ?_
  refine m_laysConsonant hV (hM.cg (zup_row (by decide))) ⟨by omega, by omega⟩ (s := 0) rfl ⟨by decide, by decide⟩ ?_
  have hnk := ynk_c (yK σ) b
  refine zw_aload ⟨rfl, rfl⟩ rfl ?_
  refine zw_const ⟨rfl, rfl⟩ ?_
  refine zw_callv2 ⟨rfl, rfl⟩ rfl zc_208 rfl ?_
  refine zw_aload ⟨rfl, rfl⟩ rfl ?_
  refine zw_getR 223 ⟨rfl, rfl⟩ zr_208_17 ?_
  refine zw_iload ⟨rfl, rfl⟩ rfl ?_
  refine zw_ialdv (v := ynk (yK σ) b) ⟨rfl, rfl⟩ za_223 (by omega) ((zup_na (by decide)).trans ((zup_na (by decide)).trans ((zup_na (by decide)).trans ((zup_na (by decide)).trans (zup_eq _ _ _ _))))) ?_
  refine zw_const ⟨rfl, rfl⟩ ?_
  refine zw_icne ⟨rfl, rfl⟩ rfl (fun c1 => ?_) (fun c1 => ?_)
  · skip
    refine zw_aload ⟨rfl, rfl⟩ rfl ?_
    refine zw_getR 223 ⟨rfl, rfl⟩ zr_208_17 ?_
    refine zw_iload ⟨rfl, rfl⟩ rfl ?_
    refine zw_ialdv (v := ynk (yK σ) b) ⟨rfl, rfl⟩ za_223 (by omega) ((zup_na (by decide)).trans ((zup_na (by decide)).trans ((zup_na (by decide)).trans ((zup_na (by decide)).trans (zup_eq _ _ _ _))))) ?_
    refine zw_const ⟨rfl, rfl⟩ ?_
    refine zw_iadd ⟨rfl, rfl⟩ (by omega) ?_
    refine zw_ret rfl ?_
    refine zw_istore_2 ⟨rfl, rfl⟩ ?_
    refine zw_const ⟨rfl, rfl⟩ ?_
    refine zw_istore_3 ⟨rfl, rfl⟩ ?_
    refine m_chains_l hV hM h0 h1 h kk _ _ _ _ _ ⟨by show (1 : Int) ≤ 0 + 1; decide, fun j j1 j2 => ?_, ?_⟩ (Or.inl rfl) (fun k k1 k2 => ?_) ⟨fun x x1 x2 => ?_, fun j hj => ?_⟩ (Nat.lt_succ_self _)
    · have : j < 0 + 1 - 1 := j2; omega
    · show _ = yq (yK σ) (ypl (yK σ) b (0 + 1 - 1))
      rw [show (0 : Int) + 1 - 1 = 0 from rfl, ypl_0]
      omega
    · have k3 : k < 0 + 1 := k2
      have e : k = 0 := by omega
      subst e
      exact ⟨rfl, rfl, (if_pos rfl).symm, (if_pos rfl).symm, rfl⟩
    · rw [zup_row x2, zup_row (by omega), zup_row (by omega), zup_row (by omega), zup_row (by omega), zup_row (by omega), zup_row x2]
    · rw [zup_ni hj, zup_na (by decide), zup_na (by decide), zup_na (by decide), zup_na (by decide), zup_na (by decide), zup_ni hj]
  · skip
    refine zw_aload ⟨rfl, rfl⟩ rfl ?_
    refine zw_getR 222 ⟨rfl, rfl⟩ zr_208_16 ?_
    refine zw_iload ⟨rfl, rfl⟩ rfl ?_
    refine zw_ialdv (v := b) ⟨rfl, rfl⟩ za_222 (by omega) ((zup_na (by decide)).trans ((zup_na (by decide)).trans ((zup_na (by decide)).trans ((zup_na (by decide)).trans ((zup_na (by decide)).trans (zup_eq _ _ _ _)))))) ?_
    refine zw_const ⟨rfl, rfl⟩ ?_
    refine zw_iadd ⟨rfl, rfl⟩ (by omega) ?_
    refine zw_goto ⟨rfl, rfl⟩ rfl ?_
    refine zw_ret rfl ?_
    refine zw_istore_2 ⟨rfl, rfl⟩ ?_
    refine zw_const ⟨rfl, rfl⟩ ?_
    refine zw_istore_3 ⟨rfl, rfl⟩ ?_
    refine m_chains_l hV hM h0 h1 h kk _ _ _ _ _ ⟨by show (1 : Int) ≤ 0 + 1; decide, fun j j1 j2 => ?_, ?_⟩ (Or.inl rfl) (fun k k1 k2 => ?_) ⟨fun x x1 x2 => ?_, fun j hj => ?_⟩ (Nat.lt_succ_self _)
    · have : j < 0 + 1 - 1 := j2; omega
    · show _ = yq (yK σ) (ypl (yK σ) b (0 + 1 - 1))
      rw [show (0 : Int) + 1 - 1 = 0 from rfl, ypl_0]
      omega
    · have k3 : k < 0 + 1 := k2
      have e : k = 0 := by omega
      subst e
      exact ⟨rfl, rfl, (if_pos rfl).symm, (if_pos rfl).symm, rfl⟩
    · rw [zup_row x2, zup_row (by omega), zup_row (by omega), zup_row (by omega), zup_row (by omega), zup_row (by omega), zup_row x2]
    · rw [zup_ni hj, zup_na (by decide), zup_na (by decide), zup_na (by decide), zup_na (by decide), zup_na (by decide), zup_ni hj]

theorem m_marksFrom_l  {p : Int} {M : zM} {Q : zV → zM → Prop} {σ : yS} (hV : yVal σ) (hM : yMo M σ) (hp : 0 ≤ p ∧ p ≤ σ 0) (k : Q (0, ymk (yK σ) 61 p) M) : ∀ (f : Nat) (q : Int), (p ≤ q ∧ q ≤ σ 0) → (∀ s, p ≤ s → s < q → yK σ s = 10 ∨ yK σ s = 11) → (σ 0 - q).toNat < f → zWp kM_marksFrom 2 [(1, 208), (0, p), (0, q)] [] M Q := by
  intro f
  induction f with
  | zero => intro q i1 i2 hf; exact absurd hf (Nat.not_lt_zero _)
  | succ f ih =>
    intro q i1 i2 hf
    have hK := yKr_K hV
    have hn := hV.1
    refine zw_aload ⟨rfl, rfl⟩ rfl ?_
    refine zw_iload ⟨rfl, rfl⟩ rfl ?_
    refine zw_callv2 ⟨rfl, rfl⟩ rfl zc_208 rfl ?_
    refine m_MkindAt hV hM (by omega) ?_
    refine zw_const ⟨rfl, rfl⟩ ?_
    refine zw_iceq ⟨rfl, rfl⟩ rfl (fun c1 => ?_) (fun c1 => ?_)
    · skip
      have hqn := ykp hK (p := q) (by omega)
      refine zw_iinc_2 ⟨rfl, rfl⟩ (by omega) ?_
      refine zw_goto ⟨rfl, rfl⟩ rfl ?_
      refine ih _ ⟨by omega, by omega⟩ (fun s s1 s2 => ?_) (by omega)
      by_cases e : s = q
      · subst e; omega
      · exact i2 s s1 (by omega)
    · skip
      refine zw_aload ⟨rfl, rfl⟩ rfl ?_
      refine zw_iload ⟨rfl, rfl⟩ rfl ?_
      refine zw_callv2 ⟨rfl, rfl⟩ rfl zc_208 rfl ?_
      refine m_MkindAt hV hM (by omega) ?_
      refine zw_const ⟨rfl, rfl⟩ ?_
      refine zw_icne ⟨rfl, rfl⟩ rfl (fun c2 => ?_) (fun c2 => ?_)
      · skip
        refine zw_iload ⟨rfl, rfl⟩ rfl ?_
        refine zw_ret rfl ?_
        rw [ymk_u hK hp.1 hp.2 i1.1 i2 (by omega)] at k
        exact k
      · skip
        have hqn := ykp hK (p := q) (by omega)
        refine zw_iinc_2 ⟨rfl, rfl⟩ (by omega) ?_
        refine zw_goto ⟨rfl, rfl⟩ rfl ?_
        refine ih _ ⟨by omega, by omega⟩ (fun s s1 s2 => ?_) (by omega)
        by_cases e : s = q
        · subst e; omega
        · exact i2 s s1 (by omega)

theorem m_marksFrom {p : Int} {M : zM} {Q : zV → zM → Prop} {σ : yS} (hV : yVal σ) (hM : yMo M σ) (hp : 0 ≤ p ∧ p ≤ σ 0) (k : Q (0, ymk (yK σ) 61 p) M) : zWp kM_marksFrom 0 [(1, 208), (0, p), (3, 0)] [] M Q := by
  refine zw_iload ⟨rfl, rfl⟩ rfl ?_
  refine zw_istore_2 ⟨rfl, rfl⟩ ?_
  exact m_marksFrom_l hV hM hp k _ _ ⟨Int.le_refl _, hp.2⟩ (fun s s1 s2 => by omega) (Nat.lt_succ_self _)

theorem m_ends_l  {c t : Int} {N : zM} {Q : zV → zM → Prop} {σ : yS} (hV : yVal σ) (hN : yMo N σ) (ht : 0 ≤ t ∧ t ≤ σ 0) (h3 : yK σ t ≠ 3) (k : Q (0, yed (yK σ) t) N) : ∀ (f : Nat) (q : Int), (t ≤ q ∧ q ≤ σ 0) → (∀ s, t ≤ s → s < q → 5 ≤ yK σ s ∧ yK σ s ≤ 9) → (σ 0 - q).toNat < f → zWp kM_ends 31 [(1, 208), (0, c), (0, t), (0, q)] [] N Q := by
  intro f
  induction f with
  | zero => intro q i1 i2 hf; exact absurd hf (Nat.not_lt_zero _)
  | succ f ih =>
    intro q i1 i2 hf
    have hK := yKr_K hV
    have hn := hV.1
    refine zw_aload ⟨rfl, rfl⟩ rfl ?_
    refine zw_iload ⟨rfl, rfl⟩ rfl ?_
    refine zw_callv2 ⟨rfl, rfl⟩ rfl zc_208 rfl ?_
    refine m_MkindAt hV hN (by omega) ?_
    refine zw_calls1 ⟨rfl, rfl⟩ rfl rfl ?_
    refine zw_iload ⟨rfl, rfl⟩ rfl ?_
    refine zw_i2l ⟨rfl, rfl⟩ ?_
    refine zw_lconst ⟨rfl, rfl⟩ ?_
    refine zw_lconst ⟨rfl, rfl⟩ ?_
    refine zw_calLs3 ⟨rfl, rfl⟩ rfl rfl ?_
    refine zw_lload ⟨rfl, rfl⟩ rfl ?_
    refine zw_lload ⟨rfl, rfl⟩ rfl ?_
    refine zw_lcmp ⟨rfl, rfl⟩ ?_
    refine zw_iflt ⟨rfl, rfl⟩ rfl (fun c1 => ?_) (fun c1 => ?_)
    · replace c1 := zlc_lt.mp c1
      refine zw_const ⟨rfl, rfl⟩ ?_
      refine zw_zret rfl (by first | exact Or.inl rfl | exact Or.inr rfl | omega) ?_
      refine zw_zret rfl (by first | exact Or.inl rfl | exact Or.inr rfl | omega) ?_
      refine zw_ifeq ⟨rfl, rfl⟩ rfl (fun _ => ?_) (fun q => absurd (by decide) q)
      refine zw_aload ⟨rfl, rfl⟩ rfl ?_
      refine zw_iload ⟨rfl, rfl⟩ rfl ?_
      refine zw_callv2 ⟨rfl, rfl⟩ rfl zc_208 rfl ?_
      refine m_marksFrom hV hN ⟨by omega, by omega⟩ ?_
      refine zw_ret rfl ?_
      have e := ysg_u hK ht.1 ht.2 i1.1 i2 (by omega)
      rw [show yed (yK σ) t = ymk (yK σ) 61 q from by unfold yed; rw [if_neg h3, e]] at k
      exact k
    · replace c1 := (not_congr zlc_lt).mp c1
      refine zw_lload ⟨rfl, rfl⟩ rfl ?_
      refine zw_lload ⟨rfl, rfl⟩ rfl ?_
      refine zw_lcmp ⟨rfl, rfl⟩ ?_
      refine zw_ifgt ⟨rfl, rfl⟩ rfl (fun c3 => ?_) (fun c3 => ?_)
      · replace c3 := zlc_gt.mp c3
        refine zw_const ⟨rfl, rfl⟩ ?_
        refine zw_zret rfl (by first | exact Or.inl rfl | exact Or.inr rfl | omega) ?_
        refine zw_zret rfl (by first | exact Or.inl rfl | exact Or.inr rfl | omega) ?_
        refine zw_ifeq ⟨rfl, rfl⟩ rfl (fun _ => ?_) (fun q => absurd (by decide) q)
        refine zw_aload ⟨rfl, rfl⟩ rfl ?_
        refine zw_iload ⟨rfl, rfl⟩ rfl ?_
        refine zw_callv2 ⟨rfl, rfl⟩ rfl zc_208 rfl ?_
        refine m_marksFrom hV hN ⟨by omega, by omega⟩ ?_
        refine zw_ret rfl ?_
        have e := ysg_u hK ht.1 ht.2 i1.1 i2 (by omega)
        rw [show yed (yK σ) t = ymk (yK σ) 61 q from by unfold yed; rw [if_neg h3, e]] at k
        exact k
      · replace c3 := (not_congr zlc_gt).mp c3
        refine zw_const ⟨rfl, rfl⟩ ?_
        refine zw_goto ⟨rfl, rfl⟩ rfl ?_
        refine zw_zret rfl (by first | exact Or.inl rfl | exact Or.inr rfl | omega) ?_
        refine zw_zret rfl (by first | exact Or.inl rfl | exact Or.inr rfl | omega) ?_
        refine zw_ifeq ⟨rfl, rfl⟩ rfl (fun q => absurd q (by decide)) (fun _ => ?_)
        have hqn := ykp hK (p := q) (by omega)
        refine zw_iinc_3 ⟨rfl, rfl⟩ (by omega) ?_
        refine zw_goto ⟨rfl, rfl⟩ rfl ?_
        refine ih _ ⟨by omega, by omega⟩ (fun s s1 s2 => ?_) (by omega)
        by_cases e : s = q
        · subst e; omega
        · exact i2 s s1 (by omega)

theorem m_ends {c t : Int} {M : zM} {Q : zV → zM → Prop} {σ : yS} (hV : yVal σ) (hM : yMo M σ) (hc : 0 ≤ c ∧ c < 60) (ht : 0 ≤ t ∧ t ≤ σ 0) (k : Q (0, yed (yK σ) t) (zup (zup M 208 22 t) 215 c (if yK σ t = 3 then 1 else 0))) : zWp kM_ends 0 [(1, 208), (0, c), (0, t), (3, 0)] [] M Q := by
  have hK := yKr_K hV
  have hn := hV.1
  refine zw_aload ⟨rfl, rfl⟩ rfl ?_
  refine zw_iload ⟨rfl, rfl⟩ rfl ?_
  refine zw_putI ⟨rfl, rfl⟩ zc_208 (by decide) (fun h => absurd h (by decide)) ?_
  refine zw_iload ⟨rfl, rfl⟩ rfl ?_
  refine zw_istore_3 ⟨rfl, rfl⟩ ?_
  refine zw_aload ⟨rfl, rfl⟩ rfl ?_
  refine zw_getR 215 ⟨rfl, rfl⟩ zr_208_8 ?_
  refine zw_iload ⟨rfl, rfl⟩ rfl ?_
  refine zw_aload ⟨rfl, rfl⟩ rfl ?_
  refine zw_iload ⟨rfl, rfl⟩ rfl ?_
  refine zw_callv2 ⟨rfl, rfl⟩ rfl zc_208 rfl ?_
  refine m_MkindAt hV (hM.cg (by rw [zup_row (by decide)])) (by omega) ?_
  refine zw_const ⟨rfl, rfl⟩ ?_
  refine zw_icne ⟨rfl, rfl⟩ rfl (fun c1 => ?_) (fun c1 => ?_)
  · skip
    refine zw_const ⟨rfl, rfl⟩ ?_
    refine zw_iast ⟨rfl, rfl⟩ za_215 (by omega) ?_
    refine zw_aload ⟨rfl, rfl⟩ rfl ?_
    refine zw_getR 215 ⟨rfl, rfl⟩ zr_208_8 ?_
    refine zw_iload ⟨rfl, rfl⟩ rfl ?_
    refine zw_ialdv (v := 0) ⟨rfl, rfl⟩ za_215 (by omega) (zup_eq _ _ _ _) ?_
    refine zw_const ⟨rfl, rfl⟩ ?_
    refine zw_icne ⟨rfl, rfl⟩ rfl (fun _ => ?_) (fun q => absurd (by decide) q)
    rw [if_neg (by omega)] at k
    exact m_ends_l hV (hM.cg (by rw [zup_row (by decide), zup_row (by decide)])) ht (by omega) k _ _ ⟨Int.le_refl _, ht.2⟩ (fun s s1 s2 => by omega) (Nat.lt_succ_self _)
  · skip
    refine zw_const ⟨rfl, rfl⟩ ?_
    refine zw_goto ⟨rfl, rfl⟩ rfl ?_
    refine zw_iast ⟨rfl, rfl⟩ za_215 (by omega) ?_
    refine zw_aload ⟨rfl, rfl⟩ rfl ?_
    refine zw_getR 215 ⟨rfl, rfl⟩ zr_208_8 ?_
    refine zw_iload ⟨rfl, rfl⟩ rfl ?_
    refine zw_ialdv (v := 1) ⟨rfl, rfl⟩ za_215 (by omega) (zup_eq _ _ _ _) ?_
    refine zw_const ⟨rfl, rfl⟩ ?_
    refine zw_icne ⟨rfl, rfl⟩ rfl (fun q => absurd q (by decide)) (fun _ => ?_)
    refine zw_iinc_3 ⟨rfl, rfl⟩ (by omega) ?_
    refine zw_aload ⟨rfl, rfl⟩ rfl ?_
    refine zw_iload ⟨rfl, rfl⟩ rfl ?_
    refine zw_callv2 ⟨rfl, rfl⟩ rfl zc_208 rfl ?_
    refine m_MkindAt hV (hM.cg (by rw [zup_row (by decide), zup_row (by decide)])) (by omega) ?_
    refine zw_calls1 ⟨rfl, rfl⟩ rfl rfl ?_
    refine zw_iload ⟨rfl, rfl⟩ rfl ?_
    refine zw_const ⟨rfl, rfl⟩ ?_
    refine zw_iceq ⟨rfl, rfl⟩ rfl (fun c4 => ?_) (fun c4 => ?_)
    · skip
      refine zw_const ⟨rfl, rfl⟩ ?_
      refine zw_goto ⟨rfl, rfl⟩ rfl ?_
      refine zw_zret rfl (by first | exact Or.inl rfl | exact Or.inr rfl | omega) ?_
      refine zw_ifeq ⟨rfl, rfl⟩ rfl (fun q => absurd q (by decide)) (fun _ => ?_)
      refine zw_iinc_3 ⟨rfl, rfl⟩ (by omega) ?_
      refine zw_goto ⟨rfl, rfl⟩ rfl ?_
      refine zw_aload ⟨rfl, rfl⟩ rfl ?_
      refine zw_iload ⟨rfl, rfl⟩ rfl ?_
      refine zw_callv2 ⟨rfl, rfl⟩ rfl zc_208 rfl ?_
      have hx : 0 ≤ (t + 1) + 1 ∧ (t + 1) + 1 ≤ σ 0 := by
        have g0 := fun (x : Int) (hx : yK σ x ≠ -1) => ykp hK (p := x) hx
        have g1 := g0 t
        have g2 := g0 (t + 1)
        omega
      refine m_marksFrom hV (hM.cg (by rw [zup_row (by decide), zup_row (by decide)])) hx ?_
      refine zw_ret rfl ?_
      rw [if_pos (by omega)] at k
      rw [show yed (yK σ) t = ymk (yK σ) 61 ((t + 1) + 1) from by unfold yed; rw [if_pos (by omega)]; (repeat' split) <;> first | rfl | (exfalso; omega) | (rw [show t + 1 + 1 = t + 2 by omega])] at k
      exact k
    · skip
      refine zw_iload ⟨rfl, rfl⟩ rfl ?_
      refine zw_const ⟨rfl, rfl⟩ ?_
      refine zw_icne ⟨rfl, rfl⟩ rfl (fun c6 => ?_) (fun c6 => ?_)
      · skip
        refine zw_const ⟨rfl, rfl⟩ ?_
        refine zw_zret rfl (by first | exact Or.inl rfl | exact Or.inr rfl | omega) ?_
        refine zw_ifeq ⟨rfl, rfl⟩ rfl (fun _ => ?_) (fun q => absurd (by decide) q)
        refine zw_aload ⟨rfl, rfl⟩ rfl ?_
        refine zw_iload ⟨rfl, rfl⟩ rfl ?_
        refine zw_callv2 ⟨rfl, rfl⟩ rfl zc_208 rfl ?_
        have hx : 0 ≤ t + 1 ∧ t + 1 ≤ σ 0 := by
          have g0 := fun (x : Int) (hx : yK σ x ≠ -1) => ykp hK (p := x) hx
          have g1 := g0 t
          have g2 := g0 (t + 1)
          omega
        refine m_marksFrom hV (hM.cg (by rw [zup_row (by decide), zup_row (by decide)])) hx ?_
        refine zw_ret rfl ?_
        rw [if_pos (by omega)] at k
        rw [show yed (yK σ) t = ymk (yK σ) 61 (t + 1) from by unfold yed; rw [if_pos (by omega)]; (repeat' split) <;> first | rfl | (exfalso; omega) | (rw [show t + 1 + 1 = t + 2 by omega])] at k
        exact k
      · skip
        refine zw_const ⟨rfl, rfl⟩ ?_
        refine zw_goto ⟨rfl, rfl⟩ rfl ?_
        refine zw_zret rfl (by first | exact Or.inl rfl | exact Or.inr rfl | omega) ?_
        refine zw_ifeq ⟨rfl, rfl⟩ rfl (fun q => absurd q (by decide)) (fun _ => ?_)
        refine zw_iinc_3 ⟨rfl, rfl⟩ (by omega) ?_
        refine zw_goto ⟨rfl, rfl⟩ rfl ?_
        refine zw_aload ⟨rfl, rfl⟩ rfl ?_
        refine zw_iload ⟨rfl, rfl⟩ rfl ?_
        refine zw_callv2 ⟨rfl, rfl⟩ rfl zc_208 rfl ?_
        have hx : 0 ≤ (t + 1) + 1 ∧ (t + 1) + 1 ≤ σ 0 := by
          have g0 := fun (x : Int) (hx : yK σ x ≠ -1) => ykp hK (p := x) hx
          have g1 := g0 t
          have g2 := g0 (t + 1)
          omega
        refine m_marksFrom hV (hM.cg (by rw [zup_row (by decide), zup_row (by decide)])) hx ?_
        refine zw_ret rfl ?_
        rw [if_pos (by omega)] at k
        rw [show yed (yK σ) t = ymk (yK σ) 61 ((t + 1) + 1) from by unfold yed; rw [if_pos (by omega)]; (repeat' split) <;> first | rfl | (exfalso; omega) | (rw [show t + 1 + 1 = t + 2 by omega])] at k
        exact k

theorem m_MhasReph {b : Int} {M : zM} {Q : zV → zM → Prop} {σ : yS} (hV : yVal σ) (hM : yMo M σ) (h0 : 0 ≤ b) (h1 : b < σ 0) (h : yK σ b = 1) (hA : M 208 21 = ym (yK σ) b ∧ ∀ k, 0 ≤ k → k < ym (yK σ) b → M 222 k = ypl (yK σ) b k ∧ M 223 k = ynk (yK σ) (ypl (yK σ) b k) ∧ M 224 k = yvi (yK σ) (ypl (yK σ) b k) ∧ M 225 k = yjo (yK σ) (ypl (yK σ) b k) ∧ M 226 k = 0) (k : Q (0, yrp σ (yK σ) b) M) : zWp kM_hasReph 0 [(1, 208)] [] M Q := by
  have hK := yKr_K hV
  have hm := ym_r hK h0 h1 h
  have hn := hV.1
  have hl := yL_r hV h0 h1
  have hb1 : ybt σ (yL σ b) 1 = σ (28 + yL σ b) % 2 := rfl
  refine zw_aload ⟨rfl, rfl⟩ rfl ?_
  refine zw_getIv (v := ym (yK σ) b) ⟨rfl, rfl⟩ zc_208 (by decide) (hA.1) ?_
  refine zw_const ⟨rfl, rfl⟩ ?_
  refine zw_icle ⟨rfl, rfl⟩ rfl (fun c1 => ?_) (fun c1 => ?_)
  · skip
    refine zw_const ⟨rfl, rfl⟩ ?_
    refine zw_zret rfl (by first | exact Or.inl rfl | exact Or.inr rfl | omega) ?_
    rw [show yrp σ (yK σ) b = 0 from by unfold yrp; rw [if_neg (fun z => by have z2 := z.2.2.1; have z4 := (ynk_m (yK σ) h0).mpr z.2.2.2.1; have := z.2.1; have := z.2.2.2.2; omega)]] at k
    exact k
  · skip
    refine zw_aload ⟨rfl, rfl⟩ rfl ?_
    refine zw_aload ⟨rfl, rfl⟩ rfl ?_
    refine zw_aload ⟨rfl, rfl⟩ rfl ?_
    refine zw_getR 222 ⟨rfl, rfl⟩ zr_208_16 ?_
    refine zw_const ⟨rfl, rfl⟩ ?_
    refine zw_ialdv (v := b) ⟨rfl, rfl⟩ za_222 (by omega) ((hA.2 0 (by decide) (by omega)).1) ?_
    refine zw_callv2 ⟨rfl, rfl⟩ rfl zc_208 rfl ?_
    refine m_MletterAt hV hM ⟨by omega, by omega⟩ ?_
    refine zw_const ⟨rfl, rfl⟩ ?_
    refine zw_callv3 ⟨rfl, rfl⟩ rfl zc_208 rfl ?_
    refine m_Mdoes hV hM hl (Or.inl rfl) ?_
    refine zw_ifeq ⟨rfl, rfl⟩ rfl (fun c2 => ?_) (fun c2 => ?_)
    · skip
      refine zw_const ⟨rfl, rfl⟩ ?_
      refine zw_zret rfl (by first | exact Or.inl rfl | exact Or.inr rfl | omega) ?_
      rw [show yrp σ (yK σ) b = 0 from by unfold yrp; rw [if_neg (fun z => by have z2 := z.2.2.1; have z4 := (ynk_m (yK σ) h0).mpr z.2.2.2.1; have := z.2.1; have := z.2.2.2.2; omega)]] at k
      exact k
    · skip
      refine zw_aload ⟨rfl, rfl⟩ rfl ?_
      refine zw_getR 223 ⟨rfl, rfl⟩ zr_208_17 ?_
      refine zw_const ⟨rfl, rfl⟩ ?_
      refine zw_ialdv (v := ynk (yK σ) b) ⟨rfl, rfl⟩ za_223 (by omega) ((hA.2 0 (by decide) (by omega)).2.1) ?_
      refine zw_const ⟨rfl, rfl⟩ ?_
      refine zw_icne ⟨rfl, rfl⟩ rfl (fun c3 => ?_) (fun c3 => ?_)
      · skip
        refine zw_const ⟨rfl, rfl⟩ ?_
        refine zw_zret rfl (by first | exact Or.inl rfl | exact Or.inr rfl | omega) ?_
        rw [show yrp σ (yK σ) b = 0 from by unfold yrp; rw [if_neg (fun z => by have z2 := z.2.2.1; have z4 := (ynk_m (yK σ) h0).mpr z.2.2.2.1; have := z.2.1; have := z.2.2.2.2; omega)]] at k
        exact k
      · skip
        refine zw_aload ⟨rfl, rfl⟩ rfl ?_
        refine zw_getR 225 ⟨rfl, rfl⟩ zr_208_19 ?_
        refine zw_const ⟨rfl, rfl⟩ ?_
        refine zw_ialdv (v := yjo (yK σ) b) ⟨rfl, rfl⟩ za_225 (by omega) ((hA.2 0 (by decide) (by omega)).2.2.2.1) ?_
        refine zw_const ⟨rfl, rfl⟩ ?_
        refine zw_icne ⟨rfl, rfl⟩ rfl (fun c4 => ?_) (fun c4 => ?_)
        · skip
          refine zw_const ⟨rfl, rfl⟩ ?_
          refine zw_zret rfl (by first | exact Or.inl rfl | exact Or.inr rfl | omega) ?_
          rw [show yrp σ (yK σ) b = 0 from by unfold yrp; rw [if_neg (fun z => by have z2 := z.2.2.1; have z4 := (ynk_m (yK σ) h0).mpr z.2.2.2.1; have := z.2.1; have := z.2.2.2.2; omega)]] at k
          exact k
        · skip
          refine zw_const ⟨rfl, rfl⟩ ?_
          refine zw_goto ⟨rfl, rfl⟩ rfl ?_
          refine zw_zret rfl (by first | exact Or.inl rfl | exact Or.inr rfl | omega) ?_
          rw [show yrp σ (yK σ) b = 1 from by unfold yrp; rw [if_pos ⟨h, by omega, by omega, (ynk_m _ h0).mp (by omega), by omega⟩]] at k
          exact k

theorem m_baseOf_l  {a v : Int} {b : Int} {M : zM} {Q : zV → zM → Prop} {σ : yS} (hV : yVal σ) (hM : yMo M σ) (h0 : 0 ≤ b) (h1 : b < σ 0) (h : yK σ b = 1) (hA : M 208 21 = ym (yK σ) b ∧ ∀ k, 0 ≤ k → k < ym (yK σ) b → M 222 k = ypl (yK σ) b k ∧ M 223 k = ynk (yK σ) (ypl (yK σ) b k) ∧ M 224 k = yvi (yK σ) (ypl (yK σ) b k) ∧ M 225 k = yjo (yK σ) (ypl (yK σ) b k) ∧ M 226 k = 0) (ha : 0 ≤ a ∧ a < ym (yK σ) b) (kk : Q (0, v) M) : ∀ (f : Nat) (k : Int), (a - 1 ≤ k ∧ k < ym (yK σ) b) → ((a ≤ k → ybs0 σ (yK σ) b a k.toNat = v) ∧ (k < a → v = a)) → (k + 1).toNat < f → zWp kM_baseOf 5 [(1, 208), (0, a), (0, k)] [] M Q := by
  intro f
  induction f with
  | zero => intro k i1 i2 hf; exact absurd hf (Nat.not_lt_zero _)
  | succ f ih =>
    intro k i1 i2 hf
    have hK := yKr_K hV
    have hm := ym_r hK h0 h1 h
    have hn := hV.1
    refine zw_iload ⟨rfl, rfl⟩ rfl ?_
    refine zw_iload ⟨rfl, rfl⟩ rfl ?_
    refine zw_iclt ⟨rfl, rfl⟩ rfl (fun c1 => ?_) (fun c1 => ?_)
    · skip
      refine zw_iload ⟨rfl, rfl⟩ rfl ?_
      refine zw_ret rfl ?_
      rw [i2.2 (by omega)] at kk
      exact kk
    · skip
      have hp := (ypl_r hK h0 h1 h (show 0 ≤ k by omega) (by omega)).1
      have hl := yL_r hV (show 0 ≤ ypl (yK σ) b k by omega) hp.2.2
      have hb2 : ybt σ (yL σ (ypl (yK σ) b k)) 2 = σ (28 + yL σ (ypl (yK σ) b k)) / 2 % 2 := rfl
      have hbr := ybt_r σ (yL σ (ypl (yK σ) b k)) 2
      have i3 := i2.1 (by omega)
      have i4 : (k = a → v = a) ∧ (a < k → (if σ (28 + yL σ (ypl (yK σ) b k)) / 2 % 2 = 0 ∨ yjo (yK σ) (ypl (yK σ) b (k - 1)) ≠ -1 then k else ybs0 σ (yK σ) b a (k - 1).toNat) = v) := by
        constructor
        · intro z
          rw [← i3, z]
          by_cases z0 : a = 0
          · rw [z0]; rfl
          · rw [show a.toNat = (a - 1).toNat + 1 by omega]; unfold ybs0; rw [if_pos (by omega)]
        · intro z
          exact (ybs0_s σ (yK σ) b (by omega) z).symm.trans i3
      refine zw_aload ⟨rfl, rfl⟩ rfl ?_
      refine zw_aload ⟨rfl, rfl⟩ rfl ?_
      refine zw_aload ⟨rfl, rfl⟩ rfl ?_
      refine zw_getR 222 ⟨rfl, rfl⟩ zr_208_16 ?_
      refine zw_iload ⟨rfl, rfl⟩ rfl ?_
      refine zw_ialdv (v := ypl (yK σ) b k) ⟨rfl, rfl⟩ za_222 (by omega) ((hA.2 k (by omega) (by omega)).1) ?_
      refine zw_callv2 ⟨rfl, rfl⟩ rfl zc_208 rfl ?_
      refine m_MletterAt hV hM ⟨by omega, by omega⟩ ?_
      refine zw_const ⟨rfl, rfl⟩ ?_
      refine zw_callv3 ⟨rfl, rfl⟩ rfl zc_208 rfl ?_
      refine m_Mdoes hV hM hl (Or.inr (Or.inl rfl)) ?_
      refine zw_ifeq ⟨rfl, rfl⟩ rfl (fun c2 => ?_) (fun c2 => ?_)
      · skip
        refine zw_iload ⟨rfl, rfl⟩ rfl ?_
        refine zw_ret rfl ?_
        by_cases z : k = a
        · rw [i4.1 z, ← z] at kk; exact kk
        · have i5 := i4.2 (by omega)
          rw [if_pos (by omega)] at i5
          rw [← i5] at kk; exact kk
      · skip
        refine zw_aload ⟨rfl, rfl⟩ rfl ?_
        refine zw_iload ⟨rfl, rfl⟩ rfl ?_
        refine zw_callv2 ⟨rfl, rfl⟩ rfl zc_208 rfl ?_
        refine zw_iload ⟨rfl, rfl⟩ rfl ?_
        refine zw_ifle ⟨rfl, rfl⟩ rfl (fun c3 => ?_) (fun c3 => ?_)
        · skip
          refine zw_const ⟨rfl, rfl⟩ ?_
          refine zw_zret rfl (by first | exact Or.inl rfl | exact Or.inr rfl | omega) ?_
          refine zw_ifeq ⟨rfl, rfl⟩ rfl (fun _ => ?_) (fun q => absurd (by decide) q)
          refine zw_iinc_2 ⟨rfl, rfl⟩ (by omega) ?_
          refine zw_goto ⟨rfl, rfl⟩ rfl ?_
          refine ih _ ⟨by omega, by omega⟩ ⟨fun z => ?_, fun z => ?_⟩ (by omega)
          · have i5 := i4.2 (by omega)
            rw [if_neg (by omega)] at i5
            exact i5
          · exact i4.1 (by omega)
        · skip
          refine zw_aload ⟨rfl, rfl⟩ rfl ?_
          refine zw_getR 225 ⟨rfl, rfl⟩ zr_208_19 ?_
          refine zw_iload ⟨rfl, rfl⟩ rfl ?_
          refine zw_const ⟨rfl, rfl⟩ ?_
          refine zw_isub ⟨rfl, rfl⟩ (by omega) ?_
          refine zw_ialdv (v := yjo (yK σ) (ypl (yK σ) b (k - 1))) ⟨rfl, rfl⟩ za_225 (by omega) ((hA.2 (k - 1) (by omega) (by omega)).2.2.2.1) ?_
          refine zw_const ⟨rfl, rfl⟩ ?_
          refine zw_iceq ⟨rfl, rfl⟩ rfl (fun c5 => ?_) (fun c5 => ?_)
          · skip
            refine zw_const ⟨rfl, rfl⟩ ?_
            refine zw_zret rfl (by first | exact Or.inl rfl | exact Or.inr rfl | omega) ?_
            refine zw_ifeq ⟨rfl, rfl⟩ rfl (fun _ => ?_) (fun q => absurd (by decide) q)
            refine zw_iinc_2 ⟨rfl, rfl⟩ (by omega) ?_
            refine zw_goto ⟨rfl, rfl⟩ rfl ?_
            refine ih _ ⟨by omega, by omega⟩ ⟨fun z => ?_, fun z => ?_⟩ (by omega)
            · have i5 := i4.2 (by omega)
              rw [if_neg (by omega)] at i5
              exact i5
            · exact i4.1 (by omega)
          · skip
            refine zw_const ⟨rfl, rfl⟩ ?_
            refine zw_goto ⟨rfl, rfl⟩ rfl ?_
            refine zw_zret rfl (by first | exact Or.inl rfl | exact Or.inr rfl | omega) ?_
            refine zw_ifeq ⟨rfl, rfl⟩ rfl (fun q => absurd q (by decide)) (fun _ => ?_)
            refine zw_iload ⟨rfl, rfl⟩ rfl ?_
            refine zw_ret rfl ?_
            by_cases z : k = a
            · rw [i4.1 z, ← z] at kk; exact kk
            · have i5 := i4.2 (by omega)
              rw [if_pos (by omega)] at i5
              rw [← i5] at kk; exact kk

theorem m_baseOf {a : Int} {b : Int} {M : zM} {Q : zV → zM → Prop} {σ : yS} (hV : yVal σ) (hM : yMo M σ) (h0 : 0 ≤ b) (h1 : b < σ 0) (h : yK σ b = 1) (hA : M 208 21 = ym (yK σ) b ∧ ∀ k, 0 ≤ k → k < ym (yK σ) b → M 222 k = ypl (yK σ) b k ∧ M 223 k = ynk (yK σ) (ypl (yK σ) b k) ∧ M 224 k = yvi (yK σ) (ypl (yK σ) b k) ∧ M 225 k = yjo (yK σ) (ypl (yK σ) b k) ∧ M 226 k = 0) (ha : 0 ≤ a ∧ a < ym (yK σ) b) (k : Q (0, ybs0 σ (yK σ) b a (ym (yK σ) b - 1).toNat) M) : zWp kM_baseOf 0 [(1, 208), (0, a), (3, 0)] [] M Q := by
  have hK := yKr_K hV
  have hm := ym_r hK h0 h1 h
  have hn := hV.1
  refine zw_aload ⟨rfl, rfl⟩ rfl ?_
  refine zw_getIv (v := ym (yK σ) b) ⟨rfl, rfl⟩ zc_208 (by decide) (hA.1) ?_
  refine zw_const ⟨rfl, rfl⟩ ?_
  refine zw_isub ⟨rfl, rfl⟩ (by omega) ?_
  refine zw_istore_2 ⟨rfl, rfl⟩ ?_
  exact m_baseOf_l hV hM h0 h1 h hA ha k _ _ ⟨by omega, by omega⟩ ⟨fun _ => rfl, fun z => by omega⟩ (Nat.lt_succ_self _)

section
set_option maxHeartbeats 4000000
theorem m_joinsChain_l  {b : Int} {M : zM} {Q : zV → zM → Prop} {σ : yS} (hV : yVal σ) (hM : yMo M σ) (h0 : 0 ≤ b) (h1 : b < σ 0) (h : yK σ b = 1) (hA : M 208 21 = ym (yK σ) b ∧ ∀ k, 0 ≤ k → k < ym (yK σ) b → M 222 k = ypl (yK σ) b k ∧ M 223 k = ynk (yK σ) (ypl (yK σ) b k) ∧ M 224 k = yvi (yK σ) (ypl (yK σ) b k) ∧ M 225 k = yjo (yK σ) (ypl (yK σ) b k) ∧ M 226 k = 0) (kk : ∀ N : zM, ((∀ j, 0 ≤ j → j < ym (yK σ) b → N 226 j = yjf σ (yK σ) b j) ∧ ∀ x, x ≠ 226 → N x = M x) → Q (3, 0) N) : ∀ (f : Nat) (k : Int) (u : zV) (N : zM), (yrp σ (yK σ) b ≤ k ∧ k ≤ yba σ (yK σ) b) → (∀ x, x ≠ 226 → N x = M x) → (∀ j, 0 ≤ j → j < ym (yK σ) b → N 226 j = if j < k then yjf σ (yK σ) b j else 0) → (yba σ (yK σ) b - k).toNat < f → zWp kM_joinsChain 2 [(1, 208), (0, yrp σ (yK σ) b), (0, yba σ (yK σ) b), (0, k), u] [] N Q := by
  intro f
  induction f with
  | zero => intro k u N i1 i3 i4 hf; exact absurd hf (Nat.not_lt_zero _)
  | succ f ih =>
    intro k u N i1 i3 i4 hf
    have hK := yKr_K hV
    have hm := ym_r hK h0 h1 h
    have hn := hV.1
    have hr := yrp_r σ (yK σ) b
    have hz := yba_r (σ := σ) hK h0 h1 h
    have hM2 : yMo N σ := hM.cg (i3 209 (by decide))
    refine zw_iload ⟨rfl, rfl⟩ rfl ?_
    refine zw_iload ⟨rfl, rfl⟩ rfl ?_
    refine zw_icge ⟨rfl, rfl⟩ rfl (fun c1 => ?_) (fun c1 => ?_)
    · skip
      refine zw_void rfl ?_
      have e : k = yba σ (yK σ) b := by omega
      refine kk _ ⟨fun j q1 q2 => ?_, i3⟩
      rw [i4 j q1 q2]
      split
      · rfl
      · have := yjf_r σ (yK σ) b q1
        omega
    · skip
      have hp := (ypl_r hK h0 h1 h (show 0 ≤ k by omega) (by omega)).1
      have hp2 := (ypl_r hK h0 h1 h (show 0 ≤ k + 1 by omega) (by omega)).1
      have hj2 : yjn σ (yL σ (ypl (yK σ) b k)) (yL σ (ypl (yK σ) b (k + 1))) = 0 ∨ yjn σ (yL σ (ypl (yK σ) b k)) (yL σ (ypl (yK σ) b (k + 1))) = 1 := yJ_r σ _ _ _
      refine zw_iload ⟨rfl, rfl⟩ rfl ?_
      refine zw_iload ⟨rfl, rfl⟩ rfl ?_
      refine zw_icle ⟨rfl, rfl⟩ rfl (fun c2 => ?_) (fun c2 => ?_)
      · skip
        have htk : k = 0 ∨ yjf σ (yK σ) b (k - 1) ≠ 1 := by
          by_cases z : k = 0
          · exact Or.inl z
          · refine Or.inr (fun z2 => ?_)
            have := (yjf_r σ (yK σ) b (show 0 ≤ k - 1 by omega)).2 z2
            omega
        refine zw_const ⟨rfl, rfl⟩ ?_
        refine zw_istore_4 ⟨rfl, rfl⟩ ?_
        refine zw_aload ⟨rfl, rfl⟩ rfl ?_
        refine zw_getR 226 ⟨rfl, rfl⟩ zr_208_20 ?_
        refine zw_iload ⟨rfl, rfl⟩ rfl ?_
        refine zw_iload ⟨rfl, rfl⟩ rfl ?_
        refine zw_ifne ⟨rfl, rfl⟩ rfl (fun q => absurd q (by decide)) (fun _ => ?_)
        refine zw_aload ⟨rfl, rfl⟩ rfl ?_
        refine zw_getR 225 ⟨rfl, rfl⟩ zr_208_19 ?_
        refine zw_iload ⟨rfl, rfl⟩ rfl ?_
        refine zw_ialdv (v := yjo (yK σ) (ypl (yK σ) b k)) ⟨rfl, rfl⟩ za_225 (by omega) ((congrFun (i3 225 (by decide)) k).trans (hA.2 k (by omega) (by omega)).2.2.2.1) ?_
        refine zw_const ⟨rfl, rfl⟩ ?_
        refine zw_icne ⟨rfl, rfl⟩ rfl (fun c4 => ?_) (fun c4 => ?_)
        · skip
          refine zw_const ⟨rfl, rfl⟩ ?_
          refine zw_bast3 ⟨rfl, rfl⟩ za_226 (by omega) (by first | exact Or.inl rfl | exact Or.inr rfl | omega) ?_
          refine zw_iinc_3 ⟨rfl, rfl⟩ (by omega) ?_
          refine zw_goto ⟨rfl, rfl⟩ rfl ?_
          have e : yjf σ (yK σ) b k = 0 := by
            rw [yjf_s σ (yK σ) b (by omega)]
            refine if_neg (fun z => ?_)
            obtain ⟨z1, z2, z3, z4, z5, z6⟩ := z
            have z7 := (ynk_m (yK σ) (show 0 ≤ ypl (yK σ) b k by omega)).mpr z5
            first | omega | (rcases z3 with z3 | z3 <;> omega)
          refine ih _ _ _ ⟨by omega, by omega⟩ (fun x hx => by rw [zup_row hx]; exact i3 x hx) (fun j q1 q2 => ?_) (by omega)
          have := i4 j q1 q2
          by_cases hj : j = k
          · subst hj; rw [if_pos (by omega), e]; exact zup_eq _ _ _ _
          · rw [zup_ni hj, this]
            by_cases q3 : j < k
            · rw [if_pos q3, if_pos (by omega)]
            · rw [if_neg q3, if_neg (by omega)]
        · skip
          refine zw_aload ⟨rfl, rfl⟩ rfl ?_
          refine zw_getR 223 ⟨rfl, rfl⟩ zr_208_17 ?_
          refine zw_iload ⟨rfl, rfl⟩ rfl ?_
          refine zw_ialdv (v := ynk (yK σ) (ypl (yK σ) b k)) ⟨rfl, rfl⟩ za_223 (by omega) ((congrFun (i3 223 (by decide)) k).trans (hA.2 k (by omega) (by omega)).2.1) ?_
          refine zw_const ⟨rfl, rfl⟩ ?_
          refine zw_icne ⟨rfl, rfl⟩ rfl (fun c5 => ?_) (fun c5 => ?_)
          · skip
            refine zw_const ⟨rfl, rfl⟩ ?_
            refine zw_bast3 ⟨rfl, rfl⟩ za_226 (by omega) (by first | exact Or.inl rfl | exact Or.inr rfl | omega) ?_
            refine zw_iinc_3 ⟨rfl, rfl⟩ (by omega) ?_
            refine zw_goto ⟨rfl, rfl⟩ rfl ?_
            have e : yjf σ (yK σ) b k = 0 := by
              rw [yjf_s σ (yK σ) b (by omega)]
              refine if_neg (fun z => ?_)
              obtain ⟨z1, z2, z3, z4, z5, z6⟩ := z
              have z7 := (ynk_m (yK σ) (show 0 ≤ ypl (yK σ) b k by omega)).mpr z5
              first | omega | (rcases z3 with z3 | z3 <;> omega)
            refine ih _ _ _ ⟨by omega, by omega⟩ (fun x hx => by rw [zup_row hx]; exact i3 x hx) (fun j q1 q2 => ?_) (by omega)
            have := i4 j q1 q2
            by_cases hj : j = k
            · subst hj; rw [if_pos (by omega), e]; exact zup_eq _ _ _ _
            · rw [zup_ni hj, this]
              by_cases q3 : j < k
              · rw [if_pos q3, if_pos (by omega)]
              · rw [if_neg q3, if_neg (by omega)]
          · skip
            refine zw_aload ⟨rfl, rfl⟩ rfl ?_
            refine zw_getR 209 ⟨rfl, rfl⟩ zr_208_1 ?_
            refine zw_aload ⟨rfl, rfl⟩ rfl ?_
            refine zw_aload ⟨rfl, rfl⟩ rfl ?_
            refine zw_getR 222 ⟨rfl, rfl⟩ zr_208_16 ?_
            refine zw_iload ⟨rfl, rfl⟩ rfl ?_
            refine zw_ialdv (v := ypl (yK σ) b k) ⟨rfl, rfl⟩ za_222 (by omega) ((congrFun (i3 222 (by decide)) k).trans (hA.2 k (by omega) (by omega)).1) ?_
            refine zw_callv2 ⟨rfl, rfl⟩ rfl zc_208 rfl ?_
            refine m_MletterAt hV hM2 ⟨by omega, by omega⟩ ?_
            refine zw_aload ⟨rfl, rfl⟩ rfl ?_
            refine zw_aload ⟨rfl, rfl⟩ rfl ?_
            refine zw_getR 222 ⟨rfl, rfl⟩ zr_208_16 ?_
            refine zw_iload ⟨rfl, rfl⟩ rfl ?_
            refine zw_const ⟨rfl, rfl⟩ ?_
            refine zw_iadd ⟨rfl, rfl⟩ (by omega) ?_
            refine zw_ialdv (v := ypl (yK σ) b (k + 1)) ⟨rfl, rfl⟩ za_222 (by omega) ((congrFun (i3 222 (by decide)) (k + 1)).trans (hA.2 (k + 1) (by omega) (by omega)).1) ?_
            refine zw_callv2 ⟨rfl, rfl⟩ rfl zc_208 rfl ?_
            refine m_MletterAt hV hM2 ⟨by omega, by omega⟩ ?_
            refine zw_calls3 ⟨rfl, rfl⟩ rfl rfl ?_
            refine m_doJoin_209 (fun j j1 j2 => hM2 j j1 (by omega)) hV.2.1 ?_
            refine zw_ifeq ⟨rfl, rfl⟩ rfl (fun c6 => ?_) (fun c6 => ?_)
            · skip
              refine zw_const ⟨rfl, rfl⟩ ?_
              refine zw_bast3 ⟨rfl, rfl⟩ za_226 (by omega) (by first | exact Or.inl rfl | exact Or.inr rfl | omega) ?_
              refine zw_iinc_3 ⟨rfl, rfl⟩ (by omega) ?_
              refine zw_goto ⟨rfl, rfl⟩ rfl ?_
              have e : yjf σ (yK σ) b k = 0 := by
                rw [yjf_s σ (yK σ) b (by omega)]
                refine if_neg (fun z => ?_)
                obtain ⟨z1, z2, z3, z4, z5, z6⟩ := z
                have z7 := (ynk_m (yK σ) (show 0 ≤ ypl (yK σ) b k by omega)).mpr z5
                first | omega | (rcases z3 with z3 | z3 <;> omega)
              refine ih _ _ _ ⟨by omega, by omega⟩ (fun x hx => by rw [zup_row hx]; exact i3 x hx) (fun j q1 q2 => ?_) (by omega)
              have := i4 j q1 q2
              by_cases hj : j = k
              · subst hj; rw [if_pos (by omega), e]; exact zup_eq _ _ _ _
              · rw [zup_ni hj, this]
                by_cases q3 : j < k
                · rw [if_pos q3, if_pos (by omega)]
                · rw [if_neg q3, if_neg (by omega)]
            · skip
              refine zw_const ⟨rfl, rfl⟩ ?_
              refine zw_goto ⟨rfl, rfl⟩ rfl ?_
              refine zw_bast3 ⟨rfl, rfl⟩ za_226 (by omega) (by first | exact Or.inl rfl | exact Or.inr rfl | omega) ?_
              refine zw_iinc_3 ⟨rfl, rfl⟩ (by omega) ?_
              refine zw_goto ⟨rfl, rfl⟩ rfl ?_
              have e : yjf σ (yK σ) b k = 1 := by
                rw [yjf_s σ (yK σ) b (by omega)]
                exact if_pos ⟨by omega, by omega, htk, (by omega), (ynk_m _ (by omega)).mp (by omega), (by omega)⟩
              refine ih _ _ _ ⟨by omega, by omega⟩ (fun x hx => by rw [zup_row hx]; exact i3 x hx) (fun j q1 q2 => ?_) (by omega)
              have := i4 j q1 q2
              by_cases hj : j = k
              · subst hj; rw [if_pos (by omega), e]; exact zup_eq _ _ _ _
              · rw [zup_ni hj, this]
                by_cases q3 : j < k
                · rw [if_pos q3, if_pos (by omega)]
                · rw [if_neg q3, if_neg (by omega)]
      · skip
        refine zw_aload ⟨rfl, rfl⟩ rfl ?_
        refine zw_getR 226 ⟨rfl, rfl⟩ zr_208_20 ?_
        refine zw_iload ⟨rfl, rfl⟩ rfl ?_
        refine zw_const ⟨rfl, rfl⟩ ?_
        refine zw_isub ⟨rfl, rfl⟩ (by omega) ?_
        refine zw_baldv (v := yjf σ (yK σ) b (k - 1)) ⟨rfl, rfl⟩ za_226 (by decide) (by omega) ((i4 (k - 1) (by omega) (by omega)).trans (if_pos (by omega))) ?_
        refine zw_ifeq ⟨rfl, rfl⟩ rfl (fun c7 => ?_) (fun c7 => ?_)
        · skip
          have htk : k = 0 ∨ yjf σ (yK σ) b (k - 1) ≠ 1 := Or.inr (by omega)
          refine zw_const ⟨rfl, rfl⟩ ?_
          refine zw_istore_4 ⟨rfl, rfl⟩ ?_
          refine zw_aload ⟨rfl, rfl⟩ rfl ?_
          refine zw_getR 226 ⟨rfl, rfl⟩ zr_208_20 ?_
          refine zw_iload ⟨rfl, rfl⟩ rfl ?_
          refine zw_iload ⟨rfl, rfl⟩ rfl ?_
          refine zw_ifne ⟨rfl, rfl⟩ rfl (fun q => absurd q (by decide)) (fun _ => ?_)
          refine zw_aload ⟨rfl, rfl⟩ rfl ?_
          refine zw_getR 225 ⟨rfl, rfl⟩ zr_208_19 ?_
          refine zw_iload ⟨rfl, rfl⟩ rfl ?_
          refine zw_ialdv (v := yjo (yK σ) (ypl (yK σ) b k)) ⟨rfl, rfl⟩ za_225 (by omega) ((congrFun (i3 225 (by decide)) k).trans (hA.2 k (by omega) (by omega)).2.2.2.1) ?_
          refine zw_const ⟨rfl, rfl⟩ ?_
          refine zw_icne ⟨rfl, rfl⟩ rfl (fun c9 => ?_) (fun c9 => ?_)
          · skip
            refine zw_const ⟨rfl, rfl⟩ ?_
            refine zw_bast3 ⟨rfl, rfl⟩ za_226 (by omega) (by first | exact Or.inl rfl | exact Or.inr rfl | omega) ?_
            refine zw_iinc_3 ⟨rfl, rfl⟩ (by omega) ?_
            refine zw_goto ⟨rfl, rfl⟩ rfl ?_
            have e : yjf σ (yK σ) b k = 0 := by
              rw [yjf_s σ (yK σ) b (by omega)]
              refine if_neg (fun z => ?_)
              obtain ⟨z1, z2, z3, z4, z5, z6⟩ := z
              have z7 := (ynk_m (yK σ) (show 0 ≤ ypl (yK σ) b k by omega)).mpr z5
              first | omega | (rcases z3 with z3 | z3 <;> omega)
            refine ih _ _ _ ⟨by omega, by omega⟩ (fun x hx => by rw [zup_row hx]; exact i3 x hx) (fun j q1 q2 => ?_) (by omega)
            have := i4 j q1 q2
            by_cases hj : j = k
            · subst hj; rw [if_pos (by omega), e]; exact zup_eq _ _ _ _
            · rw [zup_ni hj, this]
              by_cases q3 : j < k
              · rw [if_pos q3, if_pos (by omega)]
              · rw [if_neg q3, if_neg (by omega)]
          · skip
            refine zw_aload ⟨rfl, rfl⟩ rfl ?_
            refine zw_getR 223 ⟨rfl, rfl⟩ zr_208_17 ?_
            refine zw_iload ⟨rfl, rfl⟩ rfl ?_
            refine zw_ialdv (v := ynk (yK σ) (ypl (yK σ) b k)) ⟨rfl, rfl⟩ za_223 (by omega) ((congrFun (i3 223 (by decide)) k).trans (hA.2 k (by omega) (by omega)).2.1) ?_
            refine zw_const ⟨rfl, rfl⟩ ?_
            refine zw_icne ⟨rfl, rfl⟩ rfl (fun c10 => ?_) (fun c10 => ?_)
            · skip
              refine zw_const ⟨rfl, rfl⟩ ?_
              refine zw_bast3 ⟨rfl, rfl⟩ za_226 (by omega) (by first | exact Or.inl rfl | exact Or.inr rfl | omega) ?_
              refine zw_iinc_3 ⟨rfl, rfl⟩ (by omega) ?_
              refine zw_goto ⟨rfl, rfl⟩ rfl ?_
              have e : yjf σ (yK σ) b k = 0 := by
                rw [yjf_s σ (yK σ) b (by omega)]
                refine if_neg (fun z => ?_)
                obtain ⟨z1, z2, z3, z4, z5, z6⟩ := z
                have z7 := (ynk_m (yK σ) (show 0 ≤ ypl (yK σ) b k by omega)).mpr z5
                first | omega | (rcases z3 with z3 | z3 <;> omega)
              refine ih _ _ _ ⟨by omega, by omega⟩ (fun x hx => by rw [zup_row hx]; exact i3 x hx) (fun j q1 q2 => ?_) (by omega)
              have := i4 j q1 q2
              by_cases hj : j = k
              · subst hj; rw [if_pos (by omega), e]; exact zup_eq _ _ _ _
              · rw [zup_ni hj, this]
                by_cases q3 : j < k
                · rw [if_pos q3, if_pos (by omega)]
                · rw [if_neg q3, if_neg (by omega)]
            · skip
              refine zw_aload ⟨rfl, rfl⟩ rfl ?_
              refine zw_getR 209 ⟨rfl, rfl⟩ zr_208_1 ?_
              refine zw_aload ⟨rfl, rfl⟩ rfl ?_
              refine zw_aload ⟨rfl, rfl⟩ rfl ?_
              refine zw_getR 222 ⟨rfl, rfl⟩ zr_208_16 ?_
              refine zw_iload ⟨rfl, rfl⟩ rfl ?_
              refine zw_ialdv (v := ypl (yK σ) b k) ⟨rfl, rfl⟩ za_222 (by omega) ((congrFun (i3 222 (by decide)) k).trans (hA.2 k (by omega) (by omega)).1) ?_
              refine zw_callv2 ⟨rfl, rfl⟩ rfl zc_208 rfl ?_
              refine m_MletterAt hV hM2 ⟨by omega, by omega⟩ ?_
              refine zw_aload ⟨rfl, rfl⟩ rfl ?_
              refine zw_aload ⟨rfl, rfl⟩ rfl ?_
              refine zw_getR 222 ⟨rfl, rfl⟩ zr_208_16 ?_
              refine zw_iload ⟨rfl, rfl⟩ rfl ?_
              refine zw_const ⟨rfl, rfl⟩ ?_
              refine zw_iadd ⟨rfl, rfl⟩ (by omega) ?_
              refine zw_ialdv (v := ypl (yK σ) b (k + 1)) ⟨rfl, rfl⟩ za_222 (by omega) ((congrFun (i3 222 (by decide)) (k + 1)).trans (hA.2 (k + 1) (by omega) (by omega)).1) ?_
              refine zw_callv2 ⟨rfl, rfl⟩ rfl zc_208 rfl ?_
              refine m_MletterAt hV hM2 ⟨by omega, by omega⟩ ?_
              refine zw_calls3 ⟨rfl, rfl⟩ rfl rfl ?_
              refine m_doJoin_209 (fun j j1 j2 => hM2 j j1 (by omega)) hV.2.1 ?_
              refine zw_ifeq ⟨rfl, rfl⟩ rfl (fun c11 => ?_) (fun c11 => ?_)
              · skip
                refine zw_const ⟨rfl, rfl⟩ ?_
                refine zw_bast3 ⟨rfl, rfl⟩ za_226 (by omega) (by first | exact Or.inl rfl | exact Or.inr rfl | omega) ?_
                refine zw_iinc_3 ⟨rfl, rfl⟩ (by omega) ?_
                refine zw_goto ⟨rfl, rfl⟩ rfl ?_
                have e : yjf σ (yK σ) b k = 0 := by
                  rw [yjf_s σ (yK σ) b (by omega)]
                  refine if_neg (fun z => ?_)
                  obtain ⟨z1, z2, z3, z4, z5, z6⟩ := z
                  have z7 := (ynk_m (yK σ) (show 0 ≤ ypl (yK σ) b k by omega)).mpr z5
                  first | omega | (rcases z3 with z3 | z3 <;> omega)
                refine ih _ _ _ ⟨by omega, by omega⟩ (fun x hx => by rw [zup_row hx]; exact i3 x hx) (fun j q1 q2 => ?_) (by omega)
                have := i4 j q1 q2
                by_cases hj : j = k
                · subst hj; rw [if_pos (by omega), e]; exact zup_eq _ _ _ _
                · rw [zup_ni hj, this]
                  by_cases q3 : j < k
                  · rw [if_pos q3, if_pos (by omega)]
                  · rw [if_neg q3, if_neg (by omega)]
              · skip
                refine zw_const ⟨rfl, rfl⟩ ?_
                refine zw_goto ⟨rfl, rfl⟩ rfl ?_
                refine zw_bast3 ⟨rfl, rfl⟩ za_226 (by omega) (by first | exact Or.inl rfl | exact Or.inr rfl | omega) ?_
                refine zw_iinc_3 ⟨rfl, rfl⟩ (by omega) ?_
                refine zw_goto ⟨rfl, rfl⟩ rfl ?_
                have e : yjf σ (yK σ) b k = 1 := by
                  rw [yjf_s σ (yK σ) b (by omega)]
                  exact if_pos ⟨by omega, by omega, htk, (by omega), (ynk_m _ (by omega)).mp (by omega), (by omega)⟩
                refine ih _ _ _ ⟨by omega, by omega⟩ (fun x hx => by rw [zup_row hx]; exact i3 x hx) (fun j q1 q2 => ?_) (by omega)
                have := i4 j q1 q2
                by_cases hj : j = k
                · subst hj; rw [if_pos (by omega), e]; exact zup_eq _ _ _ _
                · rw [zup_ni hj, this]
                  by_cases q3 : j < k
                  · rw [if_pos q3, if_pos (by omega)]
                  · rw [if_neg q3, if_neg (by omega)]
        · skip
          have htk : k ≠ 0 ∧ yjf σ (yK σ) b (k - 1) = 1 := ⟨by omega, by have := (yjf_r σ (yK σ) b (show 0 ≤ k - 1 by omega)).1; omega⟩
          refine zw_const ⟨rfl, rfl⟩ ?_
          refine zw_goto ⟨rfl, rfl⟩ rfl ?_
          refine zw_istore_4 ⟨rfl, rfl⟩ ?_
          refine zw_aload ⟨rfl, rfl⟩ rfl ?_
          refine zw_getR 226 ⟨rfl, rfl⟩ zr_208_20 ?_
          refine zw_iload ⟨rfl, rfl⟩ rfl ?_
          refine zw_iload ⟨rfl, rfl⟩ rfl ?_
          refine zw_ifne ⟨rfl, rfl⟩ rfl (fun _ => ?_) (fun q => absurd (by decide) q)
          refine zw_const ⟨rfl, rfl⟩ ?_
          refine zw_bast3 ⟨rfl, rfl⟩ za_226 (by omega) (by first | exact Or.inl rfl | exact Or.inr rfl | omega) ?_
          refine zw_iinc_3 ⟨rfl, rfl⟩ (by omega) ?_
          refine zw_goto ⟨rfl, rfl⟩ rfl ?_
          have e : yjf σ (yK σ) b k = 0 := by
            rw [yjf_s σ (yK σ) b (by omega)]
            refine if_neg (fun z => ?_)
            obtain ⟨z1, z2, z3, z4, z5, z6⟩ := z
            have z7 := (ynk_m (yK σ) (show 0 ≤ ypl (yK σ) b k by omega)).mpr z5
            first | omega | (rcases z3 with z3 | z3 <;> omega)
          refine ih _ _ _ ⟨by omega, by omega⟩ (fun x hx => by rw [zup_row hx]; exact i3 x hx) (fun j q1 q2 => ?_) (by omega)
          have := i4 j q1 q2
          by_cases hj : j = k
          · subst hj; rw [if_pos (by omega), e]; exact zup_eq _ _ _ _
          · rw [zup_ni hj, this]
            by_cases q3 : j < k
            · rw [if_pos q3, if_pos (by omega)]
            · rw [if_neg q3, if_neg (by omega)]
end

theorem m_joinsChain {b : Int} {M : zM} {Q : zV → zM → Prop} {σ : yS} (hV : yVal σ) (hM : yMo M σ) (h0 : 0 ≤ b) (h1 : b < σ 0) (h : yK σ b = 1) (hA : M 208 21 = ym (yK σ) b ∧ ∀ k, 0 ≤ k → k < ym (yK σ) b → M 222 k = ypl (yK σ) b k ∧ M 223 k = ynk (yK σ) (ypl (yK σ) b k) ∧ M 224 k = yvi (yK σ) (ypl (yK σ) b k) ∧ M 225 k = yjo (yK σ) (ypl (yK σ) b k) ∧ M 226 k = 0) (kk : ∀ N : zM, ((∀ j, 0 ≤ j → j < ym (yK σ) b → N 226 j = yjf σ (yK σ) b j) ∧ ∀ x, x ≠ 226 → N x = M x) → Q (3, 0) N) : zWp kM_joinsChain 0 [(1, 208), (0, yrp σ (yK σ) b), (0, yba σ (yK σ) b), (3, 0), (3, 0)] [] M Q := by
  have hK := yKr_K hV
  have hm := ym_r hK h0 h1 h
  have hn := hV.1
  refine zw_iload ⟨rfl, rfl⟩ rfl ?_
  refine zw_istore_3 ⟨rfl, rfl⟩ ?_
  have hz := yba_r (σ := σ) hK h0 h1 h
  have hr := yrp_r σ (yK σ) b
  refine m_joinsChain_l hV hM h0 h1 h hA kk _ _ _ _ ⟨Int.le_refl _, hz.1⟩ (fun _ _ => rfl) (fun j q1 q2 => ?_) (Nat.lt_succ_self _)
  rw [(hA.2 j q1 q2).2.2.2.2]
  split
  · have := yjf_r σ (yK σ) b q1
    omega
  · rfl
