/-! The class' State, History, Pictures -/
section
set_option maxHeartbeats 4000000
theorem m_StCopy {a s : Int} {M : zM} {Q : zV → zM → Prop} (ha : yblk a) (hs : yblk s) (hn : s + 7 ≤ a ∨ a + 7 ≤ s) (k : ∀ N : zM, (yfr a (a + 6) M N ∧ ∀ σ : yS, σ 0 ≤ 60 → yStA M s σ → yStA N a σ) → Q (3, 0) N) : zWp kSt_copyFrom 0 [(1, a), (1, s)] [] M Q := by
  refine zw_aload ⟨rfl, rfl⟩ rfl ?_
  refine zw_getR (a + 1) ⟨rfl, rfl⟩ (ha.2.1) ?_
  refine zw_aload ⟨rfl, rfl⟩ rfl ?_
  refine zw_getR (s + 1) ⟨rfl, rfl⟩ (hs.2.1) ?_
  refine zw_cavv2 ⟨rfl, rfl⟩ rfl ha.2.2.2.2.1 rfl ?_
  refine m_ScCopy ha.2.2.2.2 hs.2.2.2.2 (by omega) (fun N1 p1 => ?_)
  refine zw_aload ⟨rfl, rfl⟩ rfl ?_
  refine zw_getR (s + 6) ⟨rfl, rfl⟩ (hs.2.2.1) ?_
  refine zw_const ⟨rfl, rfl⟩ ?_
  refine zw_aload ⟨rfl, rfl⟩ rfl ?_
  refine zw_getR (a + 6) ⟨rfl, rfl⟩ (ha.2.2.1) ?_
  refine zw_const ⟨rfl, rfl⟩ ?_
  refine zw_const ⟨rfl, rfl⟩ ?_
  refine zw_copy ⟨rfl, rfl⟩ hs.2.2.2.1 ha.2.2.2.1 (by omega) (by exact ⟨by omega, by decide⟩) ?_
  refine zw_aload ⟨rfl, rfl⟩ rfl ?_
  refine zw_aload ⟨rfl, rfl⟩ rfl ?_
  refine zw_getI ⟨rfl, rfl⟩ hs.1 (by decide) ?_
  refine zw_putI ⟨rfl, rfl⟩ ha.1 (by decide) (fun h => absurd h (by decide)) ?_
  refine zw_void rfl ?_
  obtain ⟨p1, p2, p3⟩ := p1
  refine k _ ⟨fun x hx => ?_, fun σ hσ h => ?_⟩
  · rw [zup_row (by omega), zcpy_row (by omega), p1 x (by omega)]
  · obtain ⟨h1, h2, h3⟩ := h
    have q1 := p3 1 (by decide) (by decide)
    have q2 := p3 2 (by decide) (by decide)
    have q3 := p3 3 (by decide) (by decide)
    have q4 := p3 4 (by decide) (by decide)
    rw [show a + 1 + 1 = a + 2 by omega, show s + 1 + 1 = s + 2 by omega] at q1
    rw [show a + 1 + 2 = a + 3 by omega, show s + 1 + 2 = s + 3 by omega] at q2
    rw [show a + 1 + 3 = a + 4 by omega, show s + 1 + 3 = s + 4 by omega] at q3
    rw [show a + 1 + 4 = a + 5 by omega, show s + 1 + 4 = s + 5 by omega] at q4
    refine ⟨ySc.cp h1 ?_ ?_ ?_ ?_ ?_, ?_, fun p r1 r2 => ?_⟩
    · intro j r1 r2
      rw [zup_na (by omega), zcpy_na (by omega)]
      exact p2 j r1 r2
    · intro l r1 r2
      rw [zup_na (by omega), zcpy_na (by omega)]
      exact q1 l r1 r2
    · intro l r1 r2
      rw [zup_na (by omega), zcpy_na (by omega)]
      exact q2 l r1 r2
    · intro l r1 r2
      rw [zup_na (by omega), zcpy_na (by omega)]
      exact q3 l r1 r2
    · intro l r1 r2
      rw [zup_na (by omega), zcpy_na (by omega)]
      exact q4 l r1 r2
    · rw [zup_eq, zcpy_na (by omega), p1 s (by omega)]
      exact h2
    · rw [zup_na (by omega)]
      unfold zcpy
      rw [if_pos ⟨rfl, by omega, by omega⟩, p1 (s + 6) (by omega), show (0 : Int) + (p - 0) = p by omega]
      exact h3 p r1 r2
end

def yHi (M : zM) : Prop := ∀ i, 0 ≤ i → i < 10 → (∃ j : Int, 0 ≤ j ∧ j < 10 ∧ M 10 i = 12 + 7 * j) ∧ ∀ i', 0 ≤ i' → i' < 10 → M 10 i = M 10 i' → i = i'
def yHs (M : zM) (hn : Int) (h : Int → yS) : Prop := M 9 0 = hn ∧ (0 ≤ hn ∧ hn ≤ 10) ∧ yHi M ∧ ∀ i, 0 ≤ i → i < hn → yVal (h i) ∧ yStA M (M 10 i - 1) (h i)
theorem ysh_blk {a : Int} (h : yblk a) : ∃ rs : List Int, zsh zS0 a = some (0, 10, rs) := by
  obtain ⟨c, rs, h1, h2⟩ := zcls_of h.1
  have : c = 10 := by omega
  subst this
  exact ⟨rs, h1⟩
theorem yHi.blk {M : zM} (h : yHi M) {i : Int} (h0 : 0 ≤ i) (h1 : i < 10) : yblk (M 10 i - 1) := by
  obtain ⟨⟨j, a, b, c⟩, -⟩ := h i h0 h1
  rw [show M 10 i - 1 = 11 + 7 * j by omega]
  exact yblk_h ⟨a, b⟩
theorem yHi.rng {M : zM} (h : yHi M) {i : Int} (h0 : 0 ≤ i) (h1 : i < 10) : 12 ≤ M 10 i ∧ M 10 i ≤ 75 := by
  obtain ⟨⟨j, a, b, c⟩, -⟩ := h i h0 h1
  omega
theorem yHi.apart {M : zM} (h : yHi M) {i i' : Int} (h0 : 0 ≤ i) (h1 : i < 10) (h2 : 0 ≤ i') (h3 : i' < 10) (hne : i ≠ i') : M 10 i + 7 ≤ M 10 i' ∨ M 10 i' + 7 ≤ M 10 i := by
  obtain ⟨⟨j, a, b, c⟩, d⟩ := h i h0 h1
  obtain ⟨⟨j', a', b', c'⟩, -⟩ := h i' h2 h3
  have : M 10 i ≠ M 10 i' := fun z => hne (d i' h2 h3 z)
  omega

section
set_option maxHeartbeats 4000000
theorem m_drop_l {M : zM} {Q : zV → zM → Prop} (hM : yHi M) (k : ∀ N : zM, (N 9 0 = 9 ∧ (∀ i, 0 ≤ i → i < 9 → N 10 i = M 10 (i + 1)) ∧ N 10 9 = M 10 0 ∧ ∀ b, ¬ (9 ≤ b ∧ b ≤ 10) → N b = M b) → Q (3, 0) N) : ∀ (f : Nat) (i : Int) (N : zM), (1 ≤ i ∧ i ≤ 10) → (∀ j, 0 ≤ j → j < i - 1 → N 10 j = M 10 (j + 1)) → (∀ j, i - 1 ≤ j → N 10 j = M 10 j) → (∀ b, b ≠ 10 → N b = M b) → (10 - i).toNat < f → zWp kHi_dropEldest 7 [(1, 9), (1, M 10 0 - 1), (0, i)] [] N Q := by
  intro f
  induction f with
  | zero => intro i N h1 h2 h3 h4 hf; exact absurd hf (Nat.not_lt_zero _)
  | succ f ih =>
    intro i N h1 h2 h3 h4 hf
    refine zw_iload ⟨rfl, rfl⟩ rfl ?_
    refine zw_const ⟨rfl, rfl⟩ ?_
    refine zw_icge ⟨rfl, rfl⟩ rfl (fun c1 => ?_) (fun c1 => ?_)
    · skip
      refine zw_aload ⟨rfl, rfl⟩ rfl ?_
      refine zw_getR 10 ⟨rfl, rfl⟩ zr_9_1 ?_
      refine zw_const ⟨rfl, rfl⟩ ?_
      refine zw_aload ⟨rfl, rfl⟩ rfl ?_
      obtain ⟨rs, hrs⟩ := ysh_blk (hM.blk (i := 0) (by decide) (by decide))
      refine zw_aast (cl := 0) ⟨rfl, rfl⟩ rfl (by omega) hrs rfl ?_
      refine zw_aload ⟨rfl, rfl⟩ rfl ?_
      refine zw_const ⟨rfl, rfl⟩ ?_
      refine zw_putI ⟨rfl, rfl⟩ zc_9 (by decide) (fun h => absurd h (by decide)) ?_
      refine zw_void rfl ?_
      refine k _ ⟨zup_eq _ _ _ _, ?_, ?_, ?_⟩
      · intro j q1 q2; rw [zup_na (by decide), zup_ni (by omega)]; exact h2 j q1 (by omega)
      · rw [zup_na (by decide), zup_eq]; omega
      · intro b hb; rw [zup_row (by omega), zup_row (by omega)]; exact h4 b (by omega)
    · skip
      refine zw_aload ⟨rfl, rfl⟩ rfl ?_
      refine zw_getR 10 ⟨rfl, rfl⟩ zr_9_1 ?_
      refine zw_iload ⟨rfl, rfl⟩ rfl ?_
      refine zw_const ⟨rfl, rfl⟩ ?_
      refine zw_isub ⟨rfl, rfl⟩ (by omega) ?_
      refine zw_aload ⟨rfl, rfl⟩ rfl ?_
      refine zw_getR 10 ⟨rfl, rfl⟩ zr_9_1 ?_
      refine zw_iload ⟨rfl, rfl⟩ rfl ?_
      refine zw_aald (v := (N 10 i - 1)) ⟨rfl, rfl⟩ za_10 (by omega) (by omega) (by have := hM.rng (i := i) (by omega) (by omega); have := h3 i (by omega); omega) ?_
      obtain ⟨rs, hrs⟩ := ysh_blk (hM.blk (i := i) (by omega) (by omega))
      rw [← h3 i (by omega)] at hrs
      refine zw_aast (cl := 0) ⟨rfl, rfl⟩ rfl (by omega) hrs rfl ?_
      refine zw_iinc_2 ⟨rfl, rfl⟩ (by omega) ?_
      refine zw_goto ⟨rfl, rfl⟩ rfl ?_
      refine ih _ _ ?_ ?_ ?_ ?_ ?_
      · omega
      · grind [zup]
      · grind [zup]
      · intro b hb; rw [zup_row hb]; exact h4 b hb
      · omega

theorem m_drop {M : zM} {Q : zV → zM → Prop} (hM : yHi M) (k : ∀ N : zM, (N 9 0 = 9 ∧ (∀ i, 0 ≤ i → i < 9 → N 10 i = M 10 (i + 1)) ∧ N 10 9 = M 10 0 ∧ ∀ b, ¬ (9 ≤ b ∧ b ≤ 10) → N b = M b) → Q (3, 0) N) : zWp kHi_dropEldest 0 [(1, 9), (3, 0), (3, 0)] [] M Q := by
  refine zw_aload ⟨rfl, rfl⟩ rfl ?_
  refine zw_getR 10 ⟨rfl, rfl⟩ zr_9_1 ?_
  refine zw_const ⟨rfl, rfl⟩ ?_
  refine zw_aald (v := (M 10 0 - 1)) ⟨rfl, rfl⟩ za_10 (by omega) (by omega) (by have := hM.rng (i := 0) (by omega) (by omega); omega) ?_
  refine zw_astore_1 ⟨rfl, rfl⟩ ?_
  refine zw_const ⟨rfl, rfl⟩ ?_
  refine zw_istore_2 ⟨rfl, rfl⟩ ?_
  exact m_drop_l hM k _ _ _ (by omega) (fun j q1 q2 => by omega) (fun _ _ => rfl) (fun _ _ => rfl) (Nat.lt_succ_self _)
end

def ypn (hn : Int) : Int := if 10 ≤ hn then 10 else hn + 1
def yph (hn : Int) (h : Int → yS) (σ : yS) : Int → yS := fun i => if 10 ≤ hn then (if i = 9 then σ else h (i + 1)) else if i = hn then σ else h i

section
set_option maxHeartbeats 4000000
theorem m_keep_6 {M : zM} {Q : zV → zM → Prop} {s : Int} {h : Int → yS} {σ : yS} {r : zV} (hs : M 9 0 = s) (h0 : 0 ≤ s ∧ s ≤ 9) (hM : yHi M) (hh : ∀ i, 0 ≤ i → i < s → yVal (h i) ∧ yStA M (M 10 i - 1) (h i)) (hσ : yVal σ) (ht : yTold M σ)
  (k : ∀ N : zM, (yHs N (s + 1) (fun i => if i = s then σ else h i) ∧ ∀ b, ¬ (9 ≤ b ∧ b ≤ 80) → N b = M b) → Q (3, 0) N) : zWp kHi_keep 6 [(1, 9), (1, 2), r] [] M Q := by
  have hr := hM.rng h0.1 (show s < 10 by omega)
  refine zw_aload ⟨rfl, rfl⟩ rfl ?_
  refine zw_getR 10 ⟨rfl, rfl⟩ zr_9_1 ?_
  refine zw_aload ⟨rfl, rfl⟩ rfl ?_
  refine zw_getIv (v := s) ⟨rfl, rfl⟩ zc_9 (by decide) (hs) ?_
  refine zw_aald (v := (M 10 s - 1)) ⟨rfl, rfl⟩ za_10 (by omega) (by omega) (by omega) ?_
  refine zw_astore_2 ⟨rfl, rfl⟩ ?_
  refine zw_aload ⟨rfl, rfl⟩ rfl ?_
  refine zw_ifnullR ⟨rfl, rfl⟩ ?_
  refine zw_aload ⟨rfl, rfl⟩ rfl ?_
  refine zw_aload ⟨rfl, rfl⟩ rfl ?_
  refine zw_cavv2 ⟨rfl, rfl⟩ rfl ((hM.blk h0.1 (by omega)).1) rfl ?_
  refine m_StCopy (hM.blk h0.1 (by omega)) yblk_2 (by omega) (fun N1 p1 => ?_)
  refine zw_aload ⟨rfl, rfl⟩ rfl ?_
  refine zw_dup ⟨rfl, rfl⟩ (by decide) ?_
  refine zw_getIv (v := N1 9 0) ⟨rfl, rfl⟩ zc_9 (by decide) rfl ?_
  refine zw_const ⟨rfl, rfl⟩ ?_
  refine zw_iadd ⟨rfl, rfl⟩ (by rw [p1.1 9 (by omega)]; omega) ?_
  refine zw_putI ⟨rfl, rfl⟩ zc_9 (by decide) (fun h => absurd h (by decide)) ?_
  refine zw_void rfl ?_
  obtain ⟨f1, f2⟩ := p1
  have e9 : N1 9 = M 9 := f1 9 (by omega)
  have e10 : N1 10 = M 10 := f1 10 (by omega)
  refine k _ ⟨⟨?_, ?_, ?_, ?_⟩, ?_⟩
  · rw [zup_eq, e9, hs]
  · omega
  · intro i q1 q2
    have := hM i q1 q2
    simp only [zup_na (show (10 : Int) ≠ 9 by decide), e10]
    exact this
  · intro i q1 q2
    rw [zup_na (by decide), e10]
    by_cases hi : i = s
    · subst hi
      dsimp only
      rw [if_pos rfl]
      refine ⟨hσ, (f2 σ hσ.1.2 (yStA_2.mpr ht)).cg (fun b z1 z2 => zup_row (by omega))⟩
    · dsimp only
      rw [if_neg hi]
      have hi2 := hM.rng q1 (show i < 10 by omega)
      have hap := hM.apart q1 (show i < 10 by omega) h0.1 (show s < 10 by omega) hi
      refine ⟨(hh i q1 (by omega)).1, (hh i q1 (by omega)).2.cg (fun b z1 z2 => ?_)⟩
      rw [zup_row (by omega)]
      exact f1 b (by omega)
  · intro b hb
    rw [zup_row (by omega)]
    exact f1 b (by omega)
end

theorem m_keep {M : zM} {Q : zV → zM → Prop} {hn : Int} {h : Int → yS} {σ : yS} (hH : yHs M hn h) (hσ : yVal σ) (ht : yTold M σ) (k : ∀ N : zM, (yHs N (ypn hn) (yph hn h σ) ∧ ∀ b, ¬ (9 ≤ b ∧ b ≤ 80) → N b = M b) → Q (3, 0) N) : zWp kHi_keep 0 [(1, 9), (1, 2), (3, 0)] [] M Q := by
  obtain ⟨q1, q2, q3, q4⟩ := id hH
  refine zw_aload ⟨rfl, rfl⟩ rfl ?_
  refine zw_getIv (v := hn) ⟨rfl, rfl⟩ zc_9 (by decide) (hH.1) ?_
  refine zw_const ⟨rfl, rfl⟩ ?_
  refine zw_iclt ⟨rfl, rfl⟩ rfl (fun c1 => ?_) (fun c1 => ?_)
  · skip
    refine m_keep_6 (s := hn) (h := h) q1 (by omega) q3 q4 hσ ht (fun N p => k N ⟨?_, p.2⟩)
    have e1 : ypn hn = hn + 1 := if_neg (by omega)
    have e2 : yph hn h σ = fun i => if i = hn then σ else h i := by unfold yph; funext i; rw [if_neg (by omega)]
    rw [e1, e2]
    exact p.1
  · skip
    refine zw_aload ⟨rfl, rfl⟩ rfl ?_
    refine zw_cavv1 ⟨rfl, rfl⟩ rfl zc_9 rfl ?_
    refine m_drop hH.2.2.1 (fun N1 p1 => ?_)
    obtain ⟨f1, f2, f3, f4⟩ := p1
    refine m_keep_6 (s := 9) (h := fun i => h (i + 1)) f1 (by omega) ?_ ?_ hσ ?_ (fun N p => k N ⟨?_, ?_⟩)
    · have g : ∀ i, 0 ≤ i → i < 10 → N1 10 i = M 10 (if i = 9 then 0 else i + 1) := by
        intro i z1 z2
        by_cases hi : i = 9
        · rw [if_pos hi, hi]; exact f3
        · rw [if_neg hi]; exact f2 i z1 (by omega)
      intro i z1 z2
      rw [g i z1 z2]
      have := q3 (if i = 9 then 0 else i + 1) (by split <;> omega) (by split <;> omega)
      refine ⟨this.1, fun i' z3 z4 hz => ?_⟩
      rw [g i' z3 z4] at hz
      have := this.2 _ (by split <;> omega) (by split <;> omega) hz
      split at this <;> split at this <;> omega
    · intro i z1 z2
      rw [f2 i z1 z2]
      have := q4 (i + 1) (by omega) (by omega)
      refine ⟨this.1, this.2.cg (fun b y1 y2 => f4 b ?_)⟩
      have := q3.rng (i := i + 1) (by omega) (by omega)
      omega
    · show ySt (N1 2) (N1 3) (N1 4) (N1 5) (N1 6) (N1 7) (N1 8) σ
      rw [f4 2 (by omega), f4 3 (by omega), f4 4 (by omega), f4 5 (by omega), f4 6 (by omega), f4 7 (by omega), f4 8 (by omega)]
      exact ht
    · have e1 : ypn hn = 10 := if_pos (by omega)
      have e2 : yph hn h σ = fun i => if i = 9 then σ else h (i + 1) := by unfold yph; funext i; rw [if_pos (by omega)]
      rw [e1, e2]
      exact p.1
    · intro b hb
      rw [p.2 b hb]
      exact f4 b (by omega)

theorem m_goBack {n : Int} {M : zM} {Q : zV → zM → Prop} {hn : Int} {h : Int → yS} (hH : yHs M hn h) (hb : 1 ≤ n ∧ n ≤ hn) (k : ∀ N : zM, (yHs N (hn - n) h ∧ yTold N (h (hn - n)) ∧ ∀ b, ¬ (2 ≤ b ∧ b ≤ 9) → N b = M b) → Q (3, 0) N) : zWp kHi_goBack 0 [(1, 9), (0, n), (1, 2), (3, 0)] [] M Q := by
  obtain ⟨q1, q2, q3, q4⟩ := id hH
  have hr := q3.rng (show 0 ≤ hn - n by omega) (show hn - n < 10 by omega)
  refine zw_iload ⟨rfl, rfl⟩ rfl ?_
  refine zw_const ⟨rfl, rfl⟩ ?_
  refine zw_iclt ⟨rfl, rfl⟩ rfl (fun q => absurd q (by omega)) (fun _ => ?_)
  refine zw_iload ⟨rfl, rfl⟩ rfl ?_
  refine zw_aload ⟨rfl, rfl⟩ rfl ?_
  refine zw_getIv (v := hn) ⟨rfl, rfl⟩ zc_9 (by decide) (hH.1) ?_
  refine zw_icle ⟨rfl, rfl⟩ rfl (fun _ => ?_) (fun q => absurd (by omega) q)
  refine zw_aload ⟨rfl, rfl⟩ rfl ?_
  refine zw_getR 10 ⟨rfl, rfl⟩ zr_9_1 ?_
  refine zw_aload ⟨rfl, rfl⟩ rfl ?_
  refine zw_getIv (v := hn) ⟨rfl, rfl⟩ zc_9 (by decide) (hH.1) ?_
  refine zw_iload ⟨rfl, rfl⟩ rfl ?_
  refine zw_isub ⟨rfl, rfl⟩ (by omega) ?_
  refine zw_aald (v := (M 10 (hn - n) - 1)) ⟨rfl, rfl⟩ za_10 (by omega) (by omega) (by omega) ?_
  refine zw_astore_3 ⟨rfl, rfl⟩ ?_
  refine zw_aload ⟨rfl, rfl⟩ rfl ?_
  refine zw_ifnullR ⟨rfl, rfl⟩ ?_
  refine zw_aload ⟨rfl, rfl⟩ rfl ?_
  refine zw_aload ⟨rfl, rfl⟩ rfl ?_
  refine zw_cavv2 ⟨rfl, rfl⟩ rfl zc_2 rfl ?_
  refine m_StCopy yblk_2 (q3.blk (i := hn - n) (by omega) (by omega)) (by omega) (fun N1 p1 => ?_)
  refine zw_aload ⟨rfl, rfl⟩ rfl ?_
  refine zw_dup ⟨rfl, rfl⟩ (by decide) ?_
  refine zw_getIv (v := N1 9 0) ⟨rfl, rfl⟩ zc_9 (by decide) rfl ?_
  refine zw_iload ⟨rfl, rfl⟩ rfl ?_
  refine zw_isub ⟨rfl, rfl⟩ (by rw [p1.1 9 (by omega)]; omega) ?_
  refine zw_putI ⟨rfl, rfl⟩ zc_9 (by decide) (fun h => absurd h (by decide)) ?_
  refine zw_void rfl ?_
  obtain ⟨f1, f2⟩ := p1
  have e9 : N1 9 = M 9 := f1 9 (by omega)
  have e10 : N1 10 = M 10 := f1 10 (by omega)
  have q5 := q4 (hn - n) (by omega) (by omega)
  refine k _ ⟨⟨?_, ?_, ?_, ?_⟩, ?_, ?_⟩
  · rw [zup_eq, e9, q1]
  · omega
  · intro i z1 z2
    have := q3 i z1 z2
    simp only [zup_na (show (10 : Int) ≠ 9 by decide), e10]
    exact this
  · intro i z1 z2
    rw [zup_na (by decide), e10]
    have := q4 i z1 (by omega)
    have hr2 := q3.rng z1 (show i < 10 by omega)
    refine ⟨this.1, this.2.cg (fun b y1 y2 => ?_)⟩
    rw [zup_row (by omega)]
    exact f1 b (by omega)
  · exact (f2 _ q5.1.1.2 q5.2).cg (fun b y1 y2 => zup_row (by omega))
  · intro b hb
    rw [zup_row (by omega)]
    exact f1 b (by omega)

def yPi (M : zM) : Prop := M 82 0 = 85 ∧ M 82 1 = 92
theorem yPi.at {M : zM} (h : yPi M) {i : Int} (hi : i = 0 ∨ i = 1) : M 82 i = 85 + 7 * i := by
  rcases hi with rfl | rfl
  · exact h.1
  · exact h.2

theorem m_take {i : Int} {M : zM} {Q : zV → zM → Prop} {σ : yS} (hP : yPi M) (hi : i = 0 ∨ i = 1) (hσ : yVal σ) (ht : yTold M σ) (k : ∀ N : zM, (yStA N (84 + 7 * i) σ ∧ N 83 i = 1 ∧ (∀ j, j ≠ i → N 83 j = M 83 j) ∧ ∀ b, b ≠ 83 → ¬ (84 + 7 * i ≤ b ∧ b ≤ 90 + 7 * i) → N b = M b) → Q (3, 0) N) : zWp kPi_take 0 [(1, 81), (0, i), (1, 2)] [] M Q := by
  have hp := hP.at hi
  refine zw_iload ⟨rfl, rfl⟩ rfl ?_
  refine zw_iflt ⟨rfl, rfl⟩ rfl (fun q => absurd q (by omega)) (fun _ => ?_)
  refine zw_iload ⟨rfl, rfl⟩ rfl ?_
  refine zw_const ⟨rfl, rfl⟩ ?_
  refine zw_icge ⟨rfl, rfl⟩ rfl (fun q => absurd q (by omega)) (fun _ => ?_)
  refine zw_aload ⟨rfl, rfl⟩ rfl ?_
  refine zw_getR 82 ⟨rfl, rfl⟩ zr_81_0 ?_
  refine zw_iload ⟨rfl, rfl⟩ rfl ?_
  refine zw_aald (v := (84 + 7 * i)) ⟨rfl, rfl⟩ za_82 (by omega) (by omega) (by omega) ?_
  refine zw_ifnullR ⟨rfl, rfl⟩ ?_
  refine zw_aload ⟨rfl, rfl⟩ rfl ?_
  refine zw_getR 82 ⟨rfl, rfl⟩ zr_81_0 ?_
  refine zw_iload ⟨rfl, rfl⟩ rfl ?_
  refine zw_aald (v := (84 + 7 * i)) ⟨rfl, rfl⟩ za_82 (by omega) (by omega) (by omega) ?_
  refine zw_aload ⟨rfl, rfl⟩ rfl ?_
  refine zw_cavv2 ⟨rfl, rfl⟩ rfl ((yblk_i hi).1) rfl ?_
  refine m_StCopy (yblk_i hi) yblk_2 (by omega) (fun N1 p1 => ?_)
  refine zw_aload ⟨rfl, rfl⟩ rfl ?_
  refine zw_getR 83 ⟨rfl, rfl⟩ zr_81_1 ?_
  refine zw_iload ⟨rfl, rfl⟩ rfl ?_
  refine zw_const ⟨rfl, rfl⟩ ?_
  refine zw_bast3 ⟨rfl, rfl⟩ za_83 (by omega) (by first | exact Or.inl rfl | exact Or.inr rfl | omega) ?_
  refine zw_void rfl ?_
  obtain ⟨f1, f2⟩ := p1
  refine k _ ⟨(f2 σ hσ.1.2 (yStA_2.mpr ht)).cg (fun b y1 y2 => zup_row (by omega)), zup_eq _ _ _ _, fun j hj => ?_, fun b h1 h2 => ?_⟩
  · rw [zup_ni hj, f1 83 (by omega)]
  · rw [zup_row h1]
    exact f1 b (by omega)

theorem m_show {i : Int} {M : zM} {Q : zV → zM → Prop} {σ : yS} (hP : yPi M) (hi : i = 0 ∨ i = 1) (hm : M 83 i = 1) (hσ : yVal σ) (ht : yStA M (84 + 7 * i) σ) (k : ∀ N : zM, (yTold N σ ∧ ∀ b, ¬ (2 ≤ b ∧ b ≤ 8) → N b = M b) → Q (3, 0) N) : zWp kPi_show 0 [(1, 81), (0, i), (1, 2)] [] M Q := by
  have hp := hP.at hi
  refine zw_aload ⟨rfl, rfl⟩ rfl ?_
  refine zw_iload ⟨rfl, rfl⟩ rfl ?_
  refine zw_callv2 ⟨rfl, rfl⟩ rfl zc_81 rfl ?_
  refine zw_iload ⟨rfl, rfl⟩ rfl ?_
  refine zw_iflt ⟨rfl, rfl⟩ rfl (fun q => absurd q (by omega)) (fun _ => ?_)
  refine zw_iload ⟨rfl, rfl⟩ rfl ?_
  refine zw_const ⟨rfl, rfl⟩ ?_
  refine zw_icge ⟨rfl, rfl⟩ rfl (fun q => absurd q (by omega)) (fun _ => ?_)
  refine zw_aload ⟨rfl, rfl⟩ rfl ?_
  refine zw_getR 83 ⟨rfl, rfl⟩ zr_81_1 ?_
  refine zw_iload ⟨rfl, rfl⟩ rfl ?_
  refine zw_baldv (v := 1) ⟨rfl, rfl⟩ za_83 (by decide) (by omega) (hm) ?_
  refine zw_ifeq ⟨rfl, rfl⟩ rfl (fun q => absurd q (by decide)) (fun _ => ?_)
  refine zw_const ⟨rfl, rfl⟩ ?_
  refine zw_goto ⟨rfl, rfl⟩ rfl ?_
  refine zw_zret rfl (by first | exact Or.inl rfl | exact Or.inr rfl | omega) ?_
  refine zw_ifeq ⟨rfl, rfl⟩ rfl (fun q => absurd q (by decide)) (fun _ => ?_)
  refine zw_aload ⟨rfl, rfl⟩ rfl ?_
  refine zw_getR 82 ⟨rfl, rfl⟩ zr_81_0 ?_
  refine zw_iload ⟨rfl, rfl⟩ rfl ?_
  refine zw_aald (v := (84 + 7 * i)) ⟨rfl, rfl⟩ za_82 (by omega) (by omega) (by omega) ?_
  refine zw_ifnullR ⟨rfl, rfl⟩ ?_
  refine zw_aload ⟨rfl, rfl⟩ rfl ?_
  refine zw_aload ⟨rfl, rfl⟩ rfl ?_
  refine zw_getR 82 ⟨rfl, rfl⟩ zr_81_0 ?_
  refine zw_iload ⟨rfl, rfl⟩ rfl ?_
  refine zw_aald (v := (84 + 7 * i)) ⟨rfl, rfl⟩ za_82 (by omega) (by omega) (by omega) ?_
  refine zw_cavv2 ⟨rfl, rfl⟩ rfl zc_2 rfl ?_
  refine m_StCopy yblk_2 (yblk_i hi) (by omega) (fun N1 p1 => ?_)
  refine zw_void rfl ?_
  exact k _ ⟨p1.2 σ hσ.1.2 ht, fun b hb => p1.1 b hb⟩
