/-! What is told: a Script's and a State's answers -/
theorem zzz_rng {x b : Int} (h : 0 ≤ b ∧ b < 32) : 0 ≤ yhb x b ∧ yhb x b ≤ 1 := by
  unfold yhb zand
  rw [if_pos (Or.inl rfl)]
  omega
def ykr (r : Int → Int) (l : Int) : Int := if 0 ≤ l ∧ l < 26 then r l else 0
theorem ykr_told {M : zM} {σ : yS} {r0 r1 r2 r3 r4 : Int → Int} (h : ySc r0 r1 r2 r3 r4 σ) (l : Int) : ykr r1 l = ykd σ l := by
  unfold ykr ykd
  split
  · rename_i q; exact h.1 l q.1 q.2
  · rfl
def yct (r : Int → Int) : Nat → Int
  | 0 => 0
  | k + 1 => yct r k + (if r (k : Int) = 0 then 0 else 1)
def ylt (σ : yS) : Int := yct (fun l => σ (2 + l)) 26
theorem yct_rng (r : Int → Int) (k : Nat) : 0 ≤ yct r k ∧ yct r k ≤ k := by
  induction k with
  | zero => exact ⟨Int.le_refl _, Int.le_refl _⟩
  | succ k ih => unfold yct; split <;> omega
theorem yct_cg {r s : Int → Int} {k : Nat} (h : ∀ l, 0 ≤ l → l < (k : Int) → r l = s l) : yct r k = yct s k := by
  induction k with
  | zero => rfl
  | succ k ih =>
    unfold yct
    rw [ih (fun l a b => h l a (by omega)), h k (by omega) (by omega)]
theorem yct_s (r : Int → Int) {l : Int} (h : 0 ≤ l) : yct r (l + 1).toNat = yct r l.toNat + (if r l = 0 then 0 else 1) := by
  rw [show (l + 1).toNat = l.toNat + 1 by omega]
  show yct r l.toNat + (if r (l.toNat : Int) = 0 then 0 else 1) = _
  rw [show (l.toNat : Int) = l by omega]

theorem m_hasBit {x b : Int} {M : zM} {Q : zV → zM → Prop} (hb : 0 ≤ b ∧ b < 32) (k : Q (0, yhb x b) M) : zWp kX_hasBit 0 [(0, x), (0, b)] [] M Q := by
  refine zw_iload ⟨rfl, rfl⟩ rfl ?_
  refine zw_iload ⟨rfl, rfl⟩ rfl ?_
  refine zw_iushr ⟨rfl, rfl⟩ (by omega) ?_
  refine zw_const ⟨rfl, rfl⟩ ?_
  refine zw_iand ⟨rfl, rfl⟩ (by exact Or.inl (Or.inl rfl)) ?_
  refine zw_ret rfl ?_
  exact k

theorem m_kindOf_3 {l : Int} {M : zM} {Q : zV → zM → Prop} {σ : yS} (hS : ySc (M 3) (M 4) (M 5) (M 6) (M 7) σ) (k : Q (0, ykd σ l) M) : zWp kSc_kindOf 0 [(1, 3), (0, l)] [] M Q := by
  refine zw_iload ⟨rfl, rfl⟩ rfl ?_
  refine zw_iflt ⟨rfl, rfl⟩ rfl (fun c1 => ?_) (fun c1 => ?_)
  · skip
    refine zw_const ⟨rfl, rfl⟩ ?_
    refine zw_ret rfl ?_
    rw [show ykd σ l = 0 from by rw [← ykr_told (M := M) hS l]; grind [ykr]] at k
    exact k
  · skip
    refine zw_iload ⟨rfl, rfl⟩ rfl ?_
    refine zw_const ⟨rfl, rfl⟩ ?_
    refine zw_icge ⟨rfl, rfl⟩ rfl (fun c2 => ?_) (fun c2 => ?_)
    · skip
      refine zw_const ⟨rfl, rfl⟩ ?_
      refine zw_ret rfl ?_
      rw [show ykd σ l = 0 from by rw [← ykr_told (M := M) hS l]; grind [ykr]] at k
      exact k
    · skip
      refine zw_aload ⟨rfl, rfl⟩ rfl ?_
      refine zw_getR 4 ⟨rfl, rfl⟩ zr_3_0 ?_
      refine zw_iload ⟨rfl, rfl⟩ rfl ?_
      refine zw_ialdv (v := M 4 l) ⟨rfl, rfl⟩ za_4 (by omega) rfl ?_
      refine zw_goto ⟨rfl, rfl⟩ rfl ?_
      refine zw_ret rfl ?_
      rw [show ykd σ l = M 4 l from by rw [← ykr_told (M := M) hS l]; grind [ykr]] at k
      exact k

theorem m_joined_3 {a b : Int} {M : zM} {Q : zV → zM → Prop} {σ : yS} (hS : ySc (M 3) (M 4) (M 5) (M 6) (M 7) σ) (k : Q (0, yju σ a b) M) : zWp kSc_joined 0 [(1, 3), (0, a), (0, b)] [] M Q := by
  refine zw_iload ⟨rfl, rfl⟩ rfl ?_
  refine zw_calls1 ⟨rfl, rfl⟩ rfl rfl ?_
  refine zw_iload ⟨rfl, rfl⟩ rfl ?_
  refine zw_iflt ⟨rfl, rfl⟩ rfl (fun c1 => ?_) (fun c1 => ?_)
  · skip
    refine zw_const ⟨rfl, rfl⟩ ?_
    refine zw_zret rfl (by first | exact Or.inl rfl | exact Or.inr rfl | omega) ?_
    refine zw_ifeq ⟨rfl, rfl⟩ rfl (fun _ => ?_) (fun q => absurd (by decide) q)
    refine zw_const ⟨rfl, rfl⟩ ?_
    refine zw_zret rfl (by first | exact Or.inl rfl | exact Or.inr rfl | omega) ?_
    rw [show yju σ a b = 0 from by have h5 := hS.2.2.2.2.1 a b; have hr := zzz_rng (x := M 7 a) (b := b); unfold yju; grind] at k
    exact k
  · skip
    refine zw_iload ⟨rfl, rfl⟩ rfl ?_
    refine zw_const ⟨rfl, rfl⟩ ?_
    refine zw_icge ⟨rfl, rfl⟩ rfl (fun c3 => ?_) (fun c3 => ?_)
    · skip
      refine zw_const ⟨rfl, rfl⟩ ?_
      refine zw_zret rfl (by first | exact Or.inl rfl | exact Or.inr rfl | omega) ?_
      refine zw_ifeq ⟨rfl, rfl⟩ rfl (fun _ => ?_) (fun q => absurd (by decide) q)
      refine zw_const ⟨rfl, rfl⟩ ?_
      refine zw_zret rfl (by first | exact Or.inl rfl | exact Or.inr rfl | omega) ?_
      rw [show yju σ a b = 0 from by have h5 := hS.2.2.2.2.1 a b; have hr := zzz_rng (x := M 7 a) (b := b); unfold yju; grind] at k
      exact k
    · skip
      refine zw_const ⟨rfl, rfl⟩ ?_
      refine zw_goto ⟨rfl, rfl⟩ rfl ?_
      refine zw_zret rfl (by first | exact Or.inl rfl | exact Or.inr rfl | omega) ?_
      refine zw_ifeq ⟨rfl, rfl⟩ rfl (fun q => absurd q (by decide)) (fun _ => ?_)
      refine zw_iload ⟨rfl, rfl⟩ rfl ?_
      refine zw_calls1 ⟨rfl, rfl⟩ rfl rfl ?_
      refine zw_iload ⟨rfl, rfl⟩ rfl ?_
      refine zw_iflt ⟨rfl, rfl⟩ rfl (fun c6 => ?_) (fun c6 => ?_)
      · skip
        refine zw_const ⟨rfl, rfl⟩ ?_
        refine zw_zret rfl (by first | exact Or.inl rfl | exact Or.inr rfl | omega) ?_
        refine zw_ifeq ⟨rfl, rfl⟩ rfl (fun _ => ?_) (fun q => absurd (by decide) q)
        refine zw_const ⟨rfl, rfl⟩ ?_
        refine zw_zret rfl (by first | exact Or.inl rfl | exact Or.inr rfl | omega) ?_
        rw [show yju σ a b = 0 from by have h5 := hS.2.2.2.2.1 a b; have hr := zzz_rng (x := M 7 a) (b := b); unfold yju; grind] at k
        exact k
      · skip
        refine zw_iload ⟨rfl, rfl⟩ rfl ?_
        refine zw_const ⟨rfl, rfl⟩ ?_
        refine zw_icge ⟨rfl, rfl⟩ rfl (fun c8 => ?_) (fun c8 => ?_)
        · skip
          refine zw_const ⟨rfl, rfl⟩ ?_
          refine zw_zret rfl (by first | exact Or.inl rfl | exact Or.inr rfl | omega) ?_
          refine zw_ifeq ⟨rfl, rfl⟩ rfl (fun _ => ?_) (fun q => absurd (by decide) q)
          refine zw_const ⟨rfl, rfl⟩ ?_
          refine zw_zret rfl (by first | exact Or.inl rfl | exact Or.inr rfl | omega) ?_
          rw [show yju σ a b = 0 from by have h5 := hS.2.2.2.2.1 a b; have hr := zzz_rng (x := M 7 a) (b := b); unfold yju; grind] at k
          exact k
        · skip
          refine zw_const ⟨rfl, rfl⟩ ?_
          refine zw_goto ⟨rfl, rfl⟩ rfl ?_
          refine zw_zret rfl (by first | exact Or.inl rfl | exact Or.inr rfl | omega) ?_
          refine zw_ifeq ⟨rfl, rfl⟩ rfl (fun q => absurd q (by decide)) (fun _ => ?_)
          refine zw_aload ⟨rfl, rfl⟩ rfl ?_
          refine zw_getR 7 ⟨rfl, rfl⟩ zr_3_3 ?_
          refine zw_iload ⟨rfl, rfl⟩ rfl ?_
          refine zw_ialdv (v := M 7 a) ⟨rfl, rfl⟩ za_7 (by omega) rfl ?_
          refine zw_iload ⟨rfl, rfl⟩ rfl ?_
          refine zw_calls2 ⟨rfl, rfl⟩ rfl rfl ?_
          refine m_hasBit (by omega) ?_
          refine zw_const ⟨rfl, rfl⟩ ?_
          refine zw_icne ⟨rfl, rfl⟩ rfl (fun c11 => ?_) (fun c11 => ?_)
          · skip
            refine zw_const ⟨rfl, rfl⟩ ?_
            refine zw_zret rfl (by first | exact Or.inl rfl | exact Or.inr rfl | omega) ?_
            rw [show yju σ a b = 0 from by have h5 := hS.2.2.2.2.1 a b; have hr := zzz_rng (x := M 7 a) (b := b); unfold yju; grind] at k
            exact k
          · skip
            refine zw_const ⟨rfl, rfl⟩ ?_
            refine zw_goto ⟨rfl, rfl⟩ rfl ?_
            refine zw_zret rfl (by first | exact Or.inl rfl | exact Or.inr rfl | omega) ?_
            rw [show yju σ a b = 1 from by have h5 := hS.2.2.2.2.1 a b; have hr := zzz_rng (x := M 7 a) (b := b); unfold yju; grind] at k
            exact k

theorem m_kindOf_99 {l : Int} {M : zM} {Q : zV → zM → Prop} {σ : yS} (hS : ySc (M 99) (M 100) (M 101) (M 102) (M 103) σ) (k : Q (0, ykd σ l) M) : zWp kSc_kindOf 0 [(1, 99), (0, l)] [] M Q := by
  refine zw_iload ⟨rfl, rfl⟩ rfl ?_
  refine zw_iflt ⟨rfl, rfl⟩ rfl (fun c1 => ?_) (fun c1 => ?_)
  · skip
    refine zw_const ⟨rfl, rfl⟩ ?_
    refine zw_ret rfl ?_
    rw [show ykd σ l = 0 from by rw [← ykr_told (M := M) hS l]; grind [ykr]] at k
    exact k
  · skip
    refine zw_iload ⟨rfl, rfl⟩ rfl ?_
    refine zw_const ⟨rfl, rfl⟩ ?_
    refine zw_icge ⟨rfl, rfl⟩ rfl (fun c2 => ?_) (fun c2 => ?_)
    · skip
      refine zw_const ⟨rfl, rfl⟩ ?_
      refine zw_ret rfl ?_
      rw [show ykd σ l = 0 from by rw [← ykr_told (M := M) hS l]; grind [ykr]] at k
      exact k
    · skip
      refine zw_aload ⟨rfl, rfl⟩ rfl ?_
      refine zw_getR 100 ⟨rfl, rfl⟩ zr_99_0 ?_
      refine zw_iload ⟨rfl, rfl⟩ rfl ?_
      refine zw_ialdv (v := M 100 l) ⟨rfl, rfl⟩ za_100 (by omega) rfl ?_
      refine zw_goto ⟨rfl, rfl⟩ rfl ?_
      refine zw_ret rfl ?_
      rw [show ykd σ l = M 100 l from by rw [← ykr_told (M := M) hS l]; grind [ykr]] at k
      exact k

theorem m_joined_99 {a b : Int} {M : zM} {Q : zV → zM → Prop} {σ : yS} (hS : ySc (M 99) (M 100) (M 101) (M 102) (M 103) σ) (k : Q (0, yju σ a b) M) : zWp kSc_joined 0 [(1, 99), (0, a), (0, b)] [] M Q := by
  refine zw_iload ⟨rfl, rfl⟩ rfl ?_
  refine zw_calls1 ⟨rfl, rfl⟩ rfl rfl ?_
  refine zw_iload ⟨rfl, rfl⟩ rfl ?_
  refine zw_iflt ⟨rfl, rfl⟩ rfl (fun c1 => ?_) (fun c1 => ?_)
  · skip
    refine zw_const ⟨rfl, rfl⟩ ?_
    refine zw_zret rfl (by first | exact Or.inl rfl | exact Or.inr rfl | omega) ?_
    refine zw_ifeq ⟨rfl, rfl⟩ rfl (fun _ => ?_) (fun q => absurd (by decide) q)
    refine zw_const ⟨rfl, rfl⟩ ?_
    refine zw_zret rfl (by first | exact Or.inl rfl | exact Or.inr rfl | omega) ?_
    rw [show yju σ a b = 0 from by have h5 := hS.2.2.2.2.1 a b; have hr := zzz_rng (x := M 103 a) (b := b); unfold yju; grind] at k
    exact k
  · skip
    refine zw_iload ⟨rfl, rfl⟩ rfl ?_
    refine zw_const ⟨rfl, rfl⟩ ?_
    refine zw_icge ⟨rfl, rfl⟩ rfl (fun c3 => ?_) (fun c3 => ?_)
    · skip
      refine zw_const ⟨rfl, rfl⟩ ?_
      refine zw_zret rfl (by first | exact Or.inl rfl | exact Or.inr rfl | omega) ?_
      refine zw_ifeq ⟨rfl, rfl⟩ rfl (fun _ => ?_) (fun q => absurd (by decide) q)
      refine zw_const ⟨rfl, rfl⟩ ?_
      refine zw_zret rfl (by first | exact Or.inl rfl | exact Or.inr rfl | omega) ?_
      rw [show yju σ a b = 0 from by have h5 := hS.2.2.2.2.1 a b; have hr := zzz_rng (x := M 103 a) (b := b); unfold yju; grind] at k
      exact k
    · skip
      refine zw_const ⟨rfl, rfl⟩ ?_
      refine zw_goto ⟨rfl, rfl⟩ rfl ?_
      refine zw_zret rfl (by first | exact Or.inl rfl | exact Or.inr rfl | omega) ?_
      refine zw_ifeq ⟨rfl, rfl⟩ rfl (fun q => absurd q (by decide)) (fun _ => ?_)
      refine zw_iload ⟨rfl, rfl⟩ rfl ?_
      refine zw_calls1 ⟨rfl, rfl⟩ rfl rfl ?_
      refine zw_iload ⟨rfl, rfl⟩ rfl ?_
      refine zw_iflt ⟨rfl, rfl⟩ rfl (fun c6 => ?_) (fun c6 => ?_)
      · skip
        refine zw_const ⟨rfl, rfl⟩ ?_
        refine zw_zret rfl (by first | exact Or.inl rfl | exact Or.inr rfl | omega) ?_
        refine zw_ifeq ⟨rfl, rfl⟩ rfl (fun _ => ?_) (fun q => absurd (by decide) q)
        refine zw_const ⟨rfl, rfl⟩ ?_
        refine zw_zret rfl (by first | exact Or.inl rfl | exact Or.inr rfl | omega) ?_
        rw [show yju σ a b = 0 from by have h5 := hS.2.2.2.2.1 a b; have hr := zzz_rng (x := M 103 a) (b := b); unfold yju; grind] at k
        exact k
      · skip
        refine zw_iload ⟨rfl, rfl⟩ rfl ?_
        refine zw_const ⟨rfl, rfl⟩ ?_
        refine zw_icge ⟨rfl, rfl⟩ rfl (fun c8 => ?_) (fun c8 => ?_)
        · skip
          refine zw_const ⟨rfl, rfl⟩ ?_
          refine zw_zret rfl (by first | exact Or.inl rfl | exact Or.inr rfl | omega) ?_
          refine zw_ifeq ⟨rfl, rfl⟩ rfl (fun _ => ?_) (fun q => absurd (by decide) q)
          refine zw_const ⟨rfl, rfl⟩ ?_
          refine zw_zret rfl (by first | exact Or.inl rfl | exact Or.inr rfl | omega) ?_
          rw [show yju σ a b = 0 from by have h5 := hS.2.2.2.2.1 a b; have hr := zzz_rng (x := M 103 a) (b := b); unfold yju; grind] at k
          exact k
        · skip
          refine zw_const ⟨rfl, rfl⟩ ?_
          refine zw_goto ⟨rfl, rfl⟩ rfl ?_
          refine zw_zret rfl (by first | exact Or.inl rfl | exact Or.inr rfl | omega) ?_
          refine zw_ifeq ⟨rfl, rfl⟩ rfl (fun q => absurd q (by decide)) (fun _ => ?_)
          refine zw_aload ⟨rfl, rfl⟩ rfl ?_
          refine zw_getR 103 ⟨rfl, rfl⟩ zr_99_3 ?_
          refine zw_iload ⟨rfl, rfl⟩ rfl ?_
          refine zw_ialdv (v := M 103 a) ⟨rfl, rfl⟩ za_103 (by omega) rfl ?_
          refine zw_iload ⟨rfl, rfl⟩ rfl ?_
          refine zw_calls2 ⟨rfl, rfl⟩ rfl rfl ?_
          refine m_hasBit (by omega) ?_
          refine zw_const ⟨rfl, rfl⟩ ?_
          refine zw_icne ⟨rfl, rfl⟩ rfl (fun c11 => ?_) (fun c11 => ?_)
          · skip
            refine zw_const ⟨rfl, rfl⟩ ?_
            refine zw_zret rfl (by first | exact Or.inl rfl | exact Or.inr rfl | omega) ?_
            rw [show yju σ a b = 0 from by have h5 := hS.2.2.2.2.1 a b; have hr := zzz_rng (x := M 103 a) (b := b); unfold yju; grind] at k
            exact k
          · skip
            refine zw_const ⟨rfl, rfl⟩ ?_
            refine zw_goto ⟨rfl, rfl⟩ rfl ?_
            refine zw_zret rfl (by first | exact Or.inl rfl | exact Or.inr rfl | omega) ?_
            rw [show yju σ a b = 1 from by have h5 := hS.2.2.2.2.1 a b; have hr := zzz_rng (x := M 103 a) (b := b); unfold yju; grind] at k
            exact k

theorem m_partOf {l w : Int} {M : zM} {Q : zV → zM → Prop} {σ : yS} (hS : ySc (M 3) (M 4) (M 5) (M 6) (M 7) σ) (k : Q (0, ypt σ l w) M) : zWp kSc_partOf 0 [(1, 3), (0, l), (0, w)] [] M Q := by
  refine zw_aload ⟨rfl, rfl⟩ rfl ?_
  refine zw_iload ⟨rfl, rfl⟩ rfl ?_
  refine zw_callv2 ⟨rfl, rfl⟩ rfl zc_3 rfl ?_
  refine m_kindOf_3 hS ?_
  refine zw_const ⟨rfl, rfl⟩ ?_
  refine zw_iceq ⟨rfl, rfl⟩ rfl (fun c1 => ?_) (fun c1 => ?_)
  · skip
    refine zw_iload ⟨rfl, rfl⟩ rfl ?_
    refine zw_ifne ⟨rfl, rfl⟩ rfl (fun c2 => ?_) (fun c2 => ?_)
    · skip
      refine zw_aload ⟨rfl, rfl⟩ rfl ?_
      refine zw_getR 6 ⟨rfl, rfl⟩ zr_3_2 ?_
      refine zw_iload ⟨rfl, rfl⟩ rfl ?_
      refine zw_ialdv (v := M 6 l) ⟨rfl, rfl⟩ za_6 (by unfold ykd at c1; split at c1 <;> omega) rfl ?_
      refine zw_ret rfl ?_
      rw [show ypt σ l w = M 6 l from by have h2 := hS.2.1 l; have h1 := hS.1 l; grind [ypt, ykd]] at k
      exact k
    · skip
      refine zw_aload ⟨rfl, rfl⟩ rfl ?_
      refine zw_getR 5 ⟨rfl, rfl⟩ zr_3_1 ?_
      refine zw_iload ⟨rfl, rfl⟩ rfl ?_
      refine zw_ialdv (v := M 5 l) ⟨rfl, rfl⟩ za_5 (by unfold ykd at c1; split at c1 <;> omega) rfl ?_
      refine zw_goto ⟨rfl, rfl⟩ rfl ?_
      refine zw_ret rfl ?_
      rw [show ypt σ l w = M 5 l from by have h2 := hS.2.1 l; have h1 := hS.1 l; grind [ypt, ykd]] at k
      exact k
  · skip
    refine zw_const ⟨rfl, rfl⟩ ?_
    refine zw_ret rfl ?_
    rw [show ypt σ l w = (-1) from by have h2 := hS.2.1 l; have h1 := hS.1 l; grind [ypt, ykd]] at k
    exact k

theorem m_letterAt_s {p : Int} {M : zM} {Q : zV → zM → Prop} {σ : yS} (hV : σ 0 ≤ 60) (hS : yTold M σ) (k : Q (0, yL σ p) M) : zWp kSt_letterAt 0 [(1, 2), (0, p)] [] M Q := by
  refine zw_iload ⟨rfl, rfl⟩ rfl ?_
  refine zw_iflt ⟨rfl, rfl⟩ rfl (fun c1 => ?_) (fun c1 => ?_)
  · skip
    refine zw_const ⟨rfl, rfl⟩ ?_
    refine zw_ret rfl ?_
    rw [show yL σ p = (-1) from by have h2 := hS.2.2 p; grind [yL]] at k
    exact k
  · skip
    refine zw_iload ⟨rfl, rfl⟩ rfl ?_
    refine zw_aload ⟨rfl, rfl⟩ rfl ?_
    refine zw_getIv (v := σ 0) ⟨rfl, rfl⟩ zc_2 (by decide) (hS.2.1) ?_
    refine zw_icge ⟨rfl, rfl⟩ rfl (fun c2 => ?_) (fun c2 => ?_)
    · skip
      refine zw_const ⟨rfl, rfl⟩ ?_
      refine zw_ret rfl ?_
      rw [show yL σ p = (-1) from by have h2 := hS.2.2 p; grind [yL]] at k
      exact k
    · skip
      refine zw_aload ⟨rfl, rfl⟩ rfl ?_
      refine zw_getR 8 ⟨rfl, rfl⟩ zr_2_1 ?_
      refine zw_iload ⟨rfl, rfl⟩ rfl ?_
      refine zw_ialdv (v := M 8 p) ⟨rfl, rfl⟩ za_8 (by omega) rfl ?_
      refine zw_goto ⟨rfl, rfl⟩ rfl ?_
      refine zw_ret rfl ?_
      rw [show yL σ p = M 8 p from by have h2 := hS.2.2 p; grind [yL]] at k
      exact k

theorem m_lettersTold_l {σ : yS} {M : zM} {Q : zV → zM → Prop} (hS : ySc (M 3) (M 4) (M 5) (M 6) (M 7) σ) (k : Q (0, ylt σ) M) : ∀ (f : Nat) (a l : Int), (0 ≤ l ∧ l ≤ 26) → (a = yct (M 4) l.toNat) → (26 - l).toNat < f → zWp kSc_lettersTold 4 [(1, 3), (0, a), (0, l)] [] M Q := by
  intro f
  induction f with
  | zero => intro a l h1 h2 hf; exact absurd hf (Nat.not_lt_zero _)
  | succ f ih =>
    intro a l h1 h2 hf
    refine zw_iload ⟨rfl, rfl⟩ rfl ?_
    refine zw_const ⟨rfl, rfl⟩ ?_
    refine zw_icge ⟨rfl, rfl⟩ rfl (fun c1 => ?_) (fun c1 => ?_)
    · skip
      refine zw_iload ⟨rfl, rfl⟩ rfl ?_
      refine zw_ret rfl ?_
      rw [show ylt σ = a from by rw [h2, show l.toNat = 26 by omega]; exact (yct_cg (fun l q1 q2 => hS.1 l q1 (by omega))).symm] at k
      exact k
    · skip
      refine zw_iload ⟨rfl, rfl⟩ rfl ?_
      refine zw_aload ⟨rfl, rfl⟩ rfl ?_
      refine zw_getR 4 ⟨rfl, rfl⟩ zr_3_0 ?_
      refine zw_iload ⟨rfl, rfl⟩ rfl ?_
      refine zw_ialdv (v := M 4 l) ⟨rfl, rfl⟩ za_4 (by omega) rfl ?_
      refine zw_ifeq ⟨rfl, rfl⟩ rfl (fun c2 => ?_) (fun c2 => ?_)
      · skip
        refine zw_const ⟨rfl, rfl⟩ ?_
        refine zw_iadd ⟨rfl, rfl⟩ (by have := yct_rng (M 4) l.toNat; omega) ?_
        refine zw_istore_1 ⟨rfl, rfl⟩ ?_
        refine zw_iinc_2 ⟨rfl, rfl⟩ (by omega) ?_
        refine zw_goto ⟨rfl, rfl⟩ rfl ?_
        refine ih _ _ ?_ ?_ ?_
        · omega
        · rw [yct_s (M 4) h1.1, h2]; grind
        · omega
      · skip
        refine zw_const ⟨rfl, rfl⟩ ?_
        refine zw_goto ⟨rfl, rfl⟩ rfl ?_
        refine zw_iadd ⟨rfl, rfl⟩ (by have := yct_rng (M 4) l.toNat; omega) ?_
        refine zw_istore_1 ⟨rfl, rfl⟩ ?_
        refine zw_iinc_2 ⟨rfl, rfl⟩ (by omega) ?_
        refine zw_goto ⟨rfl, rfl⟩ rfl ?_
        refine ih _ _ ?_ ?_ ?_
        · omega
        · rw [yct_s (M 4) h1.1, h2]; grind
        · omega

theorem m_lettersTold {M : zM} {Q : zV → zM → Prop} {σ : yS} (hS : ySc (M 3) (M 4) (M 5) (M 6) (M 7) σ) (k : Q (0, ylt σ) M) : zWp kSc_lettersTold 0 [(1, 3), (3, 0), (3, 0)] [] M Q := by
  refine zw_const ⟨rfl, rfl⟩ ?_
  refine zw_istore_1 ⟨rfl, rfl⟩ ?_
  refine zw_const ⟨rfl, rfl⟩ ?_
  refine zw_istore_2 ⟨rfl, rfl⟩ ?_
  exact m_lettersTold_l hS k _ _ _ (by omega) rfl (Nat.lt_succ_self _)

theorem m_become_1_l  {Q : zV → zM → Prop} {n z : Int} {M : zM} (hn : 0 ≤ n ∧ n ≤ 60) (hr : ∀ p, 0 ≤ p → p < n → -2147483648 ≤ M 1 p - z ∧ M 1 p - z ≤ 2147483647) (k : ∀ N : zM, (N = fun b j => if b = 8 ∧ 0 ≤ j ∧ j < n then M 1 j - z else if b = 2 ∧ j = 2 then n else M b j) → Q (3, 0) N) : ∀ (f : Nat) (p : Int) (N : zM), (0 ≤ p ∧ p ≤ n) → (N 2 2 = p) → (∀ b j, ¬ (b = 8 ∧ 0 ≤ j ∧ j < p) → ¬ (b = 2 ∧ j = 2) → N b j = M b j) → (∀ j, 0 ≤ j → j < p → N 8 j = M 1 j - z) → (n - p).toNat < f → zWp kSt_become 5 [(1, 2), (1, 1), (0, n), (0, z), (0, p)] [] N Q := by
  intro f
  induction f with
  | zero => intro p N h1 h2 h3 h4 hf; exact absurd hf (Nat.not_lt_zero _)
  | succ f ih =>
    intro p N h1 h2 h3 h4 hf
    refine zw_iload ⟨rfl, rfl⟩ rfl ?_
    refine zw_iload ⟨rfl, rfl⟩ rfl ?_
    refine zw_icge ⟨rfl, rfl⟩ rfl (fun c1 => ?_) (fun c1 => ?_)
    · skip
      refine zw_void rfl ?_
      refine k _ ?_
      have hpn : p = n := by omega
      subst hpn
      funext b j
      by_cases q1 : b = 8 ∧ 0 ≤ j ∧ j < p
      · rw [if_pos q1, q1.1]; exact h4 j q1.2.1 q1.2.2
      · rw [if_neg q1]
        by_cases q2 : b = 2 ∧ j = 2
        · rw [if_pos q2, q2.1, q2.2]; exact h2
        · rw [if_neg q2]; exact h3 b j q1 q2
    · skip
      refine zw_iload ⟨rfl, rfl⟩ rfl ?_
      refine zw_const ⟨rfl, rfl⟩ ?_
      refine zw_icge ⟨rfl, rfl⟩ rfl (fun c2 => ?_) (fun c2 => ?_)
      · skip
        refine zw_void rfl ?_
        refine k _ ?_
        have hpn : p = n := by omega
        subst hpn
        funext b j
        by_cases q1 : b = 8 ∧ 0 ≤ j ∧ j < p
        · rw [if_pos q1, q1.1]; exact h4 j q1.2.1 q1.2.2
        · rw [if_neg q1]
          by_cases q2 : b = 2 ∧ j = 2
          · rw [if_pos q2, q2.1, q2.2]; exact h2
          · rw [if_neg q2]; exact h3 b j q1 q2
      · skip
        refine zw_iload ⟨rfl, rfl⟩ rfl ?_
        refine zw_aload ⟨rfl, rfl⟩ rfl ?_
        refine zw_alen ⟨rfl, rfl⟩ za_1 ?_
        skip
        refine zw_icge ⟨rfl, rfl⟩ rfl (fun c3 => ?_) (fun c3 => ?_)
        · skip
          refine zw_void rfl ?_
          refine k _ ?_
          have hpn : p = n := by omega
          subst hpn
          funext b j
          by_cases q1 : b = 8 ∧ 0 ≤ j ∧ j < p
          · rw [if_pos q1, q1.1]; exact h4 j q1.2.1 q1.2.2
          · rw [if_neg q1]
            by_cases q2 : b = 2 ∧ j = 2
            · rw [if_pos q2, q2.1, q2.2]; exact h2
            · rw [if_neg q2]; exact h3 b j q1 q2
        · skip
          refine zw_aload ⟨rfl, rfl⟩ rfl ?_
          refine zw_getR 8 ⟨rfl, rfl⟩ zr_2_1 ?_
          refine zw_iload ⟨rfl, rfl⟩ rfl ?_
          refine zw_aload ⟨rfl, rfl⟩ rfl ?_
          refine zw_iload ⟨rfl, rfl⟩ rfl ?_
          refine zw_ialdv (v := M 1 p) ⟨rfl, rfl⟩ za_1 (by omega) (h3 1 p (by omega) (by omega)) ?_
          refine zw_iload ⟨rfl, rfl⟩ rfl ?_
          refine zw_isub ⟨rfl, rfl⟩ (by have := hr p h1.1 (by omega); omega) ?_
          refine zw_iast ⟨rfl, rfl⟩ za_8 (by omega) ?_
          refine zw_aload ⟨rfl, rfl⟩ rfl ?_
          refine zw_dup ⟨rfl, rfl⟩ (by decide) ?_
          refine zw_getIv (v := p) ⟨rfl, rfl⟩ zc_2 (by decide) ((zup_na (by decide)).trans (h2)) ?_
          refine zw_const ⟨rfl, rfl⟩ ?_
          refine zw_iadd ⟨rfl, rfl⟩ (by omega) ?_
          refine zw_putI ⟨rfl, rfl⟩ zc_2 (by decide) (fun h => absurd h (by decide)) ?_
          refine zw_iinc_4 ⟨rfl, rfl⟩ (by omega) ?_
          refine zw_goto ⟨rfl, rfl⟩ rfl ?_
          refine ih _ _ ?_ ?_ ?_ ?_ ?_
          · omega
          · exact zup_eq _ _ _ _
          · intro b j q1 q2; rw [zup_ne (by omega), zup_ne (by omega)]; exact h3 b j (by omega) q2
          · intro j q1 q2; by_cases hj : j = p
            · subst hj; rw [zup_na (by decide), zup_eq]
            · rw [zup_na (by decide), zup_ni hj]; exact h4 j q1 (by omega)
          · omega

theorem m_become_1 {n z : Int} {M : zM} {Q : zV → zM → Prop} (hn : 0 ≤ n ∧ n ≤ 60) (hr : ∀ p, 0 ≤ p → p < n → -2147483648 ≤ M 1 p - z ∧ M 1 p - z ≤ 2147483647) (k : ∀ N : zM, (N = fun b j => if b = 8 ∧ 0 ≤ j ∧ j < n then M 1 j - z else if b = 2 ∧ j = 2 then n else M b j) → Q (3, 0) N) : zWp kSt_become 0 [(1, 2), (1, 1), (0, n), (0, z), (3, 0)] [] M Q := by
  refine zw_aload ⟨rfl, rfl⟩ rfl ?_
  refine zw_const ⟨rfl, rfl⟩ ?_
  refine zw_putI ⟨rfl, rfl⟩ zc_2 (by decide) (fun h => absurd h (by decide)) ?_
  refine zw_const ⟨rfl, rfl⟩ ?_
  refine zw_istore_4 ⟨rfl, rfl⟩ ?_
  refine m_become_1_l hn hr k _ _ _ (by omega) (zup_eq _ _ _ _) ?_ (fun j q1 q2 => by omega) (Nat.lt_succ_self _)
  intro b j q1 q2
  exact zup_ne (by omega)

theorem m_become_139_l  {Q : zV → zM → Prop} {n z : Int} {M : zM} (hn : 0 ≤ n ∧ n ≤ 60) (hr : ∀ p, 0 ≤ p → p < n → -2147483648 ≤ M 139 p - z ∧ M 139 p - z ≤ 2147483647) (k : ∀ N : zM, (N = fun b j => if b = 8 ∧ 0 ≤ j ∧ j < n then M 139 j - z else if b = 2 ∧ j = 2 then n else M b j) → Q (3, 0) N) : ∀ (f : Nat) (p : Int) (N : zM), (0 ≤ p ∧ p ≤ n) → (N 2 2 = p) → (∀ b j, ¬ (b = 8 ∧ 0 ≤ j ∧ j < p) → ¬ (b = 2 ∧ j = 2) → N b j = M b j) → (∀ j, 0 ≤ j → j < p → N 8 j = M 139 j - z) → (n - p).toNat < f → zWp kSt_become 5 [(1, 2), (1, 139), (0, n), (0, z), (0, p)] [] N Q := by
  intro f
  induction f with
  | zero => intro p N h1 h2 h3 h4 hf; exact absurd hf (Nat.not_lt_zero _)
  | succ f ih =>
    intro p N h1 h2 h3 h4 hf
    refine zw_iload ⟨rfl, rfl⟩ rfl ?_
    refine zw_iload ⟨rfl, rfl⟩ rfl ?_
    refine zw_icge ⟨rfl, rfl⟩ rfl (fun c1 => ?_) (fun c1 => ?_)
    · skip
      refine zw_void rfl ?_
      refine k _ ?_
      have hpn : p = n := by omega
      subst hpn
      funext b j
      by_cases q1 : b = 8 ∧ 0 ≤ j ∧ j < p
      · rw [if_pos q1, q1.1]; exact h4 j q1.2.1 q1.2.2
      · rw [if_neg q1]
        by_cases q2 : b = 2 ∧ j = 2
        · rw [if_pos q2, q2.1, q2.2]; exact h2
        · rw [if_neg q2]; exact h3 b j q1 q2
    · skip
      refine zw_iload ⟨rfl, rfl⟩ rfl ?_
      refine zw_const ⟨rfl, rfl⟩ ?_
      refine zw_icge ⟨rfl, rfl⟩ rfl (fun c2 => ?_) (fun c2 => ?_)
      · skip
        refine zw_void rfl ?_
        refine k _ ?_
        have hpn : p = n := by omega
        subst hpn
        funext b j
        by_cases q1 : b = 8 ∧ 0 ≤ j ∧ j < p
        · rw [if_pos q1, q1.1]; exact h4 j q1.2.1 q1.2.2
        · rw [if_neg q1]
          by_cases q2 : b = 2 ∧ j = 2
          · rw [if_pos q2, q2.1, q2.2]; exact h2
          · rw [if_neg q2]; exact h3 b j q1 q2
      · skip
        refine zw_iload ⟨rfl, rfl⟩ rfl ?_
        refine zw_aload ⟨rfl, rfl⟩ rfl ?_
        refine zw_alen ⟨rfl, rfl⟩ za_139 ?_
        skip
        refine zw_icge ⟨rfl, rfl⟩ rfl (fun c3 => ?_) (fun c3 => ?_)
        · skip
          refine zw_void rfl ?_
          refine k _ ?_
          have hpn : p = n := by omega
          subst hpn
          funext b j
          by_cases q1 : b = 8 ∧ 0 ≤ j ∧ j < p
          · rw [if_pos q1, q1.1]; exact h4 j q1.2.1 q1.2.2
          · rw [if_neg q1]
            by_cases q2 : b = 2 ∧ j = 2
            · rw [if_pos q2, q2.1, q2.2]; exact h2
            · rw [if_neg q2]; exact h3 b j q1 q2
        · skip
          refine zw_aload ⟨rfl, rfl⟩ rfl ?_
          refine zw_getR 8 ⟨rfl, rfl⟩ zr_2_1 ?_
          refine zw_iload ⟨rfl, rfl⟩ rfl ?_
          refine zw_aload ⟨rfl, rfl⟩ rfl ?_
          refine zw_iload ⟨rfl, rfl⟩ rfl ?_
          refine zw_ialdv (v := M 139 p) ⟨rfl, rfl⟩ za_139 (by omega) (h3 139 p (by omega) (by omega)) ?_
          refine zw_iload ⟨rfl, rfl⟩ rfl ?_
          refine zw_isub ⟨rfl, rfl⟩ (by have := hr p h1.1 (by omega); omega) ?_
          refine zw_iast ⟨rfl, rfl⟩ za_8 (by omega) ?_
          refine zw_aload ⟨rfl, rfl⟩ rfl ?_
          refine zw_dup ⟨rfl, rfl⟩ (by decide) ?_
          refine zw_getIv (v := p) ⟨rfl, rfl⟩ zc_2 (by decide) ((zup_na (by decide)).trans (h2)) ?_
          refine zw_const ⟨rfl, rfl⟩ ?_
          refine zw_iadd ⟨rfl, rfl⟩ (by omega) ?_
          refine zw_putI ⟨rfl, rfl⟩ zc_2 (by decide) (fun h => absurd h (by decide)) ?_
          refine zw_iinc_4 ⟨rfl, rfl⟩ (by omega) ?_
          refine zw_goto ⟨rfl, rfl⟩ rfl ?_
          refine ih _ _ ?_ ?_ ?_ ?_ ?_
          · omega
          · exact zup_eq _ _ _ _
          · intro b j q1 q2; rw [zup_ne (by omega), zup_ne (by omega)]; exact h3 b j (by omega) q2
          · intro j q1 q2; by_cases hj : j = p
            · subst hj; rw [zup_na (by decide), zup_eq]
            · rw [zup_na (by decide), zup_ni hj]; exact h4 j q1 (by omega)
          · omega

theorem m_become_139 {n z : Int} {M : zM} {Q : zV → zM → Prop} (hn : 0 ≤ n ∧ n ≤ 60) (hr : ∀ p, 0 ≤ p → p < n → -2147483648 ≤ M 139 p - z ∧ M 139 p - z ≤ 2147483647) (k : ∀ N : zM, (N = fun b j => if b = 8 ∧ 0 ≤ j ∧ j < n then M 139 j - z else if b = 2 ∧ j = 2 then n else M b j) → Q (3, 0) N) : zWp kSt_become 0 [(1, 2), (1, 139), (0, n), (0, z), (3, 0)] [] M Q := by
  refine zw_aload ⟨rfl, rfl⟩ rfl ?_
  refine zw_const ⟨rfl, rfl⟩ ?_
  refine zw_putI ⟨rfl, rfl⟩ zc_2 (by decide) (fun h => absurd h (by decide)) ?_
  refine zw_const ⟨rfl, rfl⟩ ?_
  refine zw_istore_4 ⟨rfl, rfl⟩ ?_
  refine m_become_139_l hn hr k _ _ _ (by omega) (zup_eq _ _ _ _) ?_ (fun j q1 q2 => by omega) (Nat.lt_succ_self _)
  intro b j q1 q2
  exact zup_ne (by omega)

theorem m_putIn_l {p x : Int} {M : zM} {Q : zV → zM → Prop} (hn : 0 ≤ p ∧ p ≤ M 2 2 ∧ M 2 2 < 60) (k : ∀ N : zM, (N = fun b j => if b = 8 ∧ p < j ∧ j ≤ M 2 2 then M 8 (j - 1) else if b = 8 ∧ j = p then x else if b = 2 ∧ j = 2 then M 2 2 + 1 else M b j) → Q (3, 0) N) : ∀ (f : Nat) (q : Int) (N : zM), (p ≤ q ∧ q ≤ M 2 2) → (∀ j, q < j → j ≤ M 2 2 → N 8 j = M 8 (j - 1)) → (∀ b j, ¬ (b = 8 ∧ q < j ∧ j ≤ M 2 2) → N b j = M b j) → (q - p).toNat < f → zWp kSt_putIn 14 [(1, 2), (0, p), (0, x), (0, q)] [] N Q := by
  intro f
  induction f with
  | zero => intro q N h1 h2 h3 hf; exact absurd hf (Nat.not_lt_zero _)
  | succ f ih =>
    intro q N h1 h2 h3 hf
    refine zw_iload ⟨rfl, rfl⟩ rfl ?_
    refine zw_iload ⟨rfl, rfl⟩ rfl ?_
    refine zw_icle ⟨rfl, rfl⟩ rfl (fun c1 => ?_) (fun c1 => ?_)
    · skip
      refine zw_aload ⟨rfl, rfl⟩ rfl ?_
      refine zw_getR 8 ⟨rfl, rfl⟩ zr_2_1 ?_
      refine zw_iload ⟨rfl, rfl⟩ rfl ?_
      refine zw_iload ⟨rfl, rfl⟩ rfl ?_
      refine zw_iast ⟨rfl, rfl⟩ za_8 (by omega) ?_
      refine zw_aload ⟨rfl, rfl⟩ rfl ?_
      refine zw_dup ⟨rfl, rfl⟩ (by decide) ?_
      refine zw_getIv (v := M 2 2) ⟨rfl, rfl⟩ zc_2 (by decide) ((zup_na (by decide)).trans (h3 2 2 (by omega))) ?_
      refine zw_const ⟨rfl, rfl⟩ ?_
      refine zw_iadd ⟨rfl, rfl⟩ (by omega) ?_
      refine zw_putI ⟨rfl, rfl⟩ zc_2 (by decide) (fun h => absurd h (by decide)) ?_
      refine zw_void rfl ?_
      refine k _ ?_
      have hq : q = p := by omega
      subst hq
      funext b j
      grind [zup]
    · skip
      refine zw_aload ⟨rfl, rfl⟩ rfl ?_
      refine zw_getR 8 ⟨rfl, rfl⟩ zr_2_1 ?_
      refine zw_iload ⟨rfl, rfl⟩ rfl ?_
      refine zw_aload ⟨rfl, rfl⟩ rfl ?_
      refine zw_getR 8 ⟨rfl, rfl⟩ zr_2_1 ?_
      refine zw_iload ⟨rfl, rfl⟩ rfl ?_
      refine zw_const ⟨rfl, rfl⟩ ?_
      refine zw_isub ⟨rfl, rfl⟩ (by omega) ?_
      refine zw_ialdv (v := N 8 (q - 1)) ⟨rfl, rfl⟩ za_8 (by omega) rfl ?_
      refine zw_iast ⟨rfl, rfl⟩ za_8 (by omega) ?_
      refine zw_iinc_3 ⟨rfl, rfl⟩ (by omega) ?_
      refine zw_goto ⟨rfl, rfl⟩ rfl ?_
      refine ih _ _ ?_ ?_ ?_ ?_
      · omega
      · intro j q1 q2; by_cases hj : j = q
        · subst hj; rw [zup_eq]; exact h3 8 _ (by omega)
        · rw [zup_ni hj]; exact h2 j (by omega) q2
      · intro b j q1; rw [zup_ne (by omega)]; exact h3 b j (by omega)
      · omega

theorem m_putIn {p x : Int} {M : zM} {Q : zV → zM → Prop} (hn : 0 ≤ p ∧ p ≤ M 2 2 ∧ M 2 2 < 60) (k : ∀ N : zM, (N = fun b j => if b = 8 ∧ p < j ∧ j ≤ M 2 2 then M 8 (j - 1) else if b = 8 ∧ j = p then x else if b = 2 ∧ j = 2 then M 2 2 + 1 else M b j) → Q (3, 0) N) : zWp kSt_putIn 0 [(1, 2), (0, p), (0, x), (3, 0)] [] M Q := by
  refine zw_aload ⟨rfl, rfl⟩ rfl ?_
  refine zw_getIv (v := M 2 2) ⟨rfl, rfl⟩ zc_2 (by decide) rfl ?_
  refine zw_const ⟨rfl, rfl⟩ ?_
  refine zw_icge ⟨rfl, rfl⟩ rfl (fun q => absurd q (by omega)) (fun _ => ?_)
  refine zw_iload ⟨rfl, rfl⟩ rfl ?_
  refine zw_iflt ⟨rfl, rfl⟩ rfl (fun q => absurd q (by omega)) (fun _ => ?_)
  refine zw_iload ⟨rfl, rfl⟩ rfl ?_
  refine zw_aload ⟨rfl, rfl⟩ rfl ?_
  refine zw_getIv (v := M 2 2) ⟨rfl, rfl⟩ zc_2 (by decide) rfl ?_
  refine zw_icle ⟨rfl, rfl⟩ rfl (fun _ => ?_) (fun q => absurd (by omega) q)
  refine zw_aload ⟨rfl, rfl⟩ rfl ?_
  refine zw_getIv (v := M 2 2) ⟨rfl, rfl⟩ zc_2 (by decide) rfl ?_
  refine zw_istore_3 ⟨rfl, rfl⟩ ?_
  exact m_putIn_l hn k _ _ _ (by omega) (fun j q1 q2 => by omega) (fun _ _ _ => rfl) (Nat.lt_succ_self _)
