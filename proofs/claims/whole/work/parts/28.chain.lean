/-! A cluster's chain, where its end begins, where it is over -/
theorem ygo_6 {k : Int} (h : ¬ (k = 10 ∨ k = 11)) : ygo 6 k = -1 := by grind (splits := 20) [ygo]
theorem ygo_4 {k : Int} (h : ¬ (k = 10 ∨ k = 11)) (h1 : k ≠ 1) : ygo 4 k = -1 := by grind (splits := 20) [ygo]
theorem ygo_9 {k : Int} (h : ¬ (k = 10 ∨ k = 11)) (h1 : ¬ (k = 12 ∨ k = 13)) : ygo 9 k = -1 := by grind (splits := 20) [ygo]
theorem ygo_3 {k : Int} (h : ¬ (k = 10 ∨ k = 11)) (h1 : ¬ (k = 12 ∨ k = 13)) (h2 : k ≠ 1) : ygo 3 k = -1 := by grind (splits := 20) [ygo]
theorem ygo_5 {k : Int} (h : ¬ (k = 10 ∨ k = 11)) (h1 : ¬ (5 ≤ k ∧ k ≤ 9)) : ygo 5 k = -1 := by grind (splits := 20) [ygo]
theorem ygo_7 {k : Int} (h : ¬ (k = 10 ∨ k = 11)) (h4 : k ≠ 4) : ygo 7 k = -1 := by grind (splits := 20) [ygo]
theorem yfs_0 {k : Int} (h : k = 0 ∨ k = 12 ∨ k = 13) : yfs k = 0 := by grind (splits := 20) [yfs]
theorem ygo_128 {s k : Int} (hs : s = 1 ∨ s = 2 ∨ s = 8) (h : ¬ (k = 10 ∨ k = 11)) (h1 : ¬ (5 ≤ k ∧ k ≤ 9)) (h3 : k ≠ 3) (h4 : s = 1 → k ≠ 4) : ygo s k = -1 := by grind (splits := 20) [ygo]
theorem ygo_m {s k : Int} (hs : s ≠ 0) (h : k = 10 ∨ k = 11) : ygo s k = 6 := by grind (splits := 20) [ygo]
theorem ygo_g {s k : Int} (hs : s = 1 ∨ s = 2 ∨ s = 8 ∨ s = 5) (h : 5 ≤ k ∧ k ≤ 9) : ygo s k = 5 := by grind (splits := 20) [ygo]
def yq (K : Int → Int) (p : Int) : Int := if K (p + 1) = 4 then p + 2 else p + 1
def ync (K : Int → Int) (p : Int) : Int :=
  if K (yq K p) = 3 then (if K (yq K p + 1) = 12 ∨ K (yq K p + 1) = 13 then (if K (yq K p + 2) = 1 then yq K p + 2 else -1) else if K (yq K p + 1) = 1 then yq K p + 1 else -1) else -1
def ypl0 (K : Int → Int) (b : Int) : Nat → Int
  | 0 => b
  | k + 1 => ync K (ypl0 K b k)
def ypl (K : Int → Int) (b k : Int) : Int := ypl0 K b k.toNat
def ym0 (K : Int → Int) : Nat → Int → Int
  | 0, _ => 1
  | f + 1, p => if ync K p = -1 then 1 else ym0 K f (ync K p) + 1
def ym (K : Int → Int) (b : Int) : Int := ym0 K 60 b
def ynk (K : Int → Int) (p : Int) : Int := if K (p + 1) = 4 then p + 1 else -1
def yvi (K : Int → Int) (p : Int) : Int := if ync K p = -1 then -1 else yq K p
def yjo (K : Int → Int) (p : Int) : Int := if ync K p = -1 then -1 else if K (yq K p + 1) = 12 ∨ K (yq K p + 1) = 13 then yq K p + 1 else -1
/-- where the end begins -/
def ytl (K : Int → Int) (b : Int) : Int :=
  if K b = 1 then yq K (ypl K b (ym K b - 1)) else if K b = 2 then (if K (b + 1) = 4 then b + 2 else b + 1) else if yso (K b) = 2 then (if K b = 4 then b + 1 else b) else b + 1
def ydd (K : Int → Int) (b : Int) : Int := if (yso (K b) = 0 ∨ yso (K b) = 2) ∧ K (ytl K b) = 3 then 1 else 0
def ysg (K : Int → Int) : Nat → Int → Int
  | 0, p => p
  | f + 1, p => if 5 ≤ K p ∧ K p ≤ 9 then ysg K f (p + 1) else p
def ymk (K : Int → Int) : Nat → Int → Int
  | 0, p => p
  | f + 1, p => if K p = 10 ∨ K p = 11 then ymk K f (p + 1) else p
def yed (K : Int → Int) (t : Int) : Int := if K t = 3 then ymk K 61 (if K (t + 1) = 12 ∨ K (t + 1) = 13 then t + 2 else t + 1) else ymk K 61 (ysg K 61 t)
/-- where a cluster that begins at b is over -/
def yov (K : Int → Int) (b : Int) : Int := if yso (K b) = 0 ∨ yso (K b) = 2 then yed K (ytl K b) else if K b = 2 then ymk K 61 (ytl K b) else b + 1
theorem ypl_0 (K : Int → Int) (b : Int) : ypl K b 0 = b := rfl
theorem ypl_s (K : Int → Int) (b : Int) {k : Int} (h : 0 ≤ k) : ypl K b (k + 1) = ync K (ypl K b k) := by
  unfold ypl
  rw [show (k + 1).toNat = k.toNat + 1 by omega]
  rfl
theorem yq_r (K : Int → Int) (p : Int) : p + 1 ≤ yq K p ∧ yq K p ≤ p + 2 := by unfold yq; split <;> omega
theorem ync_r {K : Int → Int} {p : Int} (h : ync K p ≠ -1) : (yq K p + 1 ≤ ync K p ∧ ync K p ≤ yq K p + 2) ∧ K (ync K p) = 1 ∧ K (yq K p) = 3 ∧ (ync K p = yq K p + 2 ↔ (K (yq K p + 1) = 12 ∨ K (yq K p + 1) = 13)) := by
  unfold ync at h ⊢
  split at h
  · rename_i h3
    rw [if_pos h3]
    split at h
    · rename_i h4
      rw [if_pos h4]
      split at h
      · rename_i h5; rw [if_pos h5]; exact ⟨by omega, h5, h3, fun _ => h4, fun _ => rfl⟩
      · exact absurd rfl h
    · rename_i h4
      rw [if_neg h4]
      split at h
      · rename_i h5; rw [if_pos h5]; exact ⟨by omega, h5, h3, fun z => by omega, fun z => absurd z h4⟩
      · exact absurd rfl h
  · exact absurd rfl h
theorem ync_lt {K : Int → Int} {n p : Int} (hK : yKr K n) (hp : 0 ≤ p) (h : ync K p ≠ -1) : p + 2 ≤ ync K p ∧ ync K p < n := by
  obtain ⟨a, b, -⟩ := ync_r h
  have := yq_r K p
  refine ⟨by omega, ?_⟩
  by_cases q : ync K p < n
  · exact q
  · rw [hK.2.2 _ (by omega)] at b
    omega
/-- the chain: m consonants, each the next of the one ahead, behind the last one none -/
theorem ym_sp {K : Int → Int} {n : Int} (hK : yKr K n) : ∀ (f : Nat) (b : Int), 0 ≤ b → b < n → n - b ≤ f → K b = 1 → (1 ≤ ym0 K f b ∧ 2 * ym0 K f b ≤ n - b + 1) ∧ ∀ k : Nat, (k : Int) < ym0 K f b → (K (ypl0 K b k) = 1 ∧ b + 2 * k ≤ ypl0 K b k ∧ ypl0 K b k < n) ∧ (ync K (ypl0 K b k) = -1 ↔ (k : Int) = ym0 K f b - 1) := by
  intro f
  induction f with
  | zero => intro b h0 h1 h2 h3; omega
  | succ f ih =>
    intro b h0 h1 h2 h3
    unfold ym0
    by_cases hc : ync K b = -1
    · rw [if_pos hc]
      refine ⟨by omega, fun k hk => ?_⟩
      have : k = 0 := by omega
      subst this
      refine ⟨⟨h3, by show b + 2 * 0 ≤ b; omega, h1⟩, by show ync K b = -1 ↔ _; rw [hc]; simp⟩
    · rw [if_neg hc]
      have hl := ync_lt hK h0 hc
      have hr := (ync_r hc).2.1
      obtain ⟨a1, a2⟩ := ih (ync K b) (by omega) hl.2 (by omega) hr
      refine ⟨by omega, fun k hk => ?_⟩
      cases k with
      | zero => exact ⟨⟨h3, by show b + 2 * 0 ≤ b; omega, h1⟩, by show ync K b = -1 ↔ _; exact ⟨fun z => absurd z hc, fun z => by have : ((0 : Nat) : Int) = 0 := rfl; omega⟩⟩
      | succ k =>
        have e : ∀ j : Nat, ypl0 K b (j + 1) = ypl0 K (ync K b) j := by
          intro j
          induction j with
          | zero => rfl
          | succ j ihj => show ync K (ypl0 K b (j + 1)) = ync K (ypl0 K (ync K b) j); rw [ihj]
        rw [e k]
        obtain ⟨b1, b2⟩ := a2 k (by omega)
        refine ⟨⟨b1.1, by omega, b1.2.2⟩, ?_⟩
        rw [b2]
        omega
theorem ym_r {K : Int → Int} {n b : Int} (hK : yKr K n) (h0 : 0 ≤ b) (h1 : b < n) (hb : K b = 1) : 1 ≤ ym K b ∧ 2 * ym K b ≤ n - b + 1 := (ym_sp hK 60 b h0 h1 (by have := hK.1; omega) hb).1
theorem ypl_r {K : Int → Int} {n b k : Int} (hK : yKr K n) (h0 : 0 ≤ b) (h1 : b < n) (hb : K b = 1) (hk : 0 ≤ k) (h2 : k < ym K b) : (K (ypl K b k) = 1 ∧ b + 2 * k ≤ ypl K b k ∧ ypl K b k < n) ∧ (ync K (ypl K b k) = -1 ↔ k = ym K b - 1) := by
  have := (ym_sp hK 60 b h0 h1 (by have := hK.1; omega) hb).2 k.toNat (by show (k.toNat : Int) < ym K b; omega)
  rw [show (k.toNat : Int) = k by omega] at this
  exact this
theorem ypl_u {K : Int → Int} {n b k : Int} (hK : yKr K n) (h0 : 0 ≤ b) (h1 : b < n) (hb : K b = 1) (hk : 0 ≤ k) (hn : ∀ j, 0 ≤ j → j < k → ync K (ypl K b j) ≠ -1) (hl : ync K (ypl K b k) = -1) : k = ym K b - 1 := by
  have r := ym_r hK h0 h1 hb
  by_cases hlt : k < ym K b
  · exact (ypl_r hK h0 h1 hb hk hlt).2.mp hl
  · exact absurd ((ypl_r hK h0 h1 hb (show 0 ≤ ym K b - 1 by omega) (by omega)).2.mpr rfl) (hn _ (by omega) (by omega))
theorem ypl_n {K : Int → Int} {n b k : Int} (hK : yKr K n) (h0 : 0 ≤ b) (h1 : b < n) (hb : K b = 1) (hk : 0 ≤ k) (h2 : k + 1 < ym K b) : ync K (ypl K b k) = ypl K b (k + 1) ∧ ync K (ypl K b k) ≠ -1 ∧ ypl K b k + 2 ≤ ypl K b (k + 1) := by
  have a := (ypl_r hK h0 h1 hb hk (by omega))
  have c : ync K (ypl K b k) ≠ -1 := fun z => by have := a.2.mp z; omega
  have d := ync_lt hK (by omega) c
  rw [ypl_s K b hk]
  exact ⟨rfl, c, d.1⟩
theorem ysg_sp {K : Int → Int} {n : Int} (hK : yKr K n) : ∀ (f : Nat) (p : Int), 0 ≤ p → p ≤ n → n - p < f → (p ≤ ysg K f p ∧ ysg K f p ≤ n) ∧ ¬ (5 ≤ K (ysg K f p) ∧ K (ysg K f p) ≤ 9) ∧ ∀ s, p ≤ s → s < ysg K f p → 5 ≤ K s ∧ K s ≤ 9 := by
  intro f
  induction f with
  | zero => intro p h0 h1 h2; omega
  | succ f ih =>
    intro p h0 h1 h2
    unfold ysg
    by_cases h : 5 ≤ K p ∧ K p ≤ 9
    · rw [if_pos h]
      have hp : p < n := by
        by_cases q : p < n
        · exact q
        · rw [hK.2.2 p (by omega)] at h; omega
      obtain ⟨a1, a2, a3⟩ := ih (p + 1) (by omega) (by omega) (by omega)
      refine ⟨by omega, a2, fun s b1 b2 => ?_⟩
      by_cases hs : s = p
      · subst hs; exact h
      · exact a3 s (by omega) b2
    · rw [if_neg h]
      exact ⟨by omega, h, fun s b1 b2 => by omega⟩
theorem ymk_sp {K : Int → Int} {n : Int} (hK : yKr K n) : ∀ (f : Nat) (p : Int), 0 ≤ p → p ≤ n → n - p < f → (p ≤ ymk K f p ∧ ymk K f p ≤ n) ∧ ¬ (K (ymk K f p) = 10 ∨ K (ymk K f p) = 11) ∧ ∀ s, p ≤ s → s < ymk K f p → K s = 10 ∨ K s = 11 := by
  intro f
  induction f with
  | zero => intro p h0 h1 h2; omega
  | succ f ih =>
    intro p h0 h1 h2
    unfold ymk
    by_cases h : K p = 10 ∨ K p = 11
    · rw [if_pos h]
      have hp : p < n := by
        by_cases q : p < n
        · exact q
        · rw [hK.2.2 p (by omega)] at h; omega
      obtain ⟨a1, a2, a3⟩ := ih (p + 1) (by omega) (by omega) (by omega)
      refine ⟨by omega, a2, fun s b1 b2 => ?_⟩
      by_cases hs : s = p
      · subst hs; exact h
      · exact a3 s (by omega) b2
    · rw [if_neg h]
      exact ⟨by omega, h, fun s b1 b2 => by omega⟩
theorem ysg_u {K : Int → Int} {n p r : Int} (hK : yKr K n) (h0 : 0 ≤ p) (h1 : p ≤ n) (hr : p ≤ r) (ha : ∀ s, p ≤ s → s < r → 5 ≤ K s ∧ K s ≤ 9) (hn : ¬ (5 ≤ K r ∧ K r ≤ 9)) : ysg K 61 p = r := by
  obtain ⟨a1, a2, a3⟩ := ysg_sp hK 61 p h0 h1 (by have := hK.1; omega)
  by_cases h : ysg K 61 p < r
  · exact absurd (ha _ a1.1 h) a2
  · by_cases h2 : r < ysg K 61 p
    · exact absurd (a3 r hr h2) hn
    · omega
theorem ymk_u {K : Int → Int} {n p r : Int} (hK : yKr K n) (h0 : 0 ≤ p) (h1 : p ≤ n) (hr : p ≤ r) (ha : ∀ s, p ≤ s → s < r → K s = 10 ∨ K s = 11) (hn : ¬ (K r = 10 ∨ K r = 11)) : ymk K 61 p = r := by
  obtain ⟨a1, a2, a3⟩ := ymk_sp hK 61 p h0 h1 (by have := hK.1; omega)
  by_cases h : ymk K 61 p < r
  · exact absurd (ha _ a1.1 h) a2
  · by_cases h2 : r < ymk K 61 p
    · exact absurd (a3 r hr h2) hn
    · omega
/-- a run of letters none of which begins a cluster, the automaton's state behind it -/
def yrun (K : Int → Int) (b p : Int) : Prop := b < p ∧ ∀ s, b < s → s < p → ¬ ybg K s
theorem yrun.s {K : Int → Int} {b p : Int} (hb : 0 ≤ b) (h : yrun K b p) (hg : ygo (ysi K p) (K p) ≠ -1) : yrun K b (p + 1) ∧ ysi K (p + 1) = ygo (ysi K p) (K p) := by
  refine ⟨⟨by have := h.1; omega, fun s h1 h2 => ?_⟩, ysi_n K (by have := h.1; omega) hg⟩
  by_cases hs : s = p
  · subst hs; exact hg
  · exact h.2 s h1 (by omega)
theorem ykp {K : Int → Int} {n p : Int} (hK : yKr K n) (h : K p ≠ -1) : 0 ≤ p ∧ p < n := by
  by_cases q : 0 ≤ p ∧ p < n
  · exact q
  · exact absurd (hK.2.2 p q) h
/-- behind a consonant: its nukta -/
theorem yrun_q {K : Int → Int} {n b p : Int} (hK : yKr K n) (hb : 0 ≤ b) (h : yrun K b (p + 1)) (hs : ysi K (p + 1) = 1) : yrun K b (yq K p) ∧ ((ysi K (yq K p) = 1 ∧ K (yq K p) ≠ 4) ∨ ysi K (yq K p) = 2) := by
  unfold yq
  split
  · rename_i h4
    have hg : ygo (ysi K (p + 1)) (K (p + 1)) = 2 := by rw [hs, h4]; decide
    obtain ⟨a, b⟩ := h.s hb (by rw [hg]; decide)
    rw [show p + 1 + 1 = p + 2 by omega] at a b
    exact ⟨a, Or.inr (by rw [b, hg])⟩
  · rename_i h4
    exact ⟨h, Or.inl ⟨hs, h4⟩⟩
theorem yrun_c {K : Int → Int} {n b p : Int} (hK : yKr K n) (hb : 0 ≤ b) (h : yrun K b (p + 1)) (hs : ysi K (p + 1) = 1) (hc : ync K p ≠ -1) : yrun K b (ync K p + 1) ∧ ysi K (ync K p + 1) = 1 := by
  obtain ⟨a1, a2⟩ := yrun_q hK hb h hs
  obtain ⟨r1, r2, r3, r4⟩ := ync_r hc
  have g1 : ygo (ysi K (yq K p)) (K (yq K p)) = 3 := by rw [r3]; rcases a2 with ⟨z, -⟩ | z <;> rw [z] <;> decide
  obtain ⟨b1, b2⟩ := a1.s hb (by rw [g1]; decide)
  rw [g1] at b2
  by_cases hj : K (yq K p + 1) = 12 ∨ K (yq K p + 1) = 13
  · have e := r4.mpr hj
    have g2 : ygo (ysi K (yq K p + 1)) (K (yq K p + 1)) = 4 := by rw [b2]; rcases hj with z | z <;> rw [z] <;> decide
    obtain ⟨c1, c2⟩ := b1.s hb (by rw [g2]; decide)
    rw [g2] at c2
    rw [show yq K p + 1 + 1 = ync K p by omega] at c1 c2
    have g3 : ygo (ysi K (ync K p)) (K (ync K p)) = 1 := by rw [c2, r2]; decide
    obtain ⟨d1, d2⟩ := c1.s hb (by rw [g3]; decide)
    exact ⟨d1, by rw [d2, g3]⟩
  · have e : ync K p = yq K p + 1 := by
      have : ync K p ≠ yq K p + 2 := fun z => hj (r4.mp z)
      omega
    rw [e]
    rw [e] at r2
    have g3 : ygo (ysi K (yq K p + 1)) (K (yq K p + 1)) = 1 := by rw [b2, r2]; decide
    obtain ⟨d1, d2⟩ := b1.s hb (by rw [g3]; decide)
    exact ⟨d1, by rw [d2, g3]⟩
theorem yrun_b {K : Int → Int} {b : Int} : yrun K b (b + 1) := ⟨by omega, fun s h1 h2 => by omega⟩
theorem yrun_m {K : Int → Int} {b : Int} (hb : 0 ≤ b) : ∀ (k : Nat) (p : Int), yrun K b p → (ysi K p ≠ 0) → (∀ s, p ≤ s → s < p + k → K s = 10 ∨ K s = 11) → yrun K b (p + k) ∧ (ysi K (p + k) = 6 ∨ (k = 0)) := by
  intro k
  induction k with
  | zero => intro p h _ _; rw [show p + ((0 : Nat) : Int) = p by omega]; exact ⟨h, Or.inr rfl⟩
  | succ k ih =>
    intro p h h0 hm
    have h1 := hm p (Int.le_refl _) (by omega)
    have g : ygo (ysi K p) (K p) = 6 := by
      exact ygo_m h0 h1
    obtain ⟨a, b⟩ := h.s hb (by rw [g]; decide)
    rw [g] at b
    obtain ⟨c, d⟩ := ih (p + 1) a (by rw [b]; decide) (fun s q1 q2 => hm s (by omega) (by omega))
    rw [show p + ((k + 1 : Nat) : Int) = p + 1 + k by omega]
    refine ⟨c, Or.inl ?_⟩
    rcases d with d | d
    · exact d
    · subst d; rw [show p + 1 + ((0 : Nat) : Int) = p + 1 by omega]; exact b
theorem yrun_g {K : Int → Int} {b : Int} (hb : 0 ≤ b) : ∀ (k : Nat) (p : Int), yrun K b p → (ysi K p = 1 ∨ ysi K p = 2 ∨ ysi K p = 8 ∨ ysi K p = 5) → (∀ s, p ≤ s → s < p + k → 5 ≤ K s ∧ K s ≤ 9) → yrun K b (p + k) ∧ (ysi K (p + k) = 5 ∨ k = 0) := by
  intro k
  induction k with
  | zero => intro p h h1 _; rw [show p + ((0 : Nat) : Int) = p by omega]; exact ⟨h, Or.inr rfl⟩
  | succ k ih =>
    intro p h h0 hm
    have h1 := hm p (Int.le_refl _) (by omega)
    have g : ygo (ysi K p) (K p) = 5 := ygo_g h0 h1
    obtain ⟨a, b⟩ := h.s hb (by rw [g]; decide)
    rw [g] at b
    obtain ⟨c, d⟩ := ih (p + 1) a (by rw [b]; decide) (fun s q1 q2 => hm s (by omega) (by omega))
    rw [show p + ((k + 1 : Nat) : Int) = p + 1 + k by omega]
    refine ⟨c, Or.inl ?_⟩
    rcases d with d | d
    · exact d
    · subst d; rw [show p + 1 + ((0 : Nat) : Int) = p + 1 by omega]; exact b
/-- marks to their end: the cluster is over there -/
theorem yrun_me {K : Int → Int} {n b p : Int} (hK : yKr K n) (hb : 0 ≤ b) (h : yrun K b p) (hp : p ≤ n) (h0 : ysi K p ≠ 0) (hx : ∀ k, ¬ (k = 10 ∨ k = 11) → k = K p → ygo (ysi K p) k = -1) : yrun K b (ymk K 61 p) ∧ ybg K (ymk K 61 p) := by
  obtain ⟨a1, a2, a3⟩ := ymk_sp hK 61 p (by have := h.1; omega) hp (by have := hK.1; have := h.1; omega)
  obtain ⟨b1, b2⟩ := yrun_m hb (ymk K 61 p - p).toNat p h h0 (fun s q1 q2 => a3 s q1 (by omega))
  rw [show p + (((ymk K 61 p - p).toNat : Nat) : Int) = ymk K 61 p by omega] at b1 b2
  refine ⟨b1, ?_⟩
  unfold ybg
  rcases b2 with z | z
  · rw [z]
    exact ygo_6 a2
  · have e : ymk K 61 p = p := by omega
    rw [e] at a2 ⊢
    exact hx _ a2 rfl
theorem yrun_ed {K : Int → Int} {n b t : Int} (hK : yKr K n) (hb : 0 ≤ b) (ht : t ≤ n) (h : (b = t ∧ ybg K b ∧ (K b = 3 ∨ (5 ≤ K b ∧ K b ≤ 11))) ∨ yrun K b t ∧ (ysi K t = 1 ∨ ysi K t = 2 ∨ ysi K t = 8)) (hx : K t = 3 → b < t → ysi K t ≠ 8 → K (t + 1) ≠ 1 ∧ ((K (t + 1) = 12 ∨ K (t + 1) = 13) → K (t + 2) ≠ 1)) (hx2 : ysi K t = 1 → b < t → K t ≠ 4) : yrun K b (yed K t) ∧ ybg K (yed K t) := by
  unfold yed
  split
  · rename_i h3
    have htn := (ykp hK (p := t) (by rw [h3]; decide)).2
    have hr : yrun K b (t + 1) ∧ (ysi K (t + 1) = 9 ∨ (ysi K (t + 1) = 3 ∧ K (t + 1) ≠ 1 ∧ ((K (t + 1) = 12 ∨ K (t + 1) = 13) → K (t + 2) ≠ 1))) := by
      rcases h with ⟨rfl, h2, -⟩ | ⟨h1, h2⟩
      · exact ⟨yrun_b, Or.inl (by rw [ysi_b K hb h2, h3]; decide)⟩
      · by_cases h8 : ysi K t = 8
        · have g : ygo (ysi K t) (K t) = 9 := by rw [h3, h8]; decide
          obtain ⟨a, c⟩ := h1.s hb (by rw [g]; decide)
          exact ⟨a, Or.inl (by rw [c, g])⟩
        · have g : ygo (ysi K t) (K t) = 3 := by rw [h3]; rcases h2 with z | z | z <;> first | (rw [z]; decide) | exact absurd z h8
          obtain ⟨a, c⟩ := h1.s hb (by rw [g]; decide)
          exact ⟨a, Or.inr ⟨by rw [c, g], hx h3 h1.1 h8⟩⟩
    obtain ⟨r1, r2⟩ := hr
    split
    · rename_i hj
      have g : ygo (ysi K (t + 1)) (K (t + 1)) = 6 ∨ (ygo (ysi K (t + 1)) (K (t + 1)) = 4 ∧ K (t + 2) ≠ 1) := by
        rcases r2 with z | ⟨z, z1, z2⟩
        · left; rw [z]; rcases hj with y | y <;> rw [y] <;> decide
        · right; rw [z]; exact ⟨by rcases hj with y | y <;> rw [y] <;> decide, z2 hj⟩
      obtain ⟨a, c⟩ := r1.s hb (by rcases g with z | ⟨z, -⟩ <;> rw [z] <;> decide)
      rw [show t + 1 + 1 = t + 2 by omega] at a c
      have ht2 : t + 1 < n := (ykp hK (p := t + 1) (by rcases hj with z | z <;> rw [z] <;> decide)).2
      refine yrun_me hK hb a (by omega) (by rw [c]; rcases g with z | ⟨z, -⟩ <;> rw [z] <;> decide) (fun k q1 q2 => ?_)
      rw [c]
      rcases g with z | ⟨z, z1⟩
      · rw [z]; exact ygo_6 q1
      · rw [z]
        exact ygo_4 q1 (by rw [q2]; exact z1)
    · rename_i hj
      refine yrun_me hK hb r1 (by omega) (by rcases r2 with z | ⟨z, -⟩ <;> rw [z] <;> decide) (fun k q1 q2 => ?_)
      rcases r2 with z | ⟨z, z1, -⟩
      · rw [z]
        exact ygo_9 q1 (by rw [q2]; exact hj)
      · rw [z]
        exact ygo_3 q1 (by rw [q2]; exact hj) (by rw [q2]; exact z1)
  · rename_i h3
    have ht0 : 0 ≤ t := by rcases h with ⟨z, -⟩ | ⟨z, -⟩ <;> first | omega | (have := z.1; omega)
    obtain ⟨a1, a2, a3⟩ := ysg_sp hK 61 t ht0 ht (by have := hK.1; omega)
    have hsig : ∀ q, yrun K b q → t ≤ q → q ≤ ysg K 61 t → (ysi K q = 1 ∨ ysi K q = 2 ∨ ysi K q = 8 ∨ ysi K q = 5) → (q = ysg K 61 t → ysi K q ≠ 5 → ysg K 61 t = t ∧ b < t) → yrun K b (ymk K 61 (ysg K 61 t)) ∧ ybg K (ymk K 61 (ysg K 61 t)) := by
      intro q h1 h2 h4 h5 h6
      obtain ⟨c1, c2⟩ := yrun_g hb (ysg K 61 t - q).toNat q h1 h5 (fun s q1 q2 => a3 s (by omega) (by omega))
      rw [show q + (((ysg K 61 t - q).toNat : Nat) : Int) = ysg K 61 t by omega] at c1 c2
      by_cases h7 : ysi K (ysg K 61 t) = 5
      · exact yrun_me hK hb c1 a1.2 (by rw [h7]; decide) (fun k q1 q2 => by rw [h7]; exact ygo_5 q1 (by rw [q2]; exact a2))
      · have e : q = ysg K 61 t := by have := c2.resolve_left h7; omega
        rw [← e] at h7
        obtain ⟨e2, e3⟩ := h6 e h7
        rw [e2] at a2 ⊢
        rw [e2] at e
        subst e
        refine yrun_me hK hb h1 ht (by omega) (fun k q1 q2 => ygo_128 (by omega) q1 (by rw [q2]; exact a2) (by rw [q2]; exact h3) (fun z => by rw [q2]; exact hx2 z e3))
    rcases h with ⟨rfl, h2, h4⟩ | ⟨h1, h2⟩
    · rcases h4 with h4 | h4
      · exact absurd h4 h3
      · by_cases h5 : K b ≤ 9
        · have e : ysi K (b + 1) = 5 := by
            rw [ysi_b K hb h2]
            have : ∀ k : Int, 5 ≤ k → k ≤ 9 → yfs k = 5 := by grind [yfs]
            exact this _ h4.1 h5
          have hlt : b < ysg K 61 b := by
            by_cases q : b < ysg K 61 b
            · exact q
            · rw [show ysg K 61 b = b by omega] at a2; exact absurd ⟨h4.1, h5⟩ a2
          exact hsig (b + 1) yrun_b (by omega) (by omega) (by omega) (fun _ z => absurd e z)
        · have e : ysg K 61 b = b := by
            by_cases q : b < ysg K 61 b
            · have := a3 b (Int.le_refl _) q; omega
            · omega
          rw [e]
          have e6 : ysi K (b + 1) = 6 := by
            rw [ysi_b K hb h2]
            have : ∀ k : Int, (k = 10 ∨ k = 11) → yfs k = 6 := by grind [yfs]
            exact this _ (by omega)
          have hbn := (ykp hK (p := b) (by omega)).2
          obtain ⟨d1, d2, d3⟩ := ymk_sp hK 61 b hb ht (by have := hK.1; omega)
          have hlt : b < ymk K 61 b := by
            by_cases q : b < ymk K 61 b
            · exact q
            · rw [show ymk K 61 b = b by omega] at d2; exact absurd (show K b = 10 ∨ K b = 11 by omega) d2
          rw [← ymk_u hK (p := b + 1) (by omega) (by omega) (by omega) (fun s q1 q2 => d3 s (by omega) q2) d2]
          exact yrun_me hK hb yrun_b (by omega) (by rw [e6]; decide) (fun k q1 q2 => by rw [e6]; exact ygo_6 q1)
    · exact hsig t h1 (Int.le_refl _) a1.1 (by omega) (fun z _ => ⟨z.symm, h1.1⟩)
theorem yq_n {K : Int → Int} {n p : Int} (hK : yKr K n) (h : p < n) : yq K p ≤ n := by
  unfold yq
  split
  · rename_i h4
    have := (ykp hK (p := p + 1) (by rw [h4]; decide)).2
    omega
  · omega
/-- the chain's letters, one behind the other, in one cluster -/
theorem yrun_pl {K : Int → Int} {n b : Int} (hK : yKr K n) (h0 : 0 ≤ b) (h1 : b < n) (hb : ybg K b) (h : K b = 1) : ∀ k : Nat, (k : Int) < ym K b → yrun K b (ypl K b k + 1) ∧ ysi K (ypl K b k + 1) = 1 := by
  intro k
  induction k with
  | zero =>
    intro _
    show yrun K b (b + 1) ∧ ysi K (b + 1) = 1
    exact ⟨yrun_b, by rw [ysi_b K h0 hb, h]; decide⟩
  | succ k ih =>
    intro hk
    obtain ⟨a1, a2⟩ := ih (by omega)
    obtain ⟨c1, c2, c3⟩ := ypl_n hK h0 h1 h (k := (k : Int)) (by omega) (by omega)
    rw [show ((k + 1 : Nat) : Int) = (k : Int) + 1 by omega, ← c1]
    exact yrun_c hK h0 a1 a2 c2
theorem ync_x {K : Int → Int} {p : Int} (h : ync K p = -1) (hp : 0 ≤ p) (h3 : K (yq K p) = 3) : K (yq K p + 1) ≠ 1 ∧ ((K (yq K p + 1) = 12 ∨ K (yq K p + 1) = 13) → K (yq K p + 2) ≠ 1) := by
  have := yq_r K p
  unfold ync at h
  rw [if_pos h3] at h
  split at h
  · rename_i hj
    refine ⟨by rcases hj with z | z <;> rw [z] <;> decide, fun _ z => ?_⟩
    rw [if_pos z] at h
    omega
  · rename_i hj
    refine ⟨fun z => ?_, fun z => absurd z hj⟩
    rw [if_pos z] at h
    omega
theorem yed_le {K : Int → Int} {n t : Int} (hK : yKr K n) (h0 : 0 ≤ t) (h1 : t ≤ n) : (t ≤ yed K t ∧ yed K t ≤ n) ∧ ∀ s, t ≤ s → s < yed K t → (s = t ∧ K t = 3) ∨ (s = t + 1 ∧ K t = 3 ∧ (K s = 12 ∨ K s = 13)) ∨ (5 ≤ K s ∧ K s ≤ 11) := by
  unfold yed
  have hn := hK.1
  split
  · rename_i h3
    have ht := (ykp hK (p := t) (by rw [h3]; decide)).2
    split
    · rename_i hj
      have ht := (ykp hK (p := t + 1) (by rcases hj with z | z <;> rw [z] <;> decide)).2
      obtain ⟨a1, a2, a3⟩ := ymk_sp hK 61 (t + 2) (by omega) (by omega) (by omega)
      refine ⟨⟨by omega, a1.2⟩, fun s q1 q2 => ?_⟩
      by_cases e1 : s = t
      · exact Or.inl ⟨e1, h3⟩
      · by_cases e2 : s = t + 1
        · subst e2; exact Or.inr (Or.inl ⟨rfl, h3, hj⟩)
        · have := a3 s (by omega) q2
          exact Or.inr (Or.inr (by omega))
    · obtain ⟨a1, a2, a3⟩ := ymk_sp hK 61 (t + 1) (by omega) (by omega) (by omega)
      refine ⟨⟨by omega, a1.2⟩, fun s q1 q2 => ?_⟩
      by_cases e1 : s = t
      · exact Or.inl ⟨e1, h3⟩
      · have := a3 s (by omega) q2
        exact Or.inr (Or.inr (by omega))
  · obtain ⟨b1, b2, b3⟩ := ysg_sp hK 61 t h0 h1 (by omega)
    obtain ⟨a1, a2, a3⟩ := ymk_sp hK 61 (ysg K 61 t) (by omega) b1.2 (by omega)
    refine ⟨⟨by omega, a1.2⟩, fun s q1 q2 => Or.inr (Or.inr ?_)⟩
    by_cases e : s < ysg K 61 t
    · have := b3 s q1 e; omega
    · have := a3 s (by omega) q2; omega
/-- the tail's letters -/
def yTail (K : Int → Int) (b : Int) : Prop := ∀ s, ytl K b ≤ s → s < yov K b → (s = ytl K b ∧ ydd K b = 1 ∧ K s = 3) ∨ (s = ytl K b + 1 ∧ ydd K b = 1 ∧ (K s = 12 ∨ K s = 13)) ∨ (5 ≤ K s ∧ K s ≤ 11)
theorem yso_k {k : Int} (h0 : 0 ≤ k) (h1 : k ≤ 13) : (yso k = 0 ↔ k = 1) ∧ (yso k = 1 ↔ k = 2) ∧ (yso k = 2 ↔ 3 ≤ k ∧ k ≤ 11) ∧ (yso k = 3 ↔ k = 0 ∨ k = 12 ∨ k = 13) := by
  unfold yso
  by_cases h : k = 1
  · subst h; decide
  · by_cases h2 : k = 2
    · subst h2; decide
    · rw [if_neg h, if_neg h2]
      split <;> omega
/-- where a cluster that begins at b is over -/
theorem yov_sp {K : Int → Int} {n b : Int} (hK : yKr K n) (h0 : 0 ≤ b) (h1 : b < n) (hb : ybg K b) : (yrun K b (yov K b) ∧ ybg K (yov K b)) ∧ (b ≤ ytl K b ∧ ytl K b ≤ yov K b ∧ yov K b ≤ n) ∧ yTail K b := by
  have hkr := hK.2.1 b h0 h1
  have hs := yso_k hkr.1 hkr.2
  have hn := hK.1
  by_cases c1 : K b = 1
  · have e0 : yso (K b) = 0 := hs.1.mpr c1
    have e1 : yov K b = yed K (ytl K b) := if_pos (Or.inl e0)
    have e2 : ytl K b = yq K (ypl K b (ym K b - 1)) := if_pos c1
    have rm := ym_r hK h0 h1 c1
    obtain ⟨p1, p2⟩ := ypl_r hK h0 h1 c1 (show 0 ≤ ym K b - 1 by omega) (by omega)
    obtain ⟨q1, q2⟩ := yrun_pl hK h0 h1 hb c1 (ym K b - 1).toNat (by omega)
    rw [show (((ym K b - 1).toNat : Nat) : Int) = ym K b - 1 by omega] at q1 q2
    obtain ⟨r1, r2⟩ := yrun_q hK h0 q1 q2
    have r3 := yq_n hK p1.2.2
    have r4 := yq_r K (ypl K b (ym K b - 1))
    obtain ⟨d1, d2⟩ := yed_le hK (t := ytl K b) (by omega) (by omega)
    rw [e1]
    refine ⟨?_, ⟨by omega, d1⟩, ?_⟩
    · rw [e2]
      refine yrun_ed hK h0 r3 (Or.inr ⟨r1, by rcases r2 with ⟨z, -⟩ | z <;> omega⟩) (fun z1 z2 z3 => ync_x (p2.mpr rfl) (by omega) z1) (fun z1 z2 => ?_)
      rcases r2 with ⟨-, z⟩ | z
      · exact z
      · omega
    · intro s s1 s2
      rw [e1] at s2
      have hd : K (ytl K b) = 3 → ydd K b = 1 := fun z => if_pos ⟨Or.inl e0, z⟩
      rcases d2 s s1 s2 with ⟨z1, z2⟩ | ⟨z1, z2, z3⟩ | z
      · exact Or.inl ⟨z1, hd z2, by rw [z1]; exact z2⟩
      · exact Or.inr (Or.inl ⟨z1, hd z2, z3⟩)
      · exact Or.inr (Or.inr z)
  · by_cases c2 : K b = 2
    · have e0 : yso (K b) = 1 := hs.2.1.mpr c2
      have e1 : yov K b = ymk K 61 (ytl K b) := by unfold yov; rw [if_neg (by omega), if_pos c2]
      have e2 : ytl K b = if K (b + 1) = 4 then b + 2 else b + 1 := by unfold ytl; rw [if_neg c1, if_pos c2]
      have key : yrun K b (ytl K b) ∧ ytl K b ≤ n ∧ (ysi K (ytl K b) = 6 ∨ (ysi K (ytl K b) = 7 ∧ K (ytl K b) ≠ 4)) := by
        have a1 : ysi K (b + 1) = 7 := by rw [ysi_b K h0 hb, c2]; decide
        rw [e2]
        split
        · rename_i h4
          have g : ygo (ysi K (b + 1)) (K (b + 1)) = 6 := by rw [a1, h4]; decide
          obtain ⟨b1, b2⟩ := (yrun_b (K := K) (b := b)).s h0 (by rw [g]; decide)
          rw [show b + 1 + 1 = b + 2 by omega] at b1 b2
          have := (ykp hK (p := b + 1) (by rw [h4]; decide)).2
          exact ⟨b1, by omega, Or.inl (by rw [b2, g])⟩
        · rename_i h4
          exact ⟨yrun_b, by omega, Or.inr ⟨a1, h4⟩⟩
      obtain ⟨k1, k2, k3⟩ := key
      have kb := k1.1
      obtain ⟨d1, d2, d3⟩ := ymk_sp hK 61 (ytl K b) (by omega) k2 (by omega)
      rw [e1]
      refine ⟨yrun_me hK h0 k1 k2 (by omega) (fun k y1 y2 => ?_), ⟨by omega, d1⟩, fun s s1 s2 => ?_⟩
      · rcases k3 with z | ⟨z, z2⟩
        · rw [z]; exact ygo_6 y1
        · rw [z]
          exact ygo_7 y1 (by rw [y2]; exact z2)
      · rw [e1] at s2
        have := d3 s s1 s2
        exact Or.inr (Or.inr (by omega))
    · by_cases c3 : 3 ≤ K b ∧ K b ≤ 11
      · have e0 : yso (K b) = 2 := hs.2.2.1.mpr c3
        have e1 : yov K b = yed K (ytl K b) := if_pos (Or.inr e0)
        have e2 : ytl K b = if K b = 4 then b + 1 else b := by unfold ytl; rw [if_neg c1, if_neg c2, if_pos e0]
        have tb : b ≤ ytl K b ∧ ytl K b ≤ b + 1 := by rw [e2]; split <;> omega
        obtain ⟨d1, d2⟩ := yed_le hK (t := ytl K b) (by omega) (by omega)
        rw [e1]
        refine ⟨?_, ⟨by omega, d1⟩, ?_⟩
        · by_cases c4 : K b = 4
          · rw [if_pos c4] at e2
            have a1 : ysi K (b + 1) = 8 := by rw [ysi_b K h0 hb, c4]; decide
            rw [e2]
            exact yrun_ed hK h0 (by omega) (Or.inr ⟨yrun_b, by omega⟩) (fun _ _ z => absurd a1 z) (fun z => by omega)
          · rw [if_neg c4] at e2
            rw [e2]
            exact yrun_ed hK h0 (by omega) (Or.inl ⟨rfl, hb, by omega⟩) (fun _ z => by omega) (fun _ z => by omega)
        · intro s s1 s2
          rw [e1] at s2
          have hd : K (ytl K b) = 3 → ydd K b = 1 := fun z => if_pos ⟨Or.inr e0, z⟩
          rcases d2 s s1 s2 with ⟨z1, z2⟩ | ⟨z1, z2, z3⟩ | z
          · exact Or.inl ⟨z1, hd z2, by rw [z1]; exact z2⟩
          · exact Or.inr (Or.inl ⟨z1, hd z2, z3⟩)
          · exact Or.inr (Or.inr z)
      · have e0 : yso (K b) = 3 := hs.2.2.2.mpr (by omega)
        have e1 : yov K b = b + 1 := by unfold yov; rw [if_neg (by omega), if_neg c2]
        have e2 : ytl K b = b + 1 := by unfold ytl; rw [if_neg c1, if_neg c2, if_neg (by omega)]
        rw [e1, e2]
        refine ⟨⟨yrun_b, ?_⟩, ⟨by omega, by omega, by omega⟩, fun s s1 s2 => ?_⟩
        · unfold ybg
          have : yfs (K b) = 0 := by
            exact yfs_0 (by omega)
          rw [ysi_b K h0 hb, this]
          exact ygo_0 _
        · rw [e1] at s2; rw [e2] at s1; omega
theorem yB_ov {K : Int → Int} {n c : Int} (hK : yKr K n) (h0 : 0 ≤ c) (h1 : c < yci K n) : yB K (c + 1) = yov K (yB K c) := by
  obtain ⟨⟨a1, a2, a3⟩, a4, a5, a6⟩ := yB_cl hK h0 h1
  obtain ⟨⟨b1, b2⟩, -⟩ := yov_sp hK a1 (by omega) a4
  by_cases q : yB K (c + 1) < yov K (yB K c)
  · exact absurd a5 (b1.2 _ a2 q)
  · by_cases q2 : yov K (yB K c) < yB K (c + 1)
    · exact absurd b2 (a6 _ b1.1 q2)
    · omega
/-- ahead of the tail of a consonant's cluster -/
theorem yhead {K : Int → Int} {n b : Int} (hK : yKr K n) (h0 : 0 ≤ b) (h1 : b < n) (h : K b = 1) : ∀ (k : Nat), (k : Int) < ym K b → ∀ s, b ≤ s → s < yq K (ypl K b k) → ∃ j : Int, (0 ≤ j ∧ j ≤ k) ∧ (s = ypl K b j ∨ (s = ypl K b j + 1 ∧ K s = 4) ∨ (j < k ∧ s = yq K (ypl K b j) ∧ K s = 3) ∨ (j < k ∧ s = yq K (ypl K b j) + 1 ∧ s = yjo K (ypl K b j) ∧ (K s = 12 ∨ K s = 13))) := by
  intro k
  induction k with
  | zero =>
    intro hk s s1 s2
    have s2' : s < yq K b := s2
    unfold yq at s2'
    refine ⟨0, ⟨by omega, by omega⟩, ?_⟩
    rw [ypl_0]
    split at s2'
    · rename_i h4
      by_cases e : s = b
      · exact Or.inl e
      · have e : s = b + 1 := by omega
        subst e
        exact Or.inr (Or.inl ⟨rfl, h4⟩)
    · exact Or.inl (by omega)
  | succ k ih =>
    intro hk s s1 s2
    rw [show ((k + 1 : Nat) : Int) = (k : Int) + 1 by omega] at s2
    obtain ⟨c1, c2, c3⟩ := ypl_n hK h0 h1 h (k := (k : Int)) (by omega) (by omega)
    obtain ⟨r1, r2, r3, r4⟩ := ync_r c2
    rw [c1] at r1 r2 r4
    by_cases e : s < yq K (ypl K b k)
    · obtain ⟨j, j1, j2⟩ := ih (by omega) s s1 e
      refine ⟨j, ⟨by omega, by omega⟩, ?_⟩
      rcases j2 with z | z | ⟨z1, z2⟩ | ⟨z1, z2⟩
      · exact Or.inl z
      · exact Or.inr (Or.inl z)
      · exact Or.inr (Or.inr (Or.inl ⟨by omega, z2⟩))
      · exact Or.inr (Or.inr (Or.inr ⟨by omega, z2⟩))
    · by_cases e2 : s < ypl K b (k + 1)
      · refine ⟨k, ⟨by omega, by omega⟩, Or.inr (Or.inr ?_)⟩
        by_cases e3 : s = yq K (ypl K b k)
        · exact Or.inl ⟨by omega, e3, by rw [e3]; exact r3⟩
        · have e4 : s = yq K (ypl K b k) + 1 := by omega
          have hj := r4.mp (by omega)
          refine Or.inr ⟨by omega, e4, ?_, by rw [e4]; exact hj⟩
          unfold yjo
          rw [if_neg c2, if_pos hj]
          exact e4
      · refine ⟨(k : Int) + 1, ⟨by omega, by omega⟩, ?_⟩
        unfold yq at s2
        split at s2
        · rename_i h4
          by_cases e5 : s = ypl K b (k + 1)
          · exact Or.inl e5
          · have e6 : s = ypl K b (k + 1) + 1 := by omega
            exact Or.inr (Or.inl ⟨e6, by rw [e6]; exact h4⟩)
        · exact Or.inl (by omega)
