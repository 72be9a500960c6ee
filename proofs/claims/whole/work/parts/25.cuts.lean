/-! Where clusters begin: the automaton over a row of kinds K, -1 from n on -/
def yst (K : Int → Int) : Nat → Int
  | 0 => 0
  | p + 1 => ysb (yst K p) (K (p : Int))
def ynx (K : Int → Int) : Nat → Int → Int
  | 0, q => q
  | f + 1, q => if ygo (yst K q.toNat) (K q) = -1 then q else ynx K f (q + 1)
def yB0 (K : Int → Int) : Nat → Int
  | 0 => 0
  | c + 1 => ynx K 61 (yB0 K c + 1)
def ycn0 (K : Int → Int) : Nat → Int
  | 0 => 0
  | p + 1 => ycn0 K p + (if ygo (yst K p) (K (p : Int)) = -1 then 1 else 0)
/-- the automaton's state at a place, whether a cluster begins there, the c-th beginning, how many begin ahead of a place -/
def ysi (K : Int → Int) (p : Int) : Int := yst K p.toNat
def ybg (K : Int → Int) (p : Int) : Prop := ygo (ysi K p) (K p) = -1
def yB (K : Int → Int) (c : Int) : Int := yB0 K c.toNat
def yci (K : Int → Int) (p : Int) : Int := ycn0 K p.toNat
/-- a row of kinds -/
def yKr (K : Int → Int) (n : Int) : Prop := (0 ≤ n ∧ n ≤ 60) ∧ (∀ p, 0 ≤ p → p < n → 0 ≤ K p ∧ K p ≤ 13) ∧ ∀ p, ¬ (0 ≤ p ∧ p < n) → K p = -1
theorem ysi_0 (K : Int → Int) : ysi K 0 = 0 := rfl
theorem yci_0 (K : Int → Int) : yci K 0 = 0 := rfl
theorem yB_0 (K : Int → Int) : yB K 0 = 0 := rfl
theorem ysi_s (K : Int → Int) {p : Int} (h : 0 ≤ p) : ysi K (p + 1) = ysb (ysi K p) (K p) := by
  unfold ysi
  rw [show (p + 1).toNat = p.toNat + 1 by omega]
  show ysb (yst K p.toNat) (K (p.toNat : Int)) = _
  rw [show (p.toNat : Int) = p by omega]
theorem yci_s (K : Int → Int) {p : Int} (h : 0 ≤ p) : yci K (p + 1) = yci K p + (if ygo (ysi K p) (K p) = -1 then 1 else 0) := by
  unfold yci ysi
  rw [show (p + 1).toNat = p.toNat + 1 by omega]
  show ycn0 K p.toNat + (if ygo (yst K p.toNat) (K (p.toNat : Int)) = -1 then 1 else 0) = _
  rw [show (p.toNat : Int) = p by omega]
theorem yB_s (K : Int → Int) {c : Int} (h : 0 ≤ c) : yB K (c + 1) = ynx K 61 (yB K c + 1) := by
  unfold yB
  rw [show (c + 1).toNat = c.toNat + 1 by omega]
  rfl
theorem yci_b (K : Int → Int) {p : Int} (h : 0 ≤ p) (hb : ybg K p) : yci K (p + 1) = yci K p + 1 := by rw [yci_s K h, if_pos (show ygo (ysi K p) (K p) = -1 from hb)]
theorem yci_n (K : Int → Int) {p : Int} (h : 0 ≤ p) (hb : ¬ ybg K p) : yci K (p + 1) = yci K p := by rw [yci_s K h, if_neg (show ¬ (ygo (ysi K p) (K p) = -1) from hb)]; omega
theorem ygo_out {s k : Int} (h : k < 0) : ygo s k = -1 := by grind [ygo]
theorem ygo_0 (k : Int) : ygo 0 k = -1 := by grind [ygo]
theorem ybg_0 (K : Int → Int) : ybg K 0 := by unfold ybg; rw [ysi_0]; exact ygo_0 _
theorem ybg_n {K : Int → Int} {n p : Int} (hK : yKr K n) (h : n ≤ p) : ybg K p := by
  unfold ybg
  rw [hK.2.2 p (by omega)]
  exact ygo_out (by decide)
theorem ynx_sp {K : Int → Int} {n : Int} (hK : yKr K n) : ∀ (f : Nat) (q : Int), 0 ≤ q → q ≤ n + 1 → (n - q).toNat < f → (q ≤ ynx K f q ∧ (q ≤ n → ynx K f q ≤ n)) ∧ ybg K (ynx K f q) ∧ ∀ s, q ≤ s → s < ynx K f q → ¬ ybg K s := by
  intro f
  induction f with
  | zero => intro q h0 h1 hf; exact absurd hf (Nat.not_lt_zero _)
  | succ f ih =>
    intro q h0 h1 hf
    unfold ynx
    by_cases hb : ygo (yst K q.toNat) (K q) = -1
    · rw [if_pos hb]
      exact ⟨⟨Int.le_refl _, fun h => h⟩, hb, fun s a b => by omega⟩
    · rw [if_neg hb]
      have hq : q < n := by
        refine Int.not_le.mp (fun h => hb (ybg_n hK h))
      obtain ⟨⟨a1, a2⟩, a3, a4⟩ := ih (q + 1) (by omega) (by omega) (by omega)
      refine ⟨⟨by omega, fun _ => a2 (by omega)⟩, a3, fun s b1 b2 => ?_⟩
      by_cases hs : s = q
      · subst hs; exact hb
      · exact a4 s (by omega) b2
theorem yci_nn (K : Int → Int) (p : Int) : 0 ≤ yci K p := by
  by_cases h : 0 ≤ p
  · have : ∀ k : Nat, 0 ≤ ycn0 K k := by
      intro k
      induction k with
      | zero => exact Int.le_refl _
      | succ k ih => unfold ycn0; split <;> omega
    exact this _
  · unfold yci; rw [show p.toNat = 0 by omega]; exact Int.le_refl _
/-- the first beginning at or behind p is the (how many are ahead of p)-th -/
theorem yB_at {K : Int → Int} {n : Int} (hK : yKr K n) : ∀ (k : Nat), (k : Int) ≤ n → ((k : Int) ≤ yB K (yci K k) ∧ yB K (yci K k) ≤ n) ∧ ybg K (yB K (yci K k)) ∧ ∀ s, (k : Int) ≤ s → s < yB K (yci K k) → ¬ ybg K s := by
  intro k
  induction k with
  | zero =>
    intro _
    rw [show ((0 : Nat) : Int) = 0 from rfl, yci_0, yB_0]
    exact ⟨⟨Int.le_refl _, hK.1.1⟩, ybg_0 K, fun s a b => by omega⟩
  | succ k ih =>
    intro hk
    obtain ⟨⟨a1, a2⟩, a3, a4⟩ := ih (by omega)
    rw [show ((k + 1 : Nat) : Int) = (k : Int) + 1 by omega]
    by_cases hb : ybg K k
    · have e : yB K (yci K k) = k := by
        by_cases h : (k : Int) = yB K (yci K k)
        · exact h.symm
        · exact absurd hb (a4 k (Int.le_refl _) (by omega))
      rw [yci_b K (by omega) hb, yB_s K (yci_nn K _), e]
      obtain ⟨⟨b1, b2⟩, b3, b4⟩ := ynx_sp hK 61 ((k : Int) + 1) (by omega) (by omega) (by have := hK.1; omega)
      exact ⟨⟨b1, b2 (by omega)⟩, b3, b4⟩
    · rw [yci_n K (by omega) hb]
      have hne : (k : Int) ≠ yB K (yci K k) := fun z => hb (by rw [z]; exact a3)
      exact ⟨⟨by omega, a2⟩, a3, fun s b1 b2 => a4 s (by omega) b2⟩
theorem yB_i {K : Int → Int} {n p : Int} (hK : yKr K n) (h0 : 0 ≤ p) (h1 : p ≤ n) : (p ≤ yB K (yci K p) ∧ yB K (yci K p) ≤ n) ∧ ybg K (yB K (yci K p)) ∧ ∀ s, p ≤ s → s < yB K (yci K p) → ¬ ybg K s := by
  have := yB_at hK p.toNat (by omega)
  rw [show (p.toNat : Int) = p by omega] at this
  exact this
theorem yB_eq {K : Int → Int} {n p : Int} (hK : yKr K n) (h0 : 0 ≤ p) (h1 : p ≤ n) (hb : ybg K p) : yB K (yci K p) = p := by
  obtain ⟨⟨a1, -⟩, -, a3⟩ := yB_i hK h0 h1
  by_cases h : p = yB K (yci K p)
  · exact h.symm
  · exact absurd hb (a3 p (Int.le_refl _) (by omega))
theorem yB_n {K : Int → Int} {n : Int} (hK : yKr K n) : yB K (yci K n) = n := yB_eq hK hK.1.1 (Int.le_refl _) (ybg_n hK (Int.le_refl _))
theorem yB_lt {K : Int → Int} {n : Int} (hK : yKr K n) : ∀ (k : Nat), (k : Int) ≤ n → ∀ c, 0 ≤ c → c < yci K k → yB K c < k := by
  intro k
  induction k with
  | zero => intro _ c h0 h1; rw [show ((0 : Nat) : Int) = 0 from rfl, yci_0] at h1; omega
  | succ k ih =>
    intro hk c h0 h1
    rw [show ((k + 1 : Nat) : Int) = (k : Int) + 1 by omega] at h1 ⊢
    by_cases hb : ybg K k
    · rw [yci_b K (by omega) hb] at h1
      by_cases hc : c = yci K k
      · rw [hc, yB_eq hK (by omega) (by omega) hb]; omega
      · have := ih (by omega) c h0 (by omega); omega
    · rw [yci_n K (by omega) hb] at h1
      have := ih (by omega) c h0 h1; omega
theorem yB_l {K : Int → Int} {n p c : Int} (hK : yKr K n) (hp : 0 ≤ p) (h1 : p ≤ n) (hc : 0 ≤ c) (h : c < yci K p) : yB K c < p := by
  have := yB_lt hK p.toNat (by omega) c hc
  rw [show (p.toNat : Int) = p by omega] at this
  exact this h
/-- the c-th cluster: from b to e -/
theorem yB_cl {K : Int → Int} {n c : Int} (hK : yKr K n) (hc : 0 ≤ c) (h : c < yci K n) : (0 ≤ yB K c ∧ yB K c < yB K (c + 1) ∧ yB K (c + 1) ≤ n) ∧ ybg K (yB K c) ∧ ybg K (yB K (c + 1)) ∧ ∀ s, yB K c < s → s < yB K (c + 1) → ¬ ybg K s := by
  have h1 : ∀ k : Nat, (k : Int) < yci K n → (0 ≤ yB K k ∧ ybg K (yB K k)) ∧ yB K k < n := by
    intro k
    induction k with
    | zero =>
      intro h
      exact ⟨⟨Int.le_refl _, ybg_0 K⟩, yB_l hK hK.1.1 (Int.le_refl _) (Int.le_refl _) h⟩
    | succ k ih =>
      intro h
      obtain ⟨⟨a1, a2⟩, a3⟩ := ih (by omega)
      obtain ⟨⟨b1, b2⟩, b3, b4⟩ := ynx_sp hK 61 (yB K k + 1) (by omega) (by omega) (by have := hK.1; omega)
      have e : yB K ((k + 1 : Nat) : Int) = ynx K 61 (yB K k + 1) := by rw [show ((k + 1 : Nat) : Int) = (k : Int) + 1 by omega]; exact yB_s K (by omega)
      rw [e]
      exact ⟨⟨by omega, b3⟩, by rw [← e]; exact yB_l hK hK.1.1 (Int.le_refl _) (by omega) h⟩
  obtain ⟨⟨a1, a2⟩, a3⟩ := h1 c.toNat (by omega)
  rw [show (c.toNat : Int) = c by omega] at a1 a2 a3
  obtain ⟨⟨b1, b2⟩, b3, b4⟩ := ynx_sp hK 61 (yB K c + 1) (by omega) (by omega) (by have := hK.1; omega)
  rw [yB_s K hc]
  exact ⟨⟨a1, by omega, b2 (by omega)⟩, a2, b3, fun s c1 c2 => b4 s (by omega) c2⟩
/-- the state behind a cluster's first letter, and on -/
theorem ysi_b (K : Int → Int) {p : Int} (h : 0 ≤ p) (hb : ybg K p) : ysi K (p + 1) = yfs (K p) := by
  rw [ysi_s K h]; unfold ysb; exact if_pos hb
theorem ysi_n (K : Int → Int) {p : Int} (h : 0 ≤ p) (hb : ¬ ybg K p) : ysi K (p + 1) = ygo (ysi K p) (K p) := by
  rw [ysi_s K h]; unfold ysb; exact if_neg hb
theorem yci_mo (K : Int → Int) {p q : Int} (h0 : 0 ≤ p) (h : p ≤ q) : yci K p ≤ yci K q ∧ yci K q ≤ yci K p + (q - p) := by
  have : ∀ k : Nat, yci K p ≤ yci K (p + k) ∧ yci K (p + k) ≤ yci K p + k := by
    intro k
    induction k with
    | zero => simp
    | succ k ih =>
      rw [show p + ((k + 1 : Nat) : Int) = (p + k) + 1 by omega, yci_s K (by omega)]
      split <;> omega
  have := this (q - p).toNat
  rw [show p + ((q - p).toNat : Int) = q by omega] at this
  omega
theorem yci_in (K : Int → Int) {b q : Int} (h0 : 0 ≤ b) (hb : ybg K b) (hs : ∀ s, b < s → s < q → ¬ ybg K s) (h : b < q) : yci K q = yci K b + 1 := by
  have : ∀ k : Nat, b + 1 + k ≤ q → yci K (b + 1 + k) = yci K b + 1 := by
    intro k
    induction k with
    | zero => intro _; rw [show b + 1 + ((0 : Nat) : Int) = b + 1 by omega]; exact yci_b K h0 hb
    | succ k ih =>
      intro hk
      rw [show b + 1 + ((k + 1 : Nat) : Int) = (b + 1 + k) + 1 by omega, yci_n K (by omega) (hs _ (by omega) (by omega))]
      exact ih (by omega)
  have := this (q - b - 1).toNat (by omega)
  rw [show b + 1 + ((q - b - 1).toNat : Int) = q by omega] at this
  exact this
theorem yKr_K {σ : yS} (h : yVal σ) : yKr (yK σ) (σ 0) := by
  obtain ⟨h0, h1, h2, h3, h4, h5⟩ := h
  refine ⟨h0, fun p a b => ?_, fun p a => ?_⟩
  · unfold yK
    rw [if_pos ⟨a, b⟩]
    have := h5 p a b
    exact (h2 _ this.1 this.2).1
  · unfold yK
    rw [if_neg a]
theorem ykd_L {σ : yS} (h : yVal σ) {p : Int} (h0 : 0 ≤ p) (h1 : p < σ 0) : ykd σ (yL σ p) = yK σ p := by
  have := h.2.2.2.2.2 p h0 h1
  have e : yL σ p = σ (122 + p) := if_pos ⟨h0, h1⟩
  unfold ykd
  rw [e, if_pos this]
  exact (if_pos ⟨h0, h1⟩).symm

theorem yci_B {K : Int → Int} {n : Int} (hK : yKr K n) : ∀ (k : Nat), (k : Int) ≤ yci K n → yci K (yB K k) = k := by
  intro k
  induction k with
  | zero => intro _; rfl
  | succ k ih =>
    intro h
    obtain ⟨⟨a1, a2, a3⟩, a4, a5, a6⟩ := yB_cl hK (c := (k : Int)) (by omega) (by omega)
    rw [show ((k + 1 : Nat) : Int) = (k : Int) + 1 by omega, yci_in K a1 a4 a6 a2, ih (by omega)]
theorem yci_Bi {K : Int → Int} {n i : Int} (hK : yKr K n) (h0 : 0 ≤ i) (h1 : i ≤ yci K n) : yci K (yB K i) = i := by
  have := yci_B hK i.toNat (by omega)
  rw [show (i.toNat : Int) = i by omega] at this
  exact this
theorem yB_r {K : Int → Int} {n i : Int} (hK : yKr K n) (h0 : 0 ≤ i) (h1 : i ≤ yci K n) : (0 ≤ yB K i ∧ yB K i ≤ n) ∧ ybg K (yB K i) := by
  by_cases h : i = yci K n
  · rw [h, yB_n hK]
    exact ⟨⟨hK.1.1, Int.le_refl _⟩, ybg_n hK (Int.le_refl _)⟩
  · obtain ⟨⟨a1, a2, a3⟩, a4, -⟩ := yB_cl hK h0 (show i < yci K n by omega)
    exact ⟨⟨a1, by omega⟩, a4⟩
/-- a stop's number; none -/
def ysa (K : Int → Int) (n p : Int) : Int := if (0 ≤ p ∧ p ≤ n) ∧ ygo (ysi K p) (K p) = -1 then yci K p else -1
theorem yB_iff {K : Int → Int} {n i p : Int} (hK : yKr K n) (h0 : 0 ≤ i) (h1 : i ≤ yci K n) (h : yB K i = p) : ysa K n p = i := by
  obtain ⟨a1, a2⟩ := yB_r hK h0 h1
  subst h
  unfold ysa
  rw [if_pos ⟨a1, a2⟩]
  exact yci_Bi hK h0 h1
theorem ysa_B {K : Int → Int} {n p : Int} (hK : yKr K n) (h : ysa K n p ≠ -1) : (0 ≤ ysa K n p ∧ ysa K n p ≤ yci K n) ∧ yB K (ysa K n p) = p := by
  unfold ysa at h ⊢
  split
  · rename_i q
    obtain ⟨⟨q1, q2⟩, q3⟩ := q
    exact ⟨⟨yci_nn K p, (yci_mo K q1 q2).1⟩, yB_eq hK q1 q2 q3⟩
  · rename_i q
    rw [if_neg q] at h
    exact absurd rfl h
theorem yB_mo {K : Int → Int} {n i j : Int} (hK : yKr K n) (h0 : 0 ≤ i) (h : i < j) (h1 : j ≤ yci K n) : yB K i < yB K j := by
  have a := yci_Bi hK h0 (show i ≤ yci K n by omega)
  have b := yci_Bi hK (show 0 ≤ j by omega) h1
  by_cases q : yB K j ≤ yB K i
  · have := (yci_mo K (yB_r hK (show 0 ≤ j by omega) h1).1.1 q).1
    omega
  · omega
/-- the next stop above a place, the next one below it -/
def ysu (K : Int → Int) (n p : Int) : Int := if p < n then yB K (yci K (p + 1)) else -1
def ysd (K : Int → Int) (p : Int) : Int := if 0 < p then yB K (yci K p - 1) else -1
theorem yB_gt {K : Int → Int} {n p i : Int} (hK : yKr K n) (hp : 0 ≤ p ∧ p ≤ n) (h0 : 0 ≤ i) (h1 : i ≤ yci K n) : p < yB K i ↔ yci K (p + 1) ≤ i ∧ p < n := by
  have a := yci_Bi hK h0 h1
  have r := yB_r hK h0 h1
  constructor
  · intro h
    have := (yci_mo K (show 0 ≤ p + 1 by omega) (show p + 1 ≤ yB K i by omega)).1
    exact ⟨by omega, by omega⟩
  · intro h
    by_cases q : yB K i ≤ p
    · have h2 := yci_b K r.1.1 r.2
      skip
      have := (yci_mo K (show 0 ≤ yB K i + 1 by omega) (show yB K i + 1 ≤ p + 1 by omega)).1
      omega
    · omega
/-- broken ones counted, with a kind put in at a place -/
def ybs (K : Int → Int) (a k : Int) : Nat → Int × Int
  | 0 => (0, 0)
  | p + 1 => if (p : Int) = a then (ysb (ysb (ybs K a k p).1 k) (K (p : Int)), (ybs K a k p).2 + ybr (ybs K a k p).1 k + ybr (ysb (ybs K a k p).1 k) (K (p : Int))) else (ysb (ybs K a k p).1 (K (p : Int)), (ybs K a k p).2 + ybr (ybs K a k p).1 (K (p : Int)))
def ybw (K : Int → Int) (n a k : Int) : Int := if n = a then (ybs K a k n.toNat).2 + ybr (ybs K a k n.toNat).1 k else (ybs K a k n.toNat).2
theorem ybs_s (K : Int → Int) (a k : Int) {p : Int} (h : 0 ≤ p) : ybs K a k (p + 1).toNat = if p = a then (ysb (ysb (ybs K a k p.toNat).1 k) (K p), (ybs K a k p.toNat).2 + ybr (ybs K a k p.toNat).1 k + ybr (ysb (ybs K a k p.toNat).1 k) (K p)) else (ysb (ybs K a k p.toNat).1 (K p), (ybs K a k p.toNat).2 + ybr (ybs K a k p.toNat).1 (K p)) := by
  rw [show (p + 1).toNat = p.toNat + 1 by omega]
  show (if (p.toNat : Int) = a then _ else _) = _
  rw [show (p.toNat : Int) = p by omega]
theorem ybr_rng (s k : Int) : 0 ≤ ybr s k ∧ ybr s k ≤ 1 := by unfold ybr; split <;> omega
theorem ybs_rng (K : Int → Int) (a k : Int) : ∀ p : Nat, 0 ≤ (ybs K a k p).2 ∧ (ybs K a k p).2 ≤ 2 * p := by
  intro p
  induction p with
  | zero => exact ⟨Int.le_refl _, Int.le_refl _⟩
  | succ p ih =>
    have h1 := ybr_rng (ybs K a k p).1 k
    have h2 := ybr_rng (ysb (ybs K a k p).1 k) (K p)
    have h3 := ybr_rng (ybs K a k p).1 (K p)
    unfold ybs
    split <;> dsimp only <;> omega
/-- the i-th of those that have a value -/
def ynth (f : Int → Int) (v i : Int) : Nat → Int → Int → Int
  | 0, _, _ => -1
  | k + 1, c, m => if f c = v then (if m = i then c else ynth f v i k (c + 1) (m + 1)) else ynth f v i k (c + 1) m
