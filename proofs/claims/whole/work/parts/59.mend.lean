/-! Mending: the spec -/
theorem za_few {p : Int} (h : 0 ≤ p ∧ p ≤ 60) : zar zS0 (147 + p) = some (1, 10) := by
  have : ∀ k : Nat, k ≤ 60 → zar zS0 (147 + (k : Int)) = some (1, 10) := by decide +kernel
  have h2 := this p.toNat (by omega)
  rw [show ((p.toNat : Nat) : Int) = p by omega] at h2
  exact h2
theorem ysb_r {s k : Int} (hs : 0 ≤ s ∧ s < 10) (hk : 0 ≤ k ∧ k ≤ 13) : 0 ≤ ysb s k ∧ ysb s k < 10 := by
  have : ∀ s : Nat, s < 10 → ∀ k : Nat, k < 14 → 0 ≤ ysb s k ∧ ysb s k < 10 := by decide +kernel
  have h := this s.toNat (by omega) k.toNat (by omega)
  rw [show ((s.toNat : Nat) : Int) = s by omega, show ((k.toNat : Nat) : Int) = k by omega] at h
  exact h
def ymg (w k : Int) : Int := if k = 1 then 1 else if k = 2 then 7 else if k = 0 then 0 else if k = 12 ∨ k = 13 then (if w = 3 then 4 else if w = 10 then 11 else 0) else if k = 4 then (if w = 1 then 2 else if w ≠ 7 then 9 else 8) else if k = 3 then (if w = 1 ∨ w = 2 then 3 else 10) else if 5 ≤ k ∧ k ≤ 9 then 5 else 6
def ymb (w k : Int) : Int := if k = 1 ∨ k = 2 ∨ k = 0 ∨ k = 12 ∨ k = 13 then 0 else if k = 4 then (if w = 1 then 0 else if w ≠ 7 then 1 else 0) else if k = 3 then (if w = 1 ∨ w = 2 then 0 else if w ≠ 9 then 1 else 0) else if 5 ≤ k ∧ k ≤ 9 then (if w ≠ 1 ∧ w ≠ 2 ∧ w ≠ 5 ∧ w ≠ 9 then 1 else 0) else if w = 0 then 1 else 0
def ywy (w : Int) : Int := if w = 8 ∨ w = 11 then 6 else if w = 9 then 8 else if w = 10 then 9 else w
theorem ywy_s {w k : Int} (hw : 0 ≤ w ∧ w ≤ 11) (hk : 0 ≤ k ∧ k ≤ 13) : ywy (ymg w k) = ysb (ywy w) k ∧ ymb w k = ybr (ywy w) k ∧ (0 ≤ ymg w k ∧ ymg w k ≤ 11) ∧ (w ≤ 8 → ymb w k = 0 → ymg w k ≤ 8) ∧ 0 ≤ ywy w ∧ ywy w < 10 := by
  have : ∀ w : Nat, w < 12 → ∀ k : Nat, k < 14 → ywy (ymg w k) = ysb (ywy w) k ∧ ymb w k = ybr (ywy w) k ∧ (0 ≤ ymg w k ∧ ymg w k ≤ 11) ∧ ((w : Int) ≤ 8 → ymb w k = 0 → ymg w k ≤ 8) ∧ 0 ≤ ywy w ∧ ywy w < 10 := by decide +kernel
  have h := this w.toNat (by omega) k.toNat (by omega)
  rw [show ((w.toNat : Nat) : Int) = w by omega, show ((k.toNat : Nat) : Int) = k by omega] at h
  exact h
def ymn0 (K : Int → Int) (n : Int) : Nat → Int → Int
  | 0, _ => 0
  | m + 1, s => if 1 + ymn0 K n m s ≤ (if ybr s (K (n - ((m : Int) + 1))) = 1 then 61 else ymn0 K n m (ysb s (K (n - ((m : Int) + 1))))) then 1 + ymn0 K n m s else (if ybr s (K (n - ((m : Int) + 1))) = 1 then 61 else ymn0 K n m (ysb s (K (n - ((m : Int) + 1)))))
def ymn (K : Int → Int) (n p s : Int) : Int := ymn0 K n (n - p).toNat s
def ymw (K : Int → Int) (n p s : Int) : Int := if ybr s (K p) = 1 then 61 else ymn K n (p + 1) (ysb s (K p))
theorem ymn_n (K : Int → Int) (n s : Int) : ymn K n n s = 0 := by unfold ymn; rw [show (n - n).toNat = 0 by omega]; rfl
theorem ymn_s {K : Int → Int} {n p s : Int} (h : p < n) : ymn K n p s = if 1 + ymn K n (p + 1) s ≤ ymw K n p s then 1 + ymn K n (p + 1) s else ymw K n p s := by
  unfold ymw ymn
  rw [show (n - p).toNat = (n - (p + 1)).toNat + 1 by omega]
  conv => lhs; unfold ymn0
  rw [show n - (((n - (p + 1)).toNat : Int) + 1) = p by omega]
theorem ymn0_r (K : Int → Int) (n : Int) : ∀ (m : Nat) (s : Int), 0 ≤ ymn0 K n m s ∧ ymn0 K n m s ≤ m := by
  intro m
  induction m with
  | zero => intro s; exact ⟨Int.le_refl _, Int.le_refl _⟩
  | succ m ih =>
    intro s
    have h1 := ih s
    have h2 := ih (ysb s (K (n - ((m : Int) + 1))))
    unfold ymn0
    (repeat' split) <;> omega
theorem ymn_r (K : Int → Int) {n p : Int} (h : p ≤ n) (s : Int) : 0 ≤ ymn K n p s ∧ ymn K n p s ≤ n - p := by
  have := ymn0_r K n (n - p).toNat s
  unfold ymn
  omega
def yc3 (K : Int → Int) (n p : Int) (g : yG3) : yG3 := if 1 + ymn K n (p + 1) g.2.2 = ymn K n p g.2.2 then (g.1 + 1, (fun k => if k = g.1 then p else g.2.1 k), g.2.2) else (g.1, g.2.1, ysb g.2.2 (K p))
def ymc (K : Int → Int) (n p : Int) : yG3 := yfo (yc3 K n) 0 p (0, (fun _ => 0), 0)
theorem ymc_0 (K : Int → Int) (n : Int) : ymc K n 0 = (0, (fun _ => 0), 0) := yfo_0 _ (Int.le_refl _) _
theorem ymc_y {K : Int → Int} {n p : Int} (h : 0 ≤ p) (g : 1 + ymn K n (p + 1) (ymc K n p).2.2 = ymn K n p (ymc K n p).2.2) : ymc K n (p + 1) = ((ymc K n p).1 + 1, (fun k => if k = (ymc K n p).1 then p else (ymc K n p).2.1 k), (ymc K n p).2.2) := (yfo_s _ h _).trans (if_pos g)
theorem ymc_z {K : Int → Int} {n p : Int} (h : 0 ≤ p) (g : ¬ 1 + ymn K n (p + 1) (ymc K n p).2.2 = ymn K n p (ymc K n p).2.2) : ymc K n (p + 1) = ((ymc K n p).1, (ymc K n p).2.1, ysb (ymc K n p).2.2 (K p)) := (yfo_s _ h _).trans (if_neg g)
theorem ymc_r {K : Int → Int} {n : Int} (hK : yKr K n) : ∀ p, 0 ≤ p → p ≤ n → ((0 ≤ (ymc K n p).1 ∧ (ymc K n p).1 ≤ p) ∧ 0 ≤ (ymc K n p).2.2 ∧ (ymc K n p).2.2 < 10) ∧ (∀ k, 0 ≤ k → k < (ymc K n p).1 → 0 ≤ (ymc K n p).2.1 k ∧ (ymc K n p).2.1 k < p) ∧ ∀ j k, 0 ≤ j → j < k → k < (ymc K n p).1 → (ymc K n p).2.1 j < (ymc K n p).2.1 k := by
  intro p p1
  refine yind (P := fun p => p ≤ n → ((0 ≤ (ymc K n p).1 ∧ (ymc K n p).1 ≤ p) ∧ 0 ≤ (ymc K n p).2.2 ∧ (ymc K n p).2.2 < 10) ∧ (∀ k, 0 ≤ k → k < (ymc K n p).1 → 0 ≤ (ymc K n p).2.1 k ∧ (ymc K n p).2.1 k < p) ∧ ∀ j k, 0 ≤ j → j < k → k < (ymc K n p).1 → (ymc K n p).2.1 j < (ymc K n p).2.1 k) (a := 0) ?_ ?_ p p1
  · intro _
    rw [ymc_0]
    exact ⟨⟨⟨Int.le_refl _, Int.le_refl _⟩, by decide, by decide⟩, fun k k1 k2 => absurd k2 (by show ¬ (k < 0); omega), fun j k j1 j2 k2 => absurd k2 (by show ¬ (k < 0); omega)⟩
  · intro p p1 ih hp
    obtain ⟨⟨a1, a2⟩, a3, a4⟩ := ih (by omega)
    have hkp := hK.2.1 p p1 (by omega)
    by_cases g : 1 + ymn K n (p + 1) (ymc K n p).2.2 = ymn K n p (ymc K n p).2.2
    · rw [ymc_y p1 g]
      refine ⟨⟨⟨?_, ?_⟩, a2⟩, fun k k1 k2 => ?_, fun j k j1 j2 k2 => ?_⟩
      · show 0 ≤ (ymc K n p).1 + 1; omega
      · show (ymc K n p).1 + 1 ≤ p + 1; omega
      · have k2 : k < (ymc K n p).1 + 1 := k2
        show 0 ≤ (if k = (ymc K n p).1 then p else (ymc K n p).2.1 k) ∧ (if k = (ymc K n p).1 then p else (ymc K n p).2.1 k) < p + 1
        split
        · omega
        · have := a3 k k1 (by omega); omega
      · have k2 : k < (ymc K n p).1 + 1 := k2
        show (if j = (ymc K n p).1 then p else (ymc K n p).2.1 j) < (if k = (ymc K n p).1 then p else (ymc K n p).2.1 k)
        rw [if_neg (by omega)]
        split
        · exact (a3 j j1 (by omega)).2
        · exact a4 j k j1 j2 (by omega)
    · rw [ymc_z p1 g]
      refine ⟨⟨⟨a1.1, by show (ymc K n p).1 ≤ p + 1; omega⟩, ysb_r a2 hkp⟩, fun k k1 k2 => ?_, a4⟩
      have := a3 k k1 k2
      exact ⟨this.1, by show (ymc K n p).2.1 k < p + 1; omega⟩
def ymE (σ : yS) : yG3 := ymc (yK σ) (σ 0) (σ 0)
theorem ymE_r {σ : yS} (hV : yVal σ) : ((0 ≤ (ymE σ).1 ∧ (ymE σ).1 ≤ σ 0) ∧ 0 ≤ (ymE σ).2.2 ∧ (ymE σ).2.2 < 10) ∧ (∀ k, 0 ≤ k → k < (ymE σ).1 → 0 ≤ (ymE σ).2.1 k ∧ (ymE σ).2.1 k < σ 0) ∧ ∀ j k, 0 ≤ j → j < k → k < (ymE σ).1 → (ymE σ).2.1 j < (ymE σ).2.1 k := ymc_r (yKr_K hV) (σ 0) hV.1.1 (Int.le_refl _)
def ya_mend (σ : yS) (i : Int) : Int := if i < -1 then -3 else if i = -1 then (ymE σ).1 else if i < (ymE σ).1 then (ymE σ).2.1 i else -1
/-! bits -/
theorem y2p {l : Int} (h : 0 ≤ l ∧ l ≤ 30) : 1 ≤ (2 : Int) ^ l.toNat ∧ (2 : Int) ^ l.toNat ≤ 1073741824 := by
  have h1 : (2 : Int) ^ l.toNat = ((2 ^ l.toNat : Nat) : Int) := by rw [Int.natCast_pow]; rfl
  rw [h1]
  have a := Nat.pow_le_pow_right (show 0 < 2 by decide) (show l.toNat ≤ 30 by omega)
  have b := Nat.pow_pos (n := l.toNat) (show 0 < 2 by decide)
  have e : 2 ^ 30 = 1073741824 := by decide
  omega
theorem zor_n {x y : Int} (hx : 0 ≤ x ∧ x < 2147483648) (hy : 0 ≤ y ∧ y < 2147483648) : 0 ≤ zor x y ∧ zor x y < 2147483648 := by
  have h : x.toNat ||| y.toNat < 2 ^ 31 := Nat.or_lt_two_pow (by omega) (by omega)
  unfold zor
  have e : 2 ^ 31 = 2147483648 := by decide
  omega
theorem yhb_t {x b : Int} (hx : 0 ≤ x ∧ x < 2147483648) (hb : 0 ≤ b ∧ b < 31) : yhb x b = if x.toNat.testBit b.toNat then 1 else 0 := by
  have e1 : yhb x b = (if b = 0 then x else (x % 4294967296) / 2 ^ b.toNat) % 2 := by
    unfold yhb zand zushr
    rw [if_pos (Or.inl rfl)]
    rfl
  have e2 : (if b = 0 then x else (x % 4294967296) / 2 ^ b.toNat) = ((x.toNat / 2 ^ b.toNat : Nat) : Int) := by
    by_cases q : b = 0
    · rw [if_pos q, q]
      show x = ((x.toNat / 2 ^ 0 : Nat) : Int)
      rw [Nat.pow_zero, Nat.div_one]; omega
    · rw [if_neg q, Int.natCast_ediv, Int.natCast_pow, show x % 4294967296 = x by omega, show ((x.toNat : Nat) : Int) = x by omega]
      rfl
  rw [e1, e2]
  have e3 : x.toNat.testBit b.toNat = decide (x.toNat / 2 ^ b.toNat % 2 = 1) := Nat.testBit_eq_decide_div_mod_eq
  rw [e3]
  by_cases q : x.toNat / 2 ^ b.toNat % 2 = 1
  · rw [if_pos (by simpa using q)]; omega
  · rw [if_neg (by simpa using q)]; omega
theorem yhb_or {x k b : Int} (hx : 0 ≤ x ∧ x < 2147483648) (hk : 0 ≤ k ∧ k ≤ 30) (hb : 0 ≤ b ∧ b ≤ 30) : yhb (zor x (1 * 2 ^ k.toNat)) b = if b = k then 1 else yhb x b := by
  have p := y2p hk
  have r := zor_n hx (y := 1 * 2 ^ k.toNat) (by omega)
  rw [yhb_t r (by omega), yhb_t hx (by omega)]
  have e : (zor x (1 * 2 ^ k.toNat)).toNat = x.toNat ||| 2 ^ k.toNat := by
    have h1 : (2 : Int) ^ k.toNat = ((2 ^ k.toNat : Nat) : Int) := by rw [Int.natCast_pow]; rfl
    unfold zor
    rw [Int.one_mul, h1]
    rfl
  rw [e, Nat.testBit_or, Nat.testBit_two_pow]
  by_cases q : b = k
  · rw [if_pos q, q]; simp
  · rw [if_neg q]
    have : ¬ (k.toNat = b.toNat) := by omega
    simp [this]
theorem yhb_00 {b : Int} (hb : 0 ≤ b ∧ b ≤ 30) : yhb 0 b = 0 := by
  rw [yhb_t (by decide) (by omega)]
  rw [show (0 : Int).toNat = 0 from rfl]
  simp
def ymyl (σ : yS) (a : Int) (l m : Int) : Int := zor m (if ybw (yK σ) (σ 0) a (σ (2 + l)) ≤ ybw (yK σ) (σ 0) (-1) 0 then 1 * 2 ^ l.toNat else 0)
def ymy (σ : yS) (a : Int) (l : Int) : Int := yfo (ymyl σ a) 0 l 0
def ya_may (σ : yS) (a : Int) : Int := if 0 ≤ a ∧ a ≤ σ 0 then ymy σ a 26 else -5
theorem ymy_s (σ : yS) (a : Int) {l : Int} (h : 0 ≤ l) : ymy σ a (l + 1) = zor (ymy σ a l) (if ybw (yK σ) (σ 0) a (σ (2 + l)) ≤ ybw (yK σ) (σ 0) (-1) 0 then 1 * 2 ^ l.toNat else 0) := yfo_s _ h _
theorem ymy_r (σ : yS) (a : Int) : ∀ l, 0 ≤ l → l ≤ 26 → 0 ≤ ymy σ a l ∧ ymy σ a l < 2147483648 := by
  intro l l1
  refine yind (P := fun l => l ≤ 26 → 0 ≤ ymy σ a l ∧ ymy σ a l < 2147483648) (a := 0) ?_ ?_ l l1
  · intro _
    rw [show ymy σ a 0 = 0 from yfo_0 _ (Int.le_refl _) _]; decide
  · intro p p1 ih hp
    have := y2p (l := p) (by omega)
    rw [ymy_s σ a p1]
    exact zor_n (ih (by omega)) (by split <;> omega)
/-! what is taken out -/
def ymT (σ : yS) : Nat → yS
  | 0 => σ
  | j + 1 => yGo (ymT σ j) ((ymE σ).2.1 ((ymE σ).1 - ((j : Int) + 1))) 1
theorem ymT_r {σ : yS} (hV : yVal σ) : ∀ j : Nat, (j : Int) ≤ (ymE σ).1 → yVal (ymT σ j) ∧ ymT σ j 0 = σ 0 - j ∧ ((j : Int) < (ymE σ).1 → 0 ≤ (ymE σ).2.1 ((ymE σ).1 - ((j : Int) + 1)) ∧ (ymE σ).2.1 ((ymE σ).1 - ((j : Int) + 1)) + 1 ≤ σ 0 - j) := by
  have hn := hV.1
  obtain ⟨⟨⟨a1, a2⟩, -⟩, a3, a4⟩ := ymE_r hV
  have hb : ∀ j : Nat, (j : Int) < (ymE σ).1 → 0 ≤ (ymE σ).2.1 ((ymE σ).1 - ((j : Int) + 1)) ∧ (ymE σ).2.1 ((ymE σ).1 - ((j : Int) + 1)) + 1 ≤ σ 0 - j := by
    intro j
    induction j with
    | zero => intro h; have := a3 ((ymE σ).1 - (((0 : Nat) : Int) + 1)) (by omega) (by omega); omega
    | succ j ih =>
      intro h
      have h1 := ih (by omega)
      have h2 := a3 ((ymE σ).1 - (((j + 1 : Nat) : Int) + 1)) (by omega) (by omega)
      have h3 := a4 ((ymE σ).1 - (((j + 1 : Nat) : Int) + 1)) ((ymE σ).1 - ((j : Int) + 1)) (by omega) (by omega) (by omega)
      omega
  intro j
  induction j with
  | zero => intro _; exact ⟨hV, by show σ 0 = σ 0 - 0; omega, hb 0⟩
  | succ j ih =>
    intro h
    obtain ⟨c1, c2, c3⟩ := ih (by omega)
    have c3 := c3 (by omega)
    refine ⟨yGo_V c1 (by omega), ?_, hb (j + 1)⟩
    have e0 : yGo (ymT σ j) ((ymE σ).2.1 ((ymE σ).1 - ((j : Int) + 1))) 1 0 = ymT σ j 0 - 1 := if_pos rfl
    show yGo (ymT σ j) ((ymE σ).2.1 ((ymE σ).1 - ((j : Int) + 1))) 1 0 = _
    rw [e0, c2]; omega
def yo_mended (σ : yS) (un : Int) (uh : Int → yS) (mk : Int → Int) (im : Int → yS) (tn : Int) (tp : Int → Int) (ff fp : Int) : Int × yWd := (σ 0 - (ymE σ).1, ymT σ (ymE σ).1.toNat, ypn un, yph un uh σ, mk, im, tn, tp, ff, fp)
section
set_option maxHeartbeats 4000000
theorem m_fewestWith {p s : Int} {M : zM} {Q : zV → zM → Prop} {σ : yS} (hV : yVal σ) (hp : 0 ≤ p ∧ p < σ 0) (hs : 0 ≤ s ∧ s < 10) (hR : ∀ t, 0 ≤ t → t < 10 → M (147 + (p + 1)) t = ymn (yK σ) (σ 0) (p + 1) t) (k : Q (0, ymw (yK σ) (σ 0) p s) M) : zWp kMe_fewestWith 0 [(1, 144), (0, yK σ p), (0, p), (0, s)] [] M Q := by
  have hK := yKr_K hV
  have hn := hV.1
  have hkp := hK.2.1 p hp.1 hp.2
  have hsr := ysb_r hs hkp
  refine zw_iload ⟨rfl, rfl⟩ rfl ?_
  refine zw_iload ⟨rfl, rfl⟩ rfl ?_
  refine zw_calls2 ⟨rfl, rfl⟩ rfl rfl ?_
  refine m_breaks  ?_
  refine zw_ifeq ⟨rfl, rfl⟩ rfl (fun c1 => ?_) (fun c1 => ?_)
  · skip
    refine zw_aload ⟨rfl, rfl⟩ rfl ?_
    refine zw_getR 146 ⟨rfl, rfl⟩ zr_144_2 ?_
    refine zw_iload ⟨rfl, rfl⟩ rfl ?_
    refine zw_const ⟨rfl, rfl⟩ ?_
    refine zw_iadd ⟨rfl, rfl⟩ (by omega) ?_
    refine zw_row ⟨rfl, rfl⟩ zrw_146 (by omega) ?_
    refine zw_iload ⟨rfl, rfl⟩ rfl ?_
    refine zw_iload ⟨rfl, rfl⟩ rfl ?_
    refine zw_calls2 ⟨rfl, rfl⟩ rfl rfl ?_
    refine m_stateBehind  ?_
    refine zw_ialdv (v := ymn (yK σ) (σ 0) (p + 1) ((ysb s (yK σ p)))) ⟨rfl, rfl⟩ (za_few (by omega)) (by omega) (hR _ hsr.1 hsr.2) ?_
    refine zw_ret rfl ?_
    rw [show ymw (yK σ) (σ 0) p s = ymn (yK σ) (σ 0) (p + 1) ((ysb s (yK σ p))) from if_neg (by omega)] at k
    exact k
  · skip
    refine zw_const ⟨rfl, rfl⟩ ?_
    refine zw_goto ⟨rfl, rfl⟩ rfl ?_
    refine zw_ret rfl ?_
    rw [show ymw (yK σ) (σ 0) p s = 61 from if_pos (by have := ybr_rng s (yK σ p); omega)] at k
    exact k

theorem m_Me_i {p : Int} {M : zM} {Q : zV → zM → Prop} {σ : yS} (hV : yVal σ) (hG : ySet M σ) (hp : 0 ≤ p ∧ p < σ 0) (kk : ∀ (s : Int) (u5 : zV) (P : zM), (∀ q, p < q → q ≤ σ 0 → ∀ t, 0 ≤ t → t < 10 → P (147 + q) t = ymn (yK σ) (σ 0) q t) → (∀ t, 0 ≤ t → t < 10 → P (147 + p) t = ymn (yK σ) (σ 0) p t) → (∀ x, ¬ (147 ≤ x ∧ x ≤ 207) → P x = M x) → zWp kMe_choose 63 [(1, 144), (1, 105), (0, σ 0), (0, p), (0, s), u5] [] P Q) : ∀ (f0 : Nat) (s : Int) (u5 : zV) (P : zM), (0 ≤ s ∧ s ≤ 10) → (∀ q, p < q → q ≤ σ 0 → ∀ t, 0 ≤ t → t < 10 → P (147 + q) t = ymn (yK σ) (σ 0) q t) → (∀ t, 0 ≤ t → t < s → P (147 + p) t = ymn (yK σ) (σ 0) p t) → (∀ x, ¬ (147 ≤ x ∧ x ≤ 207) → P x = M x) → (10 - s).toNat < f0 → zWp kMe_choose 32 [(1, 144), (1, 105), (0, σ 0), (0, p), (0, s), u5] [] P Q := by
  intro f0
  induction f0 with
  | zero => intro s u5 P i1 i3 i4 iF hf0; exact absurd hf0 (Nat.not_lt_zero _)
  | succ f0 ih =>
    intro s u5 P i1 i3 i4 iF hf0
    have hK := yKr_K hV
    have hn := hV.1
    refine zw_iload ⟨rfl, rfl⟩ rfl ?_
    refine zw_const ⟨rfl, rfl⟩ ?_
    refine zw_icge ⟨rfl, rfl⟩ rfl (fun c1 => ?_) (fun c1 => ?_)
    · skip
      exact kk _ _ _ i3 (fun t t1 t2 => i4 t t1 (by omega)) iF
    · skip
      have hmr := ymn_r (yK σ) (show p + 1 ≤ σ 0 by omega) s
      refine zw_const ⟨rfl, rfl⟩ ?_
      refine zw_aload ⟨rfl, rfl⟩ rfl ?_
      refine zw_getR 146 ⟨rfl, rfl⟩ zr_144_2 ?_
      refine zw_iload ⟨rfl, rfl⟩ rfl ?_
      refine zw_const ⟨rfl, rfl⟩ ?_
      refine zw_iadd ⟨rfl, rfl⟩ (by omega) ?_
      refine zw_row ⟨rfl, rfl⟩ zrw_146 (by omega) ?_
      refine zw_iload ⟨rfl, rfl⟩ rfl ?_
      refine zw_ialdv (v := ymn (yK σ) (σ 0) (p + 1) (s)) ⟨rfl, rfl⟩ (za_few (by omega)) (by omega) (i3 (p + 1) (by omega) (by omega) (s) (by omega) (by omega)) ?_
      refine zw_iadd ⟨rfl, rfl⟩ (by omega) ?_
      refine zw_istore_5 ⟨rfl, rfl⟩ ?_
      refine zw_aload ⟨rfl, rfl⟩ rfl ?_
      refine zw_getR 146 ⟨rfl, rfl⟩ zr_144_2 ?_
      refine zw_iload ⟨rfl, rfl⟩ rfl ?_
      refine zw_row ⟨rfl, rfl⟩ zrw_146 (by omega) ?_
      refine zw_iload ⟨rfl, rfl⟩ rfl ?_
      refine zw_iload ⟨rfl, rfl⟩ rfl ?_
      refine zw_aload ⟨rfl, rfl⟩ rfl ?_
      refine zw_aload ⟨rfl, rfl⟩ rfl ?_
      refine zw_iload ⟨rfl, rfl⟩ rfl ?_
      refine zw_callv2 ⟨rfl, rfl⟩ rfl zc_105 rfl ?_
      refine m_kindAt hK (hG.fw (fun x hx => iF x (by omega))).1.1 ?_
      refine zw_iload ⟨rfl, rfl⟩ rfl ?_
      refine zw_iload ⟨rfl, rfl⟩ rfl ?_
      refine zw_callv4 ⟨rfl, rfl⟩ rfl zc_144 rfl ?_
      refine m_fewestWith hV ⟨by omega, by omega⟩ ⟨by omega, by omega⟩ (fun t t1 t2 => i3 (p + 1) (by omega) (by omega) t t1 t2) ?_
      refine zw_min ⟨rfl, rfl⟩ (Nat.le_of_ble_eq_true rfl) ?_
      refine zw_iast ⟨rfl, rfl⟩ (za_few (by omega)) (by omega) ?_
      refine zw_iinc_4 ⟨rfl, rfl⟩ (by omega) ?_
      refine zw_goto ⟨rfl, rfl⟩ rfl ?_
      have ems : ymn (yK σ) (σ 0) p s = if 1 + (ymn (yK σ) (σ 0) (p + 1) (s)) ≤ ymw (yK σ) (σ 0) p s then 1 + (ymn (yK σ) (σ 0) (p + 1) (s)) else ymw (yK σ) (σ 0) p s := ymn_s (by omega)
      rw [← ems]
      refine ih _ _ _ ⟨by omega, by omega⟩ (fun q q1 q2 t t1 t2 => (zup_na (by omega)).trans (i3 q q1 q2 t t1 t2)) (fun t t1 t2 => ?_) (fun x hx => (zup_row (by omega)).trans (iF x hx)) (by omega)
      by_cases e : t = s
      · subst e; exact zup_eq _ _ _ _
      · exact (zup_ni e).trans (i4 t t1 (by omega))

theorem m_Me_e {n p s : Int} {u5 : zV} {M : zM} {Q : zV → zM → Prop} (hp : 0 ≤ p ∧ p ≤ 60) (kk : zWp kMe_choose 28 [(1, 144), (1, 105), (0, n), (0, p + -1), (0, s), u5] [] M Q) : zWp kMe_choose 63 [(1, 144), (1, 105), (0, n), (0, p), (0, s), u5] [] M Q := by
  refine zw_iinc_3 ⟨rfl, rfl⟩ (by omega) ?_
  refine zw_goto ⟨rfl, rfl⟩ rfl ?_
  exact kk

theorem m_Me_d {M : zM} {Q : zV → zM → Prop} {σ : yS} (hV : yVal σ) (hG : ySet M σ) (kk : ∀ (u4 u5 : zV) (P : zM), (∀ q, 0 ≤ q → q ≤ σ 0 → ∀ t, 0 ≤ t → t < 10 → P (147 + q) t = ymn (yK σ) (σ 0) q t) → (∀ x, ¬ (147 ≤ x ∧ x ≤ 207) → P x = M x) → zWp kMe_choose 65 [(1, 144), (1, 105), (0, σ 0), (0, -1), u4, u5] [] P Q) : ∀ (f0 : Nat) (p : Int) (u4 u5 : zV) (P : zM), (-1 ≤ p ∧ p < σ 0) → (∀ q, p < q → q ≤ σ 0 → ∀ t, 0 ≤ t → t < 10 → P (147 + q) t = ymn (yK σ) (σ 0) q t) → (∀ x, ¬ (147 ≤ x ∧ x ≤ 207) → P x = M x) → (p + 1).toNat < f0 → zWp kMe_choose 28 [(1, 144), (1, 105), (0, σ 0), (0, p), u4, u5] [] P Q := by
  intro f0
  induction f0 with
  | zero => intro p u4 u5 P i1 i3 iF hf0; exact absurd hf0 (Nat.not_lt_zero _)
  | succ f0 ih =>
    intro p u4 u5 P i1 i3 iF hf0
    have hn := hV.1
    refine zw_iload ⟨rfl, rfl⟩ rfl ?_
    refine zw_iflt ⟨rfl, rfl⟩ rfl (fun c1 => ?_) (fun c1 => ?_)
    · skip
      have ep : p = -1 := by omega
      subst ep
      exact kk _ _ _ (fun q q1 q2 t t1 t2 => i3 q (by omega) q2 t t1 t2) iF
    · skip
      refine zw_const ⟨rfl, rfl⟩ ?_
      refine zw_istore_4 ⟨rfl, rfl⟩ ?_
      refine m_Me_i (M := P) hV (hG.fw (fun x hx => iF x (by omega))) ⟨by omega, by omega⟩ (fun s v5 P1 r1 r2 r3 => ?_) _ _ _ _ ⟨Int.le_refl _, by decide⟩ i3 (fun t t1 t2 => by omega) (fun _ _ => rfl) (Nat.lt_succ_self _)
      refine m_Me_e (by omega) (ih _ _ _ _ ⟨by omega, by omega⟩ (fun q q1 q2 t t1 t2 => ?_) (fun x hx => (r3 x hx).trans (iF x hx)) (by omega))
      by_cases e : q = p
      · subst e; exact r2 t t1 t2
      · exact r1 q (by omega) q2 t t1 t2

def yE5 (P : zM) (g : yG3) : Prop := P 144 0 = g.1 ∧ ∀ k, 0 ≤ k → k < g.1 → P 145 k = g.2.1 k
theorem yE5.ps {P : zM} {g h : yG3} {c : Int} (hg : yE5 P g) (e1 : h.1 = g.1 + 1) (e2 : h.2.1 = fun k => if k = g.1 then c else g.2.1 k) : yE5 (zup (zup P 145 g.1 c) 144 0 (g.1 + 1)) h := by
  refine ⟨(zup_eq _ _ _ _).trans e1.symm, fun k k1 k2 => ?_⟩
  rw [zup_na (by decide), e2]
  by_cases q : k = g.1
  · rw [q, zup_eq]; exact (if_pos rfl).symm
  · rw [zup_ni q, hg.2 k k1 (by omega)]; exact (if_neg q).symm

theorem m_Me_f {M : zM} {Q : zV → zM → Prop} {σ : yS} (hV : yVal σ) (hG : ySet M σ) (hR : ∀ q, 0 ≤ q → q ≤ σ 0 → ∀ t, 0 ≤ t → t < 10 → M (147 + q) t = ymn (yK σ) (σ 0) q t) (kk : ∀ P : zM, (yE5 P (ymE σ) ∧ ∀ x, x ≠ 144 → x ≠ 145 → P x = M x) → Q (3, 0) P) : ∀ (f0 : Nat) (s p : Int) (u5 : zV) (P : zM), (0 ≤ p ∧ p ≤ σ 0) → (s = (ymc (yK σ) (σ 0) p).2.2) → (yE5 P (ymc (yK σ) (σ 0) p)) → (∀ x, x ≠ 144 → x ≠ 145 → P x = M x) → (σ 0 - p).toNat < f0 → zWp kMe_choose 69 [(1, 144), (1, 105), (0, σ 0), (0, s), (0, p), u5] [] P Q := by
  intro f0
  induction f0 with
  | zero => intro s p u5 P i1 i2 i3 iF hf0; exact absurd hf0 (Nat.not_lt_zero _)
  | succ f0 ih =>
    intro s p u5 P i1 i2 i3 iF hf0
    have hK := yKr_K hV
    have hn := hV.1
    have hr := (ymc_r hK p i1.1 i1.2).1
    refine zw_iload ⟨rfl, rfl⟩ rfl ?_
    refine zw_iload ⟨rfl, rfl⟩ rfl ?_
    refine zw_icge ⟨rfl, rfl⟩ rfl (fun c1 => ?_) (fun c1 => ?_)
    · skip
      refine zw_void rfl ?_
      have ep : p = σ 0 := by omega
      rw [ep] at i3
      exact kk _ ⟨i3, iF⟩
    · skip
      have hmr := ymn_r (yK σ) (show p + 1 ≤ σ 0 by omega) s
      refine zw_const ⟨rfl, rfl⟩ ?_
      refine zw_aload ⟨rfl, rfl⟩ rfl ?_
      refine zw_getR 146 ⟨rfl, rfl⟩ zr_144_2 ?_
      refine zw_iload ⟨rfl, rfl⟩ rfl ?_
      refine zw_const ⟨rfl, rfl⟩ ?_
      refine zw_iadd ⟨rfl, rfl⟩ (by omega) ?_
      refine zw_row ⟨rfl, rfl⟩ zrw_146 (by omega) ?_
      refine zw_iload ⟨rfl, rfl⟩ rfl ?_
      refine zw_ialdv (v := ymn (yK σ) (σ 0) (p + 1) (s)) ⟨rfl, rfl⟩ (za_few (by omega)) (by omega) (((congrFun (iF (147 + (p + 1)) (by omega) (by omega)) _).trans (hR (p + 1) (by omega) (by omega) (s) (by omega) (by omega)))) ?_
      refine zw_iadd ⟨rfl, rfl⟩ (by omega) ?_
      refine zw_aload ⟨rfl, rfl⟩ rfl ?_
      refine zw_getR 146 ⟨rfl, rfl⟩ zr_144_2 ?_
      refine zw_iload ⟨rfl, rfl⟩ rfl ?_
      refine zw_row ⟨rfl, rfl⟩ zrw_146 (by omega) ?_
      refine zw_iload ⟨rfl, rfl⟩ rfl ?_
      refine zw_ialdv (v := ymn (yK σ) (σ 0) p (s)) ⟨rfl, rfl⟩ (za_few (by omega)) (by omega) (((congrFun (iF (147 + p) (by omega) (by omega)) _).trans (hR p (by omega) (by omega) (s) (by omega) (by omega)))) ?_
      refine zw_icne ⟨rfl, rfl⟩ rfl (fun c2 => ?_) (fun c2 => ?_)
      · skip
        refine zw_iload ⟨rfl, rfl⟩ rfl ?_
        refine zw_aload ⟨rfl, rfl⟩ rfl ?_
        refine zw_iload ⟨rfl, rfl⟩ rfl ?_
        refine zw_callv2 ⟨rfl, rfl⟩ rfl zc_105 rfl ?_
        refine m_kindAt hK (hG.fw (fun x hx => iF x (by omega) (by omega))).1.1 ?_
        refine zw_calls2 ⟨rfl, rfl⟩ rfl rfl ?_
        refine m_stateBehind  ?_
        refine zw_istore_3 ⟨rfl, rfl⟩ ?_
        refine zw_iinc_4 ⟨rfl, rfl⟩ (by omega) ?_
        refine zw_goto ⟨rfl, rfl⟩ rfl ?_
        have eg := ymc_z (K := yK σ) (n := σ 0) i1.1 (by rw [← i2]; omega)
        exact ih _ _ _ _ ⟨by omega, by omega⟩ (by rw [eg, i2]) (by rw [eg]; exact i3) iF (by omega)
      · skip
        refine zw_aload ⟨rfl, rfl⟩ rfl ?_
        refine zw_getR 145 ⟨rfl, rfl⟩ zr_144_1 ?_
        refine zw_aload ⟨rfl, rfl⟩ rfl ?_
        refine zw_getIv (v := (ymc (yK σ) (σ 0) p).1) ⟨rfl, rfl⟩ zc_144 (by decide) (i3.1) ?_
        refine zw_iload ⟨rfl, rfl⟩ rfl ?_
        refine zw_iast ⟨rfl, rfl⟩ za_145 (by omega) ?_
        refine zw_aload ⟨rfl, rfl⟩ rfl ?_
        refine zw_dup ⟨rfl, rfl⟩ (by decide) ?_
        refine zw_getIv (v := (ymc (yK σ) (σ 0) p).1) ⟨rfl, rfl⟩ zc_144 (by decide) ((zup_na (by decide)).trans (i3.1)) ?_
        refine zw_const ⟨rfl, rfl⟩ ?_
        refine zw_iadd ⟨rfl, rfl⟩ (by omega) ?_
        refine zw_putI ⟨rfl, rfl⟩ zc_144 (by decide) (fun h => absurd h (by decide)) ?_
        refine zw_goto ⟨rfl, rfl⟩ rfl ?_
        refine zw_iinc_4 ⟨rfl, rfl⟩ (by omega) ?_
        refine zw_goto ⟨rfl, rfl⟩ rfl ?_
        have eg := ymc_y (K := yK σ) (n := σ 0) i1.1 (by rw [← i2]; omega)
        refine ih _ _ _ _ ⟨by omega, by omega⟩ (by rw [eg]; exact i2) ?_ (fun x x1 x2 => (zup_row x1).trans ((zup_row x2).trans (iF x x1 x2))) (by omega)
        rw [eg]
        exact i3.ps rfl rfl

theorem m_Me_a {M : zM} {Q : zV → zM → Prop} {σ : yS} (hV : yVal σ) (hG : ySet M σ) (kk : ∀ (P : zM), (∀ t, 0 ≤ t → t < 10 → P (147 + σ 0) t = 0) → (∀ x, ¬ (147 ≤ x ∧ x ≤ 207) → P x = M x) → zWp kMe_choose 24 [(1, 144), (1, 105), (0, σ 0), (0, 10), (3, 0), (3, 0)] [] P Q) : ∀ (f0 : Nat) (s : Int) (P : zM), (0 ≤ s ∧ s ≤ 10) → (∀ t, 0 ≤ t → t < s → P (147 + σ 0) t = 0) → (∀ x, ¬ (147 ≤ x ∧ x ≤ 207) → P x = M x) → (10 - s).toNat < f0 → zWp kMe_choose 12 [(1, 144), (1, 105), (0, σ 0), (0, s), (3, 0), (3, 0)] [] P Q := by
  intro f0
  induction f0 with
  | zero => intro s P i1 i4 iF hf0; exact absurd hf0 (Nat.not_lt_zero _)
  | succ f0 ih =>
    intro s P i1 i4 iF hf0
    have hn := hV.1
    refine zw_iload ⟨rfl, rfl⟩ rfl ?_
    refine zw_const ⟨rfl, rfl⟩ ?_
    refine zw_icge ⟨rfl, rfl⟩ rfl (fun c1 => ?_) (fun c1 => ?_)
    · skip
      have es : s = 10 := by omega
      subst es
      exact kk _ (fun t t1 t2 => i4 t t1 t2) iF
    · skip
      refine zw_aload ⟨rfl, rfl⟩ rfl ?_
      refine zw_getR 146 ⟨rfl, rfl⟩ zr_144_2 ?_
      refine zw_iload ⟨rfl, rfl⟩ rfl ?_
      refine zw_row ⟨rfl, rfl⟩ zrw_146 (by omega) ?_
      refine zw_iload ⟨rfl, rfl⟩ rfl ?_
      refine zw_const ⟨rfl, rfl⟩ ?_
      refine zw_iast ⟨rfl, rfl⟩ (za_few hV.1) (by omega) ?_
      refine zw_iinc_3 ⟨rfl, rfl⟩ (by omega) ?_
      refine zw_goto ⟨rfl, rfl⟩ rfl ?_
      refine ih _ _ ⟨by omega, by omega⟩ (fun t t1 t2 => ?_) (fun x hx => (zup_row (by omega)).trans (iF x hx)) (by omega)
      by_cases e : t = s
      · subst e; exact zup_eq _ _ _ _
      · exact (zup_ni e).trans (i4 t t1 (by omega))

theorem m_Me_g {M : zM} {Q : zV → zM → Prop} {σ : yS} (hV : yVal σ) (hG : ySet M σ) {u4 u5 : zV} (h0 : M 144 0 = 0) (hR : ∀ q, 0 ≤ q → q ≤ σ 0 → ∀ t, 0 ≤ t → t < 10 → M (147 + q) t = ymn (yK σ) (σ 0) q t) (kk : ∀ P : zM, (yE5 P (ymE σ) ∧ ∀ x, x ≠ 144 → x ≠ 145 → P x = M x) → Q (3, 0) P) : zWp kMe_choose 65 [(1, 144), (1, 105), (0, σ 0), (0, -1), u4, u5] [] M Q := by
  refine zw_const ⟨rfl, rfl⟩ ?_
  refine zw_istore_3 ⟨rfl, rfl⟩ ?_
  refine zw_const ⟨rfl, rfl⟩ ?_
  refine zw_istore_4 ⟨rfl, rfl⟩ ?_
  exact m_Me_f hV hG hR kk _ _ _ _ _ ⟨Int.le_refl _, hV.1.1⟩ (by rw [ymc_0]) (by rw [ymc_0]; exact ⟨h0, fun k k1 k2 => absurd k2 (by show ¬ (k < 0); omega)⟩) (fun _ _ _ => rfl) (Nat.lt_succ_self _)

theorem m_Me_b {M : zM} {Q : zV → zM → Prop} {σ : yS} (hV : yVal σ) (hG : ySet M σ) (h0 : M 144 0 = 0) (hz : ∀ t, 0 ≤ t → t < 10 → M (147 + σ 0) t = 0) (kk : ∀ P : zM, (yE5 P (ymE σ) ∧ yfw M P) → Q (3, 0) P) : zWp kMe_choose 24 [(1, 144), (1, 105), (0, σ 0), (0, 10), (3, 0), (3, 0)] [] M Q := by
  have hn := hV.1
  refine zw_iload ⟨rfl, rfl⟩ rfl ?_
  refine zw_const ⟨rfl, rfl⟩ ?_
  refine zw_isub ⟨rfl, rfl⟩ (by omega) ?_
  refine zw_istore_3 ⟨rfl, rfl⟩ ?_
  refine m_Me_d hV hG (fun u4 u5 P r1 r2 => ?_) _ _ _ _ _ ⟨by omega, by omega⟩ (fun q q1 q2 t t1 t2 => ?_) (fun _ _ => rfl) (Nat.lt_succ_self _)
  · exact m_Me_g (M := P) hV (hG.fw (fun x hx => r2 x (by omega))) ((congrFun (r2 144 (by decide)) 0).trans h0) r1 (fun P2 p2 => kk P2 ⟨p2.1, fun x hx => (p2.2 x (by omega) (by omega)).trans (r2 x (by omega))⟩)
  · rw [show q = σ 0 by omega, hz t t1 t2, ymn_n]

theorem m_Mechoose {M : zM} {Q : zV → zM → Prop} {σ : yS} (hV : yVal σ) (hG : ySet M σ) (kk : ∀ P : zM, (yE5 P (ymE σ) ∧ yfw M P) → Q (3, 0) P) : zWp kMe_choose 0 [(1, 144), (1, 105), (3, 0), (3, 0), (3, 0), (3, 0)] [] M Q := by
  have hK := yKr_K hV
  have hn := hV.1
  have hci := yci_60 hK
  refine zw_aload ⟨rfl, rfl⟩ rfl ?_
  refine zw_const ⟨rfl, rfl⟩ ?_
  refine zw_putI ⟨rfl, rfl⟩ zc_144 (by decide) (fun h => absurd h (by decide)) ?_
  refine zw_aload ⟨rfl, rfl⟩ rfl ?_
  refine zw_aload ⟨rfl, rfl⟩ rfl ?_
  refine zw_getIv (v := (yci (yK σ) (σ 0))) ⟨rfl, rfl⟩ zc_105 (by decide) ((zup_na (by decide)).trans (hG.1.1.1.1)) ?_
  refine zw_const ⟨rfl, rfl⟩ ?_
  refine zw_isub ⟨rfl, rfl⟩ (by omega) ?_
  refine zw_callv2 ⟨rfl, rfl⟩ rfl zc_105 rfl ?_
  refine m_endOf hK (hG.fw (yfw.rf.up (by decide))).1.1 ?_
  rw [show yen (yK σ) (σ 0) ((yci (yK σ) (σ 0)) - 1) = σ 0 from by
    unfold yen
    by_cases z : (yci (yK σ) (σ 0)) = 0
    · rw [if_neg (by omega)]
      have hb := yB_n hK
      rw [z] at hb
      rw [← hb]; rfl
    · rw [if_pos ⟨by omega, by omega⟩, show (yci (yK σ) (σ 0)) - 1 + 1 = (yci (yK σ) (σ 0)) by omega, yB_n hK]]
  refine zw_istore_2 ⟨rfl, rfl⟩ ?_
  refine zw_const ⟨rfl, rfl⟩ ?_
  refine zw_istore_3 ⟨rfl, rfl⟩ ?_
  have g : yfw M (zup M 144 0 0) := yfw.rf.up (by decide)
  refine m_Me_a (M := zup M 144 0 0) hV (hG.fw g) (fun P r1 r2 => ?_) _ _ _ ⟨Int.le_refl _, by decide⟩ (fun t t1 t2 => by omega) (fun _ _ => rfl) (Nat.lt_succ_self _)
  have g2 : yfw M P := fun x hx => (r2 x (by omega)).trans (g x hx)
  exact m_Me_b hV (hG.fw g2) ((congrFun (r2 144 (by decide)) 0).trans (zup_eq _ _ _ _)) r1 (fun P2 p2 => kk P2 ⟨p2.1, g2.tr p2.2⟩)

theorem c_mend {i : Int} {M : zM} {Q : zV → zM → Prop} {σ : yS} (hV : yVal σ) (hS : yTold M σ) (hG : ySet M σ)  (k : ∀ P : zM, yfw M P → Q (0, ya_mend σ i) P) : zWp kX_mend 0 [(1, 0), (0, i)] [] M Q := by
  have hK := yKr_K hV
  have hn := hV.1
  have hci := yci_60 hK
  refine zw_iload ⟨rfl, rfl⟩ rfl ?_
  refine zw_const ⟨rfl, rfl⟩ ?_
  refine zw_icge ⟨rfl, rfl⟩ rfl (fun c1 => ?_) (fun c1 => ?_)
  · skip
    refine zw_aload ⟨rfl, rfl⟩ rfl ?_
    refine zw_getR 144 ⟨rfl, rfl⟩ zr_0_13 ?_
    refine zw_aload ⟨rfl, rfl⟩ rfl ?_
    refine zw_getR 105 ⟨rfl, rfl⟩ zr_0_8 ?_
    refine zw_cavv2 ⟨rfl, rfl⟩ rfl zc_144 rfl ?_
    refine m_Mechoose hV hG (fun P1 p1 => ?_)
    obtain ⟨hE1, hf1⟩ := p1
    have hr := ymE_r hV
    have hr1 : (ymE σ).1 ≤ 60 := by have := hr.1.1.2; omega
    refine zw_iload ⟨rfl, rfl⟩ rfl ?_
    refine zw_const ⟨rfl, rfl⟩ ?_
    refine zw_icne ⟨rfl, rfl⟩ rfl (fun c2 => ?_) (fun c2 => ?_)
    · skip
      refine zw_iload ⟨rfl, rfl⟩ rfl ?_
      refine zw_aload ⟨rfl, rfl⟩ rfl ?_
      refine zw_getR 144 ⟨rfl, rfl⟩ zr_0_13 ?_
      refine zw_getIv (v := (ymE σ).1) ⟨rfl, rfl⟩ zc_144 (by decide) (hE1.1) ?_
      refine zw_icge ⟨rfl, rfl⟩ rfl (fun c3 => ?_) (fun c3 => ?_)
      · skip
        refine zw_const ⟨rfl, rfl⟩ ?_
        refine zw_ret rfl ?_
        rw [show ya_mend σ i = (-1) from by unfold ya_mend; (repeat' split) <;> first | rfl | (exfalso; omega)] at k
        exact k _ hf1
      · skip
        refine zw_aload ⟨rfl, rfl⟩ rfl ?_
        refine zw_getR 144 ⟨rfl, rfl⟩ zr_0_13 ?_
        refine zw_getR 145 ⟨rfl, rfl⟩ zr_144_1 ?_
        refine zw_iload ⟨rfl, rfl⟩ rfl ?_
        refine zw_ialdv (v := (ymE σ).2.1 i) ⟨rfl, rfl⟩ za_145 (by omega) (hE1.2 i (by omega) (by omega)) ?_
        refine zw_goto ⟨rfl, rfl⟩ rfl ?_
        refine zw_ret rfl ?_
        rw [show ya_mend σ i = (ymE σ).2.1 i from by unfold ya_mend; (repeat' split) <;> first | rfl | (exfalso; omega)] at k
        exact k _ hf1
    · skip
      refine zw_aload ⟨rfl, rfl⟩ rfl ?_
      refine zw_getR 144 ⟨rfl, rfl⟩ zr_0_13 ?_
      refine zw_getIv (v := (ymE σ).1) ⟨rfl, rfl⟩ zc_144 (by decide) (hE1.1) ?_
      refine zw_ret rfl ?_
      rw [show ya_mend σ i = (ymE σ).1 from by unfold ya_mend; (repeat' split) <;> first | rfl | (exfalso; omega)] at k
      exact k _ hf1
  · skip
    refine zw_const ⟨rfl, rfl⟩ ?_
    refine zw_ret rfl ?_
    rw [show ya_mend σ i = (-3) from by unfold ya_mend; (repeat' split) <;> first | rfl | (exfalso; omega)] at k
    exact k _ yfw.rf

theorem c_may_a  {a : Int} {M : zM} {Q : zV → zM → Prop} {σ : yS} (hV : yVal σ) (hG : ySet M σ) (kk : ∀ m, (∀ b, 0 ≤ b → b ≤ 13 → yhb m b = if ybw (yK σ) (σ 0) a b ≤ ybw (yK σ) (σ 0) (-1) 0 then 1 else 0) → zWp kX_may 37 [(1, 0), (0, a), (0, ybw (yK σ) (σ 0) (-1) 0), (0, m), (0, 14), (3, 0)] [] M Q) : ∀ (f : Nat) (m t : Int), (0 ≤ t ∧ t ≤ 14) → (0 ≤ m ∧ m < 2147483648) → (∀ b, 0 ≤ b → b ≤ 13 → yhb m b = if b < t ∧ ybw (yK σ) (σ 0) a b ≤ ybw (yK σ) (σ 0) (-1) 0 then 1 else 0) → (14 - t).toNat < f → zWp kX_may 19 [(1, 0), (0, a), (0, ybw (yK σ) (σ 0) (-1) 0), (0, m), (0, t), (3, 0)] [] M Q := by
  intro f
  induction f with
  | zero => intro m t i1 i0 i2 hf; exact absurd hf (Nat.not_lt_zero _)
  | succ f ih =>
    intro m t i1 i0 i2 hf
    have hK := yKr_K hV
    have hn := hV.1
    have hci := yci_60 hK
    refine zw_iload ⟨rfl, rfl⟩ rfl ?_
    refine zw_const ⟨rfl, rfl⟩ ?_
    refine zw_icge ⟨rfl, rfl⟩ rfl (fun c1 => ?_) (fun c1 => ?_)
    · skip
      have et : t = 14 := by omega
      subst et
      refine kk m (fun b b1 b2 => ?_)
      rw [i2 b b1 b2]
      by_cases z : ybw (yK σ) (σ 0) a b ≤ ybw (yK σ) (σ 0) (-1) 0
      · rw [if_pos z, if_pos ⟨by omega, z⟩]
      · rw [if_neg z, if_neg (fun y => z y.2)]
    · skip
      refine zw_aload ⟨rfl, rfl⟩ rfl ?_
      refine zw_getR 105 ⟨rfl, rfl⟩ zr_0_8 ?_
      refine zw_iload ⟨rfl, rfl⟩ rfl ?_
      refine zw_iload ⟨rfl, rfl⟩ rfl ?_
      refine zw_callv3 ⟨rfl, rfl⟩ rfl zc_105 rfl ?_
      refine m_brokenWith hK hG.1.1 ?_
      refine zw_iload ⟨rfl, rfl⟩ rfl ?_
      refine zw_icgt ⟨rfl, rfl⟩ rfl (fun c2 => ?_) (fun c2 => ?_)
      · skip
        refine zw_iinc_4 ⟨rfl, rfl⟩ (by omega) ?_
        refine zw_goto ⟨rfl, rfl⟩ rfl ?_
        refine ih _ _ ⟨by omega, by omega⟩ i0 (fun b b1 b2 => ?_) (by omega)
        rw [i2 b b1 b2]
        by_cases e : b = t
        · subst e; rw [if_neg (by omega), if_neg (by omega)]
        · by_cases z : b < t ∧ ybw (yK σ) (σ 0) a b ≤ ybw (yK σ) (σ 0) (-1) 0
          · rw [if_pos z, if_pos ⟨by omega, z.2⟩]
          · rw [if_neg z, if_neg (fun y => z ⟨by omega, y.2⟩)]
      · skip
        have h2p := y2p (l := t) (by omega)
        refine zw_iload ⟨rfl, rfl⟩ rfl ?_
        refine zw_const ⟨rfl, rfl⟩ ?_
        refine zw_iload ⟨rfl, rfl⟩ rfl ?_
        refine zw_ishl ⟨rfl, rfl⟩ (by omega) ?_
        refine zw_ior ⟨rfl, rfl⟩ (by omega) ?_
        refine zw_istore_3 ⟨rfl, rfl⟩ ?_
        refine zw_iinc_4 ⟨rfl, rfl⟩ (by omega) ?_
        refine zw_goto ⟨rfl, rfl⟩ rfl ?_
        refine ih _ _ ⟨by omega, by omega⟩ (zor_n i0 (by omega)) (fun b b1 b2 => ?_) (by omega)
        rw [yhb_or i0 (by omega) (by omega), i2 b b1 b2]
        by_cases e : b = t
        · subst e; rw [if_pos rfl, if_pos ⟨by omega, by omega⟩]
        · rw [if_neg e]
          by_cases z : b < t ∧ ybw (yK σ) (σ 0) a b ≤ ybw (yK σ) (σ 0) (-1) 0
          · rw [if_pos z, if_pos ⟨by omega, z.2⟩]
          · rw [if_neg z, if_neg (fun y => z ⟨by omega, y.2⟩)]

theorem c_may_b  {a m : Int} {M : zM} {Q : zV → zM → Prop} {σ : yS} (hV : yVal σ) (hS : yTold M σ) (hm : ∀ b, 0 ≤ b → b ≤ 13 → yhb m b = if ybw (yK σ) (σ 0) a b ≤ ybw (yK σ) (σ 0) (-1) 0 then 1 else 0) (k : Q (0, ymy σ a 26) M) : ∀ (f : Nat) (x l : Int), (0 ≤ l ∧ l ≤ 26) → (x = ymy σ a l) → (26 - l).toNat < f → zWp kX_may 41 [(1, 0), (0, a), (0, ybw (yK σ) (σ 0) (-1) 0), (0, m), (0, x), (0, l)] [] M Q := by
  intro f
  induction f with
  | zero => intro x l i1 i2 hf; exact absurd hf (Nat.not_lt_zero _)
  | succ f ih =>
    intro x l i1 i2 hf
    have hr := ymy_r σ a l i1.1 i1.2
    refine zw_iload ⟨rfl, rfl⟩ rfl ?_
    refine zw_const ⟨rfl, rfl⟩ ?_
    refine zw_icge ⟨rfl, rfl⟩ rfl (fun c1 => ?_) (fun c1 => ?_)
    · skip
      refine zw_iload ⟨rfl, rfl⟩ rfl ?_
      refine zw_ret rfl ?_
      rw [show (26 : Int) = l by omega, ← i2] at k
      exact k
    · skip
      have hkl := (hV.2.2.1 l (by omega) (by omega)).1
      have h2p := y2p (l := l) (by omega)
      have eb : (if ybw (yK σ) (σ 0) a (σ (2 + l)) ≤ ybw (yK σ) (σ 0) (-1) 0 then (1 : Int) else 0) * 2 ^ (Int.toNat l) = if ybw (yK σ) (σ 0) a (σ (2 + l)) ≤ ybw (yK σ) (σ 0) (-1) 0 then 1 * 2 ^ (Int.toNat l) else 0 := by
        split
        · rfl
        · exact Int.zero_mul _
      refine zw_iload ⟨rfl, rfl⟩ rfl ?_
      refine zw_iload ⟨rfl, rfl⟩ rfl ?_
      refine zw_aload ⟨rfl, rfl⟩ rfl ?_
      refine zw_getR 2 ⟨rfl, rfl⟩ zr_0_4 ?_
      refine zw_getR 3 ⟨rfl, rfl⟩ zr_2_0 ?_
      refine zw_iload ⟨rfl, rfl⟩ rfl ?_
      refine zw_callv2 ⟨rfl, rfl⟩ rfl zc_3 rfl ?_
      refine m_kindOf_3 hS.1 ?_
      rw [show ykd σ l = σ (2 + l) from if_pos ⟨by omega, by omega⟩]
      refine zw_calls2 ⟨rfl, rfl⟩ rfl rfl ?_
      refine m_hasBit (by omega) ?_
      rw [hm (σ (2 + l)) (by omega) (by omega)]
      refine zw_iload ⟨rfl, rfl⟩ rfl ?_
      refine zw_ishl ⟨rfl, rfl⟩ (by rw [eb]; split <;> omega) ?_
      refine zw_ior ⟨rfl, rfl⟩ (by rw [eb]; split <;> omega) ?_
      refine zw_istore_4 ⟨rfl, rfl⟩ ?_
      refine zw_iinc_5 ⟨rfl, rfl⟩ (by omega) ?_
      refine zw_goto ⟨rfl, rfl⟩ rfl ?_
      refine ih _ _ ⟨by omega, by omega⟩ ?_ (by omega)
      rw [eb, ymy_s σ a i1.1, ← i2]

theorem c_may_e {a x m : Int} {M : zM} {Q : zV → zM → Prop} (kk : zWp kX_may 41 [(1, 0), (0, a), (0, x), (0, m), (0, 0), (0, 0)] [] M Q) : zWp kX_may 37 [(1, 0), (0, a), (0, x), (0, m), (0, 14), (3, 0)] [] M Q := by
  refine zw_const ⟨rfl, rfl⟩ ?_
  refine zw_istore_4 ⟨rfl, rfl⟩ ?_
  refine zw_const ⟨rfl, rfl⟩ ?_
  refine zw_istore_5 ⟨rfl, rfl⟩ ?_
  exact kk

theorem c_may {a : Int} {M : zM} {Q : zV → zM → Prop} {σ : yS} (hV : yVal σ) (hS : yTold M σ) (hG : ySet M σ)  (k : Q (0, ya_may σ a) M) : zWp kX_may 0 [(1, 0), (0, a), (3, 0), (3, 0), (3, 0), (3, 0)] [] M Q := by
  have hK := yKr_K hV
  have hn := hV.1
  have hci := yci_60 hK
  refine zw_iload ⟨rfl, rfl⟩ rfl ?_
  refine zw_iflt ⟨rfl, rfl⟩ rfl (fun c1 => ?_) (fun c1 => ?_)
  · skip
    refine zw_const ⟨rfl, rfl⟩ ?_
    refine zw_ret rfl ?_
    rw [show ya_may σ a = -5 from if_neg (by omega)] at k
    exact k
  · skip
    refine zw_iload ⟨rfl, rfl⟩ rfl ?_
    refine zw_aload ⟨rfl, rfl⟩ rfl ?_
    refine zw_getR 2 ⟨rfl, rfl⟩ zr_0_4 ?_
    refine zw_getIv (v := σ 0) ⟨rfl, rfl⟩ zc_2 (by decide) (hS.2.1) ?_
    refine zw_icle ⟨rfl, rfl⟩ rfl (fun c2 => ?_) (fun c2 => ?_)
    · skip
      refine zw_aload ⟨rfl, rfl⟩ rfl ?_
      refine zw_getR 105 ⟨rfl, rfl⟩ zr_0_8 ?_
      refine zw_const ⟨rfl, rfl⟩ ?_
      refine zw_const ⟨rfl, rfl⟩ ?_
      refine zw_callv3 ⟨rfl, rfl⟩ rfl zc_105 rfl ?_
      refine m_brokenWith hK hG.1.1 ?_
      refine zw_istore_2 ⟨rfl, rfl⟩ ?_
      refine zw_const ⟨rfl, rfl⟩ ?_
      refine zw_istore_3 ⟨rfl, rfl⟩ ?_
      refine zw_const ⟨rfl, rfl⟩ ?_
      refine zw_istore_4 ⟨rfl, rfl⟩ ?_
      rw [show ya_may σ a = _ from if_pos ⟨by omega, by omega⟩] at k
      refine c_may_a hV hG (fun m hm => ?_) _ _ _ ⟨Int.le_refl _, by decide⟩ (by decide) (fun b b1 b2 => ?_) (Nat.lt_succ_self _)
      · exact c_may_e (c_may_b hV hS hm k _ _ _ ⟨Int.le_refl _, by decide⟩ (yfo_0 _ (Int.le_refl _) _).symm (Nat.lt_succ_self _))
      · rw [yhb_00 (by omega), if_neg (by omega)]
    · skip
      refine zw_const ⟨rfl, rfl⟩ ?_
      refine zw_ret rfl ?_
      rw [show ya_may σ a = -5 from if_neg (by omega)] at k
      exact k

theorem c_mended_l {M : zM} {Q : zV → zM → Prop} {σ : yS} (hV : yVal σ) (hE : ∀ k, 0 ≤ k → k < (ymE σ).1 → M 145 k = (ymE σ).2.1 k) (hm : 0 ≤ (ymE σ).1 ∧ (ymE σ).1 ≤ σ 0) (kk : ∀ P : zM, (yTold P (ymT σ (ymE σ).1.toNat) ∧ ∀ b, b ≠ 2 → b ≠ 8 → P b = M b) → zWp kX_mended 29 [(1, 0), (0, -1)] [] P Q) : ∀ (f0 : Nat) (i : Int) (P : zM), (-1 ≤ i ∧ i < (ymE σ).1) → (yTold P (ymT σ ((ymE σ).1 - 1 - i).toNat)) → (∀ b, b ≠ 2 → b ≠ 8 → P b = M b) → (i + 1).toNat < f0 → zWp kX_mended 16 [(1, 0), (0, i)] [] P Q := by
  intro f0
  induction f0 with
  | zero => intro i P i1 i3 iF hf0; exact absurd hf0 (Nat.not_lt_zero _)
  | succ f0 ih =>
    intro i P i1 i3 iF hf0
    have hn := hV.1
    have hT := fun (i : Int) (h1 : -1 ≤ i) => ymT_r hV ((ymE σ).1 - 1 - i).toNat (by omega)
    refine zw_iload ⟨rfl, rfl⟩ rfl ?_
    refine zw_iflt ⟨rfl, rfl⟩ rfl (fun c1 => ?_) (fun c1 => ?_)
    · skip
      have ei : i = -1 := by omega
      subst ei
      rw [show (ymE σ).1 - 1 - -1 = (ymE σ).1 by omega] at i3
      exact kk _ ⟨i3, iF⟩
    · skip
      refine zw_aload ⟨rfl, rfl⟩ rfl ?_
      refine zw_getR 2 ⟨rfl, rfl⟩ zr_0_4 ?_
      refine zw_aload ⟨rfl, rfl⟩ rfl ?_
      refine zw_getR 144 ⟨rfl, rfl⟩ zr_0_13 ?_
      refine zw_getR 145 ⟨rfl, rfl⟩ zr_144_1 ?_
      refine zw_iload ⟨rfl, rfl⟩ rfl ?_
      refine zw_ialdv (v := (ymE σ).2.1 i) ⟨rfl, rfl⟩ za_145 (by omega) (((congrFun (iF 145 (by decide) (by decide)) i).trans (hE i (by omega) (by omega)))) ?_
      refine zw_const ⟨rfl, rfl⟩ ?_
      refine zw_cavv3 ⟨rfl, rfl⟩ rfl zc_2 rfl ?_
      have hj := hT i (by omega)
      have hji := hj.2.2 (by omega)
      rw [show (ymE σ).1 - ((((ymE σ).1 - 1 - i).toNat : Int) + 1) = i by omega] at hji
      refine m_takeOut (by omega) (by omega) ⟨by rw [i3.2.1, hj.2.1]; omega, by rw [i3.2.1, hj.2.1]; omega⟩ (fun N2 p2 => ?_)
      refine zw_iinc_1 ⟨rfl, rfl⟩ (by omega) ?_
      refine zw_goto ⟨rfl, rfl⟩ rfl ?_
      refine ih _ _ ⟨by omega, by omega⟩ ?_ (fun b b1 b2 => (show N2 b = P b by subst p2; funext j; simp [b1, b2]).trans (iF b b1 b2)) (by omega)
      have e := yGo_S i3 hj.1.2.1 ⟨by omega, by omega, by rw [hj.2.1]; omega⟩ p2
      rw [show ((ymE σ).1 - 1 - (i + -1)).toNat = ((ymE σ).1 - 1 - i).toNat + 1 by omega]
      show yTold N2 (yGo (ymT σ ((ymE σ).1 - 1 - i).toNat) ((ymE σ).2.1 ((ymE σ).1 - ((((ymE σ).1 - 1 - i).toNat : Int) + 1))) 1)
      rw [show (ymE σ).1 - ((((ymE σ).1 - 1 - i).toNat : Int) + 1) = i by omega]
      exact e

theorem c_mended_s {M : zM} {Q : zV → zM → Prop} {σ : yS} (hT2 : yVal (ymT σ (ymE σ).1.toNat) ∧ ymT σ (ymE σ).1.toNat 0 = σ 0 - ((ymE σ).1.toNat : Int)) (hm : 0 ≤ (ymE σ).1) (hS2 : yTold M (ymT σ (ymE σ).1.toNat)) (hz2 : M 137 0 = 0 ∧ M 136 0 = 0) (kk : ∀ N3 : zM, (ySet N3 (ymT σ (ymE σ).1.toNat) ∧ (N3 137 0 = 0 ∧ N3 136 0 = 0) ∧ ∀ x, ¬ (105 ≤ x ∧ x ≤ 139) → N3 x = M x) → Q (0, σ 0 - (ymE σ).1) N3) : zWp kX_mended 29 [(1, 0), (0, -1)] [] M Q := by
  refine zw_aload ⟨rfl, rfl⟩ rfl ?_
  refine zw_cavv1 ⟨rfl, rfl⟩ rfl zc_0 rfl ?_
  refine m_settle hT2.1 hS2 hz2 (fun N3 p3 => ?_)
  have s32 : N3 2 2 = σ 0 - (ymE σ).1 := by rw [p3.2.2 2 (by decide), hS2.2.1, hT2.2]; omega
  refine zw_aload ⟨rfl, rfl⟩ rfl ?_
  refine zw_getR 2 ⟨rfl, rfl⟩ zr_0_4 ?_
  refine zw_getIv (v := σ 0 - (ymE σ).1) ⟨rfl, rfl⟩ zc_2 (by decide) (s32) ?_
  refine zw_ret rfl ?_
  exact kk _ p3

theorem c_mended_b {M : zM} {Q : zV → zM → Prop} {σ : yS} {un : Int} {uh : Int → yS} {mk : Int → Int} {im : Int → yS} {tn : Int} {tp : Int → Int} {ff fp : Int} (hC : yCW M σ un uh mk im tn tp ff fp) (hE : yE5 M (ymE σ)) (k : ∀ N : zM, yCw N (yo_mended σ un uh mk im tn tp ff fp).2 → (∀ x, 208 ≤ x → N x = M x) → Q (0, (yo_mended σ un uh mk im tn tp ff fp).1) N) : zWp kX_mended 5 [(1, 0), (3, 0)] [] M Q := by
  obtain ⟨hW, hS, hG, hz, hH, hP, hI, hT, hF1, hF2⟩ := id hC
  have hV := hW.1
  have hn := hV.1
  have hu := hW.2.1.1
  have htn := hW.2.2.2.1
  have hr := ymE_r hV
  have hm : 0 ≤ (ymE σ).1 ∧ (ymE σ).1 ≤ σ 0 := hr.1.1
  refine zw_aload ⟨rfl, rfl⟩ rfl ?_
  refine zw_getR 9 ⟨rfl, rfl⟩ zr_0_5 ?_
  refine zw_aload ⟨rfl, rfl⟩ rfl ?_
  refine zw_getR 2 ⟨rfl, rfl⟩ zr_0_4 ?_
  refine zw_cavv2 ⟨rfl, rfl⟩ rfl zc_9 rfl ?_
  refine m_keep hH hV hS (fun N1 p1 => ?_)
  have eN : ∀ b, b ≠ 0 → ¬ (9 ≤ b ∧ b ≤ 80) → N1 b = M b := fun b b0 b1 => p1.2 b b1
  have q01 : N1 0 1 = tn := by rw [p1.2 0 (by decide)]; exact hT.1
  have q02 : N1 0 2 = ff := by rw [p1.2 0 (by decide)]; exact hF1
  have q03 : N1 0 3 = fp := by rw [p1.2 0 (by decide)]; exact hF2
  have s22 : N1 2 2 = σ 0 := by rw [eN 2 (by decide) (by decide)]; exact hS.2.1
  have hS1 : yTold N1 σ := hS.cg (fun b b1 b2 => eN b (by omega) (by omega))
  have n138 : N1 138 0 = (yBack σ).1 := by rw [eN 138 (by decide) (by decide)]; exact hG.2.2.1
  have q144 : N1 144 0 = (ymE σ).1 := by rw [eN 144 (by decide) (by decide)]; exact hE.1
  refine zw_aload ⟨rfl, rfl⟩ rfl ?_
  refine zw_getR 144 ⟨rfl, rfl⟩ zr_0_13 ?_
  refine zw_getIv (v := (ymE σ).1) ⟨rfl, rfl⟩ zc_144 (by decide) (q144) ?_
  refine zw_const ⟨rfl, rfl⟩ ?_
  refine zw_isub ⟨rfl, rfl⟩ (by omega) ?_
  refine zw_istore_1 ⟨rfl, rfl⟩ ?_
  have hT2 := ymT_r hV (ymE σ).1.toNat (by omega)
  refine c_mended_l (M := N1) hV (fun k k1 k2 => by rw [eN 145 (by decide) (by decide)]; exact hE.2 k k1 k2) hm (fun N2 p2 => ?_) _ _ _ ⟨by omega, by omega⟩ (by rw [show ((ymE σ).1 - 1 - ((ymE σ).1 - 1)).toNat = 0 by omega]; exact hS1) (fun _ _ _ => rfl) (Nat.lt_succ_self _)
  have e2 := p2.2
  refine c_mended_s ⟨hT2.1, hT2.2.1⟩ hm.1 p2.1 (by rw [e2 137 (by decide) (by decide), e2 136 (by decide) (by decide), eN 137 (by decide) (by decide), eN 136 (by decide) (by decide)]; exact hz) (fun N3 p3 => ?_)
  obtain ⟨w1, w2⟩ := yCW_new hC hT2.1 p2.1 (p1.1.cg (fun b b1 b2 => e2 b (by omega) (by omega))) (fun b b0 b1 b2 => (e2 b (by omega) (by omega)).trans (eN b b0 (by omega))) (tn' := tn) (ff' := ff) (fp' := fp) ⟨⟨by rw [e2 0 (by decide) (by decide)]; exact q01, by omega, by omega⟩, by rw [e2 0 (by decide) (by decide)]; exact q02, by rw [e2 0 (by decide) (by decide)]; exact q03⟩ p3
  exact k _ w1 w2

theorem c_mended {M : zM} {Q : zV → zM → Prop} {σ : yS} {un : Int} {uh : Int → yS} {mk : Int → Int} {im : Int → yS} {tn : Int} {tp : Int → Int} {ff fp : Int} (hC : yCW M σ un uh mk im tn tp ff fp) (k : ∀ N : zM, yCw N (yo_mended σ un uh mk im tn tp ff fp).2 → (∀ x, 208 ≤ x → N x = M x) → Q (0, (yo_mended σ un uh mk im tn tp ff fp).1) N) : zWp kX_mended 0 [(1, 0), (3, 0)] [] M Q := by
  obtain ⟨hW, hS, hG, hz, hH, hP, hI, hT, hF1, hF2⟩ := id hC
  have hV := hW.1
  have hn := hV.1
  have hu := hW.2.1.1
  have htn := hW.2.2.2.1
  refine zw_aload ⟨rfl, rfl⟩ rfl ?_
  refine zw_getR 144 ⟨rfl, rfl⟩ zr_0_13 ?_
  refine zw_aload ⟨rfl, rfl⟩ rfl ?_
  refine zw_getR 105 ⟨rfl, rfl⟩ zr_0_8 ?_
  refine zw_cavv2 ⟨rfl, rfl⟩ rfl zc_144 rfl ?_
  refine m_Mechoose hV hG (fun P1 p1 => ?_)
  obtain ⟨hE1, hf1⟩ := p1
  have hC1 := hC.cg (fun b b1 b2 => hf1 b b1)
  exact c_mended_b hC1 hE1 (fun N w1 w2 => k N w1 (fun x hx => (w2 x hx).trans (hf1 x (by omega))))

end