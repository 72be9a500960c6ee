/-! Glyphs: what is drawn of a cluster. A state: how many glyphs, what is known of each, which glyph shows a place -/
abbrev yT : Type := Int × (Int → Int → Int) × (Int → Int)
def yrw (f o1 o2 p c rk w : Int) : Int := if w = 0 then f else if w = 1 then o1 else if w = 2 then o2 else if w = 3 then p else if w = 4 then c else rk
def yem (T : yT) (f o1 o2 p rk c : Int) : yT := (T.1 + 1, (fun w k => if k = T.1 then yrw f o1 o2 p c rk w else T.2.1 w k), T.2.2)
def yshb (T : yT) (p g : Int) : yT := (T.1, T.2.1, fun q => if q = p then g else T.2.2 q)
def yplt (σ : yS) (c : Int) (T : yT) (f p rk : Int) : yT := if p = -1 then T else yshb (yem T f (yL σ p) (-1) p rk c) p T.1
def yfold {α : Type} (f : Int → α → α) (a : Int) : Nat → α → α
  | 0, T => T
  | m + 1, T => f (a + m) (yfold f a m T)
def yfo {α : Type} (f : Int → α → α) (a p : Int) (T : α) : α := yfold f a (p - a).toNat T
theorem yfo_0 {α : Type} (f : Int → α → α) {a p : Int} (h : p ≤ a) (T : α) : yfo f a p T = T := by
  unfold yfo; rw [show (p - a).toNat = 0 by omega]; rfl
theorem yfo_s {α : Type} (f : Int → α → α) {a p : Int} (h : a ≤ p) (T : α) : yfo f a (p + 1) T = f p (yfo f a p T) := by
  unfold yfo
  rw [show (p + 1 - a).toNat = (p - a).toNat + 1 by omega]
  show f (a + ((p - a).toNat : Int)) _ = _
  rw [show a + ((p - a).toNat : Int) = p by omega]
/-- a part of a split sign, a sign, a mark -/
def ydp (σ : yS) (kd rk c p w : Int) (T : yT) : yT :=
  if ykd σ (ypt σ (yL σ p) w) = kd then (if w = 0 then yshb (yem T 6 (ypt σ (yL σ p) w) (-1) p rk c) p T.1 else yem T 6 (ypt σ (yL σ p) w) (-1) p rk c) else T
def ysgs (σ : yS) (kd rk c p : Int) (T : yT) : yT := if yK σ p = kd then yplt σ c T 6 p rk else if yK σ p = 9 then ydp σ kd rk c p 1 (ydp σ kd rk c p 0 T) else T
def ysgn (σ : yS) (kd rk c b : Int) (T : yT) : yT := yfo (ysgs σ kd rk c) (ytl (yK σ) b) (yov (yK σ) b) T
def ymks (σ : yS) (kd rk c p : Int) (T : yT) : yT := if yK σ p = kd then yplt σ c T 7 p rk else T
def ymrk (σ : yS) (kd rk c b : Int) (T : yT) : yT := yfo (ymks σ kd rk c) (ytl (yK σ) b) (yov (yK σ) b) T
def yP (σ : yS) (b k : Int) : Int := ypl (yK σ) b k
def ydcn (σ : yS) (c : Int) (T : yT) (b k la hf rk : Int) : yT :=
  if k = la then yplt σ c T (if hf = 0 then 0 else 1) (yP σ b k) rk
  else yshb (yshb (yshb (yem T (if hf = 0 then 2 else 3) (yL σ (yP σ b k)) (yL σ (yP σ b la)) (yP σ b k) rk c) (yP σ b k) T.1) (yvi (yK σ) (yP σ b k)) T.1) (yP σ b la) T.1
def yhf (σ : yS) (b k : Int) : Int := if ¬ (yjo (yK σ) (yP σ b k) ≠ -1 ∧ yK σ (yjo (yK σ) (yP σ b k)) = 13) ∧ σ (28 + yL σ (yP σ b k)) / 4 % 2 = 1 then 1 else 0
def yla (σ : yS) (b k : Int) : Int := if yjf σ (yK σ) b k = 1 then k + 1 else k
def yah2 (σ : yS) (c b k la hf : Int) (T : yT) : yT :=
  yplt σ c (if hf = 0 then yplt σ c (yplt σ c (ydcn σ c T b k la hf 1) 9 (ynk (yK σ) (yP σ b la)) 1) 8 (yvi (yK σ) (yP σ b la)) 1
    else yshb (yplt σ c (ydcn σ c T b k la hf 1) 9 (ynk (yK σ) (yP σ b la)) 1) (yvi (yK σ) (yP σ b la)) T.1) 10 (yjo (yK σ) (yP σ b la)) 1
def yahs (σ : yS) (c b k : Int) (T : yT) : yT :=
  if (yrp σ (yK σ) b < k ∧ yjf σ (yK σ) b (k - 1) = 1) ∨ yba σ (yK σ) b ≤ yla σ b k then T else yah2 σ c b k (yla σ b k) (yhf σ b (yla σ b k)) T
def yahd (σ : yS) (c b : Int) (T : yT) : yT := yfo (yahs σ c b) (yrp σ (yK σ) b) (yba σ (yK σ) b) T
def ymdb (σ : yS) (b : Int) : Int := if yrp σ (yK σ) b < yba σ (yK σ) b ∧ yjf σ (yK σ) b (yba σ (yK σ) b - 1) = 1 then yba σ (yK σ) b - 1 else yba σ (yK σ) b
def ymid (σ : yS) (c b : Int) (T : yT) : yT :=
  if yK σ b = 1 then yplt σ c (ydcn σ c T b (ymdb σ b) (yba σ (yK σ) b) 0 2) 9 (ynk (yK σ) (yP σ b (yba σ (yK σ) b))) 2
  else yplt σ c (if yso (yK σ b) = 2 then yem T 11 (-1) (-1) (-1) 2 c else if yso (yK σ b) = 1 then yplt σ c T 13 b 2 else yplt σ c T (if yK σ b = 12 ∨ yK σ b = 13 then 10 else 12) b 2) 9 (yow (yK σ) b) 2
def ystk (σ : yS) (c b k : Int) (T : yT) : yT := yplt σ c (yshb (yplt σ c T 4 (yP σ b k) 3) (yvi (yK σ) (yP σ b (k - 1))) T.1) 9 (ynk (yK σ) (yP σ b k)) 3
def ystd (σ : yS) (c b : Int) (T : yT) : yT := yfo (ystk σ c b) (yba σ (yK σ) b + 1) (yms (yK σ) b) T
def yded (σ : yS) (c b : Int) (T : yT) : yT :=
  if ydd (yK σ) b = 1 then (if ytl (yK σ) b + 1 < yov (yK σ) b ∧ (yK σ (ytl (yK σ) b + 1) = 12 ∨ yK σ (ytl (yK σ) b + 1) = 13) then yplt σ c (yplt σ c T 8 (ytl (yK σ) b) 4) 10 (ytl (yK σ) b + 1) 4 else yplt σ c T 8 (ytl (yK σ) b) 4) else T
def yrph (σ : yS) (c b : Int) (T : yT) : yT := if yrp σ (yK σ) b = 1 then yshb (yplt σ c T 5 b 6) (yvi (yK σ) b) T.1 else T
def ydrw (σ : yS) (c b : Int) (T : yT) : yT :=
  ymrk σ 11 9 c b (ysgn σ 8 8 c b (ymrk σ 10 7 c b (yrph σ c b (ysgn σ 6 5 c b (yded σ c b (ysgn σ 7 4 c b (ystd σ c b (ymid σ c b (yahd σ c b (ysgn σ 5 0 c b T))))))))))
/-- how many glyphs come -/
theorem yem_1 (T : yT) (f o1 o2 p rk c : Int) : (yem T f o1 o2 p rk c).1 = T.1 + 1 := rfl
theorem yshb_1 (T : yT) (p g : Int) : (yshb T p g).1 = T.1 := rfl
theorem yplt_1 (σ : yS) (c : Int) (T : yT) (f p rk : Int) : (yplt σ c T f p rk).1 = if p = -1 then T.1 else T.1 + 1 := by unfold yplt; split <;> rfl
theorem yplt_r (σ : yS) (c : Int) (T : yT) (f p rk : Int) : T.1 ≤ (yplt σ c T f p rk).1 ∧ (yplt σ c T f p rk).1 ≤ T.1 + 1 := by rw [yplt_1]; split <;> omega
theorem ydp_1 (σ : yS) (kd rk c p w : Int) (T : yT) : (ydp σ kd rk c p w T).1 = T.1 + (if ykd σ (ypt σ (yL σ p) w) = kd then 1 else 0) := by
  unfold ydp
  split
  · split <;> rfl
  · omega
def ycs (σ : yS) (kd p : Int) : Int := if yK σ p = kd then 1 else if yK σ p = 9 then (if ykd σ (ypt σ (yL σ p) 0) = kd then 1 else 0) + (if ykd σ (ypt σ (yL σ p) 1) = kd then 1 else 0) else 0
def ycm (σ : yS) (kd p : Int) : Int := if yK σ p = kd then 1 else 0
theorem yKm (σ : yS) {p : Int} (h : yK σ p ≠ -1) : p ≠ -1 := fun z => h (by subst z; unfold yK; rw [if_neg (by omega)])
theorem ysgs_1 (σ : yS) {kd : Int} (hk : kd ≠ -1) (rk c p : Int) (T : yT) : (ysgs σ kd rk c p T).1 = T.1 + ycs σ kd p := by
  unfold ysgs ycs
  split
  · rename_i h
    rw [yplt_1, if_neg (yKm σ (by omega))]
  · split
    · rw [ydp_1, ydp_1]; omega
    · omega
theorem ymks_1 (σ : yS) {kd : Int} (hk : kd ≠ -1) (rk c p : Int) (T : yT) : (ymks σ kd rk c p T).1 = T.1 + ycm σ kd p := by
  unfold ymks ycm
  split
  · rename_i h
    rw [yplt_1, if_neg (yKm σ (by omega))]
  · omega
theorem ycs_r (σ : yS) (kd p : Int) : 0 ≤ ycs σ kd p ∧ ycs σ kd p ≤ 2 := by unfold ycs; split; omega; split; (split <;> split <;> omega); omega
theorem ycm_r (σ : yS) (kd p : Int) : 0 ≤ ycm σ kd p ∧ ycm σ kd p ≤ 1 := by unfold ycm; split <;> omega
/-- a sum over places -/
def ysm (f : Int → Int) (a p : Int) : Int := ysum (fun j => f (a + j)) (p - a).toNat
theorem ysm_0 (f : Int → Int) {a p : Int} (h : p ≤ a) : ysm f a p = 0 := by unfold ysm; rw [show (p - a).toNat = 0 by omega]; rfl
theorem ysm_s (f : Int → Int) {a p : Int} (h : a ≤ p) : ysm f a (p + 1) = ysm f a p + f p := by
  unfold ysm
  rw [show (p + 1 - a) = (p - a) + 1 by omega, ysum_s _ (by omega), show a + (p - a) = p by omega]
theorem yind {P : Int → Prop} {a : Int} (h0 : P a) (hs : ∀ p, a ≤ p → P p → P (p + 1)) : ∀ p, a ≤ p → P p := by
  intro p hp
  have : ∀ k : Nat, P (a + k) := by
    intro k
    induction k with
    | zero => rw [show a + ((0 : Nat) : Int) = a by omega]; exact h0
    | succ k ih => rw [show a + ((k + 1 : Nat) : Int) = a + k + 1 by omega]; exact hs _ (by omega) ih
  have := this (p - a).toNat
  rw [show a + ((p - a).toNat : Int) = p by omega] at this
  exact this
theorem ysm_mo (f : Int → Int) (hf : ∀ p, 0 ≤ f p) {a p q : Int} (h : a ≤ p) (h2 : p ≤ q) : ysm f a p ≤ ysm f a q := by
  refine yind (P := fun q => ysm f a p ≤ ysm f a q) (a := p) (Int.le_refl _) (fun q h3 ih => ?_) q h2
  show ysm f a p ≤ ysm f a (q + 1)
  rw [ysm_s f (by omega)]
  have := hf q
  omega
theorem yfo_sg (σ : yS) {kd : Int} (hk : kd ≠ -1) (rk c : Int) {a p : Int} (T : yT) (h : a ≤ p) : (yfo (ysgs σ kd rk c) a p T).1 = T.1 + ysm (ycs σ kd) a p := by
  refine yind (P := fun p => (yfo (ysgs σ kd rk c) a p T).1 = T.1 + ysm (ycs σ kd) a p) ?_ (fun q h3 ih => ?_) p h
  · show (yfo _ a a T).1 = _; rw [yfo_0 _ (Int.le_refl _), ysm_0 _ (Int.le_refl _)]; omega
  · show (yfo _ a (q + 1) T).1 = _
    rw [yfo_s _ h3, ysgs_1 σ hk, ysm_s _ h3, ih]; omega
theorem yfo_mk (σ : yS) {kd : Int} (hk : kd ≠ -1) (rk c : Int) {a p : Int} (T : yT) (h : a ≤ p) : (yfo (ymks σ kd rk c) a p T).1 = T.1 + ysm (ycm σ kd) a p := by
  refine yind (P := fun p => (yfo (ymks σ kd rk c) a p T).1 = T.1 + ysm (ycm σ kd) a p) ?_ (fun q h3 ih => ?_) p h
  · show (yfo _ a a T).1 = _; rw [yfo_0 _ (Int.le_refl _), ysm_0 _ (Int.le_refl _)]; omega
  · show (yfo _ a (q + 1) T).1 = _
    rw [yfo_s _ h3, ymks_1 σ hk, ysm_s _ h3, ih]; omega
/-- all that comes of the tail: two a place at most -/
theorem ytail_n {σ : yS} (hV : yVal σ) {a p : Int} (h : a ≤ p) : ysm (ycs σ 5) a p + ysm (ycs σ 6) a p + ysm (ycs σ 7) a p + ysm (ycs σ 8) a p + ysm (ycm σ 10) a p + ysm (ycm σ 11) a p + ysm (fun q => if yK σ q = 3 ∨ yK σ q = 12 ∨ yK σ q = 13 then 1 else 0) a p ≤ 2 * (p - a) := by
  refine yind (P := fun p => ysm (ycs σ 5) a p + ysm (ycs σ 6) a p + ysm (ycs σ 7) a p + ysm (ycs σ 8) a p + ysm (ycm σ 10) a p + ysm (ycm σ 11) a p + ysm (fun q => if yK σ q = 3 ∨ yK σ q = 12 ∨ yK σ q = 13 then 1 else 0) a p ≤ 2 * (p - a)) ?_ (fun q h3 ih => ?_) p h
  · simp only [ysm_0 _ (Int.le_refl a)]; omega
  · simp only [ysm_s _ h3]
    have : ycs σ 5 q + ycs σ 6 q + ycs σ 7 q + ycs σ 8 q + ycm σ 10 q + ycm σ 11 q + (if yK σ q = 3 ∨ yK σ q = 12 ∨ yK σ q = 13 then 1 else 0) ≤ 2 := by
      unfold ycs ycm
      by_cases h9 : yK σ q = 9
      · rw [h9]
        generalize ykd σ (ypt σ (yL σ q) 0) = x
        generalize ykd σ (ypt σ (yL σ q) 1) = y
        simp
        split <;> split <;> split <;> split <;> split <;> split <;> split <;> split <;> omega
      · simp only [if_neg h9]
        split <;> split <;> split <;> split <;> split <;> split <;> split <;> omega
    omega
theorem ydcn_1 {σ : yS} {b k : Int} (c : Int) (T : yT) (la hf rk : Int) (h : yP σ b k ≠ -1) : (ydcn σ c T b k la hf rk).1 = T.1 + 1 := by
  unfold ydcn
  split
  · rw [yplt_1, if_neg h]
  · rfl
theorem yah2_r {σ : yS} {b k : Int} (c la hf : Int) (T : yT) (h : yP σ b k ≠ -1) : T.1 ≤ (yah2 σ c b k la hf T).1 ∧ (yah2 σ c b k la hf T).1 ≤ T.1 + 4 := by
  unfold yah2
  have h1 := ydcn_1 c T la hf 1 h
  have h2 := yplt_r σ c (ydcn σ c T b k la hf 1) 9 (ynk (yK σ) (yP σ b la)) 1
  split
  · have h3 := yplt_r σ c (yplt σ c (ydcn σ c T b k la hf 1) 9 (ynk (yK σ) (yP σ b la)) 1) 8 (yvi (yK σ) (yP σ b la)) 1
    have h4 := yplt_r σ c (yplt σ c (yplt σ c (ydcn σ c T b k la hf 1) 9 (ynk (yK σ) (yP σ b la)) 1) 8 (yvi (yK σ) (yP σ b la)) 1) 10 (yjo (yK σ) (yP σ b la)) 1
    omega
  · have h4 := yplt_r σ c (yshb (yplt σ c (ydcn σ c T b k la hf 1) 9 (ynk (yK σ) (yP σ b la)) 1) (yvi (yK σ) (yP σ b la)) T.1) 10 (yjo (yK σ) (yP σ b la)) 1
    rw [yshb_1] at h4
    omega
theorem yahs_r {σ : yS} {b k : Int} (c : Int) (T : yT) (h : yP σ b k ≠ -1) : T.1 ≤ (yahs σ c b k T).1 ∧ (yahs σ c b k T).1 ≤ T.1 + 4 := by
  unfold yahs
  split
  · omega
  · exact yah2_r c _ _ T h
theorem ystk_r {σ : yS} (c b k : Int) (T : yT) : T.1 ≤ (ystk σ c b k T).1 ∧ (ystk σ c b k T).1 ≤ T.1 + 2 := by
  unfold ystk
  have h1 := yplt_r σ c T 4 (yP σ b k) 3
  have h4 := yplt_r σ c (yshb (yplt σ c T 4 (yP σ b k) 3) (yvi (yK σ) (yP σ b (k - 1))) T.1) 9 (ynk (yK σ) (yP σ b k)) 3
  rw [yshb_1] at h4
  omega
theorem ymid_r {σ : yS} (c b : Int) (T : yT) : T.1 ≤ (ymid σ c b T).1 ∧ (ymid σ c b T).1 ≤ T.1 + 2 := by
  unfold ymid
  split
  · have h1 : T.1 ≤ (ydcn σ c T b (ymdb σ b) (yba σ (yK σ) b) 0 2).1 ∧ (ydcn σ c T b (ymdb σ b) (yba σ (yK σ) b) 0 2).1 ≤ T.1 + 1 := by
      unfold ydcn
      split
      · exact yplt_r ..
      · show T.1 ≤ T.1 + 1 ∧ T.1 + 1 ≤ T.1 + 1; omega
    have h2 := yplt_r σ c (ydcn σ c T b (ymdb σ b) (yba σ (yK σ) b) 0 2) 9 (ynk (yK σ) (yP σ b (yba σ (yK σ) b))) 2
    omega
  · split
    · have h2 := yplt_r σ c (yem T 11 (-1) (-1) (-1) 2 c) 9 (yow (yK σ) b) 2
      rw [yem_1] at h2
      omega
    · split
      · have h1 := yplt_r σ c T 13 b 2
        have h2 := yplt_r σ c (yplt σ c T 13 b 2) 9 (yow (yK σ) b) 2
        omega
      · have h1 := yplt_r σ c T (if yK σ b = 12 ∨ yK σ b = 13 then 10 else 12) b 2
        have h2 := yplt_r σ c (yplt σ c T (if yK σ b = 12 ∨ yK σ b = 13 then 10 else 12) b 2) 9 (yow (yK σ) b) 2
        omega
theorem yrph_r {σ : yS} (c b : Int) (T : yT) : T.1 ≤ (yrph σ c b T).1 ∧ (yrph σ c b T).1 ≤ T.1 + (if yrp σ (yK σ) b = 1 then 1 else 0) := by
  unfold yrph
  split
  · rw [yshb_1]; exact yplt_r ..
  · omega
theorem yahd_r {σ : yS} (hV : yVal σ) {b p : Int} (c : Int) (T : yT) (h0 : 0 ≤ b) (h1 : b < σ 0) (h : yK σ b = 1) (ha : yrp σ (yK σ) b ≤ p) (hp : p ≤ yba σ (yK σ) b) : T.1 ≤ (yfo (yahs σ c b) (yrp σ (yK σ) b) p T).1 ∧ (yfo (yahs σ c b) (yrp σ (yK σ) b) p T).1 ≤ T.1 + 2 * (yP σ b p - yP σ b (yrp σ (yK σ) b)) := by
  have hK := yKr_K hV
  have hz := yba_r (σ := σ) hK h0 h1 h
  have hr := yrp_r σ (yK σ) b
  revert hp
  refine yind (P := fun p => p ≤ yba σ (yK σ) b → T.1 ≤ (yfo (yahs σ c b) (yrp σ (yK σ) b) p T).1 ∧ (yfo (yahs σ c b) (yrp σ (yK σ) b) p T).1 ≤ T.1 + 2 * (yP σ b p - yP σ b (yrp σ (yK σ) b))) ?_ (fun q h3 ih => ?_) p ha
  · intro _; rw [yfo_0 _ (Int.le_refl _)]; omega
  · intro hq
    have ih := ih (by omega)
    rw [yfo_s _ h3]
    have hl := ypl_lt hK h0 h1 h (show 0 ≤ q by omega) (show q < q + 1 by omega) (by omega)
    have hp := (ypl_r hK h0 h1 h (show 0 ≤ q by omega) (by omega)).1
    have := yahs_r c (yfo (yahs σ c b) (yrp σ (yK σ) b) q T) (k := q) (b := b) (σ := σ) (by unfold yP; omega)
    unfold yP at ih ⊢
    omega
theorem ystd_r {σ : yS} (hV : yVal σ) {b p : Int} (c : Int) (T : yT) (h0 : 0 ≤ b) (h1 : b < σ 0) (h : yK σ b = 1) (ha : yba σ (yK σ) b + 1 ≤ p) (hp : p ≤ ym (yK σ) b) : T.1 ≤ (yfo (ystk σ c b) (yba σ (yK σ) b + 1) p T).1 ∧ (yfo (ystk σ c b) (yba σ (yK σ) b + 1) p T).1 ≤ T.1 + 2 * (p - (yba σ (yK σ) b + 1)) := by
  revert hp
  refine yind (P := fun p => p ≤ ym (yK σ) b → T.1 ≤ (yfo (ystk σ c b) (yba σ (yK σ) b + 1) p T).1 ∧ (yfo (ystk σ c b) (yba σ (yK σ) b + 1) p T).1 ≤ T.1 + 2 * (p - (yba σ (yK σ) b + 1))) ?_ (fun q h3 ih => ?_) p ha
  · intro _; rw [yfo_0 _ (Int.le_refl _)]; omega
  · intro hq
    have ih := ih (by omega)
    rw [yfo_s _ h3]
    have := ystk_r c b q (yfo (ystk σ c b) (yba σ (yK σ) b + 1) q T) (σ := σ)
    omega
