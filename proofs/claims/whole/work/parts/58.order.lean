/-! Clusters compared: the spec -/
def yGk (f o1 o2 : Int) : Prop := (0 ≤ f ∧ f ≤ 13) ∧ (f = 11 ∧ o1 = -1 ∨ f ≠ 11 ∧ 0 ≤ o1 ∧ o1 < 26) ∧ -1 ≤ o2 ∧ o2 < 26
def yGq (T : yT) : Prop := ∀ k, 0 ≤ k → k < T.1 → yGk (T.2.1 0 k) (T.2.1 1 k) (T.2.1 2 k)
theorem yGq.em {T : yT} (h : yGq T) {f o1 o2 p rk c : Int} (g : yGk f o1 o2) : yGq (yem T f o1 o2 p rk c) := by
  intro k k1 k2
  have k2 : k < T.1 + 1 := k2
  show yGk (if k = T.1 then yrw f o1 o2 p c rk 0 else T.2.1 0 k) (if k = T.1 then yrw f o1 o2 p c rk 1 else T.2.1 1 k) (if k = T.1 then yrw f o1 o2 p c rk 2 else T.2.1 2 k)
  by_cases q : k = T.1
  · rw [if_pos q, if_pos q, if_pos q]; exact g
  · rw [if_neg q, if_neg q, if_neg q]; exact h k k1 (by omega)
theorem yGq.sh {T : yT} (h : yGq T) {p g : Int} : yGq (yshb T p g) := h
theorem yGq.plt {σ : yS} {T : yT} (hV : yVal σ) (h : yGq T) {c f p rk : Int} (hf : 0 ≤ f ∧ f ≤ 13 ∧ f ≠ 11) (hp : p = -1 ∨ 0 ≤ p ∧ p < σ 0) : yGq (yplt σ c T f p rk) := by
  unfold yplt
  split
  · exact h
  · have := yL_r hV (p := p) (by omega) (by omega)
    exact (h.em ⟨⟨hf.1, hf.2.1⟩, Or.inr ⟨hf.2.2, this⟩, by decide, by decide⟩).sh
theorem ykd_i {σ : yS} {l kd : Int} (h : ykd σ l = kd) (hk : 5 ≤ kd) : 0 ≤ l ∧ l < 26 := by
  unfold ykd at h
  by_cases g : 0 ≤ l ∧ l < 26
  · exact g
  · rw [if_neg g] at h; omega
theorem yGq.dp {σ : yS} {T : yT} (h : yGq T) {kd rk c p w : Int} (hk : 5 ≤ kd) : yGq (ydp σ kd rk c p w T) := by
  unfold ydp
  split
  · rename_i g
    have := ykd_i g hk
    have e : yGq (yem T 6 (ypt σ (yL σ p) w) (-1) p rk c) := h.em ⟨by decide, Or.inr ⟨by decide, this⟩, by decide, by decide⟩
    split
    · exact e.sh
    · exact e
  · exact h
theorem yGq.sgn {σ : yS} {T : yT} (hV : yVal σ) (h : yGq T) {kd rk c b : Int} (hk : 5 ≤ kd) : yGq (ysgn σ kd rk c b T) := by
  refine yfo_i (P := yGq) h (fun q _ _ T hT => ?_)
  unfold ysgs
  split
  · rename_i g
    exact hT.plt hV ⟨by decide, by decide, by decide⟩ (Or.inr (ykp (yKr_K hV) (by omega)))
  · split
    · exact (hT.dp hk).dp hk
    · exact hT
theorem yGq.mrk {σ : yS} {T : yT} (hV : yVal σ) (h : yGq T) {kd rk c b : Int} (hk : 5 ≤ kd) : yGq (ymrk σ kd rk c b T) := by
  refine yfo_i (P := yGq) h (fun q _ _ T hT => ?_)
  unfold ymks
  split
  · rename_i g
    exact hT.plt hV ⟨by decide, by decide, by decide⟩ (Or.inr (ykp (yKr_K hV) (by omega)))
  · exact hT
theorem yGq.dcn {σ : yS} {T : yT} (hV : yVal σ) (h : yGq T) {c b k la hf rk : Int} (hk : 0 ≤ yP σ b k ∧ yP σ b k < σ 0) (hl : 0 ≤ yP σ b la ∧ yP σ b la < σ 0) : yGq (ydcn σ c T b k la hf rk) := by
  unfold ydcn
  split
  · exact h.plt hV (by split <;> exact ⟨by decide, by decide, by decide⟩) (Or.inr hk)
  · have a := yL_r hV hk.1 hk.2
    have a2 := yL_r hV hl.1 hl.2
    exact (((h.em ⟨by split <;> exact ⟨by decide, by decide⟩, Or.inr ⟨by split <;> decide, a⟩, by omega, by omega⟩).sh).sh).sh
theorem yGq.ah2 {σ : yS} {T : yT} (hV : yVal σ) (h : yGq T) {c b k la hf : Int} (hk : 0 ≤ yP σ b k ∧ yP σ b k < σ 0) (hl : 0 ≤ yP σ b la ∧ yP σ b la < σ 0) : yGq (yah2 σ c b k la hf T) := by
  have hK := yKr_K hV
  have a := h.dcn hV (c := c) (hf := hf) (rk := 1) hk hl
  have v : yvi (yK σ) (yP σ b la) = -1 ∨ 0 ≤ yvi (yK σ) (yP σ b la) ∧ yvi (yK σ) (yP σ b la) < σ 0 := (yvi_p (p := yP σ b la) hK).imp_right (fun z => ⟨z.1, z.2.1⟩)
  have b1 := a.plt hV (c := c) (f := 9) (rk := 1) ⟨by decide, by decide, by decide⟩ (ynk_p (p := yP σ b la) hK)
  unfold yah2
  refine yGq.plt hV ?_ ⟨by decide, by decide, by decide⟩ (yjo_p hK)
  split
  · exact b1.plt hV ⟨by decide, by decide, by decide⟩ v
  · exact b1.sh
theorem yP_in {σ : yS} {b k : Int} (hV : yVal σ) (hb : 0 ≤ b ∧ b < σ 0) (h : yK σ b = 1) (hk : 0 ≤ k ∧ k < ym (yK σ) b) : 0 ≤ yP σ b k ∧ yP σ b k < σ 0 := by
  have := (ypl_r (yKr_K hV) hb.1 hb.2 h hk.1 hk.2).1
  unfold yP
  omega
theorem yGq.ahd {σ : yS} {T : yT} (hV : yVal σ) (h : yGq T) {c b : Int} (hb : 0 ≤ b ∧ b < σ 0) : yGq (yahd σ c b T) := by
  by_cases h1 : yK σ b = 1
  · have hr := yrp_r σ (yK σ) b
    have hbr := yba_r (σ := σ) (yKr_K hV) hb.1 hb.2 h1
    refine yfo_i (P := yGq) h (fun q q1 q2 T hT => ?_)
    unfold yahs
    split
    · exact hT
    · rename_i g
      have hla : q ≤ yla σ b q ∧ yla σ b q < yba σ (yK σ) b := by
        refine ⟨?_, ?_⟩
        · unfold yla; split <;> omega
        · by_cases z : yla σ b q < yba σ (yK σ) b
          · exact z
          · exact absurd (Or.inr (by omega)) g
      exact hT.ah2 hV (yP_in hV hb h1 ⟨by omega, by omega⟩) (yP_in hV hb h1 ⟨by omega, by omega⟩)
  · unfold yahd
    rw [yfo_0 _ (by unfold yrp yba; rw [if_neg h1, if_neg (fun z => h1 z.1)]; exact Int.le_refl _)]
    exact h
theorem yow_p {σ : yS} {b : Int} (hV : yVal σ) : yow (yK σ) b = -1 ∨ 0 ≤ yow (yK σ) b ∧ yow (yK σ) b < σ 0 := by
  unfold yow
  split
  · rename_i g; exact Or.inr (ykp (yKr_K hV) (by omega))
  · split
    · rename_i g; exact Or.inr (ykp (yKr_K hV) (by omega))
    · exact Or.inl rfl
theorem ymdb_r {σ : yS} {b : Int} (hV : yVal σ) (hb : 0 ≤ b ∧ b < σ 0) (h1 : yK σ b = 1) : (0 ≤ ymdb σ b ∧ ymdb σ b < ym (yK σ) b) ∧ 0 ≤ yba σ (yK σ) b ∧ yba σ (yK σ) b < ym (yK σ) b := by
  have hr := yrp_r σ (yK σ) b
  have hbr := yba_r (σ := σ) (yKr_K hV) hb.1 hb.2 h1
  unfold ymdb
  split <;> omega
theorem yGq.mid {σ : yS} {T : yT} (hV : yVal σ) (h : yGq T) {c b : Int} (hb : 0 ≤ b ∧ b < σ 0) : yGq (ymid σ c b T) := by
  unfold ymid
  split
  · rename_i h1
    have hm := ymdb_r hV hb h1
    exact (h.dcn hV (yP_in hV hb h1 hm.1) (yP_in hV hb h1 hm.2)).plt hV ⟨by decide, by decide, by decide⟩ (ynk_p (yKr_K hV))
  · refine yGq.plt hV ?_ ⟨by decide, by decide, by decide⟩ (yow_p hV)
    split
    · exact h.em ⟨by decide, Or.inl ⟨rfl, rfl⟩, by decide, by decide⟩
    · split
      · exact h.plt hV ⟨by decide, by decide, by decide⟩ (Or.inr hb)
      · exact h.plt hV (by split <;> exact ⟨by decide, by decide, by decide⟩) (Or.inr hb)
theorem yGq.std {σ : yS} {T : yT} (hV : yVal σ) (h : yGq T) {c b : Int} (hb : 0 ≤ b ∧ b < σ 0) : yGq (ystd σ c b T) := by
  by_cases h1 : yK σ b = 1
  · have hr := yrp_r σ (yK σ) b
    have hbr := yba_r (σ := σ) (yKr_K hV) hb.1 hb.2 h1
    have em : yms (yK σ) b = ym (yK σ) b := if_pos h1
    refine yfo_i (P := yGq) h (fun q q1 q2 T hT => ?_)
    unfold ystk
    exact ((hT.plt hV ⟨by decide, by decide, by decide⟩ (Or.inr (yP_in hV hb h1 ⟨by omega, by omega⟩))).sh).plt hV ⟨by decide, by decide, by decide⟩ (ynk_p (yKr_K hV))
  · unfold ystd
    rw [yfo_0 _ (by unfold yms yba; rw [if_neg h1, if_neg h1]; decide)]
    exact h
theorem yGq.ded {σ : yS} {T : yT} (hV : yVal σ) (h : yGq T) {c b : Int} : yGq (yded σ c b T) := by
  unfold yded
  split
  · rename_i g
    have g2 : yK σ (ytl (yK σ) b) = 3 := by
      unfold ydd at g
      by_cases z : (yso (yK σ b) = 0 ∨ yso (yK σ b) = 2) ∧ yK σ (ytl (yK σ) b) = 3
      · exact z.2
      · rw [if_neg z] at g; omega
    have a := h.plt hV (c := c) (f := 8) (rk := 4) ⟨by decide, by decide, by decide⟩ (Or.inr (ykp (yKr_K hV) (p := ytl (yK σ) b) (by omega)))
    split
    · rename_i g3
      exact a.plt hV ⟨by decide, by decide, by decide⟩ (Or.inr (ykp (yKr_K hV) (by omega)))
    · exact a
  · exact h
theorem yGq.drw {σ : yS} {T : yT} (hV : yVal σ) (h : yGq T) {c b : Int} (hb : 0 ≤ b ∧ b < σ 0) : yGq (ydrw σ c b T) := by
  have a := (((((h.sgn hV (kd := 5) (rk := 0) (c := c) (b := b) (by decide)).ahd hV (c := c) hb).mid hV (c := c) hb).std hV (c := c) hb).sgn hV (kd := 7) (rk := 4) (c := c) (b := b) (by decide)).ded hV (c := c) (b := b)
  have e := a.sgn hV (kd := 6) (rk := 5) (c := c) (b := b) (by decide)
  have f : yGq (yrph σ c b (ysgn σ 6 5 c b (yded σ c b (ysgn σ 7 4 c b (ystd σ c b (ymid σ c b (yahd σ c b (ysgn σ 5 0 c b T)))))))) := by
    unfold yrph
    split
    · exact (e.plt hV ⟨by decide, by decide, by decide⟩ (Or.inr hb)).sh
    · exact e
  exact ((f.mrk hV (by decide)).sgn hV (by decide)).mrk hV (by decide)
theorem yGq_k {σ : yS} (hV : yVal σ) : ∀ c, 0 ≤ c → c ≤ (yci (yK σ) (σ 0)) → yGq (yTk σ c) := by
  intro c c1
  refine yind (P := fun c => c ≤ (yci (yK σ) (σ 0)) → yGq (yTk σ c)) (a := 0) ?_ ?_ c c1
  · intro _ k k1 k2
    rw [yTk_0] at k2
    exact absurd k2 (by show ¬ (k < 0); omega)
  · intro p p1 ih hp
    have hcl := (yB_cl (yKr_K hV) (c := p) p1 (by omega)).1
    rw [show yTk σ (p + 1) = ydrw σ p (yB (yK σ) p) (yTk σ p) from yTc_s σ _ p1]
    exact (ih (by omega)).drw hV ⟨by omega, by omega⟩
/-- each cluster has a glyph of rank 2 -/
theorem yplt_f {σ : yS} {T : yT} {c f p rk : Int} (hp : p ≠ -1) : T.1 < (yplt σ c T f p rk).1 ∧ (yplt σ c T f p rk).2.1 5 T.1 = rk := by
  unfold yplt
  rw [if_neg hp]
  refine ⟨by show T.1 < T.1 + 1; omega, ?_⟩
  show (if T.1 = T.1 then yrw f (yL σ p) (-1) p c rk 5 else _) = rk
  rw [if_pos rfl]; rfl
theorem yem_f {T : yT} {f o1 o2 p rk c : Int} : T.1 < (yem T f o1 o2 p rk c).1 ∧ (yem T f o1 o2 p rk c).2.1 5 T.1 = rk := by
  refine ⟨by show T.1 < T.1 + 1; omega, ?_⟩
  show (if T.1 = T.1 then yrw f o1 o2 p c rk 5 else _) = rk
  rw [if_pos rfl]; rfl
theorem yPre.f {T U : yT} {k rk : Int} (h : yPre T U) (g : k < T.1 ∧ T.2.1 5 k = rk) : k < U.1 ∧ U.2.1 5 k = rk := ⟨Int.lt_of_lt_of_le g.1 h.1, (h.2 5 k g.1).trans g.2⟩
theorem ymid_f {σ : yS} {T : yT} {c b : Int} (hV : yVal σ) (hb : 0 ≤ b ∧ b < σ 0) : T.1 < (ymid σ c b T).1 ∧ (ymid σ c b T).2.1 5 T.1 = 2 := by
  unfold ymid
  split
  · rename_i h1
    have hm := ymdb_r hV hb h1
    have hp := yP_in hV hb h1 hm.1
    refine (yPre_plt ..).f ?_
    unfold ydcn
    split
    · exact yplt_f (by omega)
    · exact yem_f
  · refine (yPre_plt ..).f ?_
    split
    · exact yem_f
    · split
      · exact yplt_f (by omega)
      · exact yplt_f (by omega)
theorem ybG_e {σ : yS} (hV : yVal σ) {i : Int} (h0 : 0 ≤ i) (h1 : i < (yci (yK σ) (σ 0))) : ∃ k, ((yTk σ i).1 ≤ k ∧ k < (yTk σ (i + 1)).1) ∧ (yLast σ).2.1 5 k = 2 := by
  have hcl := (yB_cl (yKr_K hV) (c := i) h0 h1).1
  have e : yTk σ (i + 1) = ydrw σ i (yB (yK σ) i) (yTk σ i) := yTc_s σ _ h0
  have p0 : yPre (yTk σ i) (yahd σ i (yB (yK σ) i) (ysgn σ 5 0 i (yB (yK σ) i) (yTk σ i))) := (yPre_sgn ..).tr (yPre_ahd ..)
  have f1 := ymid_f (c := i) (T := yahd σ i (yB (yK σ) i) (ysgn σ 5 0 i (yB (yK σ) i) (yTk σ i))) hV (b := yB (yK σ) i) ⟨by omega, by omega⟩
  have p1 : yPre (ymid σ i (yB (yK σ) i) (yahd σ i (yB (yK σ) i) (ysgn σ 5 0 i (yB (yK σ) i) (yTk σ i)))) (yTk σ (i + 1)) := by
    rw [e]
    unfold ydrw
    exact (yPre_std ..).tr ((yPre_sgn ..).tr ((yPre_ded ..).tr ((yPre_sgn ..).tr ((yPre_rph ..).tr ((yPre_mrk ..).tr ((yPre_sgn ..).tr (yPre_mrk ..)))))))
  have f2 := p1.f f1
  exact ⟨_, ⟨p0.1, f2.1⟩, ((yTk_pre σ (i := i + 1) (j := (yci (yK σ) (σ 0))) (by omega) (by omega)).f f2).2⟩
theorem yfst_h {P : Int → Prop} [∀ k, Decidable (P k)] : ∀ (m : Nat) (a : Int), (∃ k, (a ≤ k ∧ k < a + m) ∧ P k) → (a ≤ yfst P a m ∧ yfst P a m < a + m) ∧ P (yfst P a m) := by
  intro m
  induction m with
  | zero => intro a ⟨k, h, _⟩; omega
  | succ m ih =>
    intro a ⟨k, h, hp⟩
    unfold yfst
    by_cases g : P a
    · rw [if_pos g]; exact ⟨⟨Int.le_refl _, by omega⟩, g⟩
    · rw [if_neg g]
      have hk : k ≠ a := fun z => g (z ▸ hp)
      have := ih (a + 1) ⟨k, by omega, hp⟩
      exact ⟨by omega, this.2⟩
def ybG (σ : yS) (i : Int) : Int := yfst (fun k => (yLast σ).2.1 5 k = 2) (yTk σ i).1 ((yTk σ (i + 1)).1 - (yTk σ i).1).toNat
theorem ybG_r {σ : yS} (hV : yVal σ) {i : Int} (h0 : 0 ≤ i) (h1 : i < (yci (yK σ) (σ 0))) : ((yTk σ i).1 ≤ ybG σ i ∧ ybG σ i < (yTk σ (i + 1)).1) ∧ (yLast σ).2.1 5 (ybG σ i) = 2 := by
  obtain ⟨k, hk, h2⟩ := ybG_e hV h0 h1
  have hp := (yTk_pre σ (i := i) (j := i + 1) h0 (by omega)).1
  have := yfst_h (P := fun k => (yLast σ).2.1 5 k = 2) ((yTk σ (i + 1)).1 - (yTk σ i).1).toNat (yTk σ i).1 ⟨k, by omega, h2⟩
  unfold ybG
  exact ⟨by omega, this.2⟩
def yo1 (T : yT) (k : Int) : Int := if T.2.1 0 k = 11 then 26 else T.2.1 1 k
def yco (T : yT) (a b : Int) : Int := if yo1 T a ≠ yo1 T b then (if yo1 T a < yo1 T b then 1 else 2) else if T.2.1 0 a ≠ T.2.1 0 b then (if T.2.1 0 a < T.2.1 0 b then 1 else 2) else if T.2.1 2 a = T.2.1 2 b then 0 else if T.2.1 2 a < T.2.1 2 b then 1 else 2
def yic (T : yT) : Nat → Int → Int → Int → Int
  | 0, _, _, g => g
  | m + 1, a, b, g => if g ≠ 0 then g else yic T m (a + 1) (b + 1) (yco T a b)
def ylen (σ : yS) (i : Int) : Int := (yTk σ (i + 1)).1 - (yTk σ i).1
def yit (σ : yS) (i j : Int) : Int := yic (yLast σ) (min (ylen σ i) (ylen σ j)).toNat (yTk σ i).1 (yTk σ j).1 (yco (yLast σ) (ybG σ i) (ybG σ j))
def yin (σ : yS) (i j : Int) : Int := if yit σ i j ≠ 0 then yit σ i j else if ylen σ i = ylen σ j then 0 else if ylen σ i < ylen σ j then 1 else 2
theorem yco_r (T : yT) (a b : Int) : 0 ≤ yco T a b ∧ yco T a b ≤ 2 := by unfold yco; (repeat' split) <;> decide
theorem yic_r (T : yT) : ∀ (m : Nat) (a b g : Int), 0 ≤ g ∧ g ≤ 2 → 0 ≤ yic T m a b g ∧ yic T m a b g ≤ 2 := by
  intro m
  induction m with
  | zero => intro a b g h; exact h
  | succ m ih =>
    intro a b g h
    unfold yic
    split
    · exact h
    · exact ih _ _ _ (yco_r T a b)
theorem yic_g (T : yT) : ∀ (m : Nat) (a b g : Int), g ≠ 0 → yic T m a b g = g := by
  intro m a b g h
  cases m with
  | zero => rfl
  | succ m => unfold yic; rw [if_pos h]
theorem yin_r (σ : yS) (i j : Int) : 0 ≤ yin σ i j ∧ yin σ i j ≤ 2 := by
  unfold yin yit
  split
  · exact yic_r _ _ _ _ _ (yco_r _ _ _)
  · (repeat' split) <;> decide
theorem yco_s (T : yT) (a b : Int) : yco T a b = 0 ↔ yco T b a = 0 := by
  unfold yco
  (repeat' split) <;> omega
theorem yic_s (T : yT) : ∀ (m : Nat) (a b g h : Int), (g = 0 ↔ h = 0) → (yic T m a b g = 0 ↔ yic T m b a h = 0) := by
  intro m
  induction m with
  | zero => intro a b g h e; exact e
  | succ m ih =>
    intro a b g h e
    unfold yic
    by_cases z : g = 0
    · rw [if_neg (by omega), if_neg (fun y => y (e.mp z))]
      exact ih _ _ _ _ (yco_s T a b)
    · rw [if_pos z, if_pos (fun y => z (e.mpr y))]
      exact e
theorem yin_s (σ : yS) (i j : Int) : yin σ i j = 0 ↔ yin σ j i = 0 := by
  have h := yic_s (yLast σ) (min (ylen σ i) (ylen σ j)).toNat (yTk σ i).1 (yTk σ j).1 _ _ (yco_s (yLast σ) (ybG σ i) (ybG σ j))
  unfold yin yit
  rw [show min (ylen σ j) (ylen σ i) = min (ylen σ i) (ylen σ j) from Int.min_comm _ _]
  generalize yic (yLast σ) (min (ylen σ i) (ylen σ j)).toNat (yTk σ i).1 (yTk σ j).1 (yco (yLast σ) (ybG σ i) (ybG σ j)) = u at h ⊢
  generalize yic (yLast σ) (min (ylen σ i) (ylen σ j)).toNat (yTk σ j).1 (yTk σ i).1 (yco (yLast σ) (ybG σ j) (ybG σ i)) = v at h ⊢
  (repeat' split) <;> omega
def yrel (d g : Int) : Prop := (d = 0 ∧ g = 0) ∨ ((-200 ≤ d ∧ d < 0) ∧ g = 1) ∨ ((0 < d ∧ d ≤ 200) ∧ g = 2)
def ya_alike (σ : yS) (i j : Int) : Int := if (0 ≤ i ∧ i < (yci (yK σ) (σ 0))) ∧ 0 ≤ j ∧ j < (yci (yK σ) (σ 0)) then (if yin σ i j = 0 then 1 else 0) else -2
def ya_compare (σ : yS) (i j : Int) : Int := if (0 ≤ i ∧ i < (yci (yK σ) (σ 0))) ∧ 0 ≤ j ∧ j < (yci (yK σ) (σ 0)) then yin σ i j else -2
def ynew (σ : yS) (i : Int) : Int := yall (fun j => yin σ j i ≠ 0) i.toNat
def ya_kinds (σ : yS) : Int := ysum (ynew σ) ((yci (yK σ) (σ 0))).toNat
def yah1 (σ : yS) (c d : Int) : Int := if yin σ d c = 1 ∨ (yin σ d c = 0 ∧ d < c) then 1 else 0
def yah (σ : yS) (c : Int) : Int := ysum (yah1 σ c) ((yci (yK σ) (σ 0))).toNat
def ya_ranked (σ : yS) (i : Int) : Int := if i < 0 then -3 else yfst (fun c => yah σ c = i) 0 ((yci (yK σ) (σ 0))).toNat
theorem ynew_r (σ : yS) (i : Int) : ynew σ i = 0 ∨ ynew σ i = 1 := yall_r _ _
theorem yah1_r (σ : yS) (c d : Int) : yah1 σ c d = 0 ∨ yah1 σ c d = 1 := by unfold yah1; split <;> omega
section
set_option maxHeartbeats 4000000
theorem m_ordFirst {a : Int} {M : zM} {Q : zV → zM → Prop} {σ : yS} (hV : yVal σ) (hG : ySet M σ) (ha : 0 ≤ a ∧ a < (yLast σ).1) (k : Q (0, yo1 (yLast σ) a) M) : zWp kDr_orderedFirst 0 [(1, 126), (0, a)] [] M Q := by
  have hK := yKr_K hV
  have hn := hV.1
  have hci := yci_60 hK
  have eyL : (yTk σ (yci (yK σ) (σ 0))).1 = (yLast σ).1 := rfl
  have hgl0 := yLast_r hV
  refine zw_aload ⟨rfl, rfl⟩ rfl ?_
  refine zw_getR 127 ⟨rfl, rfl⟩ zr_126_1 ?_
  refine zw_const ⟨rfl, rfl⟩ ?_
  refine zw_row ⟨rfl, rfl⟩ zrw_127 (by omega) ?_
  rw [show ((128 : Int) + 0) = 128 from rfl]
  refine zw_iload ⟨rfl, rfl⟩ rfl ?_
  refine zw_ialdv (v := (yLast σ).2.1 0 (a)) ⟨rfl, rfl⟩ za_128 (by omega) ((hG.2.1.2.1 (a) (by omega) (by omega)).1) ?_
  refine zw_const ⟨rfl, rfl⟩ ?_
  refine zw_icne ⟨rfl, rfl⟩ rfl (fun c1 => ?_) (fun c1 => ?_)
  · skip
    refine zw_aload ⟨rfl, rfl⟩ rfl ?_
    refine zw_getR 127 ⟨rfl, rfl⟩ zr_126_1 ?_
    refine zw_const ⟨rfl, rfl⟩ ?_
    refine zw_row ⟨rfl, rfl⟩ zrw_127 (by omega) ?_
    rw [show ((128 : Int) + 1) = 129 from rfl]
    refine zw_iload ⟨rfl, rfl⟩ rfl ?_
    refine zw_ialdv (v := (yLast σ).2.1 1 (a)) ⟨rfl, rfl⟩ za_129 (by omega) ((hG.2.1.2.1 (a) (by omega) (by omega)).2.1) ?_
    refine zw_ret rfl ?_
    rw [show yo1 (yLast σ) a = (yLast σ).2.1 1 (a) from if_neg (by omega)] at k
    exact k
  · skip
    refine zw_const ⟨rfl, rfl⟩ ?_
    refine zw_goto ⟨rfl, rfl⟩ rfl ?_
    refine zw_ret rfl ?_
    rw [show yo1 (yLast σ) a = 26 from if_pos (by omega)] at k
    exact k

theorem yo1_r {σ : yS} (hV : yVal σ) {a : Int} (ha : 0 ≤ a ∧ a < (yLast σ).1) : (0 ≤ yo1 (yLast σ) a ∧ yo1 (yLast σ) a ≤ 26) ∧ (0 ≤ (yLast σ).2.1 0 a ∧ (yLast σ).2.1 0 a ≤ 13) ∧ (-1 ≤ (yLast σ).2.1 2 a ∧ (yLast σ).2.1 2 a < 26) ∧ ((yLast σ).2.1 1 a = -1 ↔ (yLast σ).2.1 0 a = 11) ∧ yo1 (yLast σ) a = if (yLast σ).2.1 1 a = -1 then 26 else (yLast σ).2.1 1 a := by
  have hg := yGq_k hV (yci (yK σ) (σ 0)) (yci_60 (yKr_K hV)).1 (Int.le_refl _) a ha.1 ha.2
  have hg : yGk ((yLast σ).2.1 0 a) ((yLast σ).2.1 1 a) ((yLast σ).2.1 2 a) := hg
  unfold yGk at hg
  unfold yo1
  (repeat' split) <;> omega

theorem m_glyphsInOrder {a b : Int} {M : zM} {Q : zV → zM → Prop} {σ : yS} (hV : yVal σ) (hG : ySet M σ) (ha : 0 ≤ a ∧ a < (yLast σ).1) (hb : 0 ≤ b ∧ b < (yLast σ).1) (kk : ∀ d, yrel d (yco (yLast σ) a b) → Q (0, d) M) : zWp kDr_glyphsInOrder 0 [(1, 126), (0, a), (0, b), (3, 0)] [] M Q := by
  have hK := yKr_K hV
  have hn := hV.1
  have hci := yci_60 hK
  have eyL : (yTk σ (yci (yK σ) (σ 0))).1 = (yLast σ).1 := rfl
  have hgl0 := yLast_r hV
  have ra := yo1_r hV ha
  have rb := yo1_r hV hb
  replace ra := And.intro ra.1 (And.intro ra.2.1 ra.2.2.1)
  replace rb := And.intro rb.1 (And.intro rb.2.1 rb.2.2.1)
  refine zw_aload ⟨rfl, rfl⟩ rfl ?_
  refine zw_iload ⟨rfl, rfl⟩ rfl ?_
  refine zw_callv2 ⟨rfl, rfl⟩ rfl zc_126 rfl ?_
  refine m_ordFirst hV hG ha ?_
  refine zw_aload ⟨rfl, rfl⟩ rfl ?_
  refine zw_iload ⟨rfl, rfl⟩ rfl ?_
  refine zw_callv2 ⟨rfl, rfl⟩ rfl zc_126 rfl ?_
  refine m_ordFirst hV hG hb ?_
  refine zw_isub ⟨rfl, rfl⟩ (by omega) ?_
  refine zw_istore_3 ⟨rfl, rfl⟩ ?_
  refine zw_iload ⟨rfl, rfl⟩ rfl ?_
  refine zw_ifne ⟨rfl, rfl⟩ rfl (fun c1 => ?_) (fun c1 => ?_)
  · skip
    refine zw_iload ⟨rfl, rfl⟩ rfl ?_
    refine zw_ifne ⟨rfl, rfl⟩ rfl (fun c2 => ?_) (fun c2 => ?_)
    · skip
      refine zw_iload ⟨rfl, rfl⟩ rfl ?_
      refine zw_ret rfl ?_
      refine kk _ ?_
      unfold yrel yco
      (repeat' split) <;> omega
    · skip
      refine zw_aload ⟨rfl, rfl⟩ rfl ?_
      refine zw_getR 127 ⟨rfl, rfl⟩ zr_126_1 ?_
      refine zw_const ⟨rfl, rfl⟩ ?_
      refine zw_row ⟨rfl, rfl⟩ zrw_127 (by omega) ?_
      rw [show ((128 : Int) + 2) = 130 from rfl]
      refine zw_iload ⟨rfl, rfl⟩ rfl ?_
      refine zw_ialdv (v := (yLast σ).2.1 2 (a)) ⟨rfl, rfl⟩ za_130 (by omega) ((hG.2.1.2.1 (a) (by omega) (by omega)).2.2.1) ?_
      refine zw_aload ⟨rfl, rfl⟩ rfl ?_
      refine zw_getR 127 ⟨rfl, rfl⟩ zr_126_1 ?_
      refine zw_const ⟨rfl, rfl⟩ ?_
      refine zw_row ⟨rfl, rfl⟩ zrw_127 (by omega) ?_
      rw [show ((128 : Int) + 2) = 130 from rfl]
      refine zw_iload ⟨rfl, rfl⟩ rfl ?_
      refine zw_ialdv (v := (yLast σ).2.1 2 (b)) ⟨rfl, rfl⟩ za_130 (by omega) ((hG.2.1.2.1 (b) (by omega) (by omega)).2.2.1) ?_
      refine zw_isub ⟨rfl, rfl⟩ (by omega) ?_
      refine zw_goto ⟨rfl, rfl⟩ rfl ?_
      refine zw_ret rfl ?_
      refine kk _ ?_
      unfold yrel yco
      (repeat' split) <;> omega
  · skip
    refine zw_aload ⟨rfl, rfl⟩ rfl ?_
    refine zw_getR 127 ⟨rfl, rfl⟩ zr_126_1 ?_
    refine zw_const ⟨rfl, rfl⟩ ?_
    refine zw_row ⟨rfl, rfl⟩ zrw_127 (by omega) ?_
    rw [show ((128 : Int) + 0) = 128 from rfl]
    refine zw_iload ⟨rfl, rfl⟩ rfl ?_
    refine zw_ialdv (v := (yLast σ).2.1 0 (a)) ⟨rfl, rfl⟩ za_128 (by omega) ((hG.2.1.2.1 (a) (by omega) (by omega)).1) ?_
    refine zw_aload ⟨rfl, rfl⟩ rfl ?_
    refine zw_getR 127 ⟨rfl, rfl⟩ zr_126_1 ?_
    refine zw_const ⟨rfl, rfl⟩ ?_
    refine zw_row ⟨rfl, rfl⟩ zrw_127 (by omega) ?_
    rw [show ((128 : Int) + 0) = 128 from rfl]
    refine zw_iload ⟨rfl, rfl⟩ rfl ?_
    refine zw_ialdv (v := (yLast σ).2.1 0 (b)) ⟨rfl, rfl⟩ za_128 (by omega) ((hG.2.1.2.1 (b) (by omega) (by omega)).1) ?_
    refine zw_isub ⟨rfl, rfl⟩ (by omega) ?_
    refine zw_istore_3 ⟨rfl, rfl⟩ ?_
    refine zw_iload ⟨rfl, rfl⟩ rfl ?_
    refine zw_ifne ⟨rfl, rfl⟩ rfl (fun c3 => ?_) (fun c3 => ?_)
    · skip
      refine zw_iload ⟨rfl, rfl⟩ rfl ?_
      refine zw_ret rfl ?_
      refine kk _ ?_
      unfold yrel yco
      (repeat' split) <;> omega
    · skip
      refine zw_aload ⟨rfl, rfl⟩ rfl ?_
      refine zw_getR 127 ⟨rfl, rfl⟩ zr_126_1 ?_
      refine zw_const ⟨rfl, rfl⟩ ?_
      refine zw_row ⟨rfl, rfl⟩ zrw_127 (by omega) ?_
      rw [show ((128 : Int) + 2) = 130 from rfl]
      refine zw_iload ⟨rfl, rfl⟩ rfl ?_
      refine zw_ialdv (v := (yLast σ).2.1 2 (a)) ⟨rfl, rfl⟩ za_130 (by omega) ((hG.2.1.2.1 (a) (by omega) (by omega)).2.2.1) ?_
      refine zw_aload ⟨rfl, rfl⟩ rfl ?_
      refine zw_getR 127 ⟨rfl, rfl⟩ zr_126_1 ?_
      refine zw_const ⟨rfl, rfl⟩ ?_
      refine zw_row ⟨rfl, rfl⟩ zrw_127 (by omega) ?_
      rw [show ((128 : Int) + 2) = 130 from rfl]
      refine zw_iload ⟨rfl, rfl⟩ rfl ?_
      refine zw_ialdv (v := (yLast σ).2.1 2 (b)) ⟨rfl, rfl⟩ za_130 (by omega) ((hG.2.1.2.1 (b) (by omega) (by omega)).2.2.1) ?_
      refine zw_isub ⟨rfl, rfl⟩ (by omega) ?_
      refine zw_goto ⟨rfl, rfl⟩ rfl ?_
      refine zw_ret rfl ?_
      refine kk _ ?_
      unfold yrel yco
      (repeat' split) <;> omega

theorem m_baseGlyph_l  {i : Int} {M : zM} {Q : zV → zM → Prop} {σ : yS} (hV : yVal σ) (hG : ySet M σ) (hi : 0 ≤ i ∧ i < (yci (yK σ) (σ 0))) (k : Q (0, ybG σ i) M) : ∀ (f : Nat) (p : Int), ((yTk σ i).1 ≤ p ∧ p ≤ (yTk σ (i + 1)).1) → (yfst (fun k => (yLast σ).2.1 5 k = 2) p ((yTk σ (i + 1)).1 - p).toNat = ybG σ i) → ((yTk σ (i + 1)).1 - p).toNat < f → zWp kDr_baseGlyph 5 [(1, 126), (0, i), (0, p)] [] M Q := by
  intro f
  induction f with
  | zero => intro p i1 i2 hf; exact absurd hf (Nat.not_lt_zero _)
  | succ f ih =>
    intro p i1 i2 hf
    have hK := yKr_K hV
    have hn := hV.1
    have hci := yci_60 hK
    have eyL : (yTk σ (yci (yK σ) (σ 0))).1 = (yLast σ).1 := rfl
    have hgl0 := yLast_r hV
    have g1 := yg_r hV hi.1 (show i ≤ (yci (yK σ) (σ 0)) by omega)
    have g2 := yg_r hV (show 0 ≤ i + 1 by omega) (show i + 1 ≤ (yci (yK σ) (σ 0)) by omega)
    have gr := ybG_r hV hi.1 hi.2
    refine zw_iload ⟨rfl, rfl⟩ rfl ?_
    refine zw_aload ⟨rfl, rfl⟩ rfl ?_
    refine zw_getR 137 ⟨rfl, rfl⟩ zr_126_4 ?_
    refine zw_iload ⟨rfl, rfl⟩ rfl ?_
    refine zw_const ⟨rfl, rfl⟩ ?_
    refine zw_iadd ⟨rfl, rfl⟩ (by omega) ?_
    refine zw_ialdv (v := (yTk σ ((i + 1))).1) ⟨rfl, rfl⟩ za_137 (by omega) ((hG.2.1.2.2.2 ((i + 1)) (by omega) (by omega)).1) ?_
    refine zw_icge ⟨rfl, rfl⟩ rfl (fun c1 => ?_) (fun c1 => ?_)
    · skip
      refine zw_aload ⟨rfl, rfl⟩ rfl ?_
      refine zw_getR 137 ⟨rfl, rfl⟩ zr_126_4 ?_
      refine zw_iload ⟨rfl, rfl⟩ rfl ?_
      refine zw_ialdv (v := (yTk σ (i)).1) ⟨rfl, rfl⟩ za_137 (by omega) ((hG.2.1.2.2.2 (i) (by omega) (by omega)).1) ?_
      refine zw_ret rfl ?_
      exfalso
      rw [show ((yTk σ (i + 1)).1 - p).toNat = 0 by omega] at i2
      unfold yfst at i2
      omega
    · skip
      rw [show ((yTk σ (i + 1)).1 - p).toNat = ((yTk σ (i + 1)).1 - (p + 1)).toNat + 1 by omega] at i2
      unfold yfst at i2
      refine zw_aload ⟨rfl, rfl⟩ rfl ?_
      refine zw_getR 127 ⟨rfl, rfl⟩ zr_126_1 ?_
      refine zw_const ⟨rfl, rfl⟩ ?_
      refine zw_row ⟨rfl, rfl⟩ zrw_127 (by omega) ?_
      rw [show ((128 : Int) + 5) = 133 from rfl]
      refine zw_iload ⟨rfl, rfl⟩ rfl ?_
      refine zw_ialdv (v := (yLast σ).2.1 5 (p)) ⟨rfl, rfl⟩ za_133 (by omega) ((hG.2.1.2.1 (p) (by omega) (by omega)).2.2.2.2.2.1) ?_
      refine zw_const ⟨rfl, rfl⟩ ?_
      refine zw_icne ⟨rfl, rfl⟩ rfl (fun c2 => ?_) (fun c2 => ?_)
      · skip
        refine zw_iinc_2 ⟨rfl, rfl⟩ (by omega) ?_
        refine zw_goto ⟨rfl, rfl⟩ rfl ?_
        rw [if_neg (by omega)] at i2
        exact ih _ ⟨by omega, by omega⟩ i2 (by omega)
      · skip
        refine zw_iload ⟨rfl, rfl⟩ rfl ?_
        refine zw_ret rfl ?_
        rw [if_pos (by omega)] at i2
        rw [← i2] at k
        exact k

theorem m_baseGlyph {i : Int} {M : zM} {Q : zV → zM → Prop} {σ : yS} (hV : yVal σ) (hG : ySet M σ) (hi : 0 ≤ i ∧ i < (yci (yK σ) (σ 0))) (k : Q (0, ybG σ i) M) : zWp kDr_baseGlyph 0 [(1, 126), (0, i), (3, 0)] [] M Q := by
  have hK := yKr_K hV
  have hn := hV.1
  have hci := yci_60 hK
  have eyL : (yTk σ (yci (yK σ) (σ 0))).1 = (yLast σ).1 := rfl
  have hgl0 := yLast_r hV
  have g1 := yg_r hV hi.1 (show i ≤ (yci (yK σ) (σ 0)) by omega)
  have g2 := yg_r hV (show 0 ≤ i + 1 by omega) (show i + 1 ≤ (yci (yK σ) (σ 0)) by omega)
  have gr := ybG_r hV hi.1 hi.2
  refine zw_aload ⟨rfl, rfl⟩ rfl ?_
  refine zw_getR 137 ⟨rfl, rfl⟩ zr_126_4 ?_
  refine zw_iload ⟨rfl, rfl⟩ rfl ?_
  refine zw_ialdv (v := (yTk σ (i)).1) ⟨rfl, rfl⟩ za_137 (by omega) ((hG.2.1.2.2.2 (i) (by omega) (by omega)).1) ?_
  refine zw_istore_2 ⟨rfl, rfl⟩ ?_
  exact m_baseGlyph_l hV hG hi k _ _ ⟨Int.le_refl _, by omega⟩ rfl (Nat.lt_succ_self _)

theorem m_inOrder_l  {i j : Int} {M : zM} {Q : zV → zM → Prop} {σ : yS} (hV : yVal σ) (hG : ySet M σ) (hi : 0 ≤ i ∧ i < (yci (yK σ) (σ 0))) (hj : 0 ≤ j ∧ j < (yci (yK σ) (σ 0))) (kk : ∀ d, yrel d (yin σ i j) → Q (0, d) M) : ∀ (f : Nat) (d t : Int), (0 ≤ t ∧ t ≤ min (ylen σ i) (ylen σ j)) → (∃ g, yrel d g ∧ yic (yLast σ) (min (ylen σ i) (ylen σ j) - t).toNat ((yTk σ i).1 + t) ((yTk σ j).1 + t) g = yit σ i j) → (min (ylen σ i) (ylen σ j) - t).toNat < f → zWp kDr_inOrder 31 [(1, 126), (0, i), (0, j), (0, d), (0, (min (ylen σ i) (ylen σ j))), (0, t)] [] M Q := by
  intro f
  induction f with
  | zero => intro d t i1 i2 hf; exact absurd hf (Nat.not_lt_zero _)
  | succ f ih =>
    intro d t i1 i2 hf
    have hK := yKr_K hV
    have hn := hV.1
    have hci := yci_60 hK
    have eyL : (yTk σ (yci (yK σ) (σ 0))).1 = (yLast σ).1 := rfl
    have hgl0 := yLast_r hV
    have g1 := yg_r hV hi.1 (show i ≤ (yci (yK σ) (σ 0)) by omega)
    have g2 := yg_r hV (show 0 ≤ i + 1 by omega) (show i + 1 ≤ (yci (yK σ) (σ 0)) by omega)
    have gi := (yTk_pre σ (i := i) (j := i + 1) (by omega) (by omega)).1
    have g3 := yg_r hV hj.1 (show j ≤ (yci (yK σ) (σ 0)) by omega)
    have g4 := yg_r hV (show 0 ≤ j + 1 by omega) (show j + 1 ≤ (yci (yK σ) (σ 0)) by omega)
    have gj := (yTk_pre σ (i := j) (j := j + 1) (by omega) (by omega)).1
    have hl180 := yLast_r hV
    have eli : ylen σ i = (yTk σ (i + 1)).1 - (yTk σ i).1 := rfl
    have elj : ylen σ j = (yTk σ (j + 1)).1 - (yTk σ j).1 := rfl
    obtain ⟨g, hr, hg⟩ := i2
    refine zw_iload ⟨rfl, rfl⟩ rfl ?_
    refine zw_iload ⟨rfl, rfl⟩ rfl ?_
    refine zw_icge ⟨rfl, rfl⟩ rfl (fun c1 => ?_) (fun c1 => ?_)
    · skip
      refine zw_iload ⟨rfl, rfl⟩ rfl ?_
      refine zw_ifne ⟨rfl, rfl⟩ rfl (fun c2 => ?_) (fun c2 => ?_)
      · skip
        refine zw_iload ⟨rfl, rfl⟩ rfl ?_
        refine zw_ret rfl ?_
        have hg2 : yic (yLast σ) (min (ylen σ i) (ylen σ j) - t).toNat ((yTk σ i).1 + t) ((yTk σ j).1 + t) g = g := by
          by_cases z : g = 0
          · have hd : d = 0 := by unfold yrel at hr; omega
            rw [show (min (ylen σ i) (ylen σ j) - t).toNat = 0 by omega]; rfl
          · exact yic_g _ _ _ _ _ z
        rw [hg2] at hg
        refine kk _ ?_
        unfold yin
        rw [← hg]
        unfold yrel at hr ⊢
        (repeat' split) <;> omega
      · skip
        refine zw_aload ⟨rfl, rfl⟩ rfl ?_
        refine zw_iload ⟨rfl, rfl⟩ rfl ?_
        refine zw_callv2 ⟨rfl, rfl⟩ rfl zc_126 rfl ?_
        refine m_glyphsOfC hV hG ?_
        rw [if_pos hi]
        rw [← eli]
        refine zw_aload ⟨rfl, rfl⟩ rfl ?_
        refine zw_iload ⟨rfl, rfl⟩ rfl ?_
        refine zw_callv2 ⟨rfl, rfl⟩ rfl zc_126 rfl ?_
        refine m_glyphsOfC hV hG ?_
        rw [if_pos hj]
        rw [← elj]
        refine zw_isub ⟨rfl, rfl⟩ (by omega) ?_
        refine zw_goto ⟨rfl, rfl⟩ rfl ?_
        refine zw_ret rfl ?_
        have hg2 : yic (yLast σ) (min (ylen σ i) (ylen σ j) - t).toNat ((yTk σ i).1 + t) ((yTk σ j).1 + t) g = g := by
          by_cases z : g = 0
          · have hd : d = 0 := by unfold yrel at hr; omega
            rw [show (min (ylen σ i) (ylen σ j) - t).toNat = 0 by omega]; rfl
          · exact yic_g _ _ _ _ _ z
        rw [hg2] at hg
        refine kk _ ?_
        unfold yin
        rw [← hg]
        unfold yrel at hr ⊢
        (repeat' split) <;> omega
    · skip
      refine zw_iload ⟨rfl, rfl⟩ rfl ?_
      refine zw_ifne ⟨rfl, rfl⟩ rfl (fun c3 => ?_) (fun c3 => ?_)
      · skip
        refine zw_iload ⟨rfl, rfl⟩ rfl ?_
        refine zw_ifne ⟨rfl, rfl⟩ rfl (fun c4 => ?_) (fun c4 => ?_)
        · skip
          refine zw_iload ⟨rfl, rfl⟩ rfl ?_
          refine zw_ret rfl ?_
          have hg2 : yic (yLast σ) (min (ylen σ i) (ylen σ j) - t).toNat ((yTk σ i).1 + t) ((yTk σ j).1 + t) g = g := by
            by_cases z : g = 0
            · have hd : d = 0 := by unfold yrel at hr; omega
              rw [show (min (ylen σ i) (ylen σ j) - t).toNat = 0 by omega]; rfl
            · exact yic_g _ _ _ _ _ z
          rw [hg2] at hg
          refine kk _ ?_
          unfold yin
          rw [← hg]
          unfold yrel at hr ⊢
          (repeat' split) <;> omega
        · skip
          refine zw_aload ⟨rfl, rfl⟩ rfl ?_
          refine zw_iload ⟨rfl, rfl⟩ rfl ?_
          refine zw_callv2 ⟨rfl, rfl⟩ rfl zc_126 rfl ?_
          refine m_glyphsOfC hV hG ?_
          rw [if_pos hi]
          rw [← eli]
          refine zw_aload ⟨rfl, rfl⟩ rfl ?_
          refine zw_iload ⟨rfl, rfl⟩ rfl ?_
          refine zw_callv2 ⟨rfl, rfl⟩ rfl zc_126 rfl ?_
          refine m_glyphsOfC hV hG ?_
          rw [if_pos hj]
          rw [← elj]
          refine zw_isub ⟨rfl, rfl⟩ (by omega) ?_
          refine zw_goto ⟨rfl, rfl⟩ rfl ?_
          refine zw_ret rfl ?_
          have hg2 : yic (yLast σ) (min (ylen σ i) (ylen σ j) - t).toNat ((yTk σ i).1 + t) ((yTk σ j).1 + t) g = g := by
            by_cases z : g = 0
            · have hd : d = 0 := by unfold yrel at hr; omega
              rw [show (min (ylen σ i) (ylen σ j) - t).toNat = 0 by omega]; rfl
            · exact yic_g _ _ _ _ _ z
          rw [hg2] at hg
          refine kk _ ?_
          unfold yin
          rw [← hg]
          unfold yrel at hr ⊢
          (repeat' split) <;> omega
      · skip
        have hg0 : g = 0 := by unfold yrel at hr; omega
        rw [show (min (ylen σ i) (ylen σ j) - t).toNat = (min (ylen σ i) (ylen σ j) - (t + 1)).toNat + 1 by omega] at hg
        unfold yic at hg
        rw [if_neg (by omega)] at hg
        refine zw_aload ⟨rfl, rfl⟩ rfl ?_
        refine zw_aload ⟨rfl, rfl⟩ rfl ?_
        refine zw_getR 137 ⟨rfl, rfl⟩ zr_126_4 ?_
        refine zw_iload ⟨rfl, rfl⟩ rfl ?_
        refine zw_ialdv (v := (yTk σ (i)).1) ⟨rfl, rfl⟩ za_137 (by omega) ((hG.2.1.2.2.2 (i) (by omega) (by omega)).1) ?_
        refine zw_iload ⟨rfl, rfl⟩ rfl ?_
        refine zw_iadd ⟨rfl, rfl⟩ (by omega) ?_
        refine zw_aload ⟨rfl, rfl⟩ rfl ?_
        refine zw_getR 137 ⟨rfl, rfl⟩ zr_126_4 ?_
        refine zw_iload ⟨rfl, rfl⟩ rfl ?_
        refine zw_ialdv (v := (yTk σ (j)).1) ⟨rfl, rfl⟩ za_137 (by omega) ((hG.2.1.2.2.2 (j) (by omega) (by omega)).1) ?_
        refine zw_iload ⟨rfl, rfl⟩ rfl ?_
        refine zw_iadd ⟨rfl, rfl⟩ (by omega) ?_
        refine zw_callv3 ⟨rfl, rfl⟩ rfl zc_126 rfl ?_
        refine m_glyphsInOrder hV hG ⟨by omega, by omega⟩ ⟨by omega, by omega⟩ (fun d2 hd2 => ?_)
        refine zw_istore_3 ⟨rfl, rfl⟩ ?_
        refine zw_iinc_5 ⟨rfl, rfl⟩ (by omega) ?_
        refine zw_goto ⟨rfl, rfl⟩ rfl ?_
        refine ih _ _ ⟨by omega, by omega⟩ ⟨_, hd2, ?_⟩ (by omega)
        rw [← hg, show (yTk σ i).1 + (t + 1) = (yTk σ i).1 + t + 1 by omega, show (yTk σ j).1 + (t + 1) = (yTk σ j).1 + t + 1 by omega]

theorem m_inOrder {i j : Int} {M : zM} {Q : zV → zM → Prop} {σ : yS} (hV : yVal σ) (hG : ySet M σ) (hi : 0 ≤ i ∧ i < (yci (yK σ) (σ 0))) (hj : 0 ≤ j ∧ j < (yci (yK σ) (σ 0))) (kk : ∀ d, yrel d (yin σ i j) → Q (0, d) M) : zWp kDr_inOrder 0 [(1, 126), (0, i), (0, j), (3, 0), (3, 0), (3, 0)] [] M Q := by
  have hK := yKr_K hV
  have hn := hV.1
  have hci := yci_60 hK
  have eyL : (yTk σ (yci (yK σ) (σ 0))).1 = (yLast σ).1 := rfl
  have hgl0 := yLast_r hV
  have g1 := yg_r hV hi.1 (show i ≤ (yci (yK σ) (σ 0)) by omega)
  have g2 := yg_r hV (show 0 ≤ i + 1 by omega) (show i + 1 ≤ (yci (yK σ) (σ 0)) by omega)
  have gi := (yTk_pre σ (i := i) (j := i + 1) (by omega) (by omega)).1
  have g3 := yg_r hV hj.1 (show j ≤ (yci (yK σ) (σ 0)) by omega)
  have g4 := yg_r hV (show 0 ≤ j + 1 by omega) (show j + 1 ≤ (yci (yK σ) (σ 0)) by omega)
  have gj := (yTk_pre σ (i := j) (j := j + 1) (by omega) (by omega)).1
  have hl180 := yLast_r hV
  have eli : ylen σ i = (yTk σ (i + 1)).1 - (yTk σ i).1 := rfl
  have elj : ylen σ j = (yTk σ (j + 1)).1 - (yTk σ j).1 := rfl
  have bi := (ybG_r hV hi.1 hi.2).1
  have bj := (ybG_r hV hj.1 hj.2).1
  refine zw_aload ⟨rfl, rfl⟩ rfl ?_
  refine zw_getR 105 ⟨rfl, rfl⟩ zr_126_6 ?_
  refine zw_iload ⟨rfl, rfl⟩ rfl ?_
  refine zw_callv2 ⟨rfl, rfl⟩ rfl zc_105 rfl ?_
  refine zw_iload ⟨rfl, rfl⟩ rfl ?_
  refine zw_iflt ⟨rfl, rfl⟩ rfl (fun c1 => ?_) (fun c1 => ?_)
  · skip
    refine zw_const ⟨rfl, rfl⟩ ?_
    refine zw_zret rfl (by first | exact Or.inl rfl | exact Or.inr rfl | omega) ?_
    refine zw_ifeq ⟨rfl, rfl⟩ rfl (fun _ => ?_) (fun q => absurd (by decide) q)
    refine zw_const ⟨rfl, rfl⟩ ?_
    refine zw_ret rfl ?_
    exfalso; omega
  · skip
    refine zw_iload ⟨rfl, rfl⟩ rfl ?_
    refine zw_aload ⟨rfl, rfl⟩ rfl ?_
    refine zw_getIv (v := (yci (yK σ) (σ 0))) ⟨rfl, rfl⟩ zc_105 (by decide) (hG.1.1.1.1) ?_
    refine zw_icge ⟨rfl, rfl⟩ rfl (fun c3 => ?_) (fun c3 => ?_)
    · skip
      refine zw_const ⟨rfl, rfl⟩ ?_
      refine zw_zret rfl (by first | exact Or.inl rfl | exact Or.inr rfl | omega) ?_
      refine zw_ifeq ⟨rfl, rfl⟩ rfl (fun _ => ?_) (fun q => absurd (by decide) q)
      refine zw_const ⟨rfl, rfl⟩ ?_
      refine zw_ret rfl ?_
      exfalso; omega
    · skip
      refine zw_const ⟨rfl, rfl⟩ ?_
      refine zw_goto ⟨rfl, rfl⟩ rfl ?_
      refine zw_zret rfl (by first | exact Or.inl rfl | exact Or.inr rfl | omega) ?_
      refine zw_ifeq ⟨rfl, rfl⟩ rfl (fun q => absurd q (by decide)) (fun _ => ?_)
      refine zw_aload ⟨rfl, rfl⟩ rfl ?_
      refine zw_getR 105 ⟨rfl, rfl⟩ zr_126_6 ?_
      refine zw_iload ⟨rfl, rfl⟩ rfl ?_
      refine zw_callv2 ⟨rfl, rfl⟩ rfl zc_105 rfl ?_
      refine zw_iload ⟨rfl, rfl⟩ rfl ?_
      refine zw_iflt ⟨rfl, rfl⟩ rfl (fun c6 => ?_) (fun c6 => ?_)
      · skip
        refine zw_const ⟨rfl, rfl⟩ ?_
        refine zw_zret rfl (by first | exact Or.inl rfl | exact Or.inr rfl | omega) ?_
        refine zw_ifne ⟨rfl, rfl⟩ rfl (fun q => absurd q (by decide)) (fun _ => ?_)
        refine zw_const ⟨rfl, rfl⟩ ?_
        refine zw_ret rfl ?_
        exfalso; omega
      · skip
        refine zw_iload ⟨rfl, rfl⟩ rfl ?_
        refine zw_aload ⟨rfl, rfl⟩ rfl ?_
        refine zw_getIv (v := (yci (yK σ) (σ 0))) ⟨rfl, rfl⟩ zc_105 (by decide) (hG.1.1.1.1) ?_
        refine zw_icge ⟨rfl, rfl⟩ rfl (fun c8 => ?_) (fun c8 => ?_)
        · skip
          refine zw_const ⟨rfl, rfl⟩ ?_
          refine zw_zret rfl (by first | exact Or.inl rfl | exact Or.inr rfl | omega) ?_
          refine zw_ifne ⟨rfl, rfl⟩ rfl (fun q => absurd q (by decide)) (fun _ => ?_)
          refine zw_const ⟨rfl, rfl⟩ ?_
          refine zw_ret rfl ?_
          exfalso; omega
        · skip
          refine zw_const ⟨rfl, rfl⟩ ?_
          refine zw_goto ⟨rfl, rfl⟩ rfl ?_
          refine zw_zret rfl (by first | exact Or.inl rfl | exact Or.inr rfl | omega) ?_
          refine zw_ifne ⟨rfl, rfl⟩ rfl (fun _ => ?_) (fun q => absurd (by decide) q)
          refine zw_aload ⟨rfl, rfl⟩ rfl ?_
          refine zw_aload ⟨rfl, rfl⟩ rfl ?_
          refine zw_iload ⟨rfl, rfl⟩ rfl ?_
          refine zw_callv2 ⟨rfl, rfl⟩ rfl zc_126 rfl ?_
          refine m_baseGlyph hV hG hi ?_
          refine zw_aload ⟨rfl, rfl⟩ rfl ?_
          refine zw_iload ⟨rfl, rfl⟩ rfl ?_
          refine zw_callv2 ⟨rfl, rfl⟩ rfl zc_126 rfl ?_
          refine m_baseGlyph hV hG hj ?_
          refine zw_callv3 ⟨rfl, rfl⟩ rfl zc_126 rfl ?_
          refine m_glyphsInOrder hV hG ⟨by omega, by omega⟩ ⟨by omega, by omega⟩ (fun d1 hd1 => ?_)
          refine zw_istore_3 ⟨rfl, rfl⟩ ?_
          refine zw_aload ⟨rfl, rfl⟩ rfl ?_
          refine zw_iload ⟨rfl, rfl⟩ rfl ?_
          refine zw_callv2 ⟨rfl, rfl⟩ rfl zc_126 rfl ?_
          refine m_glyphsOfC hV hG ?_
          rw [if_pos hi]
          rw [← eli]
          refine zw_aload ⟨rfl, rfl⟩ rfl ?_
          refine zw_iload ⟨rfl, rfl⟩ rfl ?_
          refine zw_callv2 ⟨rfl, rfl⟩ rfl zc_126 rfl ?_
          refine m_glyphsOfC hV hG ?_
          rw [if_pos hj]
          rw [← elj]
          refine zw_min ⟨rfl, rfl⟩ (Nat.le_of_ble_eq_true rfl) ?_
          refine zw_istore_4 ⟨rfl, rfl⟩ ?_
          refine zw_const ⟨rfl, rfl⟩ ?_
          refine zw_istore_5 ⟨rfl, rfl⟩ ?_
          have emin : (if ylen σ i ≤ ylen σ j then ylen σ i else ylen σ j) = min (ylen σ i) (ylen σ j) := by split <;> omega
          rw [emin]
          exact m_inOrder_l hV hG hi hj kk _ _ _ ⟨Int.le_refl _, by omega⟩ ⟨_, hd1, by rw [Int.sub_zero, Int.add_zero, Int.add_zero]; rfl⟩ (Nat.lt_succ_self _)

theorem c_alike {i j : Int} {M : zM} {Q : zV → zM → Prop} {σ : yS} (hV : yVal σ) (hS : yTold M σ) (hG : ySet M σ)  (k : Q (0, ya_alike σ i j) M) : zWp kX_alike 0 [(1, 0), (0, i), (0, j)] [] M Q := by
  have hK := yKr_K hV
  have hn := hV.1
  have hci := yci_60 hK
  refine zw_aload ⟨rfl, rfl⟩ rfl ?_
  refine zw_getR 105 ⟨rfl, rfl⟩ zr_0_8 ?_
  refine zw_iload ⟨rfl, rfl⟩ rfl ?_
  refine zw_callv2 ⟨rfl, rfl⟩ rfl zc_105 rfl ?_
  refine zw_iload ⟨rfl, rfl⟩ rfl ?_
  refine zw_iflt ⟨rfl, rfl⟩ rfl (fun c1 => ?_) (fun c1 => ?_)
  · skip
    refine zw_const ⟨rfl, rfl⟩ ?_
    refine zw_zret rfl (by first | exact Or.inl rfl | exact Or.inr rfl | omega) ?_
    refine zw_ifeq ⟨rfl, rfl⟩ rfl (fun _ => ?_) (fun q => absurd (by decide) q)
    refine zw_const ⟨rfl, rfl⟩ ?_
    refine zw_ret rfl ?_
    rw [show ya_alike σ i j = (-2) from by unfold ya_alike; (repeat' split) <;> omega] at k
    exact k
  · skip
    refine zw_iload ⟨rfl, rfl⟩ rfl ?_
    refine zw_aload ⟨rfl, rfl⟩ rfl ?_
    refine zw_getIv (v := (yci (yK σ) (σ 0))) ⟨rfl, rfl⟩ zc_105 (by decide) (hG.1.1.1.1) ?_
    refine zw_icge ⟨rfl, rfl⟩ rfl (fun c3 => ?_) (fun c3 => ?_)
    · skip
      refine zw_const ⟨rfl, rfl⟩ ?_
      refine zw_zret rfl (by first | exact Or.inl rfl | exact Or.inr rfl | omega) ?_
      refine zw_ifeq ⟨rfl, rfl⟩ rfl (fun _ => ?_) (fun q => absurd (by decide) q)
      refine zw_const ⟨rfl, rfl⟩ ?_
      refine zw_ret rfl ?_
      rw [show ya_alike σ i j = (-2) from by unfold ya_alike; (repeat' split) <;> omega] at k
      exact k
    · skip
      refine zw_const ⟨rfl, rfl⟩ ?_
      refine zw_goto ⟨rfl, rfl⟩ rfl ?_
      refine zw_zret rfl (by first | exact Or.inl rfl | exact Or.inr rfl | omega) ?_
      refine zw_ifeq ⟨rfl, rfl⟩ rfl (fun q => absurd q (by decide)) (fun _ => ?_)
      refine zw_aload ⟨rfl, rfl⟩ rfl ?_
      refine zw_getR 105 ⟨rfl, rfl⟩ zr_0_8 ?_
      refine zw_iload ⟨rfl, rfl⟩ rfl ?_
      refine zw_callv2 ⟨rfl, rfl⟩ rfl zc_105 rfl ?_
      refine zw_iload ⟨rfl, rfl⟩ rfl ?_
      refine zw_iflt ⟨rfl, rfl⟩ rfl (fun c6 => ?_) (fun c6 => ?_)
      · skip
        refine zw_const ⟨rfl, rfl⟩ ?_
        refine zw_zret rfl (by first | exact Or.inl rfl | exact Or.inr rfl | omega) ?_
        refine zw_ifne ⟨rfl, rfl⟩ rfl (fun q => absurd q (by decide)) (fun _ => ?_)
        refine zw_const ⟨rfl, rfl⟩ ?_
        refine zw_ret rfl ?_
        rw [show ya_alike σ i j = (-2) from by unfold ya_alike; (repeat' split) <;> omega] at k
        exact k
      · skip
        refine zw_iload ⟨rfl, rfl⟩ rfl ?_
        refine zw_aload ⟨rfl, rfl⟩ rfl ?_
        refine zw_getIv (v := (yci (yK σ) (σ 0))) ⟨rfl, rfl⟩ zc_105 (by decide) (hG.1.1.1.1) ?_
        refine zw_icge ⟨rfl, rfl⟩ rfl (fun c8 => ?_) (fun c8 => ?_)
        · skip
          refine zw_const ⟨rfl, rfl⟩ ?_
          refine zw_zret rfl (by first | exact Or.inl rfl | exact Or.inr rfl | omega) ?_
          refine zw_ifne ⟨rfl, rfl⟩ rfl (fun q => absurd q (by decide)) (fun _ => ?_)
          refine zw_const ⟨rfl, rfl⟩ ?_
          refine zw_ret rfl ?_
          rw [show ya_alike σ i j = (-2) from by unfold ya_alike; (repeat' split) <;> omega] at k
          exact k
        · skip
          refine zw_const ⟨rfl, rfl⟩ ?_
          refine zw_goto ⟨rfl, rfl⟩ rfl ?_
          refine zw_zret rfl (by first | exact Or.inl rfl | exact Or.inr rfl | omega) ?_
          refine zw_ifne ⟨rfl, rfl⟩ rfl (fun _ => ?_) (fun q => absurd (by decide) q)
          refine zw_aload ⟨rfl, rfl⟩ rfl ?_
          refine zw_getR 126 ⟨rfl, rfl⟩ zr_0_10 ?_
          refine zw_iload ⟨rfl, rfl⟩ rfl ?_
          refine zw_iload ⟨rfl, rfl⟩ rfl ?_
          refine zw_callv3 ⟨rfl, rfl⟩ rfl zc_126 rfl ?_
          refine m_inOrder hV hG ⟨by omega, by omega⟩ ⟨by omega, by omega⟩ (fun d hd => ?_)
          unfold yrel at hd
          refine zw_ifne ⟨rfl, rfl⟩ rfl (fun c11 => ?_) (fun c11 => ?_)
          · skip
            refine zw_const ⟨rfl, rfl⟩ ?_
            refine zw_ret rfl ?_
            rw [show ya_alike σ i j = 0 from by unfold ya_alike; (repeat' split) <;> omega] at k
            exact k
          · skip
            refine zw_const ⟨rfl, rfl⟩ ?_
            refine zw_goto ⟨rfl, rfl⟩ rfl ?_
            refine zw_ret rfl ?_
            rw [show ya_alike σ i j = 1 from by unfold ya_alike; (repeat' split) <;> omega] at k
            exact k

theorem c_compare {i j : Int} {M : zM} {Q : zV → zM → Prop} {σ : yS} (hV : yVal σ) (hS : yTold M σ) (hG : ySet M σ)  (k : Q (0, ya_compare σ i j) M) : zWp kX_compare 0 [(1, 0), (0, i), (0, j), (3, 0)] [] M Q := by
  have hK := yKr_K hV
  have hn := hV.1
  have hci := yci_60 hK
  refine zw_aload ⟨rfl, rfl⟩ rfl ?_
  refine zw_getR 105 ⟨rfl, rfl⟩ zr_0_8 ?_
  refine zw_iload ⟨rfl, rfl⟩ rfl ?_
  refine zw_callv2 ⟨rfl, rfl⟩ rfl zc_105 rfl ?_
  refine zw_iload ⟨rfl, rfl⟩ rfl ?_
  refine zw_iflt ⟨rfl, rfl⟩ rfl (fun c1 => ?_) (fun c1 => ?_)
  · skip
    refine zw_const ⟨rfl, rfl⟩ ?_
    refine zw_zret rfl (by first | exact Or.inl rfl | exact Or.inr rfl | omega) ?_
    refine zw_ifeq ⟨rfl, rfl⟩ rfl (fun _ => ?_) (fun q => absurd (by decide) q)
    refine zw_const ⟨rfl, rfl⟩ ?_
    refine zw_ret rfl ?_
    rw [show ya_compare σ i j = (-2) from by unfold ya_compare; (repeat' split) <;> omega] at k
    exact k
  · skip
    refine zw_iload ⟨rfl, rfl⟩ rfl ?_
    refine zw_aload ⟨rfl, rfl⟩ rfl ?_
    refine zw_getIv (v := (yci (yK σ) (σ 0))) ⟨rfl, rfl⟩ zc_105 (by decide) (hG.1.1.1.1) ?_
    refine zw_icge ⟨rfl, rfl⟩ rfl (fun c3 => ?_) (fun c3 => ?_)
    · skip
      refine zw_const ⟨rfl, rfl⟩ ?_
      refine zw_zret rfl (by first | exact Or.inl rfl | exact Or.inr rfl | omega) ?_
      refine zw_ifeq ⟨rfl, rfl⟩ rfl (fun _ => ?_) (fun q => absurd (by decide) q)
      refine zw_const ⟨rfl, rfl⟩ ?_
      refine zw_ret rfl ?_
      rw [show ya_compare σ i j = (-2) from by unfold ya_compare; (repeat' split) <;> omega] at k
      exact k
    · skip
      refine zw_const ⟨rfl, rfl⟩ ?_
      refine zw_goto ⟨rfl, rfl⟩ rfl ?_
      refine zw_zret rfl (by first | exact Or.inl rfl | exact Or.inr rfl | omega) ?_
      refine zw_ifeq ⟨rfl, rfl⟩ rfl (fun q => absurd q (by decide)) (fun _ => ?_)
      refine zw_aload ⟨rfl, rfl⟩ rfl ?_
      refine zw_getR 105 ⟨rfl, rfl⟩ zr_0_8 ?_
      refine zw_iload ⟨rfl, rfl⟩ rfl ?_
      refine zw_callv2 ⟨rfl, rfl⟩ rfl zc_105 rfl ?_
      refine zw_iload ⟨rfl, rfl⟩ rfl ?_
      refine zw_iflt ⟨rfl, rfl⟩ rfl (fun c6 => ?_) (fun c6 => ?_)
      · skip
        refine zw_const ⟨rfl, rfl⟩ ?_
        refine zw_zret rfl (by first | exact Or.inl rfl | exact Or.inr rfl | omega) ?_
        refine zw_ifne ⟨rfl, rfl⟩ rfl (fun q => absurd q (by decide)) (fun _ => ?_)
        refine zw_const ⟨rfl, rfl⟩ ?_
        refine zw_ret rfl ?_
        rw [show ya_compare σ i j = (-2) from by unfold ya_compare; (repeat' split) <;> omega] at k
        exact k
      · skip
        refine zw_iload ⟨rfl, rfl⟩ rfl ?_
        refine zw_aload ⟨rfl, rfl⟩ rfl ?_
        refine zw_getIv (v := (yci (yK σ) (σ 0))) ⟨rfl, rfl⟩ zc_105 (by decide) (hG.1.1.1.1) ?_
        refine zw_icge ⟨rfl, rfl⟩ rfl (fun c8 => ?_) (fun c8 => ?_)
        · skip
          refine zw_const ⟨rfl, rfl⟩ ?_
          refine zw_zret rfl (by first | exact Or.inl rfl | exact Or.inr rfl | omega) ?_
          refine zw_ifne ⟨rfl, rfl⟩ rfl (fun q => absurd q (by decide)) (fun _ => ?_)
          refine zw_const ⟨rfl, rfl⟩ ?_
          refine zw_ret rfl ?_
          rw [show ya_compare σ i j = (-2) from by unfold ya_compare; (repeat' split) <;> omega] at k
          exact k
        · skip
          refine zw_const ⟨rfl, rfl⟩ ?_
          refine zw_goto ⟨rfl, rfl⟩ rfl ?_
          refine zw_zret rfl (by first | exact Or.inl rfl | exact Or.inr rfl | omega) ?_
          refine zw_ifne ⟨rfl, rfl⟩ rfl (fun _ => ?_) (fun q => absurd (by decide) q)
          refine zw_aload ⟨rfl, rfl⟩ rfl ?_
          refine zw_getR 126 ⟨rfl, rfl⟩ zr_0_10 ?_
          refine zw_iload ⟨rfl, rfl⟩ rfl ?_
          refine zw_iload ⟨rfl, rfl⟩ rfl ?_
          refine zw_callv3 ⟨rfl, rfl⟩ rfl zc_126 rfl ?_
          refine m_inOrder hV hG ⟨by omega, by omega⟩ ⟨by omega, by omega⟩ (fun d hd => ?_)
          unfold yrel at hd
          refine zw_istore_3 ⟨rfl, rfl⟩ ?_
          refine zw_iload ⟨rfl, rfl⟩ rfl ?_
          refine zw_ifne ⟨rfl, rfl⟩ rfl (fun c11 => ?_) (fun c11 => ?_)
          · skip
            refine zw_iload ⟨rfl, rfl⟩ rfl ?_
            refine zw_ifge ⟨rfl, rfl⟩ rfl (fun c12 => ?_) (fun c12 => ?_)
            · skip
              refine zw_const ⟨rfl, rfl⟩ ?_
              refine zw_ret rfl ?_
              rw [show ya_compare σ i j = 2 from by unfold ya_compare; (repeat' split) <;> omega] at k
              exact k
            · skip
              refine zw_const ⟨rfl, rfl⟩ ?_
              refine zw_goto ⟨rfl, rfl⟩ rfl ?_
              refine zw_ret rfl ?_
              rw [show ya_compare σ i j = 1 from by unfold ya_compare; (repeat' split) <;> omega] at k
              exact k
          · skip
            refine zw_const ⟨rfl, rfl⟩ ?_
            refine zw_ret rfl ?_
            rw [show ya_compare σ i j = 0 from by unfold ya_compare; (repeat' split) <;> omega] at k
            exact k

theorem c_kinds_i  {i m : Int} {M : zM} {Q : zV → zM → Prop} {σ : yS} (hV : yVal σ) (hG : ySet M σ) (hi : 0 ≤ i ∧ i < (yci (yK σ) (σ 0))) (kk : ∀ s j, s = ynew σ i → zWp kX_kinds 30 [(1, 0), (0, m), (0, i), (0, s), (0, j)] [] M Q) : ∀ (f : Nat) (s j : Int), (0 ≤ j ∧ j ≤ i) → ((s = 1 ∧ ∀ t, 0 ≤ t → t < j → yin σ t i ≠ 0) ∨ (s = 0 ∧ ynew σ i = 0)) → (i - j).toNat < f → zWp kX_kinds 13 [(1, 0), (0, m), (0, i), (0, s), (0, j)] [] M Q := by
  intro f
  induction f with
  | zero => intro s j i1 i2 hf; exact absurd hf (Nat.not_lt_zero _)
  | succ f ih =>
    intro s j i1 i2 hf
    have hK := yKr_K hV
    have hn := hV.1
    have hci := yci_60 hK
    have hnr := ynew_r σ i
    refine zw_iload ⟨rfl, rfl⟩ rfl ?_
    refine zw_iload ⟨rfl, rfl⟩ rfl ?_
    refine zw_icge ⟨rfl, rfl⟩ rfl (fun c1 => ?_) (fun c1 => ?_)
    · skip
      refine kk _ _ ?_
      rcases i2 with ⟨e1, e2⟩ | ⟨e1, e2⟩
      · rw [e1]; exact (yall_1 _ _ (fun t t1 t2 => e2 t t1 (by omega))).symm
      · rw [e1, e2]
    · skip
      refine zw_iload ⟨rfl, rfl⟩ rfl ?_
      refine zw_ifeq ⟨rfl, rfl⟩ rfl (fun c2 => ?_) (fun c2 => ?_)
      · skip
        refine kk _ _ ?_
        rcases i2 with ⟨e1, e2⟩ | ⟨e1, e2⟩
        · rw [e1]; exact (yall_1 _ _ (fun t t1 t2 => e2 t t1 (by omega))).symm
        · rw [e1, e2]
      · skip
        refine zw_aload ⟨rfl, rfl⟩ rfl ?_
        refine zw_getR 126 ⟨rfl, rfl⟩ zr_0_10 ?_
        refine zw_iload ⟨rfl, rfl⟩ rfl ?_
        refine zw_iload ⟨rfl, rfl⟩ rfl ?_
        refine zw_callv3 ⟨rfl, rfl⟩ rfl zc_126 rfl ?_
        refine m_inOrder hV hG ⟨by omega, by omega⟩ ⟨by omega, by omega⟩ (fun d hd => ?_)
        unfold yrel at hd
        refine zw_ifeq ⟨rfl, rfl⟩ rfl (fun c3 => ?_) (fun c3 => ?_)
        · skip
          refine zw_const ⟨rfl, rfl⟩ ?_
          refine zw_istore_3 ⟨rfl, rfl⟩ ?_
          refine zw_iinc_4 ⟨rfl, rfl⟩ (by omega) ?_
          refine zw_goto ⟨rfl, rfl⟩ rfl ?_
          refine ih _ _ ⟨by omega, by omega⟩ (Or.inr ⟨rfl, yall_0 _ _ j i1.1 (by omega) (fun z => z (by omega))⟩) (by omega)
        · skip
          refine zw_const ⟨rfl, rfl⟩ ?_
          refine zw_goto ⟨rfl, rfl⟩ rfl ?_
          refine zw_istore_3 ⟨rfl, rfl⟩ ?_
          refine zw_iinc_4 ⟨rfl, rfl⟩ (by omega) ?_
          refine zw_goto ⟨rfl, rfl⟩ rfl ?_
          refine ih _ _ ⟨by omega, by omega⟩ (Or.inl ⟨rfl, fun t t1 t2 => ?_⟩) (by omega)
          have e2 := (i2.resolve_right (fun z => absurd z.1 (by omega))).2
          by_cases q : t = j
          · subst q; omega
          · exact e2 t t1 (by omega)

theorem c_kinds_e {m i s j : Int} {M : zM} {Q : zV → zM → Prop} (hs : s = 0 ∨ s = 1) (hm : (0 ≤ m ∧ m ≤ 100) ∧ 0 ≤ i ∧ i ≤ 100) (kk : zWp kX_kinds 4 [(1, 0), (0, m + s), (0, i + 1), (0, s), (0, j)] [] M Q) : zWp kX_kinds 30 [(1, 0), (0, m), (0, i), (0, s), (0, j)] [] M Q := by
  refine zw_iload ⟨rfl, rfl⟩ rfl ?_
  refine zw_iload ⟨rfl, rfl⟩ rfl ?_
  refine zw_ifeq ⟨rfl, rfl⟩ rfl (fun c1 => ?_) (fun c1 => ?_)
  · skip
    refine zw_const ⟨rfl, rfl⟩ ?_
    refine zw_iadd ⟨rfl, rfl⟩ (by omega) ?_
    refine zw_istore_1 ⟨rfl, rfl⟩ ?_
    refine zw_iinc_2 ⟨rfl, rfl⟩ (by omega) ?_
    refine zw_goto ⟨rfl, rfl⟩ rfl ?_
    rw [show m + s = m + 0 by omega] at kk
    exact kk
  · skip
    refine zw_const ⟨rfl, rfl⟩ ?_
    refine zw_goto ⟨rfl, rfl⟩ rfl ?_
    refine zw_iadd ⟨rfl, rfl⟩ (by omega) ?_
    refine zw_istore_1 ⟨rfl, rfl⟩ ?_
    refine zw_iinc_2 ⟨rfl, rfl⟩ (by omega) ?_
    refine zw_goto ⟨rfl, rfl⟩ rfl ?_
    rw [show m + s = m + 1 by omega] at kk
    exact kk

theorem c_kinds_o {M : zM} {Q : zV → zM → Prop} {σ : yS} (hV : yVal σ) (hG : ySet M σ) (k : Q (0, ya_kinds σ) M) : ∀ (f0 : Nat) (m i : Int) (u3 u4 : zV), (0 ≤ i ∧ i ≤ (yci (yK σ) (σ 0))) → (m = ysum (ynew σ) i.toNat) → ((yci (yK σ) (σ 0)) - i).toNat < f0 → zWp kX_kinds 4 [(1, 0), (0, m), (0, i), u3, u4] [] M Q := by
  intro f0
  induction f0 with
  | zero => intro m i u3 u4 i1 i2 hf0; exact absurd hf0 (Nat.not_lt_zero _)
  | succ f0 ih =>
    intro m i u3 u4 i1 i2 hf0
    have hK := yKr_K hV
    have hn := hV.1
    have hci := yci_60 hK
    have hsr := ysum_r (ynew σ) (fun j _ => ynew_r σ j) i.toNat
    refine zw_iload ⟨rfl, rfl⟩ rfl ?_
    refine zw_aload ⟨rfl, rfl⟩ rfl ?_
    refine zw_getR 105 ⟨rfl, rfl⟩ zr_0_8 ?_
    refine zw_getIv (v := (yci (yK σ) (σ 0))) ⟨rfl, rfl⟩ zc_105 (by decide) (hG.1.1.1.1) ?_
    refine zw_icge ⟨rfl, rfl⟩ rfl (fun c1 => ?_) (fun c1 => ?_)
    · skip
      refine zw_iload ⟨rfl, rfl⟩ rfl ?_
      refine zw_ret rfl ?_
      rw [show ya_kinds σ = m from by rw [i2, show i = (yci (yK σ) (σ 0)) by omega]; rfl] at k
      exact k
    · skip
      refine zw_const ⟨rfl, rfl⟩ ?_
      refine zw_istore_3 ⟨rfl, rfl⟩ ?_
      refine zw_const ⟨rfl, rfl⟩ ?_
      refine zw_istore_4 ⟨rfl, rfl⟩ ?_
      refine c_kinds_i hV hG ⟨by omega, by omega⟩ (fun s j hs => ?_) _ _ _ ⟨Int.le_refl _, by omega⟩ (Or.inl ⟨rfl, fun t t1 t2 => by omega⟩) (Nat.lt_succ_self _)
      have hnr := ynew_r σ i
      refine c_kinds_e (by omega) (by omega) (ih _ _ _ _ ⟨by omega, by omega⟩ ?_ (by omega))
      rw [ysum_s _ i1.1, ← i2, hs]

theorem c_kinds {M : zM} {Q : zV → zM → Prop} {σ : yS} (hV : yVal σ) (hS : yTold M σ) (hG : ySet M σ)  (k : Q (0, ya_kinds σ) M) : zWp kX_kinds 0 [(1, 0), (3, 0), (3, 0), (3, 0), (3, 0)] [] M Q := by
  have hK := yKr_K hV
  have hn := hV.1
  have hci := yci_60 hK
  refine zw_const ⟨rfl, rfl⟩ ?_
  refine zw_istore_1 ⟨rfl, rfl⟩ ?_
  refine zw_const ⟨rfl, rfl⟩ ?_
  refine zw_istore_2 ⟨rfl, rfl⟩ ?_
  exact c_kinds_o hV hG k _ _ _ _ _ ⟨Int.le_refl _, hci.1⟩ rfl (Nat.lt_succ_self _)

theorem c_ahead_l {c : Int} {M : zM} {Q : zV → zM → Prop} {σ : yS} (hV : yVal σ) (hG : ySet M σ) (hc : 0 ≤ c ∧ c < (yci (yK σ) (σ 0))) (k : Q (0, yah σ c) M) : ∀ (f0 : Nat) (m e : Int) (u4 : zV), (0 ≤ e ∧ e ≤ (yci (yK σ) (σ 0))) → (m = ysum (yah1 σ c) e.toNat) → ((yci (yK σ) (σ 0)) - e).toNat < f0 → zWp kX_clustersAheadOf 4 [(1, 0), (0, c), (0, m), (0, e), u4] [] M Q := by
  intro f0
  induction f0 with
  | zero => intro m e u4 i1 i2 hf0; exact absurd hf0 (Nat.not_lt_zero _)
  | succ f0 ih =>
    intro m e u4 i1 i2 hf0
    have hK := yKr_K hV
    have hn := hV.1
    have hci := yci_60 hK
    have hsr := ysum_r (yah1 σ c) (fun j _ => yah1_r σ c j) e.toNat
    refine zw_iload ⟨rfl, rfl⟩ rfl ?_
    refine zw_aload ⟨rfl, rfl⟩ rfl ?_
    refine zw_getR 105 ⟨rfl, rfl⟩ zr_0_8 ?_
    refine zw_getIv (v := (yci (yK σ) (σ 0))) ⟨rfl, rfl⟩ zc_105 (by decide) (hG.1.1.1.1) ?_
    refine zw_icge ⟨rfl, rfl⟩ rfl (fun c1 => ?_) (fun c1 => ?_)
    · skip
      refine zw_iload ⟨rfl, rfl⟩ rfl ?_
      refine zw_ret rfl ?_
      rw [show yah σ c = m from by rw [i2, show e = (yci (yK σ) (σ 0)) by omega]; rfl] at k
      exact k
    · skip
      have hss := ysum_s (yah1 σ c) i1.1
      refine zw_aload ⟨rfl, rfl⟩ rfl ?_
      refine zw_getR 126 ⟨rfl, rfl⟩ zr_0_10 ?_
      refine zw_iload ⟨rfl, rfl⟩ rfl ?_
      refine zw_iload ⟨rfl, rfl⟩ rfl ?_
      refine zw_callv3 ⟨rfl, rfl⟩ rfl zc_126 rfl ?_
      refine m_inOrder hV hG ⟨by omega, by omega⟩ ⟨by omega, by omega⟩ (fun d hd => ?_)
      unfold yrel at hd
      refine zw_istore_4 ⟨rfl, rfl⟩ ?_
      refine zw_iload ⟨rfl, rfl⟩ rfl ?_
      refine zw_iflt ⟨rfl, rfl⟩ rfl (fun c2 => ?_) (fun c2 => ?_)
      · skip
        refine zw_iinc_2 ⟨rfl, rfl⟩ (by omega) ?_
        refine zw_iinc_3 ⟨rfl, rfl⟩ (by omega) ?_
        refine zw_goto ⟨rfl, rfl⟩ rfl ?_
        refine ih _ _ _ ⟨by omega, by omega⟩ ?_ (by omega)
        rw [hss, ← i2]
        unfold yah1
        first | (rw [if_pos (by omega)]; done) | (rw [if_neg (by omega)]; omega)
      · skip
        refine zw_iload ⟨rfl, rfl⟩ rfl ?_
        refine zw_ifne ⟨rfl, rfl⟩ rfl (fun c3 => ?_) (fun c3 => ?_)
        · skip
          refine zw_iinc_3 ⟨rfl, rfl⟩ (by omega) ?_
          refine zw_goto ⟨rfl, rfl⟩ rfl ?_
          refine ih _ _ _ ⟨by omega, by omega⟩ ?_ (by omega)
          rw [hss, ← i2]
          unfold yah1
          first | (rw [if_pos (by omega)]; done) | (rw [if_neg (by omega)]; omega)
        · skip
          refine zw_iload ⟨rfl, rfl⟩ rfl ?_
          refine zw_iload ⟨rfl, rfl⟩ rfl ?_
          refine zw_icge ⟨rfl, rfl⟩ rfl (fun c4 => ?_) (fun c4 => ?_)
          · skip
            refine zw_iinc_3 ⟨rfl, rfl⟩ (by omega) ?_
            refine zw_goto ⟨rfl, rfl⟩ rfl ?_
            refine ih _ _ _ ⟨by omega, by omega⟩ ?_ (by omega)
            rw [hss, ← i2]
            unfold yah1
            first | (rw [if_pos (by omega)]; done) | (rw [if_neg (by omega)]; omega)
          · skip
            refine zw_iinc_2 ⟨rfl, rfl⟩ (by omega) ?_
            refine zw_iinc_3 ⟨rfl, rfl⟩ (by omega) ?_
            refine zw_goto ⟨rfl, rfl⟩ rfl ?_
            refine ih _ _ _ ⟨by omega, by omega⟩ ?_ (by omega)
            rw [hss, ← i2]
            unfold yah1
            first | (rw [if_pos (by omega)]; done) | (rw [if_neg (by omega)]; omega)

theorem c_ahead {c : Int} {M : zM} {Q : zV → zM → Prop} {σ : yS} (hV : yVal σ) (hG : ySet M σ) (hc : 0 ≤ c ∧ c < (yci (yK σ) (σ 0))) (k : Q (0, yah σ c) M) : zWp kX_clustersAheadOf 0 [(1, 0), (0, c), (3, 0), (3, 0), (3, 0)] [] M Q := by
  have hK := yKr_K hV
  have hn := hV.1
  have hci := yci_60 hK
  refine zw_const ⟨rfl, rfl⟩ ?_
  refine zw_istore_2 ⟨rfl, rfl⟩ ?_
  refine zw_const ⟨rfl, rfl⟩ ?_
  refine zw_istore_3 ⟨rfl, rfl⟩ ?_
  exact c_ahead_l hV hG hc k _ _ _ _ ⟨Int.le_refl _, hci.1⟩ rfl (Nat.lt_succ_self _)

theorem c_ranked_l  {i v : Int} {M : zM} {Q : zV → zM → Prop} {σ : yS} (hV : yVal σ) (hG : ySet M σ) (k : Q (0, v) M) : ∀ (f : Nat) (c : Int), (0 ≤ c ∧ c ≤ (yci (yK σ) (σ 0))) → (yfst (fun c => yah σ c = i) c ((yci (yK σ) (σ 0)) - c).toNat = v) → ((yci (yK σ) (σ 0)) - c).toNat < f → zWp kX_ranked 6 [(1, 0), (0, i), (0, c)] [] M Q := by
  intro f
  induction f with
  | zero => intro c i1 i2 hf; exact absurd hf (Nat.not_lt_zero _)
  | succ f ih =>
    intro c i1 i2 hf
    have hK := yKr_K hV
    have hn := hV.1
    have hci := yci_60 hK
    refine zw_iload ⟨rfl, rfl⟩ rfl ?_
    refine zw_aload ⟨rfl, rfl⟩ rfl ?_
    refine zw_getR 105 ⟨rfl, rfl⟩ zr_0_8 ?_
    refine zw_getIv (v := (yci (yK σ) (σ 0))) ⟨rfl, rfl⟩ zc_105 (by decide) (hG.1.1.1.1) ?_
    refine zw_icge ⟨rfl, rfl⟩ rfl (fun c1 => ?_) (fun c1 => ?_)
    · skip
      refine zw_const ⟨rfl, rfl⟩ ?_
      refine zw_ret rfl ?_
      rw [show ((yci (yK σ) (σ 0)) - c).toNat = 0 by omega] at i2
      unfold yfst at i2
      rw [← i2] at k
      exact k
    · skip
      rw [show ((yci (yK σ) (σ 0)) - c).toNat = ((yci (yK σ) (σ 0)) - (c + 1)).toNat + 1 by omega] at i2
      unfold yfst at i2
      refine zw_aload ⟨rfl, rfl⟩ rfl ?_
      refine zw_iload ⟨rfl, rfl⟩ rfl ?_
      refine zw_callv2 ⟨rfl, rfl⟩ rfl zc_0 rfl ?_
      refine c_ahead hV hG ⟨by omega, by omega⟩ ?_
      refine zw_iload ⟨rfl, rfl⟩ rfl ?_
      refine zw_icne ⟨rfl, rfl⟩ rfl (fun c2 => ?_) (fun c2 => ?_)
      · skip
        refine zw_iinc_2 ⟨rfl, rfl⟩ (by omega) ?_
        refine zw_goto ⟨rfl, rfl⟩ rfl ?_
        rw [if_neg (by omega)] at i2
        exact ih _ ⟨by omega, by omega⟩ i2 (by omega)
      · skip
        refine zw_iload ⟨rfl, rfl⟩ rfl ?_
        refine zw_ret rfl ?_
        rw [if_pos (by omega)] at i2
        rw [← i2] at k
        exact k

theorem c_ranked {i : Int} {M : zM} {Q : zV → zM → Prop} {σ : yS} (hV : yVal σ) (hS : yTold M σ) (hG : ySet M σ)  (k : Q (0, ya_ranked σ i) M) : zWp kX_ranked 0 [(1, 0), (0, i), (3, 0)] [] M Q := by
  have hK := yKr_K hV
  have hn := hV.1
  have hci := yci_60 hK
  refine zw_iload ⟨rfl, rfl⟩ rfl ?_
  refine zw_ifge ⟨rfl, rfl⟩ rfl (fun c1 => ?_) (fun c1 => ?_)
  · skip
    refine zw_const ⟨rfl, rfl⟩ ?_
    refine zw_istore_2 ⟨rfl, rfl⟩ ?_
    exact c_ranked_l hV hG k _ _ ⟨Int.le_refl _, hci.1⟩ (by rw [Int.sub_zero]; exact (if_neg (by omega) : ya_ranked σ i = _).symm) (Nat.lt_succ_self _)
  · skip
    refine zw_const ⟨rfl, rfl⟩ ?_
    refine zw_ret rfl ?_
    rw [show ya_ranked σ i = -3 from if_pos (by omega)] at k
    exact k

theorem m_Mgo {a b : Int} {M : zM} {Q : zV → zM → Prop} {σ : yS} (hV : yVal σ) (hG : yLay M σ) (ha : 0 ≤ a ∧ a < (yLast σ).1) (hb : 0 ≤ b ∧ b < (yLast σ).1) (k : Q (0, yco (yLast σ) a b) M) : zWp kM_glyphsOrder 0 [(1, 208), (0, a), (0, b), (3, 0), (3, 0)] [] M Q := by
  have hK := yKr_K hV
  have hn := hV.1
  have hci := yci_60 hK
  have eyL : (yTk σ (yci (yK σ) (σ 0))).1 = (yLast σ).1 := rfl
  have hgl0 := yLast_r hV
  have ra := (yo1_r hV ha).2.2.2.2
  have rb := (yo1_r hV hb).2.2.2.2
  have sa := (yo1_r hV ha).2.2.2.1
  have sb := (yo1_r hV hb).2.2.2.1
  have ta := (yo1_r hV ha).1
  have tb := (yo1_r hV hb).1
  refine zw_aload ⟨rfl, rfl⟩ rfl ?_
  refine zw_getR 228 ⟨rfl, rfl⟩ zr_208_24 ?_
  refine zw_iload ⟨rfl, rfl⟩ rfl ?_
  refine zw_ialdv (v := (yLast σ).2.1 1 (a)) ⟨rfl, rfl⟩ za_228 (by omega) ((hG.2.2.2.1 (a) (by omega) (by omega)).2.1) ?_
  refine zw_const ⟨rfl, rfl⟩ ?_
  refine zw_icne ⟨rfl, rfl⟩ rfl (fun c1 => ?_) (fun c1 => ?_)
  · skip
    refine zw_aload ⟨rfl, rfl⟩ rfl ?_
    refine zw_getR 228 ⟨rfl, rfl⟩ zr_208_24 ?_
    refine zw_iload ⟨rfl, rfl⟩ rfl ?_
    refine zw_ialdv (v := (yLast σ).2.1 1 (a)) ⟨rfl, rfl⟩ za_228 (by omega) ((hG.2.2.2.1 (a) (by omega) (by omega)).2.1) ?_
    refine zw_istore_3 ⟨rfl, rfl⟩ ?_
    refine zw_aload ⟨rfl, rfl⟩ rfl ?_
    refine zw_getR 228 ⟨rfl, rfl⟩ zr_208_24 ?_
    refine zw_iload ⟨rfl, rfl⟩ rfl ?_
    refine zw_ialdv (v := (yLast σ).2.1 1 (b)) ⟨rfl, rfl⟩ za_228 (by omega) ((hG.2.2.2.1 (b) (by omega) (by omega)).2.1) ?_
    refine zw_const ⟨rfl, rfl⟩ ?_
    refine zw_icne ⟨rfl, rfl⟩ rfl (fun c2 => ?_) (fun c2 => ?_)
    · skip
      refine zw_aload ⟨rfl, rfl⟩ rfl ?_
      refine zw_getR 228 ⟨rfl, rfl⟩ zr_208_24 ?_
      refine zw_iload ⟨rfl, rfl⟩ rfl ?_
      refine zw_ialdv (v := (yLast σ).2.1 1 (b)) ⟨rfl, rfl⟩ za_228 (by omega) ((hG.2.2.2.1 (b) (by omega) (by omega)).2.1) ?_
      refine zw_istore_4 ⟨rfl, rfl⟩ ?_
      refine zw_iload ⟨rfl, rfl⟩ rfl ?_
      refine zw_iload ⟨rfl, rfl⟩ rfl ?_
      refine zw_iceq ⟨rfl, rfl⟩ rfl (fun c3 => ?_) (fun c3 => ?_)
      · skip
        refine zw_aload ⟨rfl, rfl⟩ rfl ?_
        refine zw_getR 227 ⟨rfl, rfl⟩ zr_208_23 ?_
        refine zw_iload ⟨rfl, rfl⟩ rfl ?_
        refine zw_ialdv (v := (yLast σ).2.1 0 (a)) ⟨rfl, rfl⟩ za_227 (by omega) ((hG.2.2.2.1 (a) (by omega) (by omega)).1) ?_
        refine zw_aload ⟨rfl, rfl⟩ rfl ?_
        refine zw_getR 227 ⟨rfl, rfl⟩ zr_208_23 ?_
        refine zw_iload ⟨rfl, rfl⟩ rfl ?_
        refine zw_ialdv (v := (yLast σ).2.1 0 (b)) ⟨rfl, rfl⟩ za_227 (by omega) ((hG.2.2.2.1 (b) (by omega) (by omega)).1) ?_
        refine zw_iceq ⟨rfl, rfl⟩ rfl (fun c4 => ?_) (fun c4 => ?_)
        · skip
          refine zw_aload ⟨rfl, rfl⟩ rfl ?_
          refine zw_getR 229 ⟨rfl, rfl⟩ zr_208_25 ?_
          refine zw_iload ⟨rfl, rfl⟩ rfl ?_
          refine zw_ialdv (v := (yLast σ).2.1 2 (a)) ⟨rfl, rfl⟩ za_229 (by omega) ((hG.2.2.2.1 (a) (by omega) (by omega)).2.2.1) ?_
          refine zw_aload ⟨rfl, rfl⟩ rfl ?_
          refine zw_getR 229 ⟨rfl, rfl⟩ zr_208_25 ?_
          refine zw_iload ⟨rfl, rfl⟩ rfl ?_
          refine zw_ialdv (v := (yLast σ).2.1 2 (b)) ⟨rfl, rfl⟩ za_229 (by omega) ((hG.2.2.2.1 (b) (by omega) (by omega)).2.2.1) ?_
          refine zw_icne ⟨rfl, rfl⟩ rfl (fun c5 => ?_) (fun c5 => ?_)
          · skip
            refine zw_aload ⟨rfl, rfl⟩ rfl ?_
            refine zw_getR 229 ⟨rfl, rfl⟩ zr_208_25 ?_
            refine zw_iload ⟨rfl, rfl⟩ rfl ?_
            refine zw_ialdv (v := (yLast σ).2.1 2 (a)) ⟨rfl, rfl⟩ za_229 (by omega) ((hG.2.2.2.1 (a) (by omega) (by omega)).2.2.1) ?_
            refine zw_aload ⟨rfl, rfl⟩ rfl ?_
            refine zw_getR 229 ⟨rfl, rfl⟩ zr_208_25 ?_
            refine zw_iload ⟨rfl, rfl⟩ rfl ?_
            refine zw_ialdv (v := (yLast σ).2.1 2 (b)) ⟨rfl, rfl⟩ za_229 (by omega) ((hG.2.2.2.1 (b) (by omega) (by omega)).2.2.1) ?_
            refine zw_icge ⟨rfl, rfl⟩ rfl (fun c6 => ?_) (fun c6 => ?_)
            · skip
              refine zw_const ⟨rfl, rfl⟩ ?_
              refine zw_ret rfl ?_
              rw [show yco (yLast σ) a b = 2 from by unfold yco; rw [ra, rb]; (repeat' split) <;> omega] at k
              exact k
            · skip
              refine zw_const ⟨rfl, rfl⟩ ?_
              refine zw_goto ⟨rfl, rfl⟩ rfl ?_
              refine zw_ret rfl ?_
              rw [show yco (yLast σ) a b = 1 from by unfold yco; rw [ra, rb]; (repeat' split) <;> omega] at k
              exact k
          · skip
            refine zw_const ⟨rfl, rfl⟩ ?_
            refine zw_goto ⟨rfl, rfl⟩ rfl ?_
            refine zw_ret rfl ?_
            rw [show yco (yLast σ) a b = 0 from by unfold yco; rw [ra, rb]; (repeat' split) <;> omega] at k
            exact k
        · skip
          refine zw_aload ⟨rfl, rfl⟩ rfl ?_
          refine zw_getR 227 ⟨rfl, rfl⟩ zr_208_23 ?_
          refine zw_iload ⟨rfl, rfl⟩ rfl ?_
          refine zw_ialdv (v := (yLast σ).2.1 0 (a)) ⟨rfl, rfl⟩ za_227 (by omega) ((hG.2.2.2.1 (a) (by omega) (by omega)).1) ?_
          refine zw_aload ⟨rfl, rfl⟩ rfl ?_
          refine zw_getR 227 ⟨rfl, rfl⟩ zr_208_23 ?_
          refine zw_iload ⟨rfl, rfl⟩ rfl ?_
          refine zw_ialdv (v := (yLast σ).2.1 0 (b)) ⟨rfl, rfl⟩ za_227 (by omega) ((hG.2.2.2.1 (b) (by omega) (by omega)).1) ?_
          refine zw_icge ⟨rfl, rfl⟩ rfl (fun c7 => ?_) (fun c7 => ?_)
          · skip
            refine zw_const ⟨rfl, rfl⟩ ?_
            refine zw_ret rfl ?_
            rw [show yco (yLast σ) a b = 2 from by unfold yco; rw [ra, rb]; (repeat' split) <;> omega] at k
            exact k
          · skip
            refine zw_const ⟨rfl, rfl⟩ ?_
            refine zw_goto ⟨rfl, rfl⟩ rfl ?_
            refine zw_ret rfl ?_
            rw [show yco (yLast σ) a b = 1 from by unfold yco; rw [ra, rb]; (repeat' split) <;> omega] at k
            exact k
      · skip
        refine zw_iload ⟨rfl, rfl⟩ rfl ?_
        refine zw_iload ⟨rfl, rfl⟩ rfl ?_
        refine zw_icge ⟨rfl, rfl⟩ rfl (fun c8 => ?_) (fun c8 => ?_)
        · skip
          refine zw_const ⟨rfl, rfl⟩ ?_
          refine zw_ret rfl ?_
          rw [show yco (yLast σ) a b = 2 from by unfold yco; rw [ra, rb]; (repeat' split) <;> omega] at k
          exact k
        · skip
          refine zw_const ⟨rfl, rfl⟩ ?_
          refine zw_goto ⟨rfl, rfl⟩ rfl ?_
          refine zw_ret rfl ?_
          rw [show yco (yLast σ) a b = 1 from by unfold yco; rw [ra, rb]; (repeat' split) <;> omega] at k
          exact k
    · skip
      refine zw_const ⟨rfl, rfl⟩ ?_
      refine zw_goto ⟨rfl, rfl⟩ rfl ?_
      refine zw_istore_4 ⟨rfl, rfl⟩ ?_
      refine zw_iload ⟨rfl, rfl⟩ rfl ?_
      refine zw_iload ⟨rfl, rfl⟩ rfl ?_
      refine zw_iceq ⟨rfl, rfl⟩ rfl (fun c9 => ?_) (fun c9 => ?_)
      · skip
        refine zw_aload ⟨rfl, rfl⟩ rfl ?_
        refine zw_getR 227 ⟨rfl, rfl⟩ zr_208_23 ?_
        refine zw_iload ⟨rfl, rfl⟩ rfl ?_
        refine zw_ialdv (v := (yLast σ).2.1 0 (a)) ⟨rfl, rfl⟩ za_227 (by omega) ((hG.2.2.2.1 (a) (by omega) (by omega)).1) ?_
        refine zw_aload ⟨rfl, rfl⟩ rfl ?_
        refine zw_getR 227 ⟨rfl, rfl⟩ zr_208_23 ?_
        refine zw_iload ⟨rfl, rfl⟩ rfl ?_
        refine zw_ialdv (v := (yLast σ).2.1 0 (b)) ⟨rfl, rfl⟩ za_227 (by omega) ((hG.2.2.2.1 (b) (by omega) (by omega)).1) ?_
        refine zw_iceq ⟨rfl, rfl⟩ rfl (fun c10 => ?_) (fun c10 => ?_)
        · skip
          refine zw_aload ⟨rfl, rfl⟩ rfl ?_
          refine zw_getR 229 ⟨rfl, rfl⟩ zr_208_25 ?_
          refine zw_iload ⟨rfl, rfl⟩ rfl ?_
          refine zw_ialdv (v := (yLast σ).2.1 2 (a)) ⟨rfl, rfl⟩ za_229 (by omega) ((hG.2.2.2.1 (a) (by omega) (by omega)).2.2.1) ?_
          refine zw_aload ⟨rfl, rfl⟩ rfl ?_
          refine zw_getR 229 ⟨rfl, rfl⟩ zr_208_25 ?_
          refine zw_iload ⟨rfl, rfl⟩ rfl ?_
          refine zw_ialdv (v := (yLast σ).2.1 2 (b)) ⟨rfl, rfl⟩ za_229 (by omega) ((hG.2.2.2.1 (b) (by omega) (by omega)).2.2.1) ?_
          refine zw_icne ⟨rfl, rfl⟩ rfl (fun c11 => ?_) (fun c11 => ?_)
          · skip
            refine zw_aload ⟨rfl, rfl⟩ rfl ?_
            refine zw_getR 229 ⟨rfl, rfl⟩ zr_208_25 ?_
            refine zw_iload ⟨rfl, rfl⟩ rfl ?_
            refine zw_ialdv (v := (yLast σ).2.1 2 (a)) ⟨rfl, rfl⟩ za_229 (by omega) ((hG.2.2.2.1 (a) (by omega) (by omega)).2.2.1) ?_
            refine zw_aload ⟨rfl, rfl⟩ rfl ?_
            refine zw_getR 229 ⟨rfl, rfl⟩ zr_208_25 ?_
            refine zw_iload ⟨rfl, rfl⟩ rfl ?_
            refine zw_ialdv (v := (yLast σ).2.1 2 (b)) ⟨rfl, rfl⟩ za_229 (by omega) ((hG.2.2.2.1 (b) (by omega) (by omega)).2.2.1) ?_
            refine zw_icge ⟨rfl, rfl⟩ rfl (fun c12 => ?_) (fun c12 => ?_)
            · skip
              refine zw_const ⟨rfl, rfl⟩ ?_
              refine zw_ret rfl ?_
              rw [show yco (yLast σ) a b = 2 from by unfold yco; rw [ra, rb]; (repeat' split) <;> omega] at k
              exact k
            · skip
              refine zw_const ⟨rfl, rfl⟩ ?_
              refine zw_goto ⟨rfl, rfl⟩ rfl ?_
              refine zw_ret rfl ?_
              rw [show yco (yLast σ) a b = 1 from by unfold yco; rw [ra, rb]; (repeat' split) <;> omega] at k
              exact k
          · skip
            refine zw_const ⟨rfl, rfl⟩ ?_
            refine zw_goto ⟨rfl, rfl⟩ rfl ?_
            refine zw_ret rfl ?_
            rw [show yco (yLast σ) a b = 0 from by unfold yco; rw [ra, rb]; (repeat' split) <;> omega] at k
            exact k
        · skip
          refine zw_aload ⟨rfl, rfl⟩ rfl ?_
          refine zw_getR 227 ⟨rfl, rfl⟩ zr_208_23 ?_
          refine zw_iload ⟨rfl, rfl⟩ rfl ?_
          refine zw_ialdv (v := (yLast σ).2.1 0 (a)) ⟨rfl, rfl⟩ za_227 (by omega) ((hG.2.2.2.1 (a) (by omega) (by omega)).1) ?_
          refine zw_aload ⟨rfl, rfl⟩ rfl ?_
          refine zw_getR 227 ⟨rfl, rfl⟩ zr_208_23 ?_
          refine zw_iload ⟨rfl, rfl⟩ rfl ?_
          refine zw_ialdv (v := (yLast σ).2.1 0 (b)) ⟨rfl, rfl⟩ za_227 (by omega) ((hG.2.2.2.1 (b) (by omega) (by omega)).1) ?_
          refine zw_icge ⟨rfl, rfl⟩ rfl (fun c13 => ?_) (fun c13 => ?_)
          · skip
            refine zw_const ⟨rfl, rfl⟩ ?_
            refine zw_ret rfl ?_
            rw [show yco (yLast σ) a b = 2 from by unfold yco; rw [ra, rb]; (repeat' split) <;> omega] at k
            exact k
          · skip
            refine zw_const ⟨rfl, rfl⟩ ?_
            refine zw_goto ⟨rfl, rfl⟩ rfl ?_
            refine zw_ret rfl ?_
            rw [show yco (yLast σ) a b = 1 from by unfold yco; rw [ra, rb]; (repeat' split) <;> omega] at k
            exact k
      · skip
        refine zw_iload ⟨rfl, rfl⟩ rfl ?_
        refine zw_iload ⟨rfl, rfl⟩ rfl ?_
        refine zw_icge ⟨rfl, rfl⟩ rfl (fun c14 => ?_) (fun c14 => ?_)
        · skip
          refine zw_const ⟨rfl, rfl⟩ ?_
          refine zw_ret rfl ?_
          rw [show yco (yLast σ) a b = 2 from by unfold yco; rw [ra, rb]; (repeat' split) <;> omega] at k
          exact k
        · skip
          refine zw_const ⟨rfl, rfl⟩ ?_
          refine zw_goto ⟨rfl, rfl⟩ rfl ?_
          refine zw_ret rfl ?_
          rw [show yco (yLast σ) a b = 1 from by unfold yco; rw [ra, rb]; (repeat' split) <;> omega] at k
          exact k
  · skip
    refine zw_const ⟨rfl, rfl⟩ ?_
    refine zw_goto ⟨rfl, rfl⟩ rfl ?_
    refine zw_istore_3 ⟨rfl, rfl⟩ ?_
    refine zw_aload ⟨rfl, rfl⟩ rfl ?_
    refine zw_getR 228 ⟨rfl, rfl⟩ zr_208_24 ?_
    refine zw_iload ⟨rfl, rfl⟩ rfl ?_
    refine zw_ialdv (v := (yLast σ).2.1 1 (b)) ⟨rfl, rfl⟩ za_228 (by omega) ((hG.2.2.2.1 (b) (by omega) (by omega)).2.1) ?_
    refine zw_const ⟨rfl, rfl⟩ ?_
    refine zw_icne ⟨rfl, rfl⟩ rfl (fun c15 => ?_) (fun c15 => ?_)
    · skip
      refine zw_aload ⟨rfl, rfl⟩ rfl ?_
      refine zw_getR 228 ⟨rfl, rfl⟩ zr_208_24 ?_
      refine zw_iload ⟨rfl, rfl⟩ rfl ?_
      refine zw_ialdv (v := (yLast σ).2.1 1 (b)) ⟨rfl, rfl⟩ za_228 (by omega) ((hG.2.2.2.1 (b) (by omega) (by omega)).2.1) ?_
      refine zw_istore_4 ⟨rfl, rfl⟩ ?_
      refine zw_iload ⟨rfl, rfl⟩ rfl ?_
      refine zw_iload ⟨rfl, rfl⟩ rfl ?_
      refine zw_iceq ⟨rfl, rfl⟩ rfl (fun c16 => ?_) (fun c16 => ?_)
      · skip
        refine zw_aload ⟨rfl, rfl⟩ rfl ?_
        refine zw_getR 227 ⟨rfl, rfl⟩ zr_208_23 ?_
        refine zw_iload ⟨rfl, rfl⟩ rfl ?_
        refine zw_ialdv (v := (yLast σ).2.1 0 (a)) ⟨rfl, rfl⟩ za_227 (by omega) ((hG.2.2.2.1 (a) (by omega) (by omega)).1) ?_
        refine zw_aload ⟨rfl, rfl⟩ rfl ?_
        refine zw_getR 227 ⟨rfl, rfl⟩ zr_208_23 ?_
        refine zw_iload ⟨rfl, rfl⟩ rfl ?_
        refine zw_ialdv (v := (yLast σ).2.1 0 (b)) ⟨rfl, rfl⟩ za_227 (by omega) ((hG.2.2.2.1 (b) (by omega) (by omega)).1) ?_
        refine zw_iceq ⟨rfl, rfl⟩ rfl (fun c17 => ?_) (fun c17 => ?_)
        · skip
          refine zw_aload ⟨rfl, rfl⟩ rfl ?_
          refine zw_getR 229 ⟨rfl, rfl⟩ zr_208_25 ?_
          refine zw_iload ⟨rfl, rfl⟩ rfl ?_
          refine zw_ialdv (v := (yLast σ).2.1 2 (a)) ⟨rfl, rfl⟩ za_229 (by omega) ((hG.2.2.2.1 (a) (by omega) (by omega)).2.2.1) ?_
          refine zw_aload ⟨rfl, rfl⟩ rfl ?_
          refine zw_getR 229 ⟨rfl, rfl⟩ zr_208_25 ?_
          refine zw_iload ⟨rfl, rfl⟩ rfl ?_
          refine zw_ialdv (v := (yLast σ).2.1 2 (b)) ⟨rfl, rfl⟩ za_229 (by omega) ((hG.2.2.2.1 (b) (by omega) (by omega)).2.2.1) ?_
          refine zw_icne ⟨rfl, rfl⟩ rfl (fun c18 => ?_) (fun c18 => ?_)
          · skip
            refine zw_aload ⟨rfl, rfl⟩ rfl ?_
            refine zw_getR 229 ⟨rfl, rfl⟩ zr_208_25 ?_
            refine zw_iload ⟨rfl, rfl⟩ rfl ?_
            refine zw_ialdv (v := (yLast σ).2.1 2 (a)) ⟨rfl, rfl⟩ za_229 (by omega) ((hG.2.2.2.1 (a) (by omega) (by omega)).2.2.1) ?_
            refine zw_aload ⟨rfl, rfl⟩ rfl ?_
            refine zw_getR 229 ⟨rfl, rfl⟩ zr_208_25 ?_
            refine zw_iload ⟨rfl, rfl⟩ rfl ?_
            refine zw_ialdv (v := (yLast σ).2.1 2 (b)) ⟨rfl, rfl⟩ za_229 (by omega) ((hG.2.2.2.1 (b) (by omega) (by omega)).2.2.1) ?_
            refine zw_icge ⟨rfl, rfl⟩ rfl (fun c19 => ?_) (fun c19 => ?_)
            · skip
              refine zw_const ⟨rfl, rfl⟩ ?_
              refine zw_ret rfl ?_
              rw [show yco (yLast σ) a b = 2 from by unfold yco; rw [ra, rb]; (repeat' split) <;> omega] at k
              exact k
            · skip
              refine zw_const ⟨rfl, rfl⟩ ?_
              refine zw_goto ⟨rfl, rfl⟩ rfl ?_
              refine zw_ret rfl ?_
              rw [show yco (yLast σ) a b = 1 from by unfold yco; rw [ra, rb]; (repeat' split) <;> omega] at k
              exact k
          · skip
            refine zw_const ⟨rfl, rfl⟩ ?_
            refine zw_goto ⟨rfl, rfl⟩ rfl ?_
            refine zw_ret rfl ?_
            rw [show yco (yLast σ) a b = 0 from by unfold yco; rw [ra, rb]; (repeat' split) <;> omega] at k
            exact k
        · skip
          refine zw_aload ⟨rfl, rfl⟩ rfl ?_
          refine zw_getR 227 ⟨rfl, rfl⟩ zr_208_23 ?_
          refine zw_iload ⟨rfl, rfl⟩ rfl ?_
          refine zw_ialdv (v := (yLast σ).2.1 0 (a)) ⟨rfl, rfl⟩ za_227 (by omega) ((hG.2.2.2.1 (a) (by omega) (by omega)).1) ?_
          refine zw_aload ⟨rfl, rfl⟩ rfl ?_
          refine zw_getR 227 ⟨rfl, rfl⟩ zr_208_23 ?_
          refine zw_iload ⟨rfl, rfl⟩ rfl ?_
          refine zw_ialdv (v := (yLast σ).2.1 0 (b)) ⟨rfl, rfl⟩ za_227 (by omega) ((hG.2.2.2.1 (b) (by omega) (by omega)).1) ?_
          refine zw_icge ⟨rfl, rfl⟩ rfl (fun c20 => ?_) (fun c20 => ?_)
          · skip
            refine zw_const ⟨rfl, rfl⟩ ?_
            refine zw_ret rfl ?_
            rw [show yco (yLast σ) a b = 2 from by unfold yco; rw [ra, rb]; (repeat' split) <;> omega] at k
            exact k
          · skip
            refine zw_const ⟨rfl, rfl⟩ ?_
            refine zw_goto ⟨rfl, rfl⟩ rfl ?_
            refine zw_ret rfl ?_
            rw [show yco (yLast σ) a b = 1 from by unfold yco; rw [ra, rb]; (repeat' split) <;> omega] at k
            exact k
      · skip
        refine zw_iload ⟨rfl, rfl⟩ rfl ?_
        refine zw_iload ⟨rfl, rfl⟩ rfl ?_
        refine zw_icge ⟨rfl, rfl⟩ rfl (fun c21 => ?_) (fun c21 => ?_)
        · skip
          refine zw_const ⟨rfl, rfl⟩ ?_
          refine zw_ret rfl ?_
          rw [show yco (yLast σ) a b = 2 from by unfold yco; rw [ra, rb]; (repeat' split) <;> omega] at k
          exact k
        · skip
          refine zw_const ⟨rfl, rfl⟩ ?_
          refine zw_goto ⟨rfl, rfl⟩ rfl ?_
          refine zw_ret rfl ?_
          rw [show yco (yLast σ) a b = 1 from by unfold yco; rw [ra, rb]; (repeat' split) <;> omega] at k
          exact k
    · skip
      refine zw_const ⟨rfl, rfl⟩ ?_
      refine zw_goto ⟨rfl, rfl⟩ rfl ?_
      refine zw_istore_4 ⟨rfl, rfl⟩ ?_
      refine zw_iload ⟨rfl, rfl⟩ rfl ?_
      refine zw_iload ⟨rfl, rfl⟩ rfl ?_
      refine zw_iceq ⟨rfl, rfl⟩ rfl (fun _ => ?_) (fun q => absurd (by decide) q)
      refine zw_aload ⟨rfl, rfl⟩ rfl ?_
      refine zw_getR 227 ⟨rfl, rfl⟩ zr_208_23 ?_
      refine zw_iload ⟨rfl, rfl⟩ rfl ?_
      refine zw_ialdv (v := (yLast σ).2.1 0 (a)) ⟨rfl, rfl⟩ za_227 (by omega) ((hG.2.2.2.1 (a) (by omega) (by omega)).1) ?_
      refine zw_aload ⟨rfl, rfl⟩ rfl ?_
      refine zw_getR 227 ⟨rfl, rfl⟩ zr_208_23 ?_
      refine zw_iload ⟨rfl, rfl⟩ rfl ?_
      refine zw_ialdv (v := (yLast σ).2.1 0 (b)) ⟨rfl, rfl⟩ za_227 (by omega) ((hG.2.2.2.1 (b) (by omega) (by omega)).1) ?_
      refine zw_iceq ⟨rfl, rfl⟩ rfl (fun c23 => ?_) (fun c23 => ?_)
      · skip
        refine zw_aload ⟨rfl, rfl⟩ rfl ?_
        refine zw_getR 229 ⟨rfl, rfl⟩ zr_208_25 ?_
        refine zw_iload ⟨rfl, rfl⟩ rfl ?_
        refine zw_ialdv (v := (yLast σ).2.1 2 (a)) ⟨rfl, rfl⟩ za_229 (by omega) ((hG.2.2.2.1 (a) (by omega) (by omega)).2.2.1) ?_
        refine zw_aload ⟨rfl, rfl⟩ rfl ?_
        refine zw_getR 229 ⟨rfl, rfl⟩ zr_208_25 ?_
        refine zw_iload ⟨rfl, rfl⟩ rfl ?_
        refine zw_ialdv (v := (yLast σ).2.1 2 (b)) ⟨rfl, rfl⟩ za_229 (by omega) ((hG.2.2.2.1 (b) (by omega) (by omega)).2.2.1) ?_
        refine zw_icne ⟨rfl, rfl⟩ rfl (fun c24 => ?_) (fun c24 => ?_)
        · skip
          refine zw_aload ⟨rfl, rfl⟩ rfl ?_
          refine zw_getR 229 ⟨rfl, rfl⟩ zr_208_25 ?_
          refine zw_iload ⟨rfl, rfl⟩ rfl ?_
          refine zw_ialdv (v := (yLast σ).2.1 2 (a)) ⟨rfl, rfl⟩ za_229 (by omega) ((hG.2.2.2.1 (a) (by omega) (by omega)).2.2.1) ?_
          refine zw_aload ⟨rfl, rfl⟩ rfl ?_
          refine zw_getR 229 ⟨rfl, rfl⟩ zr_208_25 ?_
          refine zw_iload ⟨rfl, rfl⟩ rfl ?_
          refine zw_ialdv (v := (yLast σ).2.1 2 (b)) ⟨rfl, rfl⟩ za_229 (by omega) ((hG.2.2.2.1 (b) (by omega) (by omega)).2.2.1) ?_
          refine zw_icge ⟨rfl, rfl⟩ rfl (fun c25 => ?_) (fun c25 => ?_)
          · skip
            refine zw_const ⟨rfl, rfl⟩ ?_
            refine zw_ret rfl ?_
            rw [show yco (yLast σ) a b = 2 from by unfold yco; rw [ra, rb]; (repeat' split) <;> omega] at k
            exact k
          · skip
            refine zw_const ⟨rfl, rfl⟩ ?_
            refine zw_goto ⟨rfl, rfl⟩ rfl ?_
            refine zw_ret rfl ?_
            rw [show yco (yLast σ) a b = 1 from by unfold yco; rw [ra, rb]; (repeat' split) <;> omega] at k
            exact k
        · skip
          refine zw_const ⟨rfl, rfl⟩ ?_
          refine zw_goto ⟨rfl, rfl⟩ rfl ?_
          refine zw_ret rfl ?_
          rw [show yco (yLast σ) a b = 0 from by unfold yco; rw [ra, rb]; (repeat' split) <;> omega] at k
          exact k
      · skip
        refine zw_aload ⟨rfl, rfl⟩ rfl ?_
        refine zw_getR 227 ⟨rfl, rfl⟩ zr_208_23 ?_
        refine zw_iload ⟨rfl, rfl⟩ rfl ?_
        refine zw_ialdv (v := (yLast σ).2.1 0 (a)) ⟨rfl, rfl⟩ za_227 (by omega) ((hG.2.2.2.1 (a) (by omega) (by omega)).1) ?_
        refine zw_aload ⟨rfl, rfl⟩ rfl ?_
        refine zw_getR 227 ⟨rfl, rfl⟩ zr_208_23 ?_
        refine zw_iload ⟨rfl, rfl⟩ rfl ?_
        refine zw_ialdv (v := (yLast σ).2.1 0 (b)) ⟨rfl, rfl⟩ za_227 (by omega) ((hG.2.2.2.1 (b) (by omega) (by omega)).1) ?_
        refine zw_icge ⟨rfl, rfl⟩ rfl (fun c26 => ?_) (fun c26 => ?_)
        · skip
          refine zw_const ⟨rfl, rfl⟩ ?_
          refine zw_ret rfl ?_
          rw [show yco (yLast σ) a b = 2 from by unfold yco; rw [ra, rb]; (repeat' split) <;> omega] at k
          exact k
        · skip
          refine zw_const ⟨rfl, rfl⟩ ?_
          refine zw_goto ⟨rfl, rfl⟩ rfl ?_
          refine zw_ret rfl ?_
          rw [show yco (yLast σ) a b = 1 from by unfold yco; rw [ra, rb]; (repeat' split) <;> omega] at k
          exact k

theorem m_Mbase_l  {i : Int} {M : zM} {Q : zV → zM → Prop} {σ : yS} (hV : yVal σ) (hG : yLay M σ) (hi : 0 ≤ i ∧ i < (yci (yK σ) (σ 0))) (k : Q (0, ybG σ i) M) : ∀ (f : Nat) (p : Int), ((yTk σ i).1 ≤ p ∧ p ≤ (yTk σ (i + 1)).1) → (yfst (fun k => (yLast σ).2.1 5 k = 2) p ((yTk σ (i + 1)).1 - p).toNat = ybG σ i) → ((yTk σ (i + 1)).1 - p).toNat < f → zWp kM_baseGlyph 5 [(1, 208), (0, i), (0, p)] [] M Q := by
  intro f
  induction f with
  | zero => intro p i1 i2 hf; exact absurd hf (Nat.not_lt_zero _)
  | succ f ih =>
    intro p i1 i2 hf
    have hK := yKr_K hV
    have hn := hV.1
    have hci := yci_60 hK
    have eyL : (yTk σ (yci (yK σ) (σ 0))).1 = (yLast σ).1 := rfl
    have hgl0 := yLast_r hV
    have g1 := yg_r hV hi.1 (show i ≤ (yci (yK σ) (σ 0)) by omega)
    have g2 := yg_r hV (show 0 ≤ i + 1 by omega) (show i + 1 ≤ (yci (yK σ) (σ 0)) by omega)
    have gr := ybG_r hV hi.1 hi.2
    have hlt : p < (yTk σ (i + 1)).1 := by
      by_cases z : p < (yTk σ (i + 1)).1
      · exact z
      · exfalso
        rw [show ((yTk σ (i + 1)).1 - p).toNat = 0 by omega] at i2
        unfold yfst at i2
        omega
    have hl180 := yLast_r hV
    rw [show ((yTk σ (i + 1)).1 - p).toNat = ((yTk σ (i + 1)).1 - (p + 1)).toNat + 1 by omega] at i2
    unfold yfst at i2
    refine zw_aload ⟨rfl, rfl⟩ rfl ?_
    refine zw_getR 232 ⟨rfl, rfl⟩ zr_208_28 ?_
    refine zw_iload ⟨rfl, rfl⟩ rfl ?_
    refine zw_ialdv (v := (yLast σ).2.1 5 (p)) ⟨rfl, rfl⟩ za_232 (by omega) ((hG.2.2.2.1 (p) (by omega) (by omega)).2.2.2.2.2.1) ?_
    refine zw_const ⟨rfl, rfl⟩ ?_
    refine zw_iceq ⟨rfl, rfl⟩ rfl (fun c1 => ?_) (fun c1 => ?_)
    · skip
      refine zw_iload ⟨rfl, rfl⟩ rfl ?_
      refine zw_ret rfl ?_
      rw [if_pos (by omega)] at i2
      rw [← i2] at k
      exact k
    · skip
      refine zw_iinc_2 ⟨rfl, rfl⟩ (by omega) ?_
      refine zw_goto ⟨rfl, rfl⟩ rfl ?_
      rw [if_neg (by omega)] at i2
      exact ih _ ⟨by omega, by omega⟩ i2 (by omega)

theorem m_Mbase {i : Int} {M : zM} {Q : zV → zM → Prop} {σ : yS} (hV : yVal σ) (hG : yLay M σ) (hi : 0 ≤ i ∧ i < (yci (yK σ) (σ 0))) (k : Q (0, ybG σ i) M) : zWp kM_baseGlyph 0 [(1, 208), (0, i), (3, 0)] [] M Q := by
  have hK := yKr_K hV
  have hn := hV.1
  have hci := yci_60 hK
  have eyL : (yTk σ (yci (yK σ) (σ 0))).1 = (yLast σ).1 := rfl
  have hgl0 := yLast_r hV
  have g1 := yg_r hV hi.1 (show i ≤ (yci (yK σ) (σ 0)) by omega)
  have g2 := yg_r hV (show 0 ≤ i + 1 by omega) (show i + 1 ≤ (yci (yK σ) (σ 0)) by omega)
  have gr := ybG_r hV hi.1 hi.2
  refine zw_aload ⟨rfl, rfl⟩ rfl ?_
  refine zw_getR 221 ⟨rfl, rfl⟩ zr_208_14 ?_
  refine zw_iload ⟨rfl, rfl⟩ rfl ?_
  refine zw_ialdv (v := (yTk σ (i)).1) ⟨rfl, rfl⟩ za_221 (by omega) ((hG.2.2.1 (i) (by omega) (by omega)).2) ?_
  refine zw_istore_2 ⟨rfl, rfl⟩ ?_
  exact m_Mbase_l hV hG hi k _ _ ⟨Int.le_refl _, by omega⟩ rfl (Nat.lt_succ_self _)

theorem m_MinOrder_l  {i j : Int} {M : zM} {Q : zV → zM → Prop} {σ : yS} (hV : yVal σ) (hG : yLay M σ) (hi : 0 ≤ i ∧ i < (yci (yK σ) (σ 0))) (hj : 0 ≤ j ∧ j < (yci (yK σ) (σ 0))) (k : Q (0, yin σ i j) M) : ∀ (f : Nat) (g a b t : Int), (0 ≤ t ∧ t ≤ min (ylen σ i) (ylen σ j)) → (a = (yTk σ i).1 + t) → (b = (yTk σ j).1 + t) → (0 ≤ g ∧ g ≤ 2) → (yic (yLast σ) (min (ylen σ i) (ylen σ j) - t).toNat a b g = yit σ i j) → (min (ylen σ i) (ylen σ j) - t).toNat < f → zWp kM_inOrder 19 [(1, 208), (0, i), (0, j), (0, g), (0, a), (0, b), (3, 0), (3, 0)] [] M Q := by
  intro f
  induction f with
  | zero => intro g a b t i1 ia ib ig i2 hf; exact absurd hf (Nat.not_lt_zero _)
  | succ f ih =>
    intro g a b t i1 ia ib ig i2 hf
    have hK := yKr_K hV
    have hn := hV.1
    have hci := yci_60 hK
    have eyL : (yTk σ (yci (yK σ) (σ 0))).1 = (yLast σ).1 := rfl
    have hgl0 := yLast_r hV
    have g1 := yg_r hV hi.1 (show i ≤ (yci (yK σ) (σ 0)) by omega)
    have g2 := yg_r hV (show 0 ≤ i + 1 by omega) (show i + 1 ≤ (yci (yK σ) (σ 0)) by omega)
    have gi := (yTk_pre σ (i := i) (j := i + 1) (by omega) (by omega)).1
    have g3 := yg_r hV hj.1 (show j ≤ (yci (yK σ) (σ 0)) by omega)
    have g4 := yg_r hV (show 0 ≤ j + 1 by omega) (show j + 1 ≤ (yci (yK σ) (σ 0)) by omega)
    have gj := (yTk_pre σ (i := j) (j := j + 1) (by omega) (by omega)).1
    have hl180 := yLast_r hV
    have eli : ylen σ i = (yTk σ (i + 1)).1 - (yTk σ i).1 := rfl
    have elj : ylen σ j = (yTk σ (j + 1)).1 - (yTk σ j).1 := rfl
    have hcr := yco_r (yLast σ) a b
    refine zw_iload ⟨rfl, rfl⟩ rfl ?_
    refine zw_ifne ⟨rfl, rfl⟩ rfl (fun c1 => ?_) (fun c1 => ?_)
    · skip
      refine zw_iload ⟨rfl, rfl⟩ rfl ?_
      refine zw_ifeq ⟨rfl, rfl⟩ rfl (fun c2 => ?_) (fun c2 => ?_)
      · skip
        refine zw_iload ⟨rfl, rfl⟩ rfl ?_
        refine zw_aload ⟨rfl, rfl⟩ rfl ?_
        refine zw_getR 221 ⟨rfl, rfl⟩ zr_208_14 ?_
        refine zw_iload ⟨rfl, rfl⟩ rfl ?_
        refine zw_const ⟨rfl, rfl⟩ ?_
        refine zw_iadd ⟨rfl, rfl⟩ (by omega) ?_
        refine zw_ialdv (v := (yTk σ ((i + 1))).1) ⟨rfl, rfl⟩ za_221 (by omega) ((hG.2.2.1 ((i + 1)) (by omega) (by omega)).2) ?_
        refine zw_icne ⟨rfl, rfl⟩ rfl (fun c3 => ?_) (fun c3 => ?_)
        · skip
          refine zw_const ⟨rfl, rfl⟩ ?_
          refine zw_istore_6 ⟨rfl, rfl⟩ ?_
          refine zw_iload ⟨rfl, rfl⟩ rfl ?_
          refine zw_aload ⟨rfl, rfl⟩ rfl ?_
          refine zw_getR 221 ⟨rfl, rfl⟩ zr_208_14 ?_
          refine zw_iload ⟨rfl, rfl⟩ rfl ?_
          refine zw_const ⟨rfl, rfl⟩ ?_
          refine zw_iadd ⟨rfl, rfl⟩ (by omega) ?_
          refine zw_ialdv (v := (yTk σ ((j + 1))).1) ⟨rfl, rfl⟩ za_221 (by omega) ((hG.2.2.1 ((j + 1)) (by omega) (by omega)).2) ?_
          refine zw_icne ⟨rfl, rfl⟩ rfl (fun c4 => ?_) (fun c4 => ?_)
          · skip
            refine zw_const ⟨rfl, rfl⟩ ?_
            refine zw_istore_7 ⟨rfl, rfl⟩ ?_
            refine zw_iload ⟨rfl, rfl⟩ rfl ?_
            refine zw_iload ⟨rfl, rfl⟩ rfl ?_
            refine zw_icne ⟨rfl, rfl⟩ rfl (fun q => absurd q (by decide)) (fun _ => ?_)
            refine zw_const ⟨rfl, rfl⟩ ?_
            refine zw_goto ⟨rfl, rfl⟩ rfl ?_
            refine zw_ret rfl ?_
            have e : yin σ i j = 0 := by
              have hg : g = 0 := by omega
              rw [show (min (ylen σ i) (ylen σ j) - t).toNat = 0 by omega] at i2
              unfold yic at i2
              unfold yin
              rw [← i2, if_neg (by omega)]
              (repeat' split) <;> omega
            rw [e] at k
            exact k
          · skip
            refine zw_const ⟨rfl, rfl⟩ ?_
            refine zw_goto ⟨rfl, rfl⟩ rfl ?_
            refine zw_istore_7 ⟨rfl, rfl⟩ ?_
            refine zw_iload ⟨rfl, rfl⟩ rfl ?_
            refine zw_iload ⟨rfl, rfl⟩ rfl ?_
            refine zw_icne ⟨rfl, rfl⟩ rfl (fun _ => ?_) (fun q => absurd (by decide) q)
            refine zw_iload ⟨rfl, rfl⟩ rfl ?_
            refine zw_ifeq ⟨rfl, rfl⟩ rfl (fun _ => ?_) (fun q => absurd (by decide) q)
            refine zw_const ⟨rfl, rfl⟩ ?_
            refine zw_ret rfl ?_
            have e : yin σ i j = 2 := by
              have hg : g = 0 := by omega
              rw [show (min (ylen σ i) (ylen σ j) - t).toNat = 0 by omega] at i2
              unfold yic at i2
              unfold yin
              rw [← i2, if_neg (by omega)]
              (repeat' split) <;> omega
            rw [e] at k
            exact k
        · skip
          refine zw_const ⟨rfl, rfl⟩ ?_
          refine zw_goto ⟨rfl, rfl⟩ rfl ?_
          refine zw_istore_6 ⟨rfl, rfl⟩ ?_
          refine zw_iload ⟨rfl, rfl⟩ rfl ?_
          refine zw_aload ⟨rfl, rfl⟩ rfl ?_
          refine zw_getR 221 ⟨rfl, rfl⟩ zr_208_14 ?_
          refine zw_iload ⟨rfl, rfl⟩ rfl ?_
          refine zw_const ⟨rfl, rfl⟩ ?_
          refine zw_iadd ⟨rfl, rfl⟩ (by omega) ?_
          refine zw_ialdv (v := (yTk σ ((j + 1))).1) ⟨rfl, rfl⟩ za_221 (by omega) ((hG.2.2.1 ((j + 1)) (by omega) (by omega)).2) ?_
          refine zw_icne ⟨rfl, rfl⟩ rfl (fun c8 => ?_) (fun c8 => ?_)
          · skip
            refine zw_const ⟨rfl, rfl⟩ ?_
            refine zw_istore_7 ⟨rfl, rfl⟩ ?_
            refine zw_iload ⟨rfl, rfl⟩ rfl ?_
            refine zw_iload ⟨rfl, rfl⟩ rfl ?_
            refine zw_icne ⟨rfl, rfl⟩ rfl (fun _ => ?_) (fun q => absurd (by decide) q)
            refine zw_iload ⟨rfl, rfl⟩ rfl ?_
            refine zw_ifeq ⟨rfl, rfl⟩ rfl (fun q => absurd q (by decide)) (fun _ => ?_)
            refine zw_const ⟨rfl, rfl⟩ ?_
            refine zw_goto ⟨rfl, rfl⟩ rfl ?_
            refine zw_ret rfl ?_
            have e : yin σ i j = 1 := by
              have hg : g = 0 := by omega
              rw [show (min (ylen σ i) (ylen σ j) - t).toNat = 0 by omega] at i2
              unfold yic at i2
              unfold yin
              rw [← i2, if_neg (by omega)]
              (repeat' split) <;> omega
            rw [e] at k
            exact k
          · skip
            refine zw_const ⟨rfl, rfl⟩ ?_
            refine zw_goto ⟨rfl, rfl⟩ rfl ?_
            refine zw_istore_7 ⟨rfl, rfl⟩ ?_
            refine zw_iload ⟨rfl, rfl⟩ rfl ?_
            refine zw_iload ⟨rfl, rfl⟩ rfl ?_
            refine zw_icne ⟨rfl, rfl⟩ rfl (fun q => absurd q (by decide)) (fun _ => ?_)
            refine zw_const ⟨rfl, rfl⟩ ?_
            refine zw_goto ⟨rfl, rfl⟩ rfl ?_
            refine zw_ret rfl ?_
            have e : yin σ i j = 0 := by
              have hg : g = 0 := by omega
              rw [show (min (ylen σ i) (ylen σ j) - t).toNat = 0 by omega] at i2
              unfold yic at i2
              unfold yin
              rw [← i2, if_neg (by omega)]
              (repeat' split) <;> omega
            rw [e] at k
            exact k
      · skip
        refine zw_iload ⟨rfl, rfl⟩ rfl ?_
        refine zw_ret rfl ?_
        have e : yin σ i j = g := by
          rw [yic_g _ _ _ _ _ (by omega)] at i2
          unfold yin
          rw [← i2, if_pos (by omega)]
        rw [e] at k
        exact k
    · skip
      refine zw_iload ⟨rfl, rfl⟩ rfl ?_
      refine zw_aload ⟨rfl, rfl⟩ rfl ?_
      refine zw_getR 221 ⟨rfl, rfl⟩ zr_208_14 ?_
      refine zw_iload ⟨rfl, rfl⟩ rfl ?_
      refine zw_const ⟨rfl, rfl⟩ ?_
      refine zw_iadd ⟨rfl, rfl⟩ (by omega) ?_
      refine zw_ialdv (v := (yTk σ ((i + 1))).1) ⟨rfl, rfl⟩ za_221 (by omega) ((hG.2.2.1 ((i + 1)) (by omega) (by omega)).2) ?_
      refine zw_icge ⟨rfl, rfl⟩ rfl (fun c12 => ?_) (fun c12 => ?_)
      · skip
        refine zw_iload ⟨rfl, rfl⟩ rfl ?_
        refine zw_ifeq ⟨rfl, rfl⟩ rfl (fun c13 => ?_) (fun c13 => ?_)
        · skip
          refine zw_iload ⟨rfl, rfl⟩ rfl ?_
          refine zw_aload ⟨rfl, rfl⟩ rfl ?_
          refine zw_getR 221 ⟨rfl, rfl⟩ zr_208_14 ?_
          refine zw_iload ⟨rfl, rfl⟩ rfl ?_
          refine zw_const ⟨rfl, rfl⟩ ?_
          refine zw_iadd ⟨rfl, rfl⟩ (by omega) ?_
          refine zw_ialdv (v := (yTk σ ((i + 1))).1) ⟨rfl, rfl⟩ za_221 (by omega) ((hG.2.2.1 ((i + 1)) (by omega) (by omega)).2) ?_
          refine zw_icne ⟨rfl, rfl⟩ rfl (fun c14 => ?_) (fun c14 => ?_)
          · skip
            refine zw_const ⟨rfl, rfl⟩ ?_
            refine zw_istore_6 ⟨rfl, rfl⟩ ?_
            refine zw_iload ⟨rfl, rfl⟩ rfl ?_
            refine zw_aload ⟨rfl, rfl⟩ rfl ?_
            refine zw_getR 221 ⟨rfl, rfl⟩ zr_208_14 ?_
            refine zw_iload ⟨rfl, rfl⟩ rfl ?_
            refine zw_const ⟨rfl, rfl⟩ ?_
            refine zw_iadd ⟨rfl, rfl⟩ (by omega) ?_
            refine zw_ialdv (v := (yTk σ ((j + 1))).1) ⟨rfl, rfl⟩ za_221 (by omega) ((hG.2.2.1 ((j + 1)) (by omega) (by omega)).2) ?_
            refine zw_icne ⟨rfl, rfl⟩ rfl (fun c15 => ?_) (fun c15 => ?_)
            · skip
              refine zw_const ⟨rfl, rfl⟩ ?_
              refine zw_istore_7 ⟨rfl, rfl⟩ ?_
              refine zw_iload ⟨rfl, rfl⟩ rfl ?_
              refine zw_iload ⟨rfl, rfl⟩ rfl ?_
              refine zw_icne ⟨rfl, rfl⟩ rfl (fun q => absurd q (by decide)) (fun _ => ?_)
              refine zw_const ⟨rfl, rfl⟩ ?_
              refine zw_goto ⟨rfl, rfl⟩ rfl ?_
              refine zw_ret rfl ?_
              have e : yin σ i j = 0 := by
                have hg : g = 0 := by omega
                rw [show (min (ylen σ i) (ylen σ j) - t).toNat = 0 by omega] at i2
                unfold yic at i2
                unfold yin
                rw [← i2, if_neg (by omega)]
                (repeat' split) <;> omega
              rw [e] at k
              exact k
            · skip
              refine zw_const ⟨rfl, rfl⟩ ?_
              refine zw_goto ⟨rfl, rfl⟩ rfl ?_
              refine zw_istore_7 ⟨rfl, rfl⟩ ?_
              refine zw_iload ⟨rfl, rfl⟩ rfl ?_
              refine zw_iload ⟨rfl, rfl⟩ rfl ?_
              refine zw_icne ⟨rfl, rfl⟩ rfl (fun _ => ?_) (fun q => absurd (by decide) q)
              refine zw_iload ⟨rfl, rfl⟩ rfl ?_
              refine zw_ifeq ⟨rfl, rfl⟩ rfl (fun _ => ?_) (fun q => absurd (by decide) q)
              refine zw_const ⟨rfl, rfl⟩ ?_
              refine zw_ret rfl ?_
              have e : yin σ i j = 2 := by
                have hg : g = 0 := by omega
                rw [show (min (ylen σ i) (ylen σ j) - t).toNat = 0 by omega] at i2
                unfold yic at i2
                unfold yin
                rw [← i2, if_neg (by omega)]
                (repeat' split) <;> omega
              rw [e] at k
              exact k
          · skip
            refine zw_const ⟨rfl, rfl⟩ ?_
            refine zw_goto ⟨rfl, rfl⟩ rfl ?_
            refine zw_istore_6 ⟨rfl, rfl⟩ ?_
            refine zw_iload ⟨rfl, rfl⟩ rfl ?_
            refine zw_aload ⟨rfl, rfl⟩ rfl ?_
            refine zw_getR 221 ⟨rfl, rfl⟩ zr_208_14 ?_
            refine zw_iload ⟨rfl, rfl⟩ rfl ?_
            refine zw_const ⟨rfl, rfl⟩ ?_
            refine zw_iadd ⟨rfl, rfl⟩ (by omega) ?_
            refine zw_ialdv (v := (yTk σ ((j + 1))).1) ⟨rfl, rfl⟩ za_221 (by omega) ((hG.2.2.1 ((j + 1)) (by omega) (by omega)).2) ?_
            refine zw_icne ⟨rfl, rfl⟩ rfl (fun c19 => ?_) (fun c19 => ?_)
            · skip
              refine zw_const ⟨rfl, rfl⟩ ?_
              refine zw_istore_7 ⟨rfl, rfl⟩ ?_
              refine zw_iload ⟨rfl, rfl⟩ rfl ?_
              refine zw_iload ⟨rfl, rfl⟩ rfl ?_
              refine zw_icne ⟨rfl, rfl⟩ rfl (fun _ => ?_) (fun q => absurd (by decide) q)
              refine zw_iload ⟨rfl, rfl⟩ rfl ?_
              refine zw_ifeq ⟨rfl, rfl⟩ rfl (fun q => absurd q (by decide)) (fun _ => ?_)
              refine zw_const ⟨rfl, rfl⟩ ?_
              refine zw_goto ⟨rfl, rfl⟩ rfl ?_
              refine zw_ret rfl ?_
              have e : yin σ i j = 1 := by
                have hg : g = 0 := by omega
                rw [show (min (ylen σ i) (ylen σ j) - t).toNat = 0 by omega] at i2
                unfold yic at i2
                unfold yin
                rw [← i2, if_neg (by omega)]
                (repeat' split) <;> omega
              rw [e] at k
              exact k
            · skip
              refine zw_const ⟨rfl, rfl⟩ ?_
              refine zw_goto ⟨rfl, rfl⟩ rfl ?_
              refine zw_istore_7 ⟨rfl, rfl⟩ ?_
              refine zw_iload ⟨rfl, rfl⟩ rfl ?_
              refine zw_iload ⟨rfl, rfl⟩ rfl ?_
              refine zw_icne ⟨rfl, rfl⟩ rfl (fun q => absurd q (by decide)) (fun _ => ?_)
              refine zw_const ⟨rfl, rfl⟩ ?_
              refine zw_goto ⟨rfl, rfl⟩ rfl ?_
              refine zw_ret rfl ?_
              have e : yin σ i j = 0 := by
                have hg : g = 0 := by omega
                rw [show (min (ylen σ i) (ylen σ j) - t).toNat = 0 by omega] at i2
                unfold yic at i2
                unfold yin
                rw [← i2, if_neg (by omega)]
                (repeat' split) <;> omega
              rw [e] at k
              exact k
        · skip
          refine zw_iload ⟨rfl, rfl⟩ rfl ?_
          refine zw_ret rfl ?_
          have e : yin σ i j = g := by
            rw [yic_g _ _ _ _ _ (by omega)] at i2
            unfold yin
            rw [← i2, if_pos (by omega)]
          rw [e] at k
          exact k
      · skip
        refine zw_iload ⟨rfl, rfl⟩ rfl ?_
        refine zw_aload ⟨rfl, rfl⟩ rfl ?_
        refine zw_getR 221 ⟨rfl, rfl⟩ zr_208_14 ?_
        refine zw_iload ⟨rfl, rfl⟩ rfl ?_
        refine zw_const ⟨rfl, rfl⟩ ?_
        refine zw_iadd ⟨rfl, rfl⟩ (by omega) ?_
        refine zw_ialdv (v := (yTk σ ((j + 1))).1) ⟨rfl, rfl⟩ za_221 (by omega) ((hG.2.2.1 ((j + 1)) (by omega) (by omega)).2) ?_
        refine zw_icge ⟨rfl, rfl⟩ rfl (fun c23 => ?_) (fun c23 => ?_)
        · skip
          refine zw_iload ⟨rfl, rfl⟩ rfl ?_
          refine zw_ifeq ⟨rfl, rfl⟩ rfl (fun c24 => ?_) (fun c24 => ?_)
          · skip
            refine zw_iload ⟨rfl, rfl⟩ rfl ?_
            refine zw_aload ⟨rfl, rfl⟩ rfl ?_
            refine zw_getR 221 ⟨rfl, rfl⟩ zr_208_14 ?_
            refine zw_iload ⟨rfl, rfl⟩ rfl ?_
            refine zw_const ⟨rfl, rfl⟩ ?_
            refine zw_iadd ⟨rfl, rfl⟩ (by omega) ?_
            refine zw_ialdv (v := (yTk σ ((i + 1))).1) ⟨rfl, rfl⟩ za_221 (by omega) ((hG.2.2.1 ((i + 1)) (by omega) (by omega)).2) ?_
            refine zw_icne ⟨rfl, rfl⟩ rfl (fun c25 => ?_) (fun c25 => ?_)
            · skip
              refine zw_const ⟨rfl, rfl⟩ ?_
              refine zw_istore_6 ⟨rfl, rfl⟩ ?_
              refine zw_iload ⟨rfl, rfl⟩ rfl ?_
              refine zw_aload ⟨rfl, rfl⟩ rfl ?_
              refine zw_getR 221 ⟨rfl, rfl⟩ zr_208_14 ?_
              refine zw_iload ⟨rfl, rfl⟩ rfl ?_
              refine zw_const ⟨rfl, rfl⟩ ?_
              refine zw_iadd ⟨rfl, rfl⟩ (by omega) ?_
              refine zw_ialdv (v := (yTk σ ((j + 1))).1) ⟨rfl, rfl⟩ za_221 (by omega) ((hG.2.2.1 ((j + 1)) (by omega) (by omega)).2) ?_
              refine zw_icne ⟨rfl, rfl⟩ rfl (fun c26 => ?_) (fun c26 => ?_)
              · skip
                refine zw_const ⟨rfl, rfl⟩ ?_
                refine zw_istore_7 ⟨rfl, rfl⟩ ?_
                refine zw_iload ⟨rfl, rfl⟩ rfl ?_
                refine zw_iload ⟨rfl, rfl⟩ rfl ?_
                refine zw_icne ⟨rfl, rfl⟩ rfl (fun q => absurd q (by decide)) (fun _ => ?_)
                refine zw_const ⟨rfl, rfl⟩ ?_
                refine zw_goto ⟨rfl, rfl⟩ rfl ?_
                refine zw_ret rfl ?_
                have e : yin σ i j = 0 := by
                  have hg : g = 0 := by omega
                  rw [show (min (ylen σ i) (ylen σ j) - t).toNat = 0 by omega] at i2
                  unfold yic at i2
                  unfold yin
                  rw [← i2, if_neg (by omega)]
                  (repeat' split) <;> omega
                rw [e] at k
                exact k
              · skip
                refine zw_const ⟨rfl, rfl⟩ ?_
                refine zw_goto ⟨rfl, rfl⟩ rfl ?_
                refine zw_istore_7 ⟨rfl, rfl⟩ ?_
                refine zw_iload ⟨rfl, rfl⟩ rfl ?_
                refine zw_iload ⟨rfl, rfl⟩ rfl ?_
                refine zw_icne ⟨rfl, rfl⟩ rfl (fun _ => ?_) (fun q => absurd (by decide) q)
                refine zw_iload ⟨rfl, rfl⟩ rfl ?_
                refine zw_ifeq ⟨rfl, rfl⟩ rfl (fun _ => ?_) (fun q => absurd (by decide) q)
                refine zw_const ⟨rfl, rfl⟩ ?_
                refine zw_ret rfl ?_
                have e : yin σ i j = 2 := by
                  have hg : g = 0 := by omega
                  rw [show (min (ylen σ i) (ylen σ j) - t).toNat = 0 by omega] at i2
                  unfold yic at i2
                  unfold yin
                  rw [← i2, if_neg (by omega)]
                  (repeat' split) <;> omega
                rw [e] at k
                exact k
            · skip
              refine zw_const ⟨rfl, rfl⟩ ?_
              refine zw_goto ⟨rfl, rfl⟩ rfl ?_
              refine zw_istore_6 ⟨rfl, rfl⟩ ?_
              refine zw_iload ⟨rfl, rfl⟩ rfl ?_
              refine zw_aload ⟨rfl, rfl⟩ rfl ?_
              refine zw_getR 221 ⟨rfl, rfl⟩ zr_208_14 ?_
              refine zw_iload ⟨rfl, rfl⟩ rfl ?_
              refine zw_const ⟨rfl, rfl⟩ ?_
              refine zw_iadd ⟨rfl, rfl⟩ (by omega) ?_
              refine zw_ialdv (v := (yTk σ ((j + 1))).1) ⟨rfl, rfl⟩ za_221 (by omega) ((hG.2.2.1 ((j + 1)) (by omega) (by omega)).2) ?_
              refine zw_icne ⟨rfl, rfl⟩ rfl (fun c30 => ?_) (fun c30 => ?_)
              · skip
                refine zw_const ⟨rfl, rfl⟩ ?_
                refine zw_istore_7 ⟨rfl, rfl⟩ ?_
                refine zw_iload ⟨rfl, rfl⟩ rfl ?_
                refine zw_iload ⟨rfl, rfl⟩ rfl ?_
                refine zw_icne ⟨rfl, rfl⟩ rfl (fun _ => ?_) (fun q => absurd (by decide) q)
                refine zw_iload ⟨rfl, rfl⟩ rfl ?_
                refine zw_ifeq ⟨rfl, rfl⟩ rfl (fun q => absurd q (by decide)) (fun _ => ?_)
                refine zw_const ⟨rfl, rfl⟩ ?_
                refine zw_goto ⟨rfl, rfl⟩ rfl ?_
                refine zw_ret rfl ?_
                have e : yin σ i j = 1 := by
                  have hg : g = 0 := by omega
                  rw [show (min (ylen σ i) (ylen σ j) - t).toNat = 0 by omega] at i2
                  unfold yic at i2
                  unfold yin
                  rw [← i2, if_neg (by omega)]
                  (repeat' split) <;> omega
                rw [e] at k
                exact k
              · skip
                refine zw_const ⟨rfl, rfl⟩ ?_
                refine zw_goto ⟨rfl, rfl⟩ rfl ?_
                refine zw_istore_7 ⟨rfl, rfl⟩ ?_
                refine zw_iload ⟨rfl, rfl⟩ rfl ?_
                refine zw_iload ⟨rfl, rfl⟩ rfl ?_
                refine zw_icne ⟨rfl, rfl⟩ rfl (fun q => absurd q (by decide)) (fun _ => ?_)
                refine zw_const ⟨rfl, rfl⟩ ?_
                refine zw_goto ⟨rfl, rfl⟩ rfl ?_
                refine zw_ret rfl ?_
                have e : yin σ i j = 0 := by
                  have hg : g = 0 := by omega
                  rw [show (min (ylen σ i) (ylen σ j) - t).toNat = 0 by omega] at i2
                  unfold yic at i2
                  unfold yin
                  rw [← i2, if_neg (by omega)]
                  (repeat' split) <;> omega
                rw [e] at k
                exact k
          · skip
            refine zw_iload ⟨rfl, rfl⟩ rfl ?_
            refine zw_ret rfl ?_
            have e : yin σ i j = g := by
              rw [yic_g _ _ _ _ _ (by omega)] at i2
              unfold yin
              rw [← i2, if_pos (by omega)]
            rw [e] at k
            exact k
        · skip
          rw [show (min (ylen σ i) (ylen σ j) - t).toNat = (min (ylen σ i) (ylen σ j) - (t + 1)).toNat + 1 by omega] at i2
          unfold yic at i2
          rw [if_neg (by omega)] at i2
          refine zw_aload ⟨rfl, rfl⟩ rfl ?_
          refine zw_iload ⟨rfl, rfl⟩ rfl ?_
          refine zw_iload ⟨rfl, rfl⟩ rfl ?_
          refine zw_callv3 ⟨rfl, rfl⟩ rfl zc_208 rfl ?_
          refine m_Mgo hV hG ⟨by omega, by omega⟩ ⟨by omega, by omega⟩ ?_
          refine zw_istore_3 ⟨rfl, rfl⟩ ?_
          refine zw_iinc_4 ⟨rfl, rfl⟩ (by omega) ?_
          refine zw_iinc_5 ⟨rfl, rfl⟩ (by omega) ?_
          refine zw_goto ⟨rfl, rfl⟩ rfl ?_
          exact ih _ _ _ (t + 1) ⟨by omega, by omega⟩ (by omega) (by omega) hcr i2 (by omega)

theorem m_MinOrder {i j : Int} {M : zM} {Q : zV → zM → Prop} {σ : yS} (hV : yVal σ) (hG : yLay M σ) (hi : 0 ≤ i ∧ i < (yci (yK σ) (σ 0))) (hj : 0 ≤ j ∧ j < (yci (yK σ) (σ 0))) (k : Q (0, yin σ i j) M) : zWp kM_inOrder 0 [(1, 208), (0, i), (0, j), (3, 0), (3, 0), (3, 0), (3, 0), (3, 0)] [] M Q := by
  have hK := yKr_K hV
  have hn := hV.1
  have hci := yci_60 hK
  have eyL : (yTk σ (yci (yK σ) (σ 0))).1 = (yLast σ).1 := rfl
  have hgl0 := yLast_r hV
  have g1 := yg_r hV hi.1 (show i ≤ (yci (yK σ) (σ 0)) by omega)
  have g2 := yg_r hV (show 0 ≤ i + 1 by omega) (show i + 1 ≤ (yci (yK σ) (σ 0)) by omega)
  have gi := (yTk_pre σ (i := i) (j := i + 1) (by omega) (by omega)).1
  have g3 := yg_r hV hj.1 (show j ≤ (yci (yK σ) (σ 0)) by omega)
  have g4 := yg_r hV (show 0 ≤ j + 1 by omega) (show j + 1 ≤ (yci (yK σ) (σ 0)) by omega)
  have gj := (yTk_pre σ (i := j) (j := j + 1) (by omega) (by omega)).1
  have hl180 := yLast_r hV
  have eli : ylen σ i = (yTk σ (i + 1)).1 - (yTk σ i).1 := rfl
  have elj : ylen σ j = (yTk σ (j + 1)).1 - (yTk σ j).1 := rfl
  have bi := (ybG_r hV hi.1 hi.2).1
  have bj := (ybG_r hV hj.1 hj.2).1
  refine zw_aload ⟨rfl, rfl⟩ rfl ?_
  refine zw_aload ⟨rfl, rfl⟩ rfl ?_
  refine zw_iload ⟨rfl, rfl⟩ rfl ?_
  refine zw_callv2 ⟨rfl, rfl⟩ rfl zc_208 rfl ?_
  refine m_Mbase hV hG hi ?_
  refine zw_aload ⟨rfl, rfl⟩ rfl ?_
  refine zw_iload ⟨rfl, rfl⟩ rfl ?_
  refine zw_callv2 ⟨rfl, rfl⟩ rfl zc_208 rfl ?_
  refine m_Mbase hV hG hj ?_
  refine zw_callv3 ⟨rfl, rfl⟩ rfl zc_208 rfl ?_
  refine m_Mgo hV hG ⟨by omega, by omega⟩ ⟨by omega, by omega⟩ ?_
  refine zw_istore_3 ⟨rfl, rfl⟩ ?_
  refine zw_aload ⟨rfl, rfl⟩ rfl ?_
  refine zw_getR 221 ⟨rfl, rfl⟩ zr_208_14 ?_
  refine zw_iload ⟨rfl, rfl⟩ rfl ?_
  refine zw_ialdv (v := (yTk σ (i)).1) ⟨rfl, rfl⟩ za_221 (by omega) ((hG.2.2.1 (i) (by omega) (by omega)).2) ?_
  refine zw_istore_4 ⟨rfl, rfl⟩ ?_
  refine zw_aload ⟨rfl, rfl⟩ rfl ?_
  refine zw_getR 221 ⟨rfl, rfl⟩ zr_208_14 ?_
  refine zw_iload ⟨rfl, rfl⟩ rfl ?_
  refine zw_ialdv (v := (yTk σ (j)).1) ⟨rfl, rfl⟩ za_221 (by omega) ((hG.2.2.1 (j) (by omega) (by omega)).2) ?_
  refine zw_istore_5 ⟨rfl, rfl⟩ ?_
  exact m_MinOrder_l hV hG hi hj k _ _ _ _ 0 ⟨Int.le_refl _, by omega⟩ (by omega) (by omega) (yco_r _ _ _) (by rw [Int.sub_zero]; rfl) (Nat.lt_succ_self _)

theorem d_alike {i j : Int} {M : zM} {Q : zV → zM → Prop} {σ : yS} (hV : yVal σ) (hM : yMo M σ)  (k : ∀ N : zM, ymf M N → Q (0, ya_alike σ i j) N) : zWp kM_alike 0 [(1, 208), (0, i), (0, j)] [] M Q := by
  have hK := yKr_K hV
  have hn := hV.1
  have hci := yci_60 hK
  have eyL : (yTk σ (yci (yK σ) (σ 0))).1 = (yLast σ).1 := rfl
  have hgl := yLast_r hV
  refine zw_aload ⟨rfl, rfl⟩ rfl ?_
  refine zw_const ⟨rfl, rfl⟩ ?_
  refine zw_putI ⟨rfl, rfl⟩ zc_208 (by decide) (fun h => absurd h (by decide)) ?_
  refine zw_aload ⟨rfl, rfl⟩ rfl ?_
  refine zw_iload ⟨rfl, rfl⟩ rfl ?_
  refine zw_callv2 ⟨rfl, rfl⟩ rfl zc_208 rfl ?_
  refine zw_aload ⟨rfl, rfl⟩ rfl ?_
  refine zw_cavv1 ⟨rfl, rfl⟩ rfl zc_208 rfl ?_
  refine m_laysAll hV (hM.cg (zup_row (by decide))) (fun N1 p1 => ?_)
  have hG1 := p1.1
  have hf1 : ymf M N1 := ymf_0.tr p1.2.m
  have hM1 : yMo N1 σ := hM.cg (hf1.1 209 (Or.inl rfl))
  refine zw_iload ⟨rfl, rfl⟩ rfl ?_
  refine zw_i2l ⟨rfl, rfl⟩ ?_
  refine zw_lconst ⟨rfl, rfl⟩ ?_
  refine zw_aload ⟨rfl, rfl⟩ rfl ?_
  refine zw_getIv (v := (yci (yK σ) (σ 0))) ⟨rfl, rfl⟩ zc_208 (by decide) (hG1.1.1) ?_
  refine zw_const ⟨rfl, rfl⟩ ?_
  refine zw_isub ⟨rfl, rfl⟩ (by omega) ?_
  refine zw_i2l ⟨rfl, rfl⟩ ?_
  refine zw_calLs3 ⟨rfl, rfl⟩ rfl rfl ?_
  refine zw_lload ⟨rfl, rfl⟩ rfl ?_
  refine zw_lload ⟨rfl, rfl⟩ rfl ?_
  refine zw_lcmp ⟨rfl, rfl⟩ ?_
  refine zw_iflt ⟨rfl, rfl⟩ rfl (fun c1 => ?_) (fun c1 => ?_)
  · replace c1 := zlc_lt.mp c1
    refine zw_const ⟨rfl, rfl⟩ ?_
    refine zw_zret rfl (by first | exact Or.inl rfl | exact Or.inr rfl | omega) ?_
    refine zw_zret rfl (by first | exact Or.inl rfl | exact Or.inr rfl | omega) ?_
    refine zw_ifeq ⟨rfl, rfl⟩ rfl (fun _ => ?_) (fun q => absurd (by decide) q)
    refine zw_const ⟨rfl, rfl⟩ ?_
    refine zw_ret rfl ?_
    have e : ya_alike σ i j = (-2) := by unfold ya_alike; (repeat' split) <;> omega
    rw [e] at k
    exact k _ hf1
  · replace c1 := (not_congr zlc_lt).mp c1
    refine zw_lload ⟨rfl, rfl⟩ rfl ?_
    refine zw_lload ⟨rfl, rfl⟩ rfl ?_
    refine zw_lcmp ⟨rfl, rfl⟩ ?_
    refine zw_ifgt ⟨rfl, rfl⟩ rfl (fun c3 => ?_) (fun c3 => ?_)
    · replace c3 := zlc_gt.mp c3
      refine zw_const ⟨rfl, rfl⟩ ?_
      refine zw_zret rfl (by first | exact Or.inl rfl | exact Or.inr rfl | omega) ?_
      refine zw_zret rfl (by first | exact Or.inl rfl | exact Or.inr rfl | omega) ?_
      refine zw_ifeq ⟨rfl, rfl⟩ rfl (fun _ => ?_) (fun q => absurd (by decide) q)
      refine zw_const ⟨rfl, rfl⟩ ?_
      refine zw_ret rfl ?_
      have e : ya_alike σ i j = (-2) := by unfold ya_alike; (repeat' split) <;> omega
      rw [e] at k
      exact k _ hf1
    · replace c3 := (not_congr zlc_gt).mp c3
      refine zw_const ⟨rfl, rfl⟩ ?_
      refine zw_goto ⟨rfl, rfl⟩ rfl ?_
      refine zw_zret rfl (by first | exact Or.inl rfl | exact Or.inr rfl | omega) ?_
      refine zw_zret rfl (by first | exact Or.inl rfl | exact Or.inr rfl | omega) ?_
      refine zw_ifeq ⟨rfl, rfl⟩ rfl (fun q => absurd q (by decide)) (fun _ => ?_)
      refine zw_aload ⟨rfl, rfl⟩ rfl ?_
      refine zw_iload ⟨rfl, rfl⟩ rfl ?_
      refine zw_callv2 ⟨rfl, rfl⟩ rfl zc_208 rfl ?_
      refine zw_aload ⟨rfl, rfl⟩ rfl ?_
      refine zw_cavv1 ⟨rfl, rfl⟩ rfl zc_208 rfl ?_
      refine m_laysAll hV (hM1) (fun N2 p2 => ?_)
      have hG2 := p2.1
      have hf2 : ymf M N2 := hf1.tr p2.2.m
      have hM2 : yMo N2 σ := hM.cg (hf2.1 209 (Or.inl rfl))
      refine zw_iload ⟨rfl, rfl⟩ rfl ?_
      refine zw_i2l ⟨rfl, rfl⟩ ?_
      refine zw_lconst ⟨rfl, rfl⟩ ?_
      refine zw_aload ⟨rfl, rfl⟩ rfl ?_
      refine zw_getIv (v := (yci (yK σ) (σ 0))) ⟨rfl, rfl⟩ zc_208 (by decide) (hG2.1.1) ?_
      refine zw_const ⟨rfl, rfl⟩ ?_
      refine zw_isub ⟨rfl, rfl⟩ (by omega) ?_
      refine zw_i2l ⟨rfl, rfl⟩ ?_
      refine zw_calLs3 ⟨rfl, rfl⟩ rfl rfl ?_
      refine zw_lload ⟨rfl, rfl⟩ rfl ?_
      refine zw_lload ⟨rfl, rfl⟩ rfl ?_
      refine zw_lcmp ⟨rfl, rfl⟩ ?_
      refine zw_iflt ⟨rfl, rfl⟩ rfl (fun c6 => ?_) (fun c6 => ?_)
      · replace c6 := zlc_lt.mp c6
        refine zw_const ⟨rfl, rfl⟩ ?_
        refine zw_zret rfl (by first | exact Or.inl rfl | exact Or.inr rfl | omega) ?_
        refine zw_zret rfl (by first | exact Or.inl rfl | exact Or.inr rfl | omega) ?_
        refine zw_ifne ⟨rfl, rfl⟩ rfl (fun q => absurd q (by decide)) (fun _ => ?_)
        refine zw_const ⟨rfl, rfl⟩ ?_
        refine zw_ret rfl ?_
        have e : ya_alike σ i j = (-2) := by unfold ya_alike; (repeat' split) <;> omega
        rw [e] at k
        exact k _ hf2
      · replace c6 := (not_congr zlc_lt).mp c6
        refine zw_lload ⟨rfl, rfl⟩ rfl ?_
        refine zw_lload ⟨rfl, rfl⟩ rfl ?_
        refine zw_lcmp ⟨rfl, rfl⟩ ?_
        refine zw_ifgt ⟨rfl, rfl⟩ rfl (fun c8 => ?_) (fun c8 => ?_)
        · replace c8 := zlc_gt.mp c8
          refine zw_const ⟨rfl, rfl⟩ ?_
          refine zw_zret rfl (by first | exact Or.inl rfl | exact Or.inr rfl | omega) ?_
          refine zw_zret rfl (by first | exact Or.inl rfl | exact Or.inr rfl | omega) ?_
          refine zw_ifne ⟨rfl, rfl⟩ rfl (fun q => absurd q (by decide)) (fun _ => ?_)
          refine zw_const ⟨rfl, rfl⟩ ?_
          refine zw_ret rfl ?_
          have e : ya_alike σ i j = (-2) := by unfold ya_alike; (repeat' split) <;> omega
          rw [e] at k
          exact k _ hf2
        · replace c8 := (not_congr zlc_gt).mp c8
          refine zw_const ⟨rfl, rfl⟩ ?_
          refine zw_goto ⟨rfl, rfl⟩ rfl ?_
          refine zw_zret rfl (by first | exact Or.inl rfl | exact Or.inr rfl | omega) ?_
          refine zw_zret rfl (by first | exact Or.inl rfl | exact Or.inr rfl | omega) ?_
          refine zw_ifne ⟨rfl, rfl⟩ rfl (fun _ => ?_) (fun q => absurd (by decide) q)
          refine zw_aload ⟨rfl, rfl⟩ rfl ?_
          refine zw_iload ⟨rfl, rfl⟩ rfl ?_
          refine zw_iload ⟨rfl, rfl⟩ rfl ?_
          refine zw_callv3 ⟨rfl, rfl⟩ rfl zc_208 rfl ?_
          have hir := yin_r σ i j
          refine m_MinOrder hV hG2 ⟨by omega, by omega⟩ ⟨by omega, by omega⟩ ?_
          refine zw_ifne ⟨rfl, rfl⟩ rfl (fun c11 => ?_) (fun c11 => ?_)
          · skip
            refine zw_const ⟨rfl, rfl⟩ ?_
            refine zw_ret rfl ?_
            have e : ya_alike σ i j = 0 := by unfold ya_alike; (repeat' split) <;> omega
            rw [e] at k
            exact k _ hf2
          · skip
            refine zw_const ⟨rfl, rfl⟩ ?_
            refine zw_goto ⟨rfl, rfl⟩ rfl ?_
            refine zw_ret rfl ?_
            have e : ya_alike σ i j = 1 := by unfold ya_alike; (repeat' split) <;> omega
            rw [e] at k
            exact k _ hf2

theorem d_compare {i j : Int} {M : zM} {Q : zV → zM → Prop} {σ : yS} (hV : yVal σ) (hM : yMo M σ)  (k : ∀ N : zM, ymf M N → Q (0, ya_compare σ i j) N) : zWp kM_compare 0 [(1, 208), (0, i), (0, j)] [] M Q := by
  have hK := yKr_K hV
  have hn := hV.1
  have hci := yci_60 hK
  have eyL : (yTk σ (yci (yK σ) (σ 0))).1 = (yLast σ).1 := rfl
  have hgl := yLast_r hV
  refine zw_aload ⟨rfl, rfl⟩ rfl ?_
  refine zw_const ⟨rfl, rfl⟩ ?_
  refine zw_putI ⟨rfl, rfl⟩ zc_208 (by decide) (fun h => absurd h (by decide)) ?_
  refine zw_aload ⟨rfl, rfl⟩ rfl ?_
  refine zw_iload ⟨rfl, rfl⟩ rfl ?_
  refine zw_callv2 ⟨rfl, rfl⟩ rfl zc_208 rfl ?_
  refine zw_aload ⟨rfl, rfl⟩ rfl ?_
  refine zw_cavv1 ⟨rfl, rfl⟩ rfl zc_208 rfl ?_
  refine m_laysAll hV (hM.cg (zup_row (by decide))) (fun N1 p1 => ?_)
  have hG1 := p1.1
  have hf1 : ymf M N1 := ymf_0.tr p1.2.m
  have hM1 : yMo N1 σ := hM.cg (hf1.1 209 (Or.inl rfl))
  refine zw_iload ⟨rfl, rfl⟩ rfl ?_
  refine zw_i2l ⟨rfl, rfl⟩ ?_
  refine zw_lconst ⟨rfl, rfl⟩ ?_
  refine zw_aload ⟨rfl, rfl⟩ rfl ?_
  refine zw_getIv (v := (yci (yK σ) (σ 0))) ⟨rfl, rfl⟩ zc_208 (by decide) (hG1.1.1) ?_
  refine zw_const ⟨rfl, rfl⟩ ?_
  refine zw_isub ⟨rfl, rfl⟩ (by omega) ?_
  refine zw_i2l ⟨rfl, rfl⟩ ?_
  refine zw_calLs3 ⟨rfl, rfl⟩ rfl rfl ?_
  refine zw_lload ⟨rfl, rfl⟩ rfl ?_
  refine zw_lload ⟨rfl, rfl⟩ rfl ?_
  refine zw_lcmp ⟨rfl, rfl⟩ ?_
  refine zw_iflt ⟨rfl, rfl⟩ rfl (fun c1 => ?_) (fun c1 => ?_)
  · replace c1 := zlc_lt.mp c1
    refine zw_const ⟨rfl, rfl⟩ ?_
    refine zw_zret rfl (by first | exact Or.inl rfl | exact Or.inr rfl | omega) ?_
    refine zw_zret rfl (by first | exact Or.inl rfl | exact Or.inr rfl | omega) ?_
    refine zw_ifeq ⟨rfl, rfl⟩ rfl (fun _ => ?_) (fun q => absurd (by decide) q)
    refine zw_const ⟨rfl, rfl⟩ ?_
    refine zw_ret rfl ?_
    have e : ya_compare σ i j = (-2) := by unfold ya_compare; (repeat' split) <;> omega
    rw [e] at k
    exact k _ hf1
  · replace c1 := (not_congr zlc_lt).mp c1
    refine zw_lload ⟨rfl, rfl⟩ rfl ?_
    refine zw_lload ⟨rfl, rfl⟩ rfl ?_
    refine zw_lcmp ⟨rfl, rfl⟩ ?_
    refine zw_ifgt ⟨rfl, rfl⟩ rfl (fun c3 => ?_) (fun c3 => ?_)
    · replace c3 := zlc_gt.mp c3
      refine zw_const ⟨rfl, rfl⟩ ?_
      refine zw_zret rfl (by first | exact Or.inl rfl | exact Or.inr rfl | omega) ?_
      refine zw_zret rfl (by first | exact Or.inl rfl | exact Or.inr rfl | omega) ?_
      refine zw_ifeq ⟨rfl, rfl⟩ rfl (fun _ => ?_) (fun q => absurd (by decide) q)
      refine zw_const ⟨rfl, rfl⟩ ?_
      refine zw_ret rfl ?_
      have e : ya_compare σ i j = (-2) := by unfold ya_compare; (repeat' split) <;> omega
      rw [e] at k
      exact k _ hf1
    · replace c3 := (not_congr zlc_gt).mp c3
      refine zw_const ⟨rfl, rfl⟩ ?_
      refine zw_goto ⟨rfl, rfl⟩ rfl ?_
      refine zw_zret rfl (by first | exact Or.inl rfl | exact Or.inr rfl | omega) ?_
      refine zw_zret rfl (by first | exact Or.inl rfl | exact Or.inr rfl | omega) ?_
      refine zw_ifeq ⟨rfl, rfl⟩ rfl (fun q => absurd q (by decide)) (fun _ => ?_)
      refine zw_aload ⟨rfl, rfl⟩ rfl ?_
      refine zw_iload ⟨rfl, rfl⟩ rfl ?_
      refine zw_callv2 ⟨rfl, rfl⟩ rfl zc_208 rfl ?_
      refine zw_aload ⟨rfl, rfl⟩ rfl ?_
      refine zw_cavv1 ⟨rfl, rfl⟩ rfl zc_208 rfl ?_
      refine m_laysAll hV (hM1) (fun N2 p2 => ?_)
      have hG2 := p2.1
      have hf2 : ymf M N2 := hf1.tr p2.2.m
      have hM2 : yMo N2 σ := hM.cg (hf2.1 209 (Or.inl rfl))
      refine zw_iload ⟨rfl, rfl⟩ rfl ?_
      refine zw_i2l ⟨rfl, rfl⟩ ?_
      refine zw_lconst ⟨rfl, rfl⟩ ?_
      refine zw_aload ⟨rfl, rfl⟩ rfl ?_
      refine zw_getIv (v := (yci (yK σ) (σ 0))) ⟨rfl, rfl⟩ zc_208 (by decide) (hG2.1.1) ?_
      refine zw_const ⟨rfl, rfl⟩ ?_
      refine zw_isub ⟨rfl, rfl⟩ (by omega) ?_
      refine zw_i2l ⟨rfl, rfl⟩ ?_
      refine zw_calLs3 ⟨rfl, rfl⟩ rfl rfl ?_
      refine zw_lload ⟨rfl, rfl⟩ rfl ?_
      refine zw_lload ⟨rfl, rfl⟩ rfl ?_
      refine zw_lcmp ⟨rfl, rfl⟩ ?_
      refine zw_iflt ⟨rfl, rfl⟩ rfl (fun c6 => ?_) (fun c6 => ?_)
      · replace c6 := zlc_lt.mp c6
        refine zw_const ⟨rfl, rfl⟩ ?_
        refine zw_zret rfl (by first | exact Or.inl rfl | exact Or.inr rfl | omega) ?_
        refine zw_zret rfl (by first | exact Or.inl rfl | exact Or.inr rfl | omega) ?_
        refine zw_ifeq ⟨rfl, rfl⟩ rfl (fun _ => ?_) (fun q => absurd (by decide) q)
        refine zw_const ⟨rfl, rfl⟩ ?_
        refine zw_ret rfl ?_
        have e : ya_compare σ i j = (-2) := by unfold ya_compare; (repeat' split) <;> omega
        rw [e] at k
        exact k _ hf2
      · replace c6 := (not_congr zlc_lt).mp c6
        refine zw_lload ⟨rfl, rfl⟩ rfl ?_
        refine zw_lload ⟨rfl, rfl⟩ rfl ?_
        refine zw_lcmp ⟨rfl, rfl⟩ ?_
        refine zw_ifgt ⟨rfl, rfl⟩ rfl (fun c8 => ?_) (fun c8 => ?_)
        · replace c8 := zlc_gt.mp c8
          refine zw_const ⟨rfl, rfl⟩ ?_
          refine zw_zret rfl (by first | exact Or.inl rfl | exact Or.inr rfl | omega) ?_
          refine zw_zret rfl (by first | exact Or.inl rfl | exact Or.inr rfl | omega) ?_
          refine zw_ifeq ⟨rfl, rfl⟩ rfl (fun _ => ?_) (fun q => absurd (by decide) q)
          refine zw_const ⟨rfl, rfl⟩ ?_
          refine zw_ret rfl ?_
          have e : ya_compare σ i j = (-2) := by unfold ya_compare; (repeat' split) <;> omega
          rw [e] at k
          exact k _ hf2
        · replace c8 := (not_congr zlc_gt).mp c8
          refine zw_const ⟨rfl, rfl⟩ ?_
          refine zw_goto ⟨rfl, rfl⟩ rfl ?_
          refine zw_zret rfl (by first | exact Or.inl rfl | exact Or.inr rfl | omega) ?_
          refine zw_zret rfl (by first | exact Or.inl rfl | exact Or.inr rfl | omega) ?_
          refine zw_ifeq ⟨rfl, rfl⟩ rfl (fun q => absurd q (by decide)) (fun _ => ?_)
          refine zw_aload ⟨rfl, rfl⟩ rfl ?_
          refine zw_iload ⟨rfl, rfl⟩ rfl ?_
          refine zw_iload ⟨rfl, rfl⟩ rfl ?_
          refine zw_callv3 ⟨rfl, rfl⟩ rfl zc_208 rfl ?_
          have hir := yin_r σ i j
          refine m_MinOrder hV hG2 ⟨by omega, by omega⟩ ⟨by omega, by omega⟩ ?_
          refine zw_goto ⟨rfl, rfl⟩ rfl ?_
          refine zw_ret rfl ?_
          have e : ya_compare σ i j = yin σ i j := by unfold ya_compare; (repeat' split) <;> omega
          rw [e] at k
          exact k _ hf2

theorem d_kinds_i  {i m : Int} {M : zM} {Q : zV → zM → Prop} {σ : yS} (hV : yVal σ) (hG : yLay M σ) (hi : 0 ≤ i ∧ i < (yci (yK σ) (σ 0))) (kk : ∀ s j, s = ynew σ i → zWp kM_kinds 33 [(1, 208), (0, m), (0, i), (0, s), (0, j)] [] M Q) : ∀ (f : Nat) (s j : Int), (0 ≤ j ∧ j ≤ i) → ((s = 1 ∧ ∀ t, 0 ≤ t → t < j → yin σ t i ≠ 0) ∨ (s = 0 ∧ ynew σ i = 0)) → (i - j).toNat < f → zWp kM_kinds 17 [(1, 208), (0, m), (0, i), (0, s), (0, j)] [] M Q := by
  intro f
  induction f with
  | zero => intro s j i1 i2 hf; exact absurd hf (Nat.not_lt_zero _)
  | succ f ih =>
    intro s j i1 i2 hf
    have hK := yKr_K hV
    have hn := hV.1
    have hci := yci_60 hK
    have hnr := ynew_r σ i
    refine zw_iload ⟨rfl, rfl⟩ rfl ?_
    refine zw_iload ⟨rfl, rfl⟩ rfl ?_
    refine zw_icge ⟨rfl, rfl⟩ rfl (fun c1 => ?_) (fun c1 => ?_)
    · skip
      refine kk _ _ ?_
      rcases i2 with ⟨e1, e2⟩ | ⟨e1, e2⟩
      · rw [e1]; exact (yall_1 _ _ (fun t t1 t2 => e2 t t1 (by omega))).symm
      · rw [e1, e2]
    · skip
      refine zw_iload ⟨rfl, rfl⟩ rfl ?_
      refine zw_ifeq ⟨rfl, rfl⟩ rfl (fun c2 => ?_) (fun c2 => ?_)
      · skip
        refine kk _ _ ?_
        rcases i2 with ⟨e1, e2⟩ | ⟨e1, e2⟩
        · rw [e1]; exact (yall_1 _ _ (fun t t1 t2 => e2 t t1 (by omega))).symm
        · rw [e1, e2]
      · skip
        refine zw_aload ⟨rfl, rfl⟩ rfl ?_
        refine zw_iload ⟨rfl, rfl⟩ rfl ?_
        refine zw_iload ⟨rfl, rfl⟩ rfl ?_
        refine zw_callv3 ⟨rfl, rfl⟩ rfl zc_208 rfl ?_
        have his := yin_s σ i j
        have hir := yin_r σ i j
        refine m_MinOrder hV hG ⟨by omega, by omega⟩ ⟨by omega, by omega⟩ ?_
        refine zw_ifeq ⟨rfl, rfl⟩ rfl (fun c3 => ?_) (fun c3 => ?_)
        · skip
          refine zw_const ⟨rfl, rfl⟩ ?_
          refine zw_istore_3 ⟨rfl, rfl⟩ ?_
          refine zw_iinc_4 ⟨rfl, rfl⟩ (by omega) ?_
          refine zw_goto ⟨rfl, rfl⟩ rfl ?_
          refine ih _ _ ⟨by omega, by omega⟩ (Or.inr ⟨rfl, yall_0 _ _ j i1.1 (by omega) (fun z => z (by omega))⟩) (by omega)
        · skip
          refine zw_const ⟨rfl, rfl⟩ ?_
          refine zw_goto ⟨rfl, rfl⟩ rfl ?_
          refine zw_istore_3 ⟨rfl, rfl⟩ ?_
          refine zw_iinc_4 ⟨rfl, rfl⟩ (by omega) ?_
          refine zw_goto ⟨rfl, rfl⟩ rfl ?_
          refine ih _ _ ⟨by omega, by omega⟩ (Or.inl ⟨rfl, fun t t1 t2 => ?_⟩) (by omega)
          have e2 := (i2.resolve_right (fun z => absurd z.1 (by omega))).2
          by_cases q : t = j
          · subst q; omega
          · exact e2 t t1 (by omega)

theorem d_kinds_e {m i s j : Int} {M : zM} {Q : zV → zM → Prop} (hs : s = 0 ∨ s = 1) (hm : (0 ≤ m ∧ m ≤ 100) ∧ 0 ≤ i ∧ i ≤ 100) (kk : zWp kM_kinds 9 [(1, 208), (0, m + s), (0, i + 1), (0, s), (0, j)] [] M Q) : zWp kM_kinds 33 [(1, 208), (0, m), (0, i), (0, s), (0, j)] [] M Q := by
  refine zw_iload ⟨rfl, rfl⟩ rfl ?_
  refine zw_iload ⟨rfl, rfl⟩ rfl ?_
  refine zw_ifeq ⟨rfl, rfl⟩ rfl (fun c1 => ?_) (fun c1 => ?_)
  · skip
    refine zw_const ⟨rfl, rfl⟩ ?_
    refine zw_iadd ⟨rfl, rfl⟩ (by omega) ?_
    refine zw_istore_1 ⟨rfl, rfl⟩ ?_
    refine zw_iinc_2 ⟨rfl, rfl⟩ (by omega) ?_
    refine zw_goto ⟨rfl, rfl⟩ rfl ?_
    rw [show m + s = m + 0 by omega] at kk
    exact kk
  · skip
    refine zw_const ⟨rfl, rfl⟩ ?_
    refine zw_goto ⟨rfl, rfl⟩ rfl ?_
    refine zw_iadd ⟨rfl, rfl⟩ (by omega) ?_
    refine zw_istore_1 ⟨rfl, rfl⟩ ?_
    refine zw_iinc_2 ⟨rfl, rfl⟩ (by omega) ?_
    refine zw_goto ⟨rfl, rfl⟩ rfl ?_
    rw [show m + s = m + 1 by omega] at kk
    exact kk

theorem d_kinds_o {M : zM} {Q : zV → zM → Prop} {σ : yS} (hV : yVal σ) (hG : yLay M σ) (k : Q (0, ya_kinds σ) M) : ∀ (f0 : Nat) (m i : Int) (u3 u4 : zV), (0 ≤ i ∧ i ≤ (yci (yK σ) (σ 0))) → (m = ysum (ynew σ) i.toNat) → ((yci (yK σ) (σ 0)) - i).toNat < f0 → zWp kM_kinds 9 [(1, 208), (0, m), (0, i), u3, u4] [] M Q := by
  intro f0
  induction f0 with
  | zero => intro m i u3 u4 i1 i2 hf0; exact absurd hf0 (Nat.not_lt_zero _)
  | succ f0 ih =>
    intro m i u3 u4 i1 i2 hf0
    have hK := yKr_K hV
    have hn := hV.1
    have hci := yci_60 hK
    have hsr := ysum_r (ynew σ) (fun j _ => ynew_r σ j) i.toNat
    refine zw_iload ⟨rfl, rfl⟩ rfl ?_
    refine zw_aload ⟨rfl, rfl⟩ rfl ?_
    refine zw_getIv (v := (yci (yK σ) (σ 0))) ⟨rfl, rfl⟩ zc_208 (by decide) (hG.1.1) ?_
    refine zw_icge ⟨rfl, rfl⟩ rfl (fun c1 => ?_) (fun c1 => ?_)
    · skip
      refine zw_iload ⟨rfl, rfl⟩ rfl ?_
      refine zw_ret rfl ?_
      rw [show ya_kinds σ = m from by rw [i2, show i = (yci (yK σ) (σ 0)) by omega]; rfl] at k
      exact k
    · skip
      refine zw_const ⟨rfl, rfl⟩ ?_
      refine zw_istore_3 ⟨rfl, rfl⟩ ?_
      refine zw_const ⟨rfl, rfl⟩ ?_
      refine zw_istore_4 ⟨rfl, rfl⟩ ?_
      refine d_kinds_i hV hG ⟨by omega, by omega⟩ (fun s j hs => ?_) _ _ _ ⟨Int.le_refl _, by omega⟩ (Or.inl ⟨rfl, fun t t1 t2 => by omega⟩) (Nat.lt_succ_self _)
      have hnr := ynew_r σ i
      refine d_kinds_e (by omega) (by omega) (ih _ _ _ _ ⟨by omega, by omega⟩ ?_ (by omega))
      rw [ysum_s _ i1.1, ← i2, hs]

theorem d_kinds {M : zM} {Q : zV → zM → Prop} {σ : yS} (hV : yVal σ) (hM : yMo M σ)  (k : ∀ N : zM, ymf M N → Q (0, ya_kinds σ) N) : zWp kM_kinds 0 [(1, 208), (3, 0), (3, 0), (3, 0), (3, 0)] [] M Q := by
  have hK := yKr_K hV
  have hn := hV.1
  have hci := yci_60 hK
  have eyL : (yTk σ (yci (yK σ) (σ 0))).1 = (yLast σ).1 := rfl
  have hgl := yLast_r hV
  refine zw_aload ⟨rfl, rfl⟩ rfl ?_
  refine zw_const ⟨rfl, rfl⟩ ?_
  refine zw_putI ⟨rfl, rfl⟩ zc_208 (by decide) (fun h => absurd h (by decide)) ?_
  refine zw_aload ⟨rfl, rfl⟩ rfl ?_
  refine zw_cavv1 ⟨rfl, rfl⟩ rfl zc_208 rfl ?_
  refine m_laysAll hV (hM.cg (zup_row (by decide))) (fun N1 p1 => ?_)
  have hG1 := p1.1
  have hf1 : ymf M N1 := ymf_0.tr p1.2.m
  have hM1 : yMo N1 σ := hM.cg (hf1.1 209 (Or.inl rfl))
  refine zw_const ⟨rfl, rfl⟩ ?_
  refine zw_istore_1 ⟨rfl, rfl⟩ ?_
  refine zw_const ⟨rfl, rfl⟩ ?_
  refine zw_istore_2 ⟨rfl, rfl⟩ ?_
  exact d_kinds_o hV hG1 (k _ hf1) _ _ _ _ _ ⟨Int.le_refl _, hci.1⟩ rfl (Nat.lt_succ_self _)

theorem d_ranked_i  {i c : Int} {M : zM} {Q : zV → zM → Prop} {σ : yS} (hV : yVal σ) (hG : yLay M σ) (hc : 0 ≤ c ∧ c < (yci (yK σ) (σ 0))) (kk : ∀ e, zWp kM_ranked 45 [(1, 208), (0, i), (0, c), (0, yah σ c), (0, e)] [] M Q) : ∀ (f : Nat) (m e : Int), (0 ≤ e ∧ e ≤ (yci (yK σ) (σ 0))) → (m = ysum (yah1 σ c) e.toNat) → ((yci (yK σ) (σ 0)) - e).toNat < f → zWp kM_ranked 19 [(1, 208), (0, i), (0, c), (0, m), (0, e)] [] M Q := by
  intro f
  induction f with
  | zero => intro m e i1 i2 hf; exact absurd hf (Nat.not_lt_zero _)
  | succ f ih =>
    intro m e i1 i2 hf
    have hK := yKr_K hV
    have hn := hV.1
    have hci := yci_60 hK
    have hsr := ysum_r (yah1 σ c) (fun j _ => yah1_r σ c j) e.toNat
    refine zw_iload ⟨rfl, rfl⟩ rfl ?_
    refine zw_aload ⟨rfl, rfl⟩ rfl ?_
    refine zw_getIv (v := (yci (yK σ) (σ 0))) ⟨rfl, rfl⟩ zc_208 (by decide) (hG.1.1) ?_
    refine zw_icge ⟨rfl, rfl⟩ rfl (fun c1 => ?_) (fun c1 => ?_)
    · skip
      rw [show m = yah σ c from by rw [i2, show e = (yci (yK σ) (σ 0)) by omega]; rfl]
      exact kk _
    · skip
      have hss := ysum_s (yah1 σ c) i1.1
      refine zw_iload ⟨rfl, rfl⟩ rfl ?_
      refine zw_aload ⟨rfl, rfl⟩ rfl ?_
      refine zw_iload ⟨rfl, rfl⟩ rfl ?_
      refine zw_iload ⟨rfl, rfl⟩ rfl ?_
      refine zw_callv3 ⟨rfl, rfl⟩ rfl zc_208 rfl ?_
      have hir := yin_r σ e c
      refine m_MinOrder hV hG ⟨by omega, by omega⟩ ⟨by omega, by omega⟩ ?_
      refine zw_const ⟨rfl, rfl⟩ ?_
      refine zw_iceq ⟨rfl, rfl⟩ rfl (fun c2 => ?_) (fun c2 => ?_)
      · skip
        refine zw_const ⟨rfl, rfl⟩ ?_
        refine zw_goto ⟨rfl, rfl⟩ rfl ?_
        refine zw_iadd ⟨rfl, rfl⟩ (by omega) ?_
        refine zw_istore_3 ⟨rfl, rfl⟩ ?_
        refine zw_iinc_4 ⟨rfl, rfl⟩ (by omega) ?_
        refine zw_goto ⟨rfl, rfl⟩ rfl ?_
        refine ih _ _ ⟨by omega, by omega⟩ ?_ (by omega)
        rw [hss, ← i2]
        unfold yah1
        first | (rw [if_pos (by omega)]; done) | (rw [if_neg (by omega)]; done)
      · skip
        refine zw_iload ⟨rfl, rfl⟩ rfl ?_
        refine zw_iload ⟨rfl, rfl⟩ rfl ?_
        refine zw_icge ⟨rfl, rfl⟩ rfl (fun c3 => ?_) (fun c3 => ?_)
        · skip
          refine zw_const ⟨rfl, rfl⟩ ?_
          refine zw_iadd ⟨rfl, rfl⟩ (by omega) ?_
          refine zw_istore_3 ⟨rfl, rfl⟩ ?_
          refine zw_iinc_4 ⟨rfl, rfl⟩ (by omega) ?_
          refine zw_goto ⟨rfl, rfl⟩ rfl ?_
          refine ih _ _ ⟨by omega, by omega⟩ ?_ (by omega)
          rw [hss, ← i2]
          unfold yah1
          first | (rw [if_pos (by omega)]; done) | (rw [if_neg (by omega)]; done)
        · skip
          refine zw_aload ⟨rfl, rfl⟩ rfl ?_
          refine zw_iload ⟨rfl, rfl⟩ rfl ?_
          refine zw_iload ⟨rfl, rfl⟩ rfl ?_
          refine zw_callv3 ⟨rfl, rfl⟩ rfl zc_208 rfl ?_
          have hir := yin_r σ e c
          refine m_MinOrder hV hG ⟨by omega, by omega⟩ ⟨by omega, by omega⟩ ?_
          refine zw_ifne ⟨rfl, rfl⟩ rfl (fun c4 => ?_) (fun c4 => ?_)
          · skip
            refine zw_const ⟨rfl, rfl⟩ ?_
            refine zw_iadd ⟨rfl, rfl⟩ (by omega) ?_
            refine zw_istore_3 ⟨rfl, rfl⟩ ?_
            refine zw_iinc_4 ⟨rfl, rfl⟩ (by omega) ?_
            refine zw_goto ⟨rfl, rfl⟩ rfl ?_
            refine ih _ _ ⟨by omega, by omega⟩ ?_ (by omega)
            rw [hss, ← i2]
            unfold yah1
            first | (rw [if_pos (by omega)]; done) | (rw [if_neg (by omega)]; done)
          · skip
            refine zw_const ⟨rfl, rfl⟩ ?_
            refine zw_goto ⟨rfl, rfl⟩ rfl ?_
            refine zw_iadd ⟨rfl, rfl⟩ (by omega) ?_
            refine zw_istore_3 ⟨rfl, rfl⟩ ?_
            refine zw_iinc_4 ⟨rfl, rfl⟩ (by omega) ?_
            refine zw_goto ⟨rfl, rfl⟩ rfl ?_
            refine ih _ _ ⟨by omega, by omega⟩ ?_ (by omega)
            rw [hss, ← i2]
            unfold yah1
            first | (rw [if_pos (by omega)]; done) | (rw [if_neg (by omega)]; done)

theorem d_ranked_e {i c e v : Int} {M : zM} {Q : zV → zM → Prop} {σ : yS} (hc : 0 ≤ c ∧ c ≤ 60) (k1 : yah σ c = i → Q (0, c) M) (k2 : yah σ c ≠ i → zWp kM_ranked 11 [(1, 208), (0, i), (0, c + 1), (0, yah σ c), (0, e)] [] M Q) : zWp kM_ranked 45 [(1, 208), (0, i), (0, c), (0, yah σ c), (0, e)] [] M Q := by
  refine zw_iload ⟨rfl, rfl⟩ rfl ?_
  refine zw_iload ⟨rfl, rfl⟩ rfl ?_
  refine zw_icne ⟨rfl, rfl⟩ rfl (fun c1 => ?_) (fun c1 => ?_)
  · skip
    refine zw_iinc_2 ⟨rfl, rfl⟩ (by omega) ?_
    refine zw_goto ⟨rfl, rfl⟩ rfl ?_
    exact k2 (by omega)
  · skip
    refine zw_iload ⟨rfl, rfl⟩ rfl ?_
    refine zw_ret rfl ?_
    exact k1 (by omega)

theorem d_ranked_l {i v : Int} {M : zM} {Q : zV → zM → Prop} {σ : yS} (hV : yVal σ) (hG : yLay M σ) (k : Q (0, v) M) : ∀ (f0 : Nat) (c : Int) (u3 u4 : zV), (0 ≤ c ∧ c ≤ (yci (yK σ) (σ 0))) → (yfst (fun c => yah σ c = i) c ((yci (yK σ) (σ 0)) - c).toNat = v) → ((yci (yK σ) (σ 0)) - c).toNat < f0 → zWp kM_ranked 11 [(1, 208), (0, i), (0, c), u3, u4] [] M Q := by
  intro f0
  induction f0 with
  | zero => intro c u3 u4 i1 i2 hf0; exact absurd hf0 (Nat.not_lt_zero _)
  | succ f0 ih =>
    intro c u3 u4 i1 i2 hf0
    have hK := yKr_K hV
    have hn := hV.1
    have hci := yci_60 hK
    refine zw_iload ⟨rfl, rfl⟩ rfl ?_
    refine zw_aload ⟨rfl, rfl⟩ rfl ?_
    refine zw_getIv (v := (yci (yK σ) (σ 0))) ⟨rfl, rfl⟩ zc_208 (by decide) (hG.1.1) ?_
    refine zw_icge ⟨rfl, rfl⟩ rfl (fun c1 => ?_) (fun c1 => ?_)
    · skip
      refine zw_const ⟨rfl, rfl⟩ ?_
      refine zw_ret rfl ?_
      rw [show ((yci (yK σ) (σ 0)) - c).toNat = 0 by omega] at i2
      unfold yfst at i2
      rw [← i2] at k
      exact k
    · skip
      refine zw_const ⟨rfl, rfl⟩ ?_
      refine zw_istore_3 ⟨rfl, rfl⟩ ?_
      refine zw_const ⟨rfl, rfl⟩ ?_
      refine zw_istore_4 ⟨rfl, rfl⟩ ?_
      rw [show ((yci (yK σ) (σ 0)) - c).toNat = ((yci (yK σ) (σ 0)) - (c + 1)).toNat + 1 by omega] at i2
      unfold yfst at i2
      refine d_ranked_i hV hG ⟨by omega, by omega⟩ (fun e => ?_) _ _ _ ⟨Int.le_refl _, hci.1⟩ rfl (Nat.lt_succ_self _)
      refine d_ranked_e (v := v) (by omega) (fun z => ?_) (fun z => ?_)
      · rw [if_pos z] at i2
        rw [← i2] at k
        exact k
      · rw [if_neg z] at i2
        exact ih _ _ _ ⟨by omega, by omega⟩ i2 (by omega)

theorem d_ranked {i : Int} {M : zM} {Q : zV → zM → Prop} {σ : yS} (hV : yVal σ) (hM : yMo M σ)  (k : ∀ N : zM, ymf M N → Q (0, ya_ranked σ i) N) : zWp kM_ranked 0 [(1, 208), (0, i), (3, 0), (3, 0), (3, 0)] [] M Q := by
  have hK := yKr_K hV
  have hn := hV.1
  have hci := yci_60 hK
  have eyL : (yTk σ (yci (yK σ) (σ 0))).1 = (yLast σ).1 := rfl
  have hgl := yLast_r hV
  refine zw_aload ⟨rfl, rfl⟩ rfl ?_
  refine zw_const ⟨rfl, rfl⟩ ?_
  refine zw_putI ⟨rfl, rfl⟩ zc_208 (by decide) (fun h => absurd h (by decide)) ?_
  refine zw_iload ⟨rfl, rfl⟩ rfl ?_
  refine zw_ifge ⟨rfl, rfl⟩ rfl (fun c1 => ?_) (fun c1 => ?_)
  · skip
    refine zw_aload ⟨rfl, rfl⟩ rfl ?_
    refine zw_cavv1 ⟨rfl, rfl⟩ rfl zc_208 rfl ?_
    refine m_laysAll hV (hM.cg (zup_row (by decide))) (fun N1 p1 => ?_)
    have hG1 := p1.1
    have hf1 : ymf M N1 := ymf_0.tr p1.2.m
    have hM1 : yMo N1 σ := hM.cg (hf1.1 209 (Or.inl rfl))
    refine zw_const ⟨rfl, rfl⟩ ?_
    refine zw_istore_2 ⟨rfl, rfl⟩ ?_
    exact d_ranked_l hV hG1 (k _ hf1) _ _ _ _ ⟨Int.le_refl _, hci.1⟩ (by rw [Int.sub_zero]; exact (if_neg (by omega) : ya_ranked σ i = _).symm) (Nat.lt_succ_self _)
  · skip
    refine zw_const ⟨rfl, rfl⟩ ?_
    refine zw_ret rfl ?_
    rw [show ya_ranked σ i = -3 from if_pos (by omega)] at k
    exact k _ ymf_0

end