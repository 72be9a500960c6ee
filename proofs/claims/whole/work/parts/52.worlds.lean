/-! The two worlds: what the class' object holds and what the model's -/
abbrev yWd : Type := yS × Int × (Int → yS) × (Int → Int) × (Int → yS) × Int × (Int → Int) × Int × Int
def ywds (k : Int) : Int := ([99, 111, 110, 115, 111, 110, 97, 110, 116, 115, 0, 118, 111, 119, 101, 108, 115, 0, 118, 105, 114, 97, 109, 97, 0, 110, 117, 107, 116, 97, 0, 98, 101, 102, 111, 114, 101, 0, 97, 98, 111, 118, 101, 0, 98, 101, 108, 111, 119, 0, 98, 101, 104, 105, 110, 100, 0, 115, 112, 108, 105, 116, 115, 0, 109, 97, 114, 107, 115, 0, 116, 97, 105, 108, 115, 0, 106, 111, 105, 110, 101, 114, 0, 98, 114, 101, 97, 107, 101, 114, 0, 114, 97, 0, 115, 116, 97, 99, 107, 0, 104, 97, 108, 102, 0, 106, 111, 105, 110, 115, 0] : List Int).getD k.toNat 0
def yWv (σ : yS) (un : Int) (uh : Int → yS) (mk : Int → Int) (im : Int → yS) (tn : Int) (tp : Int → Int) : Prop := yVal σ ∧ ((0 ≤ un ∧ un ≤ 10) ∧ ∀ i, 0 ≤ i → i < un → yVal (uh i)) ∧ (∀ i, i = 0 ∨ i = 1 → (mk i = 0 ∨ mk i = 1) ∧ (mk i = 1 → yVal (im i))) ∧ (0 ≤ tn ∧ tn ≤ 400) ∧ ∀ k, 0 ≤ k → k < tn → 0 ≤ tp k ∧ tp k ≤ 255
def yCW (M : zM) (σ : yS) (un : Int) (uh : Int → yS) (mk : Int → Int) (im : Int → yS) (tn : Int) (tp : Int → Int) (ff fp : Int) : Prop := yWv σ un uh mk im tn tp ∧ yTold M σ ∧ ySet M σ ∧ (M 137 0 = 0 ∧ M 136 0 = 0) ∧ yHs M un uh ∧ yPi M ∧ (∀ i, i = 0 ∨ i = 1 → M 83 i = mk i ∧ (mk i = 1 → yStA M (84 + 7 * i) (im i))) ∧ (M 0 1 = tn ∧ ∀ k, 0 ≤ k → k < tn → M 1 k = tp k) ∧ M 0 2 = ff ∧ M 0 3 = fp
def yMH (M : zM) (un : Int) (uh : Int → yS) : Prop := M 208 3 = un ∧ ∀ i, 0 ≤ i → i < un → ∀ j, 0 ≤ j → j < 182 → M 210 (182 * i + j) = uh i j
def yMI (M : zM) (mk : Int → Int) (im : Int → yS) : Prop := ∀ i, i = 0 ∨ i = 1 → M 211 i = mk i ∧ (mk i = 1 → ∀ j, 0 ≤ j → j < 182 → M 209 (182 * (i + 1) + j) = im i j)
def yMT (M : zM) (tn : Int) (tp : Int → Int) : Prop := M 208 35 = tn ∧ ∀ k, 0 ≤ k → k < tn → M 236 k = zbyte (tp k)
def yMW (M : zM) (σ : yS) (un : Int) (uh : Int → yS) (mk : Int → Int) (im : Int → yS) (tn : Int) (tp : Int → Int) (ff fp : Int) : Prop := yWv σ un uh mk im tn tp ∧ yMo M σ ∧ yMH M un uh ∧ yMI M mk im ∧ yMT M tn tp ∧ (M 208 38 = ff ∧ M 208 39 = fp) ∧ ∀ k, 0 ≤ k → k < 111 → M 238 k = ywds k
abbrev yCw (M : zM) (W : yWd) : Prop := yCW M W.1 W.2.1 W.2.2.1 W.2.2.2.1 W.2.2.2.2.1 W.2.2.2.2.2.1 W.2.2.2.2.2.2.1 W.2.2.2.2.2.2.2.1 W.2.2.2.2.2.2.2.2
abbrev yMw (M : zM) (W : yWd) : Prop := yMW M W.1 W.2.1 W.2.2.1 W.2.2.2.1 W.2.2.2.2.1 W.2.2.2.2.2.1 W.2.2.2.2.2.2.1 W.2.2.2.2.2.2.2.1 W.2.2.2.2.2.2.2.2
theorem yHs.cg {M N : zM} {un : Int} {uh : Int → yS} (h : yHs M un uh) (e : ∀ b, 9 ≤ b → b ≤ 80 → N b = M b) : yHs N un uh := by
  obtain ⟨a, b, c, d⟩ := h
  have e9 := e 9 (by decide) (by decide)
  have e10 := e 10 (by decide) (by decide)
  refine ⟨by rw [e9]; exact a, b, ?_, fun i i1 i2 => ⟨(d i i1 i2).1, ?_⟩⟩
  · intro i i1 i2
    rw [e10]
    exact c i i1 i2
  · rw [e10]
    have hr := c.rng i1 (show i < 10 by omega)
    exact (d i i1 i2).2.cg (fun b b1 b2 => e b (by omega) (by omega))
theorem yMW.mf {M N : zM} {σ : yS} {un : Int} {uh : Int → yS} {mk : Int → Int} {im : Int → yS} {tn : Int} {tp : Int → Int} {ff fp : Int} (h : yMW M σ un uh mk im tn tp ff fp) (g : ymf M N) : yMW N σ un uh mk im tn tp ff fp := by
  obtain ⟨a, b, c, d, e, f1, f2⟩ := h
  refine ⟨a, b.cg (g.1 209 (by omega)), ⟨(g.2 3 (by omega)).trans c.1, fun i i1 i2 j j1 j2 => by rw [g.1 210 (by omega)]; exact c.2 i i1 i2 j j1 j2⟩, fun i hi => ?_, ⟨(g.2 35 (by omega)).trans e.1, fun k k1 k2 => by rw [g.1 236 (by omega)]; exact e.2 k k1 k2⟩, ⟨(g.2 38 (by omega)).trans f1.1, (g.2 39 (by omega)).trans f1.2⟩, fun k k1 k2 => by rw [g.1 238 (by omega)]; exact f2 k k1 k2⟩
  rw [g.1 211 (by omega), g.1 209 (by omega)]
  exact d i hi
theorem yCW.cg {M N : zM} {σ : yS} {un : Int} {uh : Int → yS} {mk : Int → Int} {im : Int → yS} {tn : Int} {tp : Int → Int} {ff fp : Int} (h : yCW M σ un uh mk im tn tp ff fp) (e : ∀ b, ¬ (140 ≤ b ∧ b ≤ 207) → b < 208 → N b = M b) : yCW N σ un uh mk im tn tp ff fp := by
  obtain ⟨hW, hS, hG, hz, hH, hP, hI, hT, hF1, hF2⟩ := h
  refine ⟨hW, hS.cg (fun b b1 b2 => e b (by omega) (by omega)), hG.cg (fun b b1 b2 => e b (by omega) (by omega)), ?_, hH.cg (fun b b1 b2 => e b (by omega) (by omega)), ?_, ?_, ⟨?_, ?_⟩, ?_, ?_⟩
  · rw [e 137 (by decide) (by decide), e 136 (by decide) (by decide)]; exact hz
  · unfold yPi; rw [e 82 (by decide) (by decide)]; exact hP
  · intro i hi
    rw [e 83 (by decide) (by decide)]
    exact ⟨(hI i hi).1, fun m => ((hI i hi).2 m).cg (fun b b1 b2 => e b (by omega) (by omega))⟩
  · rw [e 0 (by decide) (by decide)]; exact hT.1
  · intro k k1 k2; rw [e 1 (by decide) (by decide)]; exact hT.2 k k1 k2
  · rw [e 0 (by decide) (by decide)]; exact hF1
  · rw [e 0 (by decide) (by decide)]; exact hF2
theorem yMW.cg {M N : zM} {σ : yS} {un : Int} {uh : Int → yS} {mk : Int → Int} {im : Int → yS} {tn : Int} {tp : Int → Int} {ff fp : Int} (h : yMW M σ un uh mk im tn tp ff fp) (e : ∀ b, 208 ≤ b → N b = M b) : yMW N σ un uh mk im tn tp ff fp := by
  obtain ⟨a, b, c, d, e1, f1, f2⟩ := h
  refine ⟨a, b.cg (e 209 (by decide)), ?_, fun i hi => ?_, ?_, ?_, ?_⟩
  · unfold yMH; rw [e 208 (by decide), e 210 (by decide)]; exact c
  · rw [e 211 (by decide), e 209 (by decide)]; exact d i hi
  · unfold yMT; rw [e 208 (by decide), e 236 (by decide)]; exact e1
  · rw [e 208 (by decide)]; exact f1
  · rw [e 238 (by decide)]; exact f2
theorem yJ_cg {σ τ : yS} {a b : Int} (h : ∀ j, 1 ≤ j → j < 122 → τ j = σ j) : ∀ n : Nat, (n : Int) ≤ 8 → yJ τ a b n = yJ σ a b n := by
  intro n
  induction n with
  | zero => intro _; rfl
  | succ n ih =>
    intro hn1
    unfold yJ
    rw [h _ (by omega) (by omega), h _ (by omega) (by omega), ih (by omega)]
theorem yjn_cg {σ τ : yS} {a b : Int} (h : ∀ j, 1 ≤ j → j < 122 → τ j = σ j) (h8 : 0 ≤ σ 1 ∧ σ 1 ≤ 8) : yjn τ a b = yjn σ a b := by
  unfold yjn
  rw [h 1 (by decide) (by decide)]
  exact yJ_cg h _ (by omega)
theorem ySc.sg {r0 r1 r2 r3 r4 : Int → Int} {σ τ : yS} (hS : ySc r0 r1 r2 r3 r4 σ) (h : ∀ j, 1 ≤ j → j < 122 → τ j = σ j) (h8 : 0 ≤ σ 1 ∧ σ 1 ≤ 8) : ySc r0 r1 r2 r3 r4 τ := by
  obtain ⟨a, b, c, d, e, f1⟩ := hS
  refine ⟨fun l l1 l2 => by rw [h _ (by omega) (by omega)]; exact a l l1 l2, fun l l1 l2 z => ?_, fun l l1 l2 => by rw [h _ (by omega) (by omega)]; exact c l l1 l2, fun l l1 l2 => by rw [h _ (by omega) (by omega)]; exact d l l1 l2, fun a b a1 a2 b1 b2 => by rw [yjn_cg h h8]; exact e a b a1 a2 b1 b2, by rw [h _ (by omega) (by omega)]; exact f1⟩
  rw [h _ (by omega) (by omega)] at z
  rw [h (54 + l) (by omega) (by omega), h (80 + l) (by omega) (by omega)]
  exact b l l1 l2 z
theorem yVal.sg {σ τ : yS} (hV : yVal σ) (h : ∀ j, 1 ≤ j → j < 122 → τ j = σ j) (h0 : 0 ≤ τ 0 ∧ τ 0 ≤ 60) (ht : ∀ p, 0 ≤ p → p < τ 0 → 0 ≤ τ (122 + p) ∧ τ (122 + p) < 26) : yVal τ := by
  obtain ⟨a, b, c, d, e, f1⟩ := hV
  refine ⟨h0, by rw [h 1 (by omega) (by omega)]; exact b, fun l l1 l2 => by rw [h (2 + l) (by omega) (by omega), h (28 + l) (by omega) (by omega)]; exact c l l1 l2, fun l l1 l2 z => ?_, fun l l1 l2 z => ?_, ht⟩
  · rw [h (2 + l) (by omega) (by omega)] at z
    have q := d l l1 l2 z
    rw [h (54 + l) (by omega) (by omega), h (80 + l) (by omega) (by omega), h (2 + σ (54 + l)) (by omega) (by omega), h (2 + σ (80 + l)) (by omega) (by omega)]
    exact q
  · rw [h (2 + l) (by omega) (by omega)] at z
    rw [h (54 + l) (by omega) (by omega), h (80 + l) (by omega) (by omega)]
    exact e l l1 l2 z
theorem yCW_new {M N2 N3 : zM} {σ : yS} {un : Int} {uh : Int → yS} {mk : Int → Int} {im : Int → yS} {tn : Int} {tp : Int → Int} {ff fp : Int} {τ : yS} {un' : Int} {uh' : Int → yS} {tn' ff' fp' : Int} (hC : yCW M σ un uh mk im tn tp ff fp) (hV : yVal τ) (hS : yTold N2 τ) (hH : yHs N2 un' uh') (e : ∀ b, b ≠ 0 → ¬ (2 ≤ b ∧ b ≤ 80) → ¬ (98 ≤ b ∧ b ≤ 139) → N2 b = M b) (t : (N2 0 1 = tn' ∧ 0 ≤ tn' ∧ tn' ≤ tn) ∧ N2 0 2 = ff' ∧ N2 0 3 = fp') (p3 : ySet N3 τ ∧ (N3 137 0 = 0 ∧ N3 136 0 = 0) ∧ ∀ x, ¬ (105 ≤ x ∧ x ≤ 139) → N3 x = N2 x) : yCW N3 τ un' uh' mk im tn' tp ff' fp' ∧ ∀ x, 208 ≤ x → N3 x = M x := by
  obtain ⟨hW, hS0, hG0, hz0, hH0, hP0, hI0, hT0, hF1, hF2⟩ := hC
  have ee : ∀ b, b ≠ 0 → ¬ (2 ≤ b ∧ b ≤ 80) → ¬ (98 ≤ b ∧ b ≤ 139) → N3 b = M b := fun b b1 b2 b3 => (p3.2.2 b (by omega)).trans (e b b1 b2 b3)
  refine ⟨⟨⟨hV, ⟨hH.2.1, fun i i1 i2 => (hH.2.2.2 i i1 i2).1⟩, hW.2.2.1, ⟨t.1.2.1, Int.le_trans t.1.2.2 hW.2.2.2.1.2⟩, fun k k1 k2 => hW.2.2.2.2 k k1 (Int.lt_of_lt_of_le k2 t.1.2.2)⟩, hS.cg (fun b b1 b2 => p3.2.2 b (by omega)), p3.1, p3.2.1, hH.cg (fun b b1 b2 => p3.2.2 b (by omega)), ?_, ?_, ⟨?_, ?_⟩, ?_, ?_⟩, fun x hx => ee x (by omega) (by omega) (by omega)⟩
  · unfold yPi; rw [ee 82 (by decide) (by decide) (by decide)]; exact hP0
  · intro i hi
    rw [ee 83 (by decide) (by decide) (by decide)]
    exact ⟨(hI0 i hi).1, fun m => ((hI0 i hi).2 m).cg (fun b b1 b2 => ee b (by omega) (by omega) (by omega))⟩
  · rw [p3.2.2 0 (by decide)]; exact t.1.1
  · intro k k1 k2; rw [ee 1 (by decide) (by decide) (by decide)]; exact hT0.2 k k1 (Int.lt_of_lt_of_le k2 t.1.2.2)
  · rw [p3.2.2 0 (by decide)]; exact t.2.1
  · rw [p3.2.2 0 (by decide)]; exact t.2.2
/-! new states -/
def yIns (σ : yS) (a l : Int) : yS := fun j => if j = 0 then σ 0 + 1 else if 122 + a < j ∧ j ≤ 122 + σ 0 then σ (j - 1) else if j = 122 + a then l else σ j
def yGo (σ : yS) (a n : Int) : yS := fun j => if j = 0 then σ 0 - n else if 122 + a ≤ j ∧ j < 122 + σ 0 - n then σ (j + n) else σ j
def yOr (σ : yS) : yS := fun j => if j = 0 then (yBack σ).1 else if 122 ≤ j ∧ j < 122 + (yBack σ).1 then (yBack σ).2 (j - 122) else σ j
def yTx (σ : yS) (tp : Int → Int) (n : Int) : yS := fun j => if j = 0 then n else if 122 ≤ j ∧ j < 122 + n then tp (j - 122) - 97 else σ j
theorem yIns_V {σ : yS} {a l : Int} (hV : yVal σ) (ha : 0 ≤ a ∧ a ≤ σ 0) (hl : 0 ≤ l ∧ l < 26) (h6 : σ 0 < 60) : yVal (yIns σ a l) := by
  have hn := hV.1
  have ht := hV.2.2.2.2.2
  have e0 : yIns σ a l 0 = σ 0 + 1 := if_pos rfl
  refine hV.sg (fun j j1 j2 => by unfold yIns; rw [if_neg (by omega), if_neg (by omega), if_neg (by omega)]) (by omega) (fun p p1 p2 => ?_)
  unfold yIns
  rw [if_neg (by omega)]
  by_cases q : a < p
  · rw [if_pos (by omega), show (122 : Int) + p - 1 = 122 + (p - 1) by omega]; exact ht _ (by omega) (by omega)
  · rw [if_neg (by omega)]
    by_cases q2 : p = a
    · rw [if_pos (by omega)]; exact hl
    · rw [if_neg (by omega)]; exact ht _ (by omega) (by omega)
theorem yGo_V {σ : yS} {a n : Int} (hV : yVal σ) (ha : 0 ≤ a ∧ 0 ≤ n ∧ a + n ≤ σ 0) : yVal (yGo σ a n) := by
  have hn := hV.1
  have ht := hV.2.2.2.2.2
  have e0 : yGo σ a n 0 = σ 0 - n := if_pos rfl
  refine hV.sg (fun j j1 j2 => by unfold yGo; rw [if_neg (by omega), if_neg (by omega)]) (by omega) (fun p p1 p2 => ?_)
  unfold yGo
  rw [if_neg (by omega)]
  by_cases q : a ≤ p
  · rw [if_pos (by omega), show (122 : Int) + p + n = 122 + (p + n) by omega]; exact ht _ (by omega) (by omega)
  · rw [if_neg (by omega)]; exact ht _ (by omega) (by omega)
theorem yTx_V {σ : yS} {tp : Int → Int} {n : Int} (hV : yVal σ) (hn0 : 0 ≤ n ∧ n ≤ 60) (h : ∀ k, 0 ≤ k → k < n → 97 ≤ tp k ∧ tp k ≤ 122) : yVal (yTx σ tp n) := by
  have e0 : yTx σ tp n 0 = n := if_pos rfl
  refine hV.sg (fun j j1 j2 => by unfold yTx; rw [if_neg (by omega), if_neg (by omega)]) (by omega) (fun p p1 p2 => ?_)
  unfold yTx
  rw [if_neg (by omega), if_pos (by omega), show (122 : Int) + p - 122 = p by omega]
  have := h p p1 (by omega)
  omega
theorem yfo_i {α : Type} {P : α → Prop} {g : Int → α → α} {a p : Int} {T : α} (h0 : P T) (hs : ∀ q, a ≤ q → q < p → ∀ T, P T → P (g q T)) : P (yfo g a p T) := by
  have : ∀ m : Nat, a + (m : Int) ≤ p → P (yfold g a m T) := by
    intro m
    induction m with
    | zero => intro _; exact h0
    | succ m ih => intro hm; exact hs _ (by omega) (by omega) _ (ih (by omega))
  by_cases h : a ≤ p
  · exact this _ (by omega)
  · rw [yfo_0 _ (by omega)]; exact h0
def yRg (R : yR) : Prop := 0 ≤ R.1 ∧ ∀ k, 0 ≤ k → k < R.1 → 0 ≤ R.2 k ∧ R.2 k < 26
theorem yRg.ps {R : yR} (h : yRg R) {l : Int} (hl : 0 ≤ l ∧ l < 26) : yRg (yps R l) := by
  refine ⟨by show 0 ≤ R.1 + 1; have := h.1; omega, fun k k1 k2 => ?_⟩
  have k3 : k < R.1 + 1 := k2
  show 0 ≤ (if k = R.1 then l else R.2 k) ∧ (if k = R.1 then l else R.2 k) < 26
  split
  · exact hl
  · exact h.2 k k1 (by omega)
theorem yRg_r {σ : yS} (hV : yVal σ) {b e : Int} (hb : 0 ≤ b ∧ e ≤ σ 0) {R : yR} (h : yRg R) : yRg (yrd σ b e R) := by
  have hp : ∀ kd q w, 5 ≤ kd → 0 ≤ q → q < σ 0 → yK σ q = 9 → ∀ T, yRg T → yRg (yrpt σ kd q w T) := by
    intro kd q w hk q1 q2 h9 T hT
    unfold yrpt
    split
    · refine hT.ps ?_
      have hl := yL_r hV q1 q2
      have e9 : ykd σ (yL σ q) = 9 := by rw [ykd_L hV q1 q2]; exact h9
      have e2 : σ (2 + yL σ q) = 9 := by unfold ykd at e9; rw [if_pos hl] at e9; exact e9
      have := hV.2.2.2.1 _ hl.1 hl.2 e2
      unfold ypt
      rw [if_pos e9]
      split <;> omega
    · exact hT
  have hs : ∀ kd, 5 ≤ kd → ∀ q, b ≤ q → q < e → ∀ T, yRg T → yRg (yrs σ kd q T) := by
    intro kd hk q q1 q2 T hT
    unfold yrs
    split
    · exact hT.ps (yL_r hV (by omega) (by omega))
    · split
      · rename_i h9
        exact hp kd q 1 hk (by omega) (by omega) h9 _ (hp kd q 0 hk (by omega) (by omega) h9 _ hT)
      · exact hT
  have hm : ∀ kd, ∀ q, b ≤ q → q < e → ∀ T, yRg T → yRg (yrk σ kd q T) := by
    intro kd q q1 q2 T hT
    unfold yrk
    split
    · exact hT.ps (yL_r hV (by omega) (by omega))
    · exact hT
  have h0 : ∀ q, b ≤ q → q < e → ∀ T, yRg T → yRg (yr0 σ q T) := by
    intro q q1 q2 T hT
    unfold yr0
    split
    · exact hT.ps (yL_r hV (by omega) (by omega))
    · exact hT
  unfold yrd
  exact yfo_i (yfo_i (yfo_i (yfo_i (yfo_i (yfo_i (yfo_i h h0) (hs 5 (by decide))) (hs 6 (by decide))) (hs 7 (by decide))) (hs 8 (by decide))) (hm 10)) (hm 11)
theorem yRg_c {σ : yS} (hV : yVal σ) : ∀ c : Int, 0 ≤ c → c ≤ yci (yK σ) (σ 0) → yRg (yRc σ c) := by
  intro c c1
  refine yind (P := fun c => c ≤ yci (yK σ) (σ 0) → yRg (yRc σ c)) (a := 0) ?_ ?_ c c1
  · intro _; rw [yRc_0]; exact ⟨Int.le_refl _, fun k k1 k2 => absurd k2 (by show ¬ (k < 0); omega)⟩
  · intro p p1 ih hp
    rw [yRc_s σ p1]
    have := (yB_cl (yKr_K hV) p1 (show p < yci (yK σ) (σ 0) by omega)).1
    exact yRg_r hV ⟨by omega, by omega⟩ (ih (by omega))
theorem yOr_V {σ : yS} (hV : yVal σ) (h6 : (yBack σ).1 ≤ 60) : yVal (yOr σ) := by
  have hr := yBack_r hV
  have hg := yRg_c hV _ (yci_60 (yKr_K hV)).1 (Int.le_refl _)
  have e0 : yOr σ 0 = (yBack σ).1 := if_pos rfl
  refine hV.sg (fun j j1 j2 => by unfold yOr; rw [if_neg (by omega), if_neg (by omega)]) (by omega) (fun p p1 p2 => ?_)
  unfold yOr
  rw [if_neg (by omega), if_pos (by omega), show (122 : Int) + p - 122 = p by omega]
  exact hg.2 p p1 (show p < (yBack σ).1 by omega)
/-! the first that is no letter -/
def yfl (tp : Int → Int) : Nat → Int
  | 0 => -1
  | k + 1 => if yfl tp k ≠ -1 then yfl tp k else if 97 ≤ tp (k : Int) ∧ tp (k : Int) ≤ 122 then -1 else k
theorem yfl_n {tp : Int → Int} : ∀ k : Nat, (∀ j, 0 ≤ j → j < (k : Int) → 97 ≤ tp j ∧ tp j ≤ 122) → yfl tp k = -1 := by
  intro k
  induction k with
  | zero => intro _; rfl
  | succ k ih =>
    intro h
    unfold yfl
    rw [if_neg (by rw [ih (fun j j1 j2 => h j j1 (by omega))]; exact fun z => z rfl), if_pos (h _ (by omega) (by omega))]
theorem yfl_p {tp : Int → Int} {p : Int} (h0 : 0 ≤ p) (hp : ¬ (97 ≤ tp p ∧ tp p ≤ 122)) (h : ∀ j, 0 ≤ j → j < p → 97 ≤ tp j ∧ tp j ≤ 122) : ∀ k : Nat, p < (k : Int) → yfl tp k = p := by
  intro k
  induction k with
  | zero => intro z; omega
  | succ k ih =>
    intro hk
    unfold yfl
    by_cases e : p = k
    · rw [if_neg (by rw [yfl_n k (fun j j1 j2 => h j j1 (by omega))]; exact fun z => z rfl), if_neg (by rw [← e]; exact hp), e]
    · rw [if_pos (by rw [ih (by omega)]; omega), ih (by omega)]
theorem yfl_r {tp : Int → Int} : ∀ k : Nat, (yfl tp k = -1 ∧ ∀ j, 0 ≤ j → j < (k : Int) → 97 ≤ tp j ∧ tp j ≤ 122) ∨ (0 ≤ yfl tp k ∧ yfl tp k < k) := by
  intro k
  induction k with
  | zero => exact Or.inl ⟨rfl, fun j j1 j2 => by omega⟩
  | succ k ih =>
    unfold yfl
    rcases ih with ⟨a, b⟩ | ⟨a, b⟩
    · rw [if_neg (by rw [a]; exact fun z => z rfl)]
      split
      · rename_i q
        refine Or.inl ⟨rfl, fun j j1 j2 => ?_⟩
        by_cases e : j = k
        · rw [e]; exact q
        · exact b j j1 (by omega)
      · right; omega
    · rw [if_pos (by omega)]
      right; omega
