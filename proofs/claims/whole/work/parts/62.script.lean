/-! A script's text: the spec -/
def yby (tp : Int → Int) (n p : Int) : Int := if 0 ≤ p ∧ p < n then tp p else -1
def ysk0 (P : Int → Prop) [∀ k, Decidable (P k)] (n : Int) : Nat → Int → Int
  | 0, p => p
  | m + 1, p => if p < n ∧ P p then ysk0 P n m (p + 1) else p
def ysk (P : Int → Prop) [∀ k, Decidable (P k)] (n p : Int) : Int := ysk0 P n (n - p).toNat p
theorem ysk_s {P : Int → Prop} [∀ k, Decidable (P k)] {n p : Int} (h : p < n) (g : P p) : ysk P n (p + 1) = ysk P n p := by
  unfold ysk
  rw [show (n - p).toNat = (n - (p + 1)).toNat + 1 by omega]
  conv => rhs; unfold ysk0
  rw [if_pos ⟨h, g⟩]
theorem ysk_e {P : Int → Prop} [∀ k, Decidable (P k)] {n p : Int} (h : ¬ (p < n ∧ P p)) : ysk P n p = p := by
  unfold ysk
  cases (n - p).toNat with
  | zero => rfl
  | succ m => unfold ysk0; rw [if_neg h]
theorem ysk_r {P : Int → Prop} [∀ k, Decidable (P k)] {n : Int} : ∀ (m : Nat) (p : Int), p ≤ n → (n - p).toNat = m → (p ≤ ysk P n p ∧ ysk P n p ≤ n) ∧ ¬ (ysk P n p < n ∧ P (ysk P n p)) ∧ ∀ q, p ≤ q → q < ysk P n p → P q := by
  intro m
  induction m with
  | zero => intro p h g; rw [ysk_e (fun z => by have := z.1; omega)]; exact ⟨⟨Int.le_refl _, h⟩, fun z => by have := z.1; omega, fun q q1 q2 => by omega⟩
  | succ m ih =>
    intro p h g
    by_cases z : P p
    · rw [← ysk_s (by omega) z]
      obtain ⟨a, b, c⟩ := ih (p + 1) (by omega) (by omega)
      refine ⟨by omega, b, fun q q1 q2 => ?_⟩
      by_cases e : q = p
      · rw [e]; exact z
      · exact c q (by omega) q2
    · rw [ysk_e (fun y => z y.2)]
      exact ⟨⟨Int.le_refl _, h⟩, fun y => z y.2, fun q q1 q2 => by omega⟩
def ybl (tp : Int → Int) (n p : Int) : Int := ysk (fun q => tp q = 32) n p
def yle (tp : Int → Int) (n p : Int) : Int := ysk (fun q => 97 ≤ tp q ∧ tp q ≤ 122) n p
theorem ybl_r {tp : Int → Int} {n p : Int} (h : p ≤ n) : (p ≤ ybl tp n p ∧ ybl tp n p ≤ n) ∧ ¬ (ybl tp n p < n ∧ tp (ybl tp n p) = 32) := ⟨(ysk_r _ p h rfl).1, (ysk_r (P := fun q => tp q = 32) _ p h rfl).2.1⟩
theorem yle_r {tp : Int → Int} {n p : Int} (h : p ≤ n) : (p ≤ yle tp n p ∧ yle tp n p ≤ n) ∧ ¬ (yle tp n p < n ∧ 97 ≤ tp (yle tp n p) ∧ tp (yle tp n p) ≤ 122) ∧ ∀ q, p ≤ q → q < yle tp n p → 97 ≤ tp q ∧ tp q ≤ 122 := ysk_r (P := fun q => 97 ≤ tp q ∧ tp q ≤ 122) _ p h rfl
theorem ybl_e {tp : Int → Int} {n p : Int} (h : ¬ (p < n ∧ tp p = 32)) : ybl tp n p = p := ysk_e h
theorem ybl_s {tp : Int → Int} {n p : Int} (h : p < n) (g : tp p = 32) : ybl tp n (p + 1) = ybl tp n p := ysk_s (P := fun q => tp q = 32) h g
theorem yle_e {tp : Int → Int} {n p : Int} (h : ¬ (p < n ∧ 97 ≤ tp p ∧ tp p ≤ 122)) : yle tp n p = p := ysk_e h
theorem yle_s {tp : Int → Int} {n p : Int} (h : p < n) (g : 97 ≤ tp p ∧ tp p ≤ 122) : yle tp n (p + 1) = yle tp n p := ysk_s (P := fun q => 97 ≤ tp q ∧ tp q ≤ 122) h g
def yTw (w : Int) : List Int := zTx.getD (w - 1).toNat []
def ywq (tp : Int → Int) (b len w : Int) : Int := if ((yTw w).length : Int) = len then yall (fun k => tp (b + k) = (yTw w).getD k.toNat 0) len.toNat else 0
def ywf (tp : Int → Int) (b len : Int) : Int := yfst (fun w => ywq tp b len w = 1) 1 17
theorem ywq_r (tp : Int → Int) (b len w : Int) : ywq tp b len w = 0 ∨ ywq tp b len w = 1 := by
  unfold ywq; split
  · exact yall_r _ _
  · exact Or.inl rfl
def yk1 (tp : Int → Int) (b w k : Int) (s : Int × yS) : Int × yS := if s.1 = 1 ∧ s.2 (2 + (tp (b + k) - 97)) = 0 then (1, fun j => if j = 2 + (tp (b + k) - 97) then w else s.2 j) else (0, s.2)
def ytK (tp : Int → Int) (b w len : Int) (τ : yS) : Int × yS := yfo (yk1 tp b w) 0 len (1, τ)
def yme1 (tp : Int → Int) (b x k : Int) (s : Int × Int × yS) : Int × Int × yS := if s.1 = 1 ∧ s.2.2 (2 + (tp (b + k) - 97)) = 1 ∧ yhb s.2.1 (tp (b + k) - 97) ≠ 1 then (1, zor s.2.1 (1 * 2 ^ (Int.toNat (tp (b + k) - 97))), fun j => if j = 28 + (tp (b + k) - 97) then zor (s.2.2 (28 + (tp (b + k) - 97))) x else s.2.2 j) else (0, s.2.1, s.2.2)
def ytM (tp : Int → Int) (b x len : Int) (τ : yS) : Int × Int × yS := yfo (yme1 tp b x) 0 len (1, 0, τ)
def yAP (τ : yS) (a c : Int) : yS := fun j => if j = 1 then τ 1 + 1 else if j = 106 + 2 * τ 1 then a else if j = 106 + 2 * τ 1 + 1 then c else τ j
def ytP (tp : Int → Int) (b len : Int) (τ : yS) : Int × yS := if len = 2 ∧ τ (2 + (tp (b + 0) - 97)) = 1 ∧ τ (2 + (tp (b + 1) - 97)) = 1 ∧ yjn τ (tp (b + 0) - 97) (tp (b + 1) - 97) = 0 ∧ τ 1 < 8 then (1, yAP τ (tp (b + 0) - 97) (tp (b + 1) - 97)) else (0, τ)
def yAS (τ : yS) (l f s : Int) : yS := fun j => if j = 2 + l then 9 else if j = 54 + l then f else if j = 80 + l then s else τ j
def ytS (tp : Int → Int) (b len : Int) (τ : yS) : Int × yS := if len = 3 ∧ τ (2 + (tp (b + 0) - 97)) = 0 ∧ (5 ≤ τ (2 + (tp (b + 1) - 97)) ∧ τ (2 + (tp (b + 1) - 97)) ≤ 8) ∧ 5 ≤ τ (2 + (tp (b + 2) - 97)) ∧ τ (2 + (tp (b + 2) - 97)) ≤ 8 then (1, yAS τ (tp (b + 0) - 97) (tp (b + 1) - 97) (tp (b + 2) - 97)) else (0, τ)
def ysi1 (w : Int) : Int := if w = 3 ∨ w = 4 ∨ w = 12 ∨ w = 13 ∨ w = 14 then 1 else 0
def ytr (tp : Int → Int) (b w len : Int) (τ : yS) : Int × yS := if w = 9 then ytS tp b len τ else if w = 17 then ytP tp b len τ else if 14 ≤ w then ((ytM tp b (if w = 14 then 1 else if w = 15 then 2 else 4) len τ).1, (ytM tp b (if w = 14 then 1 else if w = 15 then 2 else 4) len τ).2.2) else ytK tp b w len τ
def yok (tp : Int → Int) (b w len t : Int) (τ : yS) : Int := if ysi1 w = 1 ∧ (len ≠ 1 ∨ yhb t w = 1) then 0 else (ytr tp b w len τ).1
def ytt (w t : Int) : Int := if ysi1 w = 1 then zor t (1 * 2 ^ (Int.toNat w)) else t
/-- fault, its place, the spot, what was told once, the script -/
abbrev yLn : Type := Int × Int × Int × Int × yS
def yl5 (tp : Int → Int) (n : Int) (s : yLn) (r q w : Int) : yLn :=
  if yok tp r w (q - r) s.2.2.2.1 s.2.2.2.2 ≠ 1 then (3, r, 0, 0, s.2.2.2.2) else if yby tp n (ybl tp n q) ≠ 59 then (1, ybl tp n q, 0, 0, s.2.2.2.2)
  else (0, -1, ybl tp n (ybl tp n q + 1), ytt w s.2.2.2.1, (ytr tp r w (q - r) s.2.2.2.2).2)
def yln (tp : Int → Int) (n : Int) (s : yLn) : yLn :=
  if yle tp n s.2.2.1 = s.2.2.1 then (1, s.2.2.1, 0, 0, s.2.2.2.2) else if ywf tp s.2.2.1 (yle tp n s.2.2.1 - s.2.2.1) = -1 then (2, s.2.2.1, 0, 0, s.2.2.2.2)
  else if yle tp n (ybl tp n (yle tp n s.2.2.1)) = ybl tp n (yle tp n s.2.2.1) then (1, ybl tp n (yle tp n s.2.2.1), 0, 0, s.2.2.2.2)
  else yl5 tp n s (ybl tp n (yle tp n s.2.2.1)) (yle tp n (ybl tp n (yle tp n s.2.2.1))) (ywf tp s.2.2.1 (yle tp n s.2.2.1 - s.2.2.1))
def yrun2 (tp : Int → Int) (n : Int) : Nat → yLn → yLn
  | 0, s => s
  | m + 1, s => if s.1 = 0 ∧ s.2.2.1 < n then yrun2 tp n m (yln tp n s) else s
def y00 : yS := fun j => if 54 ≤ j ∧ j < 106 then -1 else 0
def yrd0 (tp : Int → Int) (n : Int) : yLn := yrun2 tp n 400 (0, -1, ybl tp n 0, 0, y00)
def ySn (σ τ : yS) : yS := fun j => if 1 ≤ j ∧ j < 122 then τ j else σ j
def yo_script (σ : yS) (un : Int) (uh : Int → yS) (mk : Int → Int) (im : Int → yS) (tn : Int) (tp : Int → Int) (ff fp : Int) (n : Int) : Int × yWd := if ¬ (0 ≤ n ∧ n ≤ tn) then (-3, (σ, un, uh, mk, im, tn, tp, ff, fp)) else if (yrd0 tp n).1 ≠ 0 then (-30 - (yrd0 tp n).1, σ, un, uh, mk, im, 0, tp, (yrd0 tp n).1, (yrd0 tp n).2.1) else (ylt (ySn σ (yrd0 tp n).2.2.2.2), ySn σ (yrd0 tp n).2.2.2.2, ypn un, yph un uh σ, mk, im, 0, tp, 0, -1)
/-! what stays true of the script so far -/
def yVt (τ : yS) : Prop := yVal τ ∧ τ 0 = 0
theorem y00_V : yVt y00 := by
  refine ⟨⟨by decide, by decide, fun l l1 l2 => ?_, fun l l1 l2 h => ?_, fun l l1 l2 _ => ?_, fun p p1 p2 => ?_⟩, rfl⟩
  · unfold y00; rw [if_neg (by omega), if_neg (by omega)]; decide
  · unfold y00 at h; rw [if_neg (by omega)] at h; omega
  · unfold y00; rw [if_pos (by omega), if_pos (by omega)]; exact ⟨rfl, rfl⟩
  · have : p < 0 := p2; omega
theorem yVt_k {τ : yS} {l w : Int} (h : yVt τ) (hl : 0 ≤ l ∧ l < 26) (h0 : τ (2 + l) = 0) (hw : 1 ≤ w ∧ w ≤ 13 ∧ w ≠ 9) : yVt (fun j => if j = 2 + l then w else τ j) := by
  obtain ⟨⟨a, b, c, d, e, _⟩, z⟩ := h
  refine ⟨⟨?_, ?_, fun m m1 m2 => ?_, fun m m1 m2 g => ?_, fun m m1 m2 g => ?_, fun p p1 p2 => ?_⟩, ?_⟩
  · dsimp only; rw [if_neg (by omega)]; exact a
  · dsimp only; rw [if_neg (by omega)]; exact b
  · dsimp only
    rw [if_neg (show ¬ (28 + m = 2 + l) by omega)]
    have := c m m1 m2
    split <;> omega
  · dsimp only at g ⊢
    by_cases q : m = l
    · rw [if_pos (by omega)] at g; omega
    · rw [if_neg (by omega)] at g
      have := d m m1 m2 g
      rw [if_neg (show ¬ (54 + m = 2 + l) by omega), if_neg (show ¬ (80 + m = 2 + l) by omega), if_neg (show ¬ (2 + τ (54 + m) = 2 + l) from fun y => by rw [show τ (54 + m) = l by omega] at this; omega), if_neg (show ¬ (2 + τ (80 + m) = 2 + l) from fun y => by rw [show τ (80 + m) = l by omega] at this; omega)]
      exact this
  · dsimp only at g ⊢
    rw [if_neg (show ¬ (54 + m = 2 + l) by omega), if_neg (show ¬ (80 + m = 2 + l) by omega)]
    by_cases q : m = l
    · rw [q]; exact e l hl.1 hl.2 (by omega)
    · rw [if_neg (by omega)] at g; exact e m m1 m2 g
  · have p2 : p < (if (0 : Int) = 2 + l then w else τ 0) := p2
    rw [if_neg (by omega)] at p2; omega
  · dsimp only; rw [if_neg (by omega)]; exact z
theorem yVt_o {τ τ' : yS} (h : yVt τ) (h0 : τ' 0 = 0) (h1 : 0 ≤ τ' 1 ∧ τ' 1 ≤ 8) (hk : ∀ l, 0 ≤ l → l < 26 → τ' (2 + l) = τ (2 + l) ∧ (0 ≤ τ' (28 + l) ∧ τ' (28 + l) ≤ 7) ∧ τ' (54 + l) = τ (54 + l) ∧ τ' (80 + l) = τ (80 + l)) : yVt τ' := by
  obtain ⟨⟨a, b, c, d, e, _⟩, z⟩ := h
  refine ⟨⟨by rw [h0]; decide, h1, fun m m1 m2 => ?_, fun m m1 m2 g => ?_, fun m m1 m2 g => ?_, fun p p1 p2 => by rw [h0] at p2; omega⟩, h0⟩
  · have := c m m1 m2
    have := hk m m1 m2
    omega
  · have k1 := hk m m1 m2
    rw [k1.1] at g
    have := d m m1 m2 g
    rw [k1.2.2.1, k1.2.2.2, (hk _ this.1.1 this.1.2.1).1, (hk _ this.2.1 this.2.2.1).1]
    exact this
  · have k1 := hk m m1 m2
    rw [k1.1] at g
    rw [k1.2.2.1, k1.2.2.2]
    exact e m m1 m2 g
theorem yVt_S {τ : yS} {l f s : Int} (h : yVt τ) (hl : 0 ≤ l ∧ l < 26) (hf : 0 ≤ f ∧ f < 26) (hs : 0 ≤ s ∧ s < 26) (h0 : τ (2 + l) = 0) (h1 : 5 ≤ τ (2 + f) ∧ τ (2 + f) ≤ 8) (h2 : 5 ≤ τ (2 + s) ∧ τ (2 + s) ≤ 8) : yVt (yAS τ l f s) := by
  obtain ⟨⟨a, b, c, d, e, _⟩, z⟩ := h
  have k0 : ∀ m, 0 ≤ m → m < 26 → m ≠ l → yAS τ l f s (2 + m) = τ (2 + m) := fun m m1 m2 q => by unfold yAS; rw [if_neg (by omega), if_neg (by omega), if_neg (by omega)]
  have k5 : ∀ m, 0 ≤ m → m < 26 → m ≠ l → yAS τ l f s (54 + m) = τ (54 + m) ∧ yAS τ l f s (80 + m) = τ (80 + m) := fun m m1 m2 q => by unfold yAS; rw [if_neg (by omega), if_neg (by omega), if_neg (by omega), if_neg (by omega), if_neg (by omega), if_neg (by omega)]; exact ⟨rfl, rfl⟩
  have kl : yAS τ l f s (2 + l) = 9 := if_pos rfl
  have kf : yAS τ l f s (54 + l) = f := by unfold yAS; rw [if_neg (by omega), if_pos rfl]
  have ks : yAS τ l f s (80 + l) = s := by unfold yAS; rw [if_neg (by omega), if_neg (by omega), if_pos rfl]
  have e0 : yAS τ l f s 0 = 0 := by unfold yAS; rw [if_neg (by omega), if_neg (by omega), if_neg (by omega)]; exact z
  have e1 : yAS τ l f s 1 = τ 1 := by unfold yAS; rw [if_neg (by omega), if_neg (by omega), if_neg (by omega)]
  have ef : f ≠ l := fun y => by rw [y] at h1; omega
  have es : s ≠ l := fun y => by rw [y] at h2; omega
  refine ⟨⟨by rw [e0]; decide, by rw [e1]; exact b, fun m m1 m2 => ?_, fun m m1 m2 g => ?_, fun m m1 m2 g => ?_, fun p p1 p2 => by rw [e0] at p2; omega⟩, e0⟩
  · have q2 : yAS τ l f s (28 + m) = τ (28 + m) := by unfold yAS; rw [if_neg (by omega), if_neg (by omega), if_neg (by omega)]
    have := c m m1 m2
    rw [q2]
    by_cases q : m = l
    · rw [q, kl]; rw [q] at this; omega
    · rw [k0 m m1 m2 q]; exact this
  · by_cases q : m = l
    · rw [q, kf, ks, k0 f hf.1 hf.2 ef, k0 s hs.1 hs.2 es]
      exact ⟨⟨hf.1, hf.2, h1⟩, hs.1, hs.2, h2⟩
    · rw [k0 m m1 m2 q] at g
      have := d m m1 m2 g
      rw [(k5 m m1 m2 q).1, (k5 m m1 m2 q).2, k0 _ this.1.1 this.1.2.1 (fun y => by rw [y] at this; omega), k0 _ this.2.1 this.2.2.1 (fun y => by rw [y] at this; omega)]
      exact this
  · by_cases q : m = l
    · rw [q] at g; exact absurd kl g
    · rw [k0 m m1 m2 q] at g
      rw [(k5 m m1 m2 q).1, (k5 m m1 m2 q).2]
      exact e m m1 m2 g
theorem zor_7 {x w : Int} (hx : 0 ≤ x ∧ x ≤ 7) (hw : w = 1 ∨ w = 2 ∨ w = 4) : (0 ≤ zor x w ∧ zor x w ≤ 7) ∧ (zor x w % 2 = if w = 1 then 1 else x % 2) ∧ (zor x w / 2 % 2 = if w = 2 then 1 else x / 2 % 2) ∧ (zor x w / 4 % 2 = if w = 4 then 1 else x / 4 % 2) := by
  have h : ∀ x : Nat, x < 8 → ∀ w : Nat, w < 5 → (w = 1 ∨ w = 2 ∨ w = 4) → (0 ≤ zor x w ∧ zor x w ≤ 7) ∧ (zor x w % 2 = if (w : Int) = 1 then 1 else (x : Int) % 2) ∧ (zor x w / 2 % 2 = if (w : Int) = 2 then 1 else (x : Int) / 2 % 2) ∧ (zor x w / 4 % 2 = if (w : Int) = 4 then 1 else (x : Int) / 4 % 2) := by decide +kernel
  have h2 := h x.toNat (by omega) w.toNat (by omega) (by omega)
  rw [show ((x.toNat : Nat) : Int) = x by omega, show ((w.toNat : Nat) : Int) = w by omega] at h2
  exact h2
theorem yjn_c {τ τ' : yS} {a b : Int} (h1 : τ' 1 = τ 1) (h : ∀ j, 106 ≤ j → j < 122 → τ' j = τ j) (h8 : 0 ≤ τ 1 ∧ τ 1 ≤ 8) : yjn τ' a b = yjn τ a b := by
  have e : ∀ k : Nat, (k : Int) ≤ 8 → yJ τ' a b k = yJ τ a b k := by
    intro k
    induction k with
    | zero => intro _; rfl
    | succ k ih => intro hk; unfold yJ; rw [h _ (by omega) (by omega), h _ (by omega) (by omega), ih (by omega)]
  unfold yjn
  rw [h1]
  exact e _ (by omega)
theorem yAP_J {τ : yS} {a c x y : Int} (h8 : 0 ≤ τ 1 ∧ τ 1 < 8) : yjn (yAP τ a c) x y = if x = a ∧ y = c then 1 else yjn τ x y := by
  have e : ∀ k : Nat, (k : Int) ≤ τ 1 → yJ (yAP τ a c) x y k = yJ τ x y k := by
    intro k
    induction k with
    | zero => intro _; rfl
    | succ k ih =>
      intro hk
      unfold yJ
      have e1 : yAP τ a c (106 + 2 * (k : Int)) = τ (106 + 2 * (k : Int)) := by unfold yAP; rw [if_neg (by omega), if_neg (by omega), if_neg (by omega)]
      have e2 : yAP τ a c (107 + 2 * (k : Int)) = τ (107 + 2 * (k : Int)) := by unfold yAP; rw [if_neg (by omega), if_neg (by omega), if_neg (by omega)]
      rw [e1, e2, ih (by omega)]
  have e0 : yAP τ a c 1 = τ 1 + 1 := if_pos rfl
  unfold yjn
  rw [e0, show (τ 1 + 1).toNat = (τ 1).toNat + 1 by omega]
  conv => lhs; unfold yJ
  have e1 : yAP τ a c (106 + 2 * (((τ 1).toNat : Nat) : Int)) = a := by unfold yAP; rw [if_neg (by omega), if_pos (by omega)]
  have e2 : yAP τ a c (107 + 2 * (((τ 1).toNat : Nat) : Int)) = c := by unfold yAP; rw [if_neg (by omega), if_neg (by omega), if_pos (by omega)]
  rw [e1, e2, e _ (by omega)]
  by_cases q : x = a ∧ y = c
  · rw [if_pos q, if_pos ⟨q.1.symm, q.2.symm⟩]
  · rw [if_neg q, if_neg (fun z => q ⟨z.1.symm, z.2.symm⟩)]
/-! the rows that go by -/
def yLet (tp : Int → Int) (b len : Int) : Prop := ∀ k, 0 ≤ k → k < len → 97 ≤ tp (b + k) ∧ tp (b + k) ≤ 122
theorem ytK_s (tp : Int → Int) (b w : Int) {k : Int} (τ : yS) (h : 0 ≤ k) : ytK tp b w (k + 1) τ = yk1 tp b w k (ytK tp b w k τ) := yfo_s _ h _
theorem ytK_f {tp : Int → Int} {b w k : Int} {τ : yS} (h0 : 0 ≤ k) (h : (ytK tp b w k τ).1 = 0) : ∀ m, k ≤ m → (ytK tp b w m τ).1 = 0 := by
  refine yind (P := fun m => (ytK tp b w m τ).1 = 0) h ?_
  intro p p1 ih
  rw [ytK_s tp b w τ (by omega)]
  unfold yk1
  rw [if_neg (fun z => by have := z.1; omega)]
theorem ytK_V {tp : Int → Int} {b w len : Int} {τ : yS} (h : yVt τ) (hl : yLet tp b len) (hw : 1 ≤ w ∧ w ≤ 13 ∧ w ≠ 9) : ∀ k, 0 ≤ k → k ≤ len → (ytK tp b w k τ).1 = 1 → yVt (ytK tp b w k τ).2 := by
  intro k k1
  refine yind (P := fun k => k ≤ len → (ytK tp b w k τ).1 = 1 → yVt (ytK tp b w k τ).2) (a := 0) ?_ ?_ k k1
  · intro _ _
    rw [show ytK tp b w 0 τ = (1, τ) from yfo_0 _ (Int.le_refl _) _]; exact h
  · intro p p1 ih hp hok
    rw [ytK_s tp b w τ p1] at hok ⊢
    unfold yk1 at hok ⊢
    by_cases z : (ytK tp b w p τ).1 = 1 ∧ (ytK tp b w p τ).2 (2 + (tp (b + p) - 97)) = 0
    · rw [if_pos z]
      have hq := hl p p1 (by omega)
      exact yVt_k (ih (by omega) z.1) ⟨by omega, by omega⟩ z.2 hw
    · rw [if_neg z] at hok
      exact absurd hok (by show ¬ ((0 : Int) = 1); decide)
theorem ytM_s (tp : Int → Int) (b x : Int) {k : Int} (τ : yS) (h : 0 ≤ k) : ytM tp b x (k + 1) τ = yme1 tp b x k (ytM tp b x k τ) := yfo_s _ h _
theorem ytM_f {tp : Int → Int} {b x k : Int} {τ : yS} (h0 : 0 ≤ k) (h : (ytM tp b x k τ).1 = 0) : ∀ m, k ≤ m → (ytM tp b x m τ).1 = 0 := by
  refine yind (P := fun m => (ytM tp b x m τ).1 = 0) h ?_
  intro p p1 ih
  rw [ytM_s tp b x τ (by omega)]
  unfold yme1
  rw [if_neg (fun z => by have := z.1; omega)]
/-- what is told of the row so far -/
def yMx (x : Int) (τ : yS) (s : Int × Int × yS) : Prop := (0 ≤ s.2.1 ∧ s.2.1 < 2147483648) ∧ (∀ l, 0 ≤ l → l < 26 → s.2.2 (28 + l) = if yhb s.2.1 l = 1 then zor (τ (28 + l)) x else τ (28 + l)) ∧ ∀ j, ¬ (28 ≤ j ∧ j < 54) → s.2.2 j = τ j
theorem yMx_s {tp : Int → Int} {b x len : Int} {τ : yS} (hl : yLet tp b len) : ∀ k, 0 ≤ k → k ≤ len → (ytM tp b x k τ).1 = 1 → yMx x τ (ytM tp b x k τ) := by
  intro k k1
  refine yind (P := fun k => k ≤ len → (ytM tp b x k τ).1 = 1 → yMx x τ (ytM tp b x k τ)) (a := 0) ?_ ?_ k k1
  · intro _ _
    rw [show ytM tp b x 0 τ = (1, 0, τ) from yfo_0 _ (Int.le_refl _) _]
    refine ⟨by show (0 : Int) ≤ 0 ∧ (0 : Int) < 2147483648; decide, fun l l1 l2 => ?_, fun _ _ => rfl⟩
    show τ (28 + l) = if yhb 0 l = 1 then _ else τ (28 + l)
    rw [yhb_00 (by omega), if_neg (by decide)]
  · intro p p1 ih hp hok
    rw [ytM_s tp b x τ p1] at hok ⊢
    unfold yme1 at hok ⊢
    by_cases z : (ytM tp b x p τ).1 = 1 ∧ (ytM tp b x p τ).2.2 (2 + (tp (b + p) - 97)) = 1 ∧ yhb (ytM tp b x p τ).2.1 (tp (b + p) - 97) ≠ 1
    · rw [if_pos z]
      obtain ⟨a, c, d⟩ := ih (by omega) z.1
      have hq := hl p p1 (by omega)
      have h2 := y2p (l := tp (b + p) - 97) (by omega)
      refine ⟨zor_n a (by omega), fun l l1 l2 => ?_, fun j hj => ?_⟩
      · show (if 28 + l = 28 + (tp (b + p) - 97) then zor ((ytM tp b x p τ).2.2 (28 + (tp (b + p) - 97))) x else (ytM tp b x p τ).2.2 (28 + l)) = if yhb (zor (ytM tp b x p τ).2.1 (1 * 2 ^ (Int.toNat (tp (b + p) - 97)))) l = 1 then zor (τ (28 + l)) x else τ (28 + l)
        rw [yhb_or a (by omega) (by omega)]
        by_cases e : l = tp (b + p) - 97
        · rw [if_pos (by omega), if_pos e, if_pos rfl, ← e, c l l1 l2, if_neg (by rw [e]; exact z.2.2)]
        · rw [if_neg (by omega), if_neg e]
          exact c l l1 l2
      · show (if j = 28 + (tp (b + p) - 97) then _ else (ytM tp b x p τ).2.2 j) = τ j
        rw [if_neg (by omega)]
        exact d j hj
    · rw [if_neg z] at hok
      exact absurd hok (by show ¬ ((0 : Int) = 1); decide)
theorem yMx_V {x : Int} {τ : yS} {s : Int × Int × yS} (h : yVt τ) (hx : x = 1 ∨ x = 2 ∨ x = 4) (m : yMx x τ s) : yVt s.2.2 := by
  obtain ⟨a, c, d⟩ := m
  refine yVt_o h ((d 0 (by omega)).trans h.2) (by rw [d 1 (by omega)]; exact h.1.2.1) (fun l l1 l2 => ⟨d _ (by omega), ?_, d _ (by omega), d _ (by omega)⟩)
  have h7 := (h.1.2.2.1 l l1 l2).2
  rw [c l l1 l2]
  split
  · exact (zor_7 h7 hx).1
  · exact h7
theorem ytr_V {tp : Int → Int} {b w len : Int} {τ : yS} (h : yVt τ) (hl : yLet tp b len) (h0 : 0 ≤ len) (hw : 1 ≤ w ∧ w ≤ 17) (hok : (ytr tp b w len τ).1 = 1) : yVt (ytr tp b w len τ).2 := by
  unfold ytr at hok ⊢
  by_cases q9 : w = 9
  · rw [if_pos q9] at hok ⊢
    unfold ytS at hok ⊢
    by_cases z : len = 3 ∧ τ (2 + (tp (b + 0) - 97)) = 0 ∧ (5 ≤ τ (2 + (tp (b + 1) - 97)) ∧ τ (2 + (tp (b + 1) - 97)) ≤ 8) ∧ 5 ≤ τ (2 + (tp (b + 2) - 97)) ∧ τ (2 + (tp (b + 2) - 97)) ≤ 8
    · rw [if_pos z]
      have a0 := hl 0 (by decide) (by omega)
      have a1 := hl 1 (by decide) (by omega)
      have a2 := hl 2 (by decide) (by omega)
      exact yVt_S h ⟨by omega, by omega⟩ ⟨by omega, by omega⟩ ⟨by omega, by omega⟩ z.2.1 z.2.2.1 z.2.2.2
    · rw [if_neg z] at hok; exact absurd hok (by show ¬ ((0 : Int) = 1); decide)
  · rw [if_neg q9] at hok ⊢
    by_cases q17 : w = 17
    · rw [if_pos q17] at hok ⊢
      unfold ytP at hok ⊢
      by_cases z : len = 2 ∧ τ (2 + (tp (b + 0) - 97)) = 1 ∧ τ (2 + (tp (b + 1) - 97)) = 1 ∧ yjn τ (tp (b + 0) - 97) (tp (b + 1) - 97) = 0 ∧ τ 1 < 8
      · rw [if_pos z]
        have h8 := h.1.2.1
        refine yVt_o h ?_ ?_ (fun l l1 l2 => ⟨?_, ?_, ?_, ?_⟩)
        · show yAP τ (tp (b + 0) - 97) (tp (b + 1) - 97) 0 = 0
          unfold yAP; rw [if_neg (by omega), if_neg (by omega), if_neg (by omega)]; exact h.2
        · have e : yAP τ (tp (b + 0) - 97) (tp (b + 1) - 97) 1 = τ 1 + 1 := if_pos rfl
          show 0 ≤ yAP τ (tp (b + 0) - 97) (tp (b + 1) - 97) 1 ∧ yAP τ (tp (b + 0) - 97) (tp (b + 1) - 97) 1 ≤ 8
          rw [e]; omega
        · show yAP τ (tp (b + 0) - 97) (tp (b + 1) - 97) _ = _; unfold yAP; rw [if_neg (by omega), if_neg (by omega), if_neg (by omega)]
        · have e : yAP τ (tp (b + 0) - 97) (tp (b + 1) - 97) (28 + l) = τ (28 + l) := by unfold yAP; rw [if_neg (by omega), if_neg (by omega), if_neg (by omega)]
          show 0 ≤ yAP τ (tp (b + 0) - 97) (tp (b + 1) - 97) _ ∧ yAP τ (tp (b + 0) - 97) (tp (b + 1) - 97) _ ≤ 7
          rw [e]; exact (h.1.2.2.1 l l1 l2).2
        · show yAP τ (tp (b + 0) - 97) (tp (b + 1) - 97) _ = _; unfold yAP; rw [if_neg (by omega), if_neg (by omega), if_neg (by omega)]
        · show yAP τ (tp (b + 0) - 97) (tp (b + 1) - 97) _ = _; unfold yAP; rw [if_neg (by omega), if_neg (by omega), if_neg (by omega)]
      · rw [if_neg z] at hok; exact absurd hok (by show ¬ ((0 : Int) = 1); decide)
    · rw [if_neg q17] at hok ⊢
      by_cases q14 : 14 ≤ w
      · rw [if_pos q14] at hok ⊢
        exact yMx_V h (by (repeat' split) <;> omega) (yMx_s hl len h0 (Int.le_refl _) hok)
      · rw [if_neg q14] at hok ⊢
        exact ytK_V h hl ⟨by omega, by omega, q9⟩ len h0 (Int.le_refl _) hok
theorem ytt_r {w t : Int} (hw : 1 ≤ w ∧ w ≤ 17) (ht : 0 ≤ t ∧ t < 2147483648) : 0 ≤ ytt w t ∧ ytt w t < 2147483648 := by
  have h2 := y2p (l := w) (by omega)
  unfold ytt
  split
  · exact zor_n ht (by omega)
  · exact ht
theorem ywf_r (tp : Int → Int) (b len : Int) : ywf tp b len = -1 ∨ 1 ≤ ywf tp b len ∧ ywf tp b len ≤ 17 := by
  have h : ∀ (m : Nat) (a : Int), yfst (fun w => ywq tp b len w = 1) a m = -1 ∨ a ≤ yfst (fun w => ywq tp b len w = 1) a m ∧ yfst (fun w => ywq tp b len w = 1) a m < a + m := by
    intro m
    induction m with
    | zero => intro a; exact Or.inl rfl
    | succ m ih =>
      intro a
      unfold yfst
      split
      · right; omega
      · have := ih (a + 1); omega
  have := h 17 1
  unfold ywf
  omega
/-- a line read: no fault, the script is sound, the spot went on -/
def yLv (n : Int) (s : yLn) (tp : Int → Int) : Prop := s.1 = 0 → s.2.1 = -1 ∧ (0 ≤ s.2.2.1 ∧ s.2.2.1 ≤ n) ∧ ybl tp n s.2.2.1 = s.2.2.1 ∧ (0 ≤ s.2.2.2.1 ∧ s.2.2.2.1 < 2147483648) ∧ yVt s.2.2.2.2
theorem yln_v {tp : Int → Int} {n : Int} {s : yLn} (h0 : s.1 = 0) (h : yLv n s tp) (hn : s.2.2.1 < n) : yLv n (yln tp n s) tp ∧ ((yln tp n s).1 = 0 → s.2.2.1 < (yln tp n s).2.2.1) := by
  obtain ⟨e1, ⟨e2, e3⟩, e4, e5, e6⟩ := h h0
  have l1 := yle_r (tp := tp) e3
  have b1 := (ybl_r (tp := tp) (p := yle tp n s.2.2.1) l1.1.2).1
  have l2 := yle_r (tp := tp) (p := ybl tp n (yle tp n s.2.2.1)) b1.2
  have hw := ywf_r tp s.2.2.1 (yle tp n s.2.2.1 - s.2.2.1)
  unfold yln
  split
  · exact ⟨fun z => absurd z (by show ¬ ((1 : Int) = 0); decide), fun z => absurd z (by show ¬ ((1 : Int) = 0); decide)⟩
  · split
    · exact ⟨fun z => absurd z (by show ¬ ((2 : Int) = 0); decide), fun z => absurd z (by show ¬ ((2 : Int) = 0); decide)⟩
    · split
      · exact ⟨fun z => absurd z (by show ¬ ((1 : Int) = 0); decide), fun z => absurd z (by show ¬ ((1 : Int) = 0); decide)⟩
      · generalize hr : ybl tp n (yle tp n s.2.2.1) = r at *
        generalize hq : yle tp n r = q at *
        generalize ywf tp s.2.2.1 (yle tp n s.2.2.1 - s.2.2.1) = w at *
        have hl : yLet tp r (q - r) := fun k k1 k2 => l2.2.2 (r + k) (by omega) (by omega)
        have b2 := ybl_r (tp := tp) (p := q) l2.1.2
        unfold yl5
        split
        · exact ⟨fun z => absurd z (by show ¬ ((3 : Int) = 0); decide), fun z => absurd z (by show ¬ ((3 : Int) = 0); decide)⟩
        · rename_i hok
          split
          · exact ⟨fun z => absurd z (by show ¬ ((1 : Int) = 0); decide), fun z => absurd z (by show ¬ ((1 : Int) = 0); decide)⟩
          · rename_i h59
            have hlt : ybl tp n q < n := by
              by_cases z : ybl tp n q < n
              · exact z
              · unfold yby at h59; rw [if_neg (fun y => z y.2)] at h59; omega
            have b3 := ybl_r (tp := tp) (n := n) (p := ybl tp n q + 1) (by omega)
            have hok1 : (ytr tp r w (q - r) s.2.2.2.2).1 = 1 := by
              unfold yok at hok
              by_cases z : ysi1 w = 1 ∧ (q - r ≠ 1 ∨ yhb s.2.2.2.1 w = 1)
              · rw [if_pos z] at hok; omega
              · rw [if_neg z] at hok; omega
            exact ⟨fun _ => ⟨rfl, ⟨by show 0 ≤ ybl tp n (ybl tp n q + 1); omega, b3.1.2⟩, ybl_e b3.2, ytt_r (by omega) e5, ytr_V e6 hl (by omega) (by omega) hok1⟩, fun _ => by show s.2.2.1 < ybl tp n (ybl tp n q + 1); omega⟩
theorem ySn_V {σ τ : yS} (hV : yVal σ) (h : yVt τ) : yVal (ySn σ τ) := by
  have e0 : ySn σ τ 0 = σ 0 := if_neg (by omega)
  refine h.1.sg (fun j j1 j2 => if_pos ⟨j1, j2⟩) (by rw [e0]; exact hV.1) (fun p p1 p2 => ?_)
  rw [e0] at p2
  unfold ySn
  rw [if_neg (by omega)]
  exact hV.2.2.2.2.2 p p1 p2
