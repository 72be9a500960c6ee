/-! A script's text: the class' Reader, its bytes -/
theorem zup_zup {M : zM} {a i v w : Int} : zup (zup M a i v) a i w = zup M a i w := by
  funext x j
  unfold zup
  by_cases q : x = a ∧ j = i
  · rw [if_pos q, if_pos q]
  · rw [if_neg q, if_neg q, if_neg q]
theorem zup_id {M : zM} {a i v : Int} (h : M a i = v) : zup M a i v = M := by
  funext x j
  unfold zup
  by_cases q : x = a ∧ j = i
  · rw [if_pos q, q.1, q.2, h]
  · rw [if_neg q]
def yIn (M : zM) (tp : Int → Int) (n : Int) : Prop := (M 98 4 = n ∧ 0 ≤ n ∧ n ≤ 400) ∧ ∀ k, 0 ≤ k → k < n → M 104 k = tp k ∧ 0 ≤ tp k ∧ tp k ≤ 255
theorem yIn.cg {M N : zM} {tp : Int → Int} {n : Int} (h : yIn M tp n) (e : N 104 = M 104) (e2 : N 98 4 = M 98 4) : yIn N tp n := by
  unfold yIn
  rw [e, e2]; exact h
def ySr (M : zM) (τ : yS) : Prop := ySc (M 99) (M 100) (M 101) (M 102) (M 103) τ ∧ ((0 ≤ M 99 5 ∧ M 99 5 < 2147483648) ∧ 0 ≤ M 99 6 ∧ M 99 6 < 2147483648) ∧ ∀ a, 0 ≤ a → a < 26 → 0 ≤ M 103 a ∧ M 103 a < 2147483648
theorem ySr.cg {M N : zM} {τ : yS} (h : ySr M τ) (e : ∀ x, 99 ≤ x → x ≤ 103 → N x = M x) : ySr N τ := by
  unfold ySr
  rw [e 99 (by decide) (by decide), e 100 (by decide) (by decide), e 101 (by decide) (by decide), e 102 (by decide) (by decide), e 103 (by decide) (by decide)]
  exact h
theorem ySr.k {M : zM} {τ : yS} {l w : Int} (h : ySr M τ) (hv : 0 ≤ τ 1 ∧ τ 1 ≤ 8) (hl : 0 ≤ l ∧ l < 26) (hw : w ≠ 9) : ySr (zup M 100 l w) (fun j => if j = 2 + l then w else τ j) := by
  obtain ⟨⟨a, b, c, d, e, f1⟩, g1, g2⟩ := h
  refine ⟨⟨fun m m1 m2 => ?_, fun m m1 m2 z => ?_, fun m m1 m2 => ?_, fun m m1 m2 => ?_, fun x y x1 x2 y1 y2 => ?_, ?_⟩, ?_, ?_⟩
  · dsimp only
    by_cases q : m = l
    · rw [if_pos (by omega), q, zup_eq]
    · rw [if_neg (by omega), zup_ni q]; exact a m m1 m2
  · dsimp only at z ⊢
    by_cases q : m = l
    · rw [if_pos (by omega)] at z; exact absurd z hw
    · rw [if_neg (by omega)] at z
      rw [if_neg (by omega), if_neg (by omega)]
      exact b m m1 m2 z
  · dsimp only; rw [if_neg (by omega)]; exact c m m1 m2
  · dsimp only; rw [if_neg (by omega)]; exact d m m1 m2
  · rw [yjn_c (τ := τ) (τ' := fun j => if j = 2 + l then w else τ j) (if_neg (by omega)) (fun j j1 j2 => if_neg (by omega)) hv]
    exact e x y x1 x2 y1 y2
  · dsimp only; rw [if_neg (by omega)]; exact f1
  · exact g1
  · exact g2
theorem yMx_w {x : Int} {τ : yS} {s : Int × Int × yS} (h : yVt τ) (hx : x = 1 ∨ x = 2 ∨ x = 4) (m : yMx x τ s) {l : Int} (l1 : 0 ≤ l) (l2 : l < 26) : (s.2.2 (28 + l) % 2 = if x = 1 ∧ yhb s.2.1 l = 1 then 1 else τ (28 + l) % 2) ∧ (s.2.2 (28 + l) / 2 % 2 = if x = 2 ∧ yhb s.2.1 l = 1 then 1 else τ (28 + l) / 2 % 2) ∧ s.2.2 (28 + l) / 4 % 2 = if x = 4 ∧ yhb s.2.1 l = 1 then 1 else τ (28 + l) / 4 % 2 := by
  have h7 := zor_7 (h.1.2.2.1 l l1 l2).2 hx
  rw [m.2.1 l l1 l2]
  by_cases q : yhb s.2.1 l = 1
  · rw [if_pos q, h7.2.1, h7.2.2.1, h7.2.2.2]
    rcases hx with rfl | rfl | rfl <;> simp [q]
  · rw [if_neg q, if_neg (fun z => q z.2), if_neg (fun z => q z.2), if_neg (fun z => q z.2)]
    exact ⟨rfl, rfl, rfl⟩
theorem yhb_o2 {x y b : Int} (hx : 0 ≤ x ∧ x < 2147483648) (hy : 0 ≤ y ∧ y < 2147483648) (hb : 0 ≤ b ∧ b ≤ 30) : yhb (zor x y) b = if yhb y b = 1 then 1 else yhb x b := by
  rw [yhb_t (zor_n hx hy) (by omega), yhb_t hx (by omega), yhb_t hy (by omega)]
  have e : (zor x y).toNat = x.toNat ||| y.toNat := rfl
  rw [e, Nat.testBit_or]
  cases x.toNat.testBit b.toNat <;> cases y.toNat.testBit b.toNat <;> simp
theorem ySr.m {M N : zM} {x : Int} {τ : yS} {s : Int × Int × yS} (h : ySr M τ) (hv : yVt τ) (hx : x = 1 ∨ x = 2 ∨ x = 4) (m : yMx x τ s) (e : ∀ r, 100 ≤ r → r ≤ 103 → N r = M r) (e7 : N 99 7 = M 99 7)
    (e4 : ∀ l, 0 ≤ l → l < 26 → (N 99 4 = l ↔ (x = 1 ∧ yhb s.2.1 l = 1) ∨ M 99 4 = l)) (e5 : N 99 5 = if x = 2 then zor (M 99 5) s.2.1 else M 99 5) (e6 : N 99 6 = if x = 4 then zor (M 99 6) s.2.1 else M 99 6) : ySr N s.2.2 := by
  obtain ⟨⟨a, b, c, d, e8, f1⟩, ⟨g1, g2⟩, g3⟩ := h
  have eo : ∀ j, ¬ (28 ≤ j ∧ j < 54) → s.2.2 j = τ j := m.2.2
  refine ⟨⟨fun l l1 l2 => ?_, fun l l1 l2 z => ?_, fun l l1 l2 => ?_, fun l l1 l2 => ?_, fun p q p1 p2 q1 q2 => ?_, ?_⟩, ⟨?_, ?_⟩, ?_⟩
  · rw [e 100 (by decide) (by decide), eo _ (by omega)]; exact a l l1 l2
  · rw [eo _ (by omega)] at z
    rw [e 101 (by decide) (by decide), e 102 (by decide) (by decide), eo _ (by omega), eo _ (by omega)]
    exact b l l1 l2 z
  · rw [(yMx_w hv hx m l1 l2).1, e4 l l1 l2, c l l1 l2]
    by_cases q : x = 1 ∧ yhb s.2.1 l = 1
    · rw [if_pos q]; exact ⟨fun _ => rfl, fun _ => Or.inl q⟩
    · rw [if_neg q]; exact ⟨fun z => z.resolve_left q, Or.inr⟩
  · have d1 := d l l1 l2
    rw [(yMx_w hv hx m l1 l2).2.1, (yMx_w hv hx m l1 l2).2.2, e5, e6]
    refine ⟨?_, ?_⟩
    · by_cases q : x = 2
      · rw [if_pos q, yhb_o2 g1 m.1 (by omega), d1.1]
        by_cases z : yhb s.2.1 l = 1
        · rw [if_pos z, if_pos ⟨q, z⟩]
        · rw [if_neg z, if_neg (fun y => z y.2)]
      · rw [if_neg q, if_neg (fun y => q y.1)]; exact d1.1
    · by_cases q : x = 4
      · rw [if_pos q, yhb_o2 g2 m.1 (by omega), d1.2]
        by_cases z : yhb s.2.1 l = 1
        · rw [if_pos z, if_pos ⟨q, z⟩]
        · rw [if_neg z, if_neg (fun y => z y.2)]
      · rw [if_neg q, if_neg (fun y => q y.1)]; exact d1.2
  · rw [e 103 (by decide) (by decide), yjn_c (eo 1 (by omega)) (fun j j1 j2 => eo j (by omega)) hv.1.2.1]
    exact e8 p q p1 p2 q1 q2
  · rw [e7, eo 1 (by omega)]; exact f1
  · rw [e5]; split
    · exact zor_n g1 m.1
    · exact g1
  · rw [e6]; split
    · exact zor_n g2 m.1
    · exact g2
  · rw [e 103 (by decide) (by decide)]; exact g3
theorem ySr.ap {M : zM} {τ : yS} {a c : Int} (h : ySr M τ) (h8 : 0 ≤ τ 1 ∧ τ 1 < 8) (ha : 0 ≤ a ∧ a < 26) (hc : 0 ≤ c ∧ c < 26) : ySr (zup (zup M 103 a (zor (M 103 a) (1 * 2 ^ (Int.toNat c)))) 99 7 (τ 1 + 1)) (yAP τ a c) := by
  obtain ⟨⟨a1, b, c1, d, e8, f1⟩, ⟨g1, g2⟩, g3⟩ := h
  have k0 : ∀ j, j ≠ 1 → j < 106 → yAP τ a c j = τ j := fun j j1 j2 => by unfold yAP; rw [if_neg j1, if_neg (by omega), if_neg (by omega)]
  have h2 := y2p (l := c) (by omega)
  refine ⟨⟨fun l l1 l2 => ?_, fun l l1 l2 z => ?_, fun l l1 l2 => ?_, fun l l1 l2 => ?_, fun p q p1 p2 q1 q2 => ?_, ?_⟩, ⟨?_, ?_⟩, fun x x1 x2 => ?_⟩
  · rw [k0 _ (by omega) (by omega)]; exact a1 l l1 l2
  · rw [k0 _ (by omega) (by omega)] at z
    rw [k0 _ (by omega) (by omega), k0 _ (by omega) (by omega)]
    exact b l l1 l2 z
  · rw [k0 _ (by omega) (by omega), zup_ni (by decide), zup_na (by decide)]; exact c1 l l1 l2
  · rw [k0 _ (by omega) (by omega), zup_ni (by decide), zup_na (by decide), zup_ni (by decide), zup_na (by decide)]; exact d l l1 l2
  · rw [yAP_J h8, zup_na (by decide)]
    by_cases z : p = a
    · rw [z, zup_eq, yhb_or (g3 a ha.1 ha.2) (by omega) (by omega), e8 a q ha.1 ha.2 q1 q2]
      by_cases y : q = c
      · rw [if_pos y, if_pos ⟨rfl, y⟩]
      · rw [if_neg y, if_neg (fun t => y t.2)]
    · rw [zup_ni z, if_neg (fun t => z t.1)]; exact e8 p q p1 p2 q1 q2
  · rw [zup_eq]; exact (if_pos rfl : yAP τ a c 1 = _).symm
  · rw [zup_ni (by decide), zup_na (by decide)]; exact g1
  · rw [zup_ni (by decide), zup_na (by decide)]; exact g2
  · rw [zup_na (by decide)]
    by_cases z : x = a
    · rw [z, zup_eq]; exact zor_n (g3 a ha.1 ha.2) (by omega)
    · rw [zup_ni z]; exact g3 x x1 x2
theorem ySr.sp {M : zM} {τ : yS} {l f s : Int} (h : ySr M τ) (hv : 0 ≤ τ 1 ∧ τ 1 ≤ 8) (hl : 0 ≤ l ∧ l < 26) : ySr (zup (zup (zup M 100 l 9) 101 l f) 102 l s) (yAS τ l f s) := by
  obtain ⟨⟨a1, b, c1, d, e8, f1⟩, g1, g3⟩ := h
  have k0 : ∀ j, j ≠ 2 + l → j ≠ 54 + l → j ≠ 80 + l → yAS τ l f s j = τ j := fun j j1 j2 j3 => by unfold yAS; rw [if_neg j1, if_neg j2, if_neg j3]
  refine ⟨⟨fun m m1 m2 => ?_, fun m m1 m2 z => ?_, fun m m1 m2 => ?_, fun m m1 m2 => ?_, fun p q p1 p2 q1 q2 => ?_, ?_⟩, ?_, ?_⟩
  · rw [zup_na (by decide), zup_na (by decide)]
    by_cases q : m = l
    · rw [q, zup_eq]; exact (if_pos rfl).symm
    · rw [zup_ni q, k0 _ (by omega) (by omega) (by omega)]; exact a1 m m1 m2
  · rw [zup_na (by decide)]
    by_cases q : m = l
    · rw [q, zup_eq, zup_eq]
      unfold yAS
      rw [if_neg (by omega), if_pos rfl, if_neg (by omega), if_neg (by omega), if_pos rfl]
      exact ⟨rfl, rfl⟩
    · rw [k0 _ (by omega) (by omega) (by omega)] at z
      rw [zup_ni q, zup_na (by decide), zup_ni q, zup_na (by decide), zup_na (by decide), k0 _ (by omega) (by omega) (by omega), k0 _ (by omega) (by omega) (by omega)]
      exact b m m1 m2 z
  · rw [k0 _ (by omega) (by omega) (by omega)]; exact c1 m m1 m2
  · rw [k0 _ (by omega) (by omega) (by omega)]; exact d m m1 m2
  · rw [yjn_c (τ := τ) (k0 1 (by omega) (by omega) (by omega)) (fun j j1 j2 => k0 j (by omega) (by omega) (by omega)) hv]
    exact e8 p q p1 p2 q1 q2
  · rw [k0 1 (by omega) (by omega) (by omega)]; exact f1
  · exact g1
  · exact g3
section
set_option maxHeartbeats 4000000
theorem m_byteAt {p : Int} {tp : Int → Int} {n : Int} {M : zM} {Q : zV → zM → Prop} (hI : yIn M tp n) (k : Q (0, yby tp n p) M) : zWp kRe_byteAt 0 [(1, 98), (0, p)] [] M Q := by
  have hn := hI.1.2
  refine zw_iload ⟨rfl, rfl⟩ rfl ?_
  refine zw_iflt ⟨rfl, rfl⟩ rfl (fun c1 => ?_) (fun c1 => ?_)
  · skip
    refine zw_const ⟨rfl, rfl⟩ ?_
    refine zw_ret rfl ?_
    rw [show yby tp n p = -1 from if_neg (by omega)] at k
    exact k
  · skip
    refine zw_iload ⟨rfl, rfl⟩ rfl ?_
    refine zw_aload ⟨rfl, rfl⟩ rfl ?_
    refine zw_getIv (v := n) ⟨rfl, rfl⟩ zc_98 (by decide) (hI.1.1) ?_
    refine zw_icge ⟨rfl, rfl⟩ rfl (fun c2 => ?_) (fun c2 => ?_)
    · skip
      refine zw_const ⟨rfl, rfl⟩ ?_
      refine zw_ret rfl ?_
      rw [show yby tp n p = -1 from if_neg (by omega)] at k
      exact k
    · skip
      refine zw_aload ⟨rfl, rfl⟩ rfl ?_
      refine zw_getR 104 ⟨rfl, rfl⟩ zr_98_3 ?_
      refine zw_iload ⟨rfl, rfl⟩ rfl ?_
      refine zw_ialdv (v := tp (p)) ⟨rfl, rfl⟩ za_104 (by omega) ((hI.2 (p) (by omega) (by omega)).1) ?_
      refine zw_goto ⟨rfl, rfl⟩ rfl ?_
      refine zw_ret rfl ?_
      rw [show yby tp n p = tp (p) from if_pos (by omega)] at k
      exact k

theorem m_skipB_l {v : Int} {tp : Int → Int} {n : Int} {M : zM} {Q : zV → zM → Prop} (hI : yIn M tp n) (k : Q (3, 0) (zup M 98 5 v)) : ∀ (f0 : Nat) (p : Int) (P : zM), (0 ≤ p ∧ p ≤ n) → (P = zup M 98 5 p) → (ybl tp n p = v) → (n - p).toNat < f0 → zWp kRe_skipBlanks 3 [(1, 98), (0, p)] [] P Q := by
  intro f0
  induction f0 with
  | zero => intro p P i1 iP i2 hf0; exact absurd hf0 (Nat.not_lt_zero _)
  | succ f0 ih =>
    intro p P i1 iP i2 hf0
    have hn := hI.1.2
    refine zw_iload ⟨rfl, rfl⟩ rfl ?_
    refine zw_aload ⟨rfl, rfl⟩ rfl ?_
    refine zw_getIv (v := n) ⟨rfl, rfl⟩ zc_98 (by decide) ((by rw [iP, zup_ni (by decide)]; exact hI.1.1)) ?_
    refine zw_icge ⟨rfl, rfl⟩ rfl (fun c1 => ?_) (fun c1 => ?_)
    · skip
      refine zw_void rfl ?_
      have e : ybl tp n p = p := ybl_e (fun z => by omega)
      rw [e] at i2
      rw [iP, i2]
      exact k
    · skip
      refine zw_aload ⟨rfl, rfl⟩ rfl ?_
      refine zw_getR 104 ⟨rfl, rfl⟩ zr_98_3 ?_
      refine zw_iload ⟨rfl, rfl⟩ rfl ?_
      refine zw_ialdv (v := tp p) ⟨rfl, rfl⟩ za_104 (by omega) ((by rw [iP, zup_na (by decide)]; exact (hI.2 p (by omega) (by omega)).1)) ?_
      refine zw_const ⟨rfl, rfl⟩ ?_
      refine zw_icne ⟨rfl, rfl⟩ rfl (fun c2 => ?_) (fun c2 => ?_)
      · skip
        refine zw_void rfl ?_
        have e : ybl tp n p = p := ybl_e (fun z => by omega)
        rw [e] at i2
        rw [iP, i2]
        exact k
      · skip
        refine zw_aload ⟨rfl, rfl⟩ rfl ?_
        refine zw_dup ⟨rfl, rfl⟩ (by decide) ?_
        refine zw_getIv (v := p) ⟨rfl, rfl⟩ zc_98 (by decide) ((by rw [iP]; exact zup_eq _ _ _ _)) ?_
        refine zw_const ⟨rfl, rfl⟩ ?_
        refine zw_iadd ⟨rfl, rfl⟩ (by omega) ?_
        refine zw_putI ⟨rfl, rfl⟩ zc_98 (by decide) (fun h => absurd h (by decide)) ?_
        refine zw_iinc_1 ⟨rfl, rfl⟩ (by omega) ?_
        refine zw_goto ⟨rfl, rfl⟩ rfl ?_
        refine ih _ _ ⟨by omega, by omega⟩ (by rw [iP]; exact zup_zup) ?_ (by omega)
        rw [← i2]
        exact ybl_s (by omega) (by omega)

theorem m_skipBlanks {p : Int} {tp : Int → Int} {n : Int} {M : zM} {Q : zV → zM → Prop} (hI : yIn M tp n) (hp : M 98 5 = p ∧ 0 ≤ p ∧ p ≤ n) (k : Q (3, 0) (zup M 98 5 (ybl tp n p))) : zWp kRe_skipBlanks 0 [(1, 98), (3, 0)] [] M Q := by
  refine zw_aload ⟨rfl, rfl⟩ rfl ?_
  refine zw_getIv (v := p) ⟨rfl, rfl⟩ zc_98 (by decide) (hp.1) ?_
  refine zw_istore_1 ⟨rfl, rfl⟩ ?_
  exact m_skipB_l hI k _ _ _ hp.2 (zup_id hp.1).symm rfl (Nat.lt_succ_self _)

theorem m_skipL_l {v p0 : Int} {tp : Int → Int} {n : Int} {M : zM} {Q : zV → zM → Prop} (hI : yIn M tp n) (h0 : 0 ≤ p0) (k : Q (0, v - p0) (zup M 98 5 v)) : ∀ (f0 : Nat) (p : Int) (P : zM), (p0 ≤ p ∧ p ≤ n) → (P = zup M 98 5 p) → (yle tp n p = v) → (n - p).toNat < f0 → zWp kRe_skipLetters 5 [(1, 98), (0, p0), (0, p)] [] P Q := by
  intro f0
  induction f0 with
  | zero => intro p P i1 iP i2 hf0; exact absurd hf0 (Nat.not_lt_zero _)
  | succ f0 ih =>
    intro p P i1 iP i2 hf0
    have hn := hI.1.2
    refine zw_iload ⟨rfl, rfl⟩ rfl ?_
    refine zw_aload ⟨rfl, rfl⟩ rfl ?_
    refine zw_getIv (v := n) ⟨rfl, rfl⟩ zc_98 (by decide) ((by rw [iP, zup_ni (by decide)]; exact hI.1.1)) ?_
    refine zw_icge ⟨rfl, rfl⟩ rfl (fun c1 => ?_) (fun c1 => ?_)
    · skip
      refine zw_aload ⟨rfl, rfl⟩ rfl ?_
      refine zw_getIv (v := p) ⟨rfl, rfl⟩ zc_98 (by decide) ((by rw [iP]; exact zup_eq _ _ _ _)) ?_
      refine zw_iload ⟨rfl, rfl⟩ rfl ?_
      refine zw_isub ⟨rfl, rfl⟩ (by omega) ?_
      refine zw_ret rfl ?_
      have e : yle tp n p = p := yle_e (fun z => by omega)
      rw [e] at i2
      rw [iP, i2]
      exact k
    · skip
      have hb := hI.2 p (by omega) (by omega)
      refine zw_aload ⟨rfl, rfl⟩ rfl ?_
      refine zw_getR 104 ⟨rfl, rfl⟩ zr_98_3 ?_
      refine zw_iload ⟨rfl, rfl⟩ rfl ?_
      refine zw_ialdv (v := tp p) ⟨rfl, rfl⟩ za_104 (by omega) ((by rw [iP, zup_na (by decide)]; exact (hI.2 p (by omega) (by omega)).1)) ?_
      refine zw_const ⟨rfl, rfl⟩ ?_
      refine zw_isub ⟨rfl, rfl⟩ (by omega) ?_
      refine zw_calls1 ⟨rfl, rfl⟩ rfl rfl ?_
      refine zw_iload ⟨rfl, rfl⟩ rfl ?_
      refine zw_iflt ⟨rfl, rfl⟩ rfl (fun c2 => ?_) (fun c2 => ?_)
      · skip
        refine zw_const ⟨rfl, rfl⟩ ?_
        refine zw_zret rfl (by first | exact Or.inl rfl | exact Or.inr rfl | omega) ?_
        refine zw_ifeq ⟨rfl, rfl⟩ rfl (fun _ => ?_) (fun q => absurd (by decide) q)
        refine zw_aload ⟨rfl, rfl⟩ rfl ?_
        refine zw_getIv (v := p) ⟨rfl, rfl⟩ zc_98 (by decide) ((by rw [iP]; exact zup_eq _ _ _ _)) ?_
        refine zw_iload ⟨rfl, rfl⟩ rfl ?_
        refine zw_isub ⟨rfl, rfl⟩ (by omega) ?_
        refine zw_ret rfl ?_
        have e : yle tp n p = p := yle_e (fun z => by omega)
        rw [e] at i2
        rw [iP, i2]
        exact k
      · skip
        refine zw_iload ⟨rfl, rfl⟩ rfl ?_
        refine zw_const ⟨rfl, rfl⟩ ?_
        refine zw_icge ⟨rfl, rfl⟩ rfl (fun c4 => ?_) (fun c4 => ?_)
        · skip
          refine zw_const ⟨rfl, rfl⟩ ?_
          refine zw_zret rfl (by first | exact Or.inl rfl | exact Or.inr rfl | omega) ?_
          refine zw_ifeq ⟨rfl, rfl⟩ rfl (fun _ => ?_) (fun q => absurd (by decide) q)
          refine zw_aload ⟨rfl, rfl⟩ rfl ?_
          refine zw_getIv (v := p) ⟨rfl, rfl⟩ zc_98 (by decide) ((by rw [iP]; exact zup_eq _ _ _ _)) ?_
          refine zw_iload ⟨rfl, rfl⟩ rfl ?_
          refine zw_isub ⟨rfl, rfl⟩ (by omega) ?_
          refine zw_ret rfl ?_
          have e : yle tp n p = p := yle_e (fun z => by omega)
          rw [e] at i2
          rw [iP, i2]
          exact k
        · skip
          refine zw_const ⟨rfl, rfl⟩ ?_
          refine zw_goto ⟨rfl, rfl⟩ rfl ?_
          refine zw_zret rfl (by first | exact Or.inl rfl | exact Or.inr rfl | omega) ?_
          refine zw_ifeq ⟨rfl, rfl⟩ rfl (fun q => absurd q (by decide)) (fun _ => ?_)
          refine zw_aload ⟨rfl, rfl⟩ rfl ?_
          refine zw_dup ⟨rfl, rfl⟩ (by decide) ?_
          refine zw_getIv (v := p) ⟨rfl, rfl⟩ zc_98 (by decide) ((by rw [iP]; exact zup_eq _ _ _ _)) ?_
          refine zw_const ⟨rfl, rfl⟩ ?_
          refine zw_iadd ⟨rfl, rfl⟩ (by omega) ?_
          refine zw_putI ⟨rfl, rfl⟩ zc_98 (by decide) (fun h => absurd h (by decide)) ?_
          refine zw_iinc_2 ⟨rfl, rfl⟩ (by omega) ?_
          refine zw_goto ⟨rfl, rfl⟩ rfl ?_
          refine ih _ _ ⟨by omega, by omega⟩ (by rw [iP]; exact zup_zup) ?_ (by omega)
          rw [← i2]
          exact yle_s (by omega) ⟨by omega, by omega⟩

theorem m_skipLetters {p : Int} {tp : Int → Int} {n : Int} {M : zM} {Q : zV → zM → Prop} (hI : yIn M tp n) (hp : M 98 5 = p ∧ 0 ≤ p ∧ p ≤ n) (k : Q (0, yle tp n p - p) (zup M 98 5 (yle tp n p))) : zWp kRe_skipLetters 0 [(1, 98), (3, 0), (3, 0)] [] M Q := by
  refine zw_aload ⟨rfl, rfl⟩ rfl ?_
  refine zw_getIv (v := p) ⟨rfl, rfl⟩ zc_98 (by decide) (hp.1) ?_
  refine zw_istore_1 ⟨rfl, rfl⟩ ?_
  refine zw_iload ⟨rfl, rfl⟩ rfl ?_
  refine zw_istore_2 ⟨rfl, rfl⟩ ?_
  exact m_skipL_l hI hp.2.1 k _ _ _ ⟨Int.le_refl _, hp.2.2⟩ (zup_id hp.1).symm rfl (Nat.lt_succ_self _)

theorem m_wordNamed {w : Int} {M : zM} {Q : zV → zM → Prop} (hw : 1 ≤ w ∧ w ≤ 17) (k : Q (4, w - 1) M) : zWp kX_wordNamed 0 [(0, w)] [] M Q := by
  refine zw_iload ⟨rfl, rfl⟩ rfl ?_
  by_cases e1_0 : w = 1
  · refine zw_table ⟨rfl, rfl⟩ (t' := 2) (by rw [e1_0]; rfl) ?_
    refine zw_text ⟨rfl, rfl⟩ ?_
    refine zw_tret rfl ?_
    rw [show w - 1 = 0 by omega] at k
    exact k
  by_cases e1_1 : w = 2
  · refine zw_table ⟨rfl, rfl⟩ (t' := 4) (by rw [e1_1]; rfl) ?_
    refine zw_text ⟨rfl, rfl⟩ ?_
    refine zw_tret rfl ?_
    rw [show w - 1 = 1 by omega] at k
    exact k
  by_cases e1_2 : w = 3
  · refine zw_table ⟨rfl, rfl⟩ (t' := 6) (by rw [e1_2]; rfl) ?_
    refine zw_text ⟨rfl, rfl⟩ ?_
    refine zw_tret rfl ?_
    rw [show w - 1 = 2 by omega] at k
    exact k
  by_cases e1_3 : w = 4
  · refine zw_table ⟨rfl, rfl⟩ (t' := 8) (by rw [e1_3]; rfl) ?_
    refine zw_text ⟨rfl, rfl⟩ ?_
    refine zw_tret rfl ?_
    rw [show w - 1 = 3 by omega] at k
    exact k
  by_cases e1_4 : w = 5
  · refine zw_table ⟨rfl, rfl⟩ (t' := 10) (by rw [e1_4]; rfl) ?_
    refine zw_text ⟨rfl, rfl⟩ ?_
    refine zw_tret rfl ?_
    rw [show w - 1 = 4 by omega] at k
    exact k
  by_cases e1_5 : w = 6
  · refine zw_table ⟨rfl, rfl⟩ (t' := 12) (by rw [e1_5]; rfl) ?_
    refine zw_text ⟨rfl, rfl⟩ ?_
    refine zw_tret rfl ?_
    rw [show w - 1 = 5 by omega] at k
    exact k
  by_cases e1_6 : w = 7
  · refine zw_table ⟨rfl, rfl⟩ (t' := 14) (by rw [e1_6]; rfl) ?_
    refine zw_text ⟨rfl, rfl⟩ ?_
    refine zw_tret rfl ?_
    rw [show w - 1 = 6 by omega] at k
    exact k
  by_cases e1_7 : w = 8
  · refine zw_table ⟨rfl, rfl⟩ (t' := 16) (by rw [e1_7]; rfl) ?_
    refine zw_text ⟨rfl, rfl⟩ ?_
    refine zw_tret rfl ?_
    rw [show w - 1 = 7 by omega] at k
    exact k
  by_cases e1_8 : w = 9
  · refine zw_table ⟨rfl, rfl⟩ (t' := 18) (by rw [e1_8]; rfl) ?_
    refine zw_text ⟨rfl, rfl⟩ ?_
    refine zw_tret rfl ?_
    rw [show w - 1 = 8 by omega] at k
    exact k
  by_cases e1_9 : w = 10
  · refine zw_table ⟨rfl, rfl⟩ (t' := 20) (by rw [e1_9]; rfl) ?_
    refine zw_text ⟨rfl, rfl⟩ ?_
    refine zw_tret rfl ?_
    rw [show w - 1 = 9 by omega] at k
    exact k
  by_cases e1_10 : w = 11
  · refine zw_table ⟨rfl, rfl⟩ (t' := 22) (by rw [e1_10]; rfl) ?_
    refine zw_text ⟨rfl, rfl⟩ ?_
    refine zw_tret rfl ?_
    rw [show w - 1 = 10 by omega] at k
    exact k
  by_cases e1_11 : w = 12
  · refine zw_table ⟨rfl, rfl⟩ (t' := 24) (by rw [e1_11]; rfl) ?_
    refine zw_text ⟨rfl, rfl⟩ ?_
    refine zw_tret rfl ?_
    rw [show w - 1 = 11 by omega] at k
    exact k
  by_cases e1_12 : w = 13
  · refine zw_table ⟨rfl, rfl⟩ (t' := 26) (by rw [e1_12]; rfl) ?_
    refine zw_text ⟨rfl, rfl⟩ ?_
    refine zw_tret rfl ?_
    rw [show w - 1 = 12 by omega] at k
    exact k
  by_cases e1_13 : w = 14
  · refine zw_table ⟨rfl, rfl⟩ (t' := 28) (by rw [e1_13]; rfl) ?_
    refine zw_text ⟨rfl, rfl⟩ ?_
    refine zw_tret rfl ?_
    rw [show w - 1 = 13 by omega] at k
    exact k
  by_cases e1_14 : w = 15
  · refine zw_table ⟨rfl, rfl⟩ (t' := 30) (by rw [e1_14]; rfl) ?_
    refine zw_text ⟨rfl, rfl⟩ ?_
    refine zw_tret rfl ?_
    rw [show w - 1 = 14 by omega] at k
    exact k
  by_cases e1_15 : w = 16
  · refine zw_table ⟨rfl, rfl⟩ (t' := 32) (by rw [e1_15]; rfl) ?_
    refine zw_text ⟨rfl, rfl⟩ ?_
    refine zw_tret rfl ?_
    rw [show w - 1 = 15 by omega] at k
    exact k
  refine zw_table ⟨rfl, rfl⟩ (t' := 34) (by rw [ztgt_out (by show _ < (1 : Int) ∨ 1 + 16 ≤ _; omega)]; rfl) ?_
  refine zw_text ⟨rfl, rfl⟩ ?_
  refine zw_tret rfl ?_
  rw [show w - 1 = 16 by omega] at k
  exact k

theorem m_isWord_l  {w b len : Int} {tp : Int → Int} {n : Int} {M : zM} {Q : zV → zM → Prop} (hI : yIn M tp n) (hw : 1 ≤ w ∧ w ≤ 17) (hb : 0 ≤ b ∧ b + len ≤ n) (hl : ((zTx.getD (Int.toNat (w - 1)) []).length : Int) = len) (k : Q (0, yall (fun k => tp (b + k) = (yTw w).getD k.toNat 0) len.toNat) M) : ∀ (f : Nat) (j : Int), (0 ≤ j ∧ j ≤ len) → (∀ q, 0 ≤ q → q < j → tp (b + q) = (yTw w).getD q.toNat 0) → (len - j).toNat < f → zWp kRe_isWord 8 [(1, 98), (4, w - 1), (0, b), (0, len), (0, j)] [] M Q := by
  intro f
  induction f with
  | zero => intro j i1 i2 hf; exact absurd hf (Nat.not_lt_zero _)
  | succ f ih =>
    intro j i1 i2 hf
    have hn := hI.1.2
    refine zw_iload ⟨rfl, rfl⟩ rfl ?_
    refine zw_iload ⟨rfl, rfl⟩ rfl ?_
    refine zw_icge ⟨rfl, rfl⟩ rfl (fun c1 => ?_) (fun c1 => ?_)
    · skip
      refine zw_const ⟨rfl, rfl⟩ ?_
      refine zw_zret rfl (by first | exact Or.inl rfl | exact Or.inr rfl | omega) ?_
      rw [yall_1 _ _ (fun q q1 q2 => i2 q q1 (by omega))] at k
      exact k
    · skip
      refine zw_aload ⟨rfl, rfl⟩ rfl ?_
      refine zw_iload ⟨rfl, rfl⟩ rfl ?_
      refine zw_iload ⟨rfl, rfl⟩ rfl ?_
      refine zw_iadd ⟨rfl, rfl⟩ (by omega) ?_
      refine zw_callv2 ⟨rfl, rfl⟩ rfl zc_98 rfl ?_
      refine m_byteAt hI ?_
      rw [show yby tp n (b + j) = tp (b + j) from if_pos ⟨by omega, by omega⟩]
      refine zw_tload ⟨rfl, rfl⟩ rfl ?_
      refine zw_iload ⟨rfl, rfl⟩ rfl ?_
      refine zw_char ⟨rfl, rfl⟩ (by omega) (Nat.le_of_ble_eq_true rfl) ?_
      refine zw_iceq ⟨rfl, rfl⟩ rfl (fun c2 => ?_) (fun c2 => ?_)
      · skip
        refine zw_iinc_4 ⟨rfl, rfl⟩ (by omega) ?_
        refine zw_goto ⟨rfl, rfl⟩ rfl ?_
        refine ih _ ⟨by omega, by omega⟩ (fun q q1 q2 => ?_) (by omega)
        by_cases e : q = j
        · subst e; show tp (b + q) = (zTx.getD (Int.toNat (w - 1)) []).getD (Int.toNat q) 0; omega
        · exact i2 q q1 (by omega)
      · skip
        refine zw_const ⟨rfl, rfl⟩ ?_
        refine zw_zret rfl (by first | exact Or.inl rfl | exact Or.inr rfl | omega) ?_
        rw [yall_0 _ _ j i1.1 (by omega) (by show ¬ (tp (b + j) = (zTx.getD (Int.toNat (w - 1)) []).getD (Int.toNat j) 0); omega)] at k
        exact k

theorem m_isWord {w b len : Int} {tp : Int → Int} {n : Int} {M : zM} {Q : zV → zM → Prop} (hI : yIn M tp n) (hw : 1 ≤ w ∧ w ≤ 17) (hb : 0 ≤ b ∧ 0 ≤ len ∧ b + len ≤ n) (k : Q (0, ywq tp b len w) M) : zWp kRe_isWord 0 [(1, 98), (4, w - 1), (0, b), (0, len), (3, 0)] [] M Q := by
  refine zw_tload ⟨rfl, rfl⟩ rfl ?_
  refine zw_tlen ⟨rfl, rfl⟩ (by omega) (Nat.le_of_ble_eq_true rfl) ?_
  refine zw_iload ⟨rfl, rfl⟩ rfl ?_
  refine zw_iceq ⟨rfl, rfl⟩ rfl (fun c1 => ?_) (fun c1 => ?_)
  · skip
    refine zw_const ⟨rfl, rfl⟩ ?_
    refine zw_istore_4 ⟨rfl, rfl⟩ ?_
    have hl : ((zTx.getD (Int.toNat (w - 1)) []).length : Int) = len := by omega
    rw [show ywq tp b len w = _ from if_pos hl] at k
    exact m_isWord_l hI hw ⟨hb.1, hb.2.2⟩ hl k _ _ ⟨Int.le_refl _, hb.2.1⟩ (fun q a b => by omega) (Nat.lt_succ_self _)
  · skip
    refine zw_const ⟨rfl, rfl⟩ ?_
    refine zw_zret rfl (by first | exact Or.inl rfl | exact Or.inr rfl | omega) ?_
    rw [show ywq tp b len w = 0 from if_neg (by show ¬ (((zTx.getD (Int.toNat (w - 1)) []).length : Int) = len); omega)] at k
    exact k

theorem m_wordAt_l  {b len v : Int} {tp : Int → Int} {n : Int} {M : zM} {Q : zV → zM → Prop} (hI : yIn M tp n) (hb : 0 ≤ b ∧ 0 ≤ len ∧ b + len ≤ n) (k : Q (0, v) M) : ∀ (f : Nat) (w : Int), (1 ≤ w ∧ w ≤ 18) → (yfst (fun w => ywq tp b len w = 1) w (18 - w).toNat = v) → (18 - w).toNat < f → zWp kRe_wordAt 2 [(1, 98), (0, b), (0, len), (0, w)] [] M Q := by
  intro f
  induction f with
  | zero => intro w i1 i2 hf; exact absurd hf (Nat.not_lt_zero _)
  | succ f ih =>
    intro w i1 i2 hf
    refine zw_iload ⟨rfl, rfl⟩ rfl ?_
    refine zw_const ⟨rfl, rfl⟩ ?_
    refine zw_icgt ⟨rfl, rfl⟩ rfl (fun c1 => ?_) (fun c1 => ?_)
    · skip
      refine zw_const ⟨rfl, rfl⟩ ?_
      refine zw_ret rfl ?_
      rw [show (18 - w).toNat = 0 by omega] at i2
      unfold yfst at i2
      rw [← i2] at k
      exact k
    · skip
      rw [show (18 - w).toNat = (18 - (w + 1)).toNat + 1 by omega] at i2
      unfold yfst at i2
      have hqr := ywq_r tp b len w
      refine zw_aload ⟨rfl, rfl⟩ rfl ?_
      refine zw_iload ⟨rfl, rfl⟩ rfl ?_
      refine zw_calls1 ⟨rfl, rfl⟩ rfl rfl ?_
      refine m_wordNamed ⟨by omega, by omega⟩ ?_
      refine zw_iload ⟨rfl, rfl⟩ rfl ?_
      refine zw_iload ⟨rfl, rfl⟩ rfl ?_
      refine zw_callv4 ⟨rfl, rfl⟩ rfl zc_98 rfl ?_
      refine m_isWord hI ⟨by omega, by omega⟩ hb ?_
      refine zw_ifeq ⟨rfl, rfl⟩ rfl (fun c2 => ?_) (fun c2 => ?_)
      · skip
        refine zw_iinc_3 ⟨rfl, rfl⟩ (by omega) ?_
        refine zw_goto ⟨rfl, rfl⟩ rfl ?_
        rw [if_neg (by omega)] at i2
        exact ih _ ⟨by omega, by omega⟩ i2 (by omega)
      · skip
        refine zw_iload ⟨rfl, rfl⟩ rfl ?_
        refine zw_ret rfl ?_
        rw [if_pos (by omega)] at i2
        rw [← i2] at k
        exact k

theorem m_wordAt {b len : Int} {tp : Int → Int} {n : Int} {M : zM} {Q : zV → zM → Prop} (hI : yIn M tp n) (hb : 0 ≤ b ∧ 0 ≤ len ∧ b + len ≤ n) (k : Q (0, ywf tp b len) M) : zWp kRe_wordAt 0 [(1, 98), (0, b), (0, len), (3, 0)] [] M Q := by
  refine zw_const ⟨rfl, rfl⟩ ?_
  refine zw_istore_3 ⟨rfl, rfl⟩ ?_
  exact m_wordAt_l hI hb k _ _ ⟨Int.le_refl _, by decide⟩ rfl (Nat.lt_succ_self _)

theorem m_clear_l {M : zM} {Q : zV → zM → Prop} (kk : ∀ N : zM, ((∀ x, x ≠ 99 → x ≠ 100 → x ≠ 103 → N x = M x) ∧ ySr N y00 ∧ N 99 4 = -1) → Q (3, 0) N) : ∀ (f0 : Nat) (l : Int) (P : zM), (0 ≤ l ∧ l ≤ 26) → (∀ x, x ≠ 100 → x ≠ 103 → P x = M x) → (∀ j, 0 ≤ j → j < l → P 100 j = 0 ∧ P 103 j = 0) → (26 - l).toNat < f0 → zWp kSc_clear 2 [(1, 99), (0, l)] [] P Q := by
  intro f0
  induction f0 with
  | zero => intro l P i1 iF i2 hf0; exact absurd hf0 (Nat.not_lt_zero _)
  | succ f0 ih =>
    intro l P i1 iF i2 hf0
    refine zw_iload ⟨rfl, rfl⟩ rfl ?_
    refine zw_const ⟨rfl, rfl⟩ ?_
    refine zw_icge ⟨rfl, rfl⟩ rfl (fun c1 => ?_) (fun c1 => ?_)
    · skip
      refine zw_aload ⟨rfl, rfl⟩ rfl ?_
      refine zw_const ⟨rfl, rfl⟩ ?_
      refine zw_putI ⟨rfl, rfl⟩ zc_99 (by decide) (fun h => absurd h (by decide)) ?_
      refine zw_aload ⟨rfl, rfl⟩ rfl ?_
      refine zw_const ⟨rfl, rfl⟩ ?_
      refine zw_putI ⟨rfl, rfl⟩ zc_99 (by decide) (fun h => absurd h (by decide)) ?_
      refine zw_aload ⟨rfl, rfl⟩ rfl ?_
      refine zw_const ⟨rfl, rfl⟩ ?_
      refine zw_putI ⟨rfl, rfl⟩ zc_99 (by decide) (fun h => absurd h (by decide)) ?_
      refine zw_aload ⟨rfl, rfl⟩ rfl ?_
      refine zw_const ⟨rfl, rfl⟩ ?_
      refine zw_putI ⟨rfl, rfl⟩ zc_99 (by decide) (fun h => absurd h (by decide)) ?_
      refine zw_void rfl ?_
      have h5 : ∀ x, x ≠ 99 → ((zup (zup (zup (zup P 99 4 (-1)) 99 5 0) 99 6 0) 99 7 0)) x = P x := fun x hx => by simp only [zup_row hx]
      refine kk _ ⟨fun x x1 x2 x3 => (h5 x x1).trans (iF x x2 x3), ⟨⟨fun m m1 m2 => ?_, fun m m1 m2 z => ?_, fun m m1 m2 => ?_, fun m m1 m2 => ?_, fun p q p1 p2 q1 q2 => ?_, ?_⟩, ⟨?_, ?_⟩, fun a a1 a2 => ?_⟩, by simp [zup]⟩
      · rw [h5 100 (by decide), (i2 m m1 (by omega)).1]; unfold y00; rw [if_neg (by omega)]
      · exfalso; unfold y00 at z; rw [if_neg (by omega)] at z; omega
      · have e : y00 (28 + m) = 0 := if_neg (by omega)
        rw [e, show ((zup (zup (zup (zup P 99 4 (-1)) 99 5 0) 99 6 0) 99 7 0)) 99 4 = -1 by simp [zup]]; omega
      · have e : y00 (28 + m) = 0 := if_neg (by omega)
        rw [e, show ((zup (zup (zup (zup P 99 4 (-1)) 99 5 0) 99 6 0) 99 7 0)) 99 5 = 0 by simp [zup], show ((zup (zup (zup (zup P 99 4 (-1)) 99 5 0) 99 6 0) 99 7 0)) 99 6 = 0 by simp [zup], yhb_00 (by omega)]; exact ⟨rfl, rfl⟩
      · rw [h5 103 (by decide), (i2 p p1 (by omega)).2, yhb_00 (by omega)]; rfl
      · simp [zup, y00]
      · rw [show ((zup (zup (zup (zup P 99 4 (-1)) 99 5 0) 99 6 0) 99 7 0)) 99 5 = 0 by simp [zup]]; decide
      · rw [show ((zup (zup (zup (zup P 99 4 (-1)) 99 5 0) 99 6 0) 99 7 0)) 99 6 = 0 by simp [zup]]; decide
      · rw [h5 103 (by decide), (i2 a a1 (by omega)).2]; decide
    · skip
      refine zw_aload ⟨rfl, rfl⟩ rfl ?_
      refine zw_getR 100 ⟨rfl, rfl⟩ zr_99_0 ?_
      refine zw_iload ⟨rfl, rfl⟩ rfl ?_
      refine zw_const ⟨rfl, rfl⟩ ?_
      refine zw_iast ⟨rfl, rfl⟩ za_100 (by omega) ?_
      refine zw_aload ⟨rfl, rfl⟩ rfl ?_
      refine zw_getR 103 ⟨rfl, rfl⟩ zr_99_3 ?_
      refine zw_iload ⟨rfl, rfl⟩ rfl ?_
      refine zw_const ⟨rfl, rfl⟩ ?_
      refine zw_iast ⟨rfl, rfl⟩ za_103 (by omega) ?_
      refine zw_iinc_1 ⟨rfl, rfl⟩ (by omega) ?_
      refine zw_goto ⟨rfl, rfl⟩ rfl ?_
      refine ih _ _ ⟨by omega, by omega⟩ (fun x x1 x2 => (zup_row x2).trans ((zup_row x1).trans (iF x x1 x2))) (fun j j1 j2 => ?_) (by omega)
      by_cases q : j = l
      · rw [q]; exact ⟨(zup_na (by decide)).trans (zup_eq _ _ _ _), zup_eq _ _ _ _⟩
      · exact ⟨(zup_na (by decide)).trans ((zup_ni q).trans (i2 j j1 (by omega)).1), (zup_ni q).trans ((zup_na (by decide)).trans (i2 j j1 (by omega)).2)⟩

theorem m_clear {M : zM} {Q : zV → zM → Prop} (kk : ∀ N : zM, ((∀ x, x ≠ 99 → x ≠ 100 → x ≠ 103 → N x = M x) ∧ ySr N y00 ∧ N 99 4 = -1) → Q (3, 0) N) : zWp kSc_clear 0 [(1, 99), (3, 0)] [] M Q := by
  refine zw_const ⟨rfl, rfl⟩ ?_
  refine zw_istore_1 ⟨rfl, rfl⟩ ?_
  exact m_clear_l kk _ _ _ ⟨Int.le_refl _, by decide⟩ (fun _ _ _ => rfl) (fun j a b => by omega) (Nat.lt_succ_self _)

theorem m_takeKind_l {w b len : Int} {τ : yS} {tp : Int → Int} {n : Int} {M : zM} {Q : zV → zM → Prop} (hI : yIn M tp n) (hl : yLet tp b len) (hb : 0 ≤ b ∧ 0 ≤ len ∧ b + len ≤ n) (hw : 1 ≤ w ∧ w ≤ 13 ∧ w ≠ 9) (hV : yVt τ) (kk : ∀ P : zM, (∀ x, x ≠ 100 → P x = M x) → ((ytK tp b w len τ).1 = 1 → ySr P (ytK tp b w len τ).2) → Q (0, (ytK tp b w len τ).1) P) : ∀ (f0 : Nat) (j : Int) (u5 : zV) (P : zM), (0 ≤ j ∧ j ≤ len) → ((ytK tp b w j τ).1 = 1) → (ySr P (ytK tp b w j τ).2) → (∀ x, x ≠ 100 → P x = M x) → (len - j).toNat < f0 → zWp kRe_takeKind 2 [(1, 98), (0, w), (0, b), (0, len), (0, j), u5] [] P Q := by
  intro f0
  induction f0 with
  | zero => intro j u5 P i1 i2 i3 iF hf0; exact absurd hf0 (Nat.not_lt_zero _)
  | succ f0 ih =>
    intro j u5 P i1 i2 i3 iF hf0
    have hn := hI.1.2
    refine zw_iload ⟨rfl, rfl⟩ rfl ?_
    refine zw_iload ⟨rfl, rfl⟩ rfl ?_
    refine zw_icge ⟨rfl, rfl⟩ rfl (fun c1 => ?_) (fun c1 => ?_)
    · skip
      refine zw_const ⟨rfl, rfl⟩ ?_
      refine zw_zret rfl (by first | exact Or.inl rfl | exact Or.inr rfl | omega) ?_
      have ej : j = len := by omega
      subst ej
      rw [i2] at kk
      exact kk _ iF (fun _ => i3)
    · skip
      have hlj := hl j (by omega) (by omega)
      have hVj := ytK_V hV hl hw j i1.1 (by omega) i2
      have es := ytK_s tp b w τ i1.1
      refine zw_aload ⟨rfl, rfl⟩ rfl ?_
      refine zw_iload ⟨rfl, rfl⟩ rfl ?_
      refine zw_iload ⟨rfl, rfl⟩ rfl ?_
      refine zw_iadd ⟨rfl, rfl⟩ (by omega) ?_
      refine zw_callv2 ⟨rfl, rfl⟩ rfl zc_98 rfl ?_
      refine m_byteAt (hI.cg (iF 104 (by decide)) (congrFun (iF 98 (by decide)) 4)) ?_
      rw [show yby tp n (b + j) = tp (b + j) from if_pos ⟨by omega, by omega⟩]
      refine zw_const ⟨rfl, rfl⟩ ?_
      refine zw_isub ⟨rfl, rfl⟩ (by omega) ?_
      refine zw_istore_5 ⟨rfl, rfl⟩ ?_
      refine zw_iload ⟨rfl, rfl⟩ rfl ?_
      refine zw_calls1 ⟨rfl, rfl⟩ rfl rfl ?_
      refine zw_iload ⟨rfl, rfl⟩ rfl ?_
      refine zw_iflt ⟨rfl, rfl⟩ rfl (fun c2 => ?_) (fun c2 => ?_)
      · skip
        refine zw_const ⟨rfl, rfl⟩ ?_
        refine zw_zret rfl (by first | exact Or.inl rfl | exact Or.inr rfl | omega) ?_
        refine zw_ifeq ⟨rfl, rfl⟩ rfl (fun _ => ?_) (fun q => absurd (by decide) q)
        refine zw_const ⟨rfl, rfl⟩ ?_
        refine zw_zret rfl (by first | exact Or.inl rfl | exact Or.inr rfl | omega) ?_
        first
          | (exfalso; omega)
          | (have e0 : (ytK tp b w (j + 1) τ).1 = 0 := by rw [es]; unfold yk1; rw [if_neg (fun z => by have := z.2; omega)]
             rw [ytK_f (by omega) e0 len (by omega)] at kk
             exact kk _ iF (fun z => absurd z (by decide)))
      · skip
        refine zw_iload ⟨rfl, rfl⟩ rfl ?_
        refine zw_const ⟨rfl, rfl⟩ ?_
        refine zw_icge ⟨rfl, rfl⟩ rfl (fun c4 => ?_) (fun c4 => ?_)
        · skip
          refine zw_const ⟨rfl, rfl⟩ ?_
          refine zw_zret rfl (by first | exact Or.inl rfl | exact Or.inr rfl | omega) ?_
          refine zw_ifeq ⟨rfl, rfl⟩ rfl (fun _ => ?_) (fun q => absurd (by decide) q)
          refine zw_const ⟨rfl, rfl⟩ ?_
          refine zw_zret rfl (by first | exact Or.inl rfl | exact Or.inr rfl | omega) ?_
          first
            | (exfalso; omega)
            | (have e0 : (ytK tp b w (j + 1) τ).1 = 0 := by rw [es]; unfold yk1; rw [if_neg (fun z => by have := z.2; omega)]
               rw [ytK_f (by omega) e0 len (by omega)] at kk
               exact kk _ iF (fun z => absurd z (by decide)))
        · skip
          refine zw_const ⟨rfl, rfl⟩ ?_
          refine zw_goto ⟨rfl, rfl⟩ rfl ?_
          refine zw_zret rfl (by first | exact Or.inl rfl | exact Or.inr rfl | omega) ?_
          refine zw_ifeq ⟨rfl, rfl⟩ rfl (fun q => absurd q (by decide)) (fun _ => ?_)
          refine zw_aload ⟨rfl, rfl⟩ rfl ?_
          refine zw_getR 99 ⟨rfl, rfl⟩ zr_98_0 ?_
          refine zw_getR 100 ⟨rfl, rfl⟩ zr_99_0 ?_
          refine zw_iload ⟨rfl, rfl⟩ rfl ?_
          refine zw_ialdv (v := (ytK tp b w j τ).2 (2 + (tp (b + j) - 97))) ⟨rfl, rfl⟩ za_100 (by omega) (i3.1.1 _ (by omega) (by omega)) ?_
          refine zw_ifeq ⟨rfl, rfl⟩ rfl (fun c7 => ?_) (fun c7 => ?_)
          · skip
            refine zw_aload ⟨rfl, rfl⟩ rfl ?_
            refine zw_getR 99 ⟨rfl, rfl⟩ zr_98_0 ?_
            refine zw_getR 100 ⟨rfl, rfl⟩ zr_99_0 ?_
            refine zw_iload ⟨rfl, rfl⟩ rfl ?_
            refine zw_iload ⟨rfl, rfl⟩ rfl ?_
            refine zw_iast ⟨rfl, rfl⟩ za_100 (by omega) ?_
            refine zw_iinc_4 ⟨rfl, rfl⟩ (by omega) ?_
            refine zw_goto ⟨rfl, rfl⟩ rfl ?_
            have es2 : ytK tp b w (j + 1) τ = (1, fun q => if q = 2 + (tp (b + j) - 97) then w else (ytK tp b w j τ).2 q) := es.trans (if_pos ⟨i2, by omega⟩)
            refine ih _ _ _ ⟨by omega, by omega⟩ (by rw [es2]) ?_ (fun x hx => (zup_row hx).trans (iF x hx)) (by omega)
            rw [es2]
            exact i3.k hVj.1.2.1 ⟨by omega, by omega⟩ hw.2.2
          · skip
            refine zw_const ⟨rfl, rfl⟩ ?_
            refine zw_zret rfl (by first | exact Or.inl rfl | exact Or.inr rfl | omega) ?_
            first
              | (exfalso; omega)
              | (have e0 : (ytK tp b w (j + 1) τ).1 = 0 := by rw [es]; unfold yk1; rw [if_neg (fun z => by have := z.2; omega)]
                 rw [ytK_f (by omega) e0 len (by omega)] at kk
                 exact kk _ iF (fun z => absurd z (by decide)))

theorem m_takeKind {w b len : Int} {τ : yS} {tp : Int → Int} {n : Int} {M : zM} {Q : zV → zM → Prop} (hI : yIn M tp n) (hl : yLet tp b len) (hb : 0 ≤ b ∧ 0 ≤ len ∧ b + len ≤ n) (hw : 1 ≤ w ∧ w ≤ 13 ∧ w ≠ 9) (hV : yVt τ) (kk : ∀ P : zM, (∀ x, x ≠ 100 → P x = M x) → ((ytK tp b w len τ).1 = 1 → ySr P (ytK tp b w len τ).2) → Q (0, (ytK tp b w len τ).1) P) (hS : ySr M τ) : zWp kRe_takeKind 0 [(1, 98), (0, w), (0, b), (0, len), (3, 0), (3, 0)] [] M Q := by
  refine zw_const ⟨rfl, rfl⟩ ?_
  refine zw_istore_4 ⟨rfl, rfl⟩ ?_
  have e0 : ytK tp b w 0 τ = (1, τ) := yfo_0 _ (Int.le_refl _) _
  exact m_takeKind_l hI hl hb hw hV kk _ _ _ _ ⟨Int.le_refl _, hb.2.1⟩ (by rw [e0]) (by rw [e0]; exact hS) (fun _ _ => rfl) (Nat.lt_succ_self _)

theorem m_takeRa {b : Int} {τ : yS} {tp : Int → Int} {n : Int} {M : zM} {Q : zV → zM → Prop} (hI : yIn M tp n) (hl : yLet tp b 1) (hb : 0 ≤ b ∧ b + 1 ≤ n) (hV : yVt τ) (hS : ySr M τ) (h4 : M 99 4 = -1) (kk : ∀ P : zM, (∀ x, ¬ (99 ≤ x ∧ x ≤ 103) → P x = M x) → ((ytM tp b 1 1 τ).1 = 1 → ySr P (ytM tp b 1 1 τ).2.2) → Q (0, (ytM tp b 1 1 τ).1) P) : zWp kRe_takeRa 0 [(1, 98), (0, b), (3, 0)] [] M Q := by
  have hn := hI.1.2
  have hl0 := hl 0 (by decide) (by decide)
  rw [Int.add_zero] at hl0
  have es : ytM tp b 1 1 τ = yme1 tp b 1 0 (1, 0, τ) := (ytM_s tp b 1 τ (Int.le_refl 0)).trans (by rw [show ytM tp b 1 0 τ = (1, 0, τ) from yfo_0 _ (Int.le_refl _) _])
  refine zw_aload ⟨rfl, rfl⟩ rfl ?_
  refine zw_iload ⟨rfl, rfl⟩ rfl ?_
  refine zw_callv2 ⟨rfl, rfl⟩ rfl zc_98 rfl ?_
  refine m_byteAt hI ?_
  rw [show yby tp n (b) = tp (b) from if_pos ⟨by omega, by omega⟩]
  refine zw_const ⟨rfl, rfl⟩ ?_
  refine zw_isub ⟨rfl, rfl⟩ (by omega) ?_
  refine zw_istore_2 ⟨rfl, rfl⟩ ?_
  refine zw_aload ⟨rfl, rfl⟩ rfl ?_
  refine zw_getR 99 ⟨rfl, rfl⟩ zr_98_0 ?_
  refine zw_iload ⟨rfl, rfl⟩ rfl ?_
  refine zw_callv2 ⟨rfl, rfl⟩ rfl zc_99 rfl ?_
  refine m_kindOf_99 hS.1 ?_
  rw [show ykd τ ((tp (b)) - 97) = τ (2 + ((tp (b)) - 97)) from if_pos ⟨by omega, by omega⟩]
  refine zw_const ⟨rfl, rfl⟩ ?_
  refine zw_iceq ⟨rfl, rfl⟩ rfl (fun c1 => ?_) (fun c1 => ?_)
  · skip
    refine zw_aload ⟨rfl, rfl⟩ rfl ?_
    refine zw_getR 99 ⟨rfl, rfl⟩ zr_98_0 ?_
    refine zw_iload ⟨rfl, rfl⟩ rfl ?_
    refine zw_putI ⟨rfl, rfl⟩ zc_99 (by decide) (fun h => absurd h (by decide)) ?_
    refine zw_const ⟨rfl, rfl⟩ ?_
    refine zw_zret rfl (by first | exact Or.inl rfl | exact Or.inr rfl | omega) ?_
    have e1 : (ytM tp b 1 1 τ).1 = 1 := by rw [es]; unfold yme1; rw [if_pos ⟨rfl, by show τ (2 + (tp (b + 0) - 97)) = 1; rw [Int.add_zero]; omega, by show yhb 0 _ ≠ 1; rw [yhb_00 (by rw [Int.add_zero]; omega)]; decide⟩]
    have hm := yMx_s (x := 1) (τ := τ) hl 1 (by decide) (Int.le_refl _) e1
    have eb : (ytM tp b 1 1 τ).2.1 = zor 0 (1 * 2 ^ (Int.toNat (tp (b + 0) - 97))) := by rw [es]; unfold yme1; rw [if_pos ⟨rfl, by show τ (2 + (tp (b + 0) - 97)) = 1; rw [Int.add_zero]; omega, by show yhb 0 _ ≠ 1; rw [yhb_00 (by rw [Int.add_zero]; omega)]; decide⟩]
    rw [e1] at kk
    refine kk _ (fun x hx => zup_row (by omega)) (fun _ => hS.m hV (Or.inl rfl) hm (fun r r1 r2 => zup_row (by omega)) (zup_ni (by decide)) (fun m m1 m2 => ?_) ((zup_ni (by decide)).trans (if_neg (by decide)).symm) ((zup_ni (by decide)).trans (if_neg (by decide)).symm))
    rw [zup_eq, eb, yhb_or (by decide) (by rw [Int.add_zero]; omega) (by omega), yhb_00 (by omega), h4, Int.add_zero]
    by_cases q : m = tp b - 97
    · rw [if_pos q]; omega
    · rw [if_neg q]; omega
  · skip
    refine zw_const ⟨rfl, rfl⟩ ?_
    refine zw_zret rfl (by first | exact Or.inl rfl | exact Or.inr rfl | omega) ?_
    rw [show ytM tp b 1 1 τ = (0, 0, τ) from es.trans (if_neg (fun z => by have z1 : τ (2 + (tp (b + 0) - 97)) = 1 := z.2.1; rw [Int.add_zero] at z1; omega))] at kk
    exact kk _ (fun _ _ => rfl) (fun z => absurd z (by show ¬ ((0 : Int) = 1); decide))

theorem m_takeTraits_l {w b len x : Int} {τ : yS} {tp : Int → Int} {n : Int} {M : zM} {Q : zV → zM → Prop} (hI : yIn M tp n) (hl : yLet tp b len) (hb : 0 ≤ b ∧ 0 ≤ len ∧ b + len ≤ n) (hx : (w = 15 ∧ x = 2) ∨ (w = 16 ∧ x = 4)) (hV : yVt τ) (hS : ySr M τ) (kk : ∀ P : zM, (∀ x, ¬ (99 ≤ x ∧ x ≤ 103) → P x = M x) → P 99 4 = M 99 4 → ((ytM tp b x len τ).1 = 1 → ySr P (ytM tp b x len τ).2.2) → Q (0, (ytM tp b x len τ).1) P) : ∀ (f0 : Nat) (m j : Int) (u6 : zV), (0 ≤ j ∧ j ≤ len) → ((ytM tp b x j τ).1 = 1) → (m = (ytM tp b x j τ).2.1) → (len - j).toNat < f0 → zWp kRe_takeTraits 4 [(1, 98), (0, w), (0, b), (0, len), (0, m), (0, j), u6] [] M Q := by
  intro f0
  induction f0 with
  | zero => intro m j u6 i1 i2 i3 hf0; exact absurd hf0 (Nat.not_lt_zero _)
  | succ f0 ih =>
    intro m j u6 i1 i2 i3 hf0
    have hn := hI.1.2
    have hm0 := (yMx_s (x := x) (τ := τ) hl j i1.1 i1.2 i2)
    have hmr : 0 ≤ m ∧ m < 2147483648 := by rw [i3]; exact hm0.1
    refine zw_iload ⟨rfl, rfl⟩ rfl ?_
    refine zw_iload ⟨rfl, rfl⟩ rfl ?_
    refine zw_icge ⟨rfl, rfl⟩ rfl (fun c1 => ?_) (fun c1 => ?_)
    · skip
      have hg := hS.2.1
      refine zw_iload ⟨rfl, rfl⟩ rfl ?_
      refine zw_const ⟨rfl, rfl⟩ ?_
      refine zw_icne ⟨rfl, rfl⟩ rfl (fun c2 => ?_) (fun c2 => ?_)
      · skip
        refine zw_aload ⟨rfl, rfl⟩ rfl ?_
        refine zw_getR 99 ⟨rfl, rfl⟩ zr_98_0 ?_
        refine zw_dup ⟨rfl, rfl⟩ (by decide) ?_
        refine zw_getIv (v := M 99 6) ⟨rfl, rfl⟩ zc_99 (by decide) rfl ?_
        refine zw_iload ⟨rfl, rfl⟩ rfl ?_
        refine zw_ior ⟨rfl, rfl⟩ (by omega) ?_
        refine zw_putI ⟨rfl, rfl⟩ zc_99 (by decide) (fun h => absurd h (by decide)) ?_
        refine zw_const ⟨rfl, rfl⟩ ?_
        refine zw_zret rfl (by first | exact Or.inl rfl | exact Or.inr rfl | omega) ?_
        have ej : j = len := by omega
        subst ej
        have hm := yMx_s (x := x) (τ := τ) hl j i1.1 (Int.le_refl _) i2
        rw [i2] at kk
        refine kk _ (fun r hr => zup_row (by omega)) (zup_ni (by decide)) (fun _ => hS.m hV (by omega) hm (fun r r1 r2 => zup_row (by omega)) (zup_ni (by decide)) (fun l l1 l2 => ?_) ?_ ?_)
        · rw [zup_ni (by decide)]; omega
        · rw [i3]; exact ((zup_ni (by decide)).trans (if_neg (by omega)).symm)
        · rw [i3]; exact ((zup_eq _ _ _ _).trans (if_pos (by omega)).symm)
      · skip
        refine zw_aload ⟨rfl, rfl⟩ rfl ?_
        refine zw_getR 99 ⟨rfl, rfl⟩ zr_98_0 ?_
        refine zw_dup ⟨rfl, rfl⟩ (by decide) ?_
        refine zw_getIv (v := M 99 5) ⟨rfl, rfl⟩ zc_99 (by decide) rfl ?_
        refine zw_iload ⟨rfl, rfl⟩ rfl ?_
        refine zw_ior ⟨rfl, rfl⟩ (by omega) ?_
        refine zw_putI ⟨rfl, rfl⟩ zc_99 (by decide) (fun h => absurd h (by decide)) ?_
        refine zw_goto ⟨rfl, rfl⟩ rfl ?_
        refine zw_const ⟨rfl, rfl⟩ ?_
        refine zw_zret rfl (by first | exact Or.inl rfl | exact Or.inr rfl | omega) ?_
        have ej : j = len := by omega
        subst ej
        have hm := yMx_s (x := x) (τ := τ) hl j i1.1 (Int.le_refl _) i2
        rw [i2] at kk
        refine kk _ (fun r hr => zup_row (by omega)) (zup_ni (by decide)) (fun _ => hS.m hV (by omega) hm (fun r r1 r2 => zup_row (by omega)) (zup_ni (by decide)) (fun l l1 l2 => ?_) ?_ ?_)
        · rw [zup_ni (by decide)]; omega
        · rw [i3]; exact ((zup_eq _ _ _ _).trans (if_pos (by omega)).symm)
        · rw [i3]; exact ((zup_ni (by decide)).trans (if_neg (by omega)).symm)
    · skip
      have hlj := hl j (by omega) (by omega)
      have es := ytM_s tp b x τ i1.1
      have ek : (ytM tp b x j τ).2.2 (2 + (tp (b + j) - 97)) = τ (2 + (tp (b + j) - 97)) := hm0.2.2 _ (by omega)
      have h2p := y2p (l := tp (b + j) - 97) (by omega)
      refine zw_aload ⟨rfl, rfl⟩ rfl ?_
      refine zw_iload ⟨rfl, rfl⟩ rfl ?_
      refine zw_iload ⟨rfl, rfl⟩ rfl ?_
      refine zw_iadd ⟨rfl, rfl⟩ (by omega) ?_
      refine zw_callv2 ⟨rfl, rfl⟩ rfl zc_98 rfl ?_
      refine m_byteAt hI ?_
      rw [show yby tp n (b + j) = tp (b + j) from if_pos ⟨by omega, by omega⟩]
      refine zw_const ⟨rfl, rfl⟩ ?_
      refine zw_isub ⟨rfl, rfl⟩ (by omega) ?_
      refine zw_istore_6 ⟨rfl, rfl⟩ ?_
      refine zw_aload ⟨rfl, rfl⟩ rfl ?_
      refine zw_getR 99 ⟨rfl, rfl⟩ zr_98_0 ?_
      refine zw_iload ⟨rfl, rfl⟩ rfl ?_
      refine zw_callv2 ⟨rfl, rfl⟩ rfl zc_99 rfl ?_
      refine m_kindOf_99 hS.1 ?_
      rw [show ykd τ ((tp (b + j)) - 97) = τ (2 + ((tp (b + j)) - 97)) from if_pos ⟨by omega, by omega⟩]
      refine zw_const ⟨rfl, rfl⟩ ?_
      refine zw_icne ⟨rfl, rfl⟩ rfl (fun c3 => ?_) (fun c3 => ?_)
      · skip
        refine zw_const ⟨rfl, rfl⟩ ?_
        refine zw_zret rfl (by first | exact Or.inl rfl | exact Or.inr rfl | omega) ?_
        have e0 : (ytM tp b x (j + 1) τ).1 = 0 := by rw [es]; unfold yme1; rw [if_neg (fun z => by have z1 := z.2.1; have z2 := z.2.2; rw [ek] at z1; rw [← i3] at z2; omega)]
        rw [ytM_f (by omega) e0 len (by omega)] at kk
        exact kk _ (fun _ _ => rfl) rfl (fun z => absurd z (by decide))
      · skip
        refine zw_iload ⟨rfl, rfl⟩ rfl ?_
        refine zw_iload ⟨rfl, rfl⟩ rfl ?_
        refine zw_calls2 ⟨rfl, rfl⟩ rfl rfl ?_
        have hbr := zzz_rng (x := m) (b := tp (b + j) - 97) ⟨by omega, by omega⟩
        refine m_hasBit ⟨by omega, by omega⟩ ?_
        refine zw_const ⟨rfl, rfl⟩ ?_
        refine zw_icne ⟨rfl, rfl⟩ rfl (fun c4 => ?_) (fun c4 => ?_)
        · skip
          refine zw_iload ⟨rfl, rfl⟩ rfl ?_
          refine zw_const ⟨rfl, rfl⟩ ?_
          refine zw_iload ⟨rfl, rfl⟩ rfl ?_
          refine zw_ishl ⟨rfl, rfl⟩ (by omega) ?_
          refine zw_ior ⟨rfl, rfl⟩ (by omega) ?_
          refine zw_istore_4 ⟨rfl, rfl⟩ ?_
          refine zw_iinc_5 ⟨rfl, rfl⟩ (by omega) ?_
          refine zw_goto ⟨rfl, rfl⟩ rfl ?_
          have es2 := es.trans (if_pos ⟨i2, by rw [ek]; omega, by rw [← i3]; omega⟩)
          refine ih _ _ _ ⟨by omega, by omega⟩ (by rw [es2]) (by rw [es2, i3]) (by omega)
        · skip
          refine zw_const ⟨rfl, rfl⟩ ?_
          refine zw_zret rfl (by first | exact Or.inl rfl | exact Or.inr rfl | omega) ?_
          have e0 : (ytM tp b x (j + 1) τ).1 = 0 := by rw [es]; unfold yme1; rw [if_neg (fun z => by have z1 := z.2.1; have z2 := z.2.2; rw [ek] at z1; rw [← i3] at z2; omega)]
          rw [ytM_f (by omega) e0 len (by omega)] at kk
          exact kk _ (fun _ _ => rfl) rfl (fun z => absurd z (by decide))

theorem m_takeTraits {w b len x : Int} {τ : yS} {tp : Int → Int} {n : Int} {M : zM} {Q : zV → zM → Prop} (hI : yIn M tp n) (hl : yLet tp b len) (hb : 0 ≤ b ∧ 0 ≤ len ∧ b + len ≤ n) (hx : (w = 15 ∧ x = 2) ∨ (w = 16 ∧ x = 4)) (hV : yVt τ) (hS : ySr M τ) (kk : ∀ P : zM, (∀ x, ¬ (99 ≤ x ∧ x ≤ 103) → P x = M x) → P 99 4 = M 99 4 → ((ytM tp b x len τ).1 = 1 → ySr P (ytM tp b x len τ).2.2) → Q (0, (ytM tp b x len τ).1) P) : zWp kRe_takeTraits 0 [(1, 98), (0, w), (0, b), (0, len), (3, 0), (3, 0), (3, 0)] [] M Q := by
  refine zw_const ⟨rfl, rfl⟩ ?_
  refine zw_istore_4 ⟨rfl, rfl⟩ ?_
  refine zw_const ⟨rfl, rfl⟩ ?_
  refine zw_istore_5 ⟨rfl, rfl⟩ ?_
  have e0 : ytM tp b x 0 τ = (1, 0, τ) := yfo_0 _ (Int.le_refl _) _
  exact m_takeTraits_l hI hl hb hx hV hS kk _ _ _ _ ⟨Int.le_refl _, hb.2.1⟩ (by rw [e0]) (by rw [e0]) (Nat.lt_succ_self _)

theorem m_takePair {a c : Int} {τ : yS} {M : zM} {Q : zV → zM → Prop} (ha : 0 ≤ a ∧ a < 26) (hc : 0 ≤ c ∧ c < 26) (hV : yVt τ) (hS : ySr M τ) (kk : ∀ (r : Int) (P : zM), (∀ x, ¬ (99 ≤ x ∧ x ≤ 103) → P x = M x) → P 99 4 = M 99 4 → ((τ (2 + a) = 1 ∧ τ (2 + c) = 1 ∧ yjn τ a c = 0 ∧ τ 1 < 8) → r = 1 ∧ ySr P (yAP τ a c)) → (¬ (τ (2 + a) = 1 ∧ τ (2 + c) = 1 ∧ yjn τ a c = 0 ∧ τ 1 < 8) → r = 0) → Q (0, r) P) : zWp kRe_takePair 0 [(1, 98), (0, a), (0, c)] [] M Q := by
  have h8 := hV.1.2.1
  have h2p := y2p (l := c) (by omega)
  have hg := hS.2.2 a ha.1 ha.2
  refine zw_aload ⟨rfl, rfl⟩ rfl ?_
  refine zw_getR 99 ⟨rfl, rfl⟩ zr_98_0 ?_
  refine zw_iload ⟨rfl, rfl⟩ rfl ?_
  refine zw_callv2 ⟨rfl, rfl⟩ rfl zc_99 rfl ?_
  refine m_kindOf_99 hS.1 ?_
  rw [show ykd τ a = τ (2 + a) from if_pos ha]
  refine zw_const ⟨rfl, rfl⟩ ?_
  refine zw_icne ⟨rfl, rfl⟩ rfl (fun c1 => ?_) (fun c1 => ?_)
  · skip
    refine zw_const ⟨rfl, rfl⟩ ?_
    refine zw_zret rfl (by first | exact Or.inl rfl | exact Or.inr rfl | omega) ?_
    exact kk _ _ (fun _ _ => rfl) rfl (fun z => by exfalso; omega) (fun _ => rfl)
  · skip
    refine zw_aload ⟨rfl, rfl⟩ rfl ?_
    refine zw_getR 99 ⟨rfl, rfl⟩ zr_98_0 ?_
    refine zw_iload ⟨rfl, rfl⟩ rfl ?_
    refine zw_callv2 ⟨rfl, rfl⟩ rfl zc_99 rfl ?_
    refine m_kindOf_99 hS.1 ?_
    rw [show ykd τ c = τ (2 + c) from if_pos hc]
    refine zw_const ⟨rfl, rfl⟩ ?_
    refine zw_iceq ⟨rfl, rfl⟩ rfl (fun c2 => ?_) (fun c2 => ?_)
    · skip
      refine zw_aload ⟨rfl, rfl⟩ rfl ?_
      refine zw_getR 99 ⟨rfl, rfl⟩ zr_98_0 ?_
      refine zw_iload ⟨rfl, rfl⟩ rfl ?_
      refine zw_iload ⟨rfl, rfl⟩ rfl ?_
      refine zw_callv3 ⟨rfl, rfl⟩ rfl zc_99 rfl ?_
      have hjr := yJ_r τ a c (τ 1).toNat
      refine m_joined_99 hS.1 ?_
      rw [show yju τ a c = yjn τ a c from if_pos ⟨ha.1, ha.2, hc.1, hc.2⟩]
      have hjr : yjn τ a c = 0 ∨ yjn τ a c = 1 := hjr
      refine zw_ifne ⟨rfl, rfl⟩ rfl (fun c3 => ?_) (fun c3 => ?_)
      · skip
        refine zw_const ⟨rfl, rfl⟩ ?_
        refine zw_zret rfl (by first | exact Or.inl rfl | exact Or.inr rfl | omega) ?_
        exact kk _ _ (fun _ _ => rfl) rfl (fun z => by exfalso; omega) (fun _ => rfl)
      · skip
        refine zw_aload ⟨rfl, rfl⟩ rfl ?_
        refine zw_getR 99 ⟨rfl, rfl⟩ zr_98_0 ?_
        refine zw_getIv (v := τ 1) ⟨rfl, rfl⟩ zc_99 (by decide) (hS.1.2.2.2.2.2) ?_
        refine zw_const ⟨rfl, rfl⟩ ?_
        refine zw_iclt ⟨rfl, rfl⟩ rfl (fun c4 => ?_) (fun c4 => ?_)
        · skip
          refine zw_aload ⟨rfl, rfl⟩ rfl ?_
          refine zw_getR 99 ⟨rfl, rfl⟩ zr_98_0 ?_
          refine zw_getR 103 ⟨rfl, rfl⟩ zr_99_3 ?_
          refine zw_iload ⟨rfl, rfl⟩ rfl ?_
          refine zw_dup2 ⟨rfl, rfl⟩ ⟨by decide, by decide⟩ ?_
          refine zw_ialdv (v := M 103 a) ⟨rfl, rfl⟩ za_103 (by omega) rfl ?_
          refine zw_const ⟨rfl, rfl⟩ ?_
          refine zw_iload ⟨rfl, rfl⟩ rfl ?_
          refine zw_ishl ⟨rfl, rfl⟩ (by omega) ?_
          refine zw_ior ⟨rfl, rfl⟩ (by omega) ?_
          refine zw_iast ⟨rfl, rfl⟩ za_103 (by omega) ?_
          refine zw_aload ⟨rfl, rfl⟩ rfl ?_
          refine zw_getR 99 ⟨rfl, rfl⟩ zr_98_0 ?_
          refine zw_dup ⟨rfl, rfl⟩ (by decide) ?_
          refine zw_getIv (v := τ 1) ⟨rfl, rfl⟩ zc_99 (by decide) ((zup_na (by decide)).trans (hS.1.2.2.2.2.2)) ?_
          refine zw_const ⟨rfl, rfl⟩ ?_
          refine zw_iadd ⟨rfl, rfl⟩ (by omega) ?_
          refine zw_putI ⟨rfl, rfl⟩ zc_99 (by decide) (fun h => absurd h (by decide)) ?_
          refine zw_const ⟨rfl, rfl⟩ ?_
          refine zw_zret rfl (by first | exact Or.inl rfl | exact Or.inr rfl | omega) ?_
          refine kk _ _ (fun r hr => (zup_row (by omega)).trans (zup_row (by omega))) ((zup_ni (by decide)).trans (zup_na (by decide))) (fun _ => ⟨rfl, ?_⟩) (fun z => by exfalso; omega)
          exact hS.ap (by omega) ha hc
        · skip
          refine zw_const ⟨rfl, rfl⟩ ?_
          refine zw_zret rfl (by first | exact Or.inl rfl | exact Or.inr rfl | omega) ?_
          exact kk _ _ (fun _ _ => rfl) rfl (fun z => by exfalso; omega) (fun _ => rfl)
    · skip
      refine zw_const ⟨rfl, rfl⟩ ?_
      refine zw_zret rfl (by first | exact Or.inl rfl | exact Or.inr rfl | omega) ?_
      exact kk _ _ (fun _ _ => rfl) rfl (fun z => by exfalso; omega) (fun _ => rfl)

theorem m_takeSplit {b : Int} {τ : yS} {tp : Int → Int} {n : Int} {M : zM} {Q : zV → zM → Prop} (hI : yIn M tp n) (hl : yLet tp b 3) (hb : 0 ≤ b ∧ b + 3 ≤ n) (hV : yVt τ) (hS : ySr M τ) (kk : ∀ P : zM, (∀ x, ¬ (99 ≤ x ∧ x ≤ 103) → P x = M x) → P 99 4 = M 99 4 → ((ytS tp b 3 τ).1 = 1 → ySr P (ytS tp b 3 τ).2) → Q (0, (ytS tp b 3 τ).1) P) : zWp kRe_takeSplit 0 [(1, 98), (0, b), (3, 0), (3, 0), (3, 0)] [] M Q := by
  have hn := hI.1.2
  have hl0 := hl 0 (by decide) (by decide)
  rw [Int.add_zero] at hl0
  have hl1 := hl 1 (by decide) (by decide)
  have hl2 := hl 2 (by decide) (by decide)
  refine zw_aload ⟨rfl, rfl⟩ rfl ?_
  refine zw_iload ⟨rfl, rfl⟩ rfl ?_
  refine zw_callv2 ⟨rfl, rfl⟩ rfl zc_98 rfl ?_
  refine m_byteAt hI ?_
  rw [show yby tp n (b) = tp (b) from if_pos ⟨by omega, by omega⟩]
  refine zw_const ⟨rfl, rfl⟩ ?_
  refine zw_isub ⟨rfl, rfl⟩ (by omega) ?_
  refine zw_istore_2 ⟨rfl, rfl⟩ ?_
  refine zw_aload ⟨rfl, rfl⟩ rfl ?_
  refine zw_iload ⟨rfl, rfl⟩ rfl ?_
  refine zw_const ⟨rfl, rfl⟩ ?_
  refine zw_iadd ⟨rfl, rfl⟩ (by omega) ?_
  refine zw_callv2 ⟨rfl, rfl⟩ rfl zc_98 rfl ?_
  refine m_byteAt hI ?_
  rw [show yby tp n (b + 1) = tp (b + 1) from if_pos ⟨by omega, by omega⟩]
  refine zw_const ⟨rfl, rfl⟩ ?_
  refine zw_isub ⟨rfl, rfl⟩ (by omega) ?_
  refine zw_istore_3 ⟨rfl, rfl⟩ ?_
  refine zw_aload ⟨rfl, rfl⟩ rfl ?_
  refine zw_iload ⟨rfl, rfl⟩ rfl ?_
  refine zw_const ⟨rfl, rfl⟩ ?_
  refine zw_iadd ⟨rfl, rfl⟩ (by omega) ?_
  refine zw_callv2 ⟨rfl, rfl⟩ rfl zc_98 rfl ?_
  refine m_byteAt hI ?_
  rw [show yby tp n (b + 2) = tp (b + 2) from if_pos ⟨by omega, by omega⟩]
  refine zw_const ⟨rfl, rfl⟩ ?_
  refine zw_isub ⟨rfl, rfl⟩ (by omega) ?_
  refine zw_istore_4 ⟨rfl, rfl⟩ ?_
  refine zw_iload ⟨rfl, rfl⟩ rfl ?_
  refine zw_calls1 ⟨rfl, rfl⟩ rfl rfl ?_
  refine zw_iload ⟨rfl, rfl⟩ rfl ?_
  refine zw_iflt ⟨rfl, rfl⟩ rfl (fun c1 => ?_) (fun c1 => ?_)
  · skip
    refine zw_const ⟨rfl, rfl⟩ ?_
    refine zw_zret rfl (by first | exact Or.inl rfl | exact Or.inr rfl | omega) ?_
    refine zw_ifeq ⟨rfl, rfl⟩ rfl (fun _ => ?_) (fun q => absurd (by decide) q)
    refine zw_const ⟨rfl, rfl⟩ ?_
    refine zw_zret rfl (by first | exact Or.inl rfl | exact Or.inr rfl | omega) ?_
    have e0 : tp (b + 0) - 97 = tp b - 97 := by rw [Int.add_zero]
    have e : ytS tp b 3 τ = (0, τ) := if_neg (fun z => by have z2 := z.2; rw [e0] at z2; omega)
    rw [e] at kk
    exact kk _ (fun _ _ => rfl) rfl (fun z => absurd z (by show ¬ ((0 : Int) = 1); decide))
  · skip
    refine zw_iload ⟨rfl, rfl⟩ rfl ?_
    refine zw_const ⟨rfl, rfl⟩ ?_
    refine zw_icge ⟨rfl, rfl⟩ rfl (fun c3 => ?_) (fun c3 => ?_)
    · skip
      refine zw_const ⟨rfl, rfl⟩ ?_
      refine zw_zret rfl (by first | exact Or.inl rfl | exact Or.inr rfl | omega) ?_
      refine zw_ifeq ⟨rfl, rfl⟩ rfl (fun _ => ?_) (fun q => absurd (by decide) q)
      refine zw_const ⟨rfl, rfl⟩ ?_
      refine zw_zret rfl (by first | exact Or.inl rfl | exact Or.inr rfl | omega) ?_
      have e0 : tp (b + 0) - 97 = tp b - 97 := by rw [Int.add_zero]
      have e : ytS tp b 3 τ = (0, τ) := if_neg (fun z => by have z2 := z.2; rw [e0] at z2; omega)
      rw [e] at kk
      exact kk _ (fun _ _ => rfl) rfl (fun z => absurd z (by show ¬ ((0 : Int) = 1); decide))
    · skip
      refine zw_const ⟨rfl, rfl⟩ ?_
      refine zw_goto ⟨rfl, rfl⟩ rfl ?_
      refine zw_zret rfl (by first | exact Or.inl rfl | exact Or.inr rfl | omega) ?_
      refine zw_ifeq ⟨rfl, rfl⟩ rfl (fun q => absurd q (by decide)) (fun _ => ?_)
      refine zw_aload ⟨rfl, rfl⟩ rfl ?_
      refine zw_getR 99 ⟨rfl, rfl⟩ zr_98_0 ?_
      refine zw_getR 100 ⟨rfl, rfl⟩ zr_99_0 ?_
      refine zw_iload ⟨rfl, rfl⟩ rfl ?_
      refine zw_ialdv (v := τ (2 + (tp b - 97))) ⟨rfl, rfl⟩ za_100 (by omega) (hS.1.1 _ (by omega) (by omega)) ?_
      refine zw_ifeq ⟨rfl, rfl⟩ rfl (fun c6 => ?_) (fun c6 => ?_)
      · skip
        refine zw_aload ⟨rfl, rfl⟩ rfl ?_
        refine zw_getR 99 ⟨rfl, rfl⟩ zr_98_0 ?_
        refine zw_iload ⟨rfl, rfl⟩ rfl ?_
        refine zw_callv2 ⟨rfl, rfl⟩ rfl zc_99 rfl ?_
        refine m_kindOf_99 hS.1 ?_
        rw [show ykd τ ((tp (b + 1)) - 97) = τ (2 + ((tp (b + 1)) - 97)) from if_pos ⟨by omega, by omega⟩]
        refine zw_calls1 ⟨rfl, rfl⟩ rfl rfl ?_
        refine zw_iload ⟨rfl, rfl⟩ rfl ?_
        refine zw_const ⟨rfl, rfl⟩ ?_
        refine zw_iclt ⟨rfl, rfl⟩ rfl (fun c7 => ?_) (fun c7 => ?_)
        · skip
          refine zw_const ⟨rfl, rfl⟩ ?_
          refine zw_zret rfl (by first | exact Or.inl rfl | exact Or.inr rfl | omega) ?_
          refine zw_ifeq ⟨rfl, rfl⟩ rfl (fun _ => ?_) (fun q => absurd (by decide) q)
          refine zw_const ⟨rfl, rfl⟩ ?_
          refine zw_zret rfl (by first | exact Or.inl rfl | exact Or.inr rfl | omega) ?_
          have e0 : tp (b + 0) - 97 = tp b - 97 := by rw [Int.add_zero]
          have e : ytS tp b 3 τ = (0, τ) := if_neg (fun z => by have z2 := z.2; rw [e0] at z2; omega)
          rw [e] at kk
          exact kk _ (fun _ _ => rfl) rfl (fun z => absurd z (by show ¬ ((0 : Int) = 1); decide))
        · skip
          refine zw_iload ⟨rfl, rfl⟩ rfl ?_
          refine zw_const ⟨rfl, rfl⟩ ?_
          refine zw_icgt ⟨rfl, rfl⟩ rfl (fun c9 => ?_) (fun c9 => ?_)
          · skip
            refine zw_const ⟨rfl, rfl⟩ ?_
            refine zw_zret rfl (by first | exact Or.inl rfl | exact Or.inr rfl | omega) ?_
            refine zw_ifeq ⟨rfl, rfl⟩ rfl (fun _ => ?_) (fun q => absurd (by decide) q)
            refine zw_const ⟨rfl, rfl⟩ ?_
            refine zw_zret rfl (by first | exact Or.inl rfl | exact Or.inr rfl | omega) ?_
            have e0 : tp (b + 0) - 97 = tp b - 97 := by rw [Int.add_zero]
            have e : ytS tp b 3 τ = (0, τ) := if_neg (fun z => by have z2 := z.2; rw [e0] at z2; omega)
            rw [e] at kk
            exact kk _ (fun _ _ => rfl) rfl (fun z => absurd z (by show ¬ ((0 : Int) = 1); decide))
          · skip
            refine zw_const ⟨rfl, rfl⟩ ?_
            refine zw_goto ⟨rfl, rfl⟩ rfl ?_
            refine zw_zret rfl (by first | exact Or.inl rfl | exact Or.inr rfl | omega) ?_
            refine zw_ifeq ⟨rfl, rfl⟩ rfl (fun q => absurd q (by decide)) (fun _ => ?_)
            refine zw_aload ⟨rfl, rfl⟩ rfl ?_
            refine zw_getR 99 ⟨rfl, rfl⟩ zr_98_0 ?_
            refine zw_iload ⟨rfl, rfl⟩ rfl ?_
            refine zw_callv2 ⟨rfl, rfl⟩ rfl zc_99 rfl ?_
            refine m_kindOf_99 hS.1 ?_
            rw [show ykd τ ((tp (b + 2)) - 97) = τ (2 + ((tp (b + 2)) - 97)) from if_pos ⟨by omega, by omega⟩]
            refine zw_calls1 ⟨rfl, rfl⟩ rfl rfl ?_
            refine zw_iload ⟨rfl, rfl⟩ rfl ?_
            refine zw_const ⟨rfl, rfl⟩ ?_
            refine zw_iclt ⟨rfl, rfl⟩ rfl (fun c12 => ?_) (fun c12 => ?_)
            · skip
              refine zw_const ⟨rfl, rfl⟩ ?_
              refine zw_zret rfl (by first | exact Or.inl rfl | exact Or.inr rfl | omega) ?_
              refine zw_ifne ⟨rfl, rfl⟩ rfl (fun q => absurd q (by decide)) (fun _ => ?_)
              refine zw_const ⟨rfl, rfl⟩ ?_
              refine zw_zret rfl (by first | exact Or.inl rfl | exact Or.inr rfl | omega) ?_
              have e0 : tp (b + 0) - 97 = tp b - 97 := by rw [Int.add_zero]
              have e : ytS tp b 3 τ = (0, τ) := if_neg (fun z => by have z2 := z.2; rw [e0] at z2; omega)
              rw [e] at kk
              exact kk _ (fun _ _ => rfl) rfl (fun z => absurd z (by show ¬ ((0 : Int) = 1); decide))
            · skip
              refine zw_iload ⟨rfl, rfl⟩ rfl ?_
              refine zw_const ⟨rfl, rfl⟩ ?_
              refine zw_icgt ⟨rfl, rfl⟩ rfl (fun c14 => ?_) (fun c14 => ?_)
              · skip
                refine zw_const ⟨rfl, rfl⟩ ?_
                refine zw_zret rfl (by first | exact Or.inl rfl | exact Or.inr rfl | omega) ?_
                refine zw_ifne ⟨rfl, rfl⟩ rfl (fun q => absurd q (by decide)) (fun _ => ?_)
                refine zw_const ⟨rfl, rfl⟩ ?_
                refine zw_zret rfl (by first | exact Or.inl rfl | exact Or.inr rfl | omega) ?_
                have e0 : tp (b + 0) - 97 = tp b - 97 := by rw [Int.add_zero]
                have e : ytS tp b 3 τ = (0, τ) := if_neg (fun z => by have z2 := z.2; rw [e0] at z2; omega)
                rw [e] at kk
                exact kk _ (fun _ _ => rfl) rfl (fun z => absurd z (by show ¬ ((0 : Int) = 1); decide))
              · skip
                refine zw_const ⟨rfl, rfl⟩ ?_
                refine zw_goto ⟨rfl, rfl⟩ rfl ?_
                refine zw_zret rfl (by first | exact Or.inl rfl | exact Or.inr rfl | omega) ?_
                refine zw_ifne ⟨rfl, rfl⟩ rfl (fun _ => ?_) (fun q => absurd (by decide) q)
                refine zw_aload ⟨rfl, rfl⟩ rfl ?_
                refine zw_getR 99 ⟨rfl, rfl⟩ zr_98_0 ?_
                refine zw_getR 100 ⟨rfl, rfl⟩ zr_99_0 ?_
                refine zw_iload ⟨rfl, rfl⟩ rfl ?_
                refine zw_const ⟨rfl, rfl⟩ ?_
                refine zw_iast ⟨rfl, rfl⟩ za_100 (by omega) ?_
                refine zw_aload ⟨rfl, rfl⟩ rfl ?_
                refine zw_getR 99 ⟨rfl, rfl⟩ zr_98_0 ?_
                refine zw_getR 101 ⟨rfl, rfl⟩ zr_99_1 ?_
                refine zw_iload ⟨rfl, rfl⟩ rfl ?_
                refine zw_iload ⟨rfl, rfl⟩ rfl ?_
                refine zw_iast ⟨rfl, rfl⟩ za_101 (by omega) ?_
                refine zw_aload ⟨rfl, rfl⟩ rfl ?_
                refine zw_getR 99 ⟨rfl, rfl⟩ zr_98_0 ?_
                refine zw_getR 102 ⟨rfl, rfl⟩ zr_99_2 ?_
                refine zw_iload ⟨rfl, rfl⟩ rfl ?_
                refine zw_iload ⟨rfl, rfl⟩ rfl ?_
                refine zw_iast ⟨rfl, rfl⟩ za_102 (by omega) ?_
                refine zw_const ⟨rfl, rfl⟩ ?_
                refine zw_zret rfl (by first | exact Or.inl rfl | exact Or.inr rfl | omega) ?_
                have e0 : tp (b + 0) - 97 = tp b - 97 := by rw [Int.add_zero]
                have e : ytS tp b 3 τ = (1, yAS τ (tp b - 97) (tp (b + 1) - 97) (tp (b + 2) - 97)) := (if_pos ⟨rfl, by rw [e0]; omega, ⟨by omega, by omega⟩, by omega, by omega⟩).trans (by rw [e0])
                rw [e] at kk
                exact kk _ (fun r hr => (zup_row (by omega)).trans ((zup_row (by omega)).trans (zup_row (by omega)))) ((zup_na (by decide)).trans ((zup_na (by decide)).trans (zup_na (by decide)))) (fun _ => hS.sp hV.1.2.1 ⟨by omega, by omega⟩)
      · skip
        refine zw_const ⟨rfl, rfl⟩ ?_
        refine zw_zret rfl (by first | exact Or.inl rfl | exact Or.inr rfl | omega) ?_
        have e0 : tp (b + 0) - 97 = tp b - 97 := by rw [Int.add_zero]
        have e : ytS tp b 3 τ = (0, τ) := if_neg (fun z => by have z2 := z.2; rw [e0] at z2; omega)
        rw [e] at kk
        exact kk _ (fun _ _ => rfl) rfl (fun z => absurd z (by show ¬ ((0 : Int) = 1); decide))

end