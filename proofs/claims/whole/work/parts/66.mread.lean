/-! A script's text: the model reads it -/
def yIm (M : zM) (tp : Int → Int) (n : Int) : Prop := (M 208 36 = n ∧ 0 ≤ n ∧ n ≤ 400) ∧ (∀ k, 0 ≤ k → k < n → M 236 k = zbyte (tp k) ∧ 0 ≤ tp k ∧ tp k ≤ 255) ∧ ∀ k, 0 ≤ k → k < 111 → M 238 k = ywds k
theorem yIm.cg {M N : zM} {tp : Int → Int} {n : Int} (h : yIm M tp n) (e : N 236 = M 236) (e3 : N 238 = M 238) (e2 : N 208 36 = M 208 36) : yIm N tp n := by
  unfold yIm
  rw [e, e2, e3]; exact h
def yTd (M : zM) (τ : yS) : Prop := ∀ j, 1 ≤ j → j < 122 → M 237 j = τ j
theorem yTd.cg {M N : zM} {τ : yS} (h : yTd M τ) (e : N 237 = M 237) : yTd N τ := fun j j1 j2 => by rw [e]; exact h j j1 j2
theorem yTd.up {M : zM} {τ : yS} {i v : Int} (h : yTd M τ) : yTd (zup M 237 i v) (fun j => if j = i then v else τ j) := fun j j1 j2 => by
  dsimp only
  by_cases q : j = i
  · rw [if_pos q, q, zup_eq]
  · rw [if_neg q, zup_ni q]; exact h j j1 j2
def yfR (M N : zM) : Prop := (∀ x, x ≠ 208 → x ≠ 237 → N x = M x) ∧ ∀ j, ¬ (j = 37 ∨ j = 38 ∨ j = 39 ∨ j = 41) → N 208 j = M 208 j
theorem yfR.rf {M : zM} : yfR M M := ⟨fun _ _ _ => rfl, fun _ _ => rfl⟩
theorem yfR.tr {M N P : zM} (h : yfR M N) (g : yfR N P) : yfR M P := ⟨fun x a b => (g.1 x a b).trans (h.1 x a b), fun j hj => (g.2 j hj).trans (h.2 j hj)⟩
theorem yfR.up {M P : zM} {i v : Int} (h : yfR M P) (hi : i = 37 ∨ i = 38 ∨ i = 39 ∨ i = 41) : yfR M (zup P 208 i v) := ⟨fun x a b => (zup_row a).trans (h.1 x a b), fun j hj => (zup_ni (by omega)).trans (h.2 j hj)⟩
theorem yfR.u2 {M P : zM} {i v : Int} (h : yfR M P) : yfR M (zup P 237 i v) := ⟨fun x a b => (zup_row b).trans (h.1 x a b), fun j hj => (zup_na (by decide)).trans (h.2 j hj)⟩
theorem yIm.fr {M N : zM} {tp : Int → Int} {n : Int} (h : yIm M tp n) (g : yfR M N) : yIm N tp n := h.cg (g.1 236 (by decide) (by decide)) (g.1 238 (by decide) (by decide)) (g.2 36 (by decide))
theorem zby255 {x : Int} (h : 0 ≤ x ∧ x ≤ 255) : zand (zbyte x) 255 = x := by unfold zand zbyte; rw [if_pos (by decide)]; omega
theorem zby_l {x : Int} (h : 97 ≤ x ∧ x ≤ 122) : zbyte x = x := by unfold zbyte; omega
def yws (w : Int) : Int := ([0, 11, 18, 25, 31, 38, 44, 50, 57, 64, 70, 76, 83, 91, 94, 100, 105, 111] : List Int).getD (w - 1).toNat 0
def ywl (w : Int) : Int := ((yTw w).length : Int)
theorem yws_r {w : Int} (hw : 1 ≤ w ∧ w ≤ 17) : (0 ≤ yws w ∧ 2 ≤ ywl w ∧ ywl w ≤ 10 ∧ yws w + ywl w + 1 = yws (w + 1) ∧ yws (w + 1) ≤ 111 ∧ ywds (yws w + ywl w) = 0) ∧ ∀ i, 0 ≤ i → i < ywl w → ywds (yws w + i) = (yTw w).getD i.toNat 0 ∧ 97 ≤ ywds (yws w + i) ∧ ywds (yws w + i) ≤ 122 := by
  have h : ∀ k : Nat, k < 17 → (0 ≤ yws ((k : Int) + 1) ∧ 2 ≤ ywl ((k : Int) + 1) ∧ ywl ((k : Int) + 1) ≤ 10 ∧ yws ((k : Int) + 1) + ywl ((k : Int) + 1) + 1 = yws ((k : Int) + 1 + 1) ∧ yws ((k : Int) + 1 + 1) ≤ 111 ∧ ywds (yws ((k : Int) + 1) + ywl ((k : Int) + 1)) = 0) ∧ ∀ i : Nat, i < 10 → (i : Int) < ywl ((k : Int) + 1) → ywds (yws ((k : Int) + 1) + (i : Int)) = (yTw ((k : Int) + 1)).getD i 0 ∧ 97 ≤ ywds (yws ((k : Int) + 1) + (i : Int)) ∧ ywds (yws ((k : Int) + 1) + (i : Int)) ≤ 122 := by decide +kernel
  have h1 := h (w - 1).toNat (by omega)
  rw [show (((w - 1).toNat : Nat) : Int) + 1 = w by omega] at h1
  refine ⟨h1.1, fun i i1 i2 => ?_⟩
  have h2 := h1.2 i.toNat (by have := h1.1; omega) (by omega)
  rw [show ((i.toNat : Nat) : Int) = i by omega] at h2
  exact h2
section
set_option maxHeartbeats 4000000
theorem m_Msee {p : Int} {tp : Int → Int} {n : Int} {M : zM} {Q : zV → zM → Prop} (hI : yIm M tp n) (hp : M 208 37 = p ∧ 0 ≤ p) (k : Q (0, yby tp n p) M) : zWp kM_see 0 [(1, 208)] [] M Q := by
  have hn := hI.1.2
  refine zw_aload ⟨rfl, rfl⟩ rfl ?_
  refine zw_getIv (v := p) ⟨rfl, rfl⟩ zc_208 (by decide) (hp.1) ?_
  refine zw_aload ⟨rfl, rfl⟩ rfl ?_
  refine zw_getIv (v := n) ⟨rfl, rfl⟩ zc_208 (by decide) (hI.1.1) ?_
  refine zw_icge ⟨rfl, rfl⟩ rfl (fun c1 => ?_) (fun c1 => ?_)
  · skip
    refine zw_const ⟨rfl, rfl⟩ ?_
    refine zw_ret rfl ?_
    rw [show yby tp n p = -1 from if_neg (by omega)] at k
    exact k
  · skip
    refine zw_aload ⟨rfl, rfl⟩ rfl ?_
    refine zw_getR 236 ⟨rfl, rfl⟩ zr_208_34 ?_
    refine zw_aload ⟨rfl, rfl⟩ rfl ?_
    refine zw_getIv (v := p) ⟨rfl, rfl⟩ zc_208 (by decide) (hp.1) ?_
    refine zw_baldv (v := zbyte (tp p)) ⟨rfl, rfl⟩ za_236 (by decide) (by omega) ((hI.2.1 p (by omega) (by omega)).1) ?_
    refine zw_const ⟨rfl, rfl⟩ ?_
    refine zw_iand ⟨rfl, rfl⟩ (by omega) ?_
    refine zw_goto ⟨rfl, rfl⟩ rfl ?_
    refine zw_ret rfl ?_
    rw [zby255 (hI.2.1 p (by omega) (by omega)).2]
    rw [show yby tp n p = tp p from if_pos (by omega)] at k
    exact k

theorem m_Mblanks_l {v : Int} {tp : Int → Int} {n : Int} {M : zM} {Q : zV → zM → Prop} (hI : yIm M tp n) (k : Q (3, 0) (zup M 208 37 v)) : ∀ (f0 : Nat) (p : Int) (P : zM), (0 ≤ p ∧ p ≤ n + 1) → (P = zup M 208 37 p) → (ybl tp n p = v) → (n + 1 - p).toNat < f0 → zWp kM_blanks 0 [(1, 208)] [] P Q := by
  intro f0
  induction f0 with
  | zero => intro p P i1 iP i2 hf0; exact absurd hf0 (Nat.not_lt_zero _)
  | succ f0 ih =>
    intro p P i1 iP i2 hf0
    have hn := hI.1.2
    have hyb : (p < n ∧ yby tp n p = tp p) ∨ (n ≤ p ∧ yby tp n p = -1) := by unfold yby; split <;> omega
    refine zw_aload ⟨rfl, rfl⟩ rfl ?_
    refine zw_callv1 ⟨rfl, rfl⟩ rfl zc_208 rfl ?_
    refine m_Msee (p := p) (hI.cg (by rw [iP]; exact zup_row (by decide)) (by rw [iP]; exact zup_row (by decide)) (by rw [iP]; exact zup_ni (by decide))) ⟨by rw [iP]; exact zup_eq _ _ _ _, by omega⟩ ?_
    refine zw_const ⟨rfl, rfl⟩ ?_
    refine zw_icne ⟨rfl, rfl⟩ rfl (fun c1 => ?_) (fun c1 => ?_)
    · skip
      refine zw_void rfl ?_
      have e : ybl tp n p = p := ybl_e (fun z => by omega)
      rw [e] at i2
      rw [iP, i2]
      exact k
    · skip
      refine zw_aload ⟨rfl, rfl⟩ rfl ?_
      refine zw_dup ⟨rfl, rfl⟩ (by decide) ?_
      refine zw_getIv (v := p) ⟨rfl, rfl⟩ zc_208 (by decide) ((by rw [iP]; exact zup_eq _ _ _ _)) ?_
      refine zw_const ⟨rfl, rfl⟩ ?_
      refine zw_iadd ⟨rfl, rfl⟩ (by omega) ?_
      refine zw_putI ⟨rfl, rfl⟩ zc_208 (by decide) (fun h => absurd h (by decide)) ?_
      refine zw_goto ⟨rfl, rfl⟩ rfl ?_
      refine ih (p + 1) _ ⟨by omega, by omega⟩ (by rw [iP]; exact zup_zup) ?_ (by omega)
      rw [← i2]
      exact ybl_s (by omega) (by omega)

theorem m_Mblanks {p : Int} {tp : Int → Int} {n : Int} {M : zM} {Q : zV → zM → Prop} (hI : yIm M tp n) (hp : M 208 37 = p ∧ 0 ≤ p ∧ p ≤ n + 1) (k : Q (3, 0) (zup M 208 37 (ybl tp n p))) : zWp kM_blanks 0 [(1, 208)] [] M Q := m_Mblanks_l hI k _ p _ hp.2 (zup_id hp.1).symm rfl (Nat.lt_succ_self _)

theorem m_Mfails {c a : Int} {M : zM} {Q : zV → zM → Prop} (k1 : M 208 38 ≠ 0 → Q (3, 0) M) (k2 : M 208 38 = 0 → Q (3, 0) (zup (zup M 208 38 c) 208 39 a)) : zWp kM_fails 0 [(1, 208), (0, c), (0, a)] [] M Q := by
  refine zw_aload ⟨rfl, rfl⟩ rfl ?_
  refine zw_getIv (v := M 208 38) ⟨rfl, rfl⟩ zc_208 (by decide) rfl ?_
  refine zw_ifeq ⟨rfl, rfl⟩ rfl (fun c1 => ?_) (fun c1 => ?_)
  · skip
    refine zw_aload ⟨rfl, rfl⟩ rfl ?_
    refine zw_iload ⟨rfl, rfl⟩ rfl ?_
    refine zw_putI ⟨rfl, rfl⟩ zc_208 (by decide) (fun h => absurd h (by decide)) ?_
    refine zw_aload ⟨rfl, rfl⟩ rfl ?_
    refine zw_iload ⟨rfl, rfl⟩ rfl ?_
    refine zw_putI ⟨rfl, rfl⟩ zc_208 (by decide) (fun h => absurd h (by decide)) ?_
    refine zw_void rfl ?_
    exact k2 (by omega)
  · skip
    refine zw_void rfl ?_
    exact k1 (by omega)

theorem m_MgoesBy_e {r p : Int} {M : zM} {Q : zV → zM → Prop} (hp : M 208 37 = p) (hb : 0 ≤ p ∧ 0 ≤ r) (k1 : p = r → M 208 38 = 0 → Q (0, r) (zup (zup M 208 38 1) 208 39 r)) (k2 : p ≠ r ∨ M 208 38 ≠ 0 → Q (0, r) M) : zWp kM_goesBy 19 [(1, 208), (0, r)] [] M Q := by
  refine zw_aload ⟨rfl, rfl⟩ rfl ?_
  refine zw_getIv (v := p) ⟨rfl, rfl⟩ zc_208 (by decide) (hp) ?_
  refine zw_iload ⟨rfl, rfl⟩ rfl ?_
  refine zw_icne ⟨rfl, rfl⟩ rfl (fun c1 => ?_) (fun c1 => ?_)
  · skip
    refine zw_iload ⟨rfl, rfl⟩ rfl ?_
    refine zw_ret rfl ?_
    exact k2 (by omega)
  · skip
    refine zw_aload ⟨rfl, rfl⟩ rfl ?_
    refine zw_const ⟨rfl, rfl⟩ ?_
    refine zw_iload ⟨rfl, rfl⟩ rfl ?_
    refine zw_cavv3 ⟨rfl, rfl⟩ rfl zc_208 rfl ?_
    refine zw_aload ⟨rfl, rfl⟩ rfl ?_
    refine zw_getIv (v := M 208 38) ⟨rfl, rfl⟩ zc_208 (by decide) rfl ?_
    refine zw_ifeq ⟨rfl, rfl⟩ rfl (fun c2 => ?_) (fun c2 => ?_)
    · skip
      refine zw_aload ⟨rfl, rfl⟩ rfl ?_
      refine zw_iload ⟨rfl, rfl⟩ rfl ?_
      refine zw_putI ⟨rfl, rfl⟩ zc_208 (by decide) (fun h => absurd h (by decide)) ?_
      refine zw_aload ⟨rfl, rfl⟩ rfl ?_
      refine zw_iload ⟨rfl, rfl⟩ rfl ?_
      refine zw_putI ⟨rfl, rfl⟩ zc_208 (by decide) (fun h => absurd h (by decide)) ?_
      refine zw_void rfl ?_
      refine zw_iload ⟨rfl, rfl⟩ rfl ?_
      refine zw_ret rfl ?_
      exact k1 (by omega) (by omega)
    · skip
      refine zw_void rfl ?_
      refine zw_iload ⟨rfl, rfl⟩ rfl ?_
      refine zw_ret rfl ?_
      exact k2 (by omega)

theorem m_MgoesBy_l {r : Int} {tp : Int → Int} {n : Int} {M : zM} {Q : zV → zM → Prop} (hI : yIm M tp n) (hr : 0 ≤ r) (kk : ∀ N : zM, (∀ x, x ≠ 208 → N x = M x) → (∀ j, ¬ (j = 37 ∨ j = 38 ∨ j = 39) → N 208 j = M 208 j) → N 208 37 = yle tp n r → (N 208 38 = if M 208 38 = 0 ∧ yle tp n r = r then 1 else M 208 38) → (N 208 39 = if M 208 38 = 0 ∧ yle tp n r = r then r else M 208 39) → Q (0, r) N) : ∀ (f0 : Nat) (p : Int) (P : zM), (r ≤ p ∧ p ≤ n + 1) → (P = zup M 208 37 p) → (yle tp n p = yle tp n r) → (n + 1 - p).toNat < f0 → zWp kM_goesBy 5 [(1, 208), (0, r)] [] P Q := by
  intro f0
  induction f0 with
  | zero => intro p P i1 iP i2 hf0; exact absurd hf0 (Nat.not_lt_zero _)
  | succ f0 ih =>
    intro p P i1 iP i2 hf0
    have hn := hI.1.2
    have hyb : (p < n ∧ yby tp n p = tp p) ∨ (n ≤ p ∧ yby tp n p = -1) := by unfold yby; split <;> omega
    refine zw_aload ⟨rfl, rfl⟩ rfl ?_
    refine zw_callv1 ⟨rfl, rfl⟩ rfl zc_208 rfl ?_
    refine m_Msee (p := p) (hI.cg (by rw [iP]; exact zup_row (by decide)) (by rw [iP]; exact zup_row (by decide)) (by rw [iP]; exact zup_ni (by decide))) ⟨by rw [iP]; exact zup_eq _ _ _ _, by omega⟩ ?_
    refine zw_i2l ⟨rfl, rfl⟩ ?_
    refine zw_lconst ⟨rfl, rfl⟩ ?_
    refine zw_lconst ⟨rfl, rfl⟩ ?_
    refine zw_calLs3 ⟨rfl, rfl⟩ rfl rfl ?_
    refine zw_lload ⟨rfl, rfl⟩ rfl ?_
    refine zw_lload ⟨rfl, rfl⟩ rfl ?_
    refine zw_lcmp ⟨rfl, rfl⟩ ?_
    refine zw_iflt ⟨rfl, rfl⟩ rfl (fun c1 => ?_) (fun c1 => ?_)
    · replace c1 := zlc_lt.mp c1
      refine zw_const ⟨rfl, rfl⟩ ?_
      refine zw_zret rfl (by first | exact Or.inl rfl | exact Or.inr rfl | omega) ?_
      refine zw_ifeq ⟨rfl, rfl⟩ rfl (fun _ => ?_) (fun q => absurd (by decide) q)
      have e : yle tp n p = p := yle_e (fun z => by omega)
      rw [e] at i2
      rw [iP]
      refine m_MgoesBy_e (p := p) (zup_eq _ _ _ _) ⟨by omega, by omega⟩ (fun q z => ?_) (fun q => ?_)
      · rw [zup_ni (by decide)] at z
        refine kk _ (fun x hx => (zup_row hx).trans ((zup_row hx).trans (zup_row hx))) (fun j hj => (zup_ni (by omega)).trans ((zup_ni (by omega)).trans (zup_ni (by omega)))) ?_ ?_ ?_
        · rw [zup_ni (by decide), zup_ni (by decide), zup_eq]; exact i2
        · rw [zup_ni (by decide), zup_eq, if_pos ⟨z, by omega⟩]
        · rw [zup_eq, if_pos ⟨z, by omega⟩]
      · rw [zup_ni (by decide)] at q
        refine kk _ (fun x hx => zup_row hx) (fun j hj => zup_ni (by omega)) ((zup_eq _ _ _ _).trans i2) ?_ ?_
        · rw [zup_ni (by decide), if_neg (fun z => by omega)]
        · rw [zup_ni (by decide), if_neg (fun z => by omega)]
    · replace c1 := (not_congr zlc_lt).mp c1
      refine zw_lload ⟨rfl, rfl⟩ rfl ?_
      refine zw_lload ⟨rfl, rfl⟩ rfl ?_
      refine zw_lcmp ⟨rfl, rfl⟩ ?_
      refine zw_ifgt ⟨rfl, rfl⟩ rfl (fun c3 => ?_) (fun c3 => ?_)
      · replace c3 := zlc_gt.mp c3
        refine zw_const ⟨rfl, rfl⟩ ?_
        refine zw_zret rfl (by first | exact Or.inl rfl | exact Or.inr rfl | omega) ?_
        refine zw_ifeq ⟨rfl, rfl⟩ rfl (fun _ => ?_) (fun q => absurd (by decide) q)
        have e : yle tp n p = p := yle_e (fun z => by omega)
        rw [e] at i2
        rw [iP]
        refine m_MgoesBy_e (p := p) (zup_eq _ _ _ _) ⟨by omega, by omega⟩ (fun q z => ?_) (fun q => ?_)
        · rw [zup_ni (by decide)] at z
          refine kk _ (fun x hx => (zup_row hx).trans ((zup_row hx).trans (zup_row hx))) (fun j hj => (zup_ni (by omega)).trans ((zup_ni (by omega)).trans (zup_ni (by omega)))) ?_ ?_ ?_
          · rw [zup_ni (by decide), zup_ni (by decide), zup_eq]; exact i2
          · rw [zup_ni (by decide), zup_eq, if_pos ⟨z, by omega⟩]
          · rw [zup_eq, if_pos ⟨z, by omega⟩]
        · rw [zup_ni (by decide)] at q
          refine kk _ (fun x hx => zup_row hx) (fun j hj => zup_ni (by omega)) ((zup_eq _ _ _ _).trans i2) ?_ ?_
          · rw [zup_ni (by decide), if_neg (fun z => by omega)]
          · rw [zup_ni (by decide), if_neg (fun z => by omega)]
      · replace c3 := (not_congr zlc_gt).mp c3
        refine zw_const ⟨rfl, rfl⟩ ?_
        refine zw_goto ⟨rfl, rfl⟩ rfl ?_
        refine zw_zret rfl (by first | exact Or.inl rfl | exact Or.inr rfl | omega) ?_
        refine zw_ifeq ⟨rfl, rfl⟩ rfl (fun q => absurd q (by decide)) (fun _ => ?_)
        refine zw_aload ⟨rfl, rfl⟩ rfl ?_
        refine zw_dup ⟨rfl, rfl⟩ (by decide) ?_
        refine zw_getIv (v := p) ⟨rfl, rfl⟩ zc_208 (by decide) ((by rw [iP]; exact zup_eq _ _ _ _)) ?_
        refine zw_const ⟨rfl, rfl⟩ ?_
        refine zw_iadd ⟨rfl, rfl⟩ (by omega) ?_
        refine zw_putI ⟨rfl, rfl⟩ zc_208 (by decide) (fun h => absurd h (by decide)) ?_
        refine zw_goto ⟨rfl, rfl⟩ rfl ?_
        refine ih (p + 1) _ ⟨by omega, by omega⟩ (by rw [iP]; exact zup_zup) ?_ (by omega)
        rw [← i2]
        exact yle_s (by omega) ⟨by omega, by omega⟩

theorem m_MgoesBy {p r : Int} {tp : Int → Int} {n : Int} {M : zM} {Q : zV → zM → Prop} (hI : yIm M tp n) (hp : M 208 37 = p ∧ 0 ≤ p ∧ p ≤ n) (hr : r = ybl tp n p) (kk : ∀ N : zM, (∀ x, x ≠ 208 → N x = M x) → (∀ j, ¬ (j = 37 ∨ j = 38 ∨ j = 39) → N 208 j = M 208 j) → N 208 37 = yle tp n r → (N 208 38 = if M 208 38 = 0 ∧ yle tp n r = r then 1 else M 208 38) → (N 208 39 = if M 208 38 = 0 ∧ yle tp n r = r then r else M 208 39) → Q (0, r) N) : zWp kM_goesBy 0 [(1, 208), (3, 0)] [] M Q := by
  have hn := hI.1.2
  have hbr := (ybl_r (tp := tp) hp.2.2).1
  refine zw_aload ⟨rfl, rfl⟩ rfl ?_
  refine zw_cavv1 ⟨rfl, rfl⟩ rfl zc_208 rfl ?_
  refine m_Mblanks hI ⟨hp.1, hp.2.1, by omega⟩ ?_
  rw [← hr]
  refine zw_aload ⟨rfl, rfl⟩ rfl ?_
  refine zw_getIv (v := r) ⟨rfl, rfl⟩ zc_208 (by decide) (zup_eq _ _ _ _) ?_
  refine zw_istore_1 ⟨rfl, rfl⟩ ?_
  refine m_MgoesBy_l (M := zup M 208 37 r) (hI.cg (zup_row (by decide)) (zup_row (by decide)) (zup_ni (by decide))) (by omega) (fun N g1 g2 g3 g4 g5 => kk N (fun x hx => (g1 x hx).trans (zup_row hx)) (fun j hj => (g2 j hj).trans (zup_ni (fun z => hj (Or.inl z)))) g3 ?_ ?_) _ r _ ⟨Int.le_refl _, by omega⟩ (zup_zup.symm) rfl (Nat.lt_succ_self _)
  · rw [g4, zup_ni (by decide)]
  · rw [g5, zup_ni (by decide), zup_ni (by decide)]

theorem m_Mwf_a {w : Int} {b len : Int} {tp : Int → Int} {n : Int} {M : zM} {Q : zV → zM → Prop} (hI : yIm M tp n) (hq : M 208 37 = b + len ∧ 0 ≤ b ∧ 0 ≤ len ∧ b + len ≤ n) (hl : yLet tp b len) {u5 u6 : zV} (hw : 1 ≤ w ∧ w ≤ 17) (kk : zWp kM_wordFrom 16 [(1, 208), (0, b), (0, yws w + ywl w), (0, w), (0, yws w), u5, u6] [] M Q) : ∀ (f0 : Nat) (k : Int), (yws w ≤ k ∧ k ≤ yws w + ywl w) → (yws w + ywl w - k).toNat < f0 → zWp kM_wordFrom 9 [(1, 208), (0, b), (0, k), (0, w), (0, yws w), u5, u6] [] M Q := by
  intro f0
  induction f0 with
  | zero => intro k i1 hf0; exact absurd hf0 (Nat.not_lt_zero _)
  | succ f0 ih =>
    intro k i1 hf0
    have hn := hI.1.2
    have hwr := yws_r (w := w) ⟨by omega, by omega⟩
    obtain ⟨⟨w1, w2, w3, w4, w5, w6⟩, w7⟩ := hwr
    have hkz : k < yws w + ywl w → 97 ≤ ywds k := fun z => by
      have := (w7 (k - yws w) (by omega) (by omega)).2.1
      rw [show yws w + (k - yws w) = k by omega] at this
      exact this
    refine zw_aload ⟨rfl, rfl⟩ rfl ?_
    refine zw_getR 238 ⟨rfl, rfl⟩ zr_208_42 ?_
    refine zw_iload ⟨rfl, rfl⟩ rfl ?_
    refine zw_baldv (v := ywds (k)) ⟨rfl, rfl⟩ za_238 (by decide) (by omega) (hI.2.2 (k) (by omega) (by omega)) ?_
    refine zw_ifeq ⟨rfl, rfl⟩ rfl (fun c1 => ?_) (fun c1 => ?_)
    · skip
      have ek : k = yws w + ywl w := by
        by_cases z : k < yws w + ywl w
        · have := hkz z; omega
        · omega
      rw [ek]
      exact kk
    · skip
      refine zw_iinc_2 ⟨rfl, rfl⟩ (by omega) ?_
      refine zw_goto ⟨rfl, rfl⟩ rfl ?_
      refine ih _ ⟨by omega, ?_⟩ ?_
      · by_cases z : k < yws w + ywl w
        · omega
        · exfalso; rw [show k = yws w + ywl w by omega] at c1; exact c1 w6
      · by_cases z : k < yws w + ywl w
        · omega
        · exfalso; rw [show k = yws w + ywl w by omega] at c1; exact c1 w6

theorem m_Mwf_b {w : Int} {b len : Int} {tp : Int → Int} {n : Int} {M : zM} {Q : zV → zM → Prop} (hI : yIm M tp n) (hq : M 208 37 = b + len ∧ 0 ≤ b ∧ 0 ≤ len ∧ b + len ≤ n) (hl : yLet tp b len) (hw : 1 ≤ w ∧ w ≤ 17) (kk : ∀ s i, s = ywq tp b len w → zWp kM_wordFrom 56 [(1, 208), (0, b), (0, yws w + ywl w), (0, w), (0, yws w), (0, s), (0, i)] [] M Q) : ∀ (f0 : Nat) (s i : Int), (0 ≤ i ∧ i ≤ ywl w) → ((s = 1 ∧ ywl w = len ∧ ∀ q, 0 ≤ q → q < i → tp (b + q) = (yTw w).getD q.toNat 0) ∨ (s = 0 ∧ ywq tp b len w = 0)) → (ywl w - i).toNat < f0 → zWp kM_wordFrom 30 [(1, 208), (0, b), (0, yws w + ywl w), (0, w), (0, yws w), (0, s), (0, i)] [] M Q := by
  intro f0
  induction f0 with
  | zero => intro s i i1 i2 hf0; exact absurd hf0 (Nat.not_lt_zero _)
  | succ f0 ih =>
    intro s i i1 i2 hf0
    have hn := hI.1.2
    have hwr := yws_r (w := w) ⟨by omega, by omega⟩
    obtain ⟨⟨w1, w2, w3, w4, w5, w6⟩, w7⟩ := hwr
    refine zw_iload ⟨rfl, rfl⟩ rfl ?_
    refine zw_iload ⟨rfl, rfl⟩ rfl ?_
    refine zw_iload ⟨rfl, rfl⟩ rfl ?_
    refine zw_isub ⟨rfl, rfl⟩ (by omega) ?_
    refine zw_icge ⟨rfl, rfl⟩ rfl (fun c1 => ?_) (fun c1 => ?_)
    · skip
      refine kk _ _ ?_
      rcases i2 with ⟨e1, e2, e3⟩ | ⟨e1, e2⟩
      · rw [e1]
        unfold ywq
        rw [if_pos (show ((yTw w).length : Int) = len from e2)]
        exact (yall_1 _ _ (fun q q1 q2 => e3 q q1 (by omega))).symm
      · rw [e1, e2]
    · skip
      refine zw_iload ⟨rfl, rfl⟩ rfl ?_
      refine zw_ifeq ⟨rfl, rfl⟩ rfl (fun c2 => ?_) (fun c2 => ?_)
      · skip
        refine kk _ _ ?_
        rcases i2 with ⟨e1, e2, e3⟩ | ⟨e1, e2⟩
        · rw [e1]
          unfold ywq
          rw [if_pos (show ((yTw w).length : Int) = len from e2)]
          exact (yall_1 _ _ (fun q q1 q2 => e3 q q1 (by omega))).symm
        · rw [e1, e2]
      · skip
        obtain ⟨e1, e2, e3⟩ := i2.resolve_right (fun z => absurd z.1 (by omega))
        have hli := hl i (by omega) (by omega)
        have hzl := zby_l hli
        have hwi := w7 i (by omega) (by omega)
        refine zw_aload ⟨rfl, rfl⟩ rfl ?_
        refine zw_getR 238 ⟨rfl, rfl⟩ zr_208_42 ?_
        refine zw_iload ⟨rfl, rfl⟩ rfl ?_
        refine zw_iload ⟨rfl, rfl⟩ rfl ?_
        refine zw_iadd ⟨rfl, rfl⟩ (by omega) ?_
        refine zw_baldv (v := ywds (((yws w) + i))) ⟨rfl, rfl⟩ za_238 (by decide) (by omega) (hI.2.2 (((yws w) + i)) (by omega) (by omega)) ?_
        refine zw_aload ⟨rfl, rfl⟩ rfl ?_
        refine zw_getR 236 ⟨rfl, rfl⟩ zr_208_34 ?_
        refine zw_iload ⟨rfl, rfl⟩ rfl ?_
        refine zw_iload ⟨rfl, rfl⟩ rfl ?_
        refine zw_iadd ⟨rfl, rfl⟩ (by omega) ?_
        refine zw_baldv (v := zbyte (tp (b + i))) ⟨rfl, rfl⟩ za_236 (by decide) (by omega) ((hI.2.1 (b + i) (by omega) (by omega)).1) ?_
        refine zw_icne ⟨rfl, rfl⟩ rfl (fun c3 => ?_) (fun c3 => ?_)
        · skip
          refine zw_const ⟨rfl, rfl⟩ ?_
          refine zw_istore_5 ⟨rfl, rfl⟩ ?_
          refine zw_iinc_6 ⟨rfl, rfl⟩ (by omega) ?_
          refine zw_goto ⟨rfl, rfl⟩ rfl ?_
          refine ih _ _ ⟨by omega, by omega⟩ (Or.inr ⟨rfl, ?_⟩) (by omega)
          unfold ywq
          rw [if_pos (show ((yTw w).length : Int) = len from e2)]
          exact yall_0 _ _ i i1.1 (by omega) (by omega)
        · skip
          refine zw_const ⟨rfl, rfl⟩ ?_
          refine zw_goto ⟨rfl, rfl⟩ rfl ?_
          refine zw_istore_5 ⟨rfl, rfl⟩ ?_
          refine zw_iinc_6 ⟨rfl, rfl⟩ (by omega) ?_
          refine zw_goto ⟨rfl, rfl⟩ rfl ?_
          refine ih _ _ ⟨by omega, by omega⟩ (Or.inl ⟨rfl, e2, fun q q1 q2 => ?_⟩) (by omega)
          by_cases e : q = i
          · subst e; omega
          · exact e3 q q1 (by omega)

theorem m_Mwf_m {w : Int} {b len : Int} {tp : Int → Int} {n : Int} {M : zM} {Q : zV → zM → Prop} (hI : yIm M tp n) (hq : M 208 37 = b + len ∧ 0 ≤ b ∧ 0 ≤ len ∧ b + len ≤ n) (hl : yLet tp b len) {u5 u6 : zV} (hw : 1 ≤ w ∧ w ≤ 17) (kk : ∀ s i, s = ywq tp b len w → zWp kM_wordFrom 56 [(1, 208), (0, b), (0, yws w + ywl w), (0, w), (0, yws w), (0, s), (0, i)] [] M Q) : zWp kM_wordFrom 16 [(1, 208), (0, b), (0, yws w + ywl w), (0, w), (0, yws w), u5, u6] [] M Q := by
  have hn := hI.1.2
  have hwr := yws_r (w := w) ⟨by omega, by omega⟩
  obtain ⟨⟨w1, w2, w3, w4, w5, w6⟩, w7⟩ := hwr
  refine zw_iload ⟨rfl, rfl⟩ rfl ?_
  refine zw_iload ⟨rfl, rfl⟩ rfl ?_
  refine zw_isub ⟨rfl, rfl⟩ (by omega) ?_
  refine zw_aload ⟨rfl, rfl⟩ rfl ?_
  refine zw_getIv (v := b + len) ⟨rfl, rfl⟩ zc_208 (by decide) (hq.1) ?_
  refine zw_iload ⟨rfl, rfl⟩ rfl ?_
  refine zw_isub ⟨rfl, rfl⟩ (by omega) ?_
  refine zw_icne ⟨rfl, rfl⟩ rfl (fun c1 => ?_) (fun c1 => ?_)
  · skip
    refine zw_const ⟨rfl, rfl⟩ ?_
    refine zw_istore_5 ⟨rfl, rfl⟩ ?_
    refine zw_const ⟨rfl, rfl⟩ ?_
    refine zw_istore_6 ⟨rfl, rfl⟩ ?_
    exact m_Mwf_b hI hq hl hw kk _ _ _ ⟨Int.le_refl _, by omega⟩ (Or.inr ⟨rfl, if_neg (by show ¬ (ywl w = len); omega)⟩) (Nat.lt_succ_self _)
  · skip
    refine zw_const ⟨rfl, rfl⟩ ?_
    refine zw_goto ⟨rfl, rfl⟩ rfl ?_
    refine zw_istore_5 ⟨rfl, rfl⟩ ?_
    refine zw_const ⟨rfl, rfl⟩ ?_
    refine zw_istore_6 ⟨rfl, rfl⟩ ?_
    exact m_Mwf_b hI hq hl hw kk _ _ _ ⟨Int.le_refl _, by omega⟩ (Or.inl ⟨rfl, by omega, fun q a b => by omega⟩) (Nat.lt_succ_self _)

theorem m_Mwf_e {w s i : Int} {b len : Int} {tp : Int → Int} {n : Int} {M : zM} {Q : zV → zM → Prop} (hI : yIm M tp n) (hq : M 208 37 = b + len ∧ 0 ≤ b ∧ 0 ≤ len ∧ b + len ≤ n) (hl : yLet tp b len) (hw : 1 ≤ w ∧ w ≤ 17) (k1 : s ≠ 0 → Q (0, w) M) (k2 : s = 0 → zWp kM_wordFrom 4 [(1, 208), (0, b), (0, yws (w + 1)), (0, w + 1), (0, yws w), (0, s), (0, i)] [] M Q) : zWp kM_wordFrom 56 [(1, 208), (0, b), (0, yws w + ywl w), (0, w), (0, yws w), (0, s), (0, i)] [] M Q := by
  have hn := hI.1.2
  have hwr := yws_r (w := w) ⟨by omega, by omega⟩
  obtain ⟨⟨w1, w2, w3, w4, w5, w6⟩, w7⟩ := hwr
  refine zw_iload ⟨rfl, rfl⟩ rfl ?_
  refine zw_ifeq ⟨rfl, rfl⟩ rfl (fun c1 => ?_) (fun c1 => ?_)
  · skip
    refine zw_iinc_2 ⟨rfl, rfl⟩ (by omega) ?_
    refine zw_iinc_3 ⟨rfl, rfl⟩ (by omega) ?_
    refine zw_goto ⟨rfl, rfl⟩ rfl ?_
    rw [w4]
    exact k2 (by omega)
  · skip
    refine zw_iload ⟨rfl, rfl⟩ rfl ?_
    refine zw_ret rfl ?_
    exact k1 (by omega)

theorem m_Mwf_l {v : Int} {b len : Int} {tp : Int → Int} {n : Int} {M : zM} {Q : zV → zM → Prop} (hI : yIm M tp n) (hq : M 208 37 = b + len ∧ 0 ≤ b ∧ 0 ≤ len ∧ b + len ≤ n) (hl : yLet tp b len) (k : Q (0, v) M) : ∀ (f0 : Nat) (w : Int) (u4 u5 u6 : zV), (1 ≤ w ∧ w ≤ 18) → (yfst (fun w => ywq tp b len w = 1) w (18 - w).toNat = v) → (18 - w).toNat < f0 → zWp kM_wordFrom 4 [(1, 208), (0, b), (0, yws w), (0, w), u4, u5, u6] [] M Q := by
  intro f0
  induction f0 with
  | zero => intro w u4 u5 u6 i1 i2 hf0; exact absurd hf0 (Nat.not_lt_zero _)
  | succ f0 ih =>
    intro w u4 u5 u6 i1 i2 hf0
    refine zw_iload ⟨rfl, rfl⟩ rfl ?_
    refine zw_const ⟨rfl, rfl⟩ ?_
    refine zw_icgt ⟨rfl, rfl⟩ rfl (fun c1 => ?_) (fun c1 => ?_)
    · skip
      refine zw_const ⟨rfl, rfl⟩ ?_
      refine zw_ret rfl ?_
      rw [show (18 - w).toNat = 0 by omega] at i2
      unfold yfst at i2
      rw [← i2] at k
      exact k
    · skip
      refine zw_iload ⟨rfl, rfl⟩ rfl ?_
      refine zw_istore_4 ⟨rfl, rfl⟩ ?_
      rw [show (18 - w).toNat = (18 - (w + 1)).toNat + 1 by omega] at i2
      unfold yfst at i2
      have hqr := ywq_r tp b len w
      have hwl := (yws_r (w := w) ⟨by omega, by omega⟩).1
      refine m_Mwf_a hI hq hl ⟨by omega, by omega⟩ ?_ _ _ ⟨Int.le_refl _, by omega⟩ (Nat.lt_succ_self _)
      refine m_Mwf_m hI hq hl ⟨by omega, by omega⟩ (fun s i hs => ?_)
      refine m_Mwf_e hI hq hl ⟨by omega, by omega⟩ (fun z => ?_) (fun z => ?_)
      · rw [if_pos (by omega)] at i2
        rw [← i2] at k
        exact k
      · rw [if_neg (by omega)] at i2
        exact ih _ _ _ _ ⟨by omega, by omega⟩ i2 (by omega)

theorem m_MwordFrom {b len : Int} {tp : Int → Int} {n : Int} {M : zM} {Q : zV → zM → Prop} (hI : yIm M tp n) (hq : M 208 37 = b + len ∧ 0 ≤ b ∧ 0 ≤ len ∧ b + len ≤ n) (hl : yLet tp b len) (k : Q (0, ywf tp b len) M) : zWp kM_wordFrom 0 [(1, 208), (0, b), (3, 0), (3, 0), (3, 0), (3, 0), (3, 0)] [] M Q := by
  refine zw_const ⟨rfl, rfl⟩ ?_
  refine zw_istore_2 ⟨rfl, rfl⟩ ?_
  refine zw_const ⟨rfl, rfl⟩ ?_
  refine zw_istore_3 ⟨rfl, rfl⟩ ?_
  exact m_Mwf_l hI hq hl k _ 1 _ _ _ ⟨Int.le_refl _, by decide⟩ rfl (Nat.lt_succ_self _)

end