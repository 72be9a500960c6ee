/-! A script's text: the class reads it -/
theorem yrun2_x {tp : Int → Int} {n : Int} {m : Nat} {s : yLn} (h : m = 0 ∨ ¬ (s.1 = 0 ∧ s.2.2.1 < n)) : yrun2 tp n m s = s := by
  cases m with
  | zero => rfl
  | succ m => unfold yrun2; rw [if_neg (h.resolve_left (by omega))]
theorem yrun2_s {tp : Int → Int} {n : Int} {m : Nat} {s : yLn} (h : s.1 = 0 ∧ s.2.2.1 < n) : yrun2 tp n (m + 1) s = yrun2 tp n m (yln tp n s) := by
  conv => lhs; unfold yrun2
  rw [if_pos h]
theorem yCW.c9 {M N : zM} {σ : yS} {un : Int} {uh : Int → yS} {mk : Int → Int} {im : Int → yS} {tn : Int} {tp : Int → Int} {ff fp : Int} (h : yCW M σ un uh mk im tn tp ff fp) (e : ∀ b, ¬ (98 ≤ b ∧ b ≤ 104) → ¬ (140 ≤ b ∧ b ≤ 207) → b < 208 → N b = M b) : yCW N σ un uh mk im tn tp ff fp := by
  obtain ⟨hW, hS, hG, hz, hH, hP, hI, hT, hF1, hF2⟩ := h
  refine ⟨hW, hS.cg (fun b b1 b2 => e b (by omega) (by omega) (by omega)), hG.cg (fun b b1 b2 => e b (by omega) (by omega) (by omega)), ?_, hH.cg (fun b b1 b2 => e b (by omega) (by omega) (by omega)), ?_, ?_, ⟨?_, ?_⟩, ?_, ?_⟩
  · rw [e 137 (by decide) (by decide) (by decide), e 136 (by decide) (by decide) (by decide)]; exact hz
  · unfold yPi; rw [e 82 (by decide) (by decide) (by decide)]; exact hP
  · intro i hi
    rw [e 83 (by decide) (by decide) (by decide)]
    exact ⟨(hI i hi).1, fun m => ((hI i hi).2 m).cg (fun b b1 b2 => e b (by omega) (by omega) (by omega))⟩
  · rw [e 0 (by decide) (by decide) (by decide)]; exact hT.1
  · intro k k1 k2; rw [e 1 (by decide) (by decide) (by decide)]; exact hT.2 k k1 k2
  · rw [e 0 (by decide) (by decide) (by decide)]; exact hF1
  · rw [e 0 (by decide) (by decide) (by decide)]; exact hF2
section
set_option maxHeartbeats 4000000
theorem m_rs_copy {tp : Int → Int} {n : Int} {M : zM} {Q : zV → zM → Prop} (hn : 0 ≤ n ∧ n ≤ 400) (hT : ∀ k, 0 ≤ k → k < n → M 1 k = tp k) (kk : ∀ P : zM, (∀ x, x ≠ 98 → x ≠ 104 → P x = M x) → (∀ j, j ≠ 4 → P 98 j = M 98 j) → P 98 4 = n → (∀ j, 0 ≤ j → j < n → P 104 j = tp j) → zWp kRe_readScript 39 [(1, 98), (1, 1), (0, n), (0, n)] [] P Q) : ∀ (f0 : Nat) (k : Int) (P : zM), (0 ≤ k ∧ k ≤ n) → (∀ x, x ≠ 98 → x ≠ 104 → P x = M x) → (∀ j, j ≠ 4 → P 98 j = M 98 j) → (P 98 4 = k) → (∀ j, 0 ≤ j → j < k → P 104 j = tp j) → (n - k).toNat < f0 → zWp kRe_readScript 14 [(1, 98), (1, 1), (0, n), (0, k)] [] P Q := by
  intro f0
  induction f0 with
  | zero => intro k P i1 iF iJ i4 i5 hf0; exact absurd hf0 (Nat.not_lt_zero _)
  | succ f0 ih =>
    intro k P i1 iF iJ i4 i5 hf0
    refine zw_iload ⟨rfl, rfl⟩ rfl ?_
    refine zw_iload ⟨rfl, rfl⟩ rfl ?_
    refine zw_icge ⟨rfl, rfl⟩ rfl (fun c1 => ?_) (fun c1 => ?_)
    · skip
      first
        | (exfalso; omega)
        | (have ek : k = n := by omega
           subst ek
           exact kk _ iF iJ i4 i5)
    · skip
      refine zw_iload ⟨rfl, rfl⟩ rfl ?_
      refine zw_const ⟨rfl, rfl⟩ ?_
      refine zw_icge ⟨rfl, rfl⟩ rfl (fun c2 => ?_) (fun c2 => ?_)
      · skip
        first
          | (exfalso; omega)
          | (have ek : k = n := by omega
             subst ek
             exact kk _ iF iJ i4 i5)
      · skip
        refine zw_iload ⟨rfl, rfl⟩ rfl ?_
        refine zw_aload ⟨rfl, rfl⟩ rfl ?_
        refine zw_alen ⟨rfl, rfl⟩ za_1 ?_
        skip
        refine zw_icge ⟨rfl, rfl⟩ rfl (fun c3 => ?_) (fun c3 => ?_)
        · skip
          first
            | (exfalso; omega)
            | (have ek : k = n := by omega
               subst ek
               exact kk _ iF iJ i4 i5)
        · skip
          refine zw_aload ⟨rfl, rfl⟩ rfl ?_
          refine zw_getR 104 ⟨rfl, rfl⟩ zr_98_3 ?_
          refine zw_iload ⟨rfl, rfl⟩ rfl ?_
          refine zw_aload ⟨rfl, rfl⟩ rfl ?_
          refine zw_iload ⟨rfl, rfl⟩ rfl ?_
          refine zw_ialdv (v := tp k) ⟨rfl, rfl⟩ za_1 (by omega) (((congrFun (iF 1 (by decide) (by decide)) k).trans (hT k (by omega) (by omega)))) ?_
          refine zw_iast ⟨rfl, rfl⟩ za_104 (by omega) ?_
          refine zw_aload ⟨rfl, rfl⟩ rfl ?_
          refine zw_dup ⟨rfl, rfl⟩ (by decide) ?_
          refine zw_getIv (v := k) ⟨rfl, rfl⟩ zc_98 (by decide) ((zup_na (by decide)).trans (i4)) ?_
          refine zw_const ⟨rfl, rfl⟩ ?_
          refine zw_iadd ⟨rfl, rfl⟩ (by omega) ?_
          refine zw_putI ⟨rfl, rfl⟩ zc_98 (by decide) (fun h => absurd h (by decide)) ?_
          refine zw_iinc_3 ⟨rfl, rfl⟩ (by omega) ?_
          refine zw_goto ⟨rfl, rfl⟩ rfl ?_
          refine ih _ _ ⟨by omega, by omega⟩ (fun x x1 x2 => (zup_row x1).trans ((zup_row x2).trans (iF x x1 x2))) (fun j hj => (zup_ni hj).trans ((zup_na (by decide)).trans (iJ j hj))) (zup_eq _ _ _ _) (fun j j1 j2 => ?_) (by omega)
          rw [zup_na (by decide)]
          by_cases q : j = k
          · rw [q, zup_eq]
          · rw [zup_ni q]; exact i5 j j1 (by omega)

theorem m_rs_l {v : yLn} {tp : Int → Int} {n : Int} {M : zM} {Q : zV → zM → Prop} (hI : yIn M tp n) (kk : ∀ P : zM, yf98 M P → (P 98 1 = v.1 ∧ P 98 2 = v.2.1 ∧ (v.1 = 0 → ySr P v.2.2.2.2 ∧ yVt v.2.2.2.2)) → Q (3, 0) P) : ∀ (f0 : Nat) (j : Int) (P : zM), (0 ≤ j ∧ j ≤ 400) → (∃ s : yLn, yrun2 tp n (400 - j).toNat s = v ∧ yLv n s tp ∧ yLh P n s) → (yf98 M P) → (400 - j).toNat < f0 → zWp kRe_readScript 49 [(1, 98), (1, 1), (0, n), (0, j)] [] P Q := by
  intro f0
  induction f0 with
  | zero => intro j P i1 i2 iF hf0; exact absurd hf0 (Nat.not_lt_zero _)
  | succ f0 ih =>
    intro j P i1 i2 iF hf0
    have hn := hI.1.2
    obtain ⟨s, hr, hv, hL⟩ := i2
    refine zw_iload ⟨rfl, rfl⟩ rfl ?_
    refine zw_const ⟨rfl, rfl⟩ ?_
    refine zw_icge ⟨rfl, rfl⟩ rfl (fun c1 => ?_) (fun c1 => ?_)
    · skip
      refine zw_void rfl ?_
      have e := yrun2_x (tp := tp) (m := (400 - j).toNat) (s := s) (n := n) (by
        by_cases z : s.1 = 0
        · have := (hL.2.2 z).1
          omega
        · exact Or.inr (fun y => z y.1))
      rw [e] at hr
      subst hr
      exact kk _ iF ⟨hL.1.1, hL.1.2, fun z => ⟨(hL.2.2 z).2.2.1, (hv z).2.2.2.2⟩⟩
    · skip
      refine zw_aload ⟨rfl, rfl⟩ rfl ?_
      refine zw_getIv (v := P 98 5) ⟨rfl, rfl⟩ zc_98 (by decide) rfl ?_
      refine zw_aload ⟨rfl, rfl⟩ rfl ?_
      refine zw_getIv (v := n) ⟨rfl, rfl⟩ zc_98 (by decide) ((iF.2.trans hI.1.1)) ?_
      refine zw_icge ⟨rfl, rfl⟩ rfl (fun c2 => ?_) (fun c2 => ?_)
      · skip
        refine zw_void rfl ?_
        have e := yrun2_x (tp := tp) (m := (400 - j).toNat) (s := s) (n := n) (by
          by_cases z : s.1 = 0
          · have := (hL.2.2 z).1
            omega
          · exact Or.inr (fun y => z y.1))
        rw [e] at hr
        subst hr
        exact kk _ iF ⟨hL.1.1, hL.1.2, fun z => ⟨(hL.2.2 z).2.2.1, (hv z).2.2.2.2⟩⟩
      · skip
        refine zw_aload ⟨rfl, rfl⟩ rfl ?_
        refine zw_getIv (v := s.1) ⟨rfl, rfl⟩ zc_98 (by decide) (hL.1.1) ?_
        refine zw_ifne ⟨rfl, rfl⟩ rfl (fun c3 => ?_) (fun c3 => ?_)
        · skip
          refine zw_void rfl ?_
          have e := yrun2_x (tp := tp) (m := (400 - j).toNat) (s := s) (n := n) (by
            by_cases z : s.1 = 0
            · have := (hL.2.2 z).1
              omega
            · exact Or.inr (fun y => z y.1))
          rw [e] at hr
          subst hr
          exact kk _ iF ⟨hL.1.1, hL.1.2, fun z => ⟨(hL.2.2 z).2.2.1, (hv z).2.2.2.2⟩⟩
        · skip
          refine zw_aload ⟨rfl, rfl⟩ rfl ?_
          refine zw_cavv1 ⟨rfl, rfl⟩ rfl zc_98 rfl ?_
          have h0 : s.1 = 0 := by omega
          have h5 := (hL.2.2 h0).1
          have hI2 := hI.cg (iF.1 104 (by omega)) iF.2
          have hlv := yln_v h0 hv (by omega)
          refine m_readLine hI2 h0 hv (by omega) hL (fun N1 f1 q1 => ?_)
          have hI3 := hI2.cg (f1.1 104 (by omega)) f1.2
          refine zw_aload ⟨rfl, rfl⟩ rfl ?_
          refine zw_cavv1 ⟨rfl, rfl⟩ rfl zc_98 rfl ?_
          refine m_skipBlanks hI3 ⟨rfl, q1.2.1⟩ ?_
          have hbr := (ybl_r (tp := tp) q1.2.1.2).1
          refine zw_iinc_3 ⟨rfl, rfl⟩ (by omega) ?_
          refine zw_goto ⟨rfl, rfl⟩ rfl ?_
          rw [show (400 - j).toNat = (400 - (j + 1)).toNat + 1 by omega, yrun2_s ⟨h0, by omega⟩] at hr
          refine ih _ _ ⟨by omega, by omega⟩ ⟨yln tp n s, hr, hlv.1, ⟨⟨(zup_ni (by decide)).trans q1.1.1, (zup_ni (by decide)).trans q1.1.2⟩, ?_, fun z => ?_⟩⟩ ((iF.tr f1).up (by decide)) (by omega)
          · rw [zup_eq]; have := q1.2.1.1; omega
          · obtain ⟨t1, t2, t3, t4⟩ := q1.2.2 z
            exact ⟨(zup_eq _ _ _ _).trans t1, (zup_ni (by decide)).trans t2, t3.cg (fun x x1 x2 => zup_row (by omega)), fun y => (zup_na (by decide)).trans (t4 y)⟩

theorem m_rs_39 {tp : Int → Int} {n : Int} {M : zM} {Q : zV → zM → Prop} (hI : yIn M tp n) (hb0 : ∀ k, 0 ≤ k → k < n → 0 ≤ tp k ∧ tp k ≤ 255) (hS : ySr M y00) (h4 : M 99 4 = -1) (h1 : M 98 1 = 0 ∧ M 98 2 = -1) (kk : ∀ P : zM, yf98 M P → (P 98 1 = (yrd0 tp n).1 ∧ P 98 2 = (yrd0 tp n).2.1 ∧ ((yrd0 tp n).1 = 0 → ySr P (yrd0 tp n).2.2.2.2 ∧ yVt (yrd0 tp n).2.2.2.2)) → Q (3, 0) P) : zWp kRe_readScript 39 [(1, 98), (1, 1), (0, n), (0, n)] [] M Q := by
  have hn := hI.1.2
  have hbr := ybl_r (tp := tp) (n := n) (p := 0) hn.1
  refine zw_aload ⟨rfl, rfl⟩ rfl ?_
  refine zw_const ⟨rfl, rfl⟩ ?_
  refine zw_putI ⟨rfl, rfl⟩ zc_98 (by decide) (fun h => absurd h (by decide)) ?_
  refine zw_aload ⟨rfl, rfl⟩ rfl ?_
  refine zw_const ⟨rfl, rfl⟩ ?_
  refine zw_putI ⟨rfl, rfl⟩ zc_98 (by decide) (fun h => absurd h (by decide)) ?_
  refine zw_aload ⟨rfl, rfl⟩ rfl ?_
  refine zw_cavv1 ⟨rfl, rfl⟩ rfl zc_98 rfl ?_
  refine m_skipBlanks (p := 0) (hI.cg ((zup_row (by decide)).trans (zup_row (by decide))) ((zup_ni (by decide)).trans (zup_ni (by decide)))) ⟨(zup_ni (by decide)).trans (zup_eq _ _ _ _), Int.le_refl _, hn.1⟩ ?_
  refine zw_const ⟨rfl, rfl⟩ ?_
  refine zw_istore_3 ⟨rfl, rfl⟩ ?_
  refine m_rs_l hI (v := yrd0 tp n) kk _ _ _ ⟨Int.le_refl _, by decide⟩ ⟨(0, -1, ybl tp n 0, 0, y00), rfl, fun _ => ⟨rfl, ⟨hbr.1.1, hbr.1.2⟩, ybl_e hbr.2, by show (0 : Int) ≤ 0 ∧ (0 : Int) < 2147483648; decide, y00_V⟩, ⟨⟨?_, ?_⟩, ?_, fun _ => ⟨zup_eq _ _ _ _, ?_, ?_, fun _ => ?_⟩⟩⟩ (((yf98.rf.up (by decide)).up (by decide)).up (by decide)) (Nat.lt_succ_self _)
  · simp only [zup_ni (show (1 : Int) ≠ 5 by decide), zup_ni (show (1 : Int) ≠ 6 by decide)]; exact h1.1
  · simp only [zup_ni (show (2 : Int) ≠ 5 by decide), zup_ni (show (2 : Int) ≠ 6 by decide)]; exact h1.2
  · rw [zup_eq]; omega
  · rw [zup_ni (by decide), zup_eq]
  · exact hS.cg (fun x x1 x2 => by simp only [zup_row (show x ≠ 98 by omega)])
  · simp only [zup_row (show (99 : Int) ≠ 98 by decide)]; exact h4

theorem m_readScript {tp : Int → Int} {n : Int} {M : zM} {Q : zV → zM → Prop} (hn : 0 ≤ n ∧ n ≤ 400) (hT : ∀ k, 0 ≤ k → k < n → M 1 k = tp k) (hb0 : ∀ k, 0 ≤ k → k < n → 0 ≤ tp k ∧ tp k ≤ 255) (kk : ∀ P : zM, (∀ x, ¬ (98 ≤ x ∧ x ≤ 104) → P x = M x) → (P 98 1 = (yrd0 tp n).1 ∧ P 98 2 = (yrd0 tp n).2.1 ∧ ((yrd0 tp n).1 = 0 → ySr P (yrd0 tp n).2.2.2.2 ∧ yVt (yrd0 tp n).2.2.2.2)) → Q (3, 0) P) : zWp kRe_readScript 0 [(1, 98), (1, 1), (0, n), (3, 0)] [] M Q := by
  refine zw_aload ⟨rfl, rfl⟩ rfl ?_
  refine zw_getR 99 ⟨rfl, rfl⟩ zr_98_0 ?_
  refine zw_cavv1 ⟨rfl, rfl⟩ rfl zc_99 rfl ?_
  refine m_clear (fun N1 p1 => ?_)
  refine zw_aload ⟨rfl, rfl⟩ rfl ?_
  refine zw_const ⟨rfl, rfl⟩ ?_
  refine zw_putI ⟨rfl, rfl⟩ zc_98 (by decide) (fun h => absurd h (by decide)) ?_
  refine zw_aload ⟨rfl, rfl⟩ rfl ?_
  refine zw_const ⟨rfl, rfl⟩ ?_
  refine zw_putI ⟨rfl, rfl⟩ zc_98 (by decide) (fun h => absurd h (by decide)) ?_
  refine zw_aload ⟨rfl, rfl⟩ rfl ?_
  refine zw_const ⟨rfl, rfl⟩ ?_
  refine zw_putI ⟨rfl, rfl⟩ zc_98 (by decide) (fun h => absurd h (by decide)) ?_
  refine zw_const ⟨rfl, rfl⟩ ?_
  refine zw_istore_3 ⟨rfl, rfl⟩ ?_
  have e1 : ∀ x, x ≠ 98 → ((zup (zup (zup N1 98 1 0) 98 2 (-1)) 98 4 0)) x = N1 x := fun x hx => by simp only [zup_row hx]
  have q1 : ((zup (zup (zup N1 98 1 0) 98 2 (-1)) 98 4 0)) 98 1 = 0 := by simp [zup]
  have q2 : ((zup (zup (zup N1 98 1 0) 98 2 (-1)) 98 4 0)) 98 2 = -1 := by simp [zup]
  have q4 : ((zup (zup (zup N1 98 1 0) 98 2 (-1)) 98 4 0)) 98 4 = 0 := by simp [zup]
  generalize ((zup (zup (zup N1 98 1 0) 98 2 (-1)) 98 4 0)) = N2 at e1 q1 q2 q4 ⊢
  refine m_rs_copy (tp := tp) hn (fun k k1 k2 => by rw [e1 1 (by decide), p1.1 1 (by decide) (by decide) (by decide)]; exact hT k k1 k2) (fun P g1 g2 g3 g4 => ?_) _ _ _ ⟨Int.le_refl _, hn.1⟩ (fun _ _ _ => rfl) (fun _ _ => rfl) q4 (fun j j1 j2 => by omega) (Nat.lt_succ_self _)
  have er : ∀ x, x ≠ 98 → x ≠ 104 → P x = N1 x := fun x x1 x2 => (g1 x x1 x2).trans (e1 x x1)
  refine m_rs_39 (M := P) ⟨⟨g3, hn⟩, fun k k1 k2 => ⟨g4 k k1 k2, hb0 k k1 k2⟩⟩ hb0 (p1.2.1.cg (fun x x1 x2 => er x (by omega) (by omega))) ((congrFun (er 99 (by decide) (by decide)) 4).trans p1.2.2) ⟨(g2 1 (by decide)).trans q1, (g2 2 (by decide)).trans q2⟩ (fun P2 r1 r2 => kk P2 (fun x hx => ?_) r2)
  exact (r1.1 x (by omega)).trans ((er x (by omega) (by omega)).trans (p1.1 x (by omega) (by omega) (by omega)))

theorem c_script_b {n : Int} {M : zM} {Q : zV → zM → Prop} {σ : yS} {un : Int} {uh : Int → yS} {mk : Int → Int} {im : Int → yS} {tn : Int} {tp : Int → Int} {ff fp : Int} (hC : yCW M σ un uh mk im tn tp ff fp) (hn0 : 0 ≤ n ∧ n ≤ tn) (h1 : M 98 1 = (yrd0 tp n).1) (h2 : M 98 2 = (yrd0 tp n).2.1) (h3 : (yrd0 tp n).1 = 0 → (yrd0 tp n).2.1 = -1 ∧ ySr M (yrd0 tp n).2.2.2.2 ∧ yVt (yrd0 tp n).2.2.2.2) (hfr : 0 ≤ (yrd0 tp n).1 ∧ (yrd0 tp n).1 ≤ 3) (k : ∀ N : zM, yCw N (yo_script σ un uh mk im tn tp ff fp n).2 → (∀ x, 208 ≤ x → N x = M x) → Q (0, (yo_script σ un uh mk im tn tp ff fp n).1) N) : zWp kX_script 14 [(1, 0), (0, n)] [] M Q := by
  obtain ⟨hW, hS, hG, hz, hH, hP, hI, hT, hF1, hF2⟩ := id hC
  have hV := hW.1
  have hn := hV.1
  have hu := hW.2.1.1
  have htn := hW.2.2.2.1
  refine zw_aload ⟨rfl, rfl⟩ rfl ?_
  refine zw_aload ⟨rfl, rfl⟩ rfl ?_
  refine zw_getR 98 ⟨rfl, rfl⟩ zr_0_7 ?_
  refine zw_getIv (v := (yrd0 tp n).1) ⟨rfl, rfl⟩ zc_98 (by decide) (h1) ?_
  refine zw_aload ⟨rfl, rfl⟩ rfl ?_
  refine zw_getR 98 ⟨rfl, rfl⟩ zr_0_7 ?_
  refine zw_getIv (v := (yrd0 tp n).2.1) ⟨rfl, rfl⟩ zc_98 (by decide) (h2) ?_
  refine zw_cavv3 ⟨rfl, rfl⟩ rfl zc_0 rfl ?_
  refine zw_aload ⟨rfl, rfl⟩ rfl ?_
  refine zw_const ⟨rfl, rfl⟩ ?_
  refine zw_putI ⟨rfl, rfl⟩ zc_0 (by decide) (fun h => absurd h (by decide)) ?_
  refine zw_aload ⟨rfl, rfl⟩ rfl ?_
  refine zw_iload ⟨rfl, rfl⟩ rfl ?_
  refine zw_putI ⟨rfl, rfl⟩ zc_0 (by decide) (fun h => absurd h (by decide)) ?_
  refine zw_aload ⟨rfl, rfl⟩ rfl ?_
  refine zw_iload ⟨rfl, rfl⟩ rfl ?_
  refine zw_putI ⟨rfl, rfl⟩ zc_0 (by decide) (fun h => absurd h (by decide)) ?_
  refine zw_void rfl ?_
  refine zw_aload ⟨rfl, rfl⟩ rfl ?_
  refine zw_getIv (v := (yrd0 tp n).1) ⟨rfl, rfl⟩ zc_0 (by decide) ((zup_ni (by decide)).trans (zup_eq _ _ _ _)) ?_
  refine zw_ifeq ⟨rfl, rfl⟩ rfl (fun c1 => ?_) (fun c1 => ?_)
  · skip
    obtain ⟨hg1, hsr, hsv⟩ := h3 (by omega)
    refine zw_aload ⟨rfl, rfl⟩ rfl ?_
    refine zw_getR 9 ⟨rfl, rfl⟩ zr_0_5 ?_
    refine zw_aload ⟨rfl, rfl⟩ rfl ?_
    refine zw_getR 2 ⟨rfl, rfl⟩ zr_0_4 ?_
    refine zw_cavv2 ⟨rfl, rfl⟩ rfl zc_9 rfl ?_
    have er : ∀ b, b ≠ 0 → (zup (zup (zup M 0 1 0) 0 2 ((yrd0 tp n).1)) 0 3 ((yrd0 tp n).2.1)) b = M b := fun b hb => by simp only [zup_row hb]
    have q01' : (zup (zup (zup M 0 1 0) 0 2 ((yrd0 tp n).1)) 0 3 ((yrd0 tp n).2.1)) 0 1 = 0 := by simp [zup]
    have q02' : (zup (zup (zup M 0 1 0) 0 2 ((yrd0 tp n).1)) 0 3 ((yrd0 tp n).2.1)) 0 2 = 0 := by rw [zup_ni (by decide), zup_eq]; omega
    have q03' : (zup (zup (zup M 0 1 0) 0 2 ((yrd0 tp n).1)) 0 3 ((yrd0 tp n).2.1)) 0 3 = -1 := by rw [zup_eq]; exact hg1
    generalize ((zup (zup (zup M 0 1 0) 0 2 ((yrd0 tp n).1)) 0 3 ((yrd0 tp n).2.1))) = N0 at er q01' q02' q03' ⊢
    refine m_keep (hH.cg (fun b b1 b2 => er b (by omega))) hV (hS.cg (fun b b1 b2 => er b (by omega))) (fun N1 p1 => ?_)
    have eN : ∀ b, b ≠ 0 → ¬ (9 ≤ b ∧ b ≤ 80) → N1 b = M b := fun b b0 b1 => (p1.2 b b1).trans (er b b0)
    have q01 : N1 0 1 = 0 := by rw [p1.2 0 (by decide)]; exact q01'
    have q02 : N1 0 2 = 0 := by rw [p1.2 0 (by decide)]; exact q02'
    have q03 : N1 0 3 = -1 := by rw [p1.2 0 (by decide)]; exact q03'
    refine zw_aload ⟨rfl, rfl⟩ rfl ?_
    refine zw_getR 2 ⟨rfl, rfl⟩ zr_0_4 ?_
    refine zw_getR 3 ⟨rfl, rfl⟩ zr_2_0 ?_
    refine zw_aload ⟨rfl, rfl⟩ rfl ?_
    refine zw_getR 98 ⟨rfl, rfl⟩ zr_0_7 ?_
    refine zw_getR 99 ⟨rfl, rfl⟩ zr_98_0 ?_
    refine zw_cavv2 ⟨rfl, rfl⟩ rfl zc_3 rfl ?_
    refine m_ScCopy yscb_3 yscb_99 (by decide) (fun N2 p2 => ?_)
    have e2 : ∀ b, ¬ (3 ≤ b ∧ b ≤ 7) → N2 b = N1 b := fun b hb => p2.1 b (by omega)
    have r99 : ∀ b, 99 ≤ b → b ≤ 103 → N1 b = M b := fun b b1 b2 => eN b (by omega) (by omega)
    have hV2 : yVal (ySn σ (yrd0 tp n).2.2.2.2) := ySn_V hV hsv
    have hc1 : ySc (M 99) (M 100) (M 101) (M 102) (M 103) (ySn σ (yrd0 tp n).2.2.2.2) := hsr.1.sg (fun j j1 j2 => if_pos ⟨j1, j2⟩) hsv.1.2.1
    have hS2 : yTold N2 (ySn σ (yrd0 tp n).2.2.2.2) := by
      refine ⟨hc1.cp (fun k k1 k2 => ?_) (fun l l1 l2 => ?_) (fun l l1 l2 => ?_) (fun l l1 l2 => ?_) (fun l l1 l2 => ?_), ?_, fun p q1 q2 => ?_⟩
      · rw [p2.2.1 k k1 k2, r99 99 (by decide) (by decide)]
      · exact (p2.2.2 1 (by decide) (by decide) l l1 l2).trans (congrFun (r99 100 (by decide) (by decide)) l)
      · exact (p2.2.2 2 (by decide) (by decide) l l1 l2).trans (congrFun (r99 101 (by decide) (by decide)) l)
      · exact (p2.2.2 3 (by decide) (by decide) l l1 l2).trans (congrFun (r99 102 (by decide) (by decide)) l)
      · exact (p2.2.2 4 (by decide) (by decide) l l1 l2).trans (congrFun (r99 103 (by decide) (by decide)) l)
      · rw [e2 2 (by decide), eN 2 (by decide) (by decide), hS.2.1]; exact (if_neg (by omega) : ySn σ _ 0 = σ 0).symm
      · have e0 : ySn σ (yrd0 tp n).2.2.2.2 0 = σ 0 := if_neg (by omega)
        rw [e0] at q2
        rw [e2 8 (by decide), eN 8 (by decide) (by decide), hS.2.2 p q1 q2]
        exact (if_neg (by omega) : ySn σ _ _ = σ _).symm
    refine zw_aload ⟨rfl, rfl⟩ rfl ?_
    refine zw_cavv1 ⟨rfl, rfl⟩ rfl zc_0 rfl ?_
    refine m_settle hV2 hS2 (by rw [e2 137 (by decide), e2 136 (by decide), eN 137 (by decide) (by decide), eN 136 (by decide) (by decide)]; exact hz) (fun N3 p3 => ?_)
    obtain ⟨w1, w2⟩ := yCW_new hC hV2 hS2 (p1.1.cg (fun b b1 b2 => e2 b (by omega))) (fun b b0 b1 b2 => (e2 b (by omega)).trans (eN b b0 (by omega))) (tn' := 0) (ff' := 0) (fp' := -1) ⟨⟨by rw [e2 0 (by decide)]; exact q01, by omega, by omega⟩, by rw [e2 0 (by decide)]; exact q02, by rw [e2 0 (by decide)]; exact q03⟩ p3
    have hS3 : yTold N3 (ySn σ (yrd0 tp n).2.2.2.2) := hS2.cg (fun b b1 b2 => p3.2.2 b (by omega))
    refine zw_aload ⟨rfl, rfl⟩ rfl ?_
    refine zw_getR 2 ⟨rfl, rfl⟩ zr_0_4 ?_
    refine zw_getR 3 ⟨rfl, rfl⟩ zr_2_0 ?_
    refine zw_callv1 ⟨rfl, rfl⟩ rfl zc_3 rfl ?_
    refine m_lettersTold hS3.1 ?_
    refine zw_ret rfl ?_
    have e : yo_script σ un uh mk im tn tp ff fp n = (ylt (ySn σ (yrd0 tp n).2.2.2.2), ySn σ (yrd0 tp n).2.2.2.2, ypn un, yph un uh σ, mk, im, 0, tp, 0, -1) := by unfold yo_script; (repeat' split) <;> first | rfl | (exfalso; omega)
    rw [e] at k
    exact k _ w1 w2
  · skip
    refine zw_const ⟨rfl, rfl⟩ ?_
    refine zw_aload ⟨rfl, rfl⟩ rfl ?_
    refine zw_getIv (v := (yrd0 tp n).1) ⟨rfl, rfl⟩ zc_0 (by decide) ((zup_ni (by decide)).trans (zup_eq _ _ _ _)) ?_
    refine zw_isub ⟨rfl, rfl⟩ (by omega) ?_
    refine zw_ret rfl ?_
    have w1 : yCW ((zup (zup (zup M 0 1 0) 0 2 ((yrd0 tp n).1)) 0 3 ((yrd0 tp n).2.1))) σ un uh mk im 0 tp (yrd0 tp n).1 (yrd0 tp n).2.1 := by
      have er : ∀ b, b ≠ 0 → ((zup (zup (zup M 0 1 0) 0 2 ((yrd0 tp n).1)) 0 3 ((yrd0 tp n).2.1))) b = M b := fun b hb => by simp only [zup_row hb]
      have q1 : ((zup (zup (zup M 0 1 0) 0 2 ((yrd0 tp n).1)) 0 3 ((yrd0 tp n).2.1))) 0 1 = 0 := by simp [zup]
      have q2 : ((zup (zup (zup M 0 1 0) 0 2 ((yrd0 tp n).1)) 0 3 ((yrd0 tp n).2.1))) 0 2 = (yrd0 tp n).1 := by rw [zup_ni (by decide), zup_eq]
      have q3 : ((zup (zup (zup M 0 1 0) 0 2 ((yrd0 tp n).1)) 0 3 ((yrd0 tp n).2.1))) 0 3 = (yrd0 tp n).2.1 := by rw [zup_eq]
      generalize ((zup (zup (zup M 0 1 0) 0 2 ((yrd0 tp n).1)) 0 3 ((yrd0 tp n).2.1))) = N0 at er q1 q2 q3 ⊢
      refine ⟨⟨hW.1, hW.2.1, hW.2.2.1, ⟨Int.le_refl _, by decide⟩, fun k k1 k2 => by omega⟩, hS.cg (fun b b1 b2 => er b (by omega)), hG.cg (fun b b1 b2 => er b (by omega)), by rw [er 137 (by decide), er 136 (by decide)]; exact hz, hH.cg (fun b b1 b2 => er b (by omega)), by unfold yPi; rw [er 82 (by decide)]; exact hP, fun i hi => by rw [er 83 (by decide)]; exact ⟨(hI i hi).1, fun m => ((hI i hi).2 m).cg (fun b b1 b2 => er b (by omega))⟩, ⟨q1, fun k k1 k2 => by omega⟩, q2, q3⟩
    have e : yo_script σ un uh mk im tn tp ff fp n = (-30 - (yrd0 tp n).1, σ, un, uh, mk, im, 0, tp, (yrd0 tp n).1, (yrd0 tp n).2.1) := by unfold yo_script; (repeat' split) <;> first | rfl | (exfalso; omega)
    rw [e] at k
    exact k _ w1 (fun x hx => by simp only [zup_row (show x ≠ 0 by omega)])

theorem yln_f (tp : Int → Int) (n : Int) (s : yLn) : 0 ≤ (yln tp n s).1 ∧ (yln tp n s).1 ≤ 3 := by
  unfold yln yl5
  (repeat' split) <;> first | exact (by show (0 : Int) ≤ 0 ∧ (0 : Int) ≤ 3; decide) | exact (by show (0 : Int) ≤ 1 ∧ (1 : Int) ≤ 3; decide) | exact (by show (0 : Int) ≤ 2 ∧ (2 : Int) ≤ 3; decide) | exact (by show (0 : Int) ≤ 3 ∧ (3 : Int) ≤ 3; decide)
theorem yrun2_f (tp : Int → Int) (n : Int) : ∀ (m : Nat) (s : yLn), (0 ≤ s.1 ∧ s.1 ≤ 3) → yLv n s tp → (0 ≤ (yrun2 tp n m s).1 ∧ (yrun2 tp n m s).1 ≤ 3) ∧ yLv n (yrun2 tp n m s) tp := by
  intro m
  induction m with
  | zero => intro s h g; exact ⟨h, g⟩
  | succ m ih =>
    intro s h g
    unfold yrun2
    split
    · rename_i z
      exact ih _ (yln_f tp n s) (yln_v z.1 g z.2).1
    · exact ⟨h, g⟩
theorem yrd0_f {tp : Int → Int} {n : Int} (hn : 0 ≤ n) : (0 ≤ (yrd0 tp n).1 ∧ (yrd0 tp n).1 ≤ 3) ∧ yLv n (yrd0 tp n) tp := by
  have hbr := ybl_r (tp := tp) (n := n) (p := 0) hn
  exact yrun2_f tp n 400 _ (by show (0 : Int) ≤ 0 ∧ (0 : Int) ≤ 3; decide) (fun _ => ⟨rfl, ⟨hbr.1.1, hbr.1.2⟩, ybl_e hbr.2, by show (0 : Int) ≤ 0 ∧ (0 : Int) < 2147483648; decide, y00_V⟩)

theorem c_script {n : Int} {M : zM} {Q : zV → zM → Prop} {σ : yS} {un : Int} {uh : Int → yS} {mk : Int → Int} {im : Int → yS} {tn : Int} {tp : Int → Int} {ff fp : Int} (hC : yCW M σ un uh mk im tn tp ff fp) (k : ∀ N : zM, yCw N (yo_script σ un uh mk im tn tp ff fp n).2 → (∀ x, 208 ≤ x → N x = M x) → Q (0, (yo_script σ un uh mk im tn tp ff fp n).1) N) : zWp kX_script 0 [(1, 0), (0, n)] [] M Q := by
  obtain ⟨hW, hS, hG, hz, hH, hP, hI, hT, hF1, hF2⟩ := id hC
  have hV := hW.1
  have hn := hV.1
  have hu := hW.2.1.1
  have htn := hW.2.2.2.1
  refine zw_iload ⟨rfl, rfl⟩ rfl ?_
  refine zw_iflt ⟨rfl, rfl⟩ rfl (fun c1 => ?_) (fun c1 => ?_)
  · skip
    refine zw_const ⟨rfl, rfl⟩ ?_
    refine zw_ret rfl ?_
    have e : yo_script σ un uh mk im tn tp ff fp n = (-3, σ, un, uh, mk, im, tn, tp, ff, fp) := by unfold yo_script; (repeat' split) <;> first | rfl | (exfalso; omega)
    rw [e] at k
    exact k _ hC (fun _ _ => rfl)
  · skip
    refine zw_iload ⟨rfl, rfl⟩ rfl ?_
    refine zw_aload ⟨rfl, rfl⟩ rfl ?_
    refine zw_getIv (v := tn) ⟨rfl, rfl⟩ zc_0 (by decide) (hT.1) ?_
    refine zw_icle ⟨rfl, rfl⟩ rfl (fun c2 => ?_) (fun c2 => ?_)
    · skip
      refine zw_aload ⟨rfl, rfl⟩ rfl ?_
      refine zw_getR 98 ⟨rfl, rfl⟩ zr_0_7 ?_
      refine zw_aload ⟨rfl, rfl⟩ rfl ?_
      refine zw_getR 1 ⟨rfl, rfl⟩ zr_0_0 ?_
      refine zw_iload ⟨rfl, rfl⟩ rfl ?_
      refine zw_cavv3 ⟨rfl, rfl⟩ rfl zc_98 rfl ?_
      refine m_readScript ⟨by omega, by omega⟩ (fun k k1 k2 => hT.2 k k1 (by omega)) (fun k k1 k2 => hW.2.2.2.2 k k1 (by omega)) (fun P1 f1 q1 => ?_)
      have hC1 := hC.c9 (N := P1) (fun b b1 b2 b3 => f1 b b1)
      have hff := yrd0_f (tp := tp) (n := n) (by omega)
      exact c_script_b hC1 ⟨by omega, by omega⟩ q1.1 q1.2.1 (fun z => ⟨(hff.2 z).1, (q1.2.2 z).1, (q1.2.2 z).2⟩) hff.1 (fun N w1 w2 => k N w1 (fun x hx => (w2 x hx).trans (f1 x (by omega))))
    · skip
      refine zw_const ⟨rfl, rfl⟩ ?_
      refine zw_ret rfl ?_
      have e : yo_script σ un uh mk im tn tp ff fp n = (-3, σ, un, uh, mk, im, tn, tp, ff, fp) := by unfold yo_script; (repeat' split) <;> first | rfl | (exfalso; omega)
      rw [e] at k
      exact k _ hC (fun _ _ => rfl)

end