/-! The class' Anatomy -/
def yms (K : Int → Int) (b : Int) : Int := if K b = 1 then ym K b else 0
def yrp (σ : yS) (K : Int → Int) (b : Int) : Int := if K b = 1 ∧ 1 < ym K b ∧ σ (28 + yL σ b) % 2 = 1 ∧ K (b + 1) ≠ 4 ∧ yjo K b = -1 then 1 else 0
def ybs0 (σ : yS) (K : Int → Int) (b a : Int) : Nat → Int
  | 0 => a
  | k + 1 => if (k : Int) + 1 ≤ a then a else if σ (28 + yL σ (ypl K b ((k : Int) + 1))) / 2 % 2 = 0 ∨ yjo K (ypl K b k) ≠ -1 then (k : Int) + 1 else ybs0 σ K b a k
def yba (σ : yS) (K : Int → Int) (b : Int) : Int := if K b = 1 then ybs0 σ K b (yrp σ K b) (ym K b - 1).toNat else 0
abbrev yfre (σ : yS) (K : Int → Int) (b k : Int) : Prop := yjo K (ypl K b k) = -1 ∧ K (ypl K b k + 1) ≠ 4 ∧ yjn σ (yL σ (ypl K b k)) (yL σ (ypl K b (k + 1))) = 1
def yjf0 (σ : yS) (K : Int → Int) (b a z : Int) : Nat → Int
  | 0 => if a ≤ 0 ∧ 0 < z ∧ yjo K (ypl K b 0) = -1 ∧ K (ypl K b 0 + 1) ≠ 4 ∧ yjn σ (yL σ (ypl K b 0)) (yL σ (ypl K b 1)) = 1 then 1 else 0
  | k + 1 => if a ≤ (k : Int) + 1 ∧ (k : Int) + 1 < z ∧ yjf0 σ K b a z k ≠ 1 ∧ yjo K (ypl K b ((k : Int) + 1)) = -1 ∧ K (ypl K b ((k : Int) + 1) + 1) ≠ 4 ∧ yjn σ (yL σ (ypl K b ((k : Int) + 1))) (yL σ (ypl K b ((k : Int) + 2))) = 1 then 1 else 0
def yjf (σ : yS) (K : Int → Int) (b k : Int) : Int := yjf0 σ K b (yrp σ K b) (yba σ K b) k.toNat
def ysum (f : Int → Int) : Nat → Int
  | 0 => 0
  | k + 1 => ysum f k + f (k : Int)
def ypr (σ : yS) (K : Int → Int) (b : Int) : Int := ysum (yjf σ K b) (yba σ K b).toNat
def yow (K : Int → Int) (b : Int) : Int := if K b = 2 ∧ K (b + 1) = 4 then b + 1 else if K b = 4 then b else -1
theorem ysum_s (f : Int → Int) {k : Int} (h : 0 ≤ k) : ysum f (k + 1).toNat = ysum f k.toNat + f k := by
  rw [show (k + 1).toNat = k.toNat + 1 by omega]
  show ysum f k.toNat + f (k.toNat : Int) = _
  rw [show (k.toNat : Int) = k by omega]
theorem yjf0_s (σ : yS) (K : Int → Int) (b a z : Int) {k : Int} (h : 0 < k) : yjf0 σ K b a z k.toNat = if a ≤ k ∧ k < z ∧ yjf0 σ K b a z (k - 1).toNat ≠ 1 ∧ yfre σ K b k then 1 else 0 := by
  rw [show k.toNat = (k - 1).toNat + 1 by omega]
  show (if _ then _ else _) = _
  rw [show ((k - 1).toNat : Int) + 1 = k by omega, show ((k - 1).toNat : Int) + 2 = k + 1 by omega]
theorem yjf0_0 (σ : yS) (K : Int → Int) (b a z : Int) : yjf0 σ K b a z 0 = if a ≤ 0 ∧ 0 < z ∧ yfre σ K b 0 then 1 else 0 := rfl
theorem yjf0_r (σ : yS) (K : Int → Int) (b a z : Int) (k : Nat) : (yjf0 σ K b a z k = 0 ∨ yjf0 σ K b a z k = 1) ∧ (yjf0 σ K b a z k = 1 → a ≤ k ∧ k < z) := by
  cases k with
  | zero => rw [yjf0_0]; split <;> simp <;> omega
  | succ k =>
    have := yjf0_s σ K b a z (k := (k : Int) + 1) (by omega)
    rw [show ((k : Int) + 1).toNat = k + 1 by omega] at this
    rw [this]
    split <;> simp <;> omega
theorem yjf_r (σ : yS) (K : Int → Int) (b : Int) {k : Int} (h : 0 ≤ k) : (yjf σ K b k = 0 ∨ yjf σ K b k = 1) ∧ (yjf σ K b k = 1 → yrp σ K b ≤ k ∧ k < yba σ K b) := by
  have := yjf0_r σ K b (yrp σ K b) (yba σ K b) k.toNat
  rw [show (k.toNat : Int) = k by omega] at this
  exact this
theorem yrp_r (σ : yS) (K : Int → Int) (b : Int) : (yrp σ K b = 0 ∨ yrp σ K b = 1) ∧ (yrp σ K b = 1 → K b = 1 ∧ 1 < ym K b) := by
  unfold yrp; split <;> simp_all
theorem ybs0_r (σ : yS) (K : Int → Int) (b a : Int) : ∀ k : Nat, a ≤ ybs0 σ K b a k ∧ (a ≤ (k : Int) → ybs0 σ K b a k ≤ k) := by
  intro k
  induction k with
  | zero => exact ⟨Int.le_refl _, fun h => h⟩
  | succ k ih =>
    unfold ybs0
    split
    · omega
    · split
      · omega
      · omega
theorem yba_r {σ : yS} {K : Int → Int} {n b : Int} (hK : yKr K n) (h0 : 0 ≤ b) (h1 : b < n) (h : K b = 1) : yrp σ K b ≤ yba σ K b ∧ yba σ K b < ym K b := by
  have r := ym_r hK h0 h1 h
  have a := yrp_r σ K b
  have c := ybs0_r σ K b (yrp σ K b) (ym K b - 1).toNat
  unfold yba
  rw [if_pos h]
  omega
/-- what Anatomy knows of a cluster from b to e -/
def yAna (M : zM) (σ : yS) (K : Int → Int) (b e : Int) : Prop := (M 120 4 = yso (K b) ∧ M 120 5 = b ∧ M 120 6 = e ∧ M 120 7 = ytl K b ∧ M 120 9 = ydd K b ∧ M 120 8 = yow K b) ∧ (M 120 0 = yms K b ∧ M 120 1 = yba σ K b ∧ M 120 2 = yrp σ K b ∧ M 120 3 = ypr σ K b) ∧
  ∀ k, 0 ≤ k → k < yms K b → M 121 k = ypl K b k ∧ M 122 k = ynk K (ypl K b k) ∧ M 123 k = yvi K (ypl K b k) ∧ M 124 k = yjo K (ypl K b k) ∧ M 125 k = yjf σ K b k
theorem yAna.cg {M N : zM} {σ : yS} {K : Int → Int} {b e : Int} (h : yAna M σ K b e) (g : ∀ x, 120 ≤ x → x ≤ 125 → N x = M x) : yAna N σ K b e := by
  unfold yAna
  rw [g 120 (by decide) (by decide), g 121 (by decide) (by decide), g 122 (by decide) (by decide), g 123 (by decide) (by decide), g 124 (by decide) (by decide), g 125 (by decide) (by decide)]
  exact h
theorem ypl_mo {K : Int → Int} {n b : Int} (hK : yKr K n) (h0 : 0 ≤ b) (h1 : b < n) (h : K b = 1) : ∀ (d : Nat) (i : Int), 0 ≤ i → i + d < ym K b → ypl K b i + 2 * d ≤ ypl K b (i + d) := by
  intro d
  induction d with
  | zero => intro i _ _; rw [show i + ((0 : Nat) : Int) = i by omega]; omega
  | succ d ih =>
    intro i hi hd
    have := ih i hi (by omega)
    have := (ypl_n hK h0 h1 h (k := i + d) (by omega) (by omega)).2.2
    rw [show i + ((d + 1 : Nat) : Int) = i + d + 1 by omega]
    omega
theorem ypl_lt {K : Int → Int} {n b i j : Int} (hK : yKr K n) (h0 : 0 ≤ b) (h1 : b < n) (h : K b = 1) (hi : 0 ≤ i) (hij : i < j) (hj : j < ym K b) : ypl K b i + 2 ≤ ypl K b j := by
  have := ypl_mo hK h0 h1 h (j - i).toNat i hi (by omega)
  rw [show i + ((j - i).toNat : Int) = j by omega] at this
  omega
theorem yq_le {K : Int → Int} {n b k : Int} (hK : yKr K n) (h0 : 0 ≤ b) (h1 : b < n) (h : K b = 1) (hk : 0 ≤ k) (h2 : k < ym K b) : yq K (ypl K b k) ≤ ytl K b ∧ (k + 1 < ym K b → yq K (ypl K b k) < ypl K b (k + 1)) := by
  have e : ytl K b = yq K (ypl K b (ym K b - 1)) := if_pos h
  have s : k + 1 < ym K b → yq K (ypl K b k) < ypl K b (k + 1) := fun z => by
    obtain ⟨a1, a2, -⟩ := ypl_n hK h0 h1 h hk z
    have := (ync_r a2).1
    omega
  refine ⟨?_, s⟩
  by_cases q : k = ym K b - 1
  · rw [e, q]; exact Int.le_refl _
  · have a := s (by omega)
    have b2 := yq_r K (ypl K b (ym K b - 1))
    by_cases q2 : k + 1 = ym K b - 1
    · rw [e, ← q2] ; rw [← q2] at b2; omega
    · have := ypl_lt hK h0 h1 h (show 0 ≤ k + 1 by omega) (show k + 1 < ym K b - 1 by omega) (by omega)
      omega
/-- the consonants of a consonant's cluster are its chain -/
theorem ycons {K : Int → Int} {n b p : Int} (hK : yKr K n) (h0 : 0 ≤ b) (h1 : b < n) (hb : ybg K b) (h : K b = 1) (hp : b ≤ p) (he : p < yov K b) (h3 : K p = 1) : ∃ j, (0 ≤ j ∧ j < ym K b) ∧ p = ypl K b j := by
  have r := ym_r hK h0 h1 h
  have e : ytl K b = yq K (ypl K b (ym K b - 1)) := if_pos h
  by_cases q : p < ytl K b
  · obtain ⟨j, j1, j2⟩ := yhead hK h0 h1 h (ym K b - 1).toNat (by omega) p hp (by rw [show (((ym K b - 1).toNat : Nat) : Int) = ym K b - 1 by omega, ← e]; exact q)
    refine ⟨j, by omega, ?_⟩
    rcases j2 with z | z | ⟨z1, z2⟩ | ⟨z1, z2⟩
    · exact z
    · omega
    · omega
    · omega
  · have := (yov_sp hK h0 h1 hb).2.2 p (by omega) he
    omega

theorem m_sort_c {c : Int} {M : zM} {Q : zV → zM → Prop} {K : Int → Int} {n : Int} (hK : yKr K n) (hC : yCut M K n) (hc : 0 ≤ c ∧ c < yci K n) (k : Q (0, yso (K (yB K c))) M) : zWp kCu_factOf 0 [(1, 105), (0, c), (0, 2)] [] M Q := m_factOf_2 hK hC (by rw [if_pos hc]; exact k)
theorem m_beg_c {c : Int} {M : zM} {Q : zV → zM → Prop} {K : Int → Int} {n : Int} (hK : yKr K n) (hC : yCut M K n) (hc : 0 ≤ c ∧ c < yci K n) (k : Q (0, yB K c) M) : zWp kCu_factOf 0 [(1, 105), (0, c), (0, 0)] [] M Q := m_factOf_0 hK hC (by rw [if_pos hc]; exact k)
theorem m_end_c {c : Int} {M : zM} {Q : zV → zM → Prop} {K : Int → Int} {n : Int} (hK : yKr K n) (hC : yCut M K n) (hc : 0 ≤ c ∧ c < yci K n) (k : Q (0, yB K (c + 1)) M) : zWp kCu_endOf 0 [(1, 105), (0, c)] [] M Q := m_endOf hK hC (by rw [show yen K n c = yB K (c + 1) from if_pos hc]; exact k)
theorem m_readBetween {p : Int} {M : zM} {Q : zV → zM → Prop} {K : Int → Int} {n : Int} (hK : yKr K n) (hC : yCut M K n) (hs : 0 ≤ M 120 0 ∧ M 120 0 ≤ 60) (hp : 0 ≤ p ∧ p ≤ 60) (k : ∀ N : zM, ((M 120 0 = 0 → N = M) ∧ (M 120 0 ≠ 0 → N = zup (zup M 123 (M 120 0 - 1) (M 120 7)) 124 (M 120 0 - 1) (if K (p - 1) = 12 ∨ K (p - 1) = 13 then p - 1 else M 124 (M 120 0 - 1)))) → Q (3, 0) N) : zWp kAn_readBetween 0 [(1, 120), (1, 105), (0, p)] [] M Q := by
  refine zw_aload ⟨rfl, rfl⟩ rfl ?_
  refine zw_getIv (v := M 120 0) ⟨rfl, rfl⟩ zc_120 (by decide) rfl ?_
  refine zw_ifne ⟨rfl, rfl⟩ rfl (fun c1 => ?_) (fun c1 => ?_)
  · skip
    refine zw_aload ⟨rfl, rfl⟩ rfl ?_
    refine zw_getR 123 ⟨rfl, rfl⟩ zr_120_12 ?_
    refine zw_aload ⟨rfl, rfl⟩ rfl ?_
    refine zw_getIv (v := M 120 0) ⟨rfl, rfl⟩ zc_120 (by decide) rfl ?_
    refine zw_const ⟨rfl, rfl⟩ ?_
    refine zw_isub ⟨rfl, rfl⟩ (by omega) ?_
    refine zw_aload ⟨rfl, rfl⟩ rfl ?_
    refine zw_getIv (v := M 120 7) ⟨rfl, rfl⟩ zc_120 (by decide) rfl ?_
    refine zw_iast ⟨rfl, rfl⟩ za_123 (by omega) ?_
    refine zw_aload ⟨rfl, rfl⟩ rfl ?_
    refine zw_iload ⟨rfl, rfl⟩ rfl ?_
    refine zw_const ⟨rfl, rfl⟩ ?_
    refine zw_isub ⟨rfl, rfl⟩ (by omega) ?_
    refine zw_callv2 ⟨rfl, rfl⟩ rfl zc_105 rfl ?_
    refine m_kindAt hK (hC.cg (fun b y1 y2 => zup_row (by omega))) ?_
    refine zw_calls1 ⟨rfl, rfl⟩ rfl rfl ?_
    refine zw_iload ⟨rfl, rfl⟩ rfl ?_
    refine zw_const ⟨rfl, rfl⟩ ?_
    refine zw_iceq ⟨rfl, rfl⟩ rfl (fun c2 => ?_) (fun c2 => ?_)
    · skip
      refine zw_const ⟨rfl, rfl⟩ ?_
      refine zw_goto ⟨rfl, rfl⟩ rfl ?_
      refine zw_zret rfl (by first | exact Or.inl rfl | exact Or.inr rfl | omega) ?_
      refine zw_ifeq ⟨rfl, rfl⟩ rfl (fun q => absurd q (by decide)) (fun _ => ?_)
      refine zw_aload ⟨rfl, rfl⟩ rfl ?_
      refine zw_getR 124 ⟨rfl, rfl⟩ zr_120_13 ?_
      refine zw_aload ⟨rfl, rfl⟩ rfl ?_
      refine zw_getIv (v := M 120 0) ⟨rfl, rfl⟩ zc_120 (by decide) (zup_na (by decide)) ?_
      refine zw_const ⟨rfl, rfl⟩ ?_
      refine zw_isub ⟨rfl, rfl⟩ (by omega) ?_
      refine zw_iload ⟨rfl, rfl⟩ rfl ?_
      refine zw_const ⟨rfl, rfl⟩ ?_
      refine zw_isub ⟨rfl, rfl⟩ (by omega) ?_
      refine zw_iast ⟨rfl, rfl⟩ za_124 (by omega) ?_
      refine zw_void rfl ?_
      refine k _ ⟨fun h => absurd h (by assumption), fun _ => ?_⟩
      rw [if_pos (by omega)]
    · skip
      refine zw_iload ⟨rfl, rfl⟩ rfl ?_
      refine zw_const ⟨rfl, rfl⟩ ?_
      refine zw_icne ⟨rfl, rfl⟩ rfl (fun c4 => ?_) (fun c4 => ?_)
      · skip
        refine zw_const ⟨rfl, rfl⟩ ?_
        refine zw_zret rfl (by first | exact Or.inl rfl | exact Or.inr rfl | omega) ?_
        refine zw_ifeq ⟨rfl, rfl⟩ rfl (fun _ => ?_) (fun q => absurd (by decide) q)
        refine zw_void rfl ?_
        refine k _ ⟨fun h => absurd h (by assumption), fun _ => ?_⟩
        rw [if_neg (by omega)]
        funext x j
        unfold zup
        grind
      · skip
        refine zw_const ⟨rfl, rfl⟩ ?_
        refine zw_goto ⟨rfl, rfl⟩ rfl ?_
        refine zw_zret rfl (by first | exact Or.inl rfl | exact Or.inr rfl | omega) ?_
        refine zw_ifeq ⟨rfl, rfl⟩ rfl (fun q => absurd q (by decide)) (fun _ => ?_)
        refine zw_aload ⟨rfl, rfl⟩ rfl ?_
        refine zw_getR 124 ⟨rfl, rfl⟩ zr_120_13 ?_
        refine zw_aload ⟨rfl, rfl⟩ rfl ?_
        refine zw_getIv (v := M 120 0) ⟨rfl, rfl⟩ zc_120 (by decide) (zup_na (by decide)) ?_
        refine zw_const ⟨rfl, rfl⟩ ?_
        refine zw_isub ⟨rfl, rfl⟩ (by omega) ?_
        refine zw_iload ⟨rfl, rfl⟩ rfl ?_
        refine zw_const ⟨rfl, rfl⟩ ?_
        refine zw_isub ⟨rfl, rfl⟩ (by omega) ?_
        refine zw_iast ⟨rfl, rfl⟩ za_124 (by omega) ?_
        refine zw_void rfl ?_
        refine k _ ⟨fun h => absurd h (by assumption), fun _ => ?_⟩
        rw [if_pos (by omega)]
  · skip
    refine zw_void rfl ?_
    exact k _ ⟨fun _ => rfl, fun h => absurd (by omega) h⟩

section
set_option maxHeartbeats 8000000
theorem m_readChain_l  {b : Int} {M : zM} {Q : zV → zM → Prop} {K : Int → Int} {n : Int} (hK : yKr K n) (hC : yCut M K n) (h0 : 0 ≤ b) (h1 : b < n) (hb : ybg K b) (h : K b = 1) (hM : M 120 5 = b ∧ M 120 6 = yov K b) (k : ∀ N : zM, (N 120 0 = ym K b ∧ N 120 7 = ytl K b ∧ (∀ j, j ≠ 0 → j ≠ 7 → N 120 j = M 120 j) ∧ (∀ k, 0 ≤ k → k < ym K b → N 121 k = ypl K b k ∧ N 122 k = ynk K (ypl K b k) ∧ N 123 k = yvi K (ypl K b k) ∧ N 124 k = yjo K (ypl K b k) ∧ N 125 k = 0) ∧ ∀ x, ¬ (120 ≤ x ∧ x ≤ 125) → N x = M x) → Q (3, 0) N) : ∀ (f : Nat) (p : Int) (N : zM), (b ≤ p ∧ p ≤ yov K b) → ((0 ≤ N 120 0 ∧ N 120 0 ≤ ym K b) ∧ (N 120 0 = 0 → p = b) ∧ (N 120 0 < ym K b → p ≤ ypl K b (N 120 0)) ∧ (0 < N 120 0 → ypl K b (N 120 0 - 1) < p ∧ N 120 7 = yq K (ypl K b (N 120 0 - 1)))) → ((∀ j, j ≠ 0 → j ≠ 7 → N 120 j = M 120 j) ∧ ∀ x, ¬ (120 ≤ x ∧ x ≤ 125) → N x = M x) → (∀ k, 0 ≤ k → k < N 120 0 → N 121 k = ypl K b k ∧ N 122 k = ynk K (ypl K b k) ∧ N 125 k = 0 ∧ N 123 k = (if k + 1 = N 120 0 then -1 else yvi K (ypl K b k)) ∧ N 124 k = (if k + 1 = N 120 0 then -1 else yjo K (ypl K b k))) → (yov K b - p).toNat < f → zWp kAn_readChain 3 [(1, 120), (1, 105), (0, p)] [] N Q := by
  intro f
  induction f with
  | zero => intro p N i1 i2 i3 i4 hf; exact absurd hf (Nat.not_lt_zero _)
  | succ f ih =>
    intro p N i1 i2 i3 i4 hf
    have hov := yov_sp hK h0 h1 hb
    have hm := ym_r hK h0 h1 h
    have hn := hK.1
    refine zw_iload ⟨rfl, rfl⟩ rfl ?_
    refine zw_aload ⟨rfl, rfl⟩ rfl ?_
    refine zw_getIv (v := yov K b) ⟨rfl, rfl⟩ zc_120 (by decide) ((i3.1 6 (by decide) (by decide)).trans hM.2) ?_
    refine zw_icge ⟨rfl, rfl⟩ rfl (fun c1 => ?_) (fun c1 => ?_)
    · skip
      refine zw_void rfl ?_
      have hs : N 120 0 = ym K b := by
        by_cases z : N 120 0 < ym K b
        · have := i2.2.2.1 z
          have := (yq_le hK h0 h1 h i2.1.1 z).1
          have := yq_r K (ypl K b (N 120 0))
          omega
        · omega
      have hl := (ypl_r hK h0 h1 h (show 0 ≤ ym K b - 1 by omega) (by omega)).2.mpr rfl
      refine k _ ⟨hs, ?_, i3.1, fun j q1 q2 => ?_, i3.2⟩
      · rw [(i2.2.2.2 (by omega)).2, hs]
        exact (if_pos h).symm
      · obtain ⟨a1, a2, a3, a4, a5⟩ := i4 j q1 (by omega)
        rw [hs] at a4 a5
        refine ⟨a1, a2, ?_, ?_, a3⟩
        · rw [a4]; split
          · rename_i z; rw [show j = ym K b - 1 by omega]; exact (if_pos hl).symm
          · rfl
        · rw [a5]; split
          · rename_i z; rw [show j = ym K b - 1 by omega]; exact (if_pos hl).symm
          · rfl
    · skip
      refine zw_aload ⟨rfl, rfl⟩ rfl ?_
      refine zw_getIv (v := N 120 0) ⟨rfl, rfl⟩ zc_120 (by decide) rfl ?_
      refine zw_const ⟨rfl, rfl⟩ ?_
      refine zw_icge ⟨rfl, rfl⟩ rfl (fun c2 => ?_) (fun c2 => ?_)
      · skip
        refine zw_void rfl ?_
        have hs : N 120 0 = ym K b := by
          by_cases z : N 120 0 < ym K b
          · have := i2.2.2.1 z
            have := (yq_le hK h0 h1 h i2.1.1 z).1
            have := yq_r K (ypl K b (N 120 0))
            omega
          · omega
        have hl := (ypl_r hK h0 h1 h (show 0 ≤ ym K b - 1 by omega) (by omega)).2.mpr rfl
        refine k _ ⟨hs, ?_, i3.1, fun j q1 q2 => ?_, i3.2⟩
        · rw [(i2.2.2.2 (by omega)).2, hs]
          exact (if_pos h).symm
        · obtain ⟨a1, a2, a3, a4, a5⟩ := i4 j q1 (by omega)
          rw [hs] at a4 a5
          refine ⟨a1, a2, ?_, ?_, a3⟩
          · rw [a4]; split
            · rename_i z; rw [show j = ym K b - 1 by omega]; exact (if_pos hl).symm
            · rfl
          · rw [a5]; split
            · rename_i z; rw [show j = ym K b - 1 by omega]; exact (if_pos hl).symm
            · rfl
      · skip
        refine zw_aload ⟨rfl, rfl⟩ rfl ?_
        refine zw_iload ⟨rfl, rfl⟩ rfl ?_
        refine zw_callv2 ⟨rfl, rfl⟩ rfl zc_105 rfl ?_
        refine m_kindAt hK (hC.cg (fun x y1 y2 => i3.2 x (by omega))) ?_
        refine zw_const ⟨rfl, rfl⟩ ?_
        refine zw_icne ⟨rfl, rfl⟩ rfl (fun c3 => ?_) (fun c3 => ?_)
        · skip
          have cc : K p ≠ 1 := by assumption
          refine zw_iinc_2 ⟨rfl, rfl⟩ (by omega) ?_
          refine zw_goto ⟨rfl, rfl⟩ rfl ?_
          refine ih _ _ ?_ ?_ i3 i4 ?_
          · omega
          · refine ⟨i2.1, fun z => ?_, fun z => ?_, fun z => ?_⟩
            · exact absurd (by rw [i2.2.1 z]; exact h) cc
            · have := i2.2.2.1 z
              by_cases e : p = ypl K b (N 120 0)
              · have := (ypl_r hK h0 h1 h i2.1.1 z).1.1
                rw [← e] at this
                exact absurd this cc
              · omega
            · have := i2.2.2.2 z; omega
          · omega
        · skip
          have cc : K p = 1 := by omega
          obtain ⟨j, j1, j2⟩ := ycons hK h0 h1 hb h i1.1 (by omega) cc
          have hs : N 120 0 < ym K b := by
            by_cases z : N 120 0 < ym K b
            · exact z
            · have := (i2.2.2.2 (by omega)).1
              by_cases z2 : j = N 120 0 - 1
              · rw [z2] at j2; omega
              · have := ypl_lt hK h0 h1 h j1.1 (show j < N 120 0 - 1 by omega) (by omega)
                omega
          have hps : p = ypl K b (N 120 0) := by
            have a := i2.2.2.1 hs
            by_cases z : j = N 120 0
            · rw [j2, z]
            · by_cases z2 : j < N 120 0
              · have a2 := (i2.2.2.2 (by omega)).1
                by_cases z3 : j = N 120 0 - 1
                · rw [z3] at j2; omega
                · have := ypl_lt hK h0 h1 h j1.1 (show j < N 120 0 - 1 by omega) (by omega)
                  omega
              · have := ypl_lt hK h0 h1 h i2.1.1 (show N 120 0 < j by omega) j1.2
                omega
          have hqe := (yq_le hK h0 h1 h i2.1.1 hs).1
          rw [← hps] at hqe
          refine zw_aload ⟨rfl, rfl⟩ rfl ?_
          refine zw_aload ⟨rfl, rfl⟩ rfl ?_
          refine zw_iload ⟨rfl, rfl⟩ rfl ?_
          refine zw_cavv3 ⟨rfl, rfl⟩ rfl zc_120 rfl ?_
          refine m_readBetween hK (hC.cg (fun x y1 y2 => i3.2 x (by omega))) (by omega) (by omega) (fun N1 p1 => ?_)
          have g1 : ∀ x, ¬ (120 ≤ x ∧ x ≤ 125) → N1 x = N x := by
            intro x hx
            by_cases z : N 120 0 = 0
            · rw [p1.1 z]
            · rw [p1.2 z, zup_row (by omega), zup_row (by omega)]
          have eN0 : N1 120 0 = N 120 0 := by
            by_cases z : N 120 0 = 0
            · rw [p1.1 z]
            · rw [p1.2 z, zup_na (by decide), zup_na (by decide)]
          have eN6 : N1 120 6 = yov K b := by
            by_cases z : N 120 0 = 0
            · rw [p1.1 z, i3.1 6 (by decide) (by decide)]; exact hM.2
            · rw [p1.2 z, zup_na (by decide), zup_na (by decide), i3.1 6 (by decide) (by decide)]; exact hM.2
          refine zw_aload ⟨rfl, rfl⟩ rfl ?_
          refine zw_getR 121 ⟨rfl, rfl⟩ zr_120_10 ?_
          refine zw_aload ⟨rfl, rfl⟩ rfl ?_
          refine zw_getIv (v := N 120 0) ⟨rfl, rfl⟩ zc_120 (by decide) (eN0) ?_
          refine zw_iload ⟨rfl, rfl⟩ rfl ?_
          refine zw_iast ⟨rfl, rfl⟩ za_121 (by omega) ?_
          refine zw_aload ⟨rfl, rfl⟩ rfl ?_
          refine zw_getR 122 ⟨rfl, rfl⟩ zr_120_11 ?_
          refine zw_aload ⟨rfl, rfl⟩ rfl ?_
          refine zw_getIv (v := N 120 0) ⟨rfl, rfl⟩ zc_120 (by decide) ((zup_na (by decide)).trans (eN0)) ?_
          refine zw_iload ⟨rfl, rfl⟩ rfl ?_
          refine zw_const ⟨rfl, rfl⟩ ?_
          refine zw_iadd ⟨rfl, rfl⟩ (by omega) ?_
          refine zw_aload ⟨rfl, rfl⟩ rfl ?_
          refine zw_getIv (v := yov K b) ⟨rfl, rfl⟩ zc_120 (by decide) ((zup_na (by decide)).trans (eN6)) ?_
          refine zw_icge ⟨rfl, rfl⟩ rfl (fun c4 => ?_) (fun c4 => ?_)
          · skip
            have hn4 : ¬ K (p + 1) = 4 := fun z => by unfold yq at hqe; rw [if_pos z] at hqe; omega
            refine zw_const ⟨rfl, rfl⟩ ?_
            refine zw_iast ⟨rfl, rfl⟩ za_122 (by omega) ?_
            refine zw_aload ⟨rfl, rfl⟩ rfl ?_
            refine zw_getR 123 ⟨rfl, rfl⟩ zr_120_12 ?_
            refine zw_aload ⟨rfl, rfl⟩ rfl ?_
            refine zw_getIv (v := N 120 0) ⟨rfl, rfl⟩ zc_120 (by decide) ((zup_na (by decide)).trans ((zup_na (by decide)).trans (eN0))) ?_
            refine zw_const ⟨rfl, rfl⟩ ?_
            refine zw_iast ⟨rfl, rfl⟩ za_123 (by omega) ?_
            refine zw_aload ⟨rfl, rfl⟩ rfl ?_
            refine zw_getR 124 ⟨rfl, rfl⟩ zr_120_13 ?_
            refine zw_aload ⟨rfl, rfl⟩ rfl ?_
            refine zw_getIv (v := N 120 0) ⟨rfl, rfl⟩ zc_120 (by decide) ((zup_na (by decide)).trans ((zup_na (by decide)).trans ((zup_na (by decide)).trans (eN0)))) ?_
            refine zw_const ⟨rfl, rfl⟩ ?_
            refine zw_iast ⟨rfl, rfl⟩ za_124 (by omega) ?_
            refine zw_aload ⟨rfl, rfl⟩ rfl ?_
            refine zw_getR 125 ⟨rfl, rfl⟩ zr_120_14 ?_
            refine zw_aload ⟨rfl, rfl⟩ rfl ?_
            refine zw_getIv (v := N 120 0) ⟨rfl, rfl⟩ zc_120 (by decide) ((zup_na (by decide)).trans ((zup_na (by decide)).trans ((zup_na (by decide)).trans ((zup_na (by decide)).trans (eN0))))) ?_
            refine zw_const ⟨rfl, rfl⟩ ?_
            refine zw_bast3 ⟨rfl, rfl⟩ za_125 (by omega) (by first | exact Or.inl rfl | exact Or.inr rfl | omega) ?_
            refine zw_aload ⟨rfl, rfl⟩ rfl ?_
            refine zw_aload ⟨rfl, rfl⟩ rfl ?_
            refine zw_getR 122 ⟨rfl, rfl⟩ zr_120_11 ?_
            refine zw_aload ⟨rfl, rfl⟩ rfl ?_
            refine zw_getIv (v := N 120 0) ⟨rfl, rfl⟩ zc_120 (by decide) ((zup_na (by decide)).trans ((zup_na (by decide)).trans ((zup_na (by decide)).trans ((zup_na (by decide)).trans ((zup_na (by decide)).trans (eN0)))))) ?_
            refine zw_ialdv (v := -1) ⟨rfl, rfl⟩ za_122 (by omega) ((zup_na (by decide)).trans ((zup_na (by decide)).trans ((zup_na (by decide)).trans (zup_eq _ _ _ _)))) ?_
            refine zw_const ⟨rfl, rfl⟩ ?_
            refine zw_icne ⟨rfl, rfl⟩ rfl (fun q => absurd q (by decide)) (fun _ => ?_)
            refine zw_iload ⟨rfl, rfl⟩ rfl ?_
            refine zw_const ⟨rfl, rfl⟩ ?_
            refine zw_iadd ⟨rfl, rfl⟩ (by omega) ?_
            refine zw_goto ⟨rfl, rfl⟩ rfl ?_
            refine zw_putI ⟨rfl, rfl⟩ zc_120 (by decide) (fun h => absurd h (by decide)) ?_
            refine zw_aload ⟨rfl, rfl⟩ rfl ?_
            refine zw_dup ⟨rfl, rfl⟩ (by decide) ?_
            refine zw_getIv (v := N 120 0) ⟨rfl, rfl⟩ zc_120 (by decide) ((zup_ni (by decide)).trans ((zup_na (by decide)).trans ((zup_na (by decide)).trans ((zup_na (by decide)).trans ((zup_na (by decide)).trans ((zup_na (by decide)).trans (eN0))))))) ?_
            refine zw_const ⟨rfl, rfl⟩ ?_
            refine zw_iadd ⟨rfl, rfl⟩ (by omega) ?_
            refine zw_putI ⟨rfl, rfl⟩ zc_120 (by decide) (fun h => absurd h (by decide)) ?_
            refine zw_iinc_2 ⟨rfl, rfl⟩ (by omega) ?_
            refine zw_goto ⟨rfl, rfl⟩ rfl ?_
            have eN : N1 120 = N 120 := by
              by_cases z : N 120 0 = 0
              · rw [p1.1 z]
              · rw [p1.2 z, zup_row (by decide), zup_row (by decide)]
            have e0 : N1 120 0 = N 120 0 := by rw [eN]
            refine ih _ _ ?_ ?_ ?_ ?_ ?_
            · omega
            · have s0 : (zup (zup (zup (zup (zup (zup (zup N1 121 (N 120 0) p) 122 (N 120 0) (-1)) 123 (N 120 0) (-1)) 124 (N 120 0) (-1)) 125 (N 120 0) 0) 120 7 (p + 1)) 120 0 ((N 120 0) + 1)) 120 0 = N 120 0 + 1 := by simp [zup, e0]
              rw [s0]
              refine ⟨by omega, fun z => by omega, fun z => ?_, fun z => ?_⟩
              · have := (ypl_lt hK h0 h1 h i2.1.1 (show N 120 0 < N 120 0 + 1 by omega) z)
                omega
              · rw [show N 120 0 + 1 - 1 = N 120 0 by omega, ← hps]
                refine ⟨by omega, ?_⟩
                simp [zup, yq, hn4]
            · refine ⟨fun j q1 q2 => ?_, fun x hx => ?_⟩
              · rw [← i3.1 j q1 q2, ← congrFun eN j]
                simp [zup, q1, q2]
              · rw [zup_row (by omega), zup_row (by omega), zup_row (by omega), zup_row (by omega), zup_row (by omega), zup_row (by omega), zup_row (by omega), g1 x (by omega)]
                exact i3.2 x hx
            · have s0 : (zup (zup (zup (zup (zup (zup (zup N1 121 (N 120 0) p) 122 (N 120 0) (-1)) 123 (N 120 0) (-1)) 124 (N 120 0) (-1)) 125 (N 120 0) 0) 120 7 (p + 1)) 120 0 ((N 120 0) + 1)) 120 0 = N 120 0 + 1 := by simp [zup, e0]
              rw [s0]
              intro k q1 q2
              by_cases hk : k = N 120 0
              · subst hk
                rw [← hps]
                unfold ynk
                first | rw [if_pos hn4] | rw [if_neg hn4]
                simp [zup, e0]
              · have i44 := i4 k q1 (by omega)
                have hz : N 120 0 ≠ 0 := by omega
                have pp := p1.2 hz
                have hd := ypl_n hK h0 h1 h (k := N 120 0 - 1) (by omega) (by omega)
                rw [show N 120 0 - 1 + 1 = N 120 0 by omega] at hd
                have hr := ync_r hd.2.1
                have hq := (i2.2.2.2 (by omega)).2
                rw [if_neg (by omega), if_neg (by omega)]
                refine ⟨?_, ?_, ?_, ?_, ?_⟩
                · simp [zup, e0, hk, pp]; exact i44.1
                · simp [zup, e0, hk, pp]; exact i44.2.1
                · simp [zup, e0, hk, pp]; exact i44.2.2.1
                · simp [zup, e0, hk, pp]
                  by_cases hk2 : k = N 120 0 - 1
                  · subst hk2
                    simp
                    rw [hq]
                    unfold yvi
                    rw [if_neg hd.2.1]
                  · rw [if_neg hk2]
                    have := i44.2.2.2.1
                    rw [if_neg (by omega)] at this
                    exact this
                · simp [zup, e0, hk, pp]
                  by_cases hk2 : k = N 120 0 - 1
                  · subst hk2
                    simp
                    unfold yjo
                    rw [if_neg hd.2.1]
                    have i45 := i44.2.2.2.2
                    rw [if_pos (by omega)] at i45
                    rw [hd.1, ← hps] at hr
                    by_cases hj : K (yq K (ypl K b (N 120 0 - 1)) + 1) = 12 ∨ K (yq K (ypl K b (N 120 0 - 1)) + 1) = 13
                    · have e2 := hr.2.2.2.mpr hj
                      rw [if_pos hj, if_pos (by rw [show p - 1 = yq K (ypl K b (N 120 0 - 1)) + 1 by omega]; exact hj)]
                      omega
                    · have e2 : p = yq K (ypl K b (N 120 0 - 1)) + 1 := by
                        have : p ≠ yq K (ypl K b (N 120 0 - 1)) + 2 := fun z => hj (hr.2.2.2.mp z)
                        omega
                      rw [if_neg hj, if_neg (by rw [show p - 1 = yq K (ypl K b (N 120 0 - 1)) by omega, hr.2.2.1]; decide)]
                      exact i45
                  · rw [if_neg hk2]
                    have := i44.2.2.2.2
                    rw [if_neg (by omega)] at this
                    exact this
            · omega
          · skip
            refine zw_aload ⟨rfl, rfl⟩ rfl ?_
            refine zw_iload ⟨rfl, rfl⟩ rfl ?_
            refine zw_const ⟨rfl, rfl⟩ ?_
            refine zw_iadd ⟨rfl, rfl⟩ (by omega) ?_
            refine zw_callv2 ⟨rfl, rfl⟩ rfl zc_105 rfl ?_
            refine m_kindAt hK (hC.cg (fun x y1 y2 => by rw [zup_row (by omega)]; exact (g1 x (by omega)).trans (i3.2 x (by omega)))) ?_
            refine zw_const ⟨rfl, rfl⟩ ?_
            refine zw_icne ⟨rfl, rfl⟩ rfl (fun c6 => ?_) (fun c6 => ?_)
            · skip
              have hn4 : ¬ K (p + 1) = 4 := by assumption
              refine zw_const ⟨rfl, rfl⟩ ?_
              refine zw_iast ⟨rfl, rfl⟩ za_122 (by omega) ?_
              refine zw_aload ⟨rfl, rfl⟩ rfl ?_
              refine zw_getR 123 ⟨rfl, rfl⟩ zr_120_12 ?_
              refine zw_aload ⟨rfl, rfl⟩ rfl ?_
              refine zw_getIv (v := N 120 0) ⟨rfl, rfl⟩ zc_120 (by decide) ((zup_na (by decide)).trans ((zup_na (by decide)).trans (eN0))) ?_
              refine zw_const ⟨rfl, rfl⟩ ?_
              refine zw_iast ⟨rfl, rfl⟩ za_123 (by omega) ?_
              refine zw_aload ⟨rfl, rfl⟩ rfl ?_
              refine zw_getR 124 ⟨rfl, rfl⟩ zr_120_13 ?_
              refine zw_aload ⟨rfl, rfl⟩ rfl ?_
              refine zw_getIv (v := N 120 0) ⟨rfl, rfl⟩ zc_120 (by decide) ((zup_na (by decide)).trans ((zup_na (by decide)).trans ((zup_na (by decide)).trans (eN0)))) ?_
              refine zw_const ⟨rfl, rfl⟩ ?_
              refine zw_iast ⟨rfl, rfl⟩ za_124 (by omega) ?_
              refine zw_aload ⟨rfl, rfl⟩ rfl ?_
              refine zw_getR 125 ⟨rfl, rfl⟩ zr_120_14 ?_
              refine zw_aload ⟨rfl, rfl⟩ rfl ?_
              refine zw_getIv (v := N 120 0) ⟨rfl, rfl⟩ zc_120 (by decide) ((zup_na (by decide)).trans ((zup_na (by decide)).trans ((zup_na (by decide)).trans ((zup_na (by decide)).trans (eN0))))) ?_
              refine zw_const ⟨rfl, rfl⟩ ?_
              refine zw_bast3 ⟨rfl, rfl⟩ za_125 (by omega) (by first | exact Or.inl rfl | exact Or.inr rfl | omega) ?_
              refine zw_aload ⟨rfl, rfl⟩ rfl ?_
              refine zw_aload ⟨rfl, rfl⟩ rfl ?_
              refine zw_getR 122 ⟨rfl, rfl⟩ zr_120_11 ?_
              refine zw_aload ⟨rfl, rfl⟩ rfl ?_
              refine zw_getIv (v := N 120 0) ⟨rfl, rfl⟩ zc_120 (by decide) ((zup_na (by decide)).trans ((zup_na (by decide)).trans ((zup_na (by decide)).trans ((zup_na (by decide)).trans ((zup_na (by decide)).trans (eN0)))))) ?_
              refine zw_ialdv (v := -1) ⟨rfl, rfl⟩ za_122 (by omega) ((zup_na (by decide)).trans ((zup_na (by decide)).trans ((zup_na (by decide)).trans (zup_eq _ _ _ _)))) ?_
              refine zw_const ⟨rfl, rfl⟩ ?_
              refine zw_icne ⟨rfl, rfl⟩ rfl (fun q => absurd q (by decide)) (fun _ => ?_)
              refine zw_iload ⟨rfl, rfl⟩ rfl ?_
              refine zw_const ⟨rfl, rfl⟩ ?_
              refine zw_iadd ⟨rfl, rfl⟩ (by omega) ?_
              refine zw_goto ⟨rfl, rfl⟩ rfl ?_
              refine zw_putI ⟨rfl, rfl⟩ zc_120 (by decide) (fun h => absurd h (by decide)) ?_
              refine zw_aload ⟨rfl, rfl⟩ rfl ?_
              refine zw_dup ⟨rfl, rfl⟩ (by decide) ?_
              refine zw_getIv (v := N 120 0) ⟨rfl, rfl⟩ zc_120 (by decide) ((zup_ni (by decide)).trans ((zup_na (by decide)).trans ((zup_na (by decide)).trans ((zup_na (by decide)).trans ((zup_na (by decide)).trans ((zup_na (by decide)).trans (eN0))))))) ?_
              refine zw_const ⟨rfl, rfl⟩ ?_
              refine zw_iadd ⟨rfl, rfl⟩ (by omega) ?_
              refine zw_putI ⟨rfl, rfl⟩ zc_120 (by decide) (fun h => absurd h (by decide)) ?_
              refine zw_iinc_2 ⟨rfl, rfl⟩ (by omega) ?_
              refine zw_goto ⟨rfl, rfl⟩ rfl ?_
              have eN : N1 120 = N 120 := by
                by_cases z : N 120 0 = 0
                · rw [p1.1 z]
                · rw [p1.2 z, zup_row (by decide), zup_row (by decide)]
              have e0 : N1 120 0 = N 120 0 := by rw [eN]
              refine ih _ _ ?_ ?_ ?_ ?_ ?_
              · omega
              · have s0 : (zup (zup (zup (zup (zup (zup (zup N1 121 (N 120 0) p) 122 (N 120 0) (-1)) 123 (N 120 0) (-1)) 124 (N 120 0) (-1)) 125 (N 120 0) 0) 120 7 (p + 1)) 120 0 ((N 120 0) + 1)) 120 0 = N 120 0 + 1 := by simp [zup, e0]
                rw [s0]
                refine ⟨by omega, fun z => by omega, fun z => ?_, fun z => ?_⟩
                · have := (ypl_lt hK h0 h1 h i2.1.1 (show N 120 0 < N 120 0 + 1 by omega) z)
                  omega
                · rw [show N 120 0 + 1 - 1 = N 120 0 by omega, ← hps]
                  refine ⟨by omega, ?_⟩
                  simp [zup, yq, hn4]
              · refine ⟨fun j q1 q2 => ?_, fun x hx => ?_⟩
                · rw [← i3.1 j q1 q2, ← congrFun eN j]
                  simp [zup, q1, q2]
                · rw [zup_row (by omega), zup_row (by omega), zup_row (by omega), zup_row (by omega), zup_row (by omega), zup_row (by omega), zup_row (by omega), g1 x (by omega)]
                  exact i3.2 x hx
              · have s0 : (zup (zup (zup (zup (zup (zup (zup N1 121 (N 120 0) p) 122 (N 120 0) (-1)) 123 (N 120 0) (-1)) 124 (N 120 0) (-1)) 125 (N 120 0) 0) 120 7 (p + 1)) 120 0 ((N 120 0) + 1)) 120 0 = N 120 0 + 1 := by simp [zup, e0]
                rw [s0]
                intro k q1 q2
                by_cases hk : k = N 120 0
                · subst hk
                  rw [← hps]
                  unfold ynk
                  first | rw [if_pos hn4] | rw [if_neg hn4]
                  simp [zup, e0]
                · have i44 := i4 k q1 (by omega)
                  have hz : N 120 0 ≠ 0 := by omega
                  have pp := p1.2 hz
                  have hd := ypl_n hK h0 h1 h (k := N 120 0 - 1) (by omega) (by omega)
                  rw [show N 120 0 - 1 + 1 = N 120 0 by omega] at hd
                  have hr := ync_r hd.2.1
                  have hq := (i2.2.2.2 (by omega)).2
                  rw [if_neg (by omega), if_neg (by omega)]
                  refine ⟨?_, ?_, ?_, ?_, ?_⟩
                  · simp [zup, e0, hk, pp]; exact i44.1
                  · simp [zup, e0, hk, pp]; exact i44.2.1
                  · simp [zup, e0, hk, pp]; exact i44.2.2.1
                  · simp [zup, e0, hk, pp]
                    by_cases hk2 : k = N 120 0 - 1
                    · subst hk2
                      simp
                      rw [hq]
                      unfold yvi
                      rw [if_neg hd.2.1]
                    · rw [if_neg hk2]
                      have := i44.2.2.2.1
                      rw [if_neg (by omega)] at this
                      exact this
                  · simp [zup, e0, hk, pp]
                    by_cases hk2 : k = N 120 0 - 1
                    · subst hk2
                      simp
                      unfold yjo
                      rw [if_neg hd.2.1]
                      have i45 := i44.2.2.2.2
                      rw [if_pos (by omega)] at i45
                      rw [hd.1, ← hps] at hr
                      by_cases hj : K (yq K (ypl K b (N 120 0 - 1)) + 1) = 12 ∨ K (yq K (ypl K b (N 120 0 - 1)) + 1) = 13
                      · have e2 := hr.2.2.2.mpr hj
                        rw [if_pos hj, if_pos (by rw [show p - 1 = yq K (ypl K b (N 120 0 - 1)) + 1 by omega]; exact hj)]
                        omega
                      · have e2 : p = yq K (ypl K b (N 120 0 - 1)) + 1 := by
                          have : p ≠ yq K (ypl K b (N 120 0 - 1)) + 2 := fun z => hj (hr.2.2.2.mp z)
                          omega
                        rw [if_neg hj, if_neg (by rw [show p - 1 = yq K (ypl K b (N 120 0 - 1)) by omega, hr.2.2.1]; decide)]
                        exact i45
                    · rw [if_neg hk2]
                      have := i44.2.2.2.2
                      rw [if_neg (by omega)] at this
                      exact this
              · omega
            · skip
              have hn4 : K (p + 1) = 4 := by omega
              refine zw_iload ⟨rfl, rfl⟩ rfl ?_
              refine zw_const ⟨rfl, rfl⟩ ?_
              refine zw_iadd ⟨rfl, rfl⟩ (by omega) ?_
              refine zw_goto ⟨rfl, rfl⟩ rfl ?_
              refine zw_iast ⟨rfl, rfl⟩ za_122 (by omega) ?_
              refine zw_aload ⟨rfl, rfl⟩ rfl ?_
              refine zw_getR 123 ⟨rfl, rfl⟩ zr_120_12 ?_
              refine zw_aload ⟨rfl, rfl⟩ rfl ?_
              refine zw_getIv (v := N 120 0) ⟨rfl, rfl⟩ zc_120 (by decide) ((zup_na (by decide)).trans ((zup_na (by decide)).trans (eN0))) ?_
              refine zw_const ⟨rfl, rfl⟩ ?_
              refine zw_iast ⟨rfl, rfl⟩ za_123 (by omega) ?_
              refine zw_aload ⟨rfl, rfl⟩ rfl ?_
              refine zw_getR 124 ⟨rfl, rfl⟩ zr_120_13 ?_
              refine zw_aload ⟨rfl, rfl⟩ rfl ?_
              refine zw_getIv (v := N 120 0) ⟨rfl, rfl⟩ zc_120 (by decide) ((zup_na (by decide)).trans ((zup_na (by decide)).trans ((zup_na (by decide)).trans (eN0)))) ?_
              refine zw_const ⟨rfl, rfl⟩ ?_
              refine zw_iast ⟨rfl, rfl⟩ za_124 (by omega) ?_
              refine zw_aload ⟨rfl, rfl⟩ rfl ?_
              refine zw_getR 125 ⟨rfl, rfl⟩ zr_120_14 ?_
              refine zw_aload ⟨rfl, rfl⟩ rfl ?_
              refine zw_getIv (v := N 120 0) ⟨rfl, rfl⟩ zc_120 (by decide) ((zup_na (by decide)).trans ((zup_na (by decide)).trans ((zup_na (by decide)).trans ((zup_na (by decide)).trans (eN0))))) ?_
              refine zw_const ⟨rfl, rfl⟩ ?_
              refine zw_bast3 ⟨rfl, rfl⟩ za_125 (by omega) (by first | exact Or.inl rfl | exact Or.inr rfl | omega) ?_
              refine zw_aload ⟨rfl, rfl⟩ rfl ?_
              refine zw_aload ⟨rfl, rfl⟩ rfl ?_
              refine zw_getR 122 ⟨rfl, rfl⟩ zr_120_11 ?_
              refine zw_aload ⟨rfl, rfl⟩ rfl ?_
              refine zw_getIv (v := N 120 0) ⟨rfl, rfl⟩ zc_120 (by decide) ((zup_na (by decide)).trans ((zup_na (by decide)).trans ((zup_na (by decide)).trans ((zup_na (by decide)).trans ((zup_na (by decide)).trans (eN0)))))) ?_
              refine zw_ialdv (v := p + 1) ⟨rfl, rfl⟩ za_122 (by omega) ((zup_na (by decide)).trans ((zup_na (by decide)).trans ((zup_na (by decide)).trans (zup_eq _ _ _ _)))) ?_
              refine zw_const ⟨rfl, rfl⟩ ?_
              refine zw_icne ⟨rfl, rfl⟩ rfl (fun _ => ?_) (fun q => absurd (by omega) q)
              refine zw_iload ⟨rfl, rfl⟩ rfl ?_
              refine zw_const ⟨rfl, rfl⟩ ?_
              refine zw_iadd ⟨rfl, rfl⟩ (by omega) ?_
              refine zw_putI ⟨rfl, rfl⟩ zc_120 (by decide) (fun h => absurd h (by decide)) ?_
              refine zw_aload ⟨rfl, rfl⟩ rfl ?_
              refine zw_dup ⟨rfl, rfl⟩ (by decide) ?_
              refine zw_getIv (v := N 120 0) ⟨rfl, rfl⟩ zc_120 (by decide) ((zup_ni (by decide)).trans ((zup_na (by decide)).trans ((zup_na (by decide)).trans ((zup_na (by decide)).trans ((zup_na (by decide)).trans ((zup_na (by decide)).trans (eN0))))))) ?_
              refine zw_const ⟨rfl, rfl⟩ ?_
              refine zw_iadd ⟨rfl, rfl⟩ (by omega) ?_
              refine zw_putI ⟨rfl, rfl⟩ zc_120 (by decide) (fun h => absurd h (by decide)) ?_
              refine zw_iinc_2 ⟨rfl, rfl⟩ (by omega) ?_
              refine zw_goto ⟨rfl, rfl⟩ rfl ?_
              have eN : N1 120 = N 120 := by
                by_cases z : N 120 0 = 0
                · rw [p1.1 z]
                · rw [p1.2 z, zup_row (by decide), zup_row (by decide)]
              have e0 : N1 120 0 = N 120 0 := by rw [eN]
              refine ih _ _ ?_ ?_ ?_ ?_ ?_
              · omega
              · have s0 : (zup (zup (zup (zup (zup (zup (zup N1 121 (N 120 0) p) 122 (N 120 0) (p + 1)) 123 (N 120 0) (-1)) 124 (N 120 0) (-1)) 125 (N 120 0) 0) 120 7 (p + 2)) 120 0 ((N 120 0) + 1)) 120 0 = N 120 0 + 1 := by simp [zup, e0]
                rw [s0]
                refine ⟨by omega, fun z => by omega, fun z => ?_, fun z => ?_⟩
                · have := (ypl_lt hK h0 h1 h i2.1.1 (show N 120 0 < N 120 0 + 1 by omega) z)
                  omega
                · rw [show N 120 0 + 1 - 1 = N 120 0 by omega, ← hps]
                  refine ⟨by omega, ?_⟩
                  simp [zup, yq, hn4]
              · refine ⟨fun j q1 q2 => ?_, fun x hx => ?_⟩
                · rw [← i3.1 j q1 q2, ← congrFun eN j]
                  simp [zup, q1, q2]
                · rw [zup_row (by omega), zup_row (by omega), zup_row (by omega), zup_row (by omega), zup_row (by omega), zup_row (by omega), zup_row (by omega), g1 x (by omega)]
                  exact i3.2 x hx
              · have s0 : (zup (zup (zup (zup (zup (zup (zup N1 121 (N 120 0) p) 122 (N 120 0) (p + 1)) 123 (N 120 0) (-1)) 124 (N 120 0) (-1)) 125 (N 120 0) 0) 120 7 (p + 2)) 120 0 ((N 120 0) + 1)) 120 0 = N 120 0 + 1 := by simp [zup, e0]
                rw [s0]
                intro k q1 q2
                by_cases hk : k = N 120 0
                · subst hk
                  rw [← hps]
                  unfold ynk
                  first | rw [if_pos hn4] | rw [if_neg hn4]
                  simp [zup, e0]
                · have i44 := i4 k q1 (by omega)
                  have hz : N 120 0 ≠ 0 := by omega
                  have pp := p1.2 hz
                  have hd := ypl_n hK h0 h1 h (k := N 120 0 - 1) (by omega) (by omega)
                  rw [show N 120 0 - 1 + 1 = N 120 0 by omega] at hd
                  have hr := ync_r hd.2.1
                  have hq := (i2.2.2.2 (by omega)).2
                  rw [if_neg (by omega), if_neg (by omega)]
                  refine ⟨?_, ?_, ?_, ?_, ?_⟩
                  · simp [zup, e0, hk, pp]; exact i44.1
                  · simp [zup, e0, hk, pp]; exact i44.2.1
                  · simp [zup, e0, hk, pp]; exact i44.2.2.1
                  · simp [zup, e0, hk, pp]
                    by_cases hk2 : k = N 120 0 - 1
                    · subst hk2
                      simp
                      rw [hq]
                      unfold yvi
                      rw [if_neg hd.2.1]
                    · rw [if_neg hk2]
                      have := i44.2.2.2.1
                      rw [if_neg (by omega)] at this
                      exact this
                  · simp [zup, e0, hk, pp]
                    by_cases hk2 : k = N 120 0 - 1
                    · subst hk2
                      simp
                      unfold yjo
                      rw [if_neg hd.2.1]
                      have i45 := i44.2.2.2.2
                      rw [if_pos (by omega)] at i45
                      rw [hd.1, ← hps] at hr
                      by_cases hj : K (yq K (ypl K b (N 120 0 - 1)) + 1) = 12 ∨ K (yq K (ypl K b (N 120 0 - 1)) + 1) = 13
                      · have e2 := hr.2.2.2.mpr hj
                        rw [if_pos hj, if_pos (by rw [show p - 1 = yq K (ypl K b (N 120 0 - 1)) + 1 by omega]; exact hj)]
                        omega
                      · have e2 : p = yq K (ypl K b (N 120 0 - 1)) + 1 := by
                          have : p ≠ yq K (ypl K b (N 120 0 - 1)) + 2 := fun z => hj (hr.2.2.2.mp z)
                          omega
                        rw [if_neg hj, if_neg (by rw [show p - 1 = yq K (ypl K b (N 120 0 - 1)) by omega, hr.2.2.1]; decide)]
                        exact i45
                    · rw [if_neg hk2]
                      have := i44.2.2.2.2
                      rw [if_neg (by omega)] at this
                      exact this
              · omega
end

theorem m_readChain {b : Int} {M : zM} {Q : zV → zM → Prop} {K : Int → Int} {n : Int} (hK : yKr K n) (hC : yCut M K n) (h0 : 0 ≤ b) (h1 : b < n) (hb : ybg K b) (h : K b = 1) (hM : M 120 5 = b ∧ M 120 6 = yov K b) (k : ∀ N : zM, (N 120 0 = ym K b ∧ N 120 7 = ytl K b ∧ (∀ j, j ≠ 0 → j ≠ 7 → N 120 j = M 120 j) ∧ (∀ k, 0 ≤ k → k < ym K b → N 121 k = ypl K b k ∧ N 122 k = ynk K (ypl K b k) ∧ N 123 k = yvi K (ypl K b k) ∧ N 124 k = yjo K (ypl K b k) ∧ N 125 k = 0) ∧ ∀ x, ¬ (120 ≤ x ∧ x ≤ 125) → N x = M x) → Q (3, 0) N) (hz : M 120 0 = 0) : zWp kAn_readChain 0 [(1, 120), (1, 105), (3, 0)] [] M Q := by
  refine zw_aload ⟨rfl, rfl⟩ rfl ?_
  refine zw_getIv (v := M 120 5) ⟨rfl, rfl⟩ zc_120 (by decide) rfl ?_
  refine zw_istore_2 ⟨rfl, rfl⟩ ?_
  have hov := yov_sp hK h0 h1 hb
  have hm := ym_r hK h0 h1 h
  rw [hM.1]
  refine m_readChain_l hK hC h0 h1 hb h hM k _ _ _ (by omega) ?_ ⟨fun _ _ _ => rfl, fun _ _ => rfl⟩ ?_ (Nat.lt_succ_self _)
  · rw [hz]; exact ⟨by omega, fun _ => rfl, fun _ => by rw [ypl_0]; exact Int.le_refl _, fun z => by omega⟩
  · intro j q1 q2; omega
