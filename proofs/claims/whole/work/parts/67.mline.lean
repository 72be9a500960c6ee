/-! A script's text: the model's rows, lines -/
theorem yhb_sh {m l : Int} (hm : 0 ≤ m ∧ m < 2147483648) (hl : 0 ≤ l ∧ l ≤ 30) : zand (m / 2 ^ (Int.toNat l)) 1 = yhb m l := by
  unfold yhb zushr
  by_cases q : l = 0
  · rw [q, if_pos rfl]
    show zand (m / 2 ^ 0) 1 = _
    rw [show (2 : Int) ^ 0 = 1 from rfl, Int.ediv_one]
  · rw [if_neg q, show m % 4294967296 = m by omega]
theorem yTd.e {M : zM} {τ τ' : yS} (h : yTd M τ) (e : ∀ j, 1 ≤ j → j < 122 → τ j = τ' j) : yTd M τ' := fun j j1 j2 => (h j j1 j2).trans (e j j1 j2)
section
set_option maxHeartbeats 4000000
theorem m_MrowLetter {b i : Int} {tp : Int → Int} {n : Int} {M : zM} {Q : zV → zM → Prop} (hI : yIm M tp n) (hb : 0 ≤ b + i ∧ b + i < n) (hl : 97 ≤ tp (b + i) ∧ tp (b + i) ≤ 122) (k : Q (0, tp (b + i) - 97) M) : zWp kM_rowLetter 0 [(1, 208), (0, b), (0, i)] [] M Q := by
  have hn := hI.1.2
  have hz := zby_l hl
  refine zw_aload ⟨rfl, rfl⟩ rfl ?_
  refine zw_getR 236 ⟨rfl, rfl⟩ zr_208_34 ?_
  refine zw_iload ⟨rfl, rfl⟩ rfl ?_
  refine zw_iload ⟨rfl, rfl⟩ rfl ?_
  refine zw_iadd ⟨rfl, rfl⟩ (by omega) ?_
  refine zw_baldv (v := zbyte (tp (b + i))) ⟨rfl, rfl⟩ za_236 (by decide) (by omega) ((hI.2.1 (b + i) (by omega) (by omega)).1) ?_
  refine zw_const ⟨rfl, rfl⟩ ?_
  refine zw_isub ⟨rfl, rfl⟩ (by omega) ?_
  refine zw_ret rfl ?_
  rw [zby_l hl]
  exact k

theorem m_MtK_l {w b len : Int} {τ : yS} {tp : Int → Int} {n : Int} {M : zM} {Q : zV → zM → Prop} (hI : yIm M tp n) (hl : yLet tp b len) (hb : 0 ≤ b ∧ 0 ≤ len ∧ b + len ≤ n) (hw : 1 ≤ w ∧ w ≤ 13 ∧ w ≠ 9) (kk : ∀ P : zM, (∀ x, x ≠ 237 → P x = M x) → ((ytK tp b w len τ).1 = 1 → yTd P (ytK tp b w len τ).2) → Q (0, (ytK tp b w len τ).1) P) : ∀ (f0 : Nat) (j : Int) (u5 : zV) (P : zM), (0 ≤ j ∧ j ≤ len) → ((ytK tp b w j τ).1 = 1) → (yTd P (ytK tp b w j τ).2) → (∀ x, x ≠ 237 → P x = M x) → (len - j).toNat < f0 → zWp kM_isTold 64 [(1, 208), (0, w), (0, b), (0, len), (0, j), u5] [] P Q := by
  intro f0
  induction f0 with
  | zero => intro j u5 P i1 i2 i3 iF hf0; exact absurd hf0 (Nat.not_lt_zero _)
  | succ f0 ih =>
    intro j u5 P i1 i2 i3 iF hf0
    have hn := hI.1.2
    refine zw_iload ⟨rfl, rfl⟩ rfl ?_
    refine zw_iload ⟨rfl, rfl⟩ rfl ?_
    refine zw_icge ⟨rfl, rfl⟩ rfl (fun c1 => ?_) (fun c1 => ?_)
    · skip
      refine zw_const ⟨rfl, rfl⟩ ?_
      refine zw_zret rfl (by first | exact Or.inl rfl | exact Or.inr rfl | omega) ?_
      have ej : j = len := by omega
      subst ej
      rw [i2] at kk
      exact kk _ iF (fun _ => i3)
    · skip
      have hlj := hl j (by omega) (by omega)
      have es := ytK_s tp b w τ i1.1
      refine zw_aload ⟨rfl, rfl⟩ rfl ?_
      refine zw_iload ⟨rfl, rfl⟩ rfl ?_
      refine zw_iload ⟨rfl, rfl⟩ rfl ?_
      refine zw_callv3 ⟨rfl, rfl⟩ rfl zc_208 rfl ?_
      refine m_MrowLetter (hI.cg (iF 236 (by decide)) (iF 238 (by decide)) (congrFun (iF 208 (by decide)) 36)) ⟨by omega, by omega⟩ (hl j (by omega) (by omega)) ?_
      refine zw_istore_5 ⟨rfl, rfl⟩ ?_
      refine zw_aload ⟨rfl, rfl⟩ rfl ?_
      refine zw_getR 237 ⟨rfl, rfl⟩ zr_208_40 ?_
      refine zw_const ⟨rfl, rfl⟩ ?_
      refine zw_iload ⟨rfl, rfl⟩ rfl ?_
      refine zw_iadd ⟨rfl, rfl⟩ (by omega) ?_
      refine zw_ialdv (v := (ytK tp b w j τ).2 (2 + (tp (b + j) - 97))) ⟨rfl, rfl⟩ za_237 (by omega) (i3 _ (by omega) (by omega)) ?_
      refine zw_ifeq ⟨rfl, rfl⟩ rfl (fun c2 => ?_) (fun c2 => ?_)
      · skip
        refine zw_aload ⟨rfl, rfl⟩ rfl ?_
        refine zw_getR 237 ⟨rfl, rfl⟩ zr_208_40 ?_
        refine zw_const ⟨rfl, rfl⟩ ?_
        refine zw_iload ⟨rfl, rfl⟩ rfl ?_
        refine zw_iadd ⟨rfl, rfl⟩ (by omega) ?_
        refine zw_iload ⟨rfl, rfl⟩ rfl ?_
        refine zw_iast ⟨rfl, rfl⟩ za_237 (by omega) ?_
        refine zw_iinc_4 ⟨rfl, rfl⟩ (by omega) ?_
        refine zw_goto ⟨rfl, rfl⟩ rfl ?_
        have es2 : ytK tp b w (j + 1) τ = (1, fun q => if q = 2 + (tp (b + j) - 97) then w else (ytK tp b w j τ).2 q) := es.trans (if_pos ⟨i2, by omega⟩)
        refine ih _ _ _ ⟨by omega, by omega⟩ (by rw [es2]) ?_ (fun x hx => (zup_row hx).trans (iF x hx)) (by omega)
        rw [es2]
        exact i3.up
      · skip
        refine zw_const ⟨rfl, rfl⟩ ?_
        refine zw_zret rfl (by first | exact Or.inl rfl | exact Or.inr rfl | omega) ?_
        have e0 : (ytK tp b w (j + 1) τ).1 = 0 := by rw [es]; unfold yk1; rw [if_neg (fun z => by have := z.2; omega)]
        rw [ytK_f (by omega) e0 len (by omega)] at kk
        exact kk _ iF (fun z => absurd z (by decide))

theorem m_MtM_l {b len x : Int} {τ : yS} {tp : Int → Int} {n : Int} {M : zM} {Q : zV → zM → Prop} (hI : yIm M tp n) (hl : yLet tp b len) (hb : 0 ≤ b ∧ 0 ≤ len ∧ b + len ≤ n) (hx : x = 1 ∨ x = 2 ∨ x = 4) (hV : yVt τ) (kk : ∀ P : zM, (∀ x, x ≠ 237 → P x = M x) → ((ytM tp b x len τ).1 = 1 → yTd P (ytM tp b x len τ).2.2) → Q (0, (ytM tp b x len τ).1) P) : ∀ (f0 : Nat) (m j : Int) (u6 : zV) (P : zM), (0 ≤ j ∧ j ≤ len) → ((ytM tp b x j τ).1 = 1) → (m = (ytM tp b x j τ).2.1) → (yTd P (ytM tp b x j τ).2.2) → (∀ x, x ≠ 237 → P x = M x) → (len - j).toNat < f0 → zWp kM_areMeant 4 [(1, 208), (0, b), (0, len), (0, x), (0, m), (0, j), u6] [] P Q := by
  intro f0
  induction f0 with
  | zero => intro m j u6 P i1 i2 i3 i4 iF hf0; exact absurd hf0 (Nat.not_lt_zero _)
  | succ f0 ih =>
    intro m j u6 P i1 i2 i3 i4 iF hf0
    have hn := hI.1.2
    have hm0 := (yMx_s (x := x) (τ := τ) hl j i1.1 i1.2 i2)
    have hmr : 0 ≤ m ∧ m < 2147483648 := by rw [i3]; exact hm0.1
    have hmv := yMx_V hV hx hm0
    refine zw_iload ⟨rfl, rfl⟩ rfl ?_
    refine zw_iload ⟨rfl, rfl⟩ rfl ?_
    refine zw_icge ⟨rfl, rfl⟩ rfl (fun c1 => ?_) (fun c1 => ?_)
    · skip
      refine zw_const ⟨rfl, rfl⟩ ?_
      refine zw_zret rfl (by first | exact Or.inl rfl | exact Or.inr rfl | omega) ?_
      have ej : j = len := by omega
      subst ej
      rw [i2] at kk
      exact kk _ iF (fun _ => i4)
    · skip
      have hlj := hl j (by omega) (by omega)
      have es := ytM_s tp b x τ i1.1
      have h2p := y2p (l := (tp (b + j) - 97)) (by omega)
      have hsh := yhb_sh hmr (l := (tp (b + j) - 97)) (by omega)
      have hd7 := (hmv.1.2.2.1 (tp (b + j) - 97) (by omega) (by omega)).2
      refine zw_aload ⟨rfl, rfl⟩ rfl ?_
      refine zw_iload ⟨rfl, rfl⟩ rfl ?_
      refine zw_iload ⟨rfl, rfl⟩ rfl ?_
      refine zw_callv3 ⟨rfl, rfl⟩ rfl zc_208 rfl ?_
      refine m_MrowLetter (hI.cg (iF 236 (by decide)) (iF 238 (by decide)) (congrFun (iF 208 (by decide)) 36)) ⟨by omega, by omega⟩ (hl j (by omega) (by omega)) ?_
      refine zw_istore_6 ⟨rfl, rfl⟩ ?_
      refine zw_aload ⟨rfl, rfl⟩ rfl ?_
      refine zw_getR 237 ⟨rfl, rfl⟩ zr_208_40 ?_
      refine zw_const ⟨rfl, rfl⟩ ?_
      refine zw_iload ⟨rfl, rfl⟩ rfl ?_
      refine zw_iadd ⟨rfl, rfl⟩ (by omega) ?_
      refine zw_ialdv (v := (ytM tp b x j τ).2.2 (2 + (tp (b + j) - 97))) ⟨rfl, rfl⟩ za_237 (by omega) (i4 _ (by omega) (by omega)) ?_
      refine zw_const ⟨rfl, rfl⟩ ?_
      refine zw_icne ⟨rfl, rfl⟩ rfl (fun c2 => ?_) (fun c2 => ?_)
      · skip
        refine zw_const ⟨rfl, rfl⟩ ?_
        refine zw_zret rfl (by first | exact Or.inl rfl | exact Or.inr rfl | omega) ?_
        have e0 : (ytM tp b x (j + 1) τ).1 = 0 := by rw [es]; unfold yme1; rw [if_neg (fun z => by have z1 := z.2.1; have z2 := z.2.2; rw [← i3] at z2; omega)]
        rw [ytM_f (by omega) e0 len (by omega)] at kk
        exact kk _ iF (fun z => absurd z (by decide))
      · skip
        refine zw_iload ⟨rfl, rfl⟩ rfl ?_
        refine zw_iload ⟨rfl, rfl⟩ rfl ?_
        refine zw_ishr ⟨rfl, rfl⟩ (by omega) ?_
        refine zw_const ⟨rfl, rfl⟩ ?_
        refine zw_iand ⟨rfl, rfl⟩ (by omega) ?_
        refine zw_const ⟨rfl, rfl⟩ ?_
        refine zw_icne ⟨rfl, rfl⟩ rfl (fun c3 => ?_) (fun c3 => ?_)
        · skip
          refine zw_iload ⟨rfl, rfl⟩ rfl ?_
          refine zw_const ⟨rfl, rfl⟩ ?_
          refine zw_iload ⟨rfl, rfl⟩ rfl ?_
          refine zw_ishl ⟨rfl, rfl⟩ (by omega) ?_
          refine zw_ior ⟨rfl, rfl⟩ (by omega) ?_
          refine zw_istore_4 ⟨rfl, rfl⟩ ?_
          refine zw_aload ⟨rfl, rfl⟩ rfl ?_
          refine zw_getR 237 ⟨rfl, rfl⟩ zr_208_40 ?_
          refine zw_const ⟨rfl, rfl⟩ ?_
          refine zw_iload ⟨rfl, rfl⟩ rfl ?_
          refine zw_iadd ⟨rfl, rfl⟩ (by omega) ?_
          refine zw_dup2 ⟨rfl, rfl⟩ ⟨by decide, by decide⟩ ?_
          refine zw_ialdv (v := (ytM tp b x j τ).2.2 (28 + (tp (b + j) - 97))) ⟨rfl, rfl⟩ za_237 (by omega) (i4 _ (by omega) (by omega)) ?_
          refine zw_iload ⟨rfl, rfl⟩ rfl ?_
          refine zw_ior ⟨rfl, rfl⟩ (by omega) ?_
          refine zw_iast ⟨rfl, rfl⟩ za_237 (by omega) ?_
          refine zw_iinc_5 ⟨rfl, rfl⟩ (by omega) ?_
          refine zw_goto ⟨rfl, rfl⟩ rfl ?_
          have es2 := es.trans (if_pos ⟨i2, by omega, by rw [← i3]; omega⟩)
          refine ih _ _ _ _ ⟨by omega, by omega⟩ (by rw [es2]) (by rw [es2, i3]) ?_ (fun x hx => (zup_row hx).trans (iF x hx)) (by omega)
          rw [es2]
          exact i4.up
        · skip
          refine zw_const ⟨rfl, rfl⟩ ?_
          refine zw_zret rfl (by first | exact Or.inl rfl | exact Or.inr rfl | omega) ?_
          have e0 : (ytM tp b x (j + 1) τ).1 = 0 := by rw [es]; unfold yme1; rw [if_neg (fun z => by have z1 := z.2.1; have z2 := z.2.2; rw [← i3] at z2; omega)]
          rw [ytM_f (by omega) e0 len (by omega)] at kk
          exact kk _ iF (fun z => absurd z (by decide))

theorem m_MareMeant {b len x : Int} {τ : yS} {tp : Int → Int} {n : Int} {M : zM} {Q : zV → zM → Prop} (hI : yIm M tp n) (hl : yLet tp b len) (hb : 0 ≤ b ∧ 0 ≤ len ∧ b + len ≤ n) (hx : x = 1 ∨ x = 2 ∨ x = 4) (hV : yVt τ) (kk : ∀ P : zM, (∀ x, x ≠ 237 → P x = M x) → ((ytM tp b x len τ).1 = 1 → yTd P (ytM tp b x len τ).2.2) → Q (0, (ytM tp b x len τ).1) P) (hT : yTd M τ) : zWp kM_areMeant 0 [(1, 208), (0, b), (0, len), (0, x), (3, 0), (3, 0), (3, 0)] [] M Q := by
  refine zw_const ⟨rfl, rfl⟩ ?_
  refine zw_istore_4 ⟨rfl, rfl⟩ ?_
  refine zw_const ⟨rfl, rfl⟩ ?_
  refine zw_istore_5 ⟨rfl, rfl⟩ ?_
  have e0 : ytM tp b x 0 τ = (1, 0, τ) := yfo_0 _ (Int.le_refl _) _
  exact m_MtM_l hI hl hb hx hV kk _ _ _ _ _ ⟨Int.le_refl _, hb.2.1⟩ (by rw [e0]) (by rw [e0]) (by rw [e0]; exact hT) (fun _ _ => rfl) (Nat.lt_succ_self _)

theorem m_MisSplit {b len : Int} {τ : yS} {tp : Int → Int} {n : Int} {M : zM} {Q : zV → zM → Prop} (hI : yIm M tp n) (hl : yLet tp b len) (hb : 0 ≤ b ∧ 0 ≤ len ∧ b + len ≤ n) (hV : yVt τ) (hT : yTd M τ) (kk : ∀ P : zM, (∀ x, x ≠ 237 → P x = M x) → ((ytS tp b len τ).1 = 1 → yTd P (ytS tp b len τ).2) → Q (0, (ytS tp b len τ).1) P) : zWp kM_isSplit 0 [(1, 208), (0, b), (0, len), (3, 0), (3, 0), (3, 0)] [] M Q := by
  have hn := hI.1.2
  refine zw_iload ⟨rfl, rfl⟩ rfl ?_
  refine zw_const ⟨rfl, rfl⟩ ?_
  refine zw_iceq ⟨rfl, rfl⟩ rfl (fun c1 => ?_) (fun c1 => ?_)
  · skip
    have hl0 := hl 0 (by decide) (by omega)
    have hl1 := hl 1 (by decide) (by omega)
    have hl2 := hl 2 (by decide) (by omega)
    refine zw_aload ⟨rfl, rfl⟩ rfl ?_
    refine zw_iload ⟨rfl, rfl⟩ rfl ?_
    refine zw_const ⟨rfl, rfl⟩ ?_
    refine zw_callv3 ⟨rfl, rfl⟩ rfl zc_208 rfl ?_
    refine m_MrowLetter (hI) ⟨by omega, by omega⟩ (hl 0 (by omega) (by omega)) ?_
    refine zw_istore_3 ⟨rfl, rfl⟩ ?_
    refine zw_aload ⟨rfl, rfl⟩ rfl ?_
    refine zw_iload ⟨rfl, rfl⟩ rfl ?_
    refine zw_const ⟨rfl, rfl⟩ ?_
    refine zw_callv3 ⟨rfl, rfl⟩ rfl zc_208 rfl ?_
    refine m_MrowLetter (hI) ⟨by omega, by omega⟩ (hl 1 (by omega) (by omega)) ?_
    refine zw_istore_4 ⟨rfl, rfl⟩ ?_
    refine zw_aload ⟨rfl, rfl⟩ rfl ?_
    refine zw_iload ⟨rfl, rfl⟩ rfl ?_
    refine zw_const ⟨rfl, rfl⟩ ?_
    refine zw_callv3 ⟨rfl, rfl⟩ rfl zc_208 rfl ?_
    refine m_MrowLetter (hI) ⟨by omega, by omega⟩ (hl 2 (by omega) (by omega)) ?_
    refine zw_istore_5 ⟨rfl, rfl⟩ ?_
    refine zw_aload ⟨rfl, rfl⟩ rfl ?_
    refine zw_getR 237 ⟨rfl, rfl⟩ zr_208_40 ?_
    refine zw_const ⟨rfl, rfl⟩ ?_
    refine zw_iload ⟨rfl, rfl⟩ rfl ?_
    refine zw_iadd ⟨rfl, rfl⟩ (by omega) ?_
    refine zw_ialdv (v := τ (2 + (tp (b + 0) - 97))) ⟨rfl, rfl⟩ za_237 (by omega) (hT _ (by omega) (by omega)) ?_
    refine zw_ifne ⟨rfl, rfl⟩ rfl (fun c2 => ?_) (fun c2 => ?_)
    · skip
      refine zw_const ⟨rfl, rfl⟩ ?_
      refine zw_zret rfl (by first | exact Or.inl rfl | exact Or.inr rfl | omega) ?_
      rw [show ytS tp b len τ = (0, τ) from if_neg (fun z => by omega)] at kk
      exact kk _ (fun _ _ => rfl) (fun z => absurd z (by show ¬ ((0 : Int) = 1); decide))
    · skip
      refine zw_aload ⟨rfl, rfl⟩ rfl ?_
      refine zw_getR 237 ⟨rfl, rfl⟩ zr_208_40 ?_
      refine zw_const ⟨rfl, rfl⟩ ?_
      refine zw_iload ⟨rfl, rfl⟩ rfl ?_
      refine zw_iadd ⟨rfl, rfl⟩ (by omega) ?_
      refine zw_ialdv (v := τ (2 + (tp (b + 1) - 97))) ⟨rfl, rfl⟩ za_237 (by omega) (hT _ (by omega) (by omega)) ?_
      refine zw_i2l ⟨rfl, rfl⟩ ?_
      refine zw_lconst ⟨rfl, rfl⟩ ?_
      refine zw_lconst ⟨rfl, rfl⟩ ?_
      refine zw_calLs3 ⟨rfl, rfl⟩ rfl rfl ?_
      refine zw_lload ⟨rfl, rfl⟩ rfl ?_
      refine zw_lload ⟨rfl, rfl⟩ rfl ?_
      refine zw_lcmp ⟨rfl, rfl⟩ ?_
      refine zw_iflt ⟨rfl, rfl⟩ rfl (fun c3 => ?_) (fun c3 => ?_)
      · replace c3 := zlc_lt.mp c3
        refine zw_const ⟨rfl, rfl⟩ ?_
        refine zw_zret rfl (by first | exact Or.inl rfl | exact Or.inr rfl | omega) ?_
        refine zw_ifeq ⟨rfl, rfl⟩ rfl (fun _ => ?_) (fun q => absurd (by decide) q)
        refine zw_const ⟨rfl, rfl⟩ ?_
        refine zw_zret rfl (by first | exact Or.inl rfl | exact Or.inr rfl | omega) ?_
        rw [show ytS tp b len τ = (0, τ) from if_neg (fun z => by omega)] at kk
        exact kk _ (fun _ _ => rfl) (fun z => absurd z (by show ¬ ((0 : Int) = 1); decide))
      · replace c3 := (not_congr zlc_lt).mp c3
        refine zw_lload ⟨rfl, rfl⟩ rfl ?_
        refine zw_lload ⟨rfl, rfl⟩ rfl ?_
        refine zw_lcmp ⟨rfl, rfl⟩ ?_
        refine zw_ifgt ⟨rfl, rfl⟩ rfl (fun c5 => ?_) (fun c5 => ?_)
        · replace c5 := zlc_gt.mp c5
          refine zw_const ⟨rfl, rfl⟩ ?_
          refine zw_zret rfl (by first | exact Or.inl rfl | exact Or.inr rfl | omega) ?_
          refine zw_ifeq ⟨rfl, rfl⟩ rfl (fun _ => ?_) (fun q => absurd (by decide) q)
          refine zw_const ⟨rfl, rfl⟩ ?_
          refine zw_zret rfl (by first | exact Or.inl rfl | exact Or.inr rfl | omega) ?_
          rw [show ytS tp b len τ = (0, τ) from if_neg (fun z => by omega)] at kk
          exact kk _ (fun _ _ => rfl) (fun z => absurd z (by show ¬ ((0 : Int) = 1); decide))
        · replace c5 := (not_congr zlc_gt).mp c5
          refine zw_const ⟨rfl, rfl⟩ ?_
          refine zw_goto ⟨rfl, rfl⟩ rfl ?_
          refine zw_zret rfl (by first | exact Or.inl rfl | exact Or.inr rfl | omega) ?_
          refine zw_ifeq ⟨rfl, rfl⟩ rfl (fun q => absurd q (by decide)) (fun _ => ?_)
          refine zw_aload ⟨rfl, rfl⟩ rfl ?_
          refine zw_getR 237 ⟨rfl, rfl⟩ zr_208_40 ?_
          refine zw_const ⟨rfl, rfl⟩ ?_
          refine zw_iload ⟨rfl, rfl⟩ rfl ?_
          refine zw_iadd ⟨rfl, rfl⟩ (by omega) ?_
          refine zw_ialdv (v := τ (2 + (tp (b + 2) - 97))) ⟨rfl, rfl⟩ za_237 (by omega) (hT _ (by omega) (by omega)) ?_
          refine zw_i2l ⟨rfl, rfl⟩ ?_
          refine zw_lconst ⟨rfl, rfl⟩ ?_
          refine zw_lconst ⟨rfl, rfl⟩ ?_
          refine zw_calLs3 ⟨rfl, rfl⟩ rfl rfl ?_
          refine zw_lload ⟨rfl, rfl⟩ rfl ?_
          refine zw_lload ⟨rfl, rfl⟩ rfl ?_
          refine zw_lcmp ⟨rfl, rfl⟩ ?_
          refine zw_iflt ⟨rfl, rfl⟩ rfl (fun c8 => ?_) (fun c8 => ?_)
          · replace c8 := zlc_lt.mp c8
            refine zw_const ⟨rfl, rfl⟩ ?_
            refine zw_zret rfl (by first | exact Or.inl rfl | exact Or.inr rfl | omega) ?_
            refine zw_ifne ⟨rfl, rfl⟩ rfl (fun q => absurd q (by decide)) (fun _ => ?_)
            refine zw_const ⟨rfl, rfl⟩ ?_
            refine zw_zret rfl (by first | exact Or.inl rfl | exact Or.inr rfl | omega) ?_
            rw [show ytS tp b len τ = (0, τ) from if_neg (fun z => by omega)] at kk
            exact kk _ (fun _ _ => rfl) (fun z => absurd z (by show ¬ ((0 : Int) = 1); decide))
          · replace c8 := (not_congr zlc_lt).mp c8
            refine zw_lload ⟨rfl, rfl⟩ rfl ?_
            refine zw_lload ⟨rfl, rfl⟩ rfl ?_
            refine zw_lcmp ⟨rfl, rfl⟩ ?_
            refine zw_ifgt ⟨rfl, rfl⟩ rfl (fun c10 => ?_) (fun c10 => ?_)
            · replace c10 := zlc_gt.mp c10
              refine zw_const ⟨rfl, rfl⟩ ?_
              refine zw_zret rfl (by first | exact Or.inl rfl | exact Or.inr rfl | omega) ?_
              refine zw_ifne ⟨rfl, rfl⟩ rfl (fun q => absurd q (by decide)) (fun _ => ?_)
              refine zw_const ⟨rfl, rfl⟩ ?_
              refine zw_zret rfl (by first | exact Or.inl rfl | exact Or.inr rfl | omega) ?_
              rw [show ytS tp b len τ = (0, τ) from if_neg (fun z => by omega)] at kk
              exact kk _ (fun _ _ => rfl) (fun z => absurd z (by show ¬ ((0 : Int) = 1); decide))
            · replace c10 := (not_congr zlc_gt).mp c10
              refine zw_const ⟨rfl, rfl⟩ ?_
              refine zw_goto ⟨rfl, rfl⟩ rfl ?_
              refine zw_zret rfl (by first | exact Or.inl rfl | exact Or.inr rfl | omega) ?_
              refine zw_ifne ⟨rfl, rfl⟩ rfl (fun _ => ?_) (fun q => absurd (by decide) q)
              refine zw_aload ⟨rfl, rfl⟩ rfl ?_
              refine zw_getR 237 ⟨rfl, rfl⟩ zr_208_40 ?_
              refine zw_const ⟨rfl, rfl⟩ ?_
              refine zw_iload ⟨rfl, rfl⟩ rfl ?_
              refine zw_iadd ⟨rfl, rfl⟩ (by omega) ?_
              refine zw_const ⟨rfl, rfl⟩ ?_
              refine zw_iast ⟨rfl, rfl⟩ za_237 (by omega) ?_
              refine zw_aload ⟨rfl, rfl⟩ rfl ?_
              refine zw_getR 237 ⟨rfl, rfl⟩ zr_208_40 ?_
              refine zw_const ⟨rfl, rfl⟩ ?_
              refine zw_iload ⟨rfl, rfl⟩ rfl ?_
              refine zw_iadd ⟨rfl, rfl⟩ (by omega) ?_
              refine zw_iload ⟨rfl, rfl⟩ rfl ?_
              refine zw_iast ⟨rfl, rfl⟩ za_237 (by omega) ?_
              refine zw_aload ⟨rfl, rfl⟩ rfl ?_
              refine zw_getR 237 ⟨rfl, rfl⟩ zr_208_40 ?_
              refine zw_const ⟨rfl, rfl⟩ ?_
              refine zw_iload ⟨rfl, rfl⟩ rfl ?_
              refine zw_iadd ⟨rfl, rfl⟩ (by omega) ?_
              refine zw_iload ⟨rfl, rfl⟩ rfl ?_
              refine zw_iast ⟨rfl, rfl⟩ za_237 (by omega) ?_
              refine zw_const ⟨rfl, rfl⟩ ?_
              refine zw_zret rfl (by first | exact Or.inl rfl | exact Or.inr rfl | omega) ?_
              have e : ytS tp b len τ = (1, yAS τ (tp (b + 0) - 97) (tp (b + 1) - 97) (tp (b + 2) - 97)) := if_pos ⟨by omega, by omega, ⟨by omega, by omega⟩, by omega, by omega⟩
              rw [e] at kk
              refine kk _ (fun x hx => (zup_row hx).trans ((zup_row hx).trans (zup_row hx))) (fun _ => (((hT.up).up).up).e (fun j j1 j2 => ?_))
              show _ = yAS τ (tp (b + 0) - 97) (tp (b + 1) - 97) (tp (b + 2) - 97) j
              unfold yAS
              try dsimp only
              (repeat' split) <;> first | rfl | (exfalso; omega)
  · skip
    refine zw_const ⟨rfl, rfl⟩ ?_
    refine zw_zret rfl (by first | exact Or.inl rfl | exact Or.inr rfl | omega) ?_
    rw [show ytS tp b len τ = (0, τ) from if_neg (fun z => by omega)] at kk
    exact kk _ (fun _ _ => rfl) (fun z => absurd z (by show ¬ ((0 : Int) = 1); decide))

theorem m_MisPair {b len : Int} {τ : yS} {tp : Int → Int} {n : Int} {M : zM} {Q : zV → zM → Prop} (hI : yIm M tp n) (hl : yLet tp b len) (hb : 0 ≤ b ∧ 0 ≤ len ∧ b + len ≤ n) (hV : yVt τ) (hT : yTd M τ) (kk : ∀ P : zM, (∀ x, x ≠ 237 → P x = M x) → ((ytP tp b len τ).1 = 1 → yTd P (ytP tp b len τ).2) → Q (0, (ytP tp b len τ).1) P) : zWp kM_isPair 0 [(1, 208), (0, b), (0, len), (3, 0), (3, 0)] [] M Q := by
  have hn := hI.1.2
  have h8 := hV.1.2.1
  refine zw_iload ⟨rfl, rfl⟩ rfl ?_
  refine zw_const ⟨rfl, rfl⟩ ?_
  refine zw_icne ⟨rfl, rfl⟩ rfl (fun c1 => ?_) (fun c1 => ?_)
  · skip
    refine zw_const ⟨rfl, rfl⟩ ?_
    refine zw_zret rfl (by first | exact Or.inl rfl | exact Or.inr rfl | omega) ?_
    rw [show ytP tp b len τ = (0, τ) from if_neg (fun z => by omega)] at kk
    exact kk _ (fun _ _ => rfl) (fun z => absurd z (by show ¬ ((0 : Int) = 1); decide))
  · skip
    refine zw_aload ⟨rfl, rfl⟩ rfl ?_
    refine zw_getR 237 ⟨rfl, rfl⟩ zr_208_40 ?_
    refine zw_const ⟨rfl, rfl⟩ ?_
    refine zw_ialdv (v := τ 1) ⟨rfl, rfl⟩ za_237 (by omega) (hT 1 (by decide) (by decide)) ?_
    refine zw_const ⟨rfl, rfl⟩ ?_
    refine zw_icne ⟨rfl, rfl⟩ rfl (fun c2 => ?_) (fun c2 => ?_)
    · skip
      have hl0 := hl 0 (by decide) (by omega)
      have hl1 := hl 1 (by decide) (by omega)
      refine zw_aload ⟨rfl, rfl⟩ rfl ?_
      refine zw_iload ⟨rfl, rfl⟩ rfl ?_
      refine zw_const ⟨rfl, rfl⟩ ?_
      refine zw_callv3 ⟨rfl, rfl⟩ rfl zc_208 rfl ?_
      refine m_MrowLetter (hI) ⟨by omega, by omega⟩ (hl 0 (by omega) (by omega)) ?_
      refine zw_istore_3 ⟨rfl, rfl⟩ ?_
      refine zw_aload ⟨rfl, rfl⟩ rfl ?_
      refine zw_iload ⟨rfl, rfl⟩ rfl ?_
      refine zw_const ⟨rfl, rfl⟩ ?_
      refine zw_callv3 ⟨rfl, rfl⟩ rfl zc_208 rfl ?_
      refine m_MrowLetter (hI) ⟨by omega, by omega⟩ (hl 1 (by omega) (by omega)) ?_
      refine zw_istore_4 ⟨rfl, rfl⟩ ?_
      refine zw_aload ⟨rfl, rfl⟩ rfl ?_
      refine zw_getR 237 ⟨rfl, rfl⟩ zr_208_40 ?_
      refine zw_const ⟨rfl, rfl⟩ ?_
      refine zw_iload ⟨rfl, rfl⟩ rfl ?_
      refine zw_iadd ⟨rfl, rfl⟩ (by omega) ?_
      refine zw_ialdv (v := τ (2 + (tp (b + 0) - 97))) ⟨rfl, rfl⟩ za_237 (by omega) (hT _ (by omega) (by omega)) ?_
      refine zw_const ⟨rfl, rfl⟩ ?_
      refine zw_icne ⟨rfl, rfl⟩ rfl (fun c3 => ?_) (fun c3 => ?_)
      · skip
        refine zw_const ⟨rfl, rfl⟩ ?_
        refine zw_zret rfl (by first | exact Or.inl rfl | exact Or.inr rfl | omega) ?_
        rw [show ytP tp b len τ = (0, τ) from if_neg (fun z => by omega)] at kk
        exact kk _ (fun _ _ => rfl) (fun z => absurd z (by show ¬ ((0 : Int) = 1); decide))
      · skip
        refine zw_aload ⟨rfl, rfl⟩ rfl ?_
        refine zw_getR 237 ⟨rfl, rfl⟩ zr_208_40 ?_
        refine zw_const ⟨rfl, rfl⟩ ?_
        refine zw_iload ⟨rfl, rfl⟩ rfl ?_
        refine zw_iadd ⟨rfl, rfl⟩ (by omega) ?_
        refine zw_ialdv (v := τ (2 + (tp (b + 1) - 97))) ⟨rfl, rfl⟩ za_237 (by omega) (hT _ (by omega) (by omega)) ?_
        refine zw_const ⟨rfl, rfl⟩ ?_
        refine zw_icne ⟨rfl, rfl⟩ rfl (fun c4 => ?_) (fun c4 => ?_)
        · skip
          refine zw_const ⟨rfl, rfl⟩ ?_
          refine zw_zret rfl (by first | exact Or.inl rfl | exact Or.inr rfl | omega) ?_
          rw [show ytP tp b len τ = (0, τ) from if_neg (fun z => by omega)] at kk
          exact kk _ (fun _ _ => rfl) (fun z => absurd z (by show ¬ ((0 : Int) = 1); decide))
        · skip
          refine zw_aload ⟨rfl, rfl⟩ rfl ?_
          refine zw_getR 237 ⟨rfl, rfl⟩ zr_208_40 ?_
          refine zw_iload ⟨rfl, rfl⟩ rfl ?_
          refine zw_iload ⟨rfl, rfl⟩ rfl ?_
          refine zw_calls3 ⟨rfl, rfl⟩ rfl rfl ?_
          have hjr := yJ_r τ (tp (b + 0) - 97) (tp (b + 1) - 97) (τ 1).toNat
          have hjr : yjn τ (tp (b + 0) - 97) (tp (b + 1) - 97) = 0 ∨ yjn τ (tp (b + 0) - 97) (tp (b + 1) - 97) = 1 := hjr
          refine m_doJoin_237 (σ := fun j => if j = 0 then M 237 0 else τ j) (fun j j1 j2 => ?_) ?_ ?_
          · try dsimp only
            split
            · rename_i z; rw [z]
            · exact hT j (by omega) j2
          · exact h8
          rw [yjn_c (τ := τ) (τ' := fun j => if j = 0 then M 237 0 else τ j) (if_neg (by decide)) (fun j j1 j2 => if_neg (by omega)) h8]
          refine zw_ifeq ⟨rfl, rfl⟩ rfl (fun c5 => ?_) (fun c5 => ?_)
          · skip
            refine zw_aload ⟨rfl, rfl⟩ rfl ?_
            refine zw_getR 237 ⟨rfl, rfl⟩ zr_208_40 ?_
            refine zw_const ⟨rfl, rfl⟩ ?_
            refine zw_const ⟨rfl, rfl⟩ ?_
            refine zw_aload ⟨rfl, rfl⟩ rfl ?_
            refine zw_getR 237 ⟨rfl, rfl⟩ zr_208_40 ?_
            refine zw_const ⟨rfl, rfl⟩ ?_
            refine zw_ialdv (v := τ 1) ⟨rfl, rfl⟩ za_237 (by omega) (hT 1 (by decide) (by decide)) ?_
            refine zw_imul ⟨rfl, rfl⟩ (by omega) ?_
            refine zw_iadd ⟨rfl, rfl⟩ (by omega) ?_
            refine zw_iload ⟨rfl, rfl⟩ rfl ?_
            refine zw_iast ⟨rfl, rfl⟩ za_237 (by omega) ?_
            refine zw_aload ⟨rfl, rfl⟩ rfl ?_
            refine zw_getR 237 ⟨rfl, rfl⟩ zr_208_40 ?_
            refine zw_const ⟨rfl, rfl⟩ ?_
            refine zw_const ⟨rfl, rfl⟩ ?_
            refine zw_aload ⟨rfl, rfl⟩ rfl ?_
            refine zw_getR 237 ⟨rfl, rfl⟩ zr_208_40 ?_
            refine zw_const ⟨rfl, rfl⟩ ?_
            refine zw_ialdv (v := τ 1) ⟨rfl, rfl⟩ za_237 (by omega) ((zup_ni (by omega)).trans (hT 1 (by decide) (by decide))) ?_
            refine zw_imul ⟨rfl, rfl⟩ (by omega) ?_
            refine zw_iadd ⟨rfl, rfl⟩ (by omega) ?_
            refine zw_const ⟨rfl, rfl⟩ ?_
            refine zw_iadd ⟨rfl, rfl⟩ (by omega) ?_
            refine zw_iload ⟨rfl, rfl⟩ rfl ?_
            refine zw_iast ⟨rfl, rfl⟩ za_237 (by omega) ?_
            refine zw_aload ⟨rfl, rfl⟩ rfl ?_
            refine zw_getR 237 ⟨rfl, rfl⟩ zr_208_40 ?_
            refine zw_const ⟨rfl, rfl⟩ ?_
            refine zw_dup2 ⟨rfl, rfl⟩ ⟨by decide, by decide⟩ ?_
            refine zw_ialdv (v := τ 1) ⟨rfl, rfl⟩ za_237 (by omega) ((zup_ni (by omega)).trans ((zup_ni (by omega)).trans (hT 1 (by decide) (by decide)))) ?_
            refine zw_const ⟨rfl, rfl⟩ ?_
            refine zw_iadd ⟨rfl, rfl⟩ (by omega) ?_
            refine zw_iast ⟨rfl, rfl⟩ za_237 (by omega) ?_
            refine zw_const ⟨rfl, rfl⟩ ?_
            refine zw_zret rfl (by first | exact Or.inl rfl | exact Or.inr rfl | omega) ?_
            have e : ytP tp b len τ = (1, yAP τ (tp (b + 0) - 97) (tp (b + 1) - 97)) := if_pos ⟨by omega, by omega, by omega, by omega, by omega⟩
            rw [e] at kk
            refine kk _ (fun x hx => (zup_row hx).trans ((zup_row hx).trans (zup_row hx))) (fun _ => (((hT.up).up).up).e (fun j j1 j2 => ?_))
            show _ = yAP τ (tp (b + 0) - 97) (tp (b + 1) - 97) j
            unfold yAP
            try dsimp only
            (repeat' split) <;> first | rfl | (exfalso; omega)
          · skip
            refine zw_const ⟨rfl, rfl⟩ ?_
            refine zw_zret rfl (by first | exact Or.inl rfl | exact Or.inr rfl | omega) ?_
            rw [show ytP tp b len τ = (0, τ) from if_neg (fun z => by omega)] at kk
            exact kk _ (fun _ _ => rfl) (fun z => absurd z (by show ¬ ((0 : Int) = 1); decide))
    · skip
      refine zw_const ⟨rfl, rfl⟩ ?_
      refine zw_zret rfl (by first | exact Or.inl rfl | exact Or.inr rfl | omega) ?_
      rw [show ytP tp b len τ = (0, τ) from if_neg (fun z => by omega)] at kk
      exact kk _ (fun _ _ => rfl) (fun z => absurd z (by show ¬ ((0 : Int) = 1); decide))

theorem m_MisSingle {w : Int} {M : zM} {Q : zV → zM → Prop} (k : Q (0, ysi1 w) M) : zWp kM_isSingle 0 [(0, w)] [] M Q := by
  refine zw_iload ⟨rfl, rfl⟩ rfl ?_
  refine zw_const ⟨rfl, rfl⟩ ?_
  refine zw_iceq ⟨rfl, rfl⟩ rfl (fun c1 => ?_) (fun c1 => ?_)
  · skip
    refine zw_const ⟨rfl, rfl⟩ ?_
    refine zw_goto ⟨rfl, rfl⟩ rfl ?_
    refine zw_zret rfl (by first | exact Or.inl rfl | exact Or.inr rfl | omega) ?_
    rw [show ysi1 w = 1 from by unfold ysi1; split <;> first | rfl | (exfalso; omega)] at k
    exact k
  · skip
    refine zw_iload ⟨rfl, rfl⟩ rfl ?_
    refine zw_const ⟨rfl, rfl⟩ ?_
    refine zw_iceq ⟨rfl, rfl⟩ rfl (fun c2 => ?_) (fun c2 => ?_)
    · skip
      refine zw_const ⟨rfl, rfl⟩ ?_
      refine zw_goto ⟨rfl, rfl⟩ rfl ?_
      refine zw_zret rfl (by first | exact Or.inl rfl | exact Or.inr rfl | omega) ?_
      rw [show ysi1 w = 1 from by unfold ysi1; split <;> first | rfl | (exfalso; omega)] at k
      exact k
    · skip
      refine zw_iload ⟨rfl, rfl⟩ rfl ?_
      refine zw_const ⟨rfl, rfl⟩ ?_
      refine zw_iceq ⟨rfl, rfl⟩ rfl (fun c3 => ?_) (fun c3 => ?_)
      · skip
        refine zw_const ⟨rfl, rfl⟩ ?_
        refine zw_goto ⟨rfl, rfl⟩ rfl ?_
        refine zw_zret rfl (by first | exact Or.inl rfl | exact Or.inr rfl | omega) ?_
        rw [show ysi1 w = 1 from by unfold ysi1; split <;> first | rfl | (exfalso; omega)] at k
        exact k
      · skip
        refine zw_iload ⟨rfl, rfl⟩ rfl ?_
        refine zw_const ⟨rfl, rfl⟩ ?_
        refine zw_iceq ⟨rfl, rfl⟩ rfl (fun c4 => ?_) (fun c4 => ?_)
        · skip
          refine zw_const ⟨rfl, rfl⟩ ?_
          refine zw_goto ⟨rfl, rfl⟩ rfl ?_
          refine zw_zret rfl (by first | exact Or.inl rfl | exact Or.inr rfl | omega) ?_
          rw [show ysi1 w = 1 from by unfold ysi1; split <;> first | rfl | (exfalso; omega)] at k
          exact k
        · skip
          refine zw_iload ⟨rfl, rfl⟩ rfl ?_
          refine zw_const ⟨rfl, rfl⟩ ?_
          refine zw_icne ⟨rfl, rfl⟩ rfl (fun c5 => ?_) (fun c5 => ?_)
          · skip
            refine zw_const ⟨rfl, rfl⟩ ?_
            refine zw_zret rfl (by first | exact Or.inl rfl | exact Or.inr rfl | omega) ?_
            rw [show ysi1 w = 0 from by unfold ysi1; split <;> first | rfl | (exfalso; omega)] at k
            exact k
          · skip
            refine zw_const ⟨rfl, rfl⟩ ?_
            refine zw_goto ⟨rfl, rfl⟩ rfl ?_
            refine zw_zret rfl (by first | exact Or.inl rfl | exact Or.inr rfl | omega) ?_
            rw [show ysi1 w = 1 from by unfold ysi1; split <;> first | rfl | (exfalso; omega)] at k
            exact k

theorem m_MisTold_b {w b len : Int} {τ : yS} {tp : Int → Int} {n : Int} {M : zM} {Q : zV → zM → Prop} (hI : yIm M tp n) (hl : yLet tp b len) (hb : 0 ≤ b ∧ 1 ≤ len ∧ b + len ≤ n) (hw : 1 ≤ w ∧ w ≤ 17) (hV : yVt τ) (hT : yTd M τ) (kk : ∀ P : zM, (∀ x, x ≠ 237 → P x = M x) → ((ytr tp b w len τ).1 = 1 → yTd P (ytr tp b w len τ).2) → Q (0, (ytr tp b w len τ).1) P) : zWp kM_isTold 27 [(1, 208), (0, w), (0, b), (0, len), (3, 0), (3, 0)] [] M Q := by
  have hn := hI.1.2
  refine zw_iload ⟨rfl, rfl⟩ rfl ?_
  refine zw_const ⟨rfl, rfl⟩ ?_
  refine zw_icne ⟨rfl, rfl⟩ rfl (fun c1 => ?_) (fun c1 => ?_)
  · skip
    refine zw_iload ⟨rfl, rfl⟩ rfl ?_
    refine zw_const ⟨rfl, rfl⟩ ?_
    refine zw_icne ⟨rfl, rfl⟩ rfl (fun c2 => ?_) (fun c2 => ?_)
    · skip
      refine zw_iload ⟨rfl, rfl⟩ rfl ?_
      refine zw_const ⟨rfl, rfl⟩ ?_
      refine zw_iclt ⟨rfl, rfl⟩ rfl (fun c3 => ?_) (fun c3 => ?_)
      · skip
        refine zw_const ⟨rfl, rfl⟩ ?_
        refine zw_istore_4 ⟨rfl, rfl⟩ ?_
        have er : ytr tp b w len τ = ytK tp b w len τ := by unfold ytr; (repeat' split) <;> first | rfl | (exfalso; omega)
        rw [er] at kk
        have e0 : ytK tp b w 0 τ = (1, τ) := yfo_0 _ (Int.le_refl _) _
        exact m_MtK_l hI hl ⟨hb.1, by omega, hb.2.2⟩ ⟨by omega, by omega, by omega⟩ kk _ _ _ _ ⟨Int.le_refl _, by omega⟩ (by rw [e0]) (by rw [e0]; exact hT) (fun _ _ => rfl) (Nat.lt_succ_self _)
      · skip
        refine zw_aload ⟨rfl, rfl⟩ rfl ?_
        refine zw_iload ⟨rfl, rfl⟩ rfl ?_
        refine zw_iload ⟨rfl, rfl⟩ rfl ?_
        refine zw_iload ⟨rfl, rfl⟩ rfl ?_
        refine zw_const ⟨rfl, rfl⟩ ?_
        refine zw_icne ⟨rfl, rfl⟩ rfl (fun c4 => ?_) (fun c4 => ?_)
        · skip
          refine zw_iload ⟨rfl, rfl⟩ rfl ?_
          refine zw_const ⟨rfl, rfl⟩ ?_
          refine zw_icne ⟨rfl, rfl⟩ rfl (fun c5 => ?_) (fun c5 => ?_)
          · skip
            refine zw_const ⟨rfl, rfl⟩ ?_
            refine zw_callv4 ⟨rfl, rfl⟩ rfl zc_208 rfl ?_
            have hz := ytM_01 tp b 4 len τ
            refine m_MareMeant (x := 4) hI hl ⟨hb.1, by omega, hb.2.2⟩ (by decide) hV (fun P1 q1 q2 => ?_) hT
            refine zw_zret rfl (by first | exact Or.inl rfl | exact Or.inr rfl | omega) ?_
            have er : ytr tp b w len τ = ((ytM tp b 4 len τ).1, (ytM tp b 4 len τ).2.2) := by unfold ytr; (repeat' split) <;> first | rfl | (exfalso; omega)
            rw [er] at kk
            exact kk _ q1 q2
          · skip
            refine zw_const ⟨rfl, rfl⟩ ?_
            refine zw_goto ⟨rfl, rfl⟩ rfl ?_
            refine zw_callv4 ⟨rfl, rfl⟩ rfl zc_208 rfl ?_
            have hz := ytM_01 tp b 2 len τ
            refine m_MareMeant (x := 2) hI hl ⟨hb.1, by omega, hb.2.2⟩ (by decide) hV (fun P1 q1 q2 => ?_) hT
            refine zw_zret rfl (by first | exact Or.inl rfl | exact Or.inr rfl | omega) ?_
            have er : ytr tp b w len τ = ((ytM tp b 2 len τ).1, (ytM tp b 2 len τ).2.2) := by unfold ytr; (repeat' split) <;> first | rfl | (exfalso; omega)
            rw [er] at kk
            exact kk _ q1 q2
        · skip
          refine zw_const ⟨rfl, rfl⟩ ?_
          refine zw_goto ⟨rfl, rfl⟩ rfl ?_
          refine zw_callv4 ⟨rfl, rfl⟩ rfl zc_208 rfl ?_
          have hz := ytM_01 tp b 1 len τ
          refine m_MareMeant (x := 1) hI hl ⟨hb.1, by omega, hb.2.2⟩ (by decide) hV (fun P1 q1 q2 => ?_) hT
          refine zw_zret rfl (by first | exact Or.inl rfl | exact Or.inr rfl | omega) ?_
          have er : ytr tp b w len τ = ((ytM tp b 1 len τ).1, (ytM tp b 1 len τ).2.2) := by unfold ytr; (repeat' split) <;> first | rfl | (exfalso; omega)
          rw [er] at kk
          exact kk _ q1 q2
    · skip
      refine zw_aload ⟨rfl, rfl⟩ rfl ?_
      refine zw_iload ⟨rfl, rfl⟩ rfl ?_
      refine zw_iload ⟨rfl, rfl⟩ rfl ?_
      refine zw_callv3 ⟨rfl, rfl⟩ rfl zc_208 rfl ?_
      have hz : (ytP tp b len τ).1 = 0 ∨ (ytP tp b len τ).1 = 1 := by unfold ytP; split <;> first | exact Or.inr rfl | exact Or.inl rfl
      refine m_MisPair hI hl ⟨hb.1, by omega, hb.2.2⟩ hV hT (fun P1 q1 q2 => ?_)
      refine zw_zret rfl (by first | exact Or.inl rfl | exact Or.inr rfl | omega) ?_
      have er : ytr tp b w len τ = ytP tp b len τ := by unfold ytr; (repeat' split) <;> first | rfl | (exfalso; omega)
      rw [er] at kk
      exact kk _ q1 q2
  · skip
    refine zw_aload ⟨rfl, rfl⟩ rfl ?_
    refine zw_iload ⟨rfl, rfl⟩ rfl ?_
    refine zw_iload ⟨rfl, rfl⟩ rfl ?_
    refine zw_callv3 ⟨rfl, rfl⟩ rfl zc_208 rfl ?_
    have hz := ytS_01 tp b len τ
    refine m_MisSplit hI hl ⟨hb.1, by omega, hb.2.2⟩ hV hT (fun P1 q1 q2 => ?_)
    refine zw_zret rfl (by first | exact Or.inl rfl | exact Or.inr rfl | omega) ?_
    have er : ytr tp b w len τ = ytS tp b len τ := by unfold ytr; (repeat' split) <;> first | rfl | (exfalso; omega)
    rw [er] at kk
    exact kk _ q1 q2

theorem m_MisTold {w b len t : Int} {τ : yS} {tp : Int → Int} {n : Int} {M : zM} {Q : zV → zM → Prop} (hI : yIm M tp n) (hl : yLet tp b len) (hb : 0 ≤ b ∧ 1 ≤ len ∧ b + len ≤ n) (hw : 1 ≤ w ∧ w ≤ 17) (hV : yVt τ) (hT : yTd M τ) (ht : M 208 41 = t ∧ 0 ≤ t ∧ t < 2147483648) (kk : ∀ P : zM, (∀ x, x ≠ 208 → x ≠ 237 → P x = M x) → (∀ j, j ≠ 41 → P 208 j = M 208 j) → (yok tp b w len t τ = 1 → P 208 41 = ytt w t ∧ yTd P (ytr tp b w len τ).2) → Q (0, yok tp b w len t τ) P) : zWp kM_isTold 0 [(1, 208), (0, w), (0, b), (0, len), (3, 0), (3, 0)] [] M Q := by
  have hn := hI.1.2
  have hsi := ysi1_r w
  have hbt := zzz_rng (x := t) (b := w) ⟨by omega, by omega⟩
  have h2p := y2p (l := w) (by omega)
  have hsh := yhb_sh ht.2 (l := w) (by omega)
  refine zw_iload ⟨rfl, rfl⟩ rfl ?_
  refine zw_calls1 ⟨rfl, rfl⟩ rfl rfl ?_
  refine m_MisSingle ?_
  refine zw_ifeq ⟨rfl, rfl⟩ rfl (fun c1 => ?_) (fun c1 => ?_)
  · skip
    refine zw_iload ⟨rfl, rfl⟩ rfl ?_
    refine zw_calls1 ⟨rfl, rfl⟩ rfl rfl ?_
    refine m_MisSingle ?_
    refine zw_ifeq ⟨rfl, rfl⟩ rfl (fun c2 => ?_) (fun c2 => ?_)
    · skip
      have eo : yok tp b w len t τ = (ytr tp b w len τ).1 := if_neg (fun z => by omega)
      rw [eo] at kk
      have et : ytt w t = t := if_neg (by omega)
      refine m_MisTold_b hI hl hb hw hV hT (fun P q1 q2 => ?_)
      exact kk _ (fun x x1 x2 => q1 x x2) (fun j hj => congrFun (q1 208 (by decide)) j) (fun z => ⟨((congrFun (q1 208 (by decide)) 41).trans ht.1).trans et.symm, q2 z⟩)
    · skip
      refine zw_aload ⟨rfl, rfl⟩ rfl ?_
      refine zw_dup ⟨rfl, rfl⟩ (by decide) ?_
      refine zw_getIv (v := t) ⟨rfl, rfl⟩ zc_208 (by decide) (ht.1) ?_
      refine zw_const ⟨rfl, rfl⟩ ?_
      refine zw_iload ⟨rfl, rfl⟩ rfl ?_
      refine zw_ishl ⟨rfl, rfl⟩ (by omega) ?_
      refine zw_ior ⟨rfl, rfl⟩ (by omega) ?_
      refine zw_putI ⟨rfl, rfl⟩ zc_208 (by decide) (fun h => absurd h (by decide)) ?_
      have eo : yok tp b w len t τ = (ytr tp b w len τ).1 := if_neg (fun z => by omega)
      rw [eo] at kk
      have et : ytt w t = zor t (1 * 2 ^ (Int.toNat w)) := if_pos (by omega)
      refine m_MisTold_b (M := (zup M 208 41 (zor t (1 * 2 ^ (Int.toNat w))))) (hI.cg (zup_row (by decide)) (zup_row (by decide)) (zup_ni (by decide))) hl hb hw hV (hT.cg (zup_row (by decide))) (fun P q1 q2 => ?_)
      exact kk _ (fun x x1 x2 => (q1 x x2).trans (zup_row x1)) (fun j hj => (congrFun (q1 208 (by decide)) j).trans (zup_ni hj)) (fun z => ⟨((congrFun (q1 208 (by decide)) 41).trans (zup_eq _ _ _ _)).trans et.symm, q2 z⟩)
  · skip
    refine zw_iload ⟨rfl, rfl⟩ rfl ?_
    refine zw_const ⟨rfl, rfl⟩ ?_
    refine zw_icne ⟨rfl, rfl⟩ rfl (fun c3 => ?_) (fun c3 => ?_)
    · skip
      refine zw_const ⟨rfl, rfl⟩ ?_
      refine zw_zret rfl (by first | exact Or.inl rfl | exact Or.inr rfl | omega) ?_
      have eo : yok tp b w len t τ = 0 := if_pos ⟨by omega, by omega⟩
      rw [eo] at kk
      exact kk _ (fun _ _ _ => rfl) (fun _ _ => rfl) (fun z => absurd z (by decide))
    · skip
      refine zw_aload ⟨rfl, rfl⟩ rfl ?_
      refine zw_getIv (v := t) ⟨rfl, rfl⟩ zc_208 (by decide) (ht.1) ?_
      refine zw_iload ⟨rfl, rfl⟩ rfl ?_
      refine zw_ishr ⟨rfl, rfl⟩ (by omega) ?_
      refine zw_const ⟨rfl, rfl⟩ ?_
      refine zw_iand ⟨rfl, rfl⟩ (by omega) ?_
      refine zw_const ⟨rfl, rfl⟩ ?_
      refine zw_icne ⟨rfl, rfl⟩ rfl (fun c4 => ?_) (fun c4 => ?_)
      · skip
        refine zw_iload ⟨rfl, rfl⟩ rfl ?_
        refine zw_calls1 ⟨rfl, rfl⟩ rfl rfl ?_
        refine m_MisSingle ?_
        refine zw_ifeq ⟨rfl, rfl⟩ rfl (fun c5 => ?_) (fun c5 => ?_)
        · skip
          have eo : yok tp b w len t τ = (ytr tp b w len τ).1 := if_neg (fun z => by omega)
          rw [eo] at kk
          have et : ytt w t = t := if_neg (by omega)
          refine m_MisTold_b hI hl hb hw hV hT (fun P q1 q2 => ?_)
          exact kk _ (fun x x1 x2 => q1 x x2) (fun j hj => congrFun (q1 208 (by decide)) j) (fun z => ⟨((congrFun (q1 208 (by decide)) 41).trans ht.1).trans et.symm, q2 z⟩)
        · skip
          refine zw_aload ⟨rfl, rfl⟩ rfl ?_
          refine zw_dup ⟨rfl, rfl⟩ (by decide) ?_
          refine zw_getIv (v := t) ⟨rfl, rfl⟩ zc_208 (by decide) (ht.1) ?_
          refine zw_const ⟨rfl, rfl⟩ ?_
          refine zw_iload ⟨rfl, rfl⟩ rfl ?_
          refine zw_ishl ⟨rfl, rfl⟩ (by omega) ?_
          refine zw_ior ⟨rfl, rfl⟩ (by omega) ?_
          refine zw_putI ⟨rfl, rfl⟩ zc_208 (by decide) (fun h => absurd h (by decide)) ?_
          have eo : yok tp b w len t τ = (ytr tp b w len τ).1 := if_neg (fun z => by omega)
          rw [eo] at kk
          have et : ytt w t = zor t (1 * 2 ^ (Int.toNat w)) := if_pos (by omega)
          refine m_MisTold_b (M := (zup M 208 41 (zor t (1 * 2 ^ (Int.toNat w))))) (hI.cg (zup_row (by decide)) (zup_row (by decide)) (zup_ni (by decide))) hl hb hw hV (hT.cg (zup_row (by decide))) (fun P q1 q2 => ?_)
          exact kk _ (fun x x1 x2 => (q1 x x2).trans (zup_row x1)) (fun j hj => (congrFun (q1 208 (by decide)) j).trans (zup_ni hj)) (fun z => ⟨((congrFun (q1 208 (by decide)) 41).trans (zup_eq _ _ _ _)).trans et.symm, q2 z⟩)
      · skip
        refine zw_const ⟨rfl, rfl⟩ ?_
        refine zw_zret rfl (by first | exact Or.inl rfl | exact Or.inr rfl | omega) ?_
        have eo : yok tp b w len t τ = 0 := if_pos ⟨by omega, by omega⟩
        rw [eo] at kk
        exact kk _ (fun _ _ _ => rfl) (fun _ _ => rfl) (fun z => absurd z (by decide))

def yLm (N : zM) (s : yLn) : Prop := N 208 38 = s.1 ∧ N 208 39 = s.2.1 ∧ (s.1 = 0 → N 208 37 = s.2.2.1 ∧ N 208 41 = s.2.2.2.1 ∧ yTd N s.2.2.2.2)
theorem m_Mline {s : yLn} {tp : Int → Int} {n : Int} {M : zM} {Q : zV → zM → Prop} (hI : yIm M tp n) (h0 : s.1 = 0) (hv : yLv n s tp) (hp : s.2.2.1 < n) (hL : yLm M s) (kk : ∀ N : zM, yfR M N → yLm N (yln tp n s) → Q (3, 0) N) : zWp kM_line 0 [(1, 208), (3, 0), (3, 0), (3, 0)] [] M Q := by
  have hn := hI.1.2
  obtain ⟨v1, ⟨v2, v3⟩, v4, v5, v6⟩ := hv h0
  obtain ⟨g1, g2, g3⟩ := hL
  obtain ⟨g5, g6, g7⟩ := g3 h0
  rw [h0] at g1
  have l1 := yle_r (tp := tp) v3
  have b1 := (ybl_r (tp := tp) (p := yle tp n s.2.2.1) l1.1.2).1
  have l2 := yle_r (tp := tp) (p := ybl tp n (yle tp n s.2.2.1)) b1.2
  have b2 := ybl_r (tp := tp) (p := yle tp n (ybl tp n (yle tp n s.2.2.1))) l2.1.2
  have hwr := ywf_r tp s.2.2.1 (yle tp n s.2.2.1 - s.2.2.1)
  obtain ⟨y1, hy1⟩ : ∃ y, y = yln tp n s := ⟨_, rfl⟩
  have hyl := hy1
  unfold yln at hyl
  generalize hpp : s.2.2.1 = p at *
  generalize he : yle tp n p = e at *
  generalize hrr : ybl tp n e = r at *
  generalize hqq : yle tp n r = q at *
  generalize hzz : ybl tp n q = z at *
  generalize hww : ywf tp p (e - p) = wd at *
  rw [← hy1] at kk
  refine zw_aload ⟨rfl, rfl⟩ rfl ?_
  refine zw_callv1 ⟨rfl, rfl⟩ rfl zc_208 rfl ?_
  refine m_MgoesBy (p := p) (r := p) hI ⟨g5, v2, v3⟩ v4.symm (fun N1 a1 a2 a3 a4 a5 => ?_)
  rw [he] at a3 a4 a5
  rw [g1] at a4 a5
  have f1 : yfR M N1 := ⟨fun x x1 x2 => a1 x x1, fun j hj => a2 j (by omega)⟩
  have hI1 := hI.fr f1
  refine zw_istore_1 ⟨rfl, rfl⟩ ?_
  refine zw_aload ⟨rfl, rfl⟩ rfl ?_
  refine zw_getIv (v := N1 208 38) ⟨rfl, rfl⟩ zc_208 (by decide) rfl ?_
  refine zw_ifeq ⟨rfl, rfl⟩ rfl (fun c1 => ?_) (fun c1 => ?_)
  · skip
    refine zw_aload ⟨rfl, rfl⟩ rfl ?_
    refine zw_iload ⟨rfl, rfl⟩ rfl ?_
    refine zw_callv2 ⟨rfl, rfl⟩ rfl zc_208 rfl ?_
    have c38 : N1 208 38 = 0 := by omega
    have hep : e ≠ p := fun z => by rw [if_pos ⟨rfl, z⟩] at a4; omega
    have c39 : N1 208 39 = -1 := by rw [a5, if_neg (fun z => hep z.2), g2, v1]
    refine m_MwordFrom hI1 (b := p) (len := e - p) ⟨by omega, v2, by omega, by omega⟩ (fun k k1 k2 => l1.2.2 (p + k) (by omega) (by omega)) ?_
    rw [hww]
    refine zw_istore_2 ⟨rfl, rfl⟩ ?_
    refine zw_iload ⟨rfl, rfl⟩ rfl ?_
    refine zw_const ⟨rfl, rfl⟩ ?_
    refine zw_icne ⟨rfl, rfl⟩ rfl (fun c2 => ?_) (fun c2 => ?_)
    · skip
      refine zw_aload ⟨rfl, rfl⟩ rfl ?_
      refine zw_callv1 ⟨rfl, rfl⟩ rfl zc_208 rfl ?_
      have e5 : (N1) 208 37 = e := by first | exact a3 | (rw [zup_ni (by decide), zup_ni (by decide)]; exact a3)
      have f5 : yfR N1 (N1) := by first | exact yfR.rf | exact ((yfR.rf).up (by decide)).up (by decide)
      have e41 : (N1) 208 41 = N1 208 41 := by first | rfl | (rw [zup_ni (by decide), zup_ni (by decide)])
      have e237 : (N1) 237 = N1 237 := by first | rfl | (rw [zup_row (by decide), zup_row (by decide)])
      have e38 : (N1) 208 38 = 0 := by first | exact c38 | (rw [zup_ni (by decide), zup_eq])
      have e39 : (wd = -1 → (N1) 208 39 = p) ∧ (wd ≠ -1 → (N1) 208 39 = -1) := ⟨fun z => absurd z (by omega), fun _ => c39⟩
      skip
      refine m_MgoesBy (p := e) (r := r) (hI1.fr f5) ⟨e5, by omega, l1.1.2⟩ hrr.symm (fun N3 a6 a7 a8 a9 a10 => ?_)
      rw [hqq] at a8 a9 a10
      rw [e38] at a9 a10
      have f3 : yfR M N3 := f1.tr (f5.tr ⟨fun x x1 x2 => a6 x x1, fun j hj => a7 j (by omega)⟩)
      have hI3 := hI.fr f3
      refine zw_istore_3 ⟨rfl, rfl⟩ ?_
      refine zw_aload ⟨rfl, rfl⟩ rfl ?_
      refine zw_getIv (v := N3 208 38) ⟨rfl, rfl⟩ zc_208 (by decide) rfl ?_
      refine zw_ifeq ⟨rfl, rfl⟩ rfl (fun c3 => ?_) (fun c3 => ?_)
      · skip
        refine zw_aload ⟨rfl, rfl⟩ rfl ?_
        refine zw_iload ⟨rfl, rfl⟩ rfl ?_
        refine zw_iload ⟨rfl, rfl⟩ rfl ?_
        refine zw_aload ⟨rfl, rfl⟩ rfl ?_
        refine zw_getIv (v := q) ⟨rfl, rfl⟩ zc_208 (by decide) (a8) ?_
        refine zw_iload ⟨rfl, rfl⟩ rfl ?_
        refine zw_isub ⟨rfl, rfl⟩ (by omega) ?_
        refine zw_callv4 ⟨rfl, rfl⟩ rfl zc_208 rfl ?_
        have d38 : N3 208 38 = 0 := by omega
        have hww2 : wd ≠ -1 := by
          intro z
          first | (rw [if_neg (fun y => absurd y.1 (by decide))] at a9; omega) | omega
        have hqr : q ≠ r := by
          intro z
          first | (rw [if_pos ⟨rfl, z⟩] at a9; omega) | (exfalso; omega)
        have d39 : N3 208 39 = -1 := by
          rw [a10, if_neg (fun z => hqr z.2)]
          exact e39.2 hww2
        have hll : yLet tp r (q - r) := fun k k1 k2 => l2.2.2 (r + k) (by omega) (by omega)
        refine m_MisTold (w := wd) (τ := s.2.2.2.2) (t := s.2.2.2.1) (b := r) (len := q - r) hI3 hll ⟨by omega, by omega, by omega⟩ (by omega) v6 (g7.cg ((a6 237 (by decide)).trans (e237.trans (a1 237 (by decide))))) ⟨(a7 41 (by decide)).trans (e41.trans ((a2 41 (by decide)).trans g6)), v5⟩ (fun P q1 q2 q3 => ?_)
        have hok01 := yok_01 tp r wd (q - r) s.2.2.2.1 s.2.2.2.2
        have qf : yfR M P := f3.tr ⟨q1, fun j hj => q2 j (by omega)⟩
        have p37 : P 208 37 = q := (q2 37 (by decide)).trans a8
        have p38 : P 208 38 = 0 := (q2 38 (by decide)).trans d38
        have p39 : P 208 39 = -1 := (q2 39 (by decide)).trans d39
        refine zw_ifne ⟨rfl, rfl⟩ rfl (fun c4 => ?_) (fun c4 => ?_)
        · skip
          refine zw_aload ⟨rfl, rfl⟩ rfl ?_
          refine zw_cavv1 ⟨rfl, rfl⟩ rfl zc_208 rfl ?_
          have hIP : yIm (P) tp n := hI.fr (qf)
          refine m_Mblanks (p := q) hIP ⟨by first | exact p37 | (simp only [zup_ni (show (37 : Int) ≠ 38 by decide), zup_ni (show (37 : Int) ≠ 39 by decide)]; exact p37), by omega, by omega⟩ ?_
          rw [hzz]
          refine zw_aload ⟨rfl, rfl⟩ rfl ?_
          refine zw_callv1 ⟨rfl, rfl⟩ rfl zc_208 rfl ?_
          refine m_Msee (p := z) (n := n) (tp := tp) (hI.fr ((qf).up (by decide))) ⟨zup_eq _ _ _ _, by omega⟩ ?_
          refine zw_const ⟨rfl, rfl⟩ ?_
          refine zw_iceq ⟨rfl, rfl⟩ rfl (fun c5 => ?_) (fun c5 => ?_)
          · skip
            refine zw_aload ⟨rfl, rfl⟩ rfl ?_
            refine zw_dup ⟨rfl, rfl⟩ (by decide) ?_
            refine zw_getIv (v := z) ⟨rfl, rfl⟩ zc_208 (by decide) (zup_eq _ _ _ _) ?_
            refine zw_const ⟨rfl, rfl⟩ ?_
            refine zw_iadd ⟨rfl, rfl⟩ (by omega) ?_
            refine zw_putI ⟨rfl, rfl⟩ zc_208 (by decide) (fun h => absurd h (by decide)) ?_
            refine zw_aload ⟨rfl, rfl⟩ rfl ?_
            refine zw_cavv1 ⟨rfl, rfl⟩ rfl zc_208 rfl ?_
            have hIQ : yIm ((zup (zup P 208 37 z) 208 37 (z + 1))) tp n := hI.fr (((qf).up (by decide)).up (by decide))
            refine m_Mblanks (p := z + 1) hIQ ⟨zup_eq _ _ _ _, by omega, by omega⟩ ?_
            refine zw_void rfl ?_
            rw [if_neg (by omega), if_neg (by omega), if_neg (by omega)] at hyl
            unfold yl5 at hyl
            rw [hzz, if_neg (by omega), if_neg (by omega)] at hyl
            obtain ⟨t1, t2⟩ := q3 (by omega)
            refine kk _ ((((qf).up (by decide)).up (by decide)).up (by decide)) ?_
            rw [hyl]
            refine ⟨?_, ?_, fun _ => ⟨zup_eq _ _ _ _, ?_, t2.cg ?_⟩⟩
            · simp only [zup_ni (show (38 : Int) ≠ 37 by decide)]; exact p38
            · simp only [zup_ni (show (39 : Int) ≠ 37 by decide)]; exact p39
            · simp only [zup_ni (show (41 : Int) ≠ 37 by decide)]; exact t1
            · simp only [zup_row (show (237 : Int) ≠ 208 by decide)]
          · skip
            refine zw_aload ⟨rfl, rfl⟩ rfl ?_
            refine zw_const ⟨rfl, rfl⟩ ?_
            refine zw_aload ⟨rfl, rfl⟩ rfl ?_
            refine zw_getIv (v := z) ⟨rfl, rfl⟩ zc_208 (by decide) (zup_eq _ _ _ _) ?_
            refine zw_cavv3 ⟨rfl, rfl⟩ rfl zc_208 rfl ?_
            refine m_Mfails (fun y => absurd (by simp only [zup_ni (show (38 : Int) ≠ 37 by decide)]; exact p38) y) (fun _ => ?_)
            refine zw_aload ⟨rfl, rfl⟩ rfl ?_
            refine zw_dup ⟨rfl, rfl⟩ (by decide) ?_
            refine zw_getIv (v := z) ⟨rfl, rfl⟩ zc_208 (by decide) ((zup_ni (by decide)).trans ((zup_ni (by decide)).trans (zup_eq _ _ _ _))) ?_
            refine zw_const ⟨rfl, rfl⟩ ?_
            refine zw_iadd ⟨rfl, rfl⟩ (by omega) ?_
            refine zw_putI ⟨rfl, rfl⟩ zc_208 (by decide) (fun h => absurd h (by decide)) ?_
            refine zw_aload ⟨rfl, rfl⟩ rfl ?_
            refine zw_cavv1 ⟨rfl, rfl⟩ rfl zc_208 rfl ?_
            have hIQ : yIm ((zup (zup (zup (zup P 208 37 z) 208 38 1) 208 39 z) 208 37 (z + 1))) tp n := hI.fr (((((qf).up (by decide)).up (by decide)).up (by decide)).up (by decide))
            refine m_Mblanks (p := z + 1) hIQ ⟨zup_eq _ _ _ _, by omega, by omega⟩ ?_
            refine zw_void rfl ?_
            rw [if_neg (by omega), if_neg (by omega), if_neg (by omega)] at hyl
            unfold yl5 at hyl
            rw [hzz, if_neg (by omega), if_pos (by omega)] at hyl
            refine kk _ ((((((qf).up (by decide)).up (by decide)).up (by decide)).up (by decide)).up (by decide)) ?_
            rw [hyl]
            refine ⟨?_, ?_, fun y => absurd y (by show ¬ ((1 : Int) = 0); decide)⟩
            · simp only [zup_ni (show (38 : Int) ≠ 37 by decide), zup_ni (show (39 : Int) ≠ 37 by decide), zup_ni (show (38 : Int) ≠ 39 by decide), zup_ni (show (39 : Int) ≠ 38 by decide), zup_eq]
            · simp only [zup_ni (show (38 : Int) ≠ 37 by decide), zup_ni (show (39 : Int) ≠ 37 by decide), zup_ni (show (38 : Int) ≠ 39 by decide), zup_ni (show (39 : Int) ≠ 38 by decide), zup_eq]
        · skip
          refine zw_aload ⟨rfl, rfl⟩ rfl ?_
          refine zw_const ⟨rfl, rfl⟩ ?_
          refine zw_iload ⟨rfl, rfl⟩ rfl ?_
          refine zw_cavv3 ⟨rfl, rfl⟩ rfl zc_208 rfl ?_
          refine m_Mfails (fun y => absurd p38 y) (fun _ => ?_)
          refine zw_aload ⟨rfl, rfl⟩ rfl ?_
          refine zw_cavv1 ⟨rfl, rfl⟩ rfl zc_208 rfl ?_
          have hIP : yIm ((zup (zup P 208 38 3) 208 39 r)) tp n := hI.fr (((qf).up (by decide)).up (by decide))
          refine m_Mblanks (p := q) hIP ⟨by first | exact p37 | (simp only [zup_ni (show (37 : Int) ≠ 38 by decide), zup_ni (show (37 : Int) ≠ 39 by decide)]; exact p37), by omega, by omega⟩ ?_
          rw [hzz]
          refine zw_aload ⟨rfl, rfl⟩ rfl ?_
          refine zw_callv1 ⟨rfl, rfl⟩ rfl zc_208 rfl ?_
          refine m_Msee (p := z) (n := n) (tp := tp) (hI.fr ((((qf).up (by decide)).up (by decide)).up (by decide))) ⟨zup_eq _ _ _ _, by omega⟩ ?_
          refine zw_const ⟨rfl, rfl⟩ ?_
          refine zw_iceq ⟨rfl, rfl⟩ rfl (fun c6 => ?_) (fun c6 => ?_)
          · skip
            refine zw_aload ⟨rfl, rfl⟩ rfl ?_
            refine zw_dup ⟨rfl, rfl⟩ (by decide) ?_
            refine zw_getIv (v := z) ⟨rfl, rfl⟩ zc_208 (by decide) (zup_eq _ _ _ _) ?_
            refine zw_const ⟨rfl, rfl⟩ ?_
            refine zw_iadd ⟨rfl, rfl⟩ (by omega) ?_
            refine zw_putI ⟨rfl, rfl⟩ zc_208 (by decide) (fun h => absurd h (by decide)) ?_
            refine zw_aload ⟨rfl, rfl⟩ rfl ?_
            refine zw_cavv1 ⟨rfl, rfl⟩ rfl zc_208 rfl ?_
            have hIQ : yIm ((zup (zup (zup (zup P 208 38 3) 208 39 r) 208 37 z) 208 37 (z + 1))) tp n := hI.fr (((((qf).up (by decide)).up (by decide)).up (by decide)).up (by decide))
            refine m_Mblanks (p := z + 1) hIQ ⟨zup_eq _ _ _ _, by omega, by omega⟩ ?_
            refine zw_void rfl ?_
            rw [if_neg (by omega), if_neg (by omega), if_neg (by omega)] at hyl
            unfold yl5 at hyl
            rw [if_pos (by omega)] at hyl
            refine kk _ ((((((qf).up (by decide)).up (by decide)).up (by decide)).up (by decide)).up (by decide)) ?_
            rw [hyl]
            refine ⟨?_, ?_, fun y => absurd y (by show ¬ ((3 : Int) = 0); decide)⟩
            · simp only [zup_ni (show (38 : Int) ≠ 37 by decide), zup_ni (show (39 : Int) ≠ 37 by decide), zup_ni (show (38 : Int) ≠ 39 by decide), zup_ni (show (39 : Int) ≠ 38 by decide), zup_eq]
            · simp only [zup_ni (show (38 : Int) ≠ 37 by decide), zup_ni (show (39 : Int) ≠ 37 by decide), zup_ni (show (38 : Int) ≠ 39 by decide), zup_ni (show (39 : Int) ≠ 38 by decide), zup_eq]
          · skip
            refine zw_aload ⟨rfl, rfl⟩ rfl ?_
            refine zw_const ⟨rfl, rfl⟩ ?_
            refine zw_aload ⟨rfl, rfl⟩ rfl ?_
            refine zw_getIv (v := z) ⟨rfl, rfl⟩ zc_208 (by decide) (zup_eq _ _ _ _) ?_
            refine zw_cavv3 ⟨rfl, rfl⟩ rfl zc_208 rfl ?_
            refine m_Mfails (fun _ => ?_) (fun y => absurd y (by simp only [zup_ni (show (38 : Int) ≠ 37 by decide), zup_ni (show (39 : Int) ≠ 37 by decide), zup_ni (show (38 : Int) ≠ 39 by decide), zup_ni (show (39 : Int) ≠ 38 by decide), zup_eq]; decide))
            refine zw_aload ⟨rfl, rfl⟩ rfl ?_
            refine zw_dup ⟨rfl, rfl⟩ (by decide) ?_
            refine zw_getIv (v := z) ⟨rfl, rfl⟩ zc_208 (by decide) (zup_eq _ _ _ _) ?_
            refine zw_const ⟨rfl, rfl⟩ ?_
            refine zw_iadd ⟨rfl, rfl⟩ (by omega) ?_
            refine zw_putI ⟨rfl, rfl⟩ zc_208 (by decide) (fun h => absurd h (by decide)) ?_
            refine zw_aload ⟨rfl, rfl⟩ rfl ?_
            refine zw_cavv1 ⟨rfl, rfl⟩ rfl zc_208 rfl ?_
            have hIQ : yIm ((zup (zup (zup (zup P 208 38 3) 208 39 r) 208 37 z) 208 37 (z + 1))) tp n := hI.fr (((((qf).up (by decide)).up (by decide)).up (by decide)).up (by decide))
            refine m_Mblanks (p := z + 1) hIQ ⟨zup_eq _ _ _ _, by omega, by omega⟩ ?_
            refine zw_void rfl ?_
            rw [if_neg (by omega), if_neg (by omega), if_neg (by omega)] at hyl
            unfold yl5 at hyl
            rw [if_pos (by omega)] at hyl
            refine kk _ ((((((qf).up (by decide)).up (by decide)).up (by decide)).up (by decide)).up (by decide)) ?_
            rw [hyl]
            refine ⟨?_, ?_, fun y => absurd y (by show ¬ ((3 : Int) = 0); decide)⟩
            · simp only [zup_ni (show (38 : Int) ≠ 37 by decide), zup_ni (show (39 : Int) ≠ 37 by decide), zup_ni (show (38 : Int) ≠ 39 by decide), zup_ni (show (39 : Int) ≠ 38 by decide), zup_eq]
            · simp only [zup_ni (show (38 : Int) ≠ 37 by decide), zup_ni (show (39 : Int) ≠ 37 by decide), zup_ni (show (38 : Int) ≠ 39 by decide), zup_ni (show (39 : Int) ≠ 38 by decide), zup_eq]
      · skip
        refine zw_void rfl ?_
        by_cases hwm : wd = -1
        · rw [if_neg (by omega), if_pos hwm] at hyl
          refine kk _ f3 ?_
          rw [hyl]
          refine ⟨?_, ?_, fun z => absurd z (by show ¬ ((2 : Int) = 0); decide)⟩
          · first | (rw [a9, if_neg (fun y => absurd y.1 (by decide))]) | (exfalso; omega)
          · first | (rw [a10, if_neg (fun y => absurd y.1 (by decide))]; exact e39.1 hwm) | (exfalso; omega)
        · have hqr : q = r := by
            by_cases y : q = r
            · exact y
            · exfalso
              first | (rw [if_neg (fun x => y x.2)] at a9; omega) | omega
          rw [if_neg (by omega), if_neg hwm, if_pos hqr] at hyl
          refine kk _ f3 ?_
          rw [hyl]
          refine ⟨?_, ?_, fun z => absurd z (by show ¬ ((1 : Int) = 0); decide)⟩
          · first | (rw [a9, if_pos ⟨rfl, hqr⟩]) | (exfalso; omega)
          · first | (rw [a10, if_pos ⟨rfl, hqr⟩]) | (exfalso; omega)
    · skip
      refine zw_aload ⟨rfl, rfl⟩ rfl ?_
      refine zw_const ⟨rfl, rfl⟩ ?_
      refine zw_iload ⟨rfl, rfl⟩ rfl ?_
      refine zw_cavv3 ⟨rfl, rfl⟩ rfl zc_208 rfl ?_
      refine m_Mfails (fun y => absurd c38 y) (fun _ => ?_)
      refine zw_aload ⟨rfl, rfl⟩ rfl ?_
      refine zw_callv1 ⟨rfl, rfl⟩ rfl zc_208 rfl ?_
      have e5 : ((zup (zup N1 208 38 2) 208 39 p)) 208 37 = e := by first | exact a3 | (rw [zup_ni (by decide), zup_ni (by decide)]; exact a3)
      have f5 : yfR N1 ((zup (zup N1 208 38 2) 208 39 p)) := by first | exact yfR.rf | exact ((yfR.rf).up (by decide)).up (by decide)
      have e41 : ((zup (zup N1 208 38 2) 208 39 p)) 208 41 = N1 208 41 := by first | rfl | (rw [zup_ni (by decide), zup_ni (by decide)])
      have e237 : ((zup (zup N1 208 38 2) 208 39 p)) 237 = N1 237 := by first | rfl | (rw [zup_row (by decide), zup_row (by decide)])
      have e38 : ((zup (zup N1 208 38 2) 208 39 p)) 208 38 = 2 := by first | exact c38 | (rw [zup_ni (by decide), zup_eq])
      have e39 : (wd = -1 → ((zup (zup N1 208 38 2) 208 39 p)) 208 39 = p) ∧ (wd ≠ -1 → ((zup (zup N1 208 38 2) 208 39 p)) 208 39 = -1) := ⟨fun _ => zup_eq _ _ _ _, fun z => absurd (by omega) z⟩
      generalize ((zup (zup N1 208 38 2) 208 39 p)) = N2 at e5 f5 e38 e39 e41 e237 ⊢
      refine m_MgoesBy (p := e) (r := r) (hI1.fr f5) ⟨e5, by omega, l1.1.2⟩ hrr.symm (fun N3 a6 a7 a8 a9 a10 => ?_)
      rw [hqq] at a8 a9 a10
      rw [e38] at a9 a10
      have f3 : yfR M N3 := f1.tr (f5.tr ⟨fun x x1 x2 => a6 x x1, fun j hj => a7 j (by omega)⟩)
      have hI3 := hI.fr f3
      refine zw_istore_3 ⟨rfl, rfl⟩ ?_
      refine zw_aload ⟨rfl, rfl⟩ rfl ?_
      refine zw_getIv (v := N3 208 38) ⟨rfl, rfl⟩ zc_208 (by decide) rfl ?_
      refine zw_ifeq ⟨rfl, rfl⟩ rfl (fun c7 => ?_) (fun c7 => ?_)
      · skip
        refine zw_aload ⟨rfl, rfl⟩ rfl ?_
        refine zw_iload ⟨rfl, rfl⟩ rfl ?_
        refine zw_iload ⟨rfl, rfl⟩ rfl ?_
        refine zw_aload ⟨rfl, rfl⟩ rfl ?_
        refine zw_getIv (v := q) ⟨rfl, rfl⟩ zc_208 (by decide) (a8) ?_
        refine zw_iload ⟨rfl, rfl⟩ rfl ?_
        refine zw_isub ⟨rfl, rfl⟩ (by omega) ?_
        refine zw_callv4 ⟨rfl, rfl⟩ rfl zc_208 rfl ?_
        have d38 : N3 208 38 = 0 := by omega
        have hww2 : wd ≠ -1 := by
          intro z
          first | (rw [if_neg (fun y => absurd y.1 (by decide))] at a9; omega) | omega
        have hqr : q ≠ r := by
          intro z
          first | (rw [if_pos ⟨rfl, z⟩] at a9; omega) | (exfalso; omega)
        have d39 : N3 208 39 = -1 := by
          rw [a10, if_neg (fun z => hqr z.2)]
          exact e39.2 hww2
        have hll : yLet tp r (q - r) := fun k k1 k2 => l2.2.2 (r + k) (by omega) (by omega)
        refine m_MisTold (w := wd) (τ := s.2.2.2.2) (t := s.2.2.2.1) (b := r) (len := q - r) hI3 hll ⟨by omega, by omega, by omega⟩ (by omega) v6 (g7.cg ((a6 237 (by decide)).trans (e237.trans (a1 237 (by decide))))) ⟨(a7 41 (by decide)).trans (e41.trans ((a2 41 (by decide)).trans g6)), v5⟩ (fun P q1 q2 q3 => ?_)
        have hok01 := yok_01 tp r wd (q - r) s.2.2.2.1 s.2.2.2.2
        have qf : yfR M P := f3.tr ⟨q1, fun j hj => q2 j (by omega)⟩
        have p37 : P 208 37 = q := (q2 37 (by decide)).trans a8
        have p38 : P 208 38 = 0 := (q2 38 (by decide)).trans d38
        have p39 : P 208 39 = -1 := (q2 39 (by decide)).trans d39
        refine zw_ifne ⟨rfl, rfl⟩ rfl (fun c8 => ?_) (fun c8 => ?_)
        · skip
          refine zw_aload ⟨rfl, rfl⟩ rfl ?_
          refine zw_cavv1 ⟨rfl, rfl⟩ rfl zc_208 rfl ?_
          have hIP : yIm (P) tp n := hI.fr (qf)
          refine m_Mblanks (p := q) hIP ⟨by first | exact p37 | (simp only [zup_ni (show (37 : Int) ≠ 38 by decide), zup_ni (show (37 : Int) ≠ 39 by decide)]; exact p37), by omega, by omega⟩ ?_
          rw [hzz]
          refine zw_aload ⟨rfl, rfl⟩ rfl ?_
          refine zw_callv1 ⟨rfl, rfl⟩ rfl zc_208 rfl ?_
          refine m_Msee (p := z) (n := n) (tp := tp) (hI.fr ((qf).up (by decide))) ⟨zup_eq _ _ _ _, by omega⟩ ?_
          refine zw_const ⟨rfl, rfl⟩ ?_
          refine zw_iceq ⟨rfl, rfl⟩ rfl (fun c9 => ?_) (fun c9 => ?_)
          · skip
            refine zw_aload ⟨rfl, rfl⟩ rfl ?_
            refine zw_dup ⟨rfl, rfl⟩ (by decide) ?_
            refine zw_getIv (v := z) ⟨rfl, rfl⟩ zc_208 (by decide) (zup_eq _ _ _ _) ?_
            refine zw_const ⟨rfl, rfl⟩ ?_
            refine zw_iadd ⟨rfl, rfl⟩ (by omega) ?_
            refine zw_putI ⟨rfl, rfl⟩ zc_208 (by decide) (fun h => absurd h (by decide)) ?_
            refine zw_aload ⟨rfl, rfl⟩ rfl ?_
            refine zw_cavv1 ⟨rfl, rfl⟩ rfl zc_208 rfl ?_
            have hIQ : yIm ((zup (zup P 208 37 z) 208 37 (z + 1))) tp n := hI.fr (((qf).up (by decide)).up (by decide))
            refine m_Mblanks (p := z + 1) hIQ ⟨zup_eq _ _ _ _, by omega, by omega⟩ ?_
            refine zw_void rfl ?_
            rw [if_neg (by omega), if_neg (by omega), if_neg (by omega)] at hyl
            unfold yl5 at hyl
            rw [hzz, if_neg (by omega), if_neg (by omega)] at hyl
            obtain ⟨t1, t2⟩ := q3 (by omega)
            refine kk _ ((((qf).up (by decide)).up (by decide)).up (by decide)) ?_
            rw [hyl]
            refine ⟨?_, ?_, fun _ => ⟨zup_eq _ _ _ _, ?_, t2.cg ?_⟩⟩
            · simp only [zup_ni (show (38 : Int) ≠ 37 by decide)]; exact p38
            · simp only [zup_ni (show (39 : Int) ≠ 37 by decide)]; exact p39
            · simp only [zup_ni (show (41 : Int) ≠ 37 by decide)]; exact t1
            · simp only [zup_row (show (237 : Int) ≠ 208 by decide)]
          · skip
            refine zw_aload ⟨rfl, rfl⟩ rfl ?_
            refine zw_const ⟨rfl, rfl⟩ ?_
            refine zw_aload ⟨rfl, rfl⟩ rfl ?_
            refine zw_getIv (v := z) ⟨rfl, rfl⟩ zc_208 (by decide) (zup_eq _ _ _ _) ?_
            refine zw_cavv3 ⟨rfl, rfl⟩ rfl zc_208 rfl ?_
            refine m_Mfails (fun y => absurd (by simp only [zup_ni (show (38 : Int) ≠ 37 by decide)]; exact p38) y) (fun _ => ?_)
            refine zw_aload ⟨rfl, rfl⟩ rfl ?_
            refine zw_dup ⟨rfl, rfl⟩ (by decide) ?_
            refine zw_getIv (v := z) ⟨rfl, rfl⟩ zc_208 (by decide) ((zup_ni (by decide)).trans ((zup_ni (by decide)).trans (zup_eq _ _ _ _))) ?_
            refine zw_const ⟨rfl, rfl⟩ ?_
            refine zw_iadd ⟨rfl, rfl⟩ (by omega) ?_
            refine zw_putI ⟨rfl, rfl⟩ zc_208 (by decide) (fun h => absurd h (by decide)) ?_
            refine zw_aload ⟨rfl, rfl⟩ rfl ?_
            refine zw_cavv1 ⟨rfl, rfl⟩ rfl zc_208 rfl ?_
            have hIQ : yIm ((zup (zup (zup (zup P 208 37 z) 208 38 1) 208 39 z) 208 37 (z + 1))) tp n := hI.fr (((((qf).up (by decide)).up (by decide)).up (by decide)).up (by decide))
            refine m_Mblanks (p := z + 1) hIQ ⟨zup_eq _ _ _ _, by omega, by omega⟩ ?_
            refine zw_void rfl ?_
            rw [if_neg (by omega), if_neg (by omega), if_neg (by omega)] at hyl
            unfold yl5 at hyl
            rw [hzz, if_neg (by omega), if_pos (by omega)] at hyl
            refine kk _ ((((((qf).up (by decide)).up (by decide)).up (by decide)).up (by decide)).up (by decide)) ?_
            rw [hyl]
            refine ⟨?_, ?_, fun y => absurd y (by show ¬ ((1 : Int) = 0); decide)⟩
            · simp only [zup_ni (show (38 : Int) ≠ 37 by decide), zup_ni (show (39 : Int) ≠ 37 by decide), zup_ni (show (38 : Int) ≠ 39 by decide), zup_ni (show (39 : Int) ≠ 38 by decide), zup_eq]
            · simp only [zup_ni (show (38 : Int) ≠ 37 by decide), zup_ni (show (39 : Int) ≠ 37 by decide), zup_ni (show (38 : Int) ≠ 39 by decide), zup_ni (show (39 : Int) ≠ 38 by decide), zup_eq]
        · skip
          refine zw_aload ⟨rfl, rfl⟩ rfl ?_
          refine zw_const ⟨rfl, rfl⟩ ?_
          refine zw_iload ⟨rfl, rfl⟩ rfl ?_
          refine zw_cavv3 ⟨rfl, rfl⟩ rfl zc_208 rfl ?_
          refine m_Mfails (fun y => absurd p38 y) (fun _ => ?_)
          refine zw_aload ⟨rfl, rfl⟩ rfl ?_
          refine zw_cavv1 ⟨rfl, rfl⟩ rfl zc_208 rfl ?_
          have hIP : yIm ((zup (zup P 208 38 3) 208 39 r)) tp n := hI.fr (((qf).up (by decide)).up (by decide))
          refine m_Mblanks (p := q) hIP ⟨by first | exact p37 | (simp only [zup_ni (show (37 : Int) ≠ 38 by decide), zup_ni (show (37 : Int) ≠ 39 by decide)]; exact p37), by omega, by omega⟩ ?_
          rw [hzz]
          refine zw_aload ⟨rfl, rfl⟩ rfl ?_
          refine zw_callv1 ⟨rfl, rfl⟩ rfl zc_208 rfl ?_
          refine m_Msee (p := z) (n := n) (tp := tp) (hI.fr ((((qf).up (by decide)).up (by decide)).up (by decide))) ⟨zup_eq _ _ _ _, by omega⟩ ?_
          refine zw_const ⟨rfl, rfl⟩ ?_
          refine zw_iceq ⟨rfl, rfl⟩ rfl (fun c10 => ?_) (fun c10 => ?_)
          · skip
            refine zw_aload ⟨rfl, rfl⟩ rfl ?_
            refine zw_dup ⟨rfl, rfl⟩ (by decide) ?_
            refine zw_getIv (v := z) ⟨rfl, rfl⟩ zc_208 (by decide) (zup_eq _ _ _ _) ?_
            refine zw_const ⟨rfl, rfl⟩ ?_
            refine zw_iadd ⟨rfl, rfl⟩ (by omega) ?_
            refine zw_putI ⟨rfl, rfl⟩ zc_208 (by decide) (fun h => absurd h (by decide)) ?_
            refine zw_aload ⟨rfl, rfl⟩ rfl ?_
            refine zw_cavv1 ⟨rfl, rfl⟩ rfl zc_208 rfl ?_
            have hIQ : yIm ((zup (zup (zup (zup P 208 38 3) 208 39 r) 208 37 z) 208 37 (z + 1))) tp n := hI.fr (((((qf).up (by decide)).up (by decide)).up (by decide)).up (by decide))
            refine m_Mblanks (p := z + 1) hIQ ⟨zup_eq _ _ _ _, by omega, by omega⟩ ?_
            refine zw_void rfl ?_
            rw [if_neg (by omega), if_neg (by omega), if_neg (by omega)] at hyl
            unfold yl5 at hyl
            rw [if_pos (by omega)] at hyl
            refine kk _ ((((((qf).up (by decide)).up (by decide)).up (by decide)).up (by decide)).up (by decide)) ?_
            rw [hyl]
            refine ⟨?_, ?_, fun y => absurd y (by show ¬ ((3 : Int) = 0); decide)⟩
            · simp only [zup_ni (show (38 : Int) ≠ 37 by decide), zup_ni (show (39 : Int) ≠ 37 by decide), zup_ni (show (38 : Int) ≠ 39 by decide), zup_ni (show (39 : Int) ≠ 38 by decide), zup_eq]
            · simp only [zup_ni (show (38 : Int) ≠ 37 by decide), zup_ni (show (39 : Int) ≠ 37 by decide), zup_ni (show (38 : Int) ≠ 39 by decide), zup_ni (show (39 : Int) ≠ 38 by decide), zup_eq]
          · skip
            refine zw_aload ⟨rfl, rfl⟩ rfl ?_
            refine zw_const ⟨rfl, rfl⟩ ?_
            refine zw_aload ⟨rfl, rfl⟩ rfl ?_
            refine zw_getIv (v := z) ⟨rfl, rfl⟩ zc_208 (by decide) (zup_eq _ _ _ _) ?_
            refine zw_cavv3 ⟨rfl, rfl⟩ rfl zc_208 rfl ?_
            refine m_Mfails (fun _ => ?_) (fun y => absurd y (by simp only [zup_ni (show (38 : Int) ≠ 37 by decide), zup_ni (show (39 : Int) ≠ 37 by decide), zup_ni (show (38 : Int) ≠ 39 by decide), zup_ni (show (39 : Int) ≠ 38 by decide), zup_eq]; decide))
            refine zw_aload ⟨rfl, rfl⟩ rfl ?_
            refine zw_dup ⟨rfl, rfl⟩ (by decide) ?_
            refine zw_getIv (v := z) ⟨rfl, rfl⟩ zc_208 (by decide) (zup_eq _ _ _ _) ?_
            refine zw_const ⟨rfl, rfl⟩ ?_
            refine zw_iadd ⟨rfl, rfl⟩ (by omega) ?_
            refine zw_putI ⟨rfl, rfl⟩ zc_208 (by decide) (fun h => absurd h (by decide)) ?_
            refine zw_aload ⟨rfl, rfl⟩ rfl ?_
            refine zw_cavv1 ⟨rfl, rfl⟩ rfl zc_208 rfl ?_
            have hIQ : yIm ((zup (zup (zup (zup P 208 38 3) 208 39 r) 208 37 z) 208 37 (z + 1))) tp n := hI.fr (((((qf).up (by decide)).up (by decide)).up (by decide)).up (by decide))
            refine m_Mblanks (p := z + 1) hIQ ⟨zup_eq _ _ _ _, by omega, by omega⟩ ?_
            refine zw_void rfl ?_
            rw [if_neg (by omega), if_neg (by omega), if_neg (by omega)] at hyl
            unfold yl5 at hyl
            rw [if_pos (by omega)] at hyl
            refine kk _ ((((((qf).up (by decide)).up (by decide)).up (by decide)).up (by decide)).up (by decide)) ?_
            rw [hyl]
            refine ⟨?_, ?_, fun y => absurd y (by show ¬ ((3 : Int) = 0); decide)⟩
            · simp only [zup_ni (show (38 : Int) ≠ 37 by decide), zup_ni (show (39 : Int) ≠ 37 by decide), zup_ni (show (38 : Int) ≠ 39 by decide), zup_ni (show (39 : Int) ≠ 38 by decide), zup_eq]
            · simp only [zup_ni (show (38 : Int) ≠ 37 by decide), zup_ni (show (39 : Int) ≠ 37 by decide), zup_ni (show (38 : Int) ≠ 39 by decide), zup_ni (show (39 : Int) ≠ 38 by decide), zup_eq]
      · skip
        refine zw_void rfl ?_
        by_cases hwm : wd = -1
        · rw [if_neg (by omega), if_pos hwm] at hyl
          refine kk _ f3 ?_
          rw [hyl]
          refine ⟨?_, ?_, fun z => absurd z (by show ¬ ((2 : Int) = 0); decide)⟩
          · first | (rw [a9, if_neg (fun y => absurd y.1 (by decide))]) | (exfalso; omega)
          · first | (rw [a10, if_neg (fun y => absurd y.1 (by decide))]; exact e39.1 hwm) | (exfalso; omega)
        · have hqr : q = r := by
            by_cases y : q = r
            · exact y
            · exfalso
              first | (rw [if_neg (fun x => y x.2)] at a9; omega) | omega
          rw [if_neg (by omega), if_neg hwm, if_pos hqr] at hyl
          refine kk _ f3 ?_
          rw [hyl]
          refine ⟨?_, ?_, fun z => absurd z (by show ¬ ((1 : Int) = 0); decide)⟩
          · first | (rw [a9, if_pos ⟨rfl, hqr⟩]) | (exfalso; omega)
          · first | (rw [a10, if_pos ⟨rfl, hqr⟩]) | (exfalso; omega)
  · skip
    have hep : e = p := by
      by_cases y : e = p
      · exact y
      · rw [if_neg (fun z => y z.2)] at a4; omega
    refine zw_void rfl ?_
    rw [if_pos hep] at hyl
    refine kk _ f1 ?_
    rw [hyl]
    exact ⟨by rw [a4, if_pos ⟨rfl, hep⟩], by rw [a5, if_pos ⟨rfl, hep⟩], fun z => absurd z (by show ¬ ((1 : Int) = 0); decide)⟩

end