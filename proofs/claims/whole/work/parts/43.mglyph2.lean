/-! The model's glyphs: consonants -/
theorem ynk_p {K : Int → Int} {n p : Int} (hK : yKr K n) : ynk K p = -1 ∨ (0 ≤ ynk K p ∧ ynk K p < n) := by
  unfold ynk
  split
  · rename_i q
    exact Or.inr (ykp hK (p := p + 1) (by rw [q]; decide))
  · exact Or.inl rfl
theorem yvi_p {K : Int → Int} {n p : Int} (hK : yKr K n) : yvi K p = -1 ∨ (0 ≤ yvi K p ∧ yvi K p < n ∧ K (yvi K p) = 3) := by
  unfold yvi
  split
  · exact Or.inl rfl
  · rename_i q
    have h := (ync_r q).2.2.1
    have := (ykp hK (p := yq K p) (by rw [h]; decide))
    exact Or.inr ⟨this.1, this.2, h⟩
theorem yjo_p {K : Int → Int} {n p : Int} (hK : yKr K n) : yjo K p = -1 ∨ (0 ≤ yjo K p ∧ yjo K p < n) := by
  unfold yjo
  split
  · exact Or.inl rfl
  · split
    · rename_i q
      exact Or.inr (ykp hK (p := yq K p + 1) (by rcases q with z | z <;> rw [z] <;> decide))
    · exact Or.inl rfl
theorem yvn {K : Int → Int} {n p q : Int} (hK : yKr K n) : ynk K p = -1 ∨ yvi K q ≠ ynk K p := by
  by_cases h : ynk K p = -1
  · exact Or.inl h
  · right
    intro e
    have h4 : K (ynk K p) = 4 := by
      unfold ynk at h ⊢
      split at h
      · rename_i z; rw [if_pos z]; exact z
      · exact absurd rfl h
    rcases yvi_p (p := q) hK with z | z
    · omega
    · rw [e, h4] at z; omega
theorem ysh_pl {σ : yS} {c : Int} {X : yT} {v g f p rk : Int} (h : p = -1 ∨ v ≠ p) : yplt σ c (yshb X v g) f p rk = yshb (yplt σ c X f p rk) v g := by
  unfold yplt
  split
  · rfl
  · rename_i hp
    have hv : v ≠ p := h.resolve_left hp
    show ((X.1 + 1, _, fun q => if q = p then X.1 else if q = v then g else X.2.2 q) : yT) = (X.1 + 1, _, fun q => if q = v then g else if q = p then X.1 else X.2.2 q)
    congr 2
    funext q
    by_cases h1 : q = p
    · subst h1; rw [if_pos rfl, if_neg (Ne.symm hv), if_pos rfl]
    · rw [if_neg h1, if_neg h1]

section
set_option maxHeartbeats 4000000
theorem m_showsJoined {c rk f k hf : Int} {M : zM} {Q : zV → zM → Prop} {σ : yS} {b : Int} (hV : yVal σ) (hB : yMb M σ b) (hb : (0 ≤ b ∧ b < σ 0) ∧ ybg (yK σ) b) (h : yK σ b = 1) {T : yT} (hD : yGm M T) (hk : 0 ≤ k ∧ k < ym (yK σ) b ∧ (yjf σ (yK σ) b k = 1 → k + 1 < ym (yK σ) b)) (hff : f = if yjf σ (yK σ) b k = 1 then (if hf = 0 then 2 else 3) else (if hf = 0 then 0 else 1)) (hg : T.1 < 180) (kk : ∀ N : zM, (yGm N (ydcn σ c T b k (yla σ b k) hf rk) ∧ ygf M N) → Q (3, 0) N) : zWp kM_showsJoined 0 [(1, 208), (0, c), (0, rk), (0, f), (0, k)] [] M Q := by
  have hK := yKr_K hV
  have hn := hV.1
  have hm := ym_r hK hb.1.1 hb.1.2 h
  have em : yms (yK σ) b = ym (yK σ) b := if_pos h
  have hT0 := hD.2.1
  have hjr := (yjf_r σ (yK σ) b hk.1).1
  have hpk := (ypl_r hK hb.1.1 hb.1.2 h hk.1 hk.2.1).1
  have hpk0 : 0 ≤ yP σ b k ∧ yP σ b k < σ 0 := by unfold yP; omega
  have hf6 : f ≠ 6 ∧ f ≠ 7 := by rw [hff]; split <;> split <;> omega
  refine zw_aload ⟨rfl, rfl⟩ rfl ?_
  refine zw_iload ⟨rfl, rfl⟩ rfl ?_
  refine zw_iload ⟨rfl, rfl⟩ rfl ?_
  refine zw_iload ⟨rfl, rfl⟩ rfl ?_
  refine zw_aload ⟨rfl, rfl⟩ rfl ?_
  refine zw_getR 222 ⟨rfl, rfl⟩ zr_208_16 ?_
  refine zw_iload ⟨rfl, rfl⟩ rfl ?_
  refine zw_ialdv (v := yP σ b (k)) ⟨rfl, rfl⟩ za_222 (by omega) ((hB.2 (k) (by omega) (by omega)).1) ?_
  refine zw_cavv5 ⟨rfl, rfl⟩ rfl zc_208 rfl ?_
  refine m_showsAt hV hB.1.1 hD (Or.inr ⟨by omega, by omega⟩) (fun _ => hg) (fun _ => ywo_e σ _ _ (by omega) (by omega)) (fun N1 p1 => ?_)
  have hB1 := hB.fr p1.2
  have D1 := p1.1
  unfold yplt at D1
  rw [if_neg (by omega)] at D1
  refine zw_aload ⟨rfl, rfl⟩ rfl ?_
  refine zw_getR 226 ⟨rfl, rfl⟩ zr_208_20 ?_
  refine zw_iload ⟨rfl, rfl⟩ rfl ?_
  refine zw_baldv (v := yjf σ (yK σ) b (k)) ⟨rfl, rfl⟩ za_226 (by decide) (by omega) ((hB1.2 (k) (by omega) (by omega)).2.2.2.2) ?_
  refine zw_ifne ⟨rfl, rfl⟩ rfl (fun c1 => ?_) (fun c1 => ?_)
  · skip
    have hj1 : yjf σ (yK σ) b k = 1 := by omega
    have hk1 := hk.2.2 hj1
    have hpl := (ypl_r hK hb.1.1 hb.1.2 h (show 0 ≤ k + 1 by omega) hk1).1
    have hpl0 : 0 ≤ yP σ b (k + 1) ∧ yP σ b (k + 1) < σ 0 := by unfold yP; omega
    refine zw_aload ⟨rfl, rfl⟩ rfl ?_
    refine zw_getR 229 ⟨rfl, rfl⟩ zr_208_25 ?_
    refine zw_aload ⟨rfl, rfl⟩ rfl ?_
    refine zw_getIv (v := T.1 + 1) ⟨rfl, rfl⟩ zc_208 (by decide) (D1.1) ?_
    refine zw_const ⟨rfl, rfl⟩ ?_
    refine zw_isub ⟨rfl, rfl⟩ (by omega) ?_
    rw [show (T.1 + 1) - 1 = T.1 by omega]
    refine zw_aload ⟨rfl, rfl⟩ rfl ?_
    refine zw_aload ⟨rfl, rfl⟩ rfl ?_
    refine zw_getR 222 ⟨rfl, rfl⟩ zr_208_16 ?_
    refine zw_iload ⟨rfl, rfl⟩ rfl ?_
    refine zw_const ⟨rfl, rfl⟩ ?_
    refine zw_iadd ⟨rfl, rfl⟩ (by omega) ?_
    refine zw_ialdv (v := yP σ b ((k + 1))) ⟨rfl, rfl⟩ za_222 (by omega) ((hB1.2 ((k + 1)) (by omega) (by omega)).1) ?_
    refine zw_callv2 ⟨rfl, rfl⟩ rfl zc_208 rfl ?_
    refine m_MletterAt hV hB1.1.1 ⟨by omega, by omega⟩ ?_
    refine zw_iast ⟨rfl, rfl⟩ za_229 (by omega) ?_
    refine zw_aload ⟨rfl, rfl⟩ rfl ?_
    refine zw_getR 234 ⟨rfl, rfl⟩ zr_208_30 ?_
    refine zw_aload ⟨rfl, rfl⟩ rfl ?_
    refine zw_getR 222 ⟨rfl, rfl⟩ zr_208_16 ?_
    refine zw_iload ⟨rfl, rfl⟩ rfl ?_
    refine zw_const ⟨rfl, rfl⟩ ?_
    refine zw_iadd ⟨rfl, rfl⟩ (by omega) ?_
    refine zw_ialdv (v := yP σ b ((k + 1))) ⟨rfl, rfl⟩ za_222 (by omega) ((zup_na (by decide)).trans ((hB1.2 ((k + 1)) (by omega) (by omega)).1)) ?_
    refine zw_aload ⟨rfl, rfl⟩ rfl ?_
    refine zw_getIv (v := T.1 + 1) ⟨rfl, rfl⟩ zc_208 (by decide) ((zup_na (by decide)).trans (D1.1)) ?_
    refine zw_const ⟨rfl, rfl⟩ ?_
    refine zw_isub ⟨rfl, rfl⟩ (by omega) ?_
    rw [show (T.1 + 1) - 1 = T.1 by omega]
    refine zw_iast ⟨rfl, rfl⟩ za_234 (by omega) ?_
    refine zw_aload ⟨rfl, rfl⟩ rfl ?_
    refine zw_iload ⟨rfl, rfl⟩ rfl ?_
    refine zw_aload ⟨rfl, rfl⟩ rfl ?_
    refine zw_getIv (v := T.1 + 1) ⟨rfl, rfl⟩ zc_208 (by decide) ((zup_na (by decide)).trans ((zup_na (by decide)).trans (D1.1))) ?_
    refine zw_const ⟨rfl, rfl⟩ ?_
    refine zw_isub ⟨rfl, rfl⟩ (by omega) ?_
    rw [show (T.1 + 1) - 1 = T.1 by omega]
    refine zw_cavv3 ⟨rfl, rfl⟩ rfl zc_208 rfl ?_
    have D2 : yGm (zup (zup N1 229 T.1 (yL σ (yP σ b (k + 1)))) 234 (yP σ b ((k + 1))) T.1) (yshb (yshb (yem T f (yL σ (yP σ b k)) (yL σ (yP σ b (k + 1))) (yP σ b k) rk c) (yP σ b k) T.1) (yP σ b (k + 1)) T.1) := by
      refine ⟨D1.1, D1.2.1, fun j q1 q2 => ?_, fun q q1 q2 => ?_⟩
      · have q3 : j < T.1 + 1 := q2
        have := D1.2.2.1 j q1 q2
        unfold yW at this ⊢
        by_cases e : j = T.1
        · subst e; simp [zup, yem, yshb, yrw] at this ⊢; exact ⟨this.1, this.2.1, this.2.2.2.1, this.2.2.2.2.1, this.2.2.2.2.2.1, this.2.2.2.2.2.2⟩
        · simp [zup, yem, yshb, yrw, e] at this ⊢; exact this
      · have := D1.2.2.2 q q1 q2
        by_cases e : q = yP σ b (k + 1)
        · rw [e, zup_eq]; simp [yshb]
        · rw [zup_ni e, zup_na (by decide), this]; simp [yshb, yem, e]
    have f2 : ygf N1 (zup (zup N1 229 T.1 (yL σ (yP σ b (k + 1)))) 234 (yP σ b ((k + 1))) T.1) := ⟨fun x x1 x2 => by rw [zup_row (by omega), zup_row (by omega)], fun j hj => rfl⟩
    refine m_showsWith D2 (hB1.fr f2) ⟨by omega, by omega, by omega⟩ (by rcases yvi_p (p := yP σ b k) hK with z | z; exact Or.inl z; exact Or.inr ⟨z.1, by omega⟩) (fun N2 p2 => ?_)
    refine zw_void rfl ?_
    refine kk _ ⟨?_, (p1.2.tr f2).tr p2.2⟩
    have el : yla σ b k = k + 1 := if_pos hj1
    rw [el]
    unfold ydcn
    rw [if_neg (by omega)]
    rw [if_pos hj1] at hff
    rw [← hff]
    refine p2.1.sx rfl rfl (fun q _ _ => ?_)
    simp only [yshb]
    split
    · split
      · rfl
      · rfl
    · split
      · rfl
      · rfl
  · skip
    refine zw_void rfl ?_
    refine kk _ ⟨?_, p1.2⟩
    have el : yla σ b k = k := if_neg (by omega)
    rw [el]
    unfold ydcn
    rw [if_pos rfl]
    rw [if_neg (show ¬ yjf σ (yK σ) b k = 1 by omega)] at hff
    rw [← hff]
    exact p1.1
end

section
set_option maxHeartbeats 4000000
theorem m_showsAhead {c k : Int} {M : zM} {Q : zV → zM → Prop} {σ : yS} {b : Int} (hV : yVal σ) (hB : yMb M σ b) (hb : (0 ≤ b ∧ b < σ 0) ∧ ybg (yK σ) b) (h : yK σ b = 1) {T : yT} (hD : yGm M T) (hk : 0 ≤ k ∧ yla σ b k + 1 < ym (yK σ) b + 1) (hg : T.1 + 4 ≤ 180) (kk : ∀ N : zM, (yGm N (yah2 σ c b k (yla σ b k) (yhf σ b (yla σ b k)) T) ∧ ygf M N) → Q (0, yla σ b k + 1) N) : zWp kM_showsAhead 0 [(1, 208), (0, c), (0, k), (3, 0), (3, 0)] [] M Q := by
  have hK := yKr_K hV
  have hn := hV.1
  have hm := ym_r hK hb.1.1 hb.1.2 h
  have em : yms (yK σ) b = ym (yK σ) b := if_pos h
  have hT0 := hD.2.1
  have hjr := (yjf_r σ (yK σ) b hk.1).1
  have hlr : yla σ b k = k ∨ yla σ b k = k + 1 := by unfold yla; split <;> omega
  have hla0 : (yjf σ (yK σ) b k = 1 → yla σ b k = k + 1) ∧ (yjf σ (yK σ) b k ≠ 1 → yla σ b k = k) := ⟨fun z => if_pos z, fun z => if_neg z⟩
  have hpk := (ypl_r hK hb.1.1 hb.1.2 h hk.1 (by omega)).1
  have hpk1 : yP σ b k ≠ -1 := by unfold yP; omega
  refine zw_aload ⟨rfl, rfl⟩ rfl ?_
  refine zw_getR 226 ⟨rfl, rfl⟩ zr_208_20 ?_
  refine zw_iload ⟨rfl, rfl⟩ rfl ?_
  refine zw_baldv (v := yjf σ (yK σ) b (k)) ⟨rfl, rfl⟩ za_226 (by decide) (by omega) ((hB.2 (k) (by omega) (by omega)).2.2.2.2) ?_
  refine zw_ifeq ⟨rfl, rfl⟩ rfl (fun c1 => ?_) (fun c1 => ?_)
  · skip
    refine zw_iload ⟨rfl, rfl⟩ rfl ?_
    refine zw_istore_3 ⟨rfl, rfl⟩ ?_
    have ela : yla σ b k = k := by omega
    have hpl := (ypl_r hK hb.1.1 hb.1.2 h (show 0 ≤ k by omega) (by omega)).1
    have hpl0 : 0 ≤ yP σ b (k) ∧ yP σ b (k) < σ 0 := by unfold yP; omega
    have hjp := yjo_p (p := yP σ b (k)) hK
    refine zw_aload ⟨rfl, rfl⟩ rfl ?_
    refine zw_aload ⟨rfl, rfl⟩ rfl ?_
    refine zw_aload ⟨rfl, rfl⟩ rfl ?_
    refine zw_getR 222 ⟨rfl, rfl⟩ zr_208_16 ?_
    refine zw_iload ⟨rfl, rfl⟩ rfl ?_
    refine zw_ialdv (v := yP σ b (k)) ⟨rfl, rfl⟩ za_222 (by omega) ((hB.2 (k) (by omega) (by omega)).1) ?_
    refine zw_callv2 ⟨rfl, rfl⟩ rfl zc_208 rfl ?_
    refine m_MletterAt hV hB.1.1 ⟨by omega, by omega⟩ ?_
    refine zw_const ⟨rfl, rfl⟩ ?_
    refine zw_callv3 ⟨rfl, rfl⟩ rfl zc_208 rfl ?_
    have hl := yL_r hV hpl0.1 hpl0.2
    have hb4 : ybt σ (yL σ (yP σ b (k))) 4 = σ (28 + yL σ (yP σ b (k))) / 4 % 2 := rfl
    have hb4r := ybt_r σ (yL σ (yP σ b (k))) 4
    refine m_Mdoes hV hB.1.1 hl (Or.inr (Or.inr rfl)) ?_
    refine zw_ifeq ⟨rfl, rfl⟩ rfl (fun c2 => ?_) (fun c2 => ?_)
    · skip
      refine zw_const ⟨rfl, rfl⟩ ?_
      have hhf : yhf σ b (k) = 0 := by unfold yhf; exact if_neg (fun z => by first | exact z.1 ⟨by omega, by omega⟩ | (have z2 := z.2; omega))
      refine zw_istore_4 ⟨rfl, rfl⟩ ?_
      refine zw_aload ⟨rfl, rfl⟩ rfl ?_
      refine zw_iload ⟨rfl, rfl⟩ rfl ?_
      refine zw_const ⟨rfl, rfl⟩ ?_
      refine zw_iload ⟨rfl, rfl⟩ rfl ?_
      refine zw_ifeq ⟨rfl, rfl⟩ rfl (fun _ => ?_) (fun q => absurd (by decide) q)
      refine zw_aload ⟨rfl, rfl⟩ rfl ?_
      refine zw_getR 226 ⟨rfl, rfl⟩ zr_208_20 ?_
      refine zw_iload ⟨rfl, rfl⟩ rfl ?_
      refine zw_baldv (v := yjf σ (yK σ) b (k)) ⟨rfl, rfl⟩ za_226 (by decide) (by omega) ((hB.2 (k) (by omega) (by omega)).2.2.2.2) ?_
      refine zw_ifeq ⟨rfl, rfl⟩ rfl (fun _ => ?_) (fun q => absurd (by omega) q)
      refine zw_const ⟨rfl, rfl⟩ ?_
      refine zw_iload ⟨rfl, rfl⟩ rfl ?_
      refine zw_cavv5 ⟨rfl, rfl⟩ rfl zc_208 rfl ?_
      refine m_showsJoined (hf := 0) hV hB hb h hD ⟨hk.1, by omega, fun z => by omega⟩ (by first | (rw [if_pos (by omega)]; rfl) | (rw [if_neg (by omega)]; rfl)) (by omega) (fun N1 p1 => ?_)
      have hB1 := hB.fr p1.2
      have q1 := ydcn_1 c T (yla σ b k) 0 1 hpk1
      have D1 := p1.1
      have n1 : N1 208 31 = T.1 + 1 := D1.1.trans q1
      refine zw_iload ⟨rfl, rfl⟩ rfl ?_
      refine zw_ifeq ⟨rfl, rfl⟩ rfl (fun _ => ?_) (fun q => absurd (by decide) q)
      refine zw_aload ⟨rfl, rfl⟩ rfl ?_
      refine zw_iload ⟨rfl, rfl⟩ rfl ?_
      refine zw_const ⟨rfl, rfl⟩ ?_
      refine zw_const ⟨rfl, rfl⟩ ?_
      refine zw_aload ⟨rfl, rfl⟩ rfl ?_
      refine zw_getR 223 ⟨rfl, rfl⟩ zr_208_17 ?_
      refine zw_iload ⟨rfl, rfl⟩ rfl ?_
      refine zw_ialdv (v := ynk (yK σ) (yP σ b (k))) ⟨rfl, rfl⟩ za_223 (by omega) ((hB1.2 (k) (by omega) (by omega)).2.1) ?_
      refine zw_cavv5 ⟨rfl, rfl⟩ rfl zc_208 rfl ?_
      refine m_showsAt hV hB1.1.1 D1 (ynk_p hK) (fun hpz => by (try simp only [yplt_1, yshb_1, yem_1]); (repeat' split) <;> omega) (fun _ => ywo_e σ _ _ (by decide) (by decide)) (fun N2 p2 => ?_)
      have hB2 := hB1.fr p2.2
      have D2 := p2.1
      refine zw_iload ⟨rfl, rfl⟩ rfl ?_
      refine zw_ifne ⟨rfl, rfl⟩ rfl (fun q => absurd q (by decide)) (fun _ => ?_)
      refine zw_aload ⟨rfl, rfl⟩ rfl ?_
      refine zw_iload ⟨rfl, rfl⟩ rfl ?_
      refine zw_const ⟨rfl, rfl⟩ ?_
      refine zw_const ⟨rfl, rfl⟩ ?_
      refine zw_aload ⟨rfl, rfl⟩ rfl ?_
      refine zw_getR 224 ⟨rfl, rfl⟩ zr_208_18 ?_
      refine zw_iload ⟨rfl, rfl⟩ rfl ?_
      refine zw_ialdv (v := yvi (yK σ) (yP σ b (k))) ⟨rfl, rfl⟩ za_224 (by omega) ((hB2.2 (k) (by omega) (by omega)).2.2.1) ?_
      refine zw_cavv5 ⟨rfl, rfl⟩ rfl zc_208 rfl ?_
      refine m_showsAt hV hB2.1.1 D2 (by rcases yvi_p (p := (yP σ b (k))) hK with z | z; exact Or.inl z; exact Or.inr ⟨z.1, z.2.1⟩) (fun hpz => by (try simp only [yplt_1, yshb_1, yem_1]); (repeat' split) <;> omega) (fun _ => ywo_e σ _ _ (by decide) (by decide)) (fun N3 p3 => ?_)
      have hB3 := hB2.fr p3.2
      have D3 := p3.1
      refine zw_aload ⟨rfl, rfl⟩ rfl ?_
      refine zw_iload ⟨rfl, rfl⟩ rfl ?_
      refine zw_const ⟨rfl, rfl⟩ ?_
      refine zw_const ⟨rfl, rfl⟩ ?_
      refine zw_aload ⟨rfl, rfl⟩ rfl ?_
      refine zw_getR 225 ⟨rfl, rfl⟩ zr_208_19 ?_
      refine zw_iload ⟨rfl, rfl⟩ rfl ?_
      refine zw_ialdv (v := yjo (yK σ) (yP σ b (k))) ⟨rfl, rfl⟩ za_225 (by omega) ((hB3.2 (k) (by omega) (by omega)).2.2.2.1) ?_
      refine zw_cavv5 ⟨rfl, rfl⟩ rfl zc_208 rfl ?_
      refine m_showsAt hV hB3.1.1 D3 (yjo_p hK) (fun hpz => by (try simp only [yplt_1, yshb_1, yem_1]); (repeat' split) <;> omega) (fun _ => ywo_e σ _ _ (by decide) (by decide)) (fun N4 p4 => ?_)
      have hB4 := hB3.fr p4.2
      have D4 := p4.1
      refine zw_iload ⟨rfl, rfl⟩ rfl ?_
      refine zw_const ⟨rfl, rfl⟩ ?_
      refine zw_iadd ⟨rfl, rfl⟩ (by omega) ?_
      refine zw_ret rfl ?_
      have k2 := kk N4 ⟨?_, ((p1.2.tr p2.2).tr p3.2).tr p4.2⟩
      · rw [ela] at k2; exact k2
      · rw [ela, hhf]
        unfold yah2
        rw [if_pos rfl]
        rw [ela] at D4
        exact D4
    · skip
      refine zw_aload ⟨rfl, rfl⟩ rfl ?_
      refine zw_getR 225 ⟨rfl, rfl⟩ zr_208_19 ?_
      refine zw_iload ⟨rfl, rfl⟩ rfl ?_
      refine zw_ialdv (v := yjo (yK σ) (yP σ b (k))) ⟨rfl, rfl⟩ za_225 (by omega) ((hB.2 (k) (by omega) (by omega)).2.2.2.1) ?_
      refine zw_const ⟨rfl, rfl⟩ ?_
      refine zw_iceq ⟨rfl, rfl⟩ rfl (fun c7 => ?_) (fun c7 => ?_)
      · skip
        refine zw_const ⟨rfl, rfl⟩ ?_
        refine zw_goto ⟨rfl, rfl⟩ rfl ?_
        have hhf : yhf σ b (k) = 1 := by unfold yhf; exact if_pos ⟨fun z => by have z1 := z.1; have z2 := z.2; omega, by omega⟩
        refine zw_istore_4 ⟨rfl, rfl⟩ ?_
        refine zw_aload ⟨rfl, rfl⟩ rfl ?_
        refine zw_iload ⟨rfl, rfl⟩ rfl ?_
        refine zw_const ⟨rfl, rfl⟩ ?_
        refine zw_iload ⟨rfl, rfl⟩ rfl ?_
        refine zw_ifeq ⟨rfl, rfl⟩ rfl (fun q => absurd q (by decide)) (fun _ => ?_)
        refine zw_aload ⟨rfl, rfl⟩ rfl ?_
        refine zw_getR 226 ⟨rfl, rfl⟩ zr_208_20 ?_
        refine zw_iload ⟨rfl, rfl⟩ rfl ?_
        refine zw_baldv (v := yjf σ (yK σ) b (k)) ⟨rfl, rfl⟩ za_226 (by decide) (by omega) ((hB.2 (k) (by omega) (by omega)).2.2.2.2) ?_
        refine zw_ifeq ⟨rfl, rfl⟩ rfl (fun _ => ?_) (fun q => absurd (by omega) q)
        refine zw_const ⟨rfl, rfl⟩ ?_
        refine zw_goto ⟨rfl, rfl⟩ rfl ?_
        refine zw_iload ⟨rfl, rfl⟩ rfl ?_
        refine zw_cavv5 ⟨rfl, rfl⟩ rfl zc_208 rfl ?_
        refine m_showsJoined (hf := 1) hV hB hb h hD ⟨hk.1, by omega, fun z => by omega⟩ (by first | (rw [if_pos (by omega)]; rfl) | (rw [if_neg (by omega)]; rfl)) (by omega) (fun N1 p1 => ?_)
        have hB1 := hB.fr p1.2
        have q1 := ydcn_1 c T (yla σ b k) 1 1 hpk1
        have D1 := p1.1
        have n1 : N1 208 31 = T.1 + 1 := D1.1.trans q1
        refine zw_iload ⟨rfl, rfl⟩ rfl ?_
        refine zw_ifeq ⟨rfl, rfl⟩ rfl (fun q => absurd q (by decide)) (fun _ => ?_)
        refine zw_aload ⟨rfl, rfl⟩ rfl ?_
        refine zw_iload ⟨rfl, rfl⟩ rfl ?_
        refine zw_aload ⟨rfl, rfl⟩ rfl ?_
        refine zw_getIv (v := T.1 + 1) ⟨rfl, rfl⟩ zc_208 (by decide) (n1) ?_
        refine zw_const ⟨rfl, rfl⟩ ?_
        refine zw_isub ⟨rfl, rfl⟩ (by omega) ?_
        rw [show (T.1 + 1) - 1 = T.1 by omega]
        refine zw_cavv3 ⟨rfl, rfl⟩ rfl zc_208 rfl ?_
        refine m_showsWith D1 hB1 ⟨by omega, by omega, by omega⟩ (by rcases yvi_p (p := yP σ b (k)) hK with z | z; exact Or.inl z; exact Or.inr ⟨z.1, by omega⟩) (fun N2 p2 => ?_)
        have hB2 := hB1.fr p2.2
        have D2 := p2.1
        refine zw_aload ⟨rfl, rfl⟩ rfl ?_
        refine zw_iload ⟨rfl, rfl⟩ rfl ?_
        refine zw_const ⟨rfl, rfl⟩ ?_
        refine zw_const ⟨rfl, rfl⟩ ?_
        refine zw_aload ⟨rfl, rfl⟩ rfl ?_
        refine zw_getR 223 ⟨rfl, rfl⟩ zr_208_17 ?_
        refine zw_iload ⟨rfl, rfl⟩ rfl ?_
        refine zw_ialdv (v := ynk (yK σ) (yP σ b (k))) ⟨rfl, rfl⟩ za_223 (by omega) ((hB2.2 (k) (by omega) (by omega)).2.1) ?_
        refine zw_cavv5 ⟨rfl, rfl⟩ rfl zc_208 rfl ?_
        refine m_showsAt hV hB2.1.1 D2 (ynk_p hK) (fun hpz => by (try simp only [yplt_1, yshb_1, yem_1]); (repeat' split) <;> omega) (fun _ => ywo_e σ _ _ (by decide) (by decide)) (fun N3 p3 => ?_)
        have hB3 := hB2.fr p3.2
        have D3 := p3.1
        refine zw_iload ⟨rfl, rfl⟩ rfl ?_
        refine zw_ifne ⟨rfl, rfl⟩ rfl (fun _ => ?_) (fun q => absurd (by decide) q)
        refine zw_aload ⟨rfl, rfl⟩ rfl ?_
        refine zw_iload ⟨rfl, rfl⟩ rfl ?_
        refine zw_const ⟨rfl, rfl⟩ ?_
        refine zw_const ⟨rfl, rfl⟩ ?_
        refine zw_aload ⟨rfl, rfl⟩ rfl ?_
        refine zw_getR 225 ⟨rfl, rfl⟩ zr_208_19 ?_
        refine zw_iload ⟨rfl, rfl⟩ rfl ?_
        refine zw_ialdv (v := yjo (yK σ) (yP σ b (k))) ⟨rfl, rfl⟩ za_225 (by omega) ((hB3.2 (k) (by omega) (by omega)).2.2.2.1) ?_
        refine zw_cavv5 ⟨rfl, rfl⟩ rfl zc_208 rfl ?_
        refine m_showsAt hV hB3.1.1 D3 (yjo_p hK) (fun hpz => by (try simp only [yplt_1, yshb_1, yem_1]); (repeat' split) <;> omega) (fun _ => ywo_e σ _ _ (by decide) (by decide)) (fun N4 p4 => ?_)
        have hB4 := hB3.fr p4.2
        have D4 := p4.1
        refine zw_iload ⟨rfl, rfl⟩ rfl ?_
        refine zw_const ⟨rfl, rfl⟩ ?_
        refine zw_iadd ⟨rfl, rfl⟩ (by omega) ?_
        refine zw_ret rfl ?_
        have k2 := kk N4 ⟨?_, ((p1.2.tr p2.2).tr p3.2).tr p4.2⟩
        · rw [ela] at k2; exact k2
        · rw [ela, hhf]
          unfold yah2
          rw [if_neg (by decide)]
          rw [ysh_pl (yvn hK)] at D4
          rw [ela] at D4
          exact D4
      · skip
        refine zw_aload ⟨rfl, rfl⟩ rfl ?_
        refine zw_aload ⟨rfl, rfl⟩ rfl ?_
        refine zw_getR 225 ⟨rfl, rfl⟩ zr_208_19 ?_
        refine zw_iload ⟨rfl, rfl⟩ rfl ?_
        refine zw_ialdv (v := yjo (yK σ) (yP σ b (k))) ⟨rfl, rfl⟩ za_225 (by omega) ((hB.2 (k) (by omega) (by omega)).2.2.2.1) ?_
        refine zw_callv2 ⟨rfl, rfl⟩ rfl zc_208 rfl ?_
        refine m_MkindAt hV hB.1.1 (by omega) ?_
        refine zw_const ⟨rfl, rfl⟩ ?_
        refine zw_iceq ⟨rfl, rfl⟩ rfl (fun c12 => ?_) (fun c12 => ?_)
        · skip
          refine zw_const ⟨rfl, rfl⟩ ?_
          have hhf : yhf σ b (k) = 0 := by unfold yhf; exact if_neg (fun z => by first | exact z.1 ⟨by omega, by omega⟩ | (have z2 := z.2; omega))
          refine zw_istore_4 ⟨rfl, rfl⟩ ?_
          refine zw_aload ⟨rfl, rfl⟩ rfl ?_
          refine zw_iload ⟨rfl, rfl⟩ rfl ?_
          refine zw_const ⟨rfl, rfl⟩ ?_
          refine zw_iload ⟨rfl, rfl⟩ rfl ?_
          refine zw_ifeq ⟨rfl, rfl⟩ rfl (fun _ => ?_) (fun q => absurd (by decide) q)
          refine zw_aload ⟨rfl, rfl⟩ rfl ?_
          refine zw_getR 226 ⟨rfl, rfl⟩ zr_208_20 ?_
          refine zw_iload ⟨rfl, rfl⟩ rfl ?_
          refine zw_baldv (v := yjf σ (yK σ) b (k)) ⟨rfl, rfl⟩ za_226 (by decide) (by omega) ((hB.2 (k) (by omega) (by omega)).2.2.2.2) ?_
          refine zw_ifeq ⟨rfl, rfl⟩ rfl (fun _ => ?_) (fun q => absurd (by omega) q)
          refine zw_const ⟨rfl, rfl⟩ ?_
          refine zw_iload ⟨rfl, rfl⟩ rfl ?_
          refine zw_cavv5 ⟨rfl, rfl⟩ rfl zc_208 rfl ?_
          refine m_showsJoined (hf := 0) hV hB hb h hD ⟨hk.1, by omega, fun z => by omega⟩ (by first | (rw [if_pos (by omega)]; rfl) | (rw [if_neg (by omega)]; rfl)) (by omega) (fun N1 p1 => ?_)
          have hB1 := hB.fr p1.2
          have q1 := ydcn_1 c T (yla σ b k) 0 1 hpk1
          have D1 := p1.1
          have n1 : N1 208 31 = T.1 + 1 := D1.1.trans q1
          refine zw_iload ⟨rfl, rfl⟩ rfl ?_
          refine zw_ifeq ⟨rfl, rfl⟩ rfl (fun _ => ?_) (fun q => absurd (by decide) q)
          refine zw_aload ⟨rfl, rfl⟩ rfl ?_
          refine zw_iload ⟨rfl, rfl⟩ rfl ?_
          refine zw_const ⟨rfl, rfl⟩ ?_
          refine zw_const ⟨rfl, rfl⟩ ?_
          refine zw_aload ⟨rfl, rfl⟩ rfl ?_
          refine zw_getR 223 ⟨rfl, rfl⟩ zr_208_17 ?_
          refine zw_iload ⟨rfl, rfl⟩ rfl ?_
          refine zw_ialdv (v := ynk (yK σ) (yP σ b (k))) ⟨rfl, rfl⟩ za_223 (by omega) ((hB1.2 (k) (by omega) (by omega)).2.1) ?_
          refine zw_cavv5 ⟨rfl, rfl⟩ rfl zc_208 rfl ?_
          refine m_showsAt hV hB1.1.1 D1 (ynk_p hK) (fun hpz => by (try simp only [yplt_1, yshb_1, yem_1]); (repeat' split) <;> omega) (fun _ => ywo_e σ _ _ (by decide) (by decide)) (fun N2 p2 => ?_)
          have hB2 := hB1.fr p2.2
          have D2 := p2.1
          refine zw_iload ⟨rfl, rfl⟩ rfl ?_
          refine zw_ifne ⟨rfl, rfl⟩ rfl (fun q => absurd q (by decide)) (fun _ => ?_)
          refine zw_aload ⟨rfl, rfl⟩ rfl ?_
          refine zw_iload ⟨rfl, rfl⟩ rfl ?_
          refine zw_const ⟨rfl, rfl⟩ ?_
          refine zw_const ⟨rfl, rfl⟩ ?_
          refine zw_aload ⟨rfl, rfl⟩ rfl ?_
          refine zw_getR 224 ⟨rfl, rfl⟩ zr_208_18 ?_
          refine zw_iload ⟨rfl, rfl⟩ rfl ?_
          refine zw_ialdv (v := yvi (yK σ) (yP σ b (k))) ⟨rfl, rfl⟩ za_224 (by omega) ((hB2.2 (k) (by omega) (by omega)).2.2.1) ?_
          refine zw_cavv5 ⟨rfl, rfl⟩ rfl zc_208 rfl ?_
          refine m_showsAt hV hB2.1.1 D2 (by rcases yvi_p (p := (yP σ b (k))) hK with z | z; exact Or.inl z; exact Or.inr ⟨z.1, z.2.1⟩) (fun hpz => by (try simp only [yplt_1, yshb_1, yem_1]); (repeat' split) <;> omega) (fun _ => ywo_e σ _ _ (by decide) (by decide)) (fun N3 p3 => ?_)
          have hB3 := hB2.fr p3.2
          have D3 := p3.1
          refine zw_aload ⟨rfl, rfl⟩ rfl ?_
          refine zw_iload ⟨rfl, rfl⟩ rfl ?_
          refine zw_const ⟨rfl, rfl⟩ ?_
          refine zw_const ⟨rfl, rfl⟩ ?_
          refine zw_aload ⟨rfl, rfl⟩ rfl ?_
          refine zw_getR 225 ⟨rfl, rfl⟩ zr_208_19 ?_
          refine zw_iload ⟨rfl, rfl⟩ rfl ?_
          refine zw_ialdv (v := yjo (yK σ) (yP σ b (k))) ⟨rfl, rfl⟩ za_225 (by omega) ((hB3.2 (k) (by omega) (by omega)).2.2.2.1) ?_
          refine zw_cavv5 ⟨rfl, rfl⟩ rfl zc_208 rfl ?_
          refine m_showsAt hV hB3.1.1 D3 (yjo_p hK) (fun hpz => by (try simp only [yplt_1, yshb_1, yem_1]); (repeat' split) <;> omega) (fun _ => ywo_e σ _ _ (by decide) (by decide)) (fun N4 p4 => ?_)
          have hB4 := hB3.fr p4.2
          have D4 := p4.1
          refine zw_iload ⟨rfl, rfl⟩ rfl ?_
          refine zw_const ⟨rfl, rfl⟩ ?_
          refine zw_iadd ⟨rfl, rfl⟩ (by omega) ?_
          refine zw_ret rfl ?_
          have k2 := kk N4 ⟨?_, ((p1.2.tr p2.2).tr p3.2).tr p4.2⟩
          · rw [ela] at k2; exact k2
          · rw [ela, hhf]
            unfold yah2
            rw [if_pos rfl]
            rw [ela] at D4
            exact D4
        · skip
          refine zw_const ⟨rfl, rfl⟩ ?_
          refine zw_goto ⟨rfl, rfl⟩ rfl ?_
          have hhf : yhf σ b (k) = 1 := by unfold yhf; exact if_pos ⟨fun z => by have z1 := z.1; have z2 := z.2; omega, by omega⟩
          refine zw_istore_4 ⟨rfl, rfl⟩ ?_
          refine zw_aload ⟨rfl, rfl⟩ rfl ?_
          refine zw_iload ⟨rfl, rfl⟩ rfl ?_
          refine zw_const ⟨rfl, rfl⟩ ?_
          refine zw_iload ⟨rfl, rfl⟩ rfl ?_
          refine zw_ifeq ⟨rfl, rfl⟩ rfl (fun q => absurd q (by decide)) (fun _ => ?_)
          refine zw_aload ⟨rfl, rfl⟩ rfl ?_
          refine zw_getR 226 ⟨rfl, rfl⟩ zr_208_20 ?_
          refine zw_iload ⟨rfl, rfl⟩ rfl ?_
          refine zw_baldv (v := yjf σ (yK σ) b (k)) ⟨rfl, rfl⟩ za_226 (by decide) (by omega) ((hB.2 (k) (by omega) (by omega)).2.2.2.2) ?_
          refine zw_ifeq ⟨rfl, rfl⟩ rfl (fun _ => ?_) (fun q => absurd (by omega) q)
          refine zw_const ⟨rfl, rfl⟩ ?_
          refine zw_goto ⟨rfl, rfl⟩ rfl ?_
          refine zw_iload ⟨rfl, rfl⟩ rfl ?_
          refine zw_cavv5 ⟨rfl, rfl⟩ rfl zc_208 rfl ?_
          refine m_showsJoined (hf := 1) hV hB hb h hD ⟨hk.1, by omega, fun z => by omega⟩ (by first | (rw [if_pos (by omega)]; rfl) | (rw [if_neg (by omega)]; rfl)) (by omega) (fun N1 p1 => ?_)
          have hB1 := hB.fr p1.2
          have q1 := ydcn_1 c T (yla σ b k) 1 1 hpk1
          have D1 := p1.1
          have n1 : N1 208 31 = T.1 + 1 := D1.1.trans q1
          refine zw_iload ⟨rfl, rfl⟩ rfl ?_
          refine zw_ifeq ⟨rfl, rfl⟩ rfl (fun q => absurd q (by decide)) (fun _ => ?_)
          refine zw_aload ⟨rfl, rfl⟩ rfl ?_
          refine zw_iload ⟨rfl, rfl⟩ rfl ?_
          refine zw_aload ⟨rfl, rfl⟩ rfl ?_
          refine zw_getIv (v := T.1 + 1) ⟨rfl, rfl⟩ zc_208 (by decide) (n1) ?_
          refine zw_const ⟨rfl, rfl⟩ ?_
          refine zw_isub ⟨rfl, rfl⟩ (by omega) ?_
          rw [show (T.1 + 1) - 1 = T.1 by omega]
          refine zw_cavv3 ⟨rfl, rfl⟩ rfl zc_208 rfl ?_
          refine m_showsWith D1 hB1 ⟨by omega, by omega, by omega⟩ (by rcases yvi_p (p := yP σ b (k)) hK with z | z; exact Or.inl z; exact Or.inr ⟨z.1, by omega⟩) (fun N2 p2 => ?_)
          have hB2 := hB1.fr p2.2
          have D2 := p2.1
          refine zw_aload ⟨rfl, rfl⟩ rfl ?_
          refine zw_iload ⟨rfl, rfl⟩ rfl ?_
          refine zw_const ⟨rfl, rfl⟩ ?_
          refine zw_const ⟨rfl, rfl⟩ ?_
          refine zw_aload ⟨rfl, rfl⟩ rfl ?_
          refine zw_getR 223 ⟨rfl, rfl⟩ zr_208_17 ?_
          refine zw_iload ⟨rfl, rfl⟩ rfl ?_
          refine zw_ialdv (v := ynk (yK σ) (yP σ b (k))) ⟨rfl, rfl⟩ za_223 (by omega) ((hB2.2 (k) (by omega) (by omega)).2.1) ?_
          refine zw_cavv5 ⟨rfl, rfl⟩ rfl zc_208 rfl ?_
          refine m_showsAt hV hB2.1.1 D2 (ynk_p hK) (fun hpz => by (try simp only [yplt_1, yshb_1, yem_1]); (repeat' split) <;> omega) (fun _ => ywo_e σ _ _ (by decide) (by decide)) (fun N3 p3 => ?_)
          have hB3 := hB2.fr p3.2
          have D3 := p3.1
          refine zw_iload ⟨rfl, rfl⟩ rfl ?_
          refine zw_ifne ⟨rfl, rfl⟩ rfl (fun _ => ?_) (fun q => absurd (by decide) q)
          refine zw_aload ⟨rfl, rfl⟩ rfl ?_
          refine zw_iload ⟨rfl, rfl⟩ rfl ?_
          refine zw_const ⟨rfl, rfl⟩ ?_
          refine zw_const ⟨rfl, rfl⟩ ?_
          refine zw_aload ⟨rfl, rfl⟩ rfl ?_
          refine zw_getR 225 ⟨rfl, rfl⟩ zr_208_19 ?_
          refine zw_iload ⟨rfl, rfl⟩ rfl ?_
          refine zw_ialdv (v := yjo (yK σ) (yP σ b (k))) ⟨rfl, rfl⟩ za_225 (by omega) ((hB3.2 (k) (by omega) (by omega)).2.2.2.1) ?_
          refine zw_cavv5 ⟨rfl, rfl⟩ rfl zc_208 rfl ?_
          refine m_showsAt hV hB3.1.1 D3 (yjo_p hK) (fun hpz => by (try simp only [yplt_1, yshb_1, yem_1]); (repeat' split) <;> omega) (fun _ => ywo_e σ _ _ (by decide) (by decide)) (fun N4 p4 => ?_)
          have hB4 := hB3.fr p4.2
          have D4 := p4.1
          refine zw_iload ⟨rfl, rfl⟩ rfl ?_
          refine zw_const ⟨rfl, rfl⟩ ?_
          refine zw_iadd ⟨rfl, rfl⟩ (by omega) ?_
          refine zw_ret rfl ?_
          have k2 := kk N4 ⟨?_, ((p1.2.tr p2.2).tr p3.2).tr p4.2⟩
          · rw [ela] at k2; exact k2
          · rw [ela, hhf]
            unfold yah2
            rw [if_neg (by decide)]
            rw [ysh_pl (yvn hK)] at D4
            rw [ela] at D4
            exact D4
  · skip
    refine zw_iload ⟨rfl, rfl⟩ rfl ?_
    refine zw_const ⟨rfl, rfl⟩ ?_
    refine zw_iadd ⟨rfl, rfl⟩ (by omega) ?_
    refine zw_goto ⟨rfl, rfl⟩ rfl ?_
    refine zw_istore_3 ⟨rfl, rfl⟩ ?_
    have ela : yla σ b k = k + 1 := by omega
    have hpl := (ypl_r hK hb.1.1 hb.1.2 h (show 0 ≤ k + 1 by omega) (by omega)).1
    have hpl0 : 0 ≤ yP σ b (k + 1) ∧ yP σ b (k + 1) < σ 0 := by unfold yP; omega
    have hjp := yjo_p (p := yP σ b (k + 1)) hK
    refine zw_aload ⟨rfl, rfl⟩ rfl ?_
    refine zw_aload ⟨rfl, rfl⟩ rfl ?_
    refine zw_aload ⟨rfl, rfl⟩ rfl ?_
    refine zw_getR 222 ⟨rfl, rfl⟩ zr_208_16 ?_
    refine zw_iload ⟨rfl, rfl⟩ rfl ?_
    refine zw_ialdv (v := yP σ b ((k + 1))) ⟨rfl, rfl⟩ za_222 (by omega) ((hB.2 ((k + 1)) (by omega) (by omega)).1) ?_
    refine zw_callv2 ⟨rfl, rfl⟩ rfl zc_208 rfl ?_
    refine m_MletterAt hV hB.1.1 ⟨by omega, by omega⟩ ?_
    refine zw_const ⟨rfl, rfl⟩ ?_
    refine zw_callv3 ⟨rfl, rfl⟩ rfl zc_208 rfl ?_
    have hl := yL_r hV hpl0.1 hpl0.2
    have hb4 : ybt σ (yL σ (yP σ b ((k + 1)))) 4 = σ (28 + yL σ (yP σ b ((k + 1)))) / 4 % 2 := rfl
    have hb4r := ybt_r σ (yL σ (yP σ b ((k + 1)))) 4
    refine m_Mdoes hV hB.1.1 hl (Or.inr (Or.inr rfl)) ?_
    refine zw_ifeq ⟨rfl, rfl⟩ rfl (fun c21 => ?_) (fun c21 => ?_)
    · skip
      refine zw_const ⟨rfl, rfl⟩ ?_
      have hhf : yhf σ b (k + 1) = 0 := by unfold yhf; exact if_neg (fun z => by first | exact z.1 ⟨by omega, by omega⟩ | (have z2 := z.2; omega))
      refine zw_istore_4 ⟨rfl, rfl⟩ ?_
      refine zw_aload ⟨rfl, rfl⟩ rfl ?_
      refine zw_iload ⟨rfl, rfl⟩ rfl ?_
      refine zw_const ⟨rfl, rfl⟩ ?_
      refine zw_iload ⟨rfl, rfl⟩ rfl ?_
      refine zw_ifeq ⟨rfl, rfl⟩ rfl (fun _ => ?_) (fun q => absurd (by decide) q)
      refine zw_aload ⟨rfl, rfl⟩ rfl ?_
      refine zw_getR 226 ⟨rfl, rfl⟩ zr_208_20 ?_
      refine zw_iload ⟨rfl, rfl⟩ rfl ?_
      refine zw_baldv (v := yjf σ (yK σ) b (k)) ⟨rfl, rfl⟩ za_226 (by decide) (by omega) ((hB.2 (k) (by omega) (by omega)).2.2.2.2) ?_
      refine zw_ifeq ⟨rfl, rfl⟩ rfl (fun q => absurd q (by omega)) (fun _ => ?_)
      refine zw_const ⟨rfl, rfl⟩ ?_
      refine zw_goto ⟨rfl, rfl⟩ rfl ?_
      refine zw_iload ⟨rfl, rfl⟩ rfl ?_
      refine zw_cavv5 ⟨rfl, rfl⟩ rfl zc_208 rfl ?_
      refine m_showsJoined (hf := 0) hV hB hb h hD ⟨hk.1, by omega, fun z => by omega⟩ (by first | (rw [if_pos (by omega)]; rfl) | (rw [if_neg (by omega)]; rfl)) (by omega) (fun N1 p1 => ?_)
      have hB1 := hB.fr p1.2
      have q1 := ydcn_1 c T (yla σ b k) 0 1 hpk1
      have D1 := p1.1
      have n1 : N1 208 31 = T.1 + 1 := D1.1.trans q1
      refine zw_iload ⟨rfl, rfl⟩ rfl ?_
      refine zw_ifeq ⟨rfl, rfl⟩ rfl (fun _ => ?_) (fun q => absurd (by decide) q)
      refine zw_aload ⟨rfl, rfl⟩ rfl ?_
      refine zw_iload ⟨rfl, rfl⟩ rfl ?_
      refine zw_const ⟨rfl, rfl⟩ ?_
      refine zw_const ⟨rfl, rfl⟩ ?_
      refine zw_aload ⟨rfl, rfl⟩ rfl ?_
      refine zw_getR 223 ⟨rfl, rfl⟩ zr_208_17 ?_
      refine zw_iload ⟨rfl, rfl⟩ rfl ?_
      refine zw_ialdv (v := ynk (yK σ) (yP σ b ((k + 1)))) ⟨rfl, rfl⟩ za_223 (by omega) ((hB1.2 ((k + 1)) (by omega) (by omega)).2.1) ?_
      refine zw_cavv5 ⟨rfl, rfl⟩ rfl zc_208 rfl ?_
      refine m_showsAt hV hB1.1.1 D1 (ynk_p hK) (fun hpz => by (try simp only [yplt_1, yshb_1, yem_1]); (repeat' split) <;> omega) (fun _ => ywo_e σ _ _ (by decide) (by decide)) (fun N2 p2 => ?_)
      have hB2 := hB1.fr p2.2
      have D2 := p2.1
      refine zw_iload ⟨rfl, rfl⟩ rfl ?_
      refine zw_ifne ⟨rfl, rfl⟩ rfl (fun q => absurd q (by decide)) (fun _ => ?_)
      refine zw_aload ⟨rfl, rfl⟩ rfl ?_
      refine zw_iload ⟨rfl, rfl⟩ rfl ?_
      refine zw_const ⟨rfl, rfl⟩ ?_
      refine zw_const ⟨rfl, rfl⟩ ?_
      refine zw_aload ⟨rfl, rfl⟩ rfl ?_
      refine zw_getR 224 ⟨rfl, rfl⟩ zr_208_18 ?_
      refine zw_iload ⟨rfl, rfl⟩ rfl ?_
      refine zw_ialdv (v := yvi (yK σ) (yP σ b ((k + 1)))) ⟨rfl, rfl⟩ za_224 (by omega) ((hB2.2 ((k + 1)) (by omega) (by omega)).2.2.1) ?_
      refine zw_cavv5 ⟨rfl, rfl⟩ rfl zc_208 rfl ?_
      refine m_showsAt hV hB2.1.1 D2 (by rcases yvi_p (p := (yP σ b ((k + 1)))) hK with z | z; exact Or.inl z; exact Or.inr ⟨z.1, z.2.1⟩) (fun hpz => by (try simp only [yplt_1, yshb_1, yem_1]); (repeat' split) <;> omega) (fun _ => ywo_e σ _ _ (by decide) (by decide)) (fun N3 p3 => ?_)
      have hB3 := hB2.fr p3.2
      have D3 := p3.1
      refine zw_aload ⟨rfl, rfl⟩ rfl ?_
      refine zw_iload ⟨rfl, rfl⟩ rfl ?_
      refine zw_const ⟨rfl, rfl⟩ ?_
      refine zw_const ⟨rfl, rfl⟩ ?_
      refine zw_aload ⟨rfl, rfl⟩ rfl ?_
      refine zw_getR 225 ⟨rfl, rfl⟩ zr_208_19 ?_
      refine zw_iload ⟨rfl, rfl⟩ rfl ?_
      refine zw_ialdv (v := yjo (yK σ) (yP σ b ((k + 1)))) ⟨rfl, rfl⟩ za_225 (by omega) ((hB3.2 ((k + 1)) (by omega) (by omega)).2.2.2.1) ?_
      refine zw_cavv5 ⟨rfl, rfl⟩ rfl zc_208 rfl ?_
      refine m_showsAt hV hB3.1.1 D3 (yjo_p hK) (fun hpz => by (try simp only [yplt_1, yshb_1, yem_1]); (repeat' split) <;> omega) (fun _ => ywo_e σ _ _ (by decide) (by decide)) (fun N4 p4 => ?_)
      have hB4 := hB3.fr p4.2
      have D4 := p4.1
      refine zw_iload ⟨rfl, rfl⟩ rfl ?_
      refine zw_const ⟨rfl, rfl⟩ ?_
      refine zw_iadd ⟨rfl, rfl⟩ (by omega) ?_
      refine zw_ret rfl ?_
      have k2 := kk N4 ⟨?_, ((p1.2.tr p2.2).tr p3.2).tr p4.2⟩
      · rw [ela] at k2; exact k2
      · rw [ela, hhf]
        unfold yah2
        rw [if_pos rfl]
        rw [ela] at D4
        exact D4
    · skip
      refine zw_aload ⟨rfl, rfl⟩ rfl ?_
      refine zw_getR 225 ⟨rfl, rfl⟩ zr_208_19 ?_
      refine zw_iload ⟨rfl, rfl⟩ rfl ?_
      refine zw_ialdv (v := yjo (yK σ) (yP σ b ((k + 1)))) ⟨rfl, rfl⟩ za_225 (by omega) ((hB.2 ((k + 1)) (by omega) (by omega)).2.2.2.1) ?_
      refine zw_const ⟨rfl, rfl⟩ ?_
      refine zw_iceq ⟨rfl, rfl⟩ rfl (fun c26 => ?_) (fun c26 => ?_)
      · skip
        refine zw_const ⟨rfl, rfl⟩ ?_
        refine zw_goto ⟨rfl, rfl⟩ rfl ?_
        have hhf : yhf σ b (k + 1) = 1 := by unfold yhf; exact if_pos ⟨fun z => by have z1 := z.1; have z2 := z.2; omega, by omega⟩
        refine zw_istore_4 ⟨rfl, rfl⟩ ?_
        refine zw_aload ⟨rfl, rfl⟩ rfl ?_
        refine zw_iload ⟨rfl, rfl⟩ rfl ?_
        refine zw_const ⟨rfl, rfl⟩ ?_
        refine zw_iload ⟨rfl, rfl⟩ rfl ?_
        refine zw_ifeq ⟨rfl, rfl⟩ rfl (fun q => absurd q (by decide)) (fun _ => ?_)
        refine zw_aload ⟨rfl, rfl⟩ rfl ?_
        refine zw_getR 226 ⟨rfl, rfl⟩ zr_208_20 ?_
        refine zw_iload ⟨rfl, rfl⟩ rfl ?_
        refine zw_baldv (v := yjf σ (yK σ) b (k)) ⟨rfl, rfl⟩ za_226 (by decide) (by omega) ((hB.2 (k) (by omega) (by omega)).2.2.2.2) ?_
        refine zw_ifeq ⟨rfl, rfl⟩ rfl (fun q => absurd q (by omega)) (fun _ => ?_)
        refine zw_const ⟨rfl, rfl⟩ ?_
        refine zw_goto ⟨rfl, rfl⟩ rfl ?_
        refine zw_iload ⟨rfl, rfl⟩ rfl ?_
        refine zw_cavv5 ⟨rfl, rfl⟩ rfl zc_208 rfl ?_
        refine m_showsJoined (hf := 1) hV hB hb h hD ⟨hk.1, by omega, fun z => by omega⟩ (by first | (rw [if_pos (by omega)]; rfl) | (rw [if_neg (by omega)]; rfl)) (by omega) (fun N1 p1 => ?_)
        have hB1 := hB.fr p1.2
        have q1 := ydcn_1 c T (yla σ b k) 1 1 hpk1
        have D1 := p1.1
        have n1 : N1 208 31 = T.1 + 1 := D1.1.trans q1
        refine zw_iload ⟨rfl, rfl⟩ rfl ?_
        refine zw_ifeq ⟨rfl, rfl⟩ rfl (fun q => absurd q (by decide)) (fun _ => ?_)
        refine zw_aload ⟨rfl, rfl⟩ rfl ?_
        refine zw_iload ⟨rfl, rfl⟩ rfl ?_
        refine zw_aload ⟨rfl, rfl⟩ rfl ?_
        refine zw_getIv (v := T.1 + 1) ⟨rfl, rfl⟩ zc_208 (by decide) (n1) ?_
        refine zw_const ⟨rfl, rfl⟩ ?_
        refine zw_isub ⟨rfl, rfl⟩ (by omega) ?_
        rw [show (T.1 + 1) - 1 = T.1 by omega]
        refine zw_cavv3 ⟨rfl, rfl⟩ rfl zc_208 rfl ?_
        refine m_showsWith D1 hB1 ⟨by omega, by omega, by omega⟩ (by rcases yvi_p (p := yP σ b (k + 1)) hK with z | z; exact Or.inl z; exact Or.inr ⟨z.1, by omega⟩) (fun N2 p2 => ?_)
        have hB2 := hB1.fr p2.2
        have D2 := p2.1
        refine zw_aload ⟨rfl, rfl⟩ rfl ?_
        refine zw_iload ⟨rfl, rfl⟩ rfl ?_
        refine zw_const ⟨rfl, rfl⟩ ?_
        refine zw_const ⟨rfl, rfl⟩ ?_
        refine zw_aload ⟨rfl, rfl⟩ rfl ?_
        refine zw_getR 223 ⟨rfl, rfl⟩ zr_208_17 ?_
        refine zw_iload ⟨rfl, rfl⟩ rfl ?_
        refine zw_ialdv (v := ynk (yK σ) (yP σ b ((k + 1)))) ⟨rfl, rfl⟩ za_223 (by omega) ((hB2.2 ((k + 1)) (by omega) (by omega)).2.1) ?_
        refine zw_cavv5 ⟨rfl, rfl⟩ rfl zc_208 rfl ?_
        refine m_showsAt hV hB2.1.1 D2 (ynk_p hK) (fun hpz => by (try simp only [yplt_1, yshb_1, yem_1]); (repeat' split) <;> omega) (fun _ => ywo_e σ _ _ (by decide) (by decide)) (fun N3 p3 => ?_)
        have hB3 := hB2.fr p3.2
        have D3 := p3.1
        refine zw_iload ⟨rfl, rfl⟩ rfl ?_
        refine zw_ifne ⟨rfl, rfl⟩ rfl (fun _ => ?_) (fun q => absurd (by decide) q)
        refine zw_aload ⟨rfl, rfl⟩ rfl ?_
        refine zw_iload ⟨rfl, rfl⟩ rfl ?_
        refine zw_const ⟨rfl, rfl⟩ ?_
        refine zw_const ⟨rfl, rfl⟩ ?_
        refine zw_aload ⟨rfl, rfl⟩ rfl ?_
        refine zw_getR 225 ⟨rfl, rfl⟩ zr_208_19 ?_
        refine zw_iload ⟨rfl, rfl⟩ rfl ?_
        refine zw_ialdv (v := yjo (yK σ) (yP σ b ((k + 1)))) ⟨rfl, rfl⟩ za_225 (by omega) ((hB3.2 ((k + 1)) (by omega) (by omega)).2.2.2.1) ?_
        refine zw_cavv5 ⟨rfl, rfl⟩ rfl zc_208 rfl ?_
        refine m_showsAt hV hB3.1.1 D3 (yjo_p hK) (fun hpz => by (try simp only [yplt_1, yshb_1, yem_1]); (repeat' split) <;> omega) (fun _ => ywo_e σ _ _ (by decide) (by decide)) (fun N4 p4 => ?_)
        have hB4 := hB3.fr p4.2
        have D4 := p4.1
        refine zw_iload ⟨rfl, rfl⟩ rfl ?_
        refine zw_const ⟨rfl, rfl⟩ ?_
        refine zw_iadd ⟨rfl, rfl⟩ (by omega) ?_
        refine zw_ret rfl ?_
        have k2 := kk N4 ⟨?_, ((p1.2.tr p2.2).tr p3.2).tr p4.2⟩
        · rw [ela] at k2; exact k2
        · rw [ela, hhf]
          unfold yah2
          rw [if_neg (by decide)]
          rw [ysh_pl (yvn hK)] at D4
          rw [ela] at D4
          exact D4
      · skip
        refine zw_aload ⟨rfl, rfl⟩ rfl ?_
        refine zw_aload ⟨rfl, rfl⟩ rfl ?_
        refine zw_getR 225 ⟨rfl, rfl⟩ zr_208_19 ?_
        refine zw_iload ⟨rfl, rfl⟩ rfl ?_
        refine zw_ialdv (v := yjo (yK σ) (yP σ b ((k + 1)))) ⟨rfl, rfl⟩ za_225 (by omega) ((hB.2 ((k + 1)) (by omega) (by omega)).2.2.2.1) ?_
        refine zw_callv2 ⟨rfl, rfl⟩ rfl zc_208 rfl ?_
        refine m_MkindAt hV hB.1.1 (by omega) ?_
        refine zw_const ⟨rfl, rfl⟩ ?_
        refine zw_iceq ⟨rfl, rfl⟩ rfl (fun c31 => ?_) (fun c31 => ?_)
        · skip
          refine zw_const ⟨rfl, rfl⟩ ?_
          have hhf : yhf σ b (k + 1) = 0 := by unfold yhf; exact if_neg (fun z => by first | exact z.1 ⟨by omega, by omega⟩ | (have z2 := z.2; omega))
          refine zw_istore_4 ⟨rfl, rfl⟩ ?_
          refine zw_aload ⟨rfl, rfl⟩ rfl ?_
          refine zw_iload ⟨rfl, rfl⟩ rfl ?_
          refine zw_const ⟨rfl, rfl⟩ ?_
          refine zw_iload ⟨rfl, rfl⟩ rfl ?_
          refine zw_ifeq ⟨rfl, rfl⟩ rfl (fun _ => ?_) (fun q => absurd (by decide) q)
          refine zw_aload ⟨rfl, rfl⟩ rfl ?_
          refine zw_getR 226 ⟨rfl, rfl⟩ zr_208_20 ?_
          refine zw_iload ⟨rfl, rfl⟩ rfl ?_
          refine zw_baldv (v := yjf σ (yK σ) b (k)) ⟨rfl, rfl⟩ za_226 (by decide) (by omega) ((hB.2 (k) (by omega) (by omega)).2.2.2.2) ?_
          refine zw_ifeq ⟨rfl, rfl⟩ rfl (fun q => absurd q (by omega)) (fun _ => ?_)
          refine zw_const ⟨rfl, rfl⟩ ?_
          refine zw_goto ⟨rfl, rfl⟩ rfl ?_
          refine zw_iload ⟨rfl, rfl⟩ rfl ?_
          refine zw_cavv5 ⟨rfl, rfl⟩ rfl zc_208 rfl ?_
          refine m_showsJoined (hf := 0) hV hB hb h hD ⟨hk.1, by omega, fun z => by omega⟩ (by first | (rw [if_pos (by omega)]; rfl) | (rw [if_neg (by omega)]; rfl)) (by omega) (fun N1 p1 => ?_)
          have hB1 := hB.fr p1.2
          have q1 := ydcn_1 c T (yla σ b k) 0 1 hpk1
          have D1 := p1.1
          have n1 : N1 208 31 = T.1 + 1 := D1.1.trans q1
          refine zw_iload ⟨rfl, rfl⟩ rfl ?_
          refine zw_ifeq ⟨rfl, rfl⟩ rfl (fun _ => ?_) (fun q => absurd (by decide) q)
          refine zw_aload ⟨rfl, rfl⟩ rfl ?_
          refine zw_iload ⟨rfl, rfl⟩ rfl ?_
          refine zw_const ⟨rfl, rfl⟩ ?_
          refine zw_const ⟨rfl, rfl⟩ ?_
          refine zw_aload ⟨rfl, rfl⟩ rfl ?_
          refine zw_getR 223 ⟨rfl, rfl⟩ zr_208_17 ?_
          refine zw_iload ⟨rfl, rfl⟩ rfl ?_
          refine zw_ialdv (v := ynk (yK σ) (yP σ b ((k + 1)))) ⟨rfl, rfl⟩ za_223 (by omega) ((hB1.2 ((k + 1)) (by omega) (by omega)).2.1) ?_
          refine zw_cavv5 ⟨rfl, rfl⟩ rfl zc_208 rfl ?_
          refine m_showsAt hV hB1.1.1 D1 (ynk_p hK) (fun hpz => by (try simp only [yplt_1, yshb_1, yem_1]); (repeat' split) <;> omega) (fun _ => ywo_e σ _ _ (by decide) (by decide)) (fun N2 p2 => ?_)
          have hB2 := hB1.fr p2.2
          have D2 := p2.1
          refine zw_iload ⟨rfl, rfl⟩ rfl ?_
          refine zw_ifne ⟨rfl, rfl⟩ rfl (fun q => absurd q (by decide)) (fun _ => ?_)
          refine zw_aload ⟨rfl, rfl⟩ rfl ?_
          refine zw_iload ⟨rfl, rfl⟩ rfl ?_
          refine zw_const ⟨rfl, rfl⟩ ?_
          refine zw_const ⟨rfl, rfl⟩ ?_
          refine zw_aload ⟨rfl, rfl⟩ rfl ?_
          refine zw_getR 224 ⟨rfl, rfl⟩ zr_208_18 ?_
          refine zw_iload ⟨rfl, rfl⟩ rfl ?_
          refine zw_ialdv (v := yvi (yK σ) (yP σ b ((k + 1)))) ⟨rfl, rfl⟩ za_224 (by omega) ((hB2.2 ((k + 1)) (by omega) (by omega)).2.2.1) ?_
          refine zw_cavv5 ⟨rfl, rfl⟩ rfl zc_208 rfl ?_
          refine m_showsAt hV hB2.1.1 D2 (by rcases yvi_p (p := (yP σ b ((k + 1)))) hK with z | z; exact Or.inl z; exact Or.inr ⟨z.1, z.2.1⟩) (fun hpz => by (try simp only [yplt_1, yshb_1, yem_1]); (repeat' split) <;> omega) (fun _ => ywo_e σ _ _ (by decide) (by decide)) (fun N3 p3 => ?_)
          have hB3 := hB2.fr p3.2
          have D3 := p3.1
          refine zw_aload ⟨rfl, rfl⟩ rfl ?_
          refine zw_iload ⟨rfl, rfl⟩ rfl ?_
          refine zw_const ⟨rfl, rfl⟩ ?_
          refine zw_const ⟨rfl, rfl⟩ ?_
          refine zw_aload ⟨rfl, rfl⟩ rfl ?_
          refine zw_getR 225 ⟨rfl, rfl⟩ zr_208_19 ?_
          refine zw_iload ⟨rfl, rfl⟩ rfl ?_
          refine zw_ialdv (v := yjo (yK σ) (yP σ b ((k + 1)))) ⟨rfl, rfl⟩ za_225 (by omega) ((hB3.2 ((k + 1)) (by omega) (by omega)).2.2.2.1) ?_
          refine zw_cavv5 ⟨rfl, rfl⟩ rfl zc_208 rfl ?_
          refine m_showsAt hV hB3.1.1 D3 (yjo_p hK) (fun hpz => by (try simp only [yplt_1, yshb_1, yem_1]); (repeat' split) <;> omega) (fun _ => ywo_e σ _ _ (by decide) (by decide)) (fun N4 p4 => ?_)
          have hB4 := hB3.fr p4.2
          have D4 := p4.1
          refine zw_iload ⟨rfl, rfl⟩ rfl ?_
          refine zw_const ⟨rfl, rfl⟩ ?_
          refine zw_iadd ⟨rfl, rfl⟩ (by omega) ?_
          refine zw_ret rfl ?_
          have k2 := kk N4 ⟨?_, ((p1.2.tr p2.2).tr p3.2).tr p4.2⟩
          · rw [ela] at k2; exact k2
          · rw [ela, hhf]
            unfold yah2
            rw [if_pos rfl]
            rw [ela] at D4
            exact D4
        · skip
          refine zw_const ⟨rfl, rfl⟩ ?_
          refine zw_goto ⟨rfl, rfl⟩ rfl ?_
          have hhf : yhf σ b (k + 1) = 1 := by unfold yhf; exact if_pos ⟨fun z => by have z1 := z.1; have z2 := z.2; omega, by omega⟩
          refine zw_istore_4 ⟨rfl, rfl⟩ ?_
          refine zw_aload ⟨rfl, rfl⟩ rfl ?_
          refine zw_iload ⟨rfl, rfl⟩ rfl ?_
          refine zw_const ⟨rfl, rfl⟩ ?_
          refine zw_iload ⟨rfl, rfl⟩ rfl ?_
          refine zw_ifeq ⟨rfl, rfl⟩ rfl (fun q => absurd q (by decide)) (fun _ => ?_)
          refine zw_aload ⟨rfl, rfl⟩ rfl ?_
          refine zw_getR 226 ⟨rfl, rfl⟩ zr_208_20 ?_
          refine zw_iload ⟨rfl, rfl⟩ rfl ?_
          refine zw_baldv (v := yjf σ (yK σ) b (k)) ⟨rfl, rfl⟩ za_226 (by decide) (by omega) ((hB.2 (k) (by omega) (by omega)).2.2.2.2) ?_
          refine zw_ifeq ⟨rfl, rfl⟩ rfl (fun q => absurd q (by omega)) (fun _ => ?_)
          refine zw_const ⟨rfl, rfl⟩ ?_
          refine zw_goto ⟨rfl, rfl⟩ rfl ?_
          refine zw_iload ⟨rfl, rfl⟩ rfl ?_
          refine zw_cavv5 ⟨rfl, rfl⟩ rfl zc_208 rfl ?_
          refine m_showsJoined (hf := 1) hV hB hb h hD ⟨hk.1, by omega, fun z => by omega⟩ (by first | (rw [if_pos (by omega)]; rfl) | (rw [if_neg (by omega)]; rfl)) (by omega) (fun N1 p1 => ?_)
          have hB1 := hB.fr p1.2
          have q1 := ydcn_1 c T (yla σ b k) 1 1 hpk1
          have D1 := p1.1
          have n1 : N1 208 31 = T.1 + 1 := D1.1.trans q1
          refine zw_iload ⟨rfl, rfl⟩ rfl ?_
          refine zw_ifeq ⟨rfl, rfl⟩ rfl (fun q => absurd q (by decide)) (fun _ => ?_)
          refine zw_aload ⟨rfl, rfl⟩ rfl ?_
          refine zw_iload ⟨rfl, rfl⟩ rfl ?_
          refine zw_aload ⟨rfl, rfl⟩ rfl ?_
          refine zw_getIv (v := T.1 + 1) ⟨rfl, rfl⟩ zc_208 (by decide) (n1) ?_
          refine zw_const ⟨rfl, rfl⟩ ?_
          refine zw_isub ⟨rfl, rfl⟩ (by omega) ?_
          rw [show (T.1 + 1) - 1 = T.1 by omega]
          refine zw_cavv3 ⟨rfl, rfl⟩ rfl zc_208 rfl ?_
          refine m_showsWith D1 hB1 ⟨by omega, by omega, by omega⟩ (by rcases yvi_p (p := yP σ b (k + 1)) hK with z | z; exact Or.inl z; exact Or.inr ⟨z.1, by omega⟩) (fun N2 p2 => ?_)
          have hB2 := hB1.fr p2.2
          have D2 := p2.1
          refine zw_aload ⟨rfl, rfl⟩ rfl ?_
          refine zw_iload ⟨rfl, rfl⟩ rfl ?_
          refine zw_const ⟨rfl, rfl⟩ ?_
          refine zw_const ⟨rfl, rfl⟩ ?_
          refine zw_aload ⟨rfl, rfl⟩ rfl ?_
          refine zw_getR 223 ⟨rfl, rfl⟩ zr_208_17 ?_
          refine zw_iload ⟨rfl, rfl⟩ rfl ?_
          refine zw_ialdv (v := ynk (yK σ) (yP σ b ((k + 1)))) ⟨rfl, rfl⟩ za_223 (by omega) ((hB2.2 ((k + 1)) (by omega) (by omega)).2.1) ?_
          refine zw_cavv5 ⟨rfl, rfl⟩ rfl zc_208 rfl ?_
          refine m_showsAt hV hB2.1.1 D2 (ynk_p hK) (fun hpz => by (try simp only [yplt_1, yshb_1, yem_1]); (repeat' split) <;> omega) (fun _ => ywo_e σ _ _ (by decide) (by decide)) (fun N3 p3 => ?_)
          have hB3 := hB2.fr p3.2
          have D3 := p3.1
          refine zw_iload ⟨rfl, rfl⟩ rfl ?_
          refine zw_ifne ⟨rfl, rfl⟩ rfl (fun _ => ?_) (fun q => absurd (by decide) q)
          refine zw_aload ⟨rfl, rfl⟩ rfl ?_
          refine zw_iload ⟨rfl, rfl⟩ rfl ?_
          refine zw_const ⟨rfl, rfl⟩ ?_
          refine zw_const ⟨rfl, rfl⟩ ?_
          refine zw_aload ⟨rfl, rfl⟩ rfl ?_
          refine zw_getR 225 ⟨rfl, rfl⟩ zr_208_19 ?_
          refine zw_iload ⟨rfl, rfl⟩ rfl ?_
          refine zw_ialdv (v := yjo (yK σ) (yP σ b ((k + 1)))) ⟨rfl, rfl⟩ za_225 (by omega) ((hB3.2 ((k + 1)) (by omega) (by omega)).2.2.2.1) ?_
          refine zw_cavv5 ⟨rfl, rfl⟩ rfl zc_208 rfl ?_
          refine m_showsAt hV hB3.1.1 D3 (yjo_p hK) (fun hpz => by (try simp only [yplt_1, yshb_1, yem_1]); (repeat' split) <;> omega) (fun _ => ywo_e σ _ _ (by decide) (by decide)) (fun N4 p4 => ?_)
          have hB4 := hB3.fr p4.2
          have D4 := p4.1
          refine zw_iload ⟨rfl, rfl⟩ rfl ?_
          refine zw_const ⟨rfl, rfl⟩ ?_
          refine zw_iadd ⟨rfl, rfl⟩ (by omega) ?_
          refine zw_ret rfl ?_
          have k2 := kk N4 ⟨?_, ((p1.2.tr p2.2).tr p3.2).tr p4.2⟩
          · rw [ela] at k2; exact k2
          · rw [ela, hhf]
            unfold yah2
            rw [if_neg (by decide)]
            rw [ysh_pl (yvn hK)] at D4
            rw [ela] at D4
            exact D4
end

theorem m_showsStacked {c k : Int} {M : zM} {Q : zV → zM → Prop} {σ : yS} {b : Int} (hV : yVal σ) (hB : yMb M σ b) (hb : (0 ≤ b ∧ b < σ 0) ∧ ybg (yK σ) b) (h : yK σ b = 1) {T : yT} (hD : yGm M T) (hk : 1 ≤ k ∧ k < ym (yK σ) b) (hg : T.1 + 2 ≤ 180) (kk : ∀ N : zM, (yGm N (ystk σ c b k T) ∧ ygf M N) → Q (3, 0) N) : zWp kM_showsStacked 0 [(1, 208), (0, c), (0, k)] [] M Q := by
  have hK := yKr_K hV
  have hn := hV.1
  have hm := ym_r hK hb.1.1 hb.1.2 h
  have em : yms (yK σ) b = ym (yK σ) b := if_pos h
  have hT0 := hD.2.1
  have hpk := (ypl_r hK hb.1.1 hb.1.2 h (show 0 ≤ k by omega) hk.2).1
  have hpk0 : 0 ≤ yP σ b k ∧ yP σ b k < σ 0 := by unfold yP; omega
  refine zw_aload ⟨rfl, rfl⟩ rfl ?_
  refine zw_iload ⟨rfl, rfl⟩ rfl ?_
  refine zw_const ⟨rfl, rfl⟩ ?_
  refine zw_const ⟨rfl, rfl⟩ ?_
  refine zw_aload ⟨rfl, rfl⟩ rfl ?_
  refine zw_getR 222 ⟨rfl, rfl⟩ zr_208_16 ?_
  refine zw_iload ⟨rfl, rfl⟩ rfl ?_
  refine zw_ialdv (v := yP σ b (k)) ⟨rfl, rfl⟩ za_222 (by omega) ((hB.2 (k) (by omega) (by omega)).1) ?_
  refine zw_cavv5 ⟨rfl, rfl⟩ rfl zc_208 rfl ?_
  refine m_showsAt hV hB.1.1 hD (Or.inr hpk0) (fun hpz => by (try simp only [yplt_1, yshb_1, yem_1]); (repeat' split) <;> omega) (fun _ => ywo_e σ _ _ (by decide) (by decide)) (fun N1 p1 => ?_)
  have hB1 := hB.fr p1.2
  have D1 := p1.1
  have n1 : N1 208 31 = T.1 + 1 := by rw [D1.1, yplt_1, if_neg (by omega)]
  refine zw_aload ⟨rfl, rfl⟩ rfl ?_
  refine zw_iload ⟨rfl, rfl⟩ rfl ?_
  refine zw_const ⟨rfl, rfl⟩ ?_
  refine zw_isub ⟨rfl, rfl⟩ (by omega) ?_
  refine zw_aload ⟨rfl, rfl⟩ rfl ?_
  refine zw_getIv (v := T.1 + 1) ⟨rfl, rfl⟩ zc_208 (by decide) (n1) ?_
  refine zw_const ⟨rfl, rfl⟩ ?_
  refine zw_isub ⟨rfl, rfl⟩ (by omega) ?_
  rw [show (T.1 + 1) - 1 = T.1 by omega]
  refine zw_cavv3 ⟨rfl, rfl⟩ rfl zc_208 rfl ?_
  refine m_showsWith D1 hB1 ⟨by omega, by omega, by omega⟩ (by rcases yvi_p (p := yP σ b (k - 1)) hK with z | z; exact Or.inl z; exact Or.inr ⟨z.1, by omega⟩) (fun N2 p2 => ?_)
  have hB2 := hB1.fr p2.2
  have D2 := p2.1
  refine zw_aload ⟨rfl, rfl⟩ rfl ?_
  refine zw_iload ⟨rfl, rfl⟩ rfl ?_
  refine zw_const ⟨rfl, rfl⟩ ?_
  refine zw_const ⟨rfl, rfl⟩ ?_
  refine zw_aload ⟨rfl, rfl⟩ rfl ?_
  refine zw_getR 223 ⟨rfl, rfl⟩ zr_208_17 ?_
  refine zw_iload ⟨rfl, rfl⟩ rfl ?_
  refine zw_ialdv (v := ynk (yK σ) (yP σ b (k))) ⟨rfl, rfl⟩ za_223 (by omega) ((hB2.2 (k) (by omega) (by omega)).2.1) ?_
  refine zw_cavv5 ⟨rfl, rfl⟩ rfl zc_208 rfl ?_
  refine m_showsAt hV hB2.1.1 D2 (ynk_p hK) (fun hpz => by (try simp only [yplt_1, yshb_1, yem_1]); (repeat' split) <;> omega) (fun _ => ywo_e σ _ _ (by decide) (by decide)) (fun N3 p3 => ?_)
  have hB3 := hB2.fr p3.2
  have D3 := p3.1
  refine zw_void rfl ?_
  refine kk _ ⟨?_, (p1.2.tr p2.2).tr p3.2⟩
  unfold ystk
  exact D3

theorem m_showsAlone {c : Int} {M : zM} {Q : zV → zM → Prop} {σ : yS} {b : Int} (hV : yVal σ) (hA : yMa M σ b) (hb : (0 ≤ b ∧ b < σ 0) ∧ ybg (yK σ) b) (h : yK σ b ≠ 1) {T : yT} (hD : yGm M T) (hc : 0 ≤ c ∧ c < 60) (hs : M 214 c = yso (yK σ b)) (hg : T.1 + 1 + (if yow (yK σ) b = -1 then 0 else 1) ≤ 180) (kk : ∀ N : zM, (yGm N (ymid σ c b T) ∧ ygf M N) → Q (3, 0) N) : zWp kM_showsAlone 0 [(1, 208), (0, c), (0, b), (3, 0)] [] M Q := by
  have hK := yKr_K hV
  have hn := hV.1
  have hkr := hK.2.1 b hb.1.1 hb.1.2
  have hso := yso_k hkr.1 hkr.2
  have hT0 := hD.2.1
  have het : yK σ b = 2 → (ytl (yK σ) b = b + 2 ∧ yK σ (b + 1) = 4 ∧ b + 1 < σ 0) ∨ (ytl (yK σ) b = b + 1 ∧ yK σ (b + 1) ≠ 4) := fun z => by
    unfold ytl
    rw [if_neg h, if_pos z]
    split
    · rename_i q; exact Or.inl ⟨rfl, q, (ykp hK (p := b + 1) (by rw [q]; decide)).2⟩
    · rename_i q; exact Or.inr ⟨rfl, q⟩
  refine zw_aload ⟨rfl, rfl⟩ rfl ?_
  refine zw_iload ⟨rfl, rfl⟩ rfl ?_
  refine zw_callv2 ⟨rfl, rfl⟩ rfl zc_208 rfl ?_
  refine m_MkindAt hV hA.1 hb.1.1 ?_
  refine zw_istore_3 ⟨rfl, rfl⟩ ?_
  refine zw_aload ⟨rfl, rfl⟩ rfl ?_
  refine zw_getR 214 ⟨rfl, rfl⟩ zr_208_7 ?_
  refine zw_iload ⟨rfl, rfl⟩ rfl ?_
  refine zw_ialdv (v := yso (yK σ b)) ⟨rfl, rfl⟩ za_214 (by omega) (hs) ?_
  refine zw_const ⟨rfl, rfl⟩ ?_
  refine zw_icne ⟨rfl, rfl⟩ rfl (fun c1 => ?_) (fun c1 => ?_)
  · skip
    refine zw_aload ⟨rfl, rfl⟩ rfl ?_
    refine zw_getR 214 ⟨rfl, rfl⟩ zr_208_7 ?_
    refine zw_iload ⟨rfl, rfl⟩ rfl ?_
    refine zw_ialdv (v := yso (yK σ b)) ⟨rfl, rfl⟩ za_214 (by omega) (hs) ?_
    refine zw_const ⟨rfl, rfl⟩ ?_
    refine zw_icne ⟨rfl, rfl⟩ rfl (fun c2 => ?_) (fun c2 => ?_)
    · skip
      refine zw_aload ⟨rfl, rfl⟩ rfl ?_
      refine zw_iload ⟨rfl, rfl⟩ rfl ?_
      refine zw_const ⟨rfl, rfl⟩ ?_
      refine zw_const ⟨rfl, rfl⟩ ?_
      refine zw_const ⟨rfl, rfl⟩ ?_
      refine zw_const ⟨rfl, rfl⟩ ?_
      refine zw_cavv6 ⟨rfl, rfl⟩ rfl zc_208 rfl ?_
      refine m_shows hV hA.1 hD (Or.inl rfl) (Or.inl rfl) (by split at hg <;> omega) (ywo_e σ _ _ (by decide) (by decide)) (fun N1 p1 => ?_)
      have hA1 := hA.fr p1.2
      have D1 := p1.1
      rw [if_pos rfl] at D1
      refine zw_aload ⟨rfl, rfl⟩ rfl ?_
      refine zw_iload ⟨rfl, rfl⟩ rfl ?_
      refine zw_const ⟨rfl, rfl⟩ ?_
      refine zw_const ⟨rfl, rfl⟩ ?_
      refine zw_iload ⟨rfl, rfl⟩ rfl ?_
      refine zw_const ⟨rfl, rfl⟩ ?_
      refine zw_icne ⟨rfl, rfl⟩ rfl (fun c3 => ?_) (fun c3 => ?_)
      · skip
        refine zw_const ⟨rfl, rfl⟩ ?_
        refine zw_cavv5 ⟨rfl, rfl⟩ rfl zc_208 rfl ?_
        have eo : yow (yK σ) b = (-1) := by unfold yow; (repeat' split) <;> omega
        refine m_showsAt hV hA1.1 D1 (Or.inl rfl) (fun hpz => by (try simp only [yplt_1, yem_1]); rw [eo] at hg; first | omega | (rw [if_neg (by omega)] at hg; (repeat' split) <;> omega)) (fun _ => ywo_e σ _ _ (by decide) (by decide)) (fun N2 p2 => ?_)
        have hA2 := hA1.fr p2.2
        have D2 := p2.1
        refine zw_void rfl ?_
        refine kk _ ⟨?_, p1.2.tr p2.2⟩
        unfold ymid
        rw [if_neg h, eo]
        first
          | (rw [if_pos (show yso (yK σ b) = 2 by omega)]; exact D2)
          | (rw [if_neg (show ¬ yso (yK σ b) = 2 by omega), if_pos (show yso (yK σ b) = 1 by omega)]; exact D2)
      · skip
        refine zw_iload ⟨rfl, rfl⟩ rfl ?_
        refine zw_goto ⟨rfl, rfl⟩ rfl ?_
        refine zw_cavv5 ⟨rfl, rfl⟩ rfl zc_208 rfl ?_
        have eo : yow (yK σ) b = b := by unfold yow; (repeat' split) <;> omega
        refine m_showsAt hV hA1.1 D1 (Or.inr ⟨by omega, by omega⟩) (fun hpz => by (try simp only [yplt_1, yem_1]); rw [eo] at hg; first | omega | (rw [if_neg (by omega)] at hg; (repeat' split) <;> omega)) (fun _ => ywo_e σ _ _ (by decide) (by decide)) (fun N2 p2 => ?_)
        have hA2 := hA1.fr p2.2
        have D2 := p2.1
        refine zw_void rfl ?_
        refine kk _ ⟨?_, p1.2.tr p2.2⟩
        unfold ymid
        rw [if_neg h, eo]
        first
          | (rw [if_pos (show yso (yK σ b) = 2 by omega)]; exact D2)
          | (rw [if_neg (show ¬ yso (yK σ b) = 2 by omega), if_pos (show yso (yK σ b) = 1 by omega)]; exact D2)
    · skip
      refine zw_aload ⟨rfl, rfl⟩ rfl ?_
      refine zw_iload ⟨rfl, rfl⟩ rfl ?_
      refine zw_const ⟨rfl, rfl⟩ ?_
      refine zw_iload ⟨rfl, rfl⟩ rfl ?_
      refine zw_calls1 ⟨rfl, rfl⟩ rfl rfl ?_
      refine zw_iload ⟨rfl, rfl⟩ rfl ?_
      refine zw_const ⟨rfl, rfl⟩ ?_
      refine zw_iceq ⟨rfl, rfl⟩ rfl (fun c4 => ?_) (fun c4 => ?_)
      · skip
        refine zw_const ⟨rfl, rfl⟩ ?_
        refine zw_goto ⟨rfl, rfl⟩ rfl ?_
        refine zw_zret rfl (by first | exact Or.inl rfl | exact Or.inr rfl | omega) ?_
        refine zw_ifeq ⟨rfl, rfl⟩ rfl (fun q => absurd q (by decide)) (fun _ => ?_)
        refine zw_const ⟨rfl, rfl⟩ ?_
        refine zw_goto ⟨rfl, rfl⟩ rfl ?_
        refine zw_iload ⟨rfl, rfl⟩ rfl ?_
        refine zw_cavv5 ⟨rfl, rfl⟩ rfl zc_208 rfl ?_
        refine m_showsAt hV hA.1 hD (Or.inr ⟨by omega, by omega⟩) (fun hpz => by (split at hg <;> omega)) (fun _ => ywo_e σ _ _ (by decide) (by decide)) (fun N1 p1 => ?_)
        have hA1 := hA.fr p1.2
        have D1 := p1.1
        refine zw_goto ⟨rfl, rfl⟩ rfl ?_
        refine zw_void rfl ?_
        have eo : yow (yK σ) b = -1 := by unfold yow; (repeat' split) <;> omega
        refine kk _ ⟨?_, p1.2⟩
        unfold ymid
        rw [if_neg h, eo, if_neg (show ¬ yso (yK σ b) = 2 by omega), if_neg (show ¬ yso (yK σ b) = 1 by omega)]
        unfold yplt at D1 ⊢
        rw [if_pos rfl]
        first | (rw [if_pos (show yK σ b = 12 ∨ yK σ b = 13 by omega)]; exact D1) | (rw [if_neg (show ¬ (yK σ b = 12 ∨ yK σ b = 13) by omega)]; exact D1)
      · skip
        refine zw_iload ⟨rfl, rfl⟩ rfl ?_
        refine zw_const ⟨rfl, rfl⟩ ?_
        refine zw_icne ⟨rfl, rfl⟩ rfl (fun c6 => ?_) (fun c6 => ?_)
        · skip
          refine zw_const ⟨rfl, rfl⟩ ?_
          refine zw_zret rfl (by first | exact Or.inl rfl | exact Or.inr rfl | omega) ?_
          refine zw_ifeq ⟨rfl, rfl⟩ rfl (fun _ => ?_) (fun q => absurd (by decide) q)
          refine zw_const ⟨rfl, rfl⟩ ?_
          refine zw_iload ⟨rfl, rfl⟩ rfl ?_
          refine zw_cavv5 ⟨rfl, rfl⟩ rfl zc_208 rfl ?_
          refine m_showsAt hV hA.1 hD (Or.inr ⟨by omega, by omega⟩) (fun hpz => by (split at hg <;> omega)) (fun _ => ywo_e σ _ _ (by decide) (by decide)) (fun N1 p1 => ?_)
          have hA1 := hA.fr p1.2
          have D1 := p1.1
          refine zw_goto ⟨rfl, rfl⟩ rfl ?_
          refine zw_void rfl ?_
          have eo : yow (yK σ) b = -1 := by unfold yow; (repeat' split) <;> omega
          refine kk _ ⟨?_, p1.2⟩
          unfold ymid
          rw [if_neg h, eo, if_neg (show ¬ yso (yK σ b) = 2 by omega), if_neg (show ¬ yso (yK σ b) = 1 by omega)]
          unfold yplt at D1 ⊢
          rw [if_pos rfl]
          first | (rw [if_pos (show yK σ b = 12 ∨ yK σ b = 13 by omega)]; exact D1) | (rw [if_neg (show ¬ (yK σ b = 12 ∨ yK σ b = 13) by omega)]; exact D1)
        · skip
          refine zw_const ⟨rfl, rfl⟩ ?_
          refine zw_goto ⟨rfl, rfl⟩ rfl ?_
          refine zw_zret rfl (by first | exact Or.inl rfl | exact Or.inr rfl | omega) ?_
          refine zw_ifeq ⟨rfl, rfl⟩ rfl (fun q => absurd q (by decide)) (fun _ => ?_)
          refine zw_const ⟨rfl, rfl⟩ ?_
          refine zw_goto ⟨rfl, rfl⟩ rfl ?_
          refine zw_iload ⟨rfl, rfl⟩ rfl ?_
          refine zw_cavv5 ⟨rfl, rfl⟩ rfl zc_208 rfl ?_
          refine m_showsAt hV hA.1 hD (Or.inr ⟨by omega, by omega⟩) (fun hpz => by (split at hg <;> omega)) (fun _ => ywo_e σ _ _ (by decide) (by decide)) (fun N1 p1 => ?_)
          have hA1 := hA.fr p1.2
          have D1 := p1.1
          refine zw_goto ⟨rfl, rfl⟩ rfl ?_
          refine zw_void rfl ?_
          have eo : yow (yK σ) b = -1 := by unfold yow; (repeat' split) <;> omega
          refine kk _ ⟨?_, p1.2⟩
          unfold ymid
          rw [if_neg h, eo, if_neg (show ¬ yso (yK σ b) = 2 by omega), if_neg (show ¬ yso (yK σ b) = 1 by omega)]
          unfold yplt at D1 ⊢
          rw [if_pos rfl]
          first | (rw [if_pos (show yK σ b = 12 ∨ yK σ b = 13 by omega)]; exact D1) | (rw [if_neg (show ¬ (yK σ b = 12 ∨ yK σ b = 13) by omega)]; exact D1)
  · skip
    have het2 := het (by omega)
    refine zw_aload ⟨rfl, rfl⟩ rfl ?_
    refine zw_iload ⟨rfl, rfl⟩ rfl ?_
    refine zw_const ⟨rfl, rfl⟩ ?_
    refine zw_const ⟨rfl, rfl⟩ ?_
    refine zw_iload ⟨rfl, rfl⟩ rfl ?_
    refine zw_cavv5 ⟨rfl, rfl⟩ rfl zc_208 rfl ?_
    refine m_showsAt hV hA.1 hD (Or.inr ⟨by omega, by omega⟩) (fun hpz => by (split at hg <;> omega)) (fun _ => ywo_e σ _ _ (by decide) (by decide)) (fun N1 p1 => ?_)
    have hA1 := hA.fr p1.2
    have D1 := p1.1
    refine zw_aload ⟨rfl, rfl⟩ rfl ?_
    refine zw_iload ⟨rfl, rfl⟩ rfl ?_
    refine zw_const ⟨rfl, rfl⟩ ?_
    refine zw_const ⟨rfl, rfl⟩ ?_
    refine zw_aload ⟨rfl, rfl⟩ rfl ?_
    refine zw_getIv (v := ytl (yK σ) b) ⟨rfl, rfl⟩ zc_208 (by decide) (hA1.2.1) ?_
    refine zw_iload ⟨rfl, rfl⟩ rfl ?_
    refine zw_const ⟨rfl, rfl⟩ ?_
    refine zw_iadd ⟨rfl, rfl⟩ (by omega) ?_
    refine zw_icne ⟨rfl, rfl⟩ rfl (fun c9 => ?_) (fun c9 => ?_)
    · skip
      refine zw_const ⟨rfl, rfl⟩ ?_
      refine zw_cavv5 ⟨rfl, rfl⟩ rfl zc_208 rfl ?_
      have eo : yow (yK σ) b = (-1) := by unfold yow; (repeat' split) <;> omega
      refine m_showsAt hV hA1.1 D1 (Or.inl rfl) (fun hpz => by (try simp only [yplt_1, yem_1]); rw [eo] at hg; first | omega | (rw [if_neg (by omega)] at hg; (repeat' split) <;> omega)) (fun _ => ywo_e σ _ _ (by decide) (by decide)) (fun N2 p2 => ?_)
      have hA2 := hA1.fr p2.2
      have D2 := p2.1
      refine zw_goto ⟨rfl, rfl⟩ rfl ?_
      refine zw_void rfl ?_
      refine kk _ ⟨?_, p1.2.tr p2.2⟩
      unfold ymid
      rw [if_neg h, eo]
      first
        | (rw [if_pos (show yso (yK σ b) = 2 by omega)]; exact D2)
        | (rw [if_neg (show ¬ yso (yK σ b) = 2 by omega), if_pos (show yso (yK σ b) = 1 by omega)]; exact D2)
    · skip
      refine zw_iload ⟨rfl, rfl⟩ rfl ?_
      refine zw_const ⟨rfl, rfl⟩ ?_
      refine zw_iadd ⟨rfl, rfl⟩ (by omega) ?_
      refine zw_goto ⟨rfl, rfl⟩ rfl ?_
      refine zw_cavv5 ⟨rfl, rfl⟩ rfl zc_208 rfl ?_
      have eo : yow (yK σ) b = b + 1 := by unfold yow; (repeat' split) <;> omega
      refine m_showsAt hV hA1.1 D1 (Or.inr ⟨by omega, by omega⟩) (fun hpz => by (try simp only [yplt_1, yem_1]); rw [eo] at hg; first | omega | (rw [if_neg (by omega)] at hg; (repeat' split) <;> omega)) (fun _ => ywo_e σ _ _ (by decide) (by decide)) (fun N2 p2 => ?_)
      have hA2 := hA1.fr p2.2
      have D2 := p2.1
      refine zw_goto ⟨rfl, rfl⟩ rfl ?_
      refine zw_void rfl ?_
      refine kk _ ⟨?_, p1.2.tr p2.2⟩
      unfold ymid
      rw [if_neg h, eo]
      first
        | (rw [if_pos (show yso (yK σ b) = 2 by omega)]; exact D2)
        | (rw [if_neg (show ¬ yso (yK σ b) = 2 by omega), if_pos (show yso (yK σ b) = 1 by omega)]; exact D2)
