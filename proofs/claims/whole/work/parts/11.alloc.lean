/-! Cells made, rows copied, texts -/
theorem zws_setM {adK ad : Nat → Nat} {cA : Nat → ClassId} {S : List zSh} {M M' : zM} {k : Nat} {q : zSh} {x : va_E} (h : S[k]? = some q) (hx : zel adK ad cA M' k q = x) (ho : ∀ j : Nat, j ≠ k → ∀ z : Int, M' j z = M j z) : (zws adK ad cA S M).set k (ad k, x) = zws adK ad cA S M' := by
  subst hx
  apply List.ext_getElem?
  intro j
  have hk : k < S.length := (List.getElem?_eq_some_iff.mp h).1
  by_cases hj : j = k
  · subst hj
    rw [List.getElem?_set_self (by rw [zws_len]; exact hk), zws_at h]
  · rw [List.getElem?_set_ne (Ne.symm hj)]
    cases hq : S[j]? with
    | none =>
      have hl : S.length ≤ j := by simpa using hq
      rw [List.getElem?_eq_none (by rw [zws_len]; exact hl), List.getElem?_eq_none (by rw [zws_len]; exact hl)]
    | some q' =>
      rw [zws_at hq, zws_at hq]
      unfold zel
      simp only [ho j hj]
theorem zk_copy : zOK 54 zo_copy (zh_st 54) := by
  intro p l e R s m args below meth c Q D adK adV A nL k pcs S0 ad0 cA0 own cc x n i a ls st S M r F hd hp hn hh hm ho hc hs hG
  unfold zo_copy at ho
  split at ho
  · rename_i vn dp vd sp vs rr
    split at ho
    · rename_i q hq
      split at ho
      · rename_i o hoo
        split at ho
        · rename_i hi
          obtain ⟨⟨t1, t2, t3, t4, t5, t6, t7⟩, ⟨r1, r2, r3, r4, r5⟩, hne, h4⟩ := hi
          obtain ⟨hnn, hq⟩ := zsh_of hq
          obtain ⟨hnu, hoo⟩ := zsh_of hoo
          cases ho
          intro ad cA H locs als hag hS0 hZ0 hl hL hst hlk hok hR hS
          unfold zh_st at hh
          split at hh
          · rename_i kx
            simp only [Bool.and_eq_true, decide_eq_true_eq] at hh
            obtain ⟨e1, hany⟩ := hh
            have h13 := zol_lt hany
            obtain ⟨hx, hb, hml, hown, hts, hroom, -⟩ := F
            rw [if_neg (by omega)] at hown
            rw [zlen_of hn rfl] at hd hp
            obtain ⟨hP, hD, hK, hV⟩ := id hR
            obtain ⟨o1, hok2⟩ := List.forall_mem_cons.mp hok
            obtain ⟨o2, hok3⟩ := List.forall_mem_cons.mp hok2
            obtain ⟨o3, hok4⟩ := List.forall_mem_cons.mp hok3
            obtain ⟨o4, hok5⟩ := List.forall_mem_cons.mp hok4
            obtain ⟨o5, orr⟩ := List.forall_mem_cons.mp hok5
            have b1 := o1.1.1 (Or.inl t1)
            have b2 := o2.1.1 (Or.inl t2)
            have b4 := o4.1.1 (Or.inl t4)
            have es : ((vs.2.toNat : Nat) : Int) = vs.2 := by omega
            have ed : ((vd.2.toNat : Nat) : Int) = vd.2 := by omega
            have nlt : ∀ z : Int, 0 ≤ z → z ≤ 2147483647 → ¬ Int32.ofInt z < 0 := fun z h1 h2 => by
              rw [zi_0, zi_lt ⟨by omega, h2⟩ (by decide)]
              omega
            have hK2 : va_K D zcl [(cA vs.2.toNat, .int), (cA vd.2.toNat, .int)] s := ⟨hK.1.1, fun j x hx => by
              match j, hx with
              | 0, hx => cases hx; have := hK.2 _ q hq (by omega); rw [zaty_1 t6] at this; exact this
              | 1, hx => cases hx; have := hK.2 _ o hoo (by omega); rw [zaty_1 t7] at this; exact this
              | j + 2, hx => simp at hx⟩
            have hloc : ((rr.map (zcv adK ad)).map fun v => v.category).sum + (nativeFrameWords "java/lang/System" "arraycopy" 5 + 11) ≤ R.locals := by
              have h8 := zcat_sum (adK := adK) (ad := ad) rr h4
              have e : nativeFrameWords "java/lang/System" "arraycopy" 5 ≤ 21 := by decide +kernel
              omega
            simp only [List.map_cons]
            rw [zcv_i t1, zcv_i t2, zcv_r t3, zcv_i t4, zcv_r t5]
            refine va_copyi (ty := .int) hx hb (by rw [hml]; exact hl.1.symm) hown (zol_ok hts (by decide) hany) (zTb_at hts zwx_cpN rfl) (zTb_at hts zwx_cpS rfl) (zTb_at hts zwx_cpI rfl) hK2 hP hD hS vs.2.toNat vd.2.toNat 0 1 ((zws_at hq).trans (by rw [zel_a (Or.inl t6)])) ((zws_at hoo).trans (by rw [zel_a (Or.inl t7)])) rfl rfl rfl (nlt _ r3 b4.2) (nlt _ r2 b2.2) (nlt _ r1 b1.2) (by rw [zi_nat ⟨r3, b4.2⟩, zi_nat ⟨r1, b1.2⟩]; omega) (by rw [zi_nat ⟨r2, b2.2⟩, zi_nat ⟨r1, b1.2⟩]; omega) (fun _ _ => rfl) hroom.1 hloc hd (fun H1 locs1 hP1 hD1 hS1 => ?_)
            have hoth : ∀ j : Nat, j ≠ vd.2.toNat → ∀ z : Int, zcpy M vs.2 sp.2 vd.2 dp.2 vn.2 j z = M j z := fun j hj z => by
              unfold zcpy
              rw [if_neg (by omega)]
            have hx1 : zel adK ad cA (zcpy M vs.2 sp.2 vd.2 dp.2 vn.2) vd.2.toNat o = .inl (cA vd.2.toNat, o.2.1, .inl (va_cpy (fun j => Int32.ofInt (M vs.2.toNat j)) (fun j => Int32.ofInt (M vd.2.toNat j)) (Int32.ofInt sp.2).toNatClampNeg (Int32.ofInt dp.2).toNatClampNeg (Int32.ofInt vn.2).toNatClampNeg)) := by
              rw [zel_a (Or.inl t7), zi_nat ⟨r3, b4.2⟩, zi_nat ⟨r2, b2.2⟩, zi_nat ⟨r1, b1.2⟩]
              congr 4
              funext j
              unfold va_cpy zcpy
              by_cases hj : dp.2.toNat ≤ j ∧ j < dp.2.toNat + vn.2.toNat
              · rw [if_pos hj, if_pos ⟨ed, by omega, by omega⟩]
                congr 2
                · exact es.symm
                · omega
              · rw [if_neg hj, if_neg (by omega)]
            rw [zws_setM hoo hx1 hoth] at hP1 hD1
            have hV1 : zval S (zcpy M vs.2 sp.2 vd.2 dp.2 vn.2) := by
              have hcase : ∀ j z : Int, zcpy M vs.2 sp.2 vd.2 dp.2 vn.2 j z = M j z ∨ (j = vd.2 ∧ zcpy M vs.2 sp.2 vd.2 dp.2 vn.2 j z = M vs.2 (sp.2 + (z - dp.2))) := fun j z => by
                unfold zcpy
                split
                · rename_i h; exact Or.inr ⟨h.1, rfl⟩
                · exact Or.inl rfl
              have hlt : vd.2.toNat < S.length := (List.getElem?_eq_some_iff.mp hoo).1
              refine ⟨fun j q' hj => ?_, fun j q' hj hn z => ?_, fun j hj z => ?_⟩
              · obtain ⟨a1, a2, a3, a4⟩ := hV.1 j q' hj
                refine ⟨a1, a2, a3, fun e => ⟨(a4 e).1, fun z => ?_⟩⟩
                rcases hcase j z with h | ⟨h, -⟩
                · rw [h]; exact (a4 e).2 z
                · have : j = vd.2.toNat := by omega
                  subst this
                  rw [hoo] at hj
                  cases hj
                  omega
              · rcases hcase j z with h | ⟨-, h⟩
                · rw [h]; exact hV.2.1 j q' hj hn z
                · rw [h]
                  have := hV.2.1 _ q hq (by omega) (sp.2 + (z - dp.2))
                  rw [es] at this
                  exact this
              · rcases hcase j z with h | ⟨h, -⟩
                · rw [h]; exact hV.2.2 j hj z
                · omega
            have kk := hG ad cA H1 locs1 als hag hS0 hZ0 hl hL hst hlk orr ⟨hP1, hD1, hK, hV1⟩ hS1
            rw [hp] at kk
            exact kk
          · cases hh
        · cases ho
      · cases ho
    · cases ho
  · cases ho
theorem zk_text : zOK 57 zo_text zh_text := by
  intro p l e R s m args below meth c Q D adK adV A nL k pcs S0 ad0 cA0 own cc x n i a ls st S M r F hd hp hn hh hm ho hc hs hG
  cases ho
  intro ad cA H locs als hag hS0 hZ0 hl hL hst hlk hok hR hS
  unfold zh_text at hh
  split at hh
  · rename_i kx
    simp only [Bool.and_eq_true, decide_eq_true_eq] at hh
    obtain ⟨⟨e1, e2, e3, e4⟩, hany⟩ := hh
    obtain ⟨hx, hb, hml, hown, hts, hroom, hA, hf1, hf2, hnest, hao, haoa, hstr, htl, -⟩ := F
    rw [if_neg (by omega), e2] at hown
    rw [zlen_of hn rfl] at hd hp
    obtain ⟨q, hq, he⟩ := List.any_eq_true.mp hany
    simp only [Bool.and_eq_true, beq_iff_eq] at he
    have hZ := htl q hq
    rw [he.1, he.2] at hZ
    have kk := hG ad cA H locs als hag hS0 hZ0 hl hL hst hlk (List.forall_mem_cons.mpr ⟨⟨⟨fun z => by rcases z with z | z; exact absurd z (by decide : (4 : Nat) ≠ 0); exact absurd z (by decide : (4 : Nat) ≠ 2), fun z => absurd z (by decide : (4 : Nat) ≠ 1)⟩, (by decide : (4 : Nat) ≠ 3)⟩, hok⟩) hR hS
    rw [hp, List.map_cons, zcv_4] at kk
    intro T hT X
    obtain ⟨t, a1, b1⟩ := kk T hT X
    exact ⟨t, X.ldcStringW hx (own := "StackedScript") hown hZ.1 hZ.2 (g := F0 m (zpc pcs i) als (st.map (zcv adK ad))) rfl (by rw [hb]; exact hd) t a1, b1⟩
  · cases hh
/-- a cell more: what was there is the same -/
theorem zel_ag {adK ad ad' : Nat → Nat} {cA cA' : Nat → ClassId} {S : List zSh} {M : zM} {k : Nat} {q : zSh} (hV : zval S M) (hq : S[k]? = some q) (hag : zag S.length ad cA ad' cA') : zel adK ad' cA' M k q = zel adK ad cA M k q := by
  have hk : k < S.length := (List.getElem?_eq_some_iff.mp hq).1
  obtain ⟨a1, a2, a3, a4⟩ := hV.1 k q hq
  unfold zel
  by_cases h0 : q.1 = 0
  · rw [if_pos h0, if_pos h0]
    congr 2
    apply List.map_congr_left
    intro j _
    by_cases hk1 : zkd q.2.1 j = 1
    · rw [if_pos hk1, if_pos hk1, zcv_ag hag (zrf_ok ((a2 h0).2.2 j)).1]
    · rw [if_neg hk1, if_neg hk1]
  · rw [if_neg h0, if_neg h0, (hag k hk).2]
    by_cases h4 : q.1 = 4
    · rw [if_pos h4, if_pos h4]
      congr 7
      funext j
      by_cases hj : j < q.2.1
      · have := a3 h4
        rw [if_pos hj, if_pos hj, (hag _ (show (q.2.2.getD 0 0 + j).toNat < S.length by omega)).1]
      · rw [if_neg hj, if_neg hj]
    · rw [if_neg h4, if_neg h4]
      by_cases h5 : q.1 = 5
      · rw [if_pos h5, if_pos h5]
        congr 7
        funext j
        by_cases hj : M k j ≤ 0
        · rw [if_pos hj, if_pos hj]
        · have := (a4 h5).2 j
          rw [if_neg hj, if_neg hj, (hag _ (show (M k j - 1).toNat < S.length by omega)).1]
      · rw [if_neg h5, if_neg h5]
theorem zws_ag {adK ad ad' : Nat → Nat} {cA cA' : Nat → ClassId} {S T : List zSh} {M : zM} (hV : zval S M) (hag : zag S.length ad cA ad' cA') : zws adK ad' cA' (S ++ T) M = zws adK ad cA S M ++ (List.range T.length).map (fun j => (ad' (S.length + j), zel adK ad' cA' M (S.length + j) (T.getD j (9, 0, [])))) := by
  apply List.ext_getElem?
  intro j
  by_cases hj : j < S.length
  · rw [List.getElem?_append_left (by rw [zws_len]; exact hj)]
    have hq : S[j]? = some S[j] := List.getElem?_eq_getElem hj
    rw [zws_at (by rw [List.getElem?_append_left hj]; exact hq), zws_at hq, zel_ag hV hq hag, (hag j hj).1]
  · rw [List.getElem?_append_right (by rw [zws_len]; omega), zws_len]
    by_cases hj2 : j < S.length + T.length
    · have hq : T[j - S.length]? = some T[j - S.length] := List.getElem?_eq_getElem (by omega)
      have hq2 : (S ++ T)[j]? = some T[j - S.length] := by rw [List.getElem?_append_right (by omega)]; exact hq
      rw [zws_at hq2, List.getElem?_map, List.getElem?_range (by omega)]
      have e : S.length + (j - S.length) = j := by omega
      simp only [Option.map_some, e, List.getD, hq, Option.getD_some]
    · rw [List.getElem?_eq_none (by rw [zws_len, List.length_append]; omega), List.getElem?_eq_none (by simp; omega)]
theorem zst_ag {adK ad ad' : Nat → Nat} {cA cA' : Nat → ClassId} {n : Nat} {st : List zV} (hag : zag n ad cA ad' cA') (hok : ∀ v ∈ st, zok n v ∧ v.1 ≠ 3) : st.map (zcv adK ad') = st.map (zcv adK ad) := List.map_congr_left (fun v hv => zcv_ag hag (hok v hv).1)
theorem zcl_ok {own k c : Nat} {s : State} {args : Array Value} (hts : ∀ w ∈ zTb, w.before args s = true) (h : zCl.any (fun e => e.1 == own && (e.2.1 == k && e.2.2.1 == c)) = true) : (Cond.classLink (if own = 13 then R_law else zC own) k (zC c)).before args s = true := by
  obtain ⟨q, hq, he⟩ := List.any_eq_true.mp h
  simp only [Bool.and_eq_true, beq_iff_eq] at he
  obtain ⟨e1, e2, e3⟩ := he
  have hw := of_decide_eq_true (List.all_eq_true.mp zw_cl q hq)
  rw [e1, e2, e3] at hw
  exact zTb_at hts hw rfl
theorem zcw_ok {c : Nat} {s : State} {args : Array Value} (hts : ∀ w ∈ zTb, w.before args s = true) (hc : c < 13) : (Cond.instantiable (zC c) (zN c)).before args s = true ∧ (Cond.initialized (zC c)).before args s = true := by
  have h := List.all_eq_true.mp zw_cls c (List.mem_range.mpr hc)
  simp only [Bool.and_eq_true] at h
  exact ⟨zTb_at hts (of_decide_eq_true h.1.1) rfl, zTb_at hts (of_decide_eq_true h.1.2) rfl⟩
def zpush (f : Nat → Nat) (n q : Nat) : Nat → Nat := fun j => if j = n then q else f j
theorem zpush_ag {ad : Nat → Nat} {cA : Nat → ClassId} {n q : Nat} {c : ClassId} : zag n ad cA (zpush ad n q) (zpush cA n c) := fun j hj => ⟨if_neg (by omega), if_neg (by omega)⟩
/-- one cell more -/
theorem zws_push {adK ad : Nat → Nat} {cA : Nat → ClassId} {S : List zSh} {M : zM} {q : Nat} {c : ClassId} {t : zSh} {x : va_E} (hV : zval S M) (hx : zel adK (zpush ad S.length q) (zpush cA S.length c) M S.length t = x) : zws adK ad cA S M ++ [(q, x)] = zws adK (zpush ad S.length q) (zpush cA S.length c) (S ++ [t]) M := by
  rw [zws_ag hV zpush_ag]
  congr 1
  show [(q, x)] = [(zpush ad S.length q (S.length + 0), zel adK (zpush ad S.length q) (zpush cA S.length c) M (S.length + 0) t)]
  rw [Nat.add_zero, hx, show zpush ad S.length q S.length = q from if_pos rfl]
theorem zval_push {S : List zSh} {M : zM} {t : zSh} (hV : zval S M) (h1 : t.1 ≤ 5 ∧ t.2.1 ≤ 2000) (h2 : t.1 = 0 → t.2.1 < 13 ∧ t.2.2.length = zN t.2.1 ∧ ∀ j : Nat, t.2.2.getD j (-1) < S.length + 1) (h4 : t.1 ≠ 4) (h5 : t.1 = 5 → t.2.2.getD 0 0 = 10) : zval (S ++ [t]) M := by
  have hlen : (S ++ [t]).length = S.length + 1 := by simp
  have hcase : ∀ k q, (S ++ [t])[k]? = some q → (k < S.length ∧ S[k]? = some q) ∨ (k = S.length ∧ q = t) := fun k q h => by
    by_cases hk : k < S.length
    · rw [List.getElem?_append_left hk] at h
      exact Or.inl ⟨hk, h⟩
    · have hk2 : k < (S ++ [t]).length := (List.getElem?_eq_some_iff.mp h).1
      have : k = S.length := by omega
      subst this
      rw [List.getElem?_append_right (by omega), Nat.sub_self] at h
      cases h
      exact Or.inr ⟨rfl, rfl⟩
  refine ⟨fun k q hq => ?_, fun k q hq hn z => ?_, fun k hk z => hV.2.2 k (by omega) z⟩
  · rw [hlen]
    rcases hcase k q hq with ⟨-, h⟩ | ⟨rfl, rfl⟩
    · obtain ⟨a1, a2, a3, a4⟩ := hV.1 k q h
      exact ⟨a1, fun z => ⟨(a2 z).1, (a2 z).2.1, fun j => by have := (a2 z).2.2 j; omega⟩, fun z => ⟨(a3 z).1, by have := (a3 z).2; omega⟩, fun z => ⟨(a4 z).1, fun j => by have := (a4 z).2 j; omega⟩⟩
    · exact ⟨h1, fun z => ⟨(h2 z).1, (h2 z).2.1, fun j => by have := (h2 z).2.2 j; omega⟩, fun z => absurd z h4, fun z => ⟨h5 z, fun j => by rw [hV.2.2 _ (Nat.le_refl _)]; omega⟩⟩
  · rcases hcase k q hq with ⟨-, h⟩ | ⟨rfl, rfl⟩
    · exact hV.2.1 k q h hn z
    · rw [hV.2.2 _ (Nat.le_refl _)]
      decide
theorem zKs_push {D : va_G} {cA : Nat → ClassId} {S : List zSh} {s : State} {t : zSh} {c : ClassId} (hK : zKs D cA S s) (h : t.1 ≠ 0 → ArrOfT s c (zaty t) ∧ va_RA s c (zaty t)) : zKs D (zpush cA S.length c) (S ++ [t]) s := by
  refine ⟨hK.1, fun k q hq h0 => ?_⟩
  by_cases hk : k < S.length
  · rw [List.getElem?_append_left hk] at hq
    rw [show zpush cA S.length c k = cA k from if_neg (by omega)]
    exact hK.2 k q hq h0
  · have hk2 : k < (S ++ [t]).length := (List.getElem?_eq_some_iff.mp hq).1
    rw [List.length_append] at hk2
    have : k = S.length := by simp at hk2; omega
    subst this
    rw [List.getElem?_append_right (by omega), Nat.sub_self] at hq
    cases hq
    rw [show zpush cA S.length c S.length = c from if_pos rfl]
    exact h h0
theorem zsl_push (S : List zSh) (t : zSh) : zsl (S ++ [t]) = zsl S + zsz t := by simp [zsl_app, zsl]
theorem zw_fit0 : (List.range 13).all (fun c => (List.range (zN c)).all (fun k => (match zTy c k with | .object _ => true | .array _ => true | .int => true | .boolean => true | _ => false))) = true := by decide +kernel
theorem zfit0_ok {c k : Nat} (hc : c < 13) (hk : k < zN c) : (match zTy c k with | .object _ => true | .array _ => true | .int => true | .boolean => true | _ => false) = true := List.all_eq_true.mp (List.all_eq_true.mp zw_fit0 c (List.mem_range.mpr hc)) k (List.mem_range.mpr hk)
theorem zk_new : zOK 49 zo_new zh_new := by
  intro p l e R s m args below meth c Q D adK adV A nL k pcs S0 ad0 cA0 own cc x n i a ls st S M r F hd hp hn hh hm ho hc hs hG
  cases ho
  intro ad cA H locs als hag hS0 hZ0 hl hL hst hlk hok hR hS
  unfold zh_new at hh
  split at hh
  · rename_i kx
    simp only [Bool.and_eq_true, decide_eq_true_eq] at hh
    obtain ⟨⟨e1, hany⟩, g0, g1⟩ := hh
    have h13 : (zarg a 1).toNat < 13 := by omega
    obtain ⟨hx, hb, hml, hown, hts, hroom, hA, -⟩ := F
    rw [zlen_of hn rfl] at hd hp
    obtain ⟨hP, hD, hK, hV⟩ := id hR
    dsimp only at hc hs hG
    rw [List.length_append] at hc
    simp only [List.length_cons, List.length_nil] at hc
    rw [zsl_push] at hs
    have hz : zsz (0, (zarg a 1).toNat, List.replicate (zNf.getD (zarg a 1).toNat 0) (-1)) = zN (zarg a 1).toNat := rfl
    rw [hz] at hs
    have hty : ∀ j, j < zN (zarg a 1).toNat → parseFieldDescriptor (zT (zarg a 1).toNat j).2.2.1 = some (zTy (zarg a 1).toNat j) := fun j hj => (zty_ok h13 hj).1
    refine va_new (ci := (zarg a 1).toNat) (fs := (List.range (zN (zarg a 1).toNat)).map (fun j => if zkd (zarg a 1).toNat j = 1 then .null else .int 0)) (T := zT (zarg a 1).toNat) (N := zN (zarg a 1).toNat) (C := zC (zarg a 1).toNat) hx hb hts (zin_ws h13) (zTy (zarg a 1).toNat) hty hown (zcl_ok hts hany) (zcw_ok hts h13).1 (zcw_ok hts h13).2 hK.1 hP hD hS hA (zcl_at h13) (fun j hj => ?_) (by omega) (by omega) hd (fun q0 H1 hP1 hD1 hS1 => ?_)
    · unfold vp_V
      rw [List.getD, List.getElem?_map, List.getElem?_range hj]
      obtain ⟨f1, f2, -⟩ := zty_ok h13 hj
      show _ = if zkd (zarg a 1).toNat j = 1 then Value.null else .int 0
      cases hz2 : zTy (zarg a 1).toNat j with
      | int => rw [hz2] at f2; dsimp only at f2; rw [if_neg (by omega)]; rfl
      | boolean => rw [hz2] at f2; dsimp only at f2; rw [if_neg (by omega)]; rfl
      | object nm => rw [hz2] at f2; dsimp only at f2; rw [if_pos f2]; rfl
      | array t => rw [hz2] at f2; dsimp only at f2; rw [if_pos f2]; rfl
      | _ => exact absurd (zfit0_ok h13 hj) (by rw [hz2]; simp)
    · have hx1 : zel adK (zpush ad S.length q0) (zpush cA S.length (D.1 0)) M S.length (0, (zarg a 1).toNat, List.replicate (zNf.getD (zarg a 1).toNat 0) (-1)) = .inr ((zarg a 1).toNat, (List.range (zN (zarg a 1).toNat)).map (fun j => if zkd (zarg a 1).toNat j = 1 then .null else .int 0)) := by
        rw [zel_0 rfl]
        dsimp only
        congr 2
        apply List.map_congr_left
        intro j _
        have e : (List.replicate (zNf.getD (zarg a 1).toNat 0) (-1 : Int)).getD j (-1) = -1 := by
          rw [List.getD, List.getElem?_replicate]
          split <;> rfl
        rw [e, hV.2.2 _ (Nat.le_refl _)]
        rfl
      rw [zws_push hV hx1] at hP1 hD1
      have hV1 : zval (S ++ [(0, (zarg a 1).toNat, List.replicate (zNf.getD (zarg a 1).toNat 0) (-1))]) M := zval_push hV ⟨(by decide : (0 : Nat) ≤ 5), by show (zarg a 1).toNat ≤ 2000; omega⟩ (fun _ => ⟨h13, by rw [List.length_replicate]; rfl, fun j => by
        have e : (List.replicate (zNf.getD (zarg a 1).toNat 0) (-1 : Int)).getD j (-1) = -1 := by
          rw [List.getD, List.getElem?_replicate]
          split <;> rfl
        show (List.replicate (zNf.getD (zarg a 1).toNat 0) (-1 : Int)).getD j (-1) < _
        rw [e]
        omega⟩) (by decide : (0 : Nat) ≠ 4) (fun z => absurd z (by decide : (0 : Nat) ≠ 5))
      have hag2 : zag S.length ad cA (zpush ad S.length q0) (zpush cA S.length (D.1 0)) := zpush_ag
      have hlen : (S ++ [((0, (zarg a 1).toNat, List.replicate (zNf.getD (zarg a 1).toNat 0) (-1)) : zSh)]).length = S.length + 1 := by simp
      have kk := hG _ _ H1 locs als (zag.tr hag hag2 hS0) (by rw [hlen]; omega) (by rw [zsl_push]; omega) (by rw [zls_ag hag2 ls 0 hlk]; exact hl) hL hst (fun v hv => (hlk v hv).mono (by rw [hlen]; omega)) (List.forall_mem_cons.mpr ⟨⟨⟨fun z => by rcases z with z | z; exact absurd z (by decide : (1 : Nat) ≠ 0); exact absurd z (by decide : (1 : Nat) ≠ 2), fun _ => ⟨by show (0 : Int) ≤ (S.length : Int); omega, by show (S.length : Int) < _; rw [hlen]; omega⟩⟩, (by decide : (1 : Nat) ≠ 3)⟩, fun v hv => ⟨(hok v hv).1.mono (by rw [hlen]; omega), (hok v hv).2⟩⟩) ⟨hP1, hD1, zKs_push hK (fun z => absurd rfl z), hV1⟩ hS1
      rw [hp, List.map_cons, zcv_1, zst_ag hag2 hok, zsl_push, hz, show ((S.length : Int)).toNat = S.length by omega, show zpush ad S.length q0 S.length = q0 from if_pos rfl, hlen] at kk
      exact W.cs (by omega) (by omega) kk
  · cases hh
theorem zaref {n S : Nat} (h : n < S) : zok S (1, (n : Int)) ∧ ((1, (n : Int)) : zV).1 ≠ 3 := ⟨⟨fun z => by rcases z with z | z; exact absurd z (by decide : (1 : Nat) ≠ 0); exact absurd z (by decide : (1 : Nat) ≠ 2), fun _ => ⟨by show (0 : Int) ≤ (n : Int); omega, by show (n : Int) < _; omega⟩⟩, (by decide : (1 : Nat) ≠ 3)⟩
theorem zk_newa : zOK 50 zo_newa zh_newa := by
  intro p l e R s m args below meth c Q D adK adV A nL k pcs S0 ad0 cA0 own cc x n i a ls st S M r F hd hp hn hh hm ho hc hs hG
  unfold zo_newa at ho
  split at ho
  · rename_i v rr
    split at ho
    · rename_i hi
      obtain ⟨hv, hr0, hr1⟩ := hi
      cases ho
      intro ad cA H locs als hag hS0 hZ0 hl hL hst hlk hok hR hS
      obtain ⟨hx, hb, hml, hown, hts, hroom, hA, -⟩ := F
      obtain ⟨hP, hD, hK, hV⟩ := id hR
      obtain ⟨ov, orr⟩ := List.forall_mem_cons.mp hok
      have rv := ov.1.1 (Or.inl hv)
      dsimp only at hc hs hG
      rw [List.length_append] at hc
      simp only [List.length_cons, List.length_nil] at hc
      rw [zsl_push] at hs
      have ht : (zarg a 0 = 1 ∧ x = .newarray .int) ∨ (zarg a 0 = 2 ∧ x = .newarray .byte) ∨ (zarg a 0 = 3 ∧ x = .newarray .boolean) := by
        unfold zh_newa at hh
        split at hh
        · exact Or.inl ⟨of_decide_eq_true hh, rfl⟩
        · exact Or.inr (Or.inl ⟨of_decide_eq_true hh, rfl⟩)
        · exact Or.inr (Or.inr ⟨of_decide_eq_true hh, rfl⟩)
        · cases hh
      have ht0 : (zarg a 0).toNat ≠ 0 ∧ (zarg a 0).toNat ≤ 3 := by omega
      have hz : zsz ((zarg a 0).toNat, v.2.toNat, []) = v.2.toNat := if_neg ht0.1
      rw [hz] at hs
      have hn2 : n = 2 := by
        rcases ht with ⟨-, rfl⟩ | ⟨-, rfl⟩ | ⟨-, rfl⟩ <;> exact zlen_of hn rfl
      have hlen : (S ++ [(((zarg a 0).toNat, v.2.toNat, []) : zSh)]).length = S.length + 1 := by simp
      have hneg : ¬ Int32.ofInt v.2 < 0 := by
        rw [zi_0, zi_lt rv (by decide)]
        omega
      have goal : ∀ (q0 : Nat) (cN : ClassId) (H1 : Heap), va_K D zcl ([] ++ [(cN, zaty ((zarg a 0).toNat, v.2.toNat, []))]) s → va_P D zcl (zws adK ad cA S M ++ [(q0, .inl (cN, v.2.toNat, .inl (fun _ => 0)))]) H1 → va_D A (zws adK ad cA S M ++ [(q0, .inl (cN, v.2.toNat, .inl (fun _ => 0)))]) → va_S A s.heap H1 locs → W p l e R s m args below meth c H1 locs (S.length - S0.length + 1) (zsl S - zsl S0 + v.2.toNat) Q (F0 m (zpc pcs i + 2) als (.ref q0 :: rr.map (zcv adK ad))) := fun q0 cN H1 hK1 hP1 hD1 hS1 => by
        have hx1 : zel adK (zpush ad S.length q0) (zpush cA S.length cN) M S.length ((zarg a 0).toNat, v.2.toNat, []) = .inl (cN, v.2.toNat, .inl (fun _ => 0)) := by
          rw [zel_a (show (zarg a 0).toNat = 1 ∨ (zarg a 0).toNat = 2 ∨ (zarg a 0).toNat = 3 by omega)]
          rw [show zpush cA S.length cN S.length = cN from if_pos rfl]
          congr 4
          funext j
          rw [hV.2.2 _ (Nat.le_refl _)]
          rfl
        rw [zws_push hV hx1] at hP1 hD1
        have hV1 : zval (S ++ [((zarg a 0).toNat, v.2.toNat, [])]) M := zval_push hV ⟨by show (zarg a 0).toNat ≤ 5; omega, by show v.2.toNat ≤ 2000; omega⟩ (fun z => absurd z ht0.1) (by show (zarg a 0).toNat ≠ 4; omega) (fun z => absurd z (show ¬ (zarg a 0).toNat = 5 by omega))
        have hag2 : zag S.length ad cA (zpush ad S.length q0) (zpush cA S.length cN) := zpush_ag
        have kk := hG _ _ H1 locs als (zag.tr hag hag2 hS0) (by rw [hlen]; omega) (by rw [zsl_push]; omega) (by rw [zls_ag hag2 ls 0 hlk]; exact hl) hL hst (fun v hv => (hlk v hv).mono (by rw [hlen]; omega)) (List.forall_mem_cons.mpr ⟨zaref (by rw [hlen]; omega), fun v hv => ⟨(orr v hv).1.mono (by rw [hlen]; omega), (orr v hv).2⟩⟩) ⟨hP1, hD1, zKs_push hK (fun _ => hK1.2 0 _ rfl), hV1⟩ hS1
        rw [hp, List.map_cons, zcv_1, zst_ag hag2 orr, zsl_push, hz, show ((S.length : Int)).toNat = S.length by omega, show zpush ad S.length q0 S.length = q0 from if_pos rfl, hlen, hn2] at kk
        exact W.cs (by omega) (by omega) kk
      rw [List.map_cons, zcv_i hv]
      rw [hn2] at hd
      rcases ht with ⟨h1, rfl⟩ | ⟨h1, rfl⟩ | ⟨h1, rfl⟩
      · rw [zaty_1 (show ((zarg a 0).toNat, v.2.toNat, ([] : List Int)).1 = 1 by show (zarg a 0).toNat = 1; omega)] at goal
        exact va_newa (atype := .int) (a0 := (v.2.toNat, .inl (fun _ => 0))) hx hb (zTb_at hts zwx_acI rfl) rfl hK.1 hP hD hS hA (fun _ => rfl) hneg (zi_nat ⟨hr0, rv.2⟩) (by show v.2.toNat * 4 ≤ _; omega) (by omega) (by omega) hd goal
      · rw [zaty_2 (show ((zarg a 0).toNat, v.2.toNat, ([] : List Int)).1 = 2 by show (zarg a 0).toNat = 2; omega)] at goal
        exact va_newa (atype := .byte) (a0 := (v.2.toNat, .inl (fun _ => 0))) hx hb (zTb_at hts zwx_acB rfl) rfl hK.1 hP hD hS hA (fun _ => rfl) hneg (zi_nat ⟨hr0, rv.2⟩) (by show v.2.toNat * 1 ≤ _; omega) (by omega) (by omega) hd goal
      · rw [zaty_3 (show ((zarg a 0).toNat, v.2.toNat, ([] : List Int)).1 = 3 by show (zarg a 0).toNat = 3; omega)] at goal
        exact va_newa (atype := .boolean) (a0 := (v.2.toNat, .inl (fun _ => 0))) hx hb (zTb_at hts zwx_acZ rfl) rfl hK.1 hP hD hS hA (fun _ => rfl) hneg (zi_nat ⟨hr0, rv.2⟩) (by show v.2.toNat * 1 ≤ _; omega) (by omega) (by omega) hd goal
    · cases ho
  · cases ho
theorem zk_newq : zOK 51 zo_newq zh_newq := by
  intro p l e R s m args below meth c Q D adK adV A nL k pcs S0 ad0 cA0 own cc x n i a ls st S M r F hd hp hn hh hm ho hc hs hG
  unfold zo_newq at ho
  split at ho
  · rename_i v rr
    split at ho
    · rename_i hi
      obtain ⟨hv, hr0, hr1⟩ := hi
      cases ho
      intro ad cA H locs als hag hS0 hZ0 hl hL hst hlk hok hR hS
      unfold zh_newq at hh
      split at hh
      · rename_i kx
        simp only [Bool.and_eq_true, decide_eq_true_eq] at hh
        obtain ⟨⟨e1, hany⟩, h10⟩ := hh
        obtain ⟨hx, hb, hml, hown, hts, hroom, hA, hf1, hf2, hnest, hao, -⟩ := F
        rw [zlen_of hn rfl] at hd hp
        obtain ⟨hP, hD, hK, hV⟩ := id hR
        obtain ⟨ov, orr⟩ := List.forall_mem_cons.mp hok
        have rv := ov.1.1 (Or.inl hv)
        dsimp only at hc hs hG
        rw [List.length_append] at hc
        simp only [List.length_cons, List.length_nil] at hc
        rw [zsl_push] at hs
        have hz : zsz (5, v.2.toNat, [zarg a 1]) = v.2.toNat := rfl
        rw [hz] at hs
        have hlen : (S ++ [((5, v.2.toNat, [zarg a 1]) : zSh)]).length = S.length + 1 := by simp
        have hneg : ¬ Int32.ofInt v.2 < 0 := by
          rw [zi_0, zi_lt rv (by decide)]
          omega
        have hcl := zcl_ok (args := args) hts hany
        rw [h10] at hcl
        rw [List.map_cons, zcv_i hv]
        refine va_newq (C := "StackedScript$State") hx hb hown hcl hao hK.1 hP hD hS hA hneg (zi_nat ⟨hr0, rv.2⟩) (by omega) (by omega) (by omega) hd (fun q0 cN H1 hK1 hP1 hD1 hS1 => ?_)
        have hx1 : zel adK (zpush ad S.length q0) (zpush cA S.length cN) M S.length (5, v.2.toNat, [zarg a 1]) = .inl (cN, v.2.toNat, .inr (.inr (.inr (.inr (fun _ => none))))) := by
          rw [zel_5 rfl]
          rw [show zpush cA S.length cN S.length = cN from if_pos rfl]
          congr 7
          funext j
          rw [hV.2.2 _ (Nat.le_refl _), if_pos (by decide)]
        rw [zws_push hV hx1] at hP1 hD1
        have hV1 : zval (S ++ [(5, v.2.toNat, [zarg a 1])]) M := zval_push hV ⟨(by decide : (5 : Nat) ≤ 5), by show v.2.toNat ≤ 2000; omega⟩ (fun z => absurd z (by decide : (5 : Nat) ≠ 0)) (by decide : (5 : Nat) ≠ 4) (fun _ => h10)
        have hag2 : zag S.length ad cA (zpush ad S.length q0) (zpush cA S.length cN) := zpush_ag
        have kk := hG _ _ H1 locs als (zag.tr hag hag2 hS0) (by rw [hlen]; omega) (by rw [zsl_push]; omega) (by rw [zls_ag hag2 ls 0 hlk]; exact hl) hL hst (fun v hv => (hlk v hv).mono (by rw [hlen]; omega)) (List.forall_mem_cons.mpr ⟨zaref (by rw [hlen]; omega), fun v hv => ⟨(orr v hv).1.mono (by rw [hlen]; omega), (orr v hv).2⟩⟩) ⟨hP1, hD1, zKs_push hK (fun _ => by
          have := hK1.2 0 _ rfl
          rw [zaty_5 rfl]
          show ArrOfT s cN (.object (zC (zarg a 1).toNat)) ∧ _
          rw [h10]
          exact this), hV1⟩ hS1
        rw [hp, List.map_cons, zcv_1, zst_ag hag2 orr, zsl_push, hz, show ((S.length : Int)).toNat = S.length by omega, show zpush ad S.length q0 S.length = q0 from if_pos rfl, hlen] at kk
        exact W.cs (by omega) (by omega) kk
      · cases hh
    · cases ho
  · cases ho
theorem zvr_outer (c : ClassId) (N h0 : Nat) : ∀ i : Nat, Jvm.Free.Multi.outerC c N h0 i = arrV c N (fun j => va_rf (if j < i then some (h0 + 1 + j) else none))
  | 0 => by
    show ({ cls := c, slots := Array.replicate N .null, vm := .none } : Cell) = _
    rw [arrV_new]
    congr 1
  | i + 1 => by
    show (Jvm.Free.Multi.outerC c N h0 i).setSlot i (.ref (h0 + 1 + i)) = _
    rw [zvr_outer c N h0 i, arrV_store]
    congr 1
    funext j
    unfold updV
    by_cases e : j = i
    · rw [if_pos e, e, if_pos (by omega)]
      rfl
    · rw [if_neg e]
      show va_rf (if j < i then some (h0 + 1 + j) else none) = _
      by_cases h : j < i
      · rw [if_pos h, if_pos (by omega)]
      · rw [if_neg h, if_neg (by omega)]
theorem zsl_rep (N : Nat) (t : zSh) : zsl (List.replicate N t) = N * zsz t := by
  induction N with
  | zero => simp [zsl]
  | succ n ih =>
    rw [List.replicate_succ]
    show zsz t + zsl (List.replicate n t) = _
    rw [ih, Nat.succ_mul]
    omega
theorem zk_newm : zOK 52 zo_newm zh_newm := by
  intro p l e R s m args below meth c Q D adK adV A nL k pcs S0 ad0 cA0 own cc x n i a ls st S M r F hd hp hn hh hm ho hc hs hG
  unfold zo_newm at ho
  split at ho
  · rename_i w v rr
    split at ho
    · rename_i hi
      obtain ⟨⟨hw, hv⟩, ⟨hv0, hv1⟩, hw0, hw1⟩ := hi
      cases ho
      intro ad cA H locs als hag hS0 hZ0 hl hL hst hlk hok hR hS
      unfold zh_newm at hh
      split at hh
      · rename_i kx dx
        simp only [Bool.and_eq_true, decide_eq_true_eq] at hh
        obtain ⟨⟨e1, rfl⟩, hany⟩ := hh
        have h13 := zol_lt hany
        obtain ⟨hx, hb, hml, hown, hts, hroom, hA, hf1, hf2, hnest, hao, haoa, -⟩ := F
        rw [if_neg (by omega)] at hown
        rw [zlen_of hn rfl] at hd hp
        obtain ⟨hP, hD, hK, hV⟩ := id hR
        obtain ⟨ow, ov, orr⟩ := (List.forall_mem_cons.mp hok).imp_right List.forall_mem_cons.mp
        have rw' := ow.1.1 (Or.inl hw)
        have rv' := ov.1.1 (Or.inl hv)
        generalize hN : v.2.toNat = N at *
        generalize hKk : w.2.toNat = K at *
        have hNN : N ≤ 2000 := by omega
        have hKK : K ≤ 2000 := by omega
        dsimp only at hc hs hG
        have hlen : (S ++ ((4, N, [(S.length : Int) + 1]) : zSh) :: List.replicate N ((1, K, []) : zSh)).length = S.length + (1 + N) := by simp; omega
        have hsz : zsl (S ++ ((4, N, [(S.length : Int) + 1]) : zSh) :: List.replicate N ((1, K, []) : zSh)) = zsl S + (N + N * K) := by
          rw [zsl_app]
          congr 1
          show zsz (4, N, [(S.length : Int) + 1]) + zsl (List.replicate N (1, K, [])) = _
          rw [zsl_rep]
          rfl
        rw [hlen] at hc
        rw [hsz] at hs
        have hcl : (Cond.classLink (zC own) kx "[[I").before args s = true := by
          obtain ⟨q, hq, he⟩ := List.any_eq_true.mp hany
          simp only [Bool.and_eq_true, beq_iff_eq] at he
          obtain ⟨e1, e2, e3⟩ := he
          have hw := of_decide_eq_true (List.all_eq_true.mp zw_ol q hq)
          rw [e1, e2, e3, if_pos rfl] at hw
          exact zTb_at hts hw rfl
        have nlt : ∀ z : Int, 0 ≤ z → z ≤ 2147483647 → ¬ Int32.ofInt z < 0 := fun z h1 h2 => by
          rw [zi_0, zi_lt ⟨by omega, h2⟩ (by decide)]
          omega
        have en : (Int32.ofInt v.2).toNatClampNeg = N := by rw [zi_nat ⟨hv0, rv'.2⟩, hN]
        have ek : (Int32.ofInt w.2).toNatClampNeg = K := by rw [zi_nat ⟨hw0, rw'.2⟩, hKk]
        intro T hT Xs
        have step0 := Xs.multianewarray2F (ty := .int) hx hown hcl haoa (zTb_at hts zwx_acI rfl) (g := F0 m (zpc pcs i) als ((w :: v :: rr).map (zcv adK ad))) rfl (by rw [hb]; exact hd) (n := Int32.ofInt v.2) (k := Int32.ofInt w.2) (rest := rr.map (zcv adK ad)) (by show List.map _ _ = _; rw [List.map_cons, List.map_cons, zcv_i hw, zcv_i hv]) (nlt _ hv0 rv'.2) (nlt _ hw0 rw'.2) (by rw [en]; omega) (by rw [ek]; show K * 4 ≤ _; omega) (by rw [ek]; omega) rfl rfl (by rw [en]; omega) (by rw [en, ek]; omega)
        rw [en, ek] at step0
        obtain ⟨vm₁, c1, comp, hW1, fA, fC, hO, hI, X', step⟩ := step0
        generalize hF : Jvm.Free.Multi.fill (T.setVm vm₁) c1 comp N K (defaultValue .int) N = F1 at X' step
        have hTh : (T.setVm vm₁).heap = H := hT
        obtain ⟨f1, f2, -, -⟩ := Jvm.Free.Multi.fill_facts (T.setVm vm₁) c1 comp N K (defaultValue .int) N
        rw [hF, hTh] at f1 f2
        have hold : ∀ x : Nat, x < H.size → F1.heap[x]? = H[x]? := fun x hx => by
          have := Jvm.Free.Multi.fill_old (T.setVm vm₁) c1 comp N K (defaultValue .int) (a := x) (by rw [hTh]; exact hx) N
          rw [hF, hTh] at this
          exact this
        have hrow : ∀ j : Nat, j < N → F1.heap[H.size + 1 + j]? = some (vp_cell comp (K, .inl (fun _ => 0))) := fun j hj => by
          have := Jvm.Free.Multi.fill_inner (T.setVm vm₁) c1 comp N K (defaultValue .int) N j hj
          rw [hF, hTh] at this
          rw [this, vp_cell_i]
          congr 1
          exact arrV_new ..
        rw [zvr_outer] at f2
        have hag2 : zag S.length ad cA (fun j => if j < S.length then ad j else H.size + (j - S.length)) (fun j => if j < S.length then cA j else if j = S.length then c1 else comp) := fun j hj => ⟨if_pos hj, if_pos hj⟩
        generalize had : (fun j => if j < S.length then ad j else H.size + (j - S.length)) = ad2 at hag2
        generalize hcA : (fun j => if j < S.length then cA j else if j = S.length then c1 else comp) = cA2 at hag2
        have had2 : ∀ j, ad2 (S.length + j) = H.size + j := fun j => by
          rw [← had]
          show (if S.length + j < S.length then _ else _) = _
          rw [if_neg (by omega)]
          omega
        have hcA2 : cA2 S.length = c1 := by
          rw [← hcA]
          show (if S.length < S.length then _ else if S.length = S.length then c1 else comp) = _
          rw [if_neg (by omega), if_pos rfl]
        have hcA3 : ∀ j, cA2 (S.length + (j + 1)) = comp := fun j => by
          rw [← hcA]
          show (if S.length + (j + 1) < S.length then _ else if S.length + (j + 1) = S.length then c1 else comp) = _
          rw [if_neg (by omega), if_neg (by omega)]
        have hT0 : ∀ j, j < N → (((4, N, [(S.length : Int) + 1]) : zSh) :: List.replicate N ((1, K, []) : zSh)).getD (j + 1) (9, 0, []) = (1, K, []) := fun j hj => by
          rw [List.getD, List.getElem?_cons_succ, List.getElem?_replicate, if_pos hj]
          rfl
        have hcase : ∀ k q, (S ++ ((4, N, [(S.length : Int) + 1]) : zSh) :: List.replicate N ((1, K, []) : zSh))[k]? = some q → (k < S.length ∧ S[k]? = some q) ∨ (k = S.length ∧ q = (4, N, [(S.length : Int) + 1])) ∨ (∃ j, j < N ∧ k = S.length + (j + 1) ∧ q = (1, K, [])) := fun k q h => by
          by_cases hk : k < S.length
          · rw [List.getElem?_append_left hk] at h
            exact Or.inl ⟨hk, h⟩
          · rw [List.getElem?_append_right (by omega)] at h
            by_cases hk2 : k = S.length
            · rw [hk2, Nat.sub_self] at h
              cases h
              exact Or.inr (Or.inl ⟨hk2, rfl⟩)
            · obtain ⟨j, hj⟩ : ∃ j, k - S.length = j + 1 := ⟨k - S.length - 1, by omega⟩
              rw [hj, List.getElem?_cons_succ, List.getElem?_replicate] at h
              by_cases hjn : j < N
              · rw [if_pos hjn] at h
                cases h
                exact Or.inr (Or.inr ⟨j, hjn, by omega, rfl⟩)
              · rw [if_neg hjn] at h
                cases h
        have hlt : ∀ (k9 : Nat) (x : Nat × va_E), (zws adK ad cA S M)[k9]? = some x → x.1 < H.size := fun k9 x hx => (hP k9 x hx).lt
        have hTl : (((4, N, [(S.length : Int) + 1]) : zSh) :: List.replicate N ((1, K, []) : zSh)).length = N + 1 := by simp
        have hP1 : va_P D zcl (zws adK ad2 cA2 (S ++ ((4, N, [(S.length : Int) + 1]) : zSh) :: List.replicate N ((1, K, []) : zSh)) M) F1.heap := by
          rw [zws_ag hV hag2]
          refine (hP.kept (fun k9 x hx => hold x.1 (hlt k9 x hx))).app (fun k9 x hx => ?_)
          obtain ⟨j, hj, rfl⟩ := List.mem_map.mp (List.mem_of_getElem? hx)
          rw [hTl] at hj
          have hj := List.mem_range.mp hj
          cases j with
          | zero =>
            rw [had2 0]
            show va_at D zcl (H.size + 0, zel adK ad2 cA2 M S.length (4, N, [(S.length : Int) + 1])) _
            rw [zel_4 rfl]
            show F1.heap[H.size + 0]? = some (vp_cell _ _)
            rw [Nat.add_zero, f2, vp_cell_q, hcA2]
            congr 2
            funext j
            congr 1
            by_cases h : j < N
            · rw [if_pos h, if_pos h]
              congr 1
              have : (((S.length : Int) + 1) + (j : Int)).toNat = S.length + (j + 1) := by omega
              show _ = ad2 (((S.length : Int) + 1) + (j : Int)).toNat
              rw [this, had2]
              omega
            · rw [if_neg h, if_neg h]
          | succ j =>
            rw [had2, hT0 j (by omega), zel_a (Or.inl rfl), hcA3]
            show F1.heap[H.size + (j + 1)]? = some (vp_cell _ _)
            rw [show H.size + (j + 1) = H.size + 1 + j by omega, hrow j (by omega)]
            congr 4
            funext z
            show (0 : Int32) = Int32.ofInt (M _ _)
            rw [hV.2.2 _ (by omega)]
            rfl
        have hD1 : va_D A (zws adK ad2 cA2 (S ++ ((4, N, [(S.length : Int) + 1]) : zSh) :: List.replicate N ((1, K, []) : zSh)) M) := by
          rw [zws_ag hV hag2]
          have hr : ∀ (k9 : Nat) (x : Nat × va_E), ((List.range (((4, N, [(S.length : Int) + 1]) : zSh) :: List.replicate N ((1, K, []) : zSh)).length).map (fun j => (ad2 (S.length + j), zel adK ad2 cA2 M (S.length + j) ((((4, N, [(S.length : Int) + 1]) : zSh) :: List.replicate N ((1, K, []) : zSh)).getD j (9, 0, [])))))[k9]? = some x → x.1 = H.size + k9 := fun k9 x hx => by
            rw [List.getElem?_map] at hx
            by_cases h9 : k9 < (((4, N, [(S.length : Int) + 1]) : zSh) :: List.replicate N ((1, K, []) : zSh)).length
            · rw [List.getElem?_range h9] at hx
              cases hx
              exact had2 k9
            · rw [List.getElem?_eq_none (by rw [List.length_range]; omega)] at hx
              cases hx
          refine va_D.app hD ⟨fun i j x y hi hj hxy => ?_, fun k9 x hx => ?_⟩ (fun i j x y hi hj hxy => ?_)
          · have := hr _ _ hi
            have := hr _ _ hj
            omega
          · rw [hr _ _ hx]
            exact hA _ (by have := hS.1; omega)
          · have := hlt _ _ hi
            have := hr _ _ hj
            omega
        have hK1 : zKs D cA2 (S ++ ((4, N, [(S.length : Int) + 1]) : zSh) :: List.replicate N ((1, K, []) : zSh)) s := by
          refine ⟨hK.1, fun k q hq h0 => ?_⟩
          rcases hcase k q hq with ⟨hk, h⟩ | ⟨rfl, rfl⟩ | ⟨j, hj, rfl, rfl⟩
          · rw [(hag2 k hk).2]
            exact hK.2 k q h h0
          · rw [hcA2, zaty_4 rfl]
            refine ⟨fun N9 z9 => ?_, fA⟩
            obtain ⟨-, k9, hk9, cm9, hkk9⟩ := (hO 0 0 0).1
            exact ⟨(fun q hq => by cases hq), k9, hk9, cm9, hkk9⟩
          · rw [hcA3, zaty_1 rfl]
            refine ⟨fun N9 z9 => ?_, fC⟩
            obtain ⟨-, k9, hk9, cm9, hkk9⟩ := (hI 0 (defaultValue .int)).1
            exact ⟨(fun q hq => by cases hq), k9, hk9, cm9, hkk9⟩
        have hV1 : zval (S ++ ((4, N, [(S.length : Int) + 1]) : zSh) :: List.replicate N ((1, K, []) : zSh)) M := by
          refine ⟨fun k q hq => ?_, fun k q hq hn z => ?_, fun k hk z => hV.2.2 k (by omega) z⟩
          · rw [hlen]
            rcases hcase k q hq with ⟨-, h⟩ | ⟨rfl, rfl⟩ | ⟨j, hj, rfl, rfl⟩
            · obtain ⟨a1, a2, a3, a4⟩ := hV.1 k q h
              exact ⟨a1, fun z => ⟨(a2 z).1, (a2 z).2.1, fun j => by have := (a2 z).2.2 j; omega⟩, fun z => ⟨(a3 z).1, by have := (a3 z).2; omega⟩, fun z => ⟨(a4 z).1, fun j => by have := (a4 z).2 j; omega⟩⟩
            · exact ⟨⟨(by decide : (4 : Nat) ≤ 5), hNN⟩, fun z => absurd z (by decide : (4 : Nat) ≠ 0), fun _ => ⟨by show (0 : Int) ≤ (S.length : Int) + 1; omega, by show (S.length : Int) + 1 + (N : Int) ≤ _; omega⟩, fun z => absurd z (by decide : (4 : Nat) ≠ 5)⟩
            · exact ⟨⟨(by decide : (1 : Nat) ≤ 5), hKK⟩, fun z => absurd z (by decide : (1 : Nat) ≠ 0), fun z => absurd z (by decide : (1 : Nat) ≠ 4), fun z => absurd z (by decide : (1 : Nat) ≠ 5)⟩
          · rcases hcase k q hq with ⟨-, h⟩ | ⟨rfl, rfl⟩ | ⟨j, hj, rfl, rfl⟩
            · exact hV.2.1 k q h hn z
            · rw [hV.2.2 _ (Nat.le_refl _)]
              decide
            · rw [hV.2.2 _ (by omega)]
              decide
        have hS1 : va_S A s.heap F1.heap locs := ⟨by rw [f1]; have := hS.1; omega, fun x h1 h2 => (hold x (Nat.lt_of_lt_of_le h1 hS.1)).trans (hS.2.1 x h1 h2), hS.2.2⟩
        have kk := hG _ _ F1.heap locs als (zag.tr hag hag2 hS0) (by rw [hlen]; omega) (by rw [hsz]; omega) (by rw [zls_ag hag2 ls 0 hlk]; exact hl) hL hst (fun v hv => (hlk v hv).mono (by rw [hlen]; omega)) (List.forall_mem_cons.mpr ⟨zaref (by rw [hlen]; omega), fun v hv => ⟨(orr v hv).1.mono (by rw [hlen]; omega), (orr v hv).2⟩⟩) ⟨hP1, hD1, hK1, hV1⟩ hS1
        rw [hp, List.map_cons, zcv_1, zst_ag hag2 orr, hsz, show ((S.length : Int)).toNat = S.length by omega, show ad2 S.length = H.size from had2 0, hlen] at kk
        have kk2 : W p l e R s m args below meth c F1.heap locs (S.length - S0.length + 1 + N) (zsl S - zsl S0 + N + N * K) Q (F0 m (zpc pcs i + 4) als (.ref H.size :: rr.map (zcv adK ad))) := W.cs (by omega) (by omega) kk
        obtain ⟨t, a1, b1⟩ := kk2 F1 rfl X'
        refine ⟨t, step t ?_, b1⟩
        have e : T.heap.size = H.size := by rw [hT]
        rw [e]
        exact a1
      · cases hh
    · cases ho
  · cases ho
