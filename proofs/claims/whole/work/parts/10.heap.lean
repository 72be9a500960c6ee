/-! Heap, switches -/
theorem zgetD_out {α : Type} {l : List α} {k : Nat} {d : α} (h : l.length ≤ k) : l.getD k d = d := by simp [List.getD, List.getElem?_eq_none h]
theorem zgetD_in {α : Type} {l : List α} {k : Nat} {d e : α} (h : k < l.length) : l.getD k d = l.getD k e := by simp [List.getD, List.getElem?_eq_getElem h]
theorem zk_table : zOK 37 zo_table zh_table := by
  intro p l e R s m args below meth c Q D adK adV A nL k pcs S0 ad0 cA0 own cc x n i a ls st S M r F hd hp hn hh hm ho hc hs hG
  unfold zo_table at ho
  split at ho
  · rename_i v rr
    split at ho
    · rename_i hi
      cases ho
      intro ad cA H locs als hag hS0 hZ0 hl hL hst hlk hok hR hS
      unfold zh_table at hh
      split at hh
      · rename_i d lo hi2 offs
        simp only [Bool.and_eq_true, decide_eq_true_eq] at hh
        obtain ⟨⟨⟨e1, e2, e3⟩, hj⟩, hall⟩ := hh
        have hj := zi_jm hj
        obtain ⟨hx, hb, -⟩ := F
        obtain ⟨ov, orr⟩ := List.forall_mem_cons.mp hok
        have rv := ov.1.1 (Or.inl hi)
        have kk := hG ad cA H locs als hag hS0 hZ0 hl hL hst hlk orr hR hS
        dsimp only at kk
        rw [List.map_cons, zcv_i hi]
        by_cases hout : v.2 < lo ∨ hi2 < v.2
        · have e : ztgt a v.2 = zarg a 1 := by
            unfold ztgt
            split
            · rw [zgetD_out (by omega)]
            · rfl
          rw [e] at kk
          exact lv_tableOut hx hb hd (by rw [zi32 rv]; exact hout) hj kk
        · have hk : (v.2 - lo).toNat < offs.size := by omega
          have e : ztgt a v.2 = (a.drop 2).getD (v.2 - lo).toNat 0 := by
            unfold ztgt
            rw [if_pos (by omega), ← e1]
            exact zgetD_in (by omega)
          rw [e] at kk
          have h2 := zi_jm (List.all_eq_true.mp hall _ (List.mem_range.mpr hk))
          refine lv_tableIn (off := offs.getD (v.2 - lo).toNat 0) hx hb hd (by rw [zi32 rv]; omega) (by rw [zi32 rv]; omega) ?_ h2 kk
          rw [zi32 rv, Array.getD_eq_getD_getElem?, Array.getElem?_eq_getElem hk]
          rfl
      · cases hh
    · cases ho
  · cases ho
theorem zlk_ok {pcs : List Nat} {i : Nat} {d dt v : Int} (hd : (zpc pcs i : Int) + d = (zpc pcs dt.toNat : Int)) : ∀ (ps : List (Int × Int)) (a : List Int), zlk pcs i ps a = true → (zpc pcs i : Int) + Op.lookupswitch.offset ps d v = (zpc pcs (zlook a dt v).toNat : Int)
  | [], [], _ => hd
  | z :: r, k :: t :: a, h => by
    unfold zlk at h
    simp only [Bool.and_eq_true, decide_eq_true_eq] at h
    obtain ⟨e, hj, h2⟩ := h
    obtain ⟨z1, z2⟩ := z
    rw [Op.lookupswitch.offset_cons]
    unfold zlook
    dsimp only at e hj
    by_cases q : v = k
    · rw [if_pos (by omega), if_pos q]
      exact zi_jm hj
    · rw [if_neg (by omega), if_neg q]
      exact zlk_ok hd r a h2
  | [], _ :: _, h => by simp [zlk] at h
  | _ :: _, [], h => by simp [zlk] at h
  | _ :: _, [_], h => by simp [zlk] at h
theorem zk_lookup : zOK 38 zo_lookup zh_lookup := by
  intro p l e R s m args below meth c Q D adK adV A nL k pcs S0 ad0 cA0 own cc x n i a ls st S M r F hd hp hn hh hm ho hc hs hG
  unfold zo_lookup at ho
  split at ho
  · rename_i v rr
    split at ho
    · rename_i hi
      cases ho
      intro ad cA H locs als hag hS0 hZ0 hl hL hst hlk hok hR hS
      unfold zh_lookup at hh
      split at hh
      · rename_i d ps
        simp only [Bool.and_eq_true] at hh
        obtain ⟨⟨h1, hj⟩, hall⟩ := hh
        have hj := zi_jm hj
        obtain ⟨hx, hb, -⟩ := F
        obtain ⟨ov, orr⟩ := List.forall_mem_cons.mp hok
        have rv := ov.1.1 (Or.inl hi)
        have kk := hG ad cA H locs als hag hS0 hZ0 hl hL hst hlk orr hR hS
        dsimp only at kk
        rw [List.map_cons, zcv_i hi]
        exact lv_lookup hx hb hd hall rfl (by rw [zi32 rv]; exact zlk_ok hj _ _ h1) kk
      · cases hh
    · cases ho
  · cases ho
/-- the class's own words -/
theorem zin_ws {c : Nat} (hc : c < 13) : ∀ w ∈ u_ws (zC c) (zT c) (zN c), w ∈ zTb := by
  intro w hw
  obtain ⟨k, hk, rfl⟩ := List.mem_map.mp hw
  have h := List.all_eq_true.mp zw_cls c (List.mem_range.mpr hc)
  simp only [Bool.and_eq_true] at h
  have h2 := of_decide_eq_true (List.all_eq_true.mp h.2 k hk)
  refine zTb_of h2 ?_
  unfold u_lay
  split <;> rfl
theorem zty_ok {c k : Nat} (hc : c < 13) (hk : k < zN c) : parseFieldDescriptor (zT c k).2.2.1 = some (zTy c k) ∧ zkd c k = (match zTy c k with | .int => 0 | .boolean => 2 | _ => 1) ∧ ((zT c k).2.2.2 = true → zkd c k = 1) ∧ (zT c k).1 = zC c := by
  have h := List.all_eq_true.mp (List.all_eq_true.mp zw_ty c (List.mem_range.mpr hc)) k (List.mem_range.mpr hk)
  simp only [Bool.and_eq_true, decide_eq_true_eq] at h
  exact ⟨h.1.1.1, h.1.1.2, h.1.2, h.2⟩
theorem znm_ok {c : Nat} (hc : c < 13) : ∀ a, a < zN c → ∀ b, b < zN c → a ≠ b → (zT c a).2.1 ≠ (zT c b).2.1 := by
  intro a ha b hb hab
  have h := List.all_eq_true.mp (List.all_eq_true.mp (List.all_eq_true.mp zw_nm c (List.mem_range.mpr hc)) a (List.mem_range.mpr ha)) b (List.mem_range.mpr hb)
  simp only [Bool.or_eq_true, decide_eq_true_eq] at h
  exact h.resolve_left hab
/-- a field's link -/
theorem zfl_ok {own k c sl : Nat} {s : State} {args : Array Value} (hts : ∀ w ∈ zTb, w.before args s = true) (h : zFl.any (fun e => e.1 == own && (e.2.1 == k && (e.2.2.1 == c && e.2.2.2.1 == sl))) = true) : (Cond.fieldLink (if own = 13 then R_law else zC own) k (zC c) (zT c sl).2.1 (zT c sl).2.2.1).before args s = true := by
  obtain ⟨q, hq, he⟩ := List.any_eq_true.mp h
  simp only [Bool.and_eq_true, beq_iff_eq] at he
  obtain ⟨e1, e2, e3, e4⟩ := he
  have hw := of_decide_eq_true (List.all_eq_true.mp zw_fl q hq)
  rw [e1, e2, e3, e4] at hw
  exact zTb_at hts hw rfl
theorem zel_0 {adK ad : Nat → Nat} {cA : Nat → ClassId} {M : zM} {k : Nat} {q : zSh} (h : q.1 = 0) : zel adK ad cA M k q = .inr (q.2.1, (List.range (zN q.2.1)).map (fun j => if zkd q.2.1 j = 1 then zcv adK ad (zrf (q.2.2.getD j (-1))) else .int (Int32.ofInt (M k j)))) := if_pos h
theorem zel_4 {adK ad : Nat → Nat} {cA : Nat → ClassId} {M : zM} {k : Nat} {q : zSh} (h : q.1 = 4) : zel adK ad cA M k q = .inl (cA k, q.2.1, .inr (.inr (.inr (.inr (fun j => if j < q.2.1 then some (ad (q.2.2.getD 0 0 + j).toNat) else none))))) := by
  unfold zel
  rw [if_neg (by omega), if_pos h]
theorem zel_5 {adK ad : Nat → Nat} {cA : Nat → ClassId} {M : zM} {k : Nat} {q : zSh} (h : q.1 = 5) : zel adK ad cA M k q = .inl (cA k, q.2.1, .inr (.inr (.inr (.inr (fun j => if M k j ≤ 0 then none else some (ad (M k j - 1).toNat)))))) := by
  unfold zel
  rw [if_neg (by omega), if_neg (by omega), if_pos h]
theorem zel_a {adK ad : Nat → Nat} {cA : Nat → ClassId} {M : zM} {k : Nat} {q : zSh} (h : q.1 = 1 ∨ q.1 = 2 ∨ q.1 = 3) : zel adK ad cA M k q = .inl (cA k, q.2.1, .inl (fun j => Int32.ofInt (M k j))) := by
  unfold zel
  rw [if_neg (by omega), if_neg (by omega), if_neg (by omega)]
theorem zaty_1 {q : zSh} (h : q.1 = 1) : zaty q = .int := if_pos h
theorem zaty_2 {q : zSh} (h : q.1 = 2) : zaty q = .byte := by unfold zaty; rw [if_neg (by omega), if_pos h]
theorem zaty_3 {q : zSh} (h : q.1 = 3) : zaty q = .boolean := by unfold zaty; rw [if_neg (by omega), if_neg (by omega), if_pos h]
theorem zaty_4 {q : zSh} (h : q.1 = 4) : zaty q = .array .int := by unfold zaty; rw [if_neg (by omega), if_neg (by omega), if_neg (by omega), if_pos h]
theorem zaty_5 {q : zSh} (h : q.1 = 5) : zaty q = .object (zC (q.2.2.getD 0 0).toNat) := by unfold zaty; rw [if_neg (by omega), if_neg (by omega), if_neg (by omega), if_neg (by omega)]
theorem zrf_ok {n : Nat} {r : Int} (h : r < n) : zok n (zrf r) ∧ (zrf r).1 ≠ 3 := by
  unfold zrf
  split
  · exact ⟨⟨fun z => by rcases z with z | z <;> exact absurd z (by decide), fun z => absurd z (by decide)⟩, (by decide : (5 : Nat) ≠ 3)⟩
  · exact ⟨⟨fun z => by rcases z with z | z; exact absurd z (by decide : (1 : Nat) ≠ 0); exact absurd z (by decide : (1 : Nat) ≠ 2), fun _ => ⟨by show 0 ≤ r; omega, h⟩⟩, (by decide : (1 : Nat) ≠ 3)⟩
theorem zcv_rf {adK ad : Nat → Nat} {r : Int} : zcv adK ad (zrf r) = va_rf (if r < 0 then none else some (ad r.toNat)) := by
  unfold zrf
  split <;> rfl
theorem zk_getf : zOK 40 zo_getf zh_getf := by
  intro p l e R s m args below meth c Q D adK adV A nL k pcs S0 ad0 cA0 own cc x n i a ls st S M r F hd hp hn hh hm ho hc hs hG
  unfold zo_getf at ho
  split at ho
  · rename_i v rr
    split at ho
    · rename_i q hq
      split at ho
      · rename_i hi
        obtain ⟨ht, h0, hcl⟩ := hi
        obtain ⟨hnn, hq⟩ := zsh_of hq
        unfold zh_getf at hh
        split at hh
        · rename_i kx
          simp only [Bool.and_eq_true, decide_eq_true_eq] at hh
          obtain ⟨⟨e1, hany⟩, g0, g1, g2, g3, g4⟩ := hh
          have hcn : (zarg a 1).toNat = q.2.1 := by omega
          rw [hcn] at hany g3 g4
          obtain ⟨hx, hb, hml, hown, hts, -⟩ := F
          rw [zlen_of hn rfl] at hd hp
          have hcl13 : q.2.1 < 13 := by omega
          obtain ⟨f1, f2, f3, f4⟩ := zty_ok hcl13 g3
          have hG' : zG p l e R s m args below meth c Q D adK A nL k pcs S0 ad0 cA0 (i + 1) ls ((if zkd q.2.1 (zarg a 2).toNat = 1 then zrf (q.2.2.getD (zarg a 2).toNat (-1)) else (0, M v.2 (zarg a 2))) :: rr) S M := by
            by_cases hk : zarg a 3 = 1
            · rw [if_pos hk] at ho
              cases ho
              rw [if_pos (by omega)]
              exact hG
            · rw [if_neg hk] at ho
              cases ho
              rw [if_neg (by omega)]
              exact hG
          intro ad cA H locs als hag hS0 hZ0 hl hL hst hlk hok hR hS
          obtain ⟨hP, hD, hK, hV⟩ := id hR
          obtain ⟨ov, orr⟩ := List.forall_mem_cons.mp hok
          have hva := hV.1 _ _ hq
          have kk := hG' ad cA H locs als hag hS0 hZ0 hl hL hst hlk (List.forall_mem_cons.mpr ⟨by
            by_cases hk : zkd q.2.1 (zarg a 2).toNat = 1
            · rw [if_pos hk]
              exact zrf_ok ((hva.2.1 h0).2.2 _)
            · rw [if_neg hk]
              refine zint ?_
              have := hV.2.1 _ _ hq (by omega) (zarg a 2)
              rw [show ((v.2.toNat : Nat) : Int) = v.2 by omega] at this
              exact this, orr⟩) hR hS
          rw [hp, List.map_cons] at kk
          rw [List.map_cons, zcv_r ht]
          refine va_get (T := zT q.2.1) (N := zN q.2.1) (ci := q.2.1) (ref := zC q.2.1) (C := zC q.2.1) hx hb hts (zin_ws hcl13) hown hK.1 hP v.2.toNat ((zws_at hq).trans (by rw [zel_0 h0])) (zcl_at hcl13) (zarg a 2).toNat g3 (zfl_ok hts hany) (fun x hx => by rw [f4] at hx; exact hx) ?_ hd kk
          rw [List.getElem?_map, List.getElem?_range g3]
          show some _ = some _
          congr 1
          dsimp only
          by_cases hk : zkd q.2.1 (zarg a 2).toNat = 1
          · rw [if_pos hk, if_pos hk]
          · rw [if_neg hk, if_neg hk, zcv_0, show ((v.2.toNat : Nat) : Int) = v.2 by omega, show (((zarg a 2).toNat : Nat) : Int) = zarg a 2 by omega]
        · cases hh
      · cases ho
    · cases ho
  · cases ho
theorem zup_val {S : List zSh} {M : zM} {k : Nat} {q : zSh} {i v : Int} (h : zval S M) (hq : S[k]? = some q) (h5 : q.1 ≠ 5 → -2147483648 ≤ v ∧ v ≤ 2147483647) (h5' : q.1 = 5 → v ≤ S.length) : zval S (zup M k i v) := by
  have hk : k < S.length := (List.getElem?_eq_some_iff.mp hq).1
  refine ⟨fun j q' hj => ?_, fun j q' hj hn z => ?_, fun j hj z => ?_⟩
  · obtain ⟨a1, a2, a3, a4⟩ := h.1 j q' hj
    refine ⟨a1, a2, a3, fun e => ⟨(a4 e).1, fun z => ?_⟩⟩
    by_cases hz : (j : Int) = k ∧ z = i
    · have e1 : j = k := by omega
      subst e1
      rw [hq] at hj
      cases hj
      unfold zup
      rw [if_pos hz]
      exact h5' e
    · unfold zup
      rw [if_neg hz]
      exact (a4 e).2 z
  · by_cases hz : (j : Int) = k ∧ z = i
    · have e1 : j = k := by omega
      subst e1
      rw [hq] at hj
      cases hj
      unfold zup
      rw [if_pos hz]
      exact h5 hn
    · unfold zup
      rw [if_neg hz]
      exact h.2.1 j q' hj hn z
  · unfold zup
    rw [if_neg (by omega)]
    exact h.2.2 j hj z
theorem zset_map {α : Type} {f g : Nat → α} {n k : Nat} {v : α} (hv : g k = v) (ho : ∀ j, j ≠ k → g j = f j) : ((List.range n).map f).set k v = (List.range n).map g := by
  apply List.ext_getElem?
  intro j
  by_cases hj : j = k
  · subst hj
    by_cases hn : j < n
    · rw [List.getElem?_set_self (by simpa using hn), List.getElem?_map, List.getElem?_range hn, ← hv]
      rfl
    · rw [List.getElem?_eq_none (by simp; omega), List.getElem?_eq_none (by simp; omega)]
  · rw [List.getElem?_set_ne (Ne.symm hj), List.getElem?_map, List.getElem?_map]
    by_cases hn : j < n
    · rw [List.getElem?_range hn]
      show some _ = some _
      rw [ho j hj]
    · rw [List.getElem?_eq_none (by simpa using hn)]
      rfl
theorem zw_fin : (List.range 13).all (fun c => (List.range (zN c)).all (fun k => decide (zkd c k = 1 → (zT c k).2.2.2 = true))) = true := by decide +kernel
theorem zfin_ok {c k : Nat} (hc : c < 13) (hk : k < zN c) (h : zkd c k = 1) : (zT c k).2.2.2 = true := of_decide_eq_true (List.all_eq_true.mp (List.all_eq_true.mp zw_fin c (List.mem_range.mpr hc)) k (List.mem_range.mpr hk)) h
theorem zw_fit : (List.range 13).all (fun c => (List.range (zN c)).all (fun k => decide (zkd c k = 1 → (match zTy c k with | .object _ => true | .array _ => true | _ => false) = true))) = true := by decide +kernel
theorem zfit_ok {c k : Nat} (hc : c < 13) (hk : k < zN c) (h : zkd c k = 1) (u : Nat) : narrow (zTy c k) (.ref u) = .ref u ∧ fits (zTy c k) (.ref u) = true := by
  have h2 := of_decide_eq_true (List.all_eq_true.mp (List.all_eq_true.mp zw_fit c (List.mem_range.mpr hc)) k (List.mem_range.mpr hk)) h
  cases hz : zTy c k with
  | object n => exact ⟨rfl, rfl⟩
  | array t => exact ⟨rfl, rfl⟩
  | _ => rw [hz] at h2; cases h2
theorem zk_putf : zOK 41 zo_putf zh_putf := by
  intro p l e R s m args below meth c Q D adK adV A nL k pcs S0 ad0 cA0 own cc x n i a ls st S M r F hd hp hn hh hm ho hc hs hG
  unfold zo_putf at ho
  split at ho
  · rename_i w v rr
    split at ho
    · rename_i q hq
      split at ho
      · rename_i hi
        obtain ⟨ht, h0, hcl⟩ := hi
        obtain ⟨hnn, hq⟩ := zsh_of hq
        unfold zh_putf at hh
        split at hh
        · rename_i kx
          simp only [Bool.and_eq_true, decide_eq_true_eq] at hh
          obtain ⟨⟨e1, hany⟩, g0, g1, g2, g3, g4⟩ := hh
          have hcn : (zarg a 1).toNat = q.2.1 := by omega
          rw [hcn] at hany g3 g4
          obtain ⟨hx, hb, hml, hown, hts, hroom, hA, hfin, -⟩ := F
          rw [zlen_of hn rfl] at hd hp
          have hcl13 : q.2.1 < 13 := by omega
          obtain ⟨f1, f2, f3, f4⟩ := zty_ok hcl13 g3
          by_cases hk : zarg a 3 = 1
          · rw [if_pos hk] at ho
            split at ho
            · rename_i hw
              obtain ⟨hw, hwl⟩ := hw
              cases ho
              have hf := hfin _ hm rfl hk
              dsimp only at hf
              have howner : own = q.2.1 := by omega
              rw [if_neg (by omega), howner] at hown
              have hkd : zkd q.2.1 (zarg a 2).toNat = 1 := by omega
              intro ad cA H locs als hag hS0 hZ0 hl hL hst hlk hok hR hS
              obtain ⟨hP, hD, hK, hV⟩ := id hR
              obtain ⟨ow, ov, orr⟩ := (List.forall_mem_cons.mp hok).imp_right List.forall_mem_cons.mp
              have hw1 := ow.1.2 hw
              have hlt : v.2.toNat < S.length := (List.getElem?_eq_some_iff.mp hq).1
              have hZ : zsetR S v.2 (zarg a 2).toNat w.2 = S.set v.2.toNat (q.1, q.2.1, q.2.2.set (zarg a 2).toNat w.2) := by
                unfold zsetR
                rw [hq]
              have hq1 : (S.set v.2.toNat (q.1, q.2.1, q.2.2.set (zarg a 2).toNat w.2))[v.2.toNat]? = some (q.1, q.2.1, q.2.2.set (zarg a 2).toNat w.2) := List.getElem?_set_self hlt
              have hoth : ∀ j q', (S.set v.2.toNat (q.1, q.2.1, q.2.2.set (zarg a 2).toNat w.2))[j]? = some q' → (j = v.2.toNat ∧ q' = (q.1, q.2.1, q.2.2.set (zarg a 2).toNat w.2)) ∨ (j ≠ v.2.toNat ∧ S[j]? = some q') := fun j q' h => by
                by_cases hj : j = v.2.toNat
                · subst hj
                  rw [hq1] at h
                  cases h
                  exact Or.inl ⟨rfl, rfl⟩
                · rw [List.getElem?_set_ne (Ne.symm hj)] at h
                  exact Or.inr ⟨hj, h⟩
              have hlen : (S.set v.2.toNat (q.1, q.2.1, q.2.2.set (zarg a 2).toNat w.2)).length = S.length := List.length_set
              have hsz : zsl (S.set v.2.toNat (q.1, q.2.1, q.2.2.set (zarg a 2).toNat w.2)) = zsl S := by
                unfold zsl
                congr 1
                apply List.ext_getElem?
                intro j
                rw [List.getElem?_map, List.getElem?_map]
                by_cases hj : j = v.2.toNat
                · subst hj
                  rw [hq1, hq]
                  rfl
                · rw [List.getElem?_set_ne (Ne.symm hj)]
              have hset : ((List.range (zN q.2.1)).map (fun j => if zkd q.2.1 j = 1 then zcv adK ad (zrf (q.2.2.getD j (-1))) else .int (Int32.ofInt (M v.2.toNat j)))).set (zarg a 2).toNat (.ref (ad w.2.toNat)) = (List.range (zN q.2.1)).map (fun j => if zkd q.2.1 j = 1 then zcv adK ad (zrf ((q.2.2.set (zarg a 2).toNat w.2).getD j (-1))) else .int (Int32.ofInt (M v.2.toNat j))) := by
                apply zset_map
                · rw [if_pos hkd]
                  have e : (q.2.2.set (zarg a 2).toNat w.2).getD (zarg a 2).toNat (-1) = w.2 := by simp [List.getD, List.getElem?_set_self hwl]
                  rw [e, zcv_rf, if_neg (by omega)]
                  rfl
                · intro j hj
                  have e : (q.2.2.set (zarg a 2).toNat w.2).getD j (-1) = q.2.2.getD j (-1) := by simp [List.getD, List.getElem?_set_ne (Ne.symm hj)]
                  rw [e]
              have hws : (zws adK ad cA S M).set v.2.toNat (ad v.2.toNat, .inr (q.2.1, (List.range (zN q.2.1)).map (fun j => if zkd q.2.1 j = 1 then zcv adK ad (zrf ((q.2.2.set (zarg a 2).toNat w.2).getD j (-1))) else .int (Int32.ofInt (M v.2.toNat j))))) = zws adK ad cA (S.set v.2.toNat (q.1, q.2.1, q.2.2.set (zarg a 2).toNat w.2)) M := by
                apply List.ext_getElem?
                intro j
                by_cases hj : j = v.2.toNat
                · subst hj
                  rw [List.getElem?_set_self (by rw [zws_len]; exact hlt), zws_at hq1, zel_0 (show (q.1, q.2.1, q.2.2.set (zarg a 2).toNat w.2).1 = 0 from h0)]
                · rw [List.getElem?_set_ne (Ne.symm hj)]
                  cases hqj : S[j]? with
                  | none =>
                    have hl : S.length ≤ j := by simpa using hqj
                    rw [List.getElem?_eq_none (by rw [zws_len]; exact hl), List.getElem?_eq_none (by rw [zws_len, hlen]; exact hl)]
                  | some q' => rw [zws_at hqj, zws_at (by rw [List.getElem?_set_ne (Ne.symm hj)]; exact hqj)]
              have hnm : (zT q.2.1 (zarg a 2).toNat).2.2.2 = true := zfin_ok hcl13 g3 hkd
              have hty : ∀ u : Nat, narrow (zTy q.2.1 (zarg a 2).toNat) (.ref u) = .ref u ∧ fits (zTy q.2.1 (zarg a 2).toNat) (.ref u) = true := zfit_ok hcl13 g3 hkd
              rw [List.map_cons, List.map_cons, zcv_r ht, zcv_r hw]
              refine va_putF (T := zT q.2.1) (N := zN q.2.1) (ci := q.2.1) (ref := zC q.2.1) (C := zC q.2.1) (ty := zTy q.2.1 (zarg a 2).toNat) hx hb hts (zin_ws hcl13) (zTy q.2.1) (fun k hk => (zty_ok hcl13 hk).1) (znm_ok hcl13) hown hK.1 hP hD hS v.2.toNat ((zws_at hq).trans (by rw [zel_0 h0])) (zcl_at hcl13) (zarg a 2).toNat g3 (by have := zfl_ok (args := args) hts hany; rw [if_neg (by omega), howner] at this; exact this) (fun x hx => by rw [f4] at hx; exact hx) hnm hf.1 f4 f1 (hty _).1 (hty _).2 (by rw [List.length_map, List.length_range]; exact g3) hd (fun H1 locs1 hP1 hD1 hS1 => ?_)
              rw [hset, hws] at hP1 hD1
              dsimp only at hG
              rw [hZ] at hG
              have kk := hG ad cA H1 locs1 als hag (by rw [hlen]; exact hS0) (by rw [hsz]; exact hZ0) hl hL hst (by rw [hlen]; exact hlk) (by rw [hlen]; exact orr) ⟨hP1, hD1, ⟨hK.1, fun j q' hj hn => by
                rcases hoth j q' hj with ⟨-, rfl⟩ | ⟨-, h⟩
                · exact absurd h0 hn
                · exact hK.2 j q' h hn⟩, by
                refine ⟨fun j q' hj => ?_, fun j q' hj hn z => ?_, fun j hj z => hV.2.2 j (by rw [hlen] at hj; exact hj) z⟩
                · rw [hlen]
                  rcases hoth j q' hj with ⟨-, rfl⟩ | ⟨-, h⟩
                  · obtain ⟨a1, a2, a3, a4⟩ := hV.1 _ q hq
                    refine ⟨a1, fun z => ⟨(a2 h0).1, by rw [List.length_set]; exact (a2 h0).2.1, fun j => ?_⟩, fun z => absurd (h0.symm.trans z) (by decide), fun z => absurd (h0.symm.trans z) (by decide)⟩
                    show (q.2.2.set (zarg a 2).toNat w.2).getD j (-1) < _
                    by_cases hj2 : j = (zarg a 2).toNat
                    · subst hj2
                      have e : (q.2.2.set (zarg a 2).toNat w.2).getD (zarg a 2).toNat (-1) = w.2 := by simp [List.getD, List.getElem?_set_self hwl]
                      rw [e]
                      exact hw1.2
                    · have e : (q.2.2.set (zarg a 2).toNat w.2).getD j (-1) = q.2.2.getD j (-1) := by simp [List.getD, List.getElem?_set_ne (Ne.symm hj2)]
                      rw [e]
                      exact (a2 h0).2.2 j
                  · exact hV.1 j q' h
                · rcases hoth j q' hj with ⟨rfl, rfl⟩ | ⟨-, h⟩
                  · exact hV.2.1 _ q hq hn z
                  · exact hV.2.1 j q' h hn z⟩ hS1
              rw [hp, hlen, hsz] at kk
              exact kk
            · cases ho
          · rw [if_neg hk] at ho
            split at ho
            · rename_i hw
              obtain ⟨hw, hbool⟩ := hw
              cases ho
              intro ad cA H locs als hag hS0 hZ0 hl hL hst hlk hok hR hS
              obtain ⟨hP, hD, hK, hV⟩ := id hR
              obtain ⟨ow, ov, orr⟩ := (List.forall_mem_cons.mp hok).imp_right List.forall_mem_cons.mp
              have rw' := ow.1.1 (Or.inl hw)
              have hkd : zkd q.2.1 (zarg a 2).toNat ≠ 1 := by omega
              have hnf : (zT q.2.1 (zarg a 2).toNat).2.2.2 = false := by
                cases hz : (zT q.2.1 (zarg a 2).toNat).2.2.2 with
                | false => rfl
                | true => exact absurd (f3 hz) hkd
              have hv2 : ((v.2.toNat : Nat) : Int) = v.2 := by omega
              have ha2 : (((zarg a 2).toNat : Nat) : Int) = zarg a 2 := by omega
              have hset : ((List.range (zN q.2.1)).map (fun j => if zkd q.2.1 j = 1 then zcv adK ad (zrf (q.2.2.getD j (-1))) else .int (Int32.ofInt (M v.2.toNat j)))).set (zarg a 2).toNat (.int (Int32.ofInt w.2)) = (List.range (zN q.2.1)).map (fun j => if zkd q.2.1 j = 1 then zcv adK ad (zrf (q.2.2.getD j (-1))) else .int (Int32.ofInt (zup M v.2.toNat (zarg a 2) w.2 v.2.toNat j))) := by
                apply zset_map
                · rw [if_neg hkd, ha2, zup_eq]
                · intro j hj
                  rw [zup_ni (by omega)]
              have hty : zTy q.2.1 (zarg a 2).toNat = .int ∨ zTy q.2.1 (zarg a 2).toNat = .boolean ∧ zarg a 3 = 2 := by
                cases hz : zTy q.2.1 (zarg a 2).toNat with
                | int => exact Or.inl rfl
                | boolean => rw [hz] at f2; dsimp only at f2; exact Or.inr ⟨rfl, by omega⟩
                | _ => rw [hz] at f2; exact absurd f2 hkd
              have hnar : narrow (zTy q.2.1 (zarg a 2).toNat) (.int (Int32.ofInt w.2)) = .int (Int32.ofInt w.2) ∧ fits (zTy q.2.1 (zarg a 2).toNat) (.int (Int32.ofInt w.2)) = true := by
                rcases hty with hz | ⟨hz, h2⟩
                · rw [hz]; exact ⟨rfl, rfl⟩
                · rw [hz]
                  rcases hbool h2 with h | h <;> rw [h] <;> exact ⟨rfl, rfl⟩
              rw [List.map_cons, List.map_cons, zcv_r ht, zcv_i hw]
              refine va_put (T := zT q.2.1) (N := zN q.2.1) (ci := q.2.1) (ref := zC q.2.1) (C := zC q.2.1) (ty := zTy q.2.1 (zarg a 2).toNat) hx hb hts (zin_ws hcl13) (zTy q.2.1) (fun k hk => (zty_ok hcl13 hk).1) (znm_ok hcl13) hown hK.1 hP hD hS v.2.toNat ((zws_at hq).trans (by rw [zel_0 h0])) (zcl_at hcl13) (zarg a 2).toNat g3 (zfl_ok hts hany) (fun x hx => by rw [f4] at hx; exact hx) hnf f1 hnar.1 hnar.2 (by rw [List.length_map, List.length_range]; exact g3) hd (fun H1 locs1 hP1 hD1 hS1 => ?_)
              rw [hset] at hP1 hD1
              rw [zws_set hq (zel_0 h0)] at hP1 hD1
              have hM : zup M v.2.toNat (zarg a 2) w.2 = zup M v.2 (zarg a 2) w.2 := by rw [hv2]
              have hV1 := zup_val (i := zarg a 2) (v := w.2) hV hq (fun _ => rw') (fun z => by omega)
              rw [hM] at hP1 hD1 hV1
              have kk := hG ad cA H1 locs1 als hag hS0 hZ0 hl hL hst hlk orr ⟨hP1, hD1, hK, hV1⟩ hS1
              rw [hp] at kk
              exact kk
            · cases ho
        · cases hh
      · cases ho
    · cases ho
  · cases ho
theorem zk_iald : zOK 42 zo_iald (zh_is .iaload) := by
  intro p l e R s m args below meth c Q D adK adV A nL k pcs S0 ad0 cA0 own cc x n i a ls st S M r F hd hp hn hh hm ho hc hs hG
  unfold zo_iald at ho
  split at ho
  · rename_i w v rr
    split at ho
    · rename_i q hq
      split at ho
      · rename_i hi
        obtain ⟨⟨hw, hv, h1⟩, hr0, hr1⟩ := hi
        obtain ⟨hnn, hq⟩ := zsh_of hq
        cases ho
        intro ad cA H locs als hag hS0 hZ0 hl hL hst hlk hok hR hS
        have e := of_decide_eq_true hh
        subst e
        obtain ⟨hx, hb, -⟩ := F
        rw [zlen_of hn rfl] at hd hp
        obtain ⟨hP, hD, hK, hV⟩ := id hR
        obtain ⟨ow, ov, orr⟩ := (List.forall_mem_cons.mp hok).imp_right List.forall_mem_cons.mp
        have rw' := ow.1.1 (Or.inl hw)
        have hval := hV.2.1 _ _ hq (by omega) w.2
        rw [show ((v.2.toNat : Nat) : Int) = v.2 by omega] at hval
        have kk := hG ad cA H locs als hag hS0 hZ0 hl hL hst hlk (List.forall_mem_cons.mpr ⟨zint hval, orr⟩) hR hS
        rw [hp, List.map_cons, zcv_0] at kk
        rw [List.map_cons, List.map_cons, zcv_r hv, zcv_i hw]
        have hK1 := hK.one hq (by omega)
        rw [zaty_1 h1] at hK1
        refine va_iald hx hb hK1 hP v.2.toNat 0 ((zws_at hq).trans (by rw [zel_a (Or.inl h1)])) rfl (zi_in ⟨hr0, hr1⟩ rw'.2) hd ?_
        rw [zi_nat ⟨hr0, rw'.2⟩, show ((w.2.toNat : Nat) : Int) = w.2 by omega, show ((v.2.toNat : Nat) : Int) = v.2 by omega]
        exact kk
      · cases ho
    · cases ho
  · cases ho
theorem zk_bald : zOK 43 zo_bald (zh_is .baload) := by
  intro p l e R s m args below meth c Q D adK adV A nL k pcs S0 ad0 cA0 own cc x n i a ls st S M r F hd hp hn hh hm ho hc hs hG
  unfold zo_bald at ho
  split at ho
  · rename_i w v rr
    split at ho
    · rename_i q hq
      split at ho
      · rename_i hi
        obtain ⟨⟨hw, hv, h1⟩, hr0, hr1⟩ := hi
        obtain ⟨hnn, hq⟩ := zsh_of hq
        cases ho
        intro ad cA H locs als hag hS0 hZ0 hl hL hst hlk hok hR hS
        have e := of_decide_eq_true hh
        subst e
        obtain ⟨hx, hb, -⟩ := F
        rw [zlen_of hn rfl] at hd hp
        obtain ⟨hP, hD, hK, hV⟩ := id hR
        obtain ⟨ow, ov, orr⟩ := (List.forall_mem_cons.mp hok).imp_right List.forall_mem_cons.mp
        have rw' := ow.1.1 (Or.inl hw)
        have hval := hV.2.1 _ _ hq (by omega) w.2
        rw [show ((v.2.toNat : Nat) : Int) = v.2 by omega] at hval
        have kk := hG ad cA H locs als hag hS0 hZ0 hl hL hst hlk (List.forall_mem_cons.mpr ⟨zint hval, orr⟩) hR hS
        rw [hp, List.map_cons, zcv_0] at kk
        rw [List.map_cons, List.map_cons, zcv_r hv, zcv_i hw]
        have hK1 := hK.one hq (by omega)
        rcases h1 with h1 | h1
        · rw [zaty_2 h1] at hK1
          refine va_bald hx hb hK1 hP v.2.toNat 0 ((zws_at hq).trans (by rw [zel_a (Or.inr (Or.inl h1))])) rfl (zi_in ⟨hr0, hr1⟩ rw'.2) hd ?_
          rw [zi_nat ⟨hr0, rw'.2⟩, show ((w.2.toNat : Nat) : Int) = w.2 by omega, show ((v.2.toNat : Nat) : Int) = v.2 by omega]
          exact kk
        · rw [zaty_3 h1] at hK1
          refine va_zald hx hb hK1 hP v.2.toNat 0 ((zws_at hq).trans (by rw [zel_a (Or.inr (Or.inr h1))])) rfl (zi_in ⟨hr0, hr1⟩ rw'.2) hd ?_
          rw [zi_nat ⟨hr0, rw'.2⟩, show ((w.2.toNat : Nat) : Int) = w.2 by omega, show ((v.2.toNat : Nat) : Int) = v.2 by omega]
          exact kk
      · cases ho
    · cases ho
  · cases ho
theorem zk_aald : zOK 44 zo_aald (zh_is .aaload) := by
  intro p l e R s m args below meth c Q D adK adV A nL k pcs S0 ad0 cA0 own cc x n i a ls st S M r F hd hp hn hh hm ho hc hs hG
  unfold zo_aald at ho
  split at ho
  · rename_i w v rr
    split at ho
    · rename_i q hq
      split at ho
      · rename_i hi
        obtain ⟨⟨hw, hv, h1⟩, hr0, hr1⟩ := hi
        obtain ⟨hnn, hq⟩ := zsh_of hq
        cases ho
        intro ad cA H locs als hag hS0 hZ0 hl hL hst hlk hok hR hS
        have e := of_decide_eq_true hh
        subst e
        obtain ⟨hx, hb, -⟩ := F
        rw [zlen_of hn rfl] at hd hp
        obtain ⟨hP, hD, hK, hV⟩ := id hR
        obtain ⟨ow, ov, orr⟩ := (List.forall_mem_cons.mp hok).imp_right List.forall_mem_cons.mp
        have rw' := ow.1.1 (Or.inl hw)
        obtain ⟨z0, z1, z2, z3⟩ := hV.1 _ _ hq
        have hr : zok S.length (if q.1 = 4 then (1, q.2.2.getD 0 0 + w.2) else zrf (M v.2 w.2 - 1)) ∧ (if q.1 = 4 then (1, q.2.2.getD 0 0 + w.2) else zrf (M v.2 w.2 - 1) : zV).1 ≠ 3 := by
          by_cases h4 : q.1 = 4
          · rw [if_pos h4]
            have := z2 h4
            exact ⟨⟨fun z => by rcases z with z | z; exact absurd z (by decide : (1 : Nat) ≠ 0); exact absurd z (by decide : (1 : Nat) ≠ 2), fun _ => ⟨by show 0 ≤ q.2.2.getD 0 0 + w.2; omega, by show q.2.2.getD 0 0 + w.2 < _; omega⟩⟩, (by decide : (1 : Nat) ≠ 3)⟩
          · rw [if_neg h4]
            have := (z3 (by omega)).2 w.2
            rw [show ((v.2.toNat : Nat) : Int) = v.2 by omega] at this
            exact zrf_ok (by omega)
        have kk := hG ad cA H locs als hag hS0 hZ0 hl hL hst hlk (List.forall_mem_cons.mpr ⟨hr, orr⟩) hR hS
        rw [hp, List.map_cons] at kk
        rw [List.map_cons, List.map_cons, zcv_r hv, zcv_i hw]
        have hKo := hK.2 _ q hq (by omega)
        have hin := zi_in ⟨hr0, hr1⟩ rw'.2
        have hlt : (Int32.ofInt w.2).toNatClampNeg < q.2.1 := Nat.not_le.mp fun z => hin (Or.inr z)
        by_cases h4 : q.1 = 4
        · rw [if_pos h4, zcv_1] at kk
          have hc := hP v.2.toNat _ (zws_at hq)
          rw [zel_4 h4] at hc
          have hc2 : H[ad v.2.toNat]? = some (vp_cell (cA v.2.toNat) (q.2.1, .inr (.inr (.inr (.inr (fun j => if j < q.2.1 then some (ad (q.2.2.getD 0 0 + j).toNat) else none)))))) := hc
          rw [vp_cell_q] at hc2
          refine W.aald (v := .ref (ad (q.2.2.getD 0 0 + w.2).toNat)) (ty := zaty q) hx hb hc2 (hKo.1 _ _) (by rw [zaty_4 h4]; rfl) (fun z => by cases z) (by show ¬ (_ ∨ (arrV _ _ _).slots.size ≤ _); rw [arrV_size]; exact hin) (by
            show (arrV _ _ _).slots[_]? = _
            rw [arrV_read _ _ hlt]
            rw [if_pos hlt, zi_nat ⟨hr0, rw'.2⟩, show ((w.2.toNat : Nat) : Int) = w.2 by omega]
            rfl) rfl rfl hd kk
        · have h5 : q.1 = 5 := by omega
          rw [if_neg h4, zcv_rf] at kk
          have hc := hP v.2.toNat _ (zws_at hq)
          rw [zel_5 h5] at hc
          have hc2 : H[ad v.2.toNat]? = some (vp_cell (cA v.2.toNat) (q.2.1, .inr (.inr (.inr (.inr (fun j => if M v.2.toNat j ≤ 0 then none else some (ad (M v.2.toNat j - 1).toNat))))))) := hc
          rw [vp_cell_q] at hc2
          refine W.aald (ty := zaty q) hx hb hc2 (hKo.1 _ _) (by rw [zaty_5 h5]; rfl) (fun z => by cases z) (by show ¬ (_ ∨ (arrV _ _ _).slots.size ≤ _); rw [arrV_size]; exact hin) (by
            show (arrV _ _ _).slots[_]? = _
            rw [arrV_read _ _ hlt]
            rw [zi_nat ⟨hr0, rw'.2⟩, show ((w.2.toNat : Nat) : Int) = w.2 by omega, show ((v.2.toNat : Nat) : Int) = v.2 by omega]
            congr 3
            exact propext (by omega)) rfl rfl hd kk
      · cases ho
    · cases ho
  · cases ho
theorem zk_iast : zOK 45 zo_iast (zh_is .iastore) := by
  intro p l e R s m args below meth c Q D adK adV A nL k pcs S0 ad0 cA0 own cc x n i a ls st S M r F hd hp hn hh hm ho hc hs hG
  unfold zo_iast at ho
  split at ho
  · rename_i u w v rr
    split at ho
    · rename_i q hq
      split at ho
      · rename_i hi
        obtain ⟨⟨hu, hw, hv, h1⟩, hr0, hr1⟩ := hi
        obtain ⟨hnn, hq⟩ := zsh_of hq
        cases ho
        intro ad cA H locs als hag hS0 hZ0 hl hL hst hlk hok hR hS
        have e := of_decide_eq_true hh
        subst e
        obtain ⟨hx, hb, -⟩ := F
        rw [zlen_of hn rfl] at hd hp
        obtain ⟨hP, hD, hK, hV⟩ := id hR
        obtain ⟨ou, ow, ov, orr⟩ := (List.forall_mem_cons.mp hok).imp_right (fun z => (List.forall_mem_cons.mp z).imp_right List.forall_mem_cons.mp)
        have rw' := ow.1.1 (Or.inl hw)
        have ru' := ou.1.1 (Or.inl hu)
        have hK1 := hK.one hq (by omega)
        rw [zaty_1 h1] at hK1
        simp only [List.map_cons]
        rw [zcv_r hv, zcv_i hw, zcv_i hu]
        refine va_iast hx hb hK1 hP hD hS v.2.toNat 0 ((zws_at hq).trans (by rw [zel_a (Or.inl h1)])) rfl (zi_in ⟨hr0, hr1⟩ rw'.2) hd (fun H1 locs1 hP1 hD1 hS1 => ?_)
        have hM : zup M v.2.toNat w.2 u.2 = zup M v.2 w.2 u.2 := by rw [show ((v.2.toNat : Nat) : Int) = v.2 by omega]
        have hx1 : zel adK ad cA (zup M v.2.toNat w.2 u.2) v.2.toNat q = .inl (cA v.2.toNat, q.2.1, .inl (upd (fun j => Int32.ofInt (M v.2.toNat j)) (Int32.ofInt w.2).toNatClampNeg (Int32.ofInt u.2))) := by
          rw [zel_a (Or.inl h1), zi_nat ⟨hr0, rw'.2⟩]
          congr 4
          funext j
          unfold upd
          by_cases hj : j = w.2.toNat
          · rw [if_pos hj, hj, show ((w.2.toNat : Nat) : Int) = w.2 by omega, zup_eq]
          · rw [if_neg hj, zup_ni (by omega)]
        rw [zws_set hq hx1] at hP1 hD1
        have hV1 := zup_val (i := w.2) (v := u.2) hV hq (fun _ => ru') (fun z => by omega)
        rw [hM] at hP1 hD1 hV1
        have kk := hG ad cA H1 locs1 als hag hS0 hZ0 hl hL hst hlk orr ⟨hP1, hD1, hK, hV1⟩ hS1
        rw [hp] at kk
        exact kk
      · cases ho
    · cases ho
  · cases ho
theorem zk_bast : zOK 46 zo_bast (zh_is .bastore) := by
  intro p l e R s m args below meth c Q D adK adV A nL k pcs S0 ad0 cA0 own cc x n i a ls st S M r F hd hp hn hh hm ho hc hs hG
  unfold zo_bast at ho
  split at ho
  · rename_i u w v rr
    split at ho
    · rename_i q hq
      split at ho
      · rename_i hi
        obtain ⟨⟨hu, hw, hv, h1⟩, hr0, hr1⟩ := hi
        obtain ⟨hnn, hq⟩ := zsh_of hq
        cases ho
        intro ad cA H locs als hag hS0 hZ0 hl hL hst hlk hok hR hS
        have e := of_decide_eq_true hh
        subst e
        obtain ⟨hx, hb, -⟩ := F
        rw [zlen_of hn rfl] at hd hp
        obtain ⟨hP, hD, hK, hV⟩ := id hR
        obtain ⟨ou, ow, ov, orr⟩ := (List.forall_mem_cons.mp hok).imp_right (fun z => (List.forall_mem_cons.mp z).imp_right List.forall_mem_cons.mp)
        have rw' := ow.1.1 (Or.inl hw)
        have ru' := ou.1.1 (Or.inl hu)
        have hM : zup M v.2.toNat w.2 u.2 = zup M v.2 w.2 u.2 := by rw [show ((v.2.toNat : Nat) : Int) = v.2 by omega]
        have ht : q.1 = 2 ∨ q.1 = 3 := by omega
        have hx1 : zel adK ad cA (zup M v.2.toNat w.2 u.2) v.2.toNat q = .inl (cA v.2.toNat, q.2.1, .inl (upd (fun j => Int32.ofInt (M v.2.toNat j)) (Int32.ofInt w.2).toNatClampNeg (Int32.ofInt u.2))) := by
          rw [zel_a (Or.inr ht), zi_nat ⟨hr0, rw'.2⟩]
          congr 4
          funext j
          unfold upd
          by_cases hj : j = w.2.toNat
          · rw [if_pos hj, hj, show ((w.2.toNat : Nat) : Int) = w.2 by omega, zup_eq]
          · rw [if_neg hj, zup_ni (by omega)]
        have hV1 := zup_val (i := w.2) (v := u.2) hV hq (fun _ => ru') (fun z => by omega)
        have hK1 := hK.one hq (by omega)
        simp only [List.map_cons]
        rw [zcv_r hv, zcv_i hw, zcv_i hu]
        rcases h1 with ⟨h1, hb1⟩ | ⟨h1, hb1⟩
        · rw [zaty_2 h1] at hK1
          refine va_bast hx hb hK1 hP hD hS v.2.toNat 0 ((zws_at hq).trans (by rw [zel_a (Or.inr ht)])) rfl (zi_in ⟨hr0, hr1⟩ rw'.2) hd (fun H1 locs1 hP1 hD1 hS1 => ?_)
          have en : vp_nar .byte (Int32.ofInt u.2) = Int32.ofInt u.2 := by
            show (Int32.ofInt u.2).toInt8.toInt32 = _
            rw [(zi_by u.2).1]
            congr 1
            unfold zbyte
            omega
          rw [en, zws_set hq hx1] at hP1 hD1
          rw [hM] at hP1 hD1 hV1
          have kk := hG ad cA H1 locs1 als hag hS0 hZ0 hl hL hst hlk orr ⟨hP1, hD1, hK, hV1⟩ hS1
          rw [hp] at kk
          exact kk
        · rw [zaty_3 h1] at hK1
          refine va_zast hx hb hK1 hP hD hS v.2.toNat 0 ((zws_at hq).trans (by rw [zel_a (Or.inr ht)])) rfl (zi_in ⟨hr0, hr1⟩ rw'.2) hd (fun H1 locs1 hP1 hD1 hS1 => ?_)
          have en : vp_nar .boolean (Int32.ofInt u.2) = Int32.ofInt u.2 := by
            rcases hb1 with h | h <;> rw [h] <;> rfl
          rw [en, zws_set hq hx1] at hP1 hD1
          rw [hM] at hP1 hD1 hV1
          have kk := hG ad cA H1 locs1 als hag hS0 hZ0 hl hL hst hlk orr ⟨hP1, hD1, hK, hV1⟩ hS1
          rw [hp] at kk
          exact kk
      · cases ho
    · cases ho
  · cases ho
theorem zk_aast : zOK 47 zo_aast (zh_is .aastore) := by
  intro p l e R s m args below meth c Q D adK adV A nL k pcs S0 ad0 cA0 own cc x n i a ls st S M r F hd hp hn hh hm ho hc hs hG
  unfold zo_aast at ho
  split at ho
  · rename_i u w v rr
    split at ho
    · rename_i q hq
      split at ho
      · rename_i o hoo
        split at ho
        · rename_i hi
          obtain ⟨⟨hu, hw, hv, h1, h0, hcl⟩, hr0, hr1⟩ := hi
          obtain ⟨hnn, hq⟩ := zsh_of hq
          obtain ⟨hnu, hoo⟩ := zsh_of hoo
          cases ho
          intro ad cA H locs als hag hS0 hZ0 hl hL hst hlk hok hR hS
          have e := of_decide_eq_true hh
          subst e
          obtain ⟨hx, hb, -⟩ := F
          rw [zlen_of hn rfl] at hd hp
          obtain ⟨hP, hD, hK, hV⟩ := id hR
          obtain ⟨ou, ow, ov, orr⟩ := (List.forall_mem_cons.mp hok).imp_right (fun z => (List.forall_mem_cons.mp z).imp_right List.forall_mem_cons.mp)
          have rw' := ow.1.1 (Or.inl hw)
          have ru' := ou.1.2 hu
          have hM : zup M v.2.toNat w.2 (u.2 + 1) = zup M v.2 w.2 (u.2 + 1) := by rw [show ((v.2.toNat : Nat) : Int) = v.2 by omega]
          have hx1 : zel adK ad cA (zup M v.2.toNat w.2 (u.2 + 1)) v.2.toNat q = .inl (cA v.2.toNat, q.2.1, .inr (.inr (.inr (.inr (va_up (fun j => if M v.2.toNat j ≤ 0 then none else some (ad (M v.2.toNat j - 1).toNat)) (Int32.ofInt w.2).toNatClampNeg (some (ad u.2.toNat))))))) := by
            rw [zel_5 h1, zi_nat ⟨hr0, rw'.2⟩]
            congr 7
            funext j
            unfold va_up
            by_cases hj : j = w.2.toNat
            · rw [if_pos hj, hj, show ((w.2.toNat : Nat) : Int) = w.2 by omega, zup_eq, if_neg (by omega), show u.2 + 1 - 1 = u.2 by omega]
            · rw [if_neg hj, zup_ni (by omega)]
          have hV1 := zup_val (i := w.2) (v := u.2 + 1) hV hq (fun z => absurd h1 z) (fun _ => by omega)
          have hK1 := hK.one hq (by omega)
          have hc13 : o.2.1 < 13 := ((hV.1 _ o hoo).2.1 h0).1
          rw [zaty_5 h1, hcl, show ((o.2.1 : Int)).toNat = o.2.1 by omega] at hK1
          simp only [List.map_cons]
          rw [zcv_r hv, zcv_i hw, zcv_r hu]
          refine va_astq (r := (zC o.2.1, zT o.2.1, zN o.2.1)) hx hb hK1 hP hD hS v.2.toNat 0 u.2.toNat o.2.1 ((zws_at hq).trans (by rw [zel_5 h1])) rfl ((zws_at hoo).trans (by rw [zel_0 h0])) (zcl_at hc13) (zi_in ⟨hr0, hr1⟩ rw'.2) hd (fun H1 locs1 hP1 hD1 hS1 => ?_)
          rw [zws_set hq hx1] at hP1 hD1
          rw [hM] at hP1 hD1 hV1
          have kk := hG ad cA H1 locs1 als hag hS0 hZ0 hl hL hst hlk orr ⟨hP1, hD1, hK, hV1⟩ hS1
          rw [hp] at kk
          exact kk
        · cases ho
      · cases ho
    · cases ho
  · cases ho
theorem zk_alen : zOK 48 zo_alen (zh_is .arraylength) := by
  intro p l e R s m args below meth c Q D adK adV A nL k pcs S0 ad0 cA0 own cc x n i a ls st S M r F hd hp hn hh hm ho hc hs hG
  unfold zo_alen at ho
  split at ho
  · rename_i v rr
    split at ho
    · rename_i q hq
      split at ho
      · rename_i hi
        obtain ⟨hnn, hq⟩ := zsh_of hq
        cases ho
        intro ad cA H locs als hag hS0 hZ0 hl hL hst hlk hok hR hS
        have e := of_decide_eq_true hh
        subst e
        obtain ⟨hx, hb, -⟩ := F
        rw [zlen_of hn rfl] at hd hp
        obtain ⟨hP, hD, hK, hV⟩ := id hR
        obtain ⟨ov, orr⟩ := List.forall_mem_cons.mp hok
        have hz := (hV.1 _ q hq).1.2
        have kk := hG ad cA H locs als hag hS0 hZ0 hl hL hst hlk (List.forall_mem_cons.mpr ⟨zint (by omega), orr⟩) hR hS
        rw [hp, List.map_cons, zcv_0] at kk
        rw [List.map_cons, zcv_r hi.1]
        have hK1 := hK.one hq (by omega)
        exact va_alen hx hb hK1 hP v.2.toNat 0 ((zws_at hq).trans (by rw [zel_a (Or.inl hi.2)])) rfl (by rw [Int32.ofInt_eq_ofNat]) hd kk
      · cases ho
    · cases ho
  · cases ho
theorem zcat_sum {adK ad : Nat → Nat} : ∀ (r : List zV), r.length ≤ 4 → ((r.map (zcv adK ad)).map fun v => v.category).sum ≤ 8
  | [], _ => by simp
  | [a], _ => by have := zcv_cat2 (adK := adK) (ad := ad) a; simp; omega
  | [a, b], _ => by have := zcv_cat2 (adK := adK) (ad := ad) a; have := zcv_cat2 (adK := adK) (ad := ad) b; simp; omega
  | [a, b, c], _ => by have := zcv_cat2 (adK := adK) (ad := ad) a; have := zcv_cat2 (adK := adK) (ad := ad) b; have := zcv_cat2 (adK := adK) (ad := ad) c; simp; omega
  | [a, b, c, d], _ => by have := zcv_cat2 (adK := adK) (ad := ad) a; have := zcv_cat2 (adK := adK) (ad := ad) b; have := zcv_cat2 (adK := adK) (ad := ad) c; have := zcv_cat2 (adK := adK) (ad := ad) d; simp; omega
  | _ :: _ :: _ :: _ :: _ :: _, h => by simp at h
theorem zol_ok {op own k : Nat} {s : State} {args : Array Value} (hts : ∀ w ∈ zTb, w.before args s = true) (h52 : op ≠ 52) (h : zOl.any (fun e => e.1 == op && (e.2.1 == own && e.2.2.1 == k)) = true) : (Cond.methodLink (zC own) k (if op = 53 then objectInit else if op = 54 then arraycopyName else if op = 55 then Lib.Math.min.name else if op = 56 then Lib.Math.abs.name else if op = 58 then ⟨"java/lang/String", "length", "()I"⟩ else ⟨"java/lang/String", "charAt", "(I)C"⟩)).before args s = true := by
  obtain ⟨q, hq, he⟩ := List.any_eq_true.mp h
  simp only [Bool.and_eq_true, beq_iff_eq] at he
  obtain ⟨e1, e2, e3⟩ := he
  have hw := of_decide_eq_true (List.all_eq_true.mp zw_ol q hq)
  rw [e1, e2, e3, if_neg h52] at hw
  exact zTb_at hts hw rfl
theorem zol_13 : ∀ e ∈ zOl, e.2.1 < 13 := by decide +kernel
theorem zol_lt {op own k : Nat} (h : zOl.any (fun e => e.1 == op && (e.2.1 == own && e.2.2.1 == k)) = true) : own < 13 := by
  obtain ⟨q, hq, he⟩ := List.any_eq_true.mp h
  simp only [Bool.and_eq_true, beq_iff_eq] at he
  have := zol_13 q hq
  omega
theorem zk_obj : zOK 53 zo_obj zh_obj := by
  intro p l e R s m args below meth c Q D adK adV A nL k pcs S0 ad0 cA0 own cc x n i a ls st S M r F hd hp hn hh hm ho hc hs hG
  unfold zo_obj at ho
  split at ho
  · rename_i v rr
    split at ho
    · rename_i hi
      cases ho
      intro ad cA H locs als hag hS0 hZ0 hl hL hst hlk hok hR hS
      unfold zh_obj at hh
      split at hh
      · rename_i kx
        simp only [Bool.and_eq_true, decide_eq_true_eq] at hh
        obtain ⟨e1, hany⟩ := hh
        have h13 := zol_lt hany
        obtain ⟨hx, hb, hml, hown, hts, hroom, -⟩ := F
        rw [if_neg (by omega)] at hown
        rw [zlen_of hn rfl] at hd hp
        have kk := hG ad cA H locs als hag hS0 hZ0 hl hL hst hlk (List.forall_mem_cons.mp hok).2 hR hS
        rw [hp] at kk
        rw [List.map_cons, zcv_r hi.1]
        exact W.objInit (R := R) hx hb hown (zol_ok hts (by decide) hany) (zTb_at hts zwx_objI rfl) (zTb_at hts zwx_objC rfl) rfl (by rw [hml]; exact hl.1) rfl hd hroom.1 (by have := zcat_sum (adK := adK) (ad := ad) rr hi.2; show 2 * 0 + _ + 12 ≤ _; omega) kk
      · cases hh
    · cases ho
  · cases ho
theorem zk_min : zOK 55 zo_min (zh_st 55) := by
  intro p l e R s m args below meth c Q D adK adV A nL k pcs S0 ad0 cA0 own cc x n i a ls st S M r F hd hp hn hh hm ho hc hs hG
  unfold zo_min at ho
  split at ho
  · rename_i w v rr
    split at ho
    · rename_i hi
      obtain ⟨hw, hv, h4⟩ := hi
      cases ho
      intro ad cA H locs als hag hS0 hZ0 hl hL hst hlk hok hR hS
      unfold zh_st at hh
      split at hh
      · rename_i kx
        simp only [Bool.and_eq_true, decide_eq_true_eq] at hh
        obtain ⟨e1, hany⟩ := hh
        have h13 := zol_lt hany
        obtain ⟨hx, hb, hml, hown, hts, hroom, -⟩ := F
        rw [if_neg (by omega)] at hown
        rw [zlen_of hn rfl] at hd hp
        obtain ⟨ow, ov, orr⟩ := (List.forall_mem_cons.mp hok).imp_right List.forall_mem_cons.mp
        have rw' := ow.1.1 (Or.inl hw)
        have rv' := ov.1.1 (Or.inl hv)
        have kk := hG ad cA H locs als hag hS0 hZ0 hl hL hst hlk (List.forall_mem_cons.mpr ⟨zint (by split <;> omega), orr⟩) hR hS
        rw [hp, List.map_cons, zcv_0] at kk
        rw [List.map_cons, List.map_cons, zcv_i hw, zcv_i hv]
        refine va_mmin hx hb (by rw [hml]; exact hl.1.symm) hown (zol_ok hts (by decide) hany) (zTb_at hts zwx_minS rfl) (zTb_at hts zwx_mI rfl) (zTb_at hts zwx_minC rfl) hroom.1 (by have := zcat_sum (adK := adK) (ad := ad) rr h4; omega) hc hs hd ?_
        have e : (if Int32.ofInt w.2 < Int32.ofInt v.2 then Int32.ofInt w.2 else Int32.ofInt v.2) = Int32.ofInt (if v.2 ≤ w.2 then v.2 else w.2) := by
          by_cases h : v.2 ≤ w.2
          · rw [if_neg (by rw [zi_lt rw' rv']; omega), if_pos h]
          · rw [if_pos (by rw [zi_lt rw' rv']; omega), if_neg h]
        rw [e]
        exact kk
      · cases hh
    · cases ho
  · cases ho
theorem zk_abs : zOK 56 zo_abs (zh_st 56) := by
  intro p l e R s m args below meth c Q D adK adV A nL k pcs S0 ad0 cA0 own cc x n i a ls st S M r F hd hp hn hh hm ho hc hs hG
  unfold zo_abs at ho
  split at ho
  · rename_i v rr
    split at ho
    · rename_i hi
      obtain ⟨hv, hmin, h4⟩ := hi
      cases ho
      intro ad cA H locs als hag hS0 hZ0 hl hL hst hlk hok hR hS
      unfold zh_st at hh
      split at hh
      · rename_i kx
        simp only [Bool.and_eq_true, decide_eq_true_eq] at hh
        obtain ⟨e1, hany⟩ := hh
        have h13 := zol_lt hany
        obtain ⟨hx, hb, hml, hown, hts, hroom, -⟩ := F
        rw [if_neg (by omega)] at hown
        rw [zlen_of hn rfl] at hd hp
        obtain ⟨ov, orr⟩ := List.forall_mem_cons.mp hok
        have rv' := ov.1.1 (Or.inl hv)
        have kk := hG ad cA H locs als hag hS0 hZ0 hl hL hst hlk (List.forall_mem_cons.mpr ⟨zint (by split <;> omega), orr⟩) hR hS
        rw [hp, List.map_cons, zcv_0] at kk
        rw [List.map_cons, zcv_i hv]
        refine va_mabs hx hb (by rw [hml]; exact hl.1.symm) hown (zol_ok hts (by decide) hany) (zTb_at hts zwx_absS rfl) (zTb_at hts zwx_mI rfl) (zTb_at hts zwx_absC rfl) hroom.1 (by have := zcat_sum (adK := adK) (ad := ad) rr h4; omega) hc hs hd ?_
        have e : (if 0 ≤ Int32.ofInt v.2 then Int32.ofInt v.2 else 0 - Int32.ofInt v.2) = Int32.ofInt (if v.2 < 0 then -v.2 else v.2) := by
          rw [zi_0]
          by_cases h : v.2 < 0
          · rw [if_neg (by rw [zi_le (by decide) rv']; omega), if_pos h, zi_sub]
            congr 1
            omega
          · rw [if_pos (by rw [zi_le (by decide) rv']; omega), if_neg h]
        rw [e]
        exact kk
      · cases hh
    · cases ho
  · cases ho
