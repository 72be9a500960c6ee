/-! A call -/
def zCode (own : Nat) (cc : ByteArray) (pcs : List Nat) (k : List zIn) : Prop := ∀ (j : Nat) (q : zIn), k[j]? = some q → ∃ (x : Instr) (n : Nat), decode cc (zpc pcs j) = .ok (x, n) ∧ ((70 ≤ q.1 ∧ q.1 < 80) ∨ zpc pcs (j + 1) = zpc pcs j + n) ∧ zlenok x n = true ∧ (zHs.getD q.1 (fun _ _ _ _ _ => false)) own pcs j q.2 x = true
def zRoomy (k : List zIn) (R : Room) : Prop := ∀ q ∈ k, q.1 = 60 → zfr (zarg q.2 2).toNat + 1 ≤ R.frames ∧ 8 + (zmL (zarg q.2 2).toNat + 11) + zlo (zarg q.2 2).toNat ≤ R.locals ∧ (zarg q.2 2).toNat < 282
def zMetOK (n : Nat) : Prop := ∀ i : Nat, i < 282 → ∀ (as : List zV) (S : List zSh) (M : zM) (r : zV × List zSh × zM), zrun zPt n (zk i) 0 (zloc as (zmL i)) [] S M = some r → as.length = zna i → (zan i = 3 ∨ ∀ v ∈ as, v.1 ≠ 2) → (∀ v ∈ as, zok S.length v ∧ v.1 ≠ 3) →
  ∀ (l : Launch) (D : va_G) (adK adV : Nat → Nat) (A : Nat → Prop) (ad : Nat → Nat) (cA : Nat → ClassId), Met l (zy i) (zWs i) ({ frames := zfr i, cells := r.2.1.length - S.length, slots := zsl r.2.1 - zsl S, locals := zlo i }) (zPc D adK adV A ad cA S M as) (zQc D adK A S.length ad cA (zan i) r.1 r.2.1 r.2.2) (r.2.1.length - S.length) (zsl r.2.1 - zsl S) A
theorem zml_ok {own k how i : Nat} (h : zMl.any (fun e => e.1 == own && (e.2.1 == k && (e.2.2.1 == how && e.2.2.2.1 == i))) = true) : ∃ q ∈ zMl, q.1 = own ∧ q.2.1 = k ∧ q.2.2.1 = how ∧ q.2.2.2.1 = i := by
  obtain ⟨q, hq, he⟩ := List.any_eq_true.mp h
  simp only [Bool.and_eq_true, beq_iff_eq] at he
  exact ⟨q, hq, he.1, he.2.1, he.2.2.1, he.2.2.2⟩
theorem zml_word {q : Nat × Nat × Nat × Nat × Nat} (hq : q ∈ zMl) (h3 : q.2.2.1 ≠ 3) : Cond.methodLink (if q.1 = 13 then R_law else zC q.1) q.2.1 (zy q.2.2.2.1) ∈ zTb := by
  have hw := of_decide_eq_true (List.all_eq_true.mp zw_ml q hq)
  rw [if_neg h3] at hw
  exact zTb_of hw rfl
theorem zml_facts : ∀ q ∈ zMl, q.2.2.2.1 < 282 ∧ (q.2.2.1 = 0 → zhow q.2.2.2.1 = 0) ∧ (q.2.2.1 = 2 → zhow q.2.2.2.1 = 2) ∧ (q.2.2.1 = 1 → zhow q.2.2.2.1 = 1 ∧ q.1 ≠ 13 ∧ zown q.2.2.2.1 = q.1) ∧ (q.2.2.1 = 3 → zhow q.2.2.2.1 = 1) := by decide +kernel
theorem zini_ret : ∀ i, i < 282 → (zhow i = 2 → zret i = none) ∧ zown i < 13 := by decide +kernel
theorem zWs_good {i : Nat} (hi : i < 282) : GoodIn zTb (zWs i) := by
  intro w hw
  rcases List.mem_cons.mp hw with rfl | h
  · have h2 : Cond.code (zy i) (zb i) (zmL i) (zret i) ∈ zTb := List.mem_filter.mpr ⟨(zg_all i hi).2, rfl⟩
    exact ⟨h2, zTb_good h2⟩
  · exact ⟨h, zTb_good h⟩
theorem zout_cv {adK ad : Nat → Nat} {v : zV} (h : v.1 = 0 ∨ v.1 = 4) : zout adK v = some (zcv adK ad v) := by
  unfold zout
  rw [if_neg (by omega)]
  rcases h with h | h
  · rw [zcv_i h, zcv_i h]
  · rw [zcv_t h, zcv_t h]
theorem z_call {n : Nat} (hM : zMetOK n) {p : Program} {l : Launch} {e : Env} {R : Room} {s : State} {m : MethodId} {args : Array Value} {below : List Frame} {meth : Method} {c : Code} {Q : State → Prop} {D : va_G} {adK adV : Nat → Nat} {A : Nat → Prop} {nL : Nat} {k : List zIn} {pcs : List Nat} {S0 : List zSh} {ad0 : Nat → Nat} {cA0 : Nat → ClassId} {own : Nat} {cc : ByteArray} {x : Instr} {nx i : Nat} {a : List Int} {ls st : List zV} {S : List zSh} {M : zM} {r : zV × List zSh × zM} {j : Nat}
    (F : zFx p R s m args meth c adK adV A nL k own cc) (hd : decode cc (zpc pcs i) = .ok (x, nx)) (hp : zpc pcs (i + 1) = zpc pcs i + nx) (hn : zlenok x nx = true) (hh : zh_call own pcs i a x = true) (hj : (zarg a 2).toNat = j) (hj2 : j < 282) (hroom : zfr j + 1 ≤ R.frames ∧ 8 + (zmL j + 11) + zlo j ≤ R.locals)
    (hlen : zna j ≤ st.length) (hgive : zgive (zan j) (st.take (zna j)) (st.drop (zna j)) = true) (hrecv : zrecv S (zarg a 0) (zarg a 3) (st.take (zna j)) = true)
    (hr : zrun zPt n (zk j) 0 (zloc (st.take (zna j)).reverse (zmL j)) [] S M = some r) (hc : r.2.1.length - S0.length ≤ R.cells) (hs : zsl r.2.1 - zsl S0 ≤ R.slots)
    (hG : zG p l e R s m args below meth c Q D adK A nL k pcs S0 ad0 cA0 (i + 1) ls (if zan j = 0 then st.drop (zna j) else r.1 :: st.drop (zna j)) r.2.1 r.2.2) : zG p l e R s m args below meth c Q D adK A nL k pcs S0 ad0 cA0 i ls st S M := by
  intro ad cA H locs als hag hS0 hZ0 hl hL hst hlk hok hR hS
  obtain ⟨hmono, hzmono⟩ := zrun_mono_S _ _ _ _ _ _ _ _ hr
  obtain ⟨hP, hD, hK, hV⟩ := id hR
  have hsplit : st = (st.take (zna j)).reverse.reverse ++ st.drop (zna j) := by simp
  have hasl : (st.take (zna j)).reverse.length = zna j := by simp; omega
  unfold zgive at hgive
  simp only [Bool.and_eq_true, Bool.or_eq_true, beq_iff_eq] at hgive
  have hrest : (st.drop (zna j)).length ≤ 4 := Nat.le_of_ble_eq_true hgive.2
  have htag : zan j = 3 ∨ ∀ v ∈ (st.take (zna j)).reverse, v.1 ≠ 2 := hgive.1.imp_right (fun h v hv => by
    have := List.all_eq_true.mp h v (by simpa using hv)
    simpa using this)
  have hok1 : ∀ v ∈ (st.take (zna j)).reverse, zok S.length v ∧ v.1 ≠ 3 := fun v hv => hok v (List.mem_of_mem_take (by simpa using hv))
  have hok2 : ∀ v ∈ st.drop (zna j), zok S.length v ∧ v.1 ≠ 3 := fun v hv => hok v (List.mem_of_mem_drop hv)
  have hrecv2 : zrecv S (zarg a 0) (zarg a 3) (st.take (zna j)).reverse.reverse = true := by rw [List.reverse_reverse]; exact hrecv
  have hMet := hM j hj2 (st.take (zna j)).reverse S M r hr hasl htag hok1 l D adK adV A ad cA
  have hmap : st.map (zcv adK ad) = ((st.take (zna j)).reverse.map (zcv adK ad)).reverse ++ (st.drop (zna j)).map (zcv adK ad) := by
    rw [← List.map_reverse, ← List.map_append, ← hsplit]
  generalize has : (st.take (zna j)).reverse = as at *
  generalize hrs : st.drop (zna j) = rest at *
  obtain ⟨hx, hb, hml, hown, hts, hro, hA, hf1, hf2, hEx⟩ := F
  obtain ⟨d1, d2, d3, d4, d5, d6⟩ := zdesc hj2
  have hEx2 : zEx adK adV A s s.heap := hEx
  have hPc : ∀ U : State, U.heap = H → s.WarmedH U.vm → zPc D adK adV A ad cA S M as (as.map (zcv adK ad)).toArray U := fun U hU hW =>
    ⟨rfl, fun q hq => hA q (by rw [hU] at hq; exact Nat.le_trans hS.1 hq), by rw [hU]; exact hR.moved hW.alike, by rw [hU]; exact hEx2.warm hW (fun q h1 h2 => hS.2.1 q h1 h2)⟩
  have hfr : nx = 3 → ∀ (v : zV), v = r.1 → ∀ (ad' : Nat → Nat) (cA' : Nat → ClassId) (H1 : Heap) (locs1 : List Loc), zag S.length ad cA ad' cA' → (zok r.2.1.length r.1 ∧ (r.1.1 = 0 ∨ r.1.1 = 3 ∨ r.1.1 = 4) ∧ (zan j = 0 ↔ r.1.1 = 3)) → zRep D adK ad' cA' r.2.1 r.2.2 s H1 A → va_S A s.heap H1 locs1 → W p l e R s m args below meth c H1 locs1 (S.length - S0.length + (r.2.1.length - S.length)) (zsl S - zsl S0 + (zsl r.2.1 - zsl S)) Q (F0 m (zpc pcs i + 3) als ((zout adK r.1).toList ++ rest.map (zcv adK ad))) := fun h3 v hv ad' cA' H1 locs1 hag2 hpure hR1 hS1 => by
    obtain ⟨z1, z2, z3⟩ := hpure
    have kk := hG ad' cA' H1 locs1 als (zag.tr hag hag2 hS0) (by omega) (by omega) (by rw [zls_ag hag2 ls 0 hlk]; exact hl) hL hst (fun v hv => (hlk v hv).mono hmono) (by
      intro v hv
      by_cases h0 : zan j = 0
      · rw [if_pos h0] at hv
        exact ⟨(hok2 v hv).1.mono hmono, (hok2 v hv).2⟩
      · rw [if_neg h0] at hv
        rcases List.mem_cons.mp hv with rfl | hv
        · exact ⟨z1, fun z => h0 (z3.mpr z)⟩
        · exact ⟨(hok2 v hv).1.mono hmono, (hok2 v hv).2⟩) hR1 hS1
    rw [hp, h3] at kk
    have e : (if zan j = 0 then rest else r.1 :: rest).map (zcv adK ad') = (zout adK r.1).toList ++ rest.map (zcv adK ad) := by
      by_cases h0 : zan j = 0
      · rw [if_pos h0, zst_ag hag2 hok2]
        unfold zout
        rw [if_pos (z3.mp h0)]
        rfl
      · have h3' : r.1.1 ≠ 3 := fun z => h0 (z3.mpr z)
        rw [if_neg h0, List.map_cons, zst_ag hag2 hok2, zout_cv (ad := ad') (by omega)]
        rfl
    rw [e] at kk
    exact W.cs (by omega) (by omega) kk
  rw [hmap]
  unfold zh_call at hh
  split at hh
  · rename_i kx
    simp only [Bool.and_eq_true, decide_eq_true_eq] at hh
    obtain ⟨⟨e1, e0, e2, e3⟩, hany⟩ := hh
    rw [hj] at hany e3
    obtain ⟨q, hq, q1, q2, q3, q4⟩ := zml_ok hany
    obtain ⟨f1, f2, -⟩ := zml_facts q hq
    rw [q4] at f2
    have hw := zml_word hq (by omega)
    rw [q1, q2, q4] at hw
    have hn3 := zlen_of hn rfl
    subst hn3
    have hhow := f2 q3
    unfold zrecv at hrecv2
    rw [if_neg (by omega), List.getLast?_reverse] at hrecv2
    cases as with
    | nil => cases hrecv2
    | cons v0 vs =>
      simp only [List.head?_cons, Bool.and_eq_true, beq_iff_eq, Bool.or_eq_true] at hrecv2
      obtain ⟨hv0, hcl⟩ := hrecv2
      have hcl2 : ∃ sh, zsh S v0.2 = some sh ∧ sh.1 = 0 ∧ sh.2.1 = zown j := by
        rcases hcl with h | h
        · omega
        · cases hz : zsh S v0.2 with
          | none => rw [hz] at h; cases h
          | some sh =>
            rw [hz] at h
            simp only [Bool.and_eq_true, beq_iff_eq] at h
            exact ⟨sh, rfl, h.1, by omega⟩
      obtain ⟨sh, hsh, hs0, hscl⟩ := hcl2
      obtain ⟨hnn, hsh⟩ := zsh_of hsh
      have h13 := (zini_ret j hj2).2
      have hform := zform (args := args) hts hj2
      rw [if_neg (by omega)] at hform
      have hgood : GoodIn zTb (wsV (if own = 13 then R_law else zC own) kx (zC (zown j)) (zy j) (zWs j)) := by
        intro w hw2
        unfold wsV at hw2
        rcases List.mem_append.mp hw2 with h | h
        · simp only [List.mem_cons, List.not_mem_nil, or_false] at h
          rcases h with rfl | rfl | rfl | rfl
          · exact ⟨hw, zTb_good hw⟩
          · exact ⟨hform, zTb_good hform⟩
          · exact ⟨zsel hj2 hhow, zTb_good (zsel hj2 hhow)⟩
          · exact ⟨zini h13, zTb_good (zini h13)⟩
        · exact zWs_good hj2 w h
      rw [if_neg (by omega)] at d1
      rw [List.map_cons, zcv_r hv0, List.reverse_cons, List.append_assoc]
      refine z_back (va_runV (As := vs.map (zcv adK ad)) (rest := rest.map (zcv adK ad)) (C := zC (zown j)) ⟨hx, hb, hml, hown, hts⟩ hMet (cwV (zna j - 1) hts hgood rfl rfl rfl ⟨rfl, d3.1, d3.2, d1⟩ hroom) ⟨zPc_blind, ?_, ?_⟩ rfl (by rw [List.length_map]; simp at hasl; omega) hl.1 rfl (lv_room (zcat_sum rest hrest)) hd ⟨by show _ + (_ - _) ≤ _; omega, by show _ + (_ - _) ≤ _; omega⟩) hS (hfr rfl r.1 rfl)
      · have := va_recv hK.1 hP (zcl_at (show sh.2.1 < 13 by omega)) ((zws_at hsh).trans (by rw [zel_0 hs0]))
        rw [hscl] at this
        exact this
      · intro U hU hW
        have := hPc U hU hW
        rw [List.map_cons, zcv_r hv0] at this
        exact this
  · rename_i kx
    simp only [Bool.and_eq_true, decide_eq_true_eq] at hh
    obtain ⟨⟨e1, e0, e2⟩, hany⟩ := hh
    rw [hj] at hany
    obtain ⟨q, hq, q1, q2, q3, q4⟩ := zml_ok hany
    obtain ⟨f1, -, f2, -⟩ := zml_facts q hq
    rw [q4] at f2
    have hw := zml_word hq (by omega)
    rw [q1, q2, q4] at hw
    have hn3 := zlen_of hn rfl
    subst hn3
    have hhow := f2 q3
    obtain ⟨hret, h13⟩ := zini_ret j hj2
    have hret := hret hhow
    unfold zrecv at hrecv2
    rw [if_neg (by omega), List.getLast?_reverse] at hrecv2
    cases as with
    | nil => cases hrecv2
    | cons v0 vs =>
      simp only [List.head?_cons, Bool.and_eq_true, beq_iff_eq, Bool.or_eq_true] at hrecv2
      obtain ⟨hv0, -⟩ := hrecv2
      have hform := zform (args := args) hts hj2
      rw [if_neg (by omega)] at hform
      rw [if_neg (by omega)] at d1
      rw [List.map_cons, zcv_r hv0, List.reverse_cons, List.append_assoc]
      refine z_back (va_runI (As := vs.map (zcv adK ad)) (rest := rest.map (zcv adK ad)) ⟨hx, hb, hml, hown, hts⟩ hMet (cwI (zna j - 1) hts (zWs_good hj2) (show zWs j = Cond.code (zy j) (zb j) (zmL j) none :: zTb by rw [← hret]; rfl) rfl rfl (hts _ (zini h13)) (hts _ hw) (hts _ hform) (d4.mp hhow) ⟨d3.1, d3.2, d1⟩ hroom) ⟨zPc_blind, ?_⟩ rfl (by rw [List.length_map]; simp at hasl; omega) hl.1 rfl (lv_room (zcat_sum rest hrest)) hd ⟨by show _ + (_ - _) ≤ _; omega, by show _ + (_ - _) ≤ _; omega⟩) hS (hfr rfl r.1 rfl)
      intro U hU hW
      have := hPc U hU hW
      rw [List.map_cons, zcv_r hv0] at this
      exact this
  · rename_i kx
    simp only [Bool.and_eq_true, decide_eq_true_eq, Bool.or_eq_true] at hh
    obtain ⟨⟨e1, e0, e2⟩, hany⟩ := hh
    rw [hj] at hany
    have hn3 := zlen_of hn rfl
    subst hn3
    have h13 := (zini_ret j hj2).2
    have hform := zform (args := args) hts hj2
    rcases hany with hany | hany
    · obtain ⟨q, hq, q1, q2, q3, q4⟩ := zml_ok hany
      obtain ⟨f1, -, -, f2, -⟩ := zml_facts q hq
      rw [q4, q1] at f2
      obtain ⟨hhow, hne, howner⟩ := f2 q3
      have hw := zml_word hq (by omega)
      rw [q1, q2, q4, if_neg hne] at hw
      rw [if_neg hne] at hown
      rw [if_pos hhow] at hform d1
      rw [howner] at d3 h13
      have hcls : (zy j).cls = zC own := by rw [← howner]; rfl
      have hgood : GoodIn zTb (wsS (zC own) kx (zy j) (zWs j)) := by
        intro w hw2
        unfold wsS at hw2
        rcases List.mem_append.mp hw2 with h | h
        · simp only [List.mem_cons, List.not_mem_nil, or_false] at h
          rcases h with rfl | rfl | rfl
          · exact ⟨hw, zTb_good hw⟩
          · exact ⟨hform, zTb_good hform⟩
          · exact ⟨zini h13, zTb_good (zini h13)⟩
        · exact zWs_good hj2 w h
      exact z_back (va_runS (As := as.map (zcv adK ad)) (rest := rest.map (zcv adK ad)) ⟨hx, hb, hml, hown, hts⟩ hMet (cwS (zna j) hts hgood rfl rfl rfl ⟨hcls, by rw [hcls]; exact d3.1, by rw [hcls]; exact d3.2, d1⟩ hroom) ⟨zPc_blind, hPc⟩ rfl (by rw [List.length_map]; exact hasl) hl.1 rfl (lv_room (zcat_sum rest hrest)) hd ⟨by show _ + (_ - _) ≤ _; omega, by show _ + (_ - _) ≤ _; omega⟩) hS (hfr rfl r.1 rfl)
    · obtain ⟨q, hq, q1, q2, q3, q4⟩ := zml_ok hany
      obtain ⟨f1, -, -, -, f2⟩ := zml_facts q hq
      rw [q4] at f2
      have hhow := f2 q3
      have hw := hEx.1 q hq q3
      rw [q1, q2, q4] at hw
      rw [if_pos hhow] at hform d1
      exact z_back (va_runSN (As := as.map (zcv adK ad)) (rest := rest.map (zcv adK ad)) (host := "StackedScript") ⟨hx, hb, hml, hown, hts⟩ hMet ⟨va_cnB (zna j) hts (zWs_good hj2) rfl rfl rfl hw (hts _ (zini h13)) ⟨d3.1, d3.2, d1⟩ hroom, hts _ hform, trivial⟩ ⟨zPc_blind, hPc⟩ rfl (by rw [List.length_map]; exact hasl) hl.1 rfl (lv_room (zcat_sum rest hrest)) hd ⟨by show _ + (_ - _) ≤ _; omega, by show _ + (_ - _) ≤ _; omega⟩) hS (hfr rfl r.1 rfl)
  · cases hh
