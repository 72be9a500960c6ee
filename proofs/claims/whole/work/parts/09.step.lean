/-! One row of the small machine, over the real one -/
/-- from every real state that the small machine's state speaks of, the rest goes well -/
def zG (p : Program) (l : Launch) (e : Env) (R : Room) (s : State) (m : MethodId) (args : Array Value) (below : List Frame) (meth : Method) (c : Code) (Q : State → Prop) (D : va_G) (adK : Nat → Nat) (A : Nat → Prop) (nL : Nat) (k : List zIn) (pcs : List Nat) (S0 : List zSh) (ad0 : Nat → Nat) (cA0 : Nat → ClassId) (i : Nat) (ls st : List zV) (S : List zSh) (M : zM) : Prop :=
  ∀ (ad : Nat → Nat) (cA : Nat → ClassId) (H : Heap) (locs : List Loc) (als : Array Slot), zag S0.length ad0 cA0 ad cA → S0.length ≤ S.length → zsl S0 ≤ zsl S → lv_has als nL (zls adK ad 0 ls) → ls.length = nL →
    ((∀ q ∈ k, q.1 < 5 ∨ 7 < q.1) ∨ ∀ v ∈ ls, v.1 ≠ 2) → (∀ v ∈ ls, zok S.length v) → (∀ v ∈ st, zok S.length v ∧ v.1 ≠ 3) → zRep D adK ad cA S M s H A → va_S A s.heap H locs →
    W p l e R s m args below meth c H locs (S.length - S0.length) (zsl S - zsl S0) Q (F0 m (zpc pcs i) als (st.map (zcv adK ad)))
def zAOA (s : State) : Prop := (Cond.arrayOver (.array .int)).before #[] s = true
/-- two statics of the JDK -/
def zStr (A : Nat → Prop) (U : State) (H : Heap) : Prop := va_Z "java/lang/String" "COMPACT_STRINGS" "Z" (.int 1) A U H ∧ va_Zq "jdk/internal/util/Preconditions" "SIOOBE_FORMATTER" "Ljava/util/function/BiFunction;" A U H
/-- what holds throughout a method -/
def zFx (p : Program) (R : Room) (s : State) (m : MethodId) (args : Array Value) (meth : Method) (c : Code) (adK adV : Nat → Nat) (A : Nat → Prop) (nL : Nat) (k : List zIn) (own : Nat) (cc : ByteArray) : Prop :=
  p.tables.exec = Jvm.exec ∧ c.code = cc ∧ c.maxLocals = nL ∧ s.vm.findClass (if own = 13 then R_law else zC own) = some m.cls ∧ (∀ w ∈ zTb, w.before args s = true) ∧ (1 ≤ R.frames ∧ 40 ≤ R.locals) ∧ (∀ q, s.heap.size ≤ q → A q) ∧
  (∀ q ∈ k, q.1 = 41 → zarg q.2 3 = 1 → meth.name = "<init>" ∧ zarg q.2 1 = (own : Int)) ∧ ((∃ q ∈ k, q.1 = 58 ∨ q.1 = 59) → 5 ≤ R.frames ∧ 150 ≤ R.locals) ∧
  (∀ q ∈ zMl, q.2.2.1 = 3 → va_Nw (.methodLinkNest (if q.1 = 13 then R_law else zC q.1) q.2.1 (zy q.2.2.2.1) "StackedScript") s) ∧ va_AO "StackedScript$State" s ∧ zAOA s ∧
  vk_S 17 (zTx.map List.length) (zTx.map (fun t => t.map Int32.ofInt)) adK adV A s s.heap ∧ (∀ q ∈ zTl, vk_R "StackedScript" q.1 (zTs.getD q.2.1 "") (adK q.2.1) s) ∧ zStr A s s.heap
def zOK (op : Nat) (o : zF) (h : zH) : Prop :=
  ∀ (p : Program) (l : Launch) (e : Env) (R : Room) (s : State) (m : MethodId) (args : Array Value) (below : List Frame) (meth : Method) (c : Code) (Q : State → Prop) (D : va_G) (adK adV : Nat → Nat) (A : Nat → Prop) (nL : Nat) (k : List zIn) (pcs : List Nat) (S0 : List zSh) (ad0 : Nat → Nat) (cA0 : Nat → ClassId) (own : Nat) (cc : ByteArray) (x : Instr) (n i : Nat) (a : List Int) (ls st : List zV) (S : List zSh) (M : zM) (r : zR),
    zFx p R s m args meth c adK adV A nL k own cc → decode cc (zpc pcs i) = .ok (x, n) → zpc pcs (i + 1) = zpc pcs i + n → zlenok x n = true → h own pcs i a x = true → (op, a) ∈ k → o a i ls st S M = some r →
    r.2.2.2.1.length - S0.length ≤ R.cells → zsl r.2.2.2.1 - zsl S0 ≤ R.slots →
    zG p l e R s m args below meth c Q D adK A nL k pcs S0 ad0 cA0 r.1 r.2.1 r.2.2.1 r.2.2.2.1 r.2.2.2.2 → zG p l e R s m args below meth c Q D adK A nL k pcs S0 ad0 cA0 i ls st S M
theorem zlen_of {x : Instr} {n k : Nat} (h : zlenok x n = true) (hx : zilen x = some k) : n = k := by
  unfold zlenok at h
  rw [hx] at h
  have : k = n := by simpa using h
  exact this.symm
theorem zTb_at {w : Cond} {k : Nat} {s : State} {args : Array Value} (h : ∀ w ∈ zTb, w.before args s = true) (hk : lw_tbl[k]? = some w) (hg : goodWord w = true) : w.before args s = true := h w (zTb_of hk hg)
theorem zi_jm {pcs : List Nat} {i : Nat} {off t : Int} (h : zjm pcs i off t = true) : (zpc pcs i : Int) + off = (zpc pcs t.toNat : Int) := of_decide_eq_true h
theorem zint {n : Nat} {x : Int} (h : -2147483648 ≤ x ∧ x ≤ 2147483647) : zok n (0, x) ∧ ((0, x) : zV).1 ≠ 3 := ⟨⟨fun _ => h, fun z => absurd z (by decide : (0 : Nat) ≠ 1)⟩, (by decide : (0 : Nat) ≠ 3)⟩
theorem zlng {n : Nat} {x : Int} (h : -2147483648 ≤ x ∧ x ≤ 2147483647) : zok n (2, x) ∧ ((2, x) : zV).1 ≠ 3 := ⟨⟨fun _ => h, fun z => absurd z (by decide : (2 : Nat) ≠ 1)⟩, (by decide : (2 : Nat) ≠ 3)⟩
theorem zk_none (op : Nat) (h : zH) : zOK op zo_none h := by
  intro p l e R s m args below meth c Q D adK adV A nL k pcs S0 ad0 cA0 own cc x n i a ls st S M r F hd hp hn hh hm ho hc hs hG
  cases ho
theorem zk_const : zOK 0 zo_const zh_const := by
  intro p l e R s m args below meth c Q D adK adV A nL k pcs S0 ad0 cA0 own cc x n i a ls st S M r F hd hp hn hh hm ho hc hs hG
  cases ho
  intro ad cA H locs als hag hS0 hZ0 hl hL hst hlk hok hR hS
  dsimp only at hG
  unfold zh_const at hh
  obtain ⟨hx, hb, -, hown, hts, -⟩ := F
  have go : ∀ hr : -2147483648 ≤ zarg a 0 ∧ zarg a 0 ≤ 2147483647, W p l e R s m args below meth c H locs (S.length - S0.length) (zsl S - zsl S0) Q (F0 m (zpc pcs i + n) als (.int (Int32.ofInt (zarg a 0)) :: st.map (zcv adK ad))) := fun hr => by
    have kk := hG ad cA H locs als hag hS0 hZ0 hl hL hst hlk (List.forall_mem_cons.mpr ⟨zint hr, hok⟩) hR hS
    rw [List.map_cons, zcv_0, hp] at kk
    exact kk
  split at hh
  · rename_i v
    obtain ⟨hv, hr⟩ := of_decide_eq_true hh
    rw [zlen_of hn rfl] at hd go
    exact lv_iconst hx hb hd (by rw [hv]) (go (by rw [← hv]; exact hr))
  · rename_i v
    simp only [Bool.and_eq_true, decide_eq_true_eq] at hh
    obtain ⟨⟨hv, hr⟩, h8⟩ := hh
    rw [zlen_of hn rfl] at hd go
    exact lv_bipush hx hb hd (by rw [← hv, h8]) (go (by rw [← hv]; exact hr))
  · rename_i v
    simp only [Bool.and_eq_true, decide_eq_true_eq] at hh
    obtain ⟨⟨hv, hr⟩, h8⟩ := hh
    rw [zlen_of hn rfl] at hd go
    exact lv_sipush hx hb hd (by rw [← hv, h8]) (go (by rw [← hv]; exact hr))
  · rename_i v
    obtain ⟨ho2, rfl, hv⟩ := of_decide_eq_true hh
    rw [zlen_of hn rfl] at hd go
    rw [if_neg (by omega), ho2] at hown
    have go := go (by rw [hv]; decide)
    rw [hv] at go
    exact lv_ldcw (own := "StackedScriptModel") hx hb hown (zTb_at hts zw_ck rfl) hd go
  · cases hh
theorem zk_lconst : zOK 1 zo_lconst zh_lconst := by
  intro p l e R s m args below meth c Q D adK adV A nL k pcs S0 ad0 cA0 own cc x n i a ls st S M r F hd hp hn hh hm ho hc hs hG
  cases ho
  intro ad cA H locs als hag hS0 hZ0 hl hL hst hlk hok hR hS
  dsimp only at hG
  unfold zh_lconst at hh
  obtain ⟨hx, hb, -, hown, hts, -⟩ := F
  have go : ∀ hr : -2147483648 ≤ zarg a 0 ∧ zarg a 0 ≤ 2147483647, W p l e R s m args below meth c H locs (S.length - S0.length) (zsl S - zsl S0) Q (F0 m (zpc pcs i + n) als (.long (Int64.ofInt (zarg a 0)) :: st.map (zcv adK ad))) := fun hr => by
    have kk := hG ad cA H locs als hag hS0 hZ0 hl hL hst hlk (List.forall_mem_cons.mpr ⟨zlng hr, hok⟩) hR hS
    rw [List.map_cons, zcv_2, hp] at kk
    exact kk
  split at hh
  · rename_i v
    have hv := of_decide_eq_true hh
    have hlt := v.isLt
    rw [zlen_of hn rfl] at hd go
    exact lv_lconst hx hb hd (by rw [← hv]; rfl) (go (by omega))
  · rename_i v
    simp only [Bool.and_eq_true, decide_eq_true_eq] at hh
    obtain ⟨⟨ho2, hr⟩, hm2⟩ := hh
    rw [zlen_of hn rfl] at hd go
    rw [if_neg (by omega), ho2] at hown
    obtain ⟨q, hq, he⟩ := List.any_eq_true.mp hm2
    simp only [Bool.and_eq_true, beq_iff_eq] at he
    have hw := of_decide_eq_true (List.all_eq_true.mp zw_lc q hq)
    rw [he.1, he.2] at hw
    exact lv_ldc2 (own := "StackedScriptModel") hx hb hown (zTb_at hts hw rfl) hd (go hr)
  · cases hh

theorem zk_iload : zOK 2 (zo_load zisI) zh_iload := by
  intro p l e R s m args below meth c Q D adK adV A nL k pcs S0 ad0 cA0 own cc x n i a ls st S M r F hd hp hn hh hm ho hc hs hG
  unfold zo_load at ho
  split at ho
  · rename_i v hv
    split at ho
    · rename_i hi
      cases ho
      intro ad cA H locs als hag hS0 hZ0 hl hL hst hlk hok hR hS
      dsimp only at hG
      unfold zh_iload at hh
      obtain ⟨hx, hb, -⟩ := F
      have ht : v.1 = 0 := by simpa [zisI] using hi
      have kk := hG ad cA H locs als hag hS0 hZ0 hl hL hst hlk (List.forall_mem_cons.mpr ⟨⟨hlk v (List.mem_of_getElem? hv), by omega⟩, hok⟩) hR hS
      rw [List.map_cons, hp] at kk
      have ha := zls_at hl hv (by omega)
      rw [zcv_i ht] at kk ha
      split at hh
      · have e := of_decide_eq_true hh
        rw [zlen_of hn rfl] at hd kk
        exact lv_iload hx hb hd (by rw [← ha, ← e]; rfl) kk
      · have e := of_decide_eq_true hh
        rw [zlen_of hn rfl] at hd kk
        exact lv_iload_n hx hb hd rfl (by rw [← ha, ← e]; rfl) kk
      · cases hh
    · cases ho
  · cases ho
theorem zk_aload : zOK 3 (zo_load zisA) zh_aload := by
  intro p l e R s m args below meth c Q D adK adV A nL k pcs S0 ad0 cA0 own cc x n i a ls st S M r F hd hp hn hh hm ho hc hs hG
  unfold zo_load at ho
  split at ho
  · rename_i v hv
    split at ho
    · rename_i hi
      cases ho
      intro ad cA H locs als hag hS0 hZ0 hl hL hst hlk hok hR hS
      dsimp only at hG
      unfold zh_aload at hh
      obtain ⟨hx, hb, -⟩ := F
      have ht : v.1 = 1 ∨ v.1 = 4 := by simpa [zisA] using hi
      have kk := hG ad cA H locs als hag hS0 hZ0 hl hL hst hlk (List.forall_mem_cons.mpr ⟨⟨hlk v (List.mem_of_getElem? hv), by omega⟩, hok⟩) hR hS
      rw [List.map_cons, hp] at kk
      have ha := zls_at hl hv (by omega)
      have hr : ∃ q, zcv adK ad v = .ref q := by
        rcases ht with ht | ht
        · exact ⟨_, zcv_r ht⟩
        · exact ⟨_, zcv_t ht⟩
      obtain ⟨q, hq⟩ := hr
      rw [hq] at kk ha
      split at hh
      · have e := of_decide_eq_true hh
        rw [zlen_of hn rfl] at hd kk
        exact lv_aload hx hb hd (by rw [← ha, ← e]; rfl) kk
      · have e := of_decide_eq_true hh
        rw [zlen_of hn rfl] at hd kk
        exact lv_aload_n hx hb hd rfl (by rw [← ha, ← e]; rfl) kk
      · cases hh
    · cases ho
  · cases ho
theorem zk_lload : zOK 4 (zo_load zisL) zh_lload := by
  intro p l e R s m args below meth c Q D adK adV A nL k pcs S0 ad0 cA0 own cc x n i a ls st S M r F hd hp hn hh hm ho hc hs hG
  unfold zo_load at ho
  split at ho
  · rename_i v hv
    split at ho
    · rename_i hi
      cases ho
      intro ad cA H locs als hag hS0 hZ0 hl hL hst hlk hok hR hS
      dsimp only at hG
      unfold zh_lload at hh
      obtain ⟨hx, hb, -⟩ := F
      have ht : v.1 = 2 := by simpa [zisL] using hi
      have kk := hG ad cA H locs als hag hS0 hZ0 hl hL hst hlk (List.forall_mem_cons.mpr ⟨⟨hlk v (List.mem_of_getElem? hv), by omega⟩, hok⟩) hR hS
      rw [List.map_cons, hp] at kk
      have ha := zls_at hl hv (by omega)
      rw [zcv_l ht] at kk ha
      split at hh
      · have e := of_decide_eq_true hh
        rw [zlen_of hn rfl] at hd kk
        exact lv_lload hx hb hd (by rw [← ha, ← e]; rfl) kk
      · have e := of_decide_eq_true hh
        rw [zlen_of hn rfl] at hd kk
        exact lv_lload_n hx hb hd rfl (by rw [← ha, ← e]; rfl) kk
      · cases hh
    · cases ho
  · cases ho
theorem zk_istore : zOK 5 (zo_store zisI) zh_istore := by
  intro p l e R s m args below meth c Q D adK adV A nL k pcs S0 ad0 cA0 own cc x n i a ls st S M r F hd hp hn hh hm ho hc hs hG
  unfold zo_store at ho
  split at ho
  · rename_i v rr
    split at ho
    · rename_i hi
      obtain ⟨hi, hlt⟩ := hi
      cases ho
      intro ad cA H locs als hag hS0 hZ0 hl hL hst hlk hok hR hS
      dsimp only at hG
      unfold zh_istore at hh
      obtain ⟨hx, hb, -⟩ := F
      have ht : v.1 = 0 := by simpa [zisI] using hi
      have hn2 : ∀ w ∈ ls, w.1 ≠ 2 := by
        rcases hst with q | q
        · have := q _ hm
          omega
        · exact q
      have hn3 : ∀ w ∈ ls.set (zarg a 0).toNat v, w.1 ≠ 2 := fun w hw => by
        rcases List.mem_or_eq_of_mem_set hw with q | rfl
        · exact hn2 w q
        · omega
      have go : ∀ als' : Array Slot, lv_has als' nL ((( zarg a 0).toNat, zcv adK ad v) :: (zls adK ad 0 ls).filter (fun q => !(q.1 == (zarg a 0).toNat) && !(q.1 + 1 == (zarg a 0).toNat && q.2.category == 2))) → W p l e R s m args below meth c H locs (S.length - S0.length) (zsl S - zsl S0) Q (F0 m (zpc pcs i + n) als' (rr.map (zcv adK ad))) := fun als' h' => by
        have kk := hG ad cA H locs als' hag hS0 hZ0 (zls_set hlt hn2 h') (by rw [List.length_set]; exact hL) (Or.inr hn3) (fun w hw => by
          rcases List.mem_or_eq_of_mem_set hw with q | rfl
          · exact hlk w q
          · exact (hok w List.mem_cons_self).1) (List.forall_mem_cons.mp hok).2 hR hS
        rw [hp] at kk
        exact kk
      rw [List.map_cons]
      rw [zcv_i ht] at go ⊢
      split at hh
      · have e := of_decide_eq_true hh
        rw [zlen_of hn rfl] at hd go
        exact lv_istore hx hb hd hl (by omega) rfl (fun als' h' => go als' (by rw [← e]; exact h'))
      · have e := of_decide_eq_true hh
        rw [zlen_of hn rfl] at hd go
        exact lv_istore_n hx hb hd rfl hl (by omega) rfl (fun als' h' => go als' (by rw [← e]; exact h'))
      · cases hh
    · cases ho
  · cases ho
theorem zk_astore : zOK 6 (zo_store zisA) zh_astore := by
  intro p l e R s m args below meth c Q D adK adV A nL k pcs S0 ad0 cA0 own cc x n i a ls st S M r F hd hp hn hh hm ho hc hs hG
  unfold zo_store at ho
  split at ho
  · rename_i v rr
    split at ho
    · rename_i hi
      obtain ⟨hi, hlt⟩ := hi
      cases ho
      intro ad cA H locs als hag hS0 hZ0 hl hL hst hlk hok hR hS
      dsimp only at hG
      unfold zh_astore at hh
      obtain ⟨hx, hb, -⟩ := F
      have ht : v.1 = 1 ∨ v.1 = 4 := by simpa [zisA] using hi
      have hn2 : ∀ w ∈ ls, w.1 ≠ 2 := by
        rcases hst with q | q
        · have := q _ hm
          omega
        · exact q
      have hn3 : ∀ w ∈ ls.set (zarg a 0).toNat v, w.1 ≠ 2 := fun w hw => by
        rcases List.mem_or_eq_of_mem_set hw with q | rfl
        · exact hn2 w q
        · omega
      have go : ∀ als' : Array Slot, lv_has als' nL ((( zarg a 0).toNat, zcv adK ad v) :: (zls adK ad 0 ls).filter (fun q => !(q.1 == (zarg a 0).toNat) && !(q.1 + 1 == (zarg a 0).toNat && q.2.category == 2))) → W p l e R s m args below meth c H locs (S.length - S0.length) (zsl S - zsl S0) Q (F0 m (zpc pcs i + n) als' (rr.map (zcv adK ad))) := fun als' h' => by
        have kk := hG ad cA H locs als' hag hS0 hZ0 (zls_set hlt hn2 h') (by rw [List.length_set]; exact hL) (Or.inr hn3) (fun w hw => by
          rcases List.mem_or_eq_of_mem_set hw with q | rfl
          · exact hlk w q
          · exact (hok w List.mem_cons_self).1) (List.forall_mem_cons.mp hok).2 hR hS
        rw [hp] at kk
        exact kk
      rw [List.map_cons]
      have hr : ∃ q, zcv adK ad v = .ref q := by
        rcases ht with ht | ht
        · exact ⟨_, zcv_r ht⟩
        · exact ⟨_, zcv_t ht⟩
      obtain ⟨q, hq⟩ := hr
      rw [hq] at go ⊢
      split at hh
      · have e := of_decide_eq_true hh
        rw [zlen_of hn rfl] at hd go
        exact lv_astore hx hb hd hl (by omega) rfl (fun als' h' => go als' (by rw [← e]; exact h'))
      · have e := of_decide_eq_true hh
        rw [zlen_of hn rfl] at hd go
        exact lv_astore_n hx hb hd rfl hl (by omega) rfl (fun als' h' => go als' (by rw [← e]; exact h'))
      · cases hh
    · cases ho
  · cases ho
theorem zk_iinc : zOK 7 zo_iinc zh_iinc := by
  intro p l e R s m args below meth c Q D adK adV A nL k pcs S0 ad0 cA0 own cc x n i a ls st S M r F hd hp hn hh hm ho hc hs hG
  unfold zo_iinc at ho
  split at ho
  · rename_i v hv
    split at ho
    · rename_i hi
      obtain ⟨ht, hi⟩ := hi
      cases ho
      intro ad cA H locs als hag hS0 hZ0 hl hL hst hlk hok hR hS
      dsimp only at hG
      unfold zh_iinc at hh
      obtain ⟨hx, hb, -⟩ := F
      have hlt : (zarg a 0).toNat < ls.length := (List.getElem?_eq_some_iff.mp hv).1
      have hn2 : ∀ w ∈ ls, w.1 ≠ 2 := by
        rcases hst with q | q
        · have := q _ hm
          omega
        · exact q
      obtain ⟨j, hj⟩ := zls_get (adK := adK) (ad := ad) hv (by omega)
      rw [zcv_i ht] at hj
      split at hh
      · rename_i k' d'
        obtain ⟨e, e2⟩ := of_decide_eq_true hh
        rw [zlen_of hn rfl] at hd hp
        have e3 : (zarg a 0).toNat = k' := by rw [← e]; rfl
        rw [e3] at hj
        refine lv_iinc (v := Int32.ofInt (v.2 + zarg a 1)) hx hb hd hl hj (by rw [e2, zi_add]) (by omega) rfl (fun als' h' => ?_)
        have kk := hG ad cA H locs als' hag hS0 hZ0 (zls_set (v := (0, v.2 + zarg a 1)) hlt hn2 (by rw [e3]; exact h')) (by rw [List.length_set]; exact hL) (Or.inr (fun w hw => by
          rcases List.mem_or_eq_of_mem_set hw with q | rfl
          · exact hn2 w q
          · exact (by decide : (0 : Nat) ≠ 2))) (fun w hw => by
          rcases List.mem_or_eq_of_mem_set hw with q | rfl
          · exact hlk w q
          · exact (zint hi).1) hok hR hS
        rw [hp] at kk
        exact kk
      · cases hh
    · cases ho
  · cases ho
/-- two ints, an int -/
theorem zk_bin {op : Nat} {ok : Int → Int → Bool} {f : Int → Int → Int} {y : Instr} (g : Int32 → Int32 → Int32) (hy : zilen y = some 1)
    (row : ∀ {p : Program} {l : Launch} {e : Env} {R : Room} {s : State} {m : MethodId} {args : Array Value} {below : List Frame} {meth : Method} {c : Code} {H : Heap} {locs : List Loc} {cells slots : Nat} {Q : State → Prop} {cc : ByteArray} {pc : Nat} {ls : Array Slot} {rest : List Value} {u v : Int}, p.tables.exec = Jvm.exec → c.code = cc → ok u v = true → (-2147483648 ≤ u ∧ u ≤ 2147483647) → (-2147483648 ≤ v ∧ v ≤ 2147483647) → decode cc pc = .ok (y, 1) →
      W p l e R s m args below meth c H locs cells slots Q (F0 m (pc + 1) ls (.int (g (Int32.ofInt u) (Int32.ofInt v)) :: rest)) → W p l e R s m args below meth c H locs cells slots Q (F0 m pc ls (.int (Int32.ofInt v) :: .int (Int32.ofInt u) :: rest)))
    (hv : ∀ u v : Int, ok u v = true → (-2147483648 ≤ u ∧ u ≤ 2147483647) → (-2147483648 ≤ v ∧ v ≤ 2147483647) → g (Int32.ofInt u) (Int32.ofInt v) = Int32.ofInt (f u v) ∧ -2147483648 ≤ f u v ∧ f u v ≤ 2147483647) : zOK op (zo_bin 0 ok f) (zh_is y) := by
  intro p l e R s m args below meth c Q D adK adV A nL k pcs S0 ad0 cA0 own cc x n i a ls st S M r F hd hp hn hh hm ho hc hs hG
  unfold zo_bin at ho
  split at ho
  · rename_i w v rr
    split at ho
    · rename_i hi
      obtain ⟨⟨hw, hv1⟩, hk⟩ := hi
      cases ho
      intro ad cA H locs als hag hS0 hZ0 hl hL hst hlk hok hR hS
      dsimp only at hG
      unfold zh_is at hh
      have e := of_decide_eq_true hh
      subst e
      obtain ⟨hx, hb, -⟩ := F
      rw [zlen_of hn hy] at hd hp
      obtain ⟨ow, ov, orr⟩ := (List.forall_mem_cons.mp hok).imp_right List.forall_mem_cons.mp
      have rw' := ow.1.1 (Or.inl hw)
      have rv' := ov.1.1 (Or.inl hv1)
      obtain ⟨e1, e2⟩ := hv v.2 w.2 hk rv' rw'
      have kk := hG ad cA H locs als hag hS0 hZ0 hl hL hst hlk (List.forall_mem_cons.mpr ⟨zint e2, orr⟩) hR hS
      rw [List.map_cons, zcv_0, hp, ← e1] at kk
      rw [List.map_cons, List.map_cons, zcv_i hw, zcv_i hv1]
      exact row hx hb hk rv' rw' hd kk
    · cases ho
  · cases ho
theorem zk_i2l : zOK 17 (zo_un 0 (fun _ => true) 2 (fun x => x)) (zh_is .i2l) := by
  intro p l e R s m args below meth c Q D adK adV A nL k pcs S0 ad0 cA0 own cc x n i a ls st S M r F hd hp hn hh hm ho hc hs hG
  unfold zo_un at ho
  split at ho
  · rename_i v rr
    split at ho
    · rename_i hi
      cases ho
      intro ad cA H locs als hag hS0 hZ0 hl hL hst hlk hok hR hS
      dsimp only at hG
      unfold zh_is at hh
      have e := of_decide_eq_true hh
      subst e
      obtain ⟨hx, hb, -⟩ := F
      rw [zlen_of hn rfl] at hd hp
      obtain ⟨ov, orr⟩ := List.forall_mem_cons.mp hok
      have rv' := ov.1.1 (Or.inl hi.1)
      have kk := hG ad cA H locs als hag hS0 hZ0 hl hL hst hlk (List.forall_mem_cons.mpr ⟨zlng rv', orr⟩) hR hS
      rw [List.map_cons, zcv_2, hp] at kk
      rw [List.map_cons, zcv_i hi.1]
      exact lv_i2l hx hb hd (by apply Int64.toInt_inj.mp; rw [Int32.toInt_toInt64, zi32 rv', zi64 rv']) kk
    · cases ho
  · cases ho
theorem zk_i2b : zOK 18 (zo_un 0 (fun _ => true) 0 zbyte) (zh_is .i2b) := by
  intro p l e R s m args below meth c Q D adK adV A nL k pcs S0 ad0 cA0 own cc x n i a ls st S M r F hd hp hn hh hm ho hc hs hG
  unfold zo_un at ho
  split at ho
  · rename_i v rr
    split at ho
    · rename_i hi
      cases ho
      intro ad cA H locs als hag hS0 hZ0 hl hL hst hlk hok hR hS
      dsimp only at hG
      unfold zh_is at hh
      have e := of_decide_eq_true hh
      subst e
      obtain ⟨hx, hb, -⟩ := F
      rw [zlen_of hn rfl] at hd hp
      obtain ⟨ov, orr⟩ := List.forall_mem_cons.mp hok
      obtain ⟨e1, e2⟩ := zi_by v.2
      have kk := hG ad cA H locs als hag hS0 hZ0 hl hL hst hlk (List.forall_mem_cons.mpr ⟨zint e2, orr⟩) hR hS
      rw [List.map_cons, zcv_0, hp] at kk
      rw [List.map_cons, zcv_i hi.1]
      exact lv_i2b hx hb hd e1 kk
    · cases ho
  · cases ho
theorem zk_lcmp : zOK 19 (zo_bin 2 (fun _ _ => true) zlc) (zh_is .lcmp) := by
  intro p l e R s m args below meth c Q D adK adV A nL k pcs S0 ad0 cA0 own cc x n i a ls st S M r F hd hp hn hh hm ho hc hs hG
  unfold zo_bin at ho
  split at ho
  · rename_i w v rr
    split at ho
    · rename_i hi
      obtain ⟨⟨hw, hv1⟩, hk⟩ := hi
      cases ho
      intro ad cA H locs als hag hS0 hZ0 hl hL hst hlk hok hR hS
      dsimp only at hG
      unfold zh_is at hh
      have e := of_decide_eq_true hh
      subst e
      obtain ⟨hx, hb, -⟩ := F
      rw [zlen_of hn rfl] at hd hp
      obtain ⟨ow, ov, orr⟩ := (List.forall_mem_cons.mp hok).imp_right List.forall_mem_cons.mp
      have rw' := ow.1.1 (Or.inr hw)
      have rv' := ov.1.1 (Or.inr hv1)
      have kk := hG ad cA H locs als hag hS0 hZ0 hl hL hst hlk (List.forall_mem_cons.mpr ⟨zint (by unfold zlc; split <;> (try split) <;> omega), orr⟩) hR hS
      rw [List.map_cons, zcv_0, hp, ← zi_cm rv' rw'] at kk
      rw [List.map_cons, List.map_cons, zcv_l hw, zcv_l hv1]
      exact W.lcmp hx hb hd kk
    · cases ho
  · cases ho
theorem zk_dup : zOK 20 zo_dup (zh_is .dup) := by
  intro p l e R s m args below meth c Q D adK adV A nL k pcs S0 ad0 cA0 own cc x n i a ls st S M r F hd hp hn hh hm ho hc hs hG
  unfold zo_dup at ho
  split at ho
  · rename_i v rr
    split at ho
    · rename_i hi
      cases ho
      intro ad cA H locs als hag hS0 hZ0 hl hL hst hlk hok hR hS
      dsimp only at hG
      unfold zh_is at hh
      have e := of_decide_eq_true hh
      subst e
      obtain ⟨hx, hb, -⟩ := F
      rw [zlen_of hn rfl] at hd hp
      have kk := hG ad cA H locs als hag hS0 hZ0 hl hL hst hlk (List.forall_mem_cons.mpr ⟨hok v List.mem_cons_self, hok⟩) hR hS
      rw [List.map_cons, List.map_cons, hp] at kk
      rw [List.map_cons]
      exact lv_dup hx hb hd (zcv_cat hi) kk
    · cases ho
  · cases ho
theorem zk_pop : zOK 21 zo_pop (zh_is .pop) := by
  intro p l e R s m args below meth c Q D adK adV A nL k pcs S0 ad0 cA0 own cc x n i a ls st S M r F hd hp hn hh hm ho hc hs hG
  unfold zo_pop at ho
  split at ho
  · rename_i v rr
    split at ho
    · rename_i hi
      cases ho
      intro ad cA H locs als hag hS0 hZ0 hl hL hst hlk hok hR hS
      dsimp only at hG
      unfold zh_is at hh
      have e := of_decide_eq_true hh
      subst e
      obtain ⟨hx, hb, -⟩ := F
      rw [zlen_of hn rfl] at hd hp
      have kk := hG ad cA H locs als hag hS0 hZ0 hl hL hst hlk (List.forall_mem_cons.mp hok).2 hR hS
      rw [hp] at kk
      rw [List.map_cons]
      exact lv_pop hx hb hd (zcv_cat hi) kk
    · cases ho
  · cases ho
theorem zk_dup2 : zOK 22 zo_dup2 (zh_is .dup2) := by
  intro p l e R s m args below meth c Q D adK adV A nL k pcs S0 ad0 cA0 own cc x n i a ls st S M r F hd hp hn hh hm ho hc hs hG
  unfold zo_dup2 at ho
  split at ho
  · rename_i v w rr
    split at ho
    · rename_i hi
      cases ho
      intro ad cA H locs als hag hS0 hZ0 hl hL hst hlk hok hR hS
      dsimp only at hG
      unfold zh_is at hh
      have e := of_decide_eq_true hh
      subst e
      obtain ⟨hx, hb, -⟩ := F
      rw [zlen_of hn rfl] at hd hp
      have kk := hG ad cA H locs als hag hS0 hZ0 hl hL hst hlk (List.forall_mem_cons.mpr ⟨hok v List.mem_cons_self, List.forall_mem_cons.mpr ⟨hok w (List.mem_cons_of_mem _ List.mem_cons_self), hok⟩⟩) hR hS
      simp only [List.map_cons] at kk ⊢
      rw [hp] at kk
      exact lv_dup2_11 hx hb hd (zcv_cat hi.1) (zcv_cat hi.2) kk
    · cases ho
  · cases ho
theorem zk_ifeq : zOK 23 (zo_if (fun x => decide (x = 0))) (zh_if .eq) := by
  intro p l e R s m args below meth c Q D adK adV A nL k pcs S0 ad0 cA0 own cc x n i a ls st S M r F hd hp hn hh hm ho hc hs hG
  unfold zo_if at ho
  split at ho
  · rename_i v rr
    split at ho
    · rename_i hi
      intro ad cA H locs als hag hS0 hZ0 hl hL hst hlk hok hR hS
      unfold zh_if at hh
      split at hh
      · rename_i q off
        simp only [Bool.and_eq_true, decide_eq_true_eq] at hh
        obtain ⟨rfl, hj⟩ := hh
        have hj := zi_jm hj
        obtain ⟨hx, hb, -⟩ := F
        rw [zlen_of hn rfl] at hd hp
        obtain ⟨ov, orr⟩ := List.forall_mem_cons.mp hok
        have rv := ov.1.1 (Or.inl hi)
        have z0 : -2147483648 ≤ (0 : Int) ∧ (0 : Int) ≤ 2147483647 := by decide
        have key := zi_eq rv z0
        rw [List.map_cons, zcv_i hi]
        refine lv_if_eq hx hb hd hj (fun q => ?_) (fun q => ?_)
        · rw [if_pos (decide_eq_true (key.mp q))] at ho
          cases ho
          exact hG ad cA H locs als hag hS0 hZ0 hl hL hst hlk orr hR hS
        · rw [if_neg (fun z => q (key.mpr (of_decide_eq_true z)))] at ho
          cases ho
          have kk := hG ad cA H locs als hag hS0 hZ0 hl hL hst hlk orr hR hS
          dsimp only at kk
          rw [hp] at kk
          exact kk
      · cases hh
    · cases ho
  · cases ho
theorem zk_ifne : zOK 24 (zo_if (fun x => decide (x ≠ 0))) (zh_if .ne) := by
  intro p l e R s m args below meth c Q D adK adV A nL k pcs S0 ad0 cA0 own cc x n i a ls st S M r F hd hp hn hh hm ho hc hs hG
  unfold zo_if at ho
  split at ho
  · rename_i v rr
    split at ho
    · rename_i hi
      intro ad cA H locs als hag hS0 hZ0 hl hL hst hlk hok hR hS
      unfold zh_if at hh
      split at hh
      · rename_i q off
        simp only [Bool.and_eq_true, decide_eq_true_eq] at hh
        obtain ⟨rfl, hj⟩ := hh
        have hj := zi_jm hj
        obtain ⟨hx, hb, -⟩ := F
        rw [zlen_of hn rfl] at hd hp
        obtain ⟨ov, orr⟩ := List.forall_mem_cons.mp hok
        have rv := ov.1.1 (Or.inl hi)
        have z0 : -2147483648 ≤ (0 : Int) ∧ (0 : Int) ≤ 2147483647 := by decide
        have key := not_congr (zi_eq rv z0)
        rw [List.map_cons, zcv_i hi]
        refine lv_if_ne hx hb hd hj (fun q => ?_) (fun q => ?_)
        · rw [if_pos (decide_eq_true (key.mp q))] at ho
          cases ho
          exact hG ad cA H locs als hag hS0 hZ0 hl hL hst hlk orr hR hS
        · rw [if_neg (fun z => (of_decide_eq_true z) ((zi_eq rv z0).mp q))] at ho
          cases ho
          have kk := hG ad cA H locs als hag hS0 hZ0 hl hL hst hlk orr hR hS
          dsimp only at kk
          rw [hp] at kk
          exact kk
      · cases hh
    · cases ho
  · cases ho
theorem zk_iflt : zOK 25 (zo_if (fun x => decide (x < 0))) (zh_if .lt) := by
  intro p l e R s m args below meth c Q D adK adV A nL k pcs S0 ad0 cA0 own cc x n i a ls st S M r F hd hp hn hh hm ho hc hs hG
  unfold zo_if at ho
  split at ho
  · rename_i v rr
    split at ho
    · rename_i hi
      intro ad cA H locs als hag hS0 hZ0 hl hL hst hlk hok hR hS
      unfold zh_if at hh
      split at hh
      · rename_i q off
        simp only [Bool.and_eq_true, decide_eq_true_eq] at hh
        obtain ⟨rfl, hj⟩ := hh
        have hj := zi_jm hj
        obtain ⟨hx, hb, -⟩ := F
        rw [zlen_of hn rfl] at hd hp
        obtain ⟨ov, orr⟩ := List.forall_mem_cons.mp hok
        have rv := ov.1.1 (Or.inl hi)
        have z0 : -2147483648 ≤ (0 : Int) ∧ (0 : Int) ≤ 2147483647 := by decide
        have key := zi_lt rv z0
        rw [List.map_cons, zcv_i hi]
        refine lv_if_lt hx hb hd hj (fun q => ?_) (fun q => ?_)
        · rw [if_pos (decide_eq_true (key.mp q))] at ho
          cases ho
          exact hG ad cA H locs als hag hS0 hZ0 hl hL hst hlk orr hR hS
        · rw [if_neg (fun z => q (key.mpr (of_decide_eq_true z)))] at ho
          cases ho
          have kk := hG ad cA H locs als hag hS0 hZ0 hl hL hst hlk orr hR hS
          dsimp only at kk
          rw [hp] at kk
          exact kk
      · cases hh
    · cases ho
  · cases ho
theorem zk_ifge : zOK 26 (zo_if (fun x => decide (0 ≤ x))) (zh_if .ge) := by
  intro p l e R s m args below meth c Q D adK adV A nL k pcs S0 ad0 cA0 own cc x n i a ls st S M r F hd hp hn hh hm ho hc hs hG
  unfold zo_if at ho
  split at ho
  · rename_i v rr
    split at ho
    · rename_i hi
      intro ad cA H locs als hag hS0 hZ0 hl hL hst hlk hok hR hS
      unfold zh_if at hh
      split at hh
      · rename_i q off
        simp only [Bool.and_eq_true, decide_eq_true_eq] at hh
        obtain ⟨rfl, hj⟩ := hh
        have hj := zi_jm hj
        obtain ⟨hx, hb, -⟩ := F
        rw [zlen_of hn rfl] at hd hp
        obtain ⟨ov, orr⟩ := List.forall_mem_cons.mp hok
        have rv := ov.1.1 (Or.inl hi)
        have z0 : -2147483648 ≤ (0 : Int) ∧ (0 : Int) ≤ 2147483647 := by decide
        have key := zi_le z0 rv
        rw [List.map_cons, zcv_i hi]
        refine lv_if_ge hx hb hd hj (fun q => ?_) (fun q => ?_)
        · rw [if_pos (decide_eq_true (key.mp q))] at ho
          cases ho
          exact hG ad cA H locs als hag hS0 hZ0 hl hL hst hlk orr hR hS
        · rw [if_neg (fun z => q (key.mpr (of_decide_eq_true z)))] at ho
          cases ho
          have kk := hG ad cA H locs als hag hS0 hZ0 hl hL hst hlk orr hR hS
          dsimp only at kk
          rw [hp] at kk
          exact kk
      · cases hh
    · cases ho
  · cases ho
theorem zk_ifgt : zOK 27 (zo_if (fun x => decide (0 < x))) (zh_if .gt) := by
  intro p l e R s m args below meth c Q D adK adV A nL k pcs S0 ad0 cA0 own cc x n i a ls st S M r F hd hp hn hh hm ho hc hs hG
  unfold zo_if at ho
  split at ho
  · rename_i v rr
    split at ho
    · rename_i hi
      intro ad cA H locs als hag hS0 hZ0 hl hL hst hlk hok hR hS
      unfold zh_if at hh
      split at hh
      · rename_i q off
        simp only [Bool.and_eq_true, decide_eq_true_eq] at hh
        obtain ⟨rfl, hj⟩ := hh
        have hj := zi_jm hj
        obtain ⟨hx, hb, -⟩ := F
        rw [zlen_of hn rfl] at hd hp
        obtain ⟨ov, orr⟩ := List.forall_mem_cons.mp hok
        have rv := ov.1.1 (Or.inl hi)
        have z0 : -2147483648 ≤ (0 : Int) ∧ (0 : Int) ≤ 2147483647 := by decide
        have key := zi_lt z0 rv
        rw [List.map_cons, zcv_i hi]
        refine lv_if_gt hx hb hd hj (fun q => ?_) (fun q => ?_)
        · rw [if_pos (decide_eq_true (key.mp q))] at ho
          cases ho
          exact hG ad cA H locs als hag hS0 hZ0 hl hL hst hlk orr hR hS
        · rw [if_neg (fun z => q (key.mpr (of_decide_eq_true z)))] at ho
          cases ho
          have kk := hG ad cA H locs als hag hS0 hZ0 hl hL hst hlk orr hR hS
          dsimp only at kk
          rw [hp] at kk
          exact kk
      · cases hh
    · cases ho
  · cases ho
theorem zk_ifle : zOK 28 (zo_if (fun x => decide (x ≤ 0))) (zh_if .le) := by
  intro p l e R s m args below meth c Q D adK adV A nL k pcs S0 ad0 cA0 own cc x n i a ls st S M r F hd hp hn hh hm ho hc hs hG
  unfold zo_if at ho
  split at ho
  · rename_i v rr
    split at ho
    · rename_i hi
      intro ad cA H locs als hag hS0 hZ0 hl hL hst hlk hok hR hS
      unfold zh_if at hh
      split at hh
      · rename_i q off
        simp only [Bool.and_eq_true, decide_eq_true_eq] at hh
        obtain ⟨rfl, hj⟩ := hh
        have hj := zi_jm hj
        obtain ⟨hx, hb, -⟩ := F
        rw [zlen_of hn rfl] at hd hp
        obtain ⟨ov, orr⟩ := List.forall_mem_cons.mp hok
        have rv := ov.1.1 (Or.inl hi)
        have z0 : -2147483648 ≤ (0 : Int) ∧ (0 : Int) ≤ 2147483647 := by decide
        have key := zi_le rv z0
        rw [List.map_cons, zcv_i hi]
        refine lv_if_le hx hb hd hj (fun q => ?_) (fun q => ?_)
        · rw [if_pos (decide_eq_true (key.mp q))] at ho
          cases ho
          exact hG ad cA H locs als hag hS0 hZ0 hl hL hst hlk orr hR hS
        · rw [if_neg (fun z => q (key.mpr (of_decide_eq_true z)))] at ho
          cases ho
          have kk := hG ad cA H locs als hag hS0 hZ0 hl hL hst hlk orr hR hS
          dsimp only at kk
          rw [hp] at kk
          exact kk
      · cases hh
    · cases ho
  · cases ho
theorem zk_iceq : zOK 29 (zo_cmp (fun x y => decide (x = y))) (zh_cmp .eq) := by
  intro p l e R s m args below meth c Q D adK adV A nL k pcs S0 ad0 cA0 own cc x n i a ls st S M r F hd hp hn hh hm ho hc hs hG
  unfold zo_cmp at ho
  split at ho
  · rename_i w v rr
    split at ho
    · rename_i hi
      intro ad cA H locs als hag hS0 hZ0 hl hL hst hlk hok hR hS
      unfold zh_cmp at hh
      split at hh
      · rename_i q off
        simp only [Bool.and_eq_true, decide_eq_true_eq] at hh
        obtain ⟨rfl, hj⟩ := hh
        have hj := zi_jm hj
        obtain ⟨hx, hb, -⟩ := F
        rw [zlen_of hn rfl] at hd hp
        obtain ⟨ow, ov, orr⟩ := (List.forall_mem_cons.mp hok).imp_right List.forall_mem_cons.mp
        have rv := ov.1.1 (Or.inl hi.2)
        have rw2 := ow.1.1 (Or.inl hi.1)
        have key := zi_eq rv rw2
        rw [List.map_cons, List.map_cons, zcv_i hi.1, zcv_i hi.2]
        refine lv_icmp_eq hx hb hd hj (fun q => ?_) (fun q => ?_)
        · rw [if_pos (decide_eq_true (key.mp q))] at ho
          cases ho
          exact hG ad cA H locs als hag hS0 hZ0 hl hL hst hlk orr hR hS
        · rw [if_neg (fun z => q (key.mpr (of_decide_eq_true z)))] at ho
          cases ho
          have kk := hG ad cA H locs als hag hS0 hZ0 hl hL hst hlk orr hR hS
          dsimp only at kk
          rw [hp] at kk
          exact kk
      · cases hh
    · cases ho
  · cases ho
theorem zk_icne : zOK 30 (zo_cmp (fun x y => decide (x ≠ y))) (zh_cmp .ne) := by
  intro p l e R s m args below meth c Q D adK adV A nL k pcs S0 ad0 cA0 own cc x n i a ls st S M r F hd hp hn hh hm ho hc hs hG
  unfold zo_cmp at ho
  split at ho
  · rename_i w v rr
    split at ho
    · rename_i hi
      intro ad cA H locs als hag hS0 hZ0 hl hL hst hlk hok hR hS
      unfold zh_cmp at hh
      split at hh
      · rename_i q off
        simp only [Bool.and_eq_true, decide_eq_true_eq] at hh
        obtain ⟨rfl, hj⟩ := hh
        have hj := zi_jm hj
        obtain ⟨hx, hb, -⟩ := F
        rw [zlen_of hn rfl] at hd hp
        obtain ⟨ow, ov, orr⟩ := (List.forall_mem_cons.mp hok).imp_right List.forall_mem_cons.mp
        have rv := ov.1.1 (Or.inl hi.2)
        have rw2 := ow.1.1 (Or.inl hi.1)
        have key := not_congr (zi_eq rv rw2)
        rw [List.map_cons, List.map_cons, zcv_i hi.1, zcv_i hi.2]
        refine lv_icmp_ne hx hb hd hj (fun q => ?_) (fun q => ?_)
        · rw [if_pos (decide_eq_true (key.mp q))] at ho
          cases ho
          exact hG ad cA H locs als hag hS0 hZ0 hl hL hst hlk orr hR hS
        · rw [if_neg (fun z => (of_decide_eq_true z) ((zi_eq rv rw2).mp q))] at ho
          cases ho
          have kk := hG ad cA H locs als hag hS0 hZ0 hl hL hst hlk orr hR hS
          dsimp only at kk
          rw [hp] at kk
          exact kk
      · cases hh
    · cases ho
  · cases ho
theorem zk_iclt : zOK 31 (zo_cmp (fun x y => decide (x < y))) (zh_cmp .lt) := by
  intro p l e R s m args below meth c Q D adK adV A nL k pcs S0 ad0 cA0 own cc x n i a ls st S M r F hd hp hn hh hm ho hc hs hG
  unfold zo_cmp at ho
  split at ho
  · rename_i w v rr
    split at ho
    · rename_i hi
      intro ad cA H locs als hag hS0 hZ0 hl hL hst hlk hok hR hS
      unfold zh_cmp at hh
      split at hh
      · rename_i q off
        simp only [Bool.and_eq_true, decide_eq_true_eq] at hh
        obtain ⟨rfl, hj⟩ := hh
        have hj := zi_jm hj
        obtain ⟨hx, hb, -⟩ := F
        rw [zlen_of hn rfl] at hd hp
        obtain ⟨ow, ov, orr⟩ := (List.forall_mem_cons.mp hok).imp_right List.forall_mem_cons.mp
        have rv := ov.1.1 (Or.inl hi.2)
        have rw2 := ow.1.1 (Or.inl hi.1)
        have key := zi_lt rv rw2
        rw [List.map_cons, List.map_cons, zcv_i hi.1, zcv_i hi.2]
        refine lv_icmp_lt hx hb hd hj (fun q => ?_) (fun q => ?_)
        · rw [if_pos (decide_eq_true (key.mp q))] at ho
          cases ho
          exact hG ad cA H locs als hag hS0 hZ0 hl hL hst hlk orr hR hS
        · rw [if_neg (fun z => q (key.mpr (of_decide_eq_true z)))] at ho
          cases ho
          have kk := hG ad cA H locs als hag hS0 hZ0 hl hL hst hlk orr hR hS
          dsimp only at kk
          rw [hp] at kk
          exact kk
      · cases hh
    · cases ho
  · cases ho
theorem zk_icge : zOK 32 (zo_cmp (fun x y => decide (y ≤ x))) (zh_cmp .ge) := by
  intro p l e R s m args below meth c Q D adK adV A nL k pcs S0 ad0 cA0 own cc x n i a ls st S M r F hd hp hn hh hm ho hc hs hG
  unfold zo_cmp at ho
  split at ho
  · rename_i w v rr
    split at ho
    · rename_i hi
      intro ad cA H locs als hag hS0 hZ0 hl hL hst hlk hok hR hS
      unfold zh_cmp at hh
      split at hh
      · rename_i q off
        simp only [Bool.and_eq_true, decide_eq_true_eq] at hh
        obtain ⟨rfl, hj⟩ := hh
        have hj := zi_jm hj
        obtain ⟨hx, hb, -⟩ := F
        rw [zlen_of hn rfl] at hd hp
        obtain ⟨ow, ov, orr⟩ := (List.forall_mem_cons.mp hok).imp_right List.forall_mem_cons.mp
        have rv := ov.1.1 (Or.inl hi.2)
        have rw2 := ow.1.1 (Or.inl hi.1)
        have key := zi_le rw2 rv
        rw [List.map_cons, List.map_cons, zcv_i hi.1, zcv_i hi.2]
        refine lv_icmp_ge hx hb hd hj (fun q => ?_) (fun q => ?_)
        · rw [if_pos (decide_eq_true (key.mp q))] at ho
          cases ho
          exact hG ad cA H locs als hag hS0 hZ0 hl hL hst hlk orr hR hS
        · rw [if_neg (fun z => q (key.mpr (of_decide_eq_true z)))] at ho
          cases ho
          have kk := hG ad cA H locs als hag hS0 hZ0 hl hL hst hlk orr hR hS
          dsimp only at kk
          rw [hp] at kk
          exact kk
      · cases hh
    · cases ho
  · cases ho
theorem zk_icgt : zOK 33 (zo_cmp (fun x y => decide (y < x))) (zh_cmp .gt) := by
  intro p l e R s m args below meth c Q D adK adV A nL k pcs S0 ad0 cA0 own cc x n i a ls st S M r F hd hp hn hh hm ho hc hs hG
  unfold zo_cmp at ho
  split at ho
  · rename_i w v rr
    split at ho
    · rename_i hi
      intro ad cA H locs als hag hS0 hZ0 hl hL hst hlk hok hR hS
      unfold zh_cmp at hh
      split at hh
      · rename_i q off
        simp only [Bool.and_eq_true, decide_eq_true_eq] at hh
        obtain ⟨rfl, hj⟩ := hh
        have hj := zi_jm hj
        obtain ⟨hx, hb, -⟩ := F
        rw [zlen_of hn rfl] at hd hp
        obtain ⟨ow, ov, orr⟩ := (List.forall_mem_cons.mp hok).imp_right List.forall_mem_cons.mp
        have rv := ov.1.1 (Or.inl hi.2)
        have rw2 := ow.1.1 (Or.inl hi.1)
        have key := zi_lt rw2 rv
        rw [List.map_cons, List.map_cons, zcv_i hi.1, zcv_i hi.2]
        refine lv_icmp_gt hx hb hd hj (fun q => ?_) (fun q => ?_)
        · rw [if_pos (decide_eq_true (key.mp q))] at ho
          cases ho
          exact hG ad cA H locs als hag hS0 hZ0 hl hL hst hlk orr hR hS
        · rw [if_neg (fun z => q (key.mpr (of_decide_eq_true z)))] at ho
          cases ho
          have kk := hG ad cA H locs als hag hS0 hZ0 hl hL hst hlk orr hR hS
          dsimp only at kk
          rw [hp] at kk
          exact kk
      · cases hh
    · cases ho
  · cases ho
theorem zk_icle : zOK 34 (zo_cmp (fun x y => decide (x ≤ y))) (zh_cmp .le) := by
  intro p l e R s m args below meth c Q D adK adV A nL k pcs S0 ad0 cA0 own cc x n i a ls st S M r F hd hp hn hh hm ho hc hs hG
  unfold zo_cmp at ho
  split at ho
  · rename_i w v rr
    split at ho
    · rename_i hi
      intro ad cA H locs als hag hS0 hZ0 hl hL hst hlk hok hR hS
      unfold zh_cmp at hh
      split at hh
      · rename_i q off
        simp only [Bool.and_eq_true, decide_eq_true_eq] at hh
        obtain ⟨rfl, hj⟩ := hh
        have hj := zi_jm hj
        obtain ⟨hx, hb, -⟩ := F
        rw [zlen_of hn rfl] at hd hp
        obtain ⟨ow, ov, orr⟩ := (List.forall_mem_cons.mp hok).imp_right List.forall_mem_cons.mp
        have rv := ov.1.1 (Or.inl hi.2)
        have rw2 := ow.1.1 (Or.inl hi.1)
        have key := zi_le rv rw2
        rw [List.map_cons, List.map_cons, zcv_i hi.1, zcv_i hi.2]
        refine lv_icmp_le hx hb hd hj (fun q => ?_) (fun q => ?_)
        · rw [if_pos (decide_eq_true (key.mp q))] at ho
          cases ho
          exact hG ad cA H locs als hag hS0 hZ0 hl hL hst hlk orr hR hS
        · rw [if_neg (fun z => q (key.mpr (of_decide_eq_true z)))] at ho
          cases ho
          have kk := hG ad cA H locs als hag hS0 hZ0 hl hL hst hlk orr hR hS
          dsimp only at kk
          rw [hp] at kk
          exact kk
      · cases hh
    · cases ho
  · cases ho
theorem zk_goto : zOK 35 zo_goto zh_goto := by
  intro p l e R s m args below meth c Q D adK adV A nL k pcs S0 ad0 cA0 own cc x n i a ls st S M r F hd hp hn hh hm ho hc hs hG
  cases ho
  intro ad cA H locs als hag hS0 hZ0 hl hL hst hlk hok hR hS
  unfold zh_goto at hh
  split at hh
  · have hj := zi_jm hh
    obtain ⟨hx, hb, -⟩ := F
    rw [zlen_of hn rfl] at hd
    exact lv_goto hx hb hd hj (hG ad cA H locs als hag hS0 hZ0 hl hL hst hlk hok hR hS)
  · cases hh
theorem zk_ifnull : zOK 36 zo_ifnull zh_ifnull := by
  intro p l e R s m args below meth c Q D adK adV A nL k pcs S0 ad0 cA0 own cc x n i a ls st S M r F hd hp hn hh hm ho hc hs hG
  unfold zo_ifnull at ho
  split at ho
  · rename_i v rr
    unfold zh_ifnull at hh
    split at hh
    · have hj := zi_jm hh
      obtain ⟨hx, hb, -⟩ := F
      rw [zlen_of hn rfl] at hd hp
      split at ho
      · rename_i hi
        cases ho
        intro ad cA H locs als hag hS0 hZ0 hl hL hst hlk hok hR hS
        rw [List.map_cons, zcv_n hi]
        exact lv_ifnullN hx hb hd hj (hG ad cA H locs als hag hS0 hZ0 hl hL hst hlk (List.forall_mem_cons.mp hok).2 hR hS)
      · split at ho
        · rename_i hi
          cases ho
          intro ad cA H locs als hag hS0 hZ0 hl hL hst hlk hok hR hS
          have kk := hG ad cA H locs als hag hS0 hZ0 hl hL hst hlk (List.forall_mem_cons.mp hok).2 hR hS
          rw [hp] at kk
          rw [List.map_cons, zcv_r hi]
          exact lv_ifnull hx hb hd kk
        · cases ho
    · cases hh
  · cases ho
