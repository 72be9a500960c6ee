/-! What the small machine's state says of the real one's -/
noncomputable def zcl : List vw_C := (List.range 13).map (fun c => (zC c, zT c, zN c))
theorem zcl_at {c : Nat} (h : c < 13) : zcl[c]? = some (zC c, zT c, zN c) := by
  unfold zcl
  rw [List.getElem?_map, List.getElem?_range h]
  rfl
/-- the words that a method needs beside its own code -/
noncomputable def zTb : List Cond := lw_tbl.filter goodWord
theorem zTb_of {w : Cond} {k : Nat} (h : lw_tbl[k]? = some w) (hg : goodWord w = true) : w ∈ zTb := List.mem_filter.mpr ⟨List.mem_of_getElem? h, hg⟩
theorem zTb_good {w : Cond} (h : w ∈ zTb) : (w.onTables && w.keeps) = true ∨ ∃ ty, w = .arrayClass ty := good_of_word (List.mem_filter.mp h).2
def zcv (adK ad : Nat → Nat) (v : zV) : Value := if v.1 = 0 then .int (Int32.ofInt v.2) else if v.1 = 1 then .ref (ad v.2.toNat) else if v.1 = 2 then .long (Int64.ofInt v.2) else if v.1 = 4 then .ref (adK v.2.toNat) else .null
theorem zcv_0 (adK ad : Nat → Nat) (x : Int) : zcv adK ad (0, x) = .int (Int32.ofInt x) := rfl
theorem zcv_1 (adK ad : Nat → Nat) (x : Int) : zcv adK ad (1, x) = .ref (ad x.toNat) := rfl
theorem zcv_2 (adK ad : Nat → Nat) (x : Int) : zcv adK ad (2, x) = .long (Int64.ofInt x) := rfl
theorem zcv_4 (adK ad : Nat → Nat) (x : Int) : zcv adK ad (4, x) = .ref (adK x.toNat) := rfl
theorem zcv_i {adK ad : Nat → Nat} {v : zV} (h : v.1 = 0) : zcv adK ad v = .int (Int32.ofInt v.2) := if_pos h
theorem zcv_r {adK ad : Nat → Nat} {v : zV} (h : v.1 = 1) : zcv adK ad v = .ref (ad v.2.toNat) := by
  unfold zcv
  rw [if_neg (by omega), if_pos h]
theorem zcv_l {adK ad : Nat → Nat} {v : zV} (h : v.1 = 2) : zcv adK ad v = .long (Int64.ofInt v.2) := by
  unfold zcv
  rw [if_neg (by omega), if_neg (by omega), if_pos h]
theorem zcv_t {adK ad : Nat → Nat} {v : zV} (h : v.1 = 4) : zcv adK ad v = .ref (adK v.2.toNat) := by
  unfold zcv
  rw [if_neg (by omega), if_neg (by omega), if_neg (by omega), if_pos h]
theorem zcv_n {adK ad : Nat → Nat} {v : zV} (h : v.1 = 5) : zcv adK ad v = .null := by
  unfold zcv
  rw [if_neg (by omega), if_neg (by omega), if_neg (by omega), if_neg (by omega)]
theorem zcv_cat {adK ad : Nat → Nat} {v : zV} (h : v.1 ≠ 2) : (zcv adK ad v).category = 1 := by
  unfold zcv
  by_cases h0 : v.1 = 0
  · rw [if_pos h0]; rfl
  · rw [if_neg h0]
    by_cases h1 : v.1 = 1
    · rw [if_pos h1]; rfl
    · rw [if_neg h1, if_neg h]
      by_cases h4 : v.1 = 4
      · rw [if_pos h4]; rfl
      · rw [if_neg h4]; rfl
theorem zcv_cat2 {adK ad : Nat → Nat} (v : zV) : (zcv adK ad v).category ≤ 2 := by
  rcases lv_cat (zcv adK ad v) with h | h <;> omega
def zok (n : Nat) (v : zV) : Prop := ((v.1 = 0 ∨ v.1 = 2) → -2147483648 ≤ v.2 ∧ v.2 ≤ 2147483647) ∧ (v.1 = 1 → 0 ≤ v.2 ∧ v.2 < n)
theorem zok.mono {n k : Nat} {v : zV} (h : zok n v) (hk : n ≤ k) : zok k v := ⟨h.1, fun z => ⟨(h.2 z).1, by have := (h.2 z).2; omega⟩⟩
def zag (n : Nat) (ad0 : Nat → Nat) (cA0 : Nat → ClassId) (ad : Nat → Nat) (cA : Nat → ClassId) : Prop := ∀ k, k < n → ad k = ad0 k ∧ cA k = cA0 k
theorem zag.rf {n : Nat} {ad : Nat → Nat} {cA : Nat → ClassId} : zag n ad cA ad cA := fun _ _ => ⟨rfl, rfl⟩
theorem zag.tr {n k : Nat} {a0 a1 a2 : Nat → Nat} {c0 c1 c2 : Nat → ClassId} (h1 : zag n a0 c0 a1 c1) (h2 : zag k a1 c1 a2 c2) (hk : n ≤ k) : zag n a0 c0 a2 c2 := fun i hi => ⟨((h2 i (by omega)).1).trans (h1 i hi).1, ((h2 i (by omega)).2).trans (h1 i hi).2⟩
theorem zcv_ag {adK ad0 ad : Nat → Nat} {cA0 cA : Nat → ClassId} {n : Nat} {v : zV} (h : zag n ad0 cA0 ad cA) (hv : zok n v) : zcv adK ad v = zcv adK ad0 v := by
  unfold zcv
  by_cases h1 : v.1 = 1
  · have := hv.2 h1
    rw [if_neg (by omega), if_pos h1, if_neg (by omega), if_pos h1, (h _ (show v.2.toNat < n by omega)).1]
  · rw [if_neg h1, if_neg h1]
/-- the locals, as the kit's rows want them -/
def zls (adK ad : Nat → Nat) : Nat → List zV → List (Nat × Value)
  | _, [] => []
  | k, v :: r => if v.1 = 3 then zls adK ad (k + 1) r else (k, zcv adK ad v) :: zls adK ad (k + 1) r
theorem zls_mem {adK ad : Nat → Nat} : ∀ (ls : List zV) (k : Nat) (q : Nat × Value), q ∈ zls adK ad k ls ↔ ∃ (j : Nat) (v : zV), ls[j]? = some v ∧ v.1 ≠ 3 ∧ q = (k + j, zcv adK ad v) := by
  intro ls
  induction ls with
  | nil => intro k q; simp [zls]
  | cons v r ih =>
    intro k q
    unfold zls
    by_cases h : v.1 = 3
    · rw [if_pos h, ih]
      constructor
      · rintro ⟨j, w, h1, h2, rfl⟩
        exact ⟨j + 1, w, by simpa using h1, h2, by rw [show k + 1 + j = k + (j + 1) by omega]⟩
      · rintro ⟨j, w, h1, h2, rfl⟩
        cases j with
        | zero => simp only [List.getElem?_cons_zero, Option.some.injEq] at h1; subst h1; exact absurd h h2
        | succ j => exact ⟨j, w, by simpa using h1, h2, by rw [show k + 1 + j = k + (j + 1) by omega]⟩
    · rw [if_neg h, List.mem_cons, ih]
      constructor
      · rintro (rfl | ⟨j, w, h1, h2, rfl⟩)
        · exact ⟨0, v, rfl, h, by simp⟩
        · exact ⟨j + 1, w, by simpa using h1, h2, by rw [show k + 1 + j = k + (j + 1) by omega]⟩
      · rintro ⟨j, w, h1, h2, rfl⟩
        cases j with
        | zero => simp only [List.getElem?_cons_zero, Option.some.injEq] at h1; subst h1; exact Or.inl (by simp)
        | succ j => exact Or.inr ⟨j, w, by simpa using h1, h2, by rw [show k + 1 + j = k + (j + 1) by omega]⟩
theorem zls_at {adK ad : Nat → Nat} {als : Array Slot} {nL : Nat} {ls : List zV} (h : lv_has als nL (zls adK ad 0 ls)) {k : Nat} {v : zV} (hv : ls[k]? = some v) (h3 : v.1 ≠ 3) : als[k]? = some (.val (zcv adK ad v)) :=
  h.2.2 (k, zcv adK ad v) ((zls_mem ls 0 _).mpr ⟨k, v, hv, h3, by simp⟩)
theorem lv_has.of {als : Array Slot} {nL : Nat} {l l' : List (Nat × Value)} (h : lv_has als nL l) (hs : ∀ q ∈ l', q ∈ l) : lv_has als nL l' := ⟨h.1, h.2.1, fun q hq => h.2.2 q (hs q hq)⟩
/-- behind a store -/
theorem zls_set {adK ad : Nat → Nat} {als : Array Slot} {nL k : Nat} {ls : List zV} {v : zV} (hk : k < ls.length) (hn : ∀ w ∈ ls, w.1 ≠ 2)
    (h : lv_has als nL ((k, zcv adK ad v) :: (zls adK ad 0 ls).filter (fun q => !(q.1 == k) && !(q.1 + 1 == k && q.2.category == 2)))) : lv_has als nL (zls adK ad 0 (ls.set k v)) := by
  refine h.of (fun q hq => ?_)
  obtain ⟨j, w, h1, h2, rfl⟩ := (zls_mem _ 0 q).mp hq
  rw [Nat.zero_add]
  by_cases hj : j = k
  · subst hj
    rw [List.getElem?_set_self hk] at h1
    cases h1
    exact List.mem_cons_self
  · rw [List.getElem?_set_ne (Ne.symm hj)] at h1
    refine List.mem_cons_of_mem _ (List.mem_filter.mpr ⟨(zls_mem _ 0 _).mpr ⟨j, w, h1, h2, by simp⟩, ?_⟩)
    have hc := zcv_cat (adK := adK) (ad := ad) (hn w (List.mem_of_getElem? h1))
    simp [hj, hc]
theorem zls_get {adK ad : Nat → Nat} {ls : List zV} {k : Nat} {v : zV} (hv : ls[k]? = some v) (h3 : v.1 ≠ 3) : ∃ j : Nat, (zls adK ad 0 ls)[j]? = some (k, zcv adK ad v) :=
  List.getElem?_of_mem ((zls_mem ls 0 _).mpr ⟨k, v, hv, h3, by simp⟩)
theorem zls_ag {adK ad0 ad : Nat → Nat} {cA0 cA : Nat → ClassId} {n : Nat} (h : zag n ad0 cA0 ad cA) : ∀ (ls : List zV) (k : Nat), (∀ v ∈ ls, zok n v) → zls adK ad k ls = zls adK ad0 k ls := by
  intro ls
  induction ls with
  | nil => intro k _; rfl
  | cons v r ih =>
    intro k hv
    unfold zls
    rw [ih (k + 1) (fun w hw => hv w (List.mem_cons_of_mem _ hw)), zcv_ag h (hv v List.mem_cons_self)]
/-- the cells -/
def zel (adK ad : Nat → Nat) (cA : Nat → ClassId) (M : zM) (k : Nat) (q : zSh) : va_E :=
  if q.1 = 0 then .inr (q.2.1, (List.range (zN q.2.1)).map (fun j => if zkd q.2.1 j = 1 then zcv adK ad (zrf (q.2.2.getD j (-1))) else .int (Int32.ofInt (M k j))))
  else if q.1 = 4 then .inl (cA k, q.2.1, .inr (.inr (.inr (.inr (fun j => if j < q.2.1 then some (ad (q.2.2.getD 0 0 + j).toNat) else none)))))
  else if q.1 = 5 then .inl (cA k, q.2.1, .inr (.inr (.inr (.inr (fun j => if M k j ≤ 0 then none else some (ad (M k j - 1).toNat))))))
  else .inl (cA k, q.2.1, .inl (fun j => Int32.ofInt (M k j)))
def zws (adK ad : Nat → Nat) (cA : Nat → ClassId) (S : List zSh) (M : zM) : va_W := (List.range S.length).map (fun k => (ad k, zel adK ad cA M k (S.getD k (9, 0, []))))
theorem zws_at {adK ad : Nat → Nat} {cA : Nat → ClassId} {S : List zSh} {M : zM} {k : Nat} {q : zSh} (h : S[k]? = some q) : (zws adK ad cA S M)[k]? = some (ad k, zel adK ad cA M k q) := by
  have hk : k < S.length := (List.getElem?_eq_some_iff.mp h).1
  unfold zws
  rw [List.getElem?_map, List.getElem?_range hk]
  simp [List.getD, h]
theorem zws_len {adK ad : Nat → Nat} {cA : Nat → ClassId} {S : List zSh} {M : zM} : (zws adK ad cA S M).length = S.length := by simp [zws]
def zaty (q : zSh) : FieldType := if q.1 = 1 then .int else if q.1 = 2 then .byte else if q.1 = 3 then .boolean else if q.1 = 4 then .array .int else .object (zC (q.2.2.getD 0 0).toNat)
def zval (S : List zSh) (M : zM) : Prop :=
  (∀ (k : Nat) (q : zSh), S[k]? = some q → (q.1 ≤ 5 ∧ q.2.1 ≤ 2000) ∧ (q.1 = 0 → q.2.1 < 13 ∧ q.2.2.length = zN q.2.1 ∧ ∀ j : Nat, q.2.2.getD j (-1) < S.length) ∧ (q.1 = 4 → 0 ≤ q.2.2.getD 0 0 ∧ q.2.2.getD 0 0 + q.2.1 ≤ S.length) ∧ (q.1 = 5 → q.2.2.getD 0 0 = 10 ∧ ∀ j : Int, M k j ≤ S.length)) ∧
  (∀ (k : Nat) (q : zSh), S[k]? = some q → q.1 ≠ 5 → ∀ j : Int, -2147483648 ≤ M k j ∧ M k j ≤ 2147483647) ∧
  (∀ k : Nat, S.length ≤ k → ∀ j : Int, M k j = 0)
def zKs (D : va_G) (cA : Nat → ClassId) (S : List zSh) (s : State) : Prop := va_K D zcl [] s ∧ ∀ (k : Nat) (q : zSh), S[k]? = some q → q.1 ≠ 0 → ArrOfT s (cA k) (zaty q) ∧ va_RA s (cA k) (zaty q)
def zRep (D : va_G) (adK ad : Nat → Nat) (cA : Nat → ClassId) (S : List zSh) (M : zM) (s : State) (H : Heap) (A : Nat → Prop) : Prop := va_P D zcl (zws adK ad cA S M) H ∧ va_D A (zws adK ad cA S M) ∧ zKs D cA S s ∧ zval S M
theorem zKs.one {D : va_G} {cA : Nat → ClassId} {S : List zSh} {s : State} (h : zKs D cA S s) {k : Nat} {q : zSh} (hq : S[k]? = some q) (h0 : q.1 ≠ 0) : va_K D zcl [(cA k, zaty q)] s := ⟨h.1.1, fun j x hx => by
  have hz : j < 1 := (List.getElem?_eq_some_iff.mp hx).1
  rw [show j = 0 by omega] at hx
  cases hx
  exact h.2 k q hq h0⟩
theorem zKs.moved {D : va_G} {cA : Nat → ClassId} {S : List zSh} {u U : State} (hvm : u.vm.Alike U.vm) (h : zKs D cA S u) : zKs D cA S U := ⟨va_K.moved hvm h.1, fun k q hq h0 => ⟨arrOfT_moved hvm (h.2 k q hq h0).1, (h.2 k q hq h0).2.moved hvm⟩⟩
theorem zsh_of {S : List zSh} {a : Int} {q : zSh} (h : zsh S a = some q) : 0 ≤ a ∧ S[a.toNat]? = some q := by
  unfold zsh at h
  split at h
  · cases h
  · exact ⟨by omega, h⟩
/-- writing one place of one cell -/
theorem zws_set {adK ad : Nat → Nat} {cA : Nat → ClassId} {S : List zSh} {M : zM} {k : Nat} {q : zSh} {i v : Int} {x : va_E} (h : S[k]? = some q) (hx : zel adK ad cA (zup M k i v) k q = x) : (zws adK ad cA S M).set k (ad k, x) = zws adK ad cA S (zup M k i v) := by
  subst hx
  apply List.ext_getElem?
  intro j
  have hk : k < S.length := (List.getElem?_eq_some_iff.mp h).1
  by_cases hj : j = k
  · subst hj
    rw [List.getElem?_set_self (by rw [zws_len]; exact hk), zws_at h]
  · rw [List.getElem?_set_ne (Ne.symm hj)]
    cases hq : S[j]? with
    | none =>
      have hl : S.length ≤ j := by simpa using hq
      rw [List.getElem?_eq_none (by rw [zws_len]; exact hl), List.getElem?_eq_none (by rw [zws_len]; exact hl)]
    | some q' =>
      rw [zws_at hq, zws_at hq]
      have e : ∀ z : Int, zup M k i v (j : Int) z = M j z := fun z => zup_na (by omega)
      unfold zel
      simp only [e]
/-- cells counted -/
def zsz (q : zSh) : Nat := if q.1 = 0 then zN q.2.1 else q.2.1
def zsl (S : List zSh) : Nat := (S.map zsz).sum
theorem zsl_app (S T : List zSh) : zsl (S ++ T) = zsl S + zsl T := by simp [zsl]
