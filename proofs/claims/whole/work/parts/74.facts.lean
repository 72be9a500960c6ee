/-! What stands at the law's entry -/
def zTm (i : Nat) : Term := .string "StackedScript" (zTl.getD i (0, 0, 0)).1
def zTv (i : Nat) : Term := .field (zTm i) "java/lang/String" "value" "[B"
noncomputable def zFlt : List Cond := flatC (Jvm.Cond.and given_1 narrow_1)
def zSw (i : Nat) : List Cond := [Cond.exactly (zTm i) "java/lang/String", Cond.eq (.field (zTm i) "java/lang/String" "coder" "B") (.int 0), Cond.arrayOf (zTv i) .byte, Cond.eq (.length (zTv i)) (.int (Int32.ofNat ((zTx.map List.length).getD i 0)))]
def zSe (i j : Nat) : Cond := Cond.eq (.elem (zTv i) (.int (Int32.ofNat j))) (.int (((zTx.map (fun t => t.map Int32.ofInt)).getD i []).getD j 0))
def zSn (i j : Nat) : Cond := Cond.not (Cond.eq (zTm i) (zTm j))
def zBl (j : Nat) : List Cond := zSw j ++ ((List.range ((zTx.map List.length).getD j 0)).map (zSe j) ++ (List.range j).map (fun i => zSn i j))
set_option maxRecDepth 20000 in
theorem zw_bl : zFlt.drop 9 = (List.range 17).flatMap zBl := by decide +kernel
theorem zw_in {j : Nat} (hj : j < 17) {c : Cond} (hc : c ∈ zBl j) : c ∈ zFlt := List.mem_of_mem_drop (i := 9) (by rw [zw_bl]; exact List.mem_flatMap.mpr ⟨j, List.mem_range.mpr hj, hc⟩)
theorem zw_sl : ∀ i, i < 17 → (zTx.map List.length).getD i 0 < 2 ^ 31 := by decide +kernel
theorem zw_sc : Cond.eq (.static "java/lang/String" "COMPACT_STRINGS" "Z") (.int 1) ∈ zFlt ∧ Cond.isRef (.static "jdk/internal/util/Preconditions" "SIOOBE_FORMATTER" "Ljava/util/function/BiFunction;") ∈ zFlt := by decide +kernel
theorem zw_st : Cond.laysStatic "java/lang/String" "COMPACT_STRINGS" "Z" ∈ lw_tbl ∧ Cond.laysStatic "jdk/internal/util/Preconditions" "SIOOBE_FORMATTER" "Ljava/util/function/BiFunction;" ∈ lw_tbl ∧ Cond.initialized "java/lang/String" ∈ lw_tbl ∧ Cond.initialized "jdk/internal/util/Preconditions" ∈ lw_tbl ∧ Cond.arrayOver (.object "StackedScript$State") ∈ lw_tbl ∧ Cond.arrayOver (.array .int) ∈ lw_tbl := by decide +kernel
theorem zw_tq : ∀ q ∈ zTl, q.2.1 < 17 ∧ (zTl.getD q.2.1 (0, 0, 0)).1 = q.1 := by decide +kernel
theorem zK_str {args : Array Value} {s : State} (h : (Jvm.Cond.and given_1 narrow_1).before args s = true) {A : Nat → Prop} (hA : ∀ a : Nat, a < s.heap.size → ¬ A a) : ∃ adK adV : Nat → Nat, vk_S 17 (zTx.map List.length) (zTx.map (fun t => t.map Int32.ofInt)) adK adV A s s.heap ∧ ∀ i : Nat, i < 17 → (zTm i).eval args s none [] s = some (.ref (adK i)) := by
  have hf := flat_of_before _ h
  have h1 : ∀ i, i < 17 → ∀ c ∈ zSw i, c.before args s = true := fun i hi c hc => hf c (zw_in hi (List.mem_append_left _ hc))
  refine vk_Sof (tm := zTm) zw_sl (fun i hi => h1 i hi _ (by simp [zSw])) (fun i hi => h1 i hi _ (by simp [zSw])) (fun i hi => h1 i hi _ (by simp [zSw, zTv])) (fun i hi => h1 i hi _ (by simp [zSw, zTv])) (fun i hi j hj => ?_) (fun i j hi hj hne => ?_) hA
  · exact hf (zSe i j) (zw_in hi (List.mem_append_right _ (List.mem_append_left _ (List.mem_map.mpr ⟨j, List.mem_range.mpr hj, rfl⟩))))
  · have g : ∀ i j : Nat, j < 17 → i < j → (zSn i j).before args s = true := fun i j hj hij => hf _ (zw_in hj (List.mem_append_right _ (List.mem_append_right _ (List.mem_map.mpr ⟨i, List.mem_range.mpr hij, rfl⟩))))
    rcases Nat.lt_or_ge i j with q | q
    · exact Or.inl (g i j hj q)
    · exact Or.inr (g j i hi (by omega))
theorem zK_cls {args : Array Value} {s : State} (hts : ∀ w ∈ lw_tbl, w.before args s = true) : ∃ D : va_G, va_K D zcl [] s := by
  have h0 : ∀ c : Nat, ∃ q : ClassId × (Nat → Nat), c < 13 → u_Kn s (zC c) (zT c) (zN c) q.1 q.2 := by
    intro c
    by_cases hc : c < 13
    · have h := zall_at zw_cls hc
      simp only [Bool.and_eq_true, decide_eq_true_eq] at h
      obtain ⟨⟨h1, -⟩, h3⟩ := h
      obtain ⟨cC, iS, hk⟩ := u_known (C := zC c) (T := zT c) (N := zN c) (n := zN c) hts (fun w hw => by
        obtain ⟨k, hk, rfl⟩ := List.mem_map.mp hw
        exact List.mem_of_getElem? (of_decide_eq_true (List.all_eq_true.mp h3 k hk))) (hts _ (List.mem_of_getElem? h1))
      exact ⟨(cC, iS), fun _ => hk⟩
    · obtain ⟨cC, iS, -⟩ := u_known (C := zC 0) (T := zT 0) (N := zN 0) (n := zN 0) hts (fun w hw => by
        have h := zall_at zw_cls (show 0 < 13 by decide)
        simp only [Bool.and_eq_true, decide_eq_true_eq] at h
        obtain ⟨k, hk, rfl⟩ := List.mem_map.mp hw
        exact List.mem_of_getElem? (of_decide_eq_true (List.all_eq_true.mp h.2 k hk))) (by
        have h := zall_at zw_cls (show 0 < 13 by decide)
        simp only [Bool.and_eq_true, decide_eq_true_eq] at h
        exact hts _ (List.mem_of_getElem? h.1.1))
      exact ⟨(cC, iS), fun z => absurd z hc⟩
  obtain ⟨d, hd⟩ := Classical.axiomOfChoice h0
  refine ⟨(fun c => (d c).1, fun c => (d c).2), fun c q hq => ?_, fun k q h => by simp at h⟩
  have hc : c < 13 := by
    have := (List.getElem?_eq_some_iff.mp hq).1
    simpa [zcl] using this
  rw [zcl_at hc] at hq
  cases hq
  exact hd c hc
theorem zF_law {p : Program} {s : State} {m : MethodId} {meth : Method} {c : Code} {b : Nat} (hx : p.tables.exec = Jvm.exec) (hb : c.code = code) (hml : c.maxLocals = 4) (hown : s.vm.findClass R_law = some m.cls) (hts : ∀ w ∈ lw_tbl, w.before #[Value.ref b] s = true) (hgv : (Jvm.Cond.and given_1 narrow_1).before #[Value.ref b] s = true) :
    ∃ adK adV : Nat → Nat, adK 17 = b ∧ zFx p room_1 s m #[Value.ref b] meth c adK adV (fun q => s.heap.size ≤ q) 4 zkL 13 code := by
  have hA : ∀ a : Nat, a < s.heap.size → ¬ (fun q => s.heap.size ≤ q) a := fun a ha => Nat.not_le.mpr ha
  have hf := flat_of_before _ hgv
  obtain ⟨adK, adV, hS, hE⟩ := zK_str hgv hA
  have e : ∀ i, i < 17 → (fun k => if k = 17 then b else adK k) i = adK i := fun i hi => if_neg (by omega)
  obtain ⟨w1, w2, w3, w4, w5, w6⟩ := zw_st
  refine ⟨fun k => if k = 17 then b else adK k, adV, if_pos rfl, hx, hb, hml, hown, fun w hw => hts w (List.mem_filter.mp hw).1, ⟨by decide, by decide⟩, fun q h => h, fun q hq h41 => absurd h41 (zL_ops q hq).1, fun ⟨q, hq, h⟩ => ?_, fun q hq h3 => ?_, va_AO.of (hts _ w5), (show zAOA s from hts _ w6), ?_, fun q hq => ?_, ?_, ?_⟩
  · have := (zL_ops q hq).2
    omega
  · have hw := of_decide_eq_true (List.all_eq_true.mp zw_ml q hq)
    rw [if_pos h3] at hw
    exact va_Nw.of rfl (hts _ (List.mem_of_getElem? hw))
  · exact ⟨fun i hi => by rw [e i hi]; exact hS.1 i hi, fun i j hi hj z => hS.2 i j hi hj (by rw [e i hi, e j hj] at z; exact z)⟩
  · obtain ⟨q1, q2⟩ := zw_tq q hq
    rw [e _ q1]
    have hw := of_decide_eq_true (List.all_eq_true.mp zw_tl q hq)
    have he := hE _ q1
    unfold zTm at he
    rw [q2] at he
    exact vk_R.of (hts _ (List.mem_of_getElem? hw)) he
  · exact va_Zof (hts _ w1) (hts _ w3) (va_eqi (hf _ zw_sc.1)) hA
  · exact va_Zqof (hts _ w2) (hts _ w4) (hf _ zw_sc.2) hA
