/-! An instruction of the bytecode against a row of the small machine: own class, places, row number, arguments, instruction -/
def zpc (pcs : List Nat) (i : Nat) : Nat := pcs.getD i 0
def zjm (pcs : List Nat) (i : Nat) (off t : Int) : Bool := decide ((zpc pcs i : Int) + off = (zpc pcs t.toNat : Int))
abbrev zH : Type := Nat → List Nat → Nat → List Int → Instr → Bool
def zh_const : zH := fun own _ _ a x => match x with
  | .iconst v => decide (v = zarg a 0 ∧ -2147483648 ≤ v ∧ v ≤ 2147483647)
  | .bipush v => decide (v = zarg a 0 ∧ -2147483648 ≤ v ∧ v ≤ 2147483647) && decide ((Int8.ofInt v).toInt32 = Int32.ofInt v)
  | .sipush v => decide (v = zarg a 0 ∧ -2147483648 ≤ v ∧ v ≤ 2147483647) && decide ((Int16.ofInt v).toInt32 = Int32.ofInt v)
  | .ldc_w k => decide (own = 12 ∧ k = 370 ∧ zarg a 0 = 268435456)
  | _ => false
def zh_lconst : zH := fun own _ _ a x => match x with
  | .lconst v => decide (((v : Nat) : Int) = zarg a 0)
  | .ldc2_w k => decide (own = 12 ∧ -2147483648 ≤ zarg a 0 ∧ zarg a 0 ≤ 2147483647) && zLc.any (fun e => e.1 == k && e.2.1 == zarg a 0)
  | _ => false
def zh_iload : zH := fun _ _ _ a x => match x with
  | .iload k => decide ((k : Int) = zarg a 0)
  | .iload_n k => decide (((k : Nat) : Int) = zarg a 0)
  | _ => false
def zh_aload : zH := fun _ _ _ a x => match x with
  | .aload k => decide ((k : Int) = zarg a 0)
  | .aload_n k => decide (((k : Nat) : Int) = zarg a 0)
  | _ => false
def zh_lload : zH := fun _ _ _ a x => match x with
  | .lload k => decide ((k : Int) = zarg a 0)
  | .lload_n k => decide (((k : Nat) : Int) = zarg a 0)
  | _ => false
def zh_istore : zH := fun _ _ _ a x => match x with
  | .istore k => decide ((k : Int) = zarg a 0)
  | .istore_n k => decide (((k : Nat) : Int) = zarg a 0)
  | _ => false
def zh_astore : zH := fun _ _ _ a x => match x with
  | .astore k => decide ((k : Int) = zarg a 0)
  | .astore_n k => decide (((k : Nat) : Int) = zarg a 0)
  | _ => false
def zh_iinc : zH := fun _ _ _ a x => match x with
  | .iinc k d => decide ((k : Int) = zarg a 0 ∧ d = zarg a 1)
  | _ => false
def zh_is (y : Instr) : zH := fun _ _ _ _ x => decide (x = y)
def zh_if (q : ClassFile.Cond) : zH := fun _ pcs i a x => match x with
  | .ifCond k off => decide (k = q) && zjm pcs i off (zarg a 0)
  | _ => false
def zh_cmp (q : ClassFile.Cond) : zH := fun _ pcs i a x => match x with
  | .if_icmp k off => decide (k = q) && zjm pcs i off (zarg a 0)
  | _ => false
def zh_goto : zH := fun _ pcs i a x => match x with
  | .goto off => zjm pcs i off (zarg a 0)
  | _ => false
def zh_ifnull : zH := fun _ pcs i a x => match x with
  | .ifnull off => zjm pcs i off (zarg a 0)
  | _ => false
def zh_table : zH := fun _ pcs i a x => match x with
  | .tableswitch d lo hi offs => decide (lo = zarg a 0 ∧ hi = lo + (a.drop 2).length - 1 ∧ offs.size = (a.drop 2).length) && zjm pcs i d (zarg a 1) && (List.range offs.size).all (fun k => zjm pcs i (offs.getD k 0) ((a.drop 2).getD k 0))
  | _ => false
def zlk (pcs : List Nat) (i : Nat) : List (Int × Int) → List Int → Bool
  | [], [] => true
  | z :: r, k :: t :: a => decide (z.1 = k) && (zjm pcs i z.2 t && zlk pcs i r a)
  | _, _ => false
def zh_lookup : zH := fun _ pcs i a x => match x with
  | .lookupswitch d ps => zlk pcs i ps.toList (a.drop 1) && zjm pcs i d (zarg a 0) && ((ps.toList.zip (ps.toList.drop 1)).all (fun (z, w) => z.1 < w.1))
  | _ => false
def zh_getf : zH := fun own _ _ a x => match x with
  | .getfield k => decide ((k : Int) = zarg a 0) && zFl.any (fun e => e.1 == own && (e.2.1 == k && (e.2.2.1 == (zarg a 1).toNat && e.2.2.2.1 == (zarg a 2).toNat))) && decide (0 ≤ zarg a 1 ∧ 0 ≤ zarg a 2 ∧ zarg a 1 < 13 ∧ (zarg a 2).toNat < zN (zarg a 1).toNat ∧ (zkd (zarg a 1).toNat (zarg a 2).toNat : Int) = zarg a 3)
  | _ => false
def zh_putf : zH := fun own _ _ a x => match x with
  | .putfield k => decide ((k : Int) = zarg a 0) && zFl.any (fun e => e.1 == own && (e.2.1 == k && (e.2.2.1 == (zarg a 1).toNat && e.2.2.2.1 == (zarg a 2).toNat))) && decide (0 ≤ zarg a 1 ∧ 0 ≤ zarg a 2 ∧ zarg a 1 < 13 ∧ (zarg a 2).toNat < zN (zarg a 1).toNat ∧ (zkd (zarg a 1).toNat (zarg a 2).toNat : Int) = zarg a 3)
  | _ => false
def zh_new : zH := fun own _ _ a x => match x with
  | .new k => decide ((k : Int) = zarg a 0) && zCl.any (fun e => e.1 == own && (e.2.1 == k && e.2.2.1 == (zarg a 1).toNat)) && decide (0 ≤ zarg a 1 ∧ zarg a 1 < 13)
  | _ => false
def zh_newa : zH := fun _ _ _ a x => match x with
  | .newarray .int => decide (zarg a 0 = 1)
  | .newarray .byte => decide (zarg a 0 = 2)
  | .newarray .boolean => decide (zarg a 0 = 3)
  | _ => false
def zh_newq : zH := fun own _ _ a x => match x with
  | .anewarray k => decide ((k : Int) = zarg a 0) && zCl.any (fun e => e.1 == own && (e.2.1 == k && e.2.2.1 == (zarg a 1).toNat)) && decide (zarg a 1 = 10)
  | _ => false
def zh_newm : zH := fun own _ _ a x => match x with
  | .multianewarray k d => decide ((k : Int) = zarg a 0 ∧ d = 2) && zOl.any (fun e => e.1 == 52 && (e.2.1 == own && e.2.2.1 == k))
  | _ => false
def zh_obj : zH := fun own _ _ a x => match x with
  | .invokespecial k => decide ((k : Int) = zarg a 0) && zOl.any (fun e => e.1 == 53 && (e.2.1 == own && e.2.2.1 == k))
  | _ => false
def zh_st (op : Nat) : zH := fun own _ _ a x => match x with
  | .invokestatic k => decide ((k : Int) = zarg a 0) && zOl.any (fun e => e.1 == op && (e.2.1 == own && e.2.2.1 == k))
  | _ => false
def zh_vi (op : Nat) : zH := fun own _ _ a x => match x with
  | .invokevirtual k => decide ((k : Int) = zarg a 0) && zOl.any (fun e => e.1 == op && (e.2.1 == own && e.2.2.1 == k))
  | _ => false
def zh_text : zH := fun own _ _ a x => match x with
  | .ldc_w k => decide ((k : Int) = zarg a 0 ∧ own = 0 ∧ 0 ≤ zarg a 1 ∧ zarg a 1 < 17) && zTl.any (fun e => e.1 == k && e.2.1 == (zarg a 1).toNat)
  | _ => false
def zh_call : zH := fun own _ _ a x => match x with
  | .invokevirtual k => decide ((k : Int) = zarg a 1 ∧ zarg a 0 = 0 ∧ 0 ≤ zarg a 2 ∧ zarg a 3 = (zown (zarg a 2).toNat : Int)) && zMl.any (fun e => e.1 == own && (e.2.1 == k && (e.2.2.1 == 0 && e.2.2.2.1 == (zarg a 2).toNat)))
  | .invokespecial k => decide ((k : Int) = zarg a 1 ∧ zarg a 0 = 2 ∧ 0 ≤ zarg a 2) && zMl.any (fun e => e.1 == own && (e.2.1 == k && (e.2.2.1 == 2 && e.2.2.2.1 == (zarg a 2).toNat)))
  | .invokestatic k => decide ((k : Int) = zarg a 1 ∧ zarg a 0 = 1 ∧ 0 ≤ zarg a 2) && (zMl.any (fun e => e.1 == own && (e.2.1 == k && (e.2.2.1 == 1 && e.2.2.2.1 == (zarg a 2).toNat))) || zMl.any (fun e => e.1 == own && (e.2.1 == k && (e.2.2.1 == 3 && e.2.2.2.1 == (zarg a 2).toNat))))
  | _ => false
def zHs : List zH := [zh_const, zh_lconst, zh_iload, zh_aload, zh_lload, zh_istore, zh_astore, zh_iinc,
  zh_is .iadd, zh_is .isub, zh_is .imul, zh_is .irem, zh_is .ishl, zh_is .ishr, zh_is .iushr, zh_is .iand, zh_is .ior, zh_is .i2l, zh_is .i2b, zh_is .lcmp, zh_is .dup, zh_is .pop, zh_is .dup2,
  zh_if .eq, zh_if .ne, zh_if .lt, zh_if .ge, zh_if .gt, zh_if .le, zh_cmp .eq, zh_cmp .ne, zh_cmp .lt, zh_cmp .ge, zh_cmp .gt, zh_cmp .le,
  zh_goto, zh_ifnull, zh_table, zh_lookup, fun _ _ _ _ _ => false, zh_getf, zh_putf, zh_is .iaload, zh_is .baload, zh_is .aaload, zh_is .iastore, zh_is .bastore, zh_is .aastore, zh_is .arraylength,
  zh_new, zh_newa, zh_newq, zh_newm, zh_obj, zh_st 54, zh_st 55, zh_st 56, zh_text, zh_vi 58, zh_vi 59, zh_call, fun _ _ _ _ _ => false, fun _ _ _ _ _ => false, fun _ _ _ _ _ => false, fun _ _ _ _ _ => false,
  fun _ _ _ _ _ => false, fun _ _ _ _ _ => false, fun _ _ _ _ _ => false, fun _ _ _ _ _ => false, fun _ _ _ _ _ => false, zh_is .ireturn, zh_is .return_, zh_is .areturn, zh_is .ireturn, fun _ _ _ _ _ => false, fun _ _ _ _ _ => false, fun _ _ _ _ _ => false, fun _ _ _ _ _ => false, fun _ _ _ _ _ => false, fun _ _ _ _ _ => false, zh_is .iaload, zh_is .arraylength]
/-- how long an instruction is (not the switches) -/
def zilen : Instr → Option Nat
  | .iconst _ | .lconst _ | .iload_n _ | .aload_n _ | .lload_n _ | .istore_n _ | .astore_n _ | .iadd | .isub | .imul | .irem | .ishl | .ishr | .iushr | .iand | .ior | .i2l | .i2b | .lcmp | .dup | .pop | .dup2 | .iaload | .baload | .aaload | .iastore | .bastore | .aastore | .arraylength | .ireturn | .return_ | .areturn => some 1
  | .bipush _ | .iload _ | .aload _ | .lload _ | .istore _ | .astore _ | .newarray _ => some 2
  | .sipush _ | .ldc_w _ | .ldc2_w _ | .iinc _ _ | .ifCond _ _ | .if_icmp _ _ | .goto _ | .ifnull _ | .getfield _ | .putfield _ | .new _ | .anewarray _ | .invokevirtual _ | .invokespecial _ | .invokestatic _ => some 3
  | .multianewarray _ _ => some 4
  | _ => none
def zlenok (x : Instr) (n : Nat) : Bool := match zilen x with
  | some k => k == n
  | none => true
/-- the rows of a method against its bytes, from the first on -/
def zgo (own : Nat) (b : ByteArray) (all : List Nat) : Nat → List zIn → List Nat → List UInt8 → Bool
  | _, [], _, _ => true
  | i, q :: qs, pc :: pcs, y :: l => match (match zdec zdt (y :: l) with
      | some r => some r
      | none => (match decode b pc with
        | .ok r => some r
        | .error _ => none)) with
    | none => false
    | some r => (match pcs with
        | [] => decide (70 ≤ q.1 ∧ q.1 < 80)
        | pc2 :: _ => pc2 == pc + r.2) && zlenok r.1 r.2 && ((zHs.getD q.1 (fun _ _ _ _ _ => false)) own all i q.2 r.1 && zgo own b all (i + 1) qs pcs ((y :: l).drop r.2))
  | _, _ :: _, _, _ => false
theorem zgo_spec (own : Nat) (b : ByteArray) (all : List Nat) : ∀ (qs : List zIn) (i : Nat) (pcs : List Nat) (l : List UInt8), zgo own b all i qs pcs l = true → (∀ pc, pcs.head? = some pc → l = b.data.toList.drop pc) → ∀ (j : Nat) (q : zIn), qs[j]? = some q →
    ∃ (x : Instr) (n : Nat), decode b (pcs.getD j 0) = .ok (x, n) ∧ ((70 ≤ q.1 ∧ q.1 < 80) ∨ pcs.getD (j + 1) 0 = pcs.getD j 0 + n) ∧ zlenok x n = true ∧ (zHs.getD q.1 (fun _ _ _ _ _ => false)) own all (i + j) q.2 x = true := by
  intro qs
  induction qs with
  | nil => intro i pcs l _ _ j q h; simp at h
  | cons q0 qs ih =>
    intro i pcs l h hl j q hj
    cases pcs with
    | nil => cases l <;> simp [zgo] at h
    | cons pc pcs =>
      cases l with
      | nil => simp [zgo] at h
      | cons y l =>
        have hl0 := hl pc rfl
        rw [zgo] at h
        have hdec : ∃ x n, decode b pc = .ok (x, n) ∧ (match zdec zdt (y :: l) with
            | some r => some r
            | none => (match decode b pc with
              | .ok r => some r
              | .error _ => none)) = some (x, n) := by
          cases h1 : zdec zdt (y :: l) with
          | some r =>
            obtain ⟨x, n⟩ := r
            exact ⟨x, n, zdec_ok zdt zdt_ok b pc x n (by rw [← hl0]; exact h1), rfl⟩
          | none =>
            rw [h1] at h
            cases h2 : decode b pc with
            | ok r => exact ⟨r.1, r.2, rfl, rfl⟩
            | error e => rw [h2] at h; cases h
        obtain ⟨x, n, hd, he⟩ := hdec
        rw [he] at h
        simp only [Bool.and_eq_true] at h
        obtain ⟨⟨h1, h4⟩, h2, h3⟩ := h
        cases j with
        | zero =>
          simp only [List.getElem?_cons_zero] at hj
          cases hj
          refine ⟨x, n, hd, ?_, h4, by simpa using h2⟩
          cases pcs with
          | nil => exact Or.inl (of_decide_eq_true h1)
          | cons pc2 pcs => exact Or.inr (by simpa using h1)
        | succ j =>
          simp only [List.getElem?_cons_succ] at hj
          have := ih (i + 1) pcs _ h3 (fun p hp => by
            cases pcs with
            | nil => cases hp
            | cons pc2 pcs =>
              simp only [List.head?_cons, Option.some.injEq] at hp
              subst hp
              have e2 : pc2 = pc + n := by simpa using h1
              rw [e2, ← List.drop_drop, ← hl0]) j q hj
          obtain ⟨x', n', a1, a2, a4, a3⟩ := this
          refine ⟨x', n', by simpa using a1, by simpa using a2, a4, ?_⟩
          rw [show i + (j + 1) = i + 1 + j by omega]
          exact a3
/-- a whole method: its rows; no stores where it takes longs; what it calls costs less room; its ends' type -/
def zgQ (i : Nat) (q : zIn) : Bool := (q.1 != 60 || decide (zfr (zarg q.2 2).toNat + 1 ≤ zfr i ∧ 8 + (zmL (zarg q.2 2).toNat + 11) + zlo (zarg q.2 2).toNat ≤ zlo i ∧ (zarg q.2 2).toNat < zPt.length)) &&
    ((decide (q.1 ≠ 58 ∧ q.1 ≠ 59) || decide (5 ≤ zfr i ∧ 150 ≤ zlo i)) &&
    (decide (q.1 ≠ 41 ∨ zarg q.2 3 ≠ 1) || decide (zhow i = 2 ∧ zarg q.2 1 = (zown i : Int))) &&
    (decide (q.1 < 70) || (match zret i with | none => decide (q.1 = 71) | some .int => decide (q.1 = 70) | some .boolean => decide (q.1 = 73) | some _ => decide (q.1 = 72))))
def zgM (i : Nat) : Bool := zgo (zown i) (zb i) (zps i) 0 (zk i) (zps i) (zb i).data.toList && ((zk i).all (zgQ i) && (decide (zan i ≠ 3) || (zk i).all (fun q => decide (q.1 < 5 ∨ 7 < q.1))) && decide (zna i ≤ zmL i ∧ zown i < 13 ∧ 1 ≤ zfr i ∧ 40 ≤ zlo i ∧ zpc (zps i) 0 = 0))
set_option maxRecDepth 20000 in
theorem zg_0 : zgM 0 = true := by decide +kernel
set_option maxRecDepth 20000 in
theorem zg_1 : zgM 1 = true := by decide +kernel
set_option maxRecDepth 20000 in
theorem zg_2 : zgM 2 = true := by decide +kernel
set_option maxRecDepth 20000 in
theorem zg_3 : zgM 3 = true := by decide +kernel
set_option maxRecDepth 20000 in
theorem zg_4 : zgM 4 = true := by decide +kernel
set_option maxRecDepth 20000 in
theorem zg_5 : zgM 5 = true := by decide +kernel
set_option maxRecDepth 20000 in
theorem zg_6 : zgM 6 = true := by decide +kernel
set_option maxRecDepth 20000 in
theorem zg_7 : zgM 7 = true := by decide +kernel
set_option maxRecDepth 20000 in
theorem zg_8 : zgM 8 = true := by decide +kernel
set_option maxRecDepth 20000 in
theorem zg_9 : zgM 9 = true := by decide +kernel
set_option maxRecDepth 20000 in
theorem zg_10 : zgM 10 = true := by decide +kernel
set_option maxRecDepth 20000 in
theorem zg_11 : zgM 11 = true := by decide +kernel
set_option maxRecDepth 20000 in
theorem zg_12 : zgM 12 = true := by decide +kernel
set_option maxRecDepth 20000 in
theorem zg_13 : zgM 13 = true := by decide +kernel
set_option maxRecDepth 20000 in
theorem zg_14 : zgM 14 = true := by decide +kernel
set_option maxRecDepth 20000 in
theorem zg_15 : zgM 15 = true := by decide +kernel
set_option maxRecDepth 20000 in
theorem zg_16 : zgM 16 = true := by decide +kernel
set_option maxRecDepth 20000 in
theorem zg_17 : zgM 17 = true := by decide +kernel
set_option maxRecDepth 20000 in
theorem zg_18 : zgM 18 = true := by decide +kernel
set_option maxRecDepth 20000 in
theorem zg_19 : zgM 19 = true := by decide +kernel
set_option maxRecDepth 20000 in
theorem zg_20 : zgM 20 = true := by decide +kernel
set_option maxRecDepth 20000 in
theorem zg_21 : zgM 21 = true := by decide +kernel
set_option maxRecDepth 20000 in
theorem zg_22 : zgM 22 = true := by decide +kernel
set_option maxRecDepth 20000 in
theorem zg_23 : zgM 23 = true := by decide +kernel
set_option maxRecDepth 20000 in
theorem zg_24 : zgM 24 = true := by decide +kernel
set_option maxRecDepth 20000 in
theorem zg_25 : zgM 25 = true := by decide +kernel
set_option maxRecDepth 20000 in
theorem zg_26 : zgM 26 = true := by decide +kernel
set_option maxRecDepth 20000 in
theorem zg_27 : zgM 27 = true := by decide +kernel
set_option maxRecDepth 20000 in
theorem zg_28 : zgM 28 = true := by decide +kernel
set_option maxRecDepth 20000 in
theorem zg_29 : zgM 29 = true := by decide +kernel
set_option maxRecDepth 20000 in
theorem zg_30 : zgM 30 = true := by decide +kernel
set_option maxRecDepth 20000 in
theorem zg_31 : zgM 31 = true := by decide +kernel
set_option maxRecDepth 20000 in
theorem zg_32 : zgM 32 = true := by decide +kernel
set_option maxRecDepth 20000 in
theorem zg_33 : zgM 33 = true := by decide +kernel
set_option maxRecDepth 20000 in
theorem zg_34 : zgM 34 = true := by decide +kernel
set_option maxRecDepth 20000 in
theorem zg_35 : zgM 35 = true := by decide +kernel
set_option maxRecDepth 20000 in
theorem zg_36 : zgM 36 = true := by decide +kernel
set_option maxRecDepth 20000 in
theorem zg_37 : zgM 37 = true := by decide +kernel
set_option maxRecDepth 20000 in
theorem zg_38 : zgM 38 = true := by decide +kernel
set_option maxRecDepth 20000 in
theorem zg_39 : zgM 39 = true := by decide +kernel
set_option maxRecDepth 20000 in
theorem zg_40 : zgM 40 = true := by decide +kernel
set_option maxRecDepth 20000 in
theorem zg_41 : zgM 41 = true := by decide +kernel
set_option maxRecDepth 20000 in
theorem zg_42 : zgM 42 = true := by decide +kernel
set_option maxRecDepth 20000 in
theorem zg_43 : zgM 43 = true := by decide +kernel
set_option maxRecDepth 20000 in
theorem zg_44 : zgM 44 = true := by decide +kernel
set_option maxRecDepth 20000 in
theorem zg_45 : zgM 45 = true := by decide +kernel
set_option maxRecDepth 20000 in
theorem zg_46 : zgM 46 = true := by decide +kernel
set_option maxRecDepth 20000 in
theorem zg_47 : zgM 47 = true := by decide +kernel
set_option maxRecDepth 20000 in
theorem zg_48 : zgM 48 = true := by decide +kernel
set_option maxRecDepth 20000 in
theorem zg_49 : zgM 49 = true := by decide +kernel
set_option maxRecDepth 20000 in
theorem zg_50 : zgM 50 = true := by decide +kernel
set_option maxRecDepth 20000 in
theorem zg_51 : zgM 51 = true := by decide +kernel
set_option maxRecDepth 20000 in
theorem zg_52 : zgM 52 = true := by decide +kernel
set_option maxRecDepth 20000 in
theorem zg_53 : zgM 53 = true := by decide +kernel
set_option maxRecDepth 20000 in
theorem zg_54 : zgM 54 = true := by decide +kernel
set_option maxRecDepth 20000 in
theorem zg_55 : zgM 55 = true := by decide +kernel
set_option maxRecDepth 20000 in
theorem zg_56 : zgM 56 = true := by decide +kernel
set_option maxRecDepth 20000 in
theorem zg_57 : zgM 57 = true := by decide +kernel
set_option maxRecDepth 20000 in
theorem zg_58 : zgM 58 = true := by decide +kernel
set_option maxRecDepth 20000 in
theorem zg_59 : zgM 59 = true := by decide +kernel
set_option maxRecDepth 20000 in
theorem zg_60 : zgM 60 = true := by decide +kernel
set_option maxRecDepth 20000 in
theorem zg_61 : zgM 61 = true := by decide +kernel
set_option maxRecDepth 20000 in
theorem zg_62 : zgM 62 = true := by decide +kernel
set_option maxRecDepth 20000 in
theorem zg_63 : zgM 63 = true := by decide +kernel
set_option maxRecDepth 20000 in
theorem zg_64 : zgM 64 = true := by decide +kernel
set_option maxRecDepth 20000 in
theorem zg_65 : zgM 65 = true := by decide +kernel
set_option maxRecDepth 20000 in
theorem zg_66 : zgM 66 = true := by decide +kernel
set_option maxRecDepth 20000 in
theorem zg_67 : zgM 67 = true := by decide +kernel
set_option maxRecDepth 20000 in
theorem zg_68 : zgM 68 = true := by decide +kernel
set_option maxRecDepth 20000 in
theorem zg_69 : zgM 69 = true := by decide +kernel
set_option maxRecDepth 20000 in
theorem zg_70 : zgM 70 = true := by decide +kernel
set_option maxRecDepth 20000 in
theorem zg_71 : zgM 71 = true := by decide +kernel
set_option maxRecDepth 20000 in
theorem zg_72 : zgM 72 = true := by decide +kernel
set_option maxRecDepth 20000 in
theorem zg_73 : zgM 73 = true := by decide +kernel
set_option maxRecDepth 20000 in
theorem zg_74 : zgM 74 = true := by decide +kernel
set_option maxRecDepth 20000 in
theorem zg_75 : zgM 75 = true := by decide +kernel
set_option maxRecDepth 20000 in
theorem zg_76 : zgM 76 = true := by decide +kernel
set_option maxRecDepth 20000 in
theorem zg_77 : zgM 77 = true := by decide +kernel
set_option maxRecDepth 20000 in
theorem zg_78 : zgM 78 = true := by decide +kernel
set_option maxRecDepth 20000 in
theorem zg_79 : zgM 79 = true := by decide +kernel
set_option maxRecDepth 20000 in
theorem zg_80 : zgM 80 = true := by decide +kernel
set_option maxRecDepth 20000 in
theorem zg_81 : zgM 81 = true := by decide +kernel
set_option maxRecDepth 20000 in
theorem zg_82 : zgM 82 = true := by decide +kernel
set_option maxRecDepth 20000 in
theorem zg_83 : zgM 83 = true := by decide +kernel
set_option maxRecDepth 20000 in
theorem zg_84 : zgM 84 = true := by decide +kernel
set_option maxRecDepth 20000 in
theorem zg_85 : zgM 85 = true := by decide +kernel
set_option maxRecDepth 20000 in
theorem zg_86 : zgM 86 = true := by decide +kernel
set_option maxRecDepth 20000 in
theorem zg_87 : zgM 87 = true := by decide +kernel
set_option maxRecDepth 20000 in
theorem zg_88 : zgM 88 = true := by decide +kernel
set_option maxRecDepth 20000 in
theorem zg_89 : zgM 89 = true := by decide +kernel
set_option maxRecDepth 20000 in
theorem zg_90 : zgM 90 = true := by decide +kernel
set_option maxRecDepth 20000 in
theorem zg_91 : zgM 91 = true := by decide +kernel
set_option maxRecDepth 20000 in
theorem zg_92 : zgM 92 = true := by decide +kernel
set_option maxRecDepth 20000 in
theorem zg_93 : zgM 93 = true := by decide +kernel
set_option maxRecDepth 20000 in
theorem zg_94 : zgM 94 = true := by decide +kernel
set_option maxRecDepth 20000 in
theorem zg_95 : zgM 95 = true := by decide +kernel
set_option maxRecDepth 20000 in
theorem zg_96 : zgM 96 = true := by decide +kernel
set_option maxRecDepth 20000 in
theorem zg_97 : zgM 97 = true := by decide +kernel
set_option maxRecDepth 20000 in
theorem zg_98 : zgM 98 = true := by decide +kernel
set_option maxRecDepth 20000 in
theorem zg_99 : zgM 99 = true := by decide +kernel
set_option maxRecDepth 20000 in
theorem zg_100 : zgM 100 = true := by decide +kernel
set_option maxRecDepth 20000 in
theorem zg_101 : zgM 101 = true := by decide +kernel
set_option maxRecDepth 20000 in
theorem zg_102 : zgM 102 = true := by decide +kernel
set_option maxRecDepth 20000 in
theorem zg_103 : zgM 103 = true := by decide +kernel
set_option maxRecDepth 20000 in
theorem zg_104 : zgM 104 = true := by decide +kernel
set_option maxRecDepth 20000 in
theorem zg_105 : zgM 105 = true := by decide +kernel
set_option maxRecDepth 20000 in
theorem zg_106 : zgM 106 = true := by decide +kernel
set_option maxRecDepth 20000 in
theorem zg_107 : zgM 107 = true := by decide +kernel
set_option maxRecDepth 20000 in
theorem zg_108 : zgM 108 = true := by decide +kernel
set_option maxRecDepth 20000 in
theorem zg_109 : zgM 109 = true := by decide +kernel
set_option maxRecDepth 20000 in
theorem zg_110 : zgM 110 = true := by decide +kernel
set_option maxRecDepth 20000 in
theorem zg_111 : zgM 111 = true := by decide +kernel
set_option maxRecDepth 20000 in
theorem zg_112 : zgM 112 = true := by decide +kernel
set_option maxRecDepth 20000 in
theorem zg_113 : zgM 113 = true := by decide +kernel
set_option maxRecDepth 20000 in
theorem zg_114 : zgM 114 = true := by decide +kernel
set_option maxRecDepth 20000 in
theorem zg_115 : zgM 115 = true := by decide +kernel
set_option maxRecDepth 20000 in
theorem zg_116 : zgM 116 = true := by decide +kernel
set_option maxRecDepth 20000 in
theorem zg_117 : zgM 117 = true := by decide +kernel
set_option maxRecDepth 20000 in
theorem zg_118 : zgM 118 = true := by decide +kernel
set_option maxRecDepth 20000 in
theorem zg_119 : zgM 119 = true := by decide +kernel
set_option maxRecDepth 20000 in
theorem zg_120 : zgM 120 = true := by decide +kernel
set_option maxRecDepth 20000 in
theorem zg_121 : zgM 121 = true := by decide +kernel
set_option maxRecDepth 20000 in
theorem zg_122 : zgM 122 = true := by decide +kernel
set_option maxRecDepth 20000 in
theorem zg_123 : zgM 123 = true := by decide +kernel
set_option maxRecDepth 20000 in
theorem zg_124 : zgM 124 = true := by decide +kernel
set_option maxRecDepth 20000 in
theorem zg_125 : zgM 125 = true := by decide +kernel
set_option maxRecDepth 20000 in
theorem zg_126 : zgM 126 = true := by decide +kernel
set_option maxRecDepth 20000 in
theorem zg_127 : zgM 127 = true := by decide +kernel
set_option maxRecDepth 20000 in
theorem zg_128 : zgM 128 = true := by decide +kernel
set_option maxRecDepth 20000 in
theorem zg_129 : zgM 129 = true := by decide +kernel
set_option maxRecDepth 20000 in
theorem zg_130 : zgM 130 = true := by decide +kernel
set_option maxRecDepth 20000 in
theorem zg_131 : zgM 131 = true := by decide +kernel
set_option maxRecDepth 20000 in
theorem zg_132 : zgM 132 = true := by decide +kernel
set_option maxRecDepth 20000 in
theorem zg_133 : zgM 133 = true := by decide +kernel
set_option maxRecDepth 20000 in
theorem zg_134 : zgM 134 = true := by decide +kernel
set_option maxRecDepth 20000 in
theorem zg_135 : zgM 135 = true := by decide +kernel
set_option maxRecDepth 20000 in
theorem zg_136 : zgM 136 = true := by decide +kernel
set_option maxRecDepth 20000 in
theorem zg_137 : zgM 137 = true := by decide +kernel
set_option maxRecDepth 20000 in
theorem zg_138 : zgM 138 = true := by decide +kernel
set_option maxRecDepth 20000 in
theorem zg_139 : zgM 139 = true := by decide +kernel
set_option maxRecDepth 20000 in
theorem zg_140 : zgM 140 = true := by decide +kernel
set_option maxRecDepth 20000 in
theorem zg_141 : zgM 141 = true := by decide +kernel
set_option maxRecDepth 20000 in
theorem zg_142 : zgM 142 = true := by decide +kernel
set_option maxRecDepth 20000 in
theorem zg_143 : zgM 143 = true := by decide +kernel
set_option maxRecDepth 20000 in
theorem zg_144 : zgM 144 = true := by decide +kernel
set_option maxRecDepth 20000 in
theorem zg_145 : zgM 145 = true := by decide +kernel
set_option maxRecDepth 20000 in
theorem zg_146 : zgM 146 = true := by decide +kernel
set_option maxRecDepth 20000 in
theorem zg_147 : zgM 147 = true := by decide +kernel
set_option maxRecDepth 20000 in
theorem zg_148 : zgM 148 = true := by decide +kernel
set_option maxRecDepth 20000 in
theorem zg_149 : zgM 149 = true := by decide +kernel
set_option maxRecDepth 20000 in
theorem zg_150 : zgM 150 = true := by decide +kernel
set_option maxRecDepth 20000 in
theorem zg_151 : zgM 151 = true := by decide +kernel
set_option maxRecDepth 20000 in
theorem zg_152 : zgM 152 = true := by decide +kernel
set_option maxRecDepth 20000 in
theorem zg_153 : zgM 153 = true := by decide +kernel
set_option maxRecDepth 20000 in
theorem zg_154 : zgM 154 = true := by decide +kernel
set_option maxRecDepth 20000 in
theorem zg_155 : zgM 155 = true := by decide +kernel
set_option maxRecDepth 20000 in
theorem zg_156 : zgM 156 = true := by decide +kernel
set_option maxRecDepth 20000 in
theorem zg_157 : zgM 157 = true := by decide +kernel
set_option maxRecDepth 20000 in
theorem zg_158 : zgM 158 = true := by decide +kernel
set_option maxRecDepth 20000 in
theorem zg_159 : zgM 159 = true := by decide +kernel
set_option maxRecDepth 20000 in
theorem zg_160 : zgM 160 = true := by decide +kernel
set_option maxRecDepth 20000 in
theorem zg_161 : zgM 161 = true := by decide +kernel
set_option maxRecDepth 20000 in
theorem zg_162 : zgM 162 = true := by decide +kernel
set_option maxRecDepth 20000 in
theorem zg_163 : zgM 163 = true := by decide +kernel
set_option maxRecDepth 20000 in
theorem zg_164 : zgM 164 = true := by decide +kernel
set_option maxRecDepth 20000 in
theorem zg_165 : zgM 165 = true := by decide +kernel
set_option maxRecDepth 20000 in
theorem zg_166 : zgM 166 = true := by decide +kernel
set_option maxRecDepth 20000 in
theorem zg_167 : zgM 167 = true := by decide +kernel
set_option maxRecDepth 20000 in
theorem zg_168 : zgM 168 = true := by decide +kernel
set_option maxRecDepth 20000 in
theorem zg_169 : zgM 169 = true := by decide +kernel
set_option maxRecDepth 20000 in
theorem zg_170 : zgM 170 = true := by decide +kernel
set_option maxRecDepth 20000 in
theorem zg_171 : zgM 171 = true := by decide +kernel
set_option maxRecDepth 20000 in
theorem zg_172 : zgM 172 = true := by decide +kernel
set_option maxRecDepth 20000 in
theorem zg_173 : zgM 173 = true := by decide +kernel
set_option maxRecDepth 20000 in
theorem zg_174 : zgM 174 = true := by decide +kernel
set_option maxRecDepth 20000 in
theorem zg_175 : zgM 175 = true := by decide +kernel
set_option maxRecDepth 20000 in
theorem zg_176 : zgM 176 = true := by decide +kernel
set_option maxRecDepth 20000 in
theorem zg_177 : zgM 177 = true := by decide +kernel
set_option maxRecDepth 20000 in
theorem zg_178 : zgM 178 = true := by decide +kernel
set_option maxRecDepth 20000 in
theorem zg_179 : zgM 179 = true := by decide +kernel
set_option maxRecDepth 20000 in
theorem zg_180 : zgM 180 = true := by decide +kernel
set_option maxRecDepth 20000 in
theorem zg_181 : zgM 181 = true := by decide +kernel
set_option maxRecDepth 20000 in
theorem zg_182 : zgM 182 = true := by decide +kernel
set_option maxRecDepth 20000 in
theorem zg_183 : zgM 183 = true := by decide +kernel
set_option maxRecDepth 20000 in
theorem zg_184 : zgM 184 = true := by decide +kernel
set_option maxRecDepth 20000 in
theorem zg_185 : zgM 185 = true := by decide +kernel
set_option maxRecDepth 20000 in
theorem zg_186 : zgM 186 = true := by decide +kernel
set_option maxRecDepth 20000 in
theorem zg_187 : zgM 187 = true := by decide +kernel
set_option maxRecDepth 20000 in
theorem zg_188 : zgM 188 = true := by decide +kernel
set_option maxRecDepth 20000 in
theorem zg_189 : zgM 189 = true := by decide +kernel
set_option maxRecDepth 20000 in
theorem zg_190 : zgM 190 = true := by decide +kernel
set_option maxRecDepth 20000 in
theorem zg_191 : zgM 191 = true := by decide +kernel
set_option maxRecDepth 20000 in
theorem zg_192 : zgM 192 = true := by decide +kernel
set_option maxRecDepth 20000 in
theorem zg_193 : zgM 193 = true := by decide +kernel
set_option maxRecDepth 20000 in
theorem zg_194 : zgM 194 = true := by decide +kernel
set_option maxRecDepth 20000 in
theorem zg_195 : zgM 195 = true := by decide +kernel
set_option maxRecDepth 20000 in
theorem zg_196 : zgM 196 = true := by decide +kernel
set_option maxRecDepth 20000 in
theorem zg_197 : zgM 197 = true := by decide +kernel
set_option maxRecDepth 20000 in
theorem zg_198 : zgM 198 = true := by decide +kernel
set_option maxRecDepth 20000 in
theorem zg_199 : zgM 199 = true := by decide +kernel
set_option maxRecDepth 20000 in
theorem zg_200 : zgM 200 = true := by decide +kernel
set_option maxRecDepth 20000 in
theorem zg_201 : zgM 201 = true := by decide +kernel
set_option maxRecDepth 20000 in
theorem zg_202 : zgM 202 = true := by decide +kernel
set_option maxRecDepth 20000 in
theorem zg_203 : zgM 203 = true := by decide +kernel
set_option maxRecDepth 20000 in
theorem zg_204 : zgM 204 = true := by decide +kernel
set_option maxRecDepth 20000 in
theorem zg_205 : zgM 205 = true := by decide +kernel
set_option maxRecDepth 20000 in
theorem zg_206 : zgM 206 = true := by decide +kernel
set_option maxRecDepth 20000 in
theorem zg_207 : zgM 207 = true := by decide +kernel
set_option maxRecDepth 20000 in
theorem zg_208 : zgM 208 = true := by decide +kernel
set_option maxRecDepth 20000 in
theorem zg_209 : zgM 209 = true := by decide +kernel
set_option maxRecDepth 20000 in
theorem zg_210 : zgM 210 = true := by decide +kernel
set_option maxRecDepth 20000 in
theorem zg_211 : zgM 211 = true := by decide +kernel
set_option maxRecDepth 20000 in
theorem zg_212 : zgM 212 = true := by decide +kernel
set_option maxRecDepth 20000 in
theorem zg_213 : zgM 213 = true := by decide +kernel
set_option maxRecDepth 20000 in
theorem zg_214 : zgM 214 = true := by decide +kernel
set_option maxRecDepth 20000 in
theorem zg_215 : zgM 215 = true := by decide +kernel
set_option maxRecDepth 20000 in
theorem zg_216 : zgM 216 = true := by decide +kernel
set_option maxRecDepth 20000 in
theorem zg_217 : zgM 217 = true := by decide +kernel
set_option maxRecDepth 20000 in
theorem zg_218 : zgM 218 = true := by decide +kernel
set_option maxRecDepth 20000 in
theorem zg_219 : zgM 219 = true := by decide +kernel
set_option maxRecDepth 20000 in
theorem zg_220 : zgM 220 = true := by decide +kernel
set_option maxRecDepth 20000 in
theorem zg_221 : zgM 221 = true := by decide +kernel
set_option maxRecDepth 20000 in
theorem zg_222 : zgM 222 = true := by decide +kernel
set_option maxRecDepth 20000 in
theorem zg_223 : zgM 223 = true := by decide +kernel
set_option maxRecDepth 20000 in
theorem zg_224 : zgM 224 = true := by decide +kernel
set_option maxRecDepth 20000 in
theorem zg_225 : zgM 225 = true := by decide +kernel
set_option maxRecDepth 20000 in
theorem zg_226 : zgM 226 = true := by decide +kernel
set_option maxRecDepth 20000 in
theorem zg_227 : zgM 227 = true := by decide +kernel
set_option maxRecDepth 20000 in
theorem zg_228 : zgM 228 = true := by decide +kernel
set_option maxRecDepth 20000 in
theorem zg_229 : zgM 229 = true := by decide +kernel
set_option maxRecDepth 20000 in
theorem zg_230 : zgM 230 = true := by decide +kernel
set_option maxRecDepth 20000 in
theorem zg_231 : zgM 231 = true := by decide +kernel
set_option maxRecDepth 20000 in
theorem zg_232 : zgM 232 = true := by decide +kernel
set_option maxRecDepth 20000 in
theorem zg_233 : zgM 233 = true := by decide +kernel
set_option maxRecDepth 20000 in
theorem zg_234 : zgM 234 = true := by decide +kernel
set_option maxRecDepth 20000 in
theorem zg_235 : zgM 235 = true := by decide +kernel
set_option maxRecDepth 20000 in
theorem zg_236 : zgM 236 = true := by decide +kernel
set_option maxRecDepth 20000 in
theorem zg_237 : zgM 237 = true := by decide +kernel
set_option maxRecDepth 20000 in
theorem zg_238 : zgM 238 = true := by decide +kernel
set_option maxRecDepth 20000 in
theorem zg_239 : zgM 239 = true := by decide +kernel
set_option maxRecDepth 20000 in
theorem zg_240 : zgM 240 = true := by decide +kernel
set_option maxRecDepth 20000 in
theorem zg_241 : zgM 241 = true := by decide +kernel
set_option maxRecDepth 20000 in
theorem zg_242 : zgM 242 = true := by decide +kernel
set_option maxRecDepth 20000 in
theorem zg_243 : zgM 243 = true := by decide +kernel
set_option maxRecDepth 20000 in
theorem zg_244 : zgM 244 = true := by decide +kernel
set_option maxRecDepth 20000 in
theorem zg_245 : zgM 245 = true := by decide +kernel
set_option maxRecDepth 20000 in
theorem zg_246 : zgM 246 = true := by decide +kernel
set_option maxRecDepth 20000 in
theorem zg_247 : zgM 247 = true := by decide +kernel
set_option maxRecDepth 20000 in
theorem zg_248 : zgM 248 = true := by decide +kernel
set_option maxRecDepth 20000 in
theorem zg_249 : zgM 249 = true := by decide +kernel
set_option maxRecDepth 20000 in
theorem zg_250 : zgM 250 = true := by decide +kernel
set_option maxRecDepth 20000 in
theorem zg_251 : zgM 251 = true := by decide +kernel
set_option maxRecDepth 20000 in
theorem zg_252 : zgM 252 = true := by decide +kernel
set_option maxRecDepth 20000 in
theorem zg_253 : zgM 253 = true := by decide +kernel
set_option maxRecDepth 20000 in
theorem zg_254 : zgM 254 = true := by decide +kernel
set_option maxRecDepth 20000 in
theorem zg_255 : zgM 255 = true := by decide +kernel
set_option maxRecDepth 20000 in
theorem zg_256 : zgM 256 = true := by decide +kernel
set_option maxRecDepth 20000 in
theorem zg_257 : zgM 257 = true := by decide +kernel
set_option maxRecDepth 20000 in
theorem zg_258 : zgM 258 = true := by decide +kernel
set_option maxRecDepth 20000 in
theorem zg_259 : zgM 259 = true := by decide +kernel
set_option maxRecDepth 20000 in
theorem zg_260 : zgM 260 = true := by decide +kernel
set_option maxRecDepth 20000 in
theorem zg_261 : zgM 261 = true := by decide +kernel
set_option maxRecDepth 20000 in
theorem zg_262 : zgM 262 = true := by decide +kernel
set_option maxRecDepth 20000 in
theorem zg_263 : zgM 263 = true := by decide +kernel
set_option maxRecDepth 20000 in
theorem zg_264 : zgM 264 = true := by decide +kernel
set_option maxRecDepth 20000 in
theorem zg_265 : zgM 265 = true := by decide +kernel
set_option maxRecDepth 20000 in
theorem zg_266 : zgM 266 = true := by decide +kernel
set_option maxRecDepth 20000 in
theorem zg_267 : zgM 267 = true := by decide +kernel
set_option maxRecDepth 20000 in
theorem zg_268 : zgM 268 = true := by decide +kernel
set_option maxRecDepth 20000 in
theorem zg_269 : zgM 269 = true := by decide +kernel
set_option maxRecDepth 20000 in
theorem zg_270 : zgM 270 = true := by decide +kernel
set_option maxRecDepth 20000 in
theorem zg_271 : zgM 271 = true := by decide +kernel
set_option maxRecDepth 20000 in
theorem zg_272 : zgM 272 = true := by decide +kernel
set_option maxRecDepth 20000 in
theorem zg_273 : zgM 273 = true := by decide +kernel
set_option maxRecDepth 20000 in
theorem zg_274 : zgM 274 = true := by decide +kernel
set_option maxRecDepth 20000 in
theorem zg_275 : zgM 275 = true := by decide +kernel
set_option maxRecDepth 20000 in
theorem zg_276 : zgM 276 = true := by decide +kernel
set_option maxRecDepth 20000 in
theorem zg_277 : zgM 277 = true := by decide +kernel
set_option maxRecDepth 20000 in
theorem zg_278 : zgM 278 = true := by decide +kernel
set_option maxRecDepth 20000 in
theorem zg_279 : zgM 279 = true := by decide +kernel
set_option maxRecDepth 20000 in
theorem zg_280 : zgM 280 = true := by decide +kernel
set_option maxRecDepth 20000 in
theorem zg_281 : zgM 281 = true := by decide +kernel
