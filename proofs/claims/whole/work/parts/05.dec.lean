/-! The decoder's rows by opcode: so that a method's bytes are gone through once -/
abbrev zDe : Type := Nat × Nat × (Nat → Nat → Nat → Instr)
def zd1 (e : zDe) (l : List UInt8) : Option (Instr × Nat) := match l with
  | [] => none
  | x :: r => if x.toNat = e.1 then (if e.2.1 = 0 then some (e.2.2 0 0 0, 1) else if e.2.1 = 1 then (match r with
      | a :: _ => some (e.2.2 a.toNat 0 0, 2)
      | [] => none) else if e.2.1 = 2 then (match r with
      | a :: b :: _ => some (e.2.2 a.toNat b.toNat 0, 3)
      | _ => none) else none) else none
def zdok (e : zDe) : Prop := ∀ (b : ByteArray) (pc : Nat) (x : Instr) (n : Nat), zd1 e (b.data.toList.drop pc) = some (x, n) → decode b pc = .ok (x, n)
theorem zd_u1 {b : ByteArray} {pc : Nat} {x : UInt8} {r : List UInt8} (h : b.data.toList.drop pc = x :: r) : (Reader.u1 : Decoder Nat) b pc = .ok (x.toNat, pc + 1) ∧ b.data.toList.drop (pc + 1) = r := by
  have hlt : pc < b.data.toList.length := by
    rcases Nat.lt_or_ge pc b.data.toList.length with q | q
    · exact q
    · rw [List.drop_eq_nil_iff.mpr q] at h; cases h
  have h2 := List.drop_eq_getElem_cons hlt
  rw [h] at h2
  have hx : b.data.toList[pc] = x := by injection h2 with q _; exact q.symm
  have hr : b.data.toList.drop (pc + 1) = r := by injection h2 with _ q; exact q.symm
  refine ⟨?_, hr⟩
  have hs : pc < b.size := by simpa using hlt
  have hb : b[pc]'hs = x := by rw [← hx]; simp [ByteArray.getElem_eq_getElem_data]
  unfold Reader.u1
  show (dite (pc < b.size) _ _ : Decoder Nat) b pc = _
  rw [dif_pos hs, ← hb]
  rfl
theorem zd_u2 {b : ByteArray} {p a c : Nat} (h1 : (Reader.u1 : Decoder Nat) b p = .ok (a, p + 1)) (h2 : (Reader.u1 : Decoder Nat) b (p + 1) = .ok (c, p + 2)) : (Reader.u2 : Decoder Nat) b p = .ok (a * 256 + c, p + 2) := by
  unfold Reader.u2
  show Except.bind (Reader.u1 (ε := DecodeError) b p) _ = _
  rw [h1]
  show Except.bind (Reader.u1 (ε := DecodeError) b (p + 1)) _ = _
  rw [h2]
  rfl
theorem zd_s2 {b : ByteArray} {p a c : Nat} (h1 : (Reader.u1 : Decoder Nat) b p = .ok (a, p + 1)) (h2 : (Reader.u1 : Decoder Nat) b (p + 1) = .ok (c, p + 2)) : (Reader.s2 : Decoder Int) b p = .ok (Reader.signed 16 (a * 256 + c), p + 2) := by
  unfold Reader.s2
  show Except.bind (Reader.u2 (ε := DecodeError) b p) _ = _
  rw [zd_u2 h1 h2]
  rfl
theorem zd_s1 {b : ByteArray} {p a : Nat} (h1 : (Reader.u1 : Decoder Nat) b p = .ok (a, p + 1)) : (Reader.s1 : Decoder Int) b p = .ok (Reader.signed 8 a, p + 1) := by
  unfold Reader.s1
  show Except.bind (Reader.u1 (ε := DecodeError) b p) _ = _
  rw [h1]
  rfl
theorem zd_dec {b : ByteArray} {pc p : Nat} {x : Instr} (h : (Decoder.instr pc) b pc = .ok (x, p)) : decode b pc = .ok (x, p - pc) := by
  unfold decode
  show Except.bind ((Decoder.instr pc) b pc) _ = _
  rw [h]
  rfl
theorem zd_0 {op : Nat} {f : Nat → Nat → Nat → Instr} (h : ∀ (b : ByteArray) (pc : Nat), (Reader.u1 : Decoder Nat) b pc = .ok (op, pc + 1) → (Decoder.instr pc) b pc = .ok (f 0 0 0, pc + 1)) : zdok (op, 0, f) := by
  intro b pc x n hz
  cases hd : b.data.toList.drop pc with
  | nil => rw [hd] at hz; cases hz
  | cons y r =>
    rw [hd] at hz
    unfold zd1 at hz
    by_cases hy : y.toNat = op
    · simp only [if_pos hy, if_true] at hz
      cases hz
      have := zd_dec (h b pc (by rw [(zd_u1 hd).1, hy]))
      rw [this]
      congr 2
      omega
    · simp only [if_neg hy] at hz; cases hz
theorem zd_1 {op : Nat} {f : Nat → Nat → Nat → Instr} (h : ∀ (b : ByteArray) (pc a : Nat), (Reader.u1 : Decoder Nat) b pc = .ok (op, pc + 1) → (Reader.u1 : Decoder Nat) b (pc + 1) = .ok (a, pc + 2) → (Decoder.instr pc) b pc = .ok (f a 0 0, pc + 2)) : zdok (op, 1, f) := by
  intro b pc x n hz
  cases hd : b.data.toList.drop pc with
  | nil => rw [hd] at hz; cases hz
  | cons y r =>
    obtain ⟨e1, e2⟩ := zd_u1 hd
    rw [hd] at hz
    unfold zd1 at hz
    by_cases hy : y.toNat = op
    · simp only [if_pos hy] at hz
      cases r with
      | nil => cases hz
      | cons a r2 =>
        cases hz
        have := zd_dec (h b pc a.toNat (by rw [e1, hy]) (zd_u1 e2).1)
        rw [this]
        congr 2
        omega
    · simp only [if_neg hy] at hz; cases hz
theorem zd_2 {op : Nat} {f : Nat → Nat → Nat → Instr} (h : ∀ (b : ByteArray) (pc a c : Nat), (Reader.u1 : Decoder Nat) b pc = .ok (op, pc + 1) → (Reader.u1 : Decoder Nat) b (pc + 1) = .ok (a, pc + 2) → (Reader.u1 : Decoder Nat) b (pc + 2) = .ok (c, pc + 3) → (Decoder.instr pc) b pc = .ok (f a c 0, pc + 3)) : zdok (op, 2, f) := by
  intro b pc x n hz
  cases hd : b.data.toList.drop pc with
  | nil => rw [hd] at hz; cases hz
  | cons y r =>
    obtain ⟨e1, e2⟩ := zd_u1 hd
    rw [hd] at hz
    unfold zd1 at hz
    by_cases hy : y.toNat = op
    · simp only [if_pos hy] at hz
      cases r with
      | nil => cases hz
      | cons a r2 =>
        obtain ⟨e3, e4⟩ := zd_u1 e2
        cases r2 with
        | nil => cases hz
        | cons c r3 =>
          cases hz
          have := zd_dec (h b pc a.toNat c.toNat (by rw [e1, hy]) e3 (zd_u1 e4).1)
          rw [this]
          congr 2
          omega
    · simp only [if_neg hy] at hz; cases hz
theorem zdo_42 : zdok (42, 0, fun _ _ _ => .aload_n 0) := zd_0 (fun b pc h => by unfold Decoder.instr; show Except.bind (Reader.u1 (ε := DecodeError) b pc) _ = _; rw [h]; rfl)
theorem zdo_180 : zdok (180, 2, fun x y _ => .getfield (x * 256 + y)) := zd_2 (fun b pc a c h h1 h2 => by unfold Decoder.instr; show Except.bind (Reader.u1 (ε := DecodeError) b pc) _ = _; rw [h]; show Except.bind (Reader.u2 (ε := DecodeError) b (pc + 1)) _ = _; rw [zd_u2 h1 h2]; rfl)
theorem zdo_182 : zdok (182, 2, fun x y _ => .invokevirtual (x * 256 + y)) := zd_2 (fun b pc a c h h1 h2 => by unfold Decoder.instr; show Except.bind (Reader.u1 (ε := DecodeError) b pc) _ = _; rw [h]; show Except.bind (Reader.u2 (ε := DecodeError) b (pc + 1)) _ = _; rw [zd_u2 h1 h2]; rfl)
theorem zdo_27 : zdok (27, 0, fun _ _ _ => .iload_n 1) := zd_0 (fun b pc h => by unfold Decoder.instr; show Except.bind (Reader.u1 (ε := DecodeError) b pc) _ = _; rw [h]; rfl)
theorem zdo_16 : zdok (16, 1, fun x _ _ => .bipush (Reader.signed 8 x)) := zd_1 (fun b pc a h h1 => by unfold Decoder.instr; show Except.bind (Reader.u1 (ε := DecodeError) b pc) _ = _; rw [h]; show Except.bind (Reader.s1 (ε := DecodeError) b (pc + 1)) _ = _; rw [zd_s1 h1]; rfl)
theorem zdo_172 : zdok (172, 0, fun _ _ _ => .ireturn) := zd_0 (fun b pc h => by unfold Decoder.instr; show Except.bind (Reader.u1 (ε := DecodeError) b pc) _ = _; rw [h]; rfl)
theorem zdo_3 : zdok (3, 0, fun _ _ _ => .iconst 0) := zd_0 (fun b pc h => by unfold Decoder.instr; show Except.bind (Reader.u1 (ε := DecodeError) b pc) _ = _; rw [h]; rfl)
theorem zdo_4 : zdok (4, 0, fun _ _ _ => .iconst 1) := zd_0 (fun b pc h => by unfold Decoder.instr; show Except.bind (Reader.u1 (ε := DecodeError) b pc) _ = _; rw [h]; rfl)
theorem zdo_28 : zdok (28, 0, fun _ _ _ => .iload_n 2) := zd_0 (fun b pc h => by unfold Decoder.instr; show Except.bind (Reader.u1 (ε := DecodeError) b pc) _ = _; rw [h]; rfl)
theorem zdo_46 : zdok (46, 0, fun _ _ _ => .iaload) := zd_0 (fun b pc h => by unfold Decoder.instr; show Except.bind (Reader.u1 (ε := DecodeError) b pc) _ = _; rw [h]; rfl)
theorem zdo_29 : zdok (29, 0, fun _ _ _ => .iload_n 3) := zd_0 (fun b pc h => by unfold Decoder.instr; show Except.bind (Reader.u1 (ε := DecodeError) b pc) _ = _; rw [h]; rfl)
theorem zdo_167 : zdok (167, 2, fun x y _ => .goto (Reader.signed 16 (x * 256 + y))) := zd_2 (fun b pc a c h h1 h2 => by unfold Decoder.instr; show Except.bind (Reader.u1 (ε := DecodeError) b pc) _ = _; rw [h]; show Except.bind (Reader.s2 (ε := DecodeError) b (pc + 1)) _ = _; rw [zd_s2 h1 h2]; rfl)
theorem zdo_96 : zdok (96, 0, fun _ _ _ => .iadd) := zd_0 (fun b pc h => by unfold Decoder.instr; show Except.bind (Reader.u1 (ε := DecodeError) b pc) _ = _; rw [h]; rfl)
theorem zdo_21 : zdok (21, 1, fun x _ _ => .iload x) := zd_1 (fun b pc a h h1 => by unfold Decoder.instr; show Except.bind (Reader.u1 (ε := DecodeError) b pc) _ = _; rw [h]; show Except.bind (Reader.u1 (ε := DecodeError) b (pc + 1)) _ = _; rw [h1]; rfl)
theorem zdo_181 : zdok (181, 2, fun x y _ => .putfield (x * 256 + y)) := zd_2 (fun b pc a c h h1 h2 => by unfold Decoder.instr; show Except.bind (Reader.u1 (ε := DecodeError) b pc) _ = _; rw [h]; show Except.bind (Reader.u2 (ε := DecodeError) b (pc + 1)) _ = _; rw [zd_u2 h1 h2]; rfl)
theorem zdo_89 : zdok (89, 0, fun _ _ _ => .dup) := zd_0 (fun b pc h => by unfold Decoder.instr; show Except.bind (Reader.u1 (ε := DecodeError) b pc) _ = _; rw [h]; rfl)
theorem zdo_159 : zdok (159, 2, fun x y _ => .if_icmp .eq (Reader.signed 16 (x * 256 + y))) := zd_2 (fun b pc a c h h1 h2 => by unfold Decoder.instr; show Except.bind (Reader.u1 (ε := DecodeError) b pc) _ = _; rw [h]; show Except.bind (Reader.s2 (ε := DecodeError) b (pc + 1)) _ = _; rw [zd_s2 h1 h2]; rfl)
theorem zdo_160 : zdok (160, 2, fun x y _ => .if_icmp .ne (Reader.signed 16 (x * 256 + y))) := zd_2 (fun b pc a c h h1 h2 => by unfold Decoder.instr; show Except.bind (Reader.u1 (ε := DecodeError) b pc) _ = _; rw [h]; show Except.bind (Reader.s2 (ε := DecodeError) b (pc + 1)) _ = _; rw [zd_s2 h1 h2]; rfl)
theorem zdo_161 : zdok (161, 2, fun x y _ => .if_icmp .lt (Reader.signed 16 (x * 256 + y))) := zd_2 (fun b pc a c h h1 h2 => by unfold Decoder.instr; show Except.bind (Reader.u1 (ε := DecodeError) b pc) _ = _; rw [h]; show Except.bind (Reader.s2 (ε := DecodeError) b (pc + 1)) _ = _; rw [zd_s2 h1 h2]; rfl)
theorem zdo_162 : zdok (162, 2, fun x y _ => .if_icmp .ge (Reader.signed 16 (x * 256 + y))) := zd_2 (fun b pc a c h h1 h2 => by unfold Decoder.instr; show Except.bind (Reader.u1 (ε := DecodeError) b pc) _ = _; rw [h]; show Except.bind (Reader.s2 (ε := DecodeError) b (pc + 1)) _ = _; rw [zd_s2 h1 h2]; rfl)
theorem zdo_163 : zdok (163, 2, fun x y _ => .if_icmp .gt (Reader.signed 16 (x * 256 + y))) := zd_2 (fun b pc a c h h1 h2 => by unfold Decoder.instr; show Except.bind (Reader.u1 (ε := DecodeError) b pc) _ = _; rw [h]; show Except.bind (Reader.s2 (ε := DecodeError) b (pc + 1)) _ = _; rw [zd_s2 h1 h2]; rfl)
theorem zdo_164 : zdok (164, 2, fun x y _ => .if_icmp .le (Reader.signed 16 (x * 256 + y))) := zd_2 (fun b pc a c h h1 h2 => by unfold Decoder.instr; show Except.bind (Reader.u1 (ε := DecodeError) b pc) _ = _; rw [h]; show Except.bind (Reader.s2 (ε := DecodeError) b (pc + 1)) _ = _; rw [zd_s2 h1 h2]; rfl)
theorem zdo_2 : zdok (2, 0, fun _ _ _ => .iconst (-1)) := zd_0 (fun b pc h => by unfold Decoder.instr; show Except.bind (Reader.u1 (ε := DecodeError) b pc) _ = _; rw [h]; rfl)
theorem zdo_132 : zdok (132, 2, fun x y _ => .iinc x (Reader.signed 8 y)) := zd_2 (fun b pc a c h h1 h2 => by unfold Decoder.instr; show Except.bind (Reader.u1 (ε := DecodeError) b pc) _ = _; rw [h]; show Except.bind (Reader.u1 (ε := DecodeError) b (pc + 1)) _ = _; rw [h1]; show Except.bind (Reader.s1 (ε := DecodeError) b (pc + 2)) _ = _; rw [zd_s1 h2]; rfl)
theorem zdo_153 : zdok (153, 2, fun x y _ => .ifCond .eq (Reader.signed 16 (x * 256 + y))) := zd_2 (fun b pc a c h h1 h2 => by unfold Decoder.instr; show Except.bind (Reader.u1 (ε := DecodeError) b pc) _ = _; rw [h]; show Except.bind (Reader.s2 (ε := DecodeError) b (pc + 1)) _ = _; rw [zd_s2 h1 h2]; rfl)
theorem zdo_154 : zdok (154, 2, fun x y _ => .ifCond .ne (Reader.signed 16 (x * 256 + y))) := zd_2 (fun b pc a c h h1 h2 => by unfold Decoder.instr; show Except.bind (Reader.u1 (ε := DecodeError) b pc) _ = _; rw [h]; show Except.bind (Reader.s2 (ε := DecodeError) b (pc + 1)) _ = _; rw [zd_s2 h1 h2]; rfl)
theorem zdo_155 : zdok (155, 2, fun x y _ => .ifCond .lt (Reader.signed 16 (x * 256 + y))) := zd_2 (fun b pc a c h h1 h2 => by unfold Decoder.instr; show Except.bind (Reader.u1 (ε := DecodeError) b pc) _ = _; rw [h]; show Except.bind (Reader.s2 (ε := DecodeError) b (pc + 1)) _ = _; rw [zd_s2 h1 h2]; rfl)
theorem zdo_156 : zdok (156, 2, fun x y _ => .ifCond .ge (Reader.signed 16 (x * 256 + y))) := zd_2 (fun b pc a c h h1 h2 => by unfold Decoder.instr; show Except.bind (Reader.u1 (ε := DecodeError) b pc) _ = _; rw [h]; show Except.bind (Reader.s2 (ε := DecodeError) b (pc + 1)) _ = _; rw [zd_s2 h1 h2]; rfl)
theorem zdo_157 : zdok (157, 2, fun x y _ => .ifCond .gt (Reader.signed 16 (x * 256 + y))) := zd_2 (fun b pc a c h h1 h2 => by unfold Decoder.instr; show Except.bind (Reader.u1 (ε := DecodeError) b pc) _ = _; rw [h]; show Except.bind (Reader.s2 (ε := DecodeError) b (pc + 1)) _ = _; rw [zd_s2 h1 h2]; rfl)
theorem zdo_158 : zdok (158, 2, fun x y _ => .ifCond .le (Reader.signed 16 (x * 256 + y))) := zd_2 (fun b pc a c h h1 h2 => by unfold Decoder.instr; show Except.bind (Reader.u1 (ε := DecodeError) b pc) _ = _; rw [h]; show Except.bind (Reader.s2 (ε := DecodeError) b (pc + 1)) _ = _; rw [zd_s2 h1 h2]; rfl)
theorem zdo_79 : zdok (79, 0, fun _ _ _ => .iastore) := zd_0 (fun b pc h => by unfold Decoder.instr; show Except.bind (Reader.u1 (ε := DecodeError) b pc) _ = _; rw [h]; rfl)
theorem zdo_84 : zdok (84, 0, fun _ _ _ => .bastore) := zd_0 (fun b pc h => by unfold Decoder.instr; show Except.bind (Reader.u1 (ε := DecodeError) b pc) _ = _; rw [h]; rfl)
theorem zdo_184 : zdok (184, 2, fun x y _ => .invokestatic (x * 256 + y)) := zd_2 (fun b pc a c h h1 h2 => by unfold Decoder.instr; show Except.bind (Reader.u1 (ε := DecodeError) b pc) _ = _; rw [h]; show Except.bind (Reader.u2 (ε := DecodeError) b (pc + 1)) _ = _; rw [zd_u2 h1 h2]; rfl)
theorem zdo_5 : zdok (5, 0, fun _ _ _ => .iconst 2) := zd_0 (fun b pc h => by unfold Decoder.instr; show Except.bind (Reader.u1 (ε := DecodeError) b pc) _ = _; rw [h]; rfl)
theorem zdo_54 : zdok (54, 1, fun x _ _ => .istore x) := zd_1 (fun b pc a h h1 => by unfold Decoder.instr; show Except.bind (Reader.u1 (ε := DecodeError) b pc) _ = _; rw [h]; show Except.bind (Reader.u1 (ε := DecodeError) b (pc + 1)) _ = _; rw [h1]; rfl)
theorem zdo_177 : zdok (177, 0, fun _ _ _ => .return_) := zd_0 (fun b pc h => by unfold Decoder.instr; show Except.bind (Reader.u1 (ε := DecodeError) b pc) _ = _; rw [h]; rfl)
theorem zdo_100 : zdok (100, 0, fun _ _ _ => .isub) := zd_0 (fun b pc h => by unfold Decoder.instr; show Except.bind (Reader.u1 (ε := DecodeError) b pc) _ = _; rw [h]; rfl)
theorem zdo_43 : zdok (43, 0, fun _ _ _ => .aload_n 1) := zd_0 (fun b pc h => by unfold Decoder.instr; show Except.bind (Reader.u1 (ε := DecodeError) b pc) _ = _; rw [h]; rfl)
theorem zdo_62 : zdok (62, 0, fun _ _ _ => .istore_n 3) := zd_0 (fun b pc h => by unfold Decoder.instr; show Except.bind (Reader.u1 (ε := DecodeError) b pc) _ = _; rw [h]; rfl)
theorem zdo_61 : zdok (61, 0, fun _ _ _ => .istore_n 2) := zd_0 (fun b pc h => by unfold Decoder.instr; show Except.bind (Reader.u1 (ε := DecodeError) b pc) _ = _; rw [h]; rfl)
theorem zdo_44 : zdok (44, 0, fun _ _ _ => .aload_n 2) := zd_0 (fun b pc h => by unfold Decoder.instr; show Except.bind (Reader.u1 (ε := DecodeError) b pc) _ = _; rw [h]; rfl)
theorem zdo_26 : zdok (26, 0, fun _ _ _ => .iload_n 0) := zd_0 (fun b pc h => by unfold Decoder.instr; show Except.bind (Reader.u1 (ε := DecodeError) b pc) _ = _; rw [h]; rfl)
theorem zdo_50 : zdok (50, 0, fun _ _ _ => .aaload) := zd_0 (fun b pc h => by unfold Decoder.instr; show Except.bind (Reader.u1 (ε := DecodeError) b pc) _ = _; rw [h]; rfl)
theorem zdo_17 : zdok (17, 2, fun x y _ => .sipush (Reader.signed 16 (x * 256 + y))) := zd_2 (fun b pc a c h h1 h2 => by unfold Decoder.instr; show Except.bind (Reader.u1 (ε := DecodeError) b pc) _ = _; rw [h]; show Except.bind (Reader.s2 (ε := DecodeError) b (pc + 1)) _ = _; rw [zd_s2 h1 h2]; rfl)
theorem zdo_60 : zdok (60, 0, fun _ _ _ => .istore_n 1) := zd_0 (fun b pc h => by unfold Decoder.instr; show Except.bind (Reader.u1 (ε := DecodeError) b pc) _ = _; rw [h]; rfl)
theorem zdo_59 : zdok (59, 0, fun _ _ _ => .istore_n 0) := zd_0 (fun b pc h => by unfold Decoder.instr; show Except.bind (Reader.u1 (ε := DecodeError) b pc) _ = _; rw [h]; rfl)
theorem zdo_7 : zdok (7, 0, fun _ _ _ => .iconst 4) := zd_0 (fun b pc h => by unfold Decoder.instr; show Except.bind (Reader.u1 (ε := DecodeError) b pc) _ = _; rw [h]; rfl)
theorem zdo_6 : zdok (6, 0, fun _ _ _ => .iconst 3) := zd_0 (fun b pc h => by unfold Decoder.instr; show Except.bind (Reader.u1 (ε := DecodeError) b pc) _ = _; rw [h]; rfl)
theorem zdo_133 : zdok (133, 0, fun _ _ _ => .i2l) := zd_0 (fun b pc h => by unfold Decoder.instr; show Except.bind (Reader.u1 (ε := DecodeError) b pc) _ = _; rw [h]; rfl)
theorem zdo_183 : zdok (183, 2, fun x y _ => .invokespecial (x * 256 + y)) := zd_2 (fun b pc a c h h1 h2 => by unfold Decoder.instr; show Except.bind (Reader.u1 (ε := DecodeError) b pc) _ = _; rw [h]; show Except.bind (Reader.u2 (ε := DecodeError) b (pc + 1)) _ = _; rw [zd_u2 h1 h2]; rfl)
theorem zdo_8 : zdok (8, 0, fun _ _ _ => .iconst 5) := zd_0 (fun b pc h => by unfold Decoder.instr; show Except.bind (Reader.u1 (ε := DecodeError) b pc) _ = _; rw [h]; rfl)
theorem zdo_51 : zdok (51, 0, fun _ _ _ => .baload) := zd_0 (fun b pc h => by unfold Decoder.instr; show Except.bind (Reader.u1 (ε := DecodeError) b pc) _ = _; rw [h]; rfl)
theorem zdo_19 : zdok (19, 2, fun x y _ => .ldc_w (x * 256 + y)) := zd_2 (fun b pc a c h h1 h2 => by unfold Decoder.instr; show Except.bind (Reader.u1 (ε := DecodeError) b pc) _ = _; rw [h]; show Except.bind (Reader.u2 (ε := DecodeError) b (pc + 1)) _ = _; rw [zd_u2 h1 h2]; rfl)
theorem zdo_20 : zdok (20, 2, fun x y _ => .ldc2_w (x * 256 + y)) := zd_2 (fun b pc a c h h1 h2 => by unfold Decoder.instr; show Except.bind (Reader.u1 (ε := DecodeError) b pc) _ = _; rw [h]; show Except.bind (Reader.u2 (ε := DecodeError) b (pc + 1)) _ = _; rw [zd_u2 h1 h2]; rfl)
theorem zdo_104 : zdok (104, 0, fun _ _ _ => .imul) := zd_0 (fun b pc h => by unfold Decoder.instr; show Except.bind (Reader.u1 (ε := DecodeError) b pc) _ = _; rw [h]; rfl)
theorem zdo_176 : zdok (176, 0, fun _ _ _ => .areturn) := zd_0 (fun b pc h => by unfold Decoder.instr; show Except.bind (Reader.u1 (ε := DecodeError) b pc) _ = _; rw [h]; rfl)
theorem zdo_87 : zdok (87, 0, fun _ _ _ => .pop) := zd_0 (fun b pc h => by unfold Decoder.instr; show Except.bind (Reader.u1 (ε := DecodeError) b pc) _ = _; rw [h]; rfl)
theorem zdo_187 : zdok (187, 2, fun x y _ => .new (x * 256 + y)) := zd_2 (fun b pc a c h h1 h2 => by unfold Decoder.instr; show Except.bind (Reader.u1 (ε := DecodeError) b pc) _ = _; rw [h]; show Except.bind (Reader.u2 (ε := DecodeError) b (pc + 1)) _ = _; rw [zd_u2 h1 h2]; rfl)
theorem zdo_9 : zdok (9, 0, fun _ _ _ => .lconst 0) := zd_0 (fun b pc h => by unfold Decoder.instr; show Except.bind (Reader.u1 (ε := DecodeError) b pc) _ = _; rw [h]; rfl)
theorem zdo_10 : zdok (10, 0, fun _ _ _ => .lconst 1) := zd_0 (fun b pc h => by unfold Decoder.instr; show Except.bind (Reader.u1 (ε := DecodeError) b pc) _ = _; rw [h]; rfl)
theorem zdo_128 : zdok (128, 0, fun _ _ _ => .ior) := zd_0 (fun b pc h => by unfold Decoder.instr; show Except.bind (Reader.u1 (ε := DecodeError) b pc) _ = _; rw [h]; rfl)
theorem zdo_45 : zdok (45, 0, fun _ _ _ => .aload_n 3) := zd_0 (fun b pc h => by unfold Decoder.instr; show Except.bind (Reader.u1 (ε := DecodeError) b pc) _ = _; rw [h]; rfl)
theorem zdo_120 : zdok (120, 0, fun _ _ _ => .ishl) := zd_0 (fun b pc h => by unfold Decoder.instr; show Except.bind (Reader.u1 (ε := DecodeError) b pc) _ = _; rw [h]; rfl)
theorem zdo_92 : zdok (92, 0, fun _ _ _ => .dup2) := zd_0 (fun b pc h => by unfold Decoder.instr; show Except.bind (Reader.u1 (ε := DecodeError) b pc) _ = _; rw [h]; rfl)
theorem zdo_126 : zdok (126, 0, fun _ _ _ => .iand) := zd_0 (fun b pc h => by unfold Decoder.instr; show Except.bind (Reader.u1 (ε := DecodeError) b pc) _ = _; rw [h]; rfl)
theorem zdo_198 : zdok (198, 2, fun x y _ => .ifnull (Reader.signed 16 (x * 256 + y))) := zd_2 (fun b pc a c h h1 h2 => by unfold Decoder.instr; show Except.bind (Reader.u1 (ε := DecodeError) b pc) _ = _; rw [h]; show Except.bind (Reader.s2 (ε := DecodeError) b (pc + 1)) _ = _; rw [zd_s2 h1 h2]; rfl)
theorem zdo_190 : zdok (190, 0, fun _ _ _ => .arraylength) := zd_0 (fun b pc h => by unfold Decoder.instr; show Except.bind (Reader.u1 (ε := DecodeError) b pc) _ = _; rw [h]; rfl)
theorem zdo_83 : zdok (83, 0, fun _ _ _ => .aastore) := zd_0 (fun b pc h => by unfold Decoder.instr; show Except.bind (Reader.u1 (ε := DecodeError) b pc) _ = _; rw [h]; rfl)
theorem zdo_122 : zdok (122, 0, fun _ _ _ => .ishr) := zd_0 (fun b pc h => by unfold Decoder.instr; show Except.bind (Reader.u1 (ε := DecodeError) b pc) _ = _; rw [h]; rfl)
theorem zdo_30 : zdok (30, 0, fun _ _ _ => .lload_n 0) := zd_0 (fun b pc h => by unfold Decoder.instr; show Except.bind (Reader.u1 (ε := DecodeError) b pc) _ = _; rw [h]; rfl)
theorem zdo_32 : zdok (32, 0, fun _ _ _ => .lload_n 2) := zd_0 (fun b pc h => by unfold Decoder.instr; show Except.bind (Reader.u1 (ε := DecodeError) b pc) _ = _; rw [h]; rfl)
theorem zdo_22 : zdok (22, 1, fun x _ _ => .lload x) := zd_1 (fun b pc a h h1 => by unfold Decoder.instr; show Except.bind (Reader.u1 (ε := DecodeError) b pc) _ = _; rw [h]; show Except.bind (Reader.u1 (ε := DecodeError) b (pc + 1)) _ = _; rw [h1]; rfl)
theorem zdo_148 : zdok (148, 0, fun _ _ _ => .lcmp) := zd_0 (fun b pc h => by unfold Decoder.instr; show Except.bind (Reader.u1 (ε := DecodeError) b pc) _ = _; rw [h]; rfl)
theorem zdo_124 : zdok (124, 0, fun _ _ _ => .iushr) := zd_0 (fun b pc h => by unfold Decoder.instr; show Except.bind (Reader.u1 (ε := DecodeError) b pc) _ = _; rw [h]; rfl)
theorem zdo_78 : zdok (78, 0, fun _ _ _ => .astore_n 3) := zd_0 (fun b pc h => by unfold Decoder.instr; show Except.bind (Reader.u1 (ε := DecodeError) b pc) _ = _; rw [h]; rfl)
theorem zdo_77 : zdok (77, 0, fun _ _ _ => .astore_n 2) := zd_0 (fun b pc h => by unfold Decoder.instr; show Except.bind (Reader.u1 (ε := DecodeError) b pc) _ = _; rw [h]; rfl)
theorem zdo_76 : zdok (76, 0, fun _ _ _ => .astore_n 1) := zd_0 (fun b pc h => by unfold Decoder.instr; show Except.bind (Reader.u1 (ε := DecodeError) b pc) _ = _; rw [h]; rfl)
theorem zdo_58 : zdok (58, 1, fun x _ _ => .astore x) := zd_1 (fun b pc a h h1 => by unfold Decoder.instr; show Except.bind (Reader.u1 (ε := DecodeError) b pc) _ = _; rw [h]; show Except.bind (Reader.u1 (ε := DecodeError) b (pc + 1)) _ = _; rw [h1]; rfl)
theorem zdo_25 : zdok (25, 1, fun x _ _ => .aload x) := zd_1 (fun b pc a h h1 => by unfold Decoder.instr; show Except.bind (Reader.u1 (ε := DecodeError) b pc) _ = _; rw [h]; show Except.bind (Reader.u1 (ε := DecodeError) b (pc + 1)) _ = _; rw [h1]; rfl)
theorem zdo_189 : zdok (189, 2, fun x y _ => .anewarray (x * 256 + y)) := zd_2 (fun b pc a c h h1 h2 => by unfold Decoder.instr; show Except.bind (Reader.u1 (ε := DecodeError) b pc) _ = _; rw [h]; show Except.bind (Reader.u2 (ε := DecodeError) b (pc + 1)) _ = _; rw [zd_u2 h1 h2]; rfl)
theorem zdo_112 : zdok (112, 0, fun _ _ _ => .irem) := zd_0 (fun b pc h => by unfold Decoder.instr; show Except.bind (Reader.u1 (ε := DecodeError) b pc) _ = _; rw [h]; rfl)
theorem zdo_145 : zdok (145, 0, fun _ _ _ => .i2b) := zd_0 (fun b pc h => by unfold Decoder.instr; show Except.bind (Reader.u1 (ε := DecodeError) b pc) _ = _; rw [h]; rfl)
def zdt : List zDe := [(42, 0, fun _ _ _ => .aload_n 0), (180, 2, fun x y _ => .getfield (x * 256 + y)), (182, 2, fun x y _ => .invokevirtual (x * 256 + y)), (27, 0, fun _ _ _ => .iload_n 1), (16, 1, fun x _ _ => .bipush (Reader.signed 8 x)), (172, 0, fun _ _ _ => .ireturn), (3, 0, fun _ _ _ => .iconst 0), (4, 0, fun _ _ _ => .iconst 1), (28, 0, fun _ _ _ => .iload_n 2), (46, 0, fun _ _ _ => .iaload), (29, 0, fun _ _ _ => .iload_n 3), (167, 2, fun x y _ => .goto (Reader.signed 16 (x * 256 + y))), (96, 0, fun _ _ _ => .iadd), (21, 1, fun x _ _ => .iload x), (181, 2, fun x y _ => .putfield (x * 256 + y)), (89, 0, fun _ _ _ => .dup), (159, 2, fun x y _ => .if_icmp .eq (Reader.signed 16 (x * 256 + y))), (160, 2, fun x y _ => .if_icmp .ne (Reader.signed 16 (x * 256 + y))), (161, 2, fun x y _ => .if_icmp .lt (Reader.signed 16 (x * 256 + y))), (162, 2, fun x y _ => .if_icmp .ge (Reader.signed 16 (x * 256 + y))), (163, 2, fun x y _ => .if_icmp .gt (Reader.signed 16 (x * 256 + y))), (164, 2, fun x y _ => .if_icmp .le (Reader.signed 16 (x * 256 + y))), (2, 0, fun _ _ _ => .iconst (-1)), (132, 2, fun x y _ => .iinc x (Reader.signed 8 y)), (153, 2, fun x y _ => .ifCond .eq (Reader.signed 16 (x * 256 + y))), (154, 2, fun x y _ => .ifCond .ne (Reader.signed 16 (x * 256 + y))), (155, 2, fun x y _ => .ifCond .lt (Reader.signed 16 (x * 256 + y))), (156, 2, fun x y _ => .ifCond .ge (Reader.signed 16 (x * 256 + y))), (157, 2, fun x y _ => .ifCond .gt (Reader.signed 16 (x * 256 + y))), (158, 2, fun x y _ => .ifCond .le (Reader.signed 16 (x * 256 + y))), (79, 0, fun _ _ _ => .iastore), (84, 0, fun _ _ _ => .bastore), (184, 2, fun x y _ => .invokestatic (x * 256 + y)), (5, 0, fun _ _ _ => .iconst 2), (54, 1, fun x _ _ => .istore x), (177, 0, fun _ _ _ => .return_), (100, 0, fun _ _ _ => .isub), (43, 0, fun _ _ _ => .aload_n 1), (62, 0, fun _ _ _ => .istore_n 3), (61, 0, fun _ _ _ => .istore_n 2), (44, 0, fun _ _ _ => .aload_n 2), (26, 0, fun _ _ _ => .iload_n 0), (50, 0, fun _ _ _ => .aaload), (17, 2, fun x y _ => .sipush (Reader.signed 16 (x * 256 + y))), (60, 0, fun _ _ _ => .istore_n 1), (59, 0, fun _ _ _ => .istore_n 0), (7, 0, fun _ _ _ => .iconst 4), (6, 0, fun _ _ _ => .iconst 3), (133, 0, fun _ _ _ => .i2l), (183, 2, fun x y _ => .invokespecial (x * 256 + y)), (8, 0, fun _ _ _ => .iconst 5), (51, 0, fun _ _ _ => .baload), (19, 2, fun x y _ => .ldc_w (x * 256 + y)), (20, 2, fun x y _ => .ldc2_w (x * 256 + y)), (104, 0, fun _ _ _ => .imul), (176, 0, fun _ _ _ => .areturn), (87, 0, fun _ _ _ => .pop), (187, 2, fun x y _ => .new (x * 256 + y)), (9, 0, fun _ _ _ => .lconst 0), (10, 0, fun _ _ _ => .lconst 1), (128, 0, fun _ _ _ => .ior), (45, 0, fun _ _ _ => .aload_n 3), (120, 0, fun _ _ _ => .ishl), (92, 0, fun _ _ _ => .dup2), (126, 0, fun _ _ _ => .iand), (198, 2, fun x y _ => .ifnull (Reader.signed 16 (x * 256 + y))), (190, 0, fun _ _ _ => .arraylength), (83, 0, fun _ _ _ => .aastore), (122, 0, fun _ _ _ => .ishr), (30, 0, fun _ _ _ => .lload_n 0), (32, 0, fun _ _ _ => .lload_n 2), (22, 1, fun x _ _ => .lload x), (148, 0, fun _ _ _ => .lcmp), (124, 0, fun _ _ _ => .iushr), (78, 0, fun _ _ _ => .astore_n 3), (77, 0, fun _ _ _ => .astore_n 2), (76, 0, fun _ _ _ => .astore_n 1), (58, 1, fun x _ _ => .astore x), (25, 1, fun x _ _ => .aload x), (189, 2, fun x y _ => .anewarray (x * 256 + y)), (112, 0, fun _ _ _ => .irem), (145, 0, fun _ _ _ => .i2b)]
theorem zdt_ok : ∀ e ∈ zdt, zdok e := List.forall_mem_cons.mpr ⟨zdo_42, List.forall_mem_cons.mpr ⟨zdo_180, List.forall_mem_cons.mpr ⟨zdo_182, List.forall_mem_cons.mpr ⟨zdo_27, List.forall_mem_cons.mpr ⟨zdo_16, List.forall_mem_cons.mpr ⟨zdo_172, List.forall_mem_cons.mpr ⟨zdo_3, List.forall_mem_cons.mpr ⟨zdo_4, List.forall_mem_cons.mpr ⟨zdo_28, List.forall_mem_cons.mpr ⟨zdo_46, List.forall_mem_cons.mpr ⟨zdo_29, List.forall_mem_cons.mpr ⟨zdo_167, List.forall_mem_cons.mpr ⟨zdo_96, List.forall_mem_cons.mpr ⟨zdo_21, List.forall_mem_cons.mpr ⟨zdo_181, List.forall_mem_cons.mpr ⟨zdo_89, List.forall_mem_cons.mpr ⟨zdo_159, List.forall_mem_cons.mpr ⟨zdo_160, List.forall_mem_cons.mpr ⟨zdo_161, List.forall_mem_cons.mpr ⟨zdo_162, List.forall_mem_cons.mpr ⟨zdo_163, List.forall_mem_cons.mpr ⟨zdo_164, List.forall_mem_cons.mpr ⟨zdo_2, List.forall_mem_cons.mpr ⟨zdo_132, List.forall_mem_cons.mpr ⟨zdo_153, List.forall_mem_cons.mpr ⟨zdo_154, List.forall_mem_cons.mpr ⟨zdo_155, List.forall_mem_cons.mpr ⟨zdo_156, List.forall_mem_cons.mpr ⟨zdo_157, List.forall_mem_cons.mpr ⟨zdo_158, List.forall_mem_cons.mpr ⟨zdo_79, List.forall_mem_cons.mpr ⟨zdo_84, List.forall_mem_cons.mpr ⟨zdo_184, List.forall_mem_cons.mpr ⟨zdo_5, List.forall_mem_cons.mpr ⟨zdo_54, List.forall_mem_cons.mpr ⟨zdo_177, List.forall_mem_cons.mpr ⟨zdo_100, List.forall_mem_cons.mpr ⟨zdo_43, List.forall_mem_cons.mpr ⟨zdo_62, List.forall_mem_cons.mpr ⟨zdo_61, List.forall_mem_cons.mpr ⟨zdo_44, List.forall_mem_cons.mpr ⟨zdo_26, List.forall_mem_cons.mpr ⟨zdo_50, List.forall_mem_cons.mpr ⟨zdo_17, List.forall_mem_cons.mpr ⟨zdo_60, List.forall_mem_cons.mpr ⟨zdo_59, List.forall_mem_cons.mpr ⟨zdo_7, List.forall_mem_cons.mpr ⟨zdo_6, List.forall_mem_cons.mpr ⟨zdo_133, List.forall_mem_cons.mpr ⟨zdo_183, List.forall_mem_cons.mpr ⟨zdo_8, List.forall_mem_cons.mpr ⟨zdo_51, List.forall_mem_cons.mpr ⟨zdo_19, List.forall_mem_cons.mpr ⟨zdo_20, List.forall_mem_cons.mpr ⟨zdo_104, List.forall_mem_cons.mpr ⟨zdo_176, List.forall_mem_cons.mpr ⟨zdo_87, List.forall_mem_cons.mpr ⟨zdo_187, List.forall_mem_cons.mpr ⟨zdo_9, List.forall_mem_cons.mpr ⟨zdo_10, List.forall_mem_cons.mpr ⟨zdo_128, List.forall_mem_cons.mpr ⟨zdo_45, List.forall_mem_cons.mpr ⟨zdo_120, List.forall_mem_cons.mpr ⟨zdo_92, List.forall_mem_cons.mpr ⟨zdo_126, List.forall_mem_cons.mpr ⟨zdo_198, List.forall_mem_cons.mpr ⟨zdo_190, List.forall_mem_cons.mpr ⟨zdo_83, List.forall_mem_cons.mpr ⟨zdo_122, List.forall_mem_cons.mpr ⟨zdo_30, List.forall_mem_cons.mpr ⟨zdo_32, List.forall_mem_cons.mpr ⟨zdo_22, List.forall_mem_cons.mpr ⟨zdo_148, List.forall_mem_cons.mpr ⟨zdo_124, List.forall_mem_cons.mpr ⟨zdo_78, List.forall_mem_cons.mpr ⟨zdo_77, List.forall_mem_cons.mpr ⟨zdo_76, List.forall_mem_cons.mpr ⟨zdo_58, List.forall_mem_cons.mpr ⟨zdo_25, List.forall_mem_cons.mpr ⟨zdo_189, List.forall_mem_cons.mpr ⟨zdo_112, List.forall_mem_cons.mpr ⟨zdo_145, fun _ h => absurd h List.not_mem_nil⟩⟩⟩⟩⟩⟩⟩⟩⟩⟩⟩⟩⟩⟩⟩⟩⟩⟩⟩⟩⟩⟩⟩⟩⟩⟩⟩⟩⟩⟩⟩⟩⟩⟩⟩⟩⟩⟩⟩⟩⟩⟩⟩⟩⟩⟩⟩⟩⟩⟩⟩⟩⟩⟩⟩⟩⟩⟩⟩⟩⟩⟩⟩⟩⟩⟩⟩⟩⟩⟩⟩⟩⟩⟩⟩⟩⟩⟩⟩⟩⟩⟩
/-- the first entry that fits -/
def zdec : List zDe → List UInt8 → Option (Instr × Nat)
  | [], _ => none
  | e :: r, l => match zd1 e l with
    | some q => some q
    | none => zdec r l
theorem zdec_ok : ∀ (t : List zDe), (∀ e ∈ t, zdok e) → ∀ (b : ByteArray) (pc : Nat) (x : Instr) (n : Nat), zdec t (b.data.toList.drop pc) = some (x, n) → decode b pc = .ok (x, n)
  | [], _, b, pc, x, n, h => by cases h
  | e :: r, ht, b, pc, x, n, h => by
    unfold zdec at h
    cases h1 : zd1 e (b.data.toList.drop pc) with
    | some q => rw [h1] at h; cases h; exact ht e List.mem_cons_self b pc x n h1
    | none => rw [h1] at h; exact zdec_ok r (fun z hz => ht z (List.mem_cons_of_mem _ hz)) b pc x n h
