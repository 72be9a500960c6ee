/-! String.length and String.charAt: JDK's own methods -/
def zyLen : MethodName := ⟨"java/lang/String", "length", "()I"⟩
def zyCod : MethodName := ⟨"java/lang/String", "coder", "()B"⟩
def zyChr : MethodName := ⟨"java/lang/String", "charAt", "(I)C"⟩
def zyLat : MethodName := ⟨"java/lang/String", "isLatin1", "()Z"⟩
def zyChk : MethodName := ⟨"java/lang/String", "checkIndex", "(II)V"⟩
def zyL1c : MethodName := ⟨"java/lang/StringLatin1", "charAt", "([BI)C"⟩
def zyPck : MethodName := ⟨"jdk/internal/util/Preconditions", "checkIndex", "(IILjava/util/function/BiFunction;)I"⟩
def zJw : List (Nat × Cond) := [(127, (Jvm.Cond.initialized "java/lang/String")),
  (128, (Jvm.Cond.initialized "java/lang/StringLatin1")),
  (129, (Jvm.Cond.initialized "jdk/internal/util/Preconditions")),
  (587, (Jvm.Cond.instanceMethod zyLen)),
  (588, (Jvm.Cond.selects "java/lang/String" zyLen zyLen)),
  (589, (Jvm.Cond.code zyLen prog_16_method_54_code (1 : Nat) (Option.some Jvm.ClassFile.FieldType.int))),
  (590, (Jvm.Cond.methodLink "java/lang/String" (335 : Nat) zyCod)),
  (591, (Jvm.Cond.instanceMethod zyCod)),
  (592, (Jvm.Cond.selects "java/lang/String" zyCod zyCod)),
  (593, (Jvm.Cond.code zyCod prog_16_method_152_code (1 : Nat) (Option.some Jvm.ClassFile.FieldType.byte))),
  (594, (Jvm.Cond.fieldLink "java/lang/String" (38 : Nat) "java/lang/String" "COMPACT_STRINGS" "Z")),
  (601, (Jvm.Cond.instanceMethod zyChr)),
  (602, (Jvm.Cond.selects "java/lang/String" zyChr zyChr)),
  (603, (Jvm.Cond.code zyChr prog_16_method_56_code (2 : Nat) (Option.some Jvm.ClassFile.FieldType.char))),
  (604, (Jvm.Cond.methodLink "java/lang/String" (492 : Nat) zyLat)),
  (605, (Jvm.Cond.instanceMethod zyLat)),
  (606, (Jvm.Cond.selects "java/lang/String" zyLat zyLat)),
  (607, (Jvm.Cond.code zyLat prog_16_method_154_code (1 : Nat) (Option.some Jvm.ClassFile.FieldType.boolean))),
  (608, (Jvm.Cond.methodLink "java/lang/String" (495 : Nat) zyL1c)),
  (609, (Jvm.Cond.static zyL1c)),
  (610, (Jvm.Cond.code zyL1c prog_17_method_2_code (2 : Nat) (Option.some Jvm.ClassFile.FieldType.char))),
  (611, (Jvm.Cond.methodLink "java/lang/StringLatin1" (9 : Nat) zyChk)),
  (612, (Jvm.Cond.static zyChk)),
  (613, (Jvm.Cond.code zyChk prog_16_method_155_code (2 : Nat) (Option.none : Option Jvm.ClassFile.FieldType))),
  (614, (Jvm.Cond.fieldLink "java/lang/String" (1053 : Nat) "jdk/internal/util/Preconditions" "SIOOBE_FORMATTER" "Ljava/util/function/BiFunction;")),
  (616, (Jvm.Cond.methodLink "java/lang/String" (1059 : Nat) zyPck)),
  (617, (Jvm.Cond.static zyPck)),
  (618, (Jvm.Cond.code zyPck prog_20_method_11_code (3 : Nat) (Option.some Jvm.ClassFile.FieldType.int))),
  (1860, (Jvm.Cond.fieldLink "java/lang/String" (9 : Nat) "java/lang/String" "value" "[B")),
  (1861, (Jvm.Cond.fieldLink "java/lang/String" (15 : Nat) "java/lang/String" "coder" "B"))]
theorem zJw_ok : ∀ e ∈ zJw, lw_tbl[e.1]? = some e.2 := by decide +kernel
theorem zJw_good : ∀ e ∈ zJw, goodWord e.2 = true := by decide +kernel
def zJl : List Cond := zJw.map (·.2)
theorem zJl_tb : ∀ w ∈ zJl, w ∈ zTb := fun w hw => by
  obtain ⟨e, he, rfl⟩ := List.mem_map.mp hw
  exact zTb_of (zJw_ok e he) (zJw_good e he)
theorem zJl_in {w : Cond} (h : w ∈ zJl) : GoodIn zJl [w] := fun w' hw' => by
  rw [List.mem_singleton.mp hw']
  exact ⟨h, zTb_good (zJl_tb w h)⟩
theorem zJl_good : GoodIn zJl zJl := fun w hw => ⟨hw, zTb_good (zJl_tb w hw)⟩
theorem zJl_goodT : GoodIn zTb zJl := fun w hw => ⟨zJl_tb w hw, zTb_good (zJl_tb w hw)⟩
def zWj (y : MethodName) (b : ByteArray) (mL : Nat) (r : Option FieldType) : List Cond := Cond.code y b mL r :: zJl
def zQp (v : Option Value) : Array Value → State → Outcome → State → Prop := fun _ st o t => o = .returned v ∧ t.heap = st.heap
theorem z_backP {p : Program} {l : Launch} {e : Env} {R : Room} {s : State} {m : MethodId} {args : Array Value} {below : List Frame} {meth : Method} {c : Code} {H : Heap} {locs : List Loc} {cells slots : Nat} {Q : State → Prop} {v : Option Value} {pc : Nat} {als : Array Slot} {st0 rest : List Value} {a : Array Value}
    (hr : va_Run p l e R s m args below meth c H locs cells slots 0 0 (F0 m pc als st0) rest (zQp v a) (fun _ => False))
    (kk : W p l e R s m args below meth c H locs cells slots Q (F0 m (pc + 3) als (v.toList ++ rest))) : W p l e R s m args below meth c H locs cells slots Q (F0 m pc als st0) := by
  intro T hT X
  obtain ⟨w, st₀, t, T', L, h0, X', hL, e1, e2, ⟨hv, hh⟩, st⟩ := hr T hT X
  cases hv
  have hL0 : L = [] := List.eq_nil_iff_forall_not_mem.mpr (fun q hq => hL q hq)
  subst hL0
  rw [List.append_nil] at X'
  obtain ⟨t2, a1, b1⟩ := kk T' (by rw [e1, hh, h0]) X'
  exact ⟨t2, st t2 a1, b1⟩
/-- the texts and the two statics of the JDK -/
def zTxt (adK adV : Nat → Nat) (A : Nat → Prop) (U : State) (H : Heap) : Prop := vk_S 17 (zTx.map List.length) (zTx.map (fun t => t.map Int32.ofInt)) adK adV A U H ∧ zStr A U H
theorem zTxt.carry {adK adV : Nat → Nat} {A : Nat → Prop} {s U : State} {H : Heap} (hvm : s.vm.Alike U.vm) (h : zTxt adK adV A s s.heap) (hq : ∀ a : Nat, a < s.heap.size → ¬ A a → H[a]? = s.heap[a]?) : zTxt adK adV A U H :=
  ⟨vk_S.moved hvm (vk_S.kept h.1 hq), (va_Z.moved hvm (h.2.1.kept hq)), (va_Zq.moved hvm (h.2.2.kept hq))⟩
def zPs (adK adV : Nat → Nat) (A : Nat → Prop) (as : List Value) : Array Value → State → Prop := fun v U => v = as.toArray ∧ zTxt adK adV A U U.heap
theorem zPs_blind {adK adV : Nat → Nat} {A : Nat → Prop} {as : List Value} : FrameBlind (zPs adK adV A as) := fun a U g mk h => ⟨h.1, zTxt.carry (s := U) (Vm.Alike.refl U.vm) h.2 (fun _ _ _ => rfl)⟩
theorem zJopen {l : Launch} {adK adV : Nat → Nat} {A : Nat → Prop} {as : List Value} {y : MethodName} {b : ByteArray} {mL : Nat} {r : Option FieldType} {rm : Room} {v : Option Value} (hy : plainName y.cls = true) (hfit : (lg_sl as).length ≤ mL)
    (body : ∀ (p : Program) (e : Env) (s : State) (m : MethodId) (args : Array Value) (below : List Frame) (meth : Method) (c : Code) (als : Array Slot), p.tables.exec = Jvm.exec → c.code = b → c.maxLocals = mL → meth.sig.returnType = r → meth.locks = false → s.vm.findClass y.cls = some m.cls → (∀ w ∈ zJl, w.before args s = true) → zTxt adK adV A s s.heap →
      lv_has als mL (lv_args 0 as) → W p l e rm s m args below meth c s.heap [] 0 0 (MQ below (zQp v) args s 0 0 (fun _ => False)) (F0 m 0 als [])) : Met l y (zWj y b mL r) rm (zPs adK adV A as) (zQp v) 0 0 (fun _ => False) := by
  refine Met.ofW (cc := b) (maxL := mL) (ret := r) hy rfl ?_
  intro p e s m args below meth c s₁ B hml hv
  obtain ⟨hargs, hT⟩ := hv
  have hl := lv_entry as (n := mL) hfit
  have hgo := body p e s m args below meth c _ B.exec B.bytes hml B.returns B.notSynchronized (findClass_of_methodNamed B.named) (fun w hw => atoms_spec (ws := zWj y b mL r) B.pre w (List.mem_cons_of_mem _ hw)) hT hl
  have e : entryFrame m args mL = F0 m 0 ((lg_sl as ++ List.replicate (mL - (lg_sl as).length) Slot.unset).toArray) [] := by rw [hargs, lg_entry_eq]
  rw [e]
  exact hgo
theorem zJ_ret {p : Program} {l : Launch} {e : Env} {R : Room} {s : State} {m : MethodId} {args : Array Value} {below : List Frame} {meth : Method} {c : Code} {b : ByteArray} {r : FieldType} {v : Int32} {pc : Nat} {als : Array Slot} (hx : p.tables.exec = Jvm.exec) (hb : c.code = b) (hr : meth.sig.returnType = some r) (hlk : meth.locks = false) (hn : narrow r (.int v) = .int v) (hd : decode b pc = .ok (.ireturn, 1)) :
    W p l e R s m args below meth c s.heap [] 0 0 (MQ below (zQp (some (.int v))) args s 0 0 (fun _ => False)) (F0 m pc als [.int v]) :=
  W.zret hx hb hr hn (fun t ht _ => ⟨rfl, ht⟩) (fun _ h => by cases h) hd hlk
theorem zc_cod (l : Launch) (adK adV : Nat → Nat) (A : Nat → Prop) {i : Nat} (hi : i < 17) : Met l zyCod (zWj zyCod prog_16_method_152_code 1 (some .byte)) ({ frames := 1, cells := 0, slots := 0, locals := 20 }) (zPs adK adV A [.ref (adK i)]) (zQp (some (.int 0))) 0 0 (fun _ => False) := by
  refine zJopen (by decide) (Nat.le_of_ble_eq_true rfl) ?_
  intro p e s m args below meth c als hx hb hml hr hlk hown hts hT hl
  refine va_gets hx hb hT.2.1 va_S.rf hown (hts (.fieldLink "java/lang/String" 38 "java/lang/String" "COMPACT_STRINGS" "Z") (by decide +kernel)) (fun _ h => h) (show decode prog_16_method_152_code 0 = .ok (.getstatic 38, 3) by decide +kernel) ?_
  refine lv_if_eq hx hb (show decode prog_16_method_152_code 3 = .ok (.ifCond .eq 10, 3) by decide +kernel) (tgt := 13) rfl (fun z => absurd z (by decide)) (fun _ => ?_)
  refine lv_aload_n hx hb (show decode prog_16_method_152_code 6 = .ok (.aload_n 0, 1) by decide +kernel) rfl (lv_at hl 0 rfl) ?_
  refine vk_getf hx hb (hT.1.1 i hi).2.1 va_S.rf hown (hts (.fieldLink "java/lang/String" 15 "java/lang/String" "coder" "B") (by decide +kernel)) (fun _ h => h) (show decode prog_16_method_152_code 7 = .ok (.getfield 15, 3) by decide +kernel) ?_
  refine lv_goto hx hb (show decode prog_16_method_152_code 10 = .ok (.goto 4, 3) by decide +kernel) (tgt := 14) rfl ?_
  exact zJ_ret hx hb hr hlk rfl (by decide +kernel)
theorem zi_sr0 (x : Int32) : x >>> ((0 : Int32) &&& 31) = x := by
  rw [show ((0 : Int32) &&& 31) = 0 by decide]
  simp
theorem zJ_V {own : String} {idx : Nat} {y : MethodName} {b : ByteArray} {mL : Nat} {r : Option FieldType} (h : ∀ w ∈ ([.methodLink own idx y, .instanceMethod y, .selects y.cls y y, .initialized y.cls, .code y b mL r] : List Cond), w ∈ zJl) : GoodIn zJl (wsV own idx y.cls y (zWj y b mL r)) := by
  intro w hw
  unfold wsV at hw
  rcases List.mem_append.mp hw with h1 | h1
  · exact zJl_good w (h w (List.mem_append_left [Cond.code y b mL r] h1))
  · rcases List.mem_cons.mp h1 with rfl | h2
    · exact zJl_good _ (h _ (by simp))
    · exact zJl_good w h2
theorem zJ_S {own : String} {idx : Nat} {y : MethodName} {b : ByteArray} {mL : Nat} {r : Option FieldType} (h : ∀ w ∈ ([.methodLink own idx y, .static y, .initialized y.cls, .code y b mL r] : List Cond), w ∈ zJl) : GoodIn zJl (va_wsS own idx y (zWj y b mL r)) := by
  intro w hw
  unfold va_wsS at hw
  rcases List.mem_append.mp hw with h1 | h1
  · exact zJl_good w (h w (List.mem_append_left [Cond.code y b mL r] h1))
  · rcases List.mem_cons.mp h1 with rfl | h2
    · exact zJl_good _ (h _ (by simp))
    · exact zJl_good w h2
theorem zPs_pre {adK adV : Nat → Nat} {A : Nat → Prop} {s : State} {as : List Value} (hT : zTxt adK adV A s s.heap) : ∀ U : State, U.heap = s.heap → s.WarmedH U.vm → zPs adK adV A as as.toArray U := fun U hU hW => ⟨rfl, hT.carry (H := U.heap) hW.alike (fun _ _ _ => by rw [hU])⟩
theorem zc_len (l : Launch) (adK adV : Nat → Nat) (A : Nat → Prop) {i : Nat} (hi : i < 17) : Met l zyLen (zWj zyLen prog_16_method_54_code 1 (some .int)) ({ frames := 2, cells := 0, slots := 0, locals := 40 }) (zPs adK adV A [.ref (adK i)]) (zQp (some (.int (Int32.ofNat ((zTx.map List.length).getD i 0))))) 0 0 (fun _ => False) := by
  refine zJopen (by decide) (Nat.le_of_ble_eq_true rfl) ?_
  intro p e s m args below meth c als hx hb hml hr hlk hown hts hT hl
  refine lv_aload_n hx hb (show decode prog_16_method_54_code 0 = .ok (.aload_n 0, 1) by decide +kernel) rfl (lv_at hl 0 rfl) ?_
  refine vk_getf hx hb (hT.1.1 i hi).2.2.1 va_S.rf hown (hts (.fieldLink "java/lang/String" 9 "java/lang/String" "value" "[B") (by decide +kernel)) (fun _ h => h) (show decode prog_16_method_54_code 1 = .ok (.getfield 9, 3) by decide +kernel) ?_
  refine va_tlen hx hb (hT.1.1 i hi).2.2.2 va_S.rf rfl (show decode prog_16_method_54_code 4 = .ok (.arraylength, 1) by decide +kernel) ?_
  refine lv_aload_n hx hb (show decode prog_16_method_54_code 5 = .ok (.aload_n 0, 1) by decide +kernel) rfl (lv_at hl 0 rfl) ?_
  refine z_backP (va_runV (As := []) (rest := [.int (Int32.ofNat ((zTx.map List.length).getD i 0))]) (C := "java/lang/String") ⟨hx, hb, hml, hown, hts⟩ (zc_cod l adK adV A hi) (cwV 0 hts (zJ_V (own := "java/lang/String") (idx := 335) (y := zyCod) (by decide +kernel)) rfl rfl rfl ⟨rfl, by decide, by decide, rfl⟩ ⟨Nat.le_of_ble_eq_true rfl, Nat.le_of_ble_eq_true rfl⟩) ⟨zPs_blind, vk_recv hT.1 hi va_S.rf, zPs_pre hT⟩ rfl rfl hl.1 rfl (by show 0 + (1 + 0) ≤ 8; omega) (show decode prog_16_method_54_code 6 = .ok (.invokevirtual 335, 3) by decide +kernel) ⟨Nat.zero_le _, Nat.zero_le _⟩) ?_
  refine lv_ishr hx hb (show decode prog_16_method_54_code 9 = .ok (.ishr, 1) by decide +kernel) ?_
  rw [zi_sr0]
  exact zJ_ret hx hb hr hlk rfl (by decide +kernel)
theorem zJ_vret {p : Program} {l : Launch} {e : Env} {R : Room} {s : State} {m : MethodId} {args : Array Value} {below : List Frame} {meth : Method} {c : Code} {b : ByteArray} {pc : Nat} {als : Array Slot} (hx : p.tables.exec = Jvm.exec) (hb : c.code = b) (hr : meth.sig.returnType = none) (hlk : meth.locks = false) (hd : decode b pc = .ok (.return_, 1)) :
    W p l e R s m args below meth c s.heap [] 0 0 (MQ below (zQp none) args s 0 0 (fun _ => False)) (F0 m pc als []) :=
  W.vret hx hb hr (fun t ht _ => ⟨rfl, ht⟩) (fun _ h => by cases h) hd hlk
theorem zc_lat (l : Launch) (adK adV : Nat → Nat) (A : Nat → Prop) {i : Nat} (hi : i < 17) : Met l zyLat (zWj zyLat prog_16_method_154_code 1 (some .boolean)) ({ frames := 1, cells := 0, slots := 0, locals := 20 } : Room) (zPs adK adV A [.ref (adK i)]) (zQp (some (.int 1))) 0 0 (fun _ => False) := by
  refine zJopen (by decide) (Nat.le_of_ble_eq_true rfl) ?_
  intro p e s m args below meth c als hx hb hml hr hlk hown hts hT hl
  refine va_gets hx hb hT.2.1 va_S.rf hown (hts (.fieldLink "java/lang/String" 38 "java/lang/String" "COMPACT_STRINGS" "Z") (by decide +kernel)) (fun _ h => h) (show decode prog_16_method_154_code 0 = .ok (.getstatic 38, 3) by decide +kernel) ?_
  refine lv_if_eq hx hb (show decode prog_16_method_154_code 3 = .ok (.ifCond .eq 14, 3) by decide +kernel) (tgt := 17) rfl (fun z => absurd z (by decide)) (fun _ => ?_)
  refine lv_aload_n hx hb (show decode prog_16_method_154_code 6 = .ok (.aload_n 0, 1) by decide +kernel) rfl (lv_at hl 0 rfl) ?_
  refine vk_getf hx hb (hT.1.1 i hi).2.1 va_S.rf hown (hts (.fieldLink "java/lang/String" 15 "java/lang/String" "coder" "B") (by decide +kernel)) (fun _ h => h) (show decode prog_16_method_154_code 7 = .ok (.getfield 15, 3) by decide +kernel) ?_
  refine lv_if_ne hx hb (show decode prog_16_method_154_code 10 = .ok (.ifCond .ne 7, 3) by decide +kernel) (tgt := 17) rfl (fun z => absurd rfl z) (fun _ => ?_)
  refine lv_iconst hx hb (show decode prog_16_method_154_code 13 = .ok (.iconst 1, 1) by decide +kernel) rfl ?_
  refine lv_goto hx hb (show decode prog_16_method_154_code 14 = .ok (.goto 4, 3) by decide +kernel) (tgt := 18) rfl ?_
  exact zJ_ret hx hb hr hlk rfl (by decide +kernel)
theorem zc_pck (l : Launch) (adK adV : Nat → Nat) (A : Nat → Prop) {j n : Int32} {f : Value} (h0 : ¬ j < 0) (hj : j < n) (hf : f.category = 1) : Met l zyPck (zWj zyPck prog_20_method_11_code 3 (some .int)) ({ frames := 1, cells := 0, slots := 0, locals := 20 } : Room) (zPs adK adV A [.int j, .int n, f]) (zQp (some (.int j))) 0 0 (fun _ => False) := by
  have e : lg_sl [.int j, .int n, f] = [.val (.int j), .val (.int n), .val f] := by
    unfold lg_sl
    rw [List.flatMap_cons, List.flatMap_cons, List.flatMap_cons, if_neg (show ¬ (Value.int j).category = 2 from fun z => absurd (show (1 : Nat) = 2 from z) (by decide)), if_neg (show ¬ (Value.int n).category = 2 from fun z => absurd (show (1 : Nat) = 2 from z) (by decide)), if_neg (by rw [hf]; decide)]
    rfl
  refine zJopen (by decide) (by rw [e]; exact Nat.le_refl _) ?_
  intro p e s m args below meth c als hx hb hml hr hlk hown hts hT hl
  have l0 := lv_at hl 0 (i := 0) (v := .int j) rfl
  have l1 := lv_at hl 1 (i := 1) (v := .int n) rfl
  refine lv_iload_n hx hb (show decode prog_20_method_11_code 0 = .ok (.iload_n 0, 1) by decide +kernel) rfl l0 ?_
  refine lv_if_lt hx hb (show decode prog_20_method_11_code 1 = .ok (.ifCond .lt 8, 3) by decide +kernel) (tgt := 9) rfl (fun z => absurd z h0) (fun _ => ?_)
  refine lv_iload_n hx hb (show decode prog_20_method_11_code 4 = .ok (.iload_n 0, 1) by decide +kernel) rfl l0 ?_
  refine lv_iload_n hx hb (show decode prog_20_method_11_code 5 = .ok (.iload_n 1, 1) by decide +kernel) rfl l1 ?_
  refine lv_icmp_lt hx hb (show decode prog_20_method_11_code 6 = .ok (.if_icmp .lt 10, 3) by decide +kernel) (tgt := 16) rfl (fun _ => ?_) (fun z => absurd hj z)
  refine lv_iload_n hx hb (show decode prog_20_method_11_code 16 = .ok (.iload_n 0, 1) by decide +kernel) rfl l0 ?_
  exact zJ_ret hx hb hr hlk rfl (by decide +kernel)
theorem zc_chk (l : Launch) (adK adV : Nat → Nat) (A : Nat → Prop) {j n : Int32} (h0 : ¬ j < 0) (hj : j < n) : Met l zyChk (zWj zyChk prog_16_method_155_code 2 none) ({ frames := 2, cells := 0, slots := 0, locals := 45 } : Room) (zPs adK adV A [.int j, .int n]) (zQp none) 0 0 (fun _ => False) := by
  refine zJopen (by decide) (Nat.le_of_ble_eq_true rfl) ?_
  intro p e s m args below meth c als hx hb hml hr hlk hown hts hT hl
  refine lv_iload_n hx hb (show decode prog_16_method_155_code 0 = .ok (.iload_n 0, 1) by decide +kernel) rfl (lv_at hl 0 rfl) ?_
  refine lv_iload_n hx hb (show decode prog_16_method_155_code 1 = .ok (.iload_n 1, 1) by decide +kernel) rfl (lv_at hl 1 rfl) ?_
  have go : ∀ f : Value, f.category = 1 → W p l e ({ frames := 2, cells := 0, slots := 0, locals := 45 } : Room) s m args below meth c s.heap [] 0 0 (MQ below (zQp none) args s 0 0 (fun _ => False)) (F0 m 5 als [f, .int n, .int j]) := fun f hf => by
    refine z_backP (va_runS (As := [.int j, .int n, f]) (rest := []) ⟨hx, hb, hml, hown, hts⟩ (zc_pck l adK adV A h0 hj hf) (va_cwS 3 hts (zJ_S (own := "java/lang/String") (idx := 1059) (y := zyPck) (by decide +kernel)) rfl rfl rfl ⟨by decide, by decide, rfl⟩ ⟨Nat.le_of_ble_eq_true rfl, Nat.le_of_ble_eq_true rfl⟩) ⟨zPs_blind, zPs_pre hT⟩ rfl rfl hl.1 rfl (by show 0 + 0 ≤ 8; omega) (show decode prog_16_method_155_code 5 = .ok (.invokestatic 1059, 3) by decide +kernel) ⟨Nat.zero_le _, Nat.zero_le _⟩) ?_
    refine lv_pop hx hb (show decode prog_16_method_155_code 8 = .ok (.pop, 1) by decide +kernel) rfl ?_
    exact zJ_vret hx hb hr hlk (by decide +kernel)
  rcases hT.2.2 with hz | ⟨t, hz⟩
  · exact va_gets hx hb hz va_S.rf hown (hts (.fieldLink "java/lang/String" 1053 "jdk/internal/util/Preconditions" "SIOOBE_FORMATTER" "Ljava/util/function/BiFunction;") (by decide +kernel)) (fun _ h => h) (show decode prog_16_method_155_code 2 = .ok (.getstatic 1053, 3) by decide +kernel) (go .null rfl)
  · exact va_gets hx hb hz va_S.rf hown (hts (.fieldLink "java/lang/String" 1053 "jdk/internal/util/Preconditions" "SIOOBE_FORMATTER" "Ljava/util/function/BiFunction;") (by decide +kernel)) (fun _ h => h) (show decode prog_16_method_155_code 2 = .ok (.getstatic 1053, 3) by decide +kernel) (go (.ref t) rfl)
def zlenT (i : Nat) : Nat := (zTx.map List.length).getD i 0
def zchT (i k : Nat) : Int32 := ((zTx.map (fun t => t.map Int32.ofInt)).getD i []).getD k 0
theorem zch_ok : ∀ i, i < 17 → ∀ k, k < zlenT i → (Int32.ofInt (k : Int)).toNatClampNeg = k ∧ ¬ Int32.ofInt (k : Int) < 0 ∧ Int32.ofInt (k : Int) < Int32.ofNat (zlenT i) ∧ ((zchT i k &&& 255).toUInt32 % 65536).toInt32 = zchT i k ∧ 0 ≤ (zchT i k).toInt ∧ (zchT i k).toInt ≤ 127 := by decide +kernel
theorem znar : ∀ i, i < 17 → ∀ k, k < zlenT i → narrow .char (.int (zchT i k)) = .int (zchT i k) := by decide +kernel
theorem zc_l1c (l : Launch) (adK adV : Nat → Nat) (A : Nat → Prop) {i k : Nat} (hi : i < 17) (hk : k < zlenT i) : Met l zyL1c (zWj zyL1c prog_17_method_2_code 2 (some .char)) ({ frames := 3, cells := 0, slots := 0, locals := 70 } : Room) (zPs adK adV A [.ref (adV i), .int (Int32.ofInt (k : Int))]) (zQp (some (.int (zchT i k)))) 0 0 (fun _ => False) := by
  refine zJopen (by decide) (Nat.le_of_ble_eq_true rfl) ?_
  intro p e s m args below meth c als hx hb hml hr hlk hown hts hT hl
  obtain ⟨g1, g2, g3, g4, -⟩ := zch_ok i hi k hk
  refine lv_iload_n hx hb (show decode prog_17_method_2_code 0 = .ok (.iload_n 1, 1) by decide +kernel) rfl (lv_at hl 1 rfl) ?_
  refine lv_aload_n hx hb (show decode prog_17_method_2_code 1 = .ok (.aload_n 0, 1) by decide +kernel) rfl (lv_at hl 0 rfl) ?_
  refine va_tlen hx hb (hT.1.1 i hi).2.2.2 va_S.rf rfl (show decode prog_17_method_2_code 2 = .ok (.arraylength, 1) by decide +kernel) ?_
  refine z_backP (va_runS (As := [.int (Int32.ofInt (k : Int)), .int (Int32.ofNat (zlenT i))]) (rest := []) ⟨hx, hb, hml, hown, hts⟩ (zc_chk l adK adV A g2 g3) (va_cwS 2 hts (zJ_S (own := "java/lang/StringLatin1") (idx := 9) (y := zyChk) (by decide +kernel)) rfl rfl rfl ⟨by decide, by decide, rfl⟩ ⟨Nat.le_of_ble_eq_true rfl, Nat.le_of_ble_eq_true rfl⟩) ⟨zPs_blind, zPs_pre hT⟩ rfl rfl hl.1 rfl (by show 0 + 0 ≤ 8; omega) (show decode prog_17_method_2_code 3 = .ok (.invokestatic 9, 3) by decide +kernel) ⟨Nat.zero_le _, Nat.zero_le _⟩) ?_
  refine lv_aload_n hx hb (show decode prog_17_method_2_code 6 = .ok (.aload_n 0, 1) by decide +kernel) rfl (lv_at hl 0 rfl) ?_
  refine lv_iload_n hx hb (show decode prog_17_method_2_code 7 = .ok (.iload_n 1, 1) by decide +kernel) rfl (lv_at hl 1 rfl) ?_
  refine va_tb hx hb (hT.1.1 i hi).2.2.2 va_S.rf (i := Int32.ofInt (k : Int)) (by
    intro z
    rcases z with z | z
    · exact g2 z
    · rw [g1] at z
      exact absurd hk (Nat.not_lt.mpr z)) (v := .int (zchT i k)) (by rw [g1]; rfl) (show decode prog_17_method_2_code 8 = .ok (.baload, 1) by decide +kernel) ?_
  refine lv_sipush hx hb (show decode prog_17_method_2_code 9 = .ok (.sipush 255, 3) by decide +kernel) (v := 255) (by decide) ?_
  refine lv_iand hx hb (show decode prog_17_method_2_code 12 = .ok (.iand, 1) by decide +kernel) ?_
  refine lv_i2c hx hb (show decode prog_17_method_2_code 13 = .ok (.i2c, 1) by decide +kernel) g4 ?_
  exact zJ_ret hx hb hr hlk (znar i hi k hk) (by decide +kernel)
theorem zc_chr (l : Launch) (adK adV : Nat → Nat) (A : Nat → Prop) {i k : Nat} (hi : i < 17) (hk : k < zlenT i) : Met l zyChr (zWj zyChr prog_16_method_56_code 2 (some .char)) ({ frames := 4, cells := 0, slots := 0, locals := 100 } : Room) (zPs adK adV A [.ref (adK i), .int (Int32.ofInt (k : Int))]) (zQp (some (.int (zchT i k)))) 0 0 (fun _ => False) := by
  refine zJopen (by decide) (Nat.le_of_ble_eq_true rfl) ?_
  intro p e s m args below meth c als hx hb hml hr hlk hown hts hT hl
  refine lv_aload_n hx hb (show decode prog_16_method_56_code 0 = .ok (.aload_n 0, 1) by decide +kernel) rfl (lv_at hl 0 rfl) ?_
  refine z_backP (va_runV (As := []) (rest := []) (C := "java/lang/String") ⟨hx, hb, hml, hown, hts⟩ (zc_lat l adK adV A hi) (cwV 0 hts (zJ_V (own := "java/lang/String") (idx := 492) (y := zyLat) (by decide +kernel)) rfl rfl rfl ⟨rfl, by decide, by decide, rfl⟩ ⟨Nat.le_of_ble_eq_true rfl, Nat.le_of_ble_eq_true rfl⟩) ⟨zPs_blind, vk_recv hT.1 hi va_S.rf, zPs_pre hT⟩ rfl rfl hl.1 rfl (by show 0 + 0 ≤ 8; omega) (show decode prog_16_method_56_code 1 = .ok (.invokevirtual 492, 3) by decide +kernel) ⟨Nat.zero_le _, Nat.zero_le _⟩) ?_
  refine lv_if_eq hx hb (show decode prog_16_method_56_code 4 = .ok (.ifCond .eq 12, 3) by decide +kernel) (tgt := 16) rfl (fun z => absurd z (by decide)) (fun _ => ?_)
  refine lv_aload_n hx hb (show decode prog_16_method_56_code 7 = .ok (.aload_n 0, 1) by decide +kernel) rfl (lv_at hl 0 rfl) ?_
  refine vk_getf hx hb (hT.1.1 i hi).2.2.1 va_S.rf hown (hts (.fieldLink "java/lang/String" 9 "java/lang/String" "value" "[B") (by decide +kernel)) (fun _ h => h) (show decode prog_16_method_56_code 8 = .ok (.getfield 9, 3) by decide +kernel) ?_
  refine lv_iload_n hx hb (show decode prog_16_method_56_code 11 = .ok (.iload_n 1, 1) by decide +kernel) rfl (lv_at hl 1 rfl) ?_
  refine z_backP (va_runS (As := [.ref (adV i), .int (Int32.ofInt (k : Int))]) (rest := []) ⟨hx, hb, hml, hown, hts⟩ (zc_l1c l adK adV A hi hk) (va_cwS 2 hts (zJ_S (own := "java/lang/String") (idx := 495) (y := zyL1c) (by decide +kernel)) rfl rfl rfl ⟨by decide, by decide, rfl⟩ ⟨Nat.le_of_ble_eq_true rfl, Nat.le_of_ble_eq_true rfl⟩) ⟨zPs_blind, zPs_pre hT⟩ rfl rfl hl.1 rfl (by show 0 + 0 ≤ 8; omega) (show decode prog_16_method_56_code 12 = .ok (.invokestatic 495, 3) by decide +kernel) ⟨Nat.zero_le _, Nat.zero_le _⟩) ?_
  exact zJ_ret hx hb hr hlk (znar i hi k hk) (by decide +kernel)
