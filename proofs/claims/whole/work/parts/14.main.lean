/-! A method of the small machine is one of the real one -/
noncomputable def zWs (i : Nat) : List Cond := Cond.code (zy i) (zb i) (zmL i) (zret i) :: zTb
def zEx (adK adV : Nat → Nat) (A : Nat → Prop) (U : State) (H : Heap) : Prop :=
  (∀ q ∈ zMl, q.2.2.1 = 3 → va_Nw (.methodLinkNest (if q.1 = 13 then R_law else zC q.1) q.2.1 (zy q.2.2.2.1) "StackedScript") U) ∧ va_AO "StackedScript$State" U ∧ zAOA U ∧
  vk_S 17 (zTx.map List.length) (zTx.map (fun t => t.map Int32.ofInt)) adK adV A U H ∧ (∀ q ∈ zTl, vk_R "StackedScript" q.1 (zTs.getD q.2.1 "") (adK q.2.1) U) ∧ zStr A U H
theorem zAOA.moved {u U : State} (hvm : u.vm.Alike U.vm) (h : zAOA u) : zAOA U := by
  have h1 := Cond.arrayOver_setVmC (args := #[]) (s := u) hvm (.array .int)
  have e : (Cond.arrayOver (.array .int)).before #[] U = (Cond.arrayOver (.array .int)).before #[] (u.setVm U.vm) := rfl
  exact (e.trans h1).trans h
theorem zEx.warm {adK adV : Nat → Nat} {A : Nat → Prop} {s U : State} {H : Heap} (hW : s.WarmedH U.vm) (h : zEx adK adV A s s.heap) (hq : ∀ a : Nat, a < s.heap.size → ¬ A a → H[a]? = s.heap[a]?) : zEx adK adV A U H :=
  ⟨fun q hm h3 => va_Nw.warmM hW (h.1 q hm h3), va_AO.moved hW.alike h.2.1, zAOA.moved hW.alike h.2.2.1, vk_S.moved hW.alike (vk_S.kept h.2.2.2.1 hq), fun q hm => vk_R.warm hW (h.2.2.2.2.1 q hm), va_Z.moved hW.alike (h.2.2.2.2.2.1.kept hq), va_Zq.moved hW.alike (h.2.2.2.2.2.2.kept hq)⟩
theorem zEx.same {adK adV : Nat → Nat} {A : Nat → Prop} {u U : State} {H : Heap} (hv : u.vm = U.vm) (h : zEx adK adV A u H) : zEx adK adV A U H := by
  have hal : u.vm.Alike U.vm := by rw [hv]; exact Vm.Alike.refl _
  exact ⟨fun q hm h3 => va_Nw.same rfl hv (h.1 q hm h3), va_AO.moved hal h.2.1, zAOA.moved hal h.2.2.1, vk_S.moved hal h.2.2.2.1, fun q hm => vk_R.same hv.symm (h.2.2.2.2.1 q hm), va_Z.moved hal h.2.2.2.2.2.1, va_Zq.moved hal h.2.2.2.2.2.2⟩
theorem zRep.moved {D : va_G} {adK ad : Nat → Nat} {cA : Nat → ClassId} {S : List zSh} {M : zM} {u U : State} {H : Heap} {A : Nat → Prop} (hvm : u.vm.Alike U.vm) (h : zRep D adK ad cA S M u H A) : zRep D adK ad cA S M U H A := ⟨h.1, h.2.1, h.2.2.1.moved hvm, h.2.2.2⟩
def zPc (D : va_G) (adK adV : Nat → Nat) (A : Nat → Prop) (ad : Nat → Nat) (cA : Nat → ClassId) (S : List zSh) (M : zM) (as : List zV) : Array Value → State → Prop := fun v U => v = (as.map (zcv adK ad)).toArray ∧ (∀ q, U.heap.size ≤ q → A q) ∧ zRep D adK ad cA S M U U.heap A ∧ zEx adK adV A U U.heap
def zout (adK : Nat → Nat) (v : zV) : Option Value := if v.1 = 3 then none else some (zcv adK (fun _ => 0) v)
def zQc (D : va_G) (adK : Nat → Nat) (A : Nat → Prop) (n : Nat) (ad : Nat → Nat) (cA : Nat → ClassId) (an : Nat) (v : zV) (S' : List zSh) (M' : zM) : Array Value → State → Outcome → State → Prop := fun _ st o t =>
  (∃ (ad' : Nat → Nat) (cA' : Nat → ClassId), zag n ad cA ad' cA' ∧ o = .returned (zout adK v) ∧ (zok S'.length v ∧ (v.1 = 0 ∨ v.1 = 3 ∨ v.1 = 4) ∧ (an = 0 ↔ v.1 = 3)) ∧ zRep D adK ad' cA' S' M' t t.heap A) ∧ va_F A st t
theorem zPc_blind {D : va_G} {adK adV : Nat → Nat} {A : Nat → Prop} {ad : Nat → Nat} {cA : Nat → ClassId} {S : List zSh} {M : zM} {as : List zV} : FrameBlind (zPc D adK adV A ad cA S M as) := fun a U g mk h =>
  ⟨h.1, h.2.1, zRep.moved (u := U) (U := U.calling g mk a) (Vm.Alike.refl U.vm) h.2.2.1, zEx.same (u := U) (U := U.calling g mk a) rfl h.2.2.2⟩
theorem z_back {p : Program} {l : Launch} {e : Env} {R : Room} {s : State} {m : MethodId} {args : Array Value} {below : List Frame} {meth : Method} {c : Code} {H : Heap} {locs : List Loc} {cells slots : Nat} {Q : State → Prop} {D : va_G} {adK : Nat → Nat} {A : Nat → Prop} {n : Nat} {ad : Nat → Nat} {cA : Nat → ClassId} {an : Nat} {v : zV} {S' : List zSh} {M' : zM} {mc ms pc : Nat} {als : Array Slot} {st0 rest : List Value} {a : Array Value}
    (hr : va_Run p l e R s m args below meth c H locs cells slots mc ms (F0 m pc als st0) rest (zQc D adK A n ad cA an v S' M' a) A) (hS : va_S A s.heap H locs)
    (kk : ∀ (ad' : Nat → Nat) (cA' : Nat → ClassId) (H1 : Heap) (locs1 : List Loc), zag n ad cA ad' cA' → (zok S'.length v ∧ (v.1 = 0 ∨ v.1 = 3 ∨ v.1 = 4) ∧ (an = 0 ↔ v.1 = 3)) → zRep D adK ad' cA' S' M' s H1 A → va_S A s.heap H1 locs1 → W p l e R s m args below meth c H1 locs1 (cells + mc) (slots + ms) Q (F0 m (pc + 3) als ((zout adK v).toList ++ rest))) :
    W p l e R s m args below meth c H locs cells slots Q (F0 m pc als st0) := by
  intro T hT X
  obtain ⟨w, st₀, t, T', L, h0, X', hL, e1, e2, ⟨⟨ad', cA', hag, hv, hp, hrep⟩, hz, hk⟩, st⟩ := hr T hT X
  cases hv
  rw [h0] at hz hk
  have hS1 : va_S A s.heap T'.heap (locs ++ L) := ⟨Nat.le_trans hS.1 (by rw [e1]; exact hz), fun q h1 h2 => by rw [e1, hk q (Nat.lt_of_lt_of_le h1 hS.1) h2]; exact hS.2.1 q h1 h2, fun q hq => by
    rcases List.mem_append.mp hq with h | h
    · exact hS.2.2 q h
    · exact hL q h⟩
  obtain ⟨t2, a1, b1⟩ := kk ad' cA' T'.heap (locs ++ L) hag hp (by rw [e1]; exact hrep.moved (by rw [← e2]; exact X'.warmed.alike.symm)) hS1 T' rfl X'
  exact ⟨t2, st t2 a1, b1⟩
theorem zall_at {f : Nat → Bool} {n i : Nat} (h : (List.range n).all f = true) (hi : i < n) : f i = true := List.all_eq_true.mp h i (List.mem_range.mpr hi)
theorem zMt_len : zMt.length = 282 := by decide +kernel
theorem zPt_len : zPt.length = 282 := by decide +kernel
/-- what is known of method i -/
theorem zdesc {i : Nat} (hi : i < 282) : (parseMethodDescriptor (zy i).desc).map (fun d => d.parameters.length) = some (if zhow i = 1 then zna i else zna i - 1) ∧ plainName (zy i).cls = true ∧ (zC (zown i) ≠ "java/lang/invoke/MethodHandle" ∧ zC (zown i) ≠ "java/lang/invoke/VarHandle") ∧ ((zhow i = 2) ↔ (zy i).name = "<init>") ∧ (0 < zna i ∨ zhow i = 1) ∧ (zan i = 0 ↔ zret i = none) := by
  have h := zall_at zw_desc (show i < zMt.length by rw [zMt_len]; exact hi)
  simp only [Bool.and_eq_true, decide_eq_true_eq] at h
  obtain ⟨⟨⟨⟨⟨h1, h2⟩, h3⟩, h4⟩, h5⟩, h6⟩ := h
  exact ⟨h1, h2, h3, h4, h5, h6⟩
theorem zform {i : Nat} {s : State} {args : Array Value} (hts : ∀ w ∈ zTb, w.before args s = true) (hi : i < 282) : (if zhow i = 1 then Cond.static (zy i) else Cond.instanceMethod (zy i)) ∈ zTb := by
  have h := of_decide_eq_true (zall_at zw_form (show i < zMt.length by rw [zMt_len]; exact hi))
  refine zTb_of h ?_
  split <;> rfl
theorem zsel {i : Nat} (hi : i < 282) (h0 : zhow i = 0) : Cond.selects (zC (zown i)) (zy i) (zy i) ∈ zTb := by
  have h := zall_at zw_sel (show i < zMt.length by rw [zMt_len]; exact hi)
  simp only [Bool.or_eq_true, decide_eq_true_eq, bne_iff_ne, ne_eq] at h
  exact zTb_of (h.resolve_left (fun z => z h0)) rfl
theorem zini {c : Nat} (hc : c < 13) : Cond.initialized (zC c) ∈ zTb := by
  have h := zall_at zw_cls hc
  simp only [Bool.and_eq_true] at h
  exact zTb_of (of_decide_eq_true h.1.2) rfl
