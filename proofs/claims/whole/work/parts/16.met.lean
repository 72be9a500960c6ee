/-! A whole run of the small machine is one of the real one -/
theorem zpt_at {j : Nat} {y : List zIn × Nat × Nat × Nat} (h : zPt[j]? = some y) : j < 282 ∧ y.1 = zk j ∧ y.2.1 = zmL j ∧ y.2.2.1 = zna j ∧ y.2.2.2 = zan j := by
  have hj := (List.getElem?_eq_some_iff.mp h).1
  have e : zPt.getD j ([], 0, 0, 0) = y := by rw [List.getD, h]; rfl
  refine ⟨by rw [zPt_len] at hj; exact hj, ?_, ?_, ?_, ?_⟩
  · unfold zk; rw [e]
  · unfold zmL; rw [e]
  · unfold zna; rw [e]
  · unfold zan; rw [e]
theorem zSound {p : Program} {l : Launch} {e : Env} {R : Room} {s : State} {m : MethodId} {args : Array Value} {below : List Frame} {meth : Method} {c : Code} {Q : State → Prop} {D : va_G} {adK adV : Nat → Nat} {A : Nat → Prop} {nL : Nat} {k : List zIn} {own : Nat} {cc : ByteArray} {pcs : List Nat} {S0 : List zSh} {ad0 : Nat → Nat} {cA0 : Nat → ClassId} {SF : List zSh} {MF : zM} {v : zV}
    (F : zFx p R s m args meth c adK adV A nL k own cc) (hC : zCode own cc pcs k) (hRm : zRoomy k R) (h1 : SF.length - S0.length ≤ R.cells) (h2 : zsl SF - zsl S0 ≤ R.slots)
    (hEnd : ∀ (j : Nat) (q : zIn) (lsx stx : List zV), k[j]? = some q → 70 ≤ q.1 → zend q.1 stx = some v → zG p l e R s m args below meth c Q D adK A nL k pcs S0 ad0 cA0 j lsx stx SF MF) :
    ∀ (n : Nat), (∀ n', n' < n → zMetOK n') → ∀ (i : Nat) (ls st : List zV) (S : List zSh) (M : zM), zrun zPt n k i ls st S M = some (v, SF, MF) → zG p l e R s m args below meth c Q D adK A nL k pcs S0 ad0 cA0 i ls st S M := by
  intro n
  induction n with
  | zero => intro _ i ls st S M h; simp [zrun] at h
  | succ n ih =>
    intro hM i ls st S M h
    have ih := ih (fun n' hn => hM n' (by omega))
    rw [zrun_succ] at h
    cases hc : k[i]? with
    | none => rw [hc] at h; cases h
    | some q =>
      rw [hc] at h
      dsimp only at h
      obtain ⟨x, nx, hd, hp, hn, hh⟩ := hC i q hc
      by_cases h60 : q.1 = 60
      · rw [if_pos h60] at h
        cases hP : zPt[(zarg q.2 2).toNat]? with
        | none => rw [hP] at h; cases h
        | some y =>
          rw [hP] at h
          dsimp only at h
          obtain ⟨hj, y1, y2, y3, y4⟩ := zpt_at hP
          split at h
          · rename_i hg
            cases hr : zrun zPt n y.1 0 (zloc (st.take y.2.2.1).reverse y.2.1) [] S M with
            | none => rw [hr] at h; cases h
            | some r1 =>
              rw [hr] at h
              obtain ⟨g1, g2⟩ := hg
              simp only [Bool.and_eq_true] at g2
              have a2 := zrun_mono_S _ _ _ _ _ _ _ _ h
              dsimp only at a2
              rw [h60] at hh
              obtain ⟨r1a, r1b, -⟩ := hRm q (List.mem_of_getElem? hc) h60
              rw [y1, y2, y3] at hr
              rw [y3, y4] at g2
              rw [y3] at g1
              have hG := ih _ _ _ _ _ h
              rw [y3, y4] at hG
              exact z_call (hM n (by omega)) F hd (hp.resolve_left (by omega)) hn hh rfl hj ⟨r1a, r1b⟩ g1 g2.1 g2.2 hr (by omega) (by omega) hG
          · cases h
      · rw [if_neg h60] at h
        by_cases h70 : 70 ≤ q.1
        · rw [if_pos h70] at h
          cases he : zend q.1 st with
          | none => rw [he] at h; cases h
          | some w =>
            rw [he] at h
            cases h
            exact hEnd i q ls st hc h70 he
        · rw [if_neg h70] at h
          cases hs : zstep q [] i ls st S M with
          | none => rw [hs] at h; cases h
          | some r1 =>
            rw [hs] at h
            have a2 := zrun_mono_S _ _ _ _ _ _ _ _ h
            dsimp only at a2
            have hlt : q.1 < 60 := by
              by_cases hlt : q.1 < 60
              · exact hlt
              · unfold zstep at hs
                rw [List.getD, List.getElem?_eq_none (show zOps.length ≤ q.1 by show 60 ≤ q.1; omega)] at hs
                cases hs
            exact zk_op hlt p l e R s m args below meth c Q D adK adV A nL k pcs S0 ad0 cA0 own cc x nx i q.2 ls st S M r1 F hd (hp.resolve_left (by omega)) hn hh (List.mem_of_getElem? hc) hs (by omega) (by omega) (ih _ _ _ _ _ h)
/-! the locals at a method's beginning -/
theorem zloc0_len : ∀ as : List zV, (zloc0 as).length ≤ 2 * as.length ∧ ((∀ v ∈ as, v.1 ≠ 2) → (zloc0 as).length = as.length)
  | [] => ⟨Nat.le_refl _, fun _ => rfl⟩
  | v :: r => by
    have ih := zloc0_len r
    unfold zloc0
    by_cases h : v.1 = 2
    · rw [if_pos h]
      refine ⟨by simp only [List.length_cons]; omega, fun z => absurd h (z v List.mem_cons_self)⟩
    · rw [if_neg h]
      refine ⟨by simp only [List.length_cons]; omega, fun z => ?_⟩
      simp only [List.length_cons]
      rw [ih.2 (fun w hw => z w (List.mem_cons_of_mem _ hw))]
theorem zloc0_mem : ∀ (as : List zV) (v : zV), v ∈ zloc0 as → v ∈ as ∨ v = (3, 0)
  | [], v, h => by cases h
  | w :: r, v, h => by
    unfold zloc0 at h
    split at h
    · rcases List.mem_cons.mp h with rfl | h
      · exact Or.inl List.mem_cons_self
      · rcases List.mem_cons.mp h with rfl | h
        · exact Or.inr rfl
        · exact (zloc0_mem r v h).imp_left (List.mem_cons_of_mem _)
    · rcases List.mem_cons.mp h with rfl | h
      · exact Or.inl List.mem_cons_self
      · exact (zloc0_mem r v h).imp_left (List.mem_cons_of_mem _)
theorem zloc_mem {as : List zV} {n : Nat} {v : zV} (h : v ∈ zloc as n) : v ∈ as ∨ v = (3, 0) := by
  unfold zloc at h
  rcases List.mem_append.mp h with h | h
  · exact zloc0_mem as v h
  · exact Or.inr (List.eq_of_mem_replicate h)
theorem zloc0_sl {adK ad : Nat → Nat} : ∀ as : List zV, (lg_sl (as.map (zcv adK ad))).length = (zloc0 as).length
  | [] => rfl
  | v :: r => by
    have ih := zloc0_sl (adK := adK) (ad := ad) r
    unfold zloc0 lg_sl
    rw [List.map_cons, List.flatMap_cons, List.length_append]
    unfold lg_sl at ih
    rw [ih]
    by_cases h : v.1 = 2
    · rw [if_pos h, zcv_l h, if_pos (show (Value.long (Int64.ofInt v.2)).category = 2 from rfl)]
      simp only [List.length_cons, List.length_nil]
      omega
    · rw [if_neg h, if_neg (by rw [zcv_cat h]; decide)]
      simp only [List.length_cons, List.length_nil]
      omega
theorem zls_rep {adK ad : Nat → Nat} : ∀ (n k : Nat), zls adK ad k (List.replicate n (3, 0)) = []
  | 0, _ => rfl
  | n + 1, k => by
    rw [List.replicate_succ, zls, if_pos rfl]
    exact zls_rep n (k + 1)
theorem zls_loc {adK ad : Nat → Nat} : ∀ (as : List zV) (n k : Nat), (∀ v ∈ as, v.1 ≠ 3) → zls adK ad k (zloc0 as ++ List.replicate n (3, 0)) = lv_args k (as.map (zcv adK ad))
  | [], n, k, _ => zls_rep n k
  | v :: r, n, k, h => by
    have h3 := h v List.mem_cons_self
    have hr : ∀ w ∈ r, w.1 ≠ 3 := fun w hw => h w (List.mem_cons_of_mem _ hw)
    unfold zloc0
    rw [List.map_cons, lv_args]
    by_cases h2 : v.1 = 2
    · rw [if_pos h2, List.cons_append, List.cons_append, zls, if_neg h3, zls, if_pos rfl, zls_loc r n (k + 2) hr, if_pos (by rw [zcv_l h2]; rfl)]
    · rw [if_neg h2, List.cons_append, zls, if_neg h3, zls_loc r n (k + 1) hr, if_neg (by rw [zcv_cat h2]; decide)]
theorem zan_fit : ∀ i, i < 282 → zan i = 3 → 2 * zna i ≤ zmL i := by decide +kernel
theorem zgM_of {i : Nat} (hi : i < 282) : zCode (zown i) (zb i) (zps i) (zk i) ∧ (∀ q ∈ zk i, zgQ i q = true) ∧ (zan i ≠ 3 ∨ ∀ q ∈ zk i, q.1 < 5 ∨ 7 < q.1) ∧ zna i ≤ zmL i ∧ zown i < 13 ∧ 1 ≤ zfr i ∧ 40 ≤ zlo i ∧ zpc (zps i) 0 = 0 := by
  have h := (zg_all i hi).1
  unfold zgM at h
  simp only [Bool.and_eq_true, Bool.or_eq_true, decide_eq_true_eq, List.all_eq_true] at h
  obtain ⟨h1, ⟨h2, h3⟩, h4, h5, h6, h7, h8⟩ := h
  refine ⟨fun j q hq => ?_, h2, h3, h4, h5, h6, h7, h8⟩
  have hs := zgo_spec _ _ _ _ _ _ _ h1 (fun pc hpc => by
    have : zpc (zps i) 0 = pc := by
      unfold zpc
      rw [List.getD, ← List.head?_eq_getElem?, hpc]
      rfl
    rw [← this, h8]
    rfl) j q hq
  obtain ⟨x, n, a1, a2, a3, a4⟩ := hs
  rw [Nat.zero_add] at a4
  exact ⟨x, n, a1, a2, a3, a4⟩
theorem zret_is : ∀ i, i < 282 → zret i = none ∨ zret i = some .int ∨ zret i = some .boolean ∨ zret i = some (.object "java/lang/String") := by decide +kernel
theorem zMetOK_all : ∀ (n : Nat), zMetOK n := by
  intro n
  induction n using Nat.strongRecOn with
  | _ n ihn =>
  intro i hi as S M r hr hlen htag hok l D adK adV A ad cA
  obtain ⟨v, SF, MF⟩ := r
  obtain ⟨hC, hQ, hsh, hna, hown, hf1, hl1, hp0⟩ := zgM_of hi
  obtain ⟨d1, d2, d3, d4, d5, d6⟩ := zdesc hi
  refine Met.ofW (cc := zb i) (maxL := zmL i) (ret := zret i) d2 rfl ?_
  intro p e s m args below meth c s₁ B hml hv
  obtain ⟨hargs, hA, hR, hE⟩ := hv
  have hx := B.exec
  have hb := B.bytes
  have hr0 := B.returns
  have hts : ∀ w ∈ zTb, w.before args s = true := fun w hw => atoms_spec (ws := zWs i) B.pre w (List.mem_cons_of_mem _ hw)
  have hownc : s.vm.findClass (zC (zown i)) = some m.cls := findClass_of_methodNamed B.named
  have hlocks := B.notSynchronized
  have hname : meth.name = (zy i).name := (name_of_methodNamed B.named B.method).1
  have hns : ∀ w ∈ as, w.1 ≠ 3 := fun w hw => (hok w hw).2
  have hfit : (zloc0 as).length ≤ zmL i := by
    by_cases h3 : zan i = 3
    · have := zan_fit i hi h3
      have := (zloc0_len as).1
      omega
    · rw [(zloc0_len as).2 (htag.resolve_left h3)]
      omega
  have hl := lv_entry (as.map (zcv adK ad)) (n := zmL i) (by rw [zloc0_sl]; exact hfit)
  rw [hargs, lg_entry_eq]
  generalize (lg_sl (as.map (zcv adK ad)) ++ List.replicate (zmL i - (lg_sl (as.map (zcv adK ad))).length) Slot.unset).toArray = als at hl ⊢
  have hF : zFx p ({ frames := zfr i, cells := SF.length - S.length, slots := zsl SF - zsl S, locals := zlo i } : Room) s m args meth c adK adV A (zmL i) (zk i) (zown i) (zb i) :=
    ⟨hx, hb, hml, by rw [if_neg (by omega)]; exact hownc, hts, ⟨hf1, hl1⟩, hA, fun q hq h41 h1 => by
      have h := hQ q hq
      unfold zgQ at h
      simp only [Bool.and_eq_true, Bool.or_eq_true, decide_eq_true_eq] at h
      have h2 := h.2.1.2.resolve_left (by omega)
      exact ⟨hname.trans (d4.mp h2.1), h2.2⟩, fun hq => by
      obtain ⟨q, hq, h58⟩ := hq
      have h := hQ q hq
      unfold zgQ at h
      simp only [Bool.and_eq_true, Bool.or_eq_true, decide_eq_true_eq] at h
      exact h.2.1.1.resolve_left (by omega), hE⟩
  have hRm : zRoomy (zk i) ({ frames := zfr i, cells := SF.length - S.length, slots := zsl SF - zsl S, locals := zlo i } : Room) := fun q hq h60 => by
    have h := hQ q hq
    unfold zgQ at h
    simp only [Bool.and_eq_true, Bool.or_eq_true, decide_eq_true_eq, bne_iff_ne, ne_eq] at h
    have h2 := h.1.resolve_left (fun z => z h60)
    exact ⟨h2.1, h2.2.1, by have := h2.2.2; rw [zPt_len] at this; exact this⟩
  have hG : zG p l e ({ frames := zfr i, cells := SF.length - S.length, slots := zsl SF - zsl S, locals := zlo i } : Room) s m args below meth c (MQ below (zQc D adK A S.length ad cA (zan i) v SF MF) args s (SF.length - S.length) (zsl SF - zsl S) A) D adK A (zmL i) (zk i) (zps i) S ad cA 0 (zloc as (zmL i)) [] S M := by
    refine zSound hF hC hRm (Nat.le_refl _) (Nat.le_refl _) ?_ n ihn 0 _ _ _ _ hr
    intro j q lsx stx hj h70 hend ad' cA' H locs als' hag _ _ _ _ _ _ hokx hRx hSx
    obtain ⟨x, nx, hd, -, hn, hh⟩ := hC j q hj
    have h := hQ q (List.mem_of_getElem? hj)
    unfold zgQ at h
    simp only [Bool.and_eq_true, Bool.or_eq_true, decide_eq_true_eq] at h
    have hty := h.2.2.resolve_left (by omega)
    have hqq : ∀ (o : Option Value), o = zout adK v → (zok SF.length v ∧ (v.1 = 0 ∨ v.1 = 3 ∨ v.1 = 4) ∧ (zan i = 0 ↔ v.1 = 3)) → ∀ t : State, t.heap = H → s.WarmedH t.vm → zQc D adK A S.length ad cA (zan i) v SF MF args s (.returned o) t := fun o ho hp t ht hW =>
      ⟨⟨ad', cA', hag, by rw [ho], hp, by rw [ht]; exact hRx.moved hW.alike⟩, hSx.F ht⟩
    have one : ∀ y : Instr, zilen y = some 1 → zHs.getD q.1 (fun _ _ _ _ _ => false) = zh_is y → decode (zb i) (zpc (zps i) j) = .ok (y, 1) := fun y hy hz => by
      rw [hz] at hh
      have := of_decide_eq_true hh
      subst this
      rw [hd, zlen_of hn hy]
    rcases zret_is i hi with hz | hz | hz | hz
    · rw [hz] at hty hr0
      have h71 : q.1 = 71 := of_decide_eq_true hty
      cases stx with
      | nil =>
        simp only [zend, h71] at hend
        cases hend
        exact W.vret hx hb hr0 (hqq _ rfl ⟨⟨fun z => absurd z (by decide), fun z => absurd z (by decide)⟩, Or.inr (Or.inl rfl), by rw [d6]; exact ⟨fun _ => rfl, fun _ => hz⟩⟩) hSx.2.2 (one .return_ rfl (by rw [h71]; rfl))
      | cons w stx =>
        cases stx with
        | nil =>
          simp only [zend] at hend
          split at hend
          · rename_i hcnd
            omega
          · cases hend
        | cons w2 stx => cases hend
    all_goals
      rw [hz] at hty hr0
      have h7 := of_decide_eq_true hty
      have hne : ¬ zan i = 0 := fun z => by
        have := d6.mp z
        rw [hz] at this
        cases this
      cases stx with
      | nil =>
        simp only [zend] at hend
        split at hend
        · omega
        · cases hend
      | cons w stx =>
        cases stx with
        | cons w2 stx => cases hend
        | nil =>
          simp only [zend] at hend
          split at hend
          case isFalse => cases hend
          case isTrue hcnd =>
            cases hend
            have hok1 := hokx v List.mem_cons_self
            have hpure : v.1 = 0 ∨ v.1 = 4 → (zok SF.length v ∧ (v.1 = 0 ∨ v.1 = 3 ∨ v.1 = 4) ∧ (zan i = 0 ↔ v.1 = 3)) := fun z => ⟨hok1.1, by omega, ⟨fun z2 => absurd z2 hne, fun z2 => absurd z2 hok1.2⟩⟩
            first
              | (have hw0 : v.1 = 0 := by omega
                 rw [List.map_cons, zcv_i hw0, List.map_nil]
                 exact W.iret hx hb hr0 (hqq _ (by rw [zout_cv (ad := ad) (Or.inl hw0), zcv_i hw0]) (hpure (Or.inl hw0))) hSx.2.2 (one .ireturn rfl (by rw [h7]; rfl)))
              | (have hw0 : v.1 = 0 ∧ (v.2 = 0 ∨ v.2 = 1) := by omega
                 rw [List.map_cons, zcv_i hw0.1, List.map_nil]
                 exact W.zret hx hb hr0 (by rcases hw0.2 with z | z <;> rw [z] <;> rfl) (hqq _ (by rw [zout_cv (ad := ad) (Or.inl hw0.1), zcv_i hw0.1]) (hpure (Or.inl hw0.1))) hSx.2.2 (one .ireturn rfl (by rw [h7]; rfl)))
              | (have hw0 : v.1 = 4 := by omega
                 rw [List.map_cons, zcv_t hw0, List.map_nil]
                 exact W.aret hx hb hr0 (Or.inl ⟨_, rfl⟩) (Or.inr ⟨_, rfl⟩) (hqq _ (by rw [zout_cv (ad := ad) (Or.inr hw0), zcv_t hw0]) (hpure (Or.inr hw0))) hSx.2.2 (one .areturn rfl (by rw [h7]; rfl)))
  have hgo := hG ad cA s.heap [] als zag.rf (Nat.le_refl _) (Nat.le_refl _) (by rw [show zls adK ad 0 (zloc as (zmL i)) = lv_args 0 (as.map (zcv adK ad)) from zls_loc as _ 0 hns]; exact hl) (by
    unfold zloc
    rw [List.length_append, List.length_replicate]
    omega) (by
    rcases hsh with h3 | h3
    · refine Or.inr (fun w hw => ?_)
      rcases zloc_mem hw with hw | rfl
      · exact (htag.resolve_left h3) w hw
      · decide
    · exact Or.inl h3) (fun w hw => by
    rcases zloc_mem hw with hw | rfl
    · exact (hok w hw).1
    · exact ⟨fun z => absurd z (by decide), fun z => absurd z (by decide)⟩) (fun w hw => by cases hw) hR va_S.rf
  rw [hp0, Nat.sub_self, Nat.sub_self] at hgo
  rw [← hargs]
  exact hgo
