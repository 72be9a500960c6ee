/-! The small machine's run over the real one -/
def zmono (o : zF) : Prop := ∀ (a : List Int) (i : Nat) (ls st : List zV) (S : List zSh) (M : zM) (r : zR), o a i ls st S M = some r → S.length ≤ r.2.2.2.1.length ∧ zsl S ≤ zsl r.2.2.2.1
theorem zmono_same {o : zF} (h : ∀ (a : List Int) (i : Nat) (ls st : List zV) (S : List zSh) (M : zM) (r : zR), o a i ls st S M = some r → r.2.2.2.1 = S) : zmono o := fun a i ls st S M r hr => by
  rw [h a i ls st S M r hr]
  exact ⟨Nat.le_refl _, Nat.le_refl _⟩
theorem zsetR_len (S : List zSh) (a : Int) (k : Nat) (v : Int) : (zsetR S a k v).length = S.length ∧ zsl (zsetR S a k v) = zsl S := by
  unfold zsetR
  split
  · rename_i t c rs hq
    refine ⟨List.length_set, ?_⟩
    unfold zsl
    congr 1
    apply List.ext_getElem?
    intro j
    rw [List.getElem?_map, List.getElem?_map]
    by_cases hj : j = a.toNat
    · subst hj
      rw [List.getElem?_set_self (List.getElem?_eq_some_iff.mp hq).1, hq]
      rfl
    · rw [List.getElem?_set_ne (Ne.symm hj)]
  · exact ⟨rfl, rfl⟩
theorem zmono_app {S T : List zSh} : S.length ≤ (S ++ T).length ∧ zsl S ≤ zsl (S ++ T) := ⟨by simp, by rw [zsl_app]; omega⟩
theorem zmono_all : ∀ o ∈ zOps, zmono o := by
  unfold zOps
  simp only [List.forall_mem_cons]
  refine ⟨?_, ?_, ?_, ?_, ?_, ?_, ?_, ?_, ?_, ?_, ?_, ?_, ?_, ?_, ?_, ?_, ?_, ?_, ?_, ?_, ?_, ?_, ?_, ?_, ?_, ?_, ?_, ?_, ?_, ?_, ?_, ?_, ?_, ?_, ?_, ?_, ?_, ?_, ?_, ?_, ?_, ?_, ?_, ?_, ?_, ?_, ?_, ?_, ?_, ?_, ?_, ?_, ?_, ?_, ?_, ?_, ?_, ?_, ?_, ?_, fun _ h => absurd h List.not_mem_nil⟩
  all_goals
    intro a i ls st S M r h
    first
      | (cases h; done)
      | (cases h; exact ⟨Nat.le_refl _, Nat.le_refl _⟩)
      | (cases h; exact zmono_app)
      | (simp only [zo_load, zo_store, zo_iinc, zo_bin, zo_un, zo_dup, zo_pop, zo_dup2, zo_if, zo_cmp, zo_ifnull, zo_table, zo_lookup, zo_getf, zo_putf, zo_iald, zo_bald, zo_aald, zo_iast, zo_bast, zo_aast, zo_alen, zo_newa, zo_newq, zo_newm, zo_obj, zo_copy, zo_min, zo_abs, zo_tlen, zo_char] at h
         repeat' (split at h)
         all_goals first
           | (cases h; done)
           | (cases h; exact ⟨Nat.le_refl _, Nat.le_refl _⟩)
           | (cases h; exact zmono_app)
           | (cases h; exact ⟨Nat.le_of_eq (zsetR_len ..).1.symm, Nat.le_of_eq (zsetR_len ..).2.symm⟩))
theorem zrun_mono_S : ∀ (n : Nat) (c : List zIn) (i : Nat) (ls st : List zV) (S : List zSh) (M : zM) (r : zV × List zSh × zM), zrun zPt n c i ls st S M = some r → S.length ≤ r.2.1.length ∧ zsl S ≤ zsl r.2.1 := by
  intro n
  induction n with
  | zero => intro c i ls st S M r h; simp [zrun] at h
  | succ n ih =>
    intro c i ls st S M r h
    rw [zrun_succ] at h
    cases hc : c[i]? with
    | none => rw [hc] at h; cases h
    | some q =>
      rw [hc] at h
      dsimp only at h
      by_cases h60 : q.1 = 60
      · rw [if_pos h60] at h
        cases hP : zPt[(zarg q.2 2).toNat]? with
        | none => rw [hP] at h; cases h
        | some y =>
          rw [hP] at h
          dsimp only at h
          split at h
          · cases hr : zrun zPt n y.1 0 (zloc (st.take y.2.2.1).reverse y.2.1) [] S M with
            | none => rw [hr] at h; cases h
            | some r1 =>
              rw [hr] at h
              have a1 := ih _ _ _ _ _ _ _ hr
              have a2 := ih _ _ _ _ _ _ _ h
              omega
          · cases h
      · rw [if_neg h60] at h
        by_cases h70 : 70 ≤ q.1
        · rw [if_pos h70] at h
          cases he : zend q.1 st with
          | none => rw [he] at h; cases h
          | some v => rw [he] at h; cases h; exact ⟨Nat.le_refl _, Nat.le_refl _⟩
        · rw [if_neg h70] at h
          cases hs : zstep q [] i ls st S M with
          | none => rw [hs] at h; cases h
          | some r1 =>
            rw [hs] at h
            have a2 := ih _ _ _ _ _ _ _ h
            have a1 : S.length ≤ r1.2.2.2.1.length ∧ zsl S ≤ zsl r1.2.2.2.1 := by
              unfold zstep at hs
              by_cases hq : q.1 < zOps.length
              · rw [List.getD, List.getElem?_eq_getElem hq] at hs
                exact zmono_all _ (List.getElem_mem hq) _ _ _ _ _ _ _ hs
              · rw [List.getD, List.getElem?_eq_none (by omega)] at hs
                cases hs
            omega
