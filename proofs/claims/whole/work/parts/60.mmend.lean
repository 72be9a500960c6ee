/-! Mending: the model -/
section
set_option maxHeartbeats 4000000
def yf4 (M P : zM) : Prop := (∀ x, x ≠ 208 → P x = M x) ∧ ∀ j, j ≠ 43 → P 208 j = M 208 j
theorem yf4.rf {M : zM} : yf4 M M := ⟨fun _ _ => rfl, fun _ _ => rfl⟩
theorem yf4.tr {M N P : zM} (h : yf4 M N) (g : yf4 N P) : yf4 M P := ⟨fun x hx => (g.1 x hx).trans (h.1 x hx), fun j hj => (g.2 j hj).trans (h.2 j hj)⟩
theorem yf4.up {M P : zM} {v : Int} (h : yf4 M P) : yf4 M (zup P 208 43 v) := ⟨fun x hx => (zup_row hx).trans (h.1 x hx), fun j hj => (zup_ni hj).trans (h.2 j hj)⟩
theorem yf4.m {M P : zM} (h : yf4 M P) : ymf M P := ⟨fun x hx => h.1 x (by omega), fun j hj => h.2 j (by omega)⟩

theorem m_MgoesOn {w t : Int} {M : zM} {Q : zV → zM → Prop} (hw : 0 ≤ w ∧ w ≤ 11) (ht : 0 ≤ t ∧ t ≤ 13) (kk : ∀ P : zM, yf4 M P → P 208 43 = ymb w t → Q (0, ymg w t) P) : zWp kM_goesOn 0 [(1, 208), (0, w), (0, t), (3, 0)] [] M Q := by
  refine zw_aload ⟨rfl, rfl⟩ rfl ?_
  refine zw_const ⟨rfl, rfl⟩ ?_
  refine zw_putI ⟨rfl, rfl⟩ zc_208 (by decide) (fun _ => by first | exact Or.inl rfl | exact Or.inr rfl | omega) ?_
  refine zw_iload ⟨rfl, rfl⟩ rfl ?_
  refine zw_const ⟨rfl, rfl⟩ ?_
  refine zw_iceq ⟨rfl, rfl⟩ rfl (fun c1 => ?_) (fun c1 => ?_)
  · skip
    refine zw_const ⟨rfl, rfl⟩ ?_
    refine zw_goto ⟨rfl, rfl⟩ rfl ?_
    refine zw_istore_3 ⟨rfl, rfl⟩ ?_
    refine zw_iload ⟨rfl, rfl⟩ rfl ?_
    refine zw_const ⟨rfl, rfl⟩ ?_
    refine zw_icne ⟨rfl, rfl⟩ rfl (fun c2 => ?_) (fun c2 => ?_)
    · skip
      refine zw_iload ⟨rfl, rfl⟩ rfl ?_
      refine zw_const ⟨rfl, rfl⟩ ?_
      refine zw_icne ⟨rfl, rfl⟩ rfl (fun c3 => ?_) (fun c3 => ?_)
      · skip
        refine zw_iload ⟨rfl, rfl⟩ rfl ?_
        refine zw_ifne ⟨rfl, rfl⟩ rfl (fun c4 => ?_) (fun c4 => ?_)
        · skip
          refine zw_iload ⟨rfl, rfl⟩ rfl ?_
          refine zw_calls1 ⟨rfl, rfl⟩ rfl rfl ?_
          refine zw_iload ⟨rfl, rfl⟩ rfl ?_
          refine zw_const ⟨rfl, rfl⟩ ?_
          refine zw_iceq ⟨rfl, rfl⟩ rfl (fun c5 => ?_) (fun c5 => ?_)
          · skip
            refine zw_const ⟨rfl, rfl⟩ ?_
            refine zw_goto ⟨rfl, rfl⟩ rfl ?_
            refine zw_zret rfl (by first | exact Or.inl rfl | exact Or.inr rfl | omega) ?_
            refine zw_ifeq ⟨rfl, rfl⟩ rfl (fun q => absurd q (by decide)) (fun _ => ?_)
            refine zw_iload ⟨rfl, rfl⟩ rfl ?_
            refine zw_const ⟨rfl, rfl⟩ ?_
            refine zw_icne ⟨rfl, rfl⟩ rfl (fun c7 => ?_) (fun c7 => ?_)
            · skip
              refine zw_iload ⟨rfl, rfl⟩ rfl ?_
              refine zw_const ⟨rfl, rfl⟩ ?_
              refine zw_icne ⟨rfl, rfl⟩ rfl (fun c8 => ?_) (fun c8 => ?_)
              · skip
                refine zw_const ⟨rfl, rfl⟩ ?_
                refine zw_ret rfl ?_
                have e1 : ymg w t = 0 := by unfold ymg; (repeat' split) <;> first | rfl | (exfalso; omega)
                have e2 : ymb w t = 0 := by unfold ymb; (repeat' split) <;> first | rfl | (exfalso; omega)
                rw [e1] at kk
                exact kk _ ((yf4.rf).up) ((zup_eq _ _ _ _).trans e2.symm)
              · skip
                refine zw_const ⟨rfl, rfl⟩ ?_
                refine zw_goto ⟨rfl, rfl⟩ rfl ?_
                refine zw_ret rfl ?_
                have e1 : ymg w t = 11 := by unfold ymg; (repeat' split) <;> first | rfl | (exfalso; omega)
                have e2 : ymb w t = 0 := by unfold ymb; (repeat' split) <;> first | rfl | (exfalso; omega)
                rw [e1] at kk
                exact kk _ ((yf4.rf).up) ((zup_eq _ _ _ _).trans e2.symm)
            · skip
              refine zw_const ⟨rfl, rfl⟩ ?_
              refine zw_goto ⟨rfl, rfl⟩ rfl ?_
              refine zw_ret rfl ?_
              have e1 : ymg w t = 4 := by unfold ymg; (repeat' split) <;> first | rfl | (exfalso; omega)
              have e2 : ymb w t = 0 := by unfold ymb; (repeat' split) <;> first | rfl | (exfalso; omega)
              rw [e1] at kk
              exact kk _ ((yf4.rf).up) ((zup_eq _ _ _ _).trans e2.symm)
          · skip
            refine zw_iload ⟨rfl, rfl⟩ rfl ?_
            refine zw_const ⟨rfl, rfl⟩ ?_
            refine zw_icne ⟨rfl, rfl⟩ rfl (fun c9 => ?_) (fun c9 => ?_)
            · skip
              refine zw_const ⟨rfl, rfl⟩ ?_
              refine zw_zret rfl (by first | exact Or.inl rfl | exact Or.inr rfl | omega) ?_
              refine zw_ifeq ⟨rfl, rfl⟩ rfl (fun _ => ?_) (fun q => absurd (by decide) q)
              refine zw_iload ⟨rfl, rfl⟩ rfl ?_
              refine zw_const ⟨rfl, rfl⟩ ?_
              refine zw_icne ⟨rfl, rfl⟩ rfl (fun c11 => ?_) (fun c11 => ?_)
              · skip
                refine zw_iload ⟨rfl, rfl⟩ rfl ?_
                refine zw_const ⟨rfl, rfl⟩ ?_
                refine zw_icne ⟨rfl, rfl⟩ rfl (fun c12 => ?_) (fun c12 => ?_)
                · skip
                  refine zw_iload ⟨rfl, rfl⟩ rfl ?_
                  refine zw_calls1 ⟨rfl, rfl⟩ rfl rfl ?_
                  refine zw_iload ⟨rfl, rfl⟩ rfl ?_
                  refine zw_i2l ⟨rfl, rfl⟩ ?_
                  refine zw_lconst ⟨rfl, rfl⟩ ?_
                  refine zw_lconst ⟨rfl, rfl⟩ ?_
                  refine zw_calLs3 ⟨rfl, rfl⟩ rfl rfl ?_
                  refine zw_lload ⟨rfl, rfl⟩ rfl ?_
                  refine zw_lload ⟨rfl, rfl⟩ rfl ?_
                  refine zw_lcmp ⟨rfl, rfl⟩ ?_
                  refine zw_iflt ⟨rfl, rfl⟩ rfl (fun c13 => ?_) (fun c13 => ?_)
                  · replace c13 := zlc_lt.mp c13
                    refine zw_const ⟨rfl, rfl⟩ ?_
                    refine zw_zret rfl (by first | exact Or.inl rfl | exact Or.inr rfl | omega) ?_
                    refine zw_zret rfl (by first | exact Or.inl rfl | exact Or.inr rfl | omega) ?_
                    refine zw_ifeq ⟨rfl, rfl⟩ rfl (fun _ => ?_) (fun q => absurd (by decide) q)
                    refine zw_aload ⟨rfl, rfl⟩ rfl ?_
                    refine zw_iload ⟨rfl, rfl⟩ rfl ?_
                    refine zw_ifne ⟨rfl, rfl⟩ rfl (fun c15 => ?_) (fun c15 => ?_)
                    · skip
                      refine zw_const ⟨rfl, rfl⟩ ?_
                      refine zw_putI ⟨rfl, rfl⟩ zc_208 (by decide) (fun _ => by first | exact Or.inl rfl | exact Or.inr rfl | omega) ?_
                      refine zw_const ⟨rfl, rfl⟩ ?_
                      refine zw_ret rfl ?_
                      have e1 : ymg w t = 6 := by unfold ymg; (repeat' split) <;> first | rfl | (exfalso; omega)
                      have e2 : ymb w t = 0 := by unfold ymb; (repeat' split) <;> first | rfl | (exfalso; omega)
                      rw [e1] at kk
                      exact kk _ (((yf4.rf).up).up) ((zup_eq _ _ _ _).trans e2.symm)
                    · skip
                      refine zw_const ⟨rfl, rfl⟩ ?_
                      refine zw_goto ⟨rfl, rfl⟩ rfl ?_
                      refine zw_putI ⟨rfl, rfl⟩ zc_208 (by decide) (fun _ => by first | exact Or.inl rfl | exact Or.inr rfl | omega) ?_
                      refine zw_const ⟨rfl, rfl⟩ ?_
                      refine zw_ret rfl ?_
                      have e1 : ymg w t = 6 := by unfold ymg; (repeat' split) <;> first | rfl | (exfalso; omega)
                      have e2 : ymb w t = 1 := by unfold ymb; (repeat' split) <;> first | rfl | (exfalso; omega)
                      rw [e1] at kk
                      exact kk _ (((yf4.rf).up).up) ((zup_eq _ _ _ _).trans e2.symm)
                  · replace c13 := (not_congr zlc_lt).mp c13
                    refine zw_lload ⟨rfl, rfl⟩ rfl ?_
                    refine zw_lload ⟨rfl, rfl⟩ rfl ?_
                    refine zw_lcmp ⟨rfl, rfl⟩ ?_
                    refine zw_ifgt ⟨rfl, rfl⟩ rfl (fun c16 => ?_) (fun c16 => ?_)
                    · replace c16 := zlc_gt.mp c16
                      refine zw_const ⟨rfl, rfl⟩ ?_
                      refine zw_zret rfl (by first | exact Or.inl rfl | exact Or.inr rfl | omega) ?_
                      refine zw_zret rfl (by first | exact Or.inl rfl | exact Or.inr rfl | omega) ?_
                      refine zw_ifeq ⟨rfl, rfl⟩ rfl (fun _ => ?_) (fun q => absurd (by decide) q)
                      refine zw_aload ⟨rfl, rfl⟩ rfl ?_
                      refine zw_iload ⟨rfl, rfl⟩ rfl ?_
                      refine zw_ifne ⟨rfl, rfl⟩ rfl (fun c18 => ?_) (fun c18 => ?_)
                      · skip
                        refine zw_const ⟨rfl, rfl⟩ ?_
                        refine zw_putI ⟨rfl, rfl⟩ zc_208 (by decide) (fun _ => by first | exact Or.inl rfl | exact Or.inr rfl | omega) ?_
                        refine zw_const ⟨rfl, rfl⟩ ?_
                        refine zw_ret rfl ?_
                        have e1 : ymg w t = 6 := by unfold ymg; (repeat' split) <;> first | rfl | (exfalso; omega)
                        have e2 : ymb w t = 0 := by unfold ymb; (repeat' split) <;> first | rfl | (exfalso; omega)
                        rw [e1] at kk
                        exact kk _ (((yf4.rf).up).up) ((zup_eq _ _ _ _).trans e2.symm)
                      · skip
                        refine zw_const ⟨rfl, rfl⟩ ?_
                        refine zw_goto ⟨rfl, rfl⟩ rfl ?_
                        refine zw_putI ⟨rfl, rfl⟩ zc_208 (by decide) (fun _ => by first | exact Or.inl rfl | exact Or.inr rfl | omega) ?_
                        refine zw_const ⟨rfl, rfl⟩ ?_
                        refine zw_ret rfl ?_
                        have e1 : ymg w t = 6 := by unfold ymg; (repeat' split) <;> first | rfl | (exfalso; omega)
                        have e2 : ymb w t = 1 := by unfold ymb; (repeat' split) <;> first | rfl | (exfalso; omega)
                        rw [e1] at kk
                        exact kk _ (((yf4.rf).up).up) ((zup_eq _ _ _ _).trans e2.symm)
                    · replace c16 := (not_congr zlc_gt).mp c16
                      refine zw_const ⟨rfl, rfl⟩ ?_
                      refine zw_goto ⟨rfl, rfl⟩ rfl ?_
                      refine zw_zret rfl (by first | exact Or.inl rfl | exact Or.inr rfl | omega) ?_
                      refine zw_zret rfl (by first | exact Or.inl rfl | exact Or.inr rfl | omega) ?_
                      refine zw_ifeq ⟨rfl, rfl⟩ rfl (fun q => absurd q (by decide)) (fun _ => ?_)
                      refine zw_aload ⟨rfl, rfl⟩ rfl ?_
                      refine zw_iload ⟨rfl, rfl⟩ rfl ?_
                      refine zw_ifne ⟨rfl, rfl⟩ rfl (fun _ => ?_) (fun q => absurd (by decide) q)
                      refine zw_const ⟨rfl, rfl⟩ ?_
                      refine zw_putI ⟨rfl, rfl⟩ zc_208 (by decide) (fun _ => by first | exact Or.inl rfl | exact Or.inr rfl | omega) ?_
                      refine zw_const ⟨rfl, rfl⟩ ?_
                      refine zw_ret rfl ?_
                      have e1 : ymg w t = 5 := by unfold ymg; (repeat' split) <;> first | rfl | (exfalso; omega)
                      have e2 : ymb w t = 0 := by unfold ymb; (repeat' split) <;> first | rfl | (exfalso; omega)
                      rw [e1] at kk
                      exact kk _ (((yf4.rf).up).up) ((zup_eq _ _ _ _).trans e2.symm)
                · skip
                  refine zw_iload ⟨rfl, rfl⟩ rfl ?_
                  refine zw_ifeq ⟨rfl, rfl⟩ rfl (fun q => absurd q (by decide)) (fun _ => ?_)
                  refine zw_const ⟨rfl, rfl⟩ ?_
                  refine zw_ret rfl ?_
                  have e1 : ymg w t = 3 := by unfold ymg; (repeat' split) <;> first | rfl | (exfalso; omega)
                  have e2 : ymb w t = 0 := by unfold ymb; (repeat' split) <;> first | rfl | (exfalso; omega)
                  rw [e1] at kk
                  exact kk _ ((yf4.rf).up) ((zup_eq _ _ _ _).trans e2.symm)
              · skip
                refine zw_iload ⟨rfl, rfl⟩ rfl ?_
                refine zw_const ⟨rfl, rfl⟩ ?_
                refine zw_icne ⟨rfl, rfl⟩ rfl (fun c22 => ?_) (fun c22 => ?_)
                · skip
                  refine zw_aload ⟨rfl, rfl⟩ rfl ?_
                  refine zw_iload ⟨rfl, rfl⟩ rfl ?_
                  refine zw_const ⟨rfl, rfl⟩ ?_
                  refine zw_iceq ⟨rfl, rfl⟩ rfl (fun c23 => ?_) (fun c23 => ?_)
                  · skip
                    refine zw_const ⟨rfl, rfl⟩ ?_
                    refine zw_putI ⟨rfl, rfl⟩ zc_208 (by decide) (fun _ => by first | exact Or.inl rfl | exact Or.inr rfl | omega) ?_
                    refine zw_aload ⟨rfl, rfl⟩ rfl ?_
                    refine zw_getIv (v := 0) ⟨rfl, rfl⟩ zc_208 (by decide) (zup_eq _ _ _ _) ?_
                    refine zw_ifeq ⟨rfl, rfl⟩ rfl (fun _ => ?_) (fun q => absurd (by decide) q)
                    refine zw_const ⟨rfl, rfl⟩ ?_
                    refine zw_ret rfl ?_
                    have e1 : ymg w t = 8 := by unfold ymg; (repeat' split) <;> first | rfl | (exfalso; omega)
                    have e2 : ymb w t = 0 := by unfold ymb; (repeat' split) <;> first | rfl | (exfalso; omega)
                    rw [e1] at kk
                    exact kk _ (((yf4.rf).up).up) ((zup_eq _ _ _ _).trans e2.symm)
                  · skip
                    refine zw_const ⟨rfl, rfl⟩ ?_
                    refine zw_goto ⟨rfl, rfl⟩ rfl ?_
                    refine zw_putI ⟨rfl, rfl⟩ zc_208 (by decide) (fun _ => by first | exact Or.inl rfl | exact Or.inr rfl | omega) ?_
                    refine zw_aload ⟨rfl, rfl⟩ rfl ?_
                    refine zw_getIv (v := 1) ⟨rfl, rfl⟩ zc_208 (by decide) (zup_eq _ _ _ _) ?_
                    refine zw_ifeq ⟨rfl, rfl⟩ rfl (fun q => absurd q (by decide)) (fun _ => ?_)
                    refine zw_const ⟨rfl, rfl⟩ ?_
                    refine zw_goto ⟨rfl, rfl⟩ rfl ?_
                    refine zw_ret rfl ?_
                    have e1 : ymg w t = 9 := by unfold ymg; (repeat' split) <;> first | rfl | (exfalso; omega)
                    have e2 : ymb w t = 1 := by unfold ymb; (repeat' split) <;> first | rfl | (exfalso; omega)
                    rw [e1] at kk
                    exact kk _ (((yf4.rf).up).up) ((zup_eq _ _ _ _).trans e2.symm)
                · skip
                  refine zw_const ⟨rfl, rfl⟩ ?_
                  refine zw_ret rfl ?_
                  have e1 : ymg w t = 2 := by unfold ymg; (repeat' split) <;> first | rfl | (exfalso; omega)
                  have e2 : ymb w t = 0 := by unfold ymb; (repeat' split) <;> first | rfl | (exfalso; omega)
                  rw [e1] at kk
                  exact kk _ ((yf4.rf).up) ((zup_eq _ _ _ _).trans e2.symm)
            · skip
              refine zw_const ⟨rfl, rfl⟩ ?_
              refine zw_goto ⟨rfl, rfl⟩ rfl ?_
              refine zw_zret rfl (by first | exact Or.inl rfl | exact Or.inr rfl | omega) ?_
              refine zw_ifeq ⟨rfl, rfl⟩ rfl (fun q => absurd q (by decide)) (fun _ => ?_)
              refine zw_iload ⟨rfl, rfl⟩ rfl ?_
              refine zw_const ⟨rfl, rfl⟩ ?_
              refine zw_icne ⟨rfl, rfl⟩ rfl (fun c27 => ?_) (fun c27 => ?_)
              · skip
                refine zw_iload ⟨rfl, rfl⟩ rfl ?_
                refine zw_const ⟨rfl, rfl⟩ ?_
                refine zw_icne ⟨rfl, rfl⟩ rfl (fun c28 => ?_) (fun c28 => ?_)
                · skip
                  refine zw_const ⟨rfl, rfl⟩ ?_
                  refine zw_ret rfl ?_
                  have e1 : ymg w t = 0 := by unfold ymg; (repeat' split) <;> first | rfl | (exfalso; omega)
                  have e2 : ymb w t = 0 := by unfold ymb; (repeat' split) <;> first | rfl | (exfalso; omega)
                  rw [e1] at kk
                  exact kk _ ((yf4.rf).up) ((zup_eq _ _ _ _).trans e2.symm)
                · skip
                  refine zw_const ⟨rfl, rfl⟩ ?_
                  refine zw_goto ⟨rfl, rfl⟩ rfl ?_
                  refine zw_ret rfl ?_
                  have e1 : ymg w t = 11 := by unfold ymg; (repeat' split) <;> first | rfl | (exfalso; omega)
                  have e2 : ymb w t = 0 := by unfold ymb; (repeat' split) <;> first | rfl | (exfalso; omega)
                  rw [e1] at kk
                  exact kk _ ((yf4.rf).up) ((zup_eq _ _ _ _).trans e2.symm)
              · skip
                refine zw_const ⟨rfl, rfl⟩ ?_
                refine zw_goto ⟨rfl, rfl⟩ rfl ?_
                refine zw_ret rfl ?_
                have e1 : ymg w t = 4 := by unfold ymg; (repeat' split) <;> first | rfl | (exfalso; omega)
                have e2 : ymb w t = 0 := by unfold ymb; (repeat' split) <;> first | rfl | (exfalso; omega)
                rw [e1] at kk
                exact kk _ ((yf4.rf).up) ((zup_eq _ _ _ _).trans e2.symm)
        · skip
          refine zw_const ⟨rfl, rfl⟩ ?_
          refine zw_ret rfl ?_
          have e1 : ymg w t = 0 := by unfold ymg; (repeat' split) <;> first | rfl | (exfalso; omega)
          have e2 : ymb w t = 0 := by unfold ymb; (repeat' split) <;> first | rfl | (exfalso; omega)
          rw [e1] at kk
          exact kk _ ((yf4.rf).up) ((zup_eq _ _ _ _).trans e2.symm)
      · skip
        refine zw_const ⟨rfl, rfl⟩ ?_
        refine zw_ret rfl ?_
        have e1 : ymg w t = 7 := by unfold ymg; (repeat' split) <;> first | rfl | (exfalso; omega)
        have e2 : ymb w t = 0 := by unfold ymb; (repeat' split) <;> first | rfl | (exfalso; omega)
        rw [e1] at kk
        exact kk _ ((yf4.rf).up) ((zup_eq _ _ _ _).trans e2.symm)
    · skip
      refine zw_const ⟨rfl, rfl⟩ ?_
      refine zw_ret rfl ?_
      have e1 : ymg w t = 1 := by unfold ymg; (repeat' split) <;> first | rfl | (exfalso; omega)
      have e2 : ymb w t = 0 := by unfold ymb; (repeat' split) <;> first | rfl | (exfalso; omega)
      rw [e1] at kk
      exact kk _ ((yf4.rf).up) ((zup_eq _ _ _ _).trans e2.symm)
  · skip
    refine zw_iload ⟨rfl, rfl⟩ rfl ?_
    refine zw_const ⟨rfl, rfl⟩ ?_
    refine zw_icne ⟨rfl, rfl⟩ rfl (fun c29 => ?_) (fun c29 => ?_)
    · skip
      refine zw_const ⟨rfl, rfl⟩ ?_
      refine zw_istore_3 ⟨rfl, rfl⟩ ?_
      refine zw_iload ⟨rfl, rfl⟩ rfl ?_
      refine zw_const ⟨rfl, rfl⟩ ?_
      refine zw_icne ⟨rfl, rfl⟩ rfl (fun c30 => ?_) (fun c30 => ?_)
      · skip
        refine zw_iload ⟨rfl, rfl⟩ rfl ?_
        refine zw_const ⟨rfl, rfl⟩ ?_
        refine zw_icne ⟨rfl, rfl⟩ rfl (fun c31 => ?_) (fun c31 => ?_)
        · skip
          refine zw_iload ⟨rfl, rfl⟩ rfl ?_
          refine zw_ifne ⟨rfl, rfl⟩ rfl (fun c32 => ?_) (fun c32 => ?_)
          · skip
            refine zw_iload ⟨rfl, rfl⟩ rfl ?_
            refine zw_calls1 ⟨rfl, rfl⟩ rfl rfl ?_
            refine zw_iload ⟨rfl, rfl⟩ rfl ?_
            refine zw_const ⟨rfl, rfl⟩ ?_
            refine zw_iceq ⟨rfl, rfl⟩ rfl (fun c33 => ?_) (fun c33 => ?_)
            · skip
              refine zw_const ⟨rfl, rfl⟩ ?_
              refine zw_goto ⟨rfl, rfl⟩ rfl ?_
              refine zw_zret rfl (by first | exact Or.inl rfl | exact Or.inr rfl | omega) ?_
              refine zw_ifeq ⟨rfl, rfl⟩ rfl (fun q => absurd q (by decide)) (fun _ => ?_)
              refine zw_iload ⟨rfl, rfl⟩ rfl ?_
              refine zw_const ⟨rfl, rfl⟩ ?_
              refine zw_icne ⟨rfl, rfl⟩ rfl (fun c35 => ?_) (fun c35 => ?_)
              · skip
                refine zw_iload ⟨rfl, rfl⟩ rfl ?_
                refine zw_const ⟨rfl, rfl⟩ ?_
                refine zw_icne ⟨rfl, rfl⟩ rfl (fun c36 => ?_) (fun c36 => ?_)
                · skip
                  refine zw_const ⟨rfl, rfl⟩ ?_
                  refine zw_ret rfl ?_
                  have e1 : ymg w t = 0 := by unfold ymg; (repeat' split) <;> first | rfl | (exfalso; omega)
                  have e2 : ymb w t = 0 := by unfold ymb; (repeat' split) <;> first | rfl | (exfalso; omega)
                  rw [e1] at kk
                  exact kk _ ((yf4.rf).up) ((zup_eq _ _ _ _).trans e2.symm)
                · skip
                  refine zw_const ⟨rfl, rfl⟩ ?_
                  refine zw_goto ⟨rfl, rfl⟩ rfl ?_
                  refine zw_ret rfl ?_
                  have e1 : ymg w t = 11 := by unfold ymg; (repeat' split) <;> first | rfl | (exfalso; omega)
                  have e2 : ymb w t = 0 := by unfold ymb; (repeat' split) <;> first | rfl | (exfalso; omega)
                  rw [e1] at kk
                  exact kk _ ((yf4.rf).up) ((zup_eq _ _ _ _).trans e2.symm)
              · skip
                refine zw_const ⟨rfl, rfl⟩ ?_
                refine zw_goto ⟨rfl, rfl⟩ rfl ?_
                refine zw_ret rfl ?_
                have e1 : ymg w t = 4 := by unfold ymg; (repeat' split) <;> first | rfl | (exfalso; omega)
                have e2 : ymb w t = 0 := by unfold ymb; (repeat' split) <;> first | rfl | (exfalso; omega)
                rw [e1] at kk
                exact kk _ ((yf4.rf).up) ((zup_eq _ _ _ _).trans e2.symm)
            · skip
              refine zw_iload ⟨rfl, rfl⟩ rfl ?_
              refine zw_const ⟨rfl, rfl⟩ ?_
              refine zw_icne ⟨rfl, rfl⟩ rfl (fun c37 => ?_) (fun c37 => ?_)
              · skip
                refine zw_const ⟨rfl, rfl⟩ ?_
                refine zw_zret rfl (by first | exact Or.inl rfl | exact Or.inr rfl | omega) ?_
                refine zw_ifeq ⟨rfl, rfl⟩ rfl (fun _ => ?_) (fun q => absurd (by decide) q)
                refine zw_iload ⟨rfl, rfl⟩ rfl ?_
                refine zw_const ⟨rfl, rfl⟩ ?_
                refine zw_icne ⟨rfl, rfl⟩ rfl (fun c39 => ?_) (fun c39 => ?_)
                · skip
                  refine zw_iload ⟨rfl, rfl⟩ rfl ?_
                  refine zw_const ⟨rfl, rfl⟩ ?_
                  refine zw_icne ⟨rfl, rfl⟩ rfl (fun c40 => ?_) (fun c40 => ?_)
                  · skip
                    refine zw_iload ⟨rfl, rfl⟩ rfl ?_
                    refine zw_calls1 ⟨rfl, rfl⟩ rfl rfl ?_
                    refine zw_iload ⟨rfl, rfl⟩ rfl ?_
                    refine zw_i2l ⟨rfl, rfl⟩ ?_
                    refine zw_lconst ⟨rfl, rfl⟩ ?_
                    refine zw_lconst ⟨rfl, rfl⟩ ?_
                    refine zw_calLs3 ⟨rfl, rfl⟩ rfl rfl ?_
                    refine zw_lload ⟨rfl, rfl⟩ rfl ?_
                    refine zw_lload ⟨rfl, rfl⟩ rfl ?_
                    refine zw_lcmp ⟨rfl, rfl⟩ ?_
                    refine zw_iflt ⟨rfl, rfl⟩ rfl (fun c41 => ?_) (fun c41 => ?_)
                    · replace c41 := zlc_lt.mp c41
                      refine zw_const ⟨rfl, rfl⟩ ?_
                      refine zw_zret rfl (by first | exact Or.inl rfl | exact Or.inr rfl | omega) ?_
                      refine zw_zret rfl (by first | exact Or.inl rfl | exact Or.inr rfl | omega) ?_
                      refine zw_ifeq ⟨rfl, rfl⟩ rfl (fun _ => ?_) (fun q => absurd (by decide) q)
                      refine zw_aload ⟨rfl, rfl⟩ rfl ?_
                      refine zw_iload ⟨rfl, rfl⟩ rfl ?_
                      refine zw_ifne ⟨rfl, rfl⟩ rfl (fun c43 => ?_) (fun c43 => ?_)
                      · skip
                        refine zw_const ⟨rfl, rfl⟩ ?_
                        refine zw_putI ⟨rfl, rfl⟩ zc_208 (by decide) (fun _ => by first | exact Or.inl rfl | exact Or.inr rfl | omega) ?_
                        refine zw_const ⟨rfl, rfl⟩ ?_
                        refine zw_ret rfl ?_
                        have e1 : ymg w t = 6 := by unfold ymg; (repeat' split) <;> first | rfl | (exfalso; omega)
                        have e2 : ymb w t = 0 := by unfold ymb; (repeat' split) <;> first | rfl | (exfalso; omega)
                        rw [e1] at kk
                        exact kk _ (((yf4.rf).up).up) ((zup_eq _ _ _ _).trans e2.symm)
                      · skip
                        refine zw_const ⟨rfl, rfl⟩ ?_
                        refine zw_goto ⟨rfl, rfl⟩ rfl ?_
                        refine zw_putI ⟨rfl, rfl⟩ zc_208 (by decide) (fun _ => by first | exact Or.inl rfl | exact Or.inr rfl | omega) ?_
                        refine zw_const ⟨rfl, rfl⟩ ?_
                        refine zw_ret rfl ?_
                        have e1 : ymg w t = 6 := by unfold ymg; (repeat' split) <;> first | rfl | (exfalso; omega)
                        have e2 : ymb w t = 1 := by unfold ymb; (repeat' split) <;> first | rfl | (exfalso; omega)
                        rw [e1] at kk
                        exact kk _ (((yf4.rf).up).up) ((zup_eq _ _ _ _).trans e2.symm)
                    · replace c41 := (not_congr zlc_lt).mp c41
                      refine zw_lload ⟨rfl, rfl⟩ rfl ?_
                      refine zw_lload ⟨rfl, rfl⟩ rfl ?_
                      refine zw_lcmp ⟨rfl, rfl⟩ ?_
                      refine zw_ifgt ⟨rfl, rfl⟩ rfl (fun c44 => ?_) (fun c44 => ?_)
                      · replace c44 := zlc_gt.mp c44
                        refine zw_const ⟨rfl, rfl⟩ ?_
                        refine zw_zret rfl (by first | exact Or.inl rfl | exact Or.inr rfl | omega) ?_
                        refine zw_zret rfl (by first | exact Or.inl rfl | exact Or.inr rfl | omega) ?_
                        refine zw_ifeq ⟨rfl, rfl⟩ rfl (fun _ => ?_) (fun q => absurd (by decide) q)
                        refine zw_aload ⟨rfl, rfl⟩ rfl ?_
                        refine zw_iload ⟨rfl, rfl⟩ rfl ?_
                        refine zw_ifne ⟨rfl, rfl⟩ rfl (fun c46 => ?_) (fun c46 => ?_)
                        · skip
                          refine zw_const ⟨rfl, rfl⟩ ?_
                          refine zw_putI ⟨rfl, rfl⟩ zc_208 (by decide) (fun _ => by first | exact Or.inl rfl | exact Or.inr rfl | omega) ?_
                          refine zw_const ⟨rfl, rfl⟩ ?_
                          refine zw_ret rfl ?_
                          have e1 : ymg w t = 6 := by unfold ymg; (repeat' split) <;> first | rfl | (exfalso; omega)
                          have e2 : ymb w t = 0 := by unfold ymb; (repeat' split) <;> first | rfl | (exfalso; omega)
                          rw [e1] at kk
                          exact kk _ (((yf4.rf).up).up) ((zup_eq _ _ _ _).trans e2.symm)
                        · skip
                          refine zw_const ⟨rfl, rfl⟩ ?_
                          refine zw_goto ⟨rfl, rfl⟩ rfl ?_
                          refine zw_putI ⟨rfl, rfl⟩ zc_208 (by decide) (fun _ => by first | exact Or.inl rfl | exact Or.inr rfl | omega) ?_
                          refine zw_const ⟨rfl, rfl⟩ ?_
                          refine zw_ret rfl ?_
                          have e1 : ymg w t = 6 := by unfold ymg; (repeat' split) <;> first | rfl | (exfalso; omega)
                          have e2 : ymb w t = 1 := by unfold ymb; (repeat' split) <;> first | rfl | (exfalso; omega)
                          rw [e1] at kk
                          exact kk _ (((yf4.rf).up).up) ((zup_eq _ _ _ _).trans e2.symm)
                      · replace c44 := (not_congr zlc_gt).mp c44
                        refine zw_const ⟨rfl, rfl⟩ ?_
                        refine zw_goto ⟨rfl, rfl⟩ rfl ?_
                        refine zw_zret rfl (by first | exact Or.inl rfl | exact Or.inr rfl | omega) ?_
                        refine zw_zret rfl (by first | exact Or.inl rfl | exact Or.inr rfl | omega) ?_
                        refine zw_ifeq ⟨rfl, rfl⟩ rfl (fun q => absurd q (by decide)) (fun _ => ?_)
                        refine zw_aload ⟨rfl, rfl⟩ rfl ?_
                        refine zw_iload ⟨rfl, rfl⟩ rfl ?_
                        refine zw_ifne ⟨rfl, rfl⟩ rfl (fun q => absurd q (by decide)) (fun _ => ?_)
                        refine zw_iload ⟨rfl, rfl⟩ rfl ?_
                        refine zw_const ⟨rfl, rfl⟩ ?_
                        refine zw_iceq ⟨rfl, rfl⟩ rfl (fun c49 => ?_) (fun c49 => ?_)
                        · skip
                          refine zw_const ⟨rfl, rfl⟩ ?_
                          refine zw_putI ⟨rfl, rfl⟩ zc_208 (by decide) (fun _ => by first | exact Or.inl rfl | exact Or.inr rfl | omega) ?_
                          refine zw_const ⟨rfl, rfl⟩ ?_
                          refine zw_ret rfl ?_
                          have e1 : ymg w t = 5 := by unfold ymg; (repeat' split) <;> first | rfl | (exfalso; omega)
                          have e2 : ymb w t = 0 := by unfold ymb; (repeat' split) <;> first | rfl | (exfalso; omega)
                          rw [e1] at kk
                          exact kk _ (((yf4.rf).up).up) ((zup_eq _ _ _ _).trans e2.symm)
                        · skip
                          refine zw_iload ⟨rfl, rfl⟩ rfl ?_
                          refine zw_const ⟨rfl, rfl⟩ ?_
                          refine zw_iceq ⟨rfl, rfl⟩ rfl (fun c50 => ?_) (fun c50 => ?_)
                          · skip
                            refine zw_const ⟨rfl, rfl⟩ ?_
                            refine zw_putI ⟨rfl, rfl⟩ zc_208 (by decide) (fun _ => by first | exact Or.inl rfl | exact Or.inr rfl | omega) ?_
                            refine zw_const ⟨rfl, rfl⟩ ?_
                            refine zw_ret rfl ?_
                            have e1 : ymg w t = 5 := by unfold ymg; (repeat' split) <;> first | rfl | (exfalso; omega)
                            have e2 : ymb w t = 0 := by unfold ymb; (repeat' split) <;> first | rfl | (exfalso; omega)
                            rw [e1] at kk
                            exact kk _ (((yf4.rf).up).up) ((zup_eq _ _ _ _).trans e2.symm)
                          · skip
                            refine zw_const ⟨rfl, rfl⟩ ?_
                            refine zw_goto ⟨rfl, rfl⟩ rfl ?_
                            refine zw_putI ⟨rfl, rfl⟩ zc_208 (by decide) (fun _ => by first | exact Or.inl rfl | exact Or.inr rfl | omega) ?_
                            refine zw_const ⟨rfl, rfl⟩ ?_
                            refine zw_ret rfl ?_
                            have e1 : ymg w t = 5 := by unfold ymg; (repeat' split) <;> first | rfl | (exfalso; omega)
                            have e2 : ymb w t = 1 := by unfold ymb; (repeat' split) <;> first | rfl | (exfalso; omega)
                            rw [e1] at kk
                            exact kk _ (((yf4.rf).up).up) ((zup_eq _ _ _ _).trans e2.symm)
                  · skip
                    refine zw_iload ⟨rfl, rfl⟩ rfl ?_
                    refine zw_ifeq ⟨rfl, rfl⟩ rfl (fun _ => ?_) (fun q => absurd (by decide) q)
                    refine zw_aload ⟨rfl, rfl⟩ rfl ?_
                    refine zw_iload ⟨rfl, rfl⟩ rfl ?_
                    refine zw_const ⟨rfl, rfl⟩ ?_
                    refine zw_iceq ⟨rfl, rfl⟩ rfl (fun c52 => ?_) (fun c52 => ?_)
                    · skip
                      refine zw_const ⟨rfl, rfl⟩ ?_
                      refine zw_putI ⟨rfl, rfl⟩ zc_208 (by decide) (fun _ => by first | exact Or.inl rfl | exact Or.inr rfl | omega) ?_
                      refine zw_const ⟨rfl, rfl⟩ ?_
                      refine zw_ret rfl ?_
                      have e1 : ymg w t = 10 := by unfold ymg; (repeat' split) <;> first | rfl | (exfalso; omega)
                      have e2 : ymb w t = 0 := by unfold ymb; (repeat' split) <;> first | rfl | (exfalso; omega)
                      rw [e1] at kk
                      exact kk _ (((yf4.rf).up).up) ((zup_eq _ _ _ _).trans e2.symm)
                    · skip
                      refine zw_const ⟨rfl, rfl⟩ ?_
                      refine zw_goto ⟨rfl, rfl⟩ rfl ?_
                      refine zw_putI ⟨rfl, rfl⟩ zc_208 (by decide) (fun _ => by first | exact Or.inl rfl | exact Or.inr rfl | omega) ?_
                      refine zw_const ⟨rfl, rfl⟩ ?_
                      refine zw_ret rfl ?_
                      have e1 : ymg w t = 10 := by unfold ymg; (repeat' split) <;> first | rfl | (exfalso; omega)
                      have e2 : ymb w t = 1 := by unfold ymb; (repeat' split) <;> first | rfl | (exfalso; omega)
                      rw [e1] at kk
                      exact kk _ (((yf4.rf).up).up) ((zup_eq _ _ _ _).trans e2.symm)
                · skip
                  refine zw_iload ⟨rfl, rfl⟩ rfl ?_
                  refine zw_const ⟨rfl, rfl⟩ ?_
                  refine zw_icne ⟨rfl, rfl⟩ rfl (fun c53 => ?_) (fun c53 => ?_)
                  · skip
                    refine zw_aload ⟨rfl, rfl⟩ rfl ?_
                    refine zw_iload ⟨rfl, rfl⟩ rfl ?_
                    refine zw_const ⟨rfl, rfl⟩ ?_
                    refine zw_iceq ⟨rfl, rfl⟩ rfl (fun c54 => ?_) (fun c54 => ?_)
                    · skip
                      refine zw_const ⟨rfl, rfl⟩ ?_
                      refine zw_putI ⟨rfl, rfl⟩ zc_208 (by decide) (fun _ => by first | exact Or.inl rfl | exact Or.inr rfl | omega) ?_
                      refine zw_aload ⟨rfl, rfl⟩ rfl ?_
                      refine zw_getIv (v := 0) ⟨rfl, rfl⟩ zc_208 (by decide) (zup_eq _ _ _ _) ?_
                      refine zw_ifeq ⟨rfl, rfl⟩ rfl (fun _ => ?_) (fun q => absurd (by decide) q)
                      refine zw_const ⟨rfl, rfl⟩ ?_
                      refine zw_ret rfl ?_
                      have e1 : ymg w t = 8 := by unfold ymg; (repeat' split) <;> first | rfl | (exfalso; omega)
                      have e2 : ymb w t = 0 := by unfold ymb; (repeat' split) <;> first | rfl | (exfalso; omega)
                      rw [e1] at kk
                      exact kk _ (((yf4.rf).up).up) ((zup_eq _ _ _ _).trans e2.symm)
                    · skip
                      refine zw_const ⟨rfl, rfl⟩ ?_
                      refine zw_goto ⟨rfl, rfl⟩ rfl ?_
                      refine zw_putI ⟨rfl, rfl⟩ zc_208 (by decide) (fun _ => by first | exact Or.inl rfl | exact Or.inr rfl | omega) ?_
                      refine zw_aload ⟨rfl, rfl⟩ rfl ?_
                      refine zw_getIv (v := 1) ⟨rfl, rfl⟩ zc_208 (by decide) (zup_eq _ _ _ _) ?_
                      refine zw_ifeq ⟨rfl, rfl⟩ rfl (fun q => absurd q (by decide)) (fun _ => ?_)
                      refine zw_const ⟨rfl, rfl⟩ ?_
                      refine zw_goto ⟨rfl, rfl⟩ rfl ?_
                      refine zw_ret rfl ?_
                      have e1 : ymg w t = 9 := by unfold ymg; (repeat' split) <;> first | rfl | (exfalso; omega)
                      have e2 : ymb w t = 1 := by unfold ymb; (repeat' split) <;> first | rfl | (exfalso; omega)
                      rw [e1] at kk
                      exact kk _ (((yf4.rf).up).up) ((zup_eq _ _ _ _).trans e2.symm)
                  · skip
                    refine zw_const ⟨rfl, rfl⟩ ?_
                    refine zw_ret rfl ?_
                    have e1 : ymg w t = 2 := by unfold ymg; (repeat' split) <;> first | rfl | (exfalso; omega)
                    have e2 : ymb w t = 0 := by unfold ymb; (repeat' split) <;> first | rfl | (exfalso; omega)
                    rw [e1] at kk
                    exact kk _ ((yf4.rf).up) ((zup_eq _ _ _ _).trans e2.symm)
              · skip
                refine zw_const ⟨rfl, rfl⟩ ?_
                refine zw_goto ⟨rfl, rfl⟩ rfl ?_
                refine zw_zret rfl (by first | exact Or.inl rfl | exact Or.inr rfl | omega) ?_
                refine zw_ifeq ⟨rfl, rfl⟩ rfl (fun q => absurd q (by decide)) (fun _ => ?_)
                refine zw_iload ⟨rfl, rfl⟩ rfl ?_
                refine zw_const ⟨rfl, rfl⟩ ?_
                refine zw_icne ⟨rfl, rfl⟩ rfl (fun c58 => ?_) (fun c58 => ?_)
                · skip
                  refine zw_iload ⟨rfl, rfl⟩ rfl ?_
                  refine zw_const ⟨rfl, rfl⟩ ?_
                  refine zw_icne ⟨rfl, rfl⟩ rfl (fun c59 => ?_) (fun c59 => ?_)
                  · skip
                    refine zw_const ⟨rfl, rfl⟩ ?_
                    refine zw_ret rfl ?_
                    have e1 : ymg w t = 0 := by unfold ymg; (repeat' split) <;> first | rfl | (exfalso; omega)
                    have e2 : ymb w t = 0 := by unfold ymb; (repeat' split) <;> first | rfl | (exfalso; omega)
                    rw [e1] at kk
                    exact kk _ ((yf4.rf).up) ((zup_eq _ _ _ _).trans e2.symm)
                  · skip
                    refine zw_const ⟨rfl, rfl⟩ ?_
                    refine zw_goto ⟨rfl, rfl⟩ rfl ?_
                    refine zw_ret rfl ?_
                    have e1 : ymg w t = 11 := by unfold ymg; (repeat' split) <;> first | rfl | (exfalso; omega)
                    have e2 : ymb w t = 0 := by unfold ymb; (repeat' split) <;> first | rfl | (exfalso; omega)
                    rw [e1] at kk
                    exact kk _ ((yf4.rf).up) ((zup_eq _ _ _ _).trans e2.symm)
                · skip
                  refine zw_const ⟨rfl, rfl⟩ ?_
                  refine zw_goto ⟨rfl, rfl⟩ rfl ?_
                  refine zw_ret rfl ?_
                  have e1 : ymg w t = 4 := by unfold ymg; (repeat' split) <;> first | rfl | (exfalso; omega)
                  have e2 : ymb w t = 0 := by unfold ymb; (repeat' split) <;> first | rfl | (exfalso; omega)
                  rw [e1] at kk
                  exact kk _ ((yf4.rf).up) ((zup_eq _ _ _ _).trans e2.symm)
          · skip
            refine zw_const ⟨rfl, rfl⟩ ?_
            refine zw_ret rfl ?_
            have e1 : ymg w t = 0 := by unfold ymg; (repeat' split) <;> first | rfl | (exfalso; omega)
            have e2 : ymb w t = 0 := by unfold ymb; (repeat' split) <;> first | rfl | (exfalso; omega)
            rw [e1] at kk
            exact kk _ ((yf4.rf).up) ((zup_eq _ _ _ _).trans e2.symm)
        · skip
          refine zw_const ⟨rfl, rfl⟩ ?_
          refine zw_ret rfl ?_
          have e1 : ymg w t = 7 := by unfold ymg; (repeat' split) <;> first | rfl | (exfalso; omega)
          have e2 : ymb w t = 0 := by unfold ymb; (repeat' split) <;> first | rfl | (exfalso; omega)
          rw [e1] at kk
          exact kk _ ((yf4.rf).up) ((zup_eq _ _ _ _).trans e2.symm)
      · skip
        refine zw_const ⟨rfl, rfl⟩ ?_
        refine zw_ret rfl ?_
        have e1 : ymg w t = 1 := by unfold ymg; (repeat' split) <;> first | rfl | (exfalso; omega)
        have e2 : ymb w t = 0 := by unfold ymb; (repeat' split) <;> first | rfl | (exfalso; omega)
        rw [e1] at kk
        exact kk _ ((yf4.rf).up) ((zup_eq _ _ _ _).trans e2.symm)
    · skip
      refine zw_const ⟨rfl, rfl⟩ ?_
      refine zw_goto ⟨rfl, rfl⟩ rfl ?_
      refine zw_istore_3 ⟨rfl, rfl⟩ ?_
      refine zw_iload ⟨rfl, rfl⟩ rfl ?_
      refine zw_const ⟨rfl, rfl⟩ ?_
      refine zw_icne ⟨rfl, rfl⟩ rfl (fun c60 => ?_) (fun c60 => ?_)
      · skip
        refine zw_iload ⟨rfl, rfl⟩ rfl ?_
        refine zw_const ⟨rfl, rfl⟩ ?_
        refine zw_icne ⟨rfl, rfl⟩ rfl (fun c61 => ?_) (fun c61 => ?_)
        · skip
          refine zw_iload ⟨rfl, rfl⟩ rfl ?_
          refine zw_ifne ⟨rfl, rfl⟩ rfl (fun c62 => ?_) (fun c62 => ?_)
          · skip
            refine zw_iload ⟨rfl, rfl⟩ rfl ?_
            refine zw_calls1 ⟨rfl, rfl⟩ rfl rfl ?_
            refine zw_iload ⟨rfl, rfl⟩ rfl ?_
            refine zw_const ⟨rfl, rfl⟩ ?_
            refine zw_iceq ⟨rfl, rfl⟩ rfl (fun c63 => ?_) (fun c63 => ?_)
            · skip
              refine zw_const ⟨rfl, rfl⟩ ?_
              refine zw_goto ⟨rfl, rfl⟩ rfl ?_
              refine zw_zret rfl (by first | exact Or.inl rfl | exact Or.inr rfl | omega) ?_
              refine zw_ifeq ⟨rfl, rfl⟩ rfl (fun q => absurd q (by decide)) (fun _ => ?_)
              refine zw_iload ⟨rfl, rfl⟩ rfl ?_
              refine zw_const ⟨rfl, rfl⟩ ?_
              refine zw_icne ⟨rfl, rfl⟩ rfl (fun c65 => ?_) (fun c65 => ?_)
              · skip
                refine zw_iload ⟨rfl, rfl⟩ rfl ?_
                refine zw_const ⟨rfl, rfl⟩ ?_
                refine zw_icne ⟨rfl, rfl⟩ rfl (fun c66 => ?_) (fun c66 => ?_)
                · skip
                  refine zw_const ⟨rfl, rfl⟩ ?_
                  refine zw_ret rfl ?_
                  have e1 : ymg w t = 0 := by unfold ymg; (repeat' split) <;> first | rfl | (exfalso; omega)
                  have e2 : ymb w t = 0 := by unfold ymb; (repeat' split) <;> first | rfl | (exfalso; omega)
                  rw [e1] at kk
                  exact kk _ ((yf4.rf).up) ((zup_eq _ _ _ _).trans e2.symm)
                · skip
                  refine zw_const ⟨rfl, rfl⟩ ?_
                  refine zw_goto ⟨rfl, rfl⟩ rfl ?_
                  refine zw_ret rfl ?_
                  have e1 : ymg w t = 11 := by unfold ymg; (repeat' split) <;> first | rfl | (exfalso; omega)
                  have e2 : ymb w t = 0 := by unfold ymb; (repeat' split) <;> first | rfl | (exfalso; omega)
                  rw [e1] at kk
                  exact kk _ ((yf4.rf).up) ((zup_eq _ _ _ _).trans e2.symm)
              · skip
                refine zw_const ⟨rfl, rfl⟩ ?_
                refine zw_goto ⟨rfl, rfl⟩ rfl ?_
                refine zw_ret rfl ?_
                have e1 : ymg w t = 4 := by unfold ymg; (repeat' split) <;> first | rfl | (exfalso; omega)
                have e2 : ymb w t = 0 := by unfold ymb; (repeat' split) <;> first | rfl | (exfalso; omega)
                rw [e1] at kk
                exact kk _ ((yf4.rf).up) ((zup_eq _ _ _ _).trans e2.symm)
            · skip
              refine zw_iload ⟨rfl, rfl⟩ rfl ?_
              refine zw_const ⟨rfl, rfl⟩ ?_
              refine zw_icne ⟨rfl, rfl⟩ rfl (fun c67 => ?_) (fun c67 => ?_)
              · skip
                refine zw_const ⟨rfl, rfl⟩ ?_
                refine zw_zret rfl (by first | exact Or.inl rfl | exact Or.inr rfl | omega) ?_
                refine zw_ifeq ⟨rfl, rfl⟩ rfl (fun _ => ?_) (fun q => absurd (by decide) q)
                refine zw_iload ⟨rfl, rfl⟩ rfl ?_
                refine zw_const ⟨rfl, rfl⟩ ?_
                refine zw_icne ⟨rfl, rfl⟩ rfl (fun c69 => ?_) (fun c69 => ?_)
                · skip
                  refine zw_iload ⟨rfl, rfl⟩ rfl ?_
                  refine zw_const ⟨rfl, rfl⟩ ?_
                  refine zw_icne ⟨rfl, rfl⟩ rfl (fun c70 => ?_) (fun c70 => ?_)
                  · skip
                    refine zw_iload ⟨rfl, rfl⟩ rfl ?_
                    refine zw_calls1 ⟨rfl, rfl⟩ rfl rfl ?_
                    refine zw_iload ⟨rfl, rfl⟩ rfl ?_
                    refine zw_i2l ⟨rfl, rfl⟩ ?_
                    refine zw_lconst ⟨rfl, rfl⟩ ?_
                    refine zw_lconst ⟨rfl, rfl⟩ ?_
                    refine zw_calLs3 ⟨rfl, rfl⟩ rfl rfl ?_
                    refine zw_lload ⟨rfl, rfl⟩ rfl ?_
                    refine zw_lload ⟨rfl, rfl⟩ rfl ?_
                    refine zw_lcmp ⟨rfl, rfl⟩ ?_
                    refine zw_iflt ⟨rfl, rfl⟩ rfl (fun c71 => ?_) (fun c71 => ?_)
                    · replace c71 := zlc_lt.mp c71
                      refine zw_const ⟨rfl, rfl⟩ ?_
                      refine zw_zret rfl (by first | exact Or.inl rfl | exact Or.inr rfl | omega) ?_
                      refine zw_zret rfl (by first | exact Or.inl rfl | exact Or.inr rfl | omega) ?_
                      refine zw_ifeq ⟨rfl, rfl⟩ rfl (fun _ => ?_) (fun q => absurd (by decide) q)
                      refine zw_aload ⟨rfl, rfl⟩ rfl ?_
                      refine zw_iload ⟨rfl, rfl⟩ rfl ?_
                      refine zw_ifne ⟨rfl, rfl⟩ rfl (fun c73 => ?_) (fun c73 => ?_)
                      · skip
                        refine zw_const ⟨rfl, rfl⟩ ?_
                        refine zw_putI ⟨rfl, rfl⟩ zc_208 (by decide) (fun _ => by first | exact Or.inl rfl | exact Or.inr rfl | omega) ?_
                        refine zw_const ⟨rfl, rfl⟩ ?_
                        refine zw_ret rfl ?_
                        have e1 : ymg w t = 6 := by unfold ymg; (repeat' split) <;> first | rfl | (exfalso; omega)
                        have e2 : ymb w t = 0 := by unfold ymb; (repeat' split) <;> first | rfl | (exfalso; omega)
                        rw [e1] at kk
                        exact kk _ (((yf4.rf).up).up) ((zup_eq _ _ _ _).trans e2.symm)
                      · skip
                        refine zw_const ⟨rfl, rfl⟩ ?_
                        refine zw_goto ⟨rfl, rfl⟩ rfl ?_
                        refine zw_putI ⟨rfl, rfl⟩ zc_208 (by decide) (fun _ => by first | exact Or.inl rfl | exact Or.inr rfl | omega) ?_
                        refine zw_const ⟨rfl, rfl⟩ ?_
                        refine zw_ret rfl ?_
                        have e1 : ymg w t = 6 := by unfold ymg; (repeat' split) <;> first | rfl | (exfalso; omega)
                        have e2 : ymb w t = 1 := by unfold ymb; (repeat' split) <;> first | rfl | (exfalso; omega)
                        rw [e1] at kk
                        exact kk _ (((yf4.rf).up).up) ((zup_eq _ _ _ _).trans e2.symm)
                    · replace c71 := (not_congr zlc_lt).mp c71
                      refine zw_lload ⟨rfl, rfl⟩ rfl ?_
                      refine zw_lload ⟨rfl, rfl⟩ rfl ?_
                      refine zw_lcmp ⟨rfl, rfl⟩ ?_
                      refine zw_ifgt ⟨rfl, rfl⟩ rfl (fun c74 => ?_) (fun c74 => ?_)
                      · replace c74 := zlc_gt.mp c74
                        refine zw_const ⟨rfl, rfl⟩ ?_
                        refine zw_zret rfl (by first | exact Or.inl rfl | exact Or.inr rfl | omega) ?_
                        refine zw_zret rfl (by first | exact Or.inl rfl | exact Or.inr rfl | omega) ?_
                        refine zw_ifeq ⟨rfl, rfl⟩ rfl (fun _ => ?_) (fun q => absurd (by decide) q)
                        refine zw_aload ⟨rfl, rfl⟩ rfl ?_
                        refine zw_iload ⟨rfl, rfl⟩ rfl ?_
                        refine zw_ifne ⟨rfl, rfl⟩ rfl (fun c76 => ?_) (fun c76 => ?_)
                        · skip
                          refine zw_const ⟨rfl, rfl⟩ ?_
                          refine zw_putI ⟨rfl, rfl⟩ zc_208 (by decide) (fun _ => by first | exact Or.inl rfl | exact Or.inr rfl | omega) ?_
                          refine zw_const ⟨rfl, rfl⟩ ?_
                          refine zw_ret rfl ?_
                          have e1 : ymg w t = 6 := by unfold ymg; (repeat' split) <;> first | rfl | (exfalso; omega)
                          have e2 : ymb w t = 0 := by unfold ymb; (repeat' split) <;> first | rfl | (exfalso; omega)
                          rw [e1] at kk
                          exact kk _ (((yf4.rf).up).up) ((zup_eq _ _ _ _).trans e2.symm)
                        · skip
                          refine zw_const ⟨rfl, rfl⟩ ?_
                          refine zw_goto ⟨rfl, rfl⟩ rfl ?_
                          refine zw_putI ⟨rfl, rfl⟩ zc_208 (by decide) (fun _ => by first | exact Or.inl rfl | exact Or.inr rfl | omega) ?_
                          refine zw_const ⟨rfl, rfl⟩ ?_
                          refine zw_ret rfl ?_
                          have e1 : ymg w t = 6 := by unfold ymg; (repeat' split) <;> first | rfl | (exfalso; omega)
                          have e2 : ymb w t = 1 := by unfold ymb; (repeat' split) <;> first | rfl | (exfalso; omega)
                          rw [e1] at kk
                          exact kk _ (((yf4.rf).up).up) ((zup_eq _ _ _ _).trans e2.symm)
                      · replace c74 := (not_congr zlc_gt).mp c74
                        refine zw_const ⟨rfl, rfl⟩ ?_
                        refine zw_goto ⟨rfl, rfl⟩ rfl ?_
                        refine zw_zret rfl (by first | exact Or.inl rfl | exact Or.inr rfl | omega) ?_
                        refine zw_zret rfl (by first | exact Or.inl rfl | exact Or.inr rfl | omega) ?_
                        refine zw_ifeq ⟨rfl, rfl⟩ rfl (fun q => absurd q (by decide)) (fun _ => ?_)
                        refine zw_aload ⟨rfl, rfl⟩ rfl ?_
                        refine zw_iload ⟨rfl, rfl⟩ rfl ?_
                        refine zw_ifne ⟨rfl, rfl⟩ rfl (fun _ => ?_) (fun q => absurd (by decide) q)
                        refine zw_const ⟨rfl, rfl⟩ ?_
                        refine zw_putI ⟨rfl, rfl⟩ zc_208 (by decide) (fun _ => by first | exact Or.inl rfl | exact Or.inr rfl | omega) ?_
                        refine zw_const ⟨rfl, rfl⟩ ?_
                        refine zw_ret rfl ?_
                        have e1 : ymg w t = 5 := by unfold ymg; (repeat' split) <;> first | rfl | (exfalso; omega)
                        have e2 : ymb w t = 0 := by unfold ymb; (repeat' split) <;> first | rfl | (exfalso; omega)
                        rw [e1] at kk
                        exact kk _ (((yf4.rf).up).up) ((zup_eq _ _ _ _).trans e2.symm)
                  · skip
                    refine zw_iload ⟨rfl, rfl⟩ rfl ?_
                    refine zw_ifeq ⟨rfl, rfl⟩ rfl (fun q => absurd q (by decide)) (fun _ => ?_)
                    refine zw_const ⟨rfl, rfl⟩ ?_
                    refine zw_ret rfl ?_
                    have e1 : ymg w t = 3 := by unfold ymg; (repeat' split) <;> first | rfl | (exfalso; omega)
                    have e2 : ymb w t = 0 := by unfold ymb; (repeat' split) <;> first | rfl | (exfalso; omega)
                    rw [e1] at kk
                    exact kk _ ((yf4.rf).up) ((zup_eq _ _ _ _).trans e2.symm)
                · skip
                  refine zw_iload ⟨rfl, rfl⟩ rfl ?_
                  refine zw_const ⟨rfl, rfl⟩ ?_
                  refine zw_icne ⟨rfl, rfl⟩ rfl (fun c80 => ?_) (fun c80 => ?_)
                  · skip
                    refine zw_aload ⟨rfl, rfl⟩ rfl ?_
                    refine zw_iload ⟨rfl, rfl⟩ rfl ?_
                    refine zw_const ⟨rfl, rfl⟩ ?_
                    refine zw_iceq ⟨rfl, rfl⟩ rfl (fun c81 => ?_) (fun c81 => ?_)
                    · skip
                      refine zw_const ⟨rfl, rfl⟩ ?_
                      refine zw_putI ⟨rfl, rfl⟩ zc_208 (by decide) (fun _ => by first | exact Or.inl rfl | exact Or.inr rfl | omega) ?_
                      refine zw_aload ⟨rfl, rfl⟩ rfl ?_
                      refine zw_getIv (v := 0) ⟨rfl, rfl⟩ zc_208 (by decide) (zup_eq _ _ _ _) ?_
                      refine zw_ifeq ⟨rfl, rfl⟩ rfl (fun _ => ?_) (fun q => absurd (by decide) q)
                      refine zw_const ⟨rfl, rfl⟩ ?_
                      refine zw_ret rfl ?_
                      have e1 : ymg w t = 8 := by unfold ymg; (repeat' split) <;> first | rfl | (exfalso; omega)
                      have e2 : ymb w t = 0 := by unfold ymb; (repeat' split) <;> first | rfl | (exfalso; omega)
                      rw [e1] at kk
                      exact kk _ (((yf4.rf).up).up) ((zup_eq _ _ _ _).trans e2.symm)
                    · skip
                      refine zw_const ⟨rfl, rfl⟩ ?_
                      refine zw_goto ⟨rfl, rfl⟩ rfl ?_
                      refine zw_putI ⟨rfl, rfl⟩ zc_208 (by decide) (fun _ => by first | exact Or.inl rfl | exact Or.inr rfl | omega) ?_
                      refine zw_aload ⟨rfl, rfl⟩ rfl ?_
                      refine zw_getIv (v := 1) ⟨rfl, rfl⟩ zc_208 (by decide) (zup_eq _ _ _ _) ?_
                      refine zw_ifeq ⟨rfl, rfl⟩ rfl (fun q => absurd q (by decide)) (fun _ => ?_)
                      refine zw_const ⟨rfl, rfl⟩ ?_
                      refine zw_goto ⟨rfl, rfl⟩ rfl ?_
                      refine zw_ret rfl ?_
                      have e1 : ymg w t = 9 := by unfold ymg; (repeat' split) <;> first | rfl | (exfalso; omega)
                      have e2 : ymb w t = 1 := by unfold ymb; (repeat' split) <;> first | rfl | (exfalso; omega)
                      rw [e1] at kk
                      exact kk _ (((yf4.rf).up).up) ((zup_eq _ _ _ _).trans e2.symm)
                  · skip
                    refine zw_const ⟨rfl, rfl⟩ ?_
                    refine zw_ret rfl ?_
                    have e1 : ymg w t = 2 := by unfold ymg; (repeat' split) <;> first | rfl | (exfalso; omega)
                    have e2 : ymb w t = 0 := by unfold ymb; (repeat' split) <;> first | rfl | (exfalso; omega)
                    rw [e1] at kk
                    exact kk _ ((yf4.rf).up) ((zup_eq _ _ _ _).trans e2.symm)
              · skip
                refine zw_const ⟨rfl, rfl⟩ ?_
                refine zw_goto ⟨rfl, rfl⟩ rfl ?_
                refine zw_zret rfl (by first | exact Or.inl rfl | exact Or.inr rfl | omega) ?_
                refine zw_ifeq ⟨rfl, rfl⟩ rfl (fun q => absurd q (by decide)) (fun _ => ?_)
                refine zw_iload ⟨rfl, rfl⟩ rfl ?_
                refine zw_const ⟨rfl, rfl⟩ ?_
                refine zw_icne ⟨rfl, rfl⟩ rfl (fun c85 => ?_) (fun c85 => ?_)
                · skip
                  refine zw_iload ⟨rfl, rfl⟩ rfl ?_
                  refine zw_const ⟨rfl, rfl⟩ ?_
                  refine zw_icne ⟨rfl, rfl⟩ rfl (fun c86 => ?_) (fun c86 => ?_)
                  · skip
                    refine zw_const ⟨rfl, rfl⟩ ?_
                    refine zw_ret rfl ?_
                    have e1 : ymg w t = 0 := by unfold ymg; (repeat' split) <;> first | rfl | (exfalso; omega)
                    have e2 : ymb w t = 0 := by unfold ymb; (repeat' split) <;> first | rfl | (exfalso; omega)
                    rw [e1] at kk
                    exact kk _ ((yf4.rf).up) ((zup_eq _ _ _ _).trans e2.symm)
                  · skip
                    refine zw_const ⟨rfl, rfl⟩ ?_
                    refine zw_goto ⟨rfl, rfl⟩ rfl ?_
                    refine zw_ret rfl ?_
                    have e1 : ymg w t = 11 := by unfold ymg; (repeat' split) <;> first | rfl | (exfalso; omega)
                    have e2 : ymb w t = 0 := by unfold ymb; (repeat' split) <;> first | rfl | (exfalso; omega)
                    rw [e1] at kk
                    exact kk _ ((yf4.rf).up) ((zup_eq _ _ _ _).trans e2.symm)
                · skip
                  refine zw_const ⟨rfl, rfl⟩ ?_
                  refine zw_goto ⟨rfl, rfl⟩ rfl ?_
                  refine zw_ret rfl ?_
                  have e1 : ymg w t = 4 := by unfold ymg; (repeat' split) <;> first | rfl | (exfalso; omega)
                  have e2 : ymb w t = 0 := by unfold ymb; (repeat' split) <;> first | rfl | (exfalso; omega)
                  rw [e1] at kk
                  exact kk _ ((yf4.rf).up) ((zup_eq _ _ _ _).trans e2.symm)
          · skip
            refine zw_const ⟨rfl, rfl⟩ ?_
            refine zw_ret rfl ?_
            have e1 : ymg w t = 0 := by unfold ymg; (repeat' split) <;> first | rfl | (exfalso; omega)
            have e2 : ymb w t = 0 := by unfold ymb; (repeat' split) <;> first | rfl | (exfalso; omega)
            rw [e1] at kk
            exact kk _ ((yf4.rf).up) ((zup_eq _ _ _ _).trans e2.symm)
        · skip
          refine zw_const ⟨rfl, rfl⟩ ?_
          refine zw_ret rfl ?_
          have e1 : ymg w t = 7 := by unfold ymg; (repeat' split) <;> first | rfl | (exfalso; omega)
          have e2 : ymb w t = 0 := by unfold ymb; (repeat' split) <;> first | rfl | (exfalso; omega)
          rw [e1] at kk
          exact kk _ ((yf4.rf).up) ((zup_eq _ _ _ _).trans e2.symm)
      · skip
        refine zw_const ⟨rfl, rfl⟩ ?_
        refine zw_ret rfl ?_
        have e1 : ymg w t = 1 := by unfold ymg; (repeat' split) <;> first | rfl | (exfalso; omega)
        have e2 : ymb w t = 0 := by unfold ymb; (repeat' split) <;> first | rfl | (exfalso; omega)
        rw [e1] at kk
        exact kk _ ((yf4.rf).up) ((zup_eq _ _ _ _).trans e2.symm)

theorem m_MbrokenWith_l {a t : Int} {M : zM} {Q : zV → zM → Prop} {σ : yS} (hV : yVal σ) (hM : yMo M σ) (ht : 0 ≤ t ∧ t ≤ 13) (kk : ∀ P : zM, yf4 M P → Q (0, ybw (yK σ) (σ 0) a t) P) : ∀ (f0 : Nat) (w m p : Int) (P : zM), (0 ≤ p ∧ p ≤ σ 0 + 1) → (if p ≤ σ 0 then ywy w = (ybs (yK σ) a t p.toNat).1 ∧ m = (ybs (yK σ) a t p.toNat).2 ∧ 0 ≤ w ∧ w ≤ 11 else m = ybw (yK σ) (σ 0) a t) → (yf4 M P) → (σ 0 + 1 - p).toNat < f0 → zWp kM_brokenWith 6 [(1, 208), (0, a), (0, t), (0, w), (0, m), (0, p)] [] P Q := by
  intro f0
  induction f0 with
  | zero => intro w m p P i1 i2 iF hf0; exact absurd hf0 (Nat.not_lt_zero _)
  | succ f0 ih =>
    intro w m p P i1 i2 iF hf0
    have hn := hV.1
    refine zw_iload ⟨rfl, rfl⟩ rfl ?_
    refine zw_aload ⟨rfl, rfl⟩ rfl ?_
    refine zw_callv1 ⟨rfl, rfl⟩ rfl zc_208 rfl ?_
    refine m_Mmany hV (hM.cg (iF.1 209 (by decide))) ?_
    refine zw_icgt ⟨rfl, rfl⟩ rfl (fun c1 => ?_) (fun c1 => ?_)
    · skip
      refine zw_iload ⟨rfl, rfl⟩ rfl ?_
      refine zw_ret rfl ?_
      rw [if_neg (by omega)] at i2
      rw [← i2] at kk
      exact kk _ iF
    · skip
      have hwr : 0 ≤ w ∧ w ≤ 11 := by rw [if_pos (by omega)] at i2; exact i2.2.2
      have hmr : 0 ≤ m ∧ m ≤ 2 * p := by
        have hr := ybs_rng (yK σ) a t p.toNat
        rw [if_pos (by omega)] at i2
        omega
      refine zw_iload ⟨rfl, rfl⟩ rfl ?_
      refine zw_iload ⟨rfl, rfl⟩ rfl ?_
      refine zw_icne ⟨rfl, rfl⟩ rfl (fun c2 => ?_) (fun c2 => ?_)
      · skip
        refine zw_iload ⟨rfl, rfl⟩ rfl ?_
        refine zw_aload ⟨rfl, rfl⟩ rfl ?_
        refine zw_callv1 ⟨rfl, rfl⟩ rfl zc_208 rfl ?_
        refine m_Mmany hV (hM.cg (iF.1 209 (by decide))) ?_
        refine zw_icne ⟨rfl, rfl⟩ rfl (fun c3 => ?_) (fun c3 => ?_)
        · skip
          refine zw_aload ⟨rfl, rfl⟩ rfl ?_
          refine zw_iload ⟨rfl, rfl⟩ rfl ?_
          refine zw_aload ⟨rfl, rfl⟩ rfl ?_
          refine zw_iload ⟨rfl, rfl⟩ rfl ?_
          refine zw_callv2 ⟨rfl, rfl⟩ rfl zc_208 rfl ?_
          refine m_MkindAt hV (hM.cg (iF.1 209 (by decide))) (by omega) ?_
          have hkp := (yKr_K hV).2.1 p (by omega) (by omega)
          refine zw_callv3 ⟨rfl, rfl⟩ rfl zc_208 rfl ?_
          have hws1 := ywy_s (w := w) (k := yK σ p) ⟨by omega, by omega⟩ (by omega)
          have hbb1 : 0 ≤ ymb w (yK σ p) ∧ ymb w (yK σ p) ≤ 1 := by rw [hws1.2.1]; exact ybr_rng _ _
          refine m_MgoesOn ⟨by omega, by omega⟩ (by omega) (fun N1 r1 b1 => ?_)
          have g1 : yf4 M N1 := iF.tr r1
          refine zw_istore_3 ⟨rfl, rfl⟩ ?_
          refine zw_iload ⟨rfl, rfl⟩ rfl ?_
          refine zw_aload ⟨rfl, rfl⟩ rfl ?_
          refine zw_getIv (v := ymb w (yK σ p)) ⟨rfl, rfl⟩ zc_208 (by decide) (b1) ?_
          refine zw_ifeq ⟨rfl, rfl⟩ rfl (fun c4 => ?_) (fun c4 => ?_)
          · skip
            refine zw_const ⟨rfl, rfl⟩ ?_
            refine zw_iadd ⟨rfl, rfl⟩ (by omega) ?_
            refine zw_istore_4 ⟨rfl, rfl⟩ ?_
            refine zw_iinc_5 ⟨rfl, rfl⟩ (by omega) ?_
            refine zw_goto ⟨rfl, rfl⟩ rfl ?_
            refine ih _ _ _ _ ⟨by omega, by omega⟩ ?_ g1 (by omega)
            have hbs := ybs_s (yK σ) a t i1.1
            have hr := ybs_rng (yK σ) a t p.toNat
            by_cases z : p + 1 ≤ σ 0
            · first
                | (exfalso; omega)
                | (rw [if_pos z, hbs]
                   rw [if_pos (by omega)] at i2
                   obtain ⟨y1, y2, y3⟩ := i2
                   first
                     | (rw [if_pos (by omega)]; exact ⟨by rw [hws2.1, hws1.1, y1], by dsimp only; rw [← y1, ← hws1.1, ← hws1.2.1, ← hws2.2.1]; omega, by omega⟩)
                     | (rw [if_neg (by omega)]; exact ⟨by rw [hws1.1, y1], by dsimp only; rw [← y1, ← hws1.2.1]; omega, by omega⟩))
            · first
                | (exfalso; omega)
                | (rw [if_neg z]
                   rw [if_pos (by omega)] at i2
                   obtain ⟨y1, y2, y3⟩ := i2
                   have ep : p = σ 0 := by omega
                   unfold ybw
                   first
                     | (rw [if_pos (by omega), ← ep, ← y1, ← hws1.2.1]; omega)
                     | (rw [if_neg (by omega), ← ep]; omega))
          · skip
            refine zw_const ⟨rfl, rfl⟩ ?_
            refine zw_goto ⟨rfl, rfl⟩ rfl ?_
            refine zw_iadd ⟨rfl, rfl⟩ (by omega) ?_
            refine zw_istore_4 ⟨rfl, rfl⟩ ?_
            refine zw_iinc_5 ⟨rfl, rfl⟩ (by omega) ?_
            refine zw_goto ⟨rfl, rfl⟩ rfl ?_
            refine ih _ _ _ _ ⟨by omega, by omega⟩ ?_ g1 (by omega)
            have hbs := ybs_s (yK σ) a t i1.1
            have hr := ybs_rng (yK σ) a t p.toNat
            by_cases z : p + 1 ≤ σ 0
            · first
                | (exfalso; omega)
                | (rw [if_pos z, hbs]
                   rw [if_pos (by omega)] at i2
                   obtain ⟨y1, y2, y3⟩ := i2
                   first
                     | (rw [if_pos (by omega)]; exact ⟨by rw [hws2.1, hws1.1, y1], by dsimp only; rw [← y1, ← hws1.1, ← hws1.2.1, ← hws2.2.1]; omega, by omega⟩)
                     | (rw [if_neg (by omega)]; exact ⟨by rw [hws1.1, y1], by dsimp only; rw [← y1, ← hws1.2.1]; omega, by omega⟩))
            · first
                | (exfalso; omega)
                | (rw [if_neg z]
                   rw [if_pos (by omega)] at i2
                   obtain ⟨y1, y2, y3⟩ := i2
                   have ep : p = σ 0 := by omega
                   unfold ybw
                   first
                     | (rw [if_pos (by omega), ← ep, ← y1, ← hws1.2.1]; omega)
                     | (rw [if_neg (by omega), ← ep]; omega))
        · skip
          refine zw_goto ⟨rfl, rfl⟩ rfl ?_
          refine zw_iinc_5 ⟨rfl, rfl⟩ (by omega) ?_
          refine zw_goto ⟨rfl, rfl⟩ rfl ?_
          refine ih _ _ _ _ ⟨by omega, by omega⟩ ?_ iF (by omega)
          have hbs := ybs_s (yK σ) a t i1.1
          have hr := ybs_rng (yK σ) a t p.toNat
          by_cases z : p + 1 ≤ σ 0
          · first
              | (exfalso; omega)
              | (rw [if_pos z, hbs]
                 rw [if_pos (by omega)] at i2
                 obtain ⟨y1, y2, y3⟩ := i2
                 first
                   | (rw [if_pos (by omega)]; exact ⟨by rw [hws2.1, hws1.1, y1], by dsimp only; rw [← y1, ← hws1.1, ← hws1.2.1, ← hws2.2.1]; omega, by omega⟩)
                   | (rw [if_neg (by omega)]; exact ⟨by rw [hws1.1, y1], by dsimp only; rw [← y1, ← hws1.2.1]; omega, by omega⟩))
          · first
              | (exfalso; omega)
              | (rw [if_neg z]
                 rw [if_pos (by omega)] at i2
                 obtain ⟨y1, y2, y3⟩ := i2
                 have ep : p = σ 0 := by omega
                 unfold ybw
                 first
                   | (rw [if_pos (by omega), ← ep, ← y1, ← hws1.2.1]; omega)
                   | (rw [if_neg (by omega), ← ep]; omega))
      · skip
        refine zw_aload ⟨rfl, rfl⟩ rfl ?_
        refine zw_iload ⟨rfl, rfl⟩ rfl ?_
        refine zw_iload ⟨rfl, rfl⟩ rfl ?_
        refine zw_callv3 ⟨rfl, rfl⟩ rfl zc_208 rfl ?_
        have hws1 := ywy_s (w := w) (k := t) ⟨by omega, by omega⟩ (by omega)
        have hbb1 : 0 ≤ ymb w t ∧ ymb w t ≤ 1 := by rw [hws1.2.1]; exact ybr_rng _ _
        refine m_MgoesOn ⟨by omega, by omega⟩ (by omega) (fun N1 r1 b1 => ?_)
        have g1 : yf4 M N1 := iF.tr r1
        refine zw_istore_3 ⟨rfl, rfl⟩ ?_
        refine zw_iload ⟨rfl, rfl⟩ rfl ?_
        refine zw_aload ⟨rfl, rfl⟩ rfl ?_
        refine zw_getIv (v := ymb w t) ⟨rfl, rfl⟩ zc_208 (by decide) (b1) ?_
        refine zw_ifeq ⟨rfl, rfl⟩ rfl (fun c5 => ?_) (fun c5 => ?_)
        · skip
          refine zw_const ⟨rfl, rfl⟩ ?_
          refine zw_iadd ⟨rfl, rfl⟩ (by omega) ?_
          refine zw_istore_4 ⟨rfl, rfl⟩ ?_
          refine zw_iload ⟨rfl, rfl⟩ rfl ?_
          refine zw_aload ⟨rfl, rfl⟩ rfl ?_
          refine zw_callv1 ⟨rfl, rfl⟩ rfl zc_208 rfl ?_
          refine m_Mmany hV (hM.cg (g1.1 209 (by decide))) ?_
          refine zw_icne ⟨rfl, rfl⟩ rfl (fun c6 => ?_) (fun c6 => ?_)
          · skip
            refine zw_aload ⟨rfl, rfl⟩ rfl ?_
            refine zw_iload ⟨rfl, rfl⟩ rfl ?_
            refine zw_aload ⟨rfl, rfl⟩ rfl ?_
            refine zw_iload ⟨rfl, rfl⟩ rfl ?_
            refine zw_callv2 ⟨rfl, rfl⟩ rfl zc_208 rfl ?_
            refine m_MkindAt hV (hM.cg (g1.1 209 (by decide))) (by omega) ?_
            have hkp := (yKr_K hV).2.1 p (by omega) (by omega)
            refine zw_callv3 ⟨rfl, rfl⟩ rfl zc_208 rfl ?_
            have hws2 := ywy_s (w := ymg w t) (k := yK σ p) ⟨by omega, by omega⟩ (by omega)
            have hbb2 : 0 ≤ ymb (ymg w t) (yK σ p) ∧ ymb (ymg w t) (yK σ p) ≤ 1 := by rw [hws2.2.1]; exact ybr_rng _ _
            refine m_MgoesOn ⟨by omega, by omega⟩ (by omega) (fun N2 r2 b2 => ?_)
            have g2 : yf4 M N2 := g1.tr r2
            refine zw_istore_3 ⟨rfl, rfl⟩ ?_
            refine zw_iload ⟨rfl, rfl⟩ rfl ?_
            refine zw_aload ⟨rfl, rfl⟩ rfl ?_
            refine zw_getIv (v := ymb (ymg w t) (yK σ p)) ⟨rfl, rfl⟩ zc_208 (by decide) (b2) ?_
            refine zw_ifeq ⟨rfl, rfl⟩ rfl (fun c7 => ?_) (fun c7 => ?_)
            · skip
              refine zw_const ⟨rfl, rfl⟩ ?_
              refine zw_iadd ⟨rfl, rfl⟩ (by omega) ?_
              refine zw_istore_4 ⟨rfl, rfl⟩ ?_
              refine zw_iinc_5 ⟨rfl, rfl⟩ (by omega) ?_
              refine zw_goto ⟨rfl, rfl⟩ rfl ?_
              refine ih _ _ _ _ ⟨by omega, by omega⟩ ?_ g2 (by omega)
              have hbs := ybs_s (yK σ) a t i1.1
              have hr := ybs_rng (yK σ) a t p.toNat
              by_cases z : p + 1 ≤ σ 0
              · first
                  | (exfalso; omega)
                  | (rw [if_pos z, hbs]
                     rw [if_pos (by omega)] at i2
                     obtain ⟨y1, y2, y3⟩ := i2
                     first
                       | (rw [if_pos (by omega)]; exact ⟨by rw [hws2.1, hws1.1, y1], by dsimp only; rw [← y1, ← hws1.1, ← hws1.2.1, ← hws2.2.1]; omega, by omega⟩)
                       | (rw [if_neg (by omega)]; exact ⟨by rw [hws1.1, y1], by dsimp only; rw [← y1, ← hws1.2.1]; omega, by omega⟩))
              · first
                  | (exfalso; omega)
                  | (rw [if_neg z]
                     rw [if_pos (by omega)] at i2
                     obtain ⟨y1, y2, y3⟩ := i2
                     have ep : p = σ 0 := by omega
                     unfold ybw
                     first
                       | (rw [if_pos (by omega), ← ep, ← y1, ← hws1.2.1]; omega)
                       | (rw [if_neg (by omega), ← ep]; omega))
            · skip
              refine zw_const ⟨rfl, rfl⟩ ?_
              refine zw_goto ⟨rfl, rfl⟩ rfl ?_
              refine zw_iadd ⟨rfl, rfl⟩ (by omega) ?_
              refine zw_istore_4 ⟨rfl, rfl⟩ ?_
              refine zw_iinc_5 ⟨rfl, rfl⟩ (by omega) ?_
              refine zw_goto ⟨rfl, rfl⟩ rfl ?_
              refine ih _ _ _ _ ⟨by omega, by omega⟩ ?_ g2 (by omega)
              have hbs := ybs_s (yK σ) a t i1.1
              have hr := ybs_rng (yK σ) a t p.toNat
              by_cases z : p + 1 ≤ σ 0
              · first
                  | (exfalso; omega)
                  | (rw [if_pos z, hbs]
                     rw [if_pos (by omega)] at i2
                     obtain ⟨y1, y2, y3⟩ := i2
                     first
                       | (rw [if_pos (by omega)]; exact ⟨by rw [hws2.1, hws1.1, y1], by dsimp only; rw [← y1, ← hws1.1, ← hws1.2.1, ← hws2.2.1]; omega, by omega⟩)
                       | (rw [if_neg (by omega)]; exact ⟨by rw [hws1.1, y1], by dsimp only; rw [← y1, ← hws1.2.1]; omega, by omega⟩))
              · first
                  | (exfalso; omega)
                  | (rw [if_neg z]
                     rw [if_pos (by omega)] at i2
                     obtain ⟨y1, y2, y3⟩ := i2
                     have ep : p = σ 0 := by omega
                     unfold ybw
                     first
                       | (rw [if_pos (by omega), ← ep, ← y1, ← hws1.2.1]; omega)
                       | (rw [if_neg (by omega), ← ep]; omega))
          · skip
            refine zw_goto ⟨rfl, rfl⟩ rfl ?_
            refine zw_iinc_5 ⟨rfl, rfl⟩ (by omega) ?_
            refine zw_goto ⟨rfl, rfl⟩ rfl ?_
            refine ih _ _ _ _ ⟨by omega, by omega⟩ ?_ g1 (by omega)
            have hbs := ybs_s (yK σ) a t i1.1
            have hr := ybs_rng (yK σ) a t p.toNat
            by_cases z : p + 1 ≤ σ 0
            · first
                | (exfalso; omega)
                | (rw [if_pos z, hbs]
                   rw [if_pos (by omega)] at i2
                   obtain ⟨y1, y2, y3⟩ := i2
                   first
                     | (rw [if_pos (by omega)]; exact ⟨by rw [hws2.1, hws1.1, y1], by dsimp only; rw [← y1, ← hws1.1, ← hws1.2.1, ← hws2.2.1]; omega, by omega⟩)
                     | (rw [if_neg (by omega)]; exact ⟨by rw [hws1.1, y1], by dsimp only; rw [← y1, ← hws1.2.1]; omega, by omega⟩))
            · first
                | (exfalso; omega)
                | (rw [if_neg z]
                   rw [if_pos (by omega)] at i2
                   obtain ⟨y1, y2, y3⟩ := i2
                   have ep : p = σ 0 := by omega
                   unfold ybw
                   first
                     | (rw [if_pos (by omega), ← ep, ← y1, ← hws1.2.1]; omega)
                     | (rw [if_neg (by omega), ← ep]; omega))
        · skip
          refine zw_const ⟨rfl, rfl⟩ ?_
          refine zw_goto ⟨rfl, rfl⟩ rfl ?_
          refine zw_iadd ⟨rfl, rfl⟩ (by omega) ?_
          refine zw_istore_4 ⟨rfl, rfl⟩ ?_
          refine zw_iload ⟨rfl, rfl⟩ rfl ?_
          refine zw_aload ⟨rfl, rfl⟩ rfl ?_
          refine zw_callv1 ⟨rfl, rfl⟩ rfl zc_208 rfl ?_
          refine m_Mmany hV (hM.cg (g1.1 209 (by decide))) ?_
          refine zw_icne ⟨rfl, rfl⟩ rfl (fun c8 => ?_) (fun c8 => ?_)
          · skip
            refine zw_aload ⟨rfl, rfl⟩ rfl ?_
            refine zw_iload ⟨rfl, rfl⟩ rfl ?_
            refine zw_aload ⟨rfl, rfl⟩ rfl ?_
            refine zw_iload ⟨rfl, rfl⟩ rfl ?_
            refine zw_callv2 ⟨rfl, rfl⟩ rfl zc_208 rfl ?_
            refine m_MkindAt hV (hM.cg (g1.1 209 (by decide))) (by omega) ?_
            have hkp := (yKr_K hV).2.1 p (by omega) (by omega)
            refine zw_callv3 ⟨rfl, rfl⟩ rfl zc_208 rfl ?_
            have hws2 := ywy_s (w := ymg w t) (k := yK σ p) ⟨by omega, by omega⟩ (by omega)
            have hbb2 : 0 ≤ ymb (ymg w t) (yK σ p) ∧ ymb (ymg w t) (yK σ p) ≤ 1 := by rw [hws2.2.1]; exact ybr_rng _ _
            refine m_MgoesOn ⟨by omega, by omega⟩ (by omega) (fun N2 r2 b2 => ?_)
            have g2 : yf4 M N2 := g1.tr r2
            refine zw_istore_3 ⟨rfl, rfl⟩ ?_
            refine zw_iload ⟨rfl, rfl⟩ rfl ?_
            refine zw_aload ⟨rfl, rfl⟩ rfl ?_
            refine zw_getIv (v := ymb (ymg w t) (yK σ p)) ⟨rfl, rfl⟩ zc_208 (by decide) (b2) ?_
            refine zw_ifeq ⟨rfl, rfl⟩ rfl (fun c9 => ?_) (fun c9 => ?_)
            · skip
              refine zw_const ⟨rfl, rfl⟩ ?_
              refine zw_iadd ⟨rfl, rfl⟩ (by omega) ?_
              refine zw_istore_4 ⟨rfl, rfl⟩ ?_
              refine zw_iinc_5 ⟨rfl, rfl⟩ (by omega) ?_
              refine zw_goto ⟨rfl, rfl⟩ rfl ?_
              refine ih _ _ _ _ ⟨by omega, by omega⟩ ?_ g2 (by omega)
              have hbs := ybs_s (yK σ) a t i1.1
              have hr := ybs_rng (yK σ) a t p.toNat
              by_cases z : p + 1 ≤ σ 0
              · first
                  | (exfalso; omega)
                  | (rw [if_pos z, hbs]
                     rw [if_pos (by omega)] at i2
                     obtain ⟨y1, y2, y3⟩ := i2
                     first
                       | (rw [if_pos (by omega)]; exact ⟨by rw [hws2.1, hws1.1, y1], by dsimp only; rw [← y1, ← hws1.1, ← hws1.2.1, ← hws2.2.1]; omega, by omega⟩)
                       | (rw [if_neg (by omega)]; exact ⟨by rw [hws1.1, y1], by dsimp only; rw [← y1, ← hws1.2.1]; omega, by omega⟩))
              · first
                  | (exfalso; omega)
                  | (rw [if_neg z]
                     rw [if_pos (by omega)] at i2
                     obtain ⟨y1, y2, y3⟩ := i2
                     have ep : p = σ 0 := by omega
                     unfold ybw
                     first
                       | (rw [if_pos (by omega), ← ep, ← y1, ← hws1.2.1]; omega)
                       | (rw [if_neg (by omega), ← ep]; omega))
            · skip
              refine zw_const ⟨rfl, rfl⟩ ?_
              refine zw_goto ⟨rfl, rfl⟩ rfl ?_
              refine zw_iadd ⟨rfl, rfl⟩ (by omega) ?_
              refine zw_istore_4 ⟨rfl, rfl⟩ ?_
              refine zw_iinc_5 ⟨rfl, rfl⟩ (by omega) ?_
              refine zw_goto ⟨rfl, rfl⟩ rfl ?_
              refine ih _ _ _ _ ⟨by omega, by omega⟩ ?_ g2 (by omega)
              have hbs := ybs_s (yK σ) a t i1.1
              have hr := ybs_rng (yK σ) a t p.toNat
              by_cases z : p + 1 ≤ σ 0
              · first
                  | (exfalso; omega)
                  | (rw [if_pos z, hbs]
                     rw [if_pos (by omega)] at i2
                     obtain ⟨y1, y2, y3⟩ := i2
                     first
                       | (rw [if_pos (by omega)]; exact ⟨by rw [hws2.1, hws1.1, y1], by dsimp only; rw [← y1, ← hws1.1, ← hws1.2.1, ← hws2.2.1]; omega, by omega⟩)
                       | (rw [if_neg (by omega)]; exact ⟨by rw [hws1.1, y1], by dsimp only; rw [← y1, ← hws1.2.1]; omega, by omega⟩))
              · first
                  | (exfalso; omega)
                  | (rw [if_neg z]
                     rw [if_pos (by omega)] at i2
                     obtain ⟨y1, y2, y3⟩ := i2
                     have ep : p = σ 0 := by omega
                     unfold ybw
                     first
                       | (rw [if_pos (by omega), ← ep, ← y1, ← hws1.2.1]; omega)
                       | (rw [if_neg (by omega), ← ep]; omega))
          · skip
            refine zw_goto ⟨rfl, rfl⟩ rfl ?_
            refine zw_iinc_5 ⟨rfl, rfl⟩ (by omega) ?_
            refine zw_goto ⟨rfl, rfl⟩ rfl ?_
            refine ih _ _ _ _ ⟨by omega, by omega⟩ ?_ g1 (by omega)
            have hbs := ybs_s (yK σ) a t i1.1
            have hr := ybs_rng (yK σ) a t p.toNat
            by_cases z : p + 1 ≤ σ 0
            · first
                | (exfalso; omega)
                | (rw [if_pos z, hbs]
                   rw [if_pos (by omega)] at i2
                   obtain ⟨y1, y2, y3⟩ := i2
                   first
                     | (rw [if_pos (by omega)]; exact ⟨by rw [hws2.1, hws1.1, y1], by dsimp only; rw [← y1, ← hws1.1, ← hws1.2.1, ← hws2.2.1]; omega, by omega⟩)
                     | (rw [if_neg (by omega)]; exact ⟨by rw [hws1.1, y1], by dsimp only; rw [← y1, ← hws1.2.1]; omega, by omega⟩))
            · first
                | (exfalso; omega)
                | (rw [if_neg z]
                   rw [if_pos (by omega)] at i2
                   obtain ⟨y1, y2, y3⟩ := i2
                   have ep : p = σ 0 := by omega
                   unfold ybw
                   first
                     | (rw [if_pos (by omega), ← ep, ← y1, ← hws1.2.1]; omega)
                     | (rw [if_neg (by omega), ← ep]; omega))

theorem m_MbrokenWith {a t : Int} {M : zM} {Q : zV → zM → Prop} {σ : yS} (hV : yVal σ) (hM : yMo M σ) (ht : 0 ≤ t ∧ t ≤ 13) (kk : ∀ P : zM, yf4 M P → Q (0, ybw (yK σ) (σ 0) a t) P) : zWp kM_brokenWith 0 [(1, 208), (0, a), (0, t), (3, 0), (3, 0), (3, 0)] [] M Q := by
  have hn := hV.1
  refine zw_const ⟨rfl, rfl⟩ ?_
  refine zw_istore_3 ⟨rfl, rfl⟩ ?_
  refine zw_const ⟨rfl, rfl⟩ ?_
  refine zw_istore_4 ⟨rfl, rfl⟩ ?_
  refine zw_const ⟨rfl, rfl⟩ ?_
  refine zw_istore_5 ⟨rfl, rfl⟩ ?_
  exact m_MbrokenWith_l hV hM ht kk _ _ _ _ _ ⟨Int.le_refl _, by omega⟩ (by rw [if_pos hn.1]; exact ⟨rfl, rfl, by decide, by decide⟩) yf4.rf (Nat.lt_succ_self _)

theorem d_may_l {a : Int} {M : zM} {Q : zV → zM → Prop} {σ : yS} (hV : yVal σ) (hM : yMo M σ) (kk : ∀ P : zM, yf4 M P → Q (0, ymy σ a 26) P) : ∀ (f0 : Nat) (x l : Int) (P : zM), (0 ≤ l ∧ l ≤ 26) → (x = ymy σ a l) → (yf4 M P) → (26 - l).toNat < f0 → zWp kM_may 22 [(1, 208), (0, a), (0, ybw (yK σ) (σ 0) (-1) 0), (0, x), (0, l)] [] P Q := by
  intro f0
  induction f0 with
  | zero => intro x l P i1 i2 iF hf0; exact absurd hf0 (Nat.not_lt_zero _)
  | succ f0 ih =>
    intro x l P i1 i2 iF hf0
    have hr := ymy_r σ a l i1.1 i1.2
    refine zw_iload ⟨rfl, rfl⟩ rfl ?_
    refine zw_const ⟨rfl, rfl⟩ ?_
    refine zw_icge ⟨rfl, rfl⟩ rfl (fun c1 => ?_) (fun c1 => ?_)
    · skip
      refine zw_iload ⟨rfl, rfl⟩ rfl ?_
      refine zw_ret rfl ?_
      have el : l = 26 := by omega
      rw [el] at i2
      rw [← i2] at kk
      exact kk _ iF
    · skip
      have hkl := (hV.2.2.1 l (by omega) (by omega)).1
      have h2p := y2p (l := l) (by omega)
      refine zw_iload ⟨rfl, rfl⟩ rfl ?_
      refine zw_aload ⟨rfl, rfl⟩ rfl ?_
      refine zw_iload ⟨rfl, rfl⟩ rfl ?_
      refine zw_aload ⟨rfl, rfl⟩ rfl ?_
      refine zw_iload ⟨rfl, rfl⟩ rfl ?_
      refine zw_callv2 ⟨rfl, rfl⟩ rfl zc_208 rfl ?_
      refine m_MkindOf hV (hM.cg (iF.1 209 (by decide))) ⟨by omega, by omega⟩ ?_
      refine zw_callv3 ⟨rfl, rfl⟩ rfl zc_208 rfl ?_
      refine m_MbrokenWith hV (hM.cg (iF.1 209 (by decide))) (by omega) (fun N1 r1 => ?_)
      have g1 := iF.tr r1
      refine zw_iload ⟨rfl, rfl⟩ rfl ?_
      refine zw_icgt ⟨rfl, rfl⟩ rfl (fun c2 => ?_) (fun c2 => ?_)
      · skip
        refine zw_const ⟨rfl, rfl⟩ ?_
        refine zw_ior ⟨rfl, rfl⟩ (by omega) ?_
        refine zw_istore_3 ⟨rfl, rfl⟩ ?_
        refine zw_iinc_4 ⟨rfl, rfl⟩ (by omega) ?_
        refine zw_goto ⟨rfl, rfl⟩ rfl ?_
        refine ih _ _ _ ⟨by omega, by omega⟩ ?_ g1 (by omega)
        rw [ymy_s σ a i1.1, ← i2]
        first | (rw [if_pos (by omega)]; done) | (rw [if_neg (by omega)]; done)
      · skip
        refine zw_const ⟨rfl, rfl⟩ ?_
        refine zw_iload ⟨rfl, rfl⟩ rfl ?_
        refine zw_ishl ⟨rfl, rfl⟩ (by omega) ?_
        refine zw_goto ⟨rfl, rfl⟩ rfl ?_
        refine zw_ior ⟨rfl, rfl⟩ (by omega) ?_
        refine zw_istore_3 ⟨rfl, rfl⟩ ?_
        refine zw_iinc_4 ⟨rfl, rfl⟩ (by omega) ?_
        refine zw_goto ⟨rfl, rfl⟩ rfl ?_
        refine ih _ _ _ ⟨by omega, by omega⟩ ?_ g1 (by omega)
        rw [ymy_s σ a i1.1, ← i2]
        first | (rw [if_pos (by omega)]; done) | (rw [if_neg (by omega)]; done)

theorem d_may {a : Int} {M : zM} {Q : zV → zM → Prop} {σ : yS} (hV : yVal σ) (hM : yMo M σ)  (k : ∀ N : zM, ymf M N → Q (0, ya_may σ a) N) : zWp kM_may 0 [(1, 208), (0, a), (3, 0), (3, 0), (3, 0)] [] M Q := by
  have hK := yKr_K hV
  have hn := hV.1
  have hci := yci_60 hK
  have eyL : (yTk σ (yci (yK σ) (σ 0))).1 = (yLast σ).1 := rfl
  have hgl := yLast_r hV
  refine zw_aload ⟨rfl, rfl⟩ rfl ?_
  refine zw_const ⟨rfl, rfl⟩ ?_
  refine zw_putI ⟨rfl, rfl⟩ zc_208 (by decide) (fun h => absurd h (by decide)) ?_
  refine zw_iload ⟨rfl, rfl⟩ rfl ?_
  refine zw_i2l ⟨rfl, rfl⟩ ?_
  refine zw_lconst ⟨rfl, rfl⟩ ?_
  refine zw_aload ⟨rfl, rfl⟩ rfl ?_
  refine zw_callv1 ⟨rfl, rfl⟩ rfl zc_208 rfl ?_
  refine m_Mmany hV (hM.cg (zup_row (by decide)))  ?_
  refine zw_i2l ⟨rfl, rfl⟩ ?_
  refine zw_calLs3 ⟨rfl, rfl⟩ rfl rfl ?_
  refine zw_lload ⟨rfl, rfl⟩ rfl ?_
  refine zw_lload ⟨rfl, rfl⟩ rfl ?_
  refine zw_lcmp ⟨rfl, rfl⟩ ?_
  refine zw_iflt ⟨rfl, rfl⟩ rfl (fun c1 => ?_) (fun c1 => ?_)
  · replace c1 := zlc_lt.mp c1
    refine zw_const ⟨rfl, rfl⟩ ?_
    refine zw_zret rfl (by first | exact Or.inl rfl | exact Or.inr rfl | omega) ?_
    refine zw_ifne ⟨rfl, rfl⟩ rfl (fun q => absurd q (by decide)) (fun _ => ?_)
    refine zw_const ⟨rfl, rfl⟩ ?_
    refine zw_ret rfl ?_
    rw [show ya_may σ a = -5 from if_neg (by omega)] at k
    exact k _ ymf_0
  · replace c1 := (not_congr zlc_lt).mp c1
    refine zw_lload ⟨rfl, rfl⟩ rfl ?_
    refine zw_lload ⟨rfl, rfl⟩ rfl ?_
    refine zw_lcmp ⟨rfl, rfl⟩ ?_
    refine zw_ifgt ⟨rfl, rfl⟩ rfl (fun c3 => ?_) (fun c3 => ?_)
    · replace c3 := zlc_gt.mp c3
      refine zw_const ⟨rfl, rfl⟩ ?_
      refine zw_zret rfl (by first | exact Or.inl rfl | exact Or.inr rfl | omega) ?_
      refine zw_ifne ⟨rfl, rfl⟩ rfl (fun q => absurd q (by decide)) (fun _ => ?_)
      refine zw_const ⟨rfl, rfl⟩ ?_
      refine zw_ret rfl ?_
      rw [show ya_may σ a = -5 from if_neg (by omega)] at k
      exact k _ ymf_0
    · replace c3 := (not_congr zlc_gt).mp c3
      refine zw_const ⟨rfl, rfl⟩ ?_
      refine zw_goto ⟨rfl, rfl⟩ rfl ?_
      refine zw_zret rfl (by first | exact Or.inl rfl | exact Or.inr rfl | omega) ?_
      refine zw_ifne ⟨rfl, rfl⟩ rfl (fun _ => ?_) (fun q => absurd (by decide) q)
      refine zw_aload ⟨rfl, rfl⟩ rfl ?_
      refine zw_const ⟨rfl, rfl⟩ ?_
      refine zw_const ⟨rfl, rfl⟩ ?_
      refine zw_callv3 ⟨rfl, rfl⟩ rfl zc_208 rfl ?_
      refine m_MbrokenWith hV (hM.cg (zup_row (by decide))) (by decide) (fun N1 r1 => ?_)
      have hf1 : ymf M N1 := ymf_0.tr r1.m
      have hM1 : yMo N1 σ := hM.cg (hf1.1 209 (Or.inl rfl))
      refine zw_istore_2 ⟨rfl, rfl⟩ ?_
      refine zw_const ⟨rfl, rfl⟩ ?_
      refine zw_istore_3 ⟨rfl, rfl⟩ ?_
      refine zw_const ⟨rfl, rfl⟩ ?_
      refine zw_istore_4 ⟨rfl, rfl⟩ ?_
      rw [show ya_may σ a = _ from if_pos ⟨by omega, by omega⟩] at k
      exact d_may_l hV hM1 (fun P p => k P (hf1.tr p.m)) _ _ _ _ ⟨Int.le_refl _, by decide⟩ (yfo_0 _ (Int.le_refl _) _).symm yf4.rf (Nat.lt_succ_self _)

def yf6 (M P : zM) : Prop := (∀ x, x ≠ 208 → x ≠ 239 → x ≠ 240 → P x = M x) ∧ ∀ j, j ≠ 43 → j ≠ 46 → P 208 j = M 208 j
theorem yf6.rf {M : zM} : yf6 M M := ⟨fun _ _ _ _ => rfl, fun _ _ _ => rfl⟩
theorem yf6.tr {M N P : zM} (h : yf6 M N) (g : yf6 N P) : yf6 M P := ⟨fun x a b c => (g.1 x a b c).trans (h.1 x a b c), fun j a b => (g.2 j a b).trans (h.2 j a b)⟩
theorem yf6.up {M P : zM} {i v : Int} (h : yf6 M P) : yf6 M (zup P 239 i v) := ⟨fun x a b c => (zup_row b).trans (h.1 x a b c), fun j a b => (zup_na (by decide)).trans (h.2 j a b)⟩
theorem yf6.u2 {M P : zM} {i v : Int} (h : yf6 M P) : yf6 M (zup P 240 i v) := ⟨fun x a b c => (zup_row c).trans (h.1 x a b c), fun j a b => (zup_na (by decide)).trans (h.2 j a b)⟩
theorem yf6.u3 {M P : zM} {v : Int} (h : yf6 M P) : yf6 M (zup P 208 46 v) := ⟨fun x a b c => (zup_row a).trans (h.1 x a b c), fun j a b => (zup_ni b).trans (h.2 j a b)⟩
theorem yf6.m {M P : zM} (h : yf6 M P) : ymf M P := ⟨fun x hx => h.1 x (by omega) (by omega) (by omega), fun j hj => h.2 j (by omega) (by omega)⟩
theorem yf4.s {M P : zM} (h : yf4 M P) : yf6 M P := ⟨fun x a b c => h.1 x a, fun j a b => h.2 j a⟩

theorem m_Mkeeps {p w : Int} {M : zM} {Q : zV → zM → Prop} {σ : yS} (hV : yVal σ) (hM : yMo M σ) (hp : 0 ≤ p ∧ p < σ 0) (hw : 0 ≤ w ∧ w ≤ 8) (hR : ∀ t, 0 ≤ t → t ≤ 8 → M 239 (9 * (p + 1) + t) = ymn (yK σ) (σ 0) (p + 1) (ywy t)) (kk : ∀ P : zM, yf4 M P → Q (0, if ybr (ywy w) (yK σ p) = 1 then 268435456 else ymn (yK σ) (σ 0) (p + 1) (ysb (ywy w) (yK σ p))) P) : zWp kM_keeps 0 [(1, 208), (0, p), (0, w), (3, 0)] [] M Q := by
  have hn := hV.1
  refine zw_aload ⟨rfl, rfl⟩ rfl ?_
  refine zw_iload ⟨rfl, rfl⟩ rfl ?_
  refine zw_aload ⟨rfl, rfl⟩ rfl ?_
  refine zw_iload ⟨rfl, rfl⟩ rfl ?_
  refine zw_callv2 ⟨rfl, rfl⟩ rfl zc_208 rfl ?_
  refine m_MkindAt hV hM (by omega) ?_
  have hkp := (yKr_K hV).2.1 p (by omega) (by omega)
  refine zw_callv3 ⟨rfl, rfl⟩ rfl zc_208 rfl ?_
  have hws := ywy_s (w := w) (k := yK σ p) ⟨by omega, by omega⟩ (by omega)
  have hbb1 : 0 ≤ ymb w (yK σ p) ∧ ymb w (yK σ p) ≤ 1 := by rw [hws.2.1]; exact ybr_rng _ _
  refine m_MgoesOn ⟨by omega, by omega⟩ (by omega) (fun N1 r1 b1 => ?_)
  refine zw_istore_3 ⟨rfl, rfl⟩ ?_
  refine zw_aload ⟨rfl, rfl⟩ rfl ?_
  refine zw_getIv (v := ymb w (yK σ p)) ⟨rfl, rfl⟩ zc_208 (by decide) (b1) ?_
  refine zw_ifeq ⟨rfl, rfl⟩ rfl (fun c1 => ?_) (fun c1 => ?_)
  · skip
    have hgr : ymg w (yK σ p) ≤ 8 := hws.2.2.2.1 (by omega) (by have := ybr_rng (ywy w) (yK σ p); omega)
    refine zw_aload ⟨rfl, rfl⟩ rfl ?_
    refine zw_getR 239 ⟨rfl, rfl⟩ zr_208_44 ?_
    refine zw_const ⟨rfl, rfl⟩ ?_
    refine zw_iload ⟨rfl, rfl⟩ rfl ?_
    refine zw_const ⟨rfl, rfl⟩ ?_
    refine zw_iadd ⟨rfl, rfl⟩ (by omega) ?_
    refine zw_imul ⟨rfl, rfl⟩ (by omega) ?_
    refine zw_iload ⟨rfl, rfl⟩ rfl ?_
    refine zw_iadd ⟨rfl, rfl⟩ (by omega) ?_
    refine zw_ialdv (v := ymn (yK σ) (σ 0) (p + 1) (ywy (ymg w (yK σ p)))) ⟨rfl, rfl⟩ za_239 (by omega) (((congrFun (r1.1 239 (by decide)) _).trans (hR _ (by omega) (hws.2.2.2.1 (by omega) (by omega))))) ?_
    refine zw_ret rfl ?_
    rw [if_neg (by omega), ← hws.1] at kk
    exact kk _ r1
  · skip
    refine zw_const ⟨rfl, rfl⟩ ?_
    refine zw_goto ⟨rfl, rfl⟩ rfl ?_
    refine zw_ret rfl ?_
    rw [if_pos (by omega)] at kk
    exact kk _ r1

theorem m_Mm_i {p : Int} {M : zM} {Q : zV → zM → Prop} {σ : yS} (hV : yVal σ) (hM : yMo M σ) (hp : 0 ≤ p ∧ p < σ 0) (kk : ∀ (w : Int) (u3 u4 : zV) (P : zM), (∀ q, p < q → q ≤ σ 0 → ∀ t, 0 ≤ t → t ≤ 8 → P 239 (9 * q + t) = ymn (yK σ) (σ 0) q (ywy t)) → (∀ t, 0 ≤ t → t ≤ 8 → P 239 (9 * p + t) = ymn (yK σ) (σ 0) p (ywy t)) → yf6 M P → zWp kM_mends 63 [(1, 208), (0, p), (0, w), u3, u4] [] P Q) : ∀ (f0 : Nat) (w : Int) (u3 u4 : zV) (P : zM), (0 ≤ w ∧ w ≤ 9) → (∀ q, p < q → q ≤ σ 0 → ∀ t, 0 ≤ t → t ≤ 8 → P 239 (9 * q + t) = ymn (yK σ) (σ 0) q (ywy t)) → (∀ t, 0 ≤ t → t < w → P 239 (9 * p + t) = ymn (yK σ) (σ 0) p (ywy t)) → (yf6 M P) → (9 - w).toNat < f0 → zWp kM_mends 26 [(1, 208), (0, p), (0, w), u3, u4] [] P Q := by
  intro f0
  induction f0 with
  | zero => intro w u3 u4 P i1 i3 i4 iF hf0; exact absurd hf0 (Nat.not_lt_zero _)
  | succ f0 ih =>
    intro w u3 u4 P i1 i3 i4 iF hf0
    have hn := hV.1
    refine zw_iload ⟨rfl, rfl⟩ rfl ?_
    refine zw_const ⟨rfl, rfl⟩ ?_
    refine zw_icge ⟨rfl, rfl⟩ rfl (fun c1 => ?_) (fun c1 => ?_)
    · skip
      exact kk _ _ _ _ i3 (fun t t1 t2 => i4 t t1 (by omega)) iF
    · skip
      have hmr := ymn_r (yK σ) (show p + 1 ≤ σ 0 by omega) (ywy w)
      have hms := ymn_r (yK σ) (show p + 1 ≤ σ 0 by omega) (ysb (ywy w) (yK σ p))
      refine zw_const ⟨rfl, rfl⟩ ?_
      refine zw_aload ⟨rfl, rfl⟩ rfl ?_
      refine zw_getR 239 ⟨rfl, rfl⟩ zr_208_44 ?_
      refine zw_const ⟨rfl, rfl⟩ ?_
      refine zw_iload ⟨rfl, rfl⟩ rfl ?_
      refine zw_const ⟨rfl, rfl⟩ ?_
      refine zw_iadd ⟨rfl, rfl⟩ (by omega) ?_
      refine zw_imul ⟨rfl, rfl⟩ (by omega) ?_
      refine zw_iload ⟨rfl, rfl⟩ rfl ?_
      refine zw_iadd ⟨rfl, rfl⟩ (by omega) ?_
      refine zw_ialdv (v := ymn (yK σ) (σ 0) (p + 1) (ywy w)) ⟨rfl, rfl⟩ za_239 (by omega) (i3 (p + 1) (by omega) (by omega) w (by omega) (by omega)) ?_
      refine zw_iadd ⟨rfl, rfl⟩ (by omega) ?_
      refine zw_istore_3 ⟨rfl, rfl⟩ ?_
      refine zw_aload ⟨rfl, rfl⟩ rfl ?_
      refine zw_iload ⟨rfl, rfl⟩ rfl ?_
      refine zw_iload ⟨rfl, rfl⟩ rfl ?_
      refine zw_callv3 ⟨rfl, rfl⟩ rfl zc_208 rfl ?_
      refine m_Mkeeps hV (hM.cg (iF.1 209 (by decide) (by decide) (by decide))) ⟨by omega, by omega⟩ ⟨by omega, by omega⟩ (fun t t1 t2 => i3 (p + 1) (by omega) (by omega) t t1 t2) (fun N1 r1 => ?_)
      refine zw_istore_4 ⟨rfl, rfl⟩ ?_
      refine zw_aload ⟨rfl, rfl⟩ rfl ?_
      refine zw_getR 239 ⟨rfl, rfl⟩ zr_208_44 ?_
      refine zw_const ⟨rfl, rfl⟩ ?_
      refine zw_iload ⟨rfl, rfl⟩ rfl ?_
      refine zw_imul ⟨rfl, rfl⟩ (by omega) ?_
      refine zw_iload ⟨rfl, rfl⟩ rfl ?_
      refine zw_iadd ⟨rfl, rfl⟩ (by omega) ?_
      refine zw_iload ⟨rfl, rfl⟩ rfl ?_
      refine zw_iload ⟨rfl, rfl⟩ rfl ?_
      refine zw_icge ⟨rfl, rfl⟩ rfl (fun c2 => ?_) (fun c2 => ?_)
      · skip
        refine zw_iload ⟨rfl, rfl⟩ rfl ?_
        refine zw_iast ⟨rfl, rfl⟩ za_239 (by omega) ?_
        refine zw_iinc_2 ⟨rfl, rfl⟩ (by omega) ?_
        refine zw_goto ⟨rfl, rfl⟩ rfl ?_
        have ems : ymn (yK σ) (σ 0) p (ywy w) = (if ybr (ywy w) (yK σ p) = 1 then 268435456 else ymn (yK σ) (σ 0) (p + 1) (ysb (ywy w) (yK σ p))) := by
          rw [ymn_s (by omega)]
          unfold ymw
          have hb := ybr_rng (ywy w) (yK σ p)
          by_cases z : ybr (ywy w) (yK σ p) = 1
          · rw [if_pos z] at *
            omega
          · rw [if_neg z] at *
            first | (rw [if_pos (by omega)]; done) | (rw [if_neg (by omega)]; done) | (split <;> omega)
        rw [← ems]
        refine ih _ _ _ _ ⟨by omega, by omega⟩ (fun q q1 q2 t t1 t2 => (zup_ni (by omega)).trans ((congrFun (r1.1 239 (by decide)) _).trans (i3 q q1 q2 t t1 t2))) (fun t t1 t2 => ?_) ((iF.tr r1.s).up) (by omega)
        by_cases e : t = w
        · subst e; exact zup_eq _ _ _ _
        · exact (zup_ni (by omega)).trans ((congrFun (r1.1 239 (by decide)) _).trans (i4 t t1 (by omega)))
      · skip
        refine zw_iload ⟨rfl, rfl⟩ rfl ?_
        refine zw_goto ⟨rfl, rfl⟩ rfl ?_
        refine zw_iast ⟨rfl, rfl⟩ za_239 (by omega) ?_
        refine zw_iinc_2 ⟨rfl, rfl⟩ (by omega) ?_
        refine zw_goto ⟨rfl, rfl⟩ rfl ?_
        have ems : ymn (yK σ) (σ 0) p (ywy w) = 1 + (ymn (yK σ) (σ 0) (p + 1) (ywy w)) := by
          rw [ymn_s (by omega)]
          unfold ymw
          have hb := ybr_rng (ywy w) (yK σ p)
          by_cases z : ybr (ywy w) (yK σ p) = 1
          · rw [if_pos z] at *
            omega
          · rw [if_neg z] at *
            first | (rw [if_pos (by omega)]; done) | (rw [if_neg (by omega)]; done) | (split <;> omega)
        rw [← ems]
        refine ih _ _ _ _ ⟨by omega, by omega⟩ (fun q q1 q2 t t1 t2 => (zup_ni (by omega)).trans ((congrFun (r1.1 239 (by decide)) _).trans (i3 q q1 q2 t t1 t2))) (fun t t1 t2 => ?_) ((iF.tr r1.s).up) (by omega)
        by_cases e : t = w
        · subst e; exact zup_eq _ _ _ _
        · exact (zup_ni (by omega)).trans ((congrFun (r1.1 239 (by decide)) _).trans (i4 t t1 (by omega)))

theorem m_Mm_e {p w : Int} {u3 u4 : zV} {M : zM} {Q : zV → zM → Prop} (hp : 0 ≤ p ∧ p ≤ 60) (kk : zWp kM_mends 22 [(1, 208), (0, p + -1), (0, w), u3, u4] [] M Q) : zWp kM_mends 63 [(1, 208), (0, p), (0, w), u3, u4] [] M Q := by
  refine zw_iinc_1 ⟨rfl, rfl⟩ (by omega) ?_
  refine zw_goto ⟨rfl, rfl⟩ rfl ?_
  exact kk

theorem m_Mm_d {M : zM} {Q : zV → zM → Prop} {σ : yS} (hV : yVal σ) (hM : yMo M σ) (kk : ∀ (u2 u3 u4 : zV) (P : zM), (∀ q, 0 ≤ q → q ≤ σ 0 → ∀ t, 0 ≤ t → t ≤ 8 → P 239 (9 * q + t) = ymn (yK σ) (σ 0) q (ywy t)) → yf6 M P → zWp kM_mends 65 [(1, 208), (0, -1), u2, u3, u4] [] P Q) : ∀ (f0 : Nat) (p : Int) (u2 u3 u4 : zV) (P : zM), (-1 ≤ p ∧ p < σ 0) → (∀ q, p < q → q ≤ σ 0 → ∀ t, 0 ≤ t → t ≤ 8 → P 239 (9 * q + t) = ymn (yK σ) (σ 0) q (ywy t)) → (yf6 M P) → (p + 1).toNat < f0 → zWp kM_mends 22 [(1, 208), (0, p), u2, u3, u4] [] P Q := by
  intro f0
  induction f0 with
  | zero => intro p u2 u3 u4 P i1 i3 iF hf0; exact absurd hf0 (Nat.not_lt_zero _)
  | succ f0 ih =>
    intro p u2 u3 u4 P i1 i3 iF hf0
    have hn := hV.1
    refine zw_iload ⟨rfl, rfl⟩ rfl ?_
    refine zw_iflt ⟨rfl, rfl⟩ rfl (fun c1 => ?_) (fun c1 => ?_)
    · skip
      have ep : p = -1 := by omega
      subst ep
      exact kk _ _ _ _ (fun q q1 q2 t t1 t2 => i3 q (by omega) q2 t t1 t2) iF
    · skip
      refine zw_const ⟨rfl, rfl⟩ ?_
      refine zw_istore_2 ⟨rfl, rfl⟩ ?_
      refine m_Mm_i (M := P) hV (hM.cg (iF.1 209 (by decide) (by decide) (by decide))) ⟨by omega, by omega⟩ (fun w v3 v4 P1 r1 r2 r3 => ?_) _ _ _ _ _ ⟨Int.le_refl _, by decide⟩ i3 (fun t t1 t2 => by omega) yf6.rf (Nat.lt_succ_self _)
      refine m_Mm_e (by omega) (ih _ _ _ _ _ ⟨by omega, by omega⟩ (fun q q1 q2 t t1 t2 => ?_) (iF.tr r3) (by omega))
      by_cases e : q = p
      · subst e; exact r2 t t1 t2
      · exact r1 q (by omega) q2 t t1 t2

def yE6 (P : zM) (g : yG3) : Prop := P 208 46 = g.1 ∧ ∀ k, 0 ≤ k → k < g.1 → P 240 k = g.2.1 k
theorem yE6.ps {P : zM} {g h : yG3} {c : Int} (hg : yE6 P g) (e1 : h.1 = g.1 + 1) (e2 : h.2.1 = fun k => if k = g.1 then c else g.2.1 k) : yE6 (zup (zup P 240 g.1 c) 208 46 (g.1 + 1)) h := by
  refine ⟨(zup_eq _ _ _ _).trans e1.symm, fun k k1 k2 => ?_⟩
  rw [zup_na (by decide), e2]
  by_cases q : k = g.1
  · rw [q, zup_eq]; exact (if_pos rfl).symm
  · rw [zup_ni q, hg.2 k k1 (by omega)]; exact (if_neg q).symm

theorem m_Mm_f {M : zM} {Q : zV → zM → Prop} {σ : yS} (hV : yVal σ) (hM : yMo M σ) (hR : ∀ q, 0 ≤ q → q ≤ σ 0 → ∀ t, 0 ≤ t → t ≤ 8 → M 239 (9 * q + t) = ymn (yK σ) (σ 0) q (ywy t)) (kk : ∀ P : zM, (yE6 P (ymE σ) ∧ yf6 M P) → Q (3, 0) P) : ∀ (f0 : Nat) (w p : Int) (u3 u4 : zV) (P : zM), (0 ≤ p ∧ p ≤ σ 0) → (ywy w = (ymc (yK σ) (σ 0) p).2.2 ∧ 0 ≤ w ∧ w ≤ 8) → (yE6 P (ymc (yK σ) (σ 0) p)) → (yf6 M P) → (∀ x, x ≠ 208 → x ≠ 240 → P x = M x) → (σ 0 - p).toNat < f0 → zWp kM_mends 72 [(1, 208), (0, w), (0, p), u3, u4] [] P Q := by
  intro f0
  induction f0 with
  | zero => intro w p u3 u4 P i1 i2 i3 iF iG hf0; exact absurd hf0 (Nat.not_lt_zero _)
  | succ f0 ih =>
    intro w p u3 u4 P i1 i2 i3 iF iG hf0
    have hK := yKr_K hV
    have hn := hV.1
    have hr := (ymc_r hK p i1.1 i1.2).1
    refine zw_iload ⟨rfl, rfl⟩ rfl ?_
    refine zw_aload ⟨rfl, rfl⟩ rfl ?_
    refine zw_callv1 ⟨rfl, rfl⟩ rfl zc_208 rfl ?_
    refine m_Mmany hV (hM.cg (iF.1 209 (by decide) (by decide) (by decide))) ?_
    refine zw_icge ⟨rfl, rfl⟩ rfl (fun c1 => ?_) (fun c1 => ?_)
    · skip
      refine zw_void rfl ?_
      have ep : p = σ 0 := by omega
      rw [ep] at i3
      exact kk _ ⟨i3, iF⟩
    · skip
      have hmr := ymn_r (yK σ) (show p + 1 ≤ σ 0 by omega) (ywy w)
      have hmq := ymn_r (yK σ) (show p ≤ σ 0 by omega) (ywy w)
      refine zw_const ⟨rfl, rfl⟩ ?_
      refine zw_aload ⟨rfl, rfl⟩ rfl ?_
      refine zw_getR 239 ⟨rfl, rfl⟩ zr_208_44 ?_
      refine zw_const ⟨rfl, rfl⟩ ?_
      refine zw_iload ⟨rfl, rfl⟩ rfl ?_
      refine zw_const ⟨rfl, rfl⟩ ?_
      refine zw_iadd ⟨rfl, rfl⟩ (by omega) ?_
      refine zw_imul ⟨rfl, rfl⟩ (by omega) ?_
      refine zw_iload ⟨rfl, rfl⟩ rfl ?_
      refine zw_iadd ⟨rfl, rfl⟩ (by omega) ?_
      refine zw_ialdv (v := ymn (yK σ) (σ 0) (p + 1) (ywy w)) ⟨rfl, rfl⟩ za_239 (by omega) (((congrFun (iG 239 (by decide) (by decide)) _).trans (hR (p + 1) (by omega) (by omega) w (by omega) (by omega)))) ?_
      refine zw_iadd ⟨rfl, rfl⟩ (by omega) ?_
      refine zw_aload ⟨rfl, rfl⟩ rfl ?_
      refine zw_getR 239 ⟨rfl, rfl⟩ zr_208_44 ?_
      refine zw_const ⟨rfl, rfl⟩ ?_
      refine zw_iload ⟨rfl, rfl⟩ rfl ?_
      refine zw_imul ⟨rfl, rfl⟩ (by omega) ?_
      refine zw_iload ⟨rfl, rfl⟩ rfl ?_
      refine zw_iadd ⟨rfl, rfl⟩ (by omega) ?_
      refine zw_ialdv (v := ymn (yK σ) (σ 0) p (ywy w)) ⟨rfl, rfl⟩ za_239 (by omega) (((congrFun (iG 239 (by decide) (by decide)) _).trans (hR p (by omega) (by omega) w (by omega) (by omega)))) ?_
      refine zw_icne ⟨rfl, rfl⟩ rfl (fun c2 => ?_) (fun c2 => ?_)
      · skip
        refine zw_aload ⟨rfl, rfl⟩ rfl ?_
        refine zw_iload ⟨rfl, rfl⟩ rfl ?_
        refine zw_aload ⟨rfl, rfl⟩ rfl ?_
        refine zw_iload ⟨rfl, rfl⟩ rfl ?_
        refine zw_callv2 ⟨rfl, rfl⟩ rfl zc_208 rfl ?_
        refine m_MkindAt hV (hM.cg (iF.1 209 (by decide) (by decide) (by decide))) (by omega) ?_
        have hkp := (yKr_K hV).2.1 p (by omega) (by omega)
        refine zw_callv3 ⟨rfl, rfl⟩ rfl zc_208 rfl ?_
        have hws := ywy_s (w := w) (k := yK σ p) ⟨by omega, by omega⟩ (by omega)
        have hbb1 : 0 ≤ ymb w (yK σ p) ∧ ymb w (yK σ p) ≤ 1 := by rw [hws.2.1]; exact ybr_rng _ _
        refine m_MgoesOn ⟨by omega, by omega⟩ (by omega) (fun N1 r1 b1 => ?_)
        refine zw_istore_1 ⟨rfl, rfl⟩ ?_
        refine zw_iinc_2 ⟨rfl, rfl⟩ (by omega) ?_
        refine zw_goto ⟨rfl, rfl⟩ rfl ?_
        have eg := ymc_z (K := yK σ) (n := σ 0) i1.1 (by rw [← i2.1]; omega)
        have hbb : ymb w (yK σ p) = 0 := by
          have h0 := ybr_rng (ywy w) (yK σ p)
          by_cases z : ybr (ywy w) (yK σ p) = 1
          · exfalso
            have e := ymn_s (K := yK σ) (n := σ 0) (p := p) (s := ywy w) (by omega)
            rw [show ymw (yK σ) (σ 0) p (ywy w) = 61 from if_pos z, if_pos (by omega)] at e
            omega
          · omega
        refine ih _ _ _ _ _ ⟨by omega, by omega⟩ ?_ ?_ (iF.tr r1.s) (fun x x1 x2 => (r1.1 x x1).trans (iG x x1 x2)) (by omega)
        · rw [eg]
          exact ⟨by rw [hws.1, i2.1], hws.2.2.1.1, hws.2.2.2.1 (by omega) hbb⟩
        · rw [eg]
          exact ⟨(r1.2 46 (by decide)).trans i3.1, fun k k1 k2 => (congrFun (r1.1 240 (by decide)) k).trans (i3.2 k k1 k2)⟩
      · skip
        refine zw_aload ⟨rfl, rfl⟩ rfl ?_
        refine zw_getR 240 ⟨rfl, rfl⟩ zr_208_45 ?_
        refine zw_aload ⟨rfl, rfl⟩ rfl ?_
        refine zw_getIv (v := (ymc (yK σ) (σ 0) p).1) ⟨rfl, rfl⟩ zc_208 (by decide) (i3.1) ?_
        refine zw_iload ⟨rfl, rfl⟩ rfl ?_
        refine zw_iast ⟨rfl, rfl⟩ za_240 (by omega) ?_
        refine zw_aload ⟨rfl, rfl⟩ rfl ?_
        refine zw_dup ⟨rfl, rfl⟩ (by decide) ?_
        refine zw_getIv (v := (ymc (yK σ) (σ 0) p).1) ⟨rfl, rfl⟩ zc_208 (by decide) ((zup_na (by decide)).trans (i3.1)) ?_
        refine zw_const ⟨rfl, rfl⟩ ?_
        refine zw_iadd ⟨rfl, rfl⟩ (by omega) ?_
        refine zw_putI ⟨rfl, rfl⟩ zc_208 (by decide) (fun h => absurd h (by decide)) ?_
        refine zw_goto ⟨rfl, rfl⟩ rfl ?_
        refine zw_iinc_2 ⟨rfl, rfl⟩ (by omega) ?_
        refine zw_goto ⟨rfl, rfl⟩ rfl ?_
        have eg := ymc_y (K := yK σ) (n := σ 0) i1.1 (by rw [← i2.1]; omega)
        refine ih _ _ _ _ _ ⟨by omega, by omega⟩ (by rw [eg]; exact i2) ?_ ((iF.u2).u3) (fun x x1 x2 => (zup_row x1).trans ((zup_row x2).trans (iG x x1 x2))) (by omega)
        rw [eg]
        exact i3.ps rfl rfl

theorem m_Mm_a {M : zM} {Q : zV → zM → Prop} {σ : yS} (hV : yVal σ) (hM : yMo M σ) (kk : ∀ (P : zM), (∀ t, 0 ≤ t → t ≤ 8 → P 239 (9 * σ 0 + t) = 0) → yf6 M P → zWp kM_mends 17 [(1, 208), (0, 9), (3, 0), (3, 0), (3, 0)] [] P Q) : ∀ (f0 : Nat) (w : Int) (P : zM), (0 ≤ w ∧ w ≤ 9) → (∀ t, 0 ≤ t → t < w → P 239 (9 * σ 0 + t) = 0) → (yf6 M P) → (9 - w).toNat < f0 → zWp kM_mends 2 [(1, 208), (0, w), (3, 0), (3, 0), (3, 0)] [] P Q := by
  intro f0
  induction f0 with
  | zero => intro w P i1 i4 iF hf0; exact absurd hf0 (Nat.not_lt_zero _)
  | succ f0 ih =>
    intro w P i1 i4 iF hf0
    have hn := hV.1
    refine zw_iload ⟨rfl, rfl⟩ rfl ?_
    refine zw_const ⟨rfl, rfl⟩ ?_
    refine zw_icge ⟨rfl, rfl⟩ rfl (fun c1 => ?_) (fun c1 => ?_)
    · skip
      have es : w = 9 := by omega
      subst es
      exact kk _ (fun t t1 t2 => i4 t t1 (by omega)) iF
    · skip
      refine zw_aload ⟨rfl, rfl⟩ rfl ?_
      refine zw_getR 239 ⟨rfl, rfl⟩ zr_208_44 ?_
      refine zw_const ⟨rfl, rfl⟩ ?_
      refine zw_aload ⟨rfl, rfl⟩ rfl ?_
      refine zw_callv1 ⟨rfl, rfl⟩ rfl zc_208 rfl ?_
      refine m_Mmany hV (hM.cg (iF.1 209 (by decide) (by decide) (by decide))) ?_
      refine zw_imul ⟨rfl, rfl⟩ (by omega) ?_
      refine zw_iload ⟨rfl, rfl⟩ rfl ?_
      refine zw_iadd ⟨rfl, rfl⟩ (by omega) ?_
      refine zw_const ⟨rfl, rfl⟩ ?_
      refine zw_iast ⟨rfl, rfl⟩ za_239 (by omega) ?_
      refine zw_iinc_1 ⟨rfl, rfl⟩ (by omega) ?_
      refine zw_goto ⟨rfl, rfl⟩ rfl ?_
      refine ih _ _ ⟨by omega, by omega⟩ (fun t t1 t2 => ?_) iF.up (by omega)
      by_cases e : t = w
      · subst e; exact zup_eq _ _ _ _
      · exact (zup_ni (by omega)).trans (i4 t t1 (by omega))

theorem m_Mm_g {M : zM} {Q : zV → zM → Prop} {σ : yS} (hV : yVal σ) (hM : yMo M σ) {u2 u3 u4 : zV} (hR : ∀ q, 0 ≤ q → q ≤ σ 0 → ∀ t, 0 ≤ t → t ≤ 8 → M 239 (9 * q + t) = ymn (yK σ) (σ 0) q (ywy t)) (kk : ∀ P : zM, (yE6 P (ymE σ) ∧ yf6 M P) → Q (3, 0) P) : zWp kM_mends 65 [(1, 208), (0, -1), u2, u3, u4] [] M Q := by
  refine zw_aload ⟨rfl, rfl⟩ rfl ?_
  refine zw_const ⟨rfl, rfl⟩ ?_
  refine zw_putI ⟨rfl, rfl⟩ zc_208 (by decide) (fun h => absurd h (by decide)) ?_
  refine zw_const ⟨rfl, rfl⟩ ?_
  refine zw_istore_1 ⟨rfl, rfl⟩ ?_
  refine zw_const ⟨rfl, rfl⟩ ?_
  refine zw_istore_2 ⟨rfl, rfl⟩ ?_
  exact m_Mm_f (M := zup M 208 46 0) hV (hM.cg (zup_row (by decide))) (fun q q1 q2 t t1 t2 => (zup_na (by decide)).trans (hR q q1 q2 t t1 t2)) (fun P p => kk P ⟨p.1, (yf6.rf.u3).tr p.2⟩) _ _ _ _ _ _ ⟨Int.le_refl _, hV.1.1⟩ (by rw [ymc_0]; exact ⟨rfl, by decide, by decide⟩) (by rw [ymc_0]; exact ⟨zup_eq _ _ _ _, fun k k1 k2 => absurd k2 (by show ¬ (k < 0); omega)⟩) yf6.rf (fun _ _ _ => rfl) (Nat.lt_succ_self _)

theorem m_Mm_b {M : zM} {Q : zV → zM → Prop} {σ : yS} (hV : yVal σ) (hM : yMo M σ) (hz : ∀ t, 0 ≤ t → t ≤ 8 → M 239 (9 * σ 0 + t) = 0) (kk : ∀ P : zM, (yE6 P (ymE σ) ∧ yf6 M P) → Q (3, 0) P) : zWp kM_mends 17 [(1, 208), (0, 9), (3, 0), (3, 0), (3, 0)] [] M Q := by
  have hn := hV.1
  refine zw_aload ⟨rfl, rfl⟩ rfl ?_
  refine zw_callv1 ⟨rfl, rfl⟩ rfl zc_208 rfl ?_
  refine m_Mmany hV hM ?_
  refine zw_const ⟨rfl, rfl⟩ ?_
  refine zw_isub ⟨rfl, rfl⟩ (by omega) ?_
  refine zw_istore_1 ⟨rfl, rfl⟩ ?_
  refine m_Mm_d hV hM (fun u2 u3 u4 P r1 r2 => ?_) _ _ _ _ _ _ ⟨by omega, by omega⟩ (fun q q1 q2 t t1 t2 => ?_) yf6.rf (Nat.lt_succ_self _)
  · exact m_Mm_g (M := P) hV (hM.cg (r2.1 209 (by decide) (by decide) (by decide))) r1 (fun P2 p2 => kk P2 ⟨p2.1, r2.tr p2.2⟩)
  · rw [show q = σ 0 by omega, hz t t1 t2, ymn_n]

theorem m_Mmends {M : zM} {Q : zV → zM → Prop} {σ : yS} (hV : yVal σ) (hM : yMo M σ) (kk : ∀ P : zM, (yE6 P (ymE σ) ∧ yf6 M P) → Q (3, 0) P) : zWp kM_mends 0 [(1, 208), (3, 0), (3, 0), (3, 0), (3, 0)] [] M Q := by
  refine zw_const ⟨rfl, rfl⟩ ?_
  refine zw_istore_1 ⟨rfl, rfl⟩ ?_
  exact m_Mm_a hV hM (fun P r1 r2 => m_Mm_b (M := P) hV (hM.cg (r2.1 209 (by decide) (by decide) (by decide))) r1 (fun P2 p2 => kk P2 ⟨p2.1, r2.tr p2.2⟩)) _ _ _ ⟨Int.le_refl _, by decide⟩ (fun t t1 t2 => by omega) yf6.rf (Nat.lt_succ_self _)

theorem d_mend {i : Int} {M : zM} {Q : zV → zM → Prop} {σ : yS} (hV : yVal σ) (hM : yMo M σ)  (k : ∀ N : zM, ymf M N → Q (0, ya_mend σ i) N) : zWp kM_mend 0 [(1, 208), (0, i)] [] M Q := by
  have hK := yKr_K hV
  have hn := hV.1
  have hci := yci_60 hK
  have eyL : (yTk σ (yci (yK σ) (σ 0))).1 = (yLast σ).1 := rfl
  have hgl := yLast_r hV
  refine zw_aload ⟨rfl, rfl⟩ rfl ?_
  refine zw_const ⟨rfl, rfl⟩ ?_
  refine zw_putI ⟨rfl, rfl⟩ zc_208 (by decide) (fun h => absurd h (by decide)) ?_
  refine zw_iload ⟨rfl, rfl⟩ rfl ?_
  refine zw_const ⟨rfl, rfl⟩ ?_
  refine zw_icge ⟨rfl, rfl⟩ rfl (fun c1 => ?_) (fun c1 => ?_)
  · skip
    refine zw_aload ⟨rfl, rfl⟩ rfl ?_
    refine zw_cavv1 ⟨rfl, rfl⟩ rfl zc_208 rfl ?_
    refine m_Mmends hV (hM.cg (zup_row (by decide))) (fun N1 p1 => ?_)
    obtain ⟨hE1, hf0⟩ := p1
    have hf1 : ymf M N1 := ymf_0.tr hf0.m
    have hr := ymE_r hV
    have hr1 : (ymE σ).1 ≤ 60 := by have := hr.1.1.2; omega
    refine zw_iload ⟨rfl, rfl⟩ rfl ?_
    refine zw_const ⟨rfl, rfl⟩ ?_
    refine zw_icne ⟨rfl, rfl⟩ rfl (fun c2 => ?_) (fun c2 => ?_)
    · skip
      refine zw_iload ⟨rfl, rfl⟩ rfl ?_
      refine zw_aload ⟨rfl, rfl⟩ rfl ?_
      refine zw_getIv (v := (ymE σ).1) ⟨rfl, rfl⟩ zc_208 (by decide) (hE1.1) ?_
      refine zw_icge ⟨rfl, rfl⟩ rfl (fun c3 => ?_) (fun c3 => ?_)
      · skip
        refine zw_const ⟨rfl, rfl⟩ ?_
        refine zw_ret rfl ?_
        have e : ya_mend σ i = (-1) := by unfold ya_mend; (repeat' split) <;> first | rfl | (exfalso; omega)
        rw [e] at k
        exact k _ hf1
      · skip
        refine zw_aload ⟨rfl, rfl⟩ rfl ?_
        refine zw_getR 240 ⟨rfl, rfl⟩ zr_208_45 ?_
        refine zw_iload ⟨rfl, rfl⟩ rfl ?_
        refine zw_ialdv (v := (ymE σ).2.1 i) ⟨rfl, rfl⟩ za_240 (by omega) (hE1.2 i (by omega) (by omega)) ?_
        refine zw_goto ⟨rfl, rfl⟩ rfl ?_
        refine zw_ret rfl ?_
        have e : ya_mend σ i = (ymE σ).2.1 i := by unfold ya_mend; (repeat' split) <;> first | rfl | (exfalso; omega)
        rw [e] at k
        exact k _ hf1
    · skip
      refine zw_aload ⟨rfl, rfl⟩ rfl ?_
      refine zw_getIv (v := (ymE σ).1) ⟨rfl, rfl⟩ zc_208 (by decide) (hE1.1) ?_
      refine zw_goto ⟨rfl, rfl⟩ rfl ?_
      refine zw_ret rfl ?_
      have e : ya_mend σ i = (ymE σ).1 := by unfold ya_mend; (repeat' split) <;> first | rfl | (exfalso; omega)
      rw [e] at k
      exact k _ hf1
  · skip
    refine zw_const ⟨rfl, rfl⟩ ?_
    refine zw_ret rfl ?_
    have e : ya_mend σ i = (-3) := by unfold ya_mend; (repeat' split) <;> first | rfl | (exfalso; omega)
    rw [e] at k
    exact k _ ymf_0

theorem d_mended_l {M : zM} {Q : zV → zM → Prop} {σ : yS} (hV : yVal σ) (hE : ∀ k, 0 ≤ k → k < (ymE σ).1 → M 240 k = (ymE σ).2.1 k) (hm : 0 ≤ (ymE σ).1 ∧ (ymE σ).1 ≤ σ 0) (kk : ∀ P : zM, (yMo P (ymT σ (ymE σ).1.toNat) ∧ (∀ b, b ≠ 209 → P b = M b) ∧ ∀ j, 182 ≤ j → P 209 j = M 209 j) → Q (0, σ 0 - (ymE σ).1) P) : ∀ (f0 : Nat) (i : Int) (P : zM), (-1 ≤ i ∧ i < (ymE σ).1) → (yMo P (ymT σ ((ymE σ).1 - 1 - i).toNat)) → (∀ b, b ≠ 209 → P b = M b) → (∀ j, 182 ≤ j → P 209 j = M 209 j) → (i + 1).toNat < f0 → zWp kM_mended 12 [(1, 208), (0, i)] [] P Q := by
  intro f0
  induction f0 with
  | zero => intro i P i1 i3 iF iJ hf0; exact absurd hf0 (Nat.not_lt_zero _)
  | succ f0 ih =>
    intro i P i1 i3 iF iJ hf0
    have hn := hV.1
    have hT := fun (i : Int) (h1 : -1 ≤ i) => ymT_r hV ((ymE σ).1 - 1 - i).toNat (by omega)
    refine zw_iload ⟨rfl, rfl⟩ rfl ?_
    refine zw_iflt ⟨rfl, rfl⟩ rfl (fun c1 => ?_) (fun c1 => ?_)
    · skip
      refine zw_aload ⟨rfl, rfl⟩ rfl ?_
      refine zw_callv1 ⟨rfl, rfl⟩ rfl zc_208 rfl ?_
      have ei : i = -1 := by omega
      subst ei
      rw [show (ymE σ).1 - 1 - -1 = (ymE σ).1 by omega] at i3
      have hT2 := ymT_r hV (ymE σ).1.toNat (by omega)
      refine m_Mmany hT2.1 i3 ?_
      rw [show ymT σ (ymE σ).1.toNat 0 = σ 0 - (ymE σ).1 by rw [hT2.2.1]; omega]
      refine zw_ret rfl ?_
      exact kk _ ⟨i3, iF, iJ⟩
    · skip
      refine zw_aload ⟨rfl, rfl⟩ rfl ?_
      refine zw_aload ⟨rfl, rfl⟩ rfl ?_
      refine zw_getR 240 ⟨rfl, rfl⟩ zr_208_45 ?_
      refine zw_iload ⟨rfl, rfl⟩ rfl ?_
      refine zw_ialdv (v := (ymE σ).2.1 i) ⟨rfl, rfl⟩ za_240 (by omega) (((congrFun (iF 240 (by decide)) i).trans (hE i (by omega) (by omega)))) ?_
      refine zw_const ⟨rfl, rfl⟩ ?_
      refine zw_cavv3 ⟨rfl, rfl⟩ rfl zc_208 rfl ?_
      have hj := hT i (by omega)
      have hji := hj.2.2 (by omega)
      rw [show (ymE σ).1 - ((((ymE σ).1 - 1 - i).toNat : Int) + 1) = i by omega] at hji
      have hTr : 0 ≤ (ymE σ).2.1 i ∧ (0 : Int) ≤ 1 ∧ (ymE σ).2.1 i + 1 ≤ (ymT σ ((ymE σ).1 - 1 - i).toNat) 0 := ⟨hji.1, by decide, by rw [hj.2.1]; exact hji.2⟩
      obtain ⟨g1, g2, g3⟩ := yGo_M hj.1 i3 hTr
      refine m_goes hj.1 i3 hTr ?_
      generalize hE : (zup (zcpy P 209 (122 + (ymE σ).2.1 i + 1) 209 (122 + (ymE σ).2.1 i) ((ymT σ ((ymE σ).1 - 1 - i).toNat) 0 - 1 - (ymE σ).2.1 i)) 209 0 ((ymT σ ((ymE σ).1 - 1 - i).toNat) 0 - 1)) = E at g1 g2 g3 ⊢
      refine zw_iinc_1 ⟨rfl, rfl⟩ (by omega) ?_
      refine zw_goto ⟨rfl, rfl⟩ rfl ?_
      refine ih _ _ ⟨by omega, by omega⟩ ?_ (fun b b1 => (g2 b b1).trans (iF b b1)) (fun j hj2 => (g3 j hj2).trans (iJ j hj2)) (by omega)
      rw [show ((ymE σ).1 - 1 - (i + -1)).toNat = ((ymE σ).1 - 1 - i).toNat + 1 by omega]
      show yMo E (yGo (ymT σ ((ymE σ).1 - 1 - i).toNat) ((ymE σ).2.1 ((ymE σ).1 - ((((ymE σ).1 - 1 - i).toNat : Int) + 1))) 1)
      rw [show (ymE σ).1 - ((((ymE σ).1 - 1 - i).toNat : Int) + 1) = i by omega]
      exact g1

theorem d_mended_b {M : zM} {Q : zV → zM → Prop} {σ : yS} {un : Int} {uh : Int → yS} {mk : Int → Int} {im : Int → yS} {tn : Int} {tp : Int → Int} {ff fp : Int} (hC : yMW M σ un uh mk im tn tp ff fp) (hE : yE6 M (ymE σ)) (k : ∀ N : zM, yMw N (yo_mended σ un uh mk im tn tp ff fp).2 → (∀ x, x < 208 → N x = M x) → Q (0, (yo_mended σ un uh mk im tn tp ff fp).1) N) : zWp kM_mended 5 [(1, 208), (3, 0)] [] M Q := by
  obtain ⟨hW, hM, hH, hI, hT, hF, hWd⟩ := id hC
  have hV := hW.1
  have hn := hV.1
  have hu := hW.2.1.1
  have htn := hW.2.2.2.1
  have hr := ymE_r hV
  have hm : 0 ≤ (ymE σ).1 ∧ (ymE σ).1 ≤ σ 0 := hr.1.1
  refine zw_aload ⟨rfl, rfl⟩ rfl ?_
  refine zw_cavv1 ⟨rfl, rfl⟩ rfl zc_208 rfl ?_
  refine m_notes hV hu hM hH (fun N1 p1 => ?_)
  obtain ⟨hM1, hH1, hr1⟩ := p1
  have q46 : N1 208 46 = (ymE σ).1 := (hr1.2 46 (by decide)).trans hE.1
  refine zw_aload ⟨rfl, rfl⟩ rfl ?_
  refine zw_getIv (v := (ymE σ).1) ⟨rfl, rfl⟩ zc_208 (by decide) (q46) ?_
  refine zw_const ⟨rfl, rfl⟩ ?_
  refine zw_isub ⟨rfl, rfl⟩ (by omega) ?_
  refine zw_istore_1 ⟨rfl, rfl⟩ ?_
  have hT2 := ymT_r hV (ymE σ).1.toNat (by omega)
  refine d_mended_l (M := N1) hV (fun k k1 k2 => by rw [hr1.1 240 (by decide) (by decide)]; exact hE.2 k k1 k2) hm (fun N2 p2 => ?_) _ _ _ ⟨by omega, by omega⟩ (by rw [show ((ymE σ).1 - 1 - ((ymE σ).1 - 1)).toNat = 0 by omega]; exact hM1) (fun _ _ => rfl) (fun _ _ => rfl) (Nat.lt_succ_self _)
  obtain ⟨g1, g2, g3⟩ := p2
  have er : ∀ x, x < 208 ∨ x = 211 ∨ x = 236 ∨ x = 238 → N1 x = M x := fun x hx => hr1.1 x (by omega) (by omega)
  have e9 : ∀ j, 182 ≤ j → N1 209 j = M 209 j := fun j _ => by rw [hr1.1 209 (by decide) (by decide)]
  have q35 : N1 208 35 = tn := (hr1.2 35 (by decide)).trans hT.1
  have q38 : N1 208 38 = ff := (hr1.2 38 (by decide)).trans hF.1
  have q39 : N1 208 39 = fp := (hr1.2 39 (by decide)).trans hF.2
  obtain ⟨w1, w2⟩ := yMW_new hC hT2.1 g1 ⟨by rw [g2 208 (by decide)]; exact hH1.1, fun i i1 i2 j j1 j2 => by rw [g2 210 (by decide)]; exact hH1.2 i i1 i2 j j1 j2⟩ (yph_V hW.2.1 hV) (fun x hx => (g2 x (by omega)).trans (er x (by omega))) (fun j hj => (g3 j hj).trans (e9 j hj)) (tn' := tn) (ff' := ff) (fp' := fp) ⟨by rw [g2 208 (by decide)]; exact q35, by omega, by omega⟩ ⟨by rw [g2 208 (by decide)]; exact q38, by rw [g2 208 (by decide)]; exact q39⟩
  exact k _ w1 w2

theorem d_mended {M : zM} {Q : zV → zM → Prop} {σ : yS} {un : Int} {uh : Int → yS} {mk : Int → Int} {im : Int → yS} {tn : Int} {tp : Int → Int} {ff fp : Int} (hC : yMW M σ un uh mk im tn tp ff fp) (k : ∀ N : zM, yMw N (yo_mended σ un uh mk im tn tp ff fp).2 → (∀ x, x < 208 → N x = M x) → Q (0, (yo_mended σ un uh mk im tn tp ff fp).1) N) : zWp kM_mended 0 [(1, 208), (3, 0)] [] M Q := by
  have hV := hC.1.1
  have hM0 := (hC.mf (ymf_0 (v := 0))).2.1
  refine zw_aload ⟨rfl, rfl⟩ rfl ?_
  refine zw_const ⟨rfl, rfl⟩ ?_
  refine zw_putI ⟨rfl, rfl⟩ zc_208 (by decide) (fun h => absurd h (by decide)) ?_
  refine zw_aload ⟨rfl, rfl⟩ rfl ?_
  refine zw_cavv1 ⟨rfl, rfl⟩ rfl zc_208 rfl ?_
  refine m_Mmends hV hM0 (fun N1 p1 => ?_)
  have hf1 : ymf M N1 := ymf_0.tr p1.2.m
  exact d_mended_b (hC.mf hf1) p1.1 (fun N w1 w2 => k N w1 (fun x hx => (w2 x hx).trans (hf1.1 x (by omega))))

end