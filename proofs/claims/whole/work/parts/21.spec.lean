/-! The automaton of clusters: what the class' static methods answer -/
def ygo (s k : Int) : Int :=
  if k = 1 then (if s = 3 ∨ s = 4 then 1 else -1)
  else if k = 3 then (if s = 1 ∨ s = 2 then 3 else if s = 8 then 9 else -1)
  else if k = 4 then (if s = 1 then 2 else if s = 7 then 6 else -1)
  else if 5 ≤ k ∧ k ≤ 9 then (if s = 1 ∨ s = 2 ∨ s = 8 ∨ s = 5 then 5 else -1)
  else if k = 10 ∨ k = 11 then (if s = 0 then -1 else 6)
  else if k = 12 ∨ k = 13 then (if s = 3 then 4 else if s = 9 then 6 else -1)
  else -1
def yfs (k : Int) : Int := if k = 1 then 1 else if k = 2 then 7 else if k = 3 then 9 else if k = 4 then 8 else if k = 10 ∨ k = 11 then 6 else if 5 ≤ k ∧ k ≤ 9 then 5 else 0
def yso (k : Int) : Int := if k = 1 then 0 else if k = 2 then 1 else if k = 0 ∨ k = 12 ∨ k = 13 then 3 else 2
def ysb (s k : Int) : Int := if ygo s k = -1 then yfs k else ygo s k
def ybr (s k : Int) : Int := if yso k = 2 ∧ ygo s k = -1 then 1 else 0

theorem m_goOn {s t : Int} {M : zM} {Q : zV → zM → Prop} (k : Q (0, ygo s t) M) : zWp kX_goOn 0 [(0, s), (0, t)] [] M Q := by
  refine zw_iload ⟨rfl, rfl⟩ rfl ?_
  refine zw_const ⟨rfl, rfl⟩ ?_
  refine zw_icne ⟨rfl, rfl⟩ rfl (fun c1 => ?_) (fun c1 => ?_)
  · skip
    refine zw_iload ⟨rfl, rfl⟩ rfl ?_
    refine zw_const ⟨rfl, rfl⟩ ?_
    refine zw_icne ⟨rfl, rfl⟩ rfl (fun c2 => ?_) (fun c2 => ?_)
    · skip
      refine zw_iload ⟨rfl, rfl⟩ rfl ?_
      refine zw_const ⟨rfl, rfl⟩ ?_
      refine zw_icne ⟨rfl, rfl⟩ rfl (fun c3 => ?_) (fun c3 => ?_)
      · skip
        refine zw_iload ⟨rfl, rfl⟩ rfl ?_
        refine zw_calls1 ⟨rfl, rfl⟩ rfl rfl ?_
        refine zw_iload ⟨rfl, rfl⟩ rfl ?_
        refine zw_const ⟨rfl, rfl⟩ ?_
        refine zw_iclt ⟨rfl, rfl⟩ rfl (fun c4 => ?_) (fun c4 => ?_)
        · skip
          refine zw_const ⟨rfl, rfl⟩ ?_
          refine zw_zret rfl (by first | exact Or.inl rfl | exact Or.inr rfl | omega) ?_
          refine zw_ifeq ⟨rfl, rfl⟩ rfl (fun _ => ?_) (fun q => absurd (by decide) q)
          refine zw_iload ⟨rfl, rfl⟩ rfl ?_
          refine zw_calls1 ⟨rfl, rfl⟩ rfl rfl ?_
          refine zw_iload ⟨rfl, rfl⟩ rfl ?_
          refine zw_const ⟨rfl, rfl⟩ ?_
          refine zw_iceq ⟨rfl, rfl⟩ rfl (fun c6 => ?_) (fun c6 => ?_)
          · skip
            refine zw_const ⟨rfl, rfl⟩ ?_
            refine zw_goto ⟨rfl, rfl⟩ rfl ?_
            refine zw_zret rfl (by first | exact Or.inl rfl | exact Or.inr rfl | omega) ?_
            refine zw_ifeq ⟨rfl, rfl⟩ rfl (fun q => absurd q (by decide)) (fun _ => ?_)
            refine zw_iload ⟨rfl, rfl⟩ rfl ?_
            refine zw_ifne ⟨rfl, rfl⟩ rfl (fun c8 => ?_) (fun c8 => ?_)
            · skip
              refine zw_const ⟨rfl, rfl⟩ ?_
              refine zw_ret rfl ?_
              rw [show ygo s t = 6 from by grind [ygo]] at k
              exact k
            · skip
              refine zw_const ⟨rfl, rfl⟩ ?_
              refine zw_goto ⟨rfl, rfl⟩ rfl ?_
              refine zw_ret rfl ?_
              rw [show ygo s t = (-1) from by grind [ygo]] at k
              exact k
          · skip
            refine zw_iload ⟨rfl, rfl⟩ rfl ?_
            refine zw_const ⟨rfl, rfl⟩ ?_
            refine zw_icne ⟨rfl, rfl⟩ rfl (fun c9 => ?_) (fun c9 => ?_)
            · skip
              refine zw_const ⟨rfl, rfl⟩ ?_
              refine zw_zret rfl (by first | exact Or.inl rfl | exact Or.inr rfl | omega) ?_
              refine zw_ifeq ⟨rfl, rfl⟩ rfl (fun _ => ?_) (fun q => absurd (by decide) q)
              refine zw_iload ⟨rfl, rfl⟩ rfl ?_
              refine zw_calls1 ⟨rfl, rfl⟩ rfl rfl ?_
              refine zw_iload ⟨rfl, rfl⟩ rfl ?_
              refine zw_const ⟨rfl, rfl⟩ ?_
              refine zw_iceq ⟨rfl, rfl⟩ rfl (fun c11 => ?_) (fun c11 => ?_)
              · skip
                refine zw_const ⟨rfl, rfl⟩ ?_
                refine zw_goto ⟨rfl, rfl⟩ rfl ?_
                refine zw_zret rfl (by first | exact Or.inl rfl | exact Or.inr rfl | omega) ?_
                refine zw_ifeq ⟨rfl, rfl⟩ rfl (fun q => absurd q (by decide)) (fun _ => ?_)
                refine zw_iload ⟨rfl, rfl⟩ rfl ?_
                refine zw_const ⟨rfl, rfl⟩ ?_
                refine zw_icne ⟨rfl, rfl⟩ rfl (fun c13 => ?_) (fun c13 => ?_)
                · skip
                  refine zw_iload ⟨rfl, rfl⟩ rfl ?_
                  refine zw_const ⟨rfl, rfl⟩ ?_
                  refine zw_icne ⟨rfl, rfl⟩ rfl (fun c14 => ?_) (fun c14 => ?_)
                  · skip
                    refine zw_const ⟨rfl, rfl⟩ ?_
                    refine zw_ret rfl ?_
                    rw [show ygo s t = (-1) from by grind [ygo]] at k
                    exact k
                  · skip
                    refine zw_const ⟨rfl, rfl⟩ ?_
                    refine zw_goto ⟨rfl, rfl⟩ rfl ?_
                    refine zw_ret rfl ?_
                    rw [show ygo s t = 6 from by grind [ygo]] at k
                    exact k
                · skip
                  refine zw_const ⟨rfl, rfl⟩ ?_
                  refine zw_ret rfl ?_
                  rw [show ygo s t = 4 from by grind [ygo]] at k
                  exact k
              · skip
                refine zw_iload ⟨rfl, rfl⟩ rfl ?_
                refine zw_const ⟨rfl, rfl⟩ ?_
                refine zw_icne ⟨rfl, rfl⟩ rfl (fun c15 => ?_) (fun c15 => ?_)
                · skip
                  refine zw_const ⟨rfl, rfl⟩ ?_
                  refine zw_zret rfl (by first | exact Or.inl rfl | exact Or.inr rfl | omega) ?_
                  refine zw_ifeq ⟨rfl, rfl⟩ rfl (fun _ => ?_) (fun q => absurd (by decide) q)
                  refine zw_const ⟨rfl, rfl⟩ ?_
                  refine zw_ret rfl ?_
                  rw [show ygo s t = (-1) from by grind [ygo]] at k
                  exact k
                · skip
                  refine zw_const ⟨rfl, rfl⟩ ?_
                  refine zw_goto ⟨rfl, rfl⟩ rfl ?_
                  refine zw_zret rfl (by first | exact Or.inl rfl | exact Or.inr rfl | omega) ?_
                  refine zw_ifeq ⟨rfl, rfl⟩ rfl (fun q => absurd q (by decide)) (fun _ => ?_)
                  refine zw_iload ⟨rfl, rfl⟩ rfl ?_
                  refine zw_const ⟨rfl, rfl⟩ ?_
                  refine zw_icne ⟨rfl, rfl⟩ rfl (fun c18 => ?_) (fun c18 => ?_)
                  · skip
                    refine zw_iload ⟨rfl, rfl⟩ rfl ?_
                    refine zw_const ⟨rfl, rfl⟩ ?_
                    refine zw_icne ⟨rfl, rfl⟩ rfl (fun c19 => ?_) (fun c19 => ?_)
                    · skip
                      refine zw_const ⟨rfl, rfl⟩ ?_
                      refine zw_ret rfl ?_
                      rw [show ygo s t = (-1) from by grind [ygo]] at k
                      exact k
                    · skip
                      refine zw_const ⟨rfl, rfl⟩ ?_
                      refine zw_goto ⟨rfl, rfl⟩ rfl ?_
                      refine zw_ret rfl ?_
                      rw [show ygo s t = 6 from by grind [ygo]] at k
                      exact k
                  · skip
                    refine zw_const ⟨rfl, rfl⟩ ?_
                    refine zw_ret rfl ?_
                    rw [show ygo s t = 4 from by grind [ygo]] at k
                    exact k
            · skip
              refine zw_const ⟨rfl, rfl⟩ ?_
              refine zw_goto ⟨rfl, rfl⟩ rfl ?_
              refine zw_zret rfl (by first | exact Or.inl rfl | exact Or.inr rfl | omega) ?_
              refine zw_ifeq ⟨rfl, rfl⟩ rfl (fun q => absurd q (by decide)) (fun _ => ?_)
              refine zw_iload ⟨rfl, rfl⟩ rfl ?_
              refine zw_ifne ⟨rfl, rfl⟩ rfl (fun c21 => ?_) (fun c21 => ?_)
              · skip
                refine zw_const ⟨rfl, rfl⟩ ?_
                refine zw_ret rfl ?_
                rw [show ygo s t = 6 from by grind [ygo]] at k
                exact k
              · skip
                refine zw_const ⟨rfl, rfl⟩ ?_
                refine zw_goto ⟨rfl, rfl⟩ rfl ?_
                refine zw_ret rfl ?_
                rw [show ygo s t = (-1) from by grind [ygo]] at k
                exact k
        · skip
          refine zw_iload ⟨rfl, rfl⟩ rfl ?_
          refine zw_const ⟨rfl, rfl⟩ ?_
          refine zw_icgt ⟨rfl, rfl⟩ rfl (fun c22 => ?_) (fun c22 => ?_)
          · skip
            refine zw_const ⟨rfl, rfl⟩ ?_
            refine zw_zret rfl (by first | exact Or.inl rfl | exact Or.inr rfl | omega) ?_
            refine zw_ifeq ⟨rfl, rfl⟩ rfl (fun _ => ?_) (fun q => absurd (by decide) q)
            refine zw_iload ⟨rfl, rfl⟩ rfl ?_
            refine zw_calls1 ⟨rfl, rfl⟩ rfl rfl ?_
            refine zw_iload ⟨rfl, rfl⟩ rfl ?_
            refine zw_const ⟨rfl, rfl⟩ ?_
            refine zw_iceq ⟨rfl, rfl⟩ rfl (fun c24 => ?_) (fun c24 => ?_)
            · skip
              refine zw_const ⟨rfl, rfl⟩ ?_
              refine zw_goto ⟨rfl, rfl⟩ rfl ?_
              refine zw_zret rfl (by first | exact Or.inl rfl | exact Or.inr rfl | omega) ?_
              refine zw_ifeq ⟨rfl, rfl⟩ rfl (fun q => absurd q (by decide)) (fun _ => ?_)
              refine zw_iload ⟨rfl, rfl⟩ rfl ?_
              refine zw_ifne ⟨rfl, rfl⟩ rfl (fun c26 => ?_) (fun c26 => ?_)
              · skip
                refine zw_const ⟨rfl, rfl⟩ ?_
                refine zw_ret rfl ?_
                rw [show ygo s t = 6 from by grind [ygo]] at k
                exact k
              · skip
                refine zw_const ⟨rfl, rfl⟩ ?_
                refine zw_goto ⟨rfl, rfl⟩ rfl ?_
                refine zw_ret rfl ?_
                rw [show ygo s t = (-1) from by grind [ygo]] at k
                exact k
            · skip
              refine zw_iload ⟨rfl, rfl⟩ rfl ?_
              refine zw_const ⟨rfl, rfl⟩ ?_
              refine zw_icne ⟨rfl, rfl⟩ rfl (fun c27 => ?_) (fun c27 => ?_)
              · skip
                refine zw_const ⟨rfl, rfl⟩ ?_
                refine zw_zret rfl (by first | exact Or.inl rfl | exact Or.inr rfl | omega) ?_
                refine zw_ifeq ⟨rfl, rfl⟩ rfl (fun _ => ?_) (fun q => absurd (by decide) q)
                refine zw_iload ⟨rfl, rfl⟩ rfl ?_
                refine zw_calls1 ⟨rfl, rfl⟩ rfl rfl ?_
                refine zw_iload ⟨rfl, rfl⟩ rfl ?_
                refine zw_const ⟨rfl, rfl⟩ ?_
                refine zw_iceq ⟨rfl, rfl⟩ rfl (fun c29 => ?_) (fun c29 => ?_)
                · skip
                  refine zw_const ⟨rfl, rfl⟩ ?_
                  refine zw_goto ⟨rfl, rfl⟩ rfl ?_
                  refine zw_zret rfl (by first | exact Or.inl rfl | exact Or.inr rfl | omega) ?_
                  refine zw_ifeq ⟨rfl, rfl⟩ rfl (fun q => absurd q (by decide)) (fun _ => ?_)
                  refine zw_iload ⟨rfl, rfl⟩ rfl ?_
                  refine zw_const ⟨rfl, rfl⟩ ?_
                  refine zw_icne ⟨rfl, rfl⟩ rfl (fun c31 => ?_) (fun c31 => ?_)
                  · skip
                    refine zw_iload ⟨rfl, rfl⟩ rfl ?_
                    refine zw_const ⟨rfl, rfl⟩ ?_
                    refine zw_icne ⟨rfl, rfl⟩ rfl (fun c32 => ?_) (fun c32 => ?_)
                    · skip
                      refine zw_const ⟨rfl, rfl⟩ ?_
                      refine zw_ret rfl ?_
                      rw [show ygo s t = (-1) from by grind [ygo]] at k
                      exact k
                    · skip
                      refine zw_const ⟨rfl, rfl⟩ ?_
                      refine zw_goto ⟨rfl, rfl⟩ rfl ?_
                      refine zw_ret rfl ?_
                      rw [show ygo s t = 6 from by grind [ygo]] at k
                      exact k
                  · skip
                    refine zw_const ⟨rfl, rfl⟩ ?_
                    refine zw_ret rfl ?_
                    rw [show ygo s t = 4 from by grind [ygo]] at k
                    exact k
                · skip
                  refine zw_iload ⟨rfl, rfl⟩ rfl ?_
                  refine zw_const ⟨rfl, rfl⟩ ?_
                  refine zw_icne ⟨rfl, rfl⟩ rfl (fun c33 => ?_) (fun c33 => ?_)
                  · skip
                    refine zw_const ⟨rfl, rfl⟩ ?_
                    refine zw_zret rfl (by first | exact Or.inl rfl | exact Or.inr rfl | omega) ?_
                    refine zw_ifeq ⟨rfl, rfl⟩ rfl (fun _ => ?_) (fun q => absurd (by decide) q)
                    refine zw_const ⟨rfl, rfl⟩ ?_
                    refine zw_ret rfl ?_
                    rw [show ygo s t = (-1) from by grind [ygo]] at k
                    exact k
                  · skip
                    refine zw_const ⟨rfl, rfl⟩ ?_
                    refine zw_goto ⟨rfl, rfl⟩ rfl ?_
                    refine zw_zret rfl (by first | exact Or.inl rfl | exact Or.inr rfl | omega) ?_
                    refine zw_ifeq ⟨rfl, rfl⟩ rfl (fun q => absurd q (by decide)) (fun _ => ?_)
                    refine zw_iload ⟨rfl, rfl⟩ rfl ?_
                    refine zw_const ⟨rfl, rfl⟩ ?_
                    refine zw_icne ⟨rfl, rfl⟩ rfl (fun c36 => ?_) (fun c36 => ?_)
                    · skip
                      refine zw_iload ⟨rfl, rfl⟩ rfl ?_
                      refine zw_const ⟨rfl, rfl⟩ ?_
                      refine zw_icne ⟨rfl, rfl⟩ rfl (fun c37 => ?_) (fun c37 => ?_)
                      · skip
                        refine zw_const ⟨rfl, rfl⟩ ?_
                        refine zw_ret rfl ?_
                        rw [show ygo s t = (-1) from by grind [ygo]] at k
                        exact k
                      · skip
                        refine zw_const ⟨rfl, rfl⟩ ?_
                        refine zw_goto ⟨rfl, rfl⟩ rfl ?_
                        refine zw_ret rfl ?_
                        rw [show ygo s t = 6 from by grind [ygo]] at k
                        exact k
                    · skip
                      refine zw_const ⟨rfl, rfl⟩ ?_
                      refine zw_ret rfl ?_
                      rw [show ygo s t = 4 from by grind [ygo]] at k
                      exact k
              · skip
                refine zw_const ⟨rfl, rfl⟩ ?_
                refine zw_goto ⟨rfl, rfl⟩ rfl ?_
                refine zw_zret rfl (by first | exact Or.inl rfl | exact Or.inr rfl | omega) ?_
                refine zw_ifeq ⟨rfl, rfl⟩ rfl (fun q => absurd q (by decide)) (fun _ => ?_)
                refine zw_iload ⟨rfl, rfl⟩ rfl ?_
                refine zw_ifne ⟨rfl, rfl⟩ rfl (fun c39 => ?_) (fun c39 => ?_)
                · skip
                  refine zw_const ⟨rfl, rfl⟩ ?_
                  refine zw_ret rfl ?_
                  rw [show ygo s t = 6 from by grind [ygo]] at k
                  exact k
                · skip
                  refine zw_const ⟨rfl, rfl⟩ ?_
                  refine zw_goto ⟨rfl, rfl⟩ rfl ?_
                  refine zw_ret rfl ?_
                  rw [show ygo s t = (-1) from by grind [ygo]] at k
                  exact k
          · skip
            refine zw_const ⟨rfl, rfl⟩ ?_
            refine zw_goto ⟨rfl, rfl⟩ rfl ?_
            refine zw_zret rfl (by first | exact Or.inl rfl | exact Or.inr rfl | omega) ?_
            refine zw_ifeq ⟨rfl, rfl⟩ rfl (fun q => absurd q (by decide)) (fun _ => ?_)
            refine zw_iload ⟨rfl, rfl⟩ rfl ?_
            refine zw_calls1 ⟨rfl, rfl⟩ rfl rfl ?_
            refine zw_iload ⟨rfl, rfl⟩ rfl ?_
            refine zw_const ⟨rfl, rfl⟩ ?_
            refine zw_iceq ⟨rfl, rfl⟩ rfl (fun c41 => ?_) (fun c41 => ?_)
            · skip
              refine zw_const ⟨rfl, rfl⟩ ?_
              refine zw_goto ⟨rfl, rfl⟩ rfl ?_
              refine zw_zret rfl (by first | exact Or.inl rfl | exact Or.inr rfl | omega) ?_
              refine zw_ifeq ⟨rfl, rfl⟩ rfl (fun q => absurd q (by decide)) (fun _ => ?_)
              refine zw_const ⟨rfl, rfl⟩ ?_
              refine zw_goto ⟨rfl, rfl⟩ rfl ?_
              refine zw_ret rfl ?_
              rw [show ygo s t = 5 from by grind [ygo]] at k
              exact k
            · skip
              refine zw_iload ⟨rfl, rfl⟩ rfl ?_
              refine zw_const ⟨rfl, rfl⟩ ?_
              refine zw_iceq ⟨rfl, rfl⟩ rfl (fun c43 => ?_) (fun c43 => ?_)
              · skip
                refine zw_const ⟨rfl, rfl⟩ ?_
                refine zw_goto ⟨rfl, rfl⟩ rfl ?_
                refine zw_zret rfl (by first | exact Or.inl rfl | exact Or.inr rfl | omega) ?_
                refine zw_ifeq ⟨rfl, rfl⟩ rfl (fun q => absurd q (by decide)) (fun _ => ?_)
                refine zw_const ⟨rfl, rfl⟩ ?_
                refine zw_goto ⟨rfl, rfl⟩ rfl ?_
                refine zw_ret rfl ?_
                rw [show ygo s t = 5 from by grind [ygo]] at k
                exact k
              · skip
                refine zw_iload ⟨rfl, rfl⟩ rfl ?_
                refine zw_const ⟨rfl, rfl⟩ ?_
                refine zw_iceq ⟨rfl, rfl⟩ rfl (fun c45 => ?_) (fun c45 => ?_)
                · skip
                  refine zw_const ⟨rfl, rfl⟩ ?_
                  refine zw_goto ⟨rfl, rfl⟩ rfl ?_
                  refine zw_zret rfl (by first | exact Or.inl rfl | exact Or.inr rfl | omega) ?_
                  refine zw_ifeq ⟨rfl, rfl⟩ rfl (fun q => absurd q (by decide)) (fun _ => ?_)
                  refine zw_const ⟨rfl, rfl⟩ ?_
                  refine zw_goto ⟨rfl, rfl⟩ rfl ?_
                  refine zw_ret rfl ?_
                  rw [show ygo s t = 5 from by grind [ygo]] at k
                  exact k
                · skip
                  refine zw_iload ⟨rfl, rfl⟩ rfl ?_
                  refine zw_const ⟨rfl, rfl⟩ ?_
                  refine zw_icne ⟨rfl, rfl⟩ rfl (fun c47 => ?_) (fun c47 => ?_)
                  · skip
                    refine zw_const ⟨rfl, rfl⟩ ?_
                    refine zw_zret rfl (by first | exact Or.inl rfl | exact Or.inr rfl | omega) ?_
                    refine zw_ifeq ⟨rfl, rfl⟩ rfl (fun _ => ?_) (fun q => absurd (by decide) q)
                    refine zw_const ⟨rfl, rfl⟩ ?_
                    refine zw_ret rfl ?_
                    rw [show ygo s t = (-1) from by grind [ygo]] at k
                    exact k
                  · skip
                    refine zw_const ⟨rfl, rfl⟩ ?_
                    refine zw_goto ⟨rfl, rfl⟩ rfl ?_
                    refine zw_zret rfl (by first | exact Or.inl rfl | exact Or.inr rfl | omega) ?_
                    refine zw_ifeq ⟨rfl, rfl⟩ rfl (fun q => absurd q (by decide)) (fun _ => ?_)
                    refine zw_const ⟨rfl, rfl⟩ ?_
                    refine zw_goto ⟨rfl, rfl⟩ rfl ?_
                    refine zw_ret rfl ?_
                    rw [show ygo s t = 5 from by grind [ygo]] at k
                    exact k
      · skip
        refine zw_iload ⟨rfl, rfl⟩ rfl ?_
        refine zw_const ⟨rfl, rfl⟩ ?_
        refine zw_icne ⟨rfl, rfl⟩ rfl (fun c50 => ?_) (fun c50 => ?_)
        · skip
          refine zw_iload ⟨rfl, rfl⟩ rfl ?_
          refine zw_const ⟨rfl, rfl⟩ ?_
          refine zw_icne ⟨rfl, rfl⟩ rfl (fun c51 => ?_) (fun c51 => ?_)
          · skip
            refine zw_const ⟨rfl, rfl⟩ ?_
            refine zw_ret rfl ?_
            rw [show ygo s t = (-1) from by grind [ygo]] at k
            exact k
          · skip
            refine zw_const ⟨rfl, rfl⟩ ?_
            refine zw_goto ⟨rfl, rfl⟩ rfl ?_
            refine zw_ret rfl ?_
            rw [show ygo s t = 6 from by grind [ygo]] at k
            exact k
        · skip
          refine zw_const ⟨rfl, rfl⟩ ?_
          refine zw_ret rfl ?_
          rw [show ygo s t = 2 from by grind [ygo]] at k
          exact k
    · skip
      refine zw_iload ⟨rfl, rfl⟩ rfl ?_
      refine zw_const ⟨rfl, rfl⟩ ?_
      refine zw_iceq ⟨rfl, rfl⟩ rfl (fun c52 => ?_) (fun c52 => ?_)
      · skip
        refine zw_const ⟨rfl, rfl⟩ ?_
        refine zw_ret rfl ?_
        rw [show ygo s t = 3 from by grind [ygo]] at k
        exact k
      · skip
        refine zw_iload ⟨rfl, rfl⟩ rfl ?_
        refine zw_const ⟨rfl, rfl⟩ ?_
        refine zw_icne ⟨rfl, rfl⟩ rfl (fun c53 => ?_) (fun c53 => ?_)
        · skip
          refine zw_iload ⟨rfl, rfl⟩ rfl ?_
          refine zw_const ⟨rfl, rfl⟩ ?_
          refine zw_icne ⟨rfl, rfl⟩ rfl (fun c54 => ?_) (fun c54 => ?_)
          · skip
            refine zw_const ⟨rfl, rfl⟩ ?_
            refine zw_ret rfl ?_
            rw [show ygo s t = (-1) from by grind [ygo]] at k
            exact k
          · skip
            refine zw_const ⟨rfl, rfl⟩ ?_
            refine zw_goto ⟨rfl, rfl⟩ rfl ?_
            refine zw_ret rfl ?_
            rw [show ygo s t = 9 from by grind [ygo]] at k
            exact k
        · skip
          refine zw_const ⟨rfl, rfl⟩ ?_
          refine zw_ret rfl ?_
          rw [show ygo s t = 3 from by grind [ygo]] at k
          exact k
  · skip
    refine zw_iload ⟨rfl, rfl⟩ rfl ?_
    refine zw_const ⟨rfl, rfl⟩ ?_
    refine zw_iceq ⟨rfl, rfl⟩ rfl (fun c55 => ?_) (fun c55 => ?_)
    · skip
      refine zw_const ⟨rfl, rfl⟩ ?_
      refine zw_goto ⟨rfl, rfl⟩ rfl ?_
      refine zw_ret rfl ?_
      rw [show ygo s t = 1 from by grind [ygo]] at k
      exact k
    · skip
      refine zw_iload ⟨rfl, rfl⟩ rfl ?_
      refine zw_const ⟨rfl, rfl⟩ ?_
      refine zw_icne ⟨rfl, rfl⟩ rfl (fun c56 => ?_) (fun c56 => ?_)
      · skip
        refine zw_const ⟨rfl, rfl⟩ ?_
        refine zw_ret rfl ?_
        rw [show ygo s t = (-1) from by grind [ygo]] at k
        exact k
      · skip
        refine zw_const ⟨rfl, rfl⟩ ?_
        refine zw_goto ⟨rfl, rfl⟩ rfl ?_
        refine zw_ret rfl ?_
        rw [show ygo s t = 1 from by grind [ygo]] at k
        exact k

theorem m_firstState {t : Int} {M : zM} {Q : zV → zM → Prop} (k : Q (0, yfs t) M) : zWp kX_firstState 0 [(0, t)] [] M Q := by
  refine zw_iload ⟨rfl, rfl⟩ rfl ?_
  by_cases e1_0 : t = 1
  · refine zw_table ⟨rfl, rfl⟩ (t' := 2) (by rw [e1_0]; rfl) ?_
    refine zw_const ⟨rfl, rfl⟩ ?_
    refine zw_ret rfl ?_
    rw [show yfs t = 1 from by grind [yfs]] at k
    exact k
  by_cases e1_1 : t = 2
  · refine zw_table ⟨rfl, rfl⟩ (t' := 4) (by rw [e1_1]; rfl) ?_
    refine zw_const ⟨rfl, rfl⟩ ?_
    refine zw_ret rfl ?_
    rw [show yfs t = 7 from by grind [yfs]] at k
    exact k
  by_cases e1_2 : t = 3
  · refine zw_table ⟨rfl, rfl⟩ (t' := 6) (by rw [e1_2]; rfl) ?_
    refine zw_const ⟨rfl, rfl⟩ ?_
    refine zw_ret rfl ?_
    rw [show yfs t = 9 from by grind [yfs]] at k
    exact k
  by_cases e1_3 : t = 4
  · refine zw_table ⟨rfl, rfl⟩ (t' := 8) (by rw [e1_3]; rfl) ?_
    refine zw_const ⟨rfl, rfl⟩ ?_
    refine zw_ret rfl ?_
    rw [show yfs t = 8 from by grind [yfs]] at k
    exact k
  by_cases e1_4 : t = 5
  · refine zw_table ⟨rfl, rfl⟩ (t' := 12) (by rw [e1_4]; rfl) ?_
    refine zw_iload ⟨rfl, rfl⟩ rfl ?_
    refine zw_calls1 ⟨rfl, rfl⟩ rfl rfl ?_
    refine zw_iload ⟨rfl, rfl⟩ rfl ?_
    refine zw_const ⟨rfl, rfl⟩ ?_
    refine zw_iclt ⟨rfl, rfl⟩ rfl (fun c2 => ?_) (fun c2 => ?_)
    · skip
      refine zw_const ⟨rfl, rfl⟩ ?_
      refine zw_zret rfl (by first | exact Or.inl rfl | exact Or.inr rfl | omega) ?_
      refine zw_ifeq ⟨rfl, rfl⟩ rfl (fun _ => ?_) (fun q => absurd (by decide) q)
      refine zw_const ⟨rfl, rfl⟩ ?_
      refine zw_ret rfl ?_
      rw [show yfs t = 0 from by grind [yfs]] at k
      exact k
    · skip
      refine zw_iload ⟨rfl, rfl⟩ rfl ?_
      refine zw_const ⟨rfl, rfl⟩ ?_
      refine zw_icgt ⟨rfl, rfl⟩ rfl (fun c4 => ?_) (fun c4 => ?_)
      · skip
        refine zw_const ⟨rfl, rfl⟩ ?_
        refine zw_zret rfl (by first | exact Or.inl rfl | exact Or.inr rfl | omega) ?_
        refine zw_ifeq ⟨rfl, rfl⟩ rfl (fun _ => ?_) (fun q => absurd (by decide) q)
        refine zw_const ⟨rfl, rfl⟩ ?_
        refine zw_ret rfl ?_
        rw [show yfs t = 0 from by grind [yfs]] at k
        exact k
      · skip
        refine zw_const ⟨rfl, rfl⟩ ?_
        refine zw_goto ⟨rfl, rfl⟩ rfl ?_
        refine zw_zret rfl (by first | exact Or.inl rfl | exact Or.inr rfl | omega) ?_
        refine zw_ifeq ⟨rfl, rfl⟩ rfl (fun q => absurd q (by decide)) (fun _ => ?_)
        refine zw_const ⟨rfl, rfl⟩ ?_
        refine zw_goto ⟨rfl, rfl⟩ rfl ?_
        refine zw_ret rfl ?_
        rw [show yfs t = 5 from by grind [yfs]] at k
        exact k
  by_cases e1_5 : t = 6
  · refine zw_table ⟨rfl, rfl⟩ (t' := 12) (by rw [e1_5]; rfl) ?_
    refine zw_iload ⟨rfl, rfl⟩ rfl ?_
    refine zw_calls1 ⟨rfl, rfl⟩ rfl rfl ?_
    refine zw_iload ⟨rfl, rfl⟩ rfl ?_
    refine zw_const ⟨rfl, rfl⟩ ?_
    refine zw_iclt ⟨rfl, rfl⟩ rfl (fun c7 => ?_) (fun c7 => ?_)
    · skip
      refine zw_const ⟨rfl, rfl⟩ ?_
      refine zw_zret rfl (by first | exact Or.inl rfl | exact Or.inr rfl | omega) ?_
      refine zw_ifeq ⟨rfl, rfl⟩ rfl (fun _ => ?_) (fun q => absurd (by decide) q)
      refine zw_const ⟨rfl, rfl⟩ ?_
      refine zw_ret rfl ?_
      rw [show yfs t = 0 from by grind [yfs]] at k
      exact k
    · skip
      refine zw_iload ⟨rfl, rfl⟩ rfl ?_
      refine zw_const ⟨rfl, rfl⟩ ?_
      refine zw_icgt ⟨rfl, rfl⟩ rfl (fun c9 => ?_) (fun c9 => ?_)
      · skip
        refine zw_const ⟨rfl, rfl⟩ ?_
        refine zw_zret rfl (by first | exact Or.inl rfl | exact Or.inr rfl | omega) ?_
        refine zw_ifeq ⟨rfl, rfl⟩ rfl (fun _ => ?_) (fun q => absurd (by decide) q)
        refine zw_const ⟨rfl, rfl⟩ ?_
        refine zw_ret rfl ?_
        rw [show yfs t = 0 from by grind [yfs]] at k
        exact k
      · skip
        refine zw_const ⟨rfl, rfl⟩ ?_
        refine zw_goto ⟨rfl, rfl⟩ rfl ?_
        refine zw_zret rfl (by first | exact Or.inl rfl | exact Or.inr rfl | omega) ?_
        refine zw_ifeq ⟨rfl, rfl⟩ rfl (fun q => absurd q (by decide)) (fun _ => ?_)
        refine zw_const ⟨rfl, rfl⟩ ?_
        refine zw_goto ⟨rfl, rfl⟩ rfl ?_
        refine zw_ret rfl ?_
        rw [show yfs t = 5 from by grind [yfs]] at k
        exact k
  by_cases e1_6 : t = 7
  · refine zw_table ⟨rfl, rfl⟩ (t' := 12) (by rw [e1_6]; rfl) ?_
    refine zw_iload ⟨rfl, rfl⟩ rfl ?_
    refine zw_calls1 ⟨rfl, rfl⟩ rfl rfl ?_
    refine zw_iload ⟨rfl, rfl⟩ rfl ?_
    refine zw_const ⟨rfl, rfl⟩ ?_
    refine zw_iclt ⟨rfl, rfl⟩ rfl (fun c12 => ?_) (fun c12 => ?_)
    · skip
      refine zw_const ⟨rfl, rfl⟩ ?_
      refine zw_zret rfl (by first | exact Or.inl rfl | exact Or.inr rfl | omega) ?_
      refine zw_ifeq ⟨rfl, rfl⟩ rfl (fun _ => ?_) (fun q => absurd (by decide) q)
      refine zw_const ⟨rfl, rfl⟩ ?_
      refine zw_ret rfl ?_
      rw [show yfs t = 0 from by grind [yfs]] at k
      exact k
    · skip
      refine zw_iload ⟨rfl, rfl⟩ rfl ?_
      refine zw_const ⟨rfl, rfl⟩ ?_
      refine zw_icgt ⟨rfl, rfl⟩ rfl (fun c14 => ?_) (fun c14 => ?_)
      · skip
        refine zw_const ⟨rfl, rfl⟩ ?_
        refine zw_zret rfl (by first | exact Or.inl rfl | exact Or.inr rfl | omega) ?_
        refine zw_ifeq ⟨rfl, rfl⟩ rfl (fun _ => ?_) (fun q => absurd (by decide) q)
        refine zw_const ⟨rfl, rfl⟩ ?_
        refine zw_ret rfl ?_
        rw [show yfs t = 0 from by grind [yfs]] at k
        exact k
      · skip
        refine zw_const ⟨rfl, rfl⟩ ?_
        refine zw_goto ⟨rfl, rfl⟩ rfl ?_
        refine zw_zret rfl (by first | exact Or.inl rfl | exact Or.inr rfl | omega) ?_
        refine zw_ifeq ⟨rfl, rfl⟩ rfl (fun q => absurd q (by decide)) (fun _ => ?_)
        refine zw_const ⟨rfl, rfl⟩ ?_
        refine zw_goto ⟨rfl, rfl⟩ rfl ?_
        refine zw_ret rfl ?_
        rw [show yfs t = 5 from by grind [yfs]] at k
        exact k
  by_cases e1_7 : t = 8
  · refine zw_table ⟨rfl, rfl⟩ (t' := 12) (by rw [e1_7]; rfl) ?_
    refine zw_iload ⟨rfl, rfl⟩ rfl ?_
    refine zw_calls1 ⟨rfl, rfl⟩ rfl rfl ?_
    refine zw_iload ⟨rfl, rfl⟩ rfl ?_
    refine zw_const ⟨rfl, rfl⟩ ?_
    refine zw_iclt ⟨rfl, rfl⟩ rfl (fun c17 => ?_) (fun c17 => ?_)
    · skip
      refine zw_const ⟨rfl, rfl⟩ ?_
      refine zw_zret rfl (by first | exact Or.inl rfl | exact Or.inr rfl | omega) ?_
      refine zw_ifeq ⟨rfl, rfl⟩ rfl (fun _ => ?_) (fun q => absurd (by decide) q)
      refine zw_const ⟨rfl, rfl⟩ ?_
      refine zw_ret rfl ?_
      rw [show yfs t = 0 from by grind [yfs]] at k
      exact k
    · skip
      refine zw_iload ⟨rfl, rfl⟩ rfl ?_
      refine zw_const ⟨rfl, rfl⟩ ?_
      refine zw_icgt ⟨rfl, rfl⟩ rfl (fun c19 => ?_) (fun c19 => ?_)
      · skip
        refine zw_const ⟨rfl, rfl⟩ ?_
        refine zw_zret rfl (by first | exact Or.inl rfl | exact Or.inr rfl | omega) ?_
        refine zw_ifeq ⟨rfl, rfl⟩ rfl (fun _ => ?_) (fun q => absurd (by decide) q)
        refine zw_const ⟨rfl, rfl⟩ ?_
        refine zw_ret rfl ?_
        rw [show yfs t = 0 from by grind [yfs]] at k
        exact k
      · skip
        refine zw_const ⟨rfl, rfl⟩ ?_
        refine zw_goto ⟨rfl, rfl⟩ rfl ?_
        refine zw_zret rfl (by first | exact Or.inl rfl | exact Or.inr rfl | omega) ?_
        refine zw_ifeq ⟨rfl, rfl⟩ rfl (fun q => absurd q (by decide)) (fun _ => ?_)
        refine zw_const ⟨rfl, rfl⟩ ?_
        refine zw_goto ⟨rfl, rfl⟩ rfl ?_
        refine zw_ret rfl ?_
        rw [show yfs t = 5 from by grind [yfs]] at k
        exact k
  by_cases e1_8 : t = 9
  · refine zw_table ⟨rfl, rfl⟩ (t' := 12) (by rw [e1_8]; rfl) ?_
    refine zw_iload ⟨rfl, rfl⟩ rfl ?_
    refine zw_calls1 ⟨rfl, rfl⟩ rfl rfl ?_
    refine zw_iload ⟨rfl, rfl⟩ rfl ?_
    refine zw_const ⟨rfl, rfl⟩ ?_
    refine zw_iclt ⟨rfl, rfl⟩ rfl (fun c22 => ?_) (fun c22 => ?_)
    · skip
      refine zw_const ⟨rfl, rfl⟩ ?_
      refine zw_zret rfl (by first | exact Or.inl rfl | exact Or.inr rfl | omega) ?_
      refine zw_ifeq ⟨rfl, rfl⟩ rfl (fun _ => ?_) (fun q => absurd (by decide) q)
      refine zw_const ⟨rfl, rfl⟩ ?_
      refine zw_ret rfl ?_
      rw [show yfs t = 0 from by grind [yfs]] at k
      exact k
    · skip
      refine zw_iload ⟨rfl, rfl⟩ rfl ?_
      refine zw_const ⟨rfl, rfl⟩ ?_
      refine zw_icgt ⟨rfl, rfl⟩ rfl (fun c24 => ?_) (fun c24 => ?_)
      · skip
        refine zw_const ⟨rfl, rfl⟩ ?_
        refine zw_zret rfl (by first | exact Or.inl rfl | exact Or.inr rfl | omega) ?_
        refine zw_ifeq ⟨rfl, rfl⟩ rfl (fun _ => ?_) (fun q => absurd (by decide) q)
        refine zw_const ⟨rfl, rfl⟩ ?_
        refine zw_ret rfl ?_
        rw [show yfs t = 0 from by grind [yfs]] at k
        exact k
      · skip
        refine zw_const ⟨rfl, rfl⟩ ?_
        refine zw_goto ⟨rfl, rfl⟩ rfl ?_
        refine zw_zret rfl (by first | exact Or.inl rfl | exact Or.inr rfl | omega) ?_
        refine zw_ifeq ⟨rfl, rfl⟩ rfl (fun q => absurd q (by decide)) (fun _ => ?_)
        refine zw_const ⟨rfl, rfl⟩ ?_
        refine zw_goto ⟨rfl, rfl⟩ rfl ?_
        refine zw_ret rfl ?_
        rw [show yfs t = 5 from by grind [yfs]] at k
        exact k
  by_cases e1_9 : t = 10
  · refine zw_table ⟨rfl, rfl⟩ (t' := 10) (by rw [e1_9]; rfl) ?_
    refine zw_const ⟨rfl, rfl⟩ ?_
    refine zw_ret rfl ?_
    rw [show yfs t = 6 from by grind [yfs]] at k
    exact k
  by_cases e1_10 : t = 11
  · refine zw_table ⟨rfl, rfl⟩ (t' := 10) (by rw [e1_10]; rfl) ?_
    refine zw_const ⟨rfl, rfl⟩ ?_
    refine zw_ret rfl ?_
    rw [show yfs t = 6 from by grind [yfs]] at k
    exact k
  refine zw_table ⟨rfl, rfl⟩ (t' := 12) (by rw [ztgt_out (by show _ < (1 : Int) ∨ 1 + 11 ≤ _; omega)]; rfl) ?_
  refine zw_iload ⟨rfl, rfl⟩ rfl ?_
  refine zw_calls1 ⟨rfl, rfl⟩ rfl rfl ?_
  refine zw_iload ⟨rfl, rfl⟩ rfl ?_
  refine zw_const ⟨rfl, rfl⟩ ?_
  refine zw_iclt ⟨rfl, rfl⟩ rfl (fun c27 => ?_) (fun c27 => ?_)
  · skip
    refine zw_const ⟨rfl, rfl⟩ ?_
    refine zw_zret rfl (by first | exact Or.inl rfl | exact Or.inr rfl | omega) ?_
    refine zw_ifeq ⟨rfl, rfl⟩ rfl (fun _ => ?_) (fun q => absurd (by decide) q)
    refine zw_const ⟨rfl, rfl⟩ ?_
    refine zw_ret rfl ?_
    rw [show yfs t = 0 from by grind [yfs]] at k
    exact k
  · skip
    refine zw_iload ⟨rfl, rfl⟩ rfl ?_
    refine zw_const ⟨rfl, rfl⟩ ?_
    refine zw_icgt ⟨rfl, rfl⟩ rfl (fun c29 => ?_) (fun c29 => ?_)
    · skip
      refine zw_const ⟨rfl, rfl⟩ ?_
      refine zw_zret rfl (by first | exact Or.inl rfl | exact Or.inr rfl | omega) ?_
      refine zw_ifeq ⟨rfl, rfl⟩ rfl (fun _ => ?_) (fun q => absurd (by decide) q)
      refine zw_const ⟨rfl, rfl⟩ ?_
      refine zw_ret rfl ?_
      rw [show yfs t = 0 from by grind [yfs]] at k
      exact k
    · skip
      refine zw_const ⟨rfl, rfl⟩ ?_
      refine zw_goto ⟨rfl, rfl⟩ rfl ?_
      refine zw_zret rfl (by first | exact Or.inl rfl | exact Or.inr rfl | omega) ?_
      refine zw_ifeq ⟨rfl, rfl⟩ rfl (fun q => absurd q (by decide)) (fun _ => ?_)
      refine zw_const ⟨rfl, rfl⟩ ?_
      refine zw_goto ⟨rfl, rfl⟩ rfl ?_
      refine zw_ret rfl ?_
      rw [show yfs t = 5 from by grind [yfs]] at k
      exact k

theorem m_sortOf {t : Int} {M : zM} {Q : zV → zM → Prop} (k : Q (0, yso t) M) : zWp kX_sortOf 0 [(0, t)] [] M Q := by
  refine zw_iload ⟨rfl, rfl⟩ rfl ?_
  by_cases e1_0 : t = 0
  · refine zw_table ⟨rfl, rfl⟩ (t' := 6) (by rw [e1_0]; rfl) ?_
    refine zw_const ⟨rfl, rfl⟩ ?_
    refine zw_ret rfl ?_
    rw [show yso t = 3 from by grind [yso]] at k
    exact k
  by_cases e1_1 : t = 1
  · refine zw_table ⟨rfl, rfl⟩ (t' := 2) (by rw [e1_1]; rfl) ?_
    refine zw_const ⟨rfl, rfl⟩ ?_
    refine zw_ret rfl ?_
    rw [show yso t = 0 from by grind [yso]] at k
    exact k
  by_cases e1_2 : t = 2
  · refine zw_table ⟨rfl, rfl⟩ (t' := 4) (by rw [e1_2]; rfl) ?_
    refine zw_const ⟨rfl, rfl⟩ ?_
    refine zw_ret rfl ?_
    rw [show yso t = 1 from by grind [yso]] at k
    exact k
  by_cases e1_3 : t = 3
  · refine zw_table ⟨rfl, rfl⟩ (t' := 8) (by rw [e1_3]; rfl) ?_
    refine zw_const ⟨rfl, rfl⟩ ?_
    refine zw_ret rfl ?_
    rw [show yso t = 2 from by grind [yso]] at k
    exact k
  by_cases e1_4 : t = 4
  · refine zw_table ⟨rfl, rfl⟩ (t' := 8) (by rw [e1_4]; rfl) ?_
    refine zw_const ⟨rfl, rfl⟩ ?_
    refine zw_ret rfl ?_
    rw [show yso t = 2 from by grind [yso]] at k
    exact k
  by_cases e1_5 : t = 5
  · refine zw_table ⟨rfl, rfl⟩ (t' := 8) (by rw [e1_5]; rfl) ?_
    refine zw_const ⟨rfl, rfl⟩ ?_
    refine zw_ret rfl ?_
    rw [show yso t = 2 from by grind [yso]] at k
    exact k
  by_cases e1_6 : t = 6
  · refine zw_table ⟨rfl, rfl⟩ (t' := 8) (by rw [e1_6]; rfl) ?_
    refine zw_const ⟨rfl, rfl⟩ ?_
    refine zw_ret rfl ?_
    rw [show yso t = 2 from by grind [yso]] at k
    exact k
  by_cases e1_7 : t = 7
  · refine zw_table ⟨rfl, rfl⟩ (t' := 8) (by rw [e1_7]; rfl) ?_
    refine zw_const ⟨rfl, rfl⟩ ?_
    refine zw_ret rfl ?_
    rw [show yso t = 2 from by grind [yso]] at k
    exact k
  by_cases e1_8 : t = 8
  · refine zw_table ⟨rfl, rfl⟩ (t' := 8) (by rw [e1_8]; rfl) ?_
    refine zw_const ⟨rfl, rfl⟩ ?_
    refine zw_ret rfl ?_
    rw [show yso t = 2 from by grind [yso]] at k
    exact k
  by_cases e1_9 : t = 9
  · refine zw_table ⟨rfl, rfl⟩ (t' := 8) (by rw [e1_9]; rfl) ?_
    refine zw_const ⟨rfl, rfl⟩ ?_
    refine zw_ret rfl ?_
    rw [show yso t = 2 from by grind [yso]] at k
    exact k
  by_cases e1_10 : t = 10
  · refine zw_table ⟨rfl, rfl⟩ (t' := 8) (by rw [e1_10]; rfl) ?_
    refine zw_const ⟨rfl, rfl⟩ ?_
    refine zw_ret rfl ?_
    rw [show yso t = 2 from by grind [yso]] at k
    exact k
  by_cases e1_11 : t = 11
  · refine zw_table ⟨rfl, rfl⟩ (t' := 8) (by rw [e1_11]; rfl) ?_
    refine zw_const ⟨rfl, rfl⟩ ?_
    refine zw_ret rfl ?_
    rw [show yso t = 2 from by grind [yso]] at k
    exact k
  by_cases e1_12 : t = 12
  · refine zw_table ⟨rfl, rfl⟩ (t' := 6) (by rw [e1_12]; rfl) ?_
    refine zw_const ⟨rfl, rfl⟩ ?_
    refine zw_ret rfl ?_
    rw [show yso t = 3 from by grind [yso]] at k
    exact k
  by_cases e1_13 : t = 13
  · refine zw_table ⟨rfl, rfl⟩ (t' := 6) (by rw [e1_13]; rfl) ?_
    refine zw_const ⟨rfl, rfl⟩ ?_
    refine zw_ret rfl ?_
    rw [show yso t = 3 from by grind [yso]] at k
    exact k
  refine zw_table ⟨rfl, rfl⟩ (t' := 8) (by rw [ztgt_out (by show _ < (0 : Int) ∨ 0 + 14 ≤ _; omega)]; rfl) ?_
  refine zw_const ⟨rfl, rfl⟩ ?_
  refine zw_ret rfl ?_
  rw [show yso t = 2 from by grind [yso]] at k
  exact k

theorem m_stateBehind {s t : Int} {M : zM} {Q : zV → zM → Prop} (k : Q (0, ysb s t) M) : zWp kX_stateBehind 0 [(0, s), (0, t), (3, 0)] [] M Q := by
  refine zw_iload ⟨rfl, rfl⟩ rfl ?_
  refine zw_iload ⟨rfl, rfl⟩ rfl ?_
  refine zw_calls2 ⟨rfl, rfl⟩ rfl rfl ?_
  refine m_goOn ?_
  refine zw_istore_2 ⟨rfl, rfl⟩ ?_
  refine zw_iload ⟨rfl, rfl⟩ rfl ?_
  refine zw_const ⟨rfl, rfl⟩ ?_
  refine zw_icne ⟨rfl, rfl⟩ rfl (fun c1 => ?_) (fun c1 => ?_)
  · skip
    refine zw_iload ⟨rfl, rfl⟩ rfl ?_
    refine zw_ret rfl ?_
    rw [show ysb s t = ygo s t from by grind [ysb]] at k
    exact k
  · skip
    refine zw_iload ⟨rfl, rfl⟩ rfl ?_
    refine zw_calls1 ⟨rfl, rfl⟩ rfl rfl ?_
    refine m_firstState ?_
    refine zw_goto ⟨rfl, rfl⟩ rfl ?_
    refine zw_ret rfl ?_
    rw [show ysb s t = yfs t from by grind [ysb]] at k
    exact k

theorem m_breaks {s t : Int} {M : zM} {Q : zV → zM → Prop} (k : Q (0, ybr s t) M) : zWp kX_breaks 0 [(0, s), (0, t)] [] M Q := by
  refine zw_iload ⟨rfl, rfl⟩ rfl ?_
  refine zw_calls1 ⟨rfl, rfl⟩ rfl rfl ?_
  refine m_sortOf ?_
  refine zw_const ⟨rfl, rfl⟩ ?_
  refine zw_icne ⟨rfl, rfl⟩ rfl (fun c1 => ?_) (fun c1 => ?_)
  · skip
    refine zw_const ⟨rfl, rfl⟩ ?_
    refine zw_zret rfl (by first | exact Or.inl rfl | exact Or.inr rfl | omega) ?_
    rw [show ybr s t = 0 from by grind [ybr]] at k
    exact k
  · skip
    refine zw_iload ⟨rfl, rfl⟩ rfl ?_
    refine zw_iload ⟨rfl, rfl⟩ rfl ?_
    refine zw_calls2 ⟨rfl, rfl⟩ rfl rfl ?_
    refine m_goOn ?_
    refine zw_const ⟨rfl, rfl⟩ ?_
    refine zw_icne ⟨rfl, rfl⟩ rfl (fun c2 => ?_) (fun c2 => ?_)
    · skip
      refine zw_const ⟨rfl, rfl⟩ ?_
      refine zw_zret rfl (by first | exact Or.inl rfl | exact Or.inr rfl | omega) ?_
      rw [show ybr s t = 0 from by grind [ybr]] at k
      exact k
    · skip
      refine zw_const ⟨rfl, rfl⟩ ?_
      refine zw_goto ⟨rfl, rfl⟩ rfl ?_
      refine zw_zret rfl (by first | exact Or.inl rfl | exact Or.inr rfl | omega) ?_
      rw [show ybr s t = 1 from by grind [ybr]] at k
      exact k

def yat (M : zM) (a p : Int) : Int := if 0 ≤ p ∧ p < M a 2 then M (a + 6) p else -1

theorem m_letterAt {p : Int} {M : zM} {Q : zV → zM → Prop} (hn : M 2 2 ≤ 60) (k : Q (0, yat M 2 p) M) : zWp kSt_letterAt 0 [(1, 2), (0, p)] [] M Q := by
  refine zw_iload ⟨rfl, rfl⟩ rfl ?_
  refine zw_iflt ⟨rfl, rfl⟩ rfl (fun c1 => ?_) (fun c1 => ?_)
  · skip
    refine zw_const ⟨rfl, rfl⟩ ?_
    refine zw_ret rfl ?_
    rw [show yat M 2 p = (-1) from by grind [yat]] at k
    exact k
  · skip
    refine zw_iload ⟨rfl, rfl⟩ rfl ?_
    refine zw_aload ⟨rfl, rfl⟩ rfl ?_
    refine zw_getIv (v := M 2 2) ⟨rfl, rfl⟩ zc_2 (by decide) rfl ?_
    refine zw_icge ⟨rfl, rfl⟩ rfl (fun c2 => ?_) (fun c2 => ?_)
    · skip
      refine zw_const ⟨rfl, rfl⟩ ?_
      refine zw_ret rfl ?_
      rw [show yat M 2 p = (-1) from by grind [yat]] at k
      exact k
    · skip
      refine zw_aload ⟨rfl, rfl⟩ rfl ?_
      refine zw_getR 8 ⟨rfl, rfl⟩ zr_2_1 ?_
      refine zw_iload ⟨rfl, rfl⟩ rfl ?_
      refine zw_ialdv (v := M 8 p) ⟨rfl, rfl⟩ za_8 (by omega) rfl ?_
      refine zw_goto ⟨rfl, rfl⟩ rfl ?_
      refine zw_ret rfl ?_
      rw [show yat M 2 p = M 8 p from by grind [yat]] at k
      exact k

theorem m_takeOut_l {M : zM} {p m : Int} {Q : zV → zM → Prop} (hp : 0 ≤ p) (hm : 0 ≤ m) (hn : p + m ≤ M 2 2 ∧ M 2 2 ≤ 60) (k : ∀ N : zM, (N = fun b j => if b = 8 ∧ p ≤ j ∧ j < M 2 2 - m then M 8 (j + m) else if b = 2 ∧ j = 2 then M 2 2 - m else M b j) → Q (3, 0) N) : ∀ (f : Nat) (q : Int) (N : zM), (p ≤ q ∧ q ≤ M 2 2 - m) → (N 2 = M 2 ∧ (∀ b, b ≠ 8 → N b = M b) ∧ (∀ j, p ≤ j ∧ j < q → N 8 j = M 8 (j + m)) ∧ ∀ j, j < p ∨ q ≤ j → N 8 j = M 8 j) → (M 2 2 - m - q).toNat < f → zWp kSt_takeOut 13 [(1, 2), (0, p), (0, m), (0, q)] [] N Q := by
  intro f
  induction f with
  | zero => intro q N h1 h2 hf; exact absurd hf (Nat.not_lt_zero _)
  | succ f ih =>
    intro q N h1 h2 hf
    refine zw_iload ⟨rfl, rfl⟩ rfl ?_
    refine zw_iload ⟨rfl, rfl⟩ rfl ?_
    refine zw_iadd ⟨rfl, rfl⟩ (by omega) ?_
    refine zw_aload ⟨rfl, rfl⟩ rfl ?_
    refine zw_getIv (v := M 2 2) ⟨rfl, rfl⟩ zc_2 (by decide) (congrFun h2.1 2) ?_
    refine zw_icge ⟨rfl, rfl⟩ rfl (fun c1 => ?_) (fun c1 => ?_)
    · skip
      refine zw_aload ⟨rfl, rfl⟩ rfl ?_
      refine zw_dup ⟨rfl, rfl⟩ (by decide) ?_
      refine zw_getIv (v := M 2 2) ⟨rfl, rfl⟩ zc_2 (by decide) (congrFun h2.1 2) ?_
      refine zw_iload ⟨rfl, rfl⟩ rfl ?_
      refine zw_isub ⟨rfl, rfl⟩ (by omega) ?_
      refine zw_putI ⟨rfl, rfl⟩ zc_2 (by decide) (fun h => absurd h (by decide)) ?_
      refine zw_void rfl ?_
      refine k _ ?_
      funext b j
      grind [zup]
    · skip
      refine zw_aload ⟨rfl, rfl⟩ rfl ?_
      refine zw_getR 8 ⟨rfl, rfl⟩ zr_2_1 ?_
      refine zw_iload ⟨rfl, rfl⟩ rfl ?_
      refine zw_aload ⟨rfl, rfl⟩ rfl ?_
      refine zw_getR 8 ⟨rfl, rfl⟩ zr_2_1 ?_
      refine zw_iload ⟨rfl, rfl⟩ rfl ?_
      refine zw_iload ⟨rfl, rfl⟩ rfl ?_
      refine zw_iadd ⟨rfl, rfl⟩ (by omega) ?_
      refine zw_ialdv (v := N 8 (q + m)) ⟨rfl, rfl⟩ za_8 (by omega) rfl ?_
      refine zw_iast ⟨rfl, rfl⟩ za_8 (by omega) ?_
      refine zw_iinc_3 ⟨rfl, rfl⟩ (by omega) ?_
      refine zw_goto ⟨rfl, rfl⟩ rfl ?_
      refine ih _ _ ?_ ?_ ?_
      · omega
      · grind [zup]
      · omega

theorem m_takeOut {p m : Int} {M : zM} {Q : zV → zM → Prop} (hp : 0 ≤ p) (hm : 0 ≤ m) (hn : p + m ≤ M 2 2 ∧ M 2 2 ≤ 60) (k : ∀ N : zM, (N = fun b j => if b = 8 ∧ p ≤ j ∧ j < M 2 2 - m then M 8 (j + m) else if b = 2 ∧ j = 2 then M 2 2 - m else M b j) → Q (3, 0) N) : zWp kSt_takeOut 0 [(1, 2), (0, p), (0, m), (3, 0)] [] M Q := by
  refine zw_iload ⟨rfl, rfl⟩ rfl ?_
  refine zw_iflt ⟨rfl, rfl⟩ rfl (fun q => absurd q (by omega)) (fun _ => ?_)
  refine zw_iload ⟨rfl, rfl⟩ rfl ?_
  refine zw_iflt ⟨rfl, rfl⟩ rfl (fun q => absurd q (by omega)) (fun _ => ?_)
  refine zw_iload ⟨rfl, rfl⟩ rfl ?_
  refine zw_iload ⟨rfl, rfl⟩ rfl ?_
  refine zw_iadd ⟨rfl, rfl⟩ (by omega) ?_
  refine zw_aload ⟨rfl, rfl⟩ rfl ?_
  refine zw_getIv (v := M 2 2) ⟨rfl, rfl⟩ zc_2 (by decide) rfl ?_
  refine zw_icle ⟨rfl, rfl⟩ rfl (fun _ => ?_) (fun q => absurd (by omega) q)
  refine zw_iload ⟨rfl, rfl⟩ rfl ?_
  refine zw_istore_3 ⟨rfl, rfl⟩ ?_
  refine m_takeOut_l hp hm hn k _ _ _ ?_ ?_ (Nat.lt_succ_self _)
  · exact ⟨by omega, by omega⟩
  · exact ⟨rfl, fun b hb => rfl, fun j hj => by grind, fun j hj => by grind⟩
