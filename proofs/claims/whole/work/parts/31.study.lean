/-! The class' Anatomy: study, and what Cut is told of it -/
theorem ydd_iff {K : Int → Int} {n b : Int} (hK : yKr K n) (h0 : 0 ≤ b) (h1 : b < n) (hb : ybg K b) : ydd K b = 1 ↔ ytl K b < yov K b ∧ K (ytl K b) = 3 := by
  obtain ⟨-, ⟨a1, a2, a3⟩, a4⟩ := yov_sp hK h0 h1 hb
  constructor
  · intro h
    unfold ydd at h
    split at h
    · rename_i q
      refine ⟨?_, q.2⟩
      have e : yov K b = yed K (ytl K b) := if_pos q.1
      have ht := (ykp hK (p := ytl K b) (by rw [q.2]; decide)).2
      have hn := hK.1
      rw [e]
      unfold yed
      rw [if_pos q.2]
      split
      · rename_i hj
        have ht2 := (ykp hK (p := ytl K b + 1) (by rcases hj with z | z <;> rw [z] <;> decide)).2
        have := (ymk_sp hK 61 (ytl K b + 2) (by omega) (by omega) (by omega)).1
        omega
      · have := (ymk_sp hK 61 (ytl K b + 1) (by omega) (by omega) (by omega)).1
        omega
    · omega
  · intro h
    rcases a4 (ytl K b) (Int.le_refl _) h.1 with z | z | z
    · exact z.2.1
    · omega
    · omega
theorem ydd_r (K : Int → Int) (b : Int) : ydd K b = 0 ∨ ydd K b = 1 := by unfold ydd; split <;> simp
theorem ydd_n {K : Int → Int} {n b : Int} (hK : yKr K n) (h0 : 0 ≤ b) (h1 : b < n) (hb : ybg K b) (h : ¬ (ytl K b < yov K b ∧ K (ytl K b) = 3)) : ydd K b = 0 := (ydd_r K b).resolve_right (fun z => h ((ydd_iff hK h0 h1 hb).mp z))
theorem yA0 {σ : yS} {K : Int → Int} {b : Int} (h : K b ≠ 1) : yms K b = 0 ∧ yba σ K b = 0 ∧ yrp σ K b = 0 ∧ ypr σ K b = 0 := by
  have e : yba σ K b = 0 := if_neg h
  refine ⟨if_neg h, e, if_neg (fun z => h z.1), ?_⟩
  unfold ypr
  rw [e]
  rfl

section
set_option maxHeartbeats 8000000
theorem m_study {c : Int} {M : zM} {Q : zV → zM → Prop} {σ : yS} (hV : yVal σ) (hS : yTold M σ) (hC : yCut M (yK σ) (σ 0)) (hc : 0 ≤ c ∧ c < yci (yK σ) (σ 0)) (k : ∀ N : zM, (yAna N σ (yK σ) (yB (yK σ) c) (yB (yK σ) (c + 1)) ∧ ∀ x, ¬ (120 ≤ x ∧ x ≤ 125) → N x = M x) → Q (3, 0) N) : zWp kAn_study 0 [(1, 120), (1, 2), (1, 105), (0, c)] [] M Q := by
  have hK := yKr_K hV
  have hn := hV.1
  obtain ⟨⟨h0, hlt, hle⟩, hb, -, -⟩ := yB_cl hK hc.1 hc.2
  have h1 : yB (yK σ) c < σ 0 := by omega
  have hov := (yov_sp hK h0 h1 hb).2.1
  have eov := yB_ov hK hc.1 hc.2
  have hkr := hK.2.1 _ h0 h1
  have hso := yso_k hkr.1 hkr.2
  refine zw_aload ⟨rfl, rfl⟩ rfl ?_
  refine zw_aload ⟨rfl, rfl⟩ rfl ?_
  refine zw_iload ⟨rfl, rfl⟩ rfl ?_
  refine zw_const ⟨rfl, rfl⟩ ?_
  refine zw_callv3 ⟨rfl, rfl⟩ rfl zc_105 rfl ?_
  refine m_sort_c hK hC hc ?_
  refine zw_putI ⟨rfl, rfl⟩ zc_120 (by decide) (fun h => absurd h (by decide)) ?_
  refine zw_aload ⟨rfl, rfl⟩ rfl ?_
  refine zw_aload ⟨rfl, rfl⟩ rfl ?_
  refine zw_iload ⟨rfl, rfl⟩ rfl ?_
  refine zw_const ⟨rfl, rfl⟩ ?_
  refine zw_callv3 ⟨rfl, rfl⟩ rfl zc_105 rfl ?_
  refine m_beg_c hK (hC.cg (fun x y1 y2 => by rw [zup_row (by omega)])) hc ?_
  refine zw_putI ⟨rfl, rfl⟩ zc_120 (by decide) (fun h => absurd h (by decide)) ?_
  refine zw_aload ⟨rfl, rfl⟩ rfl ?_
  refine zw_aload ⟨rfl, rfl⟩ rfl ?_
  refine zw_iload ⟨rfl, rfl⟩ rfl ?_
  refine zw_callv2 ⟨rfl, rfl⟩ rfl zc_105 rfl ?_
  refine m_end_c hK (hC.cg (fun x y1 y2 => by rw [zup_row (by omega), zup_row (by omega)])) hc ?_
  refine zw_putI ⟨rfl, rfl⟩ zc_120 (by decide) (fun h => absurd h (by decide)) ?_
  refine zw_aload ⟨rfl, rfl⟩ rfl ?_
  refine zw_const ⟨rfl, rfl⟩ ?_
  refine zw_putI ⟨rfl, rfl⟩ zc_120 (by decide) (fun h => absurd h (by decide)) ?_
  refine zw_aload ⟨rfl, rfl⟩ rfl ?_
  refine zw_const ⟨rfl, rfl⟩ ?_
  refine zw_putI ⟨rfl, rfl⟩ zc_120 (by decide) (fun h => absurd h (by decide)) ?_
  refine zw_aload ⟨rfl, rfl⟩ rfl ?_
  refine zw_const ⟨rfl, rfl⟩ ?_
  refine zw_putI ⟨rfl, rfl⟩ zc_120 (by decide) (fun h => absurd h (by decide)) ?_
  refine zw_aload ⟨rfl, rfl⟩ rfl ?_
  refine zw_const ⟨rfl, rfl⟩ ?_
  refine zw_putI ⟨rfl, rfl⟩ zc_120 (by decide) (fun h => absurd h (by decide)) ?_
  refine zw_aload ⟨rfl, rfl⟩ rfl ?_
  refine zw_aload ⟨rfl, rfl⟩ rfl ?_
  refine zw_getIv (v := yB (yK σ) (c + 1)) ⟨rfl, rfl⟩ zc_120 (by decide) ((zup_ni (by decide)).trans ((zup_ni (by decide)).trans ((zup_ni (by decide)).trans ((zup_ni (by decide)).trans (zup_eq _ _ _ _))))) ?_
  refine zw_putI ⟨rfl, rfl⟩ zc_120 (by decide) (fun h => absurd h (by decide)) ?_
  refine zw_aload ⟨rfl, rfl⟩ rfl ?_
  refine zw_const ⟨rfl, rfl⟩ ?_
  refine zw_putI ⟨rfl, rfl⟩ zc_120 (by decide) (fun h => absurd h (by decide)) ?_
  refine zw_aload ⟨rfl, rfl⟩ rfl ?_
  refine zw_getIv (v := yso (yK σ (yB (yK σ) c))) ⟨rfl, rfl⟩ zc_120 (by decide) ((zup_ni (by decide)).trans ((zup_ni (by decide)).trans ((zup_ni (by decide)).trans ((zup_ni (by decide)).trans ((zup_ni (by decide)).trans ((zup_ni (by decide)).trans ((zup_ni (by decide)).trans ((zup_ni (by decide)).trans (zup_eq _ _ _ _))))))))) ?_
  refine zw_ifne ⟨rfl, rfl⟩ rfl (fun c1 => ?_) (fun c1 => ?_)
  · skip
    have hk1 : yK σ (yB (yK σ) c) ≠ 1 := fun z => by omega
    refine zw_aload ⟨rfl, rfl⟩ rfl ?_
    refine zw_getIv (v := yso (yK σ (yB (yK σ) c))) ⟨rfl, rfl⟩ zc_120 (by decide) ((zup_ni (by decide)).trans ((zup_ni (by decide)).trans ((zup_ni (by decide)).trans ((zup_ni (by decide)).trans ((zup_ni (by decide)).trans ((zup_ni (by decide)).trans ((zup_ni (by decide)).trans ((zup_ni (by decide)).trans (zup_eq _ _ _ _))))))))) ?_
    refine zw_const ⟨rfl, rfl⟩ ?_
    refine zw_iceq ⟨rfl, rfl⟩ rfl (fun c2 => ?_) (fun c2 => ?_)
    · skip
      have et3 : yB (yK σ) (c + 1) = yB (yK σ) c + 1 := by rw [eov]; unfold yov; rw [if_neg (by omega), if_neg (by omega)]
      refine zw_aload ⟨rfl, rfl⟩ rfl ?_
      refine zw_aload ⟨rfl, rfl⟩ rfl ?_
      refine zw_getIv (v := yB (yK σ) (c + 1)) ⟨rfl, rfl⟩ zc_120 (by decide) ((zup_ni (by decide)).trans (zup_eq _ _ _ _)) ?_
      refine zw_aload ⟨rfl, rfl⟩ rfl ?_
      refine zw_getIv (v := yB (yK σ) (c + 1)) ⟨rfl, rfl⟩ zc_120 (by decide) ((zup_ni (by decide)).trans ((zup_ni (by decide)).trans ((zup_ni (by decide)).trans ((zup_ni (by decide)).trans ((zup_ni (by decide)).trans ((zup_ni (by decide)).trans (zup_eq _ _ _ _))))))) ?_
      refine zw_icge ⟨rfl, rfl⟩ rfl (fun c3 => ?_) (fun c3 => ?_)
      · skip
        refine zw_const ⟨rfl, rfl⟩ ?_
        refine zw_putI ⟨rfl, rfl⟩ zc_120 (by decide) (fun _ => by first | exact Or.inl rfl | exact Or.inr rfl | omega) ?_
        refine zw_void rfl ?_
        obtain ⟨z1, z2, z3, z4⟩ := yA0 (σ := σ) hk1
        have et : ytl (yK σ) (yB (yK σ) c) = yB (yK σ) (c + 1) := by
          unfold ytl
          repeat' split
          all_goals omega
        have eo : yow (yK σ) (yB (yK σ) c) = -1 := by
          unfold yow
          repeat' split
          all_goals omega
        have ed : ydd (yK σ) (yB (yK σ) c) = 0 := by
          first
            | exact (ydd_iff hK h0 h1 hb).mpr ⟨by rw [et]; omega, by rw [et]; omega⟩
            | exact ydd_n hK h0 h1 hb (fun z => by have z1 := z.1; have z2 := z.2; rw [et] at z1 z2; omega)
        refine k _ ⟨⟨⟨rfl, rfl, rfl, by rw [et]; rfl, by rw [ed]; rfl, by rw [eo]; rfl⟩, ⟨by rw [z1]; rfl, by rw [z2]; rfl, by rw [z3]; rfl, by rw [z4]; rfl⟩, fun j q1 q2 => by omega⟩, fun x hx => by rw [zup_row (by omega), zup_row (by omega), zup_row (by omega), zup_row (by omega), zup_row (by omega), zup_row (by omega), zup_row (by omega), zup_row (by omega), zup_row (by omega), zup_row (by omega)]⟩
      · skip
        refine zw_aload ⟨rfl, rfl⟩ rfl ?_
        refine zw_aload ⟨rfl, rfl⟩ rfl ?_
        refine zw_getIv (v := yB (yK σ) (c + 1)) ⟨rfl, rfl⟩ zc_120 (by decide) ((zup_ni (by decide)).trans (zup_eq _ _ _ _)) ?_
        refine zw_callv2 ⟨rfl, rfl⟩ rfl zc_105 rfl ?_
        refine m_kindAt hK (hC.cg (fun x y1 y2 => by rw [zup_row (by omega), zup_row (by omega), zup_row (by omega), zup_row (by omega), zup_row (by omega), zup_row (by omega), zup_row (by omega), zup_row (by omega), zup_row (by omega)]))  ?_
        refine zw_const ⟨rfl, rfl⟩ ?_
        refine zw_icne ⟨rfl, rfl⟩ rfl (fun c4 => ?_) (fun c4 => ?_)
        · skip
          refine zw_const ⟨rfl, rfl⟩ ?_
          refine zw_putI ⟨rfl, rfl⟩ zc_120 (by decide) (fun _ => by first | exact Or.inl rfl | exact Or.inr rfl | omega) ?_
          refine zw_void rfl ?_
          obtain ⟨z1, z2, z3, z4⟩ := yA0 (σ := σ) hk1
          have et : ytl (yK σ) (yB (yK σ) c) = yB (yK σ) (c + 1) := by
            unfold ytl
            repeat' split
            all_goals omega
          have eo : yow (yK σ) (yB (yK σ) c) = -1 := by
            unfold yow
            repeat' split
            all_goals omega
          have ed : ydd (yK σ) (yB (yK σ) c) = 0 := by
            first
              | exact (ydd_iff hK h0 h1 hb).mpr ⟨by rw [et]; omega, by rw [et]; omega⟩
              | exact ydd_n hK h0 h1 hb (fun z => by have z1 := z.1; have z2 := z.2; rw [et] at z1 z2; omega)
          refine k _ ⟨⟨⟨rfl, rfl, rfl, by rw [et]; rfl, by rw [ed]; rfl, by rw [eo]; rfl⟩, ⟨by rw [z1]; rfl, by rw [z2]; rfl, by rw [z3]; rfl, by rw [z4]; rfl⟩, fun j q1 q2 => by omega⟩, fun x hx => by rw [zup_row (by omega), zup_row (by omega), zup_row (by omega), zup_row (by omega), zup_row (by omega), zup_row (by omega), zup_row (by omega), zup_row (by omega), zup_row (by omega), zup_row (by omega)]⟩
        · skip
          refine zw_const ⟨rfl, rfl⟩ ?_
          refine zw_goto ⟨rfl, rfl⟩ rfl ?_
          refine zw_putI ⟨rfl, rfl⟩ zc_120 (by decide) (fun _ => by first | exact Or.inl rfl | exact Or.inr rfl | omega) ?_
          refine zw_void rfl ?_
          obtain ⟨z1, z2, z3, z4⟩ := yA0 (σ := σ) hk1
          have et : ytl (yK σ) (yB (yK σ) c) = yB (yK σ) (c + 1) := by
            unfold ytl
            repeat' split
            all_goals omega
          have eo : yow (yK σ) (yB (yK σ) c) = -1 := by
            unfold yow
            repeat' split
            all_goals omega
          have ed : ydd (yK σ) (yB (yK σ) c) = 1 := by
            first
              | exact (ydd_iff hK h0 h1 hb).mpr ⟨by rw [et]; omega, by rw [et]; omega⟩
              | exact ydd_n hK h0 h1 hb (fun z => by have z1 := z.1; have z2 := z.2; rw [et] at z1 z2; omega)
          refine k _ ⟨⟨⟨rfl, rfl, rfl, by rw [et]; rfl, by rw [ed]; rfl, by rw [eo]; rfl⟩, ⟨by rw [z1]; rfl, by rw [z2]; rfl, by rw [z3]; rfl, by rw [z4]; rfl⟩, fun j q1 q2 => by omega⟩, fun x hx => by rw [zup_row (by omega), zup_row (by omega), zup_row (by omega), zup_row (by omega), zup_row (by omega), zup_row (by omega), zup_row (by omega), zup_row (by omega), zup_row (by omega), zup_row (by omega)]⟩
    · skip
      have et2 : yso (yK σ (yB (yK σ) c)) = 2 → yB (yK σ) c < yB (yK σ) (c + 1) := fun _ => hlt
      have et1 : yK σ (yB (yK σ) c) = 2 → yK σ (yB (yK σ) c + 1) = 4 → yB (yK σ) c + 1 < yB (yK σ) (c + 1) := by
        intro z1 z2
        have := hov.2.1
        unfold ytl at this
        rw [if_neg hk1, if_pos z1, if_pos z2] at this
        omega
      refine zw_aload ⟨rfl, rfl⟩ rfl ?_
      refine zw_aload ⟨rfl, rfl⟩ rfl ?_
      refine zw_getIv (v := yso (yK σ (yB (yK σ) c))) ⟨rfl, rfl⟩ zc_120 (by decide) ((zup_ni (by decide)).trans ((zup_ni (by decide)).trans ((zup_ni (by decide)).trans ((zup_ni (by decide)).trans ((zup_ni (by decide)).trans ((zup_ni (by decide)).trans ((zup_ni (by decide)).trans ((zup_ni (by decide)).trans (zup_eq _ _ _ _))))))))) ?_
      refine zw_const ⟨rfl, rfl⟩ ?_
      refine zw_icne ⟨rfl, rfl⟩ rfl (fun c5 => ?_) (fun c5 => ?_)
      · skip
        refine zw_aload ⟨rfl, rfl⟩ rfl ?_
        refine zw_getIv (v := yB (yK σ) c) ⟨rfl, rfl⟩ zc_120 (by decide) ((zup_ni (by decide)).trans ((zup_ni (by decide)).trans ((zup_ni (by decide)).trans ((zup_ni (by decide)).trans ((zup_ni (by decide)).trans ((zup_ni (by decide)).trans ((zup_ni (by decide)).trans (zup_eq _ _ _ _)))))))) ?_
        refine zw_putI ⟨rfl, rfl⟩ zc_120 (by decide) (fun h => absurd h (by decide)) ?_
        refine zw_aload ⟨rfl, rfl⟩ rfl ?_
        refine zw_getIv (v := yB (yK σ) c) ⟨rfl, rfl⟩ zc_120 (by decide) (zup_eq _ _ _ _) ?_
        refine zw_aload ⟨rfl, rfl⟩ rfl ?_
        refine zw_getIv (v := yB (yK σ) (c + 1)) ⟨rfl, rfl⟩ zc_120 (by decide) ((zup_ni (by decide)).trans ((zup_ni (by decide)).trans ((zup_ni (by decide)).trans ((zup_ni (by decide)).trans ((zup_ni (by decide)).trans ((zup_ni (by decide)).trans ((zup_ni (by decide)).trans (zup_eq _ _ _ _)))))))) ?_
        refine zw_icge ⟨rfl, rfl⟩ rfl (fun c6 => ?_) (fun c6 => ?_)
        · skip
          refine zw_aload ⟨rfl, rfl⟩ rfl ?_
          refine zw_aload ⟨rfl, rfl⟩ rfl ?_
          refine zw_getIv (v := yB (yK σ) c) ⟨rfl, rfl⟩ zc_120 (by decide) (zup_eq _ _ _ _) ?_
          refine zw_aload ⟨rfl, rfl⟩ rfl ?_
          refine zw_getIv (v := yB (yK σ) (c + 1)) ⟨rfl, rfl⟩ zc_120 (by decide) ((zup_ni (by decide)).trans ((zup_ni (by decide)).trans ((zup_ni (by decide)).trans ((zup_ni (by decide)).trans ((zup_ni (by decide)).trans ((zup_ni (by decide)).trans ((zup_ni (by decide)).trans (zup_eq _ _ _ _)))))))) ?_
          refine zw_icge ⟨rfl, rfl⟩ rfl (fun c7 => ?_) (fun c7 => ?_)
          · skip
            refine zw_const ⟨rfl, rfl⟩ ?_
            refine zw_putI ⟨rfl, rfl⟩ zc_120 (by decide) (fun _ => by first | exact Or.inl rfl | exact Or.inr rfl | omega) ?_
            refine zw_void rfl ?_
            obtain ⟨z1, z2, z3, z4⟩ := yA0 (σ := σ) hk1
            have et : ytl (yK σ) (yB (yK σ) c) = yB (yK σ) c := by
              unfold ytl
              repeat' split
              all_goals omega
            have eo : yow (yK σ) (yB (yK σ) c) = -1 := by
              unfold yow
              repeat' split
              all_goals omega
            have ed : ydd (yK σ) (yB (yK σ) c) = 0 := by
              first
                | exact (ydd_iff hK h0 h1 hb).mpr ⟨by rw [et]; omega, by rw [et]; omega⟩
                | exact ydd_n hK h0 h1 hb (fun z => by have z1 := z.1; have z2 := z.2; rw [et] at z1 z2; omega)
            refine k _ ⟨⟨⟨rfl, rfl, rfl, by rw [et]; rfl, by rw [ed]; rfl, by rw [eo]; rfl⟩, ⟨by rw [z1]; rfl, by rw [z2]; rfl, by rw [z3]; rfl, by rw [z4]; rfl⟩, fun j q1 q2 => by omega⟩, fun x hx => by rw [zup_row (by omega), zup_row (by omega), zup_row (by omega), zup_row (by omega), zup_row (by omega), zup_row (by omega), zup_row (by omega), zup_row (by omega), zup_row (by omega), zup_row (by omega), zup_row (by omega)]⟩
          · skip
            refine zw_aload ⟨rfl, rfl⟩ rfl ?_
            refine zw_aload ⟨rfl, rfl⟩ rfl ?_
            refine zw_getIv (v := yB (yK σ) c) ⟨rfl, rfl⟩ zc_120 (by decide) (zup_eq _ _ _ _) ?_
            refine zw_callv2 ⟨rfl, rfl⟩ rfl zc_105 rfl ?_
            refine m_kindAt hK (hC.cg (fun x y1 y2 => by rw [zup_row (by omega), zup_row (by omega), zup_row (by omega), zup_row (by omega), zup_row (by omega), zup_row (by omega), zup_row (by omega), zup_row (by omega), zup_row (by omega), zup_row (by omega)]))  ?_
            refine zw_const ⟨rfl, rfl⟩ ?_
            refine zw_icne ⟨rfl, rfl⟩ rfl (fun c8 => ?_) (fun c8 => ?_)
            · skip
              refine zw_const ⟨rfl, rfl⟩ ?_
              refine zw_putI ⟨rfl, rfl⟩ zc_120 (by decide) (fun _ => by first | exact Or.inl rfl | exact Or.inr rfl | omega) ?_
              refine zw_void rfl ?_
              obtain ⟨z1, z2, z3, z4⟩ := yA0 (σ := σ) hk1
              have et : ytl (yK σ) (yB (yK σ) c) = yB (yK σ) c := by
                unfold ytl
                repeat' split
                all_goals omega
              have eo : yow (yK σ) (yB (yK σ) c) = -1 := by
                unfold yow
                repeat' split
                all_goals omega
              have ed : ydd (yK σ) (yB (yK σ) c) = 0 := by
                first
                  | exact (ydd_iff hK h0 h1 hb).mpr ⟨by rw [et]; omega, by rw [et]; omega⟩
                  | exact ydd_n hK h0 h1 hb (fun z => by have z1 := z.1; have z2 := z.2; rw [et] at z1 z2; omega)
              refine k _ ⟨⟨⟨rfl, rfl, rfl, by rw [et]; rfl, by rw [ed]; rfl, by rw [eo]; rfl⟩, ⟨by rw [z1]; rfl, by rw [z2]; rfl, by rw [z3]; rfl, by rw [z4]; rfl⟩, fun j q1 q2 => by omega⟩, fun x hx => by rw [zup_row (by omega), zup_row (by omega), zup_row (by omega), zup_row (by omega), zup_row (by omega), zup_row (by omega), zup_row (by omega), zup_row (by omega), zup_row (by omega), zup_row (by omega), zup_row (by omega)]⟩
            · skip
              refine zw_const ⟨rfl, rfl⟩ ?_
              refine zw_goto ⟨rfl, rfl⟩ rfl ?_
              refine zw_putI ⟨rfl, rfl⟩ zc_120 (by decide) (fun _ => by first | exact Or.inl rfl | exact Or.inr rfl | omega) ?_
              refine zw_void rfl ?_
              obtain ⟨z1, z2, z3, z4⟩ := yA0 (σ := σ) hk1
              have et : ytl (yK σ) (yB (yK σ) c) = yB (yK σ) c := by
                unfold ytl
                repeat' split
                all_goals omega
              have eo : yow (yK σ) (yB (yK σ) c) = -1 := by
                unfold yow
                repeat' split
                all_goals omega
              have ed : ydd (yK σ) (yB (yK σ) c) = 1 := by
                first
                  | exact (ydd_iff hK h0 h1 hb).mpr ⟨by rw [et]; omega, by rw [et]; omega⟩
                  | exact ydd_n hK h0 h1 hb (fun z => by have z1 := z.1; have z2 := z.2; rw [et] at z1 z2; omega)
              refine k _ ⟨⟨⟨rfl, rfl, rfl, by rw [et]; rfl, by rw [ed]; rfl, by rw [eo]; rfl⟩, ⟨by rw [z1]; rfl, by rw [z2]; rfl, by rw [z3]; rfl, by rw [z4]; rfl⟩, fun j q1 q2 => by omega⟩, fun x hx => by rw [zup_row (by omega), zup_row (by omega), zup_row (by omega), zup_row (by omega), zup_row (by omega), zup_row (by omega), zup_row (by omega), zup_row (by omega), zup_row (by omega), zup_row (by omega), zup_row (by omega)]⟩
        · skip
          refine zw_aload ⟨rfl, rfl⟩ rfl ?_
          refine zw_aload ⟨rfl, rfl⟩ rfl ?_
          refine zw_getIv (v := yB (yK σ) c) ⟨rfl, rfl⟩ zc_120 (by decide) (zup_eq _ _ _ _) ?_
          refine zw_callv2 ⟨rfl, rfl⟩ rfl zc_105 rfl ?_
          refine m_kindAt hK (hC.cg (fun x y1 y2 => by rw [zup_row (by omega), zup_row (by omega), zup_row (by omega), zup_row (by omega), zup_row (by omega), zup_row (by omega), zup_row (by omega), zup_row (by omega), zup_row (by omega), zup_row (by omega)]))  ?_
          refine zw_const ⟨rfl, rfl⟩ ?_
          refine zw_icne ⟨rfl, rfl⟩ rfl (fun c9 => ?_) (fun c9 => ?_)
          · skip
            refine zw_aload ⟨rfl, rfl⟩ rfl ?_
            refine zw_aload ⟨rfl, rfl⟩ rfl ?_
            refine zw_getIv (v := yB (yK σ) c) ⟨rfl, rfl⟩ zc_120 (by decide) (zup_eq _ _ _ _) ?_
            refine zw_aload ⟨rfl, rfl⟩ rfl ?_
            refine zw_getIv (v := yB (yK σ) (c + 1)) ⟨rfl, rfl⟩ zc_120 (by decide) ((zup_ni (by decide)).trans ((zup_ni (by decide)).trans ((zup_ni (by decide)).trans ((zup_ni (by decide)).trans ((zup_ni (by decide)).trans ((zup_ni (by decide)).trans ((zup_ni (by decide)).trans (zup_eq _ _ _ _)))))))) ?_
            refine zw_icge ⟨rfl, rfl⟩ rfl (fun c10 => ?_) (fun c10 => ?_)
            · skip
              refine zw_const ⟨rfl, rfl⟩ ?_
              refine zw_putI ⟨rfl, rfl⟩ zc_120 (by decide) (fun _ => by first | exact Or.inl rfl | exact Or.inr rfl | omega) ?_
              refine zw_void rfl ?_
              obtain ⟨z1, z2, z3, z4⟩ := yA0 (σ := σ) hk1
              have et : ytl (yK σ) (yB (yK σ) c) = yB (yK σ) c := by
                unfold ytl
                repeat' split
                all_goals omega
              have eo : yow (yK σ) (yB (yK σ) c) = -1 := by
                unfold yow
                repeat' split
                all_goals omega
              have ed : ydd (yK σ) (yB (yK σ) c) = 0 := by
                first
                  | exact (ydd_iff hK h0 h1 hb).mpr ⟨by rw [et]; omega, by rw [et]; omega⟩
                  | exact ydd_n hK h0 h1 hb (fun z => by have z1 := z.1; have z2 := z.2; rw [et] at z1 z2; omega)
              refine k _ ⟨⟨⟨rfl, rfl, rfl, by rw [et]; rfl, by rw [ed]; rfl, by rw [eo]; rfl⟩, ⟨by rw [z1]; rfl, by rw [z2]; rfl, by rw [z3]; rfl, by rw [z4]; rfl⟩, fun j q1 q2 => by omega⟩, fun x hx => by rw [zup_row (by omega), zup_row (by omega), zup_row (by omega), zup_row (by omega), zup_row (by omega), zup_row (by omega), zup_row (by omega), zup_row (by omega), zup_row (by omega), zup_row (by omega), zup_row (by omega)]⟩
            · skip
              refine zw_aload ⟨rfl, rfl⟩ rfl ?_
              refine zw_aload ⟨rfl, rfl⟩ rfl ?_
              refine zw_getIv (v := yB (yK σ) c) ⟨rfl, rfl⟩ zc_120 (by decide) (zup_eq _ _ _ _) ?_
              refine zw_callv2 ⟨rfl, rfl⟩ rfl zc_105 rfl ?_
              refine m_kindAt hK (hC.cg (fun x y1 y2 => by rw [zup_row (by omega), zup_row (by omega), zup_row (by omega), zup_row (by omega), zup_row (by omega), zup_row (by omega), zup_row (by omega), zup_row (by omega), zup_row (by omega), zup_row (by omega)]))  ?_
              refine zw_const ⟨rfl, rfl⟩ ?_
              refine zw_icne ⟨rfl, rfl⟩ rfl (fun c11 => ?_) (fun c11 => ?_)
              · skip
                refine zw_const ⟨rfl, rfl⟩ ?_
                refine zw_putI ⟨rfl, rfl⟩ zc_120 (by decide) (fun _ => by first | exact Or.inl rfl | exact Or.inr rfl | omega) ?_
                refine zw_void rfl ?_
                obtain ⟨z1, z2, z3, z4⟩ := yA0 (σ := σ) hk1
                have et : ytl (yK σ) (yB (yK σ) c) = yB (yK σ) c := by
                  unfold ytl
                  repeat' split
                  all_goals omega
                have eo : yow (yK σ) (yB (yK σ) c) = -1 := by
                  unfold yow
                  repeat' split
                  all_goals omega
                have ed : ydd (yK σ) (yB (yK σ) c) = 0 := by
                  first
                    | exact (ydd_iff hK h0 h1 hb).mpr ⟨by rw [et]; omega, by rw [et]; omega⟩
                    | exact ydd_n hK h0 h1 hb (fun z => by have z1 := z.1; have z2 := z.2; rw [et] at z1 z2; omega)
                refine k _ ⟨⟨⟨rfl, rfl, rfl, by rw [et]; rfl, by rw [ed]; rfl, by rw [eo]; rfl⟩, ⟨by rw [z1]; rfl, by rw [z2]; rfl, by rw [z3]; rfl, by rw [z4]; rfl⟩, fun j q1 q2 => by omega⟩, fun x hx => by rw [zup_row (by omega), zup_row (by omega), zup_row (by omega), zup_row (by omega), zup_row (by omega), zup_row (by omega), zup_row (by omega), zup_row (by omega), zup_row (by omega), zup_row (by omega), zup_row (by omega)]⟩
              · skip
                refine zw_const ⟨rfl, rfl⟩ ?_
                refine zw_goto ⟨rfl, rfl⟩ rfl ?_
                refine zw_putI ⟨rfl, rfl⟩ zc_120 (by decide) (fun _ => by first | exact Or.inl rfl | exact Or.inr rfl | omega) ?_
                refine zw_void rfl ?_
                obtain ⟨z1, z2, z3, z4⟩ := yA0 (σ := σ) hk1
                have et : ytl (yK σ) (yB (yK σ) c) = yB (yK σ) c := by
                  unfold ytl
                  repeat' split
                  all_goals omega
                have eo : yow (yK σ) (yB (yK σ) c) = -1 := by
                  unfold yow
                  repeat' split
                  all_goals omega
                have ed : ydd (yK σ) (yB (yK σ) c) = 1 := by
                  first
                    | exact (ydd_iff hK h0 h1 hb).mpr ⟨by rw [et]; omega, by rw [et]; omega⟩
                    | exact ydd_n hK h0 h1 hb (fun z => by have z1 := z.1; have z2 := z.2; rw [et] at z1 z2; omega)
                refine k _ ⟨⟨⟨rfl, rfl, rfl, by rw [et]; rfl, by rw [ed]; rfl, by rw [eo]; rfl⟩, ⟨by rw [z1]; rfl, by rw [z2]; rfl, by rw [z3]; rfl, by rw [z4]; rfl⟩, fun j q1 q2 => by omega⟩, fun x hx => by rw [zup_row (by omega), zup_row (by omega), zup_row (by omega), zup_row (by omega), zup_row (by omega), zup_row (by omega), zup_row (by omega), zup_row (by omega), zup_row (by omega), zup_row (by omega), zup_row (by omega)]⟩
          · skip
            refine zw_aload ⟨rfl, rfl⟩ rfl ?_
            refine zw_aload ⟨rfl, rfl⟩ rfl ?_
            refine zw_getIv (v := yB (yK σ) c) ⟨rfl, rfl⟩ zc_120 (by decide) (zup_eq _ _ _ _) ?_
            refine zw_putI ⟨rfl, rfl⟩ zc_120 (by decide) (fun h => absurd h (by decide)) ?_
            refine zw_aload ⟨rfl, rfl⟩ rfl ?_
            refine zw_dup ⟨rfl, rfl⟩ (by decide) ?_
            refine zw_getIv (v := yB (yK σ) c) ⟨rfl, rfl⟩ zc_120 (by decide) ((zup_ni (by decide)).trans (zup_eq _ _ _ _)) ?_
            refine zw_const ⟨rfl, rfl⟩ ?_
            refine zw_iadd ⟨rfl, rfl⟩ (by omega) ?_
            refine zw_putI ⟨rfl, rfl⟩ zc_120 (by decide) (fun h => absurd h (by decide)) ?_
            refine zw_aload ⟨rfl, rfl⟩ rfl ?_
            refine zw_aload ⟨rfl, rfl⟩ rfl ?_
            refine zw_getIv (v := (yB (yK σ) c) + 1) ⟨rfl, rfl⟩ zc_120 (by decide) (zup_eq _ _ _ _) ?_
            refine zw_aload ⟨rfl, rfl⟩ rfl ?_
            refine zw_getIv (v := yB (yK σ) (c + 1)) ⟨rfl, rfl⟩ zc_120 (by decide) ((zup_ni (by decide)).trans ((zup_ni (by decide)).trans ((zup_ni (by decide)).trans ((zup_ni (by decide)).trans ((zup_ni (by decide)).trans ((zup_ni (by decide)).trans ((zup_ni (by decide)).trans ((zup_ni (by decide)).trans ((zup_ni (by decide)).trans (zup_eq _ _ _ _)))))))))) ?_
            refine zw_icge ⟨rfl, rfl⟩ rfl (fun c12 => ?_) (fun c12 => ?_)
            · skip
              refine zw_const ⟨rfl, rfl⟩ ?_
              refine zw_putI ⟨rfl, rfl⟩ zc_120 (by decide) (fun _ => by first | exact Or.inl rfl | exact Or.inr rfl | omega) ?_
              refine zw_void rfl ?_
              obtain ⟨z1, z2, z3, z4⟩ := yA0 (σ := σ) hk1
              have et : ytl (yK σ) (yB (yK σ) c) = (yB (yK σ) c) + 1 := by
                unfold ytl
                repeat' split
                all_goals omega
              have eo : yow (yK σ) (yB (yK σ) c) = yB (yK σ) c := by
                unfold yow
                repeat' split
                all_goals omega
              have ed : ydd (yK σ) (yB (yK σ) c) = 0 := by
                first
                  | exact (ydd_iff hK h0 h1 hb).mpr ⟨by rw [et]; omega, by rw [et]; omega⟩
                  | exact ydd_n hK h0 h1 hb (fun z => by have z1 := z.1; have z2 := z.2; rw [et] at z1 z2; omega)
              refine k _ ⟨⟨⟨rfl, rfl, rfl, by rw [et]; rfl, by rw [ed]; rfl, by rw [eo]; rfl⟩, ⟨by rw [z1]; rfl, by rw [z2]; rfl, by rw [z3]; rfl, by rw [z4]; rfl⟩, fun j q1 q2 => by omega⟩, fun x hx => by rw [zup_row (by omega), zup_row (by omega), zup_row (by omega), zup_row (by omega), zup_row (by omega), zup_row (by omega), zup_row (by omega), zup_row (by omega), zup_row (by omega), zup_row (by omega), zup_row (by omega), zup_row (by omega), zup_row (by omega)]⟩
            · skip
              refine zw_aload ⟨rfl, rfl⟩ rfl ?_
              refine zw_aload ⟨rfl, rfl⟩ rfl ?_
              refine zw_getIv (v := (yB (yK σ) c) + 1) ⟨rfl, rfl⟩ zc_120 (by decide) (zup_eq _ _ _ _) ?_
              refine zw_callv2 ⟨rfl, rfl⟩ rfl zc_105 rfl ?_
              refine m_kindAt hK (hC.cg (fun x y1 y2 => by rw [zup_row (by omega), zup_row (by omega), zup_row (by omega), zup_row (by omega), zup_row (by omega), zup_row (by omega), zup_row (by omega), zup_row (by omega), zup_row (by omega), zup_row (by omega), zup_row (by omega), zup_row (by omega)]))  ?_
              refine zw_const ⟨rfl, rfl⟩ ?_
              refine zw_icne ⟨rfl, rfl⟩ rfl (fun c13 => ?_) (fun c13 => ?_)
              · skip
                refine zw_const ⟨rfl, rfl⟩ ?_
                refine zw_putI ⟨rfl, rfl⟩ zc_120 (by decide) (fun _ => by first | exact Or.inl rfl | exact Or.inr rfl | omega) ?_
                refine zw_void rfl ?_
                obtain ⟨z1, z2, z3, z4⟩ := yA0 (σ := σ) hk1
                have et : ytl (yK σ) (yB (yK σ) c) = (yB (yK σ) c) + 1 := by
                  unfold ytl
                  repeat' split
                  all_goals omega
                have eo : yow (yK σ) (yB (yK σ) c) = yB (yK σ) c := by
                  unfold yow
                  repeat' split
                  all_goals omega
                have ed : ydd (yK σ) (yB (yK σ) c) = 0 := by
                  first
                    | exact (ydd_iff hK h0 h1 hb).mpr ⟨by rw [et]; omega, by rw [et]; omega⟩
                    | exact ydd_n hK h0 h1 hb (fun z => by have z1 := z.1; have z2 := z.2; rw [et] at z1 z2; omega)
                refine k _ ⟨⟨⟨rfl, rfl, rfl, by rw [et]; rfl, by rw [ed]; rfl, by rw [eo]; rfl⟩, ⟨by rw [z1]; rfl, by rw [z2]; rfl, by rw [z3]; rfl, by rw [z4]; rfl⟩, fun j q1 q2 => by omega⟩, fun x hx => by rw [zup_row (by omega), zup_row (by omega), zup_row (by omega), zup_row (by omega), zup_row (by omega), zup_row (by omega), zup_row (by omega), zup_row (by omega), zup_row (by omega), zup_row (by omega), zup_row (by omega), zup_row (by omega), zup_row (by omega)]⟩
              · skip
                refine zw_const ⟨rfl, rfl⟩ ?_
                refine zw_goto ⟨rfl, rfl⟩ rfl ?_
                refine zw_putI ⟨rfl, rfl⟩ zc_120 (by decide) (fun _ => by first | exact Or.inl rfl | exact Or.inr rfl | omega) ?_
                refine zw_void rfl ?_
                obtain ⟨z1, z2, z3, z4⟩ := yA0 (σ := σ) hk1
                have et : ytl (yK σ) (yB (yK σ) c) = (yB (yK σ) c) + 1 := by
                  unfold ytl
                  repeat' split
                  all_goals omega
                have eo : yow (yK σ) (yB (yK σ) c) = yB (yK σ) c := by
                  unfold yow
                  repeat' split
                  all_goals omega
                have ed : ydd (yK σ) (yB (yK σ) c) = 1 := by
                  first
                    | exact (ydd_iff hK h0 h1 hb).mpr ⟨by rw [et]; omega, by rw [et]; omega⟩
                    | exact ydd_n hK h0 h1 hb (fun z => by have z1 := z.1; have z2 := z.2; rw [et] at z1 z2; omega)
                refine k _ ⟨⟨⟨rfl, rfl, rfl, by rw [et]; rfl, by rw [ed]; rfl, by rw [eo]; rfl⟩, ⟨by rw [z1]; rfl, by rw [z2]; rfl, by rw [z3]; rfl, by rw [z4]; rfl⟩, fun j q1 q2 => by omega⟩, fun x hx => by rw [zup_row (by omega), zup_row (by omega), zup_row (by omega), zup_row (by omega), zup_row (by omega), zup_row (by omega), zup_row (by omega), zup_row (by omega), zup_row (by omega), zup_row (by omega), zup_row (by omega), zup_row (by omega), zup_row (by omega)]⟩
      · skip
        refine zw_aload ⟨rfl, rfl⟩ rfl ?_
        refine zw_getIv (v := yB (yK σ) c) ⟨rfl, rfl⟩ zc_120 (by decide) ((zup_ni (by decide)).trans ((zup_ni (by decide)).trans ((zup_ni (by decide)).trans ((zup_ni (by decide)).trans ((zup_ni (by decide)).trans ((zup_ni (by decide)).trans ((zup_ni (by decide)).trans (zup_eq _ _ _ _)))))))) ?_
        refine zw_const ⟨rfl, rfl⟩ ?_
        refine zw_iadd ⟨rfl, rfl⟩ (by omega) ?_
        refine zw_goto ⟨rfl, rfl⟩ rfl ?_
        refine zw_putI ⟨rfl, rfl⟩ zc_120 (by decide) (fun h => absurd h (by decide)) ?_
        refine zw_aload ⟨rfl, rfl⟩ rfl ?_
        refine zw_getIv (v := (yB (yK σ) c) + 1) ⟨rfl, rfl⟩ zc_120 (by decide) (zup_eq _ _ _ _) ?_
        refine zw_aload ⟨rfl, rfl⟩ rfl ?_
        refine zw_getIv (v := yB (yK σ) (c + 1)) ⟨rfl, rfl⟩ zc_120 (by decide) ((zup_ni (by decide)).trans ((zup_ni (by decide)).trans ((zup_ni (by decide)).trans ((zup_ni (by decide)).trans ((zup_ni (by decide)).trans ((zup_ni (by decide)).trans ((zup_ni (by decide)).trans (zup_eq _ _ _ _)))))))) ?_
        refine zw_icge ⟨rfl, rfl⟩ rfl (fun c14 => ?_) (fun c14 => ?_)
        · skip
          refine zw_aload ⟨rfl, rfl⟩ rfl ?_
          refine zw_aload ⟨rfl, rfl⟩ rfl ?_
          refine zw_getIv (v := (yB (yK σ) c) + 1) ⟨rfl, rfl⟩ zc_120 (by decide) (zup_eq _ _ _ _) ?_
          refine zw_aload ⟨rfl, rfl⟩ rfl ?_
          refine zw_getIv (v := yB (yK σ) (c + 1)) ⟨rfl, rfl⟩ zc_120 (by decide) ((zup_ni (by decide)).trans ((zup_ni (by decide)).trans ((zup_ni (by decide)).trans ((zup_ni (by decide)).trans ((zup_ni (by decide)).trans ((zup_ni (by decide)).trans ((zup_ni (by decide)).trans (zup_eq _ _ _ _)))))))) ?_
          refine zw_icge ⟨rfl, rfl⟩ rfl (fun c15 => ?_) (fun c15 => ?_)
          · skip
            refine zw_const ⟨rfl, rfl⟩ ?_
            refine zw_putI ⟨rfl, rfl⟩ zc_120 (by decide) (fun _ => by first | exact Or.inl rfl | exact Or.inr rfl | omega) ?_
            refine zw_void rfl ?_
            obtain ⟨z1, z2, z3, z4⟩ := yA0 (σ := σ) hk1
            have et : ytl (yK σ) (yB (yK σ) c) = (yB (yK σ) c) + 1 := by
              unfold ytl
              repeat' split
              all_goals omega
            have eo : yow (yK σ) (yB (yK σ) c) = -1 := by
              unfold yow
              repeat' split
              all_goals omega
            have ed : ydd (yK σ) (yB (yK σ) c) = 0 := by
              first
                | exact (ydd_iff hK h0 h1 hb).mpr ⟨by rw [et]; omega, by rw [et]; omega⟩
                | exact ydd_n hK h0 h1 hb (fun z => by have z1 := z.1; have z2 := z.2; rw [et] at z1 z2; omega)
            refine k _ ⟨⟨⟨rfl, rfl, rfl, by rw [et]; rfl, by rw [ed]; rfl, by rw [eo]; rfl⟩, ⟨by rw [z1]; rfl, by rw [z2]; rfl, by rw [z3]; rfl, by rw [z4]; rfl⟩, fun j q1 q2 => by omega⟩, fun x hx => by rw [zup_row (by omega), zup_row (by omega), zup_row (by omega), zup_row (by omega), zup_row (by omega), zup_row (by omega), zup_row (by omega), zup_row (by omega), zup_row (by omega), zup_row (by omega), zup_row (by omega)]⟩
          · skip
            refine zw_aload ⟨rfl, rfl⟩ rfl ?_
            refine zw_aload ⟨rfl, rfl⟩ rfl ?_
            refine zw_getIv (v := (yB (yK σ) c) + 1) ⟨rfl, rfl⟩ zc_120 (by decide) (zup_eq _ _ _ _) ?_
            refine zw_callv2 ⟨rfl, rfl⟩ rfl zc_105 rfl ?_
            refine m_kindAt hK (hC.cg (fun x y1 y2 => by rw [zup_row (by omega), zup_row (by omega), zup_row (by omega), zup_row (by omega), zup_row (by omega), zup_row (by omega), zup_row (by omega), zup_row (by omega), zup_row (by omega), zup_row (by omega)]))  ?_
            refine zw_const ⟨rfl, rfl⟩ ?_
            refine zw_icne ⟨rfl, rfl⟩ rfl (fun c16 => ?_) (fun c16 => ?_)
            · skip
              refine zw_const ⟨rfl, rfl⟩ ?_
              refine zw_putI ⟨rfl, rfl⟩ zc_120 (by decide) (fun _ => by first | exact Or.inl rfl | exact Or.inr rfl | omega) ?_
              refine zw_void rfl ?_
              obtain ⟨z1, z2, z3, z4⟩ := yA0 (σ := σ) hk1
              have et : ytl (yK σ) (yB (yK σ) c) = (yB (yK σ) c) + 1 := by
                unfold ytl
                repeat' split
                all_goals omega
              have eo : yow (yK σ) (yB (yK σ) c) = -1 := by
                unfold yow
                repeat' split
                all_goals omega
              have ed : ydd (yK σ) (yB (yK σ) c) = 0 := by
                first
                  | exact (ydd_iff hK h0 h1 hb).mpr ⟨by rw [et]; omega, by rw [et]; omega⟩
                  | exact ydd_n hK h0 h1 hb (fun z => by have z1 := z.1; have z2 := z.2; rw [et] at z1 z2; omega)
              refine k _ ⟨⟨⟨rfl, rfl, rfl, by rw [et]; rfl, by rw [ed]; rfl, by rw [eo]; rfl⟩, ⟨by rw [z1]; rfl, by rw [z2]; rfl, by rw [z3]; rfl, by rw [z4]; rfl⟩, fun j q1 q2 => by omega⟩, fun x hx => by rw [zup_row (by omega), zup_row (by omega), zup_row (by omega), zup_row (by omega), zup_row (by omega), zup_row (by omega), zup_row (by omega), zup_row (by omega), zup_row (by omega), zup_row (by omega), zup_row (by omega)]⟩
            · skip
              refine zw_const ⟨rfl, rfl⟩ ?_
              refine zw_goto ⟨rfl, rfl⟩ rfl ?_
              refine zw_putI ⟨rfl, rfl⟩ zc_120 (by decide) (fun _ => by first | exact Or.inl rfl | exact Or.inr rfl | omega) ?_
              refine zw_void rfl ?_
              obtain ⟨z1, z2, z3, z4⟩ := yA0 (σ := σ) hk1
              have et : ytl (yK σ) (yB (yK σ) c) = (yB (yK σ) c) + 1 := by
                unfold ytl
                repeat' split
                all_goals omega
              have eo : yow (yK σ) (yB (yK σ) c) = -1 := by
                unfold yow
                repeat' split
                all_goals omega
              have ed : ydd (yK σ) (yB (yK σ) c) = 1 := by
                first
                  | exact (ydd_iff hK h0 h1 hb).mpr ⟨by rw [et]; omega, by rw [et]; omega⟩
                  | exact ydd_n hK h0 h1 hb (fun z => by have z1 := z.1; have z2 := z.2; rw [et] at z1 z2; omega)
              refine k _ ⟨⟨⟨rfl, rfl, rfl, by rw [et]; rfl, by rw [ed]; rfl, by rw [eo]; rfl⟩, ⟨by rw [z1]; rfl, by rw [z2]; rfl, by rw [z3]; rfl, by rw [z4]; rfl⟩, fun j q1 q2 => by omega⟩, fun x hx => by rw [zup_row (by omega), zup_row (by omega), zup_row (by omega), zup_row (by omega), zup_row (by omega), zup_row (by omega), zup_row (by omega), zup_row (by omega), zup_row (by omega), zup_row (by omega), zup_row (by omega)]⟩
        · skip
          refine zw_aload ⟨rfl, rfl⟩ rfl ?_
          refine zw_aload ⟨rfl, rfl⟩ rfl ?_
          refine zw_getIv (v := (yB (yK σ) c) + 1) ⟨rfl, rfl⟩ zc_120 (by decide) (zup_eq _ _ _ _) ?_
          refine zw_callv2 ⟨rfl, rfl⟩ rfl zc_105 rfl ?_
          refine m_kindAt hK (hC.cg (fun x y1 y2 => by rw [zup_row (by omega), zup_row (by omega), zup_row (by omega), zup_row (by omega), zup_row (by omega), zup_row (by omega), zup_row (by omega), zup_row (by omega), zup_row (by omega), zup_row (by omega)]))  ?_
          refine zw_const ⟨rfl, rfl⟩ ?_
          refine zw_icne ⟨rfl, rfl⟩ rfl (fun c17 => ?_) (fun c17 => ?_)
          · skip
            refine zw_aload ⟨rfl, rfl⟩ rfl ?_
            refine zw_aload ⟨rfl, rfl⟩ rfl ?_
            refine zw_getIv (v := (yB (yK σ) c) + 1) ⟨rfl, rfl⟩ zc_120 (by decide) (zup_eq _ _ _ _) ?_
            refine zw_aload ⟨rfl, rfl⟩ rfl ?_
            refine zw_getIv (v := yB (yK σ) (c + 1)) ⟨rfl, rfl⟩ zc_120 (by decide) ((zup_ni (by decide)).trans ((zup_ni (by decide)).trans ((zup_ni (by decide)).trans ((zup_ni (by decide)).trans ((zup_ni (by decide)).trans ((zup_ni (by decide)).trans ((zup_ni (by decide)).trans (zup_eq _ _ _ _)))))))) ?_
            refine zw_icge ⟨rfl, rfl⟩ rfl (fun c18 => ?_) (fun c18 => ?_)
            · skip
              refine zw_const ⟨rfl, rfl⟩ ?_
              refine zw_putI ⟨rfl, rfl⟩ zc_120 (by decide) (fun _ => by first | exact Or.inl rfl | exact Or.inr rfl | omega) ?_
              refine zw_void rfl ?_
              obtain ⟨z1, z2, z3, z4⟩ := yA0 (σ := σ) hk1
              have et : ytl (yK σ) (yB (yK σ) c) = (yB (yK σ) c) + 1 := by
                unfold ytl
                repeat' split
                all_goals omega
              have eo : yow (yK σ) (yB (yK σ) c) = -1 := by
                unfold yow
                repeat' split
                all_goals omega
              have ed : ydd (yK σ) (yB (yK σ) c) = 0 := by
                first
                  | exact (ydd_iff hK h0 h1 hb).mpr ⟨by rw [et]; omega, by rw [et]; omega⟩
                  | exact ydd_n hK h0 h1 hb (fun z => by have z1 := z.1; have z2 := z.2; rw [et] at z1 z2; omega)
              refine k _ ⟨⟨⟨rfl, rfl, rfl, by rw [et]; rfl, by rw [ed]; rfl, by rw [eo]; rfl⟩, ⟨by rw [z1]; rfl, by rw [z2]; rfl, by rw [z3]; rfl, by rw [z4]; rfl⟩, fun j q1 q2 => by omega⟩, fun x hx => by rw [zup_row (by omega), zup_row (by omega), zup_row (by omega), zup_row (by omega), zup_row (by omega), zup_row (by omega), zup_row (by omega), zup_row (by omega), zup_row (by omega), zup_row (by omega), zup_row (by omega)]⟩
            · skip
              refine zw_aload ⟨rfl, rfl⟩ rfl ?_
              refine zw_aload ⟨rfl, rfl⟩ rfl ?_
              refine zw_getIv (v := (yB (yK σ) c) + 1) ⟨rfl, rfl⟩ zc_120 (by decide) (zup_eq _ _ _ _) ?_
              refine zw_callv2 ⟨rfl, rfl⟩ rfl zc_105 rfl ?_
              refine m_kindAt hK (hC.cg (fun x y1 y2 => by rw [zup_row (by omega), zup_row (by omega), zup_row (by omega), zup_row (by omega), zup_row (by omega), zup_row (by omega), zup_row (by omega), zup_row (by omega), zup_row (by omega), zup_row (by omega)]))  ?_
              refine zw_const ⟨rfl, rfl⟩ ?_
              refine zw_icne ⟨rfl, rfl⟩ rfl (fun c19 => ?_) (fun c19 => ?_)
              · skip
                refine zw_const ⟨rfl, rfl⟩ ?_
                refine zw_putI ⟨rfl, rfl⟩ zc_120 (by decide) (fun _ => by first | exact Or.inl rfl | exact Or.inr rfl | omega) ?_
                refine zw_void rfl ?_
                obtain ⟨z1, z2, z3, z4⟩ := yA0 (σ := σ) hk1
                have et : ytl (yK σ) (yB (yK σ) c) = (yB (yK σ) c) + 1 := by
                  unfold ytl
                  repeat' split
                  all_goals omega
                have eo : yow (yK σ) (yB (yK σ) c) = -1 := by
                  unfold yow
                  repeat' split
                  all_goals omega
                have ed : ydd (yK σ) (yB (yK σ) c) = 0 := by
                  first
                    | exact (ydd_iff hK h0 h1 hb).mpr ⟨by rw [et]; omega, by rw [et]; omega⟩
                    | exact ydd_n hK h0 h1 hb (fun z => by have z1 := z.1; have z2 := z.2; rw [et] at z1 z2; omega)
                refine k _ ⟨⟨⟨rfl, rfl, rfl, by rw [et]; rfl, by rw [ed]; rfl, by rw [eo]; rfl⟩, ⟨by rw [z1]; rfl, by rw [z2]; rfl, by rw [z3]; rfl, by rw [z4]; rfl⟩, fun j q1 q2 => by omega⟩, fun x hx => by rw [zup_row (by omega), zup_row (by omega), zup_row (by omega), zup_row (by omega), zup_row (by omega), zup_row (by omega), zup_row (by omega), zup_row (by omega), zup_row (by omega), zup_row (by omega), zup_row (by omega)]⟩
              · skip
                refine zw_const ⟨rfl, rfl⟩ ?_
                refine zw_goto ⟨rfl, rfl⟩ rfl ?_
                refine zw_putI ⟨rfl, rfl⟩ zc_120 (by decide) (fun _ => by first | exact Or.inl rfl | exact Or.inr rfl | omega) ?_
                refine zw_void rfl ?_
                obtain ⟨z1, z2, z3, z4⟩ := yA0 (σ := σ) hk1
                have et : ytl (yK σ) (yB (yK σ) c) = (yB (yK σ) c) + 1 := by
                  unfold ytl
                  repeat' split
                  all_goals omega
                have eo : yow (yK σ) (yB (yK σ) c) = -1 := by
                  unfold yow
                  repeat' split
                  all_goals omega
                have ed : ydd (yK σ) (yB (yK σ) c) = 1 := by
                  first
                    | exact (ydd_iff hK h0 h1 hb).mpr ⟨by rw [et]; omega, by rw [et]; omega⟩
                    | exact ydd_n hK h0 h1 hb (fun z => by have z1 := z.1; have z2 := z.2; rw [et] at z1 z2; omega)
                refine k _ ⟨⟨⟨rfl, rfl, rfl, by rw [et]; rfl, by rw [ed]; rfl, by rw [eo]; rfl⟩, ⟨by rw [z1]; rfl, by rw [z2]; rfl, by rw [z3]; rfl, by rw [z4]; rfl⟩, fun j q1 q2 => by omega⟩, fun x hx => by rw [zup_row (by omega), zup_row (by omega), zup_row (by omega), zup_row (by omega), zup_row (by omega), zup_row (by omega), zup_row (by omega), zup_row (by omega), zup_row (by omega), zup_row (by omega), zup_row (by omega)]⟩
          · skip
            refine zw_aload ⟨rfl, rfl⟩ rfl ?_
            refine zw_aload ⟨rfl, rfl⟩ rfl ?_
            refine zw_getIv (v := (yB (yK σ) c) + 1) ⟨rfl, rfl⟩ zc_120 (by decide) (zup_eq _ _ _ _) ?_
            refine zw_putI ⟨rfl, rfl⟩ zc_120 (by decide) (fun h => absurd h (by decide)) ?_
            refine zw_aload ⟨rfl, rfl⟩ rfl ?_
            refine zw_dup ⟨rfl, rfl⟩ (by decide) ?_
            refine zw_getIv (v := (yB (yK σ) c) + 1) ⟨rfl, rfl⟩ zc_120 (by decide) ((zup_ni (by decide)).trans (zup_eq _ _ _ _)) ?_
            refine zw_const ⟨rfl, rfl⟩ ?_
            refine zw_iadd ⟨rfl, rfl⟩ (by omega) ?_
            refine zw_putI ⟨rfl, rfl⟩ zc_120 (by decide) (fun h => absurd h (by decide)) ?_
            refine zw_aload ⟨rfl, rfl⟩ rfl ?_
            refine zw_aload ⟨rfl, rfl⟩ rfl ?_
            refine zw_getIv (v := ((yB (yK σ) c) + 1) + 1) ⟨rfl, rfl⟩ zc_120 (by decide) (zup_eq _ _ _ _) ?_
            refine zw_aload ⟨rfl, rfl⟩ rfl ?_
            refine zw_getIv (v := yB (yK σ) (c + 1)) ⟨rfl, rfl⟩ zc_120 (by decide) ((zup_ni (by decide)).trans ((zup_ni (by decide)).trans ((zup_ni (by decide)).trans ((zup_ni (by decide)).trans ((zup_ni (by decide)).trans ((zup_ni (by decide)).trans ((zup_ni (by decide)).trans ((zup_ni (by decide)).trans ((zup_ni (by decide)).trans (zup_eq _ _ _ _)))))))))) ?_
            refine zw_icge ⟨rfl, rfl⟩ rfl (fun c20 => ?_) (fun c20 => ?_)
            · skip
              refine zw_const ⟨rfl, rfl⟩ ?_
              refine zw_putI ⟨rfl, rfl⟩ zc_120 (by decide) (fun _ => by first | exact Or.inl rfl | exact Or.inr rfl | omega) ?_
              refine zw_void rfl ?_
              obtain ⟨z1, z2, z3, z4⟩ := yA0 (σ := σ) hk1
              have et : ytl (yK σ) (yB (yK σ) c) = ((yB (yK σ) c) + 1) + 1 := by
                unfold ytl
                repeat' split
                all_goals omega
              have eo : yow (yK σ) (yB (yK σ) c) = (yB (yK σ) c) + 1 := by
                unfold yow
                repeat' split
                all_goals omega
              have ed : ydd (yK σ) (yB (yK σ) c) = 0 := by
                first
                  | exact (ydd_iff hK h0 h1 hb).mpr ⟨by rw [et]; omega, by rw [et]; omega⟩
                  | exact ydd_n hK h0 h1 hb (fun z => by have z1 := z.1; have z2 := z.2; rw [et] at z1 z2; omega)
              refine k _ ⟨⟨⟨rfl, rfl, rfl, by rw [et]; rfl, by rw [ed]; rfl, by rw [eo]; rfl⟩, ⟨by rw [z1]; rfl, by rw [z2]; rfl, by rw [z3]; rfl, by rw [z4]; rfl⟩, fun j q1 q2 => by omega⟩, fun x hx => by rw [zup_row (by omega), zup_row (by omega), zup_row (by omega), zup_row (by omega), zup_row (by omega), zup_row (by omega), zup_row (by omega), zup_row (by omega), zup_row (by omega), zup_row (by omega), zup_row (by omega), zup_row (by omega), zup_row (by omega)]⟩
            · skip
              refine zw_aload ⟨rfl, rfl⟩ rfl ?_
              refine zw_aload ⟨rfl, rfl⟩ rfl ?_
              refine zw_getIv (v := ((yB (yK σ) c) + 1) + 1) ⟨rfl, rfl⟩ zc_120 (by decide) (zup_eq _ _ _ _) ?_
              refine zw_callv2 ⟨rfl, rfl⟩ rfl zc_105 rfl ?_
              refine m_kindAt hK (hC.cg (fun x y1 y2 => by rw [zup_row (by omega), zup_row (by omega), zup_row (by omega), zup_row (by omega), zup_row (by omega), zup_row (by omega), zup_row (by omega), zup_row (by omega), zup_row (by omega), zup_row (by omega), zup_row (by omega), zup_row (by omega)]))  ?_
              refine zw_const ⟨rfl, rfl⟩ ?_
              refine zw_icne ⟨rfl, rfl⟩ rfl (fun c21 => ?_) (fun c21 => ?_)
              · skip
                refine zw_const ⟨rfl, rfl⟩ ?_
                refine zw_putI ⟨rfl, rfl⟩ zc_120 (by decide) (fun _ => by first | exact Or.inl rfl | exact Or.inr rfl | omega) ?_
                refine zw_void rfl ?_
                obtain ⟨z1, z2, z3, z4⟩ := yA0 (σ := σ) hk1
                have et : ytl (yK σ) (yB (yK σ) c) = ((yB (yK σ) c) + 1) + 1 := by
                  unfold ytl
                  repeat' split
                  all_goals omega
                have eo : yow (yK σ) (yB (yK σ) c) = (yB (yK σ) c) + 1 := by
                  unfold yow
                  repeat' split
                  all_goals omega
                have ed : ydd (yK σ) (yB (yK σ) c) = 0 := by
                  first
                    | exact (ydd_iff hK h0 h1 hb).mpr ⟨by rw [et]; omega, by rw [et]; omega⟩
                    | exact ydd_n hK h0 h1 hb (fun z => by have z1 := z.1; have z2 := z.2; rw [et] at z1 z2; omega)
                refine k _ ⟨⟨⟨rfl, rfl, rfl, by rw [et]; rfl, by rw [ed]; rfl, by rw [eo]; rfl⟩, ⟨by rw [z1]; rfl, by rw [z2]; rfl, by rw [z3]; rfl, by rw [z4]; rfl⟩, fun j q1 q2 => by omega⟩, fun x hx => by rw [zup_row (by omega), zup_row (by omega), zup_row (by omega), zup_row (by omega), zup_row (by omega), zup_row (by omega), zup_row (by omega), zup_row (by omega), zup_row (by omega), zup_row (by omega), zup_row (by omega), zup_row (by omega), zup_row (by omega)]⟩
              · skip
                refine zw_const ⟨rfl, rfl⟩ ?_
                refine zw_goto ⟨rfl, rfl⟩ rfl ?_
                refine zw_putI ⟨rfl, rfl⟩ zc_120 (by decide) (fun _ => by first | exact Or.inl rfl | exact Or.inr rfl | omega) ?_
                refine zw_void rfl ?_
                obtain ⟨z1, z2, z3, z4⟩ := yA0 (σ := σ) hk1
                have et : ytl (yK σ) (yB (yK σ) c) = ((yB (yK σ) c) + 1) + 1 := by
                  unfold ytl
                  repeat' split
                  all_goals omega
                have eo : yow (yK σ) (yB (yK σ) c) = (yB (yK σ) c) + 1 := by
                  unfold yow
                  repeat' split
                  all_goals omega
                have ed : ydd (yK σ) (yB (yK σ) c) = 1 := by
                  first
                    | exact (ydd_iff hK h0 h1 hb).mpr ⟨by rw [et]; omega, by rw [et]; omega⟩
                    | exact ydd_n hK h0 h1 hb (fun z => by have z1 := z.1; have z2 := z.2; rw [et] at z1 z2; omega)
                refine k _ ⟨⟨⟨rfl, rfl, rfl, by rw [et]; rfl, by rw [ed]; rfl, by rw [eo]; rfl⟩, ⟨by rw [z1]; rfl, by rw [z2]; rfl, by rw [z3]; rfl, by rw [z4]; rfl⟩, fun j q1 q2 => by omega⟩, fun x hx => by rw [zup_row (by omega), zup_row (by omega), zup_row (by omega), zup_row (by omega), zup_row (by omega), zup_row (by omega), zup_row (by omega), zup_row (by omega), zup_row (by omega), zup_row (by omega), zup_row (by omega), zup_row (by omega), zup_row (by omega)]⟩
  · skip
    have hk1 : yK σ (yB (yK σ) c) = 1 := by omega
    refine zw_aload ⟨rfl, rfl⟩ rfl ?_
    refine zw_aload ⟨rfl, rfl⟩ rfl ?_
    refine zw_cavv2 ⟨rfl, rfl⟩ rfl zc_120 rfl ?_
    refine m_readChain hK (hC.cg (fun x y1 y2 => by rw [zup_row (by omega), zup_row (by omega), zup_row (by omega), zup_row (by omega), zup_row (by omega), zup_row (by omega), zup_row (by omega), zup_row (by omega), zup_row (by omega)])) h0 h1 hb hk1 ⟨rfl, (yB_ov hK hc.1 hc.2)⟩ (fun N1 p1 => ?_) rfl
    obtain ⟨r1, r2, r3, r4, r5⟩ := p1
    have gN1 : ∀ x, ¬ (120 ≤ x ∧ x ≤ 125) → N1 x = M x := fun x hx => by rw [r5 x hx]; rw [zup_row (by omega), zup_row (by omega), zup_row (by omega), zup_row (by omega), zup_row (by omega), zup_row (by omega), zup_row (by omega), zup_row (by omega), zup_row (by omega)]
    have hA : N1 120 0 = ym (yK σ) (yB (yK σ) c) ∧ ∀ k, 0 ≤ k → k < ym (yK σ) (yB (yK σ) c) → N1 121 k = ypl (yK σ) (yB (yK σ) c) k ∧ N1 122 k = ynk (yK σ) (ypl (yK σ) (yB (yK σ) c) k) ∧ N1 123 k = yvi (yK σ) (ypl (yK σ) (yB (yK σ) c) k) ∧ N1 124 k = yjo (yK σ) (ypl (yK σ) (yB (yK σ) c) k) ∧ N1 125 k = 0 := ⟨r1, r4⟩
    refine zw_aload ⟨rfl, rfl⟩ rfl ?_
    refine zw_aload ⟨rfl, rfl⟩ rfl ?_
    refine zw_aload ⟨rfl, rfl⟩ rfl ?_
    refine zw_callv2 ⟨rfl, rfl⟩ rfl zc_120 rfl ?_
    refine m_hasReph hV (hS.cg (fun x y1 y2 => gN1 x (by omega))) h0 h1 hk1 hA ?_
    refine zw_ifeq ⟨rfl, rfl⟩ rfl (fun c22 => ?_) (fun c22 => ?_)
    · skip
      refine zw_const ⟨rfl, rfl⟩ ?_
      refine zw_putI ⟨rfl, rfl⟩ zc_120 (by decide) (fun h => absurd h (by decide)) ?_
      refine zw_aload ⟨rfl, rfl⟩ rfl ?_
      refine zw_aload ⟨rfl, rfl⟩ rfl ?_
      refine zw_aload ⟨rfl, rfl⟩ rfl ?_
      refine zw_callv2 ⟨rfl, rfl⟩ rfl zc_120 rfl ?_
      have er : yrp σ (yK σ) (yB (yK σ) c) = 0 := by have := (yrp_r σ (yK σ) (yB (yK σ) c)).1; omega
      refine m_chosenBase hV (hS.cg (fun x y1 y2 => by rw [zup_row (by omega)]; exact gN1 x (by omega))) h0 h1 hk1 hA (by rw [er]; rfl) ?_
      refine zw_putI ⟨rfl, rfl⟩ zc_120 (by decide) (fun h => absurd h (by decide)) ?_
      refine zw_aload ⟨rfl, rfl⟩ rfl ?_
      refine zw_aload ⟨rfl, rfl⟩ rfl ?_
      refine zw_cavv2 ⟨rfl, rfl⟩ rfl zc_120 rfl ?_
      refine m_joinPairs hV (hS.cg (fun x y1 y2 => by rw [zup_row (by omega), zup_row (by omega)]; exact gN1 x (by omega))) h0 h1 hk1 hA ⟨by rw [er]; rfl, rfl, r3 3 (by decide) (by decide)⟩ (fun N2 p2 => ?_)
      obtain ⟨t1, t2, t3, t4⟩ := p2
      have gN2 : ∀ x, ¬ (120 ≤ x ∧ x ≤ 125) → N2 x = M x := fun x hx => by rw [t4 x (by omega) (by omega), zup_row (by omega), zup_row (by omega)]; exact gN1 x hx
      have f7 : N2 120 7 = ytl (yK σ) (yB (yK σ) c) := (t2 7 (by decide)).trans r2
      have f6 : N2 120 6 = yB (yK σ) (c + 1) := (t2 6 (by decide)).trans (r3 6 (by decide) (by decide))
      refine zw_goto ⟨rfl, rfl⟩ rfl ?_
      refine zw_aload ⟨rfl, rfl⟩ rfl ?_
      refine zw_aload ⟨rfl, rfl⟩ rfl ?_
      refine zw_getIv (v := ytl (yK σ) (yB (yK σ) c)) ⟨rfl, rfl⟩ zc_120 (by decide) (f7) ?_
      refine zw_aload ⟨rfl, rfl⟩ rfl ?_
      refine zw_getIv (v := yB (yK σ) (c + 1)) ⟨rfl, rfl⟩ zc_120 (by decide) (f6) ?_
      refine zw_icge ⟨rfl, rfl⟩ rfl (fun c23 => ?_) (fun c23 => ?_)
      · skip
        refine zw_const ⟨rfl, rfl⟩ ?_
        refine zw_putI ⟨rfl, rfl⟩ zc_120 (by decide) (fun _ => by first | exact Or.inl rfl | exact Or.inr rfl | omega) ?_
        refine zw_void rfl ?_
        have ed : ydd (yK σ) (yB (yK σ) c) = 0 := ydd_n hK h0 h1 hb (fun z => by have z1 := z.1; have z2 := z.2; omega)
        have em : yms (yK σ) (yB (yK σ) c) = ym (yK σ) (yB (yK σ) c) := if_pos hk1
        refine k _ ⟨⟨⟨?_, ?_, f6, f7, by rw [ed]; rfl, ?_⟩, ⟨?_, ?_, ?_, t1⟩, fun j q1 q2 => ?_⟩, fun x hx => by rw [zup_row (by omega)]; exact gN2 x hx⟩
        · exact (t2 4 (by decide)).trans (r3 4 (by decide) (by decide))
        · exact (t2 5 (by decide)).trans (r3 5 (by decide) (by decide))
        · refine ((t2 8 (by decide)).trans (r3 8 (by decide) (by decide))).trans ?_
          unfold yow
          rw [if_neg (by omega), if_neg (by omega)]
          rfl
        · exact ((t2 0 (by decide)).trans r1).trans em.symm
        · exact (t2 1 (by decide)).trans rfl
        · exact (t2 2 (by decide)).trans er.symm
        · rw [em] at q2
          have a := r4 j q1 q2
          have gg : ∀ x, x ≠ 120 → x ≠ 125 → N2 x = N1 x := fun x h1 h2 => by rw [t4 x h1 h2, zup_row h1, zup_row h1]
          refine ⟨(congrFun (gg 121 (by decide) (by decide)) j).trans a.1, (congrFun (gg 122 (by decide) (by decide)) j).trans a.2.1, (congrFun (gg 123 (by decide) (by decide)) j).trans a.2.2.1, (congrFun (gg 124 (by decide) (by decide)) j).trans a.2.2.2.1, t3 j q1 q2⟩
      · skip
        refine zw_aload ⟨rfl, rfl⟩ rfl ?_
        refine zw_aload ⟨rfl, rfl⟩ rfl ?_
        refine zw_getIv (v := ytl (yK σ) (yB (yK σ) c)) ⟨rfl, rfl⟩ zc_120 (by decide) (f7) ?_
        refine zw_callv2 ⟨rfl, rfl⟩ rfl zc_105 rfl ?_
        refine m_kindAt hK (hC.cg (fun x y1 y2 => gN2 x (by omega)))  ?_
        refine zw_const ⟨rfl, rfl⟩ ?_
        refine zw_icne ⟨rfl, rfl⟩ rfl (fun c24 => ?_) (fun c24 => ?_)
        · skip
          refine zw_const ⟨rfl, rfl⟩ ?_
          refine zw_putI ⟨rfl, rfl⟩ zc_120 (by decide) (fun _ => by first | exact Or.inl rfl | exact Or.inr rfl | omega) ?_
          refine zw_void rfl ?_
          have ed : ydd (yK σ) (yB (yK σ) c) = 0 := ydd_n hK h0 h1 hb (fun z => by have z1 := z.1; have z2 := z.2; omega)
          have em : yms (yK σ) (yB (yK σ) c) = ym (yK σ) (yB (yK σ) c) := if_pos hk1
          refine k _ ⟨⟨⟨?_, ?_, f6, f7, by rw [ed]; rfl, ?_⟩, ⟨?_, ?_, ?_, t1⟩, fun j q1 q2 => ?_⟩, fun x hx => by rw [zup_row (by omega)]; exact gN2 x hx⟩
          · exact (t2 4 (by decide)).trans (r3 4 (by decide) (by decide))
          · exact (t2 5 (by decide)).trans (r3 5 (by decide) (by decide))
          · refine ((t2 8 (by decide)).trans (r3 8 (by decide) (by decide))).trans ?_
            unfold yow
            rw [if_neg (by omega), if_neg (by omega)]
            rfl
          · exact ((t2 0 (by decide)).trans r1).trans em.symm
          · exact (t2 1 (by decide)).trans rfl
          · exact (t2 2 (by decide)).trans er.symm
          · rw [em] at q2
            have a := r4 j q1 q2
            have gg : ∀ x, x ≠ 120 → x ≠ 125 → N2 x = N1 x := fun x h1 h2 => by rw [t4 x h1 h2, zup_row h1, zup_row h1]
            refine ⟨(congrFun (gg 121 (by decide) (by decide)) j).trans a.1, (congrFun (gg 122 (by decide) (by decide)) j).trans a.2.1, (congrFun (gg 123 (by decide) (by decide)) j).trans a.2.2.1, (congrFun (gg 124 (by decide) (by decide)) j).trans a.2.2.2.1, t3 j q1 q2⟩
        · skip
          refine zw_const ⟨rfl, rfl⟩ ?_
          refine zw_goto ⟨rfl, rfl⟩ rfl ?_
          refine zw_putI ⟨rfl, rfl⟩ zc_120 (by decide) (fun _ => by first | exact Or.inl rfl | exact Or.inr rfl | omega) ?_
          refine zw_void rfl ?_
          have ed : ydd (yK σ) (yB (yK σ) c) = 1 := (ydd_iff hK h0 h1 hb).mpr ⟨by omega, by omega⟩
          have em : yms (yK σ) (yB (yK σ) c) = ym (yK σ) (yB (yK σ) c) := if_pos hk1
          refine k _ ⟨⟨⟨?_, ?_, f6, f7, by rw [ed]; rfl, ?_⟩, ⟨?_, ?_, ?_, t1⟩, fun j q1 q2 => ?_⟩, fun x hx => by rw [zup_row (by omega)]; exact gN2 x hx⟩
          · exact (t2 4 (by decide)).trans (r3 4 (by decide) (by decide))
          · exact (t2 5 (by decide)).trans (r3 5 (by decide) (by decide))
          · refine ((t2 8 (by decide)).trans (r3 8 (by decide) (by decide))).trans ?_
            unfold yow
            rw [if_neg (by omega), if_neg (by omega)]
            rfl
          · exact ((t2 0 (by decide)).trans r1).trans em.symm
          · exact (t2 1 (by decide)).trans rfl
          · exact (t2 2 (by decide)).trans er.symm
          · rw [em] at q2
            have a := r4 j q1 q2
            have gg : ∀ x, x ≠ 120 → x ≠ 125 → N2 x = N1 x := fun x h1 h2 => by rw [t4 x h1 h2, zup_row h1, zup_row h1]
            refine ⟨(congrFun (gg 121 (by decide) (by decide)) j).trans a.1, (congrFun (gg 122 (by decide) (by decide)) j).trans a.2.1, (congrFun (gg 123 (by decide) (by decide)) j).trans a.2.2.1, (congrFun (gg 124 (by decide) (by decide)) j).trans a.2.2.2.1, t3 j q1 q2⟩
    · skip
      refine zw_const ⟨rfl, rfl⟩ ?_
      refine zw_goto ⟨rfl, rfl⟩ rfl ?_
      refine zw_putI ⟨rfl, rfl⟩ zc_120 (by decide) (fun h => absurd h (by decide)) ?_
      refine zw_aload ⟨rfl, rfl⟩ rfl ?_
      refine zw_aload ⟨rfl, rfl⟩ rfl ?_
      refine zw_aload ⟨rfl, rfl⟩ rfl ?_
      refine zw_callv2 ⟨rfl, rfl⟩ rfl zc_120 rfl ?_
      have er : yrp σ (yK σ) (yB (yK σ) c) = 1 := by have := (yrp_r σ (yK σ) (yB (yK σ) c)).1; omega
      refine m_chosenBase hV (hS.cg (fun x y1 y2 => by rw [zup_row (by omega)]; exact gN1 x (by omega))) h0 h1 hk1 hA (by rw [er]; rfl) ?_
      refine zw_putI ⟨rfl, rfl⟩ zc_120 (by decide) (fun h => absurd h (by decide)) ?_
      refine zw_aload ⟨rfl, rfl⟩ rfl ?_
      refine zw_aload ⟨rfl, rfl⟩ rfl ?_
      refine zw_cavv2 ⟨rfl, rfl⟩ rfl zc_120 rfl ?_
      refine m_joinPairs hV (hS.cg (fun x y1 y2 => by rw [zup_row (by omega), zup_row (by omega)]; exact gN1 x (by omega))) h0 h1 hk1 hA ⟨by rw [er]; rfl, rfl, r3 3 (by decide) (by decide)⟩ (fun N2 p2 => ?_)
      obtain ⟨t1, t2, t3, t4⟩ := p2
      have gN2 : ∀ x, ¬ (120 ≤ x ∧ x ≤ 125) → N2 x = M x := fun x hx => by rw [t4 x (by omega) (by omega), zup_row (by omega), zup_row (by omega)]; exact gN1 x hx
      have f7 : N2 120 7 = ytl (yK σ) (yB (yK σ) c) := (t2 7 (by decide)).trans r2
      have f6 : N2 120 6 = yB (yK σ) (c + 1) := (t2 6 (by decide)).trans (r3 6 (by decide) (by decide))
      refine zw_goto ⟨rfl, rfl⟩ rfl ?_
      refine zw_aload ⟨rfl, rfl⟩ rfl ?_
      refine zw_aload ⟨rfl, rfl⟩ rfl ?_
      refine zw_getIv (v := ytl (yK σ) (yB (yK σ) c)) ⟨rfl, rfl⟩ zc_120 (by decide) (f7) ?_
      refine zw_aload ⟨rfl, rfl⟩ rfl ?_
      refine zw_getIv (v := yB (yK σ) (c + 1)) ⟨rfl, rfl⟩ zc_120 (by decide) (f6) ?_
      refine zw_icge ⟨rfl, rfl⟩ rfl (fun c25 => ?_) (fun c25 => ?_)
      · skip
        refine zw_const ⟨rfl, rfl⟩ ?_
        refine zw_putI ⟨rfl, rfl⟩ zc_120 (by decide) (fun _ => by first | exact Or.inl rfl | exact Or.inr rfl | omega) ?_
        refine zw_void rfl ?_
        have ed : ydd (yK σ) (yB (yK σ) c) = 0 := ydd_n hK h0 h1 hb (fun z => by have z1 := z.1; have z2 := z.2; omega)
        have em : yms (yK σ) (yB (yK σ) c) = ym (yK σ) (yB (yK σ) c) := if_pos hk1
        refine k _ ⟨⟨⟨?_, ?_, f6, f7, by rw [ed]; rfl, ?_⟩, ⟨?_, ?_, ?_, t1⟩, fun j q1 q2 => ?_⟩, fun x hx => by rw [zup_row (by omega)]; exact gN2 x hx⟩
        · exact (t2 4 (by decide)).trans (r3 4 (by decide) (by decide))
        · exact (t2 5 (by decide)).trans (r3 5 (by decide) (by decide))
        · refine ((t2 8 (by decide)).trans (r3 8 (by decide) (by decide))).trans ?_
          unfold yow
          rw [if_neg (by omega), if_neg (by omega)]
          rfl
        · exact ((t2 0 (by decide)).trans r1).trans em.symm
        · exact (t2 1 (by decide)).trans rfl
        · exact (t2 2 (by decide)).trans er.symm
        · rw [em] at q2
          have a := r4 j q1 q2
          have gg : ∀ x, x ≠ 120 → x ≠ 125 → N2 x = N1 x := fun x h1 h2 => by rw [t4 x h1 h2, zup_row h1, zup_row h1]
          refine ⟨(congrFun (gg 121 (by decide) (by decide)) j).trans a.1, (congrFun (gg 122 (by decide) (by decide)) j).trans a.2.1, (congrFun (gg 123 (by decide) (by decide)) j).trans a.2.2.1, (congrFun (gg 124 (by decide) (by decide)) j).trans a.2.2.2.1, t3 j q1 q2⟩
      · skip
        refine zw_aload ⟨rfl, rfl⟩ rfl ?_
        refine zw_aload ⟨rfl, rfl⟩ rfl ?_
        refine zw_getIv (v := ytl (yK σ) (yB (yK σ) c)) ⟨rfl, rfl⟩ zc_120 (by decide) (f7) ?_
        refine zw_callv2 ⟨rfl, rfl⟩ rfl zc_105 rfl ?_
        refine m_kindAt hK (hC.cg (fun x y1 y2 => gN2 x (by omega)))  ?_
        refine zw_const ⟨rfl, rfl⟩ ?_
        refine zw_icne ⟨rfl, rfl⟩ rfl (fun c26 => ?_) (fun c26 => ?_)
        · skip
          refine zw_const ⟨rfl, rfl⟩ ?_
          refine zw_putI ⟨rfl, rfl⟩ zc_120 (by decide) (fun _ => by first | exact Or.inl rfl | exact Or.inr rfl | omega) ?_
          refine zw_void rfl ?_
          have ed : ydd (yK σ) (yB (yK σ) c) = 0 := ydd_n hK h0 h1 hb (fun z => by have z1 := z.1; have z2 := z.2; omega)
          have em : yms (yK σ) (yB (yK σ) c) = ym (yK σ) (yB (yK σ) c) := if_pos hk1
          refine k _ ⟨⟨⟨?_, ?_, f6, f7, by rw [ed]; rfl, ?_⟩, ⟨?_, ?_, ?_, t1⟩, fun j q1 q2 => ?_⟩, fun x hx => by rw [zup_row (by omega)]; exact gN2 x hx⟩
          · exact (t2 4 (by decide)).trans (r3 4 (by decide) (by decide))
          · exact (t2 5 (by decide)).trans (r3 5 (by decide) (by decide))
          · refine ((t2 8 (by decide)).trans (r3 8 (by decide) (by decide))).trans ?_
            unfold yow
            rw [if_neg (by omega), if_neg (by omega)]
            rfl
          · exact ((t2 0 (by decide)).trans r1).trans em.symm
          · exact (t2 1 (by decide)).trans rfl
          · exact (t2 2 (by decide)).trans er.symm
          · rw [em] at q2
            have a := r4 j q1 q2
            have gg : ∀ x, x ≠ 120 → x ≠ 125 → N2 x = N1 x := fun x h1 h2 => by rw [t4 x h1 h2, zup_row h1, zup_row h1]
            refine ⟨(congrFun (gg 121 (by decide) (by decide)) j).trans a.1, (congrFun (gg 122 (by decide) (by decide)) j).trans a.2.1, (congrFun (gg 123 (by decide) (by decide)) j).trans a.2.2.1, (congrFun (gg 124 (by decide) (by decide)) j).trans a.2.2.2.1, t3 j q1 q2⟩
        · skip
          refine zw_const ⟨rfl, rfl⟩ ?_
          refine zw_goto ⟨rfl, rfl⟩ rfl ?_
          refine zw_putI ⟨rfl, rfl⟩ zc_120 (by decide) (fun _ => by first | exact Or.inl rfl | exact Or.inr rfl | omega) ?_
          refine zw_void rfl ?_
          have ed : ydd (yK σ) (yB (yK σ) c) = 1 := (ydd_iff hK h0 h1 hb).mpr ⟨by omega, by omega⟩
          have em : yms (yK σ) (yB (yK σ) c) = ym (yK σ) (yB (yK σ) c) := if_pos hk1
          refine k _ ⟨⟨⟨?_, ?_, f6, f7, by rw [ed]; rfl, ?_⟩, ⟨?_, ?_, ?_, t1⟩, fun j q1 q2 => ?_⟩, fun x hx => by rw [zup_row (by omega)]; exact gN2 x hx⟩
          · exact (t2 4 (by decide)).trans (r3 4 (by decide) (by decide))
          · exact (t2 5 (by decide)).trans (r3 5 (by decide) (by decide))
          · refine ((t2 8 (by decide)).trans (r3 8 (by decide) (by decide))).trans ?_
            unfold yow
            rw [if_neg (by omega), if_neg (by omega)]
            rfl
          · exact ((t2 0 (by decide)).trans r1).trans em.symm
          · exact (t2 1 (by decide)).trans rfl
          · exact (t2 2 (by decide)).trans er.symm
          · rw [em] at q2
            have a := r4 j q1 q2
            have gg : ∀ x, x ≠ 120 → x ≠ 125 → N2 x = N1 x := fun x h1 h2 => by rw [t4 x h1 h2, zup_row h1, zup_row h1]
            refine ⟨(congrFun (gg 121 (by decide) (by decide)) j).trans a.1, (congrFun (gg 122 (by decide) (by decide)) j).trans a.2.1, (congrFun (gg 123 (by decide) (by decide)) j).trans a.2.2.1, (congrFun (gg 124 (by decide) (by decide)) j).trans a.2.2.2.1, t3 j q1 q2⟩
end

theorem m_basePlace {b e : Int} {M : zM} {Q : zV → zM → Prop} {σ : yS} (hA : yAna M σ (yK σ) b e) (hz : yK σ b = 1 → (0 ≤ yba σ (yK σ) b ∧ yba σ (yK σ) b < ym (yK σ) b) ∧ ym (yK σ) b ≤ 60) (k : Q (0, ybp σ (yK σ) b) M) : zWp kAn_basePlace 0 [(1, 120)] [] M Q := by
  have hk : yK σ b = 1 → yso (yK σ b) = 0 ∧ yms (yK σ) b = ym (yK σ) b := fun z => ⟨by rw [z]; rfl, if_pos z⟩
  have hk0 : yso (yK σ b) = 0 → yK σ b = 1 := fun z => by unfold yso at z; split at z <;> first | assumption | (split at z <;> first | omega | (split at z <;> omega))
  refine zw_aload ⟨rfl, rfl⟩ rfl ?_
  refine zw_getIv (v := yso (yK σ b)) ⟨rfl, rfl⟩ zc_120 (by decide) (hA.1.1) ?_
  refine zw_const ⟨rfl, rfl⟩ ?_
  refine zw_icne ⟨rfl, rfl⟩ rfl (fun c1 => ?_) (fun c1 => ?_)
  · skip
    refine zw_aload ⟨rfl, rfl⟩ rfl ?_
    refine zw_getIv (v := yso (yK σ b)) ⟨rfl, rfl⟩ zc_120 (by decide) (hA.1.1) ?_
    refine zw_ifne ⟨rfl, rfl⟩ rfl (fun c2 => ?_) (fun c2 => ?_)
    · skip
      refine zw_aload ⟨rfl, rfl⟩ rfl ?_
      refine zw_getIv (v := b) ⟨rfl, rfl⟩ zc_120 (by decide) (hA.1.2.1) ?_
      refine zw_ret rfl ?_
      rw [show ybp σ (yK σ) b = b from by unfold ybp; rw [if_neg (by omega), if_neg (fun z => by have := hk z; omega)]] at k
      exact k
    · skip
      have hk1 := hk0 (by omega)
      have hz2 := hz hk1
      have hk2 := hk hk1
      refine zw_aload ⟨rfl, rfl⟩ rfl ?_
      refine zw_getIv (v := yba σ (yK σ) b) ⟨rfl, rfl⟩ zc_120 (by decide) (hA.2.1.2.1) ?_
      refine zw_aload ⟨rfl, rfl⟩ rfl ?_
      refine zw_getIv (v := yms (yK σ) b) ⟨rfl, rfl⟩ zc_120 (by decide) (hA.2.1.1) ?_
      refine zw_icge ⟨rfl, rfl⟩ rfl (fun c3 => ?_) (fun c3 => ?_)
      · skip
        have hz3 := hz
        have hk3 := hk
        refine zw_aload ⟨rfl, rfl⟩ rfl ?_
        refine zw_getIv (v := b) ⟨rfl, rfl⟩ zc_120 (by decide) (hA.1.2.1) ?_
        refine zw_ret rfl ?_
        rw [show ybp σ (yK σ) b = b from by unfold ybp; rw [if_neg (by omega), if_neg (fun z => by have := hk z; omega)]] at k
        exact k
      · skip
        have hk3 := hk
        refine zw_aload ⟨rfl, rfl⟩ rfl ?_
        refine zw_getR 121 ⟨rfl, rfl⟩ zr_120_10 ?_
        refine zw_aload ⟨rfl, rfl⟩ rfl ?_
        refine zw_getIv (v := yba σ (yK σ) b) ⟨rfl, rfl⟩ zc_120 (by decide) (hA.2.1.2.1) ?_
        refine zw_ialdv (v := ypl (yK σ) b (yba σ (yK σ) b)) ⟨rfl, rfl⟩ za_121 (by omega) ((hA.2.2 (yba σ (yK σ) b) (by omega) (by omega)).1) ?_
        refine zw_goto ⟨rfl, rfl⟩ rfl ?_
        refine zw_ret rfl ?_
        rw [show ybp σ (yK σ) b = ypl (yK σ) b (yba σ (yK σ) b) from by unfold ybp; rw [if_neg (by omega), if_pos (by omega)]] at k
        exact k
  · skip
    refine zw_const ⟨rfl, rfl⟩ ?_
    refine zw_ret rfl ?_
    rw [show ybp σ (yK σ) b = (-1) from by unfold ybp; rw [if_pos (by omega)]] at k
    exact k

theorem m_describe {c b e : Int} {M : zM} {Q : zV → zM → Prop} {σ : yS} (hc : 0 ≤ c ∧ c < M 105 0 ∧ M 105 0 ≤ 60) (hA : yAna M σ (yK σ) b e) (hz : yK σ b = 1 → (0 ≤ yba σ (yK σ) b ∧ yba σ (yK σ) b < ym (yK σ) b) ∧ ym (yK σ) b ≤ 60) (k : ∀ N : zM, ((N 112 c = ydd (yK σ) b ∧ N 113 c = yms (yK σ) b ∧ N 114 c = ybp σ (yK σ) b ∧ N 115 c = yrp σ (yK σ) b ∧ N 116 c = (if yms (yK σ) b = 0 then 0 else yms (yK σ) b - 1 - yba σ (yK σ) b) ∧ N 117 c = ypr σ (yK σ) b) ∧ ∀ x j, ¬ ((112 ≤ x ∧ x ≤ 117) ∧ j = c) → N x j = M x j) → Q (3, 0) N) : zWp kCu_describe 0 [(1, 105), (0, c), (1, 120)] [] M Q := by
  have hmm : yms (yK σ) b ≠ 0 → yK σ b = 1 ∧ yms (yK σ) b = ym (yK σ) b := fun z => by unfold yms at z ⊢; split at z <;> simp_all
  refine zw_aload ⟨rfl, rfl⟩ rfl ?_
  refine zw_iload ⟨rfl, rfl⟩ rfl ?_
  refine zw_callv2 ⟨rfl, rfl⟩ rfl zc_105 rfl ?_
  refine zw_iload ⟨rfl, rfl⟩ rfl ?_
  refine zw_iflt ⟨rfl, rfl⟩ rfl (fun q => absurd q (by omega)) (fun _ => ?_)
  refine zw_iload ⟨rfl, rfl⟩ rfl ?_
  refine zw_aload ⟨rfl, rfl⟩ rfl ?_
  refine zw_getIv (v := M 105 0) ⟨rfl, rfl⟩ zc_105 (by decide) rfl ?_
  refine zw_icge ⟨rfl, rfl⟩ rfl (fun q => absurd q (by omega)) (fun _ => ?_)
  refine zw_const ⟨rfl, rfl⟩ ?_
  refine zw_goto ⟨rfl, rfl⟩ rfl ?_
  refine zw_zret rfl (by first | exact Or.inl rfl | exact Or.inr rfl | omega) ?_
  refine zw_ifne ⟨rfl, rfl⟩ rfl (fun _ => ?_) (fun q => absurd (by decide) q)
  refine zw_aload ⟨rfl, rfl⟩ rfl ?_
  refine zw_getR 108 ⟨rfl, rfl⟩ zr_105_4 ?_
  refine zw_const ⟨rfl, rfl⟩ ?_
  refine zw_row ⟨rfl, rfl⟩ zrw_108 (by omega) ?_
  rw [show ((109 : Int) + 3) = 112 from rfl]
  refine zw_iload ⟨rfl, rfl⟩ rfl ?_
  refine zw_aload ⟨rfl, rfl⟩ rfl ?_
  refine zw_getIv (v := ydd (yK σ) b) ⟨rfl, rfl⟩ zc_120 (by decide) (hA.1.2.2.2.2.1) ?_
  refine zw_ifeq ⟨rfl, rfl⟩ rfl (fun c4 => ?_) (fun c4 => ?_)
  · skip
    refine zw_const ⟨rfl, rfl⟩ ?_
    refine zw_iast ⟨rfl, rfl⟩ za_112 (by omega) ?_
    refine zw_aload ⟨rfl, rfl⟩ rfl ?_
    refine zw_getR 108 ⟨rfl, rfl⟩ zr_105_4 ?_
    refine zw_const ⟨rfl, rfl⟩ ?_
    refine zw_row ⟨rfl, rfl⟩ zrw_108 (by omega) ?_
    rw [show ((109 : Int) + 4) = 113 from rfl]
    refine zw_iload ⟨rfl, rfl⟩ rfl ?_
    refine zw_aload ⟨rfl, rfl⟩ rfl ?_
    refine zw_getIv (v := yms (yK σ) b) ⟨rfl, rfl⟩ zc_120 (by decide) ((zup_na (by decide)).trans (hA.2.1.1)) ?_
    refine zw_iast ⟨rfl, rfl⟩ za_113 (by omega) ?_
    refine zw_aload ⟨rfl, rfl⟩ rfl ?_
    refine zw_getR 108 ⟨rfl, rfl⟩ zr_105_4 ?_
    refine zw_const ⟨rfl, rfl⟩ ?_
    refine zw_row ⟨rfl, rfl⟩ zrw_108 (by omega) ?_
    rw [show ((109 : Int) + 5) = 114 from rfl]
    refine zw_iload ⟨rfl, rfl⟩ rfl ?_
    refine zw_aload ⟨rfl, rfl⟩ rfl ?_
    refine zw_callv1 ⟨rfl, rfl⟩ rfl zc_120 rfl ?_
    refine m_basePlace (hA.cg (fun x y1 y2 => by rw [zup_row (by omega), zup_row (by omega)])) hz ?_
    refine zw_iast ⟨rfl, rfl⟩ za_114 (by omega) ?_
    refine zw_aload ⟨rfl, rfl⟩ rfl ?_
    refine zw_getR 108 ⟨rfl, rfl⟩ zr_105_4 ?_
    refine zw_const ⟨rfl, rfl⟩ ?_
    refine zw_row ⟨rfl, rfl⟩ zrw_108 (by omega) ?_
    rw [show ((109 : Int) + 6) = 115 from rfl]
    refine zw_iload ⟨rfl, rfl⟩ rfl ?_
    refine zw_aload ⟨rfl, rfl⟩ rfl ?_
    refine zw_getIv (v := yrp σ (yK σ) b) ⟨rfl, rfl⟩ zc_120 (by decide) ((zup_na (by decide)).trans ((zup_na (by decide)).trans ((zup_na (by decide)).trans (hA.2.1.2.2.1)))) ?_
    refine zw_iast ⟨rfl, rfl⟩ za_115 (by omega) ?_
    refine zw_aload ⟨rfl, rfl⟩ rfl ?_
    refine zw_getR 108 ⟨rfl, rfl⟩ zr_105_4 ?_
    refine zw_const ⟨rfl, rfl⟩ ?_
    refine zw_row ⟨rfl, rfl⟩ zrw_108 (by omega) ?_
    rw [show ((109 : Int) + 7) = 116 from rfl]
    refine zw_iload ⟨rfl, rfl⟩ rfl ?_
    refine zw_aload ⟨rfl, rfl⟩ rfl ?_
    refine zw_getIv (v := yms (yK σ) b) ⟨rfl, rfl⟩ zc_120 (by decide) ((zup_na (by decide)).trans ((zup_na (by decide)).trans ((zup_na (by decide)).trans ((zup_na (by decide)).trans (hA.2.1.1))))) ?_
    refine zw_ifne ⟨rfl, rfl⟩ rfl (fun c5 => ?_) (fun c5 => ?_)
    · skip
      obtain ⟨zz1, zz2⟩ := hmm (by omega)
      obtain ⟨zz3, zz4⟩ := hz zz1
      refine zw_aload ⟨rfl, rfl⟩ rfl ?_
      refine zw_getIv (v := yms (yK σ) b) ⟨rfl, rfl⟩ zc_120 (by decide) ((zup_na (by decide)).trans ((zup_na (by decide)).trans ((zup_na (by decide)).trans ((zup_na (by decide)).trans (hA.2.1.1))))) ?_
      refine zw_const ⟨rfl, rfl⟩ ?_
      refine zw_isub ⟨rfl, rfl⟩ (by omega) ?_
      refine zw_aload ⟨rfl, rfl⟩ rfl ?_
      refine zw_getIv (v := yba σ (yK σ) b) ⟨rfl, rfl⟩ zc_120 (by decide) ((zup_na (by decide)).trans ((zup_na (by decide)).trans ((zup_na (by decide)).trans ((zup_na (by decide)).trans (hA.2.1.2.1))))) ?_
      refine zw_isub ⟨rfl, rfl⟩ (by omega) ?_
      refine zw_iast ⟨rfl, rfl⟩ za_116 (by omega) ?_
      refine zw_aload ⟨rfl, rfl⟩ rfl ?_
      refine zw_getR 108 ⟨rfl, rfl⟩ zr_105_4 ?_
      refine zw_const ⟨rfl, rfl⟩ ?_
      refine zw_row ⟨rfl, rfl⟩ zrw_108 (by omega) ?_
      rw [show ((109 : Int) + 8) = 117 from rfl]
      refine zw_iload ⟨rfl, rfl⟩ rfl ?_
      refine zw_aload ⟨rfl, rfl⟩ rfl ?_
      refine zw_getIv (v := ypr σ (yK σ) b) ⟨rfl, rfl⟩ zc_120 (by decide) ((zup_na (by decide)).trans ((zup_na (by decide)).trans ((zup_na (by decide)).trans ((zup_na (by decide)).trans ((zup_na (by decide)).trans (hA.2.1.2.2.2)))))) ?_
      refine zw_iast ⟨rfl, rfl⟩ za_117 (by omega) ?_
      refine zw_void rfl ?_
      have ed : ydd (yK σ) b = 0 := by have := ydd_r (yK σ) b; omega
      refine k _ ⟨⟨?_, ?_, ?_, ?_, ?_, ?_⟩, fun x j hx => ?_⟩
      · rw [ed]; simp [zup]
      · simp [zup]
      · simp [zup]
      · simp [zup]
      · rw [if_neg (by assumption)]; simp [zup]
      · simp [zup]
      · rw [zup_ne (by omega), zup_ne (by omega), zup_ne (by omega), zup_ne (by omega), zup_ne (by omega), zup_ne (by omega)]
    · skip
      refine zw_const ⟨rfl, rfl⟩ ?_
      refine zw_goto ⟨rfl, rfl⟩ rfl ?_
      refine zw_iast ⟨rfl, rfl⟩ za_116 (by omega) ?_
      refine zw_aload ⟨rfl, rfl⟩ rfl ?_
      refine zw_getR 108 ⟨rfl, rfl⟩ zr_105_4 ?_
      refine zw_const ⟨rfl, rfl⟩ ?_
      refine zw_row ⟨rfl, rfl⟩ zrw_108 (by omega) ?_
      rw [show ((109 : Int) + 8) = 117 from rfl]
      refine zw_iload ⟨rfl, rfl⟩ rfl ?_
      refine zw_aload ⟨rfl, rfl⟩ rfl ?_
      refine zw_getIv (v := ypr σ (yK σ) b) ⟨rfl, rfl⟩ zc_120 (by decide) ((zup_na (by decide)).trans ((zup_na (by decide)).trans ((zup_na (by decide)).trans ((zup_na (by decide)).trans ((zup_na (by decide)).trans (hA.2.1.2.2.2)))))) ?_
      refine zw_iast ⟨rfl, rfl⟩ za_117 (by omega) ?_
      refine zw_void rfl ?_
      have ed : ydd (yK σ) b = 0 := by have := ydd_r (yK σ) b; omega
      refine k _ ⟨⟨?_, ?_, ?_, ?_, ?_, ?_⟩, fun x j hx => ?_⟩
      · rw [ed]; simp [zup]
      · simp [zup]
      · simp [zup]
      · simp [zup]
      · rw [if_pos (by omega)]; simp [zup]
      · simp [zup]
      · rw [zup_ne (by omega), zup_ne (by omega), zup_ne (by omega), zup_ne (by omega), zup_ne (by omega), zup_ne (by omega)]
  · skip
    refine zw_const ⟨rfl, rfl⟩ ?_
    refine zw_goto ⟨rfl, rfl⟩ rfl ?_
    refine zw_iast ⟨rfl, rfl⟩ za_112 (by omega) ?_
    refine zw_aload ⟨rfl, rfl⟩ rfl ?_
    refine zw_getR 108 ⟨rfl, rfl⟩ zr_105_4 ?_
    refine zw_const ⟨rfl, rfl⟩ ?_
    refine zw_row ⟨rfl, rfl⟩ zrw_108 (by omega) ?_
    rw [show ((109 : Int) + 4) = 113 from rfl]
    refine zw_iload ⟨rfl, rfl⟩ rfl ?_
    refine zw_aload ⟨rfl, rfl⟩ rfl ?_
    refine zw_getIv (v := yms (yK σ) b) ⟨rfl, rfl⟩ zc_120 (by decide) ((zup_na (by decide)).trans (hA.2.1.1)) ?_
    refine zw_iast ⟨rfl, rfl⟩ za_113 (by omega) ?_
    refine zw_aload ⟨rfl, rfl⟩ rfl ?_
    refine zw_getR 108 ⟨rfl, rfl⟩ zr_105_4 ?_
    refine zw_const ⟨rfl, rfl⟩ ?_
    refine zw_row ⟨rfl, rfl⟩ zrw_108 (by omega) ?_
    rw [show ((109 : Int) + 5) = 114 from rfl]
    refine zw_iload ⟨rfl, rfl⟩ rfl ?_
    refine zw_aload ⟨rfl, rfl⟩ rfl ?_
    refine zw_callv1 ⟨rfl, rfl⟩ rfl zc_120 rfl ?_
    refine m_basePlace (hA.cg (fun x y1 y2 => by rw [zup_row (by omega), zup_row (by omega)])) hz ?_
    refine zw_iast ⟨rfl, rfl⟩ za_114 (by omega) ?_
    refine zw_aload ⟨rfl, rfl⟩ rfl ?_
    refine zw_getR 108 ⟨rfl, rfl⟩ zr_105_4 ?_
    refine zw_const ⟨rfl, rfl⟩ ?_
    refine zw_row ⟨rfl, rfl⟩ zrw_108 (by omega) ?_
    rw [show ((109 : Int) + 6) = 115 from rfl]
    refine zw_iload ⟨rfl, rfl⟩ rfl ?_
    refine zw_aload ⟨rfl, rfl⟩ rfl ?_
    refine zw_getIv (v := yrp σ (yK σ) b) ⟨rfl, rfl⟩ zc_120 (by decide) ((zup_na (by decide)).trans ((zup_na (by decide)).trans ((zup_na (by decide)).trans (hA.2.1.2.2.1)))) ?_
    refine zw_iast ⟨rfl, rfl⟩ za_115 (by omega) ?_
    refine zw_aload ⟨rfl, rfl⟩ rfl ?_
    refine zw_getR 108 ⟨rfl, rfl⟩ zr_105_4 ?_
    refine zw_const ⟨rfl, rfl⟩ ?_
    refine zw_row ⟨rfl, rfl⟩ zrw_108 (by omega) ?_
    rw [show ((109 : Int) + 7) = 116 from rfl]
    refine zw_iload ⟨rfl, rfl⟩ rfl ?_
    refine zw_aload ⟨rfl, rfl⟩ rfl ?_
    refine zw_getIv (v := yms (yK σ) b) ⟨rfl, rfl⟩ zc_120 (by decide) ((zup_na (by decide)).trans ((zup_na (by decide)).trans ((zup_na (by decide)).trans ((zup_na (by decide)).trans (hA.2.1.1))))) ?_
    refine zw_ifne ⟨rfl, rfl⟩ rfl (fun c6 => ?_) (fun c6 => ?_)
    · skip
      obtain ⟨zz1, zz2⟩ := hmm (by omega)
      obtain ⟨zz3, zz4⟩ := hz zz1
      refine zw_aload ⟨rfl, rfl⟩ rfl ?_
      refine zw_getIv (v := yms (yK σ) b) ⟨rfl, rfl⟩ zc_120 (by decide) ((zup_na (by decide)).trans ((zup_na (by decide)).trans ((zup_na (by decide)).trans ((zup_na (by decide)).trans (hA.2.1.1))))) ?_
      refine zw_const ⟨rfl, rfl⟩ ?_
      refine zw_isub ⟨rfl, rfl⟩ (by omega) ?_
      refine zw_aload ⟨rfl, rfl⟩ rfl ?_
      refine zw_getIv (v := yba σ (yK σ) b) ⟨rfl, rfl⟩ zc_120 (by decide) ((zup_na (by decide)).trans ((zup_na (by decide)).trans ((zup_na (by decide)).trans ((zup_na (by decide)).trans (hA.2.1.2.1))))) ?_
      refine zw_isub ⟨rfl, rfl⟩ (by omega) ?_
      refine zw_iast ⟨rfl, rfl⟩ za_116 (by omega) ?_
      refine zw_aload ⟨rfl, rfl⟩ rfl ?_
      refine zw_getR 108 ⟨rfl, rfl⟩ zr_105_4 ?_
      refine zw_const ⟨rfl, rfl⟩ ?_
      refine zw_row ⟨rfl, rfl⟩ zrw_108 (by omega) ?_
      rw [show ((109 : Int) + 8) = 117 from rfl]
      refine zw_iload ⟨rfl, rfl⟩ rfl ?_
      refine zw_aload ⟨rfl, rfl⟩ rfl ?_
      refine zw_getIv (v := ypr σ (yK σ) b) ⟨rfl, rfl⟩ zc_120 (by decide) ((zup_na (by decide)).trans ((zup_na (by decide)).trans ((zup_na (by decide)).trans ((zup_na (by decide)).trans ((zup_na (by decide)).trans (hA.2.1.2.2.2)))))) ?_
      refine zw_iast ⟨rfl, rfl⟩ za_117 (by omega) ?_
      refine zw_void rfl ?_
      have ed : ydd (yK σ) b = 1 := by have := ydd_r (yK σ) b; omega
      refine k _ ⟨⟨?_, ?_, ?_, ?_, ?_, ?_⟩, fun x j hx => ?_⟩
      · rw [ed]; simp [zup]
      · simp [zup]
      · simp [zup]
      · simp [zup]
      · rw [if_neg (by assumption)]; simp [zup]
      · simp [zup]
      · rw [zup_ne (by omega), zup_ne (by omega), zup_ne (by omega), zup_ne (by omega), zup_ne (by omega), zup_ne (by omega)]
    · skip
      refine zw_const ⟨rfl, rfl⟩ ?_
      refine zw_goto ⟨rfl, rfl⟩ rfl ?_
      refine zw_iast ⟨rfl, rfl⟩ za_116 (by omega) ?_
      refine zw_aload ⟨rfl, rfl⟩ rfl ?_
      refine zw_getR 108 ⟨rfl, rfl⟩ zr_105_4 ?_
      refine zw_const ⟨rfl, rfl⟩ ?_
      refine zw_row ⟨rfl, rfl⟩ zrw_108 (by omega) ?_
      rw [show ((109 : Int) + 8) = 117 from rfl]
      refine zw_iload ⟨rfl, rfl⟩ rfl ?_
      refine zw_aload ⟨rfl, rfl⟩ rfl ?_
      refine zw_getIv (v := ypr σ (yK σ) b) ⟨rfl, rfl⟩ zc_120 (by decide) ((zup_na (by decide)).trans ((zup_na (by decide)).trans ((zup_na (by decide)).trans ((zup_na (by decide)).trans ((zup_na (by decide)).trans (hA.2.1.2.2.2)))))) ?_
      refine zw_iast ⟨rfl, rfl⟩ za_117 (by omega) ?_
      refine zw_void rfl ?_
      have ed : ydd (yK σ) b = 1 := by have := ydd_r (yK σ) b; omega
      refine k _ ⟨⟨?_, ?_, ?_, ?_, ?_, ?_⟩, fun x j hx => ?_⟩
      · rw [ed]; simp [zup]
      · simp [zup]
      · simp [zup]
      · simp [zup]
      · rw [if_pos (by omega)]; simp [zup]
      · simp [zup]
      · rw [zup_ne (by omega), zup_ne (by omega), zup_ne (by omega), zup_ne (by omega), zup_ne (by omega), zup_ne (by omega)]
