/-! The law's cases -/
section
set_option maxHeartbeats 4000000
set_option maxRecDepth 20000
theorem yCW.mf {M N : zM} {σ : yS} {un : Int} {uh : Int → yS} {mk : Int → Int} {im : Int → yS} {tn : Int} {tp : Int → Int} {ff fp : Int} (h : yCW M σ un uh mk im tn tp ff fp) (g : ymf M N) : yCW N σ un uh mk im tn tp ff fp := h.cg (fun b _ hb => g.1 b (by omega))
theorem yCW.fw {M N : zM} {σ : yS} {un : Int} {uh : Int → yS} {mk : Int → Int} {im : Int → yS} {tn : Int} {tp : Int → Int} {ff fp : Int} (h : yCW M σ un uh mk im tn tp ff fp) (g : yfw M N) : yCW N σ un uh mk im tn tp ff fp := h.cg (fun b hb _ => g b (by omega))
theorem yMW.fw {M N : zM} {σ : yS} {un : Int} {uh : Int → yS} {mk : Int → Int} {im : Int → yS} {tn : Int} {tp : Int → Int} {ff fp : Int} (h : yMW M σ un uh mk im tn tp ff fp) (g : yfw M N) : yMW N σ un uh mk im tn tp ff fp := h.cg (fun b hb => g b (by omega))
theorem L_0 {L : Int} {xs : Int → Int} {i : Int} {M : zM} {Q : zV → zM → Prop} {σ : yS} {un : Int} {uh : Int → yS} {mk : Int → Int} {im : Int → yS} {tn : Int} {tp : Int → Int} {ff fp : Int} (hC : yCW M σ un uh mk im tn tp ff fp) (hD : yMW M σ un uh mk im tn tp ff fp) (hL : L ≤ 3072) (hi : 0 ≤ i ∧ i ≤ L - 6) (k : ∀ (N : zM) (W : yWd), yCw N W → yMw N W → zWpL L xs 823 [(4, 17), (1, 0), (1, 208), (0, i)] [] N Q) : zWpL L xs 22 [(4, 17), (1, 0), (1, 208), (0, i)] [] M Q := by
  refine zwl_aload ⟨rfl, rfl⟩ rfl ?_
  refine zwl_arg (k := 1) (by decide +kernel) ⟨by omega, by omega, by omega⟩ ?_
  refine zwl_arg (k := 2) (by decide +kernel) ⟨by omega, by omega, by omega⟩ ?_
  refine zwl_arg (k := 3) (by decide +kernel) ⟨by omega, by omega, by omega⟩ ?_
  refine zwl_arg (k := 4) (by decide +kernel) ⟨by omega, by omega, by omega⟩ ?_
  refine zwl_arg (k := 5) (by decide +kernel) ⟨by omega, by omega, by omega⟩ ?_
  refine zwl_callv6 ⟨rfl, rfl⟩ rfl rfl rfl ?_
  refine c_feed hC (fun N1 w1 f1 => ?_)
  have hD := hD.cg f1
  refine zwl_aload ⟨rfl, rfl⟩ rfl ?_
  refine zwl_arg (k := 1) (by decide +kernel) ⟨by omega, by omega, by omega⟩ ?_
  refine zwl_arg (k := 2) (by decide +kernel) ⟨by omega, by omega, by omega⟩ ?_
  refine zwl_arg (k := 3) (by decide +kernel) ⟨by omega, by omega, by omega⟩ ?_
  refine zwl_arg (k := 4) (by decide +kernel) ⟨by omega, by omega, by omega⟩ ?_
  refine zwl_arg (k := 5) (by decide +kernel) ⟨by omega, by omega, by omega⟩ ?_
  refine zwl_callv6 ⟨rfl, rfl⟩ rfl rfl rfl ?_
  refine d_feed hD (fun N2 w2 f2 => ?_)
  have w1 := yCW.cg w1 (fun b _ hb => f2 b hb)
  refine zwl_iceq ⟨rfl, rfl⟩ rfl (fun _ => ?_) (fun q => absurd rfl q)
  exact k _ _ w1 w2
theorem L_1 {L : Int} {xs : Int → Int} {i : Int} {M : zM} {Q : zV → zM → Prop} {σ : yS} {un : Int} {uh : Int → yS} {mk : Int → Int} {im : Int → yS} {tn : Int} {tp : Int → Int} {ff fp : Int} (hC : yCW M σ un uh mk im tn tp ff fp) (hD : yMW M σ un uh mk im tn tp ff fp) (hL : L ≤ 3072) (hi : 0 ≤ i ∧ i ≤ L - 6) (k : ∀ (N : zM) (W : yWd), yCw N W → yMw N W → zWpL L xs 823 [(4, 17), (1, 0), (1, 208), (0, i)] [] N Q) : zWpL L xs 79 [(4, 17), (1, 0), (1, 208), (0, i)] [] M Q := by
  refine zwl_aload ⟨rfl, rfl⟩ rfl ?_
  refine zwl_arg (k := 1) (by decide +kernel) ⟨by omega, by omega, by omega⟩ ?_
  refine zwl_callv2 ⟨rfl, rfl⟩ rfl rfl rfl ?_
  refine c_script hC (fun N1 w1 f1 => ?_)
  have hD := hD.cg f1
  refine zwl_aload ⟨rfl, rfl⟩ rfl ?_
  refine zwl_arg (k := 1) (by decide +kernel) ⟨by omega, by omega, by omega⟩ ?_
  refine zwl_callv2 ⟨rfl, rfl⟩ rfl rfl rfl ?_
  refine d_script hD (fun N2 w2 f2 => ?_)
  have w1 := yCW.cg w1 (fun b _ hb => f2 b hb)
  refine zwl_iceq ⟨rfl, rfl⟩ rfl (fun _ => ?_) (fun q => absurd rfl q)
  exact k _ _ w1 w2
theorem L_2 {L : Int} {xs : Int → Int} {i : Int} {M : zM} {Q : zV → zM → Prop} {σ : yS} {un : Int} {uh : Int → yS} {mk : Int → Int} {im : Int → yS} {tn : Int} {tp : Int → Int} {ff fp : Int} (hC : yCW M σ un uh mk im tn tp ff fp) (hD : yMW M σ un uh mk im tn tp ff fp) (hL : L ≤ 3072) (hi : 0 ≤ i ∧ i ≤ L - 6) (k : ∀ (N : zM) (W : yWd), yCw N W → yMw N W → zWpL L xs 823 [(4, 17), (1, 0), (1, 208), (0, i)] [] N Q) : zWpL L xs 96 [(4, 17), (1, 0), (1, 208), (0, i)] [] M Q := by
  refine zwl_aload ⟨rfl, rfl⟩ rfl ?_
  refine zwl_arg (k := 1) (by decide +kernel) ⟨by omega, by omega, by omega⟩ ?_
  refine zwl_callv2 ⟨rfl, rfl⟩ rfl rfl rfl ?_
  refine c_text hC (fun N1 w1 f1 => ?_)
  have hD := hD.cg f1
  refine zwl_aload ⟨rfl, rfl⟩ rfl ?_
  refine zwl_arg (k := 1) (by decide +kernel) ⟨by omega, by omega, by omega⟩ ?_
  refine zwl_callv2 ⟨rfl, rfl⟩ rfl rfl rfl ?_
  refine d_text hD (fun N2 w2 f2 => ?_)
  have w1 := yCW.cg w1 (fun b _ hb => f2 b hb)
  refine zwl_iceq ⟨rfl, rfl⟩ rfl (fun _ => ?_) (fun q => absurd rfl q)
  exact k _ _ w1 w2
theorem L_3 {L : Int} {xs : Int → Int} {i : Int} {M : zM} {Q : zV → zM → Prop} {σ : yS} {un : Int} {uh : Int → yS} {mk : Int → Int} {im : Int → yS} {tn : Int} {tp : Int → Int} {ff fp : Int} (hC : yCW M σ un uh mk im tn tp ff fp) (hD : yMW M σ un uh mk im tn tp ff fp) (hL : L ≤ 3072) (hi : 0 ≤ i ∧ i ≤ L - 6) (k : ∀ (N : zM) (W : yWd), yCw N W → yMw N W → zWpL L xs 823 [(4, 17), (1, 0), (1, 208), (0, i)] [] N Q) : zWpL L xs 113 [(4, 17), (1, 0), (1, 208), (0, i)] [] M Q := by
  refine zwl_aload ⟨rfl, rfl⟩ rfl ?_
  refine zwl_arg (k := 1) (by decide +kernel) ⟨by omega, by omega, by omega⟩ ?_
  refine zwl_callv2 ⟨rfl, rfl⟩ rfl rfl rfl ?_
  refine c_fault hC.2.2.2.2.2.2.2.2.1 hC.2.2.2.2.2.2.2.2.2 ?_
  refine zwl_aload ⟨rfl, rfl⟩ rfl ?_
  refine zwl_arg (k := 1) (by decide +kernel) ⟨by omega, by omega, by omega⟩ ?_
  refine zwl_callv2 ⟨rfl, rfl⟩ rfl rfl rfl ?_
  refine d_fault hD.1.1 hD.2.1 hD.2.2.2.2.2.1.1 hD.2.2.2.2.2.1.2 (fun N2 f2 => ?_)
  refine zwl_iceq ⟨rfl, rfl⟩ rfl (fun _ => ?_) (fun q => absurd rfl q)
  exact k _ (σ, un, uh, mk, im, tn, tp, ff, fp) (yCW.mf hC f2) (hD.mf f2)
theorem L_4 {L : Int} {xs : Int → Int} {i : Int} {M : zM} {Q : zV → zM → Prop} {σ : yS} {un : Int} {uh : Int → yS} {mk : Int → Int} {im : Int → yS} {tn : Int} {tp : Int → Int} {ff fp : Int} (hC : yCW M σ un uh mk im tn tp ff fp) (hD : yMW M σ un uh mk im tn tp ff fp) (hL : L ≤ 3072) (hi : 0 ≤ i ∧ i ≤ L - 6) (k : ∀ (N : zM) (W : yWd), yCw N W → yMw N W → zWpL L xs 823 [(4, 17), (1, 0), (1, 208), (0, i)] [] N Q) : zWpL L xs 130 [(4, 17), (1, 0), (1, 208), (0, i)] [] M Q := by
  refine zwl_aload ⟨rfl, rfl⟩ rfl ?_
  refine zwl_arg (k := 1) (by decide +kernel) ⟨by omega, by omega, by omega⟩ ?_
  refine zwl_arg (k := 2) (by decide +kernel) ⟨by omega, by omega, by omega⟩ ?_
  refine zwl_callv3 ⟨rfl, rfl⟩ rfl rfl rfl ?_
  refine c_insert hC (fun N1 w1 f1 => ?_)
  have hD := hD.cg f1
  refine zwl_aload ⟨rfl, rfl⟩ rfl ?_
  refine zwl_arg (k := 1) (by decide +kernel) ⟨by omega, by omega, by omega⟩ ?_
  refine zwl_arg (k := 2) (by decide +kernel) ⟨by omega, by omega, by omega⟩ ?_
  refine zwl_callv3 ⟨rfl, rfl⟩ rfl rfl rfl ?_
  refine d_insert hD (fun N2 w2 f2 => ?_)
  have w1 := yCW.cg w1 (fun b _ hb => f2 b hb)
  refine zwl_iceq ⟨rfl, rfl⟩ rfl (fun _ => ?_) (fun q => absurd rfl q)
  exact k _ _ w1 w2
theorem L_5 {L : Int} {xs : Int → Int} {i : Int} {M : zM} {Q : zV → zM → Prop} {σ : yS} {un : Int} {uh : Int → yS} {mk : Int → Int} {im : Int → yS} {tn : Int} {tp : Int → Int} {ff fp : Int} (hC : yCW M σ un uh mk im tn tp ff fp) (hD : yMW M σ un uh mk im tn tp ff fp) (hL : L ≤ 3072) (hi : 0 ≤ i ∧ i ≤ L - 6) (k : ∀ (N : zM) (W : yWd), yCw N W → yMw N W → zWpL L xs 823 [(4, 17), (1, 0), (1, 208), (0, i)] [] N Q) : zWpL L xs 157 [(4, 17), (1, 0), (1, 208), (0, i)] [] M Q := by
  refine zwl_aload ⟨rfl, rfl⟩ rfl ?_
  refine zwl_arg (k := 1) (by decide +kernel) ⟨by omega, by omega, by omega⟩ ?_
  refine zwl_callv2 ⟨rfl, rfl⟩ rfl rfl rfl ?_
  refine c_backspace hC (fun N1 w1 f1 => ?_)
  have hD := hD.cg f1
  refine zwl_aload ⟨rfl, rfl⟩ rfl ?_
  refine zwl_arg (k := 1) (by decide +kernel) ⟨by omega, by omega, by omega⟩ ?_
  refine zwl_callv2 ⟨rfl, rfl⟩ rfl rfl rfl ?_
  refine d_backspace hD (fun N2 w2 f2 => ?_)
  have w1 := yCW.cg w1 (fun b _ hb => f2 b hb)
  refine zwl_iceq ⟨rfl, rfl⟩ rfl (fun _ => ?_) (fun q => absurd rfl q)
  exact k _ _ w1 w2
theorem L_6 {L : Int} {xs : Int → Int} {i : Int} {M : zM} {Q : zV → zM → Prop} {σ : yS} {un : Int} {uh : Int → yS} {mk : Int → Int} {im : Int → yS} {tn : Int} {tp : Int → Int} {ff fp : Int} (hC : yCW M σ un uh mk im tn tp ff fp) (hD : yMW M σ un uh mk im tn tp ff fp) (hL : L ≤ 3072) (hi : 0 ≤ i ∧ i ≤ L - 6) (k : ∀ (N : zM) (W : yWd), yCw N W → yMw N W → zWpL L xs 823 [(4, 17), (1, 0), (1, 208), (0, i)] [] N Q) : zWpL L xs 174 [(4, 17), (1, 0), (1, 208), (0, i)] [] M Q := by
  refine zwl_aload ⟨rfl, rfl⟩ rfl ?_
  refine zwl_arg (k := 1) (by decide +kernel) ⟨by omega, by omega, by omega⟩ ?_
  refine zwl_callv2 ⟨rfl, rfl⟩ rfl rfl rfl ?_
  refine c_delete hC (fun N1 w1 f1 => ?_)
  have hD := hD.cg f1
  refine zwl_aload ⟨rfl, rfl⟩ rfl ?_
  refine zwl_arg (k := 1) (by decide +kernel) ⟨by omega, by omega, by omega⟩ ?_
  refine zwl_callv2 ⟨rfl, rfl⟩ rfl rfl rfl ?_
  refine d_delete hD (fun N2 w2 f2 => ?_)
  have w1 := yCW.cg w1 (fun b _ hb => f2 b hb)
  refine zwl_iceq ⟨rfl, rfl⟩ rfl (fun _ => ?_) (fun q => absurd rfl q)
  exact k _ _ w1 w2
theorem L_7 {L : Int} {xs : Int → Int} {i : Int} {M : zM} {Q : zV → zM → Prop} {σ : yS} {un : Int} {uh : Int → yS} {mk : Int → Int} {im : Int → yS} {tn : Int} {tp : Int → Int} {ff fp : Int} (hC : yCW M σ un uh mk im tn tp ff fp) (hD : yMW M σ un uh mk im tn tp ff fp) (hL : L ≤ 3072) (hi : 0 ≤ i ∧ i ≤ L - 6) (k : ∀ (N : zM) (W : yWd), yCw N W → yMw N W → zWpL L xs 823 [(4, 17), (1, 0), (1, 208), (0, i)] [] N Q) : zWpL L xs 191 [(4, 17), (1, 0), (1, 208), (0, i)] [] M Q := by
  refine zwl_aload ⟨rfl, rfl⟩ rfl ?_
  refine zwl_callv1 ⟨rfl, rfl⟩ rfl rfl rfl ?_
  refine c_erase hC (fun N1 w1 f1 => ?_)
  have hD := hD.cg f1
  refine zwl_aload ⟨rfl, rfl⟩ rfl ?_
  refine zwl_callv1 ⟨rfl, rfl⟩ rfl rfl rfl ?_
  refine d_erase hD (fun N2 w2 f2 => ?_)
  have w1 := yCW.cg w1 (fun b _ hb => f2 b hb)
  refine zwl_iceq ⟨rfl, rfl⟩ rfl (fun _ => ?_) (fun q => absurd rfl q)
  exact k _ _ w1 w2
theorem L_8 {L : Int} {xs : Int → Int} {i : Int} {M : zM} {Q : zV → zM → Prop} {σ : yS} {un : Int} {uh : Int → yS} {mk : Int → Int} {im : Int → yS} {tn : Int} {tp : Int → Int} {ff fp : Int} (hC : yCW M σ un uh mk im tn tp ff fp) (hD : yMW M σ un uh mk im tn tp ff fp) (hL : L ≤ 3072) (hi : 0 ≤ i ∧ i ≤ L - 6) (k : ∀ (N : zM) (W : yWd), yCw N W → yMw N W → zWpL L xs 823 [(4, 17), (1, 0), (1, 208), (0, i)] [] N Q) : zWpL L xs 198 [(4, 17), (1, 0), (1, 208), (0, i)] [] M Q := by
  refine zwl_aload ⟨rfl, rfl⟩ rfl ?_
  refine zwl_callv1 ⟨rfl, rfl⟩ rfl rfl rfl ?_
  refine c_order hC (fun N1 w1 f1 => ?_)
  have hD := hD.cg f1
  refine zwl_aload ⟨rfl, rfl⟩ rfl ?_
  refine zwl_callv1 ⟨rfl, rfl⟩ rfl rfl rfl ?_
  refine d_order hD (fun N2 w2 f2 => ?_)
  have w1 := yCW.cg w1 (fun b _ hb => f2 b hb)
  refine zwl_iceq ⟨rfl, rfl⟩ rfl (fun _ => ?_) (fun q => absurd rfl q)
  exact k _ _ w1 w2
theorem L_9 {L : Int} {xs : Int → Int} {i : Int} {M : zM} {Q : zV → zM → Prop} {σ : yS} {un : Int} {uh : Int → yS} {mk : Int → Int} {im : Int → yS} {tn : Int} {tp : Int → Int} {ff fp : Int} (hC : yCW M σ un uh mk im tn tp ff fp) (hD : yMW M σ un uh mk im tn tp ff fp) (hL : L ≤ 3072) (hi : 0 ≤ i ∧ i ≤ L - 6) (k : ∀ (N : zM) (W : yWd), yCw N W → yMw N W → zWpL L xs 823 [(4, 17), (1, 0), (1, 208), (0, i)] [] N Q) : zWpL L xs 205 [(4, 17), (1, 0), (1, 208), (0, i)] [] M Q := by
  refine zwl_aload ⟨rfl, rfl⟩ rfl ?_
  refine zwl_arg (k := 1) (by decide +kernel) ⟨by omega, by omega, by omega⟩ ?_
  refine zwl_arg (k := 2) (by decide +kernel) ⟨by omega, by omega, by omega⟩ ?_
  refine zwl_callv3 ⟨rfl, rfl⟩ rfl rfl rfl ?_
  refine c_letter hC.1.1 hC.2.1 hC.2.2.1 ?_
  refine zwl_aload ⟨rfl, rfl⟩ rfl ?_
  refine zwl_arg (k := 1) (by decide +kernel) ⟨by omega, by omega, by omega⟩ ?_
  refine zwl_arg (k := 2) (by decide +kernel) ⟨by omega, by omega, by omega⟩ ?_
  refine zwl_callv3 ⟨rfl, rfl⟩ rfl rfl rfl ?_
  refine d_letter hD.1.1 hD.2.1 (fun N2 f2 => ?_)
  refine zwl_iceq ⟨rfl, rfl⟩ rfl (fun _ => ?_) (fun q => absurd rfl q)
  exact k _ (σ, un, uh, mk, im, tn, tp, ff, fp) (yCW.mf hC f2) (hD.mf f2)
theorem L_10 {L : Int} {xs : Int → Int} {i : Int} {M : zM} {Q : zV → zM → Prop} {σ : yS} {un : Int} {uh : Int → yS} {mk : Int → Int} {im : Int → yS} {tn : Int} {tp : Int → Int} {ff fp : Int} (hC : yCW M σ un uh mk im tn tp ff fp) (hD : yMW M σ un uh mk im tn tp ff fp) (hL : L ≤ 3072) (hi : 0 ≤ i ∧ i ≤ L - 6) (k : ∀ (N : zM) (W : yWd), yCw N W → yMw N W → zWpL L xs 823 [(4, 17), (1, 0), (1, 208), (0, i)] [] N Q) : zWpL L xs 232 [(4, 17), (1, 0), (1, 208), (0, i)] [] M Q := by
  refine zwl_aload ⟨rfl, rfl⟩ rfl ?_
  refine zwl_arg (k := 1) (by decide +kernel) ⟨by omega, by omega, by omega⟩ ?_
  refine zwl_arg (k := 2) (by decide +kernel) ⟨by omega, by omega, by omega⟩ ?_
  refine zwl_callv3 ⟨rfl, rfl⟩ rfl rfl rfl ?_
  refine c_joins hC.1.1 hC.2.1 hC.2.2.1 ?_
  refine zwl_aload ⟨rfl, rfl⟩ rfl ?_
  refine zwl_arg (k := 1) (by decide +kernel) ⟨by omega, by omega, by omega⟩ ?_
  refine zwl_arg (k := 2) (by decide +kernel) ⟨by omega, by omega, by omega⟩ ?_
  refine zwl_callv3 ⟨rfl, rfl⟩ rfl rfl rfl ?_
  refine d_joins hD.1.1 hD.2.1 (fun N2 f2 => ?_)
  refine zwl_iceq ⟨rfl, rfl⟩ rfl (fun _ => ?_) (fun q => absurd rfl q)
  exact k _ (σ, un, uh, mk, im, tn, tp, ff, fp) (yCW.mf hC f2) (hD.mf f2)
theorem L_11 {L : Int} {xs : Int → Int} {i : Int} {M : zM} {Q : zV → zM → Prop} {σ : yS} {un : Int} {uh : Int → yS} {mk : Int → Int} {im : Int → yS} {tn : Int} {tp : Int → Int} {ff fp : Int} (hC : yCW M σ un uh mk im tn tp ff fp) (hD : yMW M σ un uh mk im tn tp ff fp) (hL : L ≤ 3072) (hi : 0 ≤ i ∧ i ≤ L - 6) (k : ∀ (N : zM) (W : yWd), yCw N W → yMw N W → zWpL L xs 823 [(4, 17), (1, 0), (1, 208), (0, i)] [] N Q) : zWpL L xs 259 [(4, 17), (1, 0), (1, 208), (0, i)] [] M Q := by
  refine zwl_aload ⟨rfl, rfl⟩ rfl ?_
  refine zwl_arg (k := 1) (by decide +kernel) ⟨by omega, by omega, by omega⟩ ?_
  refine zwl_callv2 ⟨rfl, rfl⟩ rfl rfl rfl ?_
  refine c_at hC.1.1 hC.2.1 hC.2.2.1 ?_
  refine zwl_aload ⟨rfl, rfl⟩ rfl ?_
  refine zwl_arg (k := 1) (by decide +kernel) ⟨by omega, by omega, by omega⟩ ?_
  refine zwl_callv2 ⟨rfl, rfl⟩ rfl rfl rfl ?_
  refine d_at hD.1.1 hD.2.1 (fun N2 f2 => ?_)
  refine zwl_iceq ⟨rfl, rfl⟩ rfl (fun _ => ?_) (fun q => absurd rfl q)
  exact k _ (σ, un, uh, mk, im, tn, tp, ff, fp) (yCW.mf hC f2) (hD.mf f2)
theorem L_12 {L : Int} {xs : Int → Int} {i : Int} {M : zM} {Q : zV → zM → Prop} {σ : yS} {un : Int} {uh : Int → yS} {mk : Int → Int} {im : Int → yS} {tn : Int} {tp : Int → Int} {ff fp : Int} (hC : yCW M σ un uh mk im tn tp ff fp) (hD : yMW M σ un uh mk im tn tp ff fp) (hL : L ≤ 3072) (hi : 0 ≤ i ∧ i ≤ L - 6) (k : ∀ (N : zM) (W : yWd), yCw N W → yMw N W → zWpL L xs 823 [(4, 17), (1, 0), (1, 208), (0, i)] [] N Q) : zWpL L xs 276 [(4, 17), (1, 0), (1, 208), (0, i)] [] M Q := by
  refine zwl_aload ⟨rfl, rfl⟩ rfl ?_
  refine zwl_callv1 ⟨rfl, rfl⟩ rfl rfl rfl ?_
  refine c_clusters hC.1.1 hC.2.1 hC.2.2.1 ?_
  refine zwl_aload ⟨rfl, rfl⟩ rfl ?_
  refine zwl_callv1 ⟨rfl, rfl⟩ rfl rfl rfl ?_
  refine d_clusters hD.1.1 hD.2.1 (fun N2 f2 => ?_)
  refine zwl_iceq ⟨rfl, rfl⟩ rfl (fun _ => ?_) (fun q => absurd rfl q)
  exact k _ (σ, un, uh, mk, im, tn, tp, ff, fp) (yCW.mf hC f2) (hD.mf f2)
theorem L_13 {L : Int} {xs : Int → Int} {i : Int} {M : zM} {Q : zV → zM → Prop} {σ : yS} {un : Int} {uh : Int → yS} {mk : Int → Int} {im : Int → yS} {tn : Int} {tp : Int → Int} {ff fp : Int} (hC : yCW M σ un uh mk im tn tp ff fp) (hD : yMW M σ un uh mk im tn tp ff fp) (hL : L ≤ 3072) (hi : 0 ≤ i ∧ i ≤ L - 6) (k : ∀ (N : zM) (W : yWd), yCw N W → yMw N W → zWpL L xs 823 [(4, 17), (1, 0), (1, 208), (0, i)] [] N Q) : zWpL L xs 283 [(4, 17), (1, 0), (1, 208), (0, i)] [] M Q := by
  refine zwl_aload ⟨rfl, rfl⟩ rfl ?_
  refine zwl_arg (k := 1) (by decide +kernel) ⟨by omega, by omega, by omega⟩ ?_
  refine zwl_arg (k := 2) (by decide +kernel) ⟨by omega, by omega, by omega⟩ ?_
  refine zwl_callv3 ⟨rfl, rfl⟩ rfl rfl rfl ?_
  refine c_cluster hC.1.1 hC.2.1 hC.2.2.1 ?_
  refine zwl_aload ⟨rfl, rfl⟩ rfl ?_
  refine zwl_arg (k := 1) (by decide +kernel) ⟨by omega, by omega, by omega⟩ ?_
  refine zwl_arg (k := 2) (by decide +kernel) ⟨by omega, by omega, by omega⟩ ?_
  refine zwl_callv3 ⟨rfl, rfl⟩ rfl rfl rfl ?_
  refine d_cluster hD.1.1 hD.2.1 (fun N2 f2 => ?_)
  refine zwl_iceq ⟨rfl, rfl⟩ rfl (fun _ => ?_) (fun q => absurd rfl q)
  exact k _ (σ, un, uh, mk, im, tn, tp, ff, fp) (yCW.mf hC f2) (hD.mf f2)
theorem L_14 {L : Int} {xs : Int → Int} {i : Int} {M : zM} {Q : zV → zM → Prop} {σ : yS} {un : Int} {uh : Int → yS} {mk : Int → Int} {im : Int → yS} {tn : Int} {tp : Int → Int} {ff fp : Int} (hC : yCW M σ un uh mk im tn tp ff fp) (hD : yMW M σ un uh mk im tn tp ff fp) (hL : L ≤ 3072) (hi : 0 ≤ i ∧ i ≤ L - 6) (k : ∀ (N : zM) (W : yWd), yCw N W → yMw N W → zWpL L xs 823 [(4, 17), (1, 0), (1, 208), (0, i)] [] N Q) : zWpL L xs 310 [(4, 17), (1, 0), (1, 208), (0, i)] [] M Q := by
  refine zwl_aload ⟨rfl, rfl⟩ rfl ?_
  refine zwl_arg (k := 1) (by decide +kernel) ⟨by omega, by omega, by omega⟩ ?_
  refine zwl_callv2 ⟨rfl, rfl⟩ rfl rfl rfl ?_
  refine c_of hC.1.1 hC.2.1 hC.2.2.1 ?_
  refine zwl_aload ⟨rfl, rfl⟩ rfl ?_
  refine zwl_arg (k := 1) (by decide +kernel) ⟨by omega, by omega, by omega⟩ ?_
  refine zwl_callv2 ⟨rfl, rfl⟩ rfl rfl rfl ?_
  refine d_of hD.1.1 hD.2.1 (fun N2 f2 => ?_)
  refine zwl_iceq ⟨rfl, rfl⟩ rfl (fun _ => ?_) (fun q => absurd rfl q)
  exact k _ (σ, un, uh, mk, im, tn, tp, ff, fp) (yCW.mf hC f2) (hD.mf f2)
theorem L_15 {L : Int} {xs : Int → Int} {i : Int} {M : zM} {Q : zV → zM → Prop} {σ : yS} {un : Int} {uh : Int → yS} {mk : Int → Int} {im : Int → yS} {tn : Int} {tp : Int → Int} {ff fp : Int} (hC : yCW M σ un uh mk im tn tp ff fp) (hD : yMW M σ un uh mk im tn tp ff fp) (hL : L ≤ 3072) (hi : 0 ≤ i ∧ i ≤ L - 6) (k : ∀ (N : zM) (W : yWd), yCw N W → yMw N W → zWpL L xs 823 [(4, 17), (1, 0), (1, 208), (0, i)] [] N Q) : zWpL L xs 327 [(4, 17), (1, 0), (1, 208), (0, i)] [] M Q := by
  refine zwl_aload ⟨rfl, rfl⟩ rfl ?_
  refine zwl_arg (k := 1) (by decide +kernel) ⟨by omega, by omega, by omega⟩ ?_
  refine zwl_callv2 ⟨rfl, rfl⟩ rfl rfl rfl ?_
  refine c_broken hC.1.1 hC.2.1 hC.2.2.1 ?_
  refine zwl_aload ⟨rfl, rfl⟩ rfl ?_
  refine zwl_arg (k := 1) (by decide +kernel) ⟨by omega, by omega, by omega⟩ ?_
  refine zwl_callv2 ⟨rfl, rfl⟩ rfl rfl rfl ?_
  refine d_broken hD.1.1 hD.2.1 (fun N2 f2 => ?_)
  refine zwl_iceq ⟨rfl, rfl⟩ rfl (fun _ => ?_) (fun q => absurd rfl q)
  exact k _ (σ, un, uh, mk, im, tn, tp, ff, fp) (yCW.mf hC f2) (hD.mf f2)
theorem L_16 {L : Int} {xs : Int → Int} {i : Int} {M : zM} {Q : zV → zM → Prop} {σ : yS} {un : Int} {uh : Int → yS} {mk : Int → Int} {im : Int → yS} {tn : Int} {tp : Int → Int} {ff fp : Int} (hC : yCW M σ un uh mk im tn tp ff fp) (hD : yMW M σ un uh mk im tn tp ff fp) (hL : L ≤ 3072) (hi : 0 ≤ i ∧ i ≤ L - 6) (k : ∀ (N : zM) (W : yWd), yCw N W → yMw N W → zWpL L xs 823 [(4, 17), (1, 0), (1, 208), (0, i)] [] N Q) : zWpL L xs 344 [(4, 17), (1, 0), (1, 208), (0, i)] [] M Q := by
  refine zwl_aload ⟨rfl, rfl⟩ rfl ?_
  refine zwl_arg (k := 1) (by decide +kernel) ⟨by omega, by omega, by omega⟩ ?_
  refine zwl_callv2 ⟨rfl, rfl⟩ rfl rfl rfl ?_
  refine c_mend hC.1.1 hC.2.1 hC.2.2.1 (fun N1 f1 => ?_)
  have hC := yCW.fw hC f1
  have hD := yMW.fw hD f1
  refine zwl_aload ⟨rfl, rfl⟩ rfl ?_
  refine zwl_arg (k := 1) (by decide +kernel) ⟨by omega, by omega, by omega⟩ ?_
  refine zwl_callv2 ⟨rfl, rfl⟩ rfl rfl rfl ?_
  refine d_mend hD.1.1 hD.2.1 (fun N2 f2 => ?_)
  refine zwl_iceq ⟨rfl, rfl⟩ rfl (fun _ => ?_) (fun q => absurd rfl q)
  exact k _ (σ, un, uh, mk, im, tn, tp, ff, fp) (yCW.mf hC f2) (hD.mf f2)
theorem L_17 {L : Int} {xs : Int → Int} {i : Int} {M : zM} {Q : zV → zM → Prop} {σ : yS} {un : Int} {uh : Int → yS} {mk : Int → Int} {im : Int → yS} {tn : Int} {tp : Int → Int} {ff fp : Int} (hC : yCW M σ un uh mk im tn tp ff fp) (hD : yMW M σ un uh mk im tn tp ff fp) (hL : L ≤ 3072) (hi : 0 ≤ i ∧ i ≤ L - 6) (k : ∀ (N : zM) (W : yWd), yCw N W → yMw N W → zWpL L xs 823 [(4, 17), (1, 0), (1, 208), (0, i)] [] N Q) : zWpL L xs 361 [(4, 17), (1, 0), (1, 208), (0, i)] [] M Q := by
  refine zwl_aload ⟨rfl, rfl⟩ rfl ?_
  refine zwl_arg (k := 1) (by decide +kernel) ⟨by omega, by omega, by omega⟩ ?_
  refine zwl_callv2 ⟨rfl, rfl⟩ rfl rfl rfl ?_
  refine c_may hC.1.1 hC.2.1 hC.2.2.1 ?_
  refine zwl_aload ⟨rfl, rfl⟩ rfl ?_
  refine zwl_arg (k := 1) (by decide +kernel) ⟨by omega, by omega, by omega⟩ ?_
  refine zwl_callv2 ⟨rfl, rfl⟩ rfl rfl rfl ?_
  refine d_may hD.1.1 hD.2.1 (fun N2 f2 => ?_)
  refine zwl_iceq ⟨rfl, rfl⟩ rfl (fun _ => ?_) (fun q => absurd rfl q)
  exact k _ (σ, un, uh, mk, im, tn, tp, ff, fp) (yCW.mf hC f2) (hD.mf f2)
theorem L_18 {L : Int} {xs : Int → Int} {i : Int} {M : zM} {Q : zV → zM → Prop} {σ : yS} {un : Int} {uh : Int → yS} {mk : Int → Int} {im : Int → yS} {tn : Int} {tp : Int → Int} {ff fp : Int} (hC : yCW M σ un uh mk im tn tp ff fp) (hD : yMW M σ un uh mk im tn tp ff fp) (hL : L ≤ 3072) (hi : 0 ≤ i ∧ i ≤ L - 6) (k : ∀ (N : zM) (W : yWd), yCw N W → yMw N W → zWpL L xs 823 [(4, 17), (1, 0), (1, 208), (0, i)] [] N Q) : zWpL L xs 378 [(4, 17), (1, 0), (1, 208), (0, i)] [] M Q := by
  refine zwl_aload ⟨rfl, rfl⟩ rfl ?_
  refine zwl_callv1 ⟨rfl, rfl⟩ rfl rfl rfl ?_
  refine c_mended hC (fun N1 w1 f1 => ?_)
  have hD := hD.cg f1
  refine zwl_aload ⟨rfl, rfl⟩ rfl ?_
  refine zwl_callv1 ⟨rfl, rfl⟩ rfl rfl rfl ?_
  refine d_mended hD (fun N2 w2 f2 => ?_)
  have w1 := yCW.cg w1 (fun b _ hb => f2 b hb)
  refine zwl_iceq ⟨rfl, rfl⟩ rfl (fun _ => ?_) (fun q => absurd rfl q)
  exact k _ _ w1 w2
theorem L_19 {L : Int} {xs : Int → Int} {i : Int} {M : zM} {Q : zV → zM → Prop} {σ : yS} {un : Int} {uh : Int → yS} {mk : Int → Int} {im : Int → yS} {tn : Int} {tp : Int → Int} {ff fp : Int} (hC : yCW M σ un uh mk im tn tp ff fp) (hD : yMW M σ un uh mk im tn tp ff fp) (hL : L ≤ 3072) (hi : 0 ≤ i ∧ i ≤ L - 6) (k : ∀ (N : zM) (W : yWd), yCw N W → yMw N W → zWpL L xs 823 [(4, 17), (1, 0), (1, 208), (0, i)] [] N Q) : zWpL L xs 385 [(4, 17), (1, 0), (1, 208), (0, i)] [] M Q := by
  refine zwl_aload ⟨rfl, rfl⟩ rfl ?_
  refine zwl_callv1 ⟨rfl, rfl⟩ rfl rfl rfl ?_
  refine c_glyphs hC.1.1 hC.2.1 hC.2.2.1 ?_
  refine zwl_aload ⟨rfl, rfl⟩ rfl ?_
  refine zwl_callv1 ⟨rfl, rfl⟩ rfl rfl rfl ?_
  refine d_glyphs hD.1.1 hD.2.1 (fun N2 f2 => ?_)
  refine zwl_iceq ⟨rfl, rfl⟩ rfl (fun _ => ?_) (fun q => absurd rfl q)
  exact k _ (σ, un, uh, mk, im, tn, tp, ff, fp) (yCW.mf hC f2) (hD.mf f2)
theorem L_20 {L : Int} {xs : Int → Int} {i : Int} {M : zM} {Q : zV → zM → Prop} {σ : yS} {un : Int} {uh : Int → yS} {mk : Int → Int} {im : Int → yS} {tn : Int} {tp : Int → Int} {ff fp : Int} (hC : yCW M σ un uh mk im tn tp ff fp) (hD : yMW M σ un uh mk im tn tp ff fp) (hL : L ≤ 3072) (hi : 0 ≤ i ∧ i ≤ L - 6) (k : ∀ (N : zM) (W : yWd), yCw N W → yMw N W → zWpL L xs 823 [(4, 17), (1, 0), (1, 208), (0, i)] [] N Q) : zWpL L xs 392 [(4, 17), (1, 0), (1, 208), (0, i)] [] M Q := by
  refine zwl_aload ⟨rfl, rfl⟩ rfl ?_
  refine zwl_arg (k := 1) (by decide +kernel) ⟨by omega, by omega, by omega⟩ ?_
  refine zwl_arg (k := 2) (by decide +kernel) ⟨by omega, by omega, by omega⟩ ?_
  refine zwl_callv3 ⟨rfl, rfl⟩ rfl rfl rfl ?_
  refine c_glyph hC.1.1 hC.2.1 hC.2.2.1 ?_
  refine zwl_aload ⟨rfl, rfl⟩ rfl ?_
  refine zwl_arg (k := 1) (by decide +kernel) ⟨by omega, by omega, by omega⟩ ?_
  refine zwl_arg (k := 2) (by decide +kernel) ⟨by omega, by omega, by omega⟩ ?_
  refine zwl_callv3 ⟨rfl, rfl⟩ rfl rfl rfl ?_
  refine d_glyph hD.1.1 hD.2.1 (fun N2 f2 => ?_)
  refine zwl_iceq ⟨rfl, rfl⟩ rfl (fun _ => ?_) (fun q => absurd rfl q)
  exact k _ (σ, un, uh, mk, im, tn, tp, ff, fp) (yCW.mf hC f2) (hD.mf f2)
theorem L_21 {L : Int} {xs : Int → Int} {i : Int} {M : zM} {Q : zV → zM → Prop} {σ : yS} {un : Int} {uh : Int → yS} {mk : Int → Int} {im : Int → yS} {tn : Int} {tp : Int → Int} {ff fp : Int} (hC : yCW M σ un uh mk im tn tp ff fp) (hD : yMW M σ un uh mk im tn tp ff fp) (hL : L ≤ 3072) (hi : 0 ≤ i ∧ i ≤ L - 6) (k : ∀ (N : zM) (W : yWd), yCw N W → yMw N W → zWpL L xs 823 [(4, 17), (1, 0), (1, 208), (0, i)] [] N Q) : zWpL L xs 419 [(4, 17), (1, 0), (1, 208), (0, i)] [] M Q := by
  refine zwl_aload ⟨rfl, rfl⟩ rfl ?_
  refine zwl_arg (k := 1) (by decide +kernel) ⟨by omega, by omega, by omega⟩ ?_
  refine zwl_callv2 ⟨rfl, rfl⟩ rfl rfl rfl ?_
  refine c_shown hC.1.1 hC.2.1 hC.2.2.1 ?_
  refine zwl_aload ⟨rfl, rfl⟩ rfl ?_
  refine zwl_arg (k := 1) (by decide +kernel) ⟨by omega, by omega, by omega⟩ ?_
  refine zwl_callv2 ⟨rfl, rfl⟩ rfl rfl rfl ?_
  refine d_shown hD.1.1 hD.2.1 (fun N2 f2 => ?_)
  refine zwl_iceq ⟨rfl, rfl⟩ rfl (fun _ => ?_) (fun q => absurd rfl q)
  exact k _ (σ, un, uh, mk, im, tn, tp, ff, fp) (yCW.mf hC f2) (hD.mf f2)
theorem L_22 {L : Int} {xs : Int → Int} {i : Int} {M : zM} {Q : zV → zM → Prop} {σ : yS} {un : Int} {uh : Int → yS} {mk : Int → Int} {im : Int → yS} {tn : Int} {tp : Int → Int} {ff fp : Int} (hC : yCW M σ un uh mk im tn tp ff fp) (hD : yMW M σ un uh mk im tn tp ff fp) (hL : L ≤ 3072) (hi : 0 ≤ i ∧ i ≤ L - 6) (k : ∀ (N : zM) (W : yWd), yCw N W → yMw N W → zWpL L xs 823 [(4, 17), (1, 0), (1, 208), (0, i)] [] N Q) : zWpL L xs 436 [(4, 17), (1, 0), (1, 208), (0, i)] [] M Q := by
  refine zwl_aload ⟨rfl, rfl⟩ rfl ?_
  refine zwl_arg (k := 1) (by decide +kernel) ⟨by omega, by omega, by omega⟩ ?_
  refine zwl_callv2 ⟨rfl, rfl⟩ rfl rfl rfl ?_
  refine c_back hC.1.1 hC.2.1 hC.2.2.1 ?_
  refine zwl_aload ⟨rfl, rfl⟩ rfl ?_
  refine zwl_arg (k := 1) (by decide +kernel) ⟨by omega, by omega, by omega⟩ ?_
  refine zwl_callv2 ⟨rfl, rfl⟩ rfl rfl rfl ?_
  refine d_back hD.1.1 hD.2.1 (fun N2 f2 => ?_)
  refine zwl_iceq ⟨rfl, rfl⟩ rfl (fun _ => ?_) (fun q => absurd rfl q)
  exact k _ (σ, un, uh, mk, im, tn, tp, ff, fp) (yCW.mf hC f2) (hD.mf f2)
theorem L_23 {L : Int} {xs : Int → Int} {i : Int} {M : zM} {Q : zV → zM → Prop} {σ : yS} {un : Int} {uh : Int → yS} {mk : Int → Int} {im : Int → yS} {tn : Int} {tp : Int → Int} {ff fp : Int} (hC : yCW M σ un uh mk im tn tp ff fp) (hD : yMW M σ un uh mk im tn tp ff fp) (hL : L ≤ 3072) (hi : 0 ≤ i ∧ i ≤ L - 6) (k : ∀ (N : zM) (W : yWd), yCw N W → yMw N W → zWpL L xs 823 [(4, 17), (1, 0), (1, 208), (0, i)] [] N Q) : zWpL L xs 453 [(4, 17), (1, 0), (1, 208), (0, i)] [] M Q := by
  refine zwl_aload ⟨rfl, rfl⟩ rfl ?_
  refine zwl_callv1 ⟨rfl, rfl⟩ rfl rfl rfl ?_
  refine c_isOrdered hC.1.1 hC.2.1 hC.2.2.1 ?_
  refine zwl_aload ⟨rfl, rfl⟩ rfl ?_
  refine zwl_callv1 ⟨rfl, rfl⟩ rfl rfl rfl ?_
  refine d_isOrdered hD.1.1 hD.2.1 (fun N2 f2 => ?_)
  refine zwl_iceq ⟨rfl, rfl⟩ rfl (fun _ => ?_) (fun q => absurd rfl q)
  exact k _ (σ, un, uh, mk, im, tn, tp, ff, fp) (yCW.mf hC f2) (hD.mf f2)
theorem L_24 {L : Int} {xs : Int → Int} {i : Int} {M : zM} {Q : zV → zM → Prop} {σ : yS} {un : Int} {uh : Int → yS} {mk : Int → Int} {im : Int → yS} {tn : Int} {tp : Int → Int} {ff fp : Int} (hC : yCW M σ un uh mk im tn tp ff fp) (hD : yMW M σ un uh mk im tn tp ff fp) (hL : L ≤ 3072) (hi : 0 ≤ i ∧ i ≤ L - 6) (k : ∀ (N : zM) (W : yWd), yCw N W → yMw N W → zWpL L xs 823 [(4, 17), (1, 0), (1, 208), (0, i)] [] N Q) : zWpL L xs 460 [(4, 17), (1, 0), (1, 208), (0, i)] [] M Q := by
  refine zwl_aload ⟨rfl, rfl⟩ rfl ?_
  refine zwl_callv1 ⟨rfl, rfl⟩ rfl rfl rfl ?_
  refine c_stops hC.1.1 hC.2.1 hC.2.2.1 ?_
  refine zwl_aload ⟨rfl, rfl⟩ rfl ?_
  refine zwl_callv1 ⟨rfl, rfl⟩ rfl rfl rfl ?_
  refine d_stops hD.1.1 hD.2.1 (fun N2 f2 => ?_)
  refine zwl_iceq ⟨rfl, rfl⟩ rfl (fun _ => ?_) (fun q => absurd rfl q)
  exact k _ (σ, un, uh, mk, im, tn, tp, ff, fp) (yCW.mf hC f2) (hD.mf f2)
theorem L_25 {L : Int} {xs : Int → Int} {i : Int} {M : zM} {Q : zV → zM → Prop} {σ : yS} {un : Int} {uh : Int → yS} {mk : Int → Int} {im : Int → yS} {tn : Int} {tp : Int → Int} {ff fp : Int} (hC : yCW M σ un uh mk im tn tp ff fp) (hD : yMW M σ un uh mk im tn tp ff fp) (hL : L ≤ 3072) (hi : 0 ≤ i ∧ i ≤ L - 6) (k : ∀ (N : zM) (W : yWd), yCw N W → yMw N W → zWpL L xs 823 [(4, 17), (1, 0), (1, 208), (0, i)] [] N Q) : zWpL L xs 467 [(4, 17), (1, 0), (1, 208), (0, i)] [] M Q := by
  refine zwl_aload ⟨rfl, rfl⟩ rfl ?_
  refine zwl_arg (k := 1) (by decide +kernel) ⟨by omega, by omega, by omega⟩ ?_
  refine zwl_callv2 ⟨rfl, rfl⟩ rfl rfl rfl ?_
  refine c_stop hC.1.1 hC.2.1 hC.2.2.1 ?_
  refine zwl_aload ⟨rfl, rfl⟩ rfl ?_
  refine zwl_arg (k := 1) (by decide +kernel) ⟨by omega, by omega, by omega⟩ ?_
  refine zwl_callv2 ⟨rfl, rfl⟩ rfl rfl rfl ?_
  refine d_stop hD.1.1 hD.2.1 (fun N2 f2 => ?_)
  refine zwl_iceq ⟨rfl, rfl⟩ rfl (fun _ => ?_) (fun q => absurd rfl q)
  exact k _ (σ, un, uh, mk, im, tn, tp, ff, fp) (yCW.mf hC f2) (hD.mf f2)
theorem L_26 {L : Int} {xs : Int → Int} {i : Int} {M : zM} {Q : zV → zM → Prop} {σ : yS} {un : Int} {uh : Int → yS} {mk : Int → Int} {im : Int → yS} {tn : Int} {tp : Int → Int} {ff fp : Int} (hC : yCW M σ un uh mk im tn tp ff fp) (hD : yMW M σ un uh mk im tn tp ff fp) (hL : L ≤ 3072) (hi : 0 ≤ i ∧ i ≤ L - 6) (k : ∀ (N : zM) (W : yWd), yCw N W → yMw N W → zWpL L xs 823 [(4, 17), (1, 0), (1, 208), (0, i)] [] N Q) : zWpL L xs 484 [(4, 17), (1, 0), (1, 208), (0, i)] [] M Q := by
  refine zwl_aload ⟨rfl, rfl⟩ rfl ?_
  refine zwl_arg (k := 1) (by decide +kernel) ⟨by omega, by omega, by omega⟩ ?_
  refine zwl_arg (k := 2) (by decide +kernel) ⟨by omega, by omega, by omega⟩ ?_
  refine zwl_callv3 ⟨rfl, rfl⟩ rfl rfl rfl ?_
  refine c_next hC.1.1 hC.2.1 hC.2.2.1 ?_
  refine zwl_aload ⟨rfl, rfl⟩ rfl ?_
  refine zwl_arg (k := 1) (by decide +kernel) ⟨by omega, by omega, by omega⟩ ?_
  refine zwl_arg (k := 2) (by decide +kernel) ⟨by omega, by omega, by omega⟩ ?_
  refine zwl_callv3 ⟨rfl, rfl⟩ rfl rfl rfl ?_
  refine d_next hD.1.1 hD.2.1 (fun N2 f2 => ?_)
  refine zwl_iceq ⟨rfl, rfl⟩ rfl (fun _ => ?_) (fun q => absurd rfl q)
  exact k _ (σ, un, uh, mk, im, tn, tp, ff, fp) (yCW.mf hC f2) (hD.mf f2)
theorem L_27 {L : Int} {xs : Int → Int} {i : Int} {M : zM} {Q : zV → zM → Prop} {σ : yS} {un : Int} {uh : Int → yS} {mk : Int → Int} {im : Int → yS} {tn : Int} {tp : Int → Int} {ff fp : Int} (hC : yCW M σ un uh mk im tn tp ff fp) (hD : yMW M σ un uh mk im tn tp ff fp) (hL : L ≤ 3072) (hi : 0 ≤ i ∧ i ≤ L - 6) (k : ∀ (N : zM) (W : yWd), yCw N W → yMw N W → zWpL L xs 823 [(4, 17), (1, 0), (1, 208), (0, i)] [] N Q) : zWpL L xs 511 [(4, 17), (1, 0), (1, 208), (0, i)] [] M Q := by
  refine zwl_aload ⟨rfl, rfl⟩ rfl ?_
  refine zwl_arg (k := 1) (by decide +kernel) ⟨by omega, by omega, by omega⟩ ?_
  refine zwl_callv2 ⟨rfl, rfl⟩ rfl rfl rfl ?_
  refine c_x hC.1.1 hC.2.1 hC.2.2.1 ?_
  refine zwl_aload ⟨rfl, rfl⟩ rfl ?_
  refine zwl_arg (k := 1) (by decide +kernel) ⟨by omega, by omega, by omega⟩ ?_
  refine zwl_callv2 ⟨rfl, rfl⟩ rfl rfl rfl ?_
  refine d_x hD.1.1 hD.2.1 (fun N2 f2 => ?_)
  refine zwl_iceq ⟨rfl, rfl⟩ rfl (fun _ => ?_) (fun q => absurd rfl q)
  exact k _ (σ, un, uh, mk, im, tn, tp, ff, fp) (yCW.mf hC f2) (hD.mf f2)
theorem L_28 {L : Int} {xs : Int → Int} {i : Int} {M : zM} {Q : zV → zM → Prop} {σ : yS} {un : Int} {uh : Int → yS} {mk : Int → Int} {im : Int → yS} {tn : Int} {tp : Int → Int} {ff fp : Int} (hC : yCW M σ un uh mk im tn tp ff fp) (hD : yMW M σ un uh mk im tn tp ff fp) (hL : L ≤ 3072) (hi : 0 ≤ i ∧ i ≤ L - 6) (k : ∀ (N : zM) (W : yWd), yCw N W → yMw N W → zWpL L xs 823 [(4, 17), (1, 0), (1, 208), (0, i)] [] N Q) : zWpL L xs 528 [(4, 17), (1, 0), (1, 208), (0, i)] [] M Q := by
  refine zwl_aload ⟨rfl, rfl⟩ rfl ?_
  refine zwl_arg (k := 1) (by decide +kernel) ⟨by omega, by omega, by omega⟩ ?_
  refine zwl_callv2 ⟨rfl, rfl⟩ rfl rfl rfl ?_
  refine c_hit hC.1.1 hC.2.1 hC.2.2.1 ?_
  refine zwl_aload ⟨rfl, rfl⟩ rfl ?_
  refine zwl_arg (k := 1) (by decide +kernel) ⟨by omega, by omega, by omega⟩ ?_
  refine zwl_callv2 ⟨rfl, rfl⟩ rfl rfl rfl ?_
  refine d_hit hD.1.1 hD.2.1 (fun N2 f2 => ?_)
  refine zwl_iceq ⟨rfl, rfl⟩ rfl (fun _ => ?_) (fun q => absurd rfl q)
  exact k _ (σ, un, uh, mk, im, tn, tp, ff, fp) (yCW.mf hC f2) (hD.mf f2)
theorem L_29 {L : Int} {xs : Int → Int} {i : Int} {M : zM} {Q : zV → zM → Prop} {σ : yS} {un : Int} {uh : Int → yS} {mk : Int → Int} {im : Int → yS} {tn : Int} {tp : Int → Int} {ff fp : Int} (hC : yCW M σ un uh mk im tn tp ff fp) (hD : yMW M σ un uh mk im tn tp ff fp) (hL : L ≤ 3072) (hi : 0 ≤ i ∧ i ≤ L - 6) (k : ∀ (N : zM) (W : yWd), yCw N W → yMw N W → zWpL L xs 823 [(4, 17), (1, 0), (1, 208), (0, i)] [] N Q) : zWpL L xs 545 [(4, 17), (1, 0), (1, 208), (0, i)] [] M Q := by
  refine zwl_aload ⟨rfl, rfl⟩ rfl ?_
  refine zwl_arg (k := 1) (by decide +kernel) ⟨by omega, by omega, by omega⟩ ?_
  refine zwl_callv2 ⟨rfl, rfl⟩ rfl rfl rfl ?_
  refine c_lines hC.1.1 hC.2.1 hC.2.2.1 (fun N1 f1 => ?_)
  have hC := yCW.fw hC f1
  have hD := yMW.fw hD f1
  refine zwl_aload ⟨rfl, rfl⟩ rfl ?_
  refine zwl_arg (k := 1) (by decide +kernel) ⟨by omega, by omega, by omega⟩ ?_
  refine zwl_callv2 ⟨rfl, rfl⟩ rfl rfl rfl ?_
  refine d_lines hD.1.1 hD.2.1 (fun N2 f2 => ?_)
  refine zwl_iceq ⟨rfl, rfl⟩ rfl (fun _ => ?_) (fun q => absurd rfl q)
  exact k _ (σ, un, uh, mk, im, tn, tp, ff, fp) (yCW.mf hC f2) (hD.mf f2)
theorem L_30 {L : Int} {xs : Int → Int} {i : Int} {M : zM} {Q : zV → zM → Prop} {σ : yS} {un : Int} {uh : Int → yS} {mk : Int → Int} {im : Int → yS} {tn : Int} {tp : Int → Int} {ff fp : Int} (hC : yCW M σ un uh mk im tn tp ff fp) (hD : yMW M σ un uh mk im tn tp ff fp) (hL : L ≤ 3072) (hi : 0 ≤ i ∧ i ≤ L - 6) (k : ∀ (N : zM) (W : yWd), yCw N W → yMw N W → zWpL L xs 823 [(4, 17), (1, 0), (1, 208), (0, i)] [] N Q) : zWpL L xs 562 [(4, 17), (1, 0), (1, 208), (0, i)] [] M Q := by
  refine zwl_aload ⟨rfl, rfl⟩ rfl ?_
  refine zwl_arg (k := 1) (by decide +kernel) ⟨by omega, by omega, by omega⟩ ?_
  refine zwl_arg (k := 2) (by decide +kernel) ⟨by omega, by omega, by omega⟩ ?_
  refine zwl_callv3 ⟨rfl, rfl⟩ rfl rfl rfl ?_
  refine c_lineEnd hC.1.1 hC.2.1 hC.2.2.1 (fun N1 f1 => ?_)
  have hC := yCW.fw hC f1
  have hD := yMW.fw hD f1
  refine zwl_aload ⟨rfl, rfl⟩ rfl ?_
  refine zwl_arg (k := 1) (by decide +kernel) ⟨by omega, by omega, by omega⟩ ?_
  refine zwl_arg (k := 2) (by decide +kernel) ⟨by omega, by omega, by omega⟩ ?_
  refine zwl_callv3 ⟨rfl, rfl⟩ rfl rfl rfl ?_
  refine d_lineEnd hD.1.1 hD.2.1 (fun N2 f2 => ?_)
  refine zwl_iceq ⟨rfl, rfl⟩ rfl (fun _ => ?_) (fun q => absurd rfl q)
  exact k _ (σ, un, uh, mk, im, tn, tp, ff, fp) (yCW.mf hC f2) (hD.mf f2)
theorem L_31 {L : Int} {xs : Int → Int} {i : Int} {M : zM} {Q : zV → zM → Prop} {σ : yS} {un : Int} {uh : Int → yS} {mk : Int → Int} {im : Int → yS} {tn : Int} {tp : Int → Int} {ff fp : Int} (hC : yCW M σ un uh mk im tn tp ff fp) (hD : yMW M σ un uh mk im tn tp ff fp) (hL : L ≤ 3072) (hi : 0 ≤ i ∧ i ≤ L - 6) (k : ∀ (N : zM) (W : yWd), yCw N W → yMw N W → zWpL L xs 823 [(4, 17), (1, 0), (1, 208), (0, i)] [] N Q) : zWpL L xs 589 [(4, 17), (1, 0), (1, 208), (0, i)] [] M Q := by
  refine zwl_aload ⟨rfl, rfl⟩ rfl ?_
  refine zwl_arg (k := 1) (by decide +kernel) ⟨by omega, by omega, by omega⟩ ?_
  refine zwl_callv2 ⟨rfl, rfl⟩ rfl rfl rfl ?_
  refine c_even hC.1.1 hC.2.1 hC.2.2.1 (fun N1 f1 => ?_)
  have hC := yCW.fw hC f1
  have hD := yMW.fw hD f1
  refine zwl_aload ⟨rfl, rfl⟩ rfl ?_
  refine zwl_arg (k := 1) (by decide +kernel) ⟨by omega, by omega, by omega⟩ ?_
  refine zwl_callv2 ⟨rfl, rfl⟩ rfl rfl rfl ?_
  refine d_even hD.1.1 hD.2.1 (fun N2 f2 => ?_)
  refine zwl_iceq ⟨rfl, rfl⟩ rfl (fun _ => ?_) (fun q => absurd rfl q)
  exact k _ (σ, un, uh, mk, im, tn, tp, ff, fp) (yCW.mf hC f2) (hD.mf f2)
theorem L_32 {L : Int} {xs : Int → Int} {i : Int} {M : zM} {Q : zV → zM → Prop} {σ : yS} {un : Int} {uh : Int → yS} {mk : Int → Int} {im : Int → yS} {tn : Int} {tp : Int → Int} {ff fp : Int} (hC : yCW M σ un uh mk im tn tp ff fp) (hD : yMW M σ un uh mk im tn tp ff fp) (hL : L ≤ 3072) (hi : 0 ≤ i ∧ i ≤ L - 6) (k : ∀ (N : zM) (W : yWd), yCw N W → yMw N W → zWpL L xs 823 [(4, 17), (1, 0), (1, 208), (0, i)] [] N Q) : zWpL L xs 606 [(4, 17), (1, 0), (1, 208), (0, i)] [] M Q := by
  refine zwl_aload ⟨rfl, rfl⟩ rfl ?_
  refine zwl_arg (k := 1) (by decide +kernel) ⟨by omega, by omega, by omega⟩ ?_
  refine zwl_arg (k := 2) (by decide +kernel) ⟨by omega, by omega, by omega⟩ ?_
  refine zwl_callv3 ⟨rfl, rfl⟩ rfl rfl rfl ?_
  refine c_evenEnd hC.1.1 hC.2.1 hC.2.2.1 (fun N1 f1 => ?_)
  have hC := yCW.fw hC f1
  have hD := yMW.fw hD f1
  refine zwl_aload ⟨rfl, rfl⟩ rfl ?_
  refine zwl_arg (k := 1) (by decide +kernel) ⟨by omega, by omega, by omega⟩ ?_
  refine zwl_arg (k := 2) (by decide +kernel) ⟨by omega, by omega, by omega⟩ ?_
  refine zwl_callv3 ⟨rfl, rfl⟩ rfl rfl rfl ?_
  refine d_evenEnd hD.1.1 hD.2.1 (fun N2 f2 => ?_)
  refine zwl_iceq ⟨rfl, rfl⟩ rfl (fun _ => ?_) (fun q => absurd rfl q)
  exact k _ (σ, un, uh, mk, im, tn, tp, ff, fp) (yCW.mf hC f2) (hD.mf f2)
theorem L_33 {L : Int} {xs : Int → Int} {i : Int} {M : zM} {Q : zV → zM → Prop} {σ : yS} {un : Int} {uh : Int → yS} {mk : Int → Int} {im : Int → yS} {tn : Int} {tp : Int → Int} {ff fp : Int} (hC : yCW M σ un uh mk im tn tp ff fp) (hD : yMW M σ un uh mk im tn tp ff fp) (hL : L ≤ 3072) (hi : 0 ≤ i ∧ i ≤ L - 6) (k : ∀ (N : zM) (W : yWd), yCw N W → yMw N W → zWpL L xs 823 [(4, 17), (1, 0), (1, 208), (0, i)] [] N Q) : zWpL L xs 633 [(4, 17), (1, 0), (1, 208), (0, i)] [] M Q := by
  refine zwl_aload ⟨rfl, rfl⟩ rfl ?_
  refine zwl_arg (k := 1) (by decide +kernel) ⟨by omega, by omega, by omega⟩ ?_
  refine zwl_callv2 ⟨rfl, rfl⟩ rfl rfl rfl ?_
  refine c_narrowest hC.1.1 hC.2.1 hC.2.2.1 (fun N1 f1 => ?_)
  have hC := yCW.fw hC f1
  have hD := yMW.fw hD f1
  refine zwl_aload ⟨rfl, rfl⟩ rfl ?_
  refine zwl_arg (k := 1) (by decide +kernel) ⟨by omega, by omega, by omega⟩ ?_
  refine zwl_callv2 ⟨rfl, rfl⟩ rfl rfl rfl ?_
  refine d_narrowest hD.1.1 hD.2.1 (fun N2 f2 => ?_)
  refine zwl_iceq ⟨rfl, rfl⟩ rfl (fun _ => ?_) (fun q => absurd rfl q)
  exact k _ (σ, un, uh, mk, im, tn, tp, ff, fp) (yCW.mf hC f2) (hD.mf f2)
theorem L_34 {L : Int} {xs : Int → Int} {i : Int} {M : zM} {Q : zV → zM → Prop} {σ : yS} {un : Int} {uh : Int → yS} {mk : Int → Int} {im : Int → yS} {tn : Int} {tp : Int → Int} {ff fp : Int} (hC : yCW M σ un uh mk im tn tp ff fp) (hD : yMW M σ un uh mk im tn tp ff fp) (hL : L ≤ 3072) (hi : 0 ≤ i ∧ i ≤ L - 6) (k : ∀ (N : zM) (W : yWd), yCw N W → yMw N W → zWpL L xs 823 [(4, 17), (1, 0), (1, 208), (0, i)] [] N Q) : zWpL L xs 650 [(4, 17), (1, 0), (1, 208), (0, i)] [] M Q := by
  refine zwl_aload ⟨rfl, rfl⟩ rfl ?_
  refine zwl_arg (k := 1) (by decide +kernel) ⟨by omega, by omega, by omega⟩ ?_
  refine zwl_arg (k := 2) (by decide +kernel) ⟨by omega, by omega, by omega⟩ ?_
  refine zwl_callv3 ⟨rfl, rfl⟩ rfl rfl rfl ?_
  refine c_find hC (fun N1 w1 f1 => ?_)
  have hD := hD.cg f1
  refine zwl_aload ⟨rfl, rfl⟩ rfl ?_
  refine zwl_arg (k := 1) (by decide +kernel) ⟨by omega, by omega, by omega⟩ ?_
  refine zwl_arg (k := 2) (by decide +kernel) ⟨by omega, by omega, by omega⟩ ?_
  refine zwl_callv3 ⟨rfl, rfl⟩ rfl rfl rfl ?_
  refine d_find hD (fun N2 w2 f2 => ?_)
  have w1 := yCW.cg w1 (fun b _ hb => f2 b hb)
  refine zwl_iceq ⟨rfl, rfl⟩ rfl (fun _ => ?_) (fun q => absurd rfl q)
  exact k _ _ w1 w2
theorem L_35 {L : Int} {xs : Int → Int} {i : Int} {M : zM} {Q : zV → zM → Prop} {σ : yS} {un : Int} {uh : Int → yS} {mk : Int → Int} {im : Int → yS} {tn : Int} {tp : Int → Int} {ff fp : Int} (hC : yCW M σ un uh mk im tn tp ff fp) (hD : yMW M σ un uh mk im tn tp ff fp) (hL : L ≤ 3072) (hi : 0 ≤ i ∧ i ≤ L - 6) (k : ∀ (N : zM) (W : yWd), yCw N W → yMw N W → zWpL L xs 823 [(4, 17), (1, 0), (1, 208), (0, i)] [] N Q) : zWpL L xs 677 [(4, 17), (1, 0), (1, 208), (0, i)] [] M Q := by
  refine zwl_aload ⟨rfl, rfl⟩ rfl ?_
  refine zwl_arg (k := 1) (by decide +kernel) ⟨by omega, by omega, by omega⟩ ?_
  refine zwl_arg (k := 2) (by decide +kernel) ⟨by omega, by omega, by omega⟩ ?_
  refine zwl_callv3 ⟨rfl, rfl⟩ rfl rfl rfl ?_
  refine c_alike hC.1.1 hC.2.1 hC.2.2.1 ?_
  refine zwl_aload ⟨rfl, rfl⟩ rfl ?_
  refine zwl_arg (k := 1) (by decide +kernel) ⟨by omega, by omega, by omega⟩ ?_
  refine zwl_arg (k := 2) (by decide +kernel) ⟨by omega, by omega, by omega⟩ ?_
  refine zwl_callv3 ⟨rfl, rfl⟩ rfl rfl rfl ?_
  refine d_alike hD.1.1 hD.2.1 (fun N2 f2 => ?_)
  refine zwl_iceq ⟨rfl, rfl⟩ rfl (fun _ => ?_) (fun q => absurd rfl q)
  exact k _ (σ, un, uh, mk, im, tn, tp, ff, fp) (yCW.mf hC f2) (hD.mf f2)
theorem L_36 {L : Int} {xs : Int → Int} {i : Int} {M : zM} {Q : zV → zM → Prop} {σ : yS} {un : Int} {uh : Int → yS} {mk : Int → Int} {im : Int → yS} {tn : Int} {tp : Int → Int} {ff fp : Int} (hC : yCW M σ un uh mk im tn tp ff fp) (hD : yMW M σ un uh mk im tn tp ff fp) (hL : L ≤ 3072) (hi : 0 ≤ i ∧ i ≤ L - 6) (k : ∀ (N : zM) (W : yWd), yCw N W → yMw N W → zWpL L xs 823 [(4, 17), (1, 0), (1, 208), (0, i)] [] N Q) : zWpL L xs 704 [(4, 17), (1, 0), (1, 208), (0, i)] [] M Q := by
  refine zwl_aload ⟨rfl, rfl⟩ rfl ?_
  refine zwl_callv1 ⟨rfl, rfl⟩ rfl rfl rfl ?_
  refine c_kinds hC.1.1 hC.2.1 hC.2.2.1 ?_
  refine zwl_aload ⟨rfl, rfl⟩ rfl ?_
  refine zwl_callv1 ⟨rfl, rfl⟩ rfl rfl rfl ?_
  refine d_kinds hD.1.1 hD.2.1 (fun N2 f2 => ?_)
  refine zwl_iceq ⟨rfl, rfl⟩ rfl (fun _ => ?_) (fun q => absurd rfl q)
  exact k _ (σ, un, uh, mk, im, tn, tp, ff, fp) (yCW.mf hC f2) (hD.mf f2)
theorem L_37 {L : Int} {xs : Int → Int} {i : Int} {M : zM} {Q : zV → zM → Prop} {σ : yS} {un : Int} {uh : Int → yS} {mk : Int → Int} {im : Int → yS} {tn : Int} {tp : Int → Int} {ff fp : Int} (hC : yCW M σ un uh mk im tn tp ff fp) (hD : yMW M σ un uh mk im tn tp ff fp) (hL : L ≤ 3072) (hi : 0 ≤ i ∧ i ≤ L - 6) (k : ∀ (N : zM) (W : yWd), yCw N W → yMw N W → zWpL L xs 823 [(4, 17), (1, 0), (1, 208), (0, i)] [] N Q) : zWpL L xs 711 [(4, 17), (1, 0), (1, 208), (0, i)] [] M Q := by
  refine zwl_aload ⟨rfl, rfl⟩ rfl ?_
  refine zwl_arg (k := 1) (by decide +kernel) ⟨by omega, by omega, by omega⟩ ?_
  refine zwl_arg (k := 2) (by decide +kernel) ⟨by omega, by omega, by omega⟩ ?_
  refine zwl_callv3 ⟨rfl, rfl⟩ rfl rfl rfl ?_
  refine c_compare hC.1.1 hC.2.1 hC.2.2.1 ?_
  refine zwl_aload ⟨rfl, rfl⟩ rfl ?_
  refine zwl_arg (k := 1) (by decide +kernel) ⟨by omega, by omega, by omega⟩ ?_
  refine zwl_arg (k := 2) (by decide +kernel) ⟨by omega, by omega, by omega⟩ ?_
  refine zwl_callv3 ⟨rfl, rfl⟩ rfl rfl rfl ?_
  refine d_compare hD.1.1 hD.2.1 (fun N2 f2 => ?_)
  refine zwl_iceq ⟨rfl, rfl⟩ rfl (fun _ => ?_) (fun q => absurd rfl q)
  exact k _ (σ, un, uh, mk, im, tn, tp, ff, fp) (yCW.mf hC f2) (hD.mf f2)
theorem L_38 {L : Int} {xs : Int → Int} {i : Int} {M : zM} {Q : zV → zM → Prop} {σ : yS} {un : Int} {uh : Int → yS} {mk : Int → Int} {im : Int → yS} {tn : Int} {tp : Int → Int} {ff fp : Int} (hC : yCW M σ un uh mk im tn tp ff fp) (hD : yMW M σ un uh mk im tn tp ff fp) (hL : L ≤ 3072) (hi : 0 ≤ i ∧ i ≤ L - 6) (k : ∀ (N : zM) (W : yWd), yCw N W → yMw N W → zWpL L xs 823 [(4, 17), (1, 0), (1, 208), (0, i)] [] N Q) : zWpL L xs 738 [(4, 17), (1, 0), (1, 208), (0, i)] [] M Q := by
  refine zwl_aload ⟨rfl, rfl⟩ rfl ?_
  refine zwl_arg (k := 1) (by decide +kernel) ⟨by omega, by omega, by omega⟩ ?_
  refine zwl_callv2 ⟨rfl, rfl⟩ rfl rfl rfl ?_
  refine c_ranked hC.1.1 hC.2.1 hC.2.2.1 ?_
  refine zwl_aload ⟨rfl, rfl⟩ rfl ?_
  refine zwl_arg (k := 1) (by decide +kernel) ⟨by omega, by omega, by omega⟩ ?_
  refine zwl_callv2 ⟨rfl, rfl⟩ rfl rfl rfl ?_
  refine d_ranked hD.1.1 hD.2.1 (fun N2 f2 => ?_)
  refine zwl_iceq ⟨rfl, rfl⟩ rfl (fun _ => ?_) (fun q => absurd rfl q)
  exact k _ (σ, un, uh, mk, im, tn, tp, ff, fp) (yCW.mf hC f2) (hD.mf f2)
theorem L_39 {L : Int} {xs : Int → Int} {i : Int} {M : zM} {Q : zV → zM → Prop} {σ : yS} {un : Int} {uh : Int → yS} {mk : Int → Int} {im : Int → yS} {tn : Int} {tp : Int → Int} {ff fp : Int} (hC : yCW M σ un uh mk im tn tp ff fp) (hD : yMW M σ un uh mk im tn tp ff fp) (hL : L ≤ 3072) (hi : 0 ≤ i ∧ i ≤ L - 6) (k : ∀ (N : zM) (W : yWd), yCw N W → yMw N W → zWpL L xs 823 [(4, 17), (1, 0), (1, 208), (0, i)] [] N Q) : zWpL L xs 755 [(4, 17), (1, 0), (1, 208), (0, i)] [] M Q := by
  refine zwl_aload ⟨rfl, rfl⟩ rfl ?_
  refine zwl_arg (k := 1) (by decide +kernel) ⟨by omega, by omega, by omega⟩ ?_
  refine zwl_callv2 ⟨rfl, rfl⟩ rfl rfl rfl ?_
  refine c_undo hC (fun N1 w1 f1 => ?_)
  have hD := hD.cg f1
  refine zwl_aload ⟨rfl, rfl⟩ rfl ?_
  refine zwl_arg (k := 1) (by decide +kernel) ⟨by omega, by omega, by omega⟩ ?_
  refine zwl_callv2 ⟨rfl, rfl⟩ rfl rfl rfl ?_
  refine d_undo hD (fun N2 w2 f2 => ?_)
  have w1 := yCW.cg w1 (fun b _ hb => f2 b hb)
  refine zwl_iceq ⟨rfl, rfl⟩ rfl (fun _ => ?_) (fun q => absurd rfl q)
  exact k _ _ w1 w2
theorem L_40 {L : Int} {xs : Int → Int} {i : Int} {M : zM} {Q : zV → zM → Prop} {σ : yS} {un : Int} {uh : Int → yS} {mk : Int → Int} {im : Int → yS} {tn : Int} {tp : Int → Int} {ff fp : Int} (hC : yCW M σ un uh mk im tn tp ff fp) (hD : yMW M σ un uh mk im tn tp ff fp) (hL : L ≤ 3072) (hi : 0 ≤ i ∧ i ≤ L - 6) (k : ∀ (N : zM) (W : yWd), yCw N W → yMw N W → zWpL L xs 823 [(4, 17), (1, 0), (1, 208), (0, i)] [] N Q) : zWpL L xs 772 [(4, 17), (1, 0), (1, 208), (0, i)] [] M Q := by
  refine zwl_aload ⟨rfl, rfl⟩ rfl ?_
  refine zwl_arg (k := 1) (by decide +kernel) ⟨by omega, by omega, by omega⟩ ?_
  refine zwl_callv2 ⟨rfl, rfl⟩ rfl rfl rfl ?_
  refine c_image hC (fun N1 w1 f1 => ?_)
  have hD := hD.cg f1
  refine zwl_aload ⟨rfl, rfl⟩ rfl ?_
  refine zwl_arg (k := 1) (by decide +kernel) ⟨by omega, by omega, by omega⟩ ?_
  refine zwl_callv2 ⟨rfl, rfl⟩ rfl rfl rfl ?_
  refine d_image hD (fun N2 w2 f2 => ?_)
  have w1 := yCW.cg w1 (fun b _ hb => f2 b hb)
  refine zwl_iceq ⟨rfl, rfl⟩ rfl (fun _ => ?_) (fun q => absurd rfl q)
  exact k _ _ w1 w2
theorem L_41 {L : Int} {xs : Int → Int} {i : Int} {M : zM} {Q : zV → zM → Prop} {σ : yS} {un : Int} {uh : Int → yS} {mk : Int → Int} {im : Int → yS} {tn : Int} {tp : Int → Int} {ff fp : Int} (hC : yCW M σ un uh mk im tn tp ff fp) (hD : yMW M σ un uh mk im tn tp ff fp) (hL : L ≤ 3072) (hi : 0 ≤ i ∧ i ≤ L - 6) (k : ∀ (N : zM) (W : yWd), yCw N W → yMw N W → zWpL L xs 823 [(4, 17), (1, 0), (1, 208), (0, i)] [] N Q) : zWpL L xs 789 [(4, 17), (1, 0), (1, 208), (0, i)] [] M Q := by
  refine zwl_aload ⟨rfl, rfl⟩ rfl ?_
  refine zwl_arg (k := 1) (by decide +kernel) ⟨by omega, by omega, by omega⟩ ?_
  refine zwl_callv2 ⟨rfl, rfl⟩ rfl rfl rfl ?_
  refine c_restore hC (fun N1 w1 f1 => ?_)
  have hD := hD.cg f1
  refine zwl_aload ⟨rfl, rfl⟩ rfl ?_
  refine zwl_arg (k := 1) (by decide +kernel) ⟨by omega, by omega, by omega⟩ ?_
  refine zwl_callv2 ⟨rfl, rfl⟩ rfl rfl rfl ?_
  refine d_restore hD (fun N2 w2 f2 => ?_)
  have w1 := yCW.cg w1 (fun b _ hb => f2 b hb)
  refine zwl_iceq ⟨rfl, rfl⟩ rfl (fun _ => ?_) (fun q => absurd rfl q)
  exact k _ _ w1 w2
theorem L_42 {L : Int} {xs : Int → Int} {i : Int} {M : zM} {Q : zV → zM → Prop} {σ : yS} {un : Int} {uh : Int → yS} {mk : Int → Int} {im : Int → yS} {tn : Int} {tp : Int → Int} {ff fp : Int} (hC : yCW M σ un uh mk im tn tp ff fp) (hD : yMW M σ un uh mk im tn tp ff fp) (hL : L ≤ 3072) (hi : 0 ≤ i ∧ i ≤ L - 6) (k : ∀ (N : zM) (W : yWd), yCw N W → yMw N W → zWpL L xs 823 [(4, 17), (1, 0), (1, 208), (0, i)] [] N Q) : zWpL L xs 806 [(4, 17), (1, 0), (1, 208), (0, i)] [] M Q := by
  refine zwl_aload ⟨rfl, rfl⟩ rfl ?_
  refine zwl_arg (k := 1) (by decide +kernel) ⟨by omega, by omega, by omega⟩ ?_
  refine zwl_callv2 ⟨rfl, rfl⟩ rfl rfl rfl ?_
  refine c_count hC.1.1 hC.2.1 hC.2.2.1 hC.2.2.2.2.2.2.2.1.1 hC.2.2.2.2.1.1 ?_
  refine zwl_aload ⟨rfl, rfl⟩ rfl ?_
  refine zwl_arg (k := 1) (by decide +kernel) ⟨by omega, by omega, by omega⟩ ?_
  refine zwl_callv2 ⟨rfl, rfl⟩ rfl rfl rfl ?_
  refine d_count hD.1.1 hD.2.1 hD.2.2.2.2.1.1 hD.2.2.1.1 (fun N2 f2 => ?_)
  refine zwl_iceq ⟨rfl, rfl⟩ rfl (fun _ => ?_) (fun q => absurd rfl q)
  exact k _ (σ, un, uh, mk, im, tn, tp, ff, fp) (yCW.mf hC f2) (hD.mf f2)
theorem zL_loop {L : Int} {xs : Int → Int} (hL : 0 ≤ L ∧ L ≤ 3072) : ∀ (n : Nat) (i : Int) (M : zM) (W : yWd), yCw M W → yMw M W → 0 ≤ i ∧ i ≤ L → (L - i).toNat < n → zWpL L xs 10 [(4, 17), (1, 0), (1, 208), (0, i)] [] M (fun v _ => v = (0, 1)) := by
  intro n
  induction n with
  | zero => intro i M W _ _ _ h; exact absurd h (Nat.not_lt_zero _)
  | succ n ih =>
    intro i M W hC hD hi hn
    refine zwl_iload ⟨rfl, rfl⟩ rfl ?_
    refine zwl_tload ⟨rfl, rfl⟩ rfl ?_
    refine zwl_slen ⟨rfl, rfl⟩ ?_
    refine zwl_const ⟨rfl, rfl⟩ ?_
    refine zwl_isub ⟨rfl, rfl⟩ (by omega) ?_
    refine zwl_icgt ⟨rfl, rfl⟩ rfl (fun c1 => ?_) (fun c1 => ?_)
    · refine zwl_const ⟨rfl, rfl⟩ ?_
      exact zwl_zret rfl (Or.inr rfl) rfl
    · have hi6 : 0 ≤ i ∧ i ≤ L - 6 := by omega
      have kk : ∀ (N : zM) (W : yWd), yCw N W → yMw N W → zWpL L xs 823 [(4, 17), (1, 0), (1, 208), (0, i)] [] N (fun v _ => v = (0, 1)) := fun N W h1 h2 => by
        refine zwl_iinc_3 ⟨rfl, rfl⟩ (by omega) ?_
        refine zwl_goto ⟨rfl, rfl⟩ rfl ?_
        exact ih (i + 6) N W h1 h2 (by omega) (by omega)
      refine zwl_tload ⟨rfl, rfl⟩ rfl ?_
      refine zwl_iload ⟨rfl, rfl⟩ rfl ?_
      refine zwl_sld ⟨rfl, rfl⟩ (by omega) ?_
      refine zwl_const ⟨rfl, rfl⟩ ?_
      refine zwl_iand ⟨rfl, rfl⟩ (by omega) ?_
      generalize zand (xs i) 63 = y
      by_cases e0 : y = 0
      · refine zwl_table ⟨rfl, rfl⟩ (t' := 22) (by rw [e0]; rfl) ?_
        exact L_0 hC hD hL.2 hi6 kk
      by_cases e1 : y = 1
      · refine zwl_table ⟨rfl, rfl⟩ (t' := 79) (by rw [e1]; rfl) ?_
        exact L_1 hC hD hL.2 hi6 kk
      by_cases e2 : y = 2
      · refine zwl_table ⟨rfl, rfl⟩ (t' := 96) (by rw [e2]; rfl) ?_
        exact L_2 hC hD hL.2 hi6 kk
      by_cases e3 : y = 3
      · refine zwl_table ⟨rfl, rfl⟩ (t' := 113) (by rw [e3]; rfl) ?_
        exact L_3 hC hD hL.2 hi6 kk
      by_cases e4 : y = 4
      · refine zwl_table ⟨rfl, rfl⟩ (t' := 130) (by rw [e4]; rfl) ?_
        exact L_4 hC hD hL.2 hi6 kk
      by_cases e5 : y = 5
      · refine zwl_table ⟨rfl, rfl⟩ (t' := 157) (by rw [e5]; rfl) ?_
        exact L_5 hC hD hL.2 hi6 kk
      by_cases e6 : y = 6
      · refine zwl_table ⟨rfl, rfl⟩ (t' := 174) (by rw [e6]; rfl) ?_
        exact L_6 hC hD hL.2 hi6 kk
      by_cases e7 : y = 7
      · refine zwl_table ⟨rfl, rfl⟩ (t' := 191) (by rw [e7]; rfl) ?_
        exact L_7 hC hD hL.2 hi6 kk
      by_cases e8 : y = 8
      · refine zwl_table ⟨rfl, rfl⟩ (t' := 198) (by rw [e8]; rfl) ?_
        exact L_8 hC hD hL.2 hi6 kk
      by_cases e9 : y = 9
      · refine zwl_table ⟨rfl, rfl⟩ (t' := 205) (by rw [e9]; rfl) ?_
        exact L_9 hC hD hL.2 hi6 kk
      by_cases e10 : y = 10
      · refine zwl_table ⟨rfl, rfl⟩ (t' := 232) (by rw [e10]; rfl) ?_
        exact L_10 hC hD hL.2 hi6 kk
      by_cases e11 : y = 11
      · refine zwl_table ⟨rfl, rfl⟩ (t' := 259) (by rw [e11]; rfl) ?_
        exact L_11 hC hD hL.2 hi6 kk
      by_cases e12 : y = 12
      · refine zwl_table ⟨rfl, rfl⟩ (t' := 276) (by rw [e12]; rfl) ?_
        exact L_12 hC hD hL.2 hi6 kk
      by_cases e13 : y = 13
      · refine zwl_table ⟨rfl, rfl⟩ (t' := 283) (by rw [e13]; rfl) ?_
        exact L_13 hC hD hL.2 hi6 kk
      by_cases e14 : y = 14
      · refine zwl_table ⟨rfl, rfl⟩ (t' := 310) (by rw [e14]; rfl) ?_
        exact L_14 hC hD hL.2 hi6 kk
      by_cases e15 : y = 15
      · refine zwl_table ⟨rfl, rfl⟩ (t' := 327) (by rw [e15]; rfl) ?_
        exact L_15 hC hD hL.2 hi6 kk
      by_cases e16 : y = 16
      · refine zwl_table ⟨rfl, rfl⟩ (t' := 344) (by rw [e16]; rfl) ?_
        exact L_16 hC hD hL.2 hi6 kk
      by_cases e17 : y = 17
      · refine zwl_table ⟨rfl, rfl⟩ (t' := 361) (by rw [e17]; rfl) ?_
        exact L_17 hC hD hL.2 hi6 kk
      by_cases e18 : y = 18
      · refine zwl_table ⟨rfl, rfl⟩ (t' := 378) (by rw [e18]; rfl) ?_
        exact L_18 hC hD hL.2 hi6 kk
      by_cases e19 : y = 19
      · refine zwl_table ⟨rfl, rfl⟩ (t' := 385) (by rw [e19]; rfl) ?_
        exact L_19 hC hD hL.2 hi6 kk
      by_cases e20 : y = 20
      · refine zwl_table ⟨rfl, rfl⟩ (t' := 392) (by rw [e20]; rfl) ?_
        exact L_20 hC hD hL.2 hi6 kk
      by_cases e21 : y = 21
      · refine zwl_table ⟨rfl, rfl⟩ (t' := 419) (by rw [e21]; rfl) ?_
        exact L_21 hC hD hL.2 hi6 kk
      by_cases e22 : y = 22
      · refine zwl_table ⟨rfl, rfl⟩ (t' := 436) (by rw [e22]; rfl) ?_
        exact L_22 hC hD hL.2 hi6 kk
      by_cases e23 : y = 23
      · refine zwl_table ⟨rfl, rfl⟩ (t' := 453) (by rw [e23]; rfl) ?_
        exact L_23 hC hD hL.2 hi6 kk
      by_cases e24 : y = 24
      · refine zwl_table ⟨rfl, rfl⟩ (t' := 460) (by rw [e24]; rfl) ?_
        exact L_24 hC hD hL.2 hi6 kk
      by_cases e25 : y = 25
      · refine zwl_table ⟨rfl, rfl⟩ (t' := 467) (by rw [e25]; rfl) ?_
        exact L_25 hC hD hL.2 hi6 kk
      by_cases e26 : y = 26
      · refine zwl_table ⟨rfl, rfl⟩ (t' := 484) (by rw [e26]; rfl) ?_
        exact L_26 hC hD hL.2 hi6 kk
      by_cases e27 : y = 27
      · refine zwl_table ⟨rfl, rfl⟩ (t' := 511) (by rw [e27]; rfl) ?_
        exact L_27 hC hD hL.2 hi6 kk
      by_cases e28 : y = 28
      · refine zwl_table ⟨rfl, rfl⟩ (t' := 528) (by rw [e28]; rfl) ?_
        exact L_28 hC hD hL.2 hi6 kk
      by_cases e29 : y = 29
      · refine zwl_table ⟨rfl, rfl⟩ (t' := 545) (by rw [e29]; rfl) ?_
        exact L_29 hC hD hL.2 hi6 kk
      by_cases e30 : y = 30
      · refine zwl_table ⟨rfl, rfl⟩ (t' := 562) (by rw [e30]; rfl) ?_
        exact L_30 hC hD hL.2 hi6 kk
      by_cases e31 : y = 31
      · refine zwl_table ⟨rfl, rfl⟩ (t' := 589) (by rw [e31]; rfl) ?_
        exact L_31 hC hD hL.2 hi6 kk
      by_cases e32 : y = 32
      · refine zwl_table ⟨rfl, rfl⟩ (t' := 606) (by rw [e32]; rfl) ?_
        exact L_32 hC hD hL.2 hi6 kk
      by_cases e33 : y = 33
      · refine zwl_table ⟨rfl, rfl⟩ (t' := 633) (by rw [e33]; rfl) ?_
        exact L_33 hC hD hL.2 hi6 kk
      by_cases e34 : y = 34
      · refine zwl_table ⟨rfl, rfl⟩ (t' := 650) (by rw [e34]; rfl) ?_
        exact L_34 hC hD hL.2 hi6 kk
      by_cases e35 : y = 35
      · refine zwl_table ⟨rfl, rfl⟩ (t' := 677) (by rw [e35]; rfl) ?_
        exact L_35 hC hD hL.2 hi6 kk
      by_cases e36 : y = 36
      · refine zwl_table ⟨rfl, rfl⟩ (t' := 704) (by rw [e36]; rfl) ?_
        exact L_36 hC hD hL.2 hi6 kk
      by_cases e37 : y = 37
      · refine zwl_table ⟨rfl, rfl⟩ (t' := 711) (by rw [e37]; rfl) ?_
        exact L_37 hC hD hL.2 hi6 kk
      by_cases e38 : y = 38
      · refine zwl_table ⟨rfl, rfl⟩ (t' := 738) (by rw [e38]; rfl) ?_
        exact L_38 hC hD hL.2 hi6 kk
      by_cases e39 : y = 39
      · refine zwl_table ⟨rfl, rfl⟩ (t' := 755) (by rw [e39]; rfl) ?_
        exact L_39 hC hD hL.2 hi6 kk
      by_cases e40 : y = 40
      · refine zwl_table ⟨rfl, rfl⟩ (t' := 772) (by rw [e40]; rfl) ?_
        exact L_40 hC hD hL.2 hi6 kk
      by_cases e41 : y = 41
      · refine zwl_table ⟨rfl, rfl⟩ (t' := 789) (by rw [e41]; rfl) ?_
        exact L_41 hC hD hL.2 hi6 kk
      by_cases e42 : y = 42
      · refine zwl_table ⟨rfl, rfl⟩ (t' := 806) (by rw [e42]; rfl) ?_
        exact L_42 hC hD hL.2 hi6 kk
      refine zwl_table ⟨rfl, rfl⟩ (t' := 823) (by rw [ztgt_out (by show _ < (0 : Int) ∨ 0 + 43 ≤ _; omega)]; rfl) ?_
      exact kk M W hC hD
end
