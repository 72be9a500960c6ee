/-! The worlds at the beginning, the whole run -/
abbrev yW0 : yWd := (y00, 0, (fun _ => y00), (fun _ => 0), (fun _ => y00), 0, (fun _ => 0), 0, -1)
theorem yWv_0 : yWv y00 0 (fun _ => y00) (fun _ => 0) (fun _ => y00) 0 (fun _ => 0) := ⟨y00_V.1, ⟨⟨by decide, by decide⟩, fun i i1 i2 => by omega⟩, fun i hi => ⟨Or.inl rfl, fun h => absurd (show (0 : Int) = 1 from h) (by decide)⟩, ⟨by decide, by decide⟩, fun k k1 k2 => by omega⟩
theorem y00_0 {j : Int} (h : ¬ (54 ≤ j ∧ j < 106)) : y00 j = 0 := if_neg h
theorem yM0 : yMW zM2 y00 0 (fun _ => y00) (fun _ => 0) (fun _ => y00) 0 (fun _ => 0) 0 (-1) := by
  have h := zI2_M
  generalize zM2 = M at h
  unfold zchM at h
  simp only [Bool.and_eq_true, decide_eq_true_eq] at h
  obtain ⟨⟨h1, h2⟩, h3⟩ := h
  refine ⟨yWv_0, fun j j1 j2 => of_decide_eq_true (zR12_at h1 j1 j2), ⟨h2.1, fun i i1 i2 => by omega⟩, fun i hi => ?_, ⟨h2.2.2.2.1, fun k k1 k2 => by omega⟩, h2.2.2.2.2, fun k k1 k2 => of_decide_eq_true (zR12_at h3 k1 k2)⟩
  refine ⟨?_, fun z => absurd (show (0 : Int) = 1 from z) (by decide)⟩
  rcases hi with rfl | rfl
  · exact h2.2.1
  · exact h2.2.2.1
theorem yC0 : yCW zM2 y00 0 (fun _ => y00) (fun _ => 0) (fun _ => y00) 0 (fun _ => 0) 0 (-1) := by
  have h := zI2_C
  generalize zM2 = M at h
  unfold zchC at h
  simp only [Bool.and_eq_true, decide_eq_true_eq] at h
  obtain ⟨⟨⟨⟨⟨⟨⟨h1, h2⟩, h3⟩, h4⟩, h5⟩, h6⟩, h7⟩, h8⟩ := h
  have g1 : ∀ l, 0 ≤ l → l < 26 → M 4 l = 0 ∧ M 7 l = 0 := fun l l1 l2 => of_decide_eq_true (zR12_at h1 l1 l2)
  have g5 : ∀ i, 0 ≤ i → i < 10 → M 10 i = 12 + 7 * i := fun i i1 i2 => of_decide_eq_true (zR12_at h5 i1 i2)
  have e0 : y00 0 = 0 := rfl
  refine ⟨yWv_0, ?_, ?_, ⟨h3.2.2.2.1, h3.2.2.2.2.1⟩, ?_, h6, ?_, ⟨h8.1, fun k k1 k2 => by omega⟩, h8.2.1, h8.2.2⟩
  · refine ⟨⟨fun l l1 l2 => ?_, fun l l1 l2 z => ?_, fun l l1 l2 => ?_, fun l l1 l2 => ?_, fun a b a1 a2 b1 b2 => ?_, h2.2.2.2.1⟩, h2.2.2.2.2, fun p p1 p2 => ?_⟩
    · rw [(g1 l l1 l2).1, y00_0 (by omega)]
    · rw [y00_0 (by omega)] at z; omega
    · rw [h2.1, y00_0 (by omega)]; omega
    · rw [h2.2.1, h2.2.2.1, y00_0 (by omega), yhb_00 ⟨l1, by omega⟩]; exact ⟨rfl, rfl⟩
    · rw [(g1 a a1 a2).2, yhb_00 ⟨b1, by omega⟩]; rfl
    · have : p < 0 := p2; omega
  · have ec : yci (yK y00) (y00 0) = 0 := rfl
    unfold ySet
    rw [ec]
    refine ⟨⟨⟨⟨h3.1, h3.2.1⟩, fun p p1 p2 => ?_, fun c c1 c2 => ?_⟩, fun i i1 i2 => by omega⟩, ⟨h3.2.2.1, fun k k1 k2 => ?_, fun p p1 p2 => ?_, fun i i1 i2 => ?_⟩, h3.2.2.2.2.2, fun k k1 k2 => ?_⟩
    · have : p < 0 := p2; omega
    · have : c < 0 := c2; omega
    · have : k < 0 := k2; omega
    · have : p < 0 := p2; omega
    · obtain rfl : i = 0 := by omega
      exact ⟨h3.2.2.2.1, h3.2.2.2.2.1⟩
    · have : k < 0 := k2; omega
  · refine ⟨h4, ⟨by decide, by decide⟩, fun i i1 i2 => ⟨⟨i, i1, i2, g5 i i1 i2⟩, fun i' j1 j2 z => ?_⟩, fun i i1 i2 => by omega⟩
    rw [g5 i i1 i2, g5 i' j1 j2] at z
    omega
  · intro i hi
    refine ⟨?_, fun z => absurd (show (0 : Int) = 1 from z) (by decide)⟩
    rcases hi with rfl | rfl
    · exact h7.1
    · exact h7.2
/-- the law, from its beginning -/
theorem zL_run {L : Int} {xs : Int → Int} (hL : 0 ≤ L ∧ L ≤ 3072) : ∃ (n : Nat) (MF : zM), zRLF L xs (0, 1) zS0 MF n 0 [(4, 17), (3, 0), (3, 0), (3, 0)] [] [] (fun _ _ => 0) := by
  obtain ⟨v, MF, h1, h2⟩ := zL_loop (xs := xs) hL 4000 0 zM2 yW0 yC0 yM0 ⟨Int.le_refl _, hL.1⟩ (by omega)
  have h2 : v = (0, 1) := h2
  subst h2
  suffices h : zRL L xs (0, 1) zS0 MF 0 [(4, 17), (3, 0), (3, 0), (3, 0)] [] [] (fun _ _ => 0) by
    obtain ⟨n, h⟩ := h
    exact ⟨n, MF, h⟩
  have hz1 := zI1_eq
  have hz2 := zI2_eq
  unfold zI1 at hz1
  unfold zI2 at hz2
  generalize zS1 = S1 at hz1 hz2
  generalize zM1 = M1 at hz1 hz2
  generalize zM2 = M2 at h1 hz2
  generalize zS0 = S2 at h1 hz2 ⊢
  refine zRL.step (q := (49, [7, 0])) (r := (1, [(4, 17), (3, 0), (3, 0), (3, 0)], [(1, 0)], [(0, 0, List.replicate 14 (-1))], fun _ _ => 0)) rfl (by decide) rfl ?_
  refine zRL.step (q := (20, [])) (r := (2, [(4, 17), (3, 0), (3, 0), (3, 0)], [(1, 0), (1, 0)], [(0, 0, List.replicate 14 (-1))], fun _ _ => 0)) rfl (by decide) rfl ?_
  refine zRL.call (q := (60, [2, 9, 0, 0])) (y := (kX_init, 1, 1, 0)) (g := 1200) (r := ((3, 0), S1, M1)) rfl rfl rfl ⟨by decide, rfl⟩ hz1.1 ?_
  refine zRL.step (q := (6, [1])) (r := (4, [(4, 17), (1, 0), (3, 0), (3, 0)], [], S1, M1)) rfl (by decide) rfl ?_
  refine zRL.step (q := (49, [10, 12])) (r := (5, [(4, 17), (1, 0), (3, 0), (3, 0)], [(1, 208)], S1 ++ [(0, 12, List.replicate 51 (-1))], M1)) rfl (by decide) ?_ ?_
  · rw [zstL_z rfl]
    show zo_new [10, 12] 4 _ _ _ _ = _
    unfold zo_new
    rw [hz1.2]
    rfl
  refine zRL.step (q := (20, [])) (r := (6, [(4, 17), (1, 0), (3, 0), (3, 0)], [(1, 208), (1, 208)], S1 ++ [(0, 12, List.replicate 51 (-1))], M1)) rfl (by decide) rfl ?_
  refine zRL.call (q := (60, [2, 12, 67, 12])) (y := (kM_init, 1, 1, 0)) (g := 3000) (r := ((3, 0), S2, M2)) rfl rfl rfl ⟨Nat.le_of_ble_eq_true rfl, ?_⟩ hz2 ?_
  · show zrecv (S1 ++ _) 2 12 [(1, 208)] = true
    rfl
  refine zRL.step (q := (6, [2])) (r := (8, [(4, 17), (1, 0), (1, 208), (3, 0)], [], S2, M2)) rfl (by decide) rfl ?_
  refine zRL.step (q := (0, [0])) (r := (9, [(4, 17), (1, 0), (1, 208), (3, 0)], [(0, 0)], S2, M2)) rfl (by decide) rfl ?_
  exact zRL.step (q := (5, [3])) (r := (10, [(4, 17), (1, 0), (1, 208), (0, 0)], [], S2, M2)) rfl (by decide) rfl h1
