/-! Glyphs: every place of a cluster is shown -/
theorem ybs0_u (σ : yS) (K : Int → Int) (b a : Int) (ha : 0 ≤ a) : ∀ (k : Nat) (i : Int), ybs0 σ K b a k < i → i ≤ k → a < i → yjo K (ypl K b (i - 1)) = -1 := by
  intro k
  induction k with
  | zero => intro i h1 h2 h3; have : a = ybs0 σ K b a 0 := rfl; omega
  | succ k ih =>
    intro i h1 h2 h3
    unfold ybs0 at h1
    split at h1
    · omega
    · split at h1
      · omega
      · rename_i z
        by_cases e : i = (k : Int) + 1
        · subst e
          rw [show (k : Int) + 1 - 1 = k by omega]
          apply Decidable.byContradiction
          intro y
          exact z (Or.inr y)
        · exact ih i h1 (by omega) h3
theorem yba_u {σ : yS} {K : Int → Int} {n b i : Int} (hK : yKr K n) (h0 : 0 ≤ b) (h1 : b < n) (h : K b = 1) (hi : yba σ K b < i) (h2 : i < ym K b) : yjo K (ypl K b (i - 1)) = -1 := by
  have hz := yba_r (σ := σ) hK h0 h1 h
  have e : yba σ K b = ybs0 σ K b (yrp σ K b) (ym K b - 1).toNat := if_pos h
  exact ybs0_u σ K b (yrp σ K b) (by have := (yrp_r σ K b).1; omega) (ym K b - 1).toNat i (by omega) (by omega) (by omega)
theorem yjf_e {σ : yS} {K : Int → Int} {b k : Int} (h : 0 ≤ k) (hj : yjf σ K b k = 1) : (yrp σ K b ≤ k ∧ k < yba σ K b) ∧ (k = 0 ∨ yjf σ K b (k - 1) ≠ 1) ∧ yjo K (ypl K b k) = -1 ∧ K (ypl K b k + 1) ≠ 4 := by
  rw [yjf_s σ K b h] at hj
  split at hj
  · rename_i z; exact ⟨⟨z.1, z.2.1⟩, z.2.2.1, z.2.2.2.1, z.2.2.2.2.1⟩
  · omega
theorem yrp_e {σ : yS} {K : Int → Int} {b : Int} (h : yrp σ K b = 1) : K (b + 1) ≠ 4 ∧ yjo K b = -1 := by
  unfold yrp at h
  split at h
  · rename_i z; exact z.2.2.2
  · omega
set_option maxHeartbeats 4000000 in
theorem yCov_drw {σ : yS} {b : Int} (hV : yVal σ) (h0 : 0 ≤ b) (h1 : b < σ 0) (hb : ybg (yK σ) b) (c : Int) : yCov (ydrw σ c b) (fun q => b ≤ q ∧ q < yov (yK σ) b) := by
  have hK := yKr_K hV
  obtain ⟨⟨hru, -⟩, hov, htl⟩ := yov_sp hK h0 h1 hb
  have hkr := hK.2.1 b h0 h1
  have hso := yso_k hkr.1 hkr.2
  have c1 := yCov_sgn σ (kd := 5) (by decide) 0 c b
  have c5 := yCov_sgn σ (kd := 7) (by decide) 4 c b
  have c7 := yCov_sgn σ (kd := 6) (by decide) 5 c b
  have c10 := yCov_sgn σ (kd := 8) (by decide) 8 c b
  have c9 := yCov_mrk σ (kd := 10) (by decide) 7 c b
  have c11 := yCov_mrk σ (kd := 11) (by decide) 9 c b
  have c6 := yCov_ded σ c b
  have c8 := yCov_rph σ c b h0
  have tail : ∀ q, ytl (yK σ) b ≤ q → q < yov (yK σ) b → (((ytl (yK σ) b ≤ q ∧ q < yov (yK σ) b) ∧ (yK σ q = 5 ∨ (yK σ q = 9 ∧ ykd σ (ypt σ (yL σ q) 0) = 5))) ∨ ((ytl (yK σ) b ≤ q ∧ q < yov (yK σ) b) ∧ (yK σ q = 7 ∨ (yK σ q = 9 ∧ ykd σ (ypt σ (yL σ q) 0) = 7))) ∨ ((0 ≤ q ∧ ydd (yK σ) b = 1) ∧ (q = ytl (yK σ) b ∨ (q = ytl (yK σ) b + 1 ∧ q < yov (yK σ) b ∧ (yK σ q = 12 ∨ yK σ q = 13)))) ∨ ((ytl (yK σ) b ≤ q ∧ q < yov (yK σ) b) ∧ (yK σ q = 6 ∨ (yK σ q = 9 ∧ ykd σ (ypt σ (yL σ q) 0) = 6))) ∨ ((ytl (yK σ) b ≤ q ∧ q < yov (yK σ) b) ∧ yK σ q = 10) ∨ ((ytl (yK σ) b ≤ q ∧ q < yov (yK σ) b) ∧ (yK σ q = 8 ∨ (yK σ q = 9 ∧ ykd σ (ypt σ (yL σ q) 0) = 8))) ∨ ((ytl (yK σ) b ≤ q ∧ q < yov (yK σ) b) ∧ yK σ q = 11)) := by
    intro q q1 q2
    rcases htl q q1 q2 with ⟨z1, z2, z3⟩ | ⟨z1, z2, z3⟩ | z
    · exact Or.inr (Or.inr (Or.inl ⟨⟨by omega, z2⟩, Or.inl z1⟩))
    · exact Or.inr (Or.inr (Or.inl ⟨⟨by omega, z2⟩, Or.inr ⟨z1, q2, z3⟩⟩))
    · have hq : 0 ≤ q ∧ q < σ 0 := by omega
      have h9 : yK σ q = 9 → 5 ≤ ykd σ (ypt σ (yL σ q) 0) ∧ ykd σ (ypt σ (yL σ q) 0) ≤ 8 := by
        intro h9
        have hl := yL_r hV hq.1 hq.2
        have hk := ykd_L hV hq.1 hq.2
        have e9 : σ (2 + yL σ q) = 9 := by
          unfold ykd at hk
          rw [if_pos hl] at hk
          omega
        have hp := (hV.2.2.2.1 _ hl.1 hl.2 e9).1
        have e : ypt σ (yL σ q) 0 = σ (54 + yL σ q) := by unfold ypt; rw [if_pos (by omega), if_pos rfl]
        rw [e]
        unfold ykd
        rw [if_pos ⟨hp.1, hp.2.1⟩]
        exact hp.2.2
      have hr : ytl (yK σ) b ≤ q ∧ q < yov (yK σ) b := ⟨q1, q2⟩
      by_cases g9 : yK σ q = 9
      · have h9 := h9 g9
        have : ykd σ (ypt σ (yL σ q) 0) = 5 ∨ ykd σ (ypt σ (yL σ q) 0) = 6 ∨ ykd σ (ypt σ (yL σ q) 0) = 7 ∨ ykd σ (ypt σ (yL σ q) 0) = 8 := by omega
        rcases this with w | w | w | w
        · exact Or.inl ⟨hr, Or.inr ⟨g9, w⟩⟩
        · exact Or.inr (Or.inr (Or.inr (Or.inl ⟨hr, Or.inr ⟨g9, w⟩⟩)))
        · exact Or.inr (Or.inl ⟨hr, Or.inr ⟨g9, w⟩⟩)
        · exact Or.inr (Or.inr (Or.inr (Or.inr (Or.inr (Or.inl ⟨hr, Or.inr ⟨g9, w⟩⟩)))))
      · have : yK σ q = 5 ∨ yK σ q = 6 ∨ yK σ q = 7 ∨ yK σ q = 8 ∨ yK σ q = 10 ∨ yK σ q = 11 := by omega
        rcases this with w | w | w | w | w | w
        · exact Or.inl ⟨hr, Or.inl w⟩
        · exact Or.inr (Or.inr (Or.inr (Or.inl ⟨hr, Or.inl w⟩)))
        · exact Or.inr (Or.inl ⟨hr, Or.inl w⟩)
        · exact Or.inr (Or.inr (Or.inr (Or.inr (Or.inr (Or.inl ⟨hr, Or.inl w⟩)))))
        · exact Or.inr (Or.inr (Or.inr (Or.inr (Or.inl ⟨hr, w⟩))))
        · exact Or.inr (Or.inr (Or.inr (Or.inr (Or.inr (Or.inr ⟨hr, w⟩)))))
  by_cases h : yK σ b = 1
  · have hz := yba_r (σ := σ) hK h0 h1 h
    have rm := ym_r hK h0 h1 h
    have hr := yrp_r σ (yK σ) b
    have hp : ∀ k, 0 ≤ k → k < ym (yK σ) b → yP σ b k ≠ -1 := fun k k1 k2 => by have := (ypl_r hK h0 h1 h k1 k2).1; unfold yP; omega
    have em : yms (yK σ) b = ym (yK σ) b := if_pos h
    have c2 : yCov (yahd σ c b) _ := yCov_fo2 (f := yahs σ c b) (a := yrp σ (yK σ) b) (z := yba σ (yK σ) b) (fun k k1 k2 => yCov_ahs σ c b k (hp k (by omega) (by omega)))
    have hmb : yrp σ (yK σ) b ≤ ymdb σ b ∧ ymdb σ b ≤ yba σ (yK σ) b := by unfold ymdb; split <;> omega
    have c3 := yCov_mid1 σ c b h (hp (ymdb σ b) (by omega) (by omega))
    have c4 : yCov (ystd σ c b) _ := yCov_fo2 (f := ystk σ c b) (a := yba σ (yK σ) b + 1) (z := yms (yK σ) b) (fun k k1 k2 => yCov_stk σ c b k (hp k (by omega) (by omega)))
    have all := (((((((((c1.cm c2).cm c3).cm c4).cm c5).cm c6).cm c7).cm c8).cm c9).cm c10).cm c11
    refine yCov.mo (f := ydrw σ c b) all (fun q hq => ?_)
    by_cases ht : ytl (yK σ) b ≤ q
    · rcases tail q ht hq.2 with w | w | w | w | w | w | w
      · exact Or.inl (Or.inl (Or.inl (Or.inl (Or.inl (Or.inl (Or.inl (Or.inl (Or.inl (Or.inl w)))))))))
      · exact Or.inl (Or.inl (Or.inl (Or.inl (Or.inl (Or.inl (Or.inr w))))))
      · exact Or.inl (Or.inl (Or.inl (Or.inl (Or.inl (Or.inr w)))))
      · exact Or.inl (Or.inl (Or.inl (Or.inl (Or.inr w))))
      · exact Or.inl (Or.inl (Or.inr w))
      · exact Or.inl (Or.inr w)
      · exact Or.inr w
    · have key : (∃ k, yrp σ (yK σ) b ≤ k ∧ k < yba σ (yK σ) b ∧ q ≠ -1 ∧ ¬ ((yrp σ (yK σ) b < k ∧ yjf σ (yK σ) b (k - 1) = 1) ∨ yba σ (yK σ) b ≤ yla σ b k) ∧ (q = yP σ b k ∨ (k ≠ yla σ b k ∧ (q = yvi (yK σ) (yP σ b k) ∨ q = yP σ b (yla σ b k))) ∨ q = ynk (yK σ) (yP σ b (yla σ b k)) ∨ q = yvi (yK σ) (yP σ b (yla σ b k)) ∨ q = yjo (yK σ) (yP σ b (yla σ b k)))) ∨ (q ≠ -1 ∧ (q = yP σ b (ymdb σ b) ∨ (ymdb σ b ≠ yba σ (yK σ) b ∧ (q = yvi (yK σ) (yP σ b (ymdb σ b)) ∨ q = yP σ b (yba σ (yK σ) b))) ∨ q = ynk (yK σ) (yP σ b (yba σ (yK σ) b)))) ∨ (∃ k, yba σ (yK σ) b + 1 ≤ k ∧ k < yms (yK σ) b ∧ q ≠ -1 ∧ (q = yP σ b k ∨ q = yvi (yK σ) (yP σ b (k - 1)) ∨ q = ynk (yK σ) (yP σ b k))) ∨ (yrp σ (yK σ) b = 1 ∧ (q = b ∨ q = yvi (yK σ) b)) := by
        have inA : ∀ k, yrp σ (yK σ) b ≤ k → k < yba σ (yK σ) b → ¬ ((yrp σ (yK σ) b < k ∧ yjf σ (yK σ) b (k - 1) = 1) ∨ yba σ (yK σ) b ≤ yla σ b k) → (q = yP σ b k ∨ (k ≠ yla σ b k ∧ (q = yvi (yK σ) (yP σ b k) ∨ q = yP σ b (yla σ b k))) ∨ q = ynk (yK σ) (yP σ b (yla σ b k)) ∨ q = yvi (yK σ) (yP σ b (yla σ b k)) ∨ q = yjo (yK σ) (yP σ b (yla σ b k))) → (∃ k, yrp σ (yK σ) b ≤ k ∧ k < yba σ (yK σ) b ∧ q ≠ -1 ∧ ¬ ((yrp σ (yK σ) b < k ∧ yjf σ (yK σ) b (k - 1) = 1) ∨ yba σ (yK σ) b ≤ yla σ b k) ∧ (q = yP σ b k ∨ (k ≠ yla σ b k ∧ (q = yvi (yK σ) (yP σ b k) ∨ q = yP σ b (yla σ b k))) ∨ q = ynk (yK σ) (yP σ b (yla σ b k)) ∨ q = yvi (yK σ) (yP σ b (yla σ b k)) ∨ q = yjo (yK σ) (yP σ b (yla σ b k)))) ∨ (q ≠ -1 ∧ (q = yP σ b (ymdb σ b) ∨ (ymdb σ b ≠ yba σ (yK σ) b ∧ (q = yvi (yK σ) (yP σ b (ymdb σ b)) ∨ q = yP σ b (yba σ (yK σ) b))) ∨ q = ynk (yK σ) (yP σ b (yba σ (yK σ) b)))) ∨ (∃ k, yba σ (yK σ) b + 1 ≤ k ∧ k < yms (yK σ) b ∧ q ≠ -1 ∧ (q = yP σ b k ∨ q = yvi (yK σ) (yP σ b (k - 1)) ∨ q = ynk (yK σ) (yP σ b k))) ∨ (yrp σ (yK σ) b = 1 ∧ (q = b ∨ q = yvi (yK σ) b)) := fun k k1 k2 k3 k4 => Or.inl ⟨k, k1, k2, by omega, k3, k4⟩
        have inM : Unit → (q = yP σ b (ymdb σ b) ∨ (ymdb σ b ≠ yba σ (yK σ) b ∧ (q = yvi (yK σ) (yP σ b (ymdb σ b)) ∨ q = yP σ b (yba σ (yK σ) b))) ∨ q = ynk (yK σ) (yP σ b (yba σ (yK σ) b))) → (∃ k, yrp σ (yK σ) b ≤ k ∧ k < yba σ (yK σ) b ∧ q ≠ -1 ∧ ¬ ((yrp σ (yK σ) b < k ∧ yjf σ (yK σ) b (k - 1) = 1) ∨ yba σ (yK σ) b ≤ yla σ b k) ∧ (q = yP σ b k ∨ (k ≠ yla σ b k ∧ (q = yvi (yK σ) (yP σ b k) ∨ q = yP σ b (yla σ b k))) ∨ q = ynk (yK σ) (yP σ b (yla σ b k)) ∨ q = yvi (yK σ) (yP σ b (yla σ b k)) ∨ q = yjo (yK σ) (yP σ b (yla σ b k)))) ∨ (q ≠ -1 ∧ (q = yP σ b (ymdb σ b) ∨ (ymdb σ b ≠ yba σ (yK σ) b ∧ (q = yvi (yK σ) (yP σ b (ymdb σ b)) ∨ q = yP σ b (yba σ (yK σ) b))) ∨ q = ynk (yK σ) (yP σ b (yba σ (yK σ) b)))) ∨ (∃ k, yba σ (yK σ) b + 1 ≤ k ∧ k < yms (yK σ) b ∧ q ≠ -1 ∧ (q = yP σ b k ∨ q = yvi (yK σ) (yP σ b (k - 1)) ∨ q = ynk (yK σ) (yP σ b k))) ∨ (yrp σ (yK σ) b = 1 ∧ (q = b ∨ q = yvi (yK σ) b)) := fun _ k => Or.inr (Or.inl ⟨by omega, k⟩)
        have inS : ∀ k, yba σ (yK σ) b + 1 ≤ k → k < yms (yK σ) b → (q = yP σ b k ∨ q = yvi (yK σ) (yP σ b (k - 1)) ∨ q = ynk (yK σ) (yP σ b k)) → (∃ k, yrp σ (yK σ) b ≤ k ∧ k < yba σ (yK σ) b ∧ q ≠ -1 ∧ ¬ ((yrp σ (yK σ) b < k ∧ yjf σ (yK σ) b (k - 1) = 1) ∨ yba σ (yK σ) b ≤ yla σ b k) ∧ (q = yP σ b k ∨ (k ≠ yla σ b k ∧ (q = yvi (yK σ) (yP σ b k) ∨ q = yP σ b (yla σ b k))) ∨ q = ynk (yK σ) (yP σ b (yla σ b k)) ∨ q = yvi (yK σ) (yP σ b (yla σ b k)) ∨ q = yjo (yK σ) (yP σ b (yla σ b k)))) ∨ (q ≠ -1 ∧ (q = yP σ b (ymdb σ b) ∨ (ymdb σ b ≠ yba σ (yK σ) b ∧ (q = yvi (yK σ) (yP σ b (ymdb σ b)) ∨ q = yP σ b (yba σ (yK σ) b))) ∨ q = ynk (yK σ) (yP σ b (yba σ (yK σ) b)))) ∨ (∃ k, yba σ (yK σ) b + 1 ≤ k ∧ k < yms (yK σ) b ∧ q ≠ -1 ∧ (q = yP σ b k ∨ q = yvi (yK σ) (yP σ b (k - 1)) ∨ q = ynk (yK σ) (yP σ b k))) ∨ (yrp σ (yK σ) b = 1 ∧ (q = b ∨ q = yvi (yK σ) b)) := fun k k1 k2 k3 => Or.inr (Or.inr (Or.inl ⟨k, k1, k2, by omega, k3⟩))
        have inR : Unit → yrp σ (yK σ) b = 1 → (q = b ∨ q = yvi (yK σ) b) → (∃ k, yrp σ (yK σ) b ≤ k ∧ k < yba σ (yK σ) b ∧ q ≠ -1 ∧ ¬ ((yrp σ (yK σ) b < k ∧ yjf σ (yK σ) b (k - 1) = 1) ∨ yba σ (yK σ) b ≤ yla σ b k) ∧ (q = yP σ b k ∨ (k ≠ yla σ b k ∧ (q = yvi (yK σ) (yP σ b k) ∨ q = yP σ b (yla σ b k))) ∨ q = ynk (yK σ) (yP σ b (yla σ b k)) ∨ q = yvi (yK σ) (yP σ b (yla σ b k)) ∨ q = yjo (yK σ) (yP σ b (yla σ b k)))) ∨ (q ≠ -1 ∧ (q = yP σ b (ymdb σ b) ∨ (ymdb σ b ≠ yba σ (yK σ) b ∧ (q = yvi (yK σ) (yP σ b (ymdb σ b)) ∨ q = yP σ b (yba σ (yK σ) b))) ∨ q = ynk (yK σ) (yP σ b (yba σ (yK σ) b)))) ∨ (∃ k, yba σ (yK σ) b + 1 ≤ k ∧ k < yms (yK σ) b ∧ q ≠ -1 ∧ (q = yP σ b k ∨ q = yvi (yK σ) (yP σ b (k - 1)) ∨ q = ynk (yK σ) (yP σ b k))) ∨ (yrp σ (yK σ) b = 1 ∧ (q = b ∨ q = yvi (yK σ) b)) := fun _ k1 k2 => Or.inr (Or.inr (Or.inr ⟨k1, k2⟩))
        have et : ytl (yK σ) b = yq (yK σ) (ypl (yK σ) b (ym (yK σ) b - 1)) := if_pos h
        obtain ⟨j, hj, hc⟩ := yhead hK h0 h1 h (ym (yK σ) b - 1).toNat (by omega) q hq.1 (by rw [show (((ym (yK σ) b - 1).toNat : Nat) : Int) = ym (yK σ) b - 1 by omega, ← et]; omega)
        rw [show (((ym (yK σ) b - 1).toNat : Nat) : Int) = ym (yK σ) b - 1 by omega] at hj hc
        have hnk : (q = ypl (yK σ) b j + 1 ∧ yK σ q = 4) → q = ynk (yK σ) (yP σ b j) := fun z => by unfold ynk yP; rw [if_pos (by rw [← z.1]; exact z.2)]; exact z.1
        have hvi : j < ym (yK σ) b - 1 → q = yq (yK σ) (ypl (yK σ) b j) → q = yvi (yK σ) (yP σ b j) := fun z1 z2 => by
          unfold yvi yP
          rw [if_neg (ypl_n hK h0 h1 h hj.1 (by omega)).2.1]
          exact z2
        by_cases j1 : j < yrp σ (yK σ) b
        · have hr1 : yrp σ (yK σ) b = 1 := by omega
          have hj0 : j = 0 := by omega
          subst hj0
          have he := yrp_e hr1
          rw [ypl_0] at hc
          rcases hc with z | z | ⟨z1, z2, z3⟩ | ⟨z1, z2, z3, z4⟩
          · exact inR () hr1 (Or.inl z)
          · exact absurd (by rw [← z.1]; exact z.2) he.1
          · exact inR () hr1 (Or.inr (by have := hvi z1 (by rw [ypl_0]; exact z2); exact this))
          · omega
        · by_cases j2 : j < yba σ (yK σ) b
          · by_cases sec : yrp σ (yK σ) b < j ∧ yjf σ (yK σ) b (j - 1) = 1
            · have e1 := yjf_e (show 0 ≤ j - 1 by omega) sec.2
              have ela : yla σ b (j - 1) = j := by unfold yla; rw [if_pos sec.2]; omega
              have nsk : ¬ ((yrp σ (yK σ) b < j - 1 ∧ yjf σ (yK σ) b (j - 1 - 1) = 1) ∨ yba σ (yK σ) b ≤ yla σ b (j - 1)) := by
                rw [ela]
                intro z
                rcases z with ⟨z1, z2⟩ | z
                · rcases e1.2.1 with w | w
                  · omega
                  · exact w z2
                · omega
              refine inA (j - 1) (by omega) (by omega) nsk ?_
              rw [ela]
              rcases hc with z | z | ⟨z1, z2, z3⟩ | ⟨z1, z2, z3, z4⟩
              · exact Or.inr (Or.inl ⟨by omega, Or.inr z⟩)
              · exact Or.inr (Or.inr (Or.inl (hnk z)))
              · exact Or.inr (Or.inr (Or.inr (Or.inl (hvi z1 z2))))
              · exact Or.inr (Or.inr (Or.inr (Or.inr z3)))
            · by_cases jj : yjf σ (yK σ) b j = 1
              · have e1 := yjf_e (show 0 ≤ j by omega) jj
                have ela : yla σ b j = j + 1 := if_pos jj
                by_cases j3 : j + 1 < yba σ (yK σ) b
                · refine inA j (by omega) (by omega) (by rw [ela]; intro z; rcases z with z | z; exact sec z; omega) ?_
                  rw [ela]
                  rcases hc with z | z | ⟨z1, z2, z3⟩ | ⟨z1, z2, z3, z4⟩
                  · exact Or.inl z
                  · exact absurd (by rw [← z.1]; exact z.2) e1.2.2.2
                  · exact Or.inr (Or.inl ⟨by omega, Or.inl (hvi z1 z2)⟩)
                  · omega
                · have emb : ymdb σ b = j := by
                    unfold ymdb
                    rw [if_pos ⟨by omega, by rw [show yba σ (yK σ) b - 1 = j by omega]; exact jj⟩]
                    omega
                  refine inM () ?_
                  rw [emb]
                  rcases hc with z | z | ⟨z1, z2, z3⟩ | ⟨z1, z2, z3, z4⟩
                  · exact Or.inl z
                  · exact absurd (by rw [← z.1]; exact z.2) e1.2.2.2
                  · exact Or.inr (Or.inl ⟨by omega, Or.inl (hvi z1 z2)⟩)
                  · omega
              · have ela : yla σ b j = j := if_neg jj
                refine inA j (by omega) (by omega) (by rw [ela]; intro z; rcases z with z | z; exact sec z; omega) ?_
                rw [ela]
                rcases hc with z | z | ⟨z1, z2, z3⟩ | ⟨z1, z2, z3, z4⟩
                · exact Or.inl z
                · exact Or.inr (Or.inr (Or.inl (hnk z)))
                · exact Or.inr (Or.inr (Or.inr (Or.inl (hvi z1 z2))))
                · exact Or.inr (Or.inr (Or.inr (Or.inr z3)))
          · have hjo : j < ym (yK σ) b - 1 → yjo (yK σ) (ypl (yK σ) b j) = -1 := fun z => by
              have := yba_u (σ := σ) hK h0 h1 h (i := j + 1) (by omega) (by omega)
              rw [show j + 1 - 1 = j by omega] at this
              exact this
            by_cases j3 : j = yba σ (yK σ) b
            · rcases hc with z | z | ⟨z1, z2, z3⟩ | ⟨z1, z2, z3, z4⟩
              · refine inM () ?_
                by_cases e : ymdb σ b = yba σ (yK σ) b
                · exact Or.inl (by rw [e, ← j3]; exact z)
                · exact Or.inr (Or.inl ⟨e, Or.inr (by rw [← j3]; exact z)⟩)
              · exact inM () (Or.inr (Or.inr (by rw [← j3]; exact hnk z)))
              · exact inS (j + 1) (by omega) (by omega) (Or.inr (Or.inl (by rw [show j + 1 - 1 = j by omega]; exact hvi z1 z2)))
              · have := hjo z1; omega
            · rcases hc with z | z | ⟨z1, z2, z3⟩ | ⟨z1, z2, z3, z4⟩
              · exact inS j (by omega) (by omega) (Or.inl z)
              · exact inS j (by omega) (by omega) (Or.inr (Or.inr (hnk z)))
              · exact inS (j + 1) (by omega) (by omega) (Or.inr (Or.inl (by rw [show j + 1 - 1 = j by omega]; exact hvi z1 z2)))
              · have := hjo z1; omega
      rcases key with w | w | w | w
      · exact Or.inl (Or.inl (Or.inl (Or.inl (Or.inl (Or.inl (Or.inl (Or.inl (Or.inl (Or.inr w)))))))))
      · exact Or.inl (Or.inl (Or.inl (Or.inl (Or.inl (Or.inl (Or.inl (Or.inl (Or.inr w))))))))
      · exact Or.inl (Or.inl (Or.inl (Or.inl (Or.inl (Or.inl (Or.inl (Or.inr w)))))))
      · exact Or.inl (Or.inl (Or.inl (Or.inr w)))
  · obtain ⟨z1, z2, z3, z4⟩ := yA0 (σ := σ) h
    have c2 : yCov (yahd σ c b) (fun _ => False) := fun X T U hx => by
      unfold yahd
      rw [z2, z3, yfo_0 _ (Int.le_refl _), yfo_0 _ (Int.le_refl _)]
      exact hx.mo (fun q hq => hq.elim id False.elim)
    have c3 := yCov_mid0 σ c b h
    have c4 : yCov (ystd σ c b) (fun _ => False) := fun X T U hx => by
      unfold ystd
      rw [z2, z1, yfo_0 _ (by omega), yfo_0 _ (by omega)]
      exact hx.mo (fun q hq => hq.elim id False.elim)
    have all := (((((((((c1.cm c2).cm c3).cm c4).cm c5).cm c6).cm c7).cm c8).cm c9).cm c10).cm c11
    refine yCov.mo (f := ydrw σ c b) all (fun q hq => ?_)
    by_cases ht : ytl (yK σ) b ≤ q
    · rcases tail q ht hq.2 with w | w | w | w | w | w | w
      · exact Or.inl (Or.inl (Or.inl (Or.inl (Or.inl (Or.inl (Or.inl (Or.inl (Or.inl (Or.inl w)))))))))
      · exact Or.inl (Or.inl (Or.inl (Or.inl (Or.inl (Or.inl (Or.inr w))))))
      · exact Or.inl (Or.inl (Or.inl (Or.inl (Or.inl (Or.inr w)))))
      · exact Or.inl (Or.inl (Or.inl (Or.inl (Or.inr w))))
      · exact Or.inl (Or.inl (Or.inr w))
      · exact Or.inl (Or.inr w)
      · exact Or.inr w
    · refine Or.inl (Or.inl (Or.inl (Or.inl (Or.inl (Or.inl (Or.inl (Or.inl (Or.inr ⟨by omega, ?_⟩))))))))
      unfold ytl at ht
      rw [if_neg h] at ht
      unfold yow
      split at ht
      · rename_i k2
        split at ht
        · rename_i k4
          by_cases e : q = b
          · exact Or.inl ⟨e, by omega⟩
          · exact Or.inr (by rw [if_pos ⟨k2, k4⟩]; omega)
        · exact Or.inl ⟨by omega, by omega⟩
      · rename_i k2
        split at ht
        · split at ht
          · rename_i k5 k4
            exact Or.inr (by rw [if_neg (by omega), if_pos k4]; omega)
          · omega
        · exact Or.inl ⟨by omega, by assumption⟩
