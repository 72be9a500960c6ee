/-! The beginning: both objects are made -/
def zI1 : Option (zV × List zSh × zM) := zrun zPt 1200 kX_init 0 (zloc [(1, 0)] 1) [] [(0, 0, List.replicate 14 (-1))] (fun _ _ => 0)
def zS1 : List zSh := (zI1.getD ((3, 0), [], fun _ _ => 0)).2.1
def zM1 : zM := (zI1.getD ((3, 0), [], fun _ _ => 0)).2.2
def zI2 : Option (zV × List zSh × zM) := zrun zPt 3000 kM_init 0 (zloc [(1, 208)] 1) [] (zS1 ++ [(0, 12, List.replicate 51 (-1))]) zM1
def zM2 : zM := (zI2.getD ((3, 0), [], fun _ _ => 0)).2.2
def zR12 (n : Nat) (f : Int → Bool) : Bool := (List.range n).all (fun j => f (j : Int))
theorem zR12_at {n : Nat} {f : Int → Bool} (h : zR12 n f = true) {j : Int} (h0 : 0 ≤ j) (h1 : j < n) : f j = true := by
  have := List.all_eq_true.mp h j.toNat (List.mem_range.mpr (by omega))
  rw [Int.toNat_of_nonneg h0] at this
  exact this
def zchC (M : zM) : Bool := zR12 26 (fun l => decide (M 4 l = 0 ∧ M 7 l = 0)) && decide (M 3 4 = -1 ∧ M 3 5 = 0 ∧ M 3 6 = 0 ∧ M 3 7 = 0 ∧ M 2 2 = 0) && decide (M 105 0 = 0 ∧ M 105 1 = 0 ∧ M 126 0 = 0 ∧ M 137 0 = 0 ∧ M 136 0 = 0 ∧ M 138 0 = 0) && decide (M 9 0 = 0) && zR12 10 (fun i => decide (M 10 i = 12 + 7 * i)) && decide (M 82 0 = 85 ∧ M 82 1 = 92) && decide (M 83 0 = 0 ∧ M 83 1 = 0) && decide (M 0 1 = 0 ∧ M 0 2 = 0 ∧ M 0 3 = -1)
def zchM (M : zM) : Bool := zR12 182 (fun j => decide (M 209 j = y00 j)) && decide (M 208 3 = 0 ∧ M 211 0 = 0 ∧ M 211 1 = 0 ∧ M 208 35 = 0 ∧ M 208 38 = 0 ∧ M 208 39 = -1) && zR12 111 (fun k => decide (M 238 k = ywds k))
theorem zI1_ok : (match zI1 with
  | some r => decide (r.1 = (3, 0) ∧ r.2.1.length = 208)
  | none => false) = true := by decide +kernel
theorem zI1_eq : zI1 = some ((3, 0), zS1, zM1) ∧ zS1.length = 208 := by
  have h := zI1_ok
  unfold zS1 zM1
  cases hz : zI1 with
  | none => rw [hz] at h; cases h
  | some r =>
    rw [hz] at h
    have h := of_decide_eq_true h
    obtain ⟨a, b, c⟩ := r
    dsimp only at h
    exact ⟨by rw [h.1]; rfl, h.2⟩
theorem zI2_ok : (match zI2 with
  | some r => decide (r.1 = (3, 0) ∧ r.2.1 = zS0)
  | none => false) = true := by decide +kernel
theorem zI2_C : zchC zM2 = true := by decide +kernel
theorem zI2_M : zchM zM2 = true := by decide +kernel
theorem zI2_eq : zI2 = some ((3, 0), zS0, zM2) := by
  have h := zI2_ok
  unfold zM2
  cases hz : zI2 with
  | none => rw [hz] at h; cases h
  | some r =>
    rw [hz] at h
    have h := of_decide_eq_true h
    obtain ⟨a, b, c⟩ := r
    dsimp only at h
    rw [h.1, h.2]
    rfl
