/-! The script and the text as one row of 182 numbers: 0 how many letters, 1 how many pairs, 2.. kinds, 28.. what they do, 54.., 80.. parts, 106.. pairs, 122.. the text -/
abbrev yS : Type := Int → Int
def yK (σ : yS) (p : Int) : Int := if 0 ≤ p ∧ p < σ 0 then σ (2 + σ (122 + p)) else -1
def yL (σ : yS) (p : Int) : Int := if 0 ≤ p ∧ p < σ 0 then σ (122 + p) else -1
def ykd (σ : yS) (l : Int) : Int := if 0 ≤ l ∧ l < 26 then σ (2 + l) else 0
def ypt (σ : yS) (l w : Int) : Int := if ykd σ l = 9 then (if w = 0 then σ (54 + l) else σ (80 + l)) else -1
def yhb (x b : Int) : Int := zand (zushr x b) 1
def yJ (σ : yS) (a b : Int) : Nat → Int
  | 0 => 0
  | k + 1 => if σ (106 + 2 * (k : Int)) = a ∧ σ (107 + 2 * (k : Int)) = b then 1 else yJ σ a b k
def yjn (σ : yS) (a b : Int) : Int := yJ σ a b (σ 1).toNat
def yju (σ : yS) (a b : Int) : Int := if 0 ≤ a ∧ a < 26 ∧ 0 ≤ b ∧ b < 26 then yjn σ a b else 0
/-- what is so of every script and text -/
def yVal (σ : yS) : Prop := (0 ≤ σ 0 ∧ σ 0 ≤ 60) ∧ (0 ≤ σ 1 ∧ σ 1 ≤ 8) ∧ (∀ l, 0 ≤ l → l < 26 → (0 ≤ σ (2 + l) ∧ σ (2 + l) ≤ 13) ∧ 0 ≤ σ (28 + l) ∧ σ (28 + l) ≤ 7) ∧
  (∀ l, 0 ≤ l → l < 26 → σ (2 + l) = 9 → (0 ≤ σ (54 + l) ∧ σ (54 + l) < 26 ∧ 5 ≤ σ (2 + σ (54 + l)) ∧ σ (2 + σ (54 + l)) ≤ 8) ∧ 0 ≤ σ (80 + l) ∧ σ (80 + l) < 26 ∧ 5 ≤ σ (2 + σ (80 + l)) ∧ σ (2 + σ (80 + l)) ≤ 8) ∧
  (∀ l, 0 ≤ l → l < 26 → σ (2 + l) ≠ 9 → σ (54 + l) = -1 ∧ σ (80 + l) = -1) ∧ (∀ p, 0 ≤ p → p < σ 0 → 0 ≤ σ (122 + p) ∧ σ (122 + p) < 26)
/-- a Script object's rows tell what σ tells -/
def ySc (r0 r1 r2 r3 r4 : Int → Int) (σ : yS) : Prop := (∀ l, 0 ≤ l → l < 26 → r1 l = σ (2 + l)) ∧ (∀ l, 0 ≤ l → l < 26 → σ (2 + l) = 9 → r2 l = σ (54 + l) ∧ r3 l = σ (80 + l)) ∧
  (∀ l, 0 ≤ l → l < 26 → (r0 4 = l ↔ σ (28 + l) % 2 = 1)) ∧ (∀ l, 0 ≤ l → l < 26 → yhb (r0 5) l = σ (28 + l) / 2 % 2 ∧ yhb (r0 6) l = σ (28 + l) / 4 % 2) ∧
  (∀ a b, 0 ≤ a → a < 26 → 0 ≤ b → b < 26 → yhb (r4 a) b = yjn σ a b) ∧ r0 7 = σ 1
/-- a State object's rows -/
def ySt (ra r0 r1 r2 r3 r4 rt : Int → Int) (σ : yS) : Prop := ySc r0 r1 r2 r3 r4 σ ∧ ra 2 = σ 0 ∧ ∀ p, 0 ≤ p → p < σ 0 → rt p = σ (122 + p)
abbrev yTold (M : zM) (σ : yS) : Prop := ySt (M 2) (M 3) (M 4) (M 5) (M 6) (M 7) (M 8) σ
abbrev yStA (M : zM) (a : Int) (σ : yS) : Prop := ySt (M a) (M (a + 1)) (M (a + 2)) (M (a + 3)) (M (a + 4)) (M (a + 5)) (M (a + 6)) σ
theorem yStA_2 {M : zM} {σ : yS} : yStA M 2 σ ↔ yTold M σ := Iff.rfl
theorem ySc.cp {r0 r1 r2 r3 r4 s0 s1 s2 s3 s4 : Int → Int} {σ : yS} (h : ySc r0 r1 r2 r3 r4 σ) (h0 : ∀ k, 4 ≤ k → k ≤ 7 → s0 k = r0 k) (h1 : ∀ l, 0 ≤ l → l < 26 → s1 l = r1 l) (h2 : ∀ l, 0 ≤ l → l < 26 → s2 l = r2 l) (h3 : ∀ l, 0 ≤ l → l < 26 → s3 l = r3 l) (h4 : ∀ l, 0 ≤ l → l < 26 → s4 l = r4 l) : ySc s0 s1 s2 s3 s4 σ := by
  obtain ⟨a1, a2, a3, a4, a5, a6⟩ := h
  refine ⟨fun l q1 q2 => by rw [h1 l q1 q2, a1 l q1 q2], fun l q1 q2 q3 => by rw [h2 l q1 q2, h3 l q1 q2]; exact a2 l q1 q2 q3, fun l q1 q2 => by rw [h0 4 (by decide) (by decide)]; exact a3 l q1 q2, fun l q1 q2 => by rw [h0 5 (by decide) (by decide), h0 6 (by decide) (by decide)]; exact a4 l q1 q2, fun a b q1 q2 q3 q4 => by rw [h4 a q1 q2]; exact a5 a b q1 q2 q3 q4, by rw [h0 7 (by decide) (by decide)]; exact a6⟩
theorem yStA.cg {M N : zM} {a : Int} {σ : yS} (h : yStA M a σ) (e : ∀ b, a ≤ b → b ≤ a + 6 → N b = M b) : yStA N a σ := by
  unfold yStA at h ⊢
  rw [e a (by omega) (by omega), e (a + 1) (by omega) (by omega), e (a + 2) (by omega) (by omega), e (a + 3) (by omega) (by omega), e (a + 4) (by omega) (by omega), e (a + 5) (by omega) (by omega), e (a + 6) (by omega) (by omega)]
  exact h
/-- the shape of a Script, of a State at an address -/
def yscb (b : Int) : Prop := zcls zS0 b = some 9 ∧ zref zS0 b 9 0 = some (b + 1) ∧ zref zS0 b 9 1 = some (b + 2) ∧ zref zS0 b 9 2 = some (b + 3) ∧ zref zS0 b 9 3 = some (b + 4) ∧ zar zS0 (b + 1) = some (1, 26) ∧ zar zS0 (b + 2) = some (1, 26) ∧ zar zS0 (b + 3) = some (1, 26) ∧ zar zS0 (b + 4) = some (1, 26)
def yblk (a : Int) : Prop := zcls zS0 a = some 10 ∧ zref zS0 a 10 0 = some (a + 1) ∧ zref zS0 a 10 1 = some (a + 6) ∧ zar zS0 (a + 6) = some (1, 60) ∧ yscb (a + 1)
theorem yblk_all : ∀ a ∈ [2, 11, 18, 25, 32, 39, 46, 53, 60, 67, 74, 84, 91], yblk a := by
  simp only [List.forall_mem_cons]
  refine ⟨?_, ?_, ?_, ?_, ?_, ?_, ?_, ?_, ?_, ?_, ?_, ?_, ?_, fun _ h => absurd h List.not_mem_nil⟩ <;> exact ⟨rfl, rfl, rfl, rfl, rfl, rfl, rfl, rfl, rfl, rfl, rfl, rfl, rfl⟩
theorem ysb_99 : yscb 99 := ⟨rfl, rfl, rfl, rfl, rfl, rfl, rfl, rfl, rfl⟩
theorem ysb_3 : yscb 3 := ⟨rfl, rfl, rfl, rfl, rfl, rfl, rfl, rfl, rfl⟩
theorem yblk_2 : yblk 2 := yblk_all 2 (by simp)
theorem yblk_h {j : Int} (h : 0 ≤ j ∧ j < 10) : yblk (11 + 7 * j) := yblk_all _ (by simp; omega)
theorem yblk_i {j : Int} (h : j = 0 ∨ j = 1) : yblk (84 + 7 * j) := yblk_all _ (by simp; omega)

section
set_option maxHeartbeats 4000000
theorem ysc_post {M : zM} {b d : Int} (hn : d + 5 ≤ b ∨ b + 5 ≤ d) {E : zM} (he : E = (zup (zup (zup (zup (zcpy (zcpy (zcpy (zcpy M (d + 1) 0 (b + 1) 0 26) (d + 2) 0 (b + 2) 0 26) (d + 3) 0 (b + 3) 0 26) (d + 4) 0 (b + 4) 0 26) b 4 (M d 4)) b 5 (M d 5)) b 6 (M d 6)) b 7 (M d 7))) : yfr b (b + 4) M E ∧ (∀ k, 4 ≤ k → k ≤ 7 → E b k = M d k) ∧ ∀ j, 1 ≤ j → j ≤ 4 → ∀ l, 0 ≤ l → l < 26 → E (b + j) l = M (d + j) l := by
  subst he
  refine ⟨fun x hx => ?_, fun k h1 h2 => ?_, fun j h1 h2 l h3 h4 => ?_⟩
  · rw [zup_row (by omega), zup_row (by omega), zup_row (by omega), zup_row (by omega), zcpy_row (by omega), zcpy_row (by omega), zcpy_row (by omega), zcpy_row (by omega)]
  · unfold zup
    have : k = 4 ∨ k = 5 ∨ k = 6 ∨ k = 7 := by omega
    rcases this with rfl | rfl | rfl | rfl <;> simp
  · have : j = 1 ∨ j = 2 ∨ j = 3 ∨ j = 4 := by omega
    rw [zup_na (by omega), zup_na (by omega), zup_na (by omega), zup_na (by omega)]
    unfold zcpy
    rcases this with rfl | rfl | rfl | rfl <;> grind
end

theorem m_ScCopy {b d : Int} {M : zM} {Q : zV → zM → Prop} (hb : yscb b) (hd : yscb d) (hn : d + 5 ≤ b ∨ b + 5 ≤ d) (k : ∀ N : zM, (yfr b (b + 4) M N ∧ (∀ k, 4 ≤ k → k ≤ 7 → N b k = M d k) ∧ ∀ j, 1 ≤ j → j ≤ 4 → ∀ l, 0 ≤ l → l < 26 → N (b + j) l = M (d + j) l) → Q (3, 0) N) : zWp kSc_copyFrom 0 [(1, b), (1, d)] [] M Q := by
  refine zw_aload ⟨rfl, rfl⟩ rfl ?_
  refine zw_getR (d + 1) ⟨rfl, rfl⟩ (hd.2.1) ?_
  refine zw_const ⟨rfl, rfl⟩ ?_
  refine zw_aload ⟨rfl, rfl⟩ rfl ?_
  refine zw_getR (b + 1) ⟨rfl, rfl⟩ (hb.2.1) ?_
  refine zw_const ⟨rfl, rfl⟩ ?_
  refine zw_const ⟨rfl, rfl⟩ ?_
  refine zw_copy ⟨rfl, rfl⟩ hd.2.2.2.2.2.1 hb.2.2.2.2.2.1 (by omega) (by exact ⟨by omega, by decide⟩) ?_
  refine zw_aload ⟨rfl, rfl⟩ rfl ?_
  refine zw_getR (d + 2) ⟨rfl, rfl⟩ (hd.2.2.1) ?_
  refine zw_const ⟨rfl, rfl⟩ ?_
  refine zw_aload ⟨rfl, rfl⟩ rfl ?_
  refine zw_getR (b + 2) ⟨rfl, rfl⟩ (hb.2.2.1) ?_
  refine zw_const ⟨rfl, rfl⟩ ?_
  refine zw_const ⟨rfl, rfl⟩ ?_
  refine zw_copy ⟨rfl, rfl⟩ hd.2.2.2.2.2.2.1 hb.2.2.2.2.2.2.1 (by omega) (by exact ⟨by omega, by decide⟩) ?_
  refine zw_aload ⟨rfl, rfl⟩ rfl ?_
  refine zw_getR (d + 3) ⟨rfl, rfl⟩ (hd.2.2.2.1) ?_
  refine zw_const ⟨rfl, rfl⟩ ?_
  refine zw_aload ⟨rfl, rfl⟩ rfl ?_
  refine zw_getR (b + 3) ⟨rfl, rfl⟩ (hb.2.2.2.1) ?_
  refine zw_const ⟨rfl, rfl⟩ ?_
  refine zw_const ⟨rfl, rfl⟩ ?_
  refine zw_copy ⟨rfl, rfl⟩ hd.2.2.2.2.2.2.2.1 hb.2.2.2.2.2.2.2.1 (by omega) (by exact ⟨by omega, by decide⟩) ?_
  refine zw_aload ⟨rfl, rfl⟩ rfl ?_
  refine zw_getR (d + 4) ⟨rfl, rfl⟩ (hd.2.2.2.2.1) ?_
  refine zw_const ⟨rfl, rfl⟩ ?_
  refine zw_aload ⟨rfl, rfl⟩ rfl ?_
  refine zw_getR (b + 4) ⟨rfl, rfl⟩ (hb.2.2.2.2.1) ?_
  refine zw_const ⟨rfl, rfl⟩ ?_
  refine zw_const ⟨rfl, rfl⟩ ?_
  refine zw_copy ⟨rfl, rfl⟩ hd.2.2.2.2.2.2.2.2 hb.2.2.2.2.2.2.2.2 (by omega) (by exact ⟨by omega, by decide⟩) ?_
  refine zw_aload ⟨rfl, rfl⟩ rfl ?_
  refine zw_aload ⟨rfl, rfl⟩ rfl ?_
  refine zw_getI ⟨rfl, rfl⟩ hd.1 (by decide) ?_
  refine zw_putI ⟨rfl, rfl⟩ hb.1 (by decide) (fun h => absurd h (by decide)) ?_
  refine zw_aload ⟨rfl, rfl⟩ rfl ?_
  refine zw_aload ⟨rfl, rfl⟩ rfl ?_
  refine zw_getI ⟨rfl, rfl⟩ hd.1 (by decide) ?_
  refine zw_putI ⟨rfl, rfl⟩ hb.1 (by decide) (fun h => absurd h (by decide)) ?_
  refine zw_aload ⟨rfl, rfl⟩ rfl ?_
  refine zw_aload ⟨rfl, rfl⟩ rfl ?_
  refine zw_getI ⟨rfl, rfl⟩ hd.1 (by decide) ?_
  refine zw_putI ⟨rfl, rfl⟩ hb.1 (by decide) (fun h => absurd h (by decide)) ?_
  refine zw_aload ⟨rfl, rfl⟩ rfl ?_
  refine zw_aload ⟨rfl, rfl⟩ rfl ?_
  refine zw_getI ⟨rfl, rfl⟩ hd.1 (by decide) ?_
  refine zw_putI ⟨rfl, rfl⟩ hb.1 (by decide) (fun h => absurd h (by decide)) ?_
  refine zw_void rfl ?_
  refine k _ (ysc_post hn ?_)
  rw [zcpy_na (by omega), zcpy_na (by omega), zcpy_na (by omega), zcpy_na (by omega), zup_na (by omega), zcpy_na (by omega), zcpy_na (by omega), zcpy_na (by omega), zcpy_na (by omega), zup_na (by omega), zup_na (by omega), zcpy_na (by omega), zcpy_na (by omega), zcpy_na (by omega), zcpy_na (by omega), zup_na (by omega), zup_na (by omega), zup_na (by omega), zcpy_na (by omega), zcpy_na (by omega), zcpy_na (by omega), zcpy_na (by omega)]
