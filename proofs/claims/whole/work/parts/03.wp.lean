/-- the shapes of the cells, once both objects are made -/
def zS0 : List zSh := [(0,0,[1,-1,-1,-1,2,9,81,98,105,120,126,138,140,144]),
 (1,400,[]),
 (0,10,[3,8,-1]),
 (0,9,[4,5,6,7,-1,-1,-1,-1]),
 (1,26,[]),
 (1,26,[]),
 (1,26,[]),
 (1,26,[]),
 (1,60,[]),
 (0,4,[-1,10]),
 (5,10,[10]),
 (0,10,[12,17,-1]),
 (0,9,[13,14,15,16,-1,-1,-1,-1]),
 (1,26,[]),
 (1,26,[]),
 (1,26,[]),
 (1,26,[]),
 (1,60,[]),
 (0,10,[19,24,-1]),
 (0,9,[20,21,22,23,-1,-1,-1,-1]),
 (1,26,[]),
 (1,26,[]),
 (1,26,[]),
 (1,26,[]),
 (1,60,[]),
 (0,10,[26,31,-1]),
 (0,9,[27,28,29,30,-1,-1,-1,-1]),
 (1,26,[]),
 (1,26,[]),
 (1,26,[]),
 (1,26,[]),
 (1,60,[]),
 (0,10,[33,38,-1]),
 (0,9,[34,35,36,37,-1,-1,-1,-1]),
 (1,26,[]),
 (1,26,[]),
 (1,26,[]),
 (1,26,[]),
 (1,60,[]),
 (0,10,[40,45,-1]),
 (0,9,[41,42,43,44,-1,-1,-1,-1]),
 (1,26,[]),
 (1,26,[]),
 (1,26,[]),
 (1,26,[]),
 (1,60,[]),
 (0,10,[47,52,-1]),
 (0,9,[48,49,50,51,-1,-1,-1,-1]),
 (1,26,[]),
 (1,26,[]),
 (1,26,[]),
 (1,26,[]),
 (1,60,[]),
 (0,10,[54,59,-1]),
 (0,9,[55,56,57,58,-1,-1,-1,-1]),
 (1,26,[]),
 (1,26,[]),
 (1,26,[]),
 (1,26,[]),
 (1,60,[]),
 (0,10,[61,66,-1]),
 (0,9,[62,63,64,65,-1,-1,-1,-1]),
 (1,26,[]),
 (1,26,[]),
 (1,26,[]),
 (1,26,[]),
 (1,60,[]),
 (0,10,[68,73,-1]),
 (0,9,[69,70,71,72,-1,-1,-1,-1]),
 (1,26,[]),
 (1,26,[]),
 (1,26,[]),
 (1,26,[]),
 (1,60,[]),
 (0,10,[75,80,-1]),
 (0,9,[76,77,78,79,-1,-1,-1,-1]),
 (1,26,[]),
 (1,26,[]),
 (1,26,[]),
 (1,26,[]),
 (1,60,[]),
 (0,6,[82,83]),
 (5,2,[10]),
 (3,2,[]),
 (0,10,[85,90,-1]),
 (0,9,[86,87,88,89,-1,-1,-1,-1]),
 (1,26,[]),
 (1,26,[]),
 (1,26,[]),
 (1,26,[]),
 (1,60,[]),
 (0,10,[92,97,-1]),
 (0,9,[93,94,95,96,-1,-1,-1,-1]),
 (1,26,[]),
 (1,26,[]),
 (1,26,[]),
 (1,26,[]),
 (1,60,[]),
 (0,8,[99,-1,-1,104,-1,-1,-1]),
 (0,9,[100,101,102,103,-1,-1,-1,-1]),
 (1,26,[]),
 (1,26,[]),
 (1,26,[]),
 (1,26,[]),
 (1,400,[]),
 (0,2,[-1,-1,106,107,108]),
 (1,60,[]),
 (1,60,[]),
 (4,11,[109]),
 (1,60,[]),
 (1,60,[]),
 (1,60,[]),
 (1,60,[]),
 (1,60,[]),
 (1,60,[]),
 (1,60,[]),
 (1,60,[]),
 (1,60,[]),
 (1,60,[]),
 (1,60,[]),
 (0,1,[-1,-1,-1,-1,-1,-1,-1,-1,-1,-1,121,122,123,124,125]),
 (1,60,[]),
 (1,60,[]),
 (1,60,[]),
 (1,60,[]),
 (3,60,[]),
 (0,3,[-1,127,135,136,137,2,105,120,-1]),
 (4,7,[128]),
 (1,180,[]),
 (1,180,[]),
 (1,180,[]),
 (1,180,[]),
 (1,180,[]),
 (1,180,[]),
 (1,180,[]),
 (1,60,[]),
 (1,61,[]),
 (1,61,[]),
 (0,7,[-1,139,2,105]),
 (1,120,[]),
 (0,11,[-1,141,142,143]),
 (1,61,[]),
 (1,61,[]),
 (1,61,[]),
 (0,5,[-1,145,146]),
 (1,60,[]),
 (4,61,[147]),
 (1,10,[]),
 (1,10,[]),
 (1,10,[]),
 (1,10,[]),
 (1,10,[]),
 (1,10,[]),
 (1,10,[]),
 (1,10,[]),
 (1,10,[]),
 (1,10,[]),
 (1,10,[]),
 (1,10,[]),
 (1,10,[]),
 (1,10,[]),
 (1,10,[]),
 (1,10,[]),
 (1,10,[]),
 (1,10,[]),
 (1,10,[]),
 (1,10,[]),
 (1,10,[]),
 (1,10,[]),
 (1,10,[]),
 (1,10,[]),
 (1,10,[]),
 (1,10,[]),
 (1,10,[]),
 (1,10,[]),
 (1,10,[]),
 (1,10,[]),
 (1,10,[]),
 (1,10,[]),
 (1,10,[]),
 (1,10,[]),
 (1,10,[]),
 (1,10,[]),
 (1,10,[]),
 (1,10,[]),
 (1,10,[]),
 (1,10,[]),
 (1,10,[]),
 (1,10,[]),
 (1,10,[]),
 (1,10,[]),
 (1,10,[]),
 (1,10,[]),
 (1,10,[]),
 (1,10,[]),
 (1,10,[]),
 (1,10,[]),
 (1,10,[]),
 (1,10,[]),
 (1,10,[]),
 (1,10,[]),
 (1,10,[]),
 (1,10,[]),
 (1,10,[]),
 (1,10,[]),
 (1,10,[]),
 (1,10,[]),
 (1,10,[]),
 (0,12,[-1,209,210,-1,211,212,213,214,215,216,217,218,219,220,221,-1,222,223,224,225,226,-1,-1,227,228,229,230,231,232,233,234,-1,235,-1,236,-1,-1,-1,-1,-1,237,-1,238,-1,239,240,-1,241,242,243,-1]),
 (1,546,[]),
 (1,1820,[]),
 (3,2,[]),
 (1,61,[]),
 (1,60,[]),
 (1,60,[]),
 (1,60,[]),
 (1,60,[]),
 (1,60,[]),
 (1,60,[]),
 (1,60,[]),
 (1,60,[]),
 (1,61,[]),
 (1,60,[]),
 (1,60,[]),
 (1,60,[]),
 (1,60,[]),
 (3,60,[]),
 (1,180,[]),
 (1,180,[]),
 (1,180,[]),
 (1,180,[]),
 (1,180,[]),
 (1,180,[]),
 (1,180,[]),
 (1,60,[]),
 (1,120,[]),
 (2,400,[]),
 (1,122,[]),
 (2,111,[]),
 (1,549,[]),
 (1,60,[]),
 (1,60,[]),
 (1,61,[]),
 (1,61,[])]
def zcls (S : List zSh) (b : Int) : Option Int := match zsh S b with
  | some (0, c, _) => some (c : Int)
  | _ => none
def zref (S : List zSh) (b : Int) (cl s : Int) : Option Int := match zsh S b with
  | some (0, c, rs) => if (c : Int) = cl ∧ 0 ≤ rs.getD s.toNat (-1) then some (rs.getD s.toNat (-1)) else none
  | _ => none
def zar (S : List zSh) (b : Int) : Option (Nat × Nat) := match zsh S b with
  | some (t, n, _) => if t = 0 then none else some (t, n)
  | none => none
def zrow (S : List zSh) (b : Int) : Option (Nat × Int) := match zsh S b with
  | some (4, n, rs) => some (n, rs.getD 0 0)
  | _ => none
theorem zcls_of {S : List zSh} {b cl : Int} (h : zcls S b = some cl) : ∃ (c : Nat) (rs : List Int), zsh S b = some (0, c, rs) ∧ (c : Int) = cl := by
  unfold zcls at h
  split at h
  · rename_i c rs hs
    exact ⟨c, rs, hs, by simpa using h⟩
  · cases h
theorem zref_of {S : List zSh} {b cl s v : Int} (h : zref S b cl s = some v) : ∃ (c : Nat) (rs : List Int), zsh S b = some (0, c, rs) ∧ (c : Int) = cl ∧ rs.getD s.toNat (-1) = v ∧ 0 ≤ v := by
  unfold zref at h
  split at h
  · rename_i c rs hs
    split at h
    · rename_i hc
      have e : rs.getD s.toNat (-1) = v := by simpa using h
      exact ⟨c, rs, hs, hc.1, e, by rw [← e]; exact hc.2⟩
    · cases h
  · cases h
theorem zar_of {S : List zSh} {b : Int} {t n : Nat} (h : zar S b = some (t, n)) : ∃ rs : List Int, zsh S b = some (t, n, rs) ∧ t ≠ 0 := by
  unfold zar at h
  split at h
  · rename_i t' n' rs hs
    split at h
    · cases h
    · rename_i h0
      cases h
      exact ⟨rs, hs, h0⟩
  · cases h
theorem zrow_of {S : List zSh} {b r : Int} {n : Nat} (h : zrow S b = some (n, r)) : ∃ rs : List Int, zsh S b = some (4, n, rs) ∧ rs.getD 0 0 = r := by
  unfold zrow at h
  split at h
  · rename_i n' rs hs
    cases h
    exact ⟨rs, hs, rfl⟩
  · cases h
theorem zup_eq (M : zM) (a i v : Int) : zup M a i v a i = v := if_pos ⟨rfl, rfl⟩
theorem zup_ne {M : zM} {a i v b j : Int} (h : b ≠ a ∨ j ≠ i) : zup M a i v b j = M b j := if_neg (fun q => h.elim (fun z => z q.1) (fun z => z q.2))
theorem zup_na {M : zM} {a i v b j : Int} (h : b ≠ a) : zup M a i v b j = M b j := if_neg (fun q => h q.1)
theorem zup_ni {M : zM} {a i v b j : Int} (h : j ≠ i) : zup M a i v b j = M b j := if_neg (fun q => h q.2)
/-- from here the machine comes to an end of which Q holds -/
def zWp (c : List zIn) (i : Nat) (ls st : List zV) (M : zM) (Q : zV → zM → Prop) : Prop := ∃ (n : Nat) (v : zV) (M' : zM), zrun zPt n c i ls st zS0 M = some (v, zS0, M') ∧ Q v M'
abbrev zFe (c : List zIn) (i j op : Nat) (a : List Int) : Prop := c[i]? = some (op, a) ∧ i + 1 = j
theorem zWp.mono {c : List zIn} {i : Nat} {ls st : List zV} {M : zM} {Q Q' : zV → zM → Prop} (h : zWp c i ls st M Q) (hq : ∀ v M', Q v M' → Q' v M') : zWp c i ls st M Q' := by
  obtain ⟨n, v, M', h1, h2⟩ := h
  exact ⟨n, v, M', h1, hq _ _ h2⟩
theorem zs_40 (a : List Int) (i : Nat) (ls st : List zV) (S : List zSh) (M : zM) : zstep (40, a) [] i ls st S M = zo_getf a i ls st S M := rfl
theorem zs_41 (a : List Int) (i : Nat) (ls st : List zV) (S : List zSh) (M : zM) : zstep (41, a) [] i ls st S M = zo_putf a i ls st S M := rfl
theorem zs_42 (a : List Int) (i : Nat) (ls st : List zV) (S : List zSh) (M : zM) : zstep (42, a) [] i ls st S M = zo_iald a i ls st S M := rfl
theorem zs_43 (a : List Int) (i : Nat) (ls st : List zV) (S : List zSh) (M : zM) : zstep (43, a) [] i ls st S M = zo_bald a i ls st S M := rfl
theorem zs_44 (a : List Int) (i : Nat) (ls st : List zV) (S : List zSh) (M : zM) : zstep (44, a) [] i ls st S M = zo_aald a i ls st S M := rfl
theorem zs_45 (a : List Int) (i : Nat) (ls st : List zV) (S : List zSh) (M : zM) : zstep (45, a) [] i ls st S M = zo_iast a i ls st S M := rfl
theorem zs_46 (a : List Int) (i : Nat) (ls st : List zV) (S : List zSh) (M : zM) : zstep (46, a) [] i ls st S M = zo_bast a i ls st S M := rfl
theorem zs_47 (a : List Int) (i : Nat) (ls st : List zV) (S : List zSh) (M : zM) : zstep (47, a) [] i ls st S M = zo_aast a i ls st S M := rfl
theorem zs_48 (a : List Int) (i : Nat) (ls st : List zV) (S : List zSh) (M : zM) : zstep (48, a) [] i ls st S M = zo_alen a i ls st S M := rfl
theorem zs_54 (a : List Int) (i : Nat) (ls st : List zV) (S : List zSh) (M : zM) : zstep (54, a) [] i ls st S M = zo_copy a i ls st S M := rfl
theorem zs_5 (a : List Int) (i : Nat) (ls st : List zV) (S : List zSh) (M : zM) : zstep (5, a) [] i ls st S M = zo_store zisI a i ls st S M := rfl
theorem zs_6 (a : List Int) (i : Nat) (ls st : List zV) (S : List zSh) (M : zM) : zstep (6, a) [] i ls st S M = zo_store zisA a i ls st S M := rfl
section ZW
variable {c : List zIn} {i j : Nat} {ls st r : List zV} {M : zM} {Q : zV → zM → Prop} {a : List Int}
theorem zw_step {op : Nat} {j : Nat} {ls' st' : List zV} {M' : zM} (hc : c[i]? = some (op, a)) (h60 : op < 60) (hs : zstep (op, a) [] i ls st zS0 M = some (j, ls', st', zS0, M')) (k : zWp c j ls' st' M' Q) : zWp c i ls st M Q := by
  obtain ⟨n, v, M2, h1, h2⟩ := k
  exact ⟨n + 1, v, M2, by rw [zrun_step (q := (op, a)) hc h60 hs]; exact h1, h2⟩
theorem zw_const {v : Int} (h : zFe c i j 0 (v :: a)) (k : zWp c j ls ((0, v) :: st) M Q) : zWp c i ls st M Q := zw_step h.1 (by decide) (by rw [← h.2]; rfl) k
theorem zw_lconst {v : Int} (h : zFe c i j 1 (v :: a)) (k : zWp c j ls ((2, v) :: st) M Q) : zWp c i ls st M Q := zw_step h.1 (by decide) (by rw [← h.2]; rfl) k
theorem zw_iload {v x : Int} (h : zFe c i j 2 (v :: a)) (hl : ls[v.toNat]? = some (0, x)) (k : zWp c j ls ((0, x) :: st) M Q) : zWp c i ls st M Q := zw_step h.1 (by decide) (by rw [← h.2]; show zo_load zisI (v :: a) i ls st zS0 M = _; unfold zo_load; rw [show zarg (v :: a) 0 = v from rfl, hl]; rfl) k
theorem zw_aload {v x : Int} (h : zFe c i j 3 (v :: a)) (hl : ls[v.toNat]? = some (1, x)) (k : zWp c j ls ((1, x) :: st) M Q) : zWp c i ls st M Q := zw_step h.1 (by decide) (by rw [← h.2]; show zo_load zisA (v :: a) i ls st zS0 M = _; unfold zo_load; rw [show zarg (v :: a) 0 = v from rfl, hl]; rfl) k
theorem zw_tload {v x : Int} (h : zFe c i j 3 (v :: a)) (hl : ls[v.toNat]? = some (4, x)) (k : zWp c j ls ((4, x) :: st) M Q) : zWp c i ls st M Q := zw_step h.1 (by decide) (by rw [← h.2]; show zo_load zisA (v :: a) i ls st zS0 M = _; unfold zo_load; rw [show zarg (v :: a) 0 = v from rfl, hl]; rfl) k
theorem zw_lload {v x : Int} (h : zFe c i j 4 (v :: a)) (hl : ls[v.toNat]? = some (2, x)) (k : zWp c j ls ((2, x) :: st) M Q) : zWp c i ls st M Q := zw_step h.1 (by decide) (by rw [← h.2]; show zo_load zisL (v :: a) i ls st zS0 M = _; unfold zo_load; rw [show zarg (v :: a) 0 = v from rfl, hl]; rfl) k
theorem zw_istore_0 {x : Int} {v0 : zV} (h : zFe c i j 5 (0 :: a)) (k : zWp c j ((0, x) :: r) st M Q) : zWp c i (v0 :: r) ((0, x) :: st) M Q := zw_step h.1 (by decide) (by rw [← h.2, zs_5]; unfold zo_store; dsimp only; rw [if_pos ⟨rfl, by simp [zarg]⟩]; rfl) k
theorem zw_astore_0 {x : Int} {v0 : zV} (h : zFe c i j 6 (0 :: a)) (k : zWp c j ((1, x) :: r) st M Q) : zWp c i (v0 :: r) ((1, x) :: st) M Q := zw_step h.1 (by decide) (by rw [← h.2, zs_6]; unfold zo_store; dsimp only; rw [if_pos ⟨rfl, by simp [zarg]⟩]; rfl) k
theorem zw_iinc_0 {x d : Int} (h : zFe c i j 7 [0, d]) (hb : -2147483648 ≤ x + d ∧ x + d ≤ 2147483647) (k : zWp c j ((0, x + d) :: r) st M Q) : zWp c i ((0, x) :: r) st M Q := zw_step h.1 (by decide) (by rw [← h.2]; exact if_pos ⟨rfl, hb⟩) k
theorem zw_istore_1 {x : Int} {v0 v1 : zV} (h : zFe c i j 5 (1 :: a)) (k : zWp c j (v0 :: (0, x) :: r) st M Q) : zWp c i (v0 :: v1 :: r) ((0, x) :: st) M Q := zw_step h.1 (by decide) (by rw [← h.2, zs_5]; unfold zo_store; dsimp only; rw [if_pos ⟨rfl, by simp [zarg]⟩]; rfl) k
theorem zw_astore_1 {x : Int} {v0 v1 : zV} (h : zFe c i j 6 (1 :: a)) (k : zWp c j (v0 :: (1, x) :: r) st M Q) : zWp c i (v0 :: v1 :: r) ((1, x) :: st) M Q := zw_step h.1 (by decide) (by rw [← h.2, zs_6]; unfold zo_store; dsimp only; rw [if_pos ⟨rfl, by simp [zarg]⟩]; rfl) k
theorem zw_iinc_1 {x d : Int} {v0 : zV} (h : zFe c i j 7 [1, d]) (hb : -2147483648 ≤ x + d ∧ x + d ≤ 2147483647) (k : zWp c j (v0 :: (0, x + d) :: r) st M Q) : zWp c i (v0 :: (0, x) :: r) st M Q := zw_step h.1 (by decide) (by rw [← h.2]; exact if_pos ⟨rfl, hb⟩) k
theorem zw_istore_2 {x : Int} {v0 v1 v2 : zV} (h : zFe c i j 5 (2 :: a)) (k : zWp c j (v0 :: v1 :: (0, x) :: r) st M Q) : zWp c i (v0 :: v1 :: v2 :: r) ((0, x) :: st) M Q := zw_step h.1 (by decide) (by rw [← h.2, zs_5]; unfold zo_store; dsimp only; rw [if_pos ⟨rfl, by simp [zarg]⟩]; rfl) k
theorem zw_astore_2 {x : Int} {v0 v1 v2 : zV} (h : zFe c i j 6 (2 :: a)) (k : zWp c j (v0 :: v1 :: (1, x) :: r) st M Q) : zWp c i (v0 :: v1 :: v2 :: r) ((1, x) :: st) M Q := zw_step h.1 (by decide) (by rw [← h.2, zs_6]; unfold zo_store; dsimp only; rw [if_pos ⟨rfl, by simp [zarg]⟩]; rfl) k
theorem zw_iinc_2 {x d : Int} {v0 v1 : zV} (h : zFe c i j 7 [2, d]) (hb : -2147483648 ≤ x + d ∧ x + d ≤ 2147483647) (k : zWp c j (v0 :: v1 :: (0, x + d) :: r) st M Q) : zWp c i (v0 :: v1 :: (0, x) :: r) st M Q := zw_step h.1 (by decide) (by rw [← h.2]; exact if_pos ⟨rfl, hb⟩) k
theorem zw_istore_3 {x : Int} {v0 v1 v2 v3 : zV} (h : zFe c i j 5 (3 :: a)) (k : zWp c j (v0 :: v1 :: v2 :: (0, x) :: r) st M Q) : zWp c i (v0 :: v1 :: v2 :: v3 :: r) ((0, x) :: st) M Q := zw_step h.1 (by decide) (by rw [← h.2, zs_5]; unfold zo_store; dsimp only; rw [if_pos ⟨rfl, by simp [zarg]⟩]; rfl) k
theorem zw_astore_3 {x : Int} {v0 v1 v2 v3 : zV} (h : zFe c i j 6 (3 :: a)) (k : zWp c j (v0 :: v1 :: v2 :: (1, x) :: r) st M Q) : zWp c i (v0 :: v1 :: v2 :: v3 :: r) ((1, x) :: st) M Q := zw_step h.1 (by decide) (by rw [← h.2, zs_6]; unfold zo_store; dsimp only; rw [if_pos ⟨rfl, by simp [zarg]⟩]; rfl) k
theorem zw_iinc_3 {x d : Int} {v0 v1 v2 : zV} (h : zFe c i j 7 [3, d]) (hb : -2147483648 ≤ x + d ∧ x + d ≤ 2147483647) (k : zWp c j (v0 :: v1 :: v2 :: (0, x + d) :: r) st M Q) : zWp c i (v0 :: v1 :: v2 :: (0, x) :: r) st M Q := zw_step h.1 (by decide) (by rw [← h.2]; exact if_pos ⟨rfl, hb⟩) k
theorem zw_istore_4 {x : Int} {v0 v1 v2 v3 v4 : zV} (h : zFe c i j 5 (4 :: a)) (k : zWp c j (v0 :: v1 :: v2 :: v3 :: (0, x) :: r) st M Q) : zWp c i (v0 :: v1 :: v2 :: v3 :: v4 :: r) ((0, x) :: st) M Q := zw_step h.1 (by decide) (by rw [← h.2, zs_5]; unfold zo_store; dsimp only; rw [if_pos ⟨rfl, by simp [zarg]⟩]; rfl) k
theorem zw_astore_4 {x : Int} {v0 v1 v2 v3 v4 : zV} (h : zFe c i j 6 (4 :: a)) (k : zWp c j (v0 :: v1 :: v2 :: v3 :: (1, x) :: r) st M Q) : zWp c i (v0 :: v1 :: v2 :: v3 :: v4 :: r) ((1, x) :: st) M Q := zw_step h.1 (by decide) (by rw [← h.2, zs_6]; unfold zo_store; dsimp only; rw [if_pos ⟨rfl, by simp [zarg]⟩]; rfl) k
theorem zw_iinc_4 {x d : Int} {v0 v1 v2 v3 : zV} (h : zFe c i j 7 [4, d]) (hb : -2147483648 ≤ x + d ∧ x + d ≤ 2147483647) (k : zWp c j (v0 :: v1 :: v2 :: v3 :: (0, x + d) :: r) st M Q) : zWp c i (v0 :: v1 :: v2 :: v3 :: (0, x) :: r) st M Q := zw_step h.1 (by decide) (by rw [← h.2]; exact if_pos ⟨rfl, hb⟩) k
theorem zw_istore_5 {x : Int} {v0 v1 v2 v3 v4 v5 : zV} (h : zFe c i j 5 (5 :: a)) (k : zWp c j (v0 :: v1 :: v2 :: v3 :: v4 :: (0, x) :: r) st M Q) : zWp c i (v0 :: v1 :: v2 :: v3 :: v4 :: v5 :: r) ((0, x) :: st) M Q := zw_step h.1 (by decide) (by rw [← h.2, zs_5]; unfold zo_store; dsimp only; rw [if_pos ⟨rfl, by simp [zarg]⟩]; rfl) k
theorem zw_astore_5 {x : Int} {v0 v1 v2 v3 v4 v5 : zV} (h : zFe c i j 6 (5 :: a)) (k : zWp c j (v0 :: v1 :: v2 :: v3 :: v4 :: (1, x) :: r) st M Q) : zWp c i (v0 :: v1 :: v2 :: v3 :: v4 :: v5 :: r) ((1, x) :: st) M Q := zw_step h.1 (by decide) (by rw [← h.2, zs_6]; unfold zo_store; dsimp only; rw [if_pos ⟨rfl, by simp [zarg]⟩]; rfl) k
theorem zw_iinc_5 {x d : Int} {v0 v1 v2 v3 v4 : zV} (h : zFe c i j 7 [5, d]) (hb : -2147483648 ≤ x + d ∧ x + d ≤ 2147483647) (k : zWp c j (v0 :: v1 :: v2 :: v3 :: v4 :: (0, x + d) :: r) st M Q) : zWp c i (v0 :: v1 :: v2 :: v3 :: v4 :: (0, x) :: r) st M Q := zw_step h.1 (by decide) (by rw [← h.2]; exact if_pos ⟨rfl, hb⟩) k
theorem zw_istore_6 {x : Int} {v0 v1 v2 v3 v4 v5 v6 : zV} (h : zFe c i j 5 (6 :: a)) (k : zWp c j (v0 :: v1 :: v2 :: v3 :: v4 :: v5 :: (0, x) :: r) st M Q) : zWp c i (v0 :: v1 :: v2 :: v3 :: v4 :: v5 :: v6 :: r) ((0, x) :: st) M Q := zw_step h.1 (by decide) (by rw [← h.2, zs_5]; unfold zo_store; dsimp only; rw [if_pos ⟨rfl, by simp [zarg]⟩]; rfl) k
theorem zw_astore_6 {x : Int} {v0 v1 v2 v3 v4 v5 v6 : zV} (h : zFe c i j 6 (6 :: a)) (k : zWp c j (v0 :: v1 :: v2 :: v3 :: v4 :: v5 :: (1, x) :: r) st M Q) : zWp c i (v0 :: v1 :: v2 :: v3 :: v4 :: v5 :: v6 :: r) ((1, x) :: st) M Q := zw_step h.1 (by decide) (by rw [← h.2, zs_6]; unfold zo_store; dsimp only; rw [if_pos ⟨rfl, by simp [zarg]⟩]; rfl) k
theorem zw_iinc_6 {x d : Int} {v0 v1 v2 v3 v4 v5 : zV} (h : zFe c i j 7 [6, d]) (hb : -2147483648 ≤ x + d ∧ x + d ≤ 2147483647) (k : zWp c j (v0 :: v1 :: v2 :: v3 :: v4 :: v5 :: (0, x + d) :: r) st M Q) : zWp c i (v0 :: v1 :: v2 :: v3 :: v4 :: v5 :: (0, x) :: r) st M Q := zw_step h.1 (by decide) (by rw [← h.2]; exact if_pos ⟨rfl, hb⟩) k
theorem zw_istore_7 {x : Int} {v0 v1 v2 v3 v4 v5 v6 v7 : zV} (h : zFe c i j 5 (7 :: a)) (k : zWp c j (v0 :: v1 :: v2 :: v3 :: v4 :: v5 :: v6 :: (0, x) :: r) st M Q) : zWp c i (v0 :: v1 :: v2 :: v3 :: v4 :: v5 :: v6 :: v7 :: r) ((0, x) :: st) M Q := zw_step h.1 (by decide) (by rw [← h.2, zs_5]; unfold zo_store; dsimp only; rw [if_pos ⟨rfl, by simp [zarg]⟩]; rfl) k
theorem zw_astore_7 {x : Int} {v0 v1 v2 v3 v4 v5 v6 v7 : zV} (h : zFe c i j 6 (7 :: a)) (k : zWp c j (v0 :: v1 :: v2 :: v3 :: v4 :: v5 :: v6 :: (1, x) :: r) st M Q) : zWp c i (v0 :: v1 :: v2 :: v3 :: v4 :: v5 :: v6 :: v7 :: r) ((1, x) :: st) M Q := zw_step h.1 (by decide) (by rw [← h.2, zs_6]; unfold zo_store; dsimp only; rw [if_pos ⟨rfl, by simp [zarg]⟩]; rfl) k
theorem zw_iinc_7 {x d : Int} {v0 v1 v2 v3 v4 v5 v6 : zV} (h : zFe c i j 7 [7, d]) (hb : -2147483648 ≤ x + d ∧ x + d ≤ 2147483647) (k : zWp c j (v0 :: v1 :: v2 :: v3 :: v4 :: v5 :: v6 :: (0, x + d) :: r) st M Q) : zWp c i (v0 :: v1 :: v2 :: v3 :: v4 :: v5 :: v6 :: (0, x) :: r) st M Q := zw_step h.1 (by decide) (by rw [← h.2]; exact if_pos ⟨rfl, hb⟩) k
theorem zw_istore_8 {x : Int} {v0 v1 v2 v3 v4 v5 v6 v7 v8 : zV} (h : zFe c i j 5 (8 :: a)) (k : zWp c j (v0 :: v1 :: v2 :: v3 :: v4 :: v5 :: v6 :: v7 :: (0, x) :: r) st M Q) : zWp c i (v0 :: v1 :: v2 :: v3 :: v4 :: v5 :: v6 :: v7 :: v8 :: r) ((0, x) :: st) M Q := zw_step h.1 (by decide) (by rw [← h.2, zs_5]; unfold zo_store; dsimp only; rw [if_pos ⟨rfl, by simp [zarg]⟩]; rfl) k
theorem zw_astore_8 {x : Int} {v0 v1 v2 v3 v4 v5 v6 v7 v8 : zV} (h : zFe c i j 6 (8 :: a)) (k : zWp c j (v0 :: v1 :: v2 :: v3 :: v4 :: v5 :: v6 :: v7 :: (1, x) :: r) st M Q) : zWp c i (v0 :: v1 :: v2 :: v3 :: v4 :: v5 :: v6 :: v7 :: v8 :: r) ((1, x) :: st) M Q := zw_step h.1 (by decide) (by rw [← h.2, zs_6]; unfold zo_store; dsimp only; rw [if_pos ⟨rfl, by simp [zarg]⟩]; rfl) k
theorem zw_iinc_8 {x d : Int} {v0 v1 v2 v3 v4 v5 v6 v7 : zV} (h : zFe c i j 7 [8, d]) (hb : -2147483648 ≤ x + d ∧ x + d ≤ 2147483647) (k : zWp c j (v0 :: v1 :: v2 :: v3 :: v4 :: v5 :: v6 :: v7 :: (0, x + d) :: r) st M Q) : zWp c i (v0 :: v1 :: v2 :: v3 :: v4 :: v5 :: v6 :: v7 :: (0, x) :: r) st M Q := zw_step h.1 (by decide) (by rw [← h.2]; exact if_pos ⟨rfl, hb⟩) k
theorem zw_istore_9 {x : Int} {v0 v1 v2 v3 v4 v5 v6 v7 v8 v9 : zV} (h : zFe c i j 5 (9 :: a)) (k : zWp c j (v0 :: v1 :: v2 :: v3 :: v4 :: v5 :: v6 :: v7 :: v8 :: (0, x) :: r) st M Q) : zWp c i (v0 :: v1 :: v2 :: v3 :: v4 :: v5 :: v6 :: v7 :: v8 :: v9 :: r) ((0, x) :: st) M Q := zw_step h.1 (by decide) (by rw [← h.2, zs_5]; unfold zo_store; dsimp only; rw [if_pos ⟨rfl, by simp [zarg]⟩]; rfl) k
theorem zw_astore_9 {x : Int} {v0 v1 v2 v3 v4 v5 v6 v7 v8 v9 : zV} (h : zFe c i j 6 (9 :: a)) (k : zWp c j (v0 :: v1 :: v2 :: v3 :: v4 :: v5 :: v6 :: v7 :: v8 :: (1, x) :: r) st M Q) : zWp c i (v0 :: v1 :: v2 :: v3 :: v4 :: v5 :: v6 :: v7 :: v8 :: v9 :: r) ((1, x) :: st) M Q := zw_step h.1 (by decide) (by rw [← h.2, zs_6]; unfold zo_store; dsimp only; rw [if_pos ⟨rfl, by simp [zarg]⟩]; rfl) k
theorem zw_iinc_9 {x d : Int} {v0 v1 v2 v3 v4 v5 v6 v7 v8 : zV} (h : zFe c i j 7 [9, d]) (hb : -2147483648 ≤ x + d ∧ x + d ≤ 2147483647) (k : zWp c j (v0 :: v1 :: v2 :: v3 :: v4 :: v5 :: v6 :: v7 :: v8 :: (0, x + d) :: r) st M Q) : zWp c i (v0 :: v1 :: v2 :: v3 :: v4 :: v5 :: v6 :: v7 :: v8 :: (0, x) :: r) st M Q := zw_step h.1 (by decide) (by rw [← h.2]; exact if_pos ⟨rfl, hb⟩) k
theorem zw_iadd {x y : Int} (h : zFe c i j 8 a) (hb : -2147483648 ≤ x + y ∧ x + y ≤ 2147483647) (k : zWp c j ls ((0, x + y) :: st) M Q) : zWp c i ls ((0, y) :: (0, x) :: st) M Q := zw_step h.1 (by decide) (by rw [← h.2]; exact if_pos ⟨⟨rfl, rfl⟩, decide_eq_true hb⟩) k
theorem zw_isub {x y : Int} (h : zFe c i j 9 a) (hb : -2147483648 ≤ x - y ∧ x - y ≤ 2147483647) (k : zWp c j ls ((0, x - y) :: st) M Q) : zWp c i ls ((0, y) :: (0, x) :: st) M Q := zw_step h.1 (by decide) (by rw [← h.2]; exact if_pos ⟨⟨rfl, rfl⟩, decide_eq_true hb⟩) k
theorem zw_imul {x y : Int} (h : zFe c i j 10 a) (hb : -2147483648 ≤ x * y ∧ x * y ≤ 2147483647) (k : zWp c j ls ((0, x * y) :: st) M Q) : zWp c i ls ((0, y) :: (0, x) :: st) M Q := zw_step h.1 (by decide) (by rw [← h.2]; exact if_pos ⟨⟨rfl, rfl⟩, decide_eq_true hb⟩) k
theorem zw_irem {x y : Int} (h : zFe c i j 11 a) (hb : 0 ≤ x ∧ 0 < y) (k : zWp c j ls ((0, x % y) :: st) M Q) : zWp c i ls ((0, y) :: (0, x) :: st) M Q := zw_step h.1 (by decide) (by rw [← h.2]; exact if_pos ⟨⟨rfl, rfl⟩, decide_eq_true hb⟩) k
theorem zw_ishl {x y : Int} (h : zFe c i j 12 a) (hb : (0 ≤ y ∧ y < 32) ∧ -2147483648 ≤ x * 2 ^ y.toNat ∧ x * 2 ^ y.toNat ≤ 2147483647) (k : zWp c j ls ((0, x * 2 ^ y.toNat) :: st) M Q) : zWp c i ls ((0, y) :: (0, x) :: st) M Q := zw_step h.1 (by decide) (by rw [← h.2]; exact if_pos ⟨⟨rfl, rfl⟩, decide_eq_true hb⟩) k
theorem zw_ishr {x y : Int} (h : zFe c i j 13 a) (hb : 0 ≤ y ∧ y < 32) (k : zWp c j ls ((0, x / 2 ^ y.toNat) :: st) M Q) : zWp c i ls ((0, y) :: (0, x) :: st) M Q := zw_step h.1 (by decide) (by rw [← h.2]; exact if_pos ⟨⟨rfl, rfl⟩, decide_eq_true hb⟩) k
theorem zw_iushr {x y : Int} (h : zFe c i j 14 a) (hb : 0 ≤ y ∧ y < 32) (k : zWp c j ls ((0, zushr x y) :: st) M Q) : zWp c i ls ((0, y) :: (0, x) :: st) M Q := zw_step h.1 (by decide) (by rw [← h.2]; exact if_pos ⟨⟨rfl, rfl⟩, decide_eq_true hb⟩) k
theorem zw_iand {x y : Int} (h : zFe c i j 15 a) (hb : (y = 1 ∨ y = 63 ∨ y = 255) ∨ 0 ≤ x ∧ 0 ≤ y) (k : zWp c j ls ((0, zand x y) :: st) M Q) : zWp c i ls ((0, y) :: (0, x) :: st) M Q := zw_step h.1 (by decide) (by rw [← h.2]; exact if_pos ⟨⟨rfl, rfl⟩, decide_eq_true hb⟩) k
theorem zw_ior {x y : Int} (h : zFe c i j 16 a) (hb : 0 ≤ x ∧ 0 ≤ y) (k : zWp c j ls ((0, zor x y) :: st) M Q) : zWp c i ls ((0, y) :: (0, x) :: st) M Q := zw_step h.1 (by decide) (by rw [← h.2]; exact if_pos ⟨⟨rfl, rfl⟩, decide_eq_true hb⟩) k
theorem zw_min {x y : Int} (h : zFe c i j 55 a) (hn : st.length ≤ 4) (k : zWp c j ls ((0, if x ≤ y then x else y) :: st) M Q) : zWp c i ls ((0, y) :: (0, x) :: st) M Q := zw_step h.1 (by decide) (by rw [← h.2]; exact if_pos ⟨rfl, rfl, hn⟩) k
theorem zw_abs {x : Int} (h : zFe c i j 56 a) (hb : -2147483648 < x) (hn : st.length ≤ 4) (k : zWp c j ls ((0, if x < 0 then -x else x) :: st) M Q) : zWp c i ls ((0, x) :: st) M Q := zw_step h.1 (by decide) (by rw [← h.2]; exact if_pos ⟨rfl, hb, hn⟩) k
theorem zw_i2l {x : Int} (h : zFe c i j 17 a) (k : zWp c j ls ((2, x) :: st) M Q) : zWp c i ls ((0, x) :: st) M Q := zw_step h.1 (by decide) (by rw [← h.2]; rfl) k
theorem zw_i2b {x : Int} (h : zFe c i j 18 a) (k : zWp c j ls ((0, zbyte x) :: st) M Q) : zWp c i ls ((0, x) :: st) M Q := zw_step h.1 (by decide) (by rw [← h.2]; rfl) k
theorem zw_lcmp {x y : Int} (h : zFe c i j 19 a) (k : zWp c j ls ((0, zlc x y) :: st) M Q) : zWp c i ls ((2, y) :: (2, x) :: st) M Q := zw_step h.1 (by decide) (by rw [← h.2]; rfl) k
theorem zw_dup {t : Nat} {x : Int} (h : zFe c i j 20 a) (ht : t ≠ 2) (k : zWp c j ls ((t, x) :: (t, x) :: st) M Q) : zWp c i ls ((t, x) :: st) M Q := zw_step h.1 (by decide) (by rw [← h.2]; exact if_pos ht) k
theorem zw_pop {t : Nat} {x : Int} (h : zFe c i j 21 a) (ht : t ≠ 2) (k : zWp c j ls st M Q) : zWp c i ls ((t, x) :: st) M Q := zw_step h.1 (by decide) (by rw [← h.2]; exact if_pos ht) k
theorem zw_dup2 {t u : Nat} {x y : Int} (h : zFe c i j 22 a) (ht : t ≠ 2 ∧ u ≠ 2) (k : zWp c j ls ((t, x) :: (u, y) :: (t, x) :: (u, y) :: st) M Q) : zWp c i ls ((t, x) :: (u, y) :: st) M Q := zw_step h.1 (by decide) (by rw [← h.2]; exact if_pos ht) k
theorem zw_ifeq {x t : Int} {t' : Nat} (h : zFe c i j 23 (t :: a)) (ht : t.toNat = t') (k1 : x = 0 → zWp c t' ls st M Q) (k2 : ¬ (x = 0) → zWp c j ls st M Q) : zWp c i ls ((0, x) :: st) M Q := by
  by_cases q : x = 0
  · exact zw_step (M' := M) h.1 (by decide) (by rw [← ht]; show some (if decide (x = 0) = true then t.toNat else i + 1, ls, st, zS0, M) = _; rw [if_pos (decide_eq_true q)]) (k1 q)
  · exact zw_step (M' := M) h.1 (by decide) (by rw [← h.2]; show some (if decide (x = 0) = true then t.toNat else i + 1, ls, st, zS0, M) = _; rw [if_neg (fun z => q (of_decide_eq_true z))]) (k2 q)
theorem zw_ifne {x t : Int} {t' : Nat} (h : zFe c i j 24 (t :: a)) (ht : t.toNat = t') (k1 : x ≠ 0 → zWp c t' ls st M Q) (k2 : ¬ (x ≠ 0) → zWp c j ls st M Q) : zWp c i ls ((0, x) :: st) M Q := by
  by_cases q : x ≠ 0
  · exact zw_step (M' := M) h.1 (by decide) (by rw [← ht]; show some (if decide (x ≠ 0) = true then t.toNat else i + 1, ls, st, zS0, M) = _; rw [if_pos (decide_eq_true q)]) (k1 q)
  · exact zw_step (M' := M) h.1 (by decide) (by rw [← h.2]; show some (if decide (x ≠ 0) = true then t.toNat else i + 1, ls, st, zS0, M) = _; rw [if_neg (fun z => q (of_decide_eq_true z))]) (k2 q)
theorem zw_iflt {x t : Int} {t' : Nat} (h : zFe c i j 25 (t :: a)) (ht : t.toNat = t') (k1 : x < 0 → zWp c t' ls st M Q) (k2 : ¬ (x < 0) → zWp c j ls st M Q) : zWp c i ls ((0, x) :: st) M Q := by
  by_cases q : x < 0
  · exact zw_step (M' := M) h.1 (by decide) (by rw [← ht]; show some (if decide (x < 0) = true then t.toNat else i + 1, ls, st, zS0, M) = _; rw [if_pos (decide_eq_true q)]) (k1 q)
  · exact zw_step (M' := M) h.1 (by decide) (by rw [← h.2]; show some (if decide (x < 0) = true then t.toNat else i + 1, ls, st, zS0, M) = _; rw [if_neg (fun z => q (of_decide_eq_true z))]) (k2 q)
theorem zw_ifge {x t : Int} {t' : Nat} (h : zFe c i j 26 (t :: a)) (ht : t.toNat = t') (k1 : 0 ≤ x → zWp c t' ls st M Q) (k2 : ¬ (0 ≤ x) → zWp c j ls st M Q) : zWp c i ls ((0, x) :: st) M Q := by
  by_cases q : 0 ≤ x
  · exact zw_step (M' := M) h.1 (by decide) (by rw [← ht]; show some (if decide (0 ≤ x) = true then t.toNat else i + 1, ls, st, zS0, M) = _; rw [if_pos (decide_eq_true q)]) (k1 q)
  · exact zw_step (M' := M) h.1 (by decide) (by rw [← h.2]; show some (if decide (0 ≤ x) = true then t.toNat else i + 1, ls, st, zS0, M) = _; rw [if_neg (fun z => q (of_decide_eq_true z))]) (k2 q)
theorem zw_ifgt {x t : Int} {t' : Nat} (h : zFe c i j 27 (t :: a)) (ht : t.toNat = t') (k1 : 0 < x → zWp c t' ls st M Q) (k2 : ¬ (0 < x) → zWp c j ls st M Q) : zWp c i ls ((0, x) :: st) M Q := by
  by_cases q : 0 < x
  · exact zw_step (M' := M) h.1 (by decide) (by rw [← ht]; show some (if decide (0 < x) = true then t.toNat else i + 1, ls, st, zS0, M) = _; rw [if_pos (decide_eq_true q)]) (k1 q)
  · exact zw_step (M' := M) h.1 (by decide) (by rw [← h.2]; show some (if decide (0 < x) = true then t.toNat else i + 1, ls, st, zS0, M) = _; rw [if_neg (fun z => q (of_decide_eq_true z))]) (k2 q)
theorem zw_ifle {x t : Int} {t' : Nat} (h : zFe c i j 28 (t :: a)) (ht : t.toNat = t') (k1 : x ≤ 0 → zWp c t' ls st M Q) (k2 : ¬ (x ≤ 0) → zWp c j ls st M Q) : zWp c i ls ((0, x) :: st) M Q := by
  by_cases q : x ≤ 0
  · exact zw_step (M' := M) h.1 (by decide) (by rw [← ht]; show some (if decide (x ≤ 0) = true then t.toNat else i + 1, ls, st, zS0, M) = _; rw [if_pos (decide_eq_true q)]) (k1 q)
  · exact zw_step (M' := M) h.1 (by decide) (by rw [← h.2]; show some (if decide (x ≤ 0) = true then t.toNat else i + 1, ls, st, zS0, M) = _; rw [if_neg (fun z => q (of_decide_eq_true z))]) (k2 q)
theorem zw_iceq {x y t : Int} {t' : Nat} (h : zFe c i j 29 (t :: a)) (ht : t.toNat = t') (k1 : x = y → zWp c t' ls st M Q) (k2 : ¬ (x = y) → zWp c j ls st M Q) : zWp c i ls ((0, y) :: (0, x) :: st) M Q := by
  by_cases q : x = y
  · exact zw_step (M' := M) h.1 (by decide) (by rw [← ht]; show some (if decide (x = y) = true then t.toNat else i + 1, ls, st, zS0, M) = _; rw [if_pos (decide_eq_true q)]) (k1 q)
  · exact zw_step (M' := M) h.1 (by decide) (by rw [← h.2]; show some (if decide (x = y) = true then t.toNat else i + 1, ls, st, zS0, M) = _; rw [if_neg (fun z => q (of_decide_eq_true z))]) (k2 q)
theorem zw_icne {x y t : Int} {t' : Nat} (h : zFe c i j 30 (t :: a)) (ht : t.toNat = t') (k1 : x ≠ y → zWp c t' ls st M Q) (k2 : ¬ (x ≠ y) → zWp c j ls st M Q) : zWp c i ls ((0, y) :: (0, x) :: st) M Q := by
  by_cases q : x ≠ y
  · exact zw_step (M' := M) h.1 (by decide) (by rw [← ht]; show some (if decide (x ≠ y) = true then t.toNat else i + 1, ls, st, zS0, M) = _; rw [if_pos (decide_eq_true q)]) (k1 q)
  · exact zw_step (M' := M) h.1 (by decide) (by rw [← h.2]; show some (if decide (x ≠ y) = true then t.toNat else i + 1, ls, st, zS0, M) = _; rw [if_neg (fun z => q (of_decide_eq_true z))]) (k2 q)
theorem zw_iclt {x y t : Int} {t' : Nat} (h : zFe c i j 31 (t :: a)) (ht : t.toNat = t') (k1 : x < y → zWp c t' ls st M Q) (k2 : ¬ (x < y) → zWp c j ls st M Q) : zWp c i ls ((0, y) :: (0, x) :: st) M Q := by
  by_cases q : x < y
  · exact zw_step (M' := M) h.1 (by decide) (by rw [← ht]; show some (if decide (x < y) = true then t.toNat else i + 1, ls, st, zS0, M) = _; rw [if_pos (decide_eq_true q)]) (k1 q)
  · exact zw_step (M' := M) h.1 (by decide) (by rw [← h.2]; show some (if decide (x < y) = true then t.toNat else i + 1, ls, st, zS0, M) = _; rw [if_neg (fun z => q (of_decide_eq_true z))]) (k2 q)
theorem zw_icge {x y t : Int} {t' : Nat} (h : zFe c i j 32 (t :: a)) (ht : t.toNat = t') (k1 : y ≤ x → zWp c t' ls st M Q) (k2 : ¬ (y ≤ x) → zWp c j ls st M Q) : zWp c i ls ((0, y) :: (0, x) :: st) M Q := by
  by_cases q : y ≤ x
  · exact zw_step (M' := M) h.1 (by decide) (by rw [← ht]; show some (if decide (y ≤ x) = true then t.toNat else i + 1, ls, st, zS0, M) = _; rw [if_pos (decide_eq_true q)]) (k1 q)
  · exact zw_step (M' := M) h.1 (by decide) (by rw [← h.2]; show some (if decide (y ≤ x) = true then t.toNat else i + 1, ls, st, zS0, M) = _; rw [if_neg (fun z => q (of_decide_eq_true z))]) (k2 q)
theorem zw_icgt {x y t : Int} {t' : Nat} (h : zFe c i j 33 (t :: a)) (ht : t.toNat = t') (k1 : y < x → zWp c t' ls st M Q) (k2 : ¬ (y < x) → zWp c j ls st M Q) : zWp c i ls ((0, y) :: (0, x) :: st) M Q := by
  by_cases q : y < x
  · exact zw_step (M' := M) h.1 (by decide) (by rw [← ht]; show some (if decide (y < x) = true then t.toNat else i + 1, ls, st, zS0, M) = _; rw [if_pos (decide_eq_true q)]) (k1 q)
  · exact zw_step (M' := M) h.1 (by decide) (by rw [← h.2]; show some (if decide (y < x) = true then t.toNat else i + 1, ls, st, zS0, M) = _; rw [if_neg (fun z => q (of_decide_eq_true z))]) (k2 q)
theorem zw_icle {x y t : Int} {t' : Nat} (h : zFe c i j 34 (t :: a)) (ht : t.toNat = t') (k1 : x ≤ y → zWp c t' ls st M Q) (k2 : ¬ (x ≤ y) → zWp c j ls st M Q) : zWp c i ls ((0, y) :: (0, x) :: st) M Q := by
  by_cases q : x ≤ y
  · exact zw_step (M' := M) h.1 (by decide) (by rw [← ht]; show some (if decide (x ≤ y) = true then t.toNat else i + 1, ls, st, zS0, M) = _; rw [if_pos (decide_eq_true q)]) (k1 q)
  · exact zw_step (M' := M) h.1 (by decide) (by rw [← h.2]; show some (if decide (x ≤ y) = true then t.toNat else i + 1, ls, st, zS0, M) = _; rw [if_neg (fun z => q (of_decide_eq_true z))]) (k2 q)
theorem zw_goto {t : Int} {t' : Nat} (h : zFe c i j 35 (t :: a)) (ht : t.toNat = t') (k : zWp c t' ls st M Q) : zWp c i ls st M Q := zw_step h.1 (by decide) (by rw [← ht]; rfl) k
theorem zw_ifnullR {x t : Int} (h : zFe c i j 36 (t :: a)) (k : zWp c j ls st M Q) : zWp c i ls ((1, x) :: st) M Q := zw_step h.1 (by decide) (by rw [← h.2]; rfl) k
theorem zw_table {x : Int} {t' : Nat} (h : zFe c i j 37 a) (ht : (ztgt a x).toNat = t') (k : zWp c t' ls st M Q) : zWp c i ls ((0, x) :: st) M Q := zw_step h.1 (by decide) (by rw [← ht]; rfl) k
theorem zw_lookup {x d : Int} {t' : Nat} (h : zFe c i j 38 (d :: a)) (ht : (zlook a d x).toNat = t') (k : zWp c t' ls st M Q) : zWp c i ls ((0, x) :: st) M Q := zw_step h.1 (by decide) (by rw [← ht]; rfl) k
theorem zw_getI {b cp cl s kd : Int} (h : zFe c i j 40 [cp, cl, s, kd]) (hs : zcls zS0 b = some cl) (hk : kd ≠ 1) (k : zWp c j ls ((0, M b s) :: st) M Q) : zWp c i ls ((1, b) :: st) M Q := by
  obtain ⟨cn, rs, e, e2⟩ := zcls_of hs
  refine zw_step h.1 (by decide) ?_ k
  rw [zs_40]; unfold zo_getf; dsimp only; rw [e]; dsimp only
  rw [if_pos ⟨rfl, rfl, e2⟩, if_neg (show ¬ zarg [cp, cl, s, kd] 3 = 1 from hk), ← h.2]
  rfl
theorem zw_getR (v : Int) {b cp cl s : Int} (h : zFe c i j 40 [cp, cl, s, 1]) (hs : zref zS0 b cl s = some v) (k : zWp c j ls ((1, v) :: st) M Q) : zWp c i ls ((1, b) :: st) M Q := by
  obtain ⟨cn, rs, e, e2, e3, e4⟩ := zref_of hs
  refine zw_step h.1 (by decide) ?_ k
  rw [zs_40]; unfold zo_getf; dsimp only; rw [e]; dsimp only
  rw [if_pos ⟨rfl, rfl, e2⟩, if_pos (show zarg [cp, cl, s, 1] 3 = 1 from rfl), ← h.2, show zarg [cp, cl, s, 1] 2 = s from rfl, e3]
  unfold zrf
  rw [if_neg (by omega)]
theorem zw_putI {b cp cl s kd v : Int} (h : zFe c i j 41 [cp, cl, s, kd]) (hs : zcls zS0 b = some cl) (hk : kd ≠ 1) (hv : kd = 2 → v = 0 ∨ v = 1) (k : zWp c j ls st (zup M b s v) Q) : zWp c i ls ((0, v) :: (1, b) :: st) M Q := by
  obtain ⟨cn, rs, e, e2⟩ := zcls_of hs
  refine zw_step h.1 (by decide) ?_ k
  rw [zs_41]; unfold zo_putf; dsimp only; rw [e]; dsimp only
  rw [if_pos ⟨rfl, rfl, e2⟩, if_neg (show ¬ zarg [cp, cl, s, kd] 3 = 1 from hk), if_pos ⟨rfl, hv⟩, ← h.2]
  rfl
theorem zw_iald {b x : Int} {n : Nat} (h : zFe c i j 42 a) (hs : zar zS0 b = some (1, n)) (hb : 0 ≤ x ∧ x < (n : Int)) (k : zWp c j ls ((0, M b x) :: st) M Q) : zWp c i ls ((0, x) :: (1, b) :: st) M Q := by
  obtain ⟨rs, e, -⟩ := zar_of hs
  refine zw_step h.1 (by decide) ?_ k
  rw [zs_42]; unfold zo_iald; dsimp only; rw [e]; dsimp only
  rw [if_pos ⟨⟨rfl, rfl, rfl⟩, hb⟩, ← h.2]
theorem zw_bald {b x : Int} {t n : Nat} (h : zFe c i j 43 a) (hs : zar zS0 b = some (t, n)) (ht : t = 2 ∨ t = 3) (hb : 0 ≤ x ∧ x < (n : Int)) (k : zWp c j ls ((0, M b x) :: st) M Q) : zWp c i ls ((0, x) :: (1, b) :: st) M Q := by
  obtain ⟨rs, e, -⟩ := zar_of hs
  refine zw_step h.1 (by decide) ?_ k
  rw [zs_43]; unfold zo_bald; dsimp only; rw [e]; dsimp only
  rw [if_pos ⟨⟨rfl, rfl, ht⟩, hb⟩, ← h.2]
theorem zw_row {b x rb : Int} {n : Nat} (h : zFe c i j 44 a) (hs : zrow zS0 b = some (n, rb)) (hb : 0 ≤ x ∧ x < (n : Int)) (k : zWp c j ls ((1, rb + x) :: st) M Q) : zWp c i ls ((0, x) :: (1, b) :: st) M Q := by
  obtain ⟨rs, e, e2⟩ := zrow_of hs
  refine zw_step h.1 (by decide) ?_ k
  rw [zs_44]; unfold zo_aald; dsimp only; rw [e]; dsimp only
  rw [if_pos ⟨⟨rfl, rfl, Or.inl rfl⟩, hb⟩, ← h.2, if_pos rfl, e2]
theorem zw_aald {b x v : Int} {n : Nat} (h : zFe c i j 44 a) (hs : zar zS0 b = some (5, n)) (hb : 0 ≤ x ∧ x < (n : Int)) (hv : M b x = v + 1) (h0 : 0 ≤ v) (k : zWp c j ls ((1, v) :: st) M Q) : zWp c i ls ((0, x) :: (1, b) :: st) M Q := by
  obtain ⟨rs, e, -⟩ := zar_of hs
  refine zw_step h.1 (by decide) ?_ k
  rw [zs_44]; unfold zo_aald; dsimp only; rw [e]; dsimp only
  rw [if_pos ⟨⟨rfl, rfl, Or.inr rfl⟩, hb⟩, ← h.2, if_neg (by decide), hv, show v + 1 - 1 = v by omega]
  unfold zrf
  rw [if_neg (by omega)]
theorem zw_iast {b x v : Int} {n : Nat} (h : zFe c i j 45 a) (hs : zar zS0 b = some (1, n)) (hb : 0 ≤ x ∧ x < (n : Int)) (k : zWp c j ls st (zup M b x v) Q) : zWp c i ls ((0, v) :: (0, x) :: (1, b) :: st) M Q := by
  obtain ⟨rs, e, -⟩ := zar_of hs
  refine zw_step h.1 (by decide) ?_ k
  rw [zs_45]; unfold zo_iast; dsimp only; rw [e]; dsimp only
  rw [if_pos ⟨⟨rfl, rfl, rfl, rfl⟩, hb⟩, ← h.2]
theorem zw_bast2 {b x v : Int} {n : Nat} (h : zFe c i j 46 a) (hs : zar zS0 b = some (2, n)) (hb : 0 ≤ x ∧ x < (n : Int)) (hv : -128 ≤ v ∧ v ≤ 127) (k : zWp c j ls st (zup M b x v) Q) : zWp c i ls ((0, v) :: (0, x) :: (1, b) :: st) M Q := by
  obtain ⟨rs, e, -⟩ := zar_of hs
  refine zw_step h.1 (by decide) ?_ k
  rw [zs_46]; unfold zo_bast; dsimp only; rw [e]; dsimp only
  rw [if_pos ⟨⟨rfl, rfl, rfl, Or.inl ⟨rfl, hv⟩⟩, hb⟩, ← h.2]
theorem zw_bast3 {b x v : Int} {n : Nat} (h : zFe c i j 46 a) (hs : zar zS0 b = some (3, n)) (hb : 0 ≤ x ∧ x < (n : Int)) (hv : v = 0 ∨ v = 1) (k : zWp c j ls st (zup M b x v) Q) : zWp c i ls ((0, v) :: (0, x) :: (1, b) :: st) M Q := by
  obtain ⟨rs, e, -⟩ := zar_of hs
  refine zw_step h.1 (by decide) ?_ k
  rw [zs_46]; unfold zo_bast; dsimp only; rw [e]; dsimp only
  rw [if_pos ⟨⟨rfl, rfl, rfl, Or.inr ⟨rfl, hv⟩⟩, hb⟩, ← h.2]
theorem zw_aast {b x v cl : Int} {n cn : Nat} {rs0 rs1 : List Int} (h : zFe c i j 47 a) (hs : zsh zS0 b = some (5, n, rs0)) (hb : 0 ≤ x ∧ x < (n : Int)) (hv : zsh zS0 v = some (0, cn, rs1)) (hcl : rs0.getD 0 0 = (cn : Int)) (k : zWp c j ls st (zup M b x (v + 1)) Q) : zWp c i ls ((1, v) :: (0, x) :: (1, b) :: st) M Q := by
  refine zw_step h.1 (by decide) ?_ k
  rw [zs_47]; unfold zo_aast; dsimp only; rw [hs]; dsimp only; rw [hv]; dsimp only
  rw [if_pos ⟨⟨rfl, rfl, rfl, rfl, rfl, hcl⟩, hb⟩, ← h.2]
theorem zw_alen {b : Int} {n : Nat} (h : zFe c i j 48 a) (hs : zar zS0 b = some (1, n)) (k : zWp c j ls ((0, (n : Int)) :: st) M Q) : zWp c i ls ((1, b) :: st) M Q := by
  obtain ⟨rs, e, -⟩ := zar_of hs
  refine zw_step h.1 (by decide) ?_ k
  rw [zs_48]; unfold zo_alen; dsimp only; rw [e]; dsimp only
  rw [if_pos ⟨rfl, rfl⟩, ← h.2]
theorem zw_copy {s sp d dp n : Int} {ns nd : Nat} (h : zFe c i j 54 a) (hs : zar zS0 s = some (1, ns)) (hd : zar zS0 d = some (1, nd)) (hb : 0 ≤ n ∧ 0 ≤ dp ∧ 0 ≤ sp ∧ sp + n ≤ (ns : Int) ∧ dp + n ≤ (nd : Int)) (hne : s ≠ d ∧ st.length ≤ 4) (k : zWp c j ls st (zcpy M s sp d dp n) Q) : zWp c i ls ((0, n) :: (0, dp) :: (1, d) :: (0, sp) :: (1, s) :: st) M Q := by
  obtain ⟨rs, e, -⟩ := zar_of hs
  obtain ⟨rd, e2, -⟩ := zar_of hd
  refine zw_step h.1 (by decide) ?_ k
  rw [zs_54]; unfold zo_copy; dsimp only; rw [e]; dsimp only; rw [e2]; dsimp only
  rw [if_pos ⟨⟨rfl, rfl, rfl, rfl, rfl, rfl, rfl⟩, hb, hne.1, hne.2⟩, ← h.2]
theorem zw_text {cp k0 : Int} (h : zFe c i j 57 [cp, k0]) (k : zWp c j ls ((4, k0) :: st) M Q) : zWp c i ls st M Q := zw_step h.1 (by decide) (by rw [← h.2]; rfl) k
theorem zw_tlen {k0 : Int} (h : zFe c i j 58 a) (hb : 0 ≤ k0 ∧ k0 < 17) (hn : st.length ≤ 4) (k : zWp c j ls ((0, ((zTx.getD k0.toNat []).length : Int)) :: st) M Q) : zWp c i ls ((4, k0) :: st) M Q := zw_step h.1 (by decide) (by rw [← h.2]; exact if_pos ⟨rfl, hb, hn⟩) k
theorem zw_char {k0 x : Int} (h : zFe c i j 59 a) (hb : (0 ≤ k0 ∧ k0 < 17) ∧ 0 ≤ x ∧ x < ((zTx.getD k0.toNat []).length : Int)) (hn : st.length ≤ 4) (k : zWp c j ls ((0, (zTx.getD k0.toNat []).getD x.toNat 0) :: st) M Q) : zWp c i ls ((0, x) :: (4, k0) :: st) M Q := zw_step h.1 (by decide) (by rw [← h.2]; exact if_pos ⟨⟨rfl, rfl, hn⟩, hb⟩) k
theorem zw_end {op : Nat} {v : zV} (hc : c[i]? = some (op, a)) (h70 : 70 ≤ op) (he : zend op st = some v) (k : Q v M) : zWp c i ls st M Q := ⟨1, v, M, zrun_end (q := (op, a)) hc h70 he, k⟩
theorem zw_ret {x : Int} (hc : c[i]? = some (70, a)) (k : Q (0, x) M) : zWp c i ls [(0, x)] M Q := zw_end hc (by decide) rfl k
theorem zw_void (hc : c[i]? = some (71, a)) (k : Q (3, 0) M) : zWp c i ls [] M Q := zw_end hc (by decide) rfl k
theorem zw_tret {x : Int} (hc : c[i]? = some (72, a)) (k : Q (4, x) M) : zWp c i ls [(4, x)] M Q := zw_end hc (by decide) rfl k
theorem zw_zret {x : Int} (hc : c[i]? = some (73, a)) (hx : x = 0 ∨ x = 1) (k : Q (0, x) M) : zWp c i ls [(0, x)] M Q := zw_end hc (by decide) (if_pos (Or.inr (Or.inr ⟨rfl, rfl, hx⟩))) k
theorem zw_calls {how cp mid cl : Int} {y : List zIn × Nat × Nat × Nat} (h : zFe c i j 60 [how, cp, mid, cl]) (hy : zPt[mid.toNat]? = some y) (hl : y.2.2.1 ≤ st.length ∧ (zgive y.2.2.2 (st.take y.2.2.1) (st.drop y.2.2.1) && zrecv zS0 how cl (st.take y.2.2.1)) = true) (k : zWp y.1 0 (zloc (st.take y.2.2.1).reverse y.2.1) [] M (fun v M' => zWp c j ls (if y.2.2.2 = 0 then st.drop y.2.2.1 else v :: st.drop y.2.2.1) M' Q)) : zWp c i ls st M Q := by
  obtain ⟨n, v, M1, h1, n2, v2, M2, h2, h3⟩ := k
  refine ⟨max n n2 + 1, v2, M2, ?_, h3⟩
  rw [zrun_call h.1 rfl hy hl (zrun_le _ (Nat.le_max_left n n2) h1), h.2]
  exact zrun_le _ (Nat.le_max_right n n2) h2
theorem zrecv_0 {b cl : Int} {as : List zV} (h : zcls zS0 b = some cl) : zrecv zS0 0 cl (as ++ [(1, b)]) = true := by
  obtain ⟨cn, rs, e, e2⟩ := zcls_of h
  unfold zrecv
  rw [if_neg (by decide), List.getLast?_concat]
  simp [e, e2]
theorem zw_calls0 {cp mid cl : Int} {cc : List zIn} {mL : Nat} (h : zFe c i j 60 [1, cp, mid, cl]) (hy : zPt[mid.toNat]? = some (cc, mL, 0, 1)) (hg : zgive 1 [] st = true) (k : zWp cc 0 (zloc [] mL) [] M (fun v M' => zWp c j ls (v :: st) M' Q)) : zWp c i ls (st) M Q := zw_calls h hy ⟨by simp, (by rw [Bool.and_eq_true]; exact ⟨hg, rfl⟩)⟩ k
theorem zw_cavs0 {cp mid cl : Int} {cc : List zIn} {mL : Nat} (h : zFe c i j 60 [1, cp, mid, cl]) (hy : zPt[mid.toNat]? = some (cc, mL, 0, 0)) (hg : zgive 0 [] st = true) (k : zWp cc 0 (zloc [] mL) [] M (fun _ M' => zWp c j ls st M' Q)) : zWp c i ls (st) M Q := zw_calls h hy ⟨by simp, (by rw [Bool.and_eq_true]; exact ⟨hg, rfl⟩)⟩ k
theorem zw_callv1 {cp mid cl : Int} {cc : List zIn} {mL : Nat} {b : Int} (h : zFe c i j 60 [0, cp, mid, cl]) (hy : zPt[mid.toNat]? = some (cc, mL, 1, 1)) (hc : zcls zS0 b = some cl) (hg : zgive 1 [(1, b)] st = true) (k : zWp cc 0 (zloc [(1, b)] mL) [] M (fun v M' => zWp c j ls (v :: st) M' Q)) : zWp c i ls ((1, b) :: st) M Q := zw_calls h hy ⟨by simp, (by rw [Bool.and_eq_true]; exact ⟨hg, zrecv_0 (as := []) hc⟩)⟩ k
theorem zw_cavv1 {cp mid cl : Int} {cc : List zIn} {mL : Nat} {b : Int} (h : zFe c i j 60 [0, cp, mid, cl]) (hy : zPt[mid.toNat]? = some (cc, mL, 1, 0)) (hc : zcls zS0 b = some cl) (hg : zgive 0 [(1, b)] st = true) (k : zWp cc 0 (zloc [(1, b)] mL) [] M (fun _ M' => zWp c j ls st M' Q)) : zWp c i ls ((1, b) :: st) M Q := zw_calls h hy ⟨by simp, (by rw [Bool.and_eq_true]; exact ⟨hg, zrecv_0 (as := []) hc⟩)⟩ k
theorem zw_calls1 {cp mid cl : Int} {cc : List zIn} {mL : Nat} {b0 : zV} (h : zFe c i j 60 [1, cp, mid, cl]) (hy : zPt[mid.toNat]? = some (cc, mL, 1, 1)) (hg : zgive 1 [b0] st = true) (k : zWp cc 0 (zloc [b0] mL) [] M (fun v M' => zWp c j ls (v :: st) M' Q)) : zWp c i ls (b0 :: st) M Q := zw_calls h hy ⟨by simp, (by rw [Bool.and_eq_true]; exact ⟨hg, rfl⟩)⟩ k
theorem zw_cavs1 {cp mid cl : Int} {cc : List zIn} {mL : Nat} {b0 : zV} (h : zFe c i j 60 [1, cp, mid, cl]) (hy : zPt[mid.toNat]? = some (cc, mL, 1, 0)) (hg : zgive 0 [b0] st = true) (k : zWp cc 0 (zloc [b0] mL) [] M (fun _ M' => zWp c j ls st M' Q)) : zWp c i ls (b0 :: st) M Q := zw_calls h hy ⟨by simp, (by rw [Bool.and_eq_true]; exact ⟨hg, rfl⟩)⟩ k
theorem zw_callv2 {cp mid cl : Int} {cc : List zIn} {mL : Nat} {b : Int} {b1 : zV} (h : zFe c i j 60 [0, cp, mid, cl]) (hy : zPt[mid.toNat]? = some (cc, mL, 2, 1)) (hc : zcls zS0 b = some cl) (hg : zgive 1 [b1, (1, b)] st = true) (k : zWp cc 0 (zloc [(1, b), b1] mL) [] M (fun v M' => zWp c j ls (v :: st) M' Q)) : zWp c i ls (b1 :: (1, b) :: st) M Q := zw_calls h hy ⟨by simp, (by rw [Bool.and_eq_true]; exact ⟨hg, zrecv_0 (as := [b1]) hc⟩)⟩ k
theorem zw_cavv2 {cp mid cl : Int} {cc : List zIn} {mL : Nat} {b : Int} {b1 : zV} (h : zFe c i j 60 [0, cp, mid, cl]) (hy : zPt[mid.toNat]? = some (cc, mL, 2, 0)) (hc : zcls zS0 b = some cl) (hg : zgive 0 [b1, (1, b)] st = true) (k : zWp cc 0 (zloc [(1, b), b1] mL) [] M (fun _ M' => zWp c j ls st M' Q)) : zWp c i ls (b1 :: (1, b) :: st) M Q := zw_calls h hy ⟨by simp, (by rw [Bool.and_eq_true]; exact ⟨hg, zrecv_0 (as := [b1]) hc⟩)⟩ k
theorem zw_calls2 {cp mid cl : Int} {cc : List zIn} {mL : Nat} {b0 b1 : zV} (h : zFe c i j 60 [1, cp, mid, cl]) (hy : zPt[mid.toNat]? = some (cc, mL, 2, 1)) (hg : zgive 1 [b1, b0] st = true) (k : zWp cc 0 (zloc [b0, b1] mL) [] M (fun v M' => zWp c j ls (v :: st) M' Q)) : zWp c i ls (b1 :: b0 :: st) M Q := zw_calls h hy ⟨by simp, (by rw [Bool.and_eq_true]; exact ⟨hg, rfl⟩)⟩ k
theorem zw_cavs2 {cp mid cl : Int} {cc : List zIn} {mL : Nat} {b0 b1 : zV} (h : zFe c i j 60 [1, cp, mid, cl]) (hy : zPt[mid.toNat]? = some (cc, mL, 2, 0)) (hg : zgive 0 [b1, b0] st = true) (k : zWp cc 0 (zloc [b0, b1] mL) [] M (fun _ M' => zWp c j ls st M' Q)) : zWp c i ls (b1 :: b0 :: st) M Q := zw_calls h hy ⟨by simp, (by rw [Bool.and_eq_true]; exact ⟨hg, rfl⟩)⟩ k
theorem zw_callv3 {cp mid cl : Int} {cc : List zIn} {mL : Nat} {b : Int} {b1 b2 : zV} (h : zFe c i j 60 [0, cp, mid, cl]) (hy : zPt[mid.toNat]? = some (cc, mL, 3, 1)) (hc : zcls zS0 b = some cl) (hg : zgive 1 [b2, b1, (1, b)] st = true) (k : zWp cc 0 (zloc [(1, b), b1, b2] mL) [] M (fun v M' => zWp c j ls (v :: st) M' Q)) : zWp c i ls (b2 :: b1 :: (1, b) :: st) M Q := zw_calls h hy ⟨by simp, (by rw [Bool.and_eq_true]; exact ⟨hg, zrecv_0 (as := [b2, b1]) hc⟩)⟩ k
theorem zw_cavv3 {cp mid cl : Int} {cc : List zIn} {mL : Nat} {b : Int} {b1 b2 : zV} (h : zFe c i j 60 [0, cp, mid, cl]) (hy : zPt[mid.toNat]? = some (cc, mL, 3, 0)) (hc : zcls zS0 b = some cl) (hg : zgive 0 [b2, b1, (1, b)] st = true) (k : zWp cc 0 (zloc [(1, b), b1, b2] mL) [] M (fun _ M' => zWp c j ls st M' Q)) : zWp c i ls (b2 :: b1 :: (1, b) :: st) M Q := zw_calls h hy ⟨by simp, (by rw [Bool.and_eq_true]; exact ⟨hg, zrecv_0 (as := [b2, b1]) hc⟩)⟩ k
theorem zw_calls3 {cp mid cl : Int} {cc : List zIn} {mL : Nat} {b0 b1 b2 : zV} (h : zFe c i j 60 [1, cp, mid, cl]) (hy : zPt[mid.toNat]? = some (cc, mL, 3, 1)) (hg : zgive 1 [b2, b1, b0] st = true) (k : zWp cc 0 (zloc [b0, b1, b2] mL) [] M (fun v M' => zWp c j ls (v :: st) M' Q)) : zWp c i ls (b2 :: b1 :: b0 :: st) M Q := zw_calls h hy ⟨by simp, (by rw [Bool.and_eq_true]; exact ⟨hg, rfl⟩)⟩ k
theorem zw_cavs3 {cp mid cl : Int} {cc : List zIn} {mL : Nat} {b0 b1 b2 : zV} (h : zFe c i j 60 [1, cp, mid, cl]) (hy : zPt[mid.toNat]? = some (cc, mL, 3, 0)) (hg : zgive 0 [b2, b1, b0] st = true) (k : zWp cc 0 (zloc [b0, b1, b2] mL) [] M (fun _ M' => zWp c j ls st M' Q)) : zWp c i ls (b2 :: b1 :: b0 :: st) M Q := zw_calls h hy ⟨by simp, (by rw [Bool.and_eq_true]; exact ⟨hg, rfl⟩)⟩ k
theorem zw_calLs3 {cp mid cl : Int} {cc : List zIn} {mL : Nat} {b0 b1 b2 : zV} (h : zFe c i j 60 [1, cp, mid, cl]) (hy : zPt[mid.toNat]? = some (cc, mL, 3, 3)) (hg : zgive 3 [b2, b1, b0] st = true) (k : zWp cc 0 (zloc [b0, b1, b2] mL) [] M (fun v M' => zWp c j ls (v :: st) M' Q)) : zWp c i ls (b2 :: b1 :: b0 :: st) M Q := zw_calls h hy ⟨by simp, (by rw [Bool.and_eq_true]; exact ⟨hg, rfl⟩)⟩ k
theorem zw_callv4 {cp mid cl : Int} {cc : List zIn} {mL : Nat} {b : Int} {b1 b2 b3 : zV} (h : zFe c i j 60 [0, cp, mid, cl]) (hy : zPt[mid.toNat]? = some (cc, mL, 4, 1)) (hc : zcls zS0 b = some cl) (hg : zgive 1 [b3, b2, b1, (1, b)] st = true) (k : zWp cc 0 (zloc [(1, b), b1, b2, b3] mL) [] M (fun v M' => zWp c j ls (v :: st) M' Q)) : zWp c i ls (b3 :: b2 :: b1 :: (1, b) :: st) M Q := zw_calls h hy ⟨by simp, (by rw [Bool.and_eq_true]; exact ⟨hg, zrecv_0 (as := [b3, b2, b1]) hc⟩)⟩ k
theorem zw_cavv4 {cp mid cl : Int} {cc : List zIn} {mL : Nat} {b : Int} {b1 b2 b3 : zV} (h : zFe c i j 60 [0, cp, mid, cl]) (hy : zPt[mid.toNat]? = some (cc, mL, 4, 0)) (hc : zcls zS0 b = some cl) (hg : zgive 0 [b3, b2, b1, (1, b)] st = true) (k : zWp cc 0 (zloc [(1, b), b1, b2, b3] mL) [] M (fun _ M' => zWp c j ls st M' Q)) : zWp c i ls (b3 :: b2 :: b1 :: (1, b) :: st) M Q := zw_calls h hy ⟨by simp, (by rw [Bool.and_eq_true]; exact ⟨hg, zrecv_0 (as := [b3, b2, b1]) hc⟩)⟩ k
theorem zw_calls4 {cp mid cl : Int} {cc : List zIn} {mL : Nat} {b0 b1 b2 b3 : zV} (h : zFe c i j 60 [1, cp, mid, cl]) (hy : zPt[mid.toNat]? = some (cc, mL, 4, 1)) (hg : zgive 1 [b3, b2, b1, b0] st = true) (k : zWp cc 0 (zloc [b0, b1, b2, b3] mL) [] M (fun v M' => zWp c j ls (v :: st) M' Q)) : zWp c i ls (b3 :: b2 :: b1 :: b0 :: st) M Q := zw_calls h hy ⟨by simp, (by rw [Bool.and_eq_true]; exact ⟨hg, rfl⟩)⟩ k
theorem zw_cavs4 {cp mid cl : Int} {cc : List zIn} {mL : Nat} {b0 b1 b2 b3 : zV} (h : zFe c i j 60 [1, cp, mid, cl]) (hy : zPt[mid.toNat]? = some (cc, mL, 4, 0)) (hg : zgive 0 [b3, b2, b1, b0] st = true) (k : zWp cc 0 (zloc [b0, b1, b2, b3] mL) [] M (fun _ M' => zWp c j ls st M' Q)) : zWp c i ls (b3 :: b2 :: b1 :: b0 :: st) M Q := zw_calls h hy ⟨by simp, (by rw [Bool.and_eq_true]; exact ⟨hg, rfl⟩)⟩ k
theorem zw_callv5 {cp mid cl : Int} {cc : List zIn} {mL : Nat} {b : Int} {b1 b2 b3 b4 : zV} (h : zFe c i j 60 [0, cp, mid, cl]) (hy : zPt[mid.toNat]? = some (cc, mL, 5, 1)) (hc : zcls zS0 b = some cl) (hg : zgive 1 [b4, b3, b2, b1, (1, b)] st = true) (k : zWp cc 0 (zloc [(1, b), b1, b2, b3, b4] mL) [] M (fun v M' => zWp c j ls (v :: st) M' Q)) : zWp c i ls (b4 :: b3 :: b2 :: b1 :: (1, b) :: st) M Q := zw_calls h hy ⟨by simp, (by rw [Bool.and_eq_true]; exact ⟨hg, zrecv_0 (as := [b4, b3, b2, b1]) hc⟩)⟩ k
theorem zw_cavv5 {cp mid cl : Int} {cc : List zIn} {mL : Nat} {b : Int} {b1 b2 b3 b4 : zV} (h : zFe c i j 60 [0, cp, mid, cl]) (hy : zPt[mid.toNat]? = some (cc, mL, 5, 0)) (hc : zcls zS0 b = some cl) (hg : zgive 0 [b4, b3, b2, b1, (1, b)] st = true) (k : zWp cc 0 (zloc [(1, b), b1, b2, b3, b4] mL) [] M (fun _ M' => zWp c j ls st M' Q)) : zWp c i ls (b4 :: b3 :: b2 :: b1 :: (1, b) :: st) M Q := zw_calls h hy ⟨by simp, (by rw [Bool.and_eq_true]; exact ⟨hg, zrecv_0 (as := [b4, b3, b2, b1]) hc⟩)⟩ k
theorem zw_calls5 {cp mid cl : Int} {cc : List zIn} {mL : Nat} {b0 b1 b2 b3 b4 : zV} (h : zFe c i j 60 [1, cp, mid, cl]) (hy : zPt[mid.toNat]? = some (cc, mL, 5, 1)) (hg : zgive 1 [b4, b3, b2, b1, b0] st = true) (k : zWp cc 0 (zloc [b0, b1, b2, b3, b4] mL) [] M (fun v M' => zWp c j ls (v :: st) M' Q)) : zWp c i ls (b4 :: b3 :: b2 :: b1 :: b0 :: st) M Q := zw_calls h hy ⟨by simp, (by rw [Bool.and_eq_true]; exact ⟨hg, rfl⟩)⟩ k
theorem zw_cavs5 {cp mid cl : Int} {cc : List zIn} {mL : Nat} {b0 b1 b2 b3 b4 : zV} (h : zFe c i j 60 [1, cp, mid, cl]) (hy : zPt[mid.toNat]? = some (cc, mL, 5, 0)) (hg : zgive 0 [b4, b3, b2, b1, b0] st = true) (k : zWp cc 0 (zloc [b0, b1, b2, b3, b4] mL) [] M (fun _ M' => zWp c j ls st M' Q)) : zWp c i ls (b4 :: b3 :: b2 :: b1 :: b0 :: st) M Q := zw_calls h hy ⟨by simp, (by rw [Bool.and_eq_true]; exact ⟨hg, rfl⟩)⟩ k
theorem zw_callv6 {cp mid cl : Int} {cc : List zIn} {mL : Nat} {b : Int} {b1 b2 b3 b4 b5 : zV} (h : zFe c i j 60 [0, cp, mid, cl]) (hy : zPt[mid.toNat]? = some (cc, mL, 6, 1)) (hc : zcls zS0 b = some cl) (hg : zgive 1 [b5, b4, b3, b2, b1, (1, b)] st = true) (k : zWp cc 0 (zloc [(1, b), b1, b2, b3, b4, b5] mL) [] M (fun v M' => zWp c j ls (v :: st) M' Q)) : zWp c i ls (b5 :: b4 :: b3 :: b2 :: b1 :: (1, b) :: st) M Q := zw_calls h hy ⟨by simp, (by rw [Bool.and_eq_true]; exact ⟨hg, zrecv_0 (as := [b5, b4, b3, b2, b1]) hc⟩)⟩ k
theorem zw_cavv6 {cp mid cl : Int} {cc : List zIn} {mL : Nat} {b : Int} {b1 b2 b3 b4 b5 : zV} (h : zFe c i j 60 [0, cp, mid, cl]) (hy : zPt[mid.toNat]? = some (cc, mL, 6, 0)) (hc : zcls zS0 b = some cl) (hg : zgive 0 [b5, b4, b3, b2, b1, (1, b)] st = true) (k : zWp cc 0 (zloc [(1, b), b1, b2, b3, b4, b5] mL) [] M (fun _ M' => zWp c j ls st M' Q)) : zWp c i ls (b5 :: b4 :: b3 :: b2 :: b1 :: (1, b) :: st) M Q := zw_calls h hy ⟨by simp, (by rw [Bool.and_eq_true]; exact ⟨hg, zrecv_0 (as := [b5, b4, b3, b2, b1]) hc⟩)⟩ k
theorem zw_calls6 {cp mid cl : Int} {cc : List zIn} {mL : Nat} {b0 b1 b2 b3 b4 b5 : zV} (h : zFe c i j 60 [1, cp, mid, cl]) (hy : zPt[mid.toNat]? = some (cc, mL, 6, 1)) (hg : zgive 1 [b5, b4, b3, b2, b1, b0] st = true) (k : zWp cc 0 (zloc [b0, b1, b2, b3, b4, b5] mL) [] M (fun v M' => zWp c j ls (v :: st) M' Q)) : zWp c i ls (b5 :: b4 :: b3 :: b2 :: b1 :: b0 :: st) M Q := zw_calls h hy ⟨by simp, (by rw [Bool.and_eq_true]; exact ⟨hg, rfl⟩)⟩ k
theorem zw_cavs6 {cp mid cl : Int} {cc : List zIn} {mL : Nat} {b0 b1 b2 b3 b4 b5 : zV} (h : zFe c i j 60 [1, cp, mid, cl]) (hy : zPt[mid.toNat]? = some (cc, mL, 6, 0)) (hg : zgive 0 [b5, b4, b3, b2, b1, b0] st = true) (k : zWp cc 0 (zloc [b0, b1, b2, b3, b4, b5] mL) [] M (fun _ M' => zWp c j ls st M' Q)) : zWp c i ls (b5 :: b4 :: b3 :: b2 :: b1 :: b0 :: st) M Q := zw_calls h hy ⟨by simp, (by rw [Bool.and_eq_true]; exact ⟨hg, rfl⟩)⟩ k
theorem zw_callv7 {cp mid cl : Int} {cc : List zIn} {mL : Nat} {b : Int} {b1 b2 b3 b4 b5 b6 : zV} (h : zFe c i j 60 [0, cp, mid, cl]) (hy : zPt[mid.toNat]? = some (cc, mL, 7, 1)) (hc : zcls zS0 b = some cl) (hg : zgive 1 [b6, b5, b4, b3, b2, b1, (1, b)] st = true) (k : zWp cc 0 (zloc [(1, b), b1, b2, b3, b4, b5, b6] mL) [] M (fun v M' => zWp c j ls (v :: st) M' Q)) : zWp c i ls (b6 :: b5 :: b4 :: b3 :: b2 :: b1 :: (1, b) :: st) M Q := zw_calls h hy ⟨by simp, (by rw [Bool.and_eq_true]; exact ⟨hg, zrecv_0 (as := [b6, b5, b4, b3, b2, b1]) hc⟩)⟩ k
theorem zw_cavv7 {cp mid cl : Int} {cc : List zIn} {mL : Nat} {b : Int} {b1 b2 b3 b4 b5 b6 : zV} (h : zFe c i j 60 [0, cp, mid, cl]) (hy : zPt[mid.toNat]? = some (cc, mL, 7, 0)) (hc : zcls zS0 b = some cl) (hg : zgive 0 [b6, b5, b4, b3, b2, b1, (1, b)] st = true) (k : zWp cc 0 (zloc [(1, b), b1, b2, b3, b4, b5, b6] mL) [] M (fun _ M' => zWp c j ls st M' Q)) : zWp c i ls (b6 :: b5 :: b4 :: b3 :: b2 :: b1 :: (1, b) :: st) M Q := zw_calls h hy ⟨by simp, (by rw [Bool.and_eq_true]; exact ⟨hg, zrecv_0 (as := [b6, b5, b4, b3, b2, b1]) hc⟩)⟩ k
theorem zw_calls7 {cp mid cl : Int} {cc : List zIn} {mL : Nat} {b0 b1 b2 b3 b4 b5 b6 : zV} (h : zFe c i j 60 [1, cp, mid, cl]) (hy : zPt[mid.toNat]? = some (cc, mL, 7, 1)) (hg : zgive 1 [b6, b5, b4, b3, b2, b1, b0] st = true) (k : zWp cc 0 (zloc [b0, b1, b2, b3, b4, b5, b6] mL) [] M (fun v M' => zWp c j ls (v :: st) M' Q)) : zWp c i ls (b6 :: b5 :: b4 :: b3 :: b2 :: b1 :: b0 :: st) M Q := zw_calls h hy ⟨by simp, (by rw [Bool.and_eq_true]; exact ⟨hg, rfl⟩)⟩ k
theorem zw_cavs7 {cp mid cl : Int} {cc : List zIn} {mL : Nat} {b0 b1 b2 b3 b4 b5 b6 : zV} (h : zFe c i j 60 [1, cp, mid, cl]) (hy : zPt[mid.toNat]? = some (cc, mL, 7, 0)) (hg : zgive 0 [b6, b5, b4, b3, b2, b1, b0] st = true) (k : zWp cc 0 (zloc [b0, b1, b2, b3, b4, b5, b6] mL) [] M (fun _ M' => zWp c j ls st M' Q)) : zWp c i ls (b6 :: b5 :: b4 :: b3 :: b2 :: b1 :: b0 :: st) M Q := zw_calls h hy ⟨by simp, (by rw [Bool.and_eq_true]; exact ⟨hg, rfl⟩)⟩ k
end ZW
