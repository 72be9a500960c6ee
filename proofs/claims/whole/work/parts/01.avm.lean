/-! A small machine over whole numbers: values are (0, x) an int, (1, a) an object, (2, x) a long, (3, _) nothing, (4, k) a text, (5, _) null.
 The memory is a table of shapes and a function; a method is a row of (opcode, arguments). -/
abbrev zV : Type := Nat × Int
abbrev zSh : Type := Nat × Nat × List Int
abbrev zM : Type := Int → Int → Int
abbrev zIn : Type := Nat × List Int
abbrev zR : Type := Nat × List zV × List zV × List zSh × zM
abbrev zF : Type := List Int → Nat → List zV → List zV → List zSh → zM → Option zR
def zup (M : zM) (a i v : Int) : zM := fun b j => if b = a ∧ j = i then v else M b j
def zsh (S : List zSh) (a : Int) : Option zSh := if a < 0 then none else S[a.toNat]?
def zrf (r : Int) : zV := if r < 0 then (5, 0) else (1, r)
def zsetR (S : List zSh) (a : Int) (k : Nat) (v : Int) : List zSh := match S[a.toNat]? with
  | some (t, c, rs) => S.set a.toNat (t, c, rs.set k v)
  | none => S
def zcpy (M : zM) (s sp d dp n : Int) : zM := fun b j => if b = d ∧ dp ≤ j ∧ j < dp + n then M s (sp + (j - dp)) else M b j
def zTx : List (List Int) := [[99,111,110,115,111,110,97,110,116,115],[118,111,119,101,108,115],[118,105,114,97,109,97],[110,117,107,116,97],[98,101,102,111,114,101],[97,98,111,118,101],[98,101,108,111,119],[98,101,104,105,110,100],[115,112,108,105,116,115],[109,97,114,107,115],[116,97,105,108,115],[106,111,105,110,101,114],[98,114,101,97,107,101,114],[114,97],[115,116,97,99,107],[104,97,108,102],[106,111,105,110,115]]
def zarg (a : List Int) (k : Nat) : Int := a.getD k 0
def zand (x y : Int) : Int := if y = 1 ∨ y = 63 ∨ y = 255 then x % (y + 1) else ((x.toNat &&& y.toNat : Nat) : Int)
def zor (x y : Int) : Int := ((x.toNat ||| y.toNat : Nat) : Int)
def zushr (x y : Int) : Int := if y = 0 then x else (x % 4294967296) / 2 ^ y.toNat
def zbyte (x : Int) : Int := (x + 128) % 256 - 128
def zlc (x y : Int) : Int := if x < y then -1 else if x = y then 0 else 1
-- the operations
def zo_none : zF := fun _ _ _ _ _ _ => none
def zo_const : zF := fun a i ls st S M => some (i + 1, ls, (0, zarg a 0) :: st, S, M)
def zo_lconst : zF := fun a i ls st S M => some (i + 1, ls, (2, zarg a 0) :: st, S, M)
def zo_load (p : Nat → Bool) : zF := fun a i ls st S M => match ls[(zarg a 0).toNat]? with
  | some v => if p v.1 = true then some (i + 1, ls, v :: st, S, M) else none
  | none => none
def zo_store (p : Nat → Bool) : zF := fun a i ls st S M => match st with
  | v :: r => if p v.1 = true ∧ (zarg a 0).toNat < ls.length then some (i + 1, ls.set (zarg a 0).toNat v, r, S, M) else none
  | [] => none
def zo_iinc : zF := fun a i ls st S M => match ls[(zarg a 0).toNat]? with
  | some v => if v.1 = 0 ∧ -2147483648 ≤ v.2 + zarg a 1 ∧ v.2 + zarg a 1 ≤ 2147483647 then some (i + 1, ls.set (zarg a 0).toNat (0, v.2 + zarg a 1), st, S, M) else none
  | none => none
def zo_un (t : Nat) (ok : Int → Bool) (u : Nat) (f : Int → Int) : zF := fun _ i ls st S M => match st with
  | v :: r => if v.1 = t ∧ ok v.2 = true then some (i + 1, ls, (u, f v.2) :: r, S, M) else none
  | [] => none
def zo_bin (t : Nat) (ok : Int → Int → Bool) (f : Int → Int → Int) : zF := fun _ i ls st S M => match st with
  | w :: v :: r => if (w.1 = t ∧ v.1 = t) ∧ ok v.2 w.2 = true then some (i + 1, ls, (0, f v.2 w.2) :: r, S, M) else none
  | _ => none
def zinR (x : Int) : Bool := decide (-2147483648 ≤ x ∧ x ≤ 2147483647)
def zo_dup : zF := fun _ i ls st S M => match st with
  | v :: r => if v.1 ≠ 2 then some (i + 1, ls, v :: v :: r, S, M) else none
  | _ => none
def zo_pop : zF := fun _ i ls st S M => match st with
  | v :: r => if v.1 ≠ 2 then some (i + 1, ls, r, S, M) else none
  | _ => none
def zo_dup2 : zF := fun _ i ls st S M => match st with
  | v :: w :: r => if v.1 ≠ 2 ∧ w.1 ≠ 2 then some (i + 1, ls, v :: w :: v :: w :: r, S, M) else none
  | _ => none
def zo_if (f : Int → Bool) : zF := fun a i ls st S M => match st with
  | v :: r => if v.1 = 0 then some (if f v.2 = true then (zarg a 0).toNat else i + 1, ls, r, S, M) else none
  | _ => none
def zo_cmp (f : Int → Int → Bool) : zF := fun a i ls st S M => match st with
  | w :: v :: r => if w.1 = 0 ∧ v.1 = 0 then some (if f v.2 w.2 = true then (zarg a 0).toNat else i + 1, ls, r, S, M) else none
  | _ => none
def zo_goto : zF := fun a _ ls st S M => some ((zarg a 0).toNat, ls, st, S, M)
def zo_ifnull : zF := fun a i ls st S M => match st with
  | v :: r => if v.1 = 5 then some ((zarg a 0).toNat, ls, r, S, M) else if v.1 = 1 then some (i + 1, ls, r, S, M) else none
  | _ => none
def ztgt (a : List Int) (x : Int) : Int := if zarg a 0 ≤ x then (a.drop 2).getD (x - zarg a 0).toNat (zarg a 1) else zarg a 1
def zlook : List Int → Int → Int → Int
  | k :: t :: r, d, x => if x = k then t else zlook r d x
  | _, d, _ => d
def zo_table : zF := fun a _ ls st S M => match st with
  | v :: r => if v.1 = 0 then some ((ztgt a v.2).toNat, ls, r, S, M) else none
  | _ => none
def zo_lookup : zF := fun a _ ls st S M => match st with
  | v :: r => if v.1 = 0 then some ((zlook (a.drop 1) (zarg a 0) v.2).toNat, ls, r, S, M) else none
  | _ => none
def zo_getf : zF := fun a i ls st S M => match st with
  | v :: r => match zsh S v.2 with
    | some q => if v.1 = 1 ∧ q.1 = 0 ∧ (q.2.1 : Int) = zarg a 1 then
        (if zarg a 3 = 1 then some (i + 1, ls, zrf (q.2.2.getD (zarg a 2).toNat (-1)) :: r, S, M) else some (i + 1, ls, (0, M v.2 (zarg a 2)) :: r, S, M)) else none
    | none => none
  | _ => none
def zo_putf : zF := fun a i ls st S M => match st with
  | w :: v :: r => match zsh S v.2 with
    | some q => if v.1 = 1 ∧ q.1 = 0 ∧ (q.2.1 : Int) = zarg a 1 then
        (if zarg a 3 = 1 then (if w.1 = 1 ∧ (zarg a 2).toNat < q.2.2.length then some (i + 1, ls, r, zsetR S v.2 (zarg a 2).toNat w.2, M) else none)
         else if w.1 = 0 ∧ (zarg a 3 = 2 → w.2 = 0 ∨ w.2 = 1) then some (i + 1, ls, r, S, zup M v.2 (zarg a 2) w.2) else none) else none
    | none => none
  | _ => none
def zo_iald : zF := fun _ i ls st S M => match st with
  | w :: v :: r => match zsh S v.2 with
    | some q => if (w.1 = 0 ∧ v.1 = 1 ∧ q.1 = 1) ∧ 0 ≤ w.2 ∧ w.2 < (q.2.1 : Int) then some (i + 1, ls, (0, M v.2 w.2) :: r, S, M) else none
    | none => none
  | _ => none
def zo_bald : zF := fun _ i ls st S M => match st with
  | w :: v :: r => match zsh S v.2 with
    | some q => if (w.1 = 0 ∧ v.1 = 1 ∧ (q.1 = 2 ∨ q.1 = 3)) ∧ 0 ≤ w.2 ∧ w.2 < (q.2.1 : Int) then some (i + 1, ls, (0, M v.2 w.2) :: r, S, M) else none
    | none => none
  | _ => none
def zo_aald : zF := fun _ i ls st S M => match st with
  | w :: v :: r => match zsh S v.2 with
    | some q => if (w.1 = 0 ∧ v.1 = 1 ∧ (q.1 = 4 ∨ q.1 = 5)) ∧ 0 ≤ w.2 ∧ w.2 < (q.2.1 : Int) then
        some (i + 1, ls, (if q.1 = 4 then (1, q.2.2.getD 0 0 + w.2) else zrf (M v.2 w.2 - 1)) :: r, S, M) else none
    | none => none
  | _ => none
def zo_iast : zF := fun _ i ls st S M => match st with
  | x :: w :: v :: r => match zsh S v.2 with
    | some q => if (x.1 = 0 ∧ w.1 = 0 ∧ v.1 = 1 ∧ q.1 = 1) ∧ 0 ≤ w.2 ∧ w.2 < (q.2.1 : Int) then some (i + 1, ls, r, S, zup M v.2 w.2 x.2) else none
    | none => none
  | _ => none
def zo_bast : zF := fun _ i ls st S M => match st with
  | x :: w :: v :: r => match zsh S v.2 with
    | some q => if (x.1 = 0 ∧ w.1 = 0 ∧ v.1 = 1 ∧ (q.1 = 2 ∧ (-128 ≤ x.2 ∧ x.2 ≤ 127) ∨ q.1 = 3 ∧ (x.2 = 0 ∨ x.2 = 1))) ∧ 0 ≤ w.2 ∧ w.2 < (q.2.1 : Int) then some (i + 1, ls, r, S, zup M v.2 w.2 x.2) else none
    | none => none
  | _ => none
def zo_aast : zF := fun _ i ls st S M => match st with
  | x :: w :: v :: r => match zsh S v.2 with
    | some q => match zsh S x.2 with
      | some o => if (x.1 = 1 ∧ w.1 = 0 ∧ v.1 = 1 ∧ q.1 = 5 ∧ o.1 = 0 ∧ q.2.2.getD 0 0 = (o.2.1 : Int)) ∧ 0 ≤ w.2 ∧ w.2 < (q.2.1 : Int) then some (i + 1, ls, r, S, zup M v.2 w.2 (x.2 + 1)) else none
      | none => none
    | none => none
  | _ => none
def zo_alen : zF := fun _ i ls st S M => match st with
  | v :: r => match zsh S v.2 with
    | some q => if v.1 = 1 ∧ q.1 = 1 then some (i + 1, ls, (0, (q.2.1 : Int)) :: r, S, M) else none
    | none => none
  | _ => none
/-- how many fields a class has -/
def zNf : List Nat := [14, 15, 5, 9, 2, 3, 2, 4, 7, 8, 3, 4, 51]
def zo_new : zF := fun a i ls st S M => some (i + 1, ls, (1, (S.length : Int)) :: st, S ++ [(0, (zarg a 1).toNat, List.replicate (zNf.getD (zarg a 1).toNat 0) (-1))], M)
def zo_newa : zF := fun a i ls st S M => match st with
  | v :: r => if v.1 = 0 ∧ 0 ≤ v.2 ∧ v.2 ≤ 2000 then some (i + 1, ls, (1, (S.length : Int)) :: r, S ++ [((zarg a 0).toNat, v.2.toNat, [])], M) else none
  | _ => none
def zo_newq : zF := fun a i ls st S M => match st with
  | v :: r => if v.1 = 0 ∧ 0 ≤ v.2 ∧ v.2 ≤ 2000 then some (i + 1, ls, (1, (S.length : Int)) :: r, S ++ [(5, v.2.toNat, [zarg a 1])], M) else none
  | _ => none
def zo_newm : zF := fun _ i ls st S M => match st with
  | w :: v :: r => if (w.1 = 0 ∧ v.1 = 0) ∧ (0 ≤ v.2 ∧ v.2 ≤ 2000) ∧ 0 ≤ w.2 ∧ w.2 ≤ 2000 then some (i + 1, ls, (1, (S.length : Int)) :: r, S ++ (4, v.2.toNat, [(S.length : Int) + 1]) :: List.replicate v.2.toNat (1, w.2.toNat, []), M) else none
  | _ => none
def zo_obj : zF := fun _ i ls st S M => match st with
  | v :: r => if v.1 = 1 ∧ r.length ≤ 4 then some (i + 1, ls, r, S, M) else none
  | _ => none
def zo_copy : zF := fun _ i ls st S M => match st with
  | n :: dp :: d :: sp :: s :: r => match zsh S s.2 with
    | some q => match zsh S d.2 with
      | some o => if (n.1 = 0 ∧ dp.1 = 0 ∧ d.1 = 1 ∧ sp.1 = 0 ∧ s.1 = 1 ∧ q.1 = 1 ∧ o.1 = 1) ∧ (0 ≤ n.2 ∧ 0 ≤ dp.2 ∧ 0 ≤ sp.2 ∧ sp.2 + n.2 ≤ (q.2.1 : Int) ∧ dp.2 + n.2 ≤ (o.2.1 : Int)) ∧ s.2 ≠ d.2 ∧ r.length ≤ 4 then some (i + 1, ls, r, S, zcpy M s.2 sp.2 d.2 dp.2 n.2) else none
      | none => none
    | none => none
  | _ => none
def zo_min : zF := fun _ i ls st S M => match st with
  | w :: v :: r => if w.1 = 0 ∧ v.1 = 0 ∧ r.length ≤ 4 then some (i + 1, ls, (0, if v.2 ≤ w.2 then v.2 else w.2) :: r, S, M) else none
  | _ => none
def zo_abs : zF := fun _ i ls st S M => match st with
  | v :: r => if v.1 = 0 ∧ -2147483648 < v.2 ∧ r.length ≤ 4 then some (i + 1, ls, (0, if v.2 < 0 then -v.2 else v.2) :: r, S, M) else none
  | _ => none
def zo_text : zF := fun a i ls st S M => some (i + 1, ls, (4, zarg a 1) :: st, S, M)
def zo_tlen : zF := fun _ i ls st S M => match st with
  | v :: r => if v.1 = 4 ∧ (0 ≤ v.2 ∧ v.2 < 17) ∧ r.length ≤ 4 then some (i + 1, ls, (0, ((zTx.getD v.2.toNat []).length : Int)) :: r, S, M) else none
  | _ => none
def zo_char : zF := fun _ i ls st S M => match st with
  | w :: v :: r => if (w.1 = 0 ∧ v.1 = 4 ∧ r.length ≤ 4) ∧ (0 ≤ v.2 ∧ v.2 < 17) ∧ 0 ≤ w.2 ∧ w.2 < ((zTx.getD v.2.toNat []).length : Int) then some (i + 1, ls, (0, (zTx.getD v.2.toNat []).getD w.2.toNat 0) :: r, S, M) else none
  | _ => none
def zisI (t : Nat) : Bool := t == 0
def zisA (t : Nat) : Bool := t == 1 || t == 4
def zisL (t : Nat) : Bool := t == 2
def zOps : List zF := [zo_const, zo_lconst, zo_load zisI, zo_load zisA, zo_load zisL, zo_store zisI, zo_store zisA, zo_iinc,
  zo_bin 0 (fun x y => zinR (x + y)) (fun x y => x + y), zo_bin 0 (fun x y => zinR (x - y)) (fun x y => x - y), zo_bin 0 (fun x y => zinR (x * y)) (fun x y => x * y),
  zo_bin 0 (fun x y => decide (0 ≤ x ∧ 0 < y)) (fun x y => x % y), zo_bin 0 (fun x y => decide ((0 ≤ y ∧ y < 32) ∧ -2147483648 ≤ x * 2 ^ y.toNat ∧ x * 2 ^ y.toNat ≤ 2147483647)) (fun x y => x * 2 ^ y.toNat),
  zo_bin 0 (fun _ y => decide (0 ≤ y ∧ y < 32)) (fun x y => x / 2 ^ y.toNat), zo_bin 0 (fun _ y => decide (0 ≤ y ∧ y < 32)) zushr,
  zo_bin 0 (fun x y => decide ((y = 1 ∨ y = 63 ∨ y = 255) ∨ 0 ≤ x ∧ 0 ≤ y)) zand, zo_bin 0 (fun x y => decide (0 ≤ x ∧ 0 ≤ y)) zor,
  zo_un 0 (fun _ => true) 2 (fun x => x), zo_un 0 (fun _ => true) 0 zbyte, zo_bin 2 (fun _ _ => true) zlc, zo_dup, zo_pop, zo_dup2,
  zo_if (fun x => decide (x = 0)), zo_if (fun x => decide (x ≠ 0)), zo_if (fun x => decide (x < 0)), zo_if (fun x => decide (0 ≤ x)), zo_if (fun x => decide (0 < x)), zo_if (fun x => decide (x ≤ 0)),
  zo_cmp (fun x y => decide (x = y)), zo_cmp (fun x y => decide (x ≠ y)), zo_cmp (fun x y => decide (x < y)), zo_cmp (fun x y => decide (y ≤ x)), zo_cmp (fun x y => decide (y < x)), zo_cmp (fun x y => decide (x ≤ y)),
  zo_goto, zo_ifnull, zo_table, zo_lookup, zo_none, zo_getf, zo_putf, zo_iald, zo_bald, zo_aald, zo_iast, zo_bast, zo_aast, zo_alen,
  zo_new, zo_newa, zo_newq, zo_newm, zo_obj, zo_copy, zo_min, zo_abs, zo_text, zo_tlen, zo_char]
def zstep (q : zIn) : zF := fun _ i ls st S M => zOps.getD q.1 zo_none q.2 i ls st S M
def zloc0 : List zV → List zV
  | [] => []
  | v :: r => if v.1 = 2 then v :: (3, 0) :: zloc0 r else v :: zloc0 r
def zloc (vs : List zV) (n : Nat) : List zV := zloc0 vs ++ List.replicate (n - (zloc0 vs).length) (3, 0)
abbrev zPr : Type := List (List zIn × Nat × Nat × Nat)
/-- at a call: the method's fourth number is 0 (it answers nothing), 1 (a value), 3 (a value; it takes longs); only such a one is given longs; little is left on the stack -/
def zgive (r : Nat) (as rest : List zV) : Bool := (r == 3 || as.all (fun v => v.1 != 2)) && Nat.ble rest.length 4
/-- whom a method is called on: an object of its class (how 0), a cell (2); given the stack's part, the last of it first told -/
def zrecv (S : List zSh) (how cl : Int) (as : List zV) : Bool := if how = 1 then true else match as.getLast? with
  | none => false
  | some v => v.1 == 1 && (how == 2 || match zsh S v.2 with
    | some q => q.1 == 0 && ((q.2.1 : Int) == cl)
    | none => false)
/-- what a method's end answers -/
def zend (op : Nat) (st : List zV) : Option zV := match st with
  | [] => if op = 71 then some (3, 0) else none
  | [v] => if (op = 70 ∧ v.1 = 0) ∨ (op = 72 ∧ v.1 = 4) ∨ (op = 73 ∧ v.1 = 0 ∧ (v.2 = 0 ∨ v.2 = 1)) then some v else none
  | _ => none
/-- n steps at most; P: the methods -/
def zrun (P : zPr) : Nat → List zIn → Nat → List zV → List zV → List zSh → zM → Option (zV × List zSh × zM)
  | 0, _, _, _, _, _, _ => none
  | n + 1, c, i, ls, st, S, M => match c[i]? with
    | none => none
    | some q =>
      if q.1 = 60 then match P[(zarg q.2 2).toNat]? with
        | none => none
        | some y => if y.2.2.1 ≤ st.length ∧ (zgive y.2.2.2 (st.take y.2.2.1) (st.drop y.2.2.1) && zrecv S (zarg q.2 0) (zarg q.2 3) (st.take y.2.2.1)) = true then match zrun P n y.1 0 (zloc (st.take y.2.2.1).reverse y.2.1) [] S M with
            | none => none
            | some r => zrun P n c (i + 1) ls (if y.2.2.2 = 0 then st.drop y.2.2.1 else r.1 :: st.drop y.2.2.1) r.2.1 r.2.2
          else none
      else if 70 ≤ q.1 then match zend q.1 st with
        | none => none
        | some v => some (v, S, M)
      else match zstep q [] i ls st S M with
        | none => none
        | some r => zrun P n c r.1 r.2.1 r.2.2.1 r.2.2.2.1 r.2.2.2.2
theorem zrun_succ (P : zPr) (n : Nat) (c : List zIn) (i : Nat) (ls st : List zV) (S : List zSh) (M : zM) : zrun P (n + 1) c i ls st S M = (match c[i]? with
    | none => none
    | some q =>
      if q.1 = 60 then match P[(zarg q.2 2).toNat]? with
        | none => none
        | some y => if y.2.2.1 ≤ st.length ∧ (zgive y.2.2.2 (st.take y.2.2.1) (st.drop y.2.2.1) && zrecv S (zarg q.2 0) (zarg q.2 3) (st.take y.2.2.1)) = true then match zrun P n y.1 0 (zloc (st.take y.2.2.1).reverse y.2.1) [] S M with
            | none => none
            | some r => zrun P n c (i + 1) ls (if y.2.2.2 = 0 then st.drop y.2.2.1 else r.1 :: st.drop y.2.2.1) r.2.1 r.2.2
          else none
      else if 70 ≤ q.1 then match zend q.1 st with
        | none => none
        | some v => some (v, S, M)
      else match zstep q [] i ls st S M with
        | none => none
        | some r => zrun P n c r.1 r.2.1 r.2.2.1 r.2.2.2.1 r.2.2.2.2) := rfl
theorem zrun_step {P : zPr} {n : Nat} {c : List zIn} {i : Nat} {ls st : List zV} {S : List zSh} {M : zM} {q : zIn} {r : zR} (hc : c[i]? = some q) (h60 : q.1 < 60) (hs : zstep q [] i ls st S M = some r) : zrun P (n + 1) c i ls st S M = zrun P n c r.1 r.2.1 r.2.2.1 r.2.2.2.1 r.2.2.2.2 := by
  rw [zrun_succ, hc]
  dsimp only
  rw [if_neg (by omega), if_neg (by omega), hs]
theorem zrun_end {P : zPr} {n : Nat} {c : List zIn} {i : Nat} {ls st : List zV} {S : List zSh} {M : zM} {q : zIn} {v : zV} (hc : c[i]? = some q) (h70 : 70 ≤ q.1) (hs : zend q.1 st = some v) : zrun P (n + 1) c i ls st S M = some (v, S, M) := by
  rw [zrun_succ, hc]
  dsimp only
  rw [if_neg (by omega), if_pos h70, hs]
theorem zrun_call {P : zPr} {n : Nat} {c : List zIn} {i : Nat} {ls st : List zV} {S : List zSh} {M : zM} {q : zIn} {y : List zIn × Nat × Nat × Nat} {r : zV × List zSh × zM} (hc : c[i]? = some q) (h60 : q.1 = 60) (hy : P[(zarg q.2 2).toNat]? = some y) (hl : y.2.2.1 ≤ st.length ∧ (zgive y.2.2.2 (st.take y.2.2.1) (st.drop y.2.2.1) && zrecv S (zarg q.2 0) (zarg q.2 3) (st.take y.2.2.1)) = true) (hr : zrun P n y.1 0 (zloc (st.take y.2.2.1).reverse y.2.1) [] S M = some r) :
    zrun P (n + 1) c i ls st S M = zrun P n c (i + 1) ls (if y.2.2.2 = 0 then st.drop y.2.2.1 else r.1 :: st.drop y.2.2.1) r.2.1 r.2.2 := by
  rw [zrun_succ, hc]
  dsimp only
  rw [if_pos h60, hy]
  dsimp only
  rw [if_pos hl, hr]
theorem zrun_mono (P : zPr) : ∀ (n : Nat) (c : List zIn) (i : Nat) (ls st : List zV) (S : List zSh) (M : zM) (r : zV × List zSh × zM), zrun P n c i ls st S M = some r → zrun P (n + 1) c i ls st S M = some r := by
  intro n
  induction n with
  | zero => intro c i ls st S M r h; simp [zrun] at h
  | succ n ih =>
    intro c i ls st S M r h
    rw [zrun_succ] at h ⊢
    cases hc : c[i]? with
    | none => rw [hc] at h; exact h
    | some q =>
      rw [hc] at h
      dsimp only at h ⊢
      by_cases h60 : q.1 = 60
      · rw [if_pos h60] at h ⊢
        cases hP : P[(zarg q.2 2).toNat]? with
        | none => rw [hP] at h; exact h
        | some y =>
          rw [hP] at h
          dsimp only at h ⊢
          by_cases hl : y.2.2.1 ≤ st.length ∧ (zgive y.2.2.2 (st.take y.2.2.1) (st.drop y.2.2.1) && zrecv S (zarg q.2 0) (zarg q.2 3) (st.take y.2.2.1)) = true
          · rw [if_pos hl] at h ⊢
            cases hr : zrun P n y.1 0 (zloc (st.take y.2.2.1).reverse y.2.1) [] S M with
            | none => rw [hr] at h; cases h
            | some r1 =>
              rw [hr] at h
              rw [ih _ _ _ _ _ _ _ hr]
              exact ih _ _ _ _ _ _ _ h
          · rw [if_neg hl] at h; cases h
      · rw [if_neg h60] at h ⊢
        by_cases h70 : 70 ≤ q.1
        · rw [if_pos h70] at h ⊢; exact h
        · rw [if_neg h70] at h ⊢
          cases hs : zstep q [] i ls st S M with
          | none => rw [hs] at h; cases h
          | some r1 => rw [hs] at h; exact ih _ _ _ _ _ _ _ h
theorem zrun_le (P : zPr) {n m : Nat} (h : n ≤ m) {c : List zIn} {i : Nat} {ls st : List zV} {S : List zSh} {M : zM} {r : zV × List zSh × zM} (hr : zrun P n c i ls st S M = some r) : zrun P m c i ls st S M = some r := by
  induction h with
  | refl => exact hr
  | step _ ih => exact zrun_mono P _ _ _ _ _ _ _ _ ih
