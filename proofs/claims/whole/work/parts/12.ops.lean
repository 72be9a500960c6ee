/-! All rows together -/
theorem zTb_V {own : String} {idx : Nat} {y : MethodName} {b : ByteArray} {mL : Nat} {r : Option FieldType} (hl : Cond.methodLink own idx y ∈ zTb) (h : ∀ w ∈ ([.instanceMethod y, .selects y.cls y y, .initialized y.cls, .code y b mL r] : List Cond), w ∈ zJl) : GoodIn zTb (wsV own idx y.cls y (zWj y b mL r)) := by
  intro w hw
  unfold wsV at hw
  rcases List.mem_append.mp hw with h1 | h1
  · rcases List.mem_cons.mp h1 with rfl | h1
    · exact ⟨hl, zTb_good hl⟩
    · exact zJl_goodT w (h w (List.mem_append_left [Cond.code y b mL r] h1))
  · rcases List.mem_cons.mp h1 with rfl | h2
    · exact zJl_goodT _ (h _ (by simp))
    · exact zJl_goodT w h2
theorem zol_in {op own k : Nat} (h58 : op = 58 ∨ op = 59) (h : zOl.any (fun e => e.1 == op && (e.2.1 == own && e.2.2.1 == k)) = true) : Cond.methodLink (zC own) k (if op = 58 then zyLen else zyChr) ∈ zTb := by
  obtain ⟨q, hq, he⟩ := List.any_eq_true.mp h
  simp only [Bool.and_eq_true, beq_iff_eq] at he
  obtain ⟨e1, e2, e3⟩ := he
  have hw := of_decide_eq_true (List.all_eq_true.mp zw_ol q hq)
  rw [e1, e2, e3, if_neg (by omega), if_neg (by omega), if_neg (by omega), if_neg (by omega), if_neg (by omega)] at hw
  exact zTb_of hw rfl
theorem zlen_e : ∀ i, i < 17 → Int32.ofNat (zlenT i) = Int32.ofInt ((zTx.getD i []).length : Int) ∧ ((zTx.getD i []).length : Int) ≤ 100 := by decide +kernel
theorem zk_tlen : zOK 58 zo_tlen (zh_vi 58) := by
  intro p l e R s m args below meth c Q D adK adV A nL k pcs S0 ad0 cA0 own cc x n i a ls st S M r F hd hp hn hh hm ho hc hs hG
  unfold zo_tlen at ho
  split at ho
  · rename_i v rr
    split at ho
    · rename_i hi
      obtain ⟨hv, hi17, h4⟩ := hi
      cases ho
      intro ad cA H locs als hag hS0 hZ0 hl hL hst hlk hok hR hS
      unfold zh_vi at hh
      split at hh
      · rename_i kx
        simp only [Bool.and_eq_true, decide_eq_true_eq] at hh
        obtain ⟨e1, hany⟩ := hh
        have h13 := zol_lt hany
        obtain ⟨hx, hb, hml, hown, hts, hroom, hA, hf1, hf2, hnest, hao, haoa, hstr, htl, hss⟩ := F
        rw [if_neg (by omega)] at hown
        rw [zlen_of hn rfl] at hd hp
        have hr5 := hf2 ⟨_, hm, Or.inl rfl⟩
        have hi1 : v.2.toNat < 17 := by omega
        obtain ⟨q1, q2⟩ := zlen_e _ hi1
        have kk := hG ad cA H locs als hag hS0 hZ0 hl hL hst hlk (List.forall_mem_cons.mpr ⟨zint (by omega), (List.forall_mem_cons.mp hok).2⟩) hR hS
        rw [hp, List.map_cons, zcv_0, ← q1] at kk
        rw [List.map_cons, zcv_t hv]
        have hT : zTxt adK adV A s s.heap := ⟨hstr, hss⟩
        exact z_backP (va_runV (As := []) (rest := rr.map (zcv adK ad)) (C := "java/lang/String") ⟨hx, hb, hml, hown, hts⟩ (zc_len l adK adV A hi1) (cwV 0 hts (zTb_V (y := zyLen) (zol_in (Or.inl rfl) hany) (by decide +kernel)) rfl rfl rfl ⟨rfl, by decide, by decide, rfl⟩ ⟨by show 2 + 1 ≤ _; omega, by show 8 + (1 + 11) + 40 ≤ _; omega⟩) ⟨zPs_blind, vk_recv hstr hi1 hS, fun U hU hW => ⟨rfl, hT.carry hW.alike (fun q h1 h2 => by rw [hU]; exact hS.2.1 q h1 h2)⟩⟩ rfl rfl hl.1 rfl (lv_room (zcat_sum rr h4)) hd ⟨hc, hs⟩) kk
      · cases hh
    · cases ho
  · cases ho
theorem zch_e : ∀ i, i < 17 → ∀ k, k < zlenT i → zchT i k = Int32.ofInt ((zTx.getD i []).getD k 0) ∧ 0 ≤ (zTx.getD i []).getD k 0 ∧ (zTx.getD i []).getD k 0 ≤ 127 := by decide +kernel
theorem zlen_n : ∀ i, i < 17 → zlenT i = (zTx.getD i []).length := by decide +kernel
theorem zk_char : zOK 59 zo_char (zh_vi 59) := by
  intro p l e R s m args below meth c Q D adK adV A nL k pcs S0 ad0 cA0 own cc x n i a ls st S M r F hd hp hn hh hm ho hc hs hG
  unfold zo_char at ho
  split at ho
  · rename_i w v rr
    split at ho
    · rename_i hi
      obtain ⟨⟨hw, hv, h4⟩, hi17, hw0, hw1⟩ := hi
      cases ho
      intro ad cA H locs als hag hS0 hZ0 hl hL hst hlk hok hR hS
      unfold zh_vi at hh
      split at hh
      · rename_i kx
        simp only [Bool.and_eq_true, decide_eq_true_eq] at hh
        obtain ⟨e1, hany⟩ := hh
        have h13 := zol_lt hany
        obtain ⟨hx, hb, hml, hown, hts, hroom, hA, hf1, hf2, hnest, hao, haoa, hstr, htl, hss⟩ := F
        rw [if_neg (by omega)] at hown
        rw [zlen_of hn rfl] at hd hp
        have hr5 := hf2 ⟨_, hm, Or.inr rfl⟩
        have hi1 : v.2.toNat < 17 := by omega
        have hk1 : w.2.toNat < zlenT v.2.toNat := by rw [zlen_n _ hi1]; omega
        obtain ⟨q1, q2, q3⟩ := zch_e _ hi1 _ hk1
        have kk := hG ad cA H locs als hag hS0 hZ0 hl hL hst hlk (List.forall_mem_cons.mpr ⟨zint (by omega), (List.forall_mem_cons.mp (List.forall_mem_cons.mp hok).2).2⟩) hR hS
        rw [hp, List.map_cons, zcv_0, ← q1] at kk
        rw [List.map_cons, List.map_cons, zcv_i hw, zcv_t hv, show w.2 = ((w.2.toNat : Nat) : Int) by omega]
        have hT : zTxt adK adV A s s.heap := ⟨hstr, hss⟩
        exact z_backP (va_runV (As := [.int (Int32.ofInt ((w.2.toNat : Nat) : Int))]) (rest := rr.map (zcv adK ad)) (C := "java/lang/String") ⟨hx, hb, hml, hown, hts⟩ (zc_chr l adK adV A hi1 hk1) (cwV 1 hts (zTb_V (y := zyChr) (zol_in (Or.inr rfl) hany) (by decide +kernel)) rfl rfl rfl ⟨rfl, by decide, by decide, rfl⟩ ⟨by show 4 + 1 ≤ _; omega, by show 8 + (2 + 11) + 100 ≤ _; omega⟩) ⟨zPs_blind, vk_recv hstr hi1 hS, fun U hU hW => ⟨rfl, hT.carry hW.alike (fun q h1 h2 => by rw [hU]; exact hS.2.1 q h1 h2)⟩⟩ rfl rfl hl.1 rfl (lv_room (zcat_sum rr h4)) hd ⟨hc, hs⟩) kk
      · cases hh
    · cases ho
  · cases ho
theorem zk_iadd : zOK 8 (zo_bin 0 (fun x y => zinR (x + y)) (fun x y => x + y)) (zh_is .iadd) := zk_bin (fun u v => u + v) rfl (fun hx hb _ _ _ hd kk => lv_iadd hx hb hd kk) (fun u v h _ _ => ⟨zi_add u v, of_decide_eq_true h⟩)
theorem zk_isub : zOK 9 (zo_bin 0 (fun x y => zinR (x - y)) (fun x y => x - y)) (zh_is .isub) := zk_bin (fun u v => u - v) rfl (fun hx hb _ _ _ hd kk => lv_isub hx hb hd kk) (fun u v h _ _ => ⟨zi_sub u v, of_decide_eq_true h⟩)
theorem zk_imul : zOK 10 (zo_bin 0 (fun x y => zinR (x * y)) (fun x y => x * y)) (zh_is .imul) := zk_bin (fun u v => u * v) rfl (fun hx hb _ _ _ hd kk => lv_imul hx hb hd kk) (fun u v h _ _ => ⟨zi_mul u v, of_decide_eq_true h⟩)
theorem zk_irem : zOK 11 (zo_bin 0 (fun x y => decide (0 ≤ x ∧ 0 < y)) (fun x y => x % y)) (zh_is .irem) := zk_bin (fun u v => u - u / v * v) rfl (fun {_ _ _ _ _ _ _ _ _ _ _ _ _ _ _ _ _ _ _ u v} hx hb h _ rv hd kk => lv_irem hx hb hd (fun z => by
    rw [zi_0, zi_eq rv (by decide)] at z
    have := (of_decide_eq_true h).2
    omega) kk) (fun u v h ru rv => ⟨zi_ir (of_decide_eq_true h) ru rv, by
    have h := of_decide_eq_true h
    have h1 := Int.emod_nonneg u (show v ≠ 0 by omega)
    have h2 := Int.emod_lt_of_pos u h.2
    omega⟩)
theorem zk_ishl : zOK 12 (zo_bin 0 (fun x y => decide ((0 ≤ y ∧ y < 32) ∧ -2147483648 ≤ x * 2 ^ y.toNat ∧ x * 2 ^ y.toNat ≤ 2147483647)) (fun x y => x * 2 ^ y.toNat)) (zh_is .ishl) := zk_bin (fun u v => u <<< (v &&& 31)) rfl (fun hx hb _ _ _ hd kk => lv_ishl hx hb hd kk) (fun u v h _ _ => ⟨zi_sh (of_decide_eq_true h).1, (of_decide_eq_true h).2⟩)
theorem zk_ishr : zOK 13 (zo_bin 0 (fun _ y => decide (0 ≤ y ∧ y < 32)) (fun x y => x / 2 ^ y.toNat)) (zh_is .ishr) := zk_bin (fun u v => u >>> (v &&& 31)) rfl (fun hx hb _ _ _ hd kk => lv_ishr hx hb hd kk) (fun u v h ru _ => zi_sr (of_decide_eq_true h) ru)
theorem zk_iushr : zOK 14 (zo_bin 0 (fun _ y => decide (0 ≤ y ∧ y < 32)) zushr) (zh_is .iushr) := zk_bin (fun u v => (u.toUInt32 >>> (v.toUInt32 &&& Int32.toUInt32 31)).toInt32) rfl (fun hx hb _ _ _ hd kk => lv_iushr hx hb hd rfl kk) (fun u v h ru _ => zi_us (of_decide_eq_true h) ru)
theorem zk_iand : zOK 15 (zo_bin 0 (fun x y => decide ((y = 1 ∨ y = 63 ∨ y = 255) ∨ 0 ≤ x ∧ 0 ≤ y)) zand) (zh_is .iand) := zk_bin (fun u v => u &&& v) rfl (fun hx hb _ _ _ hd kk => lv_iand hx hb hd kk) (fun u v h ru rv => ⟨zi_and (of_decide_eq_true h) ru rv, by
    have h := of_decide_eq_true h
    unfold zand
    split
    · rename_i h1
      have h1' := Int.emod_nonneg u (show v + 1 ≠ 0 by omega)
      have h2 := Int.emod_lt_of_pos u (show 0 < v + 1 by omega)
      omega
    · rename_i h1
      have h2 := h.resolve_left h1
      have : u.toNat &&& v.toNat ≤ u.toNat := Nat.and_le_left
      omega⟩)
theorem zk_ior : zOK 16 (zo_bin 0 (fun x y => decide (0 ≤ x ∧ 0 ≤ y)) zor) (zh_is .ior) := zk_bin (fun u v => u ||| v) rfl (fun hx hb _ _ _ hd kk => lv_ior hx hb hd kk) (fun u v h ru rv => ⟨(zi_or (of_decide_eq_true h) ru rv).1, by unfold zor; omega, (zi_or (of_decide_eq_true h) ru rv).2⟩)
theorem zk_all : ∀ w ∈ (List.range 60).zip (zOps.zip (zHs.take 60)), zOK w.1 w.2.1 w.2.2 := by
  show ∀ w ∈ [(0, zo_const, zh_const), (1, zo_lconst, zh_lconst), (2, zo_load zisI, zh_iload), (3, zo_load zisA, zh_aload), (4, zo_load zisL, zh_lload), (5, zo_store zisI, zh_istore), (6, zo_store zisA, zh_astore), (7, zo_iinc, zh_iinc),
    (8, _, zh_is .iadd), (9, _, zh_is .isub), (10, _, zh_is .imul), (11, _, zh_is .irem), (12, _, zh_is .ishl), (13, _, zh_is .ishr), (14, _, zh_is .iushr), (15, _, zh_is .iand), (16, _, zh_is .ior), (17, _, zh_is .i2l), (18, _, zh_is .i2b), (19, _, zh_is .lcmp), (20, zo_dup, zh_is .dup), (21, zo_pop, zh_is .pop), (22, zo_dup2, zh_is .dup2),
    (23, _, zh_if .eq), (24, _, zh_if .ne), (25, _, zh_if .lt), (26, _, zh_if .ge), (27, _, zh_if .gt), (28, _, zh_if .le), (29, _, zh_cmp .eq), (30, _, zh_cmp .ne), (31, _, zh_cmp .lt), (32, _, zh_cmp .ge), (33, _, zh_cmp .gt), (34, _, zh_cmp .le),
    (35, zo_goto, zh_goto), (36, zo_ifnull, zh_ifnull), (37, zo_table, zh_table), (38, zo_lookup, zh_lookup), (39, zo_none, _), (40, zo_getf, zh_getf), (41, zo_putf, zh_putf), (42, zo_iald, _), (43, zo_bald, _), (44, zo_aald, _), (45, zo_iast, _), (46, zo_bast, _), (47, zo_aast, _), (48, zo_alen, _),
    (49, zo_new, zh_new), (50, zo_newa, zh_newa), (51, zo_newq, zh_newq), (52, zo_newm, zh_newm), (53, zo_obj, zh_obj), (54, zo_copy, zh_st 54), (55, zo_min, zh_st 55), (56, zo_abs, zh_st 56), (57, zo_text, zh_text), (58, zo_tlen, zh_vi 58), (59, zo_char, zh_vi 59)], zOK w.1 w.2.1 w.2.2
  simp only [List.forall_mem_cons]
  exact ⟨zk_const, zk_lconst, zk_iload, zk_aload, zk_lload, zk_istore, zk_astore, zk_iinc, zk_iadd, zk_isub, zk_imul, zk_irem, zk_ishl, zk_ishr, zk_iushr, zk_iand, zk_ior, zk_i2l, zk_i2b, zk_lcmp, zk_dup, zk_pop, zk_dup2,
    zk_ifeq, zk_ifne, zk_iflt, zk_ifge, zk_ifgt, zk_ifle, zk_iceq, zk_icne, zk_iclt, zk_icge, zk_icgt, zk_icle, zk_goto, zk_ifnull, zk_table, zk_lookup, zk_none _ _, zk_getf, zk_putf, zk_iald, zk_bald, zk_aald, zk_iast, zk_bast, zk_aast, zk_alen,
    zk_new, zk_newa, zk_newq, zk_newm, zk_obj, zk_copy, zk_min, zk_abs, zk_text, zk_tlen, zk_char, fun _ h => absurd h List.not_mem_nil⟩
theorem zk_op {op : Nat} (h : op < 60) : zOK op (zOps.getD op zo_none) (zHs.getD op (fun _ _ _ _ _ => false)) := by
  have hl : zOps.length = 60 := rfl
  have hl2 : (zHs.take 60).length = 60 := rfl
  have h1 : ((List.range 60).zip (zOps.zip (zHs.take 60)))[op]? = some (op, zOps.getD op zo_none, zHs.getD op (fun _ _ _ _ _ => false)) := by
    rw [List.getElem?_zip_eq_some]
    refine ⟨List.getElem?_range h, ?_⟩
    rw [List.getElem?_zip_eq_some]
    have hlt : op < zHs.length := by show op < 82; omega
    refine ⟨by rw [List.getD, List.getElem?_eq_getElem (by omega)]; rfl, ?_⟩
    rw [List.getElem?_take_of_lt h]
    show _ = some (zHs.getD op _)
    rw [List.getD, List.getElem?_eq_getElem hlt]
    rfl
  exact zk_all _ (List.mem_of_getElem? h1)
