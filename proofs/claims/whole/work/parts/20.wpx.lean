/-! More rules of the walk; rows of the memory; frames -/
section ZX
variable {c : List zIn} {i j : Nat} {ls st r : List zV} {M : zM} {Q : zV → zM → Prop} {a : List Int}
theorem zw_getIv {b cp cl s kd v : Int} (h : zFe c i j 40 [cp, cl, s, kd]) (hs : zcls zS0 b = some cl) (hk : kd ≠ 1) (hv : M b s = v) (k : zWp c j ls ((0, v) :: st) M Q) : zWp c i ls ((1, b) :: st) M Q := zw_getI h hs hk (by rw [hv]; exact k)
theorem zw_ialdv {b x v : Int} {n : Nat} (h : zFe c i j 42 a) (hs : zar zS0 b = some (1, n)) (hb : 0 ≤ x ∧ x < (n : Int)) (hv : M b x = v) (k : zWp c j ls ((0, v) :: st) M Q) : zWp c i ls ((0, x) :: (1, b) :: st) M Q := zw_iald h hs hb (by rw [hv]; exact k)
theorem zw_baldv {b x v : Int} {t n : Nat} (h : zFe c i j 43 a) (hs : zar zS0 b = some (t, n)) (ht : t = 2 ∨ t = 3) (hb : 0 ≤ x ∧ x < (n : Int)) (hv : M b x = v) (k : zWp c j ls ((0, v) :: st) M Q) : zWp c i ls ((0, x) :: (1, b) :: st) M Q := zw_bald h hs ht hb (by rw [hv]; exact k)
end ZX
theorem zlc_lt {x y : Int} : zlc x y < 0 ↔ x < y := by unfold zlc; split <;> (try split) <;> omega
theorem zlc_ge {x y : Int} : 0 ≤ zlc x y ↔ y ≤ x := by unfold zlc; split <;> (try split) <;> omega
theorem zlc_gt {x y : Int} : 0 < zlc x y ↔ y < x := by unfold zlc; split <;> (try split) <;> omega
theorem zlc_le {x y : Int} : zlc x y ≤ 0 ↔ x ≤ y := by unfold zlc; split <;> (try split) <;> omega
theorem zlc_eq {x y : Int} : zlc x y = 0 ↔ x = y := by unfold zlc; split <;> (try split) <;> omega
theorem zlc_ne {x y : Int} : zlc x y ≠ 0 ↔ x ≠ y := by unfold zlc; split <;> (try split) <;> omega
theorem ztgt_out {lo d x : Int} {ts : List Int} (h : x < lo ∨ lo + (ts.length : Int) ≤ x) : ztgt (lo :: d :: ts) x = d := by
  unfold ztgt
  split
  · rename_i h1
    have h1' : lo ≤ x := h1
    show ts.getD (x - lo).toNat d = d
    rw [List.getD, List.getElem?_eq_none (by omega)]
    rfl
  · rfl
theorem zup_row {M : zM} {a i v b : Int} (h : b ≠ a) : zup M a i v b = M b := funext fun _ => zup_na h
theorem zcpy_na {M : zM} {s sp d dp n b j : Int} (h : b ≠ d) : zcpy M s sp d dp n b j = M b j := if_neg (fun q => h q.1)
theorem zcpy_row {M : zM} {s sp d dp n b : Int} (h : b ≠ d) : zcpy M s sp d dp n b = M b := funext fun _ => zcpy_na h
/-- the two memories are alike but for the rows from lo to hi -/
def yfr (lo hi : Int) (M M' : zM) : Prop := ∀ b : Int, ¬ (lo ≤ b ∧ b ≤ hi) → M' b = M b
theorem yfr.rf {lo hi : Int} {M : zM} : yfr lo hi M M := fun _ _ => rfl
theorem yfr.tr {lo hi : Int} {M M1 M2 : zM} (h1 : yfr lo hi M M1) (h2 : yfr lo hi M1 M2) : yfr lo hi M M2 := fun b hb => (h2 b hb).trans (h1 b hb)
theorem yfr.up {lo hi a i v : Int} {M M1 : zM} (h : yfr lo hi M M1) (ha : lo ≤ a ∧ a ≤ hi) : yfr lo hi M (zup M1 a i v) := fun b hb => (zup_row (fun z => hb (by omega))).trans (h b hb)
theorem yfr.wd {lo hi lo' hi' : Int} {M M1 : zM} (h : yfr lo hi M M1) (h1 : lo' ≤ lo) (h2 : hi ≤ hi') : yfr lo' hi' M M1 := fun b hb => h b (by omega)
theorem zc_0 : zcls zS0 0 = some 0 := rfl
theorem zr_0_0 : zref zS0 0 0 0 = some 1 := rfl
theorem zr_0_4 : zref zS0 0 0 4 = some 2 := rfl
theorem zr_0_5 : zref zS0 0 0 5 = some 9 := rfl
theorem zr_0_6 : zref zS0 0 0 6 = some 81 := rfl
theorem zr_0_7 : zref zS0 0 0 7 = some 98 := rfl
theorem zr_0_8 : zref zS0 0 0 8 = some 105 := rfl
theorem zr_0_9 : zref zS0 0 0 9 = some 120 := rfl
theorem zr_0_10 : zref zS0 0 0 10 = some 126 := rfl
theorem zr_0_11 : zref zS0 0 0 11 = some 138 := rfl
theorem zr_0_12 : zref zS0 0 0 12 = some 140 := rfl
theorem zr_0_13 : zref zS0 0 0 13 = some 144 := rfl
theorem za_1 : zar zS0 1 = some (1, 400) := rfl
theorem zc_2 : zcls zS0 2 = some 10 := rfl
theorem zr_2_0 : zref zS0 2 10 0 = some 3 := rfl
theorem zr_2_1 : zref zS0 2 10 1 = some 8 := rfl
theorem zc_3 : zcls zS0 3 = some 9 := rfl
theorem zr_3_0 : zref zS0 3 9 0 = some 4 := rfl
theorem zr_3_1 : zref zS0 3 9 1 = some 5 := rfl
theorem zr_3_2 : zref zS0 3 9 2 = some 6 := rfl
theorem zr_3_3 : zref zS0 3 9 3 = some 7 := rfl
theorem za_4 : zar zS0 4 = some (1, 26) := rfl
theorem za_5 : zar zS0 5 = some (1, 26) := rfl
theorem za_6 : zar zS0 6 = some (1, 26) := rfl
theorem za_7 : zar zS0 7 = some (1, 26) := rfl
theorem za_8 : zar zS0 8 = some (1, 60) := rfl
theorem zc_9 : zcls zS0 9 = some 4 := rfl
theorem zr_9_1 : zref zS0 9 4 1 = some 10 := rfl
theorem za_10 : zar zS0 10 = some (5, 10) := rfl
theorem zc_11 : zcls zS0 11 = some 10 := rfl
theorem zr_11_0 : zref zS0 11 10 0 = some 12 := rfl
theorem zr_11_1 : zref zS0 11 10 1 = some 17 := rfl
theorem zc_12 : zcls zS0 12 = some 9 := rfl
theorem zr_12_0 : zref zS0 12 9 0 = some 13 := rfl
theorem zr_12_1 : zref zS0 12 9 1 = some 14 := rfl
theorem zr_12_2 : zref zS0 12 9 2 = some 15 := rfl
theorem zr_12_3 : zref zS0 12 9 3 = some 16 := rfl
theorem za_13 : zar zS0 13 = some (1, 26) := rfl
theorem za_14 : zar zS0 14 = some (1, 26) := rfl
theorem za_15 : zar zS0 15 = some (1, 26) := rfl
theorem za_16 : zar zS0 16 = some (1, 26) := rfl
theorem za_17 : zar zS0 17 = some (1, 60) := rfl
theorem zc_18 : zcls zS0 18 = some 10 := rfl
theorem zr_18_0 : zref zS0 18 10 0 = some 19 := rfl
theorem zr_18_1 : zref zS0 18 10 1 = some 24 := rfl
theorem zc_19 : zcls zS0 19 = some 9 := rfl
theorem zr_19_0 : zref zS0 19 9 0 = some 20 := rfl
theorem zr_19_1 : zref zS0 19 9 1 = some 21 := rfl
theorem zr_19_2 : zref zS0 19 9 2 = some 22 := rfl
theorem zr_19_3 : zref zS0 19 9 3 = some 23 := rfl
theorem za_20 : zar zS0 20 = some (1, 26) := rfl
theorem za_21 : zar zS0 21 = some (1, 26) := rfl
theorem za_22 : zar zS0 22 = some (1, 26) := rfl
theorem za_23 : zar zS0 23 = some (1, 26) := rfl
theorem za_24 : zar zS0 24 = some (1, 60) := rfl
theorem zc_25 : zcls zS0 25 = some 10 := rfl
theorem zr_25_0 : zref zS0 25 10 0 = some 26 := rfl
theorem zr_25_1 : zref zS0 25 10 1 = some 31 := rfl
theorem zc_26 : zcls zS0 26 = some 9 := rfl
theorem zr_26_0 : zref zS0 26 9 0 = some 27 := rfl
theorem zr_26_1 : zref zS0 26 9 1 = some 28 := rfl
theorem zr_26_2 : zref zS0 26 9 2 = some 29 := rfl
theorem zr_26_3 : zref zS0 26 9 3 = some 30 := rfl
theorem za_27 : zar zS0 27 = some (1, 26) := rfl
theorem za_28 : zar zS0 28 = some (1, 26) := rfl
theorem za_29 : zar zS0 29 = some (1, 26) := rfl
theorem za_30 : zar zS0 30 = some (1, 26) := rfl
theorem za_31 : zar zS0 31 = some (1, 60) := rfl
theorem zc_32 : zcls zS0 32 = some 10 := rfl
theorem zr_32_0 : zref zS0 32 10 0 = some 33 := rfl
theorem zr_32_1 : zref zS0 32 10 1 = some 38 := rfl
theorem zc_33 : zcls zS0 33 = some 9 := rfl
theorem zr_33_0 : zref zS0 33 9 0 = some 34 := rfl
theorem zr_33_1 : zref zS0 33 9 1 = some 35 := rfl
theorem zr_33_2 : zref zS0 33 9 2 = some 36 := rfl
theorem zr_33_3 : zref zS0 33 9 3 = some 37 := rfl
theorem za_34 : zar zS0 34 = some (1, 26) := rfl
theorem za_35 : zar zS0 35 = some (1, 26) := rfl
theorem za_36 : zar zS0 36 = some (1, 26) := rfl
theorem za_37 : zar zS0 37 = some (1, 26) := rfl
theorem za_38 : zar zS0 38 = some (1, 60) := rfl
theorem zc_39 : zcls zS0 39 = some 10 := rfl
theorem zr_39_0 : zref zS0 39 10 0 = some 40 := rfl
theorem zr_39_1 : zref zS0 39 10 1 = some 45 := rfl
theorem zc_40 : zcls zS0 40 = some 9 := rfl
theorem zr_40_0 : zref zS0 40 9 0 = some 41 := rfl
theorem zr_40_1 : zref zS0 40 9 1 = some 42 := rfl
theorem zr_40_2 : zref zS0 40 9 2 = some 43 := rfl
theorem zr_40_3 : zref zS0 40 9 3 = some 44 := rfl
theorem za_41 : zar zS0 41 = some (1, 26) := rfl
theorem za_42 : zar zS0 42 = some (1, 26) := rfl
theorem za_43 : zar zS0 43 = some (1, 26) := rfl
theorem za_44 : zar zS0 44 = some (1, 26) := rfl
theorem za_45 : zar zS0 45 = some (1, 60) := rfl
theorem zc_46 : zcls zS0 46 = some 10 := rfl
theorem zr_46_0 : zref zS0 46 10 0 = some 47 := rfl
theorem zr_46_1 : zref zS0 46 10 1 = some 52 := rfl
theorem zc_47 : zcls zS0 47 = some 9 := rfl
theorem zr_47_0 : zref zS0 47 9 0 = some 48 := rfl
theorem zr_47_1 : zref zS0 47 9 1 = some 49 := rfl
theorem zr_47_2 : zref zS0 47 9 2 = some 50 := rfl
theorem zr_47_3 : zref zS0 47 9 3 = some 51 := rfl
theorem za_48 : zar zS0 48 = some (1, 26) := rfl
theorem za_49 : zar zS0 49 = some (1, 26) := rfl
theorem za_50 : zar zS0 50 = some (1, 26) := rfl
theorem za_51 : zar zS0 51 = some (1, 26) := rfl
theorem za_52 : zar zS0 52 = some (1, 60) := rfl
theorem zc_53 : zcls zS0 53 = some 10 := rfl
theorem zr_53_0 : zref zS0 53 10 0 = some 54 := rfl
theorem zr_53_1 : zref zS0 53 10 1 = some 59 := rfl
theorem zc_54 : zcls zS0 54 = some 9 := rfl
theorem zr_54_0 : zref zS0 54 9 0 = some 55 := rfl
theorem zr_54_1 : zref zS0 54 9 1 = some 56 := rfl
theorem zr_54_2 : zref zS0 54 9 2 = some 57 := rfl
theorem zr_54_3 : zref zS0 54 9 3 = some 58 := rfl
theorem za_55 : zar zS0 55 = some (1, 26) := rfl
theorem za_56 : zar zS0 56 = some (1, 26) := rfl
theorem za_57 : zar zS0 57 = some (1, 26) := rfl
theorem za_58 : zar zS0 58 = some (1, 26) := rfl
theorem za_59 : zar zS0 59 = some (1, 60) := rfl
theorem zc_60 : zcls zS0 60 = some 10 := rfl
theorem zr_60_0 : zref zS0 60 10 0 = some 61 := rfl
theorem zr_60_1 : zref zS0 60 10 1 = some 66 := rfl
theorem zc_61 : zcls zS0 61 = some 9 := rfl
theorem zr_61_0 : zref zS0 61 9 0 = some 62 := rfl
theorem zr_61_1 : zref zS0 61 9 1 = some 63 := rfl
theorem zr_61_2 : zref zS0 61 9 2 = some 64 := rfl
theorem zr_61_3 : zref zS0 61 9 3 = some 65 := rfl
theorem za_62 : zar zS0 62 = some (1, 26) := rfl
theorem za_63 : zar zS0 63 = some (1, 26) := rfl
theorem za_64 : zar zS0 64 = some (1, 26) := rfl
theorem za_65 : zar zS0 65 = some (1, 26) := rfl
theorem za_66 : zar zS0 66 = some (1, 60) := rfl
theorem zc_67 : zcls zS0 67 = some 10 := rfl
theorem zr_67_0 : zref zS0 67 10 0 = some 68 := rfl
theorem zr_67_1 : zref zS0 67 10 1 = some 73 := rfl
theorem zc_68 : zcls zS0 68 = some 9 := rfl
theorem zr_68_0 : zref zS0 68 9 0 = some 69 := rfl
theorem zr_68_1 : zref zS0 68 9 1 = some 70 := rfl
theorem zr_68_2 : zref zS0 68 9 2 = some 71 := rfl
theorem zr_68_3 : zref zS0 68 9 3 = some 72 := rfl
theorem za_69 : zar zS0 69 = some (1, 26) := rfl
theorem za_70 : zar zS0 70 = some (1, 26) := rfl
theorem za_71 : zar zS0 71 = some (1, 26) := rfl
theorem za_72 : zar zS0 72 = some (1, 26) := rfl
theorem za_73 : zar zS0 73 = some (1, 60) := rfl
theorem zc_74 : zcls zS0 74 = some 10 := rfl
theorem zr_74_0 : zref zS0 74 10 0 = some 75 := rfl
theorem zr_74_1 : zref zS0 74 10 1 = some 80 := rfl
theorem zc_75 : zcls zS0 75 = some 9 := rfl
theorem zr_75_0 : zref zS0 75 9 0 = some 76 := rfl
theorem zr_75_1 : zref zS0 75 9 1 = some 77 := rfl
theorem zr_75_2 : zref zS0 75 9 2 = some 78 := rfl
theorem zr_75_3 : zref zS0 75 9 3 = some 79 := rfl
theorem za_76 : zar zS0 76 = some (1, 26) := rfl
theorem za_77 : zar zS0 77 = some (1, 26) := rfl
theorem za_78 : zar zS0 78 = some (1, 26) := rfl
theorem za_79 : zar zS0 79 = some (1, 26) := rfl
theorem za_80 : zar zS0 80 = some (1, 60) := rfl
theorem zc_81 : zcls zS0 81 = some 6 := rfl
theorem zr_81_0 : zref zS0 81 6 0 = some 82 := rfl
theorem zr_81_1 : zref zS0 81 6 1 = some 83 := rfl
theorem za_82 : zar zS0 82 = some (5, 2) := rfl
theorem za_83 : zar zS0 83 = some (3, 2) := rfl
theorem zc_84 : zcls zS0 84 = some 10 := rfl
theorem zr_84_0 : zref zS0 84 10 0 = some 85 := rfl
theorem zr_84_1 : zref zS0 84 10 1 = some 90 := rfl
theorem zc_85 : zcls zS0 85 = some 9 := rfl
theorem zr_85_0 : zref zS0 85 9 0 = some 86 := rfl
theorem zr_85_1 : zref zS0 85 9 1 = some 87 := rfl
theorem zr_85_2 : zref zS0 85 9 2 = some 88 := rfl
theorem zr_85_3 : zref zS0 85 9 3 = some 89 := rfl
theorem za_86 : zar zS0 86 = some (1, 26) := rfl
theorem za_87 : zar zS0 87 = some (1, 26) := rfl
theorem za_88 : zar zS0 88 = some (1, 26) := rfl
theorem za_89 : zar zS0 89 = some (1, 26) := rfl
theorem za_90 : zar zS0 90 = some (1, 60) := rfl
theorem zc_91 : zcls zS0 91 = some 10 := rfl
theorem zr_91_0 : zref zS0 91 10 0 = some 92 := rfl
theorem zr_91_1 : zref zS0 91 10 1 = some 97 := rfl
theorem zc_92 : zcls zS0 92 = some 9 := rfl
theorem zr_92_0 : zref zS0 92 9 0 = some 93 := rfl
theorem zr_92_1 : zref zS0 92 9 1 = some 94 := rfl
theorem zr_92_2 : zref zS0 92 9 2 = some 95 := rfl
theorem zr_92_3 : zref zS0 92 9 3 = some 96 := rfl
theorem za_93 : zar zS0 93 = some (1, 26) := rfl
theorem za_94 : zar zS0 94 = some (1, 26) := rfl
theorem za_95 : zar zS0 95 = some (1, 26) := rfl
theorem za_96 : zar zS0 96 = some (1, 26) := rfl
theorem za_97 : zar zS0 97 = some (1, 60) := rfl
theorem zc_98 : zcls zS0 98 = some 8 := rfl
theorem zr_98_0 : zref zS0 98 8 0 = some 99 := rfl
theorem zr_98_3 : zref zS0 98 8 3 = some 104 := rfl
theorem zc_99 : zcls zS0 99 = some 9 := rfl
theorem zr_99_0 : zref zS0 99 9 0 = some 100 := rfl
theorem zr_99_1 : zref zS0 99 9 1 = some 101 := rfl
theorem zr_99_2 : zref zS0 99 9 2 = some 102 := rfl
theorem zr_99_3 : zref zS0 99 9 3 = some 103 := rfl
theorem za_100 : zar zS0 100 = some (1, 26) := rfl
theorem za_101 : zar zS0 101 = some (1, 26) := rfl
theorem za_102 : zar zS0 102 = some (1, 26) := rfl
theorem za_103 : zar zS0 103 = some (1, 26) := rfl
theorem za_104 : zar zS0 104 = some (1, 400) := rfl
theorem zc_105 : zcls zS0 105 = some 2 := rfl
theorem zr_105_2 : zref zS0 105 2 2 = some 106 := rfl
theorem zr_105_3 : zref zS0 105 2 3 = some 107 := rfl
theorem zr_105_4 : zref zS0 105 2 4 = some 108 := rfl
theorem za_106 : zar zS0 106 = some (1, 60) := rfl
theorem za_107 : zar zS0 107 = some (1, 60) := rfl
theorem za_108 : zar zS0 108 = some (4, 11) := rfl
theorem zrw_108 : zrow zS0 108 = some (11, 109) := rfl
theorem za_109 : zar zS0 109 = some (1, 60) := rfl
theorem za_110 : zar zS0 110 = some (1, 60) := rfl
theorem za_111 : zar zS0 111 = some (1, 60) := rfl
theorem za_112 : zar zS0 112 = some (1, 60) := rfl
theorem za_113 : zar zS0 113 = some (1, 60) := rfl
theorem za_114 : zar zS0 114 = some (1, 60) := rfl
theorem za_115 : zar zS0 115 = some (1, 60) := rfl
theorem za_116 : zar zS0 116 = some (1, 60) := rfl
theorem za_117 : zar zS0 117 = some (1, 60) := rfl
theorem za_118 : zar zS0 118 = some (1, 60) := rfl
theorem za_119 : zar zS0 119 = some (1, 60) := rfl
theorem zc_120 : zcls zS0 120 = some 1 := rfl
theorem zr_120_10 : zref zS0 120 1 10 = some 121 := rfl
theorem zr_120_11 : zref zS0 120 1 11 = some 122 := rfl
theorem zr_120_12 : zref zS0 120 1 12 = some 123 := rfl
theorem zr_120_13 : zref zS0 120 1 13 = some 124 := rfl
theorem zr_120_14 : zref zS0 120 1 14 = some 125 := rfl
theorem za_121 : zar zS0 121 = some (1, 60) := rfl
theorem za_122 : zar zS0 122 = some (1, 60) := rfl
theorem za_123 : zar zS0 123 = some (1, 60) := rfl
theorem za_124 : zar zS0 124 = some (1, 60) := rfl
theorem za_125 : zar zS0 125 = some (3, 60) := rfl
theorem zc_126 : zcls zS0 126 = some 3 := rfl
theorem zr_126_1 : zref zS0 126 3 1 = some 127 := rfl
theorem zr_126_2 : zref zS0 126 3 2 = some 135 := rfl
theorem zr_126_3 : zref zS0 126 3 3 = some 136 := rfl
theorem zr_126_4 : zref zS0 126 3 4 = some 137 := rfl
theorem zr_126_5 : zref zS0 126 3 5 = some 2 := rfl
theorem zr_126_6 : zref zS0 126 3 6 = some 105 := rfl
theorem zr_126_7 : zref zS0 126 3 7 = some 120 := rfl
theorem za_127 : zar zS0 127 = some (4, 7) := rfl
theorem zrw_127 : zrow zS0 127 = some (7, 128) := rfl
theorem za_128 : zar zS0 128 = some (1, 180) := rfl
theorem za_129 : zar zS0 129 = some (1, 180) := rfl
theorem za_130 : zar zS0 130 = some (1, 180) := rfl
theorem za_131 : zar zS0 131 = some (1, 180) := rfl
theorem za_132 : zar zS0 132 = some (1, 180) := rfl
theorem za_133 : zar zS0 133 = some (1, 180) := rfl
theorem za_134 : zar zS0 134 = some (1, 180) := rfl
theorem za_135 : zar zS0 135 = some (1, 60) := rfl
theorem za_136 : zar zS0 136 = some (1, 61) := rfl
theorem za_137 : zar zS0 137 = some (1, 61) := rfl
theorem zc_138 : zcls zS0 138 = some 7 := rfl
theorem zr_138_1 : zref zS0 138 7 1 = some 139 := rfl
theorem zr_138_2 : zref zS0 138 7 2 = some 2 := rfl
theorem zr_138_3 : zref zS0 138 7 3 = some 105 := rfl
theorem za_139 : zar zS0 139 = some (1, 120) := rfl
theorem zc_140 : zcls zS0 140 = some 11 := rfl
theorem zr_140_1 : zref zS0 140 11 1 = some 141 := rfl
theorem zr_140_2 : zref zS0 140 11 2 = some 142 := rfl
theorem zr_140_3 : zref zS0 140 11 3 = some 143 := rfl
theorem za_141 : zar zS0 141 = some (1, 61) := rfl
theorem za_142 : zar zS0 142 = some (1, 61) := rfl
theorem za_143 : zar zS0 143 = some (1, 61) := rfl
theorem zc_144 : zcls zS0 144 = some 5 := rfl
theorem zr_144_1 : zref zS0 144 5 1 = some 145 := rfl
theorem zr_144_2 : zref zS0 144 5 2 = some 146 := rfl
theorem za_145 : zar zS0 145 = some (1, 60) := rfl
theorem za_146 : zar zS0 146 = some (4, 61) := rfl
theorem zrw_146 : zrow zS0 146 = some (61, 147) := rfl
theorem za_147 : zar zS0 147 = some (1, 10) := rfl
theorem za_148 : zar zS0 148 = some (1, 10) := rfl
theorem za_149 : zar zS0 149 = some (1, 10) := rfl
theorem za_150 : zar zS0 150 = some (1, 10) := rfl
theorem za_151 : zar zS0 151 = some (1, 10) := rfl
theorem za_152 : zar zS0 152 = some (1, 10) := rfl
theorem za_153 : zar zS0 153 = some (1, 10) := rfl
theorem za_154 : zar zS0 154 = some (1, 10) := rfl
theorem za_155 : zar zS0 155 = some (1, 10) := rfl
theorem za_156 : zar zS0 156 = some (1, 10) := rfl
theorem za_157 : zar zS0 157 = some (1, 10) := rfl
theorem za_158 : zar zS0 158 = some (1, 10) := rfl
theorem za_159 : zar zS0 159 = some (1, 10) := rfl
theorem za_160 : zar zS0 160 = some (1, 10) := rfl
theorem za_161 : zar zS0 161 = some (1, 10) := rfl
theorem za_162 : zar zS0 162 = some (1, 10) := rfl
theorem za_163 : zar zS0 163 = some (1, 10) := rfl
theorem za_164 : zar zS0 164 = some (1, 10) := rfl
theorem za_165 : zar zS0 165 = some (1, 10) := rfl
theorem za_166 : zar zS0 166 = some (1, 10) := rfl
theorem za_167 : zar zS0 167 = some (1, 10) := rfl
theorem za_168 : zar zS0 168 = some (1, 10) := rfl
theorem za_169 : zar zS0 169 = some (1, 10) := rfl
theorem za_170 : zar zS0 170 = some (1, 10) := rfl
theorem za_171 : zar zS0 171 = some (1, 10) := rfl
theorem za_172 : zar zS0 172 = some (1, 10) := rfl
theorem za_173 : zar zS0 173 = some (1, 10) := rfl
theorem za_174 : zar zS0 174 = some (1, 10) := rfl
theorem za_175 : zar zS0 175 = some (1, 10) := rfl
theorem za_176 : zar zS0 176 = some (1, 10) := rfl
theorem za_177 : zar zS0 177 = some (1, 10) := rfl
theorem za_178 : zar zS0 178 = some (1, 10) := rfl
theorem za_179 : zar zS0 179 = some (1, 10) := rfl
theorem za_180 : zar zS0 180 = some (1, 10) := rfl
theorem za_181 : zar zS0 181 = some (1, 10) := rfl
theorem za_182 : zar zS0 182 = some (1, 10) := rfl
theorem za_183 : zar zS0 183 = some (1, 10) := rfl
theorem za_184 : zar zS0 184 = some (1, 10) := rfl
theorem za_185 : zar zS0 185 = some (1, 10) := rfl
theorem za_186 : zar zS0 186 = some (1, 10) := rfl
theorem za_187 : zar zS0 187 = some (1, 10) := rfl
theorem za_188 : zar zS0 188 = some (1, 10) := rfl
theorem za_189 : zar zS0 189 = some (1, 10) := rfl
theorem za_190 : zar zS0 190 = some (1, 10) := rfl
theorem za_191 : zar zS0 191 = some (1, 10) := rfl
theorem za_192 : zar zS0 192 = some (1, 10) := rfl
theorem za_193 : zar zS0 193 = some (1, 10) := rfl
theorem za_194 : zar zS0 194 = some (1, 10) := rfl
theorem za_195 : zar zS0 195 = some (1, 10) := rfl
theorem za_196 : zar zS0 196 = some (1, 10) := rfl
theorem za_197 : zar zS0 197 = some (1, 10) := rfl
theorem za_198 : zar zS0 198 = some (1, 10) := rfl
theorem za_199 : zar zS0 199 = some (1, 10) := rfl
theorem za_200 : zar zS0 200 = some (1, 10) := rfl
theorem za_201 : zar zS0 201 = some (1, 10) := rfl
theorem za_202 : zar zS0 202 = some (1, 10) := rfl
theorem za_203 : zar zS0 203 = some (1, 10) := rfl
theorem za_204 : zar zS0 204 = some (1, 10) := rfl
theorem za_205 : zar zS0 205 = some (1, 10) := rfl
theorem za_206 : zar zS0 206 = some (1, 10) := rfl
theorem za_207 : zar zS0 207 = some (1, 10) := rfl
theorem zc_208 : zcls zS0 208 = some 12 := rfl
theorem zr_208_1 : zref zS0 208 12 1 = some 209 := rfl
theorem zr_208_2 : zref zS0 208 12 2 = some 210 := rfl
theorem zr_208_4 : zref zS0 208 12 4 = some 211 := rfl
theorem zr_208_5 : zref zS0 208 12 5 = some 212 := rfl
theorem zr_208_6 : zref zS0 208 12 6 = some 213 := rfl
theorem zr_208_7 : zref zS0 208 12 7 = some 214 := rfl
theorem zr_208_8 : zref zS0 208 12 8 = some 215 := rfl
theorem zr_208_9 : zref zS0 208 12 9 = some 216 := rfl
theorem zr_208_10 : zref zS0 208 12 10 = some 217 := rfl
theorem zr_208_11 : zref zS0 208 12 11 = some 218 := rfl
theorem zr_208_12 : zref zS0 208 12 12 = some 219 := rfl
theorem zr_208_13 : zref zS0 208 12 13 = some 220 := rfl
theorem zr_208_14 : zref zS0 208 12 14 = some 221 := rfl
theorem zr_208_16 : zref zS0 208 12 16 = some 222 := rfl
theorem zr_208_17 : zref zS0 208 12 17 = some 223 := rfl
theorem zr_208_18 : zref zS0 208 12 18 = some 224 := rfl
theorem zr_208_19 : zref zS0 208 12 19 = some 225 := rfl
theorem zr_208_20 : zref zS0 208 12 20 = some 226 := rfl
theorem zr_208_23 : zref zS0 208 12 23 = some 227 := rfl
theorem zr_208_24 : zref zS0 208 12 24 = some 228 := rfl
theorem zr_208_25 : zref zS0 208 12 25 = some 229 := rfl
theorem zr_208_26 : zref zS0 208 12 26 = some 230 := rfl
theorem zr_208_27 : zref zS0 208 12 27 = some 231 := rfl
theorem zr_208_28 : zref zS0 208 12 28 = some 232 := rfl
theorem zr_208_29 : zref zS0 208 12 29 = some 233 := rfl
theorem zr_208_30 : zref zS0 208 12 30 = some 234 := rfl
theorem zr_208_32 : zref zS0 208 12 32 = some 235 := rfl
theorem zr_208_34 : zref zS0 208 12 34 = some 236 := rfl
theorem zr_208_40 : zref zS0 208 12 40 = some 237 := rfl
theorem zr_208_42 : zref zS0 208 12 42 = some 238 := rfl
theorem zr_208_44 : zref zS0 208 12 44 = some 239 := rfl
theorem zr_208_45 : zref zS0 208 12 45 = some 240 := rfl
theorem zr_208_47 : zref zS0 208 12 47 = some 241 := rfl
theorem zr_208_48 : zref zS0 208 12 48 = some 242 := rfl
theorem zr_208_49 : zref zS0 208 12 49 = some 243 := rfl
theorem za_209 : zar zS0 209 = some (1, 546) := rfl
theorem za_210 : zar zS0 210 = some (1, 1820) := rfl
theorem za_211 : zar zS0 211 = some (3, 2) := rfl
theorem za_212 : zar zS0 212 = some (1, 61) := rfl
theorem za_213 : zar zS0 213 = some (1, 60) := rfl
theorem za_214 : zar zS0 214 = some (1, 60) := rfl
theorem za_215 : zar zS0 215 = some (1, 60) := rfl
theorem za_216 : zar zS0 216 = some (1, 60) := rfl
theorem za_217 : zar zS0 217 = some (1, 60) := rfl
theorem za_218 : zar zS0 218 = some (1, 60) := rfl
theorem za_219 : zar zS0 219 = some (1, 60) := rfl
theorem za_220 : zar zS0 220 = some (1, 60) := rfl
theorem za_221 : zar zS0 221 = some (1, 61) := rfl
theorem za_222 : zar zS0 222 = some (1, 60) := rfl
theorem za_223 : zar zS0 223 = some (1, 60) := rfl
theorem za_224 : zar zS0 224 = some (1, 60) := rfl
theorem za_225 : zar zS0 225 = some (1, 60) := rfl
theorem za_226 : zar zS0 226 = some (3, 60) := rfl
theorem za_227 : zar zS0 227 = some (1, 180) := rfl
theorem za_228 : zar zS0 228 = some (1, 180) := rfl
theorem za_229 : zar zS0 229 = some (1, 180) := rfl
theorem za_230 : zar zS0 230 = some (1, 180) := rfl
theorem za_231 : zar zS0 231 = some (1, 180) := rfl
theorem za_232 : zar zS0 232 = some (1, 180) := rfl
theorem za_233 : zar zS0 233 = some (1, 180) := rfl
theorem za_234 : zar zS0 234 = some (1, 60) := rfl
theorem za_235 : zar zS0 235 = some (1, 120) := rfl
theorem za_236 : zar zS0 236 = some (2, 400) := rfl
theorem za_237 : zar zS0 237 = some (1, 122) := rfl
theorem za_238 : zar zS0 238 = some (2, 111) := rfl
theorem za_239 : zar zS0 239 = some (1, 549) := rfl
theorem za_240 : zar zS0 240 = some (1, 60) := rfl
theorem za_241 : zar zS0 241 = some (1, 60) := rfl
theorem za_242 : zar zS0 242 = some (1, 61) := rfl
theorem za_243 : zar zS0 243 = some (1, 61) := rfl
