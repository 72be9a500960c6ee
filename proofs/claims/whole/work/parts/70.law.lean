/-! The law's own run: the script is the text 17 -/
def zpsL : List Nat := [0,3,4,7,8,11,12,15,16,17,18,19,20,21,23,24,27,28,29,30,32,33,220,221,222,223,224,225,226,227,228,229,230,231,232,233,234,235,236,237,238,239,240,241,242,243,244,245,246,249,250,251,252,253,254,255,256,257,258,259,260,261,262,263,264,265,266,267,268,269,270,271,272,273,274,275,278,281,282,283,284,285,286,287,288,289,292,293,294,295,296,297,298,301,304,305,306,307,308,309,310,311,312,315,316,317,318,319,320,321,324,327,328,329,330,331,332,333,334,335,338,339,340,341,342,343,344,347,350,351,352,353,354,355,356,357,358,359,360,361,362,363,366,367,368,369,370,371,372,373,374,375,376,377,380,383,384,385,386,387,388,389,390,391,394,395,396,397,398,399,400,403,406,407,408,409,410,411,412,413,414,417,418,419,420,421,422,423,426,429,430,431,432,435,436,439,442,443,444,445,448,449,452,455,456,457,458,459,460,461,462,463,464,465,466,467,468,471,472,473,474,475,476,477,478,479,480,481,482,485,488,489,490,491,492,493,494,495,496,497,498,499,500,501,504,505,506,507,508,509,510,511,512,513,514,515,518,521,522,523,524,525,526,527,528,529,532,533,534,535,536,537,538,541,544,545,546,547,550,551,554,557,558,559,560,561,562,563,564,565,566,567,568,569,570,573,574,575,576,577,578,579,580,581,582,583,584,587,590,591,592,593,594,595,596,597,598,601,602,603,604,605,606,607,610,613,614,615,616,617,618,619,620,621,624,625,626,627,628,629,630,633,636,637,638,639,640,641,642,643,644,647,648,649,650,651,652,653,656,659,660,661,662,663,664,665,666,667,670,671,672,673,674,675,676,679,682,683,684,685,688,689,692,695,696,697,698,701,702,705,708,709,710,711,712,713,714,715,716,717,718,719,720,721,724,725,726,727,728,729,730,731,732,733,734,735,738,741,742,743,744,745,746,747,748,749,752,753,754,755,756,757,758,761,764,765,766,767,768,769,770,771,772,775,776,777,778,779,780,781,784,787,788,789,790,793,794,797,800,801,802,803,806,807,810,813,814,815,816,817,818,819,820,821,824,825,826,827,828,829,830,833,836,837,838,839,840,841,842,843,844,845,846,847,848,849,852,853,854,855,856,857,858,859,860,861,862,863,866,869,870,871,872,873,874,875,876,877,880,881,882,883,884,885,886,889,892,893,894,895,896,897,898,899,900,903,904,905,906,907,908,909,912,915,916,917,918,919,920,921,922,923,926,927,928,929,930,931,932,935,938,939,940,941,942,943,944,945,946,947,948,949,950,951,954,955,956,957,958,959,960,961,962,963,964,965,968,971,972,973,974,975,976,977,978,979,982,983,984,985,986,987,988,991,994,995,996,997,998,999,1000,1001,1002,1003,1004,1005,1006,1007,1010,1011,1012,1013,1014,1015,1016,1017,1018,1019,1020,1021,1024,1027,1028,1029,1030,1031,1032,1033,1034,1035,1038,1039,1040,1041,1042,1043,1044,1047,1050,1051,1052,1053,1054,1055,1056,1057,1058,1059,1060,1061,1062,1063,1066,1067,1068,1069,1070,1071,1072,1073,1074,1075,1076,1077,1080,1083,1084,1085,1086,1087,1088,1089,1090,1091,1092,1093,1094,1095,1096,1099,1100,1101,1102,1103,1104,1105,1106,1107,1108,1109,1110,1113,1116,1117,1118,1119,1122,1123,1126,1129,1130,1131,1132,1133,1134,1135,1136,1137,1138,1139,1140,1141,1142,1145,1146,1147,1148,1149,1150,1151,1152,1153,1154,1155,1156,1159,1162,1163,1164,1165,1166,1167,1168,1169,1170,1173,1174,1175,1176,1177,1178,1179,1182,1185,1186,1187,1188,1189,1190,1191,1192,1193,1196,1197,1198,1199,1200,1201,1202,1205,1208,1209,1210,1211,1212,1213,1214,1215,1216,1219,1220,1221,1222,1223,1224,1225,1228,1231,1232,1233,1234,1235,1236,1237,1238,1239,1242,1243,1244,1245,1246,1247,1248,1251,1254,1255,1256,1257,1258,1259,1260,1261,1262,1265,1266,1267,1268,1269,1270,1271,1274,1277,1278,1279,1282,1285,1286]
def zkL : List zIn := [(49,[7,0]),(20,[]),(60,[2,9,0,0]),(6,[1]),(49,[10,12]),(20,[]),(60,[2,12,67,12]),(6,[2]),(0,[0]),(5,[3]),(2,[3]),(3,[0]),(48,[]),(0,[6]),(9,[]),(33,[825]),(3,[0]),(2,[3]),(42,[]),(0,[63]),(15,[]),(37,[0,823,22,79,96,113,130,157,174,191,198,205,232,259,276,283,310,327,344,361,378,385,392,419,436,453,460,467,484,511,528,545,562,589,606,633,650,677,704,711,738,755,772,789,806]),(3,[1]),(3,[0]),(2,[3]),(0,[1]),(8,[]),(42,[]),(3,[0]),(2,[3]),(0,[2]),(8,[]),(42,[]),(3,[0]),(2,[3]),(0,[3]),(8,[]),(42,[]),(3,[0]),(2,[3]),(0,[4]),(8,[]),(42,[]),(3,[0]),(2,[3]),(0,[5]),(8,[]),(42,[]),(60,[0,13,1,0]),(3,[2]),(3,[0]),(2,[3]),(0,[1]),(8,[]),(42,[]),(3,[0]),(2,[3]),(0,[2]),(8,[]),(42,[]),(3,[0]),(2,[3]),(0,[3]),(8,[]),(42,[]),(3,[0]),(2,[3]),(0,[4]),(8,[]),(42,[]),(3,[0]),(2,[3]),(0,[5]),(8,[]),(42,[]),(60,[0,17,107,12]),(29,[823]),(0,[0]),(73,[]),(3,[1]),(3,[0]),(2,[3]),(0,[1]),(8,[]),(42,[]),(60,[0,18,2,0]),(3,[2]),(3,[0]),(2,[3]),(0,[1]),(8,[]),(42,[]),(60,[0,22,122,12]),(29,[823]),(0,[0]),(73,[]),(3,[1]),(3,[0]),(2,[3]),(0,[1]),(8,[]),(42,[]),(60,[0,23,3,0]),(3,[2]),(3,[0]),(2,[3]),(0,[1]),(8,[]),(42,[]),(60,[0,26,123,12]),(29,[823]),(0,[0]),(73,[]),(3,[1]),(3,[0]),(2,[3]),(0,[1]),(8,[]),(42,[]),(60,[0,27,4,0]),(3,[2]),(3,[0]),(2,[3]),(0,[1]),(8,[]),(42,[]),(60,[0,30,124,12]),(29,[823]),(0,[0]),(73,[]),(3,[1]),(3,[0]),(2,[3]),(0,[1]),(8,[]),(42,[]),(3,[0]),(2,[3]),(0,[2]),(8,[]),(42,[]),(60,[0,31,5,0]),(3,[2]),(3,[0]),(2,[3]),(0,[1]),(8,[]),(42,[]),(3,[0]),(2,[3]),(0,[2]),(8,[]),(42,[]),(60,[0,35,125,12]),(29,[823]),(0,[0]),(73,[]),(3,[1]),(3,[0]),(2,[3]),(0,[1]),(8,[]),(42,[]),(60,[0,36,6,0]),(3,[2]),(3,[0]),(2,[3]),(0,[1]),(8,[]),(42,[]),(60,[0,39,127,12]),(29,[823]),(0,[0]),(73,[]),(3,[1]),(3,[0]),(2,[3]),(0,[1]),(8,[]),(42,[]),(60,[0,40,7,0]),(3,[2]),(3,[0]),(2,[3]),(0,[1]),(8,[]),(42,[]),(60,[0,43,129,12]),(29,[823]),(0,[0]),(73,[]),(3,[1]),(60,[0,44,8,0]),(3,[2]),(60,[0,48,130,12]),(29,[823]),(0,[0]),(73,[]),(3,[1]),(60,[0,49,9,0]),(3,[2]),(60,[0,52,131,12]),(29,[823]),(0,[0]),(73,[]),(3,[1]),(3,[0]),(2,[3]),(0,[1]),(8,[]),(42,[]),(3,[0]),(2,[3]),(0,[2]),(8,[]),(42,[]),(60,[0,53,10,0]),(3,[2]),(3,[0]),(2,[3]),(0,[1]),(8,[]),(42,[]),(3,[0]),(2,[3]),(0,[2]),(8,[]),(42,[]),(60,[0,56,132,12]),(29,[823]),(0,[0]),(73,[]),(3,[1]),(3,[0]),(2,[3]),(0,[1]),(8,[]),(42,[]),(3,[0]),(2,[3]),(0,[2]),(8,[]),(42,[]),(60,[0,57,11,0]),(3,[2]),(3,[0]),(2,[3]),(0,[1]),(8,[]),(42,[]),(3,[0]),(2,[3]),(0,[2]),(8,[]),(42,[]),(60,[0,60,133,12]),(29,[823]),(0,[0]),(73,[]),(3,[1]),(3,[0]),(2,[3]),(0,[1]),(8,[]),(42,[]),(60,[0,61,12,0]),(3,[2]),(3,[0]),(2,[3]),(0,[1]),(8,[]),(42,[]),(60,[0,64,134,12]),(29,[823]),(0,[0]),(73,[]),(3,[1]),(60,[0,65,13,0]),(3,[2]),(60,[0,68,135,12]),(29,[823]),(0,[0]),(73,[]),(3,[1]),(3,[0]),(2,[3]),(0,[1]),(8,[]),(42,[]),(3,[0]),(2,[3]),(0,[2]),(8,[]),(42,[]),(60,[0,69,14,0]),(3,[2]),(3,[0]),(2,[3]),(0,[1]),(8,[]),(42,[]),(3,[0]),(2,[3]),(0,[2]),(8,[]),(42,[]),(60,[0,72,137,12]),(29,[823]),(0,[0]),(73,[]),(3,[1]),(3,[0]),(2,[3]),(0,[1]),(8,[]),(42,[]),(60,[0,73,15,0]),(3,[2]),(3,[0]),(2,[3]),(0,[1]),(8,[]),(42,[]),(60,[0,76,139,12]),(29,[823]),(0,[0]),(73,[]),(3,[1]),(3,[0]),(2,[3]),(0,[1]),(8,[]),(42,[]),(60,[0,77,16,0]),(3,[2]),(3,[0]),(2,[3]),(0,[1]),(8,[]),(42,[]),(60,[0,80,140,12]),(29,[823]),(0,[0]),(73,[]),(3,[1]),(3,[0]),(2,[3]),(0,[1]),(8,[]),(42,[]),(60,[0,81,17,0]),(3,[2]),(3,[0]),(2,[3]),(0,[1]),(8,[]),(42,[]),(60,[0,84,146,12]),(29,[823]),(0,[0]),(73,[]),(3,[1]),(3,[0]),(2,[3]),(0,[1]),(8,[]),(42,[]),(60,[0,85,18,0]),(3,[2]),(3,[0]),(2,[3]),(0,[1]),(8,[]),(42,[]),(60,[0,88,143,12]),(29,[823]),(0,[0]),(73,[]),(3,[1]),(60,[0,89,19,0]),(3,[2]),(60,[0,92,147,12]),(29,[823]),(0,[0]),(73,[]),(3,[1]),(60,[0,93,20,0]),(3,[2]),(60,[0,96,148,12]),(29,[823]),(0,[0]),(73,[]),(3,[1]),(3,[0]),(2,[3]),(0,[1]),(8,[]),(42,[]),(3,[0]),(2,[3]),(0,[2]),(8,[]),(42,[]),(60,[0,97,21,0]),(3,[2]),(3,[0]),(2,[3]),(0,[1]),(8,[]),(42,[]),(3,[0]),(2,[3]),(0,[2]),(8,[]),(42,[]),(60,[0,100,149,12]),(29,[823]),(0,[0]),(73,[]),(3,[1]),(3,[0]),(2,[3]),(0,[1]),(8,[]),(42,[]),(60,[0,101,22,0]),(3,[2]),(3,[0]),(2,[3]),(0,[1]),(8,[]),(42,[]),(60,[0,104,150,12]),(29,[823]),(0,[0]),(73,[]),(3,[1]),(3,[0]),(2,[3]),(0,[1]),(8,[]),(42,[]),(60,[0,105,23,0]),(3,[2]),(3,[0]),(2,[3]),(0,[1]),(8,[]),(42,[]),(60,[0,108,151,12]),(29,[823]),(0,[0]),(73,[]),(3,[1]),(60,[0,109,24,0]),(3,[2]),(60,[0,112,152,12]),(29,[823]),(0,[0]),(73,[]),(3,[1]),(60,[0,113,25,0]),(3,[2]),(60,[0,116,153,12]),(29,[823]),(0,[0]),(73,[]),(3,[1]),(3,[0]),(2,[3]),(0,[1]),(8,[]),(42,[]),(60,[0,117,26,0]),(3,[2]),(3,[0]),(2,[3]),(0,[1]),(8,[]),(42,[]),(60,[0,120,154,12]),(29,[823]),(0,[0]),(73,[]),(3,[1]),(3,[0]),(2,[3]),(0,[1]),(8,[]),(42,[]),(3,[0]),(2,[3]),(0,[2]),(8,[]),(42,[]),(60,[0,121,27,0]),(3,[2]),(3,[0]),(2,[3]),(0,[1]),(8,[]),(42,[]),(3,[0]),(2,[3]),(0,[2]),(8,[]),(42,[]),(60,[0,124,155,12]),(29,[823]),(0,[0]),(73,[]),(3,[1]),(3,[0]),(2,[3]),(0,[1]),(8,[]),(42,[]),(60,[0,125,28,0]),(3,[2]),(3,[0]),(2,[3]),(0,[1]),(8,[]),(42,[]),(60,[0,128,158,12]),(29,[823]),(0,[0]),(73,[]),(3,[1]),(3,[0]),(2,[3]),(0,[1]),(8,[]),(42,[]),(60,[0,129,29,0]),(3,[2]),(3,[0]),(2,[3]),(0,[1]),(8,[]),(42,[]),(60,[0,132,160,12]),(29,[823]),(0,[0]),(73,[]),(3,[1]),(3,[0]),(2,[3]),(0,[1]),(8,[]),(42,[]),(60,[0,133,30,0]),(3,[2]),(3,[0]),(2,[3]),(0,[1]),(8,[]),(42,[]),(60,[0,136,163,12]),(29,[823]),(0,[0]),(73,[]),(3,[1]),(3,[0]),(2,[3]),(0,[1]),(8,[]),(42,[]),(3,[0]),(2,[3]),(0,[2]),(8,[]),(42,[]),(60,[0,137,31,0]),(3,[2]),(3,[0]),(2,[3]),(0,[1]),(8,[]),(42,[]),(3,[0]),(2,[3]),(0,[2]),(8,[]),(42,[]),(60,[0,140,164,12]),(29,[823]),(0,[0]),(73,[]),(3,[1]),(3,[0]),(2,[3]),(0,[1]),(8,[]),(42,[]),(60,[0,141,32,0]),(3,[2]),(3,[0]),(2,[3]),(0,[1]),(8,[]),(42,[]),(60,[0,144,166,12]),(29,[823]),(0,[0]),(73,[]),(3,[1]),(3,[0]),(2,[3]),(0,[1]),(8,[]),(42,[]),(3,[0]),(2,[3]),(0,[2]),(8,[]),(42,[]),(60,[0,145,33,0]),(3,[2]),(3,[0]),(2,[3]),(0,[1]),(8,[]),(42,[]),(3,[0]),(2,[3]),(0,[2]),(8,[]),(42,[]),(60,[0,148,167,12]),(29,[823]),(0,[0]),(73,[]),(3,[1]),(3,[0]),(2,[3]),(0,[1]),(8,[]),(42,[]),(60,[0,149,34,0]),(3,[2]),(3,[0]),(2,[3]),(0,[1]),(8,[]),(42,[]),(60,[0,152,168,12]),(29,[823]),(0,[0]),(73,[]),(3,[1]),(3,[0]),(2,[3]),(0,[1]),(8,[]),(42,[]),(3,[0]),(2,[3]),(0,[2]),(8,[]),(42,[]),(60,[0,153,35,0]),(3,[2]),(3,[0]),(2,[3]),(0,[1]),(8,[]),(42,[]),(3,[0]),(2,[3]),(0,[2]),(8,[]),(42,[]),(60,[0,156,169,12]),(29,[823]),(0,[0]),(73,[]),(3,[1]),(3,[0]),(2,[3]),(0,[1]),(8,[]),(42,[]),(3,[0]),(2,[3]),(0,[2]),(8,[]),(42,[]),(60,[0,157,36,0]),(3,[2]),(3,[0]),(2,[3]),(0,[1]),(8,[]),(42,[]),(3,[0]),(2,[3]),(0,[2]),(8,[]),(42,[]),(60,[0,160,174,12]),(29,[823]),(0,[0]),(73,[]),(3,[1]),(60,[0,161,37,0]),(3,[2]),(60,[0,164,175,12]),(29,[823]),(0,[0]),(73,[]),(3,[1]),(3,[0]),(2,[3]),(0,[1]),(8,[]),(42,[]),(3,[0]),(2,[3]),(0,[2]),(8,[]),(42,[]),(60,[0,165,38,0]),(3,[2]),(3,[0]),(2,[3]),(0,[1]),(8,[]),(42,[]),(3,[0]),(2,[3]),(0,[2]),(8,[]),(42,[]),(60,[0,168,173,12]),(29,[823]),(0,[0]),(73,[]),(3,[1]),(3,[0]),(2,[3]),(0,[1]),(8,[]),(42,[]),(60,[0,169,39,0]),(3,[2]),(3,[0]),(2,[3]),(0,[1]),(8,[]),(42,[]),(60,[0,172,176,12]),(29,[823]),(0,[0]),(73,[]),(3,[1]),(3,[0]),(2,[3]),(0,[1]),(8,[]),(42,[]),(60,[0,173,40,0]),(3,[2]),(3,[0]),(2,[3]),(0,[1]),(8,[]),(42,[]),(60,[0,176,177,12]),(29,[823]),(0,[0]),(73,[]),(3,[1]),(3,[0]),(2,[3]),(0,[1]),(8,[]),(42,[]),(60,[0,177,41,0]),(3,[2]),(3,[0]),(2,[3]),(0,[1]),(8,[]),(42,[]),(60,[0,180,178,12]),(29,[823]),(0,[0]),(73,[]),(3,[1]),(3,[0]),(2,[3]),(0,[1]),(8,[]),(42,[]),(60,[0,181,42,0]),(3,[2]),(3,[0]),(2,[3]),(0,[1]),(8,[]),(42,[]),(60,[0,184,179,12]),(29,[823]),(0,[0]),(73,[]),(3,[1]),(3,[0]),(2,[3]),(0,[1]),(8,[]),(42,[]),(60,[0,185,43,0]),(3,[2]),(3,[0]),(2,[3]),(0,[1]),(8,[]),(42,[]),(60,[0,188,181,12]),(29,[823]),(0,[0]),(73,[]),(7,[3,6]),(35,[10]),(0,[1]),(73,[])]
theorem zL_go : zgo 13 code zpsL 0 zkL zpsL code.data.toList = true := by decide +kernel
theorem zL_code : zCode 13 code zpsL zkL := fun j q hq => by
  obtain ⟨x, n, a1, a2, a3, a4⟩ := zgo_spec _ _ _ _ _ _ _ zL_go (fun pc hpc => by
    have : pc = 0 := by
      cases hpc
      rfl
    rw [this]
    rfl) j q hq
  rw [Nat.zero_add] at a4
  exact ⟨x, n, a1, a2, a3, a4⟩
theorem zL_room : zRoomy zkL room_1 := by
  have h : ∀ q ∈ zkL, q.1 = 60 → zfr (zarg q.2 2).toNat + 1 ≤ room_1.frames ∧ 8 + (zmL (zarg q.2 2).toNat + 11) + zlo (zarg q.2 2).toNat ≤ room_1.locals ∧ (zarg q.2 2).toNat < 282 := by decide +kernel
  exact h
theorem zL_ops : ∀ q ∈ zkL, q.1 ≠ 41 ∧ q.1 ≠ 58 ∧ q.1 ≠ 59 := by decide +kernel
def zstL (L : Int) (xs : Int → Int) (q : zIn) (i : Nat) (ls st : List zV) (S : List zSh) (M : zM) : Option zR :=
  if q.1 = 42 then (match st with
    | w :: v :: r => if (w.1 = 0 ∧ v = (4, 17)) ∧ 0 ≤ w.2 ∧ w.2 < L then some (i + 1, ls, (0, xs w.2) :: r, S, M) else none
    | _ => none)
  else if q.1 = 48 then (match st with
    | v :: r => if v = (4, 17) then some (i + 1, ls, (0, L) :: r, S, M) else none
    | _ => none)
  else zstep q [] i ls st S M
def zRLF (L : Int) (xs : Int → Int) (v : zV) (SF : List zSh) (MF : zM) : Nat → Nat → List zV → List zV → List zSh → zM → Prop
  | 0, _, _, _, _, _ => False
  | n + 1, i, ls, st, S, M => ∃ q : zIn, zkL[i]? = some q ∧ ((70 ≤ q.1 ∧ zend q.1 st = some v ∧ S = SF ∧ M = MF) ∨
      (q.1 < 60 ∧ ∃ r : zR, zstL L xs q i ls st S M = some r ∧ zRLF L xs v SF MF n r.1 r.2.1 r.2.2.1 r.2.2.2.1 r.2.2.2.2) ∨
      (q.1 = 60 ∧ ∃ (y : List zIn × Nat × Nat × Nat) (g : Nat) (r : zV × List zSh × zM), zPt[(zarg q.2 2).toNat]? = some y ∧ (y.2.2.1 ≤ st.length ∧ (zgive y.2.2.2 (st.take y.2.2.1) (st.drop y.2.2.1) && zrecv S (zarg q.2 0) (zarg q.2 3) (st.take y.2.2.1)) = true) ∧ zrun zPt g y.1 0 (zloc (st.take y.2.2.1).reverse y.2.1) [] S M = some r ∧ zRLF L xs v SF MF n (i + 1) ls (if y.2.2.2 = 0 then st.drop y.2.2.1 else r.1 :: st.drop y.2.2.1) r.2.1 r.2.2))
def zRL (L : Int) (xs : Int → Int) (v : zV) (SF : List zSh) (MF : zM) (i : Nat) (ls st : List zV) (S : List zSh) (M : zM) : Prop := ∃ n : Nat, zRLF L xs v SF MF n i ls st S M
section ZRL
variable {L : Int} {xs : Int → Int} {v : zV} {SF : List zSh} {MF : zM} {i : Nat} {ls st : List zV} {S : List zSh} {M : zM} {q : zIn}
theorem zRL.fin (hc : zkL[i]? = some q) (h70 : 70 ≤ q.1) (he : zend q.1 st = some v) : zRL L xs v SF MF i ls st SF MF := ⟨1, q, hc, Or.inl ⟨h70, he, rfl, rfl⟩⟩
theorem zRL.step {r : zR} (hc : zkL[i]? = some q) (h60 : q.1 < 60) (hs : zstL L xs q i ls st S M = some r) (k : zRL L xs v SF MF r.1 r.2.1 r.2.2.1 r.2.2.2.1 r.2.2.2.2) : zRL L xs v SF MF i ls st S M := by
  obtain ⟨n, k⟩ := k
  exact ⟨n + 1, q, hc, Or.inr (Or.inl ⟨h60, r, hs, k⟩)⟩
theorem zRL.call {y : List zIn × Nat × Nat × Nat} {g : Nat} {r : zV × List zSh × zM} (hc : zkL[i]? = some q) (h60 : q.1 = 60) (hy : zPt[(zarg q.2 2).toNat]? = some y) (hl : y.2.2.1 ≤ st.length ∧ (zgive y.2.2.2 (st.take y.2.2.1) (st.drop y.2.2.1) && zrecv S (zarg q.2 0) (zarg q.2 3) (st.take y.2.2.1)) = true) (hr : zrun zPt g y.1 0 (zloc (st.take y.2.2.1).reverse y.2.1) [] S M = some r) (k : zRL L xs v SF MF (i + 1) ls (if y.2.2.2 = 0 then st.drop y.2.2.1 else r.1 :: st.drop y.2.2.1) r.2.1 r.2.2) : zRL L xs v SF MF i ls st S M := by
  obtain ⟨n, k⟩ := k
  exact ⟨n + 1, q, hc, Or.inr (Or.inr ⟨h60, y, g, r, hy, hl, hr, k⟩)⟩
end ZRL
theorem zstL_mono {L : Int} {xs : Int → Int} {q : zIn} {i : Nat} {ls st : List zV} {S : List zSh} {M : zM} {r : zR} (hs : zstL L xs q i ls st S M = some r) : S.length ≤ r.2.2.2.1.length ∧ zsl S ≤ zsl r.2.2.2.1 := by
  unfold zstL at hs
  split at hs
  · split at hs
    · split at hs
      · cases hs; exact ⟨Nat.le_refl _, Nat.le_refl _⟩
      · cases hs
    · cases hs
  · split at hs
    · split at hs
      · split at hs
        · cases hs; exact ⟨Nat.le_refl _, Nat.le_refl _⟩
        · cases hs
      · cases hs
    · unfold zstep at hs
      by_cases hq : q.1 < zOps.length
      · rw [List.getD, List.getElem?_eq_getElem hq] at hs
        exact zmono_all _ (List.getElem_mem hq) _ _ _ _ _ _ _ hs
      · rw [List.getD, List.getElem?_eq_none (by omega)] at hs
        cases hs
theorem zRL_mono0 {L : Int} {xs : Int → Int} {v : zV} {SF : List zSh} {MF : zM} : ∀ (n i : Nat) (ls st : List zV) (S : List zSh) (M : zM), zRLF L xs v SF MF n i ls st S M → S.length ≤ SF.length ∧ zsl S ≤ zsl SF := by
  intro n
  induction n with
  | zero => intro i ls st S M h; exact h.elim
  | succ n ih =>
    intro i ls st S M h
    obtain ⟨q, hc, ⟨-, -, rfl, -⟩ | ⟨h60, r, hs, k⟩ | ⟨h60, y, g, r, hy, hl, hr, k⟩⟩ := h
    · exact ⟨Nat.le_refl _, Nat.le_refl _⟩
    · have := zstL_mono hs
      have := ih _ _ _ _ _ k
      omega
    · have := zrun_mono_S _ _ _ _ _ _ _ _ hr
      have := ih _ _ _ _ _ k
      omega
theorem zi_self (x : Int32) : Int32.ofInt x.toInt = x := Int32.ofInt_toInt x
theorem zi_rg (x : Int32) : -2147483648 ≤ x.toInt ∧ x.toInt ≤ 2147483647 := by
  have h1 := Int32.le_toInt x
  have h2 := Int32.toInt_lt x
  omega
theorem zSoundL {p : Program} {l : Launch} {e : Env} {R : Room} {s : State} {m : MethodId} {args : Array Value} {below : List Frame} {meth : Method} {c : Code} {Q : State → Prop} {D : va_G} {adK adV : Nat → Nat} {A : Nat → Prop} {nL : Nat} {S0 : List zSh} {ad0 : Nat → Nat} {cA0 : Nat → ClassId} {SF : List zSh} {MF : zM} {v : zV} {b L : Nat} {x32 : Nat → Int32} {xs : Int → Int}
    (F : zFx p R s m args meth c adK adV A nL zkL 13 code) (hRm : zRoomy zkL R) (h1 : SF.length - S0.length ≤ R.cells) (h2 : zsl SF - zsl S0 ≤ R.slots) (hX : va_X b L x32 s s.heap) (hbl : b < s.heap.size) (hbA : ¬ A b) (hK : adK 17 = b) (hL : L ≤ 3072) (hxs : ∀ j : Int, xs j = (x32 j.toNat).toInt)
    (hEnd : ∀ (j : Nat) (q : zIn) (lsx stx : List zV), zkL[j]? = some q → 70 ≤ q.1 → zend q.1 stx = some v → zG p l e R s m args below meth c Q D adK A nL zkL zpsL S0 ad0 cA0 j lsx stx SF MF) :
    ∀ (n i : Nat) (ls st : List zV) (S : List zSh) (M : zM), zRLF L xs v SF MF n i ls st S M → zG p l e R s m args below meth c Q D adK A nL zkL zpsL S0 ad0 cA0 i ls st S M := by
  intro n
  induction n with
  | zero => intro i ls st S M h; exact h.elim
  | succ n ih =>
   intro i ls st S M h
   obtain ⟨q, hc, ⟨h70, he, rfl, rfl⟩ | ⟨h60, r, hs, k⟩ | ⟨h60, y, g, r, hy, hl, hr, k⟩⟩ := h
   · exact hEnd i q ls st hc h70 he
   · have a2 := zRL_mono0 _ _ _ _ _ _ k
     have ih := ih _ _ _ _ _ k
     obtain ⟨x, nx, hd, hp, hn, hh⟩ := zL_code i q hc
     have hp := hp.resolve_left (by omega)
     by_cases h42 : q.1 = 42
     · unfold zstL at hs
       rw [if_pos h42] at hs
       rw [h42] at hh
       have hx0 : x = .iaload := of_decide_eq_true hh
       subst hx0
       rw [zlen_of hn rfl] at hd hp
       split at hs
       · rename_i w v0 rr
         split at hs
         · rename_i hi
           obtain ⟨⟨hw, rfl⟩, hw0, hw1⟩ := hi
           cases hs
           intro ad cA H locs als hag hS0 hZ0 hl hLn hst hlk hok hR hS
           have kk := ih ad cA H locs als hag hS0 hZ0 hl hLn hst hlk (List.forall_mem_cons.mpr ⟨zint (by rw [hxs]; exact zi_rg _), (List.forall_mem_cons.mp (List.forall_mem_cons.mp hok).2).2⟩) hR hS
           rw [hp, List.map_cons, zcv_0, hxs, zi_self] at kk
           rw [List.map_cons, List.map_cons, zcv_i hw, zcv_4]
           rw [show adK (17 : Int).toNat = b from hK]
           refine va_sld F.1 F.2.1 hX hbl hbA hS (zi_in ⟨hw0, hw1⟩ (by omega)) hd ?_
           rw [zi_nat ⟨hw0, by omega⟩]
           exact kk
         · cases hs
       · cases hs
     · by_cases h48 : q.1 = 48
       · unfold zstL at hs
         rw [if_neg h42, if_pos h48] at hs
         rw [h48] at hh
         have hx0 : x = .arraylength := of_decide_eq_true hh
         subst hx0
         rw [zlen_of hn rfl] at hd hp
         split at hs
         · rename_i v0 rr
           split at hs
           · rename_i hi
             subst hi
             cases hs
             intro ad cA H locs als hag hS0 hZ0 hl hLn hst hlk hok hR hS
             have kk := ih ad cA H locs als hag hS0 hZ0 hl hLn hst hlk (List.forall_mem_cons.mpr ⟨zint (by omega), (List.forall_mem_cons.mp hok).2⟩) hR hS
             rw [hp, List.map_cons, zcv_0] at kk
             rw [List.map_cons, zcv_4]
             rw [show adK (17 : Int).toNat = b from hK]
             exact va_slen F.1 F.2.1 hX hbl hbA hS hd kk
           · cases hs
         · cases hs
       · unfold zstL at hs
         rw [if_neg h42, if_neg h48] at hs
         exact zk_op h60 p l e R s m args below meth c Q D adK adV A nL zkL zpsL S0 ad0 cA0 13 code x nx i q.2 ls st S M r F hd hp hn hh (List.mem_of_getElem? hc) hs (by omega) (by omega) ih
   · have a2 := zRL_mono0 _ _ _ _ _ _ k
     have ih := ih _ _ _ _ _ k
     obtain ⟨x, nx, hd, hp, hn, hh⟩ := zL_code i q hc
     obtain ⟨hj, y1, y2, y3, y4⟩ := zpt_at hy
     obtain ⟨g1, g2⟩ := hl
     simp only [Bool.and_eq_true] at g2
     rw [h60] at hh
     obtain ⟨r1a, r1b, -⟩ := hRm q (List.mem_of_getElem? hc) h60
     rw [y1, y2, y3] at hr
     rw [y3, y4] at g2
     rw [y3] at g1
     have hG := ih
     rw [y3, y4] at hG
     exact z_call (zMetOK_all g) F hd (hp.resolve_left (by omega)) hn hh rfl hj ⟨r1a, r1b⟩ g1 g2.1 g2.2 hr (by omega) (by omega) hG
/-- from here the law comes to an end of which Q holds -/
def zWpL (L : Int) (xs : Int → Int) (i : Nat) (ls st : List zV) (M : zM) (Q : zV → zM → Prop) : Prop := ∃ (v : zV) (M' : zM), zRL L xs v zS0 M' i ls st zS0 M ∧ Q v M'
section ZWL
variable {L : Int} {xs : Int → Int} {i j : Nat} {ls st r : List zV} {M : zM} {Q : zV → zM → Prop} {a : List Int}
theorem zstL_z {op : Nat} {S : List zSh} (hn : (op != 42 && op != 48) = true) : zstL L xs (op, a) i ls st S M = zstep (op, a) [] i ls st S M := by
  simp only [Bool.and_eq_true, bne_iff_ne, ne_eq] at hn
  unfold zstL
  rw [if_neg hn.1, if_neg hn.2]
theorem zwl_step {op : Nat} {j : Nat} {ls' st' : List zV} {M' : zM} (hc : zkL[i]? = some (op, a)) (h60 : op < 60) (hs : zstep (op, a) [] i ls st zS0 M = some (j, ls', st', zS0, M')) (k : zWpL L xs j ls' st' M' Q) (hn : (op != 42 && op != 48) = true := by rfl) : zWpL L xs i ls st M Q := by
  obtain ⟨v, M2, h1, h2⟩ := k
  simp only [Bool.and_eq_true, bne_iff_ne, ne_eq] at hn
  exact ⟨v, M2, zRL.step hc h60 (by unfold zstL; rw [if_neg hn.1, if_neg hn.2]; exact hs) h1, h2⟩
theorem zwl_zret {x : Int} (hc : zkL[i]? = some (73, a)) (hx : x = 0 ∨ x = 1) (k : Q (0, x) M) : zWpL L xs i ls [(0, x)] M Q := ⟨_, _, zRL.fin hc (Nat.le_of_ble_eq_true rfl) (if_pos (Or.inr (Or.inr ⟨rfl, rfl, hx⟩))), k⟩
theorem zwl_calls {how cp mid cl : Int} {y : List zIn × Nat × Nat × Nat} (h : zFe zkL i j 60 [how, cp, mid, cl]) (hy : zPt[mid.toNat]? = some y) (hl : y.2.2.1 ≤ st.length ∧ (zgive y.2.2.2 (st.take y.2.2.1) (st.drop y.2.2.1) && zrecv zS0 how cl (st.take y.2.2.1)) = true) (k : zWp y.1 0 (zloc (st.take y.2.2.1).reverse y.2.1) [] M (fun v M' => zWpL L xs j ls (if y.2.2.2 = 0 then st.drop y.2.2.1 else v :: st.drop y.2.2.1) M' Q)) : zWpL L xs i ls st M Q := by
  obtain ⟨n, v, M1, h1, v2, M2, h2, h3⟩ := k
  exact ⟨v2, M2, zRL.call h.1 rfl hy hl h1 (by rw [h.2]; exact h2), h3⟩
theorem zwl_arg {k x : Int} {v1 v2 : zV} (hk : zkL[i]? = some (3, [0]) ∧ zkL[i + 1]? = some (2, [3]) ∧ zkL[i + 2]? = some (0, [k]) ∧ zkL[i + 3]? = some (8, []) ∧ zkL[i + 4]? = some (42, [])) (hb : 0 ≤ x + k ∧ x + k < L ∧ x + k ≤ 2147483647) (kk : zWpL L xs (i + 5) ((4, 17) :: v1 :: v2 :: (0, x) :: r) ((0, xs (x + k)) :: st) M Q) : zWpL L xs i ((4, 17) :: v1 :: v2 :: (0, x) :: r) st M Q := by
  obtain ⟨k0, k1, k2, k3, k4⟩ := hk
  obtain ⟨v, M2, h1, h2⟩ := kk
  refine ⟨v, M2, ?_, h2⟩
  refine zRL.step (r := (i + 1, (4, 17) :: v1 :: v2 :: (0, x) :: r, (4, 17) :: st, zS0, M)) k0 (Nat.le_of_ble_eq_true rfl) rfl ?_
  refine zRL.step (r := (i + 2, (4, 17) :: v1 :: v2 :: (0, x) :: r, (0, x) :: (4, 17) :: st, zS0, M)) k1 (Nat.le_of_ble_eq_true rfl) rfl ?_
  refine zRL.step (r := (i + 3, (4, 17) :: v1 :: v2 :: (0, x) :: r, (0, k) :: (0, x) :: (4, 17) :: st, zS0, M)) k2 (Nat.le_of_ble_eq_true rfl) rfl ?_
  refine zRL.step (r := (i + 4, (4, 17) :: v1 :: v2 :: (0, x) :: r, (0, x + k) :: (4, 17) :: st, zS0, M)) k3 (Nat.le_of_ble_eq_true rfl) ?_ ?_
  · rw [zstL_z rfl]
    exact if_pos ⟨⟨rfl, rfl⟩, decide_eq_true ⟨by omega, hb.2.2⟩⟩
  refine zRL.step (r := (i + 5, (4, 17) :: v1 :: v2 :: (0, x) :: r, (0, xs (x + k)) :: st, zS0, M)) k4 (Nat.le_of_ble_eq_true rfl) ?_ h1
  unfold zstL
  rw [if_pos rfl]
  exact if_pos ⟨⟨rfl, rfl⟩, hb.1, hb.2.1⟩
theorem zwl_sld {x : Int} (h : zFe zkL i j 42 a) (hb : 0 ≤ x ∧ x < L) (k : zWpL L xs j ls ((0, xs x) :: st) M Q) : zWpL L xs i ls ((0, x) :: (4, 17) :: st) M Q := by
  obtain ⟨v, M2, h1, h2⟩ := k
  refine ⟨v, M2, zRL.step (r := (j, ls, (0, xs x) :: st, zS0, M)) h.1 (Nat.le_of_ble_eq_true rfl) ?_ h1, h2⟩
  unfold zstL
  rw [if_pos rfl, ← h.2]
  exact if_pos ⟨⟨rfl, rfl⟩, hb⟩
theorem zwl_slen (h : zFe zkL i j 48 a) (k : zWpL L xs j ls ((0, L) :: st) M Q) : zWpL L xs i ls ((4, 17) :: st) M Q := by
  obtain ⟨v, M2, h1, h2⟩ := k
  refine ⟨v, M2, zRL.step (r := (j, ls, (0, L) :: st, zS0, M)) h.1 (Nat.le_of_ble_eq_true rfl) ?_ h1, h2⟩
  unfold zstL
  rw [if_neg (show ¬ (48 : Nat) = 42 by decide), if_pos rfl, ← h.2]
  exact if_pos rfl
theorem zwl_const {v : Int} (h : zFe zkL i j 0 (v :: a)) (k : zWpL L xs j ls ((0, v) :: st) M Q) : zWpL L xs i ls st M Q := zwl_step h.1 (by decide) (by rw [← h.2]; rfl) k
theorem zwl_iload {v x : Int} (h : zFe zkL i j 2 (v :: a)) (hl : ls[v.toNat]? = some (0, x)) (k : zWpL L xs j ls ((0, x) :: st) M Q) : zWpL L xs i ls st M Q := zwl_step h.1 (by decide) (by rw [← h.2]; show zo_load zisI (v :: a) i ls st zS0 M = _; unfold zo_load; rw [show zarg (v :: a) 0 = v from rfl, hl]; rfl) k
theorem zwl_aload {v x : Int} (h : zFe zkL i j 3 (v :: a)) (hl : ls[v.toNat]? = some (1, x)) (k : zWpL L xs j ls ((1, x) :: st) M Q) : zWpL L xs i ls st M Q := zwl_step h.1 (by decide) (by rw [← h.2]; show zo_load zisA (v :: a) i ls st zS0 M = _; unfold zo_load; rw [show zarg (v :: a) 0 = v from rfl, hl]; rfl) k
theorem zwl_tload {v x : Int} (h : zFe zkL i j 3 (v :: a)) (hl : ls[v.toNat]? = some (4, x)) (k : zWpL L xs j ls ((4, x) :: st) M Q) : zWpL L xs i ls st M Q := zwl_step h.1 (by decide) (by rw [← h.2]; show zo_load zisA (v :: a) i ls st zS0 M = _; unfold zo_load; rw [show zarg (v :: a) 0 = v from rfl, hl]; rfl) k
theorem zwl_iadd {x y : Int} (h : zFe zkL i j 8 a) (hb : -2147483648 ≤ x + y ∧ x + y ≤ 2147483647) (k : zWpL L xs j ls ((0, x + y) :: st) M Q) : zWpL L xs i ls ((0, y) :: (0, x) :: st) M Q := zwl_step h.1 (by decide) (by rw [← h.2]; exact if_pos ⟨⟨rfl, rfl⟩, decide_eq_true hb⟩) k
theorem zwl_isub {x y : Int} (h : zFe zkL i j 9 a) (hb : -2147483648 ≤ x - y ∧ x - y ≤ 2147483647) (k : zWpL L xs j ls ((0, x - y) :: st) M Q) : zWpL L xs i ls ((0, y) :: (0, x) :: st) M Q := zwl_step h.1 (by decide) (by rw [← h.2]; exact if_pos ⟨⟨rfl, rfl⟩, decide_eq_true hb⟩) k
theorem zwl_iand {x y : Int} (h : zFe zkL i j 15 a) (hb : (y = 1 ∨ y = 63 ∨ y = 255) ∨ 0 ≤ x ∧ 0 ≤ y) (k : zWpL L xs j ls ((0, zand x y) :: st) M Q) : zWpL L xs i ls ((0, y) :: (0, x) :: st) M Q := zwl_step h.1 (by decide) (by rw [← h.2]; exact if_pos ⟨⟨rfl, rfl⟩, decide_eq_true hb⟩) k
theorem zwl_table {x : Int} {t' : Nat} (h : zFe zkL i j 37 a) (ht : (ztgt a x).toNat = t') (k : zWpL L xs t' ls st M Q) : zWpL L xs i ls ((0, x) :: st) M Q := zwl_step h.1 (by decide) (by rw [← ht]; rfl) k
theorem zwl_iceq {x y t : Int} {t' : Nat} (h : zFe zkL i j 29 (t :: a)) (ht : t.toNat = t') (k1 : x = y → zWpL L xs t' ls st M Q) (k2 : ¬ (x = y) → zWpL L xs j ls st M Q) : zWpL L xs i ls ((0, y) :: (0, x) :: st) M Q := by
  by_cases q : x = y
  · exact zwl_step (M' := M) h.1 (by decide) (by rw [← ht]; show some (if decide (x = y) = true then t.toNat else i + 1, ls, st, zS0, M) = _; rw [if_pos (decide_eq_true q)]) (k1 q)
  · exact zwl_step (M' := M) h.1 (by decide) (by rw [← h.2]; show some (if decide (x = y) = true then t.toNat else i + 1, ls, st, zS0, M) = _; rw [if_neg (fun z => q (of_decide_eq_true z))]) (k2 q)
theorem zwl_icgt {x y t : Int} {t' : Nat} (h : zFe zkL i j 33 (t :: a)) (ht : t.toNat = t') (k1 : y < x → zWpL L xs t' ls st M Q) (k2 : ¬ (y < x) → zWpL L xs j ls st M Q) : zWpL L xs i ls ((0, y) :: (0, x) :: st) M Q := by
  by_cases q : y < x
  · exact zwl_step (M' := M) h.1 (by decide) (by rw [← ht]; show some (if decide (y < x) = true then t.toNat else i + 1, ls, st, zS0, M) = _; rw [if_pos (decide_eq_true q)]) (k1 q)
  · exact zwl_step (M' := M) h.1 (by decide) (by rw [← h.2]; show some (if decide (y < x) = true then t.toNat else i + 1, ls, st, zS0, M) = _; rw [if_neg (fun z => q (of_decide_eq_true z))]) (k2 q)
theorem zwl_goto {t : Int} {t' : Nat} (h : zFe zkL i j 35 (t :: a)) (ht : t.toNat = t') (k : zWpL L xs t' ls st M Q) : zWpL L xs i ls st M Q := zwl_step h.1 (by decide) (by rw [← ht]; rfl) k
theorem zwl_iinc_3 {x d : Int} {v0 v1 v2 : zV} (h : zFe zkL i j 7 [3, d]) (hb : -2147483648 ≤ x + d ∧ x + d ≤ 2147483647) (k : zWpL L xs j (v0 :: v1 :: v2 :: (0, x + d) :: r) st M Q) : zWpL L xs i (v0 :: v1 :: v2 :: (0, x) :: r) st M Q := zwl_step h.1 (by decide) (by rw [← h.2]; exact if_pos ⟨rfl, hb⟩) k
theorem zwl_callv1 {cp mid cl : Int} {cc : List zIn} {mL : Nat} {b : Int} (h : zFe zkL i j 60 [0, cp, mid, cl]) (hy : zPt[mid.toNat]? = some (cc, mL, 1, 1)) (hc : zcls zS0 b = some cl) (hg : zgive 1 [(1, b)] st = true) (k : zWp cc 0 (zloc [(1, b)] mL) [] M (fun v M' => zWpL L xs j ls (v :: st) M' Q)) : zWpL L xs i ls ((1, b) :: st) M Q := zwl_calls h hy ⟨by simp, (by rw [Bool.and_eq_true]; exact ⟨hg, zrecv_0 (as := []) hc⟩)⟩ k
theorem zwl_callv2 {cp mid cl : Int} {cc : List zIn} {mL : Nat} {b : Int} {b1 : zV} (h : zFe zkL i j 60 [0, cp, mid, cl]) (hy : zPt[mid.toNat]? = some (cc, mL, 2, 1)) (hc : zcls zS0 b = some cl) (hg : zgive 1 [b1, (1, b)] st = true) (k : zWp cc 0 (zloc [(1, b), b1] mL) [] M (fun v M' => zWpL L xs j ls (v :: st) M' Q)) : zWpL L xs i ls (b1 :: (1, b) :: st) M Q := zwl_calls h hy ⟨by simp, (by rw [Bool.and_eq_true]; exact ⟨hg, zrecv_0 (as := [b1]) hc⟩)⟩ k
theorem zwl_callv3 {cp mid cl : Int} {cc : List zIn} {mL : Nat} {b : Int} {b1 b2 : zV} (h : zFe zkL i j 60 [0, cp, mid, cl]) (hy : zPt[mid.toNat]? = some (cc, mL, 3, 1)) (hc : zcls zS0 b = some cl) (hg : zgive 1 [b2, b1, (1, b)] st = true) (k : zWp cc 0 (zloc [(1, b), b1, b2] mL) [] M (fun v M' => zWpL L xs j ls (v :: st) M' Q)) : zWpL L xs i ls (b2 :: b1 :: (1, b) :: st) M Q := zwl_calls h hy ⟨by simp, (by rw [Bool.and_eq_true]; exact ⟨hg, zrecv_0 (as := [b2, b1]) hc⟩)⟩ k
theorem zwl_callv6 {cp mid cl : Int} {cc : List zIn} {mL : Nat} {b : Int} {b1 b2 b3 b4 b5 : zV} (h : zFe zkL i j 60 [0, cp, mid, cl]) (hy : zPt[mid.toNat]? = some (cc, mL, 6, 1)) (hc : zcls zS0 b = some cl) (hg : zgive 1 [b5, b4, b3, b2, b1, (1, b)] st = true) (k : zWp cc 0 (zloc [(1, b), b1, b2, b3, b4, b5] mL) [] M (fun v M' => zWpL L xs j ls (v :: st) M' Q)) : zWpL L xs i ls (b5 :: b4 :: b3 :: b2 :: b1 :: (1, b) :: st) M Q := zwl_calls h hy ⟨by simp, (by rw [Bool.and_eq_true]; exact ⟨hg, zrecv_0 (as := [b5, b4, b3, b2, b1]) hc⟩)⟩ k
end ZWL
