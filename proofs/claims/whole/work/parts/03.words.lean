/-! What the tables say of the rows of part 02: each word by its place in the tables. -/
def mNestB : Cond → Bool
  | .fieldLinkNest .. => true
  | .methodLinkNest .. => true
  | _ => false
def lw_good : List Cond := lw_tbl.filter goodWord
def mNst : List Cond := lw_tbl.filter mNestB
theorem mGood_in : GoodIn lw_good lw_good := fun w h => ⟨h, good_of_word (List.mem_filter.mp h).2⟩
theorem mMemOf {α : Type} {f : α → List Cond} {l : List α} {ps : List (List Nat)} (h : ps.map (fun p => p.map (fun i => lw_tbl[i]?)) = l.map (fun e => (f e).map some)) : ∀ e ∈ l, ∀ w ∈ f e, w ∈ lw_tbl := by
  intro e he w hw
  have h1 : (f e).map some ∈ ps.map (fun p => p.map (fun i => lw_tbl[i]?)) := by rw [h]; exact List.mem_map.mpr ⟨e, he, rfl⟩
  obtain ⟨p, -, hp⟩ := List.mem_map.mp h1
  have h2 : some w ∈ p.map (fun i => lw_tbl[i]?) := by rw [hp]; exact List.mem_map.mpr ⟨w, hw, rfl⟩
  obtain ⟨i, -, hi⟩ := List.mem_map.mp h2
  exact List.mem_of_getElem? hi
def mFldW (e : Nat × Nat × Nat × Nat × Bool) : Cond := if e.2.2.2.2 = true then .fieldLinkNest (mOwn.getD e.1 "") e.2.1 (mT e.2.2.1 e.2.2.2.1).1 (mT e.2.2.1 e.2.2.2.1).2.1 (mT e.2.2.1 e.2.2.2.1).2.2.1 "FamilyGlass" else .fieldLink (mOwn.getD e.1 "") e.2.1 (mT e.2.2.1 e.2.2.2.1).1 (mT e.2.2.1 e.2.2.2.1).2.1 (mT e.2.2.1 e.2.2.2.1).2.2.1
def mNm (z : Nat) : MethodName := match mRows[z]? with
  | some r => r.1
  | none => if z = 9998 then Lib.Math.max.name else if z = 9997 then Lib.Math.min.name else if z = 9996 then Lib.Math.abs.name else objectInit
def mMthW (e : Nat × Nat × Nat × Bool) : Cond := if e.2.2.2 = true then .methodLinkNest (mOwn.getD e.1 "") e.2.1 (mNm e.2.2.1) "FamilyGlass" else .methodLink (mOwn.getD e.1 "") e.2.1 (mNm e.2.2.1)
def mClnW (e : Nat × Nat × Nat) : List Cond := [.classLink (mOwn.getD e.1 "") e.2.1 (mOwn.getD e.2.2 ""), .instantiable (mOwn.getD e.2.2 "") (mNf e.2.2), .initialized (mOwn.getD e.2.2 "")]
def mRowW (r : mRow) : List Cond := .initialized r.1.cls :: (if r.2.2.2.2.2.2 = true then [.static r.1] else if r.1.name = "<init>" then [.instanceMethod r.1] else [.instanceMethod r.1, .selects r.1.cls r.1 r.1])
def mRowB (r : mRow) : Bool := plainName r.1.cls && (decide (r.1.cls ≠ "java/lang/invoke/MethodHandle") && (decide (r.1.cls ≠ "java/lang/invoke/VarHandle") && (decide ((parseMethodDescriptor r.1.desc).map (fun d => d.parameters.length) = some r.2.2.2.2.2.1) && (decide (r.2.2.1 ≤ 40) && decide (mOwn.getD r.2.2.2.2.1 "" = r.1.cls)))))
def mFldL (e : Nat × Nat × Nat × Nat × Bool) : List Cond := [mFldW e]
def mMthL (e : Nat × Nat × Nat × Bool) : List Cond := [mMthW e]
theorem mFld_inC_0 : ([[177], [178], [179], [180], [252], [253], [254], [255], [256], [257], [258], [259], [260], [286], [287], [288], [289], [290], [291], [292], [293], [294], [317], [318], [319], [320], [321], [322], [323], [324], [325], [326], [327], [328], [329], [330], [331], [332], [333], [334], [335], [336], [337], [338], [339], [340], [341], [342], [343], [344], [345], [346], [347], [348], [349], [350], [351], [352], [353], [354]] : List (List Nat)).map (fun p => p.map (fun i => lw_tbl[i]?)) = ((mFld.drop 0).take 60).map (fun e => (mFldL e).map some) := by decide +kernel
theorem mFld_inC_1 : ([[355], [356], [357], [358], [359], [360], [361], [362], [363], [364], [365], [366], [367], [368], [369], [370], [371], [405], [406], [407], [408], [409], [410], [411], [412], [413], [437], [438], [439], [440], [441], [457], [458], [459], [460], [461], [485], [486], [487], [488], [489], [490], [491], [492], [493], [494], [495], [496], [497], [498], [499], [509], [510], [511], [512], [528], [529], [530], [531], [532]] : List (List Nat)).map (fun p => p.map (fun i => lw_tbl[i]?)) = ((mFld.drop 60).take 60).map (fun e => (mFldL e).map some) := by decide +kernel
theorem mFld_inC_2 : ([[546], [547], [548], [549], [550], [551], [563], [564], [565], [566], [567], [568], [569], [570], [571], [572], [573], [574], [575], [576], [577], [578], [579], [580], [1198], [1199], [1200], [1201], [1202], [1203], [1204], [1205], [1206], [1207], [1208], [1209], [1210], [1211], [1212], [1213], [1214], [1215], [1216], [1217], [1218], [1219], [1220], [1221], [1222], [1223], [1224], [1225], [1226], [1227], [1228], [1229], [1230], [1231], [1232], [1233]] : List (List Nat)).map (fun p => p.map (fun i => lw_tbl[i]?)) = ((mFld.drop 120).take 60).map (fun e => (mFldL e).map some) := by decide +kernel
theorem mFld_inC_3 : ([[1234], [1235], [1236], [1237], [1238], [1239], [1240], [1241], [1242], [1243], [1244], [1245], [1246], [1247], [1248], [1249], [1250], [1251], [1252], [1253], [1254], [1255], [1256], [1257], [1258], [1259], [1260], [1261], [1262], [1263], [1264], [1265]] : List (List Nat)).map (fun p => p.map (fun i => lw_tbl[i]?)) = ((mFld.drop 180).take 60).map (fun e => (mFldL e).map some) := by decide +kernel
theorem mFld_in : ∀ e ∈ mFld, ∀ w ∈ mFldL e, w ∈ lw_tbl := by
  intro e he
  obtain ⟨i, hi⟩ := List.getElem?_of_mem he
  have hl : i < mFld.length := (List.getElem?_eq_some_iff.mp hi).1
  have hn : mFld.length ≤ 240 := by decide +kernel
  by_cases h0 : i < 60
  · exact mMemOf mFld_inC_0 e (List.mem_of_getElem? (i := i - 0) (by rw [List.getElem?_take, if_pos (by omega), List.getElem?_drop, show 0 + (i - 0) = i by omega]; exact hi))
  by_cases h1 : i < 120
  · exact mMemOf mFld_inC_1 e (List.mem_of_getElem? (i := i - 60) (by rw [List.getElem?_take, if_pos (by omega), List.getElem?_drop, show 60 + (i - 60) = i by omega]; exact hi))
  by_cases h2 : i < 180
  · exact mMemOf mFld_inC_2 e (List.mem_of_getElem? (i := i - 120) (by rw [List.getElem?_take, if_pos (by omega), List.getElem?_drop, show 120 + (i - 120) = i by omega]; exact hi))
  by_cases h3 : i < 240
  · exact mMemOf mFld_inC_3 e (List.mem_of_getElem? (i := i - 180) (by rw [List.getElem?_take, if_pos (by omega), List.getElem?_drop, show 180 + (i - 180) = i by omega]; exact hi))
  · omega
theorem mMth_inC_0 : ([[165], [168], [173], [176], [189], [192], [195], [198], [200], [204], [210], [214], [218], [221], [226], [248], [276], [279], [282], [285], [304], [308], [312], [316], [431], [434], [436], [453], [456], [474], [477], [481], [484], [522], [525], [527], [542], [545], [562], [618], [622], [626], [630], [634], [638], [642], [646], [650], [654], [658], [662], [663], [666], [669], [672], [675], [713], [717], [721], [725]] : List (List Nat)).map (fun p => p.map (fun i => lw_tbl[i]?)) = ((mMth.drop 0).take 60).map (fun e => (mMthL e).map some) := by decide +kernel
theorem mMth_inC_1 : ([[729], [730], [734], [738], [744], [745], [749], [753], [757], [761], [765], [769], [773], [777], [781], [785], [789], [793], [797], [801], [802], [806], [810], [814], [818], [819], [820], [824], [828], [832], [836], [840], [844], [848], [852], [856], [860], [861], [864], [868], [872], [876], [880], [884], [888], [892], [896], [900], [904], [905], [911], [915], [918], [922], [923], [927], [931], [935], [939], [940]] : List (List Nat)).map (fun p => p.map (fun i => lw_tbl[i]?)) = ((mMth.drop 60).take 60).map (fun e => (mMthL e).map some) := by decide +kernel
theorem mMth_inC_2 : ([[944], [948], [952], [956], [959], [963], [964], [965], [969], [970], [971], [972], [976], [980], [984], [985], [989], [993], [996], [997], [1001], [1005], [1009], [1013], [1017], [1021], [1025], [1029], [1033], [1037], [1041], [1045], [1049], [1053], [1057], [1061], [1065], [1069], [1074], [1078], [1082], [1083], [1087], [1088], [1089], [1090], [1091], [1095], [1096], [1097], [1101], [1105], [1109], [1113], [1117], [1121], [1125], [1128], [1132], [1136]] : List (List Nat)).map (fun p => p.map (fun i => lw_tbl[i]?)) = ((mMth.drop 120).take 60).map (fun e => (mMthL e).map some) := by decide +kernel
theorem mMth_inC_3 : ([[1140], [1144], [1148], [1152], [1156], [1160], [1164], [1168], [1172], [1175], [1178], [1179], [1183], [1186], [1190], [1194], [1405], [1409], [1413], [1417], [1421], [1425], [1429], [1433], [1436], [1439], [1443], [1447], [1451], [1455], [1459], [1463], [1467], [1471], [1475], [1479], [1483], [1487], [1491], [1495], [1499], [1503], [1507], [1511], [1515], [1519], [1523], [1527], [1531], [1534], [1538], [1542], [1546], [1550], [1554], [1558], [1562], [1566], [1570], [1573]] : List (List Nat)).map (fun p => p.map (fun i => lw_tbl[i]?)) = ((mMth.drop 180).take 60).map (fun e => (mMthL e).map some) := by decide +kernel
theorem mMth_inC_4 : ([[1577], [1581], [1585], [1589], [1593], [1597], [1601], [1605], [1609], [1613], [1617], [1621], [1625], [1629], [1632], [1636], [1640], [1644], [1648], [1652], [1656], [1660], [1663], [1667], [1671], [1675], [1679], [1683], [1687], [1691], [1695], [1698], [1702], [1706], [1709], [1713], [1717], [1721], [1725], [1729], [1733], [1737], [1741], [1745], [1749], [1753], [1757], [1761], [1764], [1768], [1771], [1775], [1780], [1784], [1788], [1792], [1796], [1800], [1804], [1808]] : List (List Nat)).map (fun p => p.map (fun i => lw_tbl[i]?)) = ((mMth.drop 240).take 60).map (fun e => (mMthL e).map some) := by decide +kernel
theorem mMth_inC_5 : ([[1812], [1816], [1820], [1824], [1828], [1832], [1836], [1840], [1844], [1848], [1852], [1856], [1860]] : List (List Nat)).map (fun p => p.map (fun i => lw_tbl[i]?)) = ((mMth.drop 300).take 60).map (fun e => (mMthL e).map some) := by decide +kernel
theorem mMth_in : ∀ e ∈ mMth, ∀ w ∈ mMthL e, w ∈ lw_tbl := by
  intro e he
  obtain ⟨i, hi⟩ := List.getElem?_of_mem he
  have hl : i < mMth.length := (List.getElem?_eq_some_iff.mp hi).1
  have hn : mMth.length ≤ 360 := by decide +kernel
  by_cases h0 : i < 60
  · exact mMemOf mMth_inC_0 e (List.mem_of_getElem? (i := i - 0) (by rw [List.getElem?_take, if_pos (by omega), List.getElem?_drop, show 0 + (i - 0) = i by omega]; exact hi))
  by_cases h1 : i < 120
  · exact mMemOf mMth_inC_1 e (List.mem_of_getElem? (i := i - 60) (by rw [List.getElem?_take, if_pos (by omega), List.getElem?_drop, show 60 + (i - 60) = i by omega]; exact hi))
  by_cases h2 : i < 180
  · exact mMemOf mMth_inC_2 e (List.mem_of_getElem? (i := i - 120) (by rw [List.getElem?_take, if_pos (by omega), List.getElem?_drop, show 120 + (i - 120) = i by omega]; exact hi))
  by_cases h3 : i < 240
  · exact mMemOf mMth_inC_3 e (List.mem_of_getElem? (i := i - 180) (by rw [List.getElem?_take, if_pos (by omega), List.getElem?_drop, show 180 + (i - 180) = i by omega]; exact hi))
  by_cases h4 : i < 300
  · exact mMemOf mMth_inC_4 e (List.mem_of_getElem? (i := i - 240) (by rw [List.getElem?_take, if_pos (by omega), List.getElem?_drop, show 240 + (i - 240) = i by omega]; exact hi))
  by_cases h5 : i < 360
  · exact mMemOf mMth_inC_5 e (List.mem_of_getElem? (i := i - 300) (by rw [List.getElem?_take, if_pos (by omega), List.getElem?_drop, show 300 + (i - 300) = i by omega]; exact hi))
  · omega
theorem mCln_inC_0 : ([[163, 164, 143], [171, 172, 144], [187, 188, 145], [193, 194, 146], [274, 275, 151], [280, 281, 152], [429, 430, 153], [435, 275, 151], [451, 452, 154], [472, 473, 155], [478, 480, 156], [520, 521, 157], [526, 480, 156], [540, 541, 158], [561, 480, 156], [1173, 1174, 159]] : List (List Nat)).map (fun p => p.map (fun i => lw_tbl[i]?)) = ((mCln.drop 0).take 20).map (fun e => (mClnW e).map some) := by decide +kernel
theorem mCln_in : ∀ e ∈ mCln, ∀ w ∈ mClnW e, w ∈ lw_tbl := by
  intro e he
  obtain ⟨i, hi⟩ := List.getElem?_of_mem he
  have hl : i < mCln.length := (List.getElem?_eq_some_iff.mp hi).1
  have hn : mCln.length ≤ 20 := by decide +kernel
  by_cases h0 : i < 20
  · exact mMemOf mCln_inC_0 e (List.mem_of_getElem? (i := i - 0) (by rw [List.getElem?_take, if_pos (by omega), List.getElem?_drop, show 0 + (i - 0) = i by omega]; exact hi))
  · omega
def mRowsM : List mRow := mRows_0 ++ (mRows_1 ++ (mRows_2 ++ (mRows_3 ++ (mRows_4 ++ (mRows_5 ++ (mRows_6))))))
theorem mRows_eq : mRows = mRowsM ++ [mRowLaw] := by simp only [mRows, mRowsM, List.append_assoc]
theorem mRowsM_len : mRowsM.length = 268 := by decide +kernel
theorem mRow_inC_0 : ([[154, 454], [154, 1146, 69], [154, 1162, 71], [153, 432], [153, 846, 37], [153, 850, 38], [153, 854, 39], [153, 858, 40], [153, 862], [153, 866, 41], [153, 882, 44], [153, 886, 45], [153, 913, 48], [153, 916], [153, 919], [153, 961, 52], [153, 967, 53], [153, 1051, 59], [157, 523], [157, 1080, 62], [157, 1085, 63], [157, 1093, 64], [155, 475], [155, 933, 50], [155, 978, 54], [151, 277], [151, 306, 0], [151, 779, 23], [151, 783, 24], [152, 283], [152, 310, 1], [152, 314, 2], [152, 822, 33], [158, 543], [158, 1115, 66], [158, 1119, 67], [158, 1123, 68], [145, 190], [145, 636, 4], [145, 747, 15]] : List (List Nat)).map (fun p => p.map (fun i => lw_tbl[i]?)) = ((mRowsM.drop 0).take 40).map (fun e => (mRowW e).map some) := by decide +kernel
theorem mRow_inC_1 : ([[145, 751, 16], [145, 755, 17], [145, 759, 18], [145, 763, 19], [145, 767, 20], [145, 771, 21], [145, 775, 22], [145, 787, 25], [145, 791, 26], [145, 795, 27], [145, 799, 28], [145, 804, 29], [145, 808, 30], [145, 812, 31], [145, 816, 32], [156, 482], [156, 830, 35], [156, 898, 46], [156, 902, 47], [156, 937, 51], [156, 1011, 56], [144, 174], [144, 624, 3], [144, 648, 6], [144, 652, 7], [144, 723, 10], [144, 736, 13], [146, 196], [146, 249], [146, 640, 5], [146, 643], [146, 715, 8], [146, 719, 9], [146, 727, 11], [146, 732, 12], [146, 740, 14], [143, 166], [143, 619, 620], [143, 627, 628], [143, 631, 632]] : List (List Nat)).map (fun p => p.map (fun i => lw_tbl[i]?)) = ((mRowsM.drop 40).take 40).map (fun e => (mRowW e).map some) := by decide +kernel
theorem mRow_inC_2 : ([[143, 826, 34], [143, 833, 834], [143, 837, 838], [143, 842, 36], [143, 869, 870], [143, 874, 42], [143, 878, 43], [143, 889, 890], [143, 893, 894], [143, 925, 49], [143, 928, 929], [143, 941, 942], [143, 945, 946], [143, 949, 950], [143, 953, 954], [143, 957], [143, 973, 974], [143, 981, 982], [143, 986, 987], [143, 990, 991], [143, 994], [143, 998, 999], [143, 1003, 55], [143, 1006, 1007], [143, 1014, 1015], [143, 1018, 1019], [143, 1022, 1023], [143, 1026, 1027], [143, 1031, 57], [143, 1034, 1035], [143, 1038, 1039], [143, 1043, 58], [143, 1046, 1047], [143, 1054, 1055], [143, 1059, 60], [143, 1063, 61], [143, 1066, 1067], [143, 1070, 1071], [143, 1075, 1076], [143, 1098, 1099]] : List (List Nat)).map (fun p => p.map (fun i => lw_tbl[i]?)) = ((mRowsM.drop 80).take 40).map (fun e => (mRowW e).map some) := by decide +kernel
theorem mRow_inC_3 : ([[143, 1102, 1103], [143, 1107, 65], [143, 1110, 1111], [143, 1129, 1130], [143, 1133, 1134], [143, 1137, 1138], [143, 1141, 1142], [143, 1149, 1150], [143, 1153, 1154], [143, 1158, 70], [143, 1165, 1166], [143, 1170, 72], [159, 1176], [159, 1181, 73], [159, 1184], [159, 1187], [159, 1192, 74], [159, 1196, 75], [159, 1406, 1407], [159, 1411, 76], [159, 1414, 1415], [159, 1418, 1419], [159, 1423, 77], [159, 1427, 78], [159, 1431, 79], [159, 1434], [159, 1437], [159, 1441, 80], [159, 1445, 81], [159, 1449, 82], [159, 1453, 83], [159, 1457, 84], [159, 1461, 85], [159, 1465, 86], [159, 1469, 87], [159, 1473, 88], [159, 1477, 89], [159, 1481, 90], [159, 1485, 91], [159, 1489, 92]] : List (List Nat)).map (fun p => p.map (fun i => lw_tbl[i]?)) = ((mRowsM.drop 120).take 40).map (fun e => (mRowW e).map some) := by decide +kernel
theorem mRow_inC_4 : ([[159, 1493, 93], [159, 1497, 94], [159, 1501, 95], [159, 1505, 96], [159, 1509, 97], [159, 1513, 98], [159, 1517, 99], [159, 1520, 1521], [159, 1524, 1525], [159, 1529, 100], [159, 1532], [159, 1536, 101], [159, 1540, 102], [159, 1544, 103], [159, 1548, 104], [159, 1552, 105], [159, 1556, 106], [159, 1560, 107], [159, 1564, 108], [159, 1568, 109], [159, 1571], [159, 1575, 110], [159, 1579, 111], [159, 1582, 1583], [159, 1587, 112], [159, 1591, 113], [159, 1595, 114], [159, 1598, 1599], [159, 1602, 1603], [159, 1607, 115], [159, 1611, 116], [159, 1614, 1615], [159, 1618, 1619], [159, 1622, 1623], [159, 1626, 1627], [159, 1630], [159, 1634, 117], [159, 1638, 118], [159, 1642, 119], [159, 1645]] : List (List Nat)).map (fun p => p.map (fun i => lw_tbl[i]?)) = ((mRowsM.drop 160).take 40).map (fun e => (mRowW e).map some) := by decide +kernel
theorem mRow_inC_5 : ([[159, 1650, 120], [159, 1653, 1654], [159, 1657, 1658], [159, 1661], [159, 1665, 121], [159, 1668, 1669], [159, 1673, 122], [159, 1677, 123], [159, 1680, 1681], [159, 1684, 1685], [159, 1688, 1689], [159, 1693, 124], [159, 1696], [159, 1700, 125], [159, 1703, 1704], [159, 1707], [159, 1711, 126], [159, 1714, 1715], [159, 1718, 1719], [159, 1723, 127], [159, 1726, 1727], [159, 1730, 1731], [159, 1735, 128], [159, 1739, 129], [159, 1742, 1743], [159, 1746, 1747], [159, 1750, 1751], [159, 1754, 1755], [159, 1759, 130], [159, 1762], [159, 1766, 131], [159, 1769], [159, 1773, 132], [159, 1776, 1777], [159, 1781, 1782], [159, 1785, 1786], [159, 1790, 133], [159, 1794, 134], [159, 1798, 135], [159, 1802, 136]] : List (List Nat)).map (fun p => p.map (fun i => lw_tbl[i]?)) = ((mRowsM.drop 200).take 40).map (fun e => (mRowW e).map some) := by decide +kernel
theorem mRow_inC_6 : ([[159, 1806, 137], [159, 1810, 138], [159, 1813, 1814], [159, 1817, 1818], [159, 1821, 1822], [159, 1825, 1826], [159, 1829, 1830], [159, 1833, 1834], [159, 1838, 139], [159, 1842, 140], [159, 1845, 1846], [159, 1849, 1850], [159, 1853, 1854], [159, 1857, 1858], [159, 1862, 141], [147, 211, 212], [147, 205, 206], [147, 655, 656], [147, 659, 660], [147, 215, 216], [147, 201, 202], [147, 222], [148, 667], [148, 219], [148, 664], [148, 676], [149, 227], [162, 906]] : List (List Nat)).map (fun p => p.map (fun i => lw_tbl[i]?)) = ((mRowsM.drop 240).take 40).map (fun e => (mRowW e).map some) := by decide +kernel
theorem mRow_in : ∀ e ∈ mRowsM, ∀ w ∈ mRowW e, w ∈ lw_tbl := by
  intro e he
  obtain ⟨i, hi⟩ := List.getElem?_of_mem he
  have hl : i < mRowsM.length := (List.getElem?_eq_some_iff.mp hi).1
  have hn : mRowsM.length ≤ 280 := by decide +kernel
  by_cases h0 : i < 40
  · exact mMemOf mRow_inC_0 e (List.mem_of_getElem? (i := i - 0) (by rw [List.getElem?_take, if_pos (by omega), List.getElem?_drop, show 0 + (i - 0) = i by omega]; exact hi))
  by_cases h1 : i < 80
  · exact mMemOf mRow_inC_1 e (List.mem_of_getElem? (i := i - 40) (by rw [List.getElem?_take, if_pos (by omega), List.getElem?_drop, show 40 + (i - 40) = i by omega]; exact hi))
  by_cases h2 : i < 120
  · exact mMemOf mRow_inC_2 e (List.mem_of_getElem? (i := i - 80) (by rw [List.getElem?_take, if_pos (by omega), List.getElem?_drop, show 80 + (i - 80) = i by omega]; exact hi))
  by_cases h3 : i < 160
  · exact mMemOf mRow_inC_3 e (List.mem_of_getElem? (i := i - 120) (by rw [List.getElem?_take, if_pos (by omega), List.getElem?_drop, show 120 + (i - 120) = i by omega]; exact hi))
  by_cases h4 : i < 200
  · exact mMemOf mRow_inC_4 e (List.mem_of_getElem? (i := i - 160) (by rw [List.getElem?_take, if_pos (by omega), List.getElem?_drop, show 160 + (i - 160) = i by omega]; exact hi))
  by_cases h5 : i < 240
  · exact mMemOf mRow_inC_5 e (List.mem_of_getElem? (i := i - 200) (by rw [List.getElem?_take, if_pos (by omega), List.getElem?_drop, show 200 + (i - 200) = i by omega]; exact hi))
  by_cases h6 : i < 280
  · exact mMemOf mRow_inC_6 e (List.mem_of_getElem? (i := i - 240) (by rw [List.getElem?_take, if_pos (by omega), List.getElem?_drop, show 240 + (i - 240) = i by omega]; exact hi))
  · omega
theorem mTb1 {w : Cond} (h : w ∈ tables_1_1) : w ∈ lw_tbl := List.mem_append_right _ (show w ∈ tables_1 from List.mem_append_left _ h)
theorem mTb2 {w : Cond} (h : w ∈ tables_1_2) : w ∈ lw_tbl := List.mem_append_right _ (show w ∈ tables_1 from List.mem_append_right _ (List.mem_append_left _ h))
theorem mTb3 {w : Cond} (h : w ∈ tables_1_3) : w ∈ lw_tbl := List.mem_append_right _ (show w ∈ tables_1 from List.mem_append_right _ (List.mem_append_right _ (List.mem_append_left _ h)))
theorem mTb4 {w : Cond} (h : w ∈ tables_1_4) : w ∈ lw_tbl := List.mem_append_right _ (show w ∈ tables_1 from List.mem_append_right _ (List.mem_append_right _ (List.mem_append_right _ (List.mem_append_left _ h))))
theorem mTb5 {w : Cond} (h : w ∈ tables_1_5) : w ∈ lw_tbl := List.mem_append_right _ (show w ∈ tables_1 from List.mem_append_right _ (List.mem_append_right _ (List.mem_append_right _ (List.mem_append_right _ (List.mem_append_left _ h)))))
theorem mTb6 {w : Cond} (h : w ∈ tables_1_6) : w ∈ lw_tbl := List.mem_append_right _ (show w ∈ tables_1 from List.mem_append_right _ (List.mem_append_right _ (List.mem_append_right _ (List.mem_append_right _ (List.mem_append_right _ (List.mem_append_left _ h))))))
theorem mTb7 {w : Cond} (h : w ∈ tables_1_7) : w ∈ lw_tbl := List.mem_append_right _ (show w ∈ tables_1 from List.mem_append_right _ (List.mem_append_right _ (List.mem_append_right _ (List.mem_append_right _ (List.mem_append_right _ (List.mem_append_right _ (List.mem_append_left _ h)))))))
theorem mTb8 {w : Cond} (h : w ∈ tables_1_8) : w ∈ lw_tbl := List.mem_append_right _ (show w ∈ tables_1 from List.mem_append_right _ (List.mem_append_right _ (List.mem_append_right _ (List.mem_append_right _ (List.mem_append_right _ (List.mem_append_right _ (List.mem_append_right _ (h))))))))
theorem mCo_0 : Cond.code ⟨"FamilyGlass$Book", "<init>", "()V"⟩ prog_2_method_1_code 1 none ∈ lw_tbl := mTb2 (List.mem_of_getElem? (i := 73) rfl)
theorem mCo_1 : Cond.code ⟨"FamilyGlass$Book", "write", "(IIZ)I"⟩ prog_2_method_2_code 4 (some .int) ∈ lw_tbl := mTb5 (List.mem_of_getElem? (i := 45) rfl)
theorem mCo_2 : Cond.code ⟨"FamilyGlass$Book", "agrees", "(I[I)Z"⟩ prog_2_method_3_code 5 (some .boolean) ∈ lw_tbl := mTb5 (List.mem_of_getElem? (i := 61) rfl)
theorem mCo_3 : Cond.code ⟨"FamilyGlass$Course", "<init>", "()V"⟩ prog_3_method_1_code 1 none ∈ lw_tbl := mTb2 (List.mem_of_getElem? (i := 51) rfl)
theorem mCo_4 : Cond.code ⟨"FamilyGlass$Course", "markOf", "(LFamilyGlass$State;)I"⟩ prog_3_method_4_code 3 (some .int) ∈ lw_tbl := mTb3 (List.mem_of_getElem? (i := 225) rfl)
theorem mCo_5 : Cond.code ⟨"FamilyGlass$Course", "jumpsOf", "(LFamilyGlass$State;)I"⟩ prog_3_method_3_code 2 (some .int) ∈ lw_tbl := mTb3 (List.mem_of_getElem? (i := 229) rfl)
theorem mCo_6 : Cond.code ⟨"FamilyGlass$Course", "see", "(LFamilyGlass$State;)V"⟩ prog_3_method_2_code 6 none ∈ lw_tbl := mTb3 (List.mem_of_getElem? (i := 233) rfl)
theorem mCo_7 : Cond.code ⟨"FamilyGlass$Course", "valueOf", "(LFamilyGlass$Law;)I"⟩ prog_3_method_15_code 8 (some .int) ∈ lw_tbl := mTb3 (List.mem_of_getElem? (i := 237) rfl)
theorem mCo_8 : Cond.code ⟨"FamilyGlass$Course", "held", "(II)I"⟩ prog_3_method_7_code 2 (some .int) ∈ lw_tbl := mTb4 (List.mem_of_getElem? (i := 1) rfl)
theorem mCo_9 : Cond.code ⟨"FamilyGlass$Course", "driftsTold", "(LFamilyGlass$State;II)I"⟩ prog_3_method_6_code 4 (some .int) ∈ lw_tbl := mTb4 (List.mem_of_getElem? (i := 5) rfl)
theorem mCo_10 : Cond.code ⟨"FamilyGlass$Course", "doneAt", "(LFamilyGlass$State;I)I"⟩ prog_3_method_8_code 5 (some .int) ∈ lw_tbl := mTb4 (List.mem_of_getElem? (i := 21) rfl)
theorem mCo_11 : Cond.code ⟨"FamilyGlass$Course", "changesTold", "(LFamilyGlass$State;II)I"⟩ prog_3_method_5_code 5 (some .int) ∈ lw_tbl := mTb4 (List.mem_of_getElem? (i := 25) rfl)
theorem mCo_12 : Cond.code ⟨"FamilyGlass$Course", "isSlip", "(II)Z"⟩ prog_3_method_12_code 3 (some .boolean) ∈ lw_tbl := mTb4 (List.mem_of_getElem? (i := 52) rfl)
theorem mCo_13 : Cond.code ⟨"FamilyGlass$Course", "lotOfHundred", "(II)I"⟩ prog_3_method_13_code 3 (some .int) ∈ lw_tbl := mTb4 (List.mem_of_getElem? (i := 55) rfl)
theorem mCo_14 : Cond.code ⟨"FamilyGlass$Course", "stirred", "(II)I"⟩ prog_3_method_14_code 3 (some .int) ∈ lw_tbl := mTb4 (List.mem_of_getElem? (i := 58) rfl)
theorem mCo_15 : Cond.code ⟨"FamilyGlass$Course", "markBehindSlips", "(LFamilyGlass$State;II)I"⟩ prog_3_method_11_code 7 (some .int) ∈ lw_tbl := mTb4 (List.mem_of_getElem? (i := 100) rfl)
theorem mCo_16 : Cond.code ⟨"FamilyGlass$Course", "passHour", "(LFamilyGlass$State;I)I"⟩ prog_3_method_9_code 6 (some .int) ∈ lw_tbl := mTb4 (List.mem_of_getElem? (i := 106) rfl)
theorem mCo_17 : Cond.code ⟨"FamilyGlass$Course", "markBehind", "(LFamilyGlass$State;I)I"⟩ prog_3_method_10_code 5 (some .int) ∈ lw_tbl := mTb4 (List.mem_of_getElem? (i := 190) rfl)
theorem mCo_18 : Cond.code ⟨"FamilyGlass$Game", "<init>", "()V"⟩ prog_4_method_1_code 2 none ∈ lw_tbl := mTb2 (List.mem_of_getElem? (i := 142) rfl)
theorem mCo_19 : Cond.code ⟨"FamilyGlass$Game", "play", "(LFamilyGlass$Course;LFamilyGlass$State;I)V"⟩ prog_4_method_2_code 5 none ∈ lw_tbl := mTb4 (List.mem_of_getElem? (i := 219) rfl)
theorem mCo_20 : Cond.code ⟨"FamilyGlass$Game", "auntsLeast", "(LFamilyGlass$Course;IIII)I"⟩ prog_4_method_4_code 12 (some .int) ∈ lw_tbl := mTb4 (List.mem_of_getElem? (i := 224) rfl)
theorem mCo_21 : Cond.code ⟨"FamilyGlass$Game", "boysMost", "(LFamilyGlass$Course;III)I"⟩ prog_4_method_3_code 6 (some .int) ∈ lw_tbl := mTb4 (List.mem_of_getElem? (i := 232) rfl)
theorem mCo_22 : Cond.code ⟨"FamilyGlass$History", "<init>", "()V"⟩ prog_5_method_1_code 2 none ∈ lw_tbl := mTb2 (List.mem_of_getElem? (i := 94) rfl)
theorem mCo_23 : Cond.code ⟨"FamilyGlass$History", "keep", "(LFamilyGlass$State;)V"⟩ prog_5_method_2_code 2 none ∈ lw_tbl := mTb4 (List.mem_of_getElem? (i := 72) rfl)
theorem mCo_24 : Cond.code ⟨"FamilyGlass$History", "takeBack", "(LFamilyGlass$State;)Z"⟩ prog_5_method_3_code 2 (some .boolean) ∈ lw_tbl := mTb4 (List.mem_of_getElem? (i := 117) rfl)
theorem mCo_25 : Cond.code ⟨"FamilyGlass$House", "<init>", "()V"⟩ prog_6_method_1_code 1 none ∈ lw_tbl := mTb1 (List.mem_of_getElem? (i := 136) rfl)
theorem mCo_26 : Cond.code ⟨"FamilyGlass$House", "clear", "()V"⟩ prog_6_method_2_code 1 none ∈ lw_tbl := mTb1 (List.mem_of_getElem? (i := 165) rfl)
theorem mCo_27 : Cond.code ⟨"FamilyGlass$House", "hasName", "(J)Z"⟩ prog_6_method_4_code 4 (some .boolean) ∈ lw_tbl := mTb3 (List.mem_of_getElem? (i := 158) rfl)
theorem mCo_28 : Cond.code ⟨"FamilyGlass$House", "personNamed", "(J)I"⟩ prog_6_method_3_code 4 (some .int) ∈ lw_tbl := mTb3 (List.mem_of_getElem? (i := 162) rfl)
theorem mCo_29 : Cond.code ⟨"FamilyGlass$Law", "<init>", "(I)V"⟩ prog_7_method_1_code 2 none ∈ lw_tbl := mTb1 (List.mem_of_getElem? (i := 142) rfl)
theorem mCo_30 : Cond.code ⟨"FamilyGlass$Law", "addVar", "(I)V"⟩ prog_7_method_3_code 2 none ∈ lw_tbl := mTb1 (List.mem_of_getElem? (i := 169) rfl)
theorem mCo_31 : Cond.code ⟨"FamilyGlass$Law", "add", "(II)V"⟩ prog_7_method_2_code 3 none ∈ lw_tbl := mTb1 (List.mem_of_getElem? (i := 173) rfl)
theorem mCo_32 : Cond.code ⟨"FamilyGlass$Law", "lead", "(I)V"⟩ prog_7_method_4_code 2 none ∈ lw_tbl := mTb3 (List.mem_of_getElem? (i := 201) rfl)
theorem mCo_33 : Cond.code ⟨"FamilyGlass$Pairing", "<init>", "()V"⟩ prog_8_method_1_code 1 none ∈ lw_tbl := mTb2 (List.mem_of_getElem? (i := 162) rfl)
theorem mCo_34 : Cond.code ⟨"FamilyGlass$Pairing", "find", "(LFamilyGlass$State;I)V"⟩ prog_8_method_2_code 4 none ∈ lw_tbl := mTb5 (List.mem_of_getElem? (i := 14) rfl)
theorem mCo_35 : Cond.code ⟨"FamilyGlass$Pairing", "pairFrom", "(LFamilyGlass$State;III)V"⟩ prog_8_method_3_code 6 none ∈ lw_tbl := mTb5 (List.mem_of_getElem? (i := 18) rfl)
theorem mCo_36 : Cond.code ⟨"FamilyGlass$Pairing", "keepIfLess", "(I)V"⟩ prog_8_method_4_code 3 none ∈ lw_tbl := mTb5 (List.mem_of_getElem? (i := 22) rfl)
theorem mCo_37 : Cond.code ⟨"FamilyGlass$Reader", "<init>", "()V"⟩ prog_9_method_1_code 1 none ∈ lw_tbl := mTb1 (List.mem_of_getElem? (i := 49) rfl)
theorem mCo_38 : Cond.code ⟨"FamilyGlass$Reader", "readText", "(LFamilyGlass$Tape;)I"⟩ prog_9_method_2_code 3 (some .int) ∈ lw_tbl := mTb3 (List.mem_of_getElem? (i := 15) rfl)
theorem mCo_39 : Cond.code ⟨"FamilyGlass$Reader", "kind", "()I"⟩ prog_9_method_10_code 1 (some .int) ∈ lw_tbl := mTb3 (List.mem_of_getElem? (i := 126) rfl)
theorem mCo_40 : Cond.code ⟨"FamilyGlass$Reader", "readTell", "()V"⟩ prog_9_method_3_code 1 none ∈ lw_tbl := mTb3 (List.mem_of_getElem? (i := 130) rfl)
theorem mCo_41 : Cond.code ⟨"FamilyGlass$Reader", "readPerson", "()V"⟩ prog_9_method_4_code 2 none ∈ lw_tbl := mTb3 (List.mem_of_getElem? (i := 134) rfl)
theorem mCo_42 : Cond.code ⟨"FamilyGlass$Reader", "fail", "(I)V"⟩ prog_9_method_17_code 2 none ∈ lw_tbl := mTb3 (List.mem_of_getElem? (i := 138) rfl)
theorem mCo_43 : Cond.code ⟨"FamilyGlass$Reader", "start", "()I"⟩ prog_9_method_12_code 1 (some .int) ∈ lw_tbl := mTb3 (List.mem_of_getElem? (i := 142) rfl)
theorem mCo_44 : Cond.code ⟨"FamilyGlass$Reader", "take", "(I)V"⟩ prog_9_method_13_code 2 none ∈ lw_tbl := mTb3 (List.mem_of_getElem? (i := 146) rfl)
theorem mCo_45 : Cond.code ⟨"FamilyGlass$Reader", "takeNewName", "()J"⟩ prog_9_method_14_code 3 (some .long) ∈ lw_tbl := mTb3 (List.mem_of_getElem? (i := 150) rfl)
theorem mCo_46 : Cond.code ⟨"FamilyGlass$Reader", "value", "()J"⟩ prog_9_method_11_code 1 (some .long) ∈ lw_tbl := mTb3 (List.mem_of_getElem? (i := 154) rfl)
theorem mCo_47 : Cond.code ⟨"FamilyGlass$Reader", "failLater", "(I)V"⟩ prog_9_method_18_code 2 none ∈ lw_tbl := mTb3 (List.mem_of_getElem? (i := 166) rfl)
theorem mCo_48 : Cond.code ⟨"FamilyGlass$Reader", "takeInt", "(I)I"⟩ prog_9_method_16_code 3 (some .int) ∈ lw_tbl := mTb3 (List.mem_of_getElem? (i := 170) rfl)
theorem mCo_49 : Cond.code ⟨"FamilyGlass$Reader", "readDoing", "()V"⟩ prog_9_method_5_code 2 none ∈ lw_tbl := mTb3 (List.mem_of_getElem? (i := 174) rfl)
theorem mCo_50 : Cond.code ⟨"FamilyGlass$Reader", "takePerson", "()I"⟩ prog_9_method_15_code 2 (some .int) ∈ lw_tbl := mTb3 (List.mem_of_getElem? (i := 178) rfl)
theorem mCo_51 : Cond.code ⟨"FamilyGlass$Reader", "readLaw", "(LFamilyGlass$Law;)V"⟩ prog_9_method_6_code 4 none ∈ lw_tbl := mTb3 (List.mem_of_getElem? (i := 183) rfl)
theorem mCo_52 : Cond.code ⟨"FamilyGlass$Reader", "readSum", "(LFamilyGlass$Law;I)V"⟩ prog_9_method_7_code 5 none ∈ lw_tbl := mTb3 (List.mem_of_getElem? (i := 187) rfl)
theorem mCo_53 : Cond.code ⟨"FamilyGlass$Reader", "readPart", "(LFamilyGlass$Law;I)V"⟩ prog_9_method_8_code 5 none ∈ lw_tbl := mTb3 (List.mem_of_getElem? (i := 191) rfl)
theorem mCo_54 : Cond.code ⟨"FamilyGlass$Reader", "readUnit", "(LFamilyGlass$Law;I)V"⟩ prog_9_method_9_code 4 none ∈ lw_tbl := mTb3 (List.mem_of_getElem? (i := 195) rfl)
theorem mCo_55 : Cond.code ⟨"FamilyGlass$State", "<init>", "()V"⟩ prog_10_method_1_code 1 none ∈ lw_tbl := mTb2 (List.mem_of_getElem? (i := 101) rfl)
theorem mCo_56 : Cond.code ⟨"FamilyGlass$State", "clearTo", "(LFamilyGlass$House;)V"⟩ prog_10_method_3_code 3 none ∈ lw_tbl := mTb3 (List.mem_of_getElem? (i := 209) rfl)
theorem mCo_57 : Cond.code ⟨"FamilyGlass$State", "total", "()I"⟩ prog_10_method_5_code 3 (some .int) ∈ lw_tbl := mTb4 (List.mem_of_getElem? (i := 37) rfl)
theorem mCo_58 : Cond.code ⟨"FamilyGlass$State", "greatest", "()I"⟩ prog_10_method_6_code 3 (some .int) ∈ lw_tbl := mTb4 (List.mem_of_getElem? (i := 41) rfl)
theorem mCo_59 : Cond.code ⟨"FamilyGlass$State", "takeFrom", "(LFamilyGlass$State;)V"⟩ prog_10_method_2_code 3 none ∈ lw_tbl := mTb4 (List.mem_of_getElem? (i := 76) rfl)
theorem mCo_60 : Cond.code ⟨"FamilyGlass$State", "hasMoodsOf", "(LFamilyGlass$State;)Z"⟩ prog_10_method_4_code 3 (some .boolean) ∈ lw_tbl := mTb4 (List.mem_of_getElem? (i := 150) rfl)
theorem mCo_61 : Cond.code ⟨"FamilyGlass$Tape", "<init>", "()V"⟩ prog_11_method_1_code 1 none ∈ lw_tbl := mTb1 (List.mem_of_getElem? (i := 33) rfl)
theorem mCo_62 : Cond.code ⟨"FamilyGlass$Tape", "addFour", "(I)V"⟩ prog_11_method_2_code 3 none ∈ lw_tbl := mTb3 (List.mem_of_getElem? (i := 3) rfl)
theorem mCo_63 : Cond.code ⟨"FamilyGlass$Tape", "isOneOfAt", "(Ljava/lang/String;I)Z"⟩ prog_11_method_6_code 4 (some .boolean) ∈ lw_tbl := mTb3 (List.mem_of_getElem? (i := 27) rfl)
theorem mCo_64 : Cond.code ⟨"FamilyGlass$Tape", "byteAt", "(I)I"⟩ prog_11_method_3_code 2 (some .int) ∈ lw_tbl := mTb3 (List.mem_of_getElem? (i := 31) rfl)
theorem mCo_65 : Cond.code ⟨"FamilyGlass$Tape", "isLetterAt", "(I)Z"⟩ prog_11_method_4_code 3 (some .boolean) ∈ lw_tbl := mTb3 (List.mem_of_getElem? (i := 102) rfl)
theorem mCo_66 : Cond.code ⟨"FamilyGlass$Tape", "isDigitAt", "(I)Z"⟩ prog_11_method_5_code 3 (some .boolean) ∈ lw_tbl := mTb3 (List.mem_of_getElem? (i := 115) rfl)
theorem mCo_67 : Cond.code ⟨"FamilyGlass$Tokens", "<init>", "()V"⟩ prog_12_method_1_code 4 none ∈ lw_tbl := mTb1 (List.mem_of_getElem? (i := 55) rfl)
theorem mCo_68 : Cond.code ⟨"FamilyGlass$Tokens", "withLetter", "(JI)J"⟩ prog_12_method_2_code 3 (some .long) ∈ lw_tbl := mTb1 (List.mem_of_getElem? (i := 108) rfl)
theorem mCo_69 : Cond.code ⟨"FamilyGlass$Tokens", "scan", "(LFamilyGlass$Tape;)V"⟩ prog_12_method_3_code 5 none ∈ lw_tbl := mTb3 (List.mem_of_getElem? (i := 19) rfl)
theorem mCo_70 : Cond.code ⟨"FamilyGlass$Tokens", "behindBlanks", "(LFamilyGlass$Tape;I)I"⟩ prog_12_method_4_code 3 (some .int) ∈ lw_tbl := mTb3 (List.mem_of_getElem? (i := 22) rfl)
theorem mCo_71 : Cond.code ⟨"FamilyGlass$Tokens", "scanOne", "(LFamilyGlass$Tape;I)I"⟩ prog_12_method_5_code 3 (some .int) ∈ lw_tbl := mTb3 (List.mem_of_getElem? (i := 94) rfl)
theorem mCo_72 : Cond.code ⟨"FamilyGlass$Tokens", "add", "(IJI)V"⟩ prog_12_method_9_code 5 none ∈ lw_tbl := mTb3 (List.mem_of_getElem? (i := 98) rfl)
theorem mCo_73 : Cond.code ⟨"FamilyGlass$Tokens", "scanWord", "(LFamilyGlass$Tape;I)I"⟩ prog_12_method_6_code 6 (some .int) ∈ lw_tbl := mTb3 (List.mem_of_getElem? (i := 106) rfl)
theorem mCo_74 : Cond.code ⟨"FamilyGlass$Tokens", "wordKind", "(J)I"⟩ prog_12_method_7_code 4 (some .int) ∈ lw_tbl := mTb3 (List.mem_of_getElem? (i := 111) rfl)
theorem mCo_75 : Cond.code ⟨"FamilyGlass$Tokens", "scanInt", "(LFamilyGlass$Tape;I)I"⟩ prog_12_method_8_code 6 (some .int) ∈ lw_tbl := mTb3 (List.mem_of_getElem? (i := 119) rfl)
theorem mCo_76 : Cond.code ⟨"FamilyGlass", "<init>", "()V"⟩ prog_1_method_1_code 2 none ∈ lw_tbl := mTb1 (List.mem_of_getElem? (i := 25) rfl)
theorem mCo_77 : Cond.code ⟨"FamilyGlass", "feed", "(IIIII)I"⟩ prog_1_method_2_code 6 (some .int) ∈ lw_tbl := mTb2 (List.mem_of_getElem? (i := 239) rfl)
theorem mCo_78 : Cond.code ⟨"FamilyGlass", "back", "(I)I"⟩ prog_1_method_3_code 2 (some .int) ∈ lw_tbl := mTb3 (List.mem_of_getElem? (i := 7) rfl)
theorem mCo_79 : Cond.code ⟨"FamilyGlass", "read", "()I"⟩ prog_1_method_4_code 3 (some .int) ∈ lw_tbl := mTb3 (List.mem_of_getElem? (i := 11) rfl)
theorem mCo_80 : Cond.code ⟨"FamilyGlass", "startAnew", "()V"⟩ prog_1_method_5_code 1 none ∈ lw_tbl := mTb3 (List.mem_of_getElem? (i := 205) rfl)
theorem mCo_81 : Cond.code ⟨"FamilyGlass", "place", "()I"⟩ prog_1_method_6_code 1 (some .int) ∈ lw_tbl := mTb3 (List.mem_of_getElem? (i := 213) rfl)
theorem mCo_82 : Cond.code ⟨"FamilyGlass", "person", "(II)I"⟩ prog_1_method_7_code 3 (some .int) ∈ lw_tbl := mTb3 (List.mem_of_getElem? (i := 217) rfl)
theorem mCo_83 : Cond.code ⟨"FamilyGlass", "isPerson", "(I)Z"⟩ prog_1_method_13_code 2 (some .boolean) ∈ lw_tbl := mTb3 (List.mem_of_getElem? (i := 221) rfl)
theorem mCo_84 : Cond.code ⟨"FamilyGlass", "doing", "(II)I"⟩ prog_1_method_8_code 3 (some .int) ∈ lw_tbl := mTb4 (List.mem_of_getElem? (i := 9) rfl)
theorem mCo_85 : Cond.code ⟨"FamilyGlass", "isDoing", "(I)Z"⟩ prog_1_method_14_code 2 (some .boolean) ∈ lw_tbl := mTb4 (List.mem_of_getElem? (i := 13) rfl)
theorem mCo_86 : Cond.code ⟨"FamilyGlass", "doneNow", "()I"⟩ prog_1_method_11_code 1 (some .int) ∈ lw_tbl := mTb4 (List.mem_of_getElem? (i := 17) rfl)
theorem mCo_87 : Cond.code ⟨"FamilyGlass", "mark", "()I"⟩ prog_1_method_9_code 1 (some .int) ∈ lw_tbl := mTb4 (List.mem_of_getElem? (i := 29) rfl)
theorem mCo_88 : Cond.code ⟨"FamilyGlass", "count", "(I)I"⟩ prog_1_method_10_code 2 (some .int) ∈ lw_tbl := mTb4 (List.mem_of_getElem? (i := 33) rfl)
theorem mCo_89 : Cond.code ⟨"FamilyGlass", "peopleOfMood", "(I)I"⟩ prog_1_method_12_code 4 (some .int) ∈ lw_tbl := mTb4 (List.mem_of_getElem? (i := 64) rfl)
theorem mCo_90 : Cond.code ⟨"FamilyGlass", "tap", "()I"⟩ prog_1_method_17_code 1 (some .int) ∈ lw_tbl := mTb4 (List.mem_of_getElem? (i := 68) rfl)
theorem mCo_91 : Cond.code ⟨"FamilyGlass", "let", "()I"⟩ prog_1_method_18_code 2 (some .int) ∈ lw_tbl := mTb4 (List.mem_of_getElem? (i := 81) rfl)
theorem mCo_92 : Cond.code ⟨"FamilyGlass", "forbid", "(IZ)Z"⟩ prog_1_method_19_code 3 (some .boolean) ∈ lw_tbl := mTb4 (List.mem_of_getElem? (i := 85) rfl)
theorem mCo_93 : Cond.code ⟨"FamilyGlass", "cheer", "(IZ)Z"⟩ prog_1_method_20_code 3 (some .boolean) ∈ lw_tbl := mTb4 (List.mem_of_getElem? (i := 89) rfl)
theorem mCo_94 : Cond.code ⟨"FamilyGlass", "hours", "(I)I"⟩ prog_1_method_21_code 2 (some .int) ∈ lw_tbl := mTb4 (List.mem_of_getElem? (i := 93) rfl)
theorem mCo_95 : Cond.code ⟨"FamilyGlass", "within", "(III)Z"⟩ prog_1_method_16_code 3 (some .boolean) ∈ lw_tbl := mTb4 (List.mem_of_getElem? (i := 96) rfl)
theorem mCo_96 : Cond.code ⟨"FamilyGlass", "undo", "()Z"⟩ prog_1_method_22_code 1 (some .boolean) ∈ lw_tbl := mTb4 (List.mem_of_getElem? (i := 113) rfl)
theorem mCo_97 : Cond.code ⟨"FamilyGlass", "hold", "(I)Z"⟩ prog_1_method_23_code 2 (some .boolean) ∈ lw_tbl := mTb4 (List.mem_of_getElem? (i := 121) rfl)
theorem mCo_98 : Cond.code ⟨"FamilyGlass", "restore", "(I)Z"⟩ prog_1_method_24_code 2 (some .boolean) ∈ lw_tbl := mTb4 (List.mem_of_getElem? (i := 126) rfl)
theorem mCo_99 : Cond.code ⟨"FamilyGlass", "comes", "(I)I"⟩ prog_1_method_25_code 4 (some .int) ∈ lw_tbl := mTb4 (List.mem_of_getElem? (i := 130) rfl)
theorem mCo_100 : Cond.code ⟨"FamilyGlass", "isMark", "(I)Z"⟩ prog_1_method_15_code 1 (some .boolean) ∈ lw_tbl := mTb4 (List.mem_of_getElem? (i := 133) rfl)
theorem mCo_101 : Cond.code ⟨"FamilyGlass", "round", "(I)I"⟩ prog_1_method_26_code 4 (some .int) ∈ lw_tbl := mTb4 (List.mem_of_getElem? (i := 138) rfl)
theorem mCo_102 : Cond.code ⟨"FamilyGlass", "codeMoods", "()V"⟩ prog_1_method_27_code 4 none ∈ lw_tbl := mTb4 (List.mem_of_getElem? (i := 142) rfl)
theorem mCo_103 : Cond.code ⟨"FamilyGlass", "settles", "()I"⟩ prog_1_method_28_code 2 (some .int) ∈ lw_tbl := mTb4 (List.mem_of_getElem? (i := 146) rfl)
theorem mCo_104 : Cond.code ⟨"FamilyGlass", "itself", "()I"⟩ prog_1_method_29_code 3 (some .int) ∈ lw_tbl := mTb4 (List.mem_of_getElem? (i := 154) rfl)
theorem mCo_105 : Cond.code ⟨"FamilyGlass", "often", "(II)I"⟩ prog_1_method_30_code 6 (some .int) ∈ lw_tbl := mTb4 (List.mem_of_getElem? (i := 158) rfl)
theorem mCo_106 : Cond.code ⟨"FamilyGlass", "quiet", "(I)I"⟩ prog_1_method_31_code 4 (some .int) ∈ lw_tbl := mTb4 (List.mem_of_getElem? (i := 162) rfl)
theorem mCo_107 : Cond.code ⟨"FamilyGlass", "busiest", "(II)I"⟩ prog_1_method_32_code 5 (some .int) ∈ lw_tbl := mTb4 (List.mem_of_getElem? (i := 166) rfl)
theorem mCo_108 : Cond.code ⟨"FamilyGlass", "countDoings", "(I)V"⟩ prog_1_method_33_code 5 none ∈ lw_tbl := mTb4 (List.mem_of_getElem? (i := 170) rfl)
theorem mCo_109 : Cond.code ⟨"FamilyGlass", "highest", "(II)I"⟩ prog_1_method_34_code 7 (some .int) ∈ lw_tbl := mTb4 (List.mem_of_getElem? (i := 174) rfl)
theorem mCo_110 : Cond.code ⟨"FamilyGlass", "forbids", "(III)I"⟩ prog_1_method_35_code 8 (some .int) ∈ lw_tbl := mTb4 (List.mem_of_getElem? (i := 178) rfl)
theorem mCo_111 : Cond.code ⟨"FamilyGlass", "keepsOff", "(III)Z"⟩ prog_1_method_36_code 6 (some .boolean) ∈ lw_tbl := mTb4 (List.mem_of_getElem? (i := 182) rfl)
theorem mCo_112 : Cond.code ⟨"FamilyGlass", "tapping", "(II)I"⟩ prog_1_method_37_code 4 (some .int) ∈ lw_tbl := mTb4 (List.mem_of_getElem? (i := 186) rfl)
theorem mCo_113 : Cond.code ⟨"FamilyGlass", "coax", "(III)I"⟩ prog_1_method_38_code 7 (some .int) ∈ lw_tbl := mTb4 (List.mem_of_getElem? (i := 194) rfl)
theorem mCo_114 : Cond.code ⟨"FamilyGlass", "coaxed", "(IIII)I"⟩ prog_1_method_39_code 7 (some .int) ∈ lw_tbl := mTb4 (List.mem_of_getElem? (i := 198) rfl)
theorem mCo_115 : Cond.code ⟨"FamilyGlass", "comesTo", "(IIII)Z"⟩ prog_1_method_40_code 5 (some .boolean) ∈ lw_tbl := mTb4 (List.mem_of_getElem? (i := 202) rfl)
theorem mCo_116 : Cond.code ⟨"FamilyGlass", "changed", "(II)I"⟩ prog_1_method_41_code 5 (some .int) ∈ lw_tbl := mTb4 (List.mem_of_getElem? (i := 206) rfl)
theorem mCo_117 : Cond.code ⟨"FamilyGlass", "worth", "(II)I"⟩ prog_1_method_42_code 4 (some .int) ∈ lw_tbl := mTb4 (List.mem_of_getElem? (i := 210) rfl)
theorem mCo_118 : Cond.code ⟨"FamilyGlass", "game", "(II)I"⟩ prog_1_method_43_code 3 (some .int) ∈ lw_tbl := mTb4 (List.mem_of_getElem? (i := 215) rfl)
theorem mCo_119 : Cond.code ⟨"FamilyGlass", "gloomiest", "(I)I"⟩ prog_1_method_44_code 4 (some .int) ∈ lw_tbl := mTb4 (List.mem_of_getElem? (i := 238) rfl)
theorem mCo_120 : Cond.code ⟨"FamilyGlass", "parts", "(II)I"⟩ prog_1_method_45_code 6 (some .int) ∈ lw_tbl := mTb5 (List.mem_of_getElem? (i := 2) rfl)
theorem mCo_121 : Cond.code ⟨"FamilyGlass", "totalOf", "(I)I"⟩ prog_1_method_46_code 4 (some .int) ∈ lw_tbl := mTb5 (List.mem_of_getElem? (i := 6) rfl)
theorem mCo_122 : Cond.code ⟨"FamilyGlass", "pairs", "(I)I"⟩ prog_1_method_47_code 2 (some .int) ∈ lw_tbl := mTb5 (List.mem_of_getElem? (i := 10) rfl)
theorem mCo_123 : Cond.code ⟨"FamilyGlass", "markIn", "(I)I"⟩ prog_1_method_48_code 2 (some .int) ∈ lw_tbl := mTb5 (List.mem_of_getElem? (i := 29) rfl)
theorem mCo_124 : Cond.code ⟨"FamilyGlass", "moodIn", "(II)I"⟩ prog_1_method_49_code 3 (some .int) ∈ lw_tbl := mTb5 (List.mem_of_getElem? (i := 33) rfl)
theorem mCo_125 : Cond.code ⟨"FamilyGlass", "year", "(III)I"⟩ prog_1_method_50_code 6 (some .int) ∈ lw_tbl := mTb5 (List.mem_of_getElem? (i := 37) rfl)
theorem mCo_126 : Cond.code ⟨"FamilyGlass", "tell", "(IIZ)I"⟩ prog_1_method_51_code 4 (some .int) ∈ lw_tbl := mTb5 (List.mem_of_getElem? (i := 41) rfl)
theorem mCo_127 : Cond.code ⟨"FamilyGlass", "forget", "()I"⟩ prog_1_method_52_code 2 (some .int) ∈ lw_tbl := mTb5 (List.mem_of_getElem? (i := 49) rfl)
theorem mCo_128 : Cond.code ⟨"FamilyGlass", "fits", "(III)I"⟩ prog_1_method_53_code 7 (some .int) ∈ lw_tbl := mTb5 (List.mem_of_getElem? (i := 53) rfl)
theorem mCo_129 : Cond.code ⟨"FamilyGlass", "moodFits", "(III)Z"⟩ prog_1_method_56_code 6 (some .boolean) ∈ lw_tbl := mTb5 (List.mem_of_getElem? (i := 57) rfl)
theorem mCo_130 : Cond.code ⟨"FamilyGlass", "look", "(III)I"⟩ prog_1_method_54_code 9 (some .int) ∈ lw_tbl := mTb5 (List.mem_of_getElem? (i := 65) rfl)
theorem mCo_131 : Cond.code ⟨"FamilyGlass", "countLeft", "(III)I"⟩ prog_1_method_55_code 7 (some .int) ∈ lw_tbl := mTb5 (List.mem_of_getElem? (i := 69) rfl)
theorem mCo_132 : Cond.code ⟨"FamilyGlassModel", "<init>", "()V"⟩ prog_14_method_2_code 1 none ∈ lw_tbl := mTb5 (List.mem_of_getElem? (i := 75) rfl)
theorem mCo_133 : Cond.code ⟨"FamilyGlassModel", "plain", "(I)V"⟩ prog_14_method_19_code 3 none ∈ lw_tbl := mTb5 (List.mem_of_getElem? (i := 80) rfl)
theorem mCo_134 : Cond.code ⟨"FamilyGlassModel", "letters", "(IIIIIII)J"⟩ prog_14_method_10_code 7 (some .long) ∈ lw_tbl := mTb5 (List.mem_of_getElem? (i := 83) rfl)
theorem mCo_135 : Cond.code ⟨"FamilyGlassModel", "appends", "(JI)J"⟩ prog_14_method_9_code 3 (some .long) ∈ lw_tbl := mTb5 (List.mem_of_getElem? (i := 86) rfl)
theorem mCo_136 : Cond.code ⟨"FamilyGlassModel", "begins", "()V"⟩ prog_14_method_44_code 2 none ∈ lw_tbl := mTb5 (List.mem_of_getElem? (i := 91) rfl)
theorem mCo_137 : Cond.code ⟨"FamilyGlassModel", "keepsRow", "()V"⟩ prog_14_method_45_code 2 none ∈ lw_tbl := mTb5 (List.mem_of_getElem? (i := 95) rfl)
theorem mCo_138 : Cond.code ⟨"FamilyGlassModel", "feed", "(IIIII)I"⟩ prog_14_method_3_code 6 (some .int) ∈ lw_tbl := mTb6 (List.mem_of_getElem? (i := 66) rfl)
theorem mCo_139 : Cond.code ⟨"FamilyGlassModel", "lays", "(I)V"⟩ prog_14_method_4_code 3 none ∈ lw_tbl := mTb6 (List.mem_of_getElem? (i := 70) rfl)
theorem mCo_140 : Cond.code ⟨"FamilyGlassModel", "back", "(I)I"⟩ prog_14_method_5_code 2 (some .int) ∈ lw_tbl := mTb6 (List.mem_of_getElem? (i := 74) rfl)
theorem mCo_141 : Cond.code ⟨"FamilyGlassModel", "read", "()I"⟩ prog_14_method_20_code 2 (some .int) ∈ lw_tbl := mTb6 (List.mem_of_getElem? (i := 78) rfl)
theorem mCo_142 : Cond.code ⟨"FamilyGlassModel", "cut", "()V"⟩ prog_14_method_12_code 8 none ∈ lw_tbl := mTb6 (List.mem_of_getElem? (i := 82) rfl)
theorem mCo_143 : Cond.code ⟨"FamilyGlassModel", "byteAt", "(I)I"⟩ prog_14_method_6_code 2 (some .int) ∈ lw_tbl := mTb6 (List.mem_of_getElem? (i := 86) rfl)
theorem mCo_144 : Cond.code ⟨"FamilyGlassModel", "token", "(IIIJ)V"⟩ prog_14_method_11_code 6 none ∈ lw_tbl := mTb6 (List.mem_of_getElem? (i := 90) rfl)
theorem mCo_145 : Cond.code ⟨"FamilyGlassModel", "isLetter", "(I)Z"⟩ prog_14_method_8_code 1 (some .boolean) ∈ lw_tbl := mTb6 (List.mem_of_getElem? (i := 93) rfl)
theorem mCo_146 : Cond.code ⟨"FamilyGlassModel", "isDigit", "(I)Z"⟩ prog_14_method_7_code 1 (some .boolean) ∈ lw_tbl := mTb6 (List.mem_of_getElem? (i := 96) rfl)
theorem mCo_147 : Cond.code ⟨"FamilyGlassModel", "sign", "(III)I"⟩ prog_14_method_13_code 5 (some .int) ∈ lw_tbl := mTb6 (List.mem_of_getElem? (i := 100) rfl)
theorem mCo_148 : Cond.code ⟨"FamilyGlassModel", "is", "(I)Z"⟩ prog_14_method_14_code 2 (some .boolean) ∈ lw_tbl := mTb6 (List.mem_of_getElem? (i := 104) rfl)
theorem mCo_149 : Cond.code ⟨"FamilyGlassModel", "tellOne", "()V"⟩ prog_14_method_24_code 3 none ∈ lw_tbl := mTb6 (List.mem_of_getElem? (i := 108) rfl)
theorem mCo_150 : Cond.code ⟨"FamilyGlassModel", "roomFor", "(II)V"⟩ prog_14_method_22_code 3 none ∈ lw_tbl := mTb6 (List.mem_of_getElem? (i := 112) rfl)
theorem mCo_151 : Cond.code ⟨"FamilyGlassModel", "fail", "(I)V"⟩ prog_14_method_15_code 2 none ∈ lw_tbl := mTb6 (List.mem_of_getElem? (i := 116) rfl)
theorem mCo_152 : Cond.code ⟨"FamilyGlassModel", "goesOn", "()V"⟩ prog_14_method_17_code 1 none ∈ lw_tbl := mTb6 (List.mem_of_getElem? (i := 120) rfl)
theorem mCo_153 : Cond.code ⟨"FamilyGlassModel", "named", "()I"⟩ prog_14_method_25_code 3 (some .int) ∈ lw_tbl := mTb6 (List.mem_of_getElem? (i := 124) rfl)
theorem mCo_154 : Cond.code ⟨"FamilyGlassModel", "must", "(I)V"⟩ prog_14_method_18_code 2 none ∈ lw_tbl := mTb6 (List.mem_of_getElem? (i := 128) rfl)
theorem mCo_155 : Cond.code ⟨"FamilyGlassModel", "wrong", "(II)V"⟩ prog_14_method_16_code 4 none ∈ lw_tbl := mTb6 (List.mem_of_getElem? (i := 132) rfl)
theorem mCo_156 : Cond.code ⟨"FamilyGlassModel", "bounded", "(I)I"⟩ prog_14_method_28_code 3 (some .int) ∈ lw_tbl := mTb6 (List.mem_of_getElem? (i := 136) rfl)
theorem mCo_157 : Cond.code ⟨"FamilyGlassModel", "endsName", "(II)V"⟩ prog_14_method_26_code 3 none ∈ lw_tbl := mTb6 (List.mem_of_getElem? (i := 140) rfl)
theorem mCo_158 : Cond.code ⟨"FamilyGlassModel", "tellDoing", "()V"⟩ prog_14_method_29_code 3 none ∈ lw_tbl := mTb6 (List.mem_of_getElem? (i := 144) rfl)
theorem mCo_159 : Cond.code ⟨"FamilyGlassModel", "known", "()I"⟩ prog_14_method_27_code 3 (some .int) ∈ lw_tbl := mTb6 (List.mem_of_getElem? (i := 148) rfl)
theorem mCo_160 : Cond.code ⟨"FamilyGlassModel", "toldInt", "(I)I"⟩ prog_14_method_23_code 3 (some .int) ∈ lw_tbl := mTb6 (List.mem_of_getElem? (i := 152) rfl)
theorem mCo_161 : Cond.code ⟨"FamilyGlassModel", "tellLaw", "(I)V"⟩ prog_14_method_30_code 4 none ∈ lw_tbl := mTb6 (List.mem_of_getElem? (i := 156) rfl)
theorem mCo_162 : Cond.code ⟨"FamilyGlassModel", "expression", "()V"⟩ prog_14_method_34_code 3 none ∈ lw_tbl := mTb6 (List.mem_of_getElem? (i := 160) rfl)
theorem mCo_163 : Cond.code ⟨"FamilyGlassModel", "unit", "()V"⟩ prog_14_method_35_code 1 none ∈ lw_tbl := mTb6 (List.mem_of_getElem? (i := 164) rfl)
theorem mCo_164 : Cond.code ⟨"FamilyGlassModel", "emit", "(II)V"⟩ prog_14_method_32_code 3 none ∈ lw_tbl := mTb6 (List.mem_of_getElem? (i := 168) rfl)
theorem mCo_165 : Cond.code ⟨"FamilyGlassModel", "comesOut", "(Z)V"⟩ prog_14_method_33_code 3 none ∈ lw_tbl := mTb6 (List.mem_of_getElem? (i := 172) rfl)
theorem mCo_166 : Cond.code ⟨"FamilyGlassModel", "term", "()V"⟩ prog_14_method_31_code 1 none ∈ lw_tbl := mTb6 (List.mem_of_getElem? (i := 176) rfl)
theorem mCo_167 : Cond.code ⟨"FamilyGlassModel", "place", "()I"⟩ prog_14_method_21_code 1 (some .int) ∈ lw_tbl := mTb6 (List.mem_of_getElem? (i := 180) rfl)
theorem mCo_168 : Cond.code ⟨"FamilyGlassModel", "person", "(II)I"⟩ prog_14_method_65_code 3 (some .int) ∈ lw_tbl := mTb6 (List.mem_of_getElem? (i := 184) rfl)
theorem mCo_169 : Cond.code ⟨"FamilyGlassModel", "isPerson", "(I)Z"⟩ prog_14_method_41_code 2 (some .boolean) ∈ lw_tbl := mTb6 (List.mem_of_getElem? (i := 188) rfl)
theorem mCo_170 : Cond.code ⟨"FamilyGlassModel", "in", "(III)Z"⟩ prog_14_method_37_code 3 (some .boolean) ∈ lw_tbl := mTb6 (List.mem_of_getElem? (i := 191) rfl)
theorem mCo_171 : Cond.code ⟨"FamilyGlassModel", "copies", "()V"⟩ prog_14_method_46_code 2 none ∈ lw_tbl := mTb6 (List.mem_of_getElem? (i := 195) rfl)
theorem mCo_172 : Cond.code ⟨"FamilyGlassModel", "markNow", "()I"⟩ prog_14_method_56_code 1 (some .int) ∈ lw_tbl := mTb6 (List.mem_of_getElem? (i := 199) rfl)
theorem mCo_173 : Cond.code ⟨"FamilyGlassModel", "needleRest", "()I"⟩ prog_14_method_54_code 2 (some .int) ∈ lw_tbl := mTb6 (List.mem_of_getElem? (i := 203) rfl)
theorem mCo_174 : Cond.code ⟨"FamilyGlassModel", "looks", "()V"⟩ prog_14_method_53_code 2 none ∈ lw_tbl := mTb6 (List.mem_of_getElem? (i := 207) rfl)
theorem mCo_175 : Cond.code ⟨"FamilyGlassModel", "moodSum", "()I"⟩ prog_14_method_50_code 1 (some .int) ∈ lw_tbl := mTb6 (List.mem_of_getElem? (i := 211) rfl)
theorem mCo_176 : Cond.code ⟨"FamilyGlassModel", "mostMood", "()I"⟩ prog_14_method_51_code 3 (some .int) ∈ lw_tbl := mTb6 (List.mem_of_getElem? (i := 215) rfl)
theorem mCo_177 : Cond.code ⟨"FamilyGlassModel", "lawTells", "(II)I"⟩ prog_14_method_52_code 7 (some .int) ∈ lw_tbl := mTb6 (List.mem_of_getElem? (i := 219) rfl)
theorem mCo_178 : Cond.code ⟨"FamilyGlassModel", "termOf", "(II)I"⟩ prog_14_method_36_code 8 (some .int) ∈ lw_tbl := mTb6 (List.mem_of_getElem? (i := 223) rfl)
theorem mCo_179 : Cond.code ⟨"FamilyGlassModel", "jumpsNow", "()I"⟩ prog_14_method_55_code 2 (some .int) ∈ lw_tbl := mTb6 (List.mem_of_getElem? (i := 227) rfl)
theorem mCo_180 : Cond.code ⟨"FamilyGlassModel", "within", "(III)I"⟩ prog_14_method_38_code 3 (some .int) ∈ lw_tbl := mTb6 (List.mem_of_getElem? (i := 230) rfl)
theorem mCo_181 : Cond.code ⟨"FamilyGlassModel", "driftsOf", "(II)I"⟩ prog_14_method_59_code 3 (some .int) ∈ lw_tbl := mTb6 (List.mem_of_getElem? (i := 234) rfl)
theorem mCo_182 : Cond.code ⟨"FamilyGlassModel", "looksBy", "(II)V"⟩ prog_14_method_57_code 3 none ∈ lw_tbl := mTb6 (List.mem_of_getElem? (i := 238) rfl)
theorem mCo_183 : Cond.code ⟨"FamilyGlassModel", "doing", "(II)I"⟩ prog_14_method_66_code 4 (some .int) ∈ lw_tbl := mTb7 (List.mem_of_getElem? (i := 2) rfl)
theorem mCo_184 : Cond.code ⟨"FamilyGlassModel", "isDoing", "(I)Z"⟩ prog_14_method_42_code 2 (some .boolean) ∈ lw_tbl := mTb7 (List.mem_of_getElem? (i := 6) rfl)
theorem mCo_185 : Cond.code ⟨"FamilyGlassModel", "isDoneAt", "(II)Z"⟩ prog_14_method_60_code 3 (some .boolean) ∈ lw_tbl := mTb7 (List.mem_of_getElem? (i := 10) rfl)
theorem mCo_186 : Cond.code ⟨"FamilyGlassModel", "changesOf", "(II)I"⟩ prog_14_method_58_code 4 (some .int) ∈ lw_tbl := mTb7 (List.mem_of_getElem? (i := 14) rfl)
theorem mCo_187 : Cond.code ⟨"FamilyGlassModel", "mark", "()I"⟩ prog_14_method_67_code 1 (some .int) ∈ lw_tbl := mTb7 (List.mem_of_getElem? (i := 18) rfl)
theorem mCo_188 : Cond.code ⟨"FamilyGlassModel", "tap", "()I"⟩ prog_14_method_70_code 1 (some .int) ∈ lw_tbl := mTb7 (List.mem_of_getElem? (i := 22) rfl)
theorem mCo_189 : Cond.code ⟨"FamilyGlassModel", "does", "(II)Z"⟩ prog_14_method_69_code 3 (some .boolean) ∈ lw_tbl := mTb7 (List.mem_of_getElem? (i := 26) rfl)
theorem mCo_190 : Cond.code ⟨"FamilyGlassModel", "records", "()V"⟩ prog_14_method_68_code 2 none ∈ lw_tbl := mTb7 (List.mem_of_getElem? (i := 30) rfl)
theorem mCo_191 : Cond.code ⟨"FamilyGlassModel", "let", "()I"⟩ prog_14_method_71_code 2 (some .int) ∈ lw_tbl := mTb7 (List.mem_of_getElem? (i := 34) rfl)
theorem mCo_192 : Cond.code ⟨"FamilyGlassModel", "forbid", "(IZ)Z"⟩ prog_14_method_72_code 3 (some .boolean) ∈ lw_tbl := mTb7 (List.mem_of_getElem? (i := 38) rfl)
theorem mCo_193 : Cond.code ⟨"FamilyGlassModel", "cheer", "(IZ)Z"⟩ prog_14_method_73_code 3 (some .boolean) ∈ lw_tbl := mTb7 (List.mem_of_getElem? (i := 42) rfl)
theorem mCo_194 : Cond.code ⟨"FamilyGlassModel", "hours", "(I)I"⟩ prog_14_method_75_code 2 (some .int) ∈ lw_tbl := mTb7 (List.mem_of_getElem? (i := 46) rfl)
theorem mCo_195 : Cond.code ⟨"FamilyGlassModel", "isLong", "(I)Z"⟩ prog_14_method_74_code 1 (some .boolean) ∈ lw_tbl := mTb7 (List.mem_of_getElem? (i := 49) rfl)
theorem mCo_196 : Cond.code ⟨"FamilyGlassModel", "goes", "(I)V"⟩ prog_14_method_64_code 3 none ∈ lw_tbl := mTb7 (List.mem_of_getElem? (i := 53) rfl)
theorem mCo_197 : Cond.code ⟨"FamilyGlassModel", "hourGoes", "()V"⟩ prog_14_method_63_code 1 none ∈ lw_tbl := mTb7 (List.mem_of_getElem? (i := 57) rfl)
theorem mCo_198 : Cond.code ⟨"FamilyGlassModel", "isSlip", "()Z"⟩ prog_14_method_49_code 1 (some .boolean) ∈ lw_tbl := mTb7 (List.mem_of_getElem? (i := 61) rfl)
theorem mCo_199 : Cond.code ⟨"FamilyGlassModel", "mixed", "(II)I"⟩ prog_14_method_48_code 3 (some .int) ∈ lw_tbl := mTb7 (List.mem_of_getElem? (i := 64) rfl)
theorem mCo_200 : Cond.code ⟨"FamilyGlassModel", "hourBy", "(I)V"⟩ prog_14_method_62_code 3 none ∈ lw_tbl := mTb7 (List.mem_of_getElem? (i := 69) rfl)
theorem mCo_201 : Cond.code ⟨"FamilyGlassModel", "undo", "()Z"⟩ prog_14_method_76_code 2 (some .boolean) ∈ lw_tbl := mTb7 (List.mem_of_getElem? (i := 73) rfl)
theorem mCo_202 : Cond.code ⟨"FamilyGlassModel", "comes", "(I)I"⟩ prog_14_method_77_code 3 (some .int) ∈ lw_tbl := mTb7 (List.mem_of_getElem? (i := 77) rfl)
theorem mCo_203 : Cond.code ⟨"FamilyGlassModel", "isMark", "(I)Z"⟩ prog_14_method_43_code 1 (some .boolean) ∈ lw_tbl := mTb7 (List.mem_of_getElem? (i := 80) rfl)
theorem mCo_204 : Cond.code ⟨"FamilyGlassModel", "copiesStill", "()V"⟩ prog_14_method_47_code 1 none ∈ lw_tbl := mTb7 (List.mem_of_getElem? (i := 84) rfl)
theorem mCo_205 : Cond.code ⟨"FamilyGlassModel", "round", "(I)I"⟩ prog_14_method_80_code 4 (some .int) ∈ lw_tbl := mTb7 (List.mem_of_getElem? (i := 88) rfl)
theorem mCo_206 : Cond.code ⟨"FamilyGlassModel", "fillsMoods", "(I)V"⟩ prog_14_method_78_code 4 none ∈ lw_tbl := mTb7 (List.mem_of_getElem? (i := 92) rfl)
theorem mCo_207 : Cond.code ⟨"FamilyGlassModel", "areAlike", "(II)Z"⟩ prog_14_method_79_code 4 (some .boolean) ∈ lw_tbl := mTb7 (List.mem_of_getElem? (i := 96) rfl)
theorem mCo_208 : Cond.code ⟨"FamilyGlassModel", "settles", "()I"⟩ prog_14_method_81_code 2 (some .int) ∈ lw_tbl := mTb7 (List.mem_of_getElem? (i := 100) rfl)
theorem mCo_209 : Cond.code ⟨"FamilyGlassModel", "itself", "()I"⟩ prog_14_method_82_code 3 (some .int) ∈ lw_tbl := mTb7 (List.mem_of_getElem? (i := 104) rfl)
theorem mCo_210 : Cond.code ⟨"FamilyGlassModel", "forbids", "(III)I"⟩ prog_14_method_86_code 5 (some .int) ∈ lw_tbl := mTb7 (List.mem_of_getElem? (i := 108) rfl)
theorem mCo_211 : Cond.code ⟨"FamilyGlassModel", "fewestForbidden", "(II)I"⟩ prog_14_method_85_code 5 (some .int) ∈ lw_tbl := mTb7 (List.mem_of_getElem? (i := 112) rfl)
theorem mCo_212 : Cond.code ⟨"FamilyGlassModel", "bits", "(I)I"⟩ prog_14_method_39_code 3 (some .int) ∈ lw_tbl := mTb7 (List.mem_of_getElem? (i := 115) rfl)
theorem mCo_213 : Cond.code ⟨"FamilyGlassModel", "marksIn", "(II)I"⟩ prog_14_method_84_code 5 (some .int) ∈ lw_tbl := mTb7 (List.mem_of_getElem? (i := 119) rfl)
theorem mCo_214 : Cond.code ⟨"FamilyGlassModel", "tapping", "(II)I"⟩ prog_14_method_88_code 4 (some .int) ∈ lw_tbl := mTb7 (List.mem_of_getElem? (i := 123) rfl)
theorem mCo_215 : Cond.code ⟨"FamilyGlassModel", "isSpan", "(I)Z"⟩ prog_14_method_83_code 1 (some .boolean) ∈ lw_tbl := mTb7 (List.mem_of_getElem? (i := 126) rfl)
theorem mCo_216 : Cond.code ⟨"FamilyGlassModel", "markBehind", "(I)I"⟩ prog_14_method_87_code 2 (some .int) ∈ lw_tbl := mTb7 (List.mem_of_getElem? (i := 130) rfl)
theorem mCo_217 : Cond.code ⟨"FamilyGlassModel", "often", "(II)I"⟩ prog_14_method_89_code 4 (some .int) ∈ lw_tbl := mTb7 (List.mem_of_getElem? (i := 134) rfl)
theorem mCo_218 : Cond.code ⟨"FamilyGlassModel", "quiet", "(I)I"⟩ prog_14_method_90_code 4 (some .int) ∈ lw_tbl := mTb7 (List.mem_of_getElem? (i := 138) rfl)
theorem mCo_219 : Cond.code ⟨"FamilyGlassModel", "doneBits", "(I)I"⟩ prog_14_method_61_code 4 (some .int) ∈ lw_tbl := mTb7 (List.mem_of_getElem? (i := 142) rfl)
theorem mCo_220 : Cond.code ⟨"FamilyGlassModel", "busiest", "(II)I"⟩ prog_14_method_91_code 6 (some .int) ∈ lw_tbl := mTb7 (List.mem_of_getElem? (i := 146) rfl)
theorem mCo_221 : Cond.code ⟨"FamilyGlassModel", "coax", "(III)I"⟩ prog_14_method_94_code 5 (some .int) ∈ lw_tbl := mTb7 (List.mem_of_getElem? (i := 150) rfl)
theorem mCo_222 : Cond.code ⟨"FamilyGlassModel", "coaxBy", "(II)I"⟩ prog_14_method_93_code 5 (some .int) ∈ lw_tbl := mTb7 (List.mem_of_getElem? (i := 154) rfl)
theorem mCo_223 : Cond.code ⟨"FamilyGlassModel", "isMarkWith", "(IIII)Z"⟩ prog_14_method_92_code 5 (some .boolean) ∈ lw_tbl := mTb7 (List.mem_of_getElem? (i := 158) rfl)
theorem mCo_224 : Cond.code ⟨"FamilyGlassModel", "changed", "(II)I"⟩ prog_14_method_95_code 5 (some .int) ∈ lw_tbl := mTb7 (List.mem_of_getElem? (i := 162) rfl)
theorem mCo_225 : Cond.code ⟨"FamilyGlassModel", "gloomiest", "(I)I"⟩ prog_14_method_96_code 4 (some .int) ∈ lw_tbl := mTb7 (List.mem_of_getElem? (i := 166) rfl)
theorem mCo_226 : Cond.code ⟨"FamilyGlassModel", "parts", "(II)I"⟩ prog_14_method_97_code 8 (some .int) ∈ lw_tbl := mTb7 (List.mem_of_getElem? (i := 170) rfl)
theorem mCo_227 : Cond.code ⟨"FamilyGlassModel", "pairs", "(I)I"⟩ prog_14_method_102_code 5 (some .int) ∈ lw_tbl := mTb7 (List.mem_of_getElem? (i := 174) rfl)
theorem mCo_228 : Cond.code ⟨"FamilyGlassModel", "fillsPaired", "()V"⟩ prog_14_method_100_code 5 none ∈ lw_tbl := mTb7 (List.mem_of_getElem? (i := 178) rfl)
theorem mCo_229 : Cond.code ⟨"FamilyGlassModel", "lowestOf", "(I)I"⟩ prog_14_method_98_code 2 (some .int) ∈ lw_tbl := mTb7 (List.mem_of_getElem? (i := 181) rfl)
theorem mCo_230 : Cond.code ⟨"FamilyGlassModel", "pairedWith", "(III)I"⟩ prog_14_method_99_code 4 (some .int) ∈ lw_tbl := mTb7 (List.mem_of_getElem? (i := 185) rfl)
theorem mCo_231 : Cond.code ⟨"FamilyGlassModel", "off", "(II)I"⟩ prog_14_method_40_code 2 (some .int) ∈ lw_tbl := mTb7 (List.mem_of_getElem? (i := 188) rfl)
theorem mCo_232 : Cond.code ⟨"FamilyGlassModel", "pairedOf", "(I)I"⟩ prog_14_method_101_code 5 (some .int) ∈ lw_tbl := mTb7 (List.mem_of_getElem? (i := 192) rfl)
theorem mCo_233 : Cond.code ⟨"FamilyGlassModel", "worth", "(II)I"⟩ prog_14_method_103_code 4 (some .int) ∈ lw_tbl := mTb7 (List.mem_of_getElem? (i := 196) rfl)
theorem mCo_234 : Cond.code ⟨"FamilyGlassModel", "highest", "(II)I"⟩ prog_14_method_104_code 6 (some .int) ∈ lw_tbl := mTb7 (List.mem_of_getElem? (i := 201) rfl)
theorem mCo_235 : Cond.code ⟨"FamilyGlassModel", "game", "(II)I"⟩ prog_14_method_111_code 5 (some .int) ∈ lw_tbl := mTb7 (List.mem_of_getElem? (i := 205) rfl)
theorem mCo_236 : Cond.code ⟨"FamilyGlassModel", "spreads", "(II)V"⟩ prog_14_method_108_code 7 none ∈ lw_tbl := mTb7 (List.mem_of_getElem? (i := 209) rfl)
theorem mCo_237 : Cond.code ⟨"FamilyGlassModel", "loads", "(I)V"⟩ prog_14_method_105_code 3 none ∈ lw_tbl := mTb7 (List.mem_of_getElem? (i := 213) rfl)
theorem mCo_238 : Cond.code ⟨"FamilyGlassModel", "plays", "(I)Z"⟩ prog_14_method_106_code 5 (some .boolean) ∈ lw_tbl := mTb7 (List.mem_of_getElem? (i := 217) rfl)
theorem mCo_239 : Cond.code ⟨"FamilyGlassModel", "childOf", "(III)I"⟩ prog_14_method_107_code 4 (some .int) ∈ lw_tbl := mTb7 (List.mem_of_getElem? (i := 221) rfl)
theorem mCo_240 : Cond.code ⟨"FamilyGlassModel", "leastBy", "(IIII)I"⟩ prog_14_method_109_code 8 (some .int) ∈ lw_tbl := mTb7 (List.mem_of_getElem? (i := 225) rfl)
theorem mCo_241 : Cond.code ⟨"FamilyGlassModel", "greater", "(II)I"⟩ prog_14_method_110_code 3 (some .int) ∈ lw_tbl := mTb7 (List.mem_of_getElem? (i := 229) rfl)
theorem mCo_242 : Cond.code ⟨"FamilyGlassModel", "markIn", "(I)I"⟩ prog_14_method_112_code 2 (some .int) ∈ lw_tbl := mTb7 (List.mem_of_getElem? (i := 233) rfl)
theorem mCo_243 : Cond.code ⟨"FamilyGlassModel", "moodIn", "(II)I"⟩ prog_14_method_113_code 3 (some .int) ∈ lw_tbl := mTb7 (List.mem_of_getElem? (i := 237) rfl)
theorem mCo_244 : Cond.code ⟨"FamilyGlassModel", "year", "(III)I"⟩ prog_14_method_114_code 6 (some .int) ∈ lw_tbl := mTb8 (List.mem_of_getElem? (i := 1) rfl)
theorem mCo_245 : Cond.code ⟨"FamilyGlassModel", "tell", "(IIZ)I"⟩ prog_14_method_115_code 4 (some .int) ∈ lw_tbl := mTb8 (List.mem_of_getElem? (i := 5) rfl)
theorem mCo_246 : Cond.code ⟨"FamilyGlassModel", "forget", "()I"⟩ prog_14_method_116_code 2 (some .int) ∈ lw_tbl := mTb8 (List.mem_of_getElem? (i := 9) rfl)
theorem mCo_247 : Cond.code ⟨"FamilyGlassModel", "fits", "(III)I"⟩ prog_14_method_119_code 7 (some .int) ∈ lw_tbl := mTb8 (List.mem_of_getElem? (i := 13) rfl)
theorem mCo_248 : Cond.code ⟨"FamilyGlassModel", "fillsMarks", "(I)V"⟩ prog_14_method_117_code 4 none ∈ lw_tbl := mTb8 (List.mem_of_getElem? (i := 17) rfl)
theorem mCo_249 : Cond.code ⟨"FamilyGlassModel", "doesFit", "(II)Z"⟩ prog_14_method_118_code 4 (some .boolean) ∈ lw_tbl := mTb8 (List.mem_of_getElem? (i := 21) rfl)
theorem mCo_250 : Cond.code ⟨"FamilyGlassModel", "look", "(III)I"⟩ prog_14_method_120_code 10 (some .int) ∈ lw_tbl := mTb8 (List.mem_of_getElem? (i := 25) rfl)
theorem mCo_251 : Cond.code ⟨"FamilyGlassModel", "hold", "(I)Z"⟩ prog_14_method_121_code 3 (some .boolean) ∈ lw_tbl := mTb8 (List.mem_of_getElem? (i := 29) rfl)
theorem mCo_252 : Cond.code ⟨"FamilyGlassModel", "restore", "(I)Z"⟩ prog_14_method_122_code 3 (some .boolean) ∈ lw_tbl := mTb8 (List.mem_of_getElem? (i := 33) rfl)
theorem mCo_253 : Cond.code ⟨"FamilyGlassModel", "count", "(I)I"⟩ prog_14_method_124_code 2 (some .int) ∈ lw_tbl := mTb8 (List.mem_of_getElem? (i := 37) rfl)
theorem mCo_254 : Cond.code ⟨"FamilyGlassModel", "moodBits", "(I)I"⟩ prog_14_method_123_code 4 (some .int) ∈ lw_tbl := mTb8 (List.mem_of_getElem? (i := 41) rfl)
theorem mCo_255 : Cond.code ⟨"java/lang/String", "charAt", "(I)C"⟩ prog_18_method_56_code 2 (some .char) ∈ lw_tbl := mTb1 (List.mem_of_getElem? (i := 71) rfl)
theorem mCo_256 : Cond.code ⟨"java/lang/String", "coder", "()B"⟩ prog_18_method_152_code 1 (some .byte) ∈ lw_tbl := mTb1 (List.mem_of_getElem? (i := 65) rfl)
theorem mCo_257 : Cond.code ⟨"java/lang/String", "indexOf", "(I)I"⟩ prog_18_method_79_code 2 (some .int) ∈ lw_tbl := mTb3 (List.mem_of_getElem? (i := 35) rfl)
theorem mCo_258 : Cond.code ⟨"java/lang/String", "indexOf", "(II)I"⟩ prog_18_method_80_code 3 (some .int) ∈ lw_tbl := mTb3 (List.mem_of_getElem? (i := 39) rfl)
theorem mCo_259 : Cond.code ⟨"java/lang/String", "isLatin1", "()Z"⟩ prog_18_method_154_code 1 (some .boolean) ∈ lw_tbl := mTb1 (List.mem_of_getElem? (i := 75) rfl)
theorem mCo_260 : Cond.code ⟨"java/lang/String", "length", "()I"⟩ prog_18_method_54_code 1 (some .int) ∈ lw_tbl := mTb1 (List.mem_of_getElem? (i := 61) rfl)
theorem mCo_261 : Cond.code ⟨"java/lang/String", "checkIndex", "(II)V"⟩ prog_18_method_155_code 2 none ∈ lw_tbl := mTb1 (List.mem_of_getElem? (i := 81) rfl)
theorem mCo_262 : Cond.code ⟨"java/lang/StringLatin1", "canEncode", "(I)Z"⟩ prog_19_method_4_code 1 (some .boolean) ∈ lw_tbl := mTb3 (List.mem_of_getElem? (i := 46) rfl)
theorem mCo_263 : Cond.code ⟨"java/lang/StringLatin1", "charAt", "([BI)C"⟩ prog_19_method_2_code 2 (some .char) ∈ lw_tbl := mTb1 (List.mem_of_getElem? (i := 78) rfl)
theorem mCo_264 : Cond.code ⟨"java/lang/StringLatin1", "indexOf", "([BIII)I"⟩ prog_19_method_22_code 4 (some .int) ∈ lw_tbl := mTb3 (List.mem_of_getElem? (i := 43) rfl)
theorem mCo_265 : Cond.code ⟨"java/lang/StringLatin1", "indexOfChar", "([BIII)I"⟩ prog_19_method_23_code 6 (some .int) ∈ lw_tbl := mTb3 (List.mem_of_getElem? (i := 55) rfl)
theorem mCo_266 : Cond.code ⟨"jdk/internal/util/Preconditions", "checkIndex", "(IILjava/util/function/BiFunction;)I"⟩ prog_21_method_11_code 3 (some .int) ∈ lw_tbl := mTb1 (List.mem_of_getElem? (i := 86) rfl)
theorem mCo_267 : Cond.code ⟨"java/lang/Integer", "bitCount", "(I)I"⟩ prog_16_method_49_code 1 (some .int) ∈ lw_tbl := mTb4 (List.mem_of_getElem? (i := 45) rfl)
theorem mCos_0 : ∀ r ∈ mRows_0, Cond.code r.1 r.2.1 r.2.2.1 r.2.2.2.1 ∈ lw_tbl := List.forall_mem_cons.mpr ⟨mCo_0, List.forall_mem_cons.mpr ⟨mCo_1, List.forall_mem_cons.mpr ⟨mCo_2, List.forall_mem_cons.mpr ⟨mCo_3, List.forall_mem_cons.mpr ⟨mCo_4, List.forall_mem_cons.mpr ⟨mCo_5, List.forall_mem_cons.mpr ⟨mCo_6, List.forall_mem_cons.mpr ⟨mCo_7, List.forall_mem_cons.mpr ⟨mCo_8, List.forall_mem_cons.mpr ⟨mCo_9, List.forall_mem_cons.mpr ⟨mCo_10, List.forall_mem_cons.mpr ⟨mCo_11, List.forall_mem_cons.mpr ⟨mCo_12, List.forall_mem_cons.mpr ⟨mCo_13, List.forall_mem_cons.mpr ⟨mCo_14, List.forall_mem_cons.mpr ⟨mCo_15, List.forall_mem_cons.mpr ⟨mCo_16, List.forall_mem_cons.mpr ⟨mCo_17, List.forall_mem_cons.mpr ⟨mCo_18, List.forall_mem_cons.mpr ⟨mCo_19, List.forall_mem_cons.mpr ⟨mCo_20, List.forall_mem_cons.mpr ⟨mCo_21, List.forall_mem_cons.mpr ⟨mCo_22, List.forall_mem_cons.mpr ⟨mCo_23, List.forall_mem_cons.mpr ⟨mCo_24, List.forall_mem_cons.mpr ⟨mCo_25, List.forall_mem_cons.mpr ⟨mCo_26, List.forall_mem_cons.mpr ⟨mCo_27, List.forall_mem_cons.mpr ⟨mCo_28, List.forall_mem_cons.mpr ⟨mCo_29, List.forall_mem_cons.mpr ⟨mCo_30, List.forall_mem_cons.mpr ⟨mCo_31, List.forall_mem_cons.mpr ⟨mCo_32, List.forall_mem_cons.mpr ⟨mCo_33, List.forall_mem_cons.mpr ⟨mCo_34, List.forall_mem_cons.mpr ⟨mCo_35, List.forall_mem_cons.mpr ⟨mCo_36, List.forall_mem_cons.mpr ⟨mCo_37, List.forall_mem_cons.mpr ⟨mCo_38, List.forall_mem_cons.mpr ⟨mCo_39, fun _ h => absurd h List.not_mem_nil⟩⟩⟩⟩⟩⟩⟩⟩⟩⟩⟩⟩⟩⟩⟩⟩⟩⟩⟩⟩⟩⟩⟩⟩⟩⟩⟩⟩⟩⟩⟩⟩⟩⟩⟩⟩⟩⟩⟩⟩
theorem mCos_1 : ∀ r ∈ mRows_1, Cond.code r.1 r.2.1 r.2.2.1 r.2.2.2.1 ∈ lw_tbl := List.forall_mem_cons.mpr ⟨mCo_40, List.forall_mem_cons.mpr ⟨mCo_41, List.forall_mem_cons.mpr ⟨mCo_42, List.forall_mem_cons.mpr ⟨mCo_43, List.forall_mem_cons.mpr ⟨mCo_44, List.forall_mem_cons.mpr ⟨mCo_45, List.forall_mem_cons.mpr ⟨mCo_46, List.forall_mem_cons.mpr ⟨mCo_47, List.forall_mem_cons.mpr ⟨mCo_48, List.forall_mem_cons.mpr ⟨mCo_49, List.forall_mem_cons.mpr ⟨mCo_50, List.forall_mem_cons.mpr ⟨mCo_51, List.forall_mem_cons.mpr ⟨mCo_52, List.forall_mem_cons.mpr ⟨mCo_53, List.forall_mem_cons.mpr ⟨mCo_54, List.forall_mem_cons.mpr ⟨mCo_55, List.forall_mem_cons.mpr ⟨mCo_56, List.forall_mem_cons.mpr ⟨mCo_57, List.forall_mem_cons.mpr ⟨mCo_58, List.forall_mem_cons.mpr ⟨mCo_59, List.forall_mem_cons.mpr ⟨mCo_60, List.forall_mem_cons.mpr ⟨mCo_61, List.forall_mem_cons.mpr ⟨mCo_62, List.forall_mem_cons.mpr ⟨mCo_63, List.forall_mem_cons.mpr ⟨mCo_64, List.forall_mem_cons.mpr ⟨mCo_65, List.forall_mem_cons.mpr ⟨mCo_66, List.forall_mem_cons.mpr ⟨mCo_67, List.forall_mem_cons.mpr ⟨mCo_68, List.forall_mem_cons.mpr ⟨mCo_69, List.forall_mem_cons.mpr ⟨mCo_70, List.forall_mem_cons.mpr ⟨mCo_71, List.forall_mem_cons.mpr ⟨mCo_72, List.forall_mem_cons.mpr ⟨mCo_73, List.forall_mem_cons.mpr ⟨mCo_74, List.forall_mem_cons.mpr ⟨mCo_75, List.forall_mem_cons.mpr ⟨mCo_76, List.forall_mem_cons.mpr ⟨mCo_77, List.forall_mem_cons.mpr ⟨mCo_78, List.forall_mem_cons.mpr ⟨mCo_79, fun _ h => absurd h List.not_mem_nil⟩⟩⟩⟩⟩⟩⟩⟩⟩⟩⟩⟩⟩⟩⟩⟩⟩⟩⟩⟩⟩⟩⟩⟩⟩⟩⟩⟩⟩⟩⟩⟩⟩⟩⟩⟩⟩⟩⟩⟩
theorem mCos_2 : ∀ r ∈ mRows_2, Cond.code r.1 r.2.1 r.2.2.1 r.2.2.2.1 ∈ lw_tbl := List.forall_mem_cons.mpr ⟨mCo_80, List.forall_mem_cons.mpr ⟨mCo_81, List.forall_mem_cons.mpr ⟨mCo_82, List.forall_mem_cons.mpr ⟨mCo_83, List.forall_mem_cons.mpr ⟨mCo_84, List.forall_mem_cons.mpr ⟨mCo_85, List.forall_mem_cons.mpr ⟨mCo_86, List.forall_mem_cons.mpr ⟨mCo_87, List.forall_mem_cons.mpr ⟨mCo_88, List.forall_mem_cons.mpr ⟨mCo_89, List.forall_mem_cons.mpr ⟨mCo_90, List.forall_mem_cons.mpr ⟨mCo_91, List.forall_mem_cons.mpr ⟨mCo_92, List.forall_mem_cons.mpr ⟨mCo_93, List.forall_mem_cons.mpr ⟨mCo_94, List.forall_mem_cons.mpr ⟨mCo_95, List.forall_mem_cons.mpr ⟨mCo_96, List.forall_mem_cons.mpr ⟨mCo_97, List.forall_mem_cons.mpr ⟨mCo_98, List.forall_mem_cons.mpr ⟨mCo_99, List.forall_mem_cons.mpr ⟨mCo_100, List.forall_mem_cons.mpr ⟨mCo_101, List.forall_mem_cons.mpr ⟨mCo_102, List.forall_mem_cons.mpr ⟨mCo_103, List.forall_mem_cons.mpr ⟨mCo_104, List.forall_mem_cons.mpr ⟨mCo_105, List.forall_mem_cons.mpr ⟨mCo_106, List.forall_mem_cons.mpr ⟨mCo_107, List.forall_mem_cons.mpr ⟨mCo_108, List.forall_mem_cons.mpr ⟨mCo_109, List.forall_mem_cons.mpr ⟨mCo_110, List.forall_mem_cons.mpr ⟨mCo_111, List.forall_mem_cons.mpr ⟨mCo_112, List.forall_mem_cons.mpr ⟨mCo_113, List.forall_mem_cons.mpr ⟨mCo_114, List.forall_mem_cons.mpr ⟨mCo_115, List.forall_mem_cons.mpr ⟨mCo_116, List.forall_mem_cons.mpr ⟨mCo_117, List.forall_mem_cons.mpr ⟨mCo_118, List.forall_mem_cons.mpr ⟨mCo_119, fun _ h => absurd h List.not_mem_nil⟩⟩⟩⟩⟩⟩⟩⟩⟩⟩⟩⟩⟩⟩⟩⟩⟩⟩⟩⟩⟩⟩⟩⟩⟩⟩⟩⟩⟩⟩⟩⟩⟩⟩⟩⟩⟩⟩⟩⟩
theorem mCos_3 : ∀ r ∈ mRows_3, Cond.code r.1 r.2.1 r.2.2.1 r.2.2.2.1 ∈ lw_tbl := List.forall_mem_cons.mpr ⟨mCo_120, List.forall_mem_cons.mpr ⟨mCo_121, List.forall_mem_cons.mpr ⟨mCo_122, List.forall_mem_cons.mpr ⟨mCo_123, List.forall_mem_cons.mpr ⟨mCo_124, List.forall_mem_cons.mpr ⟨mCo_125, List.forall_mem_cons.mpr ⟨mCo_126, List.forall_mem_cons.mpr ⟨mCo_127, List.forall_mem_cons.mpr ⟨mCo_128, List.forall_mem_cons.mpr ⟨mCo_129, List.forall_mem_cons.mpr ⟨mCo_130, List.forall_mem_cons.mpr ⟨mCo_131, List.forall_mem_cons.mpr ⟨mCo_132, List.forall_mem_cons.mpr ⟨mCo_133, List.forall_mem_cons.mpr ⟨mCo_134, List.forall_mem_cons.mpr ⟨mCo_135, List.forall_mem_cons.mpr ⟨mCo_136, List.forall_mem_cons.mpr ⟨mCo_137, List.forall_mem_cons.mpr ⟨mCo_138, List.forall_mem_cons.mpr ⟨mCo_139, List.forall_mem_cons.mpr ⟨mCo_140, List.forall_mem_cons.mpr ⟨mCo_141, List.forall_mem_cons.mpr ⟨mCo_142, List.forall_mem_cons.mpr ⟨mCo_143, List.forall_mem_cons.mpr ⟨mCo_144, List.forall_mem_cons.mpr ⟨mCo_145, List.forall_mem_cons.mpr ⟨mCo_146, List.forall_mem_cons.mpr ⟨mCo_147, List.forall_mem_cons.mpr ⟨mCo_148, List.forall_mem_cons.mpr ⟨mCo_149, List.forall_mem_cons.mpr ⟨mCo_150, List.forall_mem_cons.mpr ⟨mCo_151, List.forall_mem_cons.mpr ⟨mCo_152, List.forall_mem_cons.mpr ⟨mCo_153, List.forall_mem_cons.mpr ⟨mCo_154, List.forall_mem_cons.mpr ⟨mCo_155, List.forall_mem_cons.mpr ⟨mCo_156, List.forall_mem_cons.mpr ⟨mCo_157, List.forall_mem_cons.mpr ⟨mCo_158, List.forall_mem_cons.mpr ⟨mCo_159, fun _ h => absurd h List.not_mem_nil⟩⟩⟩⟩⟩⟩⟩⟩⟩⟩⟩⟩⟩⟩⟩⟩⟩⟩⟩⟩⟩⟩⟩⟩⟩⟩⟩⟩⟩⟩⟩⟩⟩⟩⟩⟩⟩⟩⟩⟩
theorem mCos_4 : ∀ r ∈ mRows_4, Cond.code r.1 r.2.1 r.2.2.1 r.2.2.2.1 ∈ lw_tbl := List.forall_mem_cons.mpr ⟨mCo_160, List.forall_mem_cons.mpr ⟨mCo_161, List.forall_mem_cons.mpr ⟨mCo_162, List.forall_mem_cons.mpr ⟨mCo_163, List.forall_mem_cons.mpr ⟨mCo_164, List.forall_mem_cons.mpr ⟨mCo_165, List.forall_mem_cons.mpr ⟨mCo_166, List.forall_mem_cons.mpr ⟨mCo_167, List.forall_mem_cons.mpr ⟨mCo_168, List.forall_mem_cons.mpr ⟨mCo_169, List.forall_mem_cons.mpr ⟨mCo_170, List.forall_mem_cons.mpr ⟨mCo_171, List.forall_mem_cons.mpr ⟨mCo_172, List.forall_mem_cons.mpr ⟨mCo_173, List.forall_mem_cons.mpr ⟨mCo_174, List.forall_mem_cons.mpr ⟨mCo_175, List.forall_mem_cons.mpr ⟨mCo_176, List.forall_mem_cons.mpr ⟨mCo_177, List.forall_mem_cons.mpr ⟨mCo_178, List.forall_mem_cons.mpr ⟨mCo_179, List.forall_mem_cons.mpr ⟨mCo_180, List.forall_mem_cons.mpr ⟨mCo_181, List.forall_mem_cons.mpr ⟨mCo_182, List.forall_mem_cons.mpr ⟨mCo_183, List.forall_mem_cons.mpr ⟨mCo_184, List.forall_mem_cons.mpr ⟨mCo_185, List.forall_mem_cons.mpr ⟨mCo_186, List.forall_mem_cons.mpr ⟨mCo_187, List.forall_mem_cons.mpr ⟨mCo_188, List.forall_mem_cons.mpr ⟨mCo_189, List.forall_mem_cons.mpr ⟨mCo_190, List.forall_mem_cons.mpr ⟨mCo_191, List.forall_mem_cons.mpr ⟨mCo_192, List.forall_mem_cons.mpr ⟨mCo_193, List.forall_mem_cons.mpr ⟨mCo_194, List.forall_mem_cons.mpr ⟨mCo_195, List.forall_mem_cons.mpr ⟨mCo_196, List.forall_mem_cons.mpr ⟨mCo_197, List.forall_mem_cons.mpr ⟨mCo_198, List.forall_mem_cons.mpr ⟨mCo_199, fun _ h => absurd h List.not_mem_nil⟩⟩⟩⟩⟩⟩⟩⟩⟩⟩⟩⟩⟩⟩⟩⟩⟩⟩⟩⟩⟩⟩⟩⟩⟩⟩⟩⟩⟩⟩⟩⟩⟩⟩⟩⟩⟩⟩⟩⟩
theorem mCos_5 : ∀ r ∈ mRows_5, Cond.code r.1 r.2.1 r.2.2.1 r.2.2.2.1 ∈ lw_tbl := List.forall_mem_cons.mpr ⟨mCo_200, List.forall_mem_cons.mpr ⟨mCo_201, List.forall_mem_cons.mpr ⟨mCo_202, List.forall_mem_cons.mpr ⟨mCo_203, List.forall_mem_cons.mpr ⟨mCo_204, List.forall_mem_cons.mpr ⟨mCo_205, List.forall_mem_cons.mpr ⟨mCo_206, List.forall_mem_cons.mpr ⟨mCo_207, List.forall_mem_cons.mpr ⟨mCo_208, List.forall_mem_cons.mpr ⟨mCo_209, List.forall_mem_cons.mpr ⟨mCo_210, List.forall_mem_cons.mpr ⟨mCo_211, List.forall_mem_cons.mpr ⟨mCo_212, List.forall_mem_cons.mpr ⟨mCo_213, List.forall_mem_cons.mpr ⟨mCo_214, List.forall_mem_cons.mpr ⟨mCo_215, List.forall_mem_cons.mpr ⟨mCo_216, List.forall_mem_cons.mpr ⟨mCo_217, List.forall_mem_cons.mpr ⟨mCo_218, List.forall_mem_cons.mpr ⟨mCo_219, List.forall_mem_cons.mpr ⟨mCo_220, List.forall_mem_cons.mpr ⟨mCo_221, List.forall_mem_cons.mpr ⟨mCo_222, List.forall_mem_cons.mpr ⟨mCo_223, List.forall_mem_cons.mpr ⟨mCo_224, List.forall_mem_cons.mpr ⟨mCo_225, List.forall_mem_cons.mpr ⟨mCo_226, List.forall_mem_cons.mpr ⟨mCo_227, List.forall_mem_cons.mpr ⟨mCo_228, List.forall_mem_cons.mpr ⟨mCo_229, List.forall_mem_cons.mpr ⟨mCo_230, List.forall_mem_cons.mpr ⟨mCo_231, List.forall_mem_cons.mpr ⟨mCo_232, List.forall_mem_cons.mpr ⟨mCo_233, List.forall_mem_cons.mpr ⟨mCo_234, List.forall_mem_cons.mpr ⟨mCo_235, List.forall_mem_cons.mpr ⟨mCo_236, List.forall_mem_cons.mpr ⟨mCo_237, List.forall_mem_cons.mpr ⟨mCo_238, List.forall_mem_cons.mpr ⟨mCo_239, fun _ h => absurd h List.not_mem_nil⟩⟩⟩⟩⟩⟩⟩⟩⟩⟩⟩⟩⟩⟩⟩⟩⟩⟩⟩⟩⟩⟩⟩⟩⟩⟩⟩⟩⟩⟩⟩⟩⟩⟩⟩⟩⟩⟩⟩⟩
theorem mCos_6 : ∀ r ∈ mRows_6, Cond.code r.1 r.2.1 r.2.2.1 r.2.2.2.1 ∈ lw_tbl := List.forall_mem_cons.mpr ⟨mCo_240, List.forall_mem_cons.mpr ⟨mCo_241, List.forall_mem_cons.mpr ⟨mCo_242, List.forall_mem_cons.mpr ⟨mCo_243, List.forall_mem_cons.mpr ⟨mCo_244, List.forall_mem_cons.mpr ⟨mCo_245, List.forall_mem_cons.mpr ⟨mCo_246, List.forall_mem_cons.mpr ⟨mCo_247, List.forall_mem_cons.mpr ⟨mCo_248, List.forall_mem_cons.mpr ⟨mCo_249, List.forall_mem_cons.mpr ⟨mCo_250, List.forall_mem_cons.mpr ⟨mCo_251, List.forall_mem_cons.mpr ⟨mCo_252, List.forall_mem_cons.mpr ⟨mCo_253, List.forall_mem_cons.mpr ⟨mCo_254, List.forall_mem_cons.mpr ⟨mCo_255, List.forall_mem_cons.mpr ⟨mCo_256, List.forall_mem_cons.mpr ⟨mCo_257, List.forall_mem_cons.mpr ⟨mCo_258, List.forall_mem_cons.mpr ⟨mCo_259, List.forall_mem_cons.mpr ⟨mCo_260, List.forall_mem_cons.mpr ⟨mCo_261, List.forall_mem_cons.mpr ⟨mCo_262, List.forall_mem_cons.mpr ⟨mCo_263, List.forall_mem_cons.mpr ⟨mCo_264, List.forall_mem_cons.mpr ⟨mCo_265, List.forall_mem_cons.mpr ⟨mCo_266, List.forall_mem_cons.mpr ⟨mCo_267, fun _ h => absurd h List.not_mem_nil⟩⟩⟩⟩⟩⟩⟩⟩⟩⟩⟩⟩⟩⟩⟩⟩⟩⟩⟩⟩⟩⟩⟩⟩⟩⟩⟩⟩
theorem mCos : ∀ r ∈ mRowsM, Cond.code r.1 r.2.1 r.2.2.1 r.2.2.2.1 ∈ lw_tbl := List.forall_mem_append.mpr ⟨mCos_0, List.forall_mem_append.mpr ⟨mCos_1, List.forall_mem_append.mpr ⟨mCos_2, List.forall_mem_append.mpr ⟨mCos_3, List.forall_mem_append.mpr ⟨mCos_4, List.forall_mem_append.mpr ⟨mCos_5, mCos_6⟩⟩⟩⟩⟩⟩
theorem mRow_b : mRowsM.all mRowB = true := by decide +kernel
def mLayW (ci : Nat) : List Cond := u_ws (mOwn.getD ci "") (mT ci) (mNf ci)
theorem mLay_inC_0 : ([[462, 464, 466, 468], [442, 444, 446, 448], [533, 535, 537], [513, 515, 517], [372, 374, 376, 378, 380, 382, 384, 386, 388, 390, 392, 394, 396, 398, 400, 402], [295, 297, 299, 301], [552, 554, 556, 558], [414, 416, 418, 420, 422, 424, 426], [500, 502, 504, 506], [181, 183], [261, 263, 265, 267, 269], [581, 583, 585, 587, 589, 591, 593, 595, 597, 599, 601, 603, 605, 607, 609, 611, 613, 615], [1266, 1268, 1270, 1272, 1274, 1276, 1278, 1280, 1282, 1284, 1286, 1288, 1290, 1292, 1294, 1296, 1298, 1300, 1302, 1304, 1306, 1308, 1310, 1312, 1314, 1316, 1318, 1320, 1322, 1324, 1326, 1328, 1330, 1332, 1334, 1336, 1338, 1340, 1342, 1344, 1346, 1348, 1350, 1352, 1354, 1356, 1358, 1360, 1362, 1364, 1366, 1368, 1370, 1372, 1374, 1376, 1378, 1380, 1382, 1384, 1386, 1388, 1390, 1392, 1394, 1396, 1398, 1400, 1402]] : List (List Nat)).map (fun p => p.map (fun i => lw_tbl[i]?)) = (((List.range 13).drop 0).take 20).map (fun e => (mLayW e).map some) := by decide +kernel
theorem mLay_in : ∀ e ∈ (List.range 13), ∀ w ∈ mLayW e, w ∈ lw_tbl := by
  intro e he
  obtain ⟨i, hi⟩ := List.getElem?_of_mem he
  have hl : i < (List.range 13).length := (List.getElem?_eq_some_iff.mp hi).1
  have hn : (List.range 13).length ≤ 20 := by decide +kernel
  by_cases h0 : i < 20
  · exact mMemOf mLay_inC_0 e (List.mem_of_getElem? (i := i - 0) (by rw [List.getElem?_take, if_pos (by omega), List.getElem?_drop, show 0 + (i - 0) = i by omega]; exact hi))
  · omega
def mKiW (e : Nat × Nat × Int32) : List Cond := [.constant (mOwn.getD e.1 "") e.2.1 e.2.2]
def mKlW (e : Nat × Nat × Int64) : List Cond := [.constantLong (mOwn.getD e.1 "") e.2.1 e.2.2]
theorem mKi_inC_0 : ([[908], [909], [910], [921], [1073], [1647], [1779]] : List (List Nat)).map (fun p => p.map (fun i => lw_tbl[i]?)) = ((mKi.drop 0).take 20).map (fun e => (mKiW e).map some) := by decide +kernel
theorem mKi_in : ∀ e ∈ mKi, ∀ w ∈ mKiW e, w ∈ lw_tbl := by
  intro e he
  obtain ⟨i, hi⟩ := List.getElem?_of_mem he
  have hl : i < mKi.length := (List.getElem?_eq_some_iff.mp hi).1
  have hn : mKi.length ≤ 20 := by decide +kernel
  by_cases h0 : i < 20
  · exact mMemOf mKi_inC_0 e (List.mem_of_getElem? (i := i - 0) (by rw [List.getElem?_take, if_pos (by omega), List.getElem?_drop, show 0 + (i - 0) = i by omega]; exact hi))
  · omega
theorem mKl_inC_0 : ([[251], [742], [1189]] : List (List Nat)).map (fun p => p.map (fun i => lw_tbl[i]?)) = ((mKl.drop 0).take 20).map (fun e => (mKlW e).map some) := by decide +kernel
theorem mKl_in : ∀ e ∈ mKl, ∀ w ∈ mKlW e, w ∈ lw_tbl := by
  intro e he
  obtain ⟨i, hi⟩ := List.getElem?_of_mem he
  have hl : i < mKl.length := (List.getElem?_eq_some_iff.mp hi).1
  have hn : mKl.length ≤ 20 := by decide +kernel
  by_cases h0 : i < 20
  · exact mMemOf mKl_inC_0 e (List.mem_of_getElem? (i := i - 0) (by rw [List.getElem?_take, if_pos (by omega), List.getElem?_drop, show 0 + (i - 0) = i by omega]; exact hi))
  · omega
def mExtra : List Cond := [.instanceMethod objectInit, .code objectInit ⟨#[0xb1]⟩ 1 none, .initialized "java/lang/Math", .static Lib.Math.max.name, .code Lib.Math.max.name Lib.Math.max.code 2 (some .int), .static Lib.Math.min.name, .code Lib.Math.min.name Lib.Math.min.code 2 (some .int), .static Lib.Math.abs.name, .code Lib.Math.abs.name Lib.Math.abs.code 1 (some .int), .fieldLink "java/lang/String" 9 "java/lang/String" "value" "[B", .fieldLink "java/lang/String" 15 "java/lang/String" "coder" "B", .fieldLink "java/lang/String" 38 "java/lang/String" "COMPACT_STRINGS" "Z", .fieldLink "java/lang/String" 1053 "jdk/internal/util/Preconditions" "SIOOBE_FORMATTER" "Ljava/util/function/BiFunction;", .arrayClass .byte, .arrayClass .long, .arrayClass .int, .arrayClass .boolean]
theorem mExtraC : ([169, 170, 160, 670, 671, 673, 674, 1126, 1127, 1864, 1865, 208, 224, 186, 272, 273, 471] : List Nat).map (fun i => lw_tbl[i]?) = mExtra.map some := by decide +kernel
theorem mExtra_in : ∀ w ∈ mExtra, w ∈ lw_tbl := mMemOf (f := fun l : List Cond => l) (l := [mExtra]) (ps := [[169, 170, 160, 670, 671, 673, 674, 1126, 1127, 1864, 1865, 208, 224, 186, 272, 273, 471]]) (by simp only [List.map_cons, List.map_nil] at *; exact congrArg (fun x => [x]) mExtraC) mExtra (List.mem_singleton.mpr rfl)
def mTyF (ci k : Nat) : FieldType := (parseFieldDescriptor (mT ci k).2.2.1).getD .int
def mClsB (ci : Nat) : Bool := (List.range (mNf ci)).all fun k => decide (parseFieldDescriptor (mT ci k).2.2.1 = some (mTyF ci k)) && (decide ((mT ci k).1 = mOwn.getD ci "") && (decide ((mT ci k).2.2.2 = mFn ci k) && (match mTyF ci k with
  | .int => decide (mKd ci k = 0)
  | .boolean => decide (mKd ci k = 1)
  | .object _ => decide (mKd ci k = 2)
  | .array _ => decide (mKd ci k = 2)
  | _ => false)))
theorem mCls_b : (List.range 13).all mClsB = true := by decide +kernel
def mNmB (ci : Nat) : Bool := (List.range (mNf ci)).all fun a => (List.range (mNf ci)).all fun b => decide (a ≠ b → (mT ci a).2.1 ≠ (mT ci b).2.1)
theorem mNm_b : (List.range 13).all mNmB = true := by decide +kernel
theorem mCls_at : ∀ ci, ci < 13 → mCls[ci]? = some (mOwn.getD ci "", mT ci, mNf ci) := by
  intro ci h
  have e : ∀ i, i < 13 → (mCls[i]?).map (fun r => (r.1, r.2.2)) = some (mOwn.getD i "", mNf i) := by decide +kernel
  have f : ∀ (i : Nat) (r : vw_C), mCls[i]? = some r → r.2.1 = mT i := by
    intro i r hr
    have hi : i < 13 := (List.getElem?_eq_some_iff.mp hr).1
    rcases (show i = 0 ∨ i = 1 ∨ i = 2 ∨ i = 3 ∨ i = 4 ∨ i = 5 ∨ i = 6 ∨ i = 7 ∨ i = 8 ∨ i = 9 ∨ i = 10 ∨ i = 11 ∨ i = 12 by omega) with rfl | rfl | rfl | rfl | rfl | rfl | rfl | rfl | rfl | rfl | rfl | rfl | rfl <;> cases hr <;> rfl
  have g := e ci h
  cases hr : mCls[ci]? with
  | none => rw [hr] at g; cases g
  | some r =>
    rw [hr] at g
    obtain ⟨a, b, c⟩ := r
    have h1 := f ci _ hr
    simp only [Option.map_some, Option.some.injEq, Prod.mk.injEq] at g h1 ⊢
    exact ⟨g.1, h1, g.2⟩
theorem mFld_b : mFld.all (fun e => decide (e.2.2.1 < 13) && decide (e.2.2.2.1 < mNf e.2.2.1)) = true := by decide +kernel
theorem mMth_b : mMth.all (fun e => decide (e.2.2.1 < 268) || (decide (9996 ≤ e.2.2.1) && !e.2.2.2)) = true := by decide +kernel
theorem mCln_b : mCln.all (fun e => decide (e.2.2 < 13)) = true := by decide +kernel

