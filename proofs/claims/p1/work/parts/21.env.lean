set_option maxRecDepth 20000 in
theorem wsL_law_in0 : ∀ w ∈ wsL_law0, w ∈ lw_tbl := fun w h => (goodIn_p wsL_law0 [193, 196, 201, 265, 271, 276, 279, 412, 472, 507, 533, 554, 580, 606, 630, 656, 659, 665, 668, 1815, 1820, 1824, 752, 756, 1802, 1807, 760, 1811, 764, 768, 773, 777, 780, 783, 786, 789, 793, 800, 804, 808, 811, 816, 819, 822, 825, 829, 839, 843, 847, 851, 855, 860, 865, 869, 873, 877, 881, 885, 889, 894, 898, 902, 906, 910, 914, 918, 922, 926, 930, 937, 943, 2009, 2013, 2017, 2021, 2024, 2027, 2031, 2037, 2041, 2044, 2047, 2051, 2055, 2059, 2062, 2066, 2070, 2074, 2078, 2082, 2085, 2089, 2093, 2097, 2100, 2104, 2108, 2112, 2116, 947, 2120, 1716, 990, 959, 2124, 2128, 2132, 2136, 2140, 2144, 1798, 1785, 982, 994, 998, 978, 2148, 2152, 2156, 2160, 2164, 2168, 1794, 1067, 2172, 2176, 951, 955, 963, 967, 971, 975, 2180, 986, 1002, 1006, 1010, 1014, 1018, 2230, 2234, 2238, 2242, 1023, 1027, 1031, 1035, 2246, 2250, 2254, 2258, 2210, 1039, 1043, 2262, 1047, 1051, 2266, 2270, 1055, 1059, 2274, 2278, 1063, 1071, 1075, 1079, 1083, 1089, 2282, 2286, 2290, 2188, 2192, 2196, 2200, 2204, 2207, 2294, 2298, 1094, 1098, 1102, 1106, 2306, 2310, 2314, 2318, 1110, 2302, 1114, 1118, 1122, 1126, 1130, 1135, 2184, 1139, 2214, 2218, 1143, 1147, 2226, 1151, 1155, 1160, 1165, 1169, 1174, 1180, 1185, 1190, 2322, 2326, 2330, 1194, 2334, 1198, 1202, 1208, 1211, 2346, 2342, 1218, 2338, 1224, 1228, 1233, 1237, 1243, 1247, 1254, 1260, 2350, 2354, 1264, 2358, 1268, 1272, 1276, 2362, 2365, 2369, 1281, 2373, 1285, 1289, 1293, 1297, 1304, 1308, 1313, 1317, 1321, 1324, 2377, 2381, 1328, 2385, 1332, 2389, 1336, 1340, 1344, 2393, 2397, 2401, 2405, 1349, 1353, 2409, 1357, 1361, 2222, 1365, 1369, 1372, 1376, 1380, 1383, 1388, 1392, 1406, 1409, 1412, 1415, 1418, 1423, 1426, 1429, 1433, 1436, 1439, 1442, 1445, 1448, 1451, 1454, 1459, 1462, 1466, 1469, 1472, 1475, 1478, 1482, 1486, 1490, 1494, 1499, 1505, 1510, 1513, 2413, 2417, 2421, 1517, 1521, 1524, 2425, 1531, 1535, 1539, 1543, 2429, 2433, 2437, 2441, 1552, 1556, 2446, 1561, 1565, 1570, 1578, 1582, 1587, 1593, 1597, 1602, 2450, 2454, 2458, 2462, 2466, 2470, 2474, 2478, 2482, 1611, 2486, 1615, 1619, 1625, 1628, 1635, 1641, 1645, 1649, 1653, 1657, 1661, 1665, 2490, 2494, 2514, 2498, 2506, 2510, 2502, 2518, 2522, 2526, 1670, 1674, 1678, 1682, 1687, 1691, 2530, 2534, 2538, 1695, 1699, 2542, 1704, 2546, 1708, 2550] (by decide +kernel) (by decide +kernel) w h).1
theorem wsL_law_x0 : ∀ w ∈ (vx_at0 RX11 156 "java/util/NoSuchElementException" ["java/lang/RuntimeException", "java/lang/Exception"]).filter goodWord, w ∈ lw_tbl := by decide +kernel
theorem wsL_law_in : ∀ w ∈ wsL_law, w ∈ lw_tbl := fun w h => (List.mem_append.mp h).elim (fun h => wsL_law_in0 w h) (fun h => wsL_law_x0 w h)
theorem arrOfT_of {s : State} {args : Array Value} {ty : FieldType} (h : (Cond.arrayClass ty).before args s = true) : ∃ cA : ClassId, ArrOfT s cA ty ∧ s.vm.findClass ("[" ++ ty.toString) = some cA := by
  obtain ⟨c, k, comp, h1, h2, h3⟩ := Cond.arrayClass_spec h
  exact ⟨c, fun n z => ⟨fun _ => (fun h => by cases h), k, h2, comp, h3⟩, h1⟩
theorem arrOfT_ofO {s : State} {args : Array Value} {C : String} (h : (Cond.arrayOver (.object C)).before args s = true) : ∃ cA : ClassId, ArrOfT s cA (.object C) ∧ va_RA s cA (.object C) := by
  obtain ⟨comp, c, k, h1, h0, h2, h3, h4⟩ := Cond.arrayOver_spec h
  exact ⟨c, fun n z => ⟨fun _ => (fun h => by cases h), k, h2, comp, h3⟩, k, comp, h2, h3, h1, h4⟩
/-- the classes' numbers and slots, the arrays' classes -/
theorem law_K {s : State} {args : Array Value} (hts : ∀ w ∈ wsL_law, w.before args s = true) (hao : ∀ C ∈ [RX6, RX7, RX8], (Cond.arrayOver (.object C)).before args s = true) : ∃ (dC : Nat → ClassId) (dI : Nat → Nat → Nat) (cy : Nat → ClassId), va_K (dC, dI) vwCl (mT cy) s := by
  obtain ⟨cJ4, iJ4, hJ4⟩ := u_known hts inzJ4 (hts _ (inR3 _ (List.mem_of_getElem? (i := 11) rfl)))
  obtain ⟨cX0, iX0, hX0⟩ := u_known hts inzX0 (hts _ (inR2 _ (List.mem_of_getElem? (i := 19) rfl)))
  obtain ⟨cX1, iX1, hX1⟩ := u_known hts inzX1 (hts _ (inR2 _ (List.mem_of_getElem? (i := 11) rfl)))
  obtain ⟨cX2, iX2, hX2⟩ := u_known hts inzX2 (hts _ (inR1 _ (List.mem_of_getElem? (i := 18) rfl)))
  obtain ⟨cX3, iX3, hX3⟩ := u_known hts inzX3 (hts _ (inR2 _ (List.mem_of_getElem? (i := 23) rfl)))
  obtain ⟨cX4, iX4, hX4⟩ := u_known hts inzX4 (hts _ (inR3 _ (List.mem_of_getElem? (i := 7) rfl)))
  obtain ⟨cX5, iX5, hX5⟩ := u_known hts inzX5 (hts _ (inR3 _ (List.mem_of_getElem? (i := 3) rfl)))
  obtain ⟨cX6, iX6, hX6⟩ := u_known hts inzX6 (hts _ (inR1 _ (List.mem_of_getElem? (i := 22) rfl)))
  obtain ⟨cX7, iX7, hX7⟩ := u_known hts inzX7 (hts _ (inR2 _ (List.mem_of_getElem? (i := 6) rfl)))
  obtain ⟨cX8, iX8, hX8⟩ := u_known hts inzX8 (hts _ (inR2 _ (List.mem_of_getElem? (i := 2) rfl)))
  obtain ⟨cX9, iX9, hX9⟩ := u_known hts inzX9 (hts _ (inR1 _ (List.mem_of_getElem? (i := 14) rfl)))
  obtain ⟨cX10, iX10, hX10⟩ := u_known hts inzX10 (hts _ (inR2 _ (List.mem_of_getElem? (i := 15) rfl)))
  obtain ⟨cX11, iX11, hX11⟩ := u_known hts inzX11 (hts _ (inR1 _ (List.mem_of_getElem? (i := 1) rfl)))
  obtain ⟨cX12, iX12, hX12⟩ := u_known hts inzX12 (hts _ (inR1 _ (List.mem_of_getElem? (i := 4) rfl)))
  obtain ⟨a0, b0, e0⟩ := arrOfT_of (hts _ (inR8 _ (List.mem_of_getElem? (i := 18) rfl)))
  obtain ⟨a1, b1, e1⟩ := arrOfT_of (hts _ (inR3 _ (List.mem_of_getElem? (i := 23) rfl)))
  obtain ⟨a2, b2, e2⟩ := arrOfT_of (hts _ (inR1 _ (List.mem_of_getElem? (i := 6) rfl)))
  obtain ⟨a3, b3, e3⟩ := arrOfT_of (hts _ (inR3 _ (List.mem_of_getElem? (i := 18) rfl)))
  obtain ⟨a4, b4, e4⟩ := arrOfT_ofO (hao RX6 (by simp))
  obtain ⟨a5, b5, e5⟩ := arrOfT_ofO (hao RX7 (by simp))
  obtain ⟨a6, b6, e6⟩ := arrOfT_ofO (hao RX8 (by simp))
  refine ⟨fun k => [cJ4, cX0, cX1, cX2, cX3, cX4, cX5, cX6, cX7, cX8, cX9, cX10, cX11, cX12].getD k 0, fun k => [iJ4, iX0, iX1, iX2, iX3, iX4, iX5, iX6, iX7, iX8, iX9, iX10, iX11, iX12].getD k (fun _ => 0), fun k => [a0, a1, a2, a3, a4, a5, a6].getD k 0, fun c q hq => ?_, fun k q hq => ?_⟩
  · match c, hq with
    | 0, hq => cases hq; exact hJ4
    | 1, hq => cases hq; exact hX0
    | 2, hq => cases hq; exact hX1
    | 3, hq => cases hq; exact hX2
    | 4, hq => cases hq; exact hX3
    | 5, hq => cases hq; exact hX4
    | 6, hq => cases hq; exact hX5
    | 7, hq => cases hq; exact hX6
    | 8, hq => cases hq; exact hX7
    | 9, hq => cases hq; exact hX8
    | 10, hq => cases hq; exact hX9
    | 11, hq => cases hq; exact hX10
    | 12, hq => cases hq; exact hX11
    | 13, hq => cases hq; exact hX12
    | n + 14, hq => cases hq
  · match k, hq with
    | 0, hq => cases hq; exact ⟨b0, e0⟩
    | 1, hq => cases hq; exact ⟨b1, e1⟩
    | 2, hq => cases hq; exact ⟨b2, e2⟩
    | 3, hq => cases hq; exact ⟨b3, e3⟩
    | 4, hq => cases hq; exact ⟨b4, e4⟩
    | 5, hq => cases hq; exact ⟨b5, e5⟩
    | 6, hq => cases hq; exact ⟨b6, e6⟩
    | n + 7, hq => cases hq
