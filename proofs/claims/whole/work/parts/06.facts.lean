theorem in_of {ws : List Cond} (ps : List Nat) (hp : ws.all (fun w => ps.any fun i => decide (lw_tbl[i]? = some w)) = true) (h : ws.all goodWord = true) : ∀ w ∈ ws, w ∈ lw_g := by
  intro w hw
  have h1 := List.all_eq_true.mp hp w hw
  obtain ⟨i, -, hi⟩ := List.any_eq_true.mp h1
  exact gw (List.mem_of_getElem? (of_decide_eq_true hi)) (List.all_eq_true.mp h w hw)
theorem wt_0 {w : Cond} (h : w ∈ k2_sels lw_privs) : w ∈ lw_tbl := List.mem_append_left _ h
theorem wt_1 {w : Cond} (h : w ∈ tables_1_1) : w ∈ lw_tbl := List.mem_append_right _ (List.mem_append_left _ h)
theorem wt_2 {w : Cond} (h : w ∈ tables_1_2) : w ∈ lw_tbl := List.mem_append_right _ (List.mem_append_right _ (List.mem_append_left _ h))
theorem wt_3 {w : Cond} (h : w ∈ tables_1_3) : w ∈ lw_tbl := List.mem_append_right _ (List.mem_append_right _ (List.mem_append_right _ (List.mem_append_left _ h)))
theorem wt_4 {w : Cond} (h : w ∈ tables_1_4) : w ∈ lw_tbl := List.mem_append_right _ (List.mem_append_right _ (List.mem_append_right _ (List.mem_append_right _ (List.mem_append_left _ h))))
theorem wt_5 {w : Cond} (h : w ∈ tables_1_5) : w ∈ lw_tbl := List.mem_append_right _ (List.mem_append_right _ (List.mem_append_right _ (List.mem_append_right _ (List.mem_append_right _ (List.mem_append_left _ h)))))
theorem wt_6 {w : Cond} (h : w ∈ tables_1_6) : w ∈ lw_tbl := List.mem_append_right _ (List.mem_append_right _ (List.mem_append_right _ (List.mem_append_right _ (List.mem_append_right _ (List.mem_append_right _ (List.mem_append_left _ h))))))
theorem wt_7 {w : Cond} (h : w ∈ tables_1_7) : w ∈ lw_tbl := List.mem_append_right _ (List.mem_append_right _ (List.mem_append_right _ (List.mem_append_right _ (List.mem_append_right _ (List.mem_append_right _ (List.mem_append_right _ (List.mem_append_left _ h)))))))
theorem wt_8 {w : Cond} (h : w ∈ tables_1_8) : w ∈ lw_tbl := List.mem_append_right _ (List.mem_append_right _ (List.mem_append_right _ (List.mem_append_right _ (List.mem_append_right _ (List.mem_append_right _ (List.mem_append_right _ (List.mem_append_right _ h)))))))
theorem inX0 : ∀ w ∈ u_ws RX0 TX0 4, w ∈ lw_g := in_of [558, 559, 560, 561, 562, 563, 564, 565] (by decide +kernel) (by decide +kernel)
theorem inX1 : ∀ w ∈ u_ws RX1 TX1 2, w ∈ lw_g := in_of [853, 854, 855, 856] (by decide +kernel) (by decide +kernel)
theorem inX2 : ∀ w ∈ u_ws RX2 TX2 9, w ∈ lw_g := in_of [456, 457, 458, 459, 460, 461, 462, 463, 464, 465, 466, 467, 468, 469, 470, 471, 472, 473] (by decide +kernel) (by decide +kernel)
theorem inX3 : ∀ w ∈ u_ws RX3 TX3 10, w ∈ lw_g := in_of [292, 293, 294, 295, 296, 297, 298, 299, 300, 301, 302, 303, 304, 305, 306, 307, 308, 309, 310, 311] (by decide +kernel) (by decide +kernel)
theorem inX4 : ∀ w ∈ u_ws RX4 TX4 5, w ∈ lw_g := in_of [537, 538, 539, 540, 541, 542, 543, 544, 545, 546] (by decide +kernel) (by decide +kernel)
theorem inX5 : ∀ w ∈ u_ws RX5 TX5 12, w ∈ lw_g := in_of [500, 501, 502, 503, 504, 505, 506, 507, 508, 509, 510, 511, 512, 513, 514, 515, 516, 517, 518, 519, 520, 521, 522, 523] (by decide +kernel) (by decide +kernel)
theorem inX6 : ∀ w ∈ u_ws RX6 TX6 19, w ∈ lw_g := in_of [216, 217, 218, 219, 220, 221, 222, 223, 224, 225, 226, 227, 228, 229, 230, 231, 232, 233, 234, 235, 236, 237, 238, 239, 240, 241, 242, 243, 244, 245, 246, 247, 248, 249, 250, 251, 252, 253] (by decide +kernel) (by decide +kernel)
theorem inX7 : ∀ w ∈ u_ws RX7 TX7 2, w ∈ lw_g := in_of [269, 270, 271, 272] (by decide +kernel) (by decide +kernel)
theorem inX8 : ∀ w ∈ u_ws RX8 TX8 3, w ∈ lw_g := in_of [329, 330, 331, 332, 333, 334] (by decide +kernel) (by decide +kernel)
theorem inX9 : ∀ w ∈ u_ws RX9 TX9 14, w ∈ lw_g := in_of [360, 361, 362, 363, 364, 365, 366, 367, 368, 369, 370, 371, 372, 373, 374, 375, 376, 377, 378, 379, 380, 381, 382, 383, 384, 385, 386, 387] (by decide +kernel) (by decide +kernel)
theorem inX10 : ∀ w ∈ u_ws RX10 TX10 13, w ∈ lw_g := in_of [410, 411, 412, 413, 414, 415, 416, 417, 418, 419, 420, 421, 422, 423, 424, 425, 426, 427, 428, 429, 430, 431, 432, 433, 434, 435] (by decide +kernel) (by decide +kernel)
theorem inX11 : ∀ w ∈ u_ws RX11 TX11 15, w ∈ lw_g := in_of [582, 583, 584, 585, 586, 587, 588, 589, 590, 591, 592, 593, 594, 595, 596, 597, 598, 599, 600, 601, 602, 603, 604, 605, 606, 607, 608, 609, 610, 611] (by decide +kernel) (by decide +kernel)
theorem inX12 : ∀ w ∈ u_ws RX12 TX12 52, w ∈ lw_g := in_of [1377, 1378, 1379, 1380, 1381, 1382, 1383, 1384, 1385, 1386, 1387, 1388, 1389, 1390, 1391, 1392, 1393, 1394, 1395, 1396, 1397, 1398, 1399, 1400, 1401, 1402, 1403, 1404, 1405, 1406, 1407, 1408, 1409, 1410, 1411, 1412, 1413, 1414, 1415, 1416, 1417, 1418, 1419, 1420, 1421, 1422, 1423, 1424, 1425, 1426, 1427, 1428, 1429, 1430, 1431, 1432, 1433, 1434, 1435, 1436, 1437, 1438, 1439, 1440, 1441, 1442, 1443, 1444, 1445, 1446, 1447, 1448, 1449, 1450, 1451, 1452, 1453, 1454, 1455, 1456, 1457, 1458, 1459, 1460, 1461, 1462, 1463, 1464, 1465, 1466, 1467, 1468, 1469, 1470, 1471, 1472, 1473, 1474, 1475, 1476, 1477, 1478, 1479, 1480] (by decide +kernel) (by decide +kernel)
theorem wd_1325 : Cond.fieldLink RX12 3 "SlackRaceModel" "status" "I" ∈ lw_g := gw (wt_6 (List.mem_of_getElem? (i := 17) rfl)) rfl
theorem f_X12_3 : fF RX12 3 12 0 0 false := ⟨_, TX12, 52, tyX12, rfl, inX12, by decide, wd_1325, rfl, tyX12_ok, nmX12, Or.inl ⟨rfl, rfl⟩, rfl⟩
theorem n_84 {h : Hp} : nd h 84 112 52 := nd_of (by decide) rfl
theorem wd_1328 : Cond.fieldLink RX12 20 "SlackRaceModel" "kept" "[I" ∈ lw_g := gw (wt_6 (List.mem_of_getElem? (i := 20) rfl)) rfl
theorem f_X12_20 : fF RX12 20 12 3 2 true := ⟨_, TX12, 52, tyX12, rfl, inX12, by decide, wd_1328, rfl, tyX12_ok, nmX12, Or.inr (Or.inr (Or.inr ⟨rfl, Or.inr ⟨_, rfl⟩⟩)), rfl⟩
theorem q_84_3 : rs 84 3 = some 86 := rfl
theorem n_86 {h : Hp} : nd h 86 0 4998 := nd_of (by decide) rfl
theorem wd_1335 : Cond.fieldLink RX12 139 "SlackRaceModel" "taped" "I" ∈ lw_g := gw (wt_6 (List.mem_of_getElem? (i := 27) rfl)) rfl
theorem f_X12_139 : fF RX12 139 12 10 0 false := ⟨_, TX12, 52, tyX12, rfl, inX12, by decide, wd_1335, rfl, tyX12_ok, nmX12, Or.inl ⟨rfl, rfl⟩, rfl⟩
theorem wd_1327 : Cond.fieldLink RX12 7 "SlackRaceModel" "refused" "[I" ∈ lw_g := gw (wt_6 (List.mem_of_getElem? (i := 19) rfl)) rfl
theorem f_X12_7 : fF RX12 7 12 2 2 true := ⟨_, TX12, 52, tyX12, rfl, inX12, by decide, wd_1327, rfl, tyX12_ok, nmX12, Or.inr (Or.inr (Or.inr ⟨rfl, Or.inr ⟨_, rfl⟩⟩)), rfl⟩
theorem q_84_2 : rs 84 2 = some 85 := rfl
theorem n_85 {h : Hp} : nd h 85 0 7 := nd_of (by decide) rfl
theorem wd_1376 : Cond.fieldLink RX12 446 "SlackRaceModel" "isDrawn" "Z" ∈ lw_g := gw (wt_6 (List.mem_of_getElem? (i := 68) rfl)) rfl
theorem f_X12_446 : fF RX12 446 12 51 3 false := ⟨_, TX12, 52, tyX12, rfl, inX12, by decide, wd_1376, rfl, tyX12_ok, nmX12, Or.inr (Or.inl ⟨rfl, rfl⟩), rfl⟩
theorem wd_121 : Cond.initialized RX12 ∈ lw_g := gw (wt_1 (List.mem_of_getElem? (i := 13) rfl)) rfl
theorem wd_1630 : Cond.code yX12_isMinute cX12_isMinute 1 (some .boolean) ∈ lw_g := gw (wt_7 (List.mem_of_getElem? (i := 82) rfl)) rfl
theorem wd_1629 : Cond.static yX12_isMinute ∈ lw_g := gw (wt_7 (List.mem_of_getElem? (i := 81) rfl)) rfl
theorem wd_1628 : Cond.methodLink RX12 280 yX12_isMinute ∈ lw_g := gw (wt_7 (List.mem_of_getElem? (i := 80) rfl)) rfl
theorem l_X12_280 : cS RX12 280 yX12_isMinute cX12_isMinute 1 (some .boolean) 1 := ⟨wd_1628, wd_1629, wd_121, wd_1630, by decide +kernel⟩
theorem wd_1375 : Cond.fieldLink RX12 110 "SlackRaceModel" "drawnDay" "[I" ∈ lw_g := gw (wt_6 (List.mem_of_getElem? (i := 67) rfl)) rfl
theorem f_X12_110 : fF RX12 110 12 50 2 true := ⟨_, TX12, 52, tyX12, rfl, inX12, by decide, wd_1375, rfl, tyX12_ok, nmX12, Or.inr (Or.inr (Or.inr ⟨rfl, Or.inr ⟨_, rfl⟩⟩)), rfl⟩
theorem q_84_50 : rs 84 50 = some 113 := rfl
theorem n_113 {h : Hp} : nd h 113 0 1440 := nd_of (by decide) rfl
theorem wd_1649 : Cond.constant RX12 289 (-100000) ∈ lw_g := gw (wt_7 (List.mem_of_getElem? (i := 101) rfl)) rfl
theorem wd_1488 : Cond.code yX12_lies cX12_lies 3 (some .boolean) ∈ lw_g := gw (wt_6 (List.mem_of_getElem? (i := 180) rfl)) rfl
theorem wd_1487 : Cond.static yX12_lies ∈ lw_g := gw (wt_6 (List.mem_of_getElem? (i := 179) rfl)) rfl
theorem wd_1486 : Cond.methodLink RX12 113 yX12_lies ∈ lw_g := gw (wt_6 (List.mem_of_getElem? (i := 178) rfl)) rfl
theorem l_X12_113 : cS RX12 113 yX12_lies cX12_lies 3 (some .boolean) 3 := ⟨wd_1486, wd_1487, wd_121, wd_1488, by decide +kernel⟩
theorem wd_1564 : Cond.constant RX12 157 (1000000) ∈ lw_g := gw (wt_7 (List.mem_of_getElem? (i := 16) rfl)) rfl
theorem wd_1492 : Cond.code yX12_refuses cX12_refuses 2 (some .int) ∈ lw_g := gw (wt_6 (List.mem_of_getElem? (i := 184) rfl)) rfl
theorem wd_1489 : Cond.methodLink RX12 117 yX12_refuses ∈ lw_g := gw (wt_6 (List.mem_of_getElem? (i := 181) rfl)) rfl
theorem wd_1491 : Cond.instanceMethod yX12_refuses ∈ lw_g := gw (wt_6 (List.mem_of_getElem? (i := 183) rfl)) rfl
theorem wd_49 : Cond.selects RX12 yX12_refuses yX12_refuses ∈ lw_g := gw (wt_0 (List.mem_of_getElem? (i := 49) rfl)) rfl
theorem l_X12_117 : cV RX12 117 12 RX12 yX12_refuses cX12_refuses 2 (some .int) 1 := ⟨wd_1489, wd_1491, wd_49, wd_121, wd_1492, by decide +kernel, TX12, _, rfl⟩
theorem wd_1634 : Cond.code yX12_term cX12_term 2 (some .int) ∈ lw_g := gw (wt_7 (List.mem_of_getElem? (i := 86) rfl)) rfl
theorem wd_1631 : Cond.methodLink RX12 283 yX12_term ∈ lw_g := gw (wt_7 (List.mem_of_getElem? (i := 83) rfl)) rfl
theorem wd_1633 : Cond.instanceMethod yX12_term ∈ lw_g := gw (wt_7 (List.mem_of_getElem? (i := 85) rfl)) rfl
theorem wd_67 : Cond.selects RX12 yX12_term yX12_term ∈ lw_g := gw (wt_0 (List.mem_of_getElem? (i := 67) rfl)) rfl
theorem l_X12_283 : cV RX12 283 12 RX12 yX12_term cX12_term 2 (some .int) 1 := ⟨wd_1631, wd_1633, wd_67, wd_121, wd_1634, by decide +kernel, TX12, _, rfl⟩
theorem wd_1665 : Cond.code yX12_flows cX12_flows 5 (none) ∈ lw_g := gw (wt_7 (List.mem_of_getElem? (i := 117) rfl)) rfl
theorem wd_1662 : Cond.methodLink RX12 314 yX12_flows ∈ lw_g := gw (wt_7 (List.mem_of_getElem? (i := 114) rfl)) rfl
theorem wd_1664 : Cond.instanceMethod yX12_flows ∈ lw_g := gw (wt_7 (List.mem_of_getElem? (i := 116) rfl)) rfl
theorem wd_72 : Cond.selects RX12 yX12_flows yX12_flows ∈ lw_g := gw (wt_0 (List.mem_of_getElem? (i := 72) rfl)) rfl
theorem l_X12_314 : cV RX12 314 12 RX12 yX12_flows cX12_flows 5 (none) 3 := ⟨wd_1662, wd_1664, wd_72, wd_121, wd_1665, by decide +kernel, TX12, _, rfl⟩
theorem wd_1755 : Cond.code yX12_slackAt cX12_slackAt 6 (some .int) ∈ lw_g := gw (wt_7 (List.mem_of_getElem? (i := 207) rfl)) rfl
theorem wd_1752 : Cond.methodLink RX12 324 yX12_slackAt ∈ lw_g := gw (wt_7 (List.mem_of_getElem? (i := 204) rfl)) rfl
theorem wd_1754 : Cond.instanceMethod yX12_slackAt ∈ lw_g := gw (wt_7 (List.mem_of_getElem? (i := 206) rfl)) rfl
theorem wd_91 : Cond.selects RX12 yX12_slackAt yX12_slackAt ∈ lw_g := gw (wt_0 (List.mem_of_getElem? (i := 91) rfl)) rfl
theorem l_X12_324 : cV RX12 324 12 RX12 yX12_slackAt cX12_slackAt 6 (some .int) 2 := ⟨wd_1752, wd_1754, wd_91, wd_121, wd_1755, by decide +kernel, TX12, _, rfl⟩
theorem wd_1496 : Cond.code yX12_good cX12_good 2 (some .int) ∈ lw_g := gw (wt_6 (List.mem_of_getElem? (i := 188) rfl)) rfl
theorem wd_1493 : Cond.methodLink RX12 121 yX12_good ∈ lw_g := gw (wt_6 (List.mem_of_getElem? (i := 185) rfl)) rfl
theorem wd_1495 : Cond.instanceMethod yX12_good ∈ lw_g := gw (wt_6 (List.mem_of_getElem? (i := 187) rfl)) rfl
theorem wd_50 : Cond.selects RX12 yX12_good yX12_good ∈ lw_g := gw (wt_0 (List.mem_of_getElem? (i := 50) rfl)) rfl
theorem l_X12_121 : cV RX12 121 12 RX12 yX12_good cX12_good 2 (some .int) 1 := ⟨wd_1493, wd_1495, wd_50, wd_121, wd_1496, by decide +kernel, TX12, _, rfl⟩
theorem wd_1934 : Cond.constantLong RX12 440 (1103) ∈ lw_g := gw (wt_8 (List.mem_of_getElem? (i := 146) rfl)) rfl
theorem wd_1935 : Cond.constantLong RX12 442 (12345) ∈ lw_g := gw (wt_8 (List.mem_of_getElem? (i := 147) rfl)) rfl
theorem wd_1936 : Cond.constantLong RX12 444 (1000003) ∈ lw_g := gw (wt_8 (List.mem_of_getElem? (i := 148) rfl)) rfl
theorem wd_1350 : Cond.fieldLink RX12 55 "SlackRaceModel" "winds" "[I" ∈ lw_g := gw (wt_6 (List.mem_of_getElem? (i := 42) rfl)) rfl
theorem f_X12_55 : fF RX12 55 12 25 2 true := ⟨_, TX12, 52, tyX12, rfl, inX12, by decide, wd_1350, rfl, tyX12_ok, nmX12, Or.inr (Or.inr (Or.inr ⟨rfl, Or.inr ⟨_, rfl⟩⟩)), rfl⟩
theorem q_84_25 : rs 84 25 = some 96 := rfl
theorem n_96 {h : Hp} : nd h 96 0 24 := nd_of (by decide) rfl
theorem wd_1326 : Cond.fieldLink RX12 11 "SlackRaceModel" "version" "I" ∈ lw_g := gw (wt_6 (List.mem_of_getElem? (i := 18) rfl)) rfl
theorem f_X12_11 : fF RX12 11 12 1 0 false := ⟨_, TX12, 52, tyX12, rfl, inX12, by decide, wd_1326, rfl, tyX12_ok, nmX12, Or.inl ⟨rfl, rfl⟩, rfl⟩
theorem wd_1729 : Cond.code yX12_size cX12_size 1 (some .int) ∈ lw_g := gw (wt_7 (List.mem_of_getElem? (i := 181) rfl)) rfl
theorem wd_1728 : Cond.static yX12_size ∈ lw_g := gw (wt_7 (List.mem_of_getElem? (i := 180) rfl)) rfl
theorem wd_1727 : Cond.methodLink RX12 304 yX12_size ∈ lw_g := gw (wt_7 (List.mem_of_getElem? (i := 179) rfl)) rfl
theorem l_X12_304 : cS RX12 304 yX12_size cX12_size 1 (some .int) 1 := ⟨wd_1727, wd_1728, wd_121, wd_1729, by decide +kernel⟩
theorem wd_1669 : Cond.code yX12_gain cX12_gain 8 (some .int) ∈ lw_g := gw (wt_7 (List.mem_of_getElem? (i := 121) rfl)) rfl
theorem wd_1666 : Cond.methodLink RX12 309 yX12_gain ∈ lw_g := gw (wt_7 (List.mem_of_getElem? (i := 118) rfl)) rfl
theorem wd_1668 : Cond.instanceMethod yX12_gain ∈ lw_g := gw (wt_7 (List.mem_of_getElem? (i := 120) rfl)) rfl
theorem wd_73 : Cond.selects RX12 yX12_gain yX12_gain ∈ lw_g := gw (wt_0 (List.mem_of_getElem? (i := 73) rfl)) rfl
theorem l_X12_309 : cV RX12 309 12 RX12 yX12_gain cX12_gain 8 (some .int) 4 := ⟨wd_1666, wd_1668, wd_73, wd_121, wd_1669, by decide +kernel, TX12, _, rfl⟩
theorem wd_1726 : Cond.code yX12_near cX12_near 4 (some .int) ∈ lw_g := gw (wt_7 (List.mem_of_getElem? (i := 178) rfl)) rfl
theorem wd_1725 : Cond.static yX12_near ∈ lw_g := gw (wt_7 (List.mem_of_getElem? (i := 177) rfl)) rfl
theorem wd_1724 : Cond.methodLink RX12 300 yX12_near ∈ lw_g := gw (wt_7 (List.mem_of_getElem? (i := 176) rfl)) rfl
theorem l_X12_300 : cS RX12 300 yX12_near cX12_near 4 (some .int) 3 := ⟨wd_1724, wd_1725, wd_121, wd_1726, by decide +kernel⟩
theorem wd_1673 : Cond.code yX12_fallOf cX12_fallOf 3 (some .int) ∈ lw_g := gw (wt_7 (List.mem_of_getElem? (i := 125) rfl)) rfl
theorem wd_1670 : Cond.methodLink RX12 290 yX12_fallOf ∈ lw_g := gw (wt_7 (List.mem_of_getElem? (i := 122) rfl)) rfl
theorem wd_1672 : Cond.instanceMethod yX12_fallOf ∈ lw_g := gw (wt_7 (List.mem_of_getElem? (i := 124) rfl)) rfl
theorem wd_74 : Cond.selects RX12 yX12_fallOf yX12_fallOf ∈ lw_g := gw (wt_0 (List.mem_of_getElem? (i := 74) rfl)) rfl
theorem l_X12_290 : cV RX12 290 12 RX12 yX12_fallOf cX12_fallOf 3 (some .int) 2 := ⟨wd_1670, wd_1672, wd_74, wd_121, wd_1673, by decide +kernel, TX12, _, rfl⟩
theorem wd_1677 : Cond.code yX12_asksOf cX12_asksOf 8 (none) ∈ lw_g := gw (wt_7 (List.mem_of_getElem? (i := 129) rfl)) rfl
theorem wd_1674 : Cond.methodLink RX12 293 yX12_asksOf ∈ lw_g := gw (wt_7 (List.mem_of_getElem? (i := 126) rfl)) rfl
theorem wd_1676 : Cond.instanceMethod yX12_asksOf ∈ lw_g := gw (wt_7 (List.mem_of_getElem? (i := 128) rfl)) rfl
theorem wd_75 : Cond.selects RX12 yX12_asksOf yX12_asksOf ∈ lw_g := gw (wt_0 (List.mem_of_getElem? (i := 75) rfl)) rfl
theorem l_X12_293 : cV RX12 293 12 RX12 yX12_asksOf cX12_asksOf 8 (none) 7 := ⟨wd_1674, wd_1676, wd_75, wd_121, wd_1677, by decide +kernel, TX12, _, rfl⟩
theorem wd_1681 : Cond.code yX12_asks cX12_asks 7 (none) ∈ lw_g := gw (wt_7 (List.mem_of_getElem? (i := 133) rfl)) rfl
theorem wd_1678 : Cond.methodLink RX12 297 yX12_asks ∈ lw_g := gw (wt_7 (List.mem_of_getElem? (i := 130) rfl)) rfl
theorem wd_1680 : Cond.instanceMethod yX12_asks ∈ lw_g := gw (wt_7 (List.mem_of_getElem? (i := 132) rfl)) rfl
theorem wd_76 : Cond.selects RX12 yX12_asks yX12_asks ∈ lw_g := gw (wt_0 (List.mem_of_getElem? (i := 76) rfl)) rfl
theorem l_X12_297 : cV RX12 297 12 RX12 yX12_asks cX12_asks 7 (none) 1 := ⟨wd_1678, wd_1680, wd_76, wd_121, wd_1681, by decide +kernel, TX12, _, rfl⟩
theorem wd_1349 : Cond.fieldLink RX12 266 "SlackRaceModel" "isTold" "Z" ∈ lw_g := gw (wt_6 (List.mem_of_getElem? (i := 41) rfl)) rfl
theorem f_X12_266 : fF RX12 266 12 24 3 false := ⟨_, TX12, 52, tyX12, rfl, inX12, by decide, wd_1349, rfl, tyX12_ok, nmX12, Or.inr (Or.inl ⟨rfl, rfl⟩), rfl⟩
theorem wd_1730 : Cond.constantLong RX12 307 (1000) ∈ lw_g := gw (wt_7 (List.mem_of_getElem? (i := 182) rfl)) rfl
theorem wd_1348 : Cond.fieldLink RX12 262 "SlackRaceModel" "told" "J" ∈ lw_g := gw (wt_6 (List.mem_of_getElem? (i := 40) rfl)) rfl
theorem f_X12_262 : fF RX12 262 12 23 1 false := ⟨_, TX12, 52, tyX12, rfl, inX12, by decide, wd_1348, rfl, tyX12_ok, nmX12, Or.inr (Or.inr (Or.inl ⟨rfl, rfl⟩)), rfl⟩
theorem wd_1344 : Cond.fieldLink RX12 218 "SlackRaceModel" "go" "I" ∈ lw_g := gw (wt_6 (List.mem_of_getElem? (i := 36) rfl)) rfl
theorem f_X12_218 : fF RX12 218 12 19 0 false := ⟨_, TX12, 52, tyX12, rfl, inX12, by decide, wd_1344, rfl, tyX12_ok, nmX12, Or.inl ⟨rfl, rfl⟩, rfl⟩
theorem wd_1345 : Cond.fieldLink RX12 215 "SlackRaceModel" "goEnd" "I" ∈ lw_g := gw (wt_6 (List.mem_of_getElem? (i := 37) rfl)) rfl
theorem f_X12_215 : fF RX12 215 12 20 0 false := ⟨_, TX12, 52, tyX12, rfl, inX12, by decide, wd_1345, rfl, tyX12_ok, nmX12, Or.inl ⟨rfl, rfl⟩, rfl⟩
theorem wd_1346 : Cond.fieldLink RX12 228 "SlackRaceModel" "broken" "Z" ∈ lw_g := gw (wt_6 (List.mem_of_getElem? (i := 38) rfl)) rfl
theorem f_X12_228 : fF RX12 228 12 21 3 false := ⟨_, TX12, 52, tyX12, rfl, inX12, by decide, wd_1346, rfl, tyX12_ok, nmX12, Or.inr (Or.inl ⟨rfl, rfl⟩), rfl⟩
theorem wd_1685 : Cond.code yX12_codeAt cX12_codeAt 2 (some .int) ∈ lw_g := gw (wt_7 (List.mem_of_getElem? (i := 137) rfl)) rfl
theorem wd_1682 : Cond.methodLink RX12 221 yX12_codeAt ∈ lw_g := gw (wt_7 (List.mem_of_getElem? (i := 134) rfl)) rfl
theorem wd_1684 : Cond.instanceMethod yX12_codeAt ∈ lw_g := gw (wt_7 (List.mem_of_getElem? (i := 136) rfl)) rfl
theorem wd_77 : Cond.selects RX12 yX12_codeAt yX12_codeAt ∈ lw_g := gw (wt_0 (List.mem_of_getElem? (i := 77) rfl)) rfl
theorem l_X12_221 : cV RX12 221 12 RX12 yX12_codeAt cX12_codeAt 2 (some .int) 1 := ⟨wd_1682, wd_1684, wd_77, wd_121, wd_1685, by decide +kernel, TX12, _, rfl⟩
theorem wd_1689 : Cond.code yX12_sumOf cX12_sumOf 7 (some .long) ∈ lw_g := gw (wt_7 (List.mem_of_getElem? (i := 141) rfl)) rfl
theorem wd_1686 : Cond.methodLink RX12 246 yX12_sumOf ∈ lw_g := gw (wt_7 (List.mem_of_getElem? (i := 138) rfl)) rfl
theorem wd_1688 : Cond.instanceMethod yX12_sumOf ∈ lw_g := gw (wt_7 (List.mem_of_getElem? (i := 140) rfl)) rfl
theorem wd_78 : Cond.selects RX12 yX12_sumOf yX12_sumOf ∈ lw_g := gw (wt_0 (List.mem_of_getElem? (i := 78) rfl)) rfl
theorem l_X12_246 : cV RX12 246 12 RX12 yX12_sumOf cX12_sumOf 7 (some .long) 1 := ⟨wd_1686, wd_1688, wd_78, wd_121, wd_1689, by decide +kernel, TX12, _, rfl⟩
theorem wd_1701 : Cond.code yX12_passes0 cX12_passes0 3 (some .boolean) ∈ lw_g := gw (wt_7 (List.mem_of_getElem? (i := 153) rfl)) rfl
theorem wd_1698 : Cond.methodLink RX12 243 yX12_passes0 ∈ lw_g := gw (wt_7 (List.mem_of_getElem? (i := 150) rfl)) rfl
theorem wd_1700 : Cond.instanceMethod yX12_passes0 ∈ lw_g := gw (wt_7 (List.mem_of_getElem? (i := 152) rfl)) rfl
theorem wd_81 : Cond.selects RX12 yX12_passes0 yX12_passes0 ∈ lw_g := gw (wt_0 (List.mem_of_getElem? (i := 81) rfl)) rfl
theorem l_X12_243 : cV RX12 243 12 RX12 yX12_passes0 cX12_passes0 3 (some .boolean) 1 := ⟨wd_1698, wd_1700, wd_81, wd_121, wd_1701, by decide +kernel, TX12, _, rfl⟩
theorem wd_1711 : Cond.code yX12_testOf cX12_testOf 4 (some .boolean) ∈ lw_g := gw (wt_7 (List.mem_of_getElem? (i := 163) rfl)) rfl
theorem wd_1708 : Cond.methodLink RX12 259 yX12_testOf ∈ lw_g := gw (wt_7 (List.mem_of_getElem? (i := 160) rfl)) rfl
theorem wd_1710 : Cond.instanceMethod yX12_testOf ∈ lw_g := gw (wt_7 (List.mem_of_getElem? (i := 162) rfl)) rfl
theorem wd_83 : Cond.selects RX12 yX12_testOf yX12_testOf ∈ lw_g := gw (wt_0 (List.mem_of_getElem? (i := 83) rfl)) rfl
theorem l_X12_259 : cV RX12 259 12 RX12 yX12_testOf cX12_testOf 4 (some .boolean) 1 := ⟨wd_1708, wd_1710, wd_83, wd_121, wd_1711, by decide +kernel, TX12, _, rfl⟩
theorem wd_1715 : Cond.code yX12_bothOf cX12_bothOf 4 (some .boolean) ∈ lw_g := gw (wt_7 (List.mem_of_getElem? (i := 167) rfl)) rfl
theorem wd_1712 : Cond.methodLink RX12 249 yX12_bothOf ∈ lw_g := gw (wt_7 (List.mem_of_getElem? (i := 164) rfl)) rfl
theorem wd_1714 : Cond.instanceMethod yX12_bothOf ∈ lw_g := gw (wt_7 (List.mem_of_getElem? (i := 166) rfl)) rfl
theorem wd_84 : Cond.selects RX12 yX12_bothOf yX12_bothOf ∈ lw_g := gw (wt_0 (List.mem_of_getElem? (i := 84) rfl)) rfl
theorem l_X12_249 : cV RX12 249 12 RX12 yX12_bothOf cX12_bothOf 4 (some .boolean) 1 := ⟨wd_1712, wd_1714, wd_84, wd_121, wd_1715, by decide +kernel, TX12, _, rfl⟩
theorem wd_1719 : Cond.code yX12_plainOf cX12_plainOf 3 (some .boolean) ∈ lw_g := gw (wt_7 (List.mem_of_getElem? (i := 171) rfl)) rfl
theorem wd_1716 : Cond.methodLink RX12 253 yX12_plainOf ∈ lw_g := gw (wt_7 (List.mem_of_getElem? (i := 168) rfl)) rfl
theorem wd_1718 : Cond.instanceMethod yX12_plainOf ∈ lw_g := gw (wt_7 (List.mem_of_getElem? (i := 170) rfl)) rfl
theorem wd_85 : Cond.selects RX12 yX12_plainOf yX12_plainOf ∈ lw_g := gw (wt_0 (List.mem_of_getElem? (i := 85) rfl)) rfl
theorem l_X12_253 : cV RX12 253 12 RX12 yX12_plainOf cX12_plainOf 3 (some .boolean) 1 := ⟨wd_1716, wd_1718, wd_85, wd_121, wd_1719, by decide +kernel, TX12, _, rfl⟩
theorem wd_1723 : Cond.code yX12_positiveOf cX12_positiveOf 7 (some .boolean) ∈ lw_g := gw (wt_7 (List.mem_of_getElem? (i := 175) rfl)) rfl
theorem wd_1720 : Cond.methodLink RX12 256 yX12_positiveOf ∈ lw_g := gw (wt_7 (List.mem_of_getElem? (i := 172) rfl)) rfl
theorem wd_1722 : Cond.instanceMethod yX12_positiveOf ∈ lw_g := gw (wt_7 (List.mem_of_getElem? (i := 174) rfl)) rfl
theorem wd_86 : Cond.selects RX12 yX12_positiveOf yX12_positiveOf ∈ lw_g := gw (wt_0 (List.mem_of_getElem? (i := 86) rfl)) rfl
theorem l_X12_256 : cV RX12 256 12 RX12 yX12_positiveOf cX12_positiveOf 7 (some .boolean) 1 := ⟨wd_1720, wd_1722, wd_86, wd_121, wd_1723, by decide +kernel, TX12, _, rfl⟩
theorem wd_1599 : Cond.code yX12_sign cX12_sign 1 (some .int) ∈ lw_g := gw (wt_7 (List.mem_of_getElem? (i := 51) rfl)) rfl
theorem wd_1598 : Cond.static yX12_sign ∈ lw_g := gw (wt_7 (List.mem_of_getElem? (i := 50) rfl)) rfl
theorem wd_1597 : Cond.methodLink RX12 193 yX12_sign ∈ lw_g := gw (wt_7 (List.mem_of_getElem? (i := 49) rfl)) rfl
theorem l_X12_193 : cS RX12 193 yX12_sign cX12_sign 1 (some .int) 1 := ⟨wd_1597, wd_1598, wd_121, wd_1599, by decide +kernel⟩
theorem wd_1693 : Cond.code yX12_termOf cX12_termOf 7 (some .long) ∈ lw_g := gw (wt_7 (List.mem_of_getElem? (i := 145) rfl)) rfl
theorem wd_1690 : Cond.methodLink RX12 232 yX12_termOf ∈ lw_g := gw (wt_7 (List.mem_of_getElem? (i := 142) rfl)) rfl
theorem wd_1692 : Cond.instanceMethod yX12_termOf ∈ lw_g := gw (wt_7 (List.mem_of_getElem? (i := 144) rfl)) rfl
theorem wd_79 : Cond.selects RX12 yX12_termOf yX12_termOf ∈ lw_g := gw (wt_0 (List.mem_of_getElem? (i := 79) rfl)) rfl
theorem l_X12_232 : cV RX12 232 12 RX12 yX12_termOf cX12_termOf 7 (some .long) 1 := ⟨wd_1690, wd_1692, wd_79, wd_121, wd_1693, by decide +kernel, TX12, _, rfl⟩
theorem wd_1705 : Cond.code yX12_bounded cX12_bounded 4 (some .long) ∈ lw_g := gw (wt_7 (List.mem_of_getElem? (i := 157) rfl)) rfl
theorem wd_1702 : Cond.methodLink RX12 236 yX12_bounded ∈ lw_g := gw (wt_7 (List.mem_of_getElem? (i := 154) rfl)) rfl
theorem wd_1704 : Cond.instanceMethod yX12_bounded ∈ lw_g := gw (wt_7 (List.mem_of_getElem? (i := 156) rfl)) rfl
theorem wd_82 : Cond.selects RX12 yX12_bounded yX12_bounded ∈ lw_g := gw (wt_0 (List.mem_of_getElem? (i := 82) rfl)) rfl
theorem l_X12_236 : cV RX12 236 12 RX12 yX12_bounded cX12_bounded 4 (some .long) 2 := ⟨wd_1702, wd_1704, wd_82, wd_121, wd_1705, by decide +kernel, TX12, _, rfl⟩
theorem wd_1706 : Cond.constantLong RX12 224 (1000000000) ∈ lw_g := gw (wt_7 (List.mem_of_getElem? (i := 158) rfl)) rfl
theorem wd_1707 : Cond.constantLong RX12 226 (-1000000000) ∈ lw_g := gw (wt_7 (List.mem_of_getElem? (i := 159) rfl)) rfl
theorem wd_1697 : Cond.code yX12_partOf cX12_partOf 4 (some .long) ∈ lw_g := gw (wt_7 (List.mem_of_getElem? (i := 149) rfl)) rfl
theorem wd_1694 : Cond.methodLink RX12 240 yX12_partOf ∈ lw_g := gw (wt_7 (List.mem_of_getElem? (i := 146) rfl)) rfl
theorem wd_1696 : Cond.instanceMethod yX12_partOf ∈ lw_g := gw (wt_7 (List.mem_of_getElem? (i := 148) rfl)) rfl
theorem wd_80 : Cond.selects RX12 yX12_partOf yX12_partOf ∈ lw_g := gw (wt_0 (List.mem_of_getElem? (i := 80) rfl)) rfl
theorem l_X12_240 : cV RX12 240 12 RX12 yX12_partOf cX12_partOf 4 (some .long) 1 := ⟨wd_1694, wd_1696, wd_80, wd_121, wd_1697, by decide +kernel, TX12, _, rfl⟩
theorem wd_1347 : Cond.fieldLink RX12 52 "SlackRaceModel" "asked" "[I" ∈ lw_g := gw (wt_6 (List.mem_of_getElem? (i := 39) rfl)) rfl
theorem f_X12_52 : fF RX12 52 12 22 2 true := ⟨_, TX12, 52, tyX12, rfl, inX12, by decide, wd_1347, rfl, tyX12_ok, nmX12, Or.inr (Or.inr (Or.inr ⟨rfl, Or.inr ⟨_, rfl⟩⟩)), rfl⟩
theorem q_84_22 : rs 84 22 = some 95 := rfl
theorem n_95 {h : Hp} : nd h 95 0 7 := nd_of (by decide) rfl
theorem wd_1638 : Cond.code yX12_levelOf cX12_levelOf 7 (some .int) ∈ lw_g := gw (wt_7 (List.mem_of_getElem? (i := 90) rfl)) rfl
theorem wd_1635 : Cond.methodLink RX12 286 yX12_levelOf ∈ lw_g := gw (wt_7 (List.mem_of_getElem? (i := 87) rfl)) rfl
theorem wd_1637 : Cond.instanceMethod yX12_levelOf ∈ lw_g := gw (wt_7 (List.mem_of_getElem? (i := 89) rfl)) rfl
theorem wd_68 : Cond.selects RX12 yX12_levelOf yX12_levelOf ∈ lw_g := gw (wt_0 (List.mem_of_getElem? (i := 68) rfl)) rfl
theorem l_X12_286 : cV RX12 286 12 RX12 yX12_levelOf cX12_levelOf 7 (some .int) 4 := ⟨wd_1635, wd_1637, wd_68, wd_121, wd_1638, by decide +kernel, TX12, _, rfl⟩
theorem wd_1642 : Cond.code yX12_moonOf cX12_moonOf 4 (some .int) ∈ lw_g := gw (wt_7 (List.mem_of_getElem? (i := 94) rfl)) rfl
theorem wd_1639 : Cond.methodLink RX12 272 yX12_moonOf ∈ lw_g := gw (wt_7 (List.mem_of_getElem? (i := 91) rfl)) rfl
theorem wd_1641 : Cond.instanceMethod yX12_moonOf ∈ lw_g := gw (wt_7 (List.mem_of_getElem? (i := 93) rfl)) rfl
theorem wd_69 : Cond.selects RX12 yX12_moonOf yX12_moonOf ∈ lw_g := gw (wt_0 (List.mem_of_getElem? (i := 69) rfl)) rfl
theorem l_X12_272 : cV RX12 272 12 RX12 yX12_moonOf cX12_moonOf 4 (some .int) 3 := ⟨wd_1639, wd_1641, wd_69, wd_121, wd_1642, by decide +kernel, TX12, _, rfl⟩
theorem wd_1645 : Cond.code yX12_moonAt cX12_moonAt 4 (some .int) ∈ lw_g := gw (wt_7 (List.mem_of_getElem? (i := 97) rfl)) rfl
theorem wd_1644 : Cond.static yX12_moonAt ∈ lw_g := gw (wt_7 (List.mem_of_getElem? (i := 96) rfl)) rfl
theorem wd_1643 : Cond.methodLink RX12 276 yX12_moonAt ∈ lw_g := gw (wt_7 (List.mem_of_getElem? (i := 95) rfl)) rfl
theorem l_X12_276 : cS RX12 276 yX12_moonAt cX12_moonAt 4 (some .int) 4 := ⟨wd_1643, wd_1644, wd_121, wd_1645, by decide +kernel⟩
theorem wd_1648 : Cond.code yX12_wave cX12_wave 3 (some .int) ∈ lw_g := gw (wt_7 (List.mem_of_getElem? (i := 100) rfl)) rfl
theorem wd_1647 : Cond.static yX12_wave ∈ lw_g := gw (wt_7 (List.mem_of_getElem? (i := 99) rfl)) rfl
theorem wd_1646 : Cond.methodLink RX12 269 yX12_wave ∈ lw_g := gw (wt_7 (List.mem_of_getElem? (i := 98) rfl)) rfl
theorem l_X12_269 : cS RX12 269 yX12_wave cX12_wave 3 (some .int) 2 := ⟨wd_1646, wd_1647, wd_121, wd_1648, by decide +kernel⟩
theorem wd_1766 : Cond.code yX12_isCell cX12_isCell 1 (some .boolean) ∈ lw_g := gw (wt_7 (List.mem_of_getElem? (i := 218) rfl)) rfl
theorem wd_1765 : Cond.static yX12_isCell ∈ lw_g := gw (wt_7 (List.mem_of_getElem? (i := 217) rfl)) rfl
theorem wd_1764 : Cond.methodLink RX12 334 yX12_isCell ∈ lw_g := gw (wt_7 (List.mem_of_getElem? (i := 216) rfl)) rfl
theorem l_X12_334 : cS RX12 334 yX12_isCell cX12_isCell 1 (some .boolean) 1 := ⟨wd_1764, wd_1765, wd_121, wd_1766, by decide +kernel⟩
theorem wd_1793 : Cond.code yX12_isStep cX12_isStep 1 (some .boolean) ∈ lw_g := gw (wt_8 (List.mem_of_getElem? (i := 5) rfl)) rfl
theorem wd_1792 : Cond.static yX12_isStep ∈ lw_g := gw (wt_8 (List.mem_of_getElem? (i := 4) rfl)) rfl
theorem wd_1791 : Cond.methodLink RX12 364 yX12_isStep ∈ lw_g := gw (wt_8 (List.mem_of_getElem? (i := 3) rfl)) rfl
theorem l_X12_364 : cS RX12 364 yX12_isStep cX12_isStep 1 (some .boolean) 1 := ⟨wd_1791, wd_1792, wd_121, wd_1793, by decide +kernel⟩
theorem wd_1774 : Cond.code yX12_kindOf cX12_kindOf 2 (some .int) ∈ lw_g := gw (wt_7 (List.mem_of_getElem? (i := 226) rfl)) rfl
theorem wd_1771 : Cond.methodLink RX12 343 yX12_kindOf ∈ lw_g := gw (wt_7 (List.mem_of_getElem? (i := 223) rfl)) rfl
theorem wd_1773 : Cond.instanceMethod yX12_kindOf ∈ lw_g := gw (wt_7 (List.mem_of_getElem? (i := 225) rfl)) rfl
theorem wd_92 : Cond.selects RX12 yX12_kindOf yX12_kindOf ∈ lw_g := gw (wt_0 (List.mem_of_getElem? (i := 92) rfl)) rfl
theorem l_X12_343 : cV RX12 343 12 RX12 yX12_kindOf cX12_kindOf 2 (some .int) 1 := ⟨wd_1771, wd_1773, wd_92, wd_121, wd_1774, by decide +kernel, TX12, _, rfl⟩
theorem wd_1657 : Cond.code yX12_looks cX12_looks 1 (none) ∈ lw_g := gw (wt_7 (List.mem_of_getElem? (i := 109) rfl)) rfl
theorem wd_1654 : Cond.methodLink RX12 321 yX12_looks ∈ lw_g := gw (wt_7 (List.mem_of_getElem? (i := 106) rfl)) rfl
theorem wd_1656 : Cond.instanceMethod yX12_looks ∈ lw_g := gw (wt_7 (List.mem_of_getElem? (i := 108) rfl)) rfl
theorem wd_70 : Cond.selects RX12 yX12_looks yX12_looks ∈ lw_g := gw (wt_0 (List.mem_of_getElem? (i := 70) rfl)) rfl
theorem l_X12_321 : cV RX12 321 12 RX12 yX12_looks cX12_looks 1 (none) 0 := ⟨wd_1654, wd_1656, wd_70, wd_121, wd_1657, by decide +kernel, TX12, _, rfl⟩
theorem wd_1373 : Cond.fieldLink RX12 103 "SlackRaceModel" "afloat" "[J" ∈ lw_g := gw (wt_6 (List.mem_of_getElem? (i := 65) rfl)) rfl
theorem f_X12_103 : fF RX12 103 12 48 2 true := ⟨_, TX12, 52, tyX12, rfl, inX12, by decide, wd_1373, rfl, tyX12_ok, nmX12, Or.inr (Or.inr (Or.inr ⟨rfl, Or.inr ⟨_, rfl⟩⟩)), rfl⟩
theorem q_84_48 : rs 84 48 = some 111 := rfl
theorem n_111 {h : Hp} : nd h 111 1 52 := nd_of (by decide) rfl
theorem wd_1374 : Cond.fieldLink RX12 107 "SlackRaceModel" "afloatNext" "[J" ∈ lw_g := gw (wt_6 (List.mem_of_getElem? (i := 66) rfl)) rfl
theorem f_X12_107 : fF RX12 107 12 49 2 true := ⟨_, TX12, 52, tyX12, rfl, inX12, by decide, wd_1374, rfl, tyX12_ok, nmX12, Or.inr (Or.inr (Or.inr ⟨rfl, Or.inr ⟨_, rfl⟩⟩)), rfl⟩
theorem q_84_49 : rs 84 49 = some 112 := rfl
theorem wd_1923 : Cond.constantLong RX12 430 (200) ∈ lw_g := gw (wt_8 (List.mem_of_getElem? (i := 135) rfl)) rfl
theorem n_112 {h : Hp} : nd h 112 1 52 := nd_of (by decide) rfl
theorem wd_1800 : Cond.code yX12_minuteOf cX12_minuteOf 2 (some .int) ∈ lw_g := gw (wt_8 (List.mem_of_getElem? (i := 12) rfl)) rfl
theorem wd_1799 : Cond.static yX12_minuteOf ∈ lw_g := gw (wt_8 (List.mem_of_getElem? (i := 11) rfl)) rfl
theorem wd_1798 : Cond.methodLink RX12 351 yX12_minuteOf ∈ lw_g := gw (wt_8 (List.mem_of_getElem? (i := 10) rfl)) rfl
theorem l_X12_351 : cS RX12 351 yX12_minuteOf cX12_minuteOf 2 (some .int) 2 := ⟨wd_1798, wd_1799, wd_121, wd_1800, by decide +kernel⟩
theorem wd_1742 : Cond.code yX12_flowAt cX12_flowAt 4 (some .int) ∈ lw_g := gw (wt_7 (List.mem_of_getElem? (i := 194) rfl)) rfl
theorem wd_1739 : Cond.methodLink RX12 340 yX12_flowAt ∈ lw_g := gw (wt_7 (List.mem_of_getElem? (i := 191) rfl)) rfl
theorem wd_1741 : Cond.instanceMethod yX12_flowAt ∈ lw_g := gw (wt_7 (List.mem_of_getElem? (i := 193) rfl)) rfl
theorem wd_89 : Cond.selects RX12 yX12_flowAt yX12_flowAt ∈ lw_g := gw (wt_0 (List.mem_of_getElem? (i := 89) rfl)) rfl
theorem l_X12_340 : cV RX12 340 12 RX12 yX12_flowAt cX12_flowAt 4 (some .int) 2 := ⟨wd_1739, wd_1741, wd_89, wd_121, wd_1742, by decide +kernel, TX12, _, rfl⟩
theorem wd_1812 : Cond.code yX12_toOf cX12_toOf 2 (some .int) ∈ lw_g := gw (wt_8 (List.mem_of_getElem? (i := 24) rfl)) rfl
theorem wd_1811 : Cond.static yX12_toOf ∈ lw_g := gw (wt_8 (List.mem_of_getElem? (i := 23) rfl)) rfl
theorem wd_1810 : Cond.methodLink RX12 348 yX12_toOf ∈ lw_g := gw (wt_8 (List.mem_of_getElem? (i := 22) rfl)) rfl
theorem l_X12_348 : cS RX12 348 yX12_toOf cX12_toOf 2 (some .int) 2 := ⟨wd_1810, wd_1811, wd_121, wd_1812, by decide +kernel⟩
theorem wd_1924 : Cond.constantLong RX12 432 (2) ∈ lw_g := gw (wt_8 (List.mem_of_getElem? (i := 136) rfl)) rfl
theorem wd_1928 : Cond.code yX12_goes cX12_goes 4 (none) ∈ lw_g := gw (wt_8 (List.mem_of_getElem? (i := 140) rfl)) rfl
theorem wd_1925 : Cond.methodLink RX12 434 yX12_goes ∈ lw_g := gw (wt_8 (List.mem_of_getElem? (i := 137) rfl)) rfl
theorem wd_1927 : Cond.instanceMethod yX12_goes ∈ lw_g := gw (wt_8 (List.mem_of_getElem? (i := 139) rfl)) rfl
theorem wd_107 : Cond.selects RX12 yX12_goes yX12_goes ∈ lw_g := gw (wt_0 (List.mem_of_getElem? (i := 107) rfl)) rfl
theorem l_X12_434 : cV RX12 434 12 RX12 yX12_goes cX12_goes 4 (none) 2 := ⟨wd_1925, wd_1927, wd_107, wd_121, wd_1928, by decide +kernel, TX12, _, rfl⟩
theorem wd_1929 : Cond.constantLong RX12 438 (100) ∈ lw_g := gw (wt_8 (List.mem_of_getElem? (i := 141) rfl)) rfl
theorem wd_1801 : Cond.constantLong RX12 346 (10) ∈ lw_g := gw (wt_8 (List.mem_of_getElem? (i := 13) rfl)) rfl
theorem wd_1351 : Cond.fieldLink RX12 58 "SlackRaceModel" "today" "[I" ∈ lw_g := gw (wt_6 (List.mem_of_getElem? (i := 43) rfl)) rfl
theorem f_X12_58 : fF RX12 58 12 26 2 true := ⟨_, TX12, 52, tyX12, rfl, inX12, by decide, wd_1351, rfl, tyX12_ok, nmX12, Or.inr (Or.inr (Or.inr ⟨rfl, Or.inr ⟨_, rfl⟩⟩)), rfl⟩
theorem q_84_26 : rs 84 26 = some 97 := rfl
theorem n_97 {h : Hp} : nd h 97 0 1440 := nd_of (by decide) rfl
theorem wd_1353 : Cond.fieldLink RX12 64 "SlackRaceModel" "madeBy" "I" ∈ lw_g := gw (wt_6 (List.mem_of_getElem? (i := 45) rfl)) rfl
theorem f_X12_64 : fF RX12 64 12 28 0 false := ⟨_, TX12, 52, tyX12, rfl, inX12, by decide, wd_1353, rfl, tyX12_ok, nmX12, Or.inl ⟨rfl, rfl⟩, rfl⟩
theorem wd_1661 : Cond.code yX12_winds cX12_winds 3 (none) ∈ lw_g := gw (wt_7 (List.mem_of_getElem? (i := 113) rfl)) rfl
theorem wd_1658 : Cond.methodLink RX12 312 yX12_winds ∈ lw_g := gw (wt_7 (List.mem_of_getElem? (i := 110) rfl)) rfl
theorem wd_1660 : Cond.instanceMethod yX12_winds ∈ lw_g := gw (wt_7 (List.mem_of_getElem? (i := 112) rfl)) rfl
theorem wd_71 : Cond.selects RX12 yX12_winds yX12_winds ∈ lw_g := gw (wt_0 (List.mem_of_getElem? (i := 71) rfl)) rfl
theorem l_X12_312 : cV RX12 312 12 RX12 yX12_winds cX12_winds 3 (none) 1 := ⟨wd_1658, wd_1660, wd_71, wd_121, wd_1661, by decide +kernel, TX12, _, rfl⟩
theorem wd_1734 : Cond.code yX12_whites cX12_whites 3 (none) ∈ lw_g := gw (wt_7 (List.mem_of_getElem? (i := 186) rfl)) rfl
theorem wd_1731 : Cond.methodLink RX12 318 yX12_whites ∈ lw_g := gw (wt_7 (List.mem_of_getElem? (i := 183) rfl)) rfl
theorem wd_1733 : Cond.instanceMethod yX12_whites ∈ lw_g := gw (wt_7 (List.mem_of_getElem? (i := 185) rfl)) rfl
theorem wd_87 : Cond.selects RX12 yX12_whites yX12_whites ∈ lw_g := gw (wt_0 (List.mem_of_getElem? (i := 87) rfl)) rfl
theorem l_X12_318 : cV RX12 318 12 RX12 yX12_whites cX12_whites 3 (none) 0 := ⟨wd_1731, wd_1733, wd_87, wd_121, wd_1734, by decide +kernel, TX12, _, rfl⟩
theorem wd_1354 : Cond.fieldLink RX12 67 "SlackRaceModel" "white" "[B" ∈ lw_g := gw (wt_6 (List.mem_of_getElem? (i := 46) rfl)) rfl
theorem f_X12_67 : fF RX12 67 12 29 2 true := ⟨_, TX12, 52, tyX12, rfl, inX12, by decide, wd_1354, rfl, tyX12_ok, nmX12, Or.inr (Or.inr (Or.inr ⟨rfl, Or.inr ⟨_, rfl⟩⟩)), rfl⟩
theorem q_84_29 : rs 84 29 = some 99 := rfl
theorem wd_1738 : Cond.code yX12_whiteAt cX12_whiteAt 5 (some .int) ∈ lw_g := gw (wt_7 (List.mem_of_getElem? (i := 190) rfl)) rfl
theorem wd_1735 : Cond.methodLink RX12 337 yX12_whiteAt ∈ lw_g := gw (wt_7 (List.mem_of_getElem? (i := 187) rfl)) rfl
theorem wd_1737 : Cond.instanceMethod yX12_whiteAt ∈ lw_g := gw (wt_7 (List.mem_of_getElem? (i := 189) rfl)) rfl
theorem wd_88 : Cond.selects RX12 yX12_whiteAt yX12_whiteAt ∈ lw_g := gw (wt_0 (List.mem_of_getElem? (i := 88) rfl)) rfl
theorem l_X12_337 : cV RX12 337 12 RX12 yX12_whiteAt cX12_whiteAt 5 (some .int) 2 := ⟨wd_1735, wd_1737, wd_88, wd_121, wd_1738, by decide +kernel, TX12, _, rfl⟩
theorem n_99 {h : Hp} : nd h 99 3 8640 := nd_of (by decide) rfl
theorem wd_1746 : Cond.code yX12_fallOf0 cX12_fallOf0 2 (some .int) ∈ lw_g := gw (wt_7 (List.mem_of_getElem? (i := 198) rfl)) rfl
theorem wd_1743 : Cond.methodLink RX12 328 yX12_fallOf0 ∈ lw_g := gw (wt_7 (List.mem_of_getElem? (i := 195) rfl)) rfl
theorem wd_1745 : Cond.instanceMethod yX12_fallOf0 ∈ lw_g := gw (wt_7 (List.mem_of_getElem? (i := 197) rfl)) rfl
theorem wd_90 : Cond.selects RX12 yX12_fallOf0 yX12_fallOf0 ∈ lw_g := gw (wt_0 (List.mem_of_getElem? (i := 90) rfl)) rfl
theorem l_X12_328 : cV RX12 328 12 RX12 yX12_fallOf0 cX12_fallOf0 2 (some .int) 1 := ⟨wd_1743, wd_1745, wd_90, wd_121, wd_1746, by decide +kernel, TX12, _, rfl⟩
theorem wd_1627 : Cond.code yX12_level cX12_level 3 (some .int) ∈ lw_g := gw (wt_7 (List.mem_of_getElem? (i := 79) rfl)) rfl
theorem wd_1747 : Cond.methodLink RX12 331 yX12_level ∈ lw_g := gw (wt_7 (List.mem_of_getElem? (i := 199) rfl)) rfl
theorem wd_1625 : Cond.instanceMethod yX12_level ∈ lw_g := gw (wt_7 (List.mem_of_getElem? (i := 77) rfl)) rfl
theorem wd_1626 : Cond.selects RX12 yX12_level yX12_level ∈ lw_g := gw (wt_7 (List.mem_of_getElem? (i := 78) rfl)) rfl
theorem l_X12_331 : cV RX12 331 12 RX12 yX12_level cX12_level 3 (some .int) 2 := ⟨wd_1747, wd_1625, wd_1626, wd_121, wd_1627, by decide +kernel, TX12, _, rfl⟩
theorem wd_1906 : Cond.code yX12_highs cX12_highs 3 (some .boolean) ∈ lw_g := gw (wt_8 (List.mem_of_getElem? (i := 118) rfl)) rfl
theorem wd_1903 : Cond.methodLink RX12 423 yX12_highs ∈ lw_g := gw (wt_8 (List.mem_of_getElem? (i := 115) rfl)) rfl
theorem wd_1905 : Cond.instanceMethod yX12_highs ∈ lw_g := gw (wt_8 (List.mem_of_getElem? (i := 117) rfl)) rfl
theorem wd_104 : Cond.selects RX12 yX12_highs yX12_highs ∈ lw_g := gw (wt_0 (List.mem_of_getElem? (i := 104) rfl)) rfl
theorem l_X12_423 : cV RX12 423 12 RX12 yX12_highs cX12_highs 3 (some .boolean) 0 := ⟨wd_1903, wd_1905, wd_104, wd_121, wd_1906, by decide +kernel, TX12, _, rfl⟩
theorem wd_1914 : Cond.code yX12_rightBy cX12_rightBy 6 (some .int) ∈ lw_g := gw (wt_8 (List.mem_of_getElem? (i := 126) rfl)) rfl
theorem wd_1911 : Cond.methodLink RX12 426 yX12_rightBy ∈ lw_g := gw (wt_8 (List.mem_of_getElem? (i := 123) rfl)) rfl
theorem wd_1913 : Cond.instanceMethod yX12_rightBy ∈ lw_g := gw (wt_8 (List.mem_of_getElem? (i := 125) rfl)) rfl
theorem wd_106 : Cond.selects RX12 yX12_rightBy yX12_rightBy ∈ lw_g := gw (wt_0 (List.mem_of_getElem? (i := 106) rfl)) rfl
theorem l_X12_426 : cV RX12 426 12 RX12 yX12_rightBy cX12_rightBy 6 (some .int) 2 := ⟨wd_1911, wd_1913, wd_106, wd_121, wd_1914, by decide +kernel, TX12, _, rfl⟩
theorem wd_1371 : Cond.fieldLink RX12 97 "SlackRaceModel" "since" "[I" ∈ lw_g := gw (wt_6 (List.mem_of_getElem? (i := 63) rfl)) rfl
theorem f_X12_97 : fF RX12 97 12 46 2 true := ⟨_, TX12, 52, tyX12, rfl, inX12, by decide, wd_1371, rfl, tyX12_ok, nmX12, Or.inr (Or.inr (Or.inr ⟨rfl, Or.inr ⟨_, rfl⟩⟩)), rfl⟩
theorem q_84_46 : rs 84 46 = some 109 := rfl
theorem n_109 {h : Hp} : nd h 109 0 1440 := nd_of (by decide) rfl
theorem wd_1372 : Cond.fieldLink RX12 100 "SlackRaceModel" "levels" "[I" ∈ lw_g := gw (wt_6 (List.mem_of_getElem? (i := 64) rfl)) rfl
theorem f_X12_100 : fF RX12 100 12 47 2 true := ⟨_, TX12, 52, tyX12, rfl, inX12, by decide, wd_1372, rfl, tyX12_ok, nmX12, Or.inr (Or.inr (Or.inr ⟨rfl, Or.inr ⟨_, rfl⟩⟩)), rfl⟩
theorem q_84_47 : rs 84 47 = some 110 := rfl
theorem n_110 {h : Hp} : nd h 110 0 1440 := nd_of (by decide) rfl
theorem wd_1910 : Cond.code yX12_isHigh cX12_isHigh 4 (some .boolean) ∈ lw_g := gw (wt_8 (List.mem_of_getElem? (i := 122) rfl)) rfl
theorem wd_1907 : Cond.methodLink RX12 420 yX12_isHigh ∈ lw_g := gw (wt_8 (List.mem_of_getElem? (i := 119) rfl)) rfl
theorem wd_1909 : Cond.instanceMethod yX12_isHigh ∈ lw_g := gw (wt_8 (List.mem_of_getElem? (i := 121) rfl)) rfl
theorem wd_105 : Cond.selects RX12 yX12_isHigh yX12_isHigh ∈ lw_g := gw (wt_0 (List.mem_of_getElem? (i := 105) rfl)) rfl
theorem l_X12_420 : cV RX12 420 12 RX12 yX12_isHigh cX12_isHigh 4 (some .boolean) 1 := ⟨wd_1907, wd_1909, wd_105, wd_121, wd_1910, by decide +kernel, TX12, _, rfl⟩
theorem wd_1518 : Cond.code yX12_isMoon cX12_isMoon 1 (some .boolean) ∈ lw_g := gw (wt_6 (List.mem_of_getElem? (i := 210) rfl)) rfl
theorem wd_1517 : Cond.static yX12_isMoon ∈ lw_g := gw (wt_6 (List.mem_of_getElem? (i := 209) rfl)) rfl
theorem wd_1516 : Cond.methodLink RX12 132 yX12_isMoon ∈ lw_g := gw (wt_6 (List.mem_of_getElem? (i := 208) rfl)) rfl
theorem l_X12_132 : cS RX12 132 yX12_isMoon cX12_isMoon 1 (some .boolean) 1 := ⟨wd_1516, wd_1517, wd_121, wd_1518, by decide +kernel⟩
theorem wd_1894 : Cond.code yX12_agrees cX12_agrees 8 (none) ∈ lw_g := gw (wt_8 (List.mem_of_getElem? (i := 106) rfl)) rfl
theorem wd_1891 : Cond.methodLink RX12 416 yX12_agrees ∈ lw_g := gw (wt_8 (List.mem_of_getElem? (i := 103) rfl)) rfl
theorem wd_1893 : Cond.instanceMethod yX12_agrees ∈ lw_g := gw (wt_8 (List.mem_of_getElem? (i := 105) rfl)) rfl
theorem wd_103 : Cond.selects RX12 yX12_agrees yX12_agrees ∈ lw_g := gw (wt_0 (List.mem_of_getElem? (i := 103) rfl)) rfl
theorem l_X12_416 : cV RX12 416 12 RX12 yX12_agrees cX12_agrees 8 (none) 2 := ⟨wd_1891, wd_1893, wd_103, wd_121, wd_1894, by decide +kernel, TX12, _, rfl⟩
theorem wd_1364 : Cond.fieldLink RX12 398 "SlackRaceModel" "pairs" "I" ∈ lw_g := gw (wt_6 (List.mem_of_getElem? (i := 56) rfl)) rfl
theorem f_X12_398 : fF RX12 398 12 39 0 false := ⟨_, TX12, 52, tyX12, rfl, inX12, by decide, wd_1364, rfl, tyX12_ok, nmX12, Or.inl ⟨rfl, rfl⟩, rfl⟩
theorem wd_1370 : Cond.fieldLink RX12 94 "SlackRaceModel" "rest" "[I" ∈ lw_g := gw (wt_6 (List.mem_of_getElem? (i := 62) rfl)) rfl
theorem f_X12_94 : fF RX12 94 12 45 2 true := ⟨_, TX12, 52, tyX12, rfl, inX12, by decide, wd_1370, rfl, tyX12_ok, nmX12, Or.inr (Or.inr (Or.inr ⟨rfl, Or.inr ⟨_, rfl⟩⟩)), rfl⟩
theorem q_84_45 : rs 84 45 = some 108 := rfl
theorem n_108 {h : Hp} : nd h 108 0 12 := nd_of (by decide) rfl
theorem wd_1365 : Cond.fieldLink RX12 401 "SlackRaceModel" "leastHeight" "I" ∈ lw_g := gw (wt_6 (List.mem_of_getElem? (i := 57) rfl)) rfl
theorem f_X12_401 : fF RX12 401 12 40 0 false := ⟨_, TX12, 52, tyX12, rfl, inX12, by decide, wd_1365, rfl, tyX12_ok, nmX12, Or.inl ⟨rfl, rfl⟩, rfl⟩
theorem wd_1367 : Cond.fieldLink RX12 404 "SlackRaceModel" "leastPhase" "I" ∈ lw_g := gw (wt_6 (List.mem_of_getElem? (i := 59) rfl)) rfl
theorem f_X12_404 : fF RX12 404 12 42 0 false := ⟨_, TX12, 52, tyX12, rfl, inX12, by decide, wd_1367, rfl, tyX12_ok, nmX12, Or.inl ⟨rfl, rfl⟩, rfl⟩
theorem wd_1368 : Cond.fieldLink RX12 407 "SlackRaceModel" "mostPhase" "I" ∈ lw_g := gw (wt_6 (List.mem_of_getElem? (i := 60) rfl)) rfl
theorem f_X12_407 : fF RX12 407 12 43 0 false := ⟨_, TX12, 52, tyX12, rfl, inX12, by decide, wd_1368, rfl, tyX12_ok, nmX12, Or.inl ⟨rfl, rfl⟩, rfl⟩
theorem wd_1369 : Cond.fieldLink RX12 410 "SlackRaceModel" "firstPhase" "I" ∈ lw_g := gw (wt_6 (List.mem_of_getElem? (i := 61) rfl)) rfl
theorem f_X12_410 : fF RX12 410 12 44 0 false := ⟨_, TX12, 52, tyX12, rfl, inX12, by decide, wd_1369, rfl, tyX12_ok, nmX12, Or.inl ⟨rfl, rfl⟩, rfl⟩
theorem wd_1366 : Cond.fieldLink RX12 413 "SlackRaceModel" "mostHeight" "I" ∈ lw_g := gw (wt_6 (List.mem_of_getElem? (i := 58) rfl)) rfl
theorem f_X12_413 : fF RX12 413 12 41 0 false := ⟨_, TX12, 52, tyX12, rfl, inX12, by decide, wd_1366, rfl, tyX12_ok, nmX12, Or.inl ⟨rfl, rfl⟩, rfl⟩
theorem wd_1876 : Cond.code yX12_takenBy cX12_takenBy 7 (some .long) ∈ lw_g := gw (wt_8 (List.mem_of_getElem? (i := 88) rfl)) rfl
theorem wd_1873 : Cond.methodLink RX12 392 yX12_takenBy ∈ lw_g := gw (wt_8 (List.mem_of_getElem? (i := 85) rfl)) rfl
theorem wd_1875 : Cond.instanceMethod yX12_takenBy ∈ lw_g := gw (wt_8 (List.mem_of_getElem? (i := 87) rfl)) rfl
theorem wd_102 : Cond.selects RX12 yX12_takenBy yX12_takenBy ∈ lw_g := gw (wt_0 (List.mem_of_getElem? (i := 102) rfl)) rfl
theorem l_X12_392 : cV RX12 392 12 RX12 yX12_takenBy cX12_takenBy 7 (some .long) 1 := ⟨wd_1873, wd_1875, wd_102, wd_121, wd_1876, by decide +kernel, TX12, _, rfl⟩
theorem wd_1352 : Cond.fieldLink RX12 61 "SlackRaceModel" "other" "[I" ∈ lw_g := gw (wt_6 (List.mem_of_getElem? (i := 44) rfl)) rfl
theorem f_X12_61 : fF RX12 61 12 27 2 true := ⟨_, TX12, 52, tyX12, rfl, inX12, by decide, wd_1352, rfl, tyX12_ok, nmX12, Or.inr (Or.inr (Or.inr ⟨rfl, Or.inr ⟨_, rfl⟩⟩)), rfl⟩
theorem q_84_27 : rs 84 27 = some 98 := rfl
theorem n_98 {h : Hp} : nd h 98 0 1440 := nd_of (by decide) rfl
theorem wd_1877 : Cond.constantLong RX12 390 (1000000) ∈ lw_g := gw (wt_8 (List.mem_of_getElem? (i := 89) rfl)) rfl
theorem wd_1878 : Cond.constantLong RX12 396 (-1) ∈ lw_g := gw (wt_8 (List.mem_of_getElem? (i := 90) rfl)) rfl
theorem wd_1856 : Cond.code yX12_laysOrders cX12_laysOrders 1 (none) ∈ lw_g := gw (wt_8 (List.mem_of_getElem? (i := 68) rfl)) rfl
theorem wd_1853 : Cond.methodLink RX12 387 yX12_laysOrders ∈ lw_g := gw (wt_8 (List.mem_of_getElem? (i := 65) rfl)) rfl
theorem wd_1855 : Cond.instanceMethod yX12_laysOrders ∈ lw_g := gw (wt_8 (List.mem_of_getElem? (i := 67) rfl)) rfl
theorem wd_99 : Cond.selects RX12 yX12_laysOrders yX12_laysOrders ∈ lw_g := gw (wt_0 (List.mem_of_getElem? (i := 99) rfl)) rfl
theorem l_X12_387 : cV RX12 387 12 RX12 yX12_laysOrders cX12_laysOrders 1 (none) 0 := ⟨wd_1853, wd_1855, wd_99, wd_121, wd_1856, by decide +kernel, TX12, _, rfl⟩
theorem wd_1363 : Cond.fieldLink RX12 377 "SlackRaceModel" "bestWait" "I" ∈ lw_g := gw (wt_6 (List.mem_of_getElem? (i := 55) rfl)) rfl
theorem f_X12_377 : fF RX12 377 12 38 0 false := ⟨_, TX12, 52, tyX12, rfl, inX12, by decide, wd_1363, rfl, tyX12_ok, nmX12, Or.inl ⟨rfl, rfl⟩, rfl⟩
theorem wd_1362 : Cond.fieldLink RX12 91 "SlackRaceModel" "bestBegin" "[I" ∈ lw_g := gw (wt_6 (List.mem_of_getElem? (i := 54) rfl)) rfl
theorem f_X12_91 : fF RX12 91 12 37 2 true := ⟨_, TX12, 52, tyX12, rfl, inX12, by decide, wd_1362, rfl, tyX12_ok, nmX12, Or.inr (Or.inr (Or.inr ⟨rfl, Or.inr ⟨_, rfl⟩⟩)), rfl⟩
theorem q_84_37 : rs 84 37 = some 107 := rfl
theorem n_107 {h : Hp} : nd h 107 0 6 := nd_of (by decide) rfl
theorem wd_1860 : Cond.code yX12_orders cX12_orders 9 (none) ∈ lw_g := gw (wt_8 (List.mem_of_getElem? (i := 72) rfl)) rfl
theorem wd_1857 : Cond.methodLink RX12 383 yX12_orders ∈ lw_g := gw (wt_8 (List.mem_of_getElem? (i := 69) rfl)) rfl
theorem wd_1859 : Cond.instanceMethod yX12_orders ∈ lw_g := gw (wt_8 (List.mem_of_getElem? (i := 71) rfl)) rfl
theorem wd_100 : Cond.selects RX12 yX12_orders yX12_orders ∈ lw_g := gw (wt_0 (List.mem_of_getElem? (i := 100) rfl)) rfl
theorem l_X12_383 : cV RX12 383 12 RX12 yX12_orders cX12_orders 9 (none) 4 := ⟨wd_1857, wd_1859, wd_100, wd_121, wd_1860, by decide +kernel, TX12, _, rfl⟩
theorem wd_1864 : Cond.code yX12_beginsAt cX12_beginsAt 5 (some .int) ∈ lw_g := gw (wt_8 (List.mem_of_getElem? (i := 76) rfl)) rfl
theorem wd_1861 : Cond.methodLink RX12 380 yX12_beginsAt ∈ lw_g := gw (wt_8 (List.mem_of_getElem? (i := 73) rfl)) rfl
theorem wd_1863 : Cond.instanceMethod yX12_beginsAt ∈ lw_g := gw (wt_8 (List.mem_of_getElem? (i := 75) rfl)) rfl
theorem wd_101 : Cond.selects RX12 yX12_beginsAt yX12_beginsAt ∈ lw_g := gw (wt_0 (List.mem_of_getElem? (i := 101) rfl)) rfl
theorem l_X12_380 : cV RX12 380 12 RX12 yX12_beginsAt cX12_beginsAt 5 (some .int) 2 := ⟨wd_1861, wd_1863, wd_101, wd_121, wd_1864, by decide +kernel, TX12, _, rfl⟩
theorem wd_1359 : Cond.fieldLink RX12 82 "SlackRaceModel" "order" "[I" ∈ lw_g := gw (wt_6 (List.mem_of_getElem? (i := 51) rfl)) rfl
theorem f_X12_82 : fF RX12 82 12 34 2 true := ⟨_, TX12, 52, tyX12, rfl, inX12, by decide, wd_1359, rfl, tyX12_ok, nmX12, Or.inr (Or.inr (Or.inr ⟨rfl, Or.inr ⟨_, rfl⟩⟩)), rfl⟩
theorem q_84_34 : rs 84 34 = some 104 := rfl
theorem n_104 {h : Hp} : nd h 104 0 6 := nd_of (by decide) rfl
theorem wd_1361 : Cond.fieldLink RX12 88 "SlackRaceModel" "begin" "[I" ∈ lw_g := gw (wt_6 (List.mem_of_getElem? (i := 53) rfl)) rfl
theorem f_X12_88 : fF RX12 88 12 36 2 true := ⟨_, TX12, 52, tyX12, rfl, inX12, by decide, wd_1361, rfl, tyX12_ok, nmX12, Or.inr (Or.inr (Or.inr ⟨rfl, Or.inr ⟨_, rfl⟩⟩)), rfl⟩
theorem q_84_36 : rs 84 36 = some 106 := rfl
theorem n_106 {h : Hp} : nd h 106 0 6 := nd_of (by decide) rfl
theorem wd_1360 : Cond.fieldLink RX12 85 "SlackRaceModel" "bestOrder" "[I" ∈ lw_g := gw (wt_6 (List.mem_of_getElem? (i := 52) rfl)) rfl
theorem f_X12_85 : fF RX12 85 12 35 2 true := ⟨_, TX12, 52, tyX12, rfl, inX12, by decide, wd_1360, rfl, tyX12_ok, nmX12, Or.inr (Or.inr (Or.inr ⟨rfl, Or.inr ⟨_, rfl⟩⟩)), rfl⟩
theorem q_84_35 : rs 84 35 = some 105 := rfl
theorem n_105 {h : Hp} : nd h 105 0 6 := nd_of (by decide) rfl
theorem wd_1786 : Cond.code yX12_isWay cX12_isWay 5 (some .boolean) ∈ lw_g := gw (wt_7 (List.mem_of_getElem? (i := 238) rfl)) rfl
theorem wd_1783 : Cond.methodLink RX12 367 yX12_isWay ∈ lw_g := gw (wt_7 (List.mem_of_getElem? (i := 235) rfl)) rfl
theorem wd_1785 : Cond.instanceMethod yX12_isWay ∈ lw_g := gw (wt_7 (List.mem_of_getElem? (i := 237) rfl)) rfl
theorem wd_93 : Cond.selects RX12 yX12_isWay yX12_isWay ∈ lw_g := gw (wt_0 (List.mem_of_getElem? (i := 93) rfl)) rfl
theorem l_X12_367 : cV RX12 367 12 RX12 yX12_isWay cX12_isWay 5 (some .boolean) 4 := ⟨wd_1783, wd_1785, wd_93, wd_121, wd_1786, by decide +kernel, TX12, _, rfl⟩
theorem wd_1840 : Cond.code yX12_doneOf cX12_doneOf 7 (some .int) ∈ lw_g := gw (wt_8 (List.mem_of_getElem? (i := 52) rfl)) rfl
theorem wd_1837 : Cond.methodLink RX12 374 yX12_doneOf ∈ lw_g := gw (wt_8 (List.mem_of_getElem? (i := 49) rfl)) rfl
theorem wd_1839 : Cond.instanceMethod yX12_doneOf ∈ lw_g := gw (wt_8 (List.mem_of_getElem? (i := 51) rfl)) rfl
theorem wd_98 : Cond.selects RX12 yX12_doneOf yX12_doneOf ∈ lw_g := gw (wt_0 (List.mem_of_getElem? (i := 98) rfl)) rfl
theorem l_X12_374 : cV RX12 374 12 RX12 yX12_doneOf cX12_doneOf 7 (some .int) 4 := ⟨wd_1837, wd_1839, wd_98, wd_121, wd_1840, by decide +kernel, TX12, _, rfl⟩
theorem wd_1805 : Cond.code yX12_canBe cX12_canBe 4 (some .boolean) ∈ lw_g := gw (wt_8 (List.mem_of_getElem? (i := 17) rfl)) rfl
theorem wd_1802 : Cond.methodLink RX12 354 yX12_canBe ∈ lw_g := gw (wt_8 (List.mem_of_getElem? (i := 14) rfl)) rfl
theorem wd_1804 : Cond.instanceMethod yX12_canBe ∈ lw_g := gw (wt_8 (List.mem_of_getElem? (i := 16) rfl)) rfl
theorem wd_96 : Cond.selects RX12 yX12_canBe yX12_canBe ∈ lw_g := gw (wt_0 (List.mem_of_getElem? (i := 96) rfl)) rfl
theorem l_X12_354 : cV RX12 354 12 RX12 yX12_canBe cX12_canBe 4 (some .boolean) 3 := ⟨wd_1802, wd_1804, wd_96, wd_121, wd_1805, by decide +kernel, TX12, _, rfl⟩
theorem wd_1809 : Cond.code yX12_behind cX12_behind 10 (some .int) ∈ lw_g := gw (wt_8 (List.mem_of_getElem? (i := 21) rfl)) rfl
theorem wd_1806 : Cond.methodLink RX12 357 yX12_behind ∈ lw_g := gw (wt_8 (List.mem_of_getElem? (i := 18) rfl)) rfl
theorem wd_1808 : Cond.instanceMethod yX12_behind ∈ lw_g := gw (wt_8 (List.mem_of_getElem? (i := 20) rfl)) rfl
theorem wd_97 : Cond.selects RX12 yX12_behind yX12_behind ∈ lw_g := gw (wt_0 (List.mem_of_getElem? (i := 97) rfl)) rfl
theorem l_X12_357 : cV RX12 357 12 RX12 yX12_behind cX12_behind 10 (some .int) 5 := ⟨wd_1806, wd_1808, wd_97, wd_121, wd_1809, by decide +kernel, TX12, _, rfl⟩
theorem wd_1790 : Cond.code yX12_isBoat cX12_isBoat 2 (some .boolean) ∈ lw_g := gw (wt_8 (List.mem_of_getElem? (i := 2) rfl)) rfl
theorem wd_1787 : Cond.methodLink RX12 361 yX12_isBoat ∈ lw_g := gw (wt_7 (List.mem_of_getElem? (i := 239) rfl)) rfl
theorem wd_1789 : Cond.instanceMethod yX12_isBoat ∈ lw_g := gw (wt_8 (List.mem_of_getElem? (i := 1) rfl)) rfl
theorem wd_94 : Cond.selects RX12 yX12_isBoat yX12_isBoat ∈ lw_g := gw (wt_0 (List.mem_of_getElem? (i := 94) rfl)) rfl
theorem l_X12_361 : cV RX12 361 12 RX12 yX12_isBoat cX12_isBoat 2 (some .boolean) 1 := ⟨wd_1787, wd_1789, wd_94, wd_121, wd_1790, by decide +kernel, TX12, _, rfl⟩
theorem wd_1356 : Cond.fieldLink RX12 73 "SlackRaceModel" "leads" "[Z" ∈ lw_g := gw (wt_6 (List.mem_of_getElem? (i := 48) rfl)) rfl
theorem f_X12_73 : fF RX12 73 12 31 2 true := ⟨_, TX12, 52, tyX12, rfl, inX12, by decide, wd_1356, rfl, tyX12_ok, nmX12, Or.inr (Or.inr (Or.inr ⟨rfl, Or.inr ⟨_, rfl⟩⟩)), rfl⟩
theorem q_84_31 : rs 84 31 = some 101 := rfl
theorem n_101 {h : Hp} : nd h 101 2 7200 := nd_of (by decide) rfl
theorem wd_1357 : Cond.fieldLink RX12 76 "SlackRaceModel" "calm" "[I" ∈ lw_g := gw (wt_6 (List.mem_of_getElem? (i := 49) rfl)) rfl
theorem f_X12_76 : fF RX12 76 12 32 2 true := ⟨_, TX12, 52, tyX12, rfl, inX12, by decide, wd_1357, rfl, tyX12_ok, nmX12, Or.inr (Or.inr (Or.inr ⟨rfl, Or.inr ⟨_, rfl⟩⟩)), rfl⟩
theorem q_84_32 : rs 84 32 = some 102 := rfl
theorem n_102 {h : Hp} : nd h 102 0 50 := nd_of (by decide) rfl
theorem wd_1358 : Cond.fieldLink RX12 79 "SlackRaceModel" "calmNext" "[I" ∈ lw_g := gw (wt_6 (List.mem_of_getElem? (i := 50) rfl)) rfl
theorem f_X12_79 : fF RX12 79 12 33 2 true := ⟨_, TX12, 52, tyX12, rfl, inX12, by decide, wd_1358, rfl, tyX12_ok, nmX12, Or.inr (Or.inr (Or.inr ⟨rfl, Or.inr ⟨_, rfl⟩⟩)), rfl⟩
theorem q_84_33 : rs 84 33 = some 103 := rfl
theorem n_103 {h : Hp} : nd h 103 0 50 := nd_of (by decide) rfl
theorem wd_1797 : Cond.code yX12_soonestOf cX12_soonestOf 9 (some .int) ∈ lw_g := gw (wt_8 (List.mem_of_getElem? (i := 9) rfl)) rfl
theorem wd_1794 : Cond.methodLink RX12 371 yX12_soonestOf ∈ lw_g := gw (wt_8 (List.mem_of_getElem? (i := 6) rfl)) rfl
theorem wd_1796 : Cond.instanceMethod yX12_soonestOf ∈ lw_g := gw (wt_8 (List.mem_of_getElem? (i := 8) rfl)) rfl
theorem wd_95 : Cond.selects RX12 yX12_soonestOf yX12_soonestOf ∈ lw_g := gw (wt_0 (List.mem_of_getElem? (i := 95) rfl)) rfl
theorem l_X12_371 : cV RX12 371 12 RX12 yX12_soonestOf cX12_soonestOf 9 (some .int) 4 := ⟨wd_1794, wd_1796, wd_95, wd_121, wd_1797, by decide +kernel, TX12, _, rfl⟩
theorem wd_1355 : Cond.fieldLink RX12 70 "SlackRaceModel" "comes" "[Z" ∈ lw_g := gw (wt_6 (List.mem_of_getElem? (i := 47) rfl)) rfl
theorem f_X12_70 : fF RX12 70 12 30 2 true := ⟨_, TX12, 52, tyX12, rfl, inX12, by decide, wd_1355, rfl, tyX12_ok, nmX12, Or.inr (Or.inr (Or.inr ⟨rfl, Or.inr ⟨_, rfl⟩⟩)), rfl⟩
theorem q_84_30 : rs 84 30 = some 100 := rfl
theorem n_100 {h : Hp} : nd h 100 2 7200 := nd_of (by decide) rfl
theorem wd_1511 : Cond.code yX12_replaces cX12_replaces 4 (some .int) ∈ lw_g := gw (wt_6 (List.mem_of_getElem? (i := 203) rfl)) rfl
theorem wd_1508 : Cond.methodLink RX12 128 yX12_replaces ∈ lw_g := gw (wt_6 (List.mem_of_getElem? (i := 200) rfl)) rfl
theorem wd_1510 : Cond.instanceMethod yX12_replaces ∈ lw_g := gw (wt_6 (List.mem_of_getElem? (i := 202) rfl)) rfl
theorem wd_51 : Cond.selects RX12 yX12_replaces yX12_replaces ∈ lw_g := gw (wt_0 (List.mem_of_getElem? (i := 51) rfl)) rfl
theorem l_X12_128 : cV RX12 128 12 RX12 yX12_replaces cX12_replaces 4 (some .int) 2 := ⟨wd_1508, wd_1510, wd_51, wd_121, wd_1511, by decide +kernel, TX12, _, rfl⟩
theorem wd_1507 : Cond.code yX12_isEnd cX12_isEnd 1 (some .boolean) ∈ lw_g := gw (wt_6 (List.mem_of_getElem? (i := 199) rfl)) rfl
theorem wd_1506 : Cond.static yX12_isEnd ∈ lw_g := gw (wt_6 (List.mem_of_getElem? (i := 198) rfl)) rfl
theorem wd_1505 : Cond.methodLink RX12 124 yX12_isEnd ∈ lw_g := gw (wt_6 (List.mem_of_getElem? (i := 197) rfl)) rfl
theorem l_X12_124 : cS RX12 124 yX12_isEnd cX12_isEnd 1 (some .boolean) 1 := ⟨wd_1505, wd_1506, wd_121, wd_1507, by decide +kernel⟩
theorem wd_1336 : Cond.fieldLink RX12 40 "SlackRaceModel" "fault" "I" ∈ lw_g := gw (wt_6 (List.mem_of_getElem? (i := 28) rfl)) rfl
theorem f_X12_40 : fF RX12 40 12 11 0 false := ⟨_, TX12, 52, tyX12, rfl, inX12, by decide, wd_1336, rfl, tyX12_ok, nmX12, Or.inl ⟨rfl, rfl⟩, rfl⟩
theorem wd_1549 : Cond.code yX12_reads cX12_reads 2 (some .boolean) ∈ lw_g := gw (wt_7 (List.mem_of_getElem? (i := 1) rfl)) rfl
theorem wd_1546 : Cond.methodLink RX12 212 yX12_reads ∈ lw_g := gw (wt_6 (List.mem_of_getElem? (i := 238) rfl)) rfl
theorem wd_1548 : Cond.instanceMethod yX12_reads ∈ lw_g := gw (wt_7 (List.mem_of_getElem? (i := 0) rfl)) rfl
theorem wd_52 : Cond.selects RX12 yX12_reads yX12_reads ∈ lw_g := gw (wt_0 (List.mem_of_getElem? (i := 52) rfl)) rfl
theorem l_X12_212 : cV RX12 212 12 RX12 yX12_reads cX12_reads 2 (some .boolean) 0 := ⟨wd_1546, wd_1548, wd_52, wd_121, wd_1549, by decide +kernel, TX12, _, rfl⟩
theorem wd_1340 : Cond.fieldLink RX12 145 "SlackRaceModel" "tokens" "I" ∈ lw_g := gw (wt_6 (List.mem_of_getElem? (i := 32) rfl)) rfl
theorem f_X12_145 : fF RX12 145 12 15 0 false := ⟨_, TX12, 52, tyX12, rfl, inX12, by decide, wd_1340, rfl, tyX12_ok, nmX12, Or.inl ⟨rfl, rfl⟩, rfl⟩
theorem wd_1337 : Cond.fieldLink RX12 43 "SlackRaceModel" "code" "[I" ∈ lw_g := gw (wt_6 (List.mem_of_getElem? (i := 29) rfl)) rfl
theorem f_X12_43 : fF RX12 43 12 12 2 true := ⟨_, TX12, 52, tyX12, rfl, inX12, by decide, wd_1337, rfl, tyX12_ok, nmX12, Or.inr (Or.inr (Or.inr ⟨rfl, Or.inr ⟨_, rfl⟩⟩)), rfl⟩
theorem q_84_12 : rs 84 12 = some 92 := rfl
theorem n_92 {h : Hp} : nd h 92 0 401 := nd_of (by decide) rfl
theorem wd_1338 : Cond.fieldLink RX12 46 "SlackRaceModel" "value" "[I" ∈ lw_g := gw (wt_6 (List.mem_of_getElem? (i := 30) rfl)) rfl
theorem f_X12_46 : fF RX12 46 12 13 2 true := ⟨_, TX12, 52, tyX12, rfl, inX12, by decide, wd_1338, rfl, tyX12_ok, nmX12, Or.inr (Or.inr (Or.inr ⟨rfl, Or.inr ⟨_, rfl⟩⟩)), rfl⟩
theorem q_84_13 : rs 84 13 = some 93 := rfl
theorem n_93 {h : Hp} : nd h 93 0 401 := nd_of (by decide) rfl
theorem wd_1553 : Cond.code yX12_splits cX12_splits 6 (none) ∈ lw_g := gw (wt_7 (List.mem_of_getElem? (i := 5) rfl)) rfl
theorem wd_1550 : Cond.methodLink RX12 206 yX12_splits ∈ lw_g := gw (wt_7 (List.mem_of_getElem? (i := 2) rfl)) rfl
theorem wd_1552 : Cond.instanceMethod yX12_splits ∈ lw_g := gw (wt_7 (List.mem_of_getElem? (i := 4) rfl)) rfl
theorem wd_53 : Cond.selects RX12 yX12_splits yX12_splits ∈ lw_g := gw (wt_0 (List.mem_of_getElem? (i := 53) rfl)) rfl
theorem l_X12_206 : cV RX12 206 12 RX12 yX12_splits cX12_splits 6 (none) 1 := ⟨wd_1550, wd_1552, wd_53, wd_121, wd_1553, by decide +kernel, TX12, _, rfl⟩
theorem wd_1341 : Cond.fieldLink RX12 165 "SlackRaceModel" "token" "I" ∈ lw_g := gw (wt_6 (List.mem_of_getElem? (i := 33) rfl)) rfl
theorem f_X12_165 : fF RX12 165 12 16 0 false := ⟨_, TX12, 52, tyX12, rfl, inX12, by decide, wd_1341, rfl, tyX12_ok, nmX12, Or.inl ⟨rfl, rfl⟩, rfl⟩
theorem wd_1342 : Cond.fieldLink RX12 174 "SlackRaceModel" "leaves" "I" ∈ lw_g := gw (wt_6 (List.mem_of_getElem? (i := 34) rfl)) rfl
theorem f_X12_174 : fF RX12 174 12 17 0 false := ⟨_, TX12, 52, tyX12, rfl, inX12, by decide, wd_1342, rfl, tyX12_ok, nmX12, Or.inl ⟨rfl, rfl⟩, rfl⟩
theorem wd_1343 : Cond.fieldLink RX12 158 "SlackRaceModel" "bad" "I" ∈ lw_g := gw (wt_6 (List.mem_of_getElem? (i := 35) rfl)) rfl
theorem f_X12_158 : fF RX12 158 12 18 0 false := ⟨_, TX12, 52, tyX12, rfl, inX12, by decide, wd_1343, rfl, tyX12_ok, nmX12, Or.inl ⟨rfl, rfl⟩, rfl⟩
theorem wd_1568 : Cond.code yX12_readClause cX12_readClause 1 (none) ∈ lw_g := gw (wt_7 (List.mem_of_getElem? (i := 20) rfl)) rfl
theorem wd_1565 : Cond.methodLink RX12 209 yX12_readClause ∈ lw_g := gw (wt_7 (List.mem_of_getElem? (i := 17) rfl)) rfl
theorem wd_1567 : Cond.instanceMethod yX12_readClause ∈ lw_g := gw (wt_7 (List.mem_of_getElem? (i := 19) rfl)) rfl
theorem wd_55 : Cond.selects RX12 yX12_readClause yX12_readClause ∈ lw_g := gw (wt_0 (List.mem_of_getElem? (i := 55) rfl)) rfl
theorem l_X12_209 : cV RX12 209 12 RX12 yX12_readClause cX12_readClause 1 (none) 0 := ⟨wd_1565, wd_1567, wd_55, wd_121, wd_1568, by decide +kernel, TX12, _, rfl⟩
theorem wd_1572 : Cond.code yX12_takes0 cX12_takes0 3 (some .boolean) ∈ lw_g := gw (wt_7 (List.mem_of_getElem? (i := 24) rfl)) rfl
theorem wd_1569 : Cond.methodLink RX12 168 yX12_takes0 ∈ lw_g := gw (wt_7 (List.mem_of_getElem? (i := 21) rfl)) rfl
theorem wd_1571 : Cond.instanceMethod yX12_takes0 ∈ lw_g := gw (wt_7 (List.mem_of_getElem? (i := 23) rfl)) rfl
theorem wd_56 : Cond.selects RX12 yX12_takes0 yX12_takes0 ∈ lw_g := gw (wt_0 (List.mem_of_getElem? (i := 56) rfl)) rfl
theorem l_X12_168 : cV RX12 168 12 RX12 yX12_takes0 cX12_takes0 3 (some .boolean) 1 := ⟨wd_1569, wd_1571, wd_56, wd_121, wd_1572, by decide +kernel, TX12, _, rfl⟩
theorem wd_1576 : Cond.code yX12_fine cX12_fine 1 (some .boolean) ∈ lw_g := gw (wt_7 (List.mem_of_getElem? (i := 28) rfl)) rfl
theorem wd_1573 : Cond.methodLink RX12 161 yX12_fine ∈ lw_g := gw (wt_7 (List.mem_of_getElem? (i := 25) rfl)) rfl
theorem wd_1575 : Cond.instanceMethod yX12_fine ∈ lw_g := gw (wt_7 (List.mem_of_getElem? (i := 27) rfl)) rfl
theorem wd_57 : Cond.selects RX12 yX12_fine yX12_fine ∈ lw_g := gw (wt_0 (List.mem_of_getElem? (i := 57) rfl)) rfl
theorem l_X12_161 : cV RX12 161 12 RX12 yX12_fine cX12_fine 1 (some .boolean) 0 := ⟨wd_1573, wd_1575, wd_57, wd_121, wd_1576, by decide +kernel, TX12, _, rfl⟩
theorem wd_1584 : Cond.code yX12_faults cX12_faults 1 (none) ∈ lw_g := gw (wt_7 (List.mem_of_getElem? (i := 36) rfl)) rfl
theorem wd_1581 : Cond.methodLink RX12 171 yX12_faults ∈ lw_g := gw (wt_7 (List.mem_of_getElem? (i := 33) rfl)) rfl
theorem wd_1583 : Cond.instanceMethod yX12_faults ∈ lw_g := gw (wt_7 (List.mem_of_getElem? (i := 35) rfl)) rfl
theorem wd_59 : Cond.selects RX12 yX12_faults yX12_faults ∈ lw_g := gw (wt_0 (List.mem_of_getElem? (i := 59) rfl)) rfl
theorem l_X12_171 : cV RX12 171 12 RX12 yX12_faults cX12_faults 1 (none) 0 := ⟨wd_1581, wd_1583, wd_59, wd_121, wd_1584, by decide +kernel, TX12, _, rfl⟩
theorem wd_1339 : Cond.fieldLink RX12 49 "SlackRaceModel" "placed" "[I" ∈ lw_g := gw (wt_6 (List.mem_of_getElem? (i := 31) rfl)) rfl
theorem f_X12_49 : fF RX12 49 12 14 2 true := ⟨_, TX12, 52, tyX12, rfl, inX12, by decide, wd_1339, rfl, tyX12_ok, nmX12, Or.inr (Or.inr (Or.inr ⟨rfl, Or.inr ⟨_, rfl⟩⟩)), rfl⟩
theorem q_84_14 : rs 84 14 = some 94 := rfl
theorem n_94 {h : Hp} : nd h 94 0 401 := nd_of (by decide) rfl
theorem wd_1580 : Cond.code yX12_must cX12_must 2 (none) ∈ lw_g := gw (wt_7 (List.mem_of_getElem? (i := 32) rfl)) rfl
theorem wd_1577 : Cond.methodLink RX12 177 yX12_must ∈ lw_g := gw (wt_7 (List.mem_of_getElem? (i := 29) rfl)) rfl
theorem wd_1579 : Cond.instanceMethod yX12_must ∈ lw_g := gw (wt_7 (List.mem_of_getElem? (i := 31) rfl)) rfl
theorem wd_58 : Cond.selects RX12 yX12_must yX12_must ∈ lw_g := gw (wt_0 (List.mem_of_getElem? (i := 58) rfl)) rfl
theorem l_X12_177 : cV RX12 177 12 RX12 yX12_must cX12_must 2 (none) 1 := ⟨wd_1577, wd_1579, wd_58, wd_121, wd_1580, by decide +kernel, TX12, _, rfl⟩
theorem wd_1588 : Cond.code yX12_readSum cX12_readSum 2 (none) ∈ lw_g := gw (wt_7 (List.mem_of_getElem? (i := 40) rfl)) rfl
theorem wd_1585 : Cond.methodLink RX12 181 yX12_readSum ∈ lw_g := gw (wt_7 (List.mem_of_getElem? (i := 37) rfl)) rfl
theorem wd_1587 : Cond.instanceMethod yX12_readSum ∈ lw_g := gw (wt_7 (List.mem_of_getElem? (i := 39) rfl)) rfl
theorem wd_60 : Cond.selects RX12 yX12_readSum yX12_readSum ∈ lw_g := gw (wt_0 (List.mem_of_getElem? (i := 60) rfl)) rfl
theorem l_X12_181 : cV RX12 181 12 RX12 yX12_readSum cX12_readSum 2 (none) 1 := ⟨wd_1585, wd_1587, wd_60, wd_121, wd_1588, by decide +kernel, TX12, _, rfl⟩
theorem wd_1607 : Cond.code yX12_readTest cX12_readTest 2 (none) ∈ lw_g := gw (wt_7 (List.mem_of_getElem? (i := 59) rfl)) rfl
theorem wd_1604 : Cond.methodLink RX12 184 yX12_readTest ∈ lw_g := gw (wt_7 (List.mem_of_getElem? (i := 56) rfl)) rfl
theorem wd_1606 : Cond.instanceMethod yX12_readTest ∈ lw_g := gw (wt_7 (List.mem_of_getElem? (i := 58) rfl)) rfl
theorem wd_64 : Cond.selects RX12 yX12_readTest yX12_readTest ∈ lw_g := gw (wt_0 (List.mem_of_getElem? (i := 64) rfl)) rfl
theorem l_X12_184 : cV RX12 184 12 RX12 yX12_readTest cX12_readTest 2 (none) 1 := ⟨wd_1604, wd_1606, wd_64, wd_121, wd_1607, by decide +kernel, TX12, _, rfl⟩
theorem wd_1611 : Cond.code yX12_readBoth cX12_readBoth 2 (none) ∈ lw_g := gw (wt_7 (List.mem_of_getElem? (i := 63) rfl)) rfl
theorem wd_1608 : Cond.methodLink RX12 187 yX12_readBoth ∈ lw_g := gw (wt_7 (List.mem_of_getElem? (i := 60) rfl)) rfl
theorem wd_1610 : Cond.instanceMethod yX12_readBoth ∈ lw_g := gw (wt_7 (List.mem_of_getElem? (i := 62) rfl)) rfl
theorem wd_65 : Cond.selects RX12 yX12_readBoth yX12_readBoth ∈ lw_g := gw (wt_0 (List.mem_of_getElem? (i := 65) rfl)) rfl
theorem l_X12_187 : cV RX12 187 12 RX12 yX12_readBoth cX12_readBoth 2 (none) 1 := ⟨wd_1608, wd_1610, wd_65, wd_121, wd_1611, by decide +kernel, TX12, _, rfl⟩
theorem wd_1615 : Cond.code yX12_readPlain cX12_readPlain 4 (none) ∈ lw_g := gw (wt_7 (List.mem_of_getElem? (i := 67) rfl)) rfl
theorem wd_1612 : Cond.methodLink RX12 190 yX12_readPlain ∈ lw_g := gw (wt_7 (List.mem_of_getElem? (i := 64) rfl)) rfl
theorem wd_1614 : Cond.instanceMethod yX12_readPlain ∈ lw_g := gw (wt_7 (List.mem_of_getElem? (i := 66) rfl)) rfl
theorem wd_66 : Cond.selects RX12 yX12_readPlain yX12_readPlain ∈ lw_g := gw (wt_0 (List.mem_of_getElem? (i := 66) rfl)) rfl
theorem l_X12_190 : cV RX12 190 12 RX12 yX12_readPlain cX12_readPlain 4 (none) 1 := ⟨wd_1612, wd_1614, wd_66, wd_121, wd_1615, by decide +kernel, TX12, _, rfl⟩
theorem wd_1592 : Cond.code yX12_readTerm cX12_readTerm 2 (none) ∈ lw_g := gw (wt_7 (List.mem_of_getElem? (i := 44) rfl)) rfl
theorem wd_1589 : Cond.methodLink RX12 197 yX12_readTerm ∈ lw_g := gw (wt_7 (List.mem_of_getElem? (i := 41) rfl)) rfl
theorem wd_1591 : Cond.instanceMethod yX12_readTerm ∈ lw_g := gw (wt_7 (List.mem_of_getElem? (i := 43) rfl)) rfl
theorem wd_61 : Cond.selects RX12 yX12_readTerm yX12_readTerm ∈ lw_g := gw (wt_0 (List.mem_of_getElem? (i := 61) rfl)) rfl
theorem l_X12_197 : cV RX12 197 12 RX12 yX12_readTerm cX12_readTerm 2 (none) 1 := ⟨wd_1589, wd_1591, wd_61, wd_121, wd_1592, by decide +kernel, TX12, _, rfl⟩
theorem wd_1596 : Cond.code yX12_readPart cX12_readPart 3 (none) ∈ lw_g := gw (wt_7 (List.mem_of_getElem? (i := 48) rfl)) rfl
theorem wd_1593 : Cond.methodLink RX12 200 yX12_readPart ∈ lw_g := gw (wt_7 (List.mem_of_getElem? (i := 45) rfl)) rfl
theorem wd_1595 : Cond.instanceMethod yX12_readPart ∈ lw_g := gw (wt_7 (List.mem_of_getElem? (i := 47) rfl)) rfl
theorem wd_62 : Cond.selects RX12 yX12_readPart yX12_readPart ∈ lw_g := gw (wt_0 (List.mem_of_getElem? (i := 62) rfl)) rfl
theorem l_X12_200 : cV RX12 200 12 RX12 yX12_readPart cX12_readPart 3 (none) 1 := ⟨wd_1593, wd_1595, wd_62, wd_121, wd_1596, by decide +kernel, TX12, _, rfl⟩
theorem wd_1603 : Cond.code yX12_leaf cX12_leaf 1 (none) ∈ lw_g := gw (wt_7 (List.mem_of_getElem? (i := 55) rfl)) rfl
theorem wd_1600 : Cond.methodLink RX12 203 yX12_leaf ∈ lw_g := gw (wt_7 (List.mem_of_getElem? (i := 52) rfl)) rfl
theorem wd_1602 : Cond.instanceMethod yX12_leaf ∈ lw_g := gw (wt_7 (List.mem_of_getElem? (i := 54) rfl)) rfl
theorem wd_63 : Cond.selects RX12 yX12_leaf yX12_leaf ∈ lw_g := gw (wt_0 (List.mem_of_getElem? (i := 63) rfl)) rfl
theorem l_X12_203 : cV RX12 203 12 RX12 yX12_leaf cX12_leaf 1 (none) 0 := ⟨wd_1600, wd_1602, wd_63, wd_121, wd_1603, by decide +kernel, TX12, _, rfl⟩
theorem wd_1333 : Cond.fieldLink RX12 34 "SlackRaceModel" "tape" "[B" ∈ lw_g := gw (wt_6 (List.mem_of_getElem? (i := 25) rfl)) rfl
theorem f_X12_34 : fF RX12 34 12 8 2 true := ⟨_, TX12, 52, tyX12, rfl, inX12, by decide, wd_1333, rfl, tyX12_ok, nmX12, Or.inr (Or.inr (Or.inr ⟨rfl, Or.inr ⟨_, rfl⟩⟩)), rfl⟩
theorem q_84_8 : rs 84 8 = some 90 := rfl
theorem n_90 {h : Hp} : nd h 90 3 400 := nd_of (by decide) rfl
theorem wd_1556 : Cond.code yX12_isSmall cX12_isSmall 1 (some .boolean) ∈ lw_g := gw (wt_7 (List.mem_of_getElem? (i := 8) rfl)) rfl
theorem wd_1555 : Cond.static yX12_isSmall ∈ lw_g := gw (wt_7 (List.mem_of_getElem? (i := 7) rfl)) rfl
theorem wd_1554 : Cond.methodLink RX12 148 yX12_isSmall ∈ lw_g := gw (wt_7 (List.mem_of_getElem? (i := 6) rfl)) rfl
theorem l_X12_148 : cS RX12 148 yX12_isSmall cX12_isSmall 1 (some .boolean) 1 := ⟨wd_1554, wd_1555, wd_121, wd_1556, by decide +kernel⟩
theorem wd_1559 : Cond.code yX12_isDigit cX12_isDigit 1 (some .boolean) ∈ lw_g := gw (wt_7 (List.mem_of_getElem? (i := 11) rfl)) rfl
theorem wd_1558 : Cond.static yX12_isDigit ∈ lw_g := gw (wt_7 (List.mem_of_getElem? (i := 10) rfl)) rfl
theorem wd_1557 : Cond.methodLink RX12 151 yX12_isDigit ∈ lw_g := gw (wt_7 (List.mem_of_getElem? (i := 9) rfl)) rfl
theorem l_X12_151 : cS RX12 151 yX12_isDigit cX12_isDigit 1 (some .boolean) 1 := ⟨wd_1557, wd_1558, wd_121, wd_1559, by decide +kernel⟩
theorem wd_1563 : Cond.code yX12_wordOf cX12_wordOf 8 (some .int) ∈ lw_g := gw (wt_7 (List.mem_of_getElem? (i := 15) rfl)) rfl
theorem wd_1560 : Cond.methodLink RX12 154 yX12_wordOf ∈ lw_g := gw (wt_7 (List.mem_of_getElem? (i := 12) rfl)) rfl
theorem wd_1562 : Cond.instanceMethod yX12_wordOf ∈ lw_g := gw (wt_7 (List.mem_of_getElem? (i := 14) rfl)) rfl
theorem wd_54 : Cond.selects RX12 yX12_wordOf yX12_wordOf ∈ lw_g := gw (wt_0 (List.mem_of_getElem? (i := 54) rfl)) rfl
theorem l_X12_154 : cV RX12 154 12 RX12 yX12_wordOf cX12_wordOf 8 (some .int) 2 := ⟨wd_1560, wd_1562, wd_54, wd_121, wd_1563, by decide +kernel, TX12, _, rfl⟩
theorem wd_1332 : Cond.fieldLink RX12 30 "SlackRaceModel" "words" "[B" ∈ lw_g := gw (wt_6 (List.mem_of_getElem? (i := 24) rfl)) rfl
theorem f_X12_30 : fF RX12 30 12 7 2 true := ⟨_, TX12, 52, tyX12, rfl, inX12, by decide, wd_1332, rfl, tyX12_ok, nmX12, Or.inr (Or.inr (Or.inr ⟨rfl, Or.inr ⟨_, rfl⟩⟩)), rfl⟩
theorem q_84_7 : rs 84 7 = some 89 := rfl
theorem n_89 {h : Hp} : nd h 89 3 68 := nd_of (by decide) rfl
theorem wd_1334 : Cond.fieldLink RX12 37 "SlackRaceModel" "five" "[I" ∈ lw_g := gw (wt_6 (List.mem_of_getElem? (i := 26) rfl)) rfl
theorem f_X12_37 : fF RX12 37 12 9 2 true := ⟨_, TX12, 52, tyX12, rfl, inX12, by decide, wd_1334, rfl, tyX12_ok, nmX12, Or.inr (Or.inr (Or.inr ⟨rfl, Or.inr ⟨_, rfl⟩⟩)), rfl⟩
theorem q_84_9 : rs 84 9 = some 91 := rfl
theorem n_91 {h : Hp} : nd h 91 0 5 := nd_of (by decide) rfl
theorem wd_1331 : Cond.fieldLink RX12 142 "SlackRaceModel" "foul" "I" ∈ lw_g := gw (wt_6 (List.mem_of_getElem? (i := 23) rfl)) rfl
theorem f_X12_142 : fF RX12 142 12 6 0 false := ⟨_, TX12, 52, tyX12, rfl, inX12, by decide, wd_1331, rfl, tyX12_ok, nmX12, Or.inl ⟨rfl, rfl⟩, rfl⟩
theorem wd_1525 : Cond.code yX12_isTerm cX12_isTerm 2 (some .boolean) ∈ lw_g := gw (wt_6 (List.mem_of_getElem? (i := 217) rfl)) rfl
theorem wd_1524 : Cond.static yX12_isTerm ∈ lw_g := gw (wt_6 (List.mem_of_getElem? (i := 216) rfl)) rfl
theorem wd_1523 : Cond.methodLink RX12 135 yX12_isTerm ∈ lw_g := gw (wt_6 (List.mem_of_getElem? (i := 215) rfl)) rfl
theorem l_X12_135 : cS RX12 135 yX12_isTerm cX12_isTerm 2 (some .boolean) 2 := ⟨wd_1523, wd_1524, wd_121, wd_1525, by decide +kernel⟩
theorem wd_1330 : Cond.fieldLink RX12 26 "SlackRaceModel" "hasImage" "[Z" ∈ lw_g := gw (wt_6 (List.mem_of_getElem? (i := 22) rfl)) rfl
theorem f_X12_26 : fF RX12 26 12 5 2 true := ⟨_, TX12, 52, tyX12, rfl, inX12, by decide, wd_1330, rfl, tyX12_ok, nmX12, Or.inr (Or.inr (Or.inr ⟨rfl, Or.inr ⟨_, rfl⟩⟩)), rfl⟩
theorem q_84_5 : rs 84 5 = some 88 := rfl
theorem n_88 {h : Hp} : nd h 88 2 2 := nd_of (by decide) rfl
theorem wd_1329 : Cond.fieldLink RX12 23 "SlackRaceModel" "images" "[I" ∈ lw_g := gw (wt_6 (List.mem_of_getElem? (i := 21) rfl)) rfl
theorem f_X12_23 : fF RX12 23 12 4 2 true := ⟨_, TX12, 52, tyX12, rfl, inX12, by decide, wd_1329, rfl, tyX12_ok, nmX12, Or.inr (Or.inr (Or.inr ⟨rfl, Or.inr ⟨_, rfl⟩⟩)), rfl⟩
theorem q_84_4 : rs 84 4 = some 87 := rfl
theorem n_87 {h : Hp} : nd h 87 0 9996 := nd_of (by decide) rfl
theorem wd_579 : Cond.fieldLink RX11 92 "SlackRace" "refusedBy" "I" ∈ lw_g := gw (wt_2 (List.mem_of_getElem? (i := 231) rfl)) rfl
theorem f_X11_92 : fF RX11 92 11 12 0 false := ⟨_, TX11, 15, tyX11, rfl, inX11, by decide, wd_579, rfl, tyX11_ok, nmX11, Or.inl ⟨rfl, rfl⟩, rfl⟩
theorem n_0 {h : Hp} : nd h 0 111 15 := nd_of (by decide) rfl
theorem wd_567 : Cond.fieldLink RX11 10 "SlackRace" "state" "LSlackRace$State;" ∈ lw_g := gw (wt_2 (List.mem_of_getElem? (i := 219) rfl)) rfl
theorem f_X11_10 : fF RX11 10 11 0 2 true := ⟨_, TX11, 15, tyX11, rfl, inX11, by decide, wd_567, rfl, tyX11_ok, nmX11, Or.inr (Or.inr (Or.inr ⟨rfl, Or.inl ⟨_, rfl⟩⟩)), rfl⟩
theorem q_0_0 : rs 0 0 = some 1 := rfl
theorem wd_206 : Cond.fieldLink RX11 229 "SlackRace$State" "boatCount" "I" ∈ lw_g := gw (wt_1 (List.mem_of_getElem? (i := 98) rfl)) rfl
theorem f_X11_229 : fF RX11 229 6 15 0 false := ⟨_, TX6, 19, tyX6, rfl, inX6, by decide, wd_206, rfl, tyX6_ok, nmX6, Or.inl ⟨rfl, rfl⟩, rfl⟩
theorem n_1 {h : Hp} : nd h 1 106 19 := nd_of (by decide) rfl
theorem wd_212 : Cond.fieldLink RX11 273 "SlackRace$State" "shipCount" "I" ∈ lw_g := gw (wt_1 (List.mem_of_getElem? (i := 104) rfl)) rfl
theorem f_X11_273 : fF RX11 273 6 17 0 false := ⟨_, TX6, 19, tyX6, rfl, inX6, by decide, wd_212, rfl, tyX6_ok, nmX6, Or.inl ⟨rfl, rfl⟩, rfl⟩
theorem wd_202 : Cond.fieldLink RX11 167 "SlackRace$State" "lawCount" "I" ∈ lw_g := gw (wt_1 (List.mem_of_getElem? (i := 94) rfl)) rfl
theorem f_X11_167 : fF RX11 167 6 13 0 false := ⟨_, TX6, 19, tyX6, rfl, inX6, by decide, wd_202, rfl, tyX6_ok, nmX6, Or.inl ⟨rfl, rfl⟩, rfl⟩
theorem wd_209 : Cond.fieldLink RX11 261 "SlackRace$State" "planLength" "I" ∈ lw_g := gw (wt_1 (List.mem_of_getElem? (i := 101) rfl)) rfl
theorem f_X11_261 : fF RX11 261 6 16 0 false := ⟨_, TX6, 19, tyX6, rfl, inX6, by decide, wd_209, rfl, tyX6_ok, nmX6, Or.inl ⟨rfl, rfl⟩, rfl⟩
theorem wd_215 : Cond.fieldLink RX11 317 "SlackRace$State" "floatCount" "I" ∈ lw_g := gw (wt_1 (List.mem_of_getElem? (i := 107) rfl)) rfl
theorem f_X11_317 : fF RX11 317 6 18 0 false := ⟨_, TX6, 19, tyX6, rfl, inX6, by decide, wd_215, rfl, tyX6_ok, nmX6, Or.inl ⟨rfl, rfl⟩, rfl⟩
theorem wd_570 : Cond.fieldLink RX11 27 "SlackRace" "tape" "LSlackRace$Tape;" ∈ lw_g := gw (wt_2 (List.mem_of_getElem? (i := 222) rfl)) rfl
theorem f_X11_27 : fF RX11 27 11 3 2 true := ⟨_, TX11, 15, tyX11, rfl, inX11, by decide, wd_570, rfl, tyX11_ok, nmX11, Or.inr (Or.inr (Or.inr ⟨rfl, Or.inl ⟨_, rfl⟩⟩)), rfl⟩
theorem q_0_3 : rs 0 3 = some 45 := rfl
theorem wd_267 : Cond.fieldLink RX11 154 "SlackRace$Tape" "length" "I" ∈ lw_g := gw (wt_1 (List.mem_of_getElem? (i := 159) rfl)) rfl
theorem f_X11_154 : fF RX11 154 7 1 0 false := ⟨_, TX7, 2, tyX7, rfl, inX7, by decide, wd_267, rfl, tyX7_ok, nmX7, Or.inl ⟨rfl, rfl⟩, rfl⟩
theorem n_45 {h : Hp} : nd h 45 107 2 := nd_of (by decide) rfl
theorem wd_204 : Cond.fieldLink RX11 181 "SlackRace$State" "inForce" "I" ∈ lw_g := gw (wt_1 (List.mem_of_getElem? (i := 96) rfl)) rfl
theorem f_X11_181 : fF RX11 181 6 14 0 false := ⟨_, TX6, 19, tyX6, rfl, inX6, by decide, wd_204, rfl, tyX6_ok, nmX6, Or.inl ⟨rfl, rfl⟩, rfl⟩
theorem wd_578 : Cond.fieldLink RX11 88 "SlackRace" "refusals" "[I" ∈ lw_g := gw (wt_2 (List.mem_of_getElem? (i := 230) rfl)) rfl
theorem f_X11_88 : fF RX11 88 11 11 2 true := ⟨_, TX11, 15, tyX11, rfl, inX11, by decide, wd_578, rfl, tyX11_ok, nmX11, Or.inr (Or.inr (Or.inr ⟨rfl, Or.inr ⟨_, rfl⟩⟩)), rfl⟩
theorem q_0_11 : rs 0 11 = some 83 := rfl
theorem n_83 {h : Hp} : nd h 83 0 4 := nd_of (by decide) rfl
theorem wd_109 : Cond.initialized RX11 ∈ lw_g := gw (wt_1 (List.mem_of_getElem? (i := 1) rfl)) rfl
theorem wd_619 : Cond.code yX11_isWithin cX11_isWithin 3 (some .boolean) ∈ lw_g := gw (wt_3 (List.mem_of_getElem? (i := 31) rfl)) rfl
theorem wd_618 : Cond.static yX11_isWithin ∈ lw_g := gw (wt_3 (List.mem_of_getElem? (i := 30) rfl)) rfl
theorem wd_617 : Cond.methodLink RX11 102 yX11_isWithin ∈ lw_g := gw (wt_3 (List.mem_of_getElem? (i := 29) rfl)) rfl
theorem l_X11_102 : cS RX11 102 yX11_isWithin cX11_isWithin 3 (some .boolean) 3 := ⟨wd_617, wd_618, wd_109, wd_619, by decide +kernel⟩
theorem wd_569 : Cond.fieldLink RX11 20 "SlackRace" "kept" "[Z" ∈ lw_g := gw (wt_2 (List.mem_of_getElem? (i := 221) rfl)) rfl
theorem f_X11_20 : fF RX11 20 11 2 2 true := ⟨_, TX11, 15, tyX11, rfl, inX11, by decide, wd_569, rfl, tyX11_ok, nmX11, Or.inr (Or.inr (Or.inr ⟨rfl, Or.inr ⟨_, rfl⟩⟩)), rfl⟩
theorem q_0_2 : rs 0 2 = some 44 := rfl
theorem n_44 {h : Hp} : nd h 44 2 2 := nd_of (by decide) rfl
theorem wd_568 : Cond.fieldLink RX11 16 "SlackRace" "images" "[LSlackRace$State;" ∈ lw_g := gw (wt_2 (List.mem_of_getElem? (i := 220) rfl)) rfl
theorem f_X11_16 : fF RX11 16 11 1 2 true := ⟨_, TX11, 15, tyX11, rfl, inX11, by decide, wd_568, rfl, tyX11_ok, nmX11, Or.inr (Or.inr (Or.inr ⟨rfl, Or.inr ⟨_, rfl⟩⟩)), rfl⟩
theorem q_0_1 : rs 0 1 = some 15 := rfl
theorem n_15 {h : Hp} : nd h 15 16 2 := nd_of (by decide) rfl
theorem wd_110 : Cond.initialized RX6 ∈ lw_g := gw (wt_1 (List.mem_of_getElem? (i := 2) rfl)) rfl
theorem wd_1305 : Cond.code yX6_copyFrom cX6_copyFrom 3 (none) ∈ lw_g := gw (wt_5 (List.mem_of_getElem? (i := 237) rfl)) rfl
theorem wd_1302 : Cond.methodLink RX11 369 yX6_copyFrom ∈ lw_g := gw (wt_5 (List.mem_of_getElem? (i := 234) rfl)) rfl
theorem wd_1303 : Cond.instanceMethod yX6_copyFrom ∈ lw_g := gw (wt_5 (List.mem_of_getElem? (i := 235) rfl)) rfl
theorem wd_1304 : Cond.selects RX6 yX6_copyFrom yX6_copyFrom ∈ lw_g := gw (wt_5 (List.mem_of_getElem? (i := 236) rfl)) rfl
theorem l_X11_369 : cV RX11 369 6 RX6 yX6_copyFrom cX6_copyFrom 3 (none) 1 := ⟨wd_1302, wd_1303, wd_1304, wd_110, wd_1305, by decide +kernel, TX6, _, rfl⟩
theorem wd_631 : Cond.code yX11_forgetLevels cX11_forgetLevels 1 (none) ∈ lw_g := gw (wt_3 (List.mem_of_getElem? (i := 43) rfl)) rfl
theorem wd_628 : Cond.methodLink RX11 119 yX11_forgetLevels ∈ lw_g := gw (wt_3 (List.mem_of_getElem? (i := 40) rfl)) rfl
theorem wd_630 : Cond.instanceMethod yX11_forgetLevels ∈ lw_g := gw (wt_3 (List.mem_of_getElem? (i := 42) rfl)) rfl
theorem wd_1 : Cond.selects RX11 yX11_forgetLevels yX11_forgetLevels ∈ lw_g := gw (wt_0 (List.mem_of_getElem? (i := 1) rfl)) rfl
theorem l_X11_119 : cV RX11 119 11 RX11 yX11_forgetLevels cX11_forgetLevels 1 (none) 0 := ⟨wd_628, wd_630, wd_1, wd_109, wd_631, by decide +kernel, TX11, _, rfl⟩
theorem wd_643 : Cond.code yX11_grant cX11_grant 2 (some .int) ∈ lw_g := gw (wt_3 (List.mem_of_getElem? (i := 55) rfl)) rfl
theorem wd_640 : Cond.methodLink RX11 122 yX11_grant ∈ lw_g := gw (wt_3 (List.mem_of_getElem? (i := 52) rfl)) rfl
theorem wd_642 : Cond.instanceMethod yX11_grant ∈ lw_g := gw (wt_3 (List.mem_of_getElem? (i := 54) rfl)) rfl
theorem wd_3 : Cond.selects RX11 yX11_grant yX11_grant ∈ lw_g := gw (wt_0 (List.mem_of_getElem? (i := 3) rfl)) rfl
theorem l_X11_122 : cV RX11 122 11 RX11 yX11_grant cX11_grant 2 (some .int) 1 := ⟨wd_640, wd_642, wd_3, wd_109, wd_643, by decide +kernel, TX11, _, rfl⟩
theorem wd_627 : Cond.code yX11_refuse cX11_refuse 3 (some .int) ∈ lw_g := gw (wt_3 (List.mem_of_getElem? (i := 39) rfl)) rfl
theorem wd_624 : Cond.methodLink RX11 112 yX11_refuse ∈ lw_g := gw (wt_3 (List.mem_of_getElem? (i := 36) rfl)) rfl
theorem wd_626 : Cond.instanceMethod yX11_refuse ∈ lw_g := gw (wt_3 (List.mem_of_getElem? (i := 38) rfl)) rfl
theorem wd_0 : Cond.selects RX11 yX11_refuse yX11_refuse ∈ lw_g := gw (wt_0 (List.mem_of_getElem? (i := 0) rfl)) rfl
theorem l_X11_112 : cV RX11 112 11 RX11 yX11_refuse cX11_refuse 3 (some .int) 1 := ⟨wd_624, wd_626, wd_0, wd_109, wd_627, by decide +kernel, TX11, _, rfl⟩
theorem wd_159 : Cond.fieldLink RX6 9 "SlackRace$State" "seas" "[I" ∈ lw_g := gw (wt_1 (List.mem_of_getElem? (i := 51) rfl)) rfl
theorem f_X6_9 : fF RX6 9 6 0 2 true := ⟨_, TX6, 19, tyX6, rfl, inX6, by decide, wd_159, rfl, tyX6_ok, nmX6, Or.inr (Or.inr (Or.inr ⟨rfl, Or.inr ⟨_, rfl⟩⟩)), rfl⟩
theorem n_30 {h : Hp} : nd h 30 106 19 := nd_of (by decide) rfl
theorem q_30_0 : rs 30 0 = some 31 := rfl
theorem q_1_0 : rs 1 0 = some 2 := rfl
theorem n_2 {h : Hp} : nd h 2 0 6 := nd_of (by decide) rfl
theorem wd_1306 : Cond.methodLink RX6 90 arraycopyName ∈ lw_g := gw (wt_5 (List.mem_of_getElem? (i := 238) rfl)) rfl
theorem wd_844 : Cond.native arraycopyName ∈ lw_g := gw (wt_4 (List.mem_of_getElem? (i := 16) rfl)) rfl
theorem wd_843 : Cond.static arraycopyName ∈ lw_g := gw (wt_4 (List.mem_of_getElem? (i := 15) rfl)) rfl
theorem wd_128 : Cond.initialized "java/lang/System" ∈ lw_g := gw (wt_1 (List.mem_of_getElem? (i := 20) rfl)) rfl
theorem wd_162 : Cond.fieldLink RX6 15 "SlackRace$State" "moons" "[I" ∈ lw_g := gw (wt_1 (List.mem_of_getElem? (i := 54) rfl)) rfl
theorem f_X6_15 : fF RX6 15 6 1 2 true := ⟨_, TX6, 19, tyX6, rfl, inX6, by decide, wd_162, rfl, tyX6_ok, nmX6, Or.inr (Or.inr (Or.inr ⟨rfl, Or.inr ⟨_, rfl⟩⟩)), rfl⟩
theorem q_30_1 : rs 30 1 = some 32 := rfl
theorem q_1_1 : rs 1 1 = some 3 := rfl
theorem n_3 {h : Hp} : nd h 3 0 24 := nd_of (by decide) rfl
theorem wd_166 : Cond.fieldLink RX6 26 "SlackRace$State" "terms" "[I" ∈ lw_g := gw (wt_1 (List.mem_of_getElem? (i := 58) rfl)) rfl
theorem f_X6_26 : fF RX6 26 6 2 2 true := ⟨_, TX6, 19, tyX6, rfl, inX6, by decide, wd_166, rfl, tyX6_ok, nmX6, Or.inr (Or.inr (Or.inr ⟨rfl, Or.inr ⟨_, rfl⟩⟩)), rfl⟩
theorem q_30_2 : rs 30 2 = some 33 := rfl
theorem q_1_2 : rs 1 2 = some 4 := rfl
theorem n_4 {h : Hp} : nd h 4 0 11 := nd_of (by decide) rfl
theorem wd_171 : Cond.fieldLink RX6 29 "SlackRace$State" "kinds" "[I" ∈ lw_g := gw (wt_1 (List.mem_of_getElem? (i := 63) rfl)) rfl
theorem f_X6_29 : fF RX6 29 6 3 2 true := ⟨_, TX6, 19, tyX6, rfl, inX6, by decide, wd_171, rfl, tyX6_ok, nmX6, Or.inr (Or.inr (Or.inr ⟨rfl, Or.inr ⟨_, rfl⟩⟩)), rfl⟩
theorem q_30_3 : rs 30 3 = some 34 := rfl
theorem q_1_3 : rs 1 3 = some 5 := rfl
theorem n_5 {h : Hp} : nd h 5 0 50 := nd_of (by decide) rfl
theorem wd_177 : Cond.fieldLink RX6 38 "SlackRace$State" "paces" "[I" ∈ lw_g := gw (wt_1 (List.mem_of_getElem? (i := 69) rfl)) rfl
theorem f_X6_38 : fF RX6 38 6 5 2 true := ⟨_, TX6, 19, tyX6, rfl, inX6, by decide, wd_177, rfl, tyX6_ok, nmX6, Or.inr (Or.inr (Or.inr ⟨rfl, Or.inr ⟨_, rfl⟩⟩)), rfl⟩
theorem q_30_5 : rs 30 5 = some 36 := rfl
theorem q_1_5 : rs 1 5 = some 7 := rfl
theorem n_7 {h : Hp} : nd h 7 0 6 := nd_of (by decide) rfl
theorem wd_180 : Cond.fieldLink RX6 41 "SlackRace$State" "bears" "[I" ∈ lw_g := gw (wt_1 (List.mem_of_getElem? (i := 72) rfl)) rfl
theorem f_X6_41 : fF RX6 41 6 6 2 true := ⟨_, TX6, 19, tyX6, rfl, inX6, by decide, wd_180, rfl, tyX6_ok, nmX6, Or.inr (Or.inr (Or.inr ⟨rfl, Or.inr ⟨_, rfl⟩⟩)), rfl⟩
theorem q_30_6 : rs 30 6 = some 37 := rfl
theorem q_1_6 : rs 1 6 = some 8 := rfl
theorem n_8 {h : Hp} : nd h 8 0 6 := nd_of (by decide) rfl
theorem wd_183 : Cond.fieldLink RX6 44 "SlackRace$State" "plan" "[I" ∈ lw_g := gw (wt_1 (List.mem_of_getElem? (i := 75) rfl)) rfl
theorem f_X6_44 : fF RX6 44 6 7 2 true := ⟨_, TX6, 19, tyX6, rfl, inX6, by decide, wd_183, rfl, tyX6_ok, nmX6, Or.inr (Or.inr (Or.inr ⟨rfl, Or.inr ⟨_, rfl⟩⟩)), rfl⟩
theorem q_30_7 : rs 30 7 = some 38 := rfl
theorem q_1_7 : rs 1 7 = some 9 := rfl
theorem n_9 {h : Hp} : nd h 9 0 40 := nd_of (by decide) rfl
theorem wd_186 : Cond.fieldLink RX6 47 "SlackRace$State" "readies" "[I" ∈ lw_g := gw (wt_1 (List.mem_of_getElem? (i := 78) rfl)) rfl
theorem f_X6_47 : fF RX6 47 6 8 2 true := ⟨_, TX6, 19, tyX6, rfl, inX6, by decide, wd_186, rfl, tyX6_ok, nmX6, Or.inr (Or.inr (Or.inr ⟨rfl, Or.inr ⟨_, rfl⟩⟩)), rfl⟩
theorem q_30_8 : rs 30 8 = some 39 := rfl
theorem q_1_8 : rs 1 8 = some 10 := rfl
theorem n_10 {h : Hp} : nd h 10 0 6 := nd_of (by decide) rfl
theorem wd_189 : Cond.fieldLink RX6 50 "SlackRace$State" "passes" "[I" ∈ lw_g := gw (wt_1 (List.mem_of_getElem? (i := 81) rfl)) rfl
theorem f_X6_50 : fF RX6 50 6 9 2 true := ⟨_, TX6, 19, tyX6, rfl, inX6, by decide, wd_189, rfl, tyX6_ok, nmX6, Or.inr (Or.inr (Or.inr ⟨rfl, Or.inr ⟨_, rfl⟩⟩)), rfl⟩
theorem q_30_9 : rs 30 9 = some 40 := rfl
theorem q_1_9 : rs 1 9 = some 11 := rfl
theorem n_11 {h : Hp} : nd h 11 0 6 := nd_of (by decide) rfl
theorem wd_192 : Cond.fieldLink RX6 53 "SlackRace$State" "limits" "[I" ∈ lw_g := gw (wt_1 (List.mem_of_getElem? (i := 84) rfl)) rfl
theorem f_X6_53 : fF RX6 53 6 10 2 true := ⟨_, TX6, 19, tyX6, rfl, inX6, by decide, wd_192, rfl, tyX6_ok, nmX6, Or.inr (Or.inr (Or.inr ⟨rfl, Or.inr ⟨_, rfl⟩⟩)), rfl⟩
theorem q_30_10 : rs 30 10 = some 41 := rfl
theorem q_1_10 : rs 1 10 = some 12 := rfl
theorem n_12 {h : Hp} : nd h 12 0 6 := nd_of (by decide) rfl
theorem wd_195 : Cond.fieldLink RX6 56 "SlackRace$State" "floatMinutes" "[I" ∈ lw_g := gw (wt_1 (List.mem_of_getElem? (i := 87) rfl)) rfl
theorem f_X6_56 : fF RX6 56 6 11 2 true := ⟨_, TX6, 19, tyX6, rfl, inX6, by decide, wd_195, rfl, tyX6_ok, nmX6, Or.inr (Or.inr (Or.inr ⟨rfl, Or.inr ⟨_, rfl⟩⟩)), rfl⟩
theorem q_30_11 : rs 30 11 = some 42 := rfl
theorem q_1_11 : rs 1 11 = some 13 := rfl
theorem n_13 {h : Hp} : nd h 13 0 12 := nd_of (by decide) rfl
theorem wd_198 : Cond.fieldLink RX6 59 "SlackRace$State" "floatLevels" "[I" ∈ lw_g := gw (wt_1 (List.mem_of_getElem? (i := 90) rfl)) rfl
theorem f_X6_59 : fF RX6 59 6 12 2 true := ⟨_, TX6, 19, tyX6, rfl, inX6, by decide, wd_198, rfl, tyX6_ok, nmX6, Or.inr (Or.inr (Or.inr ⟨rfl, Or.inr ⟨_, rfl⟩⟩)), rfl⟩
theorem q_30_12 : rs 30 12 = some 43 := rfl
theorem q_1_12 : rs 1 12 = some 14 := rfl
theorem n_14 {h : Hp} : nd h 14 0 12 := nd_of (by decide) rfl
theorem wd_201 : Cond.fieldLink RX6 62 "SlackRace$State" "lawCount" "I" ∈ lw_g := gw (wt_1 (List.mem_of_getElem? (i := 93) rfl)) rfl
theorem f_X6_62 : fF RX6 62 6 13 0 false := ⟨_, TX6, 19, tyX6, rfl, inX6, by decide, wd_201, rfl, tyX6_ok, nmX6, Or.inl ⟨rfl, rfl⟩, rfl⟩
theorem wd_203 : Cond.fieldLink RX6 66 "SlackRace$State" "inForce" "I" ∈ lw_g := gw (wt_1 (List.mem_of_getElem? (i := 95) rfl)) rfl
theorem f_X6_66 : fF RX6 66 6 14 0 false := ⟨_, TX6, 19, tyX6, rfl, inX6, by decide, wd_203, rfl, tyX6_ok, nmX6, Or.inl ⟨rfl, rfl⟩, rfl⟩
theorem wd_205 : Cond.fieldLink RX6 69 "SlackRace$State" "boatCount" "I" ∈ lw_g := gw (wt_1 (List.mem_of_getElem? (i := 97) rfl)) rfl
theorem f_X6_69 : fF RX6 69 6 15 0 false := ⟨_, TX6, 19, tyX6, rfl, inX6, by decide, wd_205, rfl, tyX6_ok, nmX6, Or.inl ⟨rfl, rfl⟩, rfl⟩
theorem wd_207 : Cond.fieldLink RX6 72 "SlackRace$State" "planLength" "I" ∈ lw_g := gw (wt_1 (List.mem_of_getElem? (i := 99) rfl)) rfl
theorem f_X6_72 : fF RX6 72 6 16 0 false := ⟨_, TX6, 19, tyX6, rfl, inX6, by decide, wd_207, rfl, tyX6_ok, nmX6, Or.inl ⟨rfl, rfl⟩, rfl⟩
theorem wd_210 : Cond.fieldLink RX6 75 "SlackRace$State" "shipCount" "I" ∈ lw_g := gw (wt_1 (List.mem_of_getElem? (i := 102) rfl)) rfl
theorem f_X6_75 : fF RX6 75 6 17 0 false := ⟨_, TX6, 19, tyX6, rfl, inX6, by decide, wd_210, rfl, tyX6_ok, nmX6, Or.inl ⟨rfl, rfl⟩, rfl⟩
theorem wd_213 : Cond.fieldLink RX6 78 "SlackRace$State" "floatCount" "I" ∈ lw_g := gw (wt_1 (List.mem_of_getElem? (i := 105) rfl)) rfl
theorem f_X6_78 : fF RX6 78 6 18 0 false := ⟨_, TX6, 19, tyX6, rfl, inX6, by decide, wd_213, rfl, tyX6_ok, nmX6, Or.inl ⟨rfl, rfl⟩, rfl⟩
theorem wd_175 : Cond.fieldLink RX6 34 "SlackRace$State" "laws" "[LSlackRace$Law;" ∈ lw_g := gw (wt_1 (List.mem_of_getElem? (i := 67) rfl)) rfl
theorem f_X6_34 : fF RX6 34 6 4 2 true := ⟨_, TX6, 19, tyX6, rfl, inX6, by decide, wd_175, rfl, tyX6_ok, nmX6, Or.inr (Or.inr (Or.inr ⟨rfl, Or.inr ⟨_, rfl⟩⟩)), rfl⟩
theorem q_1_4 : rs 1 4 = some 6 := rfl
theorem q_30_4 : rs 30 4 = some 35 := rfl
theorem n_35 {h : Hp} : nd h 35 11 6 := nd_of (by decide) rfl
theorem n_6 {h : Hp} : nd h 6 11 6 := nd_of (by decide) rfl
theorem wd_572 : Cond.fieldLink RX11 45 "SlackRace" "water" "LSlackRace$Water;" ∈ lw_g := gw (wt_2 (List.mem_of_getElem? (i := 224) rfl)) rfl
theorem f_X11_45 : fF RX11 45 11 5 2 true := ⟨_, TX11, 15, tyX11, rfl, inX11, by decide, wd_572, rfl, tyX11_ok, nmX11, Or.inr (Or.inr (Or.inr ⟨rfl, Or.inl ⟨_, rfl⟩⟩)), rfl⟩
theorem q_0_5 : rs 0 5 = some 50 := rfl
theorem wd_355 : Cond.fieldLink RX11 372 "SlackRace$Water" "tidesFresh" "Z" ∈ lw_g := gw (wt_2 (List.mem_of_getElem? (i := 7) rfl)) rfl
theorem f_X11_372 : fF RX11 372 9 9 3 false := ⟨_, TX9, 14, tyX9, rfl, inX9, by decide, wd_355, rfl, tyX9_ok, nmX9, Or.inr (Or.inl ⟨rfl, rfl⟩), rfl⟩
theorem n_50 {h : Hp} : nd h 50 109 14 := nd_of (by decide) rfl
theorem wd_635 : Cond.code yX11_forgetFlows cX11_forgetFlows 1 (none) ∈ lw_g := gw (wt_3 (List.mem_of_getElem? (i := 47) rfl)) rfl
theorem wd_632 : Cond.methodLink RX11 151 yX11_forgetFlows ∈ lw_g := gw (wt_3 (List.mem_of_getElem? (i := 44) rfl)) rfl
theorem wd_634 : Cond.instanceMethod yX11_forgetFlows ∈ lw_g := gw (wt_3 (List.mem_of_getElem? (i := 46) rfl)) rfl
theorem wd_2 : Cond.selects RX11 yX11_forgetFlows yX11_forgetFlows ∈ lw_g := gw (wt_0 (List.mem_of_getElem? (i := 2) rfl)) rfl
theorem l_X11_151 : cV RX11 151 11 RX11 yX11_forgetFlows cX11_forgetFlows 1 (none) 0 := ⟨wd_632, wd_634, wd_2, wd_109, wd_635, by decide +kernel, TX11, _, rfl⟩
theorem wd_114 : Cond.initialized RX9 ∈ lw_g := gw (wt_1 (List.mem_of_getElem? (i := 6) rfl)) rfl
theorem wd_639 : Cond.code yX9_forgetFlows cX9_forgetFlows 1 (none) ∈ lw_g := gw (wt_3 (List.mem_of_getElem? (i := 51) rfl)) rfl
theorem wd_636 : Cond.methodLink RX11 375 yX9_forgetFlows ∈ lw_g := gw (wt_3 (List.mem_of_getElem? (i := 48) rfl)) rfl
theorem wd_637 : Cond.instanceMethod yX9_forgetFlows ∈ lw_g := gw (wt_3 (List.mem_of_getElem? (i := 49) rfl)) rfl
theorem wd_638 : Cond.selects RX9 yX9_forgetFlows yX9_forgetFlows ∈ lw_g := gw (wt_3 (List.mem_of_getElem? (i := 50) rfl)) rfl
theorem l_X11_375 : cV RX11 375 9 RX9 yX9_forgetFlows cX9_forgetFlows 1 (none) 0 := ⟨wd_636, wd_637, wd_638, wd_114, wd_639, by decide +kernel, TX9, _, rfl⟩
theorem wd_573 : Cond.fieldLink RX11 54 "SlackRace" "ways" "LSlackRace$Ways;" ∈ lw_g := gw (wt_2 (List.mem_of_getElem? (i := 225) rfl)) rfl
theorem f_X11_54 : fF RX11 54 11 6 2 true := ⟨_, TX11, 15, tyX11, rfl, inX11, by decide, wd_573, rfl, tyX11_ok, nmX11, Or.inr (Or.inr (Or.inr ⟨rfl, Or.inl ⟨_, rfl⟩⟩)), rfl⟩
theorem q_0_6 : rs 0 6 = some 58 := rfl
theorem wd_409 : Cond.fieldLink RX11 376 "SlackRace$Ways" "stepsFresh" "Z" ∈ lw_g := gw (wt_2 (List.mem_of_getElem? (i := 61) rfl)) rfl
theorem f_X11_376 : fF RX11 376 10 12 3 false := ⟨_, TX10, 13, tyX10, rfl, inX10, by decide, wd_409, rfl, tyX10_ok, nmX10, Or.inr (Or.inl ⟨rfl, rfl⟩), rfl⟩
theorem n_58 {h : Hp} : nd h 58 110 13 := nd_of (by decide) rfl
theorem wd_574 : Cond.fieldLink RX11 61 "SlackRace" "locks" "LSlackRace$Locks;" ∈ lw_g := gw (wt_2 (List.mem_of_getElem? (i := 226) rfl)) rfl
theorem f_X11_61 : fF RX11 61 11 7 2 true := ⟨_, TX11, 15, tyX11, rfl, inX11, by decide, wd_574, rfl, tyX11_ok, nmX11, Or.inr (Or.inr (Or.inr ⟨rfl, Or.inl ⟨_, rfl⟩⟩)), rfl⟩
theorem q_0_7 : rs 0 7 = some 69 := rfl
theorem wd_455 : Cond.fieldLink RX11 285 "SlackRace$Locks" "fresh" "Z" ∈ lw_g := gw (wt_2 (List.mem_of_getElem? (i := 107) rfl)) rfl
theorem f_X11_285 : fF RX11 285 2 8 3 false := ⟨_, TX2, 9, tyX2, rfl, inX2, by decide, wd_455, rfl, tyX2_ok, nmX2, Or.inr (Or.inl ⟨rfl, rfl⟩), rfl⟩
theorem n_69 {h : Hp} : nd h 69 102 9 := nd_of (by decide) rfl
theorem wd_575 : Cond.fieldLink RX11 68 "SlackRace" "soundings" "LSlackRace$Soundings;" ∈ lw_g := gw (wt_2 (List.mem_of_getElem? (i := 227) rfl)) rfl
theorem f_X11_68 : fF RX11 68 11 8 2 true := ⟨_, TX11, 15, tyX11, rfl, inX11, by decide, wd_575, rfl, tyX11_ok, nmX11, Or.inr (Or.inr (Or.inr ⟨rfl, Or.inl ⟨_, rfl⟩⟩)), rfl⟩
theorem q_0_8 : rs 0 8 = some 74 := rfl
theorem wd_487 : Cond.fieldLink RX11 326 "SlackRace$Soundings" "ofMoon" "I" ∈ lw_g := gw (wt_2 (List.mem_of_getElem? (i := 139) rfl)) rfl
theorem f_X11_326 : fF RX11 326 5 5 0 false := ⟨_, TX5, 12, tyX5, rfl, inX5, by decide, wd_487, rfl, tyX5_ok, nmX5, Or.inl ⟨rfl, rfl⟩, rfl⟩
theorem n_74 {h : Hp} : nd h 74 105 12 := nd_of (by decide) rfl
theorem wd_576 : Cond.fieldLink RX11 77 "SlackRace" "rule" "LSlackRace$Rule;" ∈ lw_g := gw (wt_2 (List.mem_of_getElem? (i := 228) rfl)) rfl
theorem f_X11_77 : fF RX11 77 11 9 2 true := ⟨_, TX11, 15, tyX11, rfl, inX11, by decide, wd_576, rfl, tyX11_ok, nmX11, Or.inr (Or.inr (Or.inr ⟨rfl, Or.inl ⟨_, rfl⟩⟩)), rfl⟩
theorem q_0_9 : rs 0 9 = some 78 := rfl
theorem wd_536 : Cond.fieldLink RX11 379 "SlackRace$Rule" "fresh" "Z" ∈ lw_g := gw (wt_2 (List.mem_of_getElem? (i := 188) rfl)) rfl
theorem f_X11_379 : fF RX11 379 4 4 3 false := ⟨_, TX4, 5, tyX4, rfl, inX4, by decide, wd_536, rfl, tyX4_ok, nmX4, Or.inr (Or.inl ⟨rfl, rfl⟩), rfl⟩
theorem n_78 {h : Hp} : nd h 78 104 5 := nd_of (by decide) rfl
theorem wd_356 : Cond.fieldLink RX9 45 "SlackRace$Water" "todayFresh" "Z" ∈ lw_g := gw (wt_2 (List.mem_of_getElem? (i := 8) rfl)) rfl
theorem f_X9_45 : fF RX9 45 9 10 3 false := ⟨_, TX9, 14, tyX9, rfl, inX9, by decide, wd_356, rfl, tyX9_ok, nmX9, Or.inr (Or.inl ⟨rfl, rfl⟩), rfl⟩
theorem wd_357 : Cond.fieldLink RX9 48 "SlackRace$Water" "calmFresh" "Z" ∈ lw_g := gw (wt_2 (List.mem_of_getElem? (i := 9) rfl)) rfl
theorem f_X9_48 : fF RX9 48 9 11 3 false := ⟨_, TX9, 14, tyX9, rfl, inX9, by decide, wd_357, rfl, tyX9_ok, nmX9, Or.inr (Or.inl ⟨rfl, rfl⟩), rfl⟩
theorem wd_358 : Cond.fieldLink RX9 51 "SlackRace$Water" "drivenBy" "I" ∈ lw_g := gw (wt_2 (List.mem_of_getElem? (i := 10) rfl)) rfl
theorem f_X9_51 : fF RX9 51 9 12 0 false := ⟨_, TX9, 14, tyX9, rfl, inX9, by decide, wd_358, rfl, tyX9_ok, nmX9, Or.inl ⟨rfl, rfl⟩, rfl⟩
theorem wd_359 : Cond.fieldLink RX9 55 "SlackRace$Water" "best" "I" ∈ lw_g := gw (wt_2 (List.mem_of_getElem? (i := 11) rfl)) rfl
theorem f_X9_55 : fF RX9 55 9 13 0 false := ⟨_, TX9, 14, tyX9, rfl, inX9, by decide, wd_359, rfl, tyX9_ok, nmX9, Or.inl ⟨rfl, rfl⟩, rfl⟩
theorem wd_344 : Cond.fieldLink RX9 25 "SlackRace$Water" "takenByNumber" "[J" ∈ lw_g := gw (wt_1 (List.mem_of_getElem? (i := 236) rfl)) rfl
theorem f_X9_25 : fF RX9 25 9 4 2 true := ⟨_, TX9, 14, tyX9, rfl, inX9, by decide, wd_344, rfl, tyX9_ok, nmX9, Or.inr (Or.inr (Or.inr ⟨rfl, Or.inr ⟨_, rfl⟩⟩)), rfl⟩
theorem q_50_4 : rs 50 4 = some 56 := rfl
theorem wd_336 : Cond.constantLong RX9 62 (-1) ∈ lw_g := gw (wt_1 (List.mem_of_getElem? (i := 228) rfl)) rfl
theorem wd_111 : Cond.initialized RJ7 ∈ lw_g := gw (wt_1 (List.mem_of_getElem? (i := 3) rfl)) rfl
theorem wd_339 : Cond.code yJ7_fill_d0a16 cJ7_fill_d0a16 5 (none) ∈ lw_g := gw (wt_1 (List.mem_of_getElem? (i := 231) rfl)) rfl
theorem wd_338 : Cond.static yJ7_fill_d0a16 ∈ lw_g := gw (wt_1 (List.mem_of_getElem? (i := 230) rfl)) rfl
theorem wd_337 : Cond.methodLink RX9 64 yJ7_fill_d0a16 ∈ lw_g := gw (wt_1 (List.mem_of_getElem? (i := 229) rfl)) rfl
theorem l_X9_64 : cS RX9 64 yJ7_fill_d0a16 cJ7_fill_d0a16 5 (none) 2 := ⟨wd_337, wd_338, wd_111, wd_339, by decide +kernel⟩
theorem n_16 {h : Hp} : nd h 16 106 19 := nd_of (by decide) rfl
theorem q_16_0 : rs 16 0 = some 17 := rfl
theorem q_16_1 : rs 16 1 = some 18 := rfl
theorem q_16_2 : rs 16 2 = some 19 := rfl
theorem q_16_3 : rs 16 3 = some 20 := rfl
theorem q_16_5 : rs 16 5 = some 22 := rfl
theorem q_16_6 : rs 16 6 = some 23 := rfl
theorem q_16_7 : rs 16 7 = some 24 := rfl
theorem q_16_8 : rs 16 8 = some 25 := rfl
theorem q_16_9 : rs 16 9 = some 26 := rfl
theorem q_16_10 : rs 16 10 = some 27 := rfl
theorem q_16_11 : rs 16 11 = some 28 := rfl
theorem q_16_12 : rs 16 12 = some 29 := rfl
theorem q_16_4 : rs 16 4 = some 21 := rfl
theorem n_21 {h : Hp} : nd h 21 11 6 := nd_of (by decide) rfl
theorem n_31 {h : Hp} : nd h 31 0 6 := nd_of (by decide) rfl
theorem n_32 {h : Hp} : nd h 32 0 24 := nd_of (by decide) rfl
theorem n_33 {h : Hp} : nd h 33 0 11 := nd_of (by decide) rfl
theorem n_34 {h : Hp} : nd h 34 0 50 := nd_of (by decide) rfl
theorem n_36 {h : Hp} : nd h 36 0 6 := nd_of (by decide) rfl
theorem n_37 {h : Hp} : nd h 37 0 6 := nd_of (by decide) rfl
theorem n_38 {h : Hp} : nd h 38 0 40 := nd_of (by decide) rfl
theorem n_39 {h : Hp} : nd h 39 0 6 := nd_of (by decide) rfl
theorem n_40 {h : Hp} : nd h 40 0 6 := nd_of (by decide) rfl
theorem n_41 {h : Hp} : nd h 41 0 6 := nd_of (by decide) rfl
theorem n_42 {h : Hp} : nd h 42 0 12 := nd_of (by decide) rfl
theorem n_43 {h : Hp} : nd h 43 0 12 := nd_of (by decide) rfl
theorem n_17 {h : Hp} : nd h 17 0 6 := nd_of (by decide) rfl
theorem n_18 {h : Hp} : nd h 18 0 24 := nd_of (by decide) rfl
theorem n_19 {h : Hp} : nd h 19 0 11 := nd_of (by decide) rfl
theorem n_20 {h : Hp} : nd h 20 0 50 := nd_of (by decide) rfl
theorem n_22 {h : Hp} : nd h 22 0 6 := nd_of (by decide) rfl
theorem n_23 {h : Hp} : nd h 23 0 6 := nd_of (by decide) rfl
theorem n_24 {h : Hp} : nd h 24 0 40 := nd_of (by decide) rfl
theorem n_25 {h : Hp} : nd h 25 0 6 := nd_of (by decide) rfl
theorem n_26 {h : Hp} : nd h 26 0 6 := nd_of (by decide) rfl
theorem n_27 {h : Hp} : nd h 27 0 6 := nd_of (by decide) rfl
theorem n_28 {h : Hp} : nd h 28 0 12 := nd_of (by decide) rfl
theorem n_29 {h : Hp} : nd h 29 0 12 := nd_of (by decide) rfl
theorem wd_353 : Cond.fieldLink RX11 366 "SlackRace$Water" "drawnDay" "[I" ∈ lw_g := gw (wt_2 (List.mem_of_getElem? (i := 5) rfl)) rfl
theorem f_X11_366 : fF RX11 366 9 8 2 false := ⟨_, TX9, 14, tyX9, rfl, inX9, by decide, wd_353, rfl, tyX9_ok, nmX9, Or.inr (Or.inr (Or.inr ⟨rfl, Or.inr ⟨_, rfl⟩⟩)), rfl⟩
theorem q_50_8 : rs 50 8 = none := rfl
theorem wd_873 : Cond.code yX11_isMinute cX11_isMinute 1 (some .boolean) ∈ lw_g := gw (wt_4 (List.mem_of_getElem? (i := 45) rfl)) rfl
theorem wd_872 : Cond.static yX11_isMinute ∈ lw_g := gw (wt_4 (List.mem_of_getElem? (i := 44) rfl)) rfl
theorem wd_871 : Cond.methodLink RX11 184 yX11_isMinute ∈ lw_g := gw (wt_4 (List.mem_of_getElem? (i := 43) rfl)) rfl
theorem l_X11_184 : cS RX11 184 yX11_isMinute cX11_isMinute 1 (some .boolean) 1 := ⟨wd_871, wd_872, wd_109, wd_873, by decide +kernel⟩
theorem wd_874 : Cond.constant RX11 187 (-100000) ∈ lw_g := gw (wt_4 (List.mem_of_getElem? (i := 46) rfl)) rfl
theorem wd_1288 : Cond.constant RX11 362 (1000000) ∈ lw_g := gw (wt_5 (List.mem_of_getElem? (i := 220) rfl)) rfl
theorem wd_1292 : Cond.code yX9_drawDay cX9_drawDay 4 (none) ∈ lw_g := gw (wt_5 (List.mem_of_getElem? (i := 224) rfl)) rfl
theorem wd_1289 : Cond.methodLink RX11 363 yX9_drawDay ∈ lw_g := gw (wt_5 (List.mem_of_getElem? (i := 221) rfl)) rfl
theorem wd_1290 : Cond.instanceMethod yX9_drawDay ∈ lw_g := gw (wt_5 (List.mem_of_getElem? (i := 222) rfl)) rfl
theorem wd_1291 : Cond.selects RX9 yX9_drawDay yX9_drawDay ∈ lw_g := gw (wt_5 (List.mem_of_getElem? (i := 223) rfl)) rfl
theorem l_X11_363 : cV RX11 363 9 RX9 yX9_drawDay cX9_drawDay 4 (none) 1 := ⟨wd_1289, wd_1290, wd_1291, wd_114, wd_1292, by decide +kernel, TX9, _, rfl⟩
theorem wd_975 : Cond.code yX9_slacksOf cX9_slacksOf 4 (some .int) ∈ lw_g := gw (wt_4 (List.mem_of_getElem? (i := 147) rfl)) rfl
theorem wd_972 : Cond.methodLink RX11 209 yX9_slacksOf ∈ lw_g := gw (wt_4 (List.mem_of_getElem? (i := 144) rfl)) rfl
theorem wd_973 : Cond.instanceMethod yX9_slacksOf ∈ lw_g := gw (wt_4 (List.mem_of_getElem? (i := 145) rfl)) rfl
theorem wd_974 : Cond.selects RX9 yX9_slacksOf yX9_slacksOf ∈ lw_g := gw (wt_4 (List.mem_of_getElem? (i := 146) rfl)) rfl
theorem l_X11_209 : cV RX11 209 9 RX9 yX9_slacksOf cX9_slacksOf 4 (some .int) 1 := ⟨wd_972, wd_973, wd_974, wd_114, wd_975, by decide +kernel, TX9, _, rfl⟩
theorem wd_979 : Cond.code yX9_beginsSlack cX9_beginsSlack 3 (some .boolean) ∈ lw_g := gw (wt_4 (List.mem_of_getElem? (i := 151) rfl)) rfl
theorem wd_976 : Cond.methodLink RX9 161 yX9_beginsSlack ∈ lw_g := gw (wt_4 (List.mem_of_getElem? (i := 148) rfl)) rfl
theorem wd_978 : Cond.instanceMethod yX9_beginsSlack ∈ lw_g := gw (wt_4 (List.mem_of_getElem? (i := 150) rfl)) rfl
theorem wd_29 : Cond.selects RX9 yX9_beginsSlack yX9_beginsSlack ∈ lw_g := gw (wt_0 (List.mem_of_getElem? (i := 29) rfl)) rfl
theorem l_X9_161 : cV RX9 161 9 RX9 yX9_beginsSlack cX9_beginsSlack 3 (some .boolean) 2 := ⟨wd_976, wd_978, wd_29, wd_114, wd_979, by decide +kernel, TX9, _, rfl⟩
theorem wd_983 : Cond.code yX9_isStill cX9_isStill 2 (some .boolean) ∈ lw_g := gw (wt_4 (List.mem_of_getElem? (i := 155) rfl)) rfl
theorem wd_980 : Cond.methodLink RX9 165 yX9_isStill ∈ lw_g := gw (wt_4 (List.mem_of_getElem? (i := 152) rfl)) rfl
theorem wd_982 : Cond.instanceMethod yX9_isStill ∈ lw_g := gw (wt_4 (List.mem_of_getElem? (i := 154) rfl)) rfl
theorem wd_30 : Cond.selects RX9 yX9_isStill yX9_isStill ∈ lw_g := gw (wt_0 (List.mem_of_getElem? (i := 30) rfl)) rfl
theorem l_X9_165 : cV RX9 165 9 RX9 yX9_isStill cX9_isStill 2 (some .boolean) 1 := ⟨wd_980, wd_982, wd_30, wd_114, wd_983, by decide +kernel, TX9, _, rfl⟩
theorem wd_941 : Cond.methodLink RX9 112 Lib.Math.abs.name ∈ lw_g := gw (wt_4 (List.mem_of_getElem? (i := 113) rfl)) rfl
theorem wd_942 : Cond.static Lib.Math.abs.name ∈ lw_g := gw (wt_4 (List.mem_of_getElem? (i := 114) rfl)) rfl
theorem wd_126 : Cond.initialized "java/lang/Math" ∈ lw_g := gw (wt_1 (List.mem_of_getElem? (i := 18) rfl)) rfl
theorem wd_943 : Cond.code Lib.Math.abs.name Lib.Math.abs.code 1 (some .int) ∈ lw_g := gw (wt_4 (List.mem_of_getElem? (i := 115) rfl)) rfl
theorem wd_340 : Cond.fieldLink RX9 58 "SlackRace$Water" "state" "LSlackRace$State;" ∈ lw_g := gw (wt_1 (List.mem_of_getElem? (i := 232) rfl)) rfl
theorem f_X9_58 : fF RX9 58 9 0 2 true := ⟨_, TX9, 14, tyX9, rfl, inX9, by decide, wd_340, rfl, tyX9_ok, nmX9, Or.inr (Or.inr (Or.inr ⟨rfl, Or.inl ⟨_, rfl⟩⟩)), rfl⟩
theorem q_50_0 : rs 50 0 = some 1 := rfl
theorem wd_170 : Cond.fieldLink RX9 90 "SlackRace$State" "terms" "[I" ∈ lw_g := gw (wt_1 (List.mem_of_getElem? (i := 62) rfl)) rfl
theorem f_X9_90 : fF RX9 90 6 2 2 true := ⟨_, TX6, 19, tyX6, rfl, inX6, by decide, wd_170, rfl, tyX6_ok, nmX6, Or.inr (Or.inr (Or.inr ⟨rfl, Or.inr ⟨_, rfl⟩⟩)), rfl⟩
theorem wd_352 : Cond.fieldLink RX9 38 "SlackRace$Water" "drawnDay" "[I" ∈ lw_g := gw (wt_2 (List.mem_of_getElem? (i := 4) rfl)) rfl
theorem f_X9_38 : fF RX9 38 9 8 2 false := ⟨_, TX9, 14, tyX9, rfl, inX9, by decide, wd_352, rfl, tyX9_ok, nmX9, Or.inr (Or.inr (Or.inr ⟨rfl, Or.inr ⟨_, rfl⟩⟩)), rfl⟩
theorem wd_1006 : Cond.code yX9_made cX9_made 1 (some (.array .int)) ∈ lw_g := gw (wt_4 (List.mem_of_getElem? (i := 178) rfl)) rfl
theorem wd_1005 : Cond.static yX9_made ∈ lw_g := gw (wt_4 (List.mem_of_getElem? (i := 177) rfl)) rfl
theorem wd_1004 : Cond.methodLink RX9 104 yX9_made ∈ lw_g := gw (wt_4 (List.mem_of_getElem? (i := 176) rfl)) rfl
theorem l_X9_104 : cS RX9 104 yX9_made cX9_made 1 (some (.array .int)) 1 := ⟨wd_1004, wd_1005, wd_114, wd_1006, by decide +kernel⟩
theorem wd_907 : Cond.code yX9_run cX9_run 6 (none) ∈ lw_g := gw (wt_4 (List.mem_of_getElem? (i := 79) rfl)) rfl
theorem wd_904 : Cond.methodLink RX9 100 yX9_run ∈ lw_g := gw (wt_4 (List.mem_of_getElem? (i := 76) rfl)) rfl
theorem wd_906 : Cond.instanceMethod yX9_run ∈ lw_g := gw (wt_4 (List.mem_of_getElem? (i := 78) rfl)) rfl
theorem wd_25 : Cond.selects RX9 yX9_run yX9_run ∈ lw_g := gw (wt_0 (List.mem_of_getElem? (i := 25) rfl)) rfl
theorem l_X9_100 : cV RX9 100 9 RX9 yX9_run cX9_run 6 (none) 3 := ⟨wd_904, wd_906, wd_25, wd_114, wd_907, by decide +kernel, TX9, _, rfl⟩
theorem wd_1293 : Cond.constant RX9 120 (1000003) ∈ lw_g := gw (wt_5 (List.mem_of_getElem? (i := 225) rfl)) rfl
theorem wd_343 : Cond.fieldLink RX9 22 "SlackRace$Water" "winds" "[I" ∈ lw_g := gw (wt_1 (List.mem_of_getElem? (i := 235) rfl)) rfl
theorem f_X9_22 : fF RX9 22 9 3 2 true := ⟨_, TX9, 14, tyX9, rfl, inX9, by decide, wd_343, rfl, tyX9_ok, nmX9, Or.inr (Or.inr (Or.inr ⟨rfl, Or.inr ⟨_, rfl⟩⟩)), rfl⟩
theorem q_50_3 : rs 50 3 = some 55 := rfl
theorem n_55 {h : Hp} : nd h 55 0 24 := nd_of (by decide) rfl
theorem wd_878 : Cond.code yX9_freshenTides cX9_freshenTides 4 (none) ∈ lw_g := gw (wt_4 (List.mem_of_getElem? (i := 50) rfl)) rfl
theorem wd_908 : Cond.methodLink RX9 121 yX9_freshenTides ∈ lw_g := gw (wt_4 (List.mem_of_getElem? (i := 80) rfl)) rfl
theorem wd_876 : Cond.instanceMethod yX9_freshenTides ∈ lw_g := gw (wt_4 (List.mem_of_getElem? (i := 48) rfl)) rfl
theorem wd_877 : Cond.selects RX9 yX9_freshenTides yX9_freshenTides ∈ lw_g := gw (wt_4 (List.mem_of_getElem? (i := 49) rfl)) rfl
theorem l_X9_121 : cV RX9 121 9 RX9 yX9_freshenTides cX9_freshenTides 4 (none) 0 := ⟨wd_908, wd_876, wd_877, wd_114, wd_878, by decide +kernel, TX9, _, rfl⟩
theorem wd_912 : Cond.code yX9_gain cX9_gain 14 (some .int) ∈ lw_g := gw (wt_4 (List.mem_of_getElem? (i := 84) rfl)) rfl
theorem wd_909 : Cond.methodLink RX9 124 yX9_gain ∈ lw_g := gw (wt_4 (List.mem_of_getElem? (i := 81) rfl)) rfl
theorem wd_911 : Cond.instanceMethod yX9_gain ∈ lw_g := gw (wt_4 (List.mem_of_getElem? (i := 83) rfl)) rfl
theorem wd_26 : Cond.selects RX9 yX9_gain yX9_gain ∈ lw_g := gw (wt_0 (List.mem_of_getElem? (i := 26) rfl)) rfl
theorem l_X9_124 : cV RX9 124 9 RX9 yX9_gain cX9_gain 14 (some .int) 4 := ⟨wd_909, wd_911, wd_26, wd_114, wd_912, by decide +kernel, TX9, _, rfl⟩
theorem wd_940 : Cond.code yX11_nearest cX11_nearest 3 (some .int) ∈ lw_g := gw (wt_4 (List.mem_of_getElem? (i := 112) rfl)) rfl
theorem wd_939 : Cond.static yX11_nearest ∈ lw_g := gw (wt_4 (List.mem_of_getElem? (i := 111) rfl)) rfl
theorem l_X9_127 : cN RX9 127 "SlackRace" yX11_nearest cX11_nearest 3 (some .int) 3 := ⟨List.mem_of_getElem? (i := 6) (by decide +kernel), wd_939, wd_109, wd_940, by decide +kernel⟩
theorem wd_894 : Cond.code yX9_levelIn cX9_levelIn 5 (some .int) ∈ lw_g := gw (wt_4 (List.mem_of_getElem? (i := 66) rfl)) rfl
theorem wd_891 : Cond.methodLink RX9 93 yX9_levelIn ∈ lw_g := gw (wt_4 (List.mem_of_getElem? (i := 63) rfl)) rfl
theorem wd_893 : Cond.instanceMethod yX9_levelIn ∈ lw_g := gw (wt_4 (List.mem_of_getElem? (i := 65) rfl)) rfl
theorem wd_24 : Cond.selects RX9 yX9_levelIn yX9_levelIn ∈ lw_g := gw (wt_0 (List.mem_of_getElem? (i := 24) rfl)) rfl
theorem l_X9_93 : cV RX9 93 9 RX9 yX9_levelIn cX9_levelIn 5 (some .int) 4 := ⟨wd_891, wd_893, wd_24, wd_114, wd_894, by decide +kernel, TX9, _, rfl⟩
theorem wd_916 : Cond.code yX6_lawInForce cX6_lawInForce 1 (some (.object "SlackRace$Law")) ∈ lw_g := gw (wt_4 (List.mem_of_getElem? (i := 88) rfl)) rfl
theorem wd_913 : Cond.methodLink RX9 130 yX6_lawInForce ∈ lw_g := gw (wt_4 (List.mem_of_getElem? (i := 85) rfl)) rfl
theorem wd_914 : Cond.instanceMethod yX6_lawInForce ∈ lw_g := gw (wt_4 (List.mem_of_getElem? (i := 86) rfl)) rfl
theorem wd_915 : Cond.selects RX6 yX6_lawInForce yX6_lawInForce ∈ lw_g := gw (wt_4 (List.mem_of_getElem? (i := 87) rfl)) rfl
theorem l_X9_130 : cV RX9 130 6 RX6 yX6_lawInForce cX6_lawInForce 1 (some (.object "SlackRace$Law")) 0 := ⟨wd_913, wd_914, wd_915, wd_110, wd_916, by decide +kernel, TX6, _, rfl⟩
theorem wd_341 : Cond.fieldLink RX9 12 "SlackRace$Water" "teller" "LSlackRace$Teller;" ∈ lw_g := gw (wt_1 (List.mem_of_getElem? (i := 233) rfl)) rfl
theorem f_X9_12 : fF RX9 12 9 1 2 true := ⟨_, TX9, 14, tyX9, rfl, inX9, by decide, wd_341, rfl, tyX9_ok, nmX9, Or.inr (Or.inr (Or.inr ⟨rfl, Or.inl ⟨_, rfl⟩⟩)), rfl⟩
theorem q_50_1 : rs 50 1 = some 51 := rfl
theorem wd_115 : Cond.initialized RX8 ∈ lw_g := gw (wt_1 (List.mem_of_getElem? (i := 7) rfl)) rfl
theorem wd_920 : Cond.code yX8_hear cX8_hear 8 (none) ∈ lw_g := gw (wt_4 (List.mem_of_getElem? (i := 92) rfl)) rfl
theorem wd_917 : Cond.methodLink RX9 134 yX8_hear ∈ lw_g := gw (wt_4 (List.mem_of_getElem? (i := 89) rfl)) rfl
theorem wd_918 : Cond.instanceMethod yX8_hear ∈ lw_g := gw (wt_4 (List.mem_of_getElem? (i := 90) rfl)) rfl
theorem wd_919 : Cond.selects RX8 yX8_hear yX8_hear ∈ lw_g := gw (wt_4 (List.mem_of_getElem? (i := 91) rfl)) rfl
theorem l_X9_134 : cV RX9 134 8 RX8 yX8_hear cX8_hear 8 (none) 7 := ⟨wd_917, wd_918, wd_919, wd_115, wd_920, by decide +kernel, TX8, _, rfl⟩
theorem n_51 {h : Hp} : nd h 51 108 3 := nd_of (by decide) rfl
theorem wd_924 : Cond.code yX8_tellsBy cX8_tellsBy 8 (some .boolean) ∈ lw_g := gw (wt_4 (List.mem_of_getElem? (i := 96) rfl)) rfl
theorem wd_921 : Cond.methodLink RX9 140 yX8_tellsBy ∈ lw_g := gw (wt_4 (List.mem_of_getElem? (i := 93) rfl)) rfl
theorem wd_922 : Cond.instanceMethod yX8_tellsBy ∈ lw_g := gw (wt_4 (List.mem_of_getElem? (i := 94) rfl)) rfl
theorem wd_923 : Cond.selects RX8 yX8_tellsBy yX8_tellsBy ∈ lw_g := gw (wt_4 (List.mem_of_getElem? (i := 95) rfl)) rfl
theorem l_X9_140 : cV RX9 140 8 RX8 yX8_tellsBy cX8_tellsBy 8 (some .boolean) 2 := ⟨wd_921, wd_922, wd_923, wd_115, wd_924, by decide +kernel, TX8, _, rfl⟩
theorem wd_328 : Cond.fieldLink RX9 144 "SlackRace$Teller" "told" "I" ∈ lw_g := gw (wt_1 (List.mem_of_getElem? (i := 220) rfl)) rfl
theorem f_X9_144 : fF RX9 144 8 2 0 false := ⟨_, TX8, 3, tyX8, rfl, inX8, by decide, wd_328, rfl, tyX8_ok, nmX8, Or.inl ⟨rfl, rfl⟩, rfl⟩
theorem wd_944 : Cond.constantLong RX9 147 (1000) ∈ lw_g := gw (wt_4 (List.mem_of_getElem? (i := 116) rfl)) rfl
theorem wd_945 : Cond.methodLink RX9 149 Lib.Math.max.name ∈ lw_g := gw (wt_4 (List.mem_of_getElem? (i := 117) rfl)) rfl
theorem wd_936 : Cond.static Lib.Math.max.name ∈ lw_g := gw (wt_4 (List.mem_of_getElem? (i := 108) rfl)) rfl
theorem wd_937 : Cond.code Lib.Math.max.name Lib.Math.max.code 2 (some .int) ∈ lw_g := gw (wt_4 (List.mem_of_getElem? (i := 109) rfl)) rfl
theorem wd_852 : Cond.fieldLink RX8 20 "SlackRace$Law" "clauses" "[I" ∈ lw_g := gw (wt_4 (List.mem_of_getElem? (i := 24) rfl)) rfl
theorem f_X8_20 : fF RX8 20 1 1 2 true := ⟨_, TX1, 2, tyX1, rfl, inX1, by decide, wd_852, rfl, tyX1_ok, nmX1, Or.inr (Or.inr (Or.inr ⟨rfl, Or.inr ⟨_, rfl⟩⟩)), rfl⟩
theorem wd_850 : Cond.fieldLink RX8 25 "SlackRace$Law" "code" "[I" ∈ lw_g := gw (wt_4 (List.mem_of_getElem? (i := 22) rfl)) rfl
theorem f_X8_25 : fF RX8 25 1 0 2 true := ⟨_, TX1, 2, tyX1, rfl, inX1, by decide, wd_850, rfl, tyX1_ok, nmX1, Or.inr (Or.inr (Or.inr ⟨rfl, Or.inr ⟨_, rfl⟩⟩)), rfl⟩
theorem wd_928 : Cond.code yX8_worksOut cX8_worksOut 8 (some .boolean) ∈ lw_g := gw (wt_4 (List.mem_of_getElem? (i := 100) rfl)) rfl
theorem wd_925 : Cond.methodLink RX8 28 yX8_worksOut ∈ lw_g := gw (wt_4 (List.mem_of_getElem? (i := 97) rfl)) rfl
theorem wd_927 : Cond.instanceMethod yX8_worksOut ∈ lw_g := gw (wt_4 (List.mem_of_getElem? (i := 99) rfl)) rfl
theorem wd_27 : Cond.selects RX8 yX8_worksOut yX8_worksOut ∈ lw_g := gw (wt_0 (List.mem_of_getElem? (i := 27) rfl)) rfl
theorem l_X8_28 : cV RX8 28 8 RX8 yX8_worksOut cX8_worksOut 8 (some .boolean) 3 := ⟨wd_925, wd_927, wd_27, wd_115, wd_928, by decide +kernel, TX8, _, rfl⟩
theorem wd_326 : Cond.fieldLink RX8 13 "SlackRace$Teller" "stack" "[I" ∈ lw_g := gw (wt_1 (List.mem_of_getElem? (i := 218) rfl)) rfl
theorem f_X8_13 : fF RX8 13 8 1 2 true := ⟨_, TX8, 3, tyX8, rfl, inX8, by decide, wd_326, rfl, tyX8_ok, nmX8, Or.inr (Or.inr (Or.inr ⟨rfl, Or.inr ⟨_, rfl⟩⟩)), rfl⟩
theorem q_51_1 : rs 51 1 = some 53 := rfl
theorem n_53 {h : Hp} : nd h 53 0 64 := nd_of (by decide) rfl
theorem wd_327 : Cond.fieldLink RX8 16 "SlackRace$Teller" "told" "I" ∈ lw_g := gw (wt_1 (List.mem_of_getElem? (i := 219) rfl)) rfl
theorem f_X8_16 : fF RX8 16 8 2 0 false := ⟨_, TX8, 3, tyX8, rfl, inX8, by decide, wd_327, rfl, tyX8_ok, nmX8, Or.inl ⟨rfl, rfl⟩, rfl⟩
theorem wd_932 : Cond.code yX8_joins cX8_joins 9 (some .boolean) ∈ lw_g := gw (wt_4 (List.mem_of_getElem? (i := 104) rfl)) rfl
theorem wd_929 : Cond.methodLink RX8 32 yX8_joins ∈ lw_g := gw (wt_4 (List.mem_of_getElem? (i := 101) rfl)) rfl
theorem wd_931 : Cond.instanceMethod yX8_joins ∈ lw_g := gw (wt_4 (List.mem_of_getElem? (i := 103) rfl)) rfl
theorem wd_28 : Cond.selects RX8 yX8_joins yX8_joins ∈ lw_g := gw (wt_0 (List.mem_of_getElem? (i := 28) rfl)) rfl
theorem l_X8_32 : cV RX8 32 8 RX8 yX8_joins cX8_joins 9 (some .boolean) 2 := ⟨wd_929, wd_931, wd_28, wd_115, wd_932, by decide +kernel, TX8, _, rfl⟩
theorem wd_325 : Cond.fieldLink RX8 9 "SlackRace$Teller" "words" "[I" ∈ lw_g := gw (wt_1 (List.mem_of_getElem? (i := 217) rfl)) rfl
theorem f_X8_9 : fF RX8 9 8 0 2 true := ⟨_, TX8, 3, tyX8, rfl, inX8, by decide, wd_325, rfl, tyX8_ok, nmX8, Or.inr (Or.inr (Or.inr ⟨rfl, Or.inr ⟨_, rfl⟩⟩)), rfl⟩
theorem q_51_0 : rs 51 0 = some 52 := rfl
theorem n_52 {h : Hp} : nd h 52 0 7 := nd_of (by decide) rfl
theorem wd_935 : Cond.methodLink RX8 36 Lib.Math.max.name ∈ lw_g := gw (wt_4 (List.mem_of_getElem? (i := 107) rfl)) rfl
theorem wd_933 : Cond.constantLong RX8 42 (1000000000) ∈ lw_g := gw (wt_4 (List.mem_of_getElem? (i := 105) rfl)) rfl
theorem wd_934 : Cond.constantLong RX8 44 (-1000000000) ∈ lw_g := gw (wt_4 (List.mem_of_getElem? (i := 106) rfl)) rfl
theorem wd_342 : Cond.fieldLink RX9 18 "SlackRace$Water" "tides" "[I" ∈ lw_g := gw (wt_1 (List.mem_of_getElem? (i := 234) rfl)) rfl
theorem f_X9_18 : fF RX9 18 9 2 2 true := ⟨_, TX9, 14, tyX9, rfl, inX9, by decide, wd_342, rfl, tyX9_ok, nmX9, Or.inr (Or.inr (Or.inr ⟨rfl, Or.inr ⟨_, rfl⟩⟩)), rfl⟩
theorem q_50_2 : rs 50 2 = some 54 := rfl
theorem n_54 {h : Hp} : nd h 54 0 2880 := nd_of (by decide) rfl
theorem wd_161 : Cond.fieldLink RX9 70 "SlackRace$State" "seas" "[I" ∈ lw_g := gw (wt_1 (List.mem_of_getElem? (i := 53) rfl)) rfl
theorem f_X9_70 : fF RX9 70 6 0 2 true := ⟨_, TX6, 19, tyX6, rfl, inX6, by decide, wd_161, rfl, tyX6_ok, nmX6, Or.inr (Or.inr (Or.inr ⟨rfl, Or.inr ⟨_, rfl⟩⟩)), rfl⟩
theorem wd_354 : Cond.fieldLink RX9 41 "SlackRace$Water" "tidesFresh" "Z" ∈ lw_g := gw (wt_2 (List.mem_of_getElem? (i := 6) rfl)) rfl
theorem f_X9_41 : fF RX9 41 9 9 3 false := ⟨_, TX9, 14, tyX9, rfl, inX9, by decide, wd_354, rfl, tyX9_ok, nmX9, Or.inr (Or.inl ⟨rfl, rfl⟩), rfl⟩
theorem wd_657 : Cond.code yX11_moonPlace cX11_moonPlace 2 (some .int) ∈ lw_g := gw (wt_3 (List.mem_of_getElem? (i := 69) rfl)) rfl
theorem wd_656 : Cond.static yX11_moonPlace ∈ lw_g := gw (wt_3 (List.mem_of_getElem? (i := 68) rfl)) rfl
theorem l_X9_75 : cN RX9 75 "SlackRace" yX11_moonPlace cX11_moonPlace 2 (some .int) 2 := ⟨List.mem_of_getElem? (i := 4) (by decide +kernel), wd_656, wd_109, wd_657, by decide +kernel⟩
theorem wd_883 : Cond.code yX9_addMoon cX9_addMoon 7 (none) ∈ lw_g := gw (wt_4 (List.mem_of_getElem? (i := 55) rfl)) rfl
theorem wd_880 : Cond.methodLink RX9 79 yX9_addMoon ∈ lw_g := gw (wt_4 (List.mem_of_getElem? (i := 52) rfl)) rfl
theorem wd_882 : Cond.instanceMethod yX9_addMoon ∈ lw_g := gw (wt_4 (List.mem_of_getElem? (i := 54) rfl)) rfl
theorem wd_23 : Cond.selects RX9 yX9_addMoon yX9_addMoon ∈ lw_g := gw (wt_0 (List.mem_of_getElem? (i := 23) rfl)) rfl
theorem l_X9_79 : cV RX9 79 9 RX9 yX9_addMoon cX9_addMoon 7 (none) 2 := ⟨wd_880, wd_882, wd_23, wd_114, wd_883, by decide +kernel, TX9, _, rfl⟩
theorem wd_165 : Cond.fieldLink RX9 83 "SlackRace$State" "moons" "[I" ∈ lw_g := gw (wt_1 (List.mem_of_getElem? (i := 57) rfl)) rfl
theorem f_X9_83 : fF RX9 83 6 1 2 true := ⟨_, TX6, 19, tyX6, rfl, inX6, by decide, wd_165, rfl, tyX6_ok, nmX6, Or.inr (Or.inr (Or.inr ⟨rfl, Or.inr ⟨_, rfl⟩⟩)), rfl⟩
theorem wd_886 : Cond.code yX11_wave cX11_wave 4 (some .int) ∈ lw_g := gw (wt_4 (List.mem_of_getElem? (i := 58) rfl)) rfl
theorem wd_885 : Cond.static yX11_wave ∈ lw_g := gw (wt_4 (List.mem_of_getElem? (i := 57) rfl)) rfl
theorem l_X9_86 : cN RX9 86 "SlackRace" yX11_wave cX11_wave 4 (some .int) 3 := ⟨List.mem_of_getElem? (i := 5) (by decide +kernel), wd_885, wd_109, wd_886, by decide +kernel⟩
theorem wd_255 : Cond.arrayClass .int ∈ lw_g := gw (wt_1 (List.mem_of_getElem? (i := 147) rfl)) rfl
theorem wd_952 : Cond.code yX11_isCell cX11_isCell 1 (some .boolean) ∈ lw_g := gw (wt_4 (List.mem_of_getElem? (i := 124) rfl)) rfl
theorem wd_951 : Cond.static yX11_isCell ∈ lw_g := gw (wt_4 (List.mem_of_getElem? (i := 123) rfl)) rfl
theorem wd_950 : Cond.methodLink RX11 200 yX11_isCell ∈ lw_g := gw (wt_4 (List.mem_of_getElem? (i := 122) rfl)) rfl
theorem l_X11_200 : cS RX11 200 yX11_isCell cX11_isCell 1 (some .boolean) 1 := ⟨wd_950, wd_951, wd_109, wd_952, by decide +kernel⟩
theorem wd_1021 : Cond.code yX11_isStep cX11_isStep 1 (some .boolean) ∈ lw_g := gw (wt_4 (List.mem_of_getElem? (i := 193) rfl)) rfl
theorem wd_1020 : Cond.static yX11_isStep ∈ lw_g := gw (wt_4 (List.mem_of_getElem? (i := 192) rfl)) rfl
theorem wd_1019 : Cond.methodLink RX11 241 yX11_isStep ∈ lw_g := gw (wt_4 (List.mem_of_getElem? (i := 191) rfl)) rfl
theorem l_X11_241 : cS RX11 241 yX11_isStep cX11_isStep 1 (some .boolean) 1 := ⟨wd_1019, wd_1020, wd_109, wd_1021, by decide +kernel⟩
theorem wd_174 : Cond.fieldLink RX11 164 "SlackRace$State" "kinds" "[I" ∈ lw_g := gw (wt_1 (List.mem_of_getElem? (i := 66) rfl)) rfl
theorem f_X11_164 : fF RX11 164 6 3 2 true := ⟨_, TX6, 19, tyX6, rfl, inX6, by decide, wd_174, rfl, tyX6_ok, nmX6, Or.inr (Or.inr (Or.inr ⟨rfl, Or.inr ⟨_, rfl⟩⟩)), rfl⟩
theorem wd_902 : Cond.code yX9_freshenToday cX9_freshenToday 1 (none) ∈ lw_g := gw (wt_4 (List.mem_of_getElem? (i := 74) rfl)) rfl
theorem wd_899 : Cond.methodLink RX11 194 yX9_freshenToday ∈ lw_g := gw (wt_4 (List.mem_of_getElem? (i := 71) rfl)) rfl
theorem wd_900 : Cond.instanceMethod yX9_freshenToday ∈ lw_g := gw (wt_4 (List.mem_of_getElem? (i := 72) rfl)) rfl
theorem wd_901 : Cond.selects RX9 yX9_freshenToday yX9_freshenToday ∈ lw_g := gw (wt_4 (List.mem_of_getElem? (i := 73) rfl)) rfl
theorem l_X11_194 : cV RX11 194 9 RX9 yX9_freshenToday cX9_freshenToday 1 (none) 0 := ⟨wd_899, wd_900, wd_901, wd_114, wd_902, by decide +kernel, TX9, _, rfl⟩
theorem wd_577 : Cond.fieldLink RX11 84 "SlackRace" "drift" "LSlackRace$Drift;" ∈ lw_g := gw (wt_2 (List.mem_of_getElem? (i := 229) rfl)) rfl
theorem f_X11_84 : fF RX11 84 11 10 2 true := ⟨_, TX11, 15, tyX11, rfl, inX11, by decide, wd_577, rfl, tyX11_ok, nmX11, Or.inr (Or.inr (Or.inr ⟨rfl, Or.inl ⟨_, rfl⟩⟩)), rfl⟩
theorem q_0_10 : rs 0 10 = some 80 := rfl
theorem wd_120 : Cond.initialized RX0 ∈ lw_g := gw (wt_1 (List.mem_of_getElem? (i := 12) rfl)) rfl
theorem wd_1267 : Cond.code yX0_chance cX0_chance 11 (some .int) ∈ lw_g := gw (wt_5 (List.mem_of_getElem? (i := 199) rfl)) rfl
theorem wd_1264 : Cond.methodLink RX11 359 yX0_chance ∈ lw_g := gw (wt_5 (List.mem_of_getElem? (i := 196) rfl)) rfl
theorem wd_1265 : Cond.instanceMethod yX0_chance ∈ lw_g := gw (wt_5 (List.mem_of_getElem? (i := 197) rfl)) rfl
theorem wd_1266 : Cond.selects RX0 yX0_chance yX0_chance ∈ lw_g := gw (wt_5 (List.mem_of_getElem? (i := 198) rfl)) rfl
theorem l_X11_359 : cV RX11 359 0 RX0 yX0_chance cX0_chance 11 (some .int) 4 := ⟨wd_1264, wd_1265, wd_1266, wd_120, wd_1267, by decide +kernel, TX0, _, rfl⟩
theorem n_80 {h : Hp} : nd h 80 100 4 := nd_of (by decide) rfl
theorem wd_556 : Cond.fieldLink RX0 11 "SlackRace$Drift" "evenChance" "[J" ∈ lw_g := gw (wt_2 (List.mem_of_getElem? (i := 208) rfl)) rfl
theorem f_X0_11 : fF RX0 11 0 2 2 true := ⟨_, TX0, 4, tyX0, rfl, inX0, by decide, wd_556, rfl, tyX0_ok, nmX0, Or.inr (Or.inr (Or.inr ⟨rfl, Or.inr ⟨_, rfl⟩⟩)), rfl⟩
theorem q_80_2 : rs 80 2 = some 81 := rfl
theorem wd_557 : Cond.fieldLink RX0 15 "SlackRace$Drift" "oddChance" "[J" ∈ lw_g := gw (wt_2 (List.mem_of_getElem? (i := 209) rfl)) rfl
theorem f_X0_15 : fF RX0 15 0 3 2 true := ⟨_, TX0, 4, tyX0, rfl, inX0, by decide, wd_557, rfl, tyX0_ok, nmX0, Or.inr (Or.inr (Or.inr ⟨rfl, Or.inr ⟨_, rfl⟩⟩)), rfl⟩
theorem q_80_3 : rs 80 3 = some 82 := rfl
theorem wd_1268 : Cond.methodLink RX0 26 yJ7_fill_d0a16 ∈ lw_g := gw (wt_5 (List.mem_of_getElem? (i := 200) rfl)) rfl
theorem l_X0_26 : cS RX0 26 yJ7_fill_d0a16 cJ7_fill_d0a16 5 (none) 2 := ⟨wd_1268, wd_338, wd_111, wd_339, by decide +kernel⟩
theorem n_81 {h : Hp} : nd h 81 1 52 := nd_of (by decide) rfl
theorem wd_1283 : Cond.constantLong RX0 38 (1000000) ∈ lw_g := gw (wt_5 (List.mem_of_getElem? (i := 215) rfl)) rfl
theorem wd_1269 : Cond.constantLong RX0 32 (200) ∈ lw_g := gw (wt_5 (List.mem_of_getElem? (i := 201) rfl)) rfl
theorem n_82 {h : Hp} : nd h 82 1 52 := nd_of (by decide) rfl
theorem wd_1273 : Cond.code yX0_spread cX0_spread 11 (none) ∈ lw_g := gw (wt_5 (List.mem_of_getElem? (i := 205) rfl)) rfl
theorem wd_1270 : Cond.methodLink RX0 34 yX0_spread ∈ lw_g := gw (wt_5 (List.mem_of_getElem? (i := 202) rfl)) rfl
theorem wd_1272 : Cond.instanceMethod yX0_spread ∈ lw_g := gw (wt_5 (List.mem_of_getElem? (i := 204) rfl)) rfl
theorem wd_47 : Cond.selects RX0 yX0_spread yX0_spread ∈ lw_g := gw (wt_0 (List.mem_of_getElem? (i := 47) rfl)) rfl
theorem l_X0_34 : cV RX0 34 0 RX0 yX0_spread cX0_spread 11 (none) 4 := ⟨wd_1270, wd_1272, wd_47, wd_120, wd_1273, by decide +kernel, TX0, _, rfl⟩
theorem wd_555 : Cond.fieldLink RX0 22 "SlackRace$Drift" "water" "LSlackRace$Water;" ∈ lw_g := gw (wt_2 (List.mem_of_getElem? (i := 207) rfl)) rfl
theorem f_X0_22 : fF RX0 22 0 1 2 true := ⟨_, TX0, 4, tyX0, rfl, inX0, by decide, wd_555, rfl, tyX0_ok, nmX0, Or.inr (Or.inr (Or.inr ⟨rfl, Or.inl ⟨_, rfl⟩⟩)), rfl⟩
theorem q_80_1 : rs 80 1 = some 50 := rfl
theorem wd_554 : Cond.fieldLink RX0 18 "SlackRace$Drift" "state" "LSlackRace$State;" ∈ lw_g := gw (wt_2 (List.mem_of_getElem? (i := 206) rfl)) rfl
theorem f_X0_18 : fF RX0 18 0 0 2 true := ⟨_, TX0, 4, tyX0, rfl, inX0, by decide, wd_554, rfl, tyX0_ok, nmX0, Or.inr (Or.inr (Or.inr ⟨rfl, Or.inl ⟨_, rfl⟩⟩)), rfl⟩
theorem q_80_0 : rs 80 0 = some 1 := rfl
theorem wd_173 : Cond.fieldLink RX0 40 "SlackRace$State" "kinds" "[I" ∈ lw_g := gw (wt_1 (List.mem_of_getElem? (i := 65) rfl)) rfl
theorem f_X0_40 : fF RX0 40 6 3 2 true := ⟨_, TX6, 19, tyX6, rfl, inX6, by decide, wd_173, rfl, tyX6_ok, nmX6, Or.inr (Or.inr (Or.inr ⟨rfl, Or.inr ⟨_, rfl⟩⟩)), rfl⟩
theorem wd_960 : Cond.code yX9_flowOf cX9_flowOf 3 (some .int) ∈ lw_g := gw (wt_4 (List.mem_of_getElem? (i := 132) rfl)) rfl
theorem wd_1274 : Cond.methodLink RX0 46 yX9_flowOf ∈ lw_g := gw (wt_5 (List.mem_of_getElem? (i := 206) rfl)) rfl
theorem wd_958 : Cond.instanceMethod yX9_flowOf ∈ lw_g := gw (wt_4 (List.mem_of_getElem? (i := 130) rfl)) rfl
theorem wd_959 : Cond.selects RX9 yX9_flowOf yX9_flowOf ∈ lw_g := gw (wt_4 (List.mem_of_getElem? (i := 131) rfl)) rfl
theorem l_X0_46 : cV RX0 46 9 RX9 yX9_flowOf cX9_flowOf 3 (some .int) 2 := ⟨wd_1274, wd_958, wd_959, wd_114, wd_960, by decide +kernel, TX9, _, rfl⟩
theorem wd_1275 : Cond.methodLink RX0 52 Lib.Math.abs.name ∈ lw_g := gw (wt_5 (List.mem_of_getElem? (i := 207) rfl)) rfl
theorem wd_1276 : Cond.methodLink RX0 58 Lib.Math.min.name ∈ lw_g := gw (wt_5 (List.mem_of_getElem? (i := 208) rfl)) rfl
theorem wd_789 : Cond.static Lib.Math.min.name ∈ lw_g := gw (wt_3 (List.mem_of_getElem? (i := 201) rfl)) rfl
theorem wd_790 : Cond.code Lib.Math.min.name Lib.Math.min.code 2 (some .int) ∈ lw_g := gw (wt_3 (List.mem_of_getElem? (i := 202) rfl)) rfl
theorem wd_1282 : Cond.constantLong RX0 64 (2) ∈ lw_g := gw (wt_5 (List.mem_of_getElem? (i := 214) rfl)) rfl
theorem wd_1280 : Cond.code yX0_landing cX0_landing 3 (some .int) ∈ lw_g := gw (wt_5 (List.mem_of_getElem? (i := 212) rfl)) rfl
theorem wd_1277 : Cond.methodLink RX0 61 yX0_landing ∈ lw_g := gw (wt_5 (List.mem_of_getElem? (i := 209) rfl)) rfl
theorem wd_1279 : Cond.instanceMethod yX0_landing ∈ lw_g := gw (wt_5 (List.mem_of_getElem? (i := 211) rfl)) rfl
theorem wd_48 : Cond.selects RX0 yX0_landing yX0_landing ∈ lw_g := gw (wt_0 (List.mem_of_getElem? (i := 48) rfl)) rfl
theorem l_X0_61 : cV RX0 61 0 RX0 yX0_landing cX0_landing 3 (some .int) 1 := ⟨wd_1277, wd_1279, wd_48, wd_120, wd_1280, by decide +kernel, TX0, _, rfl⟩
theorem l_X0_66 : cN RX0 66 "SlackRace" yX11_isWithin cX11_isWithin 3 (some .boolean) 3 := ⟨List.mem_of_getElem? (i := 10) (by decide +kernel), wd_618, wd_109, wd_619, by decide +kernel⟩
theorem wd_345 : Cond.fieldLink RX9 29 "SlackRace$Water" "today" "[I" ∈ lw_g := gw (wt_1 (List.mem_of_getElem? (i := 237) rfl)) rfl
theorem f_X9_29 : fF RX9 29 9 5 2 true := ⟨_, TX9, 14, tyX9, rfl, inX9, by decide, wd_345, rfl, tyX9_ok, nmX9, Or.inr (Or.inr (Or.inr ⟨rfl, Or.inr ⟨_, rfl⟩⟩)), rfl⟩
theorem q_50_5 : rs 50 5 = some 57 := rfl
theorem wd_961 : Cond.methodLink RX9 152 Lib.Math.min.name ∈ lw_g := gw (wt_4 (List.mem_of_getElem? (i := 133) rfl)) rfl
theorem n_57 {h : Hp} : nd h 57 0 1440 := nd_of (by decide) rfl
theorem wd_158 : Cond.code yJ7_fill_53178 cJ7_fill_53178 4 (none) ∈ lw_g := gw (wt_1 (List.mem_of_getElem? (i := 50) rfl)) rfl
theorem wd_157 : Cond.static yJ7_fill_53178 ∈ lw_g := gw (wt_1 (List.mem_of_getElem? (i := 49) rfl)) rfl
theorem wd_903 : Cond.methodLink RX9 97 yJ7_fill_53178 ∈ lw_g := gw (wt_4 (List.mem_of_getElem? (i := 75) rfl)) rfl
theorem l_X9_97 : cS RX9 97 yJ7_fill_53178 cJ7_fill_53178 4 (none) 2 := ⟨wd_903, wd_157, wd_111, wd_158, by decide +kernel⟩
theorem wd_119 : Cond.initialized RX4 ∈ lw_g := gw (wt_1 (List.mem_of_getElem? (i := 11) rfl)) rfl
theorem wd_1236 : Cond.code yX4_freshen cX4_freshen 4 (none) ∈ lw_g := gw (wt_5 (List.mem_of_getElem? (i := 168) rfl)) rfl
theorem wd_1233 : Cond.methodLink RX11 352 yX4_freshen ∈ lw_g := gw (wt_5 (List.mem_of_getElem? (i := 165) rfl)) rfl
theorem wd_1234 : Cond.instanceMethod yX4_freshen ∈ lw_g := gw (wt_5 (List.mem_of_getElem? (i := 166) rfl)) rfl
theorem wd_1235 : Cond.selects RX4 yX4_freshen yX4_freshen ∈ lw_g := gw (wt_5 (List.mem_of_getElem? (i := 167) rfl)) rfl
theorem l_X11_352 : cV RX11 352 4 RX4 yX4_freshen cX4_freshen 4 (none) 0 := ⟨wd_1233, wd_1234, wd_1235, wd_119, wd_1236, by decide +kernel, TX4, _, rfl⟩
theorem wd_1258 : Cond.code yX4_bestFor cX4_bestFor 4 (some .int) ∈ lw_g := gw (wt_5 (List.mem_of_getElem? (i := 190) rfl)) rfl
theorem wd_1255 : Cond.methodLink RX11 356 yX4_bestFor ∈ lw_g := gw (wt_5 (List.mem_of_getElem? (i := 187) rfl)) rfl
theorem wd_1256 : Cond.instanceMethod yX4_bestFor ∈ lw_g := gw (wt_5 (List.mem_of_getElem? (i := 188) rfl)) rfl
theorem wd_1257 : Cond.selects RX4 yX4_bestFor yX4_bestFor ∈ lw_g := gw (wt_5 (List.mem_of_getElem? (i := 189) rfl)) rfl
theorem l_X11_356 : cV RX11 356 4 RX4 yX4_bestFor cX4_bestFor 4 (some .int) 1 := ⟨wd_1255, wd_1256, wd_1257, wd_119, wd_1258, by decide +kernel, TX4, _, rfl⟩
theorem wd_534 : Cond.fieldLink RX4 19 "SlackRace$Rule" "hasHigh" "Z" ∈ lw_g := gw (wt_2 (List.mem_of_getElem? (i := 186) rfl)) rfl
theorem f_X4_19 : fF RX4 19 4 3 3 false := ⟨_, TX4, 5, tyX4, rfl, inX4, by decide, wd_534, rfl, tyX4_ok, nmX4, Or.inr (Or.inl ⟨rfl, rfl⟩), rfl⟩
theorem wd_1250 : Cond.code yX4_rightBy cX4_rightBy 3 (some .int) ∈ lw_g := gw (wt_5 (List.mem_of_getElem? (i := 182) rfl)) rfl
theorem wd_1259 : Cond.methodLink RX4 49 yX4_rightBy ∈ lw_g := gw (wt_5 (List.mem_of_getElem? (i := 191) rfl)) rfl
theorem wd_1248 : Cond.instanceMethod yX4_rightBy ∈ lw_g := gw (wt_5 (List.mem_of_getElem? (i := 180) rfl)) rfl
theorem wd_1249 : Cond.selects RX4 yX4_rightBy yX4_rightBy ∈ lw_g := gw (wt_5 (List.mem_of_getElem? (i := 181) rfl)) rfl
theorem l_X4_49 : cV RX4 49 4 RX4 yX4_rightBy cX4_rightBy 3 (some .int) 2 := ⟨wd_1259, wd_1248, wd_1249, wd_119, wd_1250, by decide +kernel, TX4, _, rfl⟩
theorem wd_533 : Cond.fieldLink RX4 15 "SlackRace$Rule" "running" "I" ∈ lw_g := gw (wt_2 (List.mem_of_getElem? (i := 185) rfl)) rfl
theorem f_X4_15 : fF RX4 15 4 2 0 false := ⟨_, TX4, 5, tyX4, rfl, inX4, by decide, wd_533, rfl, tyX4_ok, nmX4, Or.inl ⟨rfl, rfl⟩, rfl⟩
theorem wd_532 : Cond.fieldLink RX4 9 "SlackRace$Rule" "balance" "[I" ∈ lw_g := gw (wt_2 (List.mem_of_getElem? (i := 184) rfl)) rfl
theorem f_X4_9 : fF RX4 9 4 1 2 true := ⟨_, TX4, 5, tyX4, rfl, inX4, by decide, wd_532, rfl, tyX4_ok, nmX4, Or.inr (Or.inr (Or.inr ⟨rfl, Or.inr ⟨_, rfl⟩⟩)), rfl⟩
theorem q_78_1 : rs 78 1 = some 79 := rfl
theorem n_79 {h : Hp} : nd h 79 0 1441 := nd_of (by decide) rfl
theorem wd_535 : Cond.fieldLink RX4 23 "SlackRace$Rule" "fresh" "Z" ∈ lw_g := gw (wt_2 (List.mem_of_getElem? (i := 187) rfl)) rfl
theorem f_X4_23 : fF RX4 23 4 4 3 false := ⟨_, TX4, 5, tyX4, rfl, inX4, by decide, wd_535, rfl, tyX4_ok, nmX4, Or.inr (Or.inl ⟨rfl, rfl⟩), rfl⟩
theorem wd_1237 : Cond.methodLink RX4 30 yJ7_fill_53178 ∈ lw_g := gw (wt_5 (List.mem_of_getElem? (i := 169) rfl)) rfl
theorem l_X4_30 : cS RX4 30 yJ7_fill_53178 cJ7_fill_53178 4 (none) 2 := ⟨wd_1237, wd_157, wd_111, wd_158, by decide +kernel⟩
theorem wd_1241 : Cond.code yX4_isHigh cX4_isHigh 4 (some .boolean) ∈ lw_g := gw (wt_5 (List.mem_of_getElem? (i := 173) rfl)) rfl
theorem wd_1238 : Cond.methodLink RX4 36 yX4_isHigh ∈ lw_g := gw (wt_5 (List.mem_of_getElem? (i := 170) rfl)) rfl
theorem wd_1240 : Cond.instanceMethod yX4_isHigh ∈ lw_g := gw (wt_5 (List.mem_of_getElem? (i := 172) rfl)) rfl
theorem wd_46 : Cond.selects RX4 yX4_isHigh yX4_isHigh ∈ lw_g := gw (wt_0 (List.mem_of_getElem? (i := 46) rfl)) rfl
theorem l_X4_36 : cV RX4 36 4 RX4 yX4_isHigh cX4_isHigh 4 (some .boolean) 1 := ⟨wd_1238, wd_1240, wd_46, wd_119, wd_1241, by decide +kernel, TX4, _, rfl⟩
theorem wd_531 : Cond.fieldLink RX4 26 "SlackRace$Rule" "water" "LSlackRace$Water;" ∈ lw_g := gw (wt_2 (List.mem_of_getElem? (i := 183) rfl)) rfl
theorem f_X4_26 : fF RX4 26 4 0 2 true := ⟨_, TX4, 5, tyX4, rfl, inX4, by decide, wd_531, rfl, tyX4_ok, nmX4, Or.inr (Or.inr (Or.inr ⟨rfl, Or.inl ⟨_, rfl⟩⟩)), rfl⟩
theorem q_78_0 : rs 78 0 = some 50 := rfl
theorem wd_1246 : Cond.code yX9_isSlack cX9_isSlack 2 (some .boolean) ∈ lw_g := gw (wt_5 (List.mem_of_getElem? (i := 178) rfl)) rfl
theorem wd_1243 : Cond.methodLink RX4 40 yX9_isSlack ∈ lw_g := gw (wt_5 (List.mem_of_getElem? (i := 175) rfl)) rfl
theorem wd_1244 : Cond.instanceMethod yX9_isSlack ∈ lw_g := gw (wt_5 (List.mem_of_getElem? (i := 176) rfl)) rfl
theorem wd_1245 : Cond.selects RX9 yX9_isSlack yX9_isSlack ∈ lw_g := gw (wt_5 (List.mem_of_getElem? (i := 177) rfl)) rfl
theorem l_X4_40 : cV RX4 40 9 RX9 yX9_isSlack cX9_isSlack 2 (some .boolean) 1 := ⟨wd_1243, wd_1244, wd_1245, wd_114, wd_1246, by decide +kernel, TX9, _, rfl⟩
theorem wd_890 : Cond.code yX9_levelToday cX9_levelToday 3 (some .int) ∈ lw_g := gw (wt_4 (List.mem_of_getElem? (i := 62) rfl)) rfl
theorem wd_1242 : Cond.methodLink RX4 45 yX9_levelToday ∈ lw_g := gw (wt_5 (List.mem_of_getElem? (i := 174) rfl)) rfl
theorem wd_888 : Cond.instanceMethod yX9_levelToday ∈ lw_g := gw (wt_4 (List.mem_of_getElem? (i := 60) rfl)) rfl
theorem wd_889 : Cond.selects RX9 yX9_levelToday yX9_levelToday ∈ lw_g := gw (wt_4 (List.mem_of_getElem? (i := 61) rfl)) rfl
theorem l_X4_45 : cV RX4 45 9 RX9 yX9_levelToday cX9_levelToday 3 (some .int) 2 := ⟨wd_1242, wd_888, wd_889, wd_114, wd_890, by decide +kernel, TX9, _, rfl⟩
theorem wd_1247 : Cond.methodLink RX11 353 yX4_rightBy ∈ lw_g := gw (wt_5 (List.mem_of_getElem? (i := 179) rfl)) rfl
theorem l_X11_353 : cV RX11 353 4 RX4 yX4_rightBy cX4_rightBy 3 (some .int) 2 := ⟨wd_1247, wd_1248, wd_1249, wd_119, wd_1250, by decide +kernel, TX4, _, rfl⟩
theorem wd_650 : Cond.code yX11_isMoon cX11_isMoon 1 (some .boolean) ∈ lw_g := gw (wt_3 (List.mem_of_getElem? (i := 62) rfl)) rfl
theorem wd_649 : Cond.static yX11_isMoon ∈ lw_g := gw (wt_3 (List.mem_of_getElem? (i := 61) rfl)) rfl
theorem wd_648 : Cond.methodLink RX11 125 yX11_isMoon ∈ lw_g := gw (wt_3 (List.mem_of_getElem? (i := 60) rfl)) rfl
theorem l_X11_125 : cS RX11 125 yX11_isMoon cX11_isMoon 1 (some .boolean) 1 := ⟨wd_648, wd_649, wd_109, wd_650, by decide +kernel⟩
theorem wd_118 : Cond.initialized RX5 ∈ lw_g := gw (wt_1 (List.mem_of_getElem? (i := 10) rfl)) rfl
theorem wd_1201 : Cond.code yX5_freshen cX5_freshen 7 (none) ∈ lw_g := gw (wt_5 (List.mem_of_getElem? (i := 133) rfl)) rfl
theorem wd_1198 : Cond.methodLink RX11 329 yX5_freshen ∈ lw_g := gw (wt_5 (List.mem_of_getElem? (i := 130) rfl)) rfl
theorem wd_1199 : Cond.instanceMethod yX5_freshen ∈ lw_g := gw (wt_5 (List.mem_of_getElem? (i := 131) rfl)) rfl
theorem wd_1200 : Cond.selects RX5 yX5_freshen yX5_freshen ∈ lw_g := gw (wt_5 (List.mem_of_getElem? (i := 132) rfl)) rfl
theorem l_X11_329 : cV RX11 329 5 RX5 yX5_freshen cX5_freshen 7 (none) 1 := ⟨wd_1198, wd_1199, wd_1200, wd_118, wd_1201, by decide +kernel, TX5, _, rfl⟩
theorem wd_1228 : Cond.code yX5_tellingFloat cX5_tellingFloat 3 (some .int) ∈ lw_g := gw (wt_5 (List.mem_of_getElem? (i := 160) rfl)) rfl
theorem wd_1225 : Cond.methodLink RX11 349 yX5_tellingFloat ∈ lw_g := gw (wt_5 (List.mem_of_getElem? (i := 157) rfl)) rfl
theorem wd_1226 : Cond.instanceMethod yX5_tellingFloat ∈ lw_g := gw (wt_5 (List.mem_of_getElem? (i := 158) rfl)) rfl
theorem wd_1227 : Cond.selects RX5 yX5_tellingFloat yX5_tellingFloat ∈ lw_g := gw (wt_5 (List.mem_of_getElem? (i := 159) rfl)) rfl
theorem l_X11_349 : cV RX11 349 5 RX5 yX5_tellingFloat cX5_tellingFloat 3 (some .int) 0 := ⟨wd_1225, wd_1226, wd_1227, wd_118, wd_1228, by decide +kernel, TX5, _, rfl⟩
theorem wd_481 : Cond.fieldLink RX5 43 "SlackRace$Soundings" "state" "LSlackRace$State;" ∈ lw_g := gw (wt_2 (List.mem_of_getElem? (i := 133) rfl)) rfl
theorem f_X5_43 : fF RX5 43 5 0 2 true := ⟨_, TX5, 12, tyX5, rfl, inX5, by decide, wd_481, rfl, tyX5_ok, nmX5, Or.inr (Or.inr (Or.inr ⟨rfl, Or.inl ⟨_, rfl⟩⟩)), rfl⟩
theorem q_74_0 : rs 74 0 = some 1 := rfl
theorem wd_214 : Cond.fieldLink RX5 70 "SlackRace$State" "floatCount" "I" ∈ lw_g := gw (wt_1 (List.mem_of_getElem? (i := 106) rfl)) rfl
theorem f_X5_70 : fF RX5 70 6 18 0 false := ⟨_, TX6, 19, tyX6, rfl, inX6, by decide, wd_214, rfl, tyX6_ok, nmX6, Or.inl ⟨rfl, rfl⟩, rfl⟩
theorem wd_485 : Cond.fieldLink RX5 18 "SlackRace$Soundings" "without" "[I" ∈ lw_g := gw (wt_2 (List.mem_of_getElem? (i := 137) rfl)) rfl
theorem f_X5_18 : fF RX5 18 5 4 2 true := ⟨_, TX5, 12, tyX5, rfl, inX5, by decide, wd_485, rfl, tyX5_ok, nmX5, Or.inr (Or.inr (Or.inr ⟨rfl, Or.inr ⟨_, rfl⟩⟩)), rfl⟩
theorem q_74_4 : rs 74 4 = some 77 := rfl
theorem n_77 {h : Hp} : nd h 77 0 12 := nd_of (by decide) rfl
theorem wd_486 : Cond.fieldLink RX5 21 "SlackRace$Soundings" "ofMoon" "I" ∈ lw_g := gw (wt_2 (List.mem_of_getElem? (i := 138) rfl)) rfl
theorem f_X5_21 : fF RX5 21 5 5 0 false := ⟨_, TX5, 12, tyX5, rfl, inX5, by decide, wd_486, rfl, tyX5_ok, nmX5, Or.inl ⟨rfl, rfl⟩, rfl⟩
theorem l_X5_51 : cN RX5 51 "SlackRace" yX11_moonPlace cX11_moonPlace 2 (some .int) 2 := ⟨List.mem_of_getElem? (i := 8) (by decide +kernel), wd_656, wd_109, wd_657, by decide +kernel⟩
theorem wd_163 : Cond.fieldLink RX5 55 "SlackRace$State" "moons" "[I" ∈ lw_g := gw (wt_1 (List.mem_of_getElem? (i := 55) rfl)) rfl
theorem f_X5_55 : fF RX5 55 6 1 2 true := ⟨_, TX6, 19, tyX6, rfl, inX6, by decide, wd_163, rfl, tyX6_ok, nmX6, Or.inr (Or.inr (Or.inr ⟨rfl, Or.inr ⟨_, rfl⟩⟩)), rfl⟩
theorem wd_1203 : Cond.methodLink RX5 60 Lib.Math.max.name ∈ lw_g := gw (wt_5 (List.mem_of_getElem? (i := 135) rfl)) rfl
theorem wd_482 : Cond.fieldLink RX5 47 "SlackRace$Soundings" "water" "LSlackRace$Water;" ∈ lw_g := gw (wt_2 (List.mem_of_getElem? (i := 134) rfl)) rfl
theorem f_X5_47 : fF RX5 47 5 1 2 true := ⟨_, TX5, 12, tyX5, rfl, inX5, by decide, wd_482, rfl, tyX5_ok, nmX5, Or.inr (Or.inr (Or.inr ⟨rfl, Or.inl ⟨_, rfl⟩⟩)), rfl⟩
theorem q_74_1 : rs 74 1 = some 50 := rfl
theorem wd_1204 : Cond.methodLink RX5 65 yX9_freshenTides ∈ lw_g := gw (wt_5 (List.mem_of_getElem? (i := 136) rfl)) rfl
theorem l_X5_65 : cV RX5 65 9 RX9 yX9_freshenTides cX9_freshenTides 4 (none) 0 := ⟨wd_1204, wd_876, wd_877, wd_114, wd_878, by decide +kernel, TX9, _, rfl⟩
theorem wd_1210 : Cond.code yX5_forgetPairs cX5_forgetPairs 1 (none) ∈ lw_g := gw (wt_5 (List.mem_of_getElem? (i := 142) rfl)) rfl
theorem wd_1207 : Cond.methodLink RX5 86 yX5_forgetPairs ∈ lw_g := gw (wt_5 (List.mem_of_getElem? (i := 139) rfl)) rfl
theorem wd_1209 : Cond.instanceMethod yX5_forgetPairs ∈ lw_g := gw (wt_5 (List.mem_of_getElem? (i := 141) rfl)) rfl
theorem wd_43 : Cond.selects RX5 yX5_forgetPairs yX5_forgetPairs ∈ lw_g := gw (wt_0 (List.mem_of_getElem? (i := 43) rfl)) rfl
theorem l_X5_86 : cV RX5 86 5 RX5 yX5_forgetPairs cX5_forgetPairs 1 (none) 0 := ⟨wd_1207, wd_1209, wd_43, wd_118, wd_1210, by decide +kernel, TX5, _, rfl⟩
theorem wd_196 : Cond.fieldLink RX5 73 "SlackRace$State" "floatMinutes" "[I" ∈ lw_g := gw (wt_1 (List.mem_of_getElem? (i := 88) rfl)) rfl
theorem f_X5_73 : fF RX5 73 6 11 2 true := ⟨_, TX6, 19, tyX6, rfl, inX6, by decide, wd_196, rfl, tyX6_ok, nmX6, Or.inr (Or.inr (Or.inr ⟨rfl, Or.inr ⟨_, rfl⟩⟩)), rfl⟩
theorem l_X5_76 : cN RX5 76 "SlackRace" yX11_wave cX11_wave 4 (some .int) 3 := ⟨List.mem_of_getElem? (i := 9) (by decide +kernel), wd_885, wd_109, wd_886, by decide +kernel⟩
theorem wd_483 : Cond.fieldLink RX5 9 "SlackRace$Soundings" "rises" "[I" ∈ lw_g := gw (wt_2 (List.mem_of_getElem? (i := 135) rfl)) rfl
theorem f_X5_9 : fF RX5 9 5 2 2 true := ⟨_, TX5, 12, tyX5, rfl, inX5, by decide, wd_483, rfl, tyX5_ok, nmX5, Or.inr (Or.inr (Or.inr ⟨rfl, Or.inr ⟨_, rfl⟩⟩)), rfl⟩
theorem q_74_2 : rs 74 2 = some 75 := rfl
theorem wd_199 : Cond.fieldLink RX5 80 "SlackRace$State" "floatLevels" "[I" ∈ lw_g := gw (wt_1 (List.mem_of_getElem? (i := 91) rfl)) rfl
theorem f_X5_80 : fF RX5 80 6 12 2 true := ⟨_, TX6, 19, tyX6, rfl, inX6, by decide, wd_199, rfl, tyX6_ok, nmX6, Or.inr (Or.inr (Or.inr ⟨rfl, Or.inr ⟨_, rfl⟩⟩)), rfl⟩
theorem wd_1206 : Cond.methodLink RX5 83 yX9_levelToday ∈ lw_g := gw (wt_5 (List.mem_of_getElem? (i := 138) rfl)) rfl
theorem l_X5_83 : cV RX5 83 9 RX9 yX9_levelToday cX9_levelToday 3 (some .int) 2 := ⟨wd_1206, wd_888, wd_889, wd_114, wd_890, by decide +kernel, TX9, _, rfl⟩
theorem n_75 {h : Hp} : nd h 75 0 12 := nd_of (by decide) rfl
theorem wd_484 : Cond.fieldLink RX5 15 "SlackRace$Soundings" "waves" "[I" ∈ lw_g := gw (wt_2 (List.mem_of_getElem? (i := 136) rfl)) rfl
theorem f_X5_15 : fF RX5 15 5 3 2 true := ⟨_, TX5, 12, tyX5, rfl, inX5, by decide, wd_484, rfl, tyX5_ok, nmX5, Or.inr (Or.inr (Or.inr ⟨rfl, Or.inr ⟨_, rfl⟩⟩)), rfl⟩
theorem q_74_3 : rs 74 3 = some 76 := rfl
theorem n_76 {h : Hp} : nd h 76 0 12 := nd_of (by decide) rfl
theorem wd_1215 : Cond.code yX5_weigh cX5_weigh 6 (none) ∈ lw_g := gw (wt_5 (List.mem_of_getElem? (i := 147) rfl)) rfl
theorem wd_1212 : Cond.methodLink RX5 89 yX5_weigh ∈ lw_g := gw (wt_5 (List.mem_of_getElem? (i := 144) rfl)) rfl
theorem wd_1214 : Cond.instanceMethod yX5_weigh ∈ lw_g := gw (wt_5 (List.mem_of_getElem? (i := 146) rfl)) rfl
theorem wd_44 : Cond.selects RX5 yX5_weigh yX5_weigh ∈ lw_g := gw (wt_0 (List.mem_of_getElem? (i := 44) rfl)) rfl
theorem l_X5_89 : cV RX5 89 5 RX5 yX5_weigh cX5_weigh 6 (none) 2 := ⟨wd_1212, wd_1214, wd_44, wd_118, wd_1215, by decide +kernel, TX5, _, rfl⟩
theorem wd_1216 : Cond.methodLink RX5 99 Lib.Math.abs.name ∈ lw_g := gw (wt_5 (List.mem_of_getElem? (i := 148) rfl)) rfl
theorem wd_168 : Cond.fieldLink RX5 103 "SlackRace$State" "terms" "[I" ∈ lw_g := gw (wt_1 (List.mem_of_getElem? (i := 60) rfl)) rfl
theorem f_X5_103 : fF RX5 103 6 2 2 true := ⟨_, TX6, 19, tyX6, rfl, inX6, by decide, wd_168, rfl, tyX6_ok, nmX6, Or.inr (Or.inr (Or.inr ⟨rfl, Or.inr ⟨_, rfl⟩⟩)), rfl⟩
theorem wd_1220 : Cond.code yX5_keepPair cX5_keepPair 3 (none) ∈ lw_g := gw (wt_5 (List.mem_of_getElem? (i := 152) rfl)) rfl
theorem wd_1217 : Cond.methodLink RX5 106 yX5_keepPair ∈ lw_g := gw (wt_5 (List.mem_of_getElem? (i := 149) rfl)) rfl
theorem wd_1219 : Cond.instanceMethod yX5_keepPair ∈ lw_g := gw (wt_5 (List.mem_of_getElem? (i := 151) rfl)) rfl
theorem wd_45 : Cond.selects RX5 yX5_keepPair yX5_keepPair ∈ lw_g := gw (wt_0 (List.mem_of_getElem? (i := 45) rfl)) rfl
theorem l_X5_106 : cV RX5 106 5 RX5 yX5_keepPair cX5_keepPair 3 (none) 2 := ⟨wd_1217, wd_1219, wd_45, wd_118, wd_1220, by decide +kernel, TX5, _, rfl⟩
theorem wd_488 : Cond.fieldLink RX5 25 "SlackRace$Soundings" "pairs" "I" ∈ lw_g := gw (wt_2 (List.mem_of_getElem? (i := 140) rfl)) rfl
theorem f_X5_25 : fF RX5 25 5 6 0 false := ⟨_, TX5, 12, tyX5, rfl, inX5, by decide, wd_488, rfl, tyX5_ok, nmX5, Or.inl ⟨rfl, rfl⟩, rfl⟩
theorem wd_490 : Cond.fieldLink RX5 28 "SlackRace$Soundings" "leastHeight" "I" ∈ lw_g := gw (wt_2 (List.mem_of_getElem? (i := 142) rfl)) rfl
theorem f_X5_28 : fF RX5 28 5 7 0 false := ⟨_, TX5, 12, tyX5, rfl, inX5, by decide, wd_490, rfl, tyX5_ok, nmX5, Or.inl ⟨rfl, rfl⟩, rfl⟩
theorem wd_492 : Cond.fieldLink RX5 31 "SlackRace$Soundings" "greatestHeight" "I" ∈ lw_g := gw (wt_2 (List.mem_of_getElem? (i := 144) rfl)) rfl
theorem f_X5_31 : fF RX5 31 5 8 0 false := ⟨_, TX5, 12, tyX5, rfl, inX5, by decide, wd_492, rfl, tyX5_ok, nmX5, Or.inl ⟨rfl, rfl⟩, rfl⟩
theorem wd_494 : Cond.fieldLink RX5 34 "SlackRace$Soundings" "leastPhase" "I" ∈ lw_g := gw (wt_2 (List.mem_of_getElem? (i := 146) rfl)) rfl
theorem f_X5_34 : fF RX5 34 5 9 0 false := ⟨_, TX5, 12, tyX5, rfl, inX5, by decide, wd_494, rfl, tyX5_ok, nmX5, Or.inl ⟨rfl, rfl⟩, rfl⟩
theorem wd_496 : Cond.fieldLink RX5 37 "SlackRace$Soundings" "greatestPhase" "I" ∈ lw_g := gw (wt_2 (List.mem_of_getElem? (i := 148) rfl)) rfl
theorem f_X5_37 : fF RX5 37 5 10 0 false := ⟨_, TX5, 12, tyX5, rfl, inX5, by decide, wd_496, rfl, tyX5_ok, nmX5, Or.inl ⟨rfl, rfl⟩, rfl⟩
theorem wd_498 : Cond.fieldLink RX5 40 "SlackRace$Soundings" "firstPhase" "I" ∈ lw_g := gw (wt_2 (List.mem_of_getElem? (i := 150) rfl)) rfl
theorem f_X5_40 : fF RX5 40 5 11 0 false := ⟨_, TX5, 12, tyX5, rfl, inX5, by decide, wd_498, rfl, tyX5_ok, nmX5, Or.inl ⟨rfl, rfl⟩, rfl⟩
theorem wd_1211 : Cond.methodLink RX5 93 yJ7_fill_53178 ∈ lw_g := gw (wt_5 (List.mem_of_getElem? (i := 143) rfl)) rfl
theorem l_X5_93 : cS RX5 93 yJ7_fill_53178 cJ7_fill_53178 4 (none) 2 := ⟨wd_1211, wd_157, wd_111, wd_158, by decide +kernel⟩
theorem wd_489 : Cond.fieldLink RX11 331 "SlackRace$Soundings" "pairs" "I" ∈ lw_g := gw (wt_2 (List.mem_of_getElem? (i := 141) rfl)) rfl
theorem f_X11_331 : fF RX11 331 5 6 0 false := ⟨_, TX5, 12, tyX5, rfl, inX5, by decide, wd_489, rfl, tyX5_ok, nmX5, Or.inl ⟨rfl, rfl⟩, rfl⟩
theorem wd_491 : Cond.fieldLink RX11 334 "SlackRace$Soundings" "leastHeight" "I" ∈ lw_g := gw (wt_2 (List.mem_of_getElem? (i := 143) rfl)) rfl
theorem f_X11_334 : fF RX11 334 5 7 0 false := ⟨_, TX5, 12, tyX5, rfl, inX5, by decide, wd_491, rfl, tyX5_ok, nmX5, Or.inl ⟨rfl, rfl⟩, rfl⟩
theorem wd_493 : Cond.fieldLink RX11 337 "SlackRace$Soundings" "greatestHeight" "I" ∈ lw_g := gw (wt_2 (List.mem_of_getElem? (i := 145) rfl)) rfl
theorem f_X11_337 : fF RX11 337 5 8 0 false := ⟨_, TX5, 12, tyX5, rfl, inX5, by decide, wd_493, rfl, tyX5_ok, nmX5, Or.inl ⟨rfl, rfl⟩, rfl⟩
theorem wd_495 : Cond.fieldLink RX11 340 "SlackRace$Soundings" "leastPhase" "I" ∈ lw_g := gw (wt_2 (List.mem_of_getElem? (i := 147) rfl)) rfl
theorem f_X11_340 : fF RX11 340 5 9 0 false := ⟨_, TX5, 12, tyX5, rfl, inX5, by decide, wd_495, rfl, tyX5_ok, nmX5, Or.inl ⟨rfl, rfl⟩, rfl⟩
theorem wd_497 : Cond.fieldLink RX11 343 "SlackRace$Soundings" "greatestPhase" "I" ∈ lw_g := gw (wt_2 (List.mem_of_getElem? (i := 149) rfl)) rfl
theorem f_X11_343 : fF RX11 343 5 10 0 false := ⟨_, TX5, 12, tyX5, rfl, inX5, by decide, wd_497, rfl, tyX5_ok, nmX5, Or.inl ⟨rfl, rfl⟩, rfl⟩
theorem wd_499 : Cond.fieldLink RX11 346 "SlackRace$Soundings" "firstPhase" "I" ∈ lw_g := gw (wt_2 (List.mem_of_getElem? (i := 151) rfl)) rfl
theorem f_X11_346 : fF RX11 346 5 11 0 false := ⟨_, TX5, 12, tyX5, rfl, inX5, by decide, wd_499, rfl, tyX5_ok, nmX5, Or.inl ⟨rfl, rfl⟩, rfl⟩
theorem wd_197 : Cond.fieldLink RX11 320 "SlackRace$State" "floatMinutes" "[I" ∈ lw_g := gw (wt_1 (List.mem_of_getElem? (i := 89) rfl)) rfl
theorem f_X11_320 : fF RX11 320 6 11 2 true := ⟨_, TX6, 19, tyX6, rfl, inX6, by decide, wd_197, rfl, tyX6_ok, nmX6, Or.inr (Or.inr (Or.inr ⟨rfl, Or.inr ⟨_, rfl⟩⟩)), rfl⟩
theorem wd_200 : Cond.fieldLink RX11 323 "SlackRace$State" "floatLevels" "[I" ∈ lw_g := gw (wt_1 (List.mem_of_getElem? (i := 92) rfl)) rfl
theorem f_X11_323 : fF RX11 323 6 12 2 true := ⟨_, TX6, 19, tyX6, rfl, inX6, by decide, wd_200, rfl, tyX6_ok, nmX6, Or.inr (Or.inr (Or.inr ⟨rfl, Or.inr ⟨_, rfl⟩⟩)), rfl⟩
theorem wd_1188 : Cond.code yX9_bestTurbines cX9_bestTurbines 2 (some .int) ∈ lw_g := gw (wt_5 (List.mem_of_getElem? (i := 120) rfl)) rfl
theorem wd_1185 : Cond.methodLink RX11 307 yX9_bestTurbines ∈ lw_g := gw (wt_5 (List.mem_of_getElem? (i := 117) rfl)) rfl
theorem wd_1186 : Cond.instanceMethod yX9_bestTurbines ∈ lw_g := gw (wt_5 (List.mem_of_getElem? (i := 118) rfl)) rfl
theorem wd_1187 : Cond.selects RX9 yX9_bestTurbines yX9_bestTurbines ∈ lw_g := gw (wt_5 (List.mem_of_getElem? (i := 119) rfl)) rfl
theorem l_X11_307 : cV RX11 307 9 RX9 yX9_bestTurbines cX9_bestTurbines 2 (some .int) 0 := ⟨wd_1185, wd_1186, wd_1187, wd_114, wd_1188, by decide +kernel, TX9, _, rfl⟩
theorem wd_1174 : Cond.code yX9_drive cX9_drive 2 (none) ∈ lw_g := gw (wt_5 (List.mem_of_getElem? (i := 106) rfl)) rfl
theorem wd_1189 : Cond.methodLink RX11 311 yX9_drive ∈ lw_g := gw (wt_5 (List.mem_of_getElem? (i := 121) rfl)) rfl
theorem wd_1172 : Cond.instanceMethod yX9_drive ∈ lw_g := gw (wt_5 (List.mem_of_getElem? (i := 104) rfl)) rfl
theorem wd_1173 : Cond.selects RX9 yX9_drive yX9_drive ∈ lw_g := gw (wt_5 (List.mem_of_getElem? (i := 105) rfl)) rfl
theorem l_X11_311 : cV RX11 311 9 RX9 yX9_drive cX9_drive 2 (none) 1 := ⟨wd_1189, wd_1172, wd_1173, wd_114, wd_1174, by decide +kernel, TX9, _, rfl⟩
theorem wd_351 : Cond.fieldLink RX11 314 "SlackRace$Water" "driven" "[I" ∈ lw_g := gw (wt_2 (List.mem_of_getElem? (i := 3) rfl)) rfl
theorem f_X11_314 : fF RX11 314 9 7 2 false := ⟨_, TX9, 14, tyX9, rfl, inX9, by decide, wd_351, rfl, tyX9_ok, nmX9, Or.inr (Or.inr (Or.inr ⟨rfl, Or.inr ⟨_, rfl⟩⟩)), rfl⟩
theorem q_50_7 : rs 50 7 = none := rfl
theorem wd_350 : Cond.fieldLink RX9 35 "SlackRace$Water" "driven" "[I" ∈ lw_g := gw (wt_2 (List.mem_of_getElem? (i := 2) rfl)) rfl
theorem f_X9_35 : fF RX9 35 9 7 2 false := ⟨_, TX9, 14, tyX9, rfl, inX9, by decide, wd_350, rfl, tyX9_ok, nmX9, Or.inr (Or.inr (Or.inr ⟨rfl, Or.inr ⟨_, rfl⟩⟩)), rfl⟩
theorem wd_1178 : Cond.code yX9_takenFromDriven cX9_takenFromDriven 7 (some .long) ∈ lw_g := gw (wt_5 (List.mem_of_getElem? (i := 110) rfl)) rfl
theorem wd_1175 : Cond.methodLink RX9 108 yX9_takenFromDriven ∈ lw_g := gw (wt_5 (List.mem_of_getElem? (i := 107) rfl)) rfl
theorem wd_1177 : Cond.instanceMethod yX9_takenFromDriven ∈ lw_g := gw (wt_5 (List.mem_of_getElem? (i := 109) rfl)) rfl
theorem wd_42 : Cond.selects RX9 yX9_takenFromDriven yX9_takenFromDriven ∈ lw_g := gw (wt_0 (List.mem_of_getElem? (i := 42) rfl)) rfl
theorem l_X9_108 : cV RX9 108 9 RX9 yX9_takenFromDriven cX9_takenFromDriven 7 (some .long) 1 := ⟨wd_1175, wd_1177, wd_42, wd_114, wd_1178, by decide +kernel, TX9, _, rfl⟩
theorem n_56 {h : Hp} : nd h 56 1 21 := nd_of (by decide) rfl
theorem wd_1179 : Cond.constantLong RX9 118 (1000000) ∈ lw_g := gw (wt_5 (List.mem_of_getElem? (i := 111) rfl)) rfl
theorem wd_1171 : Cond.methodLink RX9 169 yX9_drive ∈ lw_g := gw (wt_5 (List.mem_of_getElem? (i := 103) rfl)) rfl
theorem l_X9_169 : cV RX9 169 9 RX9 yX9_drive cX9_drive 2 (none) 1 := ⟨wd_1171, wd_1172, wd_1173, wd_114, wd_1174, by decide +kernel, TX9, _, rfl⟩
theorem wd_1180 : Cond.constantLong RX11 305 (-1) ∈ lw_g := gw (wt_5 (List.mem_of_getElem? (i := 112) rfl)) rfl
theorem wd_1170 : Cond.code yX9_takenBy cX9_takenBy 2 (some .long) ∈ lw_g := gw (wt_5 (List.mem_of_getElem? (i := 102) rfl)) rfl
theorem wd_1167 : Cond.methodLink RX11 301 yX9_takenBy ∈ lw_g := gw (wt_5 (List.mem_of_getElem? (i := 99) rfl)) rfl
theorem wd_1168 : Cond.instanceMethod yX9_takenBy ∈ lw_g := gw (wt_5 (List.mem_of_getElem? (i := 100) rfl)) rfl
theorem wd_1169 : Cond.selects RX9 yX9_takenBy yX9_takenBy ∈ lw_g := gw (wt_5 (List.mem_of_getElem? (i := 101) rfl)) rfl
theorem l_X11_301 : cV RX11 301 9 RX9 yX9_takenBy cX9_takenBy 2 (some .long) 1 := ⟨wd_1167, wd_1168, wd_1169, wd_114, wd_1170, by decide +kernel, TX9, _, rfl⟩
theorem wd_117 : Cond.initialized RX2 ∈ lw_g := gw (wt_1 (List.mem_of_getElem? (i := 9) rfl)) rfl
theorem wd_1147 : Cond.code yX2_freshen cX2_freshen 2 (none) ∈ lw_g := gw (wt_5 (List.mem_of_getElem? (i := 79) rfl)) rfl
theorem wd_1144 : Cond.methodLink RX11 289 yX2_freshen ∈ lw_g := gw (wt_5 (List.mem_of_getElem? (i := 76) rfl)) rfl
theorem wd_1145 : Cond.instanceMethod yX2_freshen ∈ lw_g := gw (wt_5 (List.mem_of_getElem? (i := 77) rfl)) rfl
theorem wd_1146 : Cond.selects RX2 yX2_freshen yX2_freshen ∈ lw_g := gw (wt_5 (List.mem_of_getElem? (i := 78) rfl)) rfl
theorem l_X11_289 : cV RX11 289 2 RX2 yX2_freshen cX2_freshen 2 (none) 0 := ⟨wd_1144, wd_1145, wd_1146, wd_117, wd_1147, by decide +kernel, TX2, _, rfl⟩
theorem wd_453 : Cond.fieldLink RX11 292 "SlackRace$Locks" "leastWait" "I" ∈ lw_g := gw (wt_2 (List.mem_of_getElem? (i := 105) rfl)) rfl
theorem f_X11_292 : fF RX11 292 2 7 0 false := ⟨_, TX2, 9, tyX2, rfl, inX2, by decide, wd_453, rfl, tyX2_ok, nmX2, Or.inl ⟨rfl, rfl⟩, rfl⟩
theorem wd_451 : Cond.fieldLink RX11 298 "SlackRace$Locks" "bestBegins" "[I" ∈ lw_g := gw (wt_2 (List.mem_of_getElem? (i := 103) rfl)) rfl
theorem f_X11_298 : fF RX11 298 2 6 2 true := ⟨_, TX2, 9, tyX2, rfl, inX2, by decide, wd_451, rfl, tyX2_ok, nmX2, Or.inr (Or.inr (Or.inr ⟨rfl, Or.inr ⟨_, rfl⟩⟩)), rfl⟩
theorem q_69_6 : rs 69 6 = some 73 := rfl
theorem n_73 {h : Hp} : nd h 73 0 6 := nd_of (by decide) rfl
theorem wd_454 : Cond.fieldLink RX2 31 "SlackRace$Locks" "fresh" "Z" ∈ lw_g := gw (wt_2 (List.mem_of_getElem? (i := 106) rfl)) rfl
theorem f_X2_31 : fF RX2 31 2 8 3 false := ⟨_, TX2, 9, tyX2, rfl, inX2, by decide, wd_454, rfl, tyX2_ok, nmX2, Or.inr (Or.inl ⟨rfl, rfl⟩), rfl⟩
theorem wd_445 : Cond.fieldLink RX2 9 "SlackRace$Locks" "soonestBegin" "[I" ∈ lw_g := gw (wt_2 (List.mem_of_getElem? (i := 97) rfl)) rfl
theorem f_X2_9 : fF RX2 9 2 2 2 false := ⟨_, TX2, 9, tyX2, rfl, inX2, by decide, wd_445, rfl, tyX2_ok, nmX2, Or.inr (Or.inr (Or.inr ⟨rfl, Or.inr ⟨_, rfl⟩⟩)), rfl⟩
theorem q_69_2 : rs 69 2 = none := rfl
theorem wd_443 : Cond.fieldLink RX2 35 "SlackRace$Locks" "state" "LSlackRace$State;" ∈ lw_g := gw (wt_2 (List.mem_of_getElem? (i := 95) rfl)) rfl
theorem f_X2_35 : fF RX2 35 2 0 2 true := ⟨_, TX2, 9, tyX2, rfl, inX2, by decide, wd_443, rfl, tyX2_ok, nmX2, Or.inr (Or.inr (Or.inr ⟨rfl, Or.inl ⟨_, rfl⟩⟩)), rfl⟩
theorem q_69_0 : rs 69 0 = some 1 := rfl
theorem wd_211 : Cond.fieldLink RX2 43 "SlackRace$State" "shipCount" "I" ∈ lw_g := gw (wt_1 (List.mem_of_getElem? (i := 103) rfl)) rfl
theorem f_X2_43 : fF RX2 43 6 17 0 false := ⟨_, TX6, 19, tyX6, rfl, inX6, by decide, wd_211, rfl, tyX6_ok, nmX6, Or.inl ⟨rfl, rfl⟩, rfl⟩
theorem wd_452 : Cond.fieldLink RX2 27 "SlackRace$Locks" "leastWait" "I" ∈ lw_g := gw (wt_2 (List.mem_of_getElem? (i := 104) rfl)) rfl
theorem f_X2_27 : fF RX2 27 2 7 0 false := ⟨_, TX2, 9, tyX2, rfl, inX2, by decide, wd_452, rfl, tyX2_ok, nmX2, Or.inl ⟨rfl, rfl⟩, rfl⟩
theorem wd_1156 : Cond.code yX2_lineUp cX2_lineUp 9 (none) ∈ lw_g := gw (wt_5 (List.mem_of_getElem? (i := 88) rfl)) rfl
theorem wd_1153 : Cond.methodLink RX2 52 yX2_lineUp ∈ lw_g := gw (wt_5 (List.mem_of_getElem? (i := 85) rfl)) rfl
theorem wd_1155 : Cond.instanceMethod yX2_lineUp ∈ lw_g := gw (wt_5 (List.mem_of_getElem? (i := 87) rfl)) rfl
theorem wd_41 : Cond.selects RX2 yX2_lineUp yX2_lineUp ∈ lw_g := gw (wt_0 (List.mem_of_getElem? (i := 41) rfl)) rfl
theorem l_X2_52 : cV RX2 52 2 RX2 yX2_lineUp cX2_lineUp 9 (none) 4 := ⟨wd_1153, wd_1155, wd_41, wd_117, wd_1156, by decide +kernel, TX2, _, rfl⟩
theorem wd_1151 : Cond.code yX2_findBegins cX2_findBegins 5 (none) ∈ lw_g := gw (wt_5 (List.mem_of_getElem? (i := 83) rfl)) rfl
theorem wd_1148 : Cond.methodLink RX2 48 yX2_findBegins ∈ lw_g := gw (wt_5 (List.mem_of_getElem? (i := 80) rfl)) rfl
theorem wd_1150 : Cond.instanceMethod yX2_findBegins ∈ lw_g := gw (wt_5 (List.mem_of_getElem? (i := 82) rfl)) rfl
theorem wd_40 : Cond.selects RX2 yX2_findBegins yX2_findBegins ∈ lw_g := gw (wt_0 (List.mem_of_getElem? (i := 40) rfl)) rfl
theorem l_X2_48 : cV RX2 48 2 RX2 yX2_findBegins cX2_findBegins 5 (none) 1 := ⟨wd_1148, wd_1150, wd_40, wd_117, wd_1151, by decide +kernel, TX2, _, rfl⟩
theorem wd_444 : Cond.fieldLink RX2 39 "SlackRace$Locks" "water" "LSlackRace$Water;" ∈ lw_g := gw (wt_2 (List.mem_of_getElem? (i := 96) rfl)) rfl
theorem f_X2_39 : fF RX2 39 2 1 2 true := ⟨_, TX2, 9, tyX2, rfl, inX2, by decide, wd_444, rfl, tyX2_ok, nmX2, Or.inr (Or.inr (Or.inr ⟨rfl, Or.inl ⟨_, rfl⟩⟩)), rfl⟩
theorem q_69_1 : rs 69 1 = some 50 := rfl
theorem wd_346 : Cond.fieldLink RX2 56 "SlackRace$Water" "today" "[I" ∈ lw_g := gw (wt_1 (List.mem_of_getElem? (i := 238) rfl)) rfl
theorem f_X2_56 : fF RX2 56 9 5 2 true := ⟨_, TX9, 14, tyX9, rfl, inX9, by decide, wd_346, rfl, tyX9_ok, nmX9, Or.inr (Or.inr (Or.inr ⟨rfl, Or.inr ⟨_, rfl⟩⟩)), rfl⟩
theorem wd_1152 : Cond.methodLink RX2 61 Lib.Math.abs.name ∈ lw_g := gw (wt_5 (List.mem_of_getElem? (i := 84) rfl)) rfl
theorem wd_193 : Cond.fieldLink RX2 67 "SlackRace$State" "limits" "[I" ∈ lw_g := gw (wt_1 (List.mem_of_getElem? (i := 85) rfl)) rfl
theorem f_X2_67 : fF RX2 67 6 10 2 true := ⟨_, TX6, 19, tyX6, rfl, inX6, by decide, wd_193, rfl, tyX6_ok, nmX6, Or.inr (Or.inr (Or.inr ⟨rfl, Or.inr ⟨_, rfl⟩⟩)), rfl⟩
theorem wd_190 : Cond.fieldLink RX2 70 "SlackRace$State" "passes" "[I" ∈ lw_g := gw (wt_1 (List.mem_of_getElem? (i := 82) rfl)) rfl
theorem f_X2_70 : fF RX2 70 6 9 2 true := ⟨_, TX6, 19, tyX6, rfl, inX6, by decide, wd_190, rfl, tyX6_ok, nmX6, Or.inr (Or.inr (Or.inr ⟨rfl, Or.inr ⟨_, rfl⟩⟩)), rfl⟩
theorem wd_446 : Cond.fieldLink RX2 15 "SlackRace$Locks" "tried" "[I" ∈ lw_g := gw (wt_2 (List.mem_of_getElem? (i := 98) rfl)) rfl
theorem f_X2_15 : fF RX2 15 2 3 2 true := ⟨_, TX2, 9, tyX2, rfl, inX2, by decide, wd_446, rfl, tyX2_ok, nmX2, Or.inr (Or.inr (Or.inr ⟨rfl, Or.inr ⟨_, rfl⟩⟩)), rfl⟩
theorem q_69_3 : rs 69 3 = some 70 := rfl
theorem wd_448 : Cond.fieldLink RX2 21 "SlackRace$Locks" "bestOrder" "[I" ∈ lw_g := gw (wt_2 (List.mem_of_getElem? (i := 100) rfl)) rfl
theorem f_X2_21 : fF RX2 21 2 5 2 true := ⟨_, TX2, 9, tyX2, rfl, inX2, by decide, wd_448, rfl, tyX2_ok, nmX2, Or.inr (Or.inr (Or.inr ⟨rfl, Or.inr ⟨_, rfl⟩⟩)), rfl⟩
theorem q_69_5 : rs 69 5 = some 72 := rfl
theorem wd_1157 : Cond.methodLink RX2 73 arraycopyName ∈ lw_g := gw (wt_5 (List.mem_of_getElem? (i := 89) rfl)) rfl
theorem wd_447 : Cond.fieldLink RX2 18 "SlackRace$Locks" "triedBegins" "[I" ∈ lw_g := gw (wt_2 (List.mem_of_getElem? (i := 99) rfl)) rfl
theorem f_X2_18 : fF RX2 18 2 4 2 true := ⟨_, TX2, 9, tyX2, rfl, inX2, by decide, wd_447, rfl, tyX2_ok, nmX2, Or.inr (Or.inr (Or.inr ⟨rfl, Or.inr ⟨_, rfl⟩⟩)), rfl⟩
theorem q_69_4 : rs 69 4 = some 71 := rfl
theorem wd_450 : Cond.fieldLink RX2 24 "SlackRace$Locks" "bestBegins" "[I" ∈ lw_g := gw (wt_2 (List.mem_of_getElem? (i := 102) rfl)) rfl
theorem f_X2_24 : fF RX2 24 2 6 2 true := ⟨_, TX2, 9, tyX2, rfl, inX2, by decide, wd_450, rfl, tyX2_ok, nmX2, Or.inr (Or.inr (Or.inr ⟨rfl, Or.inr ⟨_, rfl⟩⟩)), rfl⟩
theorem wd_187 : Cond.fieldLink RX2 79 "SlackRace$State" "readies" "[I" ∈ lw_g := gw (wt_1 (List.mem_of_getElem? (i := 79) rfl)) rfl
theorem f_X2_79 : fF RX2 79 6 8 2 true := ⟨_, TX6, 19, tyX6, rfl, inX6, by decide, wd_187, rfl, tyX6_ok, nmX6, Or.inr (Or.inr (Or.inr ⟨rfl, Or.inr ⟨_, rfl⟩⟩)), rfl⟩
theorem wd_1158 : Cond.methodLink RX2 82 Lib.Math.max.name ∈ lw_g := gw (wt_5 (List.mem_of_getElem? (i := 90) rfl)) rfl
theorem n_70 {h : Hp} : nd h 70 0 6 := nd_of (by decide) rfl
theorem n_71 {h : Hp} : nd h 71 0 6 := nd_of (by decide) rfl
theorem wd_449 : Cond.fieldLink RX11 295 "SlackRace$Locks" "bestOrder" "[I" ∈ lw_g := gw (wt_2 (List.mem_of_getElem? (i := 101) rfl)) rfl
theorem f_X11_295 : fF RX11 295 2 5 2 true := ⟨_, TX2, 9, tyX2, rfl, inX2, by decide, wd_449, rfl, tyX2_ok, nmX2, Or.inr (Or.inr (Or.inr ⟨rfl, Or.inr ⟨_, rfl⟩⟩)), rfl⟩
theorem n_72 {h : Hp} : nd h 72 0 6 := nd_of (by decide) rfl
theorem wd_188 : Cond.fieldLink RX11 276 "SlackRace$State" "readies" "[I" ∈ lw_g := gw (wt_1 (List.mem_of_getElem? (i := 80) rfl)) rfl
theorem f_X11_276 : fF RX11 276 6 8 2 true := ⟨_, TX6, 19, tyX6, rfl, inX6, by decide, wd_188, rfl, tyX6_ok, nmX6, Or.inr (Or.inr (Or.inr ⟨rfl, Or.inr ⟨_, rfl⟩⟩)), rfl⟩
theorem wd_191 : Cond.fieldLink RX11 279 "SlackRace$State" "passes" "[I" ∈ lw_g := gw (wt_1 (List.mem_of_getElem? (i := 83) rfl)) rfl
theorem f_X11_279 : fF RX11 279 6 9 2 true := ⟨_, TX6, 19, tyX6, rfl, inX6, by decide, wd_191, rfl, tyX6_ok, nmX6, Or.inr (Or.inr (Or.inr ⟨rfl, Or.inr ⟨_, rfl⟩⟩)), rfl⟩
theorem wd_194 : Cond.fieldLink RX11 282 "SlackRace$State" "limits" "[I" ∈ lw_g := gw (wt_1 (List.mem_of_getElem? (i := 86) rfl)) rfl
theorem f_X11_282 : fF RX11 282 6 10 2 true := ⟨_, TX6, 19, tyX6, rfl, inX6, by decide, wd_194, rfl, tyX6_ok, nmX6, Or.inr (Or.inr (Or.inr ⟨rfl, Or.inr ⟨_, rfl⟩⟩)), rfl⟩
theorem wd_1018 : Cond.code yX11_isBoat cX11_isBoat 2 (some .boolean) ∈ lw_g := gw (wt_4 (List.mem_of_getElem? (i := 190) rfl)) rfl
theorem wd_1015 : Cond.methodLink RX11 238 yX11_isBoat ∈ lw_g := gw (wt_4 (List.mem_of_getElem? (i := 187) rfl)) rfl
theorem wd_1017 : Cond.instanceMethod yX11_isBoat ∈ lw_g := gw (wt_4 (List.mem_of_getElem? (i := 189) rfl)) rfl
theorem wd_31 : Cond.selects RX11 yX11_isBoat yX11_isBoat ∈ lw_g := gw (wt_0 (List.mem_of_getElem? (i := 31) rfl)) rfl
theorem l_X11_238 : cV RX11 238 11 RX11 yX11_isBoat cX11_isBoat 2 (some .boolean) 1 := ⟨wd_1015, wd_1017, wd_31, wd_109, wd_1018, by decide +kernel, TX11, _, rfl⟩
theorem wd_116 : Cond.initialized RX10 ∈ lw_g := gw (wt_1 (List.mem_of_getElem? (i := 8) rfl)) rfl
theorem wd_1134 : Cond.code yX10_widestSlip cX10_widestSlip 5 (some .int) ∈ lw_g := gw (wt_5 (List.mem_of_getElem? (i := 66) rfl)) rfl
theorem wd_1131 : Cond.methodLink RX11 270 yX10_widestSlip ∈ lw_g := gw (wt_5 (List.mem_of_getElem? (i := 63) rfl)) rfl
theorem wd_1132 : Cond.instanceMethod yX10_widestSlip ∈ lw_g := gw (wt_5 (List.mem_of_getElem? (i := 64) rfl)) rfl
theorem wd_1133 : Cond.selects RX10 yX10_widestSlip yX10_widestSlip ∈ lw_g := gw (wt_5 (List.mem_of_getElem? (i := 65) rfl)) rfl
theorem l_X11_270 : cV RX11 270 10 RX10 yX10_widestSlip cX10_widestSlip 5 (some .int) 3 := ⟨wd_1131, wd_1132, wd_1133, wd_116, wd_1134, by decide +kernel, TX10, _, rfl⟩
theorem wd_1114 : Cond.code yX10_movesDone cX10_movesDone 13 (some .int) ∈ lw_g := gw (wt_5 (List.mem_of_getElem? (i := 46) rfl)) rfl
theorem wd_1135 : Cond.methodLink RX10 159 yX10_movesDone ∈ lw_g := gw (wt_5 (List.mem_of_getElem? (i := 67) rfl)) rfl
theorem wd_1112 : Cond.instanceMethod yX10_movesDone ∈ lw_g := gw (wt_5 (List.mem_of_getElem? (i := 44) rfl)) rfl
theorem wd_1113 : Cond.selects RX10 yX10_movesDone yX10_movesDone ∈ lw_g := gw (wt_5 (List.mem_of_getElem? (i := 45) rfl)) rfl
theorem l_X10_159 : cV RX10 159 10 RX10 yX10_movesDone cX10_movesDone 13 (some .int) 4 := ⟨wd_1135, wd_1112, wd_1113, wd_116, wd_1114, by decide +kernel, TX10, _, rfl⟩
theorem wd_396 : Cond.fieldLink RX10 47 "SlackRace$Ways" "state" "LSlackRace$State;" ∈ lw_g := gw (wt_2 (List.mem_of_getElem? (i := 48) rfl)) rfl
theorem f_X10_47 : fF RX10 47 10 0 2 true := ⟨_, TX10, 13, tyX10, rfl, inX10, by decide, wd_396, rfl, tyX10_ok, nmX10, Or.inr (Or.inr (Or.inr ⟨rfl, Or.inl ⟨_, rfl⟩⟩)), rfl⟩
theorem q_58_0 : rs 58 0 = some 1 := rfl
theorem wd_208 : Cond.fieldLink RX10 149 "SlackRace$State" "planLength" "I" ∈ lw_g := gw (wt_1 (List.mem_of_getElem? (i := 100) rfl)) rfl
theorem f_X10_149 : fF RX10 149 6 16 0 false := ⟨_, TX6, 19, tyX6, rfl, inX6, by decide, wd_208, rfl, tyX6_ok, nmX6, Or.inl ⟨rfl, rfl⟩, rfl⟩
theorem wd_178 : Cond.fieldLink RX10 69 "SlackRace$State" "paces" "[I" ∈ lw_g := gw (wt_1 (List.mem_of_getElem? (i := 70) rfl)) rfl
theorem f_X10_69 : fF RX10 69 6 5 2 true := ⟨_, TX6, 19, tyX6, rfl, inX6, by decide, wd_178, rfl, tyX6_ok, nmX6, Or.inr (Or.inr (Or.inr ⟨rfl, Or.inr ⟨_, rfl⟩⟩)), rfl⟩
theorem wd_181 : Cond.fieldLink RX10 72 "SlackRace$State" "bears" "[I" ∈ lw_g := gw (wt_1 (List.mem_of_getElem? (i := 73) rfl)) rfl
theorem f_X10_72 : fF RX10 72 6 6 2 true := ⟨_, TX6, 19, tyX6, rfl, inX6, by decide, wd_181, rfl, tyX6_ok, nmX6, Or.inr (Or.inr (Or.inr ⟨rfl, Or.inr ⟨_, rfl⟩⟩)), rfl⟩
theorem wd_1117 : Cond.code yX10_slipped cX10_slipped 2 (some .int) ∈ lw_g := gw (wt_5 (List.mem_of_getElem? (i := 49) rfl)) rfl
theorem wd_1116 : Cond.static yX10_slipped ∈ lw_g := gw (wt_5 (List.mem_of_getElem? (i := 48) rfl)) rfl
theorem wd_1115 : Cond.methodLink RX10 142 yX10_slipped ∈ lw_g := gw (wt_5 (List.mem_of_getElem? (i := 47) rfl)) rfl
theorem l_X10_142 : cS RX10 142 yX10_slipped cX10_slipped 2 (some .int) 2 := ⟨wd_1115, wd_1116, wd_116, wd_1117, by decide +kernel⟩
theorem wd_1122 : Cond.code yX10_isOpen cX10_isOpen 5 (some .boolean) ∈ lw_g := gw (wt_5 (List.mem_of_getElem? (i := 54) rfl)) rfl
theorem wd_1119 : Cond.methodLink RX10 145 yX10_isOpen ∈ lw_g := gw (wt_5 (List.mem_of_getElem? (i := 51) rfl)) rfl
theorem wd_1121 : Cond.instanceMethod yX10_isOpen ∈ lw_g := gw (wt_5 (List.mem_of_getElem? (i := 53) rfl)) rfl
theorem wd_38 : Cond.selects RX10 yX10_isOpen yX10_isOpen ∈ lw_g := gw (wt_0 (List.mem_of_getElem? (i := 38) rfl)) rfl
theorem l_X10_145 : cV RX10 145 10 RX10 yX10_isOpen cX10_isOpen 5 (some .boolean) 3 := ⟨wd_1119, wd_1121, wd_38, wd_116, wd_1122, by decide +kernel, TX10, _, rfl⟩
theorem wd_184 : Cond.fieldLink RX10 153 "SlackRace$State" "plan" "[I" ∈ lw_g := gw (wt_1 (List.mem_of_getElem? (i := 76) rfl)) rfl
theorem f_X10_153 : fF RX10 153 6 7 2 true := ⟨_, TX6, 19, tyX6, rfl, inX6, by decide, wd_184, rfl, tyX6_ok, nmX6, Or.inr (Or.inr (Or.inr ⟨rfl, Or.inr ⟨_, rfl⟩⟩)), rfl⟩
theorem wd_1089 : Cond.code yX10_cellBy cX10_cellBy 2 (some .int) ∈ lw_g := gw (wt_5 (List.mem_of_getElem? (i := 21) rfl)) rfl
theorem wd_1088 : Cond.static yX10_cellBy ∈ lw_g := gw (wt_5 (List.mem_of_getElem? (i := 20) rfl)) rfl
theorem wd_1087 : Cond.methodLink RX10 139 yX10_cellBy ∈ lw_g := gw (wt_5 (List.mem_of_getElem? (i := 19) rfl)) rfl
theorem l_X10_139 : cS RX10 139 yX10_cellBy cX10_cellBy 2 (some .int) 2 := ⟨wd_1087, wd_1088, wd_116, wd_1089, by decide +kernel⟩
theorem wd_397 : Cond.fieldLink RX10 51 "SlackRace$Ways" "water" "LSlackRace$Water;" ∈ lw_g := gw (wt_2 (List.mem_of_getElem? (i := 49) rfl)) rfl
theorem f_X10_51 : fF RX10 51 10 1 2 true := ⟨_, TX10, 13, tyX10, rfl, inX10, by decide, wd_397, rfl, tyX10_ok, nmX10, Or.inr (Or.inr (Or.inr ⟨rfl, Or.inl ⟨_, rfl⟩⟩)), rfl⟩
theorem q_58_1 : rs 58 1 = some 50 := rfl
theorem wd_172 : Cond.fieldLink RX10 64 "SlackRace$State" "kinds" "[I" ∈ lw_g := gw (wt_1 (List.mem_of_getElem? (i := 64) rfl)) rfl
theorem f_X10_64 : fF RX10 64 6 3 2 true := ⟨_, TX6, 19, tyX6, rfl, inX6, by decide, wd_172, rfl, tyX6_ok, nmX6, Or.inr (Or.inr (Or.inr ⟨rfl, Or.inr ⟨_, rfl⟩⟩)), rfl⟩
theorem wd_1030 : Cond.methodLink RX10 79 yX9_flowOf ∈ lw_g := gw (wt_4 (List.mem_of_getElem? (i := 202) rfl)) rfl
theorem l_X10_79 : cV RX10 79 9 RX9 yX9_flowOf cX9_flowOf 3 (some .int) 2 := ⟨wd_1030, wd_958, wd_959, wd_114, wd_960, by decide +kernel, TX9, _, rfl⟩
theorem wd_1126 : Cond.code yX10_canMove cX10_canMove 4 (some .boolean) ∈ lw_g := gw (wt_5 (List.mem_of_getElem? (i := 58) rfl)) rfl
theorem wd_1123 : Cond.methodLink RX10 156 yX10_canMove ∈ lw_g := gw (wt_5 (List.mem_of_getElem? (i := 55) rfl)) rfl
theorem wd_1125 : Cond.instanceMethod yX10_canMove ∈ lw_g := gw (wt_5 (List.mem_of_getElem? (i := 57) rfl)) rfl
theorem wd_39 : Cond.selects RX10 yX10_canMove yX10_canMove ∈ lw_g := gw (wt_0 (List.mem_of_getElem? (i := 39) rfl)) rfl
theorem l_X10_156 : cV RX10 156 10 RX10 yX10_canMove cX10_canMove 4 (some .boolean) 3 := ⟨wd_1123, wd_1125, wd_39, wd_116, wd_1126, by decide +kernel, TX10, _, rfl⟩
theorem wd_169 : Cond.fieldLink RX10 94 "SlackRace$State" "terms" "[I" ∈ lw_g := gw (wt_1 (List.mem_of_getElem? (i := 61) rfl)) rfl
theorem f_X10_94 : fF RX10 94 6 2 2 true := ⟨_, TX6, 19, tyX6, rfl, inX6, by decide, wd_169, rfl, tyX6_ok, nmX6, Or.inr (Or.inr (Or.inr ⟨rfl, Or.inr ⟨_, rfl⟩⟩)), rfl⟩
theorem wd_1037 : Cond.methodLink RX10 88 Lib.Math.abs.name ∈ lw_g := gw (wt_4 (List.mem_of_getElem? (i := 209) rfl)) rfl
theorem wd_965 : Cond.code yX9_whiteOf cX9_whiteOf 9 (some .int) ∈ lw_g := gw (wt_4 (List.mem_of_getElem? (i := 137) rfl)) rfl
theorem wd_1031 : Cond.methodLink RX10 85 yX9_whiteOf ∈ lw_g := gw (wt_4 (List.mem_of_getElem? (i := 203) rfl)) rfl
theorem wd_963 : Cond.instanceMethod yX9_whiteOf ∈ lw_g := gw (wt_4 (List.mem_of_getElem? (i := 135) rfl)) rfl
theorem wd_964 : Cond.selects RX9 yX9_whiteOf yX9_whiteOf ∈ lw_g := gw (wt_4 (List.mem_of_getElem? (i := 136) rfl)) rfl
theorem l_X10_85 : cV RX10 85 9 RX9 yX9_whiteOf cX9_whiteOf 9 (some .int) 2 := ⟨wd_1031, wd_963, wd_964, wd_114, wd_965, by decide +kernel, TX9, _, rfl⟩
theorem wd_966 : Cond.methodLink RX9 155 yX9_flowOf ∈ lw_g := gw (wt_4 (List.mem_of_getElem? (i := 138) rfl)) rfl
theorem l_X9_155 : cV RX9 155 9 RX9 yX9_flowOf cX9_flowOf 3 (some .int) 2 := ⟨wd_966, wd_958, wd_959, wd_114, wd_960, by decide +kernel, TX9, _, rfl⟩
theorem wd_967 : Cond.methodLink RX9 158 yX9_levelToday ∈ lw_g := gw (wt_4 (List.mem_of_getElem? (i := 139) rfl)) rfl
theorem l_X9_158 : cV RX9 158 9 RX9 yX9_levelToday cX9_levelToday 3 (some .int) 2 := ⟨wd_967, wd_888, wd_889, wd_114, wd_890, by decide +kernel, TX9, _, rfl⟩
theorem l_X10_163 : cN RX10 163 "SlackRace" yX11_nearest cX11_nearest 3 (some .int) 3 := ⟨List.mem_of_getElem? (i := 7) (by decide +kernel), wd_939, wd_109, wd_940, by decide +kernel⟩
theorem wd_1111 : Cond.methodLink RX11 267 yX10_movesDone ∈ lw_g := gw (wt_5 (List.mem_of_getElem? (i := 43) rfl)) rfl
theorem l_X11_267 : cV RX11 267 10 RX10 yX10_movesDone cX10_movesDone 13 (some .int) 4 := ⟨wd_1111, wd_1112, wd_1113, wd_116, wd_1114, by decide +kernel, TX10, _, rfl⟩
theorem wd_185 : Cond.fieldLink RX11 264 "SlackRace$State" "plan" "[I" ∈ lw_g := gw (wt_1 (List.mem_of_getElem? (i := 77) rfl)) rfl
theorem f_X11_264 : fF RX11 264 6 7 2 true := ⟨_, TX6, 19, tyX6, rfl, inX6, by decide, wd_185, rfl, tyX6_ok, nmX6, Or.inr (Or.inr (Or.inr ⟨rfl, Or.inr ⟨_, rfl⟩⟩)), rfl⟩
theorem wd_1025 : Cond.code yX10_survey cX10_survey 3 (none) ∈ lw_g := gw (wt_4 (List.mem_of_getElem? (i := 197) rfl)) rfl
theorem wd_1022 : Cond.methodLink RX11 244 yX10_survey ∈ lw_g := gw (wt_4 (List.mem_of_getElem? (i := 194) rfl)) rfl
theorem wd_1023 : Cond.instanceMethod yX10_survey ∈ lw_g := gw (wt_4 (List.mem_of_getElem? (i := 195) rfl)) rfl
theorem wd_1024 : Cond.selects RX10 yX10_survey yX10_survey ∈ lw_g := gw (wt_4 (List.mem_of_getElem? (i := 196) rfl)) rfl
theorem l_X11_244 : cV RX11 244 10 RX10 yX10_survey cX10_survey 3 (none) 1 := ⟨wd_1022, wd_1023, wd_1024, wd_116, wd_1025, by decide +kernel, TX10, _, rfl⟩
theorem wd_1098 : Cond.code yX10_lastStart cX10_lastStart 9 (some .int) ∈ lw_g := gw (wt_5 (List.mem_of_getElem? (i := 30) rfl)) rfl
theorem wd_1095 : Cond.methodLink RX11 258 yX10_lastStart ∈ lw_g := gw (wt_5 (List.mem_of_getElem? (i := 27) rfl)) rfl
theorem wd_1096 : Cond.instanceMethod yX10_lastStart ∈ lw_g := gw (wt_5 (List.mem_of_getElem? (i := 28) rfl)) rfl
theorem wd_1097 : Cond.selects RX10 yX10_lastStart yX10_lastStart ∈ lw_g := gw (wt_5 (List.mem_of_getElem? (i := 29) rfl)) rfl
theorem l_X11_258 : cV RX11 258 10 RX10 yX10_lastStart cX10_lastStart 9 (some .int) 3 := ⟨wd_1095, wd_1096, wd_1097, wd_116, wd_1098, by decide +kernel, TX10, _, rfl⟩
theorem wd_401 : Cond.fieldLink RX10 22 "SlackRace$Ways" "open" "[J" ∈ lw_g := gw (wt_2 (List.mem_of_getElem? (i := 53) rfl)) rfl
theorem f_X10_22 : fF RX10 22 10 5 2 true := ⟨_, TX10, 13, tyX10, rfl, inX10, by decide, wd_401, rfl, tyX10_ok, nmX10, Or.inr (Or.inr (Or.inr ⟨rfl, Or.inr ⟨_, rfl⟩⟩)), rfl⟩
theorem q_58_5 : rs 58 5 = some 62 := rfl
theorem n_62 {h : Hp} : nd h 62 1 144 := nd_of (by decide) rfl
theorem wd_1046 : Cond.code yX10_has cX10_has 3 (some .boolean) ∈ lw_g := gw (wt_4 (List.mem_of_getElem? (i := 218) rfl)) rfl
theorem wd_1045 : Cond.static yX10_has ∈ lw_g := gw (wt_4 (List.mem_of_getElem? (i := 217) rfl)) rfl
theorem wd_1044 : Cond.methodLink RX10 103 yX10_has ∈ lw_g := gw (wt_4 (List.mem_of_getElem? (i := 216) rfl)) rfl
theorem l_X10_103 : cS RX10 103 yX10_has cX10_has 3 (some .boolean) 2 := ⟨wd_1044, wd_1045, wd_116, wd_1046, by decide +kernel⟩
theorem wd_1064 : Cond.code yX10_reaching cX10_reaching 6 (some .long) ∈ lw_g := gw (wt_4 (List.mem_of_getElem? (i := 236) rfl)) rfl
theorem wd_1061 : Cond.methodLink RX10 115 yX10_reaching ∈ lw_g := gw (wt_4 (List.mem_of_getElem? (i := 233) rfl)) rfl
theorem wd_1063 : Cond.instanceMethod yX10_reaching ∈ lw_g := gw (wt_4 (List.mem_of_getElem? (i := 235) rfl)) rfl
theorem wd_35 : Cond.selects RX10 yX10_reaching yX10_reaching ∈ lw_g := gw (wt_0 (List.mem_of_getElem? (i := 35) rfl)) rfl
theorem l_X10_115 : cV RX10 115 10 RX10 yX10_reaching cX10_reaching 6 (some .long) 2 := ⟨wd_1061, wd_1063, wd_35, wd_116, wd_1064, by decide +kernel, TX10, _, rfl⟩
theorem wd_402 : Cond.fieldLink RX10 25 "SlackRace$Ways" "holds" "[J" ∈ lw_g := gw (wt_2 (List.mem_of_getElem? (i := 54) rfl)) rfl
theorem f_X10_25 : fF RX10 25 10 6 2 true := ⟨_, TX10, 13, tyX10, rfl, inX10, by decide, wd_402, rfl, tyX10_ok, nmX10, Or.inr (Or.inr (Or.inr ⟨rfl, Or.inr ⟨_, rfl⟩⟩)), rfl⟩
theorem q_58_6 : rs 58 6 = some 63 := rfl
theorem n_63 {h : Hp} : nd h 63 1 144 := nd_of (by decide) rfl
theorem wd_403 : Cond.fieldLink RX10 28 "SlackRace$Ways" "runsOn" "[J" ∈ lw_g := gw (wt_2 (List.mem_of_getElem? (i := 55) rfl)) rfl
theorem f_X10_28 : fF RX10 28 10 7 2 true := ⟨_, TX10, 13, tyX10, rfl, inX10, by decide, wd_403, rfl, tyX10_ok, nmX10, Or.inr (Or.inr (Or.inr ⟨rfl, Or.inr ⟨_, rfl⟩⟩)), rfl⟩
theorem q_58_7 : rs 58 7 = some 64 := rfl
theorem n_64 {h : Hp} : nd h 64 1 144 := nd_of (by decide) rfl
theorem wd_404 : Cond.fieldLink RX10 31 "SlackRace$Ways" "runsBack" "[J" ∈ lw_g := gw (wt_2 (List.mem_of_getElem? (i := 56) rfl)) rfl
theorem f_X10_31 : fF RX10 31 10 8 2 true := ⟨_, TX10, 13, tyX10, rfl, inX10, by decide, wd_404, rfl, tyX10_ok, nmX10, Or.inr (Or.inr (Or.inr ⟨rfl, Or.inr ⟨_, rfl⟩⟩)), rfl⟩
theorem q_58_8 : rs 58 8 = some 65 := rfl
theorem n_65 {h : Hp} : nd h 65 1 144 := nd_of (by decide) rfl
theorem wd_1051 : Cond.constantLong RX10 101 (1125899906842623) ∈ lw_g := gw (wt_4 (List.mem_of_getElem? (i := 223) rfl)) rfl
theorem wd_1029 : Cond.code yX10_freshenSteps cX10_freshenSteps 4 (none) ∈ lw_g := gw (wt_4 (List.mem_of_getElem? (i := 201) rfl)) rfl
theorem wd_1026 : Cond.methodLink RX10 55 yX10_freshenSteps ∈ lw_g := gw (wt_4 (List.mem_of_getElem? (i := 198) rfl)) rfl
theorem wd_1028 : Cond.instanceMethod yX10_freshenSteps ∈ lw_g := gw (wt_4 (List.mem_of_getElem? (i := 200) rfl)) rfl
theorem wd_32 : Cond.selects RX10 yX10_freshenSteps yX10_freshenSteps ∈ lw_g := gw (wt_0 (List.mem_of_getElem? (i := 32) rfl)) rfl
theorem l_X10_55 : cV RX10 55 10 RX10 yX10_freshenSteps cX10_freshenSteps 4 (none) 0 := ⟨wd_1026, wd_1028, wd_32, wd_116, wd_1029, by decide +kernel, TX10, _, rfl⟩
theorem wd_400 : Cond.fieldLink RX10 18 "SlackRace$Ways" "ofKind" "[J" ∈ lw_g := gw (wt_2 (List.mem_of_getElem? (i := 52) rfl)) rfl
theorem f_X10_18 : fF RX10 18 10 4 2 true := ⟨_, TX10, 13, tyX10, rfl, inX10, by decide, wd_400, rfl, tyX10_ok, nmX10, Or.inr (Or.inr (Or.inr ⟨rfl, Or.inr ⟨_, rfl⟩⟩)), rfl⟩
theorem q_58_4 : rs 58 4 = some 61 := rfl
theorem wd_1032 : Cond.methodLink RX10 58 yJ7_fill_d0a16 ∈ lw_g := gw (wt_4 (List.mem_of_getElem? (i := 204) rfl)) rfl
theorem l_X10_58 : cS RX10 58 yJ7_fill_d0a16 cJ7_fill_d0a16 5 (none) 2 := ⟨wd_1032, wd_338, wd_111, wd_339, by decide +kernel⟩
theorem n_61 {h : Hp} : nd h 61 1 6 := nd_of (by decide) rfl
theorem wd_1036 : Cond.code yX10_surveyStep cX10_surveyStep 16 (none) ∈ lw_g := gw (wt_4 (List.mem_of_getElem? (i := 208) rfl)) rfl
theorem wd_1033 : Cond.methodLink RX10 75 yX10_surveyStep ∈ lw_g := gw (wt_4 (List.mem_of_getElem? (i := 205) rfl)) rfl
theorem wd_1035 : Cond.instanceMethod yX10_surveyStep ∈ lw_g := gw (wt_4 (List.mem_of_getElem? (i := 207) rfl)) rfl
theorem wd_33 : Cond.selects RX10 yX10_surveyStep yX10_surveyStep ∈ lw_g := gw (wt_0 (List.mem_of_getElem? (i := 33) rfl)) rfl
theorem l_X10_75 : cV RX10 75 10 RX10 yX10_surveyStep cX10_surveyStep 16 (none) 3 := ⟨wd_1033, wd_1035, wd_33, wd_116, wd_1036, by decide +kernel, TX10, _, rfl⟩
theorem wd_1038 : Cond.constantLong RX10 97 (-563500246630913) ∈ lw_g := gw (wt_4 (List.mem_of_getElem? (i := 210) rfl)) rfl
theorem wd_1039 : Cond.constantLong RX10 99 (-1100586419202) ∈ lw_g := gw (wt_4 (List.mem_of_getElem? (i := 211) rfl)) rfl
theorem wd_398 : Cond.fieldLink RX10 11 "SlackRace$Ways" "stepFlow" "[I" ∈ lw_g := gw (wt_2 (List.mem_of_getElem? (i := 50) rfl)) rfl
theorem f_X10_11 : fF RX10 11 10 2 2 true := ⟨_, TX10, 13, tyX10, rfl, inX10, by decide, wd_398, rfl, tyX10_ok, nmX10, Or.inr (Or.inr (Or.inr ⟨rfl, Or.inr ⟨_, rfl⟩⟩)), rfl⟩
theorem q_58_2 : rs 58 2 = some 59 := rfl
theorem n_59 {h : Hp} : nd h 59 0 864 := nd_of (by decide) rfl
theorem wd_399 : Cond.fieldLink RX10 15 "SlackRace$Ways" "stepWhite" "[I" ∈ lw_g := gw (wt_2 (List.mem_of_getElem? (i := 51) rfl)) rfl
theorem f_X10_15 : fF RX10 15 10 3 2 true := ⟨_, TX10, 13, tyX10, rfl, inX10, by decide, wd_399, rfl, tyX10_ok, nmX10, Or.inr (Or.inr (Or.inr ⟨rfl, Or.inr ⟨_, rfl⟩⟩)), rfl⟩
theorem q_58_3 : rs 58 3 = some 60 := rfl
theorem n_60 {h : Hp} : nd h 60 0 864 := nd_of (by decide) rfl
theorem wd_408 : Cond.fieldLink RX10 43 "SlackRace$Ways" "stepsFresh" "Z" ∈ lw_g := gw (wt_2 (List.mem_of_getElem? (i := 60) rfl)) rfl
theorem f_X10_43 : fF RX10 43 10 12 3 false := ⟨_, TX10, 13, tyX10, rfl, inX10, by decide, wd_408, rfl, tyX10_ok, nmX10, Or.inr (Or.inl ⟨rfl, rfl⟩), rfl⟩
theorem wd_1076 : Cond.code yX10_leastWhite cX10_leastWhite 9 (some .int) ∈ lw_g := gw (wt_5 (List.mem_of_getElem? (i := 8) rfl)) rfl
theorem wd_1073 : Cond.methodLink RX11 255 yX10_leastWhite ∈ lw_g := gw (wt_5 (List.mem_of_getElem? (i := 5) rfl)) rfl
theorem wd_1074 : Cond.instanceMethod yX10_leastWhite ∈ lw_g := gw (wt_5 (List.mem_of_getElem? (i := 6) rfl)) rfl
theorem wd_1075 : Cond.selects RX10 yX10_leastWhite yX10_leastWhite ∈ lw_g := gw (wt_5 (List.mem_of_getElem? (i := 7) rfl)) rfl
theorem l_X11_255 : cV RX11 255 10 RX10 yX10_leastWhite cX10_leastWhite 9 (some .int) 3 := ⟨wd_1073, wd_1074, wd_1075, wd_116, wd_1076, by decide +kernel, TX10, _, rfl⟩
theorem wd_406 : Cond.fieldLink RX10 37 "SlackRace$Ways" "evenCost" "[I" ∈ lw_g := gw (wt_2 (List.mem_of_getElem? (i := 58) rfl)) rfl
theorem f_X10_37 : fF RX10 37 10 10 2 true := ⟨_, TX10, 13, tyX10, rfl, inX10, by decide, wd_406, rfl, tyX10_ok, nmX10, Or.inr (Or.inr (Or.inr ⟨rfl, Or.inr ⟨_, rfl⟩⟩)), rfl⟩
theorem q_58_10 : rs 58 10 = some 67 := rfl
theorem wd_407 : Cond.fieldLink RX10 40 "SlackRace$Ways" "oddCost" "[I" ∈ lw_g := gw (wt_2 (List.mem_of_getElem? (i := 59) rfl)) rfl
theorem f_X10_40 : fF RX10 40 10 11 2 true := ⟨_, TX10, 13, tyX10, rfl, inX10, by decide, wd_407, rfl, tyX10_ok, nmX10, Or.inr (Or.inr (Or.inr ⟨rfl, Or.inr ⟨_, rfl⟩⟩)), rfl⟩
theorem q_58_11 : rs 58 11 = some 68 := rfl
theorem wd_1077 : Cond.constant RX10 125 (1000000) ∈ lw_g := gw (wt_5 (List.mem_of_getElem? (i := 9) rfl)) rfl
theorem wd_1078 : Cond.methodLink RX10 126 yJ7_fill_53178 ∈ lw_g := gw (wt_5 (List.mem_of_getElem? (i := 10) rfl)) rfl
theorem l_X10_126 : cS RX10 126 yJ7_fill_53178 cJ7_fill_53178 4 (none) 2 := ⟨wd_1078, wd_157, wd_111, wd_158, by decide +kernel⟩
theorem wd_1082 : Cond.code yX10_whiteAt cX10_whiteAt 3 (some .int) ∈ lw_g := gw (wt_5 (List.mem_of_getElem? (i := 14) rfl)) rfl
theorem wd_1079 : Cond.methodLink RX10 129 yX10_whiteAt ∈ lw_g := gw (wt_5 (List.mem_of_getElem? (i := 11) rfl)) rfl
theorem wd_1081 : Cond.instanceMethod yX10_whiteAt ∈ lw_g := gw (wt_5 (List.mem_of_getElem? (i := 13) rfl)) rfl
theorem wd_36 : Cond.selects RX10 yX10_whiteAt yX10_whiteAt ∈ lw_g := gw (wt_0 (List.mem_of_getElem? (i := 36) rfl)) rfl
theorem l_X10_129 : cV RX10 129 10 RX10 yX10_whiteAt cX10_whiteAt 3 (some .int) 2 := ⟨wd_1079, wd_1081, wd_36, wd_116, wd_1082, by decide +kernel, TX10, _, rfl⟩
theorem n_67 {h : Hp} : nd h 67 0 50 := nd_of (by decide) rfl
theorem n_68 {h : Hp} : nd h 68 0 50 := nd_of (by decide) rfl
theorem wd_1090 : Cond.methodLink RX10 136 Lib.Math.min.name ∈ lw_g := gw (wt_5 (List.mem_of_getElem? (i := 22) rfl)) rfl
theorem wd_1086 : Cond.code yX10_offer cX10_offer 9 (none) ∈ lw_g := gw (wt_5 (List.mem_of_getElem? (i := 18) rfl)) rfl
theorem wd_1083 : Cond.methodLink RX10 132 yX10_offer ∈ lw_g := gw (wt_5 (List.mem_of_getElem? (i := 15) rfl)) rfl
theorem wd_1085 : Cond.instanceMethod yX10_offer ∈ lw_g := gw (wt_5 (List.mem_of_getElem? (i := 17) rfl)) rfl
theorem wd_37 : Cond.selects RX10 yX10_offer yX10_offer ∈ lw_g := gw (wt_0 (List.mem_of_getElem? (i := 37) rfl)) rfl
theorem l_X10_132 : cV RX10 132 10 RX10 yX10_offer cX10_offer 9 (none) 4 := ⟨wd_1083, wd_1085, wd_37, wd_116, wd_1086, by decide +kernel, TX10, _, rfl⟩
theorem wd_1050 : Cond.code yX10_reached cX10_reached 8 (some .long) ∈ lw_g := gw (wt_4 (List.mem_of_getElem? (i := 222) rfl)) rfl
theorem wd_1047 : Cond.methodLink RX10 107 yX10_reached ∈ lw_g := gw (wt_4 (List.mem_of_getElem? (i := 219) rfl)) rfl
theorem wd_1049 : Cond.instanceMethod yX10_reached ∈ lw_g := gw (wt_4 (List.mem_of_getElem? (i := 221) rfl)) rfl
theorem wd_34 : Cond.selects RX10 yX10_reached yX10_reached ∈ lw_g := gw (wt_0 (List.mem_of_getElem? (i := 34) rfl)) rfl
theorem l_X10_107 : cV RX10 107 10 RX10 yX10_reached cX10_reached 8 (some .long) 2 := ⟨wd_1047, wd_1049, wd_34, wd_116, wd_1050, by decide +kernel, TX10, _, rfl⟩
theorem wd_1059 : Cond.code yX10_cellOnWay cX10_cellOnWay 8 (some .int) ∈ lw_g := gw (wt_4 (List.mem_of_getElem? (i := 231) rfl)) rfl
theorem wd_1056 : Cond.methodLink RX11 251 yX10_cellOnWay ∈ lw_g := gw (wt_4 (List.mem_of_getElem? (i := 228) rfl)) rfl
theorem wd_1057 : Cond.instanceMethod yX10_cellOnWay ∈ lw_g := gw (wt_4 (List.mem_of_getElem? (i := 229) rfl)) rfl
theorem wd_1058 : Cond.selects RX10 yX10_cellOnWay yX10_cellOnWay ∈ lw_g := gw (wt_4 (List.mem_of_getElem? (i := 230) rfl)) rfl
theorem l_X11_251 : cV RX11 251 10 RX10 yX10_cellOnWay cX10_cellOnWay 8 (some .int) 4 := ⟨wd_1056, wd_1057, wd_1058, wd_116, wd_1059, by decide +kernel, TX10, _, rfl⟩
theorem wd_1043 : Cond.code yX10_firstStepAt cX10_firstStepAt 7 (some .int) ∈ lw_g := gw (wt_4 (List.mem_of_getElem? (i := 215) rfl)) rfl
theorem wd_1060 : Cond.methodLink RX10 111 yX10_firstStepAt ∈ lw_g := gw (wt_4 (List.mem_of_getElem? (i := 232) rfl)) rfl
theorem wd_1041 : Cond.instanceMethod yX10_firstStepAt ∈ lw_g := gw (wt_4 (List.mem_of_getElem? (i := 213) rfl)) rfl
theorem wd_1042 : Cond.selects RX10 yX10_firstStepAt yX10_firstStepAt ∈ lw_g := gw (wt_4 (List.mem_of_getElem? (i := 214) rfl)) rfl
theorem l_X10_111 : cV RX10 111 10 RX10 yX10_firstStepAt cX10_firstStepAt 7 (some .int) 3 := ⟨wd_1060, wd_1041, wd_1042, wd_116, wd_1043, by decide +kernel, TX10, _, rfl⟩
theorem wd_405 : Cond.fieldLink RX10 34 "SlackRace$Ways" "leads" "[J" ∈ lw_g := gw (wt_2 (List.mem_of_getElem? (i := 57) rfl)) rfl
theorem f_X10_34 : fF RX10 34 10 9 2 true := ⟨_, TX10, 13, tyX10, rfl, inX10, by decide, wd_405, rfl, tyX10_ok, nmX10, Or.inr (Or.inr (Or.inr ⟨rfl, Or.inr ⟨_, rfl⟩⟩)), rfl⟩
theorem q_58_9 : rs 58 9 = some 66 := rfl
theorem n_66 {h : Hp} : nd h 66 1 144 := nd_of (by decide) rfl
theorem wd_1067 : Cond.code yX10_lowest cX10_lowest 4 (some .int) ∈ lw_g := gw (wt_4 (List.mem_of_getElem? (i := 239) rfl)) rfl
theorem wd_1066 : Cond.static yX10_lowest ∈ lw_g := gw (wt_4 (List.mem_of_getElem? (i := 238) rfl)) rfl
theorem wd_1065 : Cond.methodLink RX10 118 yX10_lowest ∈ lw_g := gw (wt_4 (List.mem_of_getElem? (i := 237) rfl)) rfl
theorem l_X10_118 : cS RX10 118 yX10_lowest cX10_lowest 4 (some .int) 2 := ⟨wd_1065, wd_1066, wd_116, wd_1067, by decide +kernel⟩
theorem wd_1068 : Cond.methodLink RX10 122 Lib.Math.max.name ∈ lw_g := gw (wt_5 (List.mem_of_getElem? (i := 0) rfl)) rfl
theorem wd_1040 : Cond.methodLink RX11 247 yX10_firstStepAt ∈ lw_g := gw (wt_4 (List.mem_of_getElem? (i := 212) rfl)) rfl
theorem l_X11_247 : cV RX11 247 10 RX10 yX10_firstStepAt cX10_firstStepAt 7 (some .int) 3 := ⟨wd_1040, wd_1041, wd_1042, wd_116, wd_1043, by decide +kernel, TX10, _, rfl⟩
theorem wd_179 : Cond.fieldLink RX11 232 "SlackRace$State" "paces" "[I" ∈ lw_g := gw (wt_1 (List.mem_of_getElem? (i := 71) rfl)) rfl
theorem f_X11_232 : fF RX11 232 6 5 2 true := ⟨_, TX6, 19, tyX6, rfl, inX6, by decide, wd_179, rfl, tyX6_ok, nmX6, Or.inr (Or.inr (Or.inr ⟨rfl, Or.inr ⟨_, rfl⟩⟩)), rfl⟩
theorem wd_182 : Cond.fieldLink RX11 235 "SlackRace$State" "bears" "[I" ∈ lw_g := gw (wt_1 (List.mem_of_getElem? (i := 74) rfl)) rfl
theorem f_X11_235 : fF RX11 235 6 6 2 true := ⟨_, TX6, 19, tyX6, rfl, inX6, by decide, wd_182, rfl, tyX6_ok, nmX6, Or.inr (Or.inr (Or.inr ⟨rfl, Or.inr ⟨_, rfl⟩⟩)), rfl⟩
theorem wd_1003 : Cond.code yX9_freshenCalm cX9_freshenCalm 1 (none) ∈ lw_g := gw (wt_4 (List.mem_of_getElem? (i := 175) rfl)) rfl
theorem wd_1000 : Cond.methodLink RX11 223 yX9_freshenCalm ∈ lw_g := gw (wt_4 (List.mem_of_getElem? (i := 172) rfl)) rfl
theorem wd_1001 : Cond.instanceMethod yX9_freshenCalm ∈ lw_g := gw (wt_4 (List.mem_of_getElem? (i := 173) rfl)) rfl
theorem wd_1002 : Cond.selects RX9 yX9_freshenCalm yX9_freshenCalm ∈ lw_g := gw (wt_4 (List.mem_of_getElem? (i := 174) rfl)) rfl
theorem l_X11_223 : cV RX11 223 9 RX9 yX9_freshenCalm cX9_freshenCalm 1 (none) 0 := ⟨wd_1000, wd_1001, wd_1002, wd_114, wd_1003, by decide +kernel, TX9, _, rfl⟩
theorem wd_347 : Cond.fieldLink RX11 197 "SlackRace$Water" "today" "[I" ∈ lw_g := gw (wt_1 (List.mem_of_getElem? (i := 239) rfl)) rfl
theorem f_X11_197 : fF RX11 197 9 5 2 true := ⟨_, TX9, 14, tyX9, rfl, inX9, by decide, wd_347, rfl, tyX9_ok, nmX9, Or.inr (Or.inr (Or.inr ⟨rfl, Or.inr ⟨_, rfl⟩⟩)), rfl⟩
theorem wd_987 : Cond.code yX9_slackStart cX9_slackStart 5 (some .int) ∈ lw_g := gw (wt_4 (List.mem_of_getElem? (i := 159) rfl)) rfl
theorem wd_984 : Cond.methodLink RX11 213 yX9_slackStart ∈ lw_g := gw (wt_4 (List.mem_of_getElem? (i := 156) rfl)) rfl
theorem wd_985 : Cond.instanceMethod yX9_slackStart ∈ lw_g := gw (wt_4 (List.mem_of_getElem? (i := 157) rfl)) rfl
theorem wd_986 : Cond.selects RX9 yX9_slackStart yX9_slackStart ∈ lw_g := gw (wt_4 (List.mem_of_getElem? (i := 158) rfl)) rfl
theorem l_X11_213 : cV RX11 213 9 RX9 yX9_slackStart cX9_slackStart 5 (some .int) 2 := ⟨wd_984, wd_985, wd_986, wd_114, wd_987, by decide +kernel, TX9, _, rfl⟩
theorem wd_349 : Cond.fieldLink RX11 226 "SlackRace$Water" "calm" "[I" ∈ lw_g := gw (wt_2 (List.mem_of_getElem? (i := 1) rfl)) rfl
theorem f_X11_226 : fF RX11 226 9 6 2 false := ⟨_, TX9, 14, tyX9, rfl, inX9, by decide, wd_349, rfl, tyX9_ok, nmX9, Or.inr (Or.inr (Or.inr ⟨rfl, Or.inr ⟨_, rfl⟩⟩)), rfl⟩
theorem q_50_6 : rs 50 6 = none := rfl
theorem wd_348 : Cond.fieldLink RX9 32 "SlackRace$Water" "calm" "[I" ∈ lw_g := gw (wt_2 (List.mem_of_getElem? (i := 0) rfl)) rfl
theorem f_X9_32 : fF RX9 32 9 6 2 false := ⟨_, TX9, 14, tyX9, rfl, inX9, by decide, wd_348, rfl, tyX9_ok, nmX9, Or.inr (Or.inr (Or.inr ⟨rfl, Or.inr ⟨_, rfl⟩⟩)), rfl⟩
theorem wd_991 : Cond.code yX9_slackLength cX9_slackLength 4 (some .int) ∈ lw_g := gw (wt_4 (List.mem_of_getElem? (i := 163) rfl)) rfl
theorem wd_988 : Cond.methodLink RX11 217 yX9_slackLength ∈ lw_g := gw (wt_4 (List.mem_of_getElem? (i := 160) rfl)) rfl
theorem wd_989 : Cond.instanceMethod yX9_slackLength ∈ lw_g := gw (wt_4 (List.mem_of_getElem? (i := 161) rfl)) rfl
theorem wd_990 : Cond.selects RX9 yX9_slackLength yX9_slackLength ∈ lw_g := gw (wt_4 (List.mem_of_getElem? (i := 162) rfl)) rfl
theorem l_X11_217 : cV RX11 217 9 RX9 yX9_slackLength cX9_slackLength 4 (some .int) 2 := ⟨wd_988, wd_989, wd_990, wd_114, wd_991, by decide +kernel, TX9, _, rfl⟩
theorem wd_887 : Cond.methodLink RX11 191 yX9_levelToday ∈ lw_g := gw (wt_4 (List.mem_of_getElem? (i := 59) rfl)) rfl
theorem l_X11_191 : cV RX11 191 9 RX9 yX9_levelToday cX9_levelToday 3 (some .int) 2 := ⟨wd_887, wd_888, wd_889, wd_114, wd_890, by decide +kernel, TX9, _, rfl⟩
theorem wd_995 : Cond.code yX9_sinceGreatest cX9_sinceGreatest 4 (some .int) ∈ lw_g := gw (wt_4 (List.mem_of_getElem? (i := 167) rfl)) rfl
theorem wd_992 : Cond.methodLink RX11 220 yX9_sinceGreatest ∈ lw_g := gw (wt_4 (List.mem_of_getElem? (i := 164) rfl)) rfl
theorem wd_993 : Cond.instanceMethod yX9_sinceGreatest ∈ lw_g := gw (wt_4 (List.mem_of_getElem? (i := 165) rfl)) rfl
theorem wd_994 : Cond.selects RX9 yX9_sinceGreatest yX9_sinceGreatest ∈ lw_g := gw (wt_4 (List.mem_of_getElem? (i := 166) rfl)) rfl
theorem l_X11_220 : cV RX11 220 9 RX9 yX9_sinceGreatest cX9_sinceGreatest 4 (some .int) 1 := ⟨wd_992, wd_993, wd_994, wd_114, wd_995, by decide +kernel, TX9, _, rfl⟩
theorem wd_962 : Cond.methodLink RX11 206 yX9_whiteOf ∈ lw_g := gw (wt_4 (List.mem_of_getElem? (i := 134) rfl)) rfl
theorem l_X11_206 : cV RX11 206 9 RX9 yX9_whiteOf cX9_whiteOf 9 (some .int) 2 := ⟨wd_962, wd_963, wd_964, wd_114, wd_965, by decide +kernel, TX9, _, rfl⟩
theorem wd_957 : Cond.methodLink RX11 203 yX9_flowOf ∈ lw_g := gw (wt_4 (List.mem_of_getElem? (i := 129) rfl)) rfl
theorem l_X11_203 : cV RX11 203 9 RX9 yX9_flowOf cX9_flowOf 3 (some .int) 2 := ⟨wd_957, wd_958, wd_959, wd_114, wd_960, by decide +kernel, TX9, _, rfl⟩
theorem wd_875 : Cond.methodLink RX11 188 yX9_freshenTides ∈ lw_g := gw (wt_4 (List.mem_of_getElem? (i := 47) rfl)) rfl
theorem l_X11_188 : cV RX11 188 9 RX9 yX9_freshenTides cX9_freshenTides 4 (none) 0 := ⟨wd_875, wd_876, wd_877, wd_114, wd_878, by decide +kernel, TX9, _, rfl⟩
theorem wd_581 : Cond.fieldLink RX11 99 "SlackRace" "faultPlace" "I" ∈ lw_g := gw (wt_2 (List.mem_of_getElem? (i := 233) rfl)) rfl
theorem f_X11_99 : fF RX11 99 11 14 0 false := ⟨_, TX11, 15, tyX11, rfl, inX11, by decide, wd_581, rfl, tyX11_ok, nmX11, Or.inl ⟨rfl, rfl⟩, rfl⟩
theorem wd_571 : Cond.fieldLink RX11 36 "SlackRace" "reader" "LSlackRace$Reader;" ∈ lw_g := gw (wt_2 (List.mem_of_getElem? (i := 223) rfl)) rfl
theorem f_X11_36 : fF RX11 36 11 4 2 true := ⟨_, TX11, 15, tyX11, rfl, inX11, by decide, wd_571, rfl, tyX11_ok, nmX11, Or.inr (Or.inr (Or.inr ⟨rfl, Or.inl ⟨_, rfl⟩⟩)), rfl⟩
theorem q_0_4 : rs 0 4 = some 47 := rfl
theorem wd_113 : Cond.initialized RX3 ∈ lw_g := gw (wt_1 (List.mem_of_getElem? (i := 5) rfl)) rfl
theorem wd_693 : Cond.code yX3_readLaw cX3_readLaw 2 (some (.object "SlackRace$Law")) ∈ lw_g := gw (wt_3 (List.mem_of_getElem? (i := 105) rfl)) rfl
theorem wd_690 : Cond.methodLink RX11 170 yX3_readLaw ∈ lw_g := gw (wt_3 (List.mem_of_getElem? (i := 102) rfl)) rfl
theorem wd_691 : Cond.instanceMethod yX3_readLaw ∈ lw_g := gw (wt_3 (List.mem_of_getElem? (i := 103) rfl)) rfl
theorem wd_692 : Cond.selects RX3 yX3_readLaw yX3_readLaw ∈ lw_g := gw (wt_3 (List.mem_of_getElem? (i := 104) rfl)) rfl
theorem l_X11_170 : cV RX11 170 3 RX3 yX3_readLaw cX3_readLaw 2 (some (.object "SlackRace$Law")) 0 := ⟨wd_690, wd_691, wd_692, wd_113, wd_693, by decide +kernel, TX3, _, rfl⟩
theorem n_47 {h : Hp} : nd h 47 103 10 := nd_of (by decide) rfl
theorem wd_291 : Cond.fieldLink RX11 174 "SlackRace$Reader" "fault" "I" ∈ lw_g := gw (wt_1 (List.mem_of_getElem? (i := 183) rfl)) rfl
theorem f_X11_174 : fF RX11 174 3 9 0 false := ⟨_, TX3, 10, tyX3, rfl, inX3, by decide, wd_291, rfl, tyX3_ok, nmX3, Or.inl ⟨rfl, rfl⟩, rfl⟩
theorem wd_176 : Cond.fieldLink RX11 177 "SlackRace$State" "laws" "[LSlackRace$Law;" ∈ lw_g := gw (wt_1 (List.mem_of_getElem? (i := 68) rfl)) rfl
theorem f_X11_177 : fF RX11 177 6 4 2 true := ⟨_, TX6, 19, tyX6, rfl, inX6, by decide, wd_176, rfl, tyX6_ok, nmX6, Or.inr (Or.inr (Or.inr ⟨rfl, Or.inr ⟨_, rfl⟩⟩)), rfl⟩
theorem wd_284 : Cond.fieldLink RX3 20 "SlackRace$Reader" "size" "I" ∈ lw_g := gw (wt_1 (List.mem_of_getElem? (i := 176) rfl)) rfl
theorem f_X3_20 : fF RX3 20 3 3 0 false := ⟨_, TX3, 10, tyX3, rfl, inX3, by decide, wd_284, rfl, tyX3_ok, nmX3, Or.inl ⟨rfl, rfl⟩, rfl⟩
theorem wd_285 : Cond.fieldLink RX3 24 "SlackRace$Reader" "clauseSize" "I" ∈ lw_g := gw (wt_1 (List.mem_of_getElem? (i := 177) rfl)) rfl
theorem f_X3_24 : fF RX3 24 3 4 0 false := ⟨_, TX3, 10, tyX3, rfl, inX3, by decide, wd_285, rfl, tyX3_ok, nmX3, Or.inl ⟨rfl, rfl⟩, rfl⟩
theorem wd_286 : Cond.fieldLink RX3 27 "SlackRace$Reader" "parts" "I" ∈ lw_g := gw (wt_1 (List.mem_of_getElem? (i := 178) rfl)) rfl
theorem f_X3_27 : fF RX3 27 3 5 0 false := ⟨_, TX3, 10, tyX3, rfl, inX3, by decide, wd_286, rfl, tyX3_ok, nmX3, Or.inl ⟨rfl, rfl⟩, rfl⟩
theorem wd_289 : Cond.fieldLink RX3 36 "SlackRace$Reader" "tokenTo" "I" ∈ lw_g := gw (wt_1 (List.mem_of_getElem? (i := 181) rfl)) rfl
theorem f_X3_36 : fF RX3 36 3 8 0 false := ⟨_, TX3, 10, tyX3, rfl, inX3, by decide, wd_289, rfl, tyX3_ok, nmX3, Or.inl ⟨rfl, rfl⟩, rfl⟩
theorem wd_290 : Cond.fieldLink RX3 39 "SlackRace$Reader" "fault" "I" ∈ lw_g := gw (wt_1 (List.mem_of_getElem? (i := 182) rfl)) rfl
theorem f_X3_39 : fF RX3 39 3 9 0 false := ⟨_, TX3, 10, tyX3, rfl, inX3, by decide, wd_290, rfl, tyX3_ok, nmX3, Or.inl ⟨rfl, rfl⟩, rfl⟩
theorem wd_697 : Cond.code yX3_advance cX3_advance 2 (none) ∈ lw_g := gw (wt_3 (List.mem_of_getElem? (i := 109) rfl)) rfl
theorem wd_694 : Cond.methodLink RX3 46 yX3_advance ∈ lw_g := gw (wt_3 (List.mem_of_getElem? (i := 106) rfl)) rfl
theorem wd_696 : Cond.instanceMethod yX3_advance ∈ lw_g := gw (wt_3 (List.mem_of_getElem? (i := 108) rfl)) rfl
theorem wd_4 : Cond.selects RX3 yX3_advance yX3_advance ∈ lw_g := gw (wt_0 (List.mem_of_getElem? (i := 4) rfl)) rfl
theorem l_X3_46 : cV RX3 46 3 RX3 yX3_advance cX3_advance 2 (none) 0 := ⟨wd_694, wd_696, wd_4, wd_113, wd_697, by decide +kernel, TX3, _, rfl⟩
theorem wd_763 : Cond.code yX3_fail cX3_fail 1 (some .boolean) ∈ lw_g := gw (wt_3 (List.mem_of_getElem? (i := 175) rfl)) rfl
theorem wd_760 : Cond.methodLink RX3 66 yX3_fail ∈ lw_g := gw (wt_3 (List.mem_of_getElem? (i := 172) rfl)) rfl
theorem wd_762 : Cond.instanceMethod yX3_fail ∈ lw_g := gw (wt_3 (List.mem_of_getElem? (i := 174) rfl)) rfl
theorem wd_8 : Cond.selects RX3 yX3_fail yX3_fail ∈ lw_g := gw (wt_0 (List.mem_of_getElem? (i := 8) rfl)) rfl
theorem l_X3_66 : cV RX3 66 3 RX3 yX3_fail cX3_fail 1 (some .boolean) 0 := ⟨wd_760, wd_762, wd_8, wd_113, wd_763, by decide +kernel, TX3, _, rfl⟩
theorem wd_705 : Cond.code yX3_readClause cX3_readClause 4 (some .boolean) ∈ lw_g := gw (wt_3 (List.mem_of_getElem? (i := 117) rfl)) rfl
theorem wd_702 : Cond.methodLink RX3 49 yX3_readClause ∈ lw_g := gw (wt_3 (List.mem_of_getElem? (i := 114) rfl)) rfl
theorem wd_704 : Cond.instanceMethod yX3_readClause ∈ lw_g := gw (wt_3 (List.mem_of_getElem? (i := 116) rfl)) rfl
theorem wd_6 : Cond.selects RX3 yX3_readClause yX3_readClause ∈ lw_g := gw (wt_0 (List.mem_of_getElem? (i := 6) rfl)) rfl
theorem l_X3_49 : cV RX3 49 3 RX3 yX3_readClause cX3_readClause 4 (some .boolean) 0 := ⟨wd_702, wd_704, wd_6, wd_113, wd_705, by decide +kernel, TX3, _, rfl⟩
theorem wd_287 : Cond.fieldLink RX3 30 "SlackRace$Reader" "tokenSort" "I" ∈ lw_g := gw (wt_1 (List.mem_of_getElem? (i := 179) rfl)) rfl
theorem f_X3_30 : fF RX3 30 3 6 0 false := ⟨_, TX3, 10, tyX3, rfl, inX3, by decide, wd_287, rfl, tyX3_ok, nmX3, Or.inl ⟨rfl, rfl⟩, rfl⟩
theorem wd_779 : Cond.code yX3_isOther cX3_isOther 2 (some .boolean) ∈ lw_g := gw (wt_3 (List.mem_of_getElem? (i := 191) rfl)) rfl
theorem wd_776 : Cond.methodLink RX3 62 yX3_isOther ∈ lw_g := gw (wt_3 (List.mem_of_getElem? (i := 188) rfl)) rfl
theorem wd_778 : Cond.instanceMethod yX3_isOther ∈ lw_g := gw (wt_3 (List.mem_of_getElem? (i := 190) rfl)) rfl
theorem wd_12 : Cond.selects RX3 yX3_isOther yX3_isOther ∈ lw_g := gw (wt_0 (List.mem_of_getElem? (i := 12) rfl)) rfl
theorem l_X3_62 : cV RX3 62 3 RX3 yX3_isOther cX3_isOther 2 (some .boolean) 1 := ⟨wd_776, wd_778, wd_12, wd_113, wd_779, by decide +kernel, TX3, _, rfl⟩
theorem wd_834 : Cond.classLink RX3 15 RX1 ∈ lw_g := gw (wt_4 (List.mem_of_getElem? (i := 6) rfl)) rfl
theorem wd_835 : Cond.instantiable RX1 2 ∈ lw_g := gw (wt_4 (List.mem_of_getElem? (i := 7) rfl)) rfl
theorem wd_127 : Cond.initialized RX1 ∈ lw_g := gw (wt_1 (List.mem_of_getElem? (i := 19) rfl)) rfl
theorem o_X3_15 : fO RX3 15 1 2 := ⟨_, TX1, tyX1, rfl, inX1, tyX1_ok, wd_834, wd_835, wd_127, rfl, by decide⟩
theorem wd_282 : Cond.fieldLink RX3 9 "SlackRace$Reader" "code" "[I" ∈ lw_g := gw (wt_1 (List.mem_of_getElem? (i := 174) rfl)) rfl
theorem f_X3_9 : fF RX3 9 3 1 2 true := ⟨_, TX3, 10, tyX3, rfl, inX3, by decide, wd_282, rfl, tyX3_ok, nmX3, Or.inr (Or.inr (Or.inr ⟨rfl, Or.inr ⟨_, rfl⟩⟩)), rfl⟩
theorem q_47_1 : rs 47 1 = some 48 := rfl
theorem wd_838 : Cond.code yJ7_copyOf_59c91 cJ7_copyOf_59c91 3 (some (.array .int)) ∈ lw_g := gw (wt_4 (List.mem_of_getElem? (i := 10) rfl)) rfl
theorem wd_837 : Cond.static yJ7_copyOf_59c91 ∈ lw_g := gw (wt_4 (List.mem_of_getElem? (i := 9) rfl)) rfl
theorem wd_836 : Cond.methodLink RX3 53 yJ7_copyOf_59c91 ∈ lw_g := gw (wt_4 (List.mem_of_getElem? (i := 8) rfl)) rfl
theorem l_X3_53 : cS RX3 53 yJ7_copyOf_59c91 cJ7_copyOf_59c91 3 (some (.array .int)) 2 := ⟨wd_836, wd_837, wd_111, wd_838, by decide +kernel⟩
theorem wd_283 : Cond.fieldLink RX3 17 "SlackRace$Reader" "clauses" "[I" ∈ lw_g := gw (wt_1 (List.mem_of_getElem? (i := 175) rfl)) rfl
theorem f_X3_17 : fF RX3 17 3 2 2 true := ⟨_, TX3, 10, tyX3, rfl, inX3, by decide, wd_283, rfl, tyX3_ok, nmX3, Or.inr (Or.inr (Or.inr ⟨rfl, Or.inr ⟨_, rfl⟩⟩)), rfl⟩
theorem q_47_2 : rs 47 2 = some 49 := rfl
theorem wd_847 : Cond.code yX1_init cX1_init 3 (none) ∈ lw_g := gw (wt_4 (List.mem_of_getElem? (i := 19) rfl)) rfl
theorem wd_845 : Cond.methodLink RX3 59 yX1_init ∈ lw_g := gw (wt_4 (List.mem_of_getElem? (i := 17) rfl)) rfl
theorem wd_846 : Cond.instanceMethod yX1_init ∈ lw_g := gw (wt_4 (List.mem_of_getElem? (i := 18) rfl)) rfl
theorem l_X3_59 : cI RX3 59 yX1_init cX1_init 3 2 := ⟨wd_845, wd_846, wd_127, wd_847, rfl, by decide +kernel⟩
theorem wd_848 : Cond.methodLink RX1 1 Lib.objectInit ∈ lw_g := gw (wt_4 (List.mem_of_getElem? (i := 20) rfl)) rfl
theorem wd_135 : Cond.instanceMethod Lib.objectInit ∈ lw_g := gw (wt_1 (List.mem_of_getElem? (i := 27) rfl)) rfl
theorem wd_136 : Cond.code Lib.objectInit ⟨#[0xb1]⟩ 1 none ∈ lw_g := gw (wt_1 (List.mem_of_getElem? (i := 28) rfl)) rfl
theorem wd_849 : Cond.fieldLink RX1 7 "SlackRace$Law" "code" "[I" ∈ lw_g := gw (wt_4 (List.mem_of_getElem? (i := 21) rfl)) rfl
theorem f_X1_7 : fF RX1 7 1 0 2 true := ⟨_, TX1, 2, tyX1, rfl, inX1, by decide, wd_849, rfl, tyX1_ok, nmX1, Or.inr (Or.inr (Or.inr ⟨rfl, Or.inr ⟨_, rfl⟩⟩)), rfl⟩
theorem wd_851 : Cond.fieldLink RX1 13 "SlackRace$Law" "clauses" "[I" ∈ lw_g := gw (wt_4 (List.mem_of_getElem? (i := 23) rfl)) rfl
theorem f_X1_13 : fF RX1 13 1 1 2 true := ⟨_, TX1, 2, tyX1, rfl, inX1, by decide, wd_851, rfl, tyX1_ok, nmX1, Or.inr (Or.inr (Or.inr ⟨rfl, Or.inr ⟨_, rfl⟩⟩)), rfl⟩
theorem wd_841 : Cond.methodLink RJ7 304 Lib.Math.min.name ∈ lw_g := gw (wt_4 (List.mem_of_getElem? (i := 13) rfl)) rfl
theorem wd_842 : Cond.methodLink RJ7 150 arraycopyName ∈ lw_g := gw (wt_4 (List.mem_of_getElem? (i := 14) rfl)) rfl
theorem wd_839 : Cond.methodLink RJ7 316 ⟨"[I", "clone", "()Ljava/lang/Object;"⟩ ∈ lw_g := gw (wt_4 (List.mem_of_getElem? (i := 11) rfl)) rfl
theorem wd_146 : Cond.sameMethod "[I" "java/lang/Object" "clone" "()Ljava/lang/Object;" ∈ lw_g := gw (wt_1 (List.mem_of_getElem? (i := 38) rfl)) rfl
theorem wd_147 : Cond.native ⟨"java/lang/Object", "clone", "()Ljava/lang/Object;"⟩ ∈ lw_g := gw (wt_1 (List.mem_of_getElem? (i := 39) rfl)) rfl
theorem wd_148 : Cond.instanceMethod ⟨"java/lang/Object", "clone", "()Ljava/lang/Object;"⟩ ∈ lw_g := gw (wt_1 (List.mem_of_getElem? (i := 40) rfl)) rfl
theorem wd_149 : Cond.selects "[I" ⟨"[I", "clone", "()Ljava/lang/Object;"⟩ ⟨"java/lang/Object", "clone", "()Ljava/lang/Object;"⟩ ∈ lw_g := gw (wt_1 (List.mem_of_getElem? (i := 41) rfl)) rfl
theorem wd_840 : Cond.classLink RJ7 317 "[I" ∈ lw_g := gw (wt_4 (List.mem_of_getElem? (i := 12) rfl)) rfl
theorem wd_281 : Cond.fieldLink RX3 42 "SlackRace$Reader" "tape" "LSlackRace$Tape;" ∈ lw_g := gw (wt_1 (List.mem_of_getElem? (i := 173) rfl)) rfl
theorem f_X3_42 : fF RX3 42 3 0 2 true := ⟨_, TX3, 10, tyX3, rfl, inX3, by decide, wd_281, rfl, tyX3_ok, nmX3, Or.inr (Or.inr (Or.inr ⟨rfl, Or.inl ⟨_, rfl⟩⟩)), rfl⟩
theorem q_47_0 : rs 47 0 = some 45 := rfl
theorem wd_265 : Cond.fieldLink RX3 129 "SlackRace$Tape" "bytes" "[I" ∈ lw_g := gw (wt_1 (List.mem_of_getElem? (i := 157) rfl)) rfl
theorem f_X3_129 : fF RX3 129 7 0 2 true := ⟨_, TX7, 2, tyX7, rfl, inX7, by decide, wd_265, rfl, tyX7_ok, nmX7, Or.inr (Or.inr (Or.inr ⟨rfl, Or.inr ⟨_, rfl⟩⟩)), rfl⟩
theorem q_45_0 : rs 45 0 = some 46 := rfl
theorem wd_288 : Cond.fieldLink RX3 33 "SlackRace$Reader" "tokenFrom" "I" ∈ lw_g := gw (wt_1 (List.mem_of_getElem? (i := 180) rfl)) rfl
theorem f_X3_33 : fF RX3 33 3 7 0 false := ⟨_, TX3, 10, tyX3, rfl, inX3, by decide, wd_288, rfl, tyX3_ok, nmX3, Or.inl ⟨rfl, rfl⟩, rfl⟩
theorem n_46 {h : Hp} : nd h 46 0 400 := nd_of (by decide) rfl
theorem wd_710 : Cond.code yX3_isWord cX3_isWord 3 (some .boolean) ∈ lw_g := gw (wt_3 (List.mem_of_getElem? (i := 122) rfl)) rfl
theorem wd_707 : Cond.methodLink RX3 71 yX3_isWord ∈ lw_g := gw (wt_3 (List.mem_of_getElem? (i := 119) rfl)) rfl
theorem wd_709 : Cond.instanceMethod yX3_isWord ∈ lw_g := gw (wt_3 (List.mem_of_getElem? (i := 121) rfl)) rfl
theorem wd_7 : Cond.selects RX3 yX3_isWord yX3_isWord ∈ lw_g := gw (wt_0 (List.mem_of_getElem? (i := 7) rfl)) rfl
theorem l_X3_71 : cV RX3 71 3 RX3 yX3_isWord cX3_isWord 3 (some .boolean) 1 := ⟨wd_707, wd_709, wd_7, wd_113, wd_710, by decide +kernel, TX3, _, rfl⟩
theorem wd_767 : Cond.code yX3_readSum cX3_readSum 4 (some .boolean) ∈ lw_g := gw (wt_3 (List.mem_of_getElem? (i := 179) rfl)) rfl
theorem wd_764 : Cond.methodLink RX3 77 yX3_readSum ∈ lw_g := gw (wt_3 (List.mem_of_getElem? (i := 176) rfl)) rfl
theorem wd_766 : Cond.instanceMethod yX3_readSum ∈ lw_g := gw (wt_3 (List.mem_of_getElem? (i := 178) rfl)) rfl
theorem wd_9 : Cond.selects RX3 yX3_readSum yX3_readSum ∈ lw_g := gw (wt_0 (List.mem_of_getElem? (i := 9) rfl)) rfl
theorem l_X3_77 : cV RX3 77 3 RX3 yX3_readSum cX3_readSum 4 (some .boolean) 1 := ⟨wd_764, wd_766, wd_9, wd_113, wd_767, by decide +kernel, TX3, _, rfl⟩
theorem wd_810 : Cond.code yX3_readTest cX3_readTest 4 (some .boolean) ∈ lw_g := gw (wt_3 (List.mem_of_getElem? (i := 222) rfl)) rfl
theorem wd_807 : Cond.methodLink RX3 83 yX3_readTest ∈ lw_g := gw (wt_3 (List.mem_of_getElem? (i := 219) rfl)) rfl
theorem wd_809 : Cond.instanceMethod yX3_readTest ∈ lw_g := gw (wt_3 (List.mem_of_getElem? (i := 221) rfl)) rfl
theorem wd_17 : Cond.selects RX3 yX3_readTest yX3_readTest ∈ lw_g := gw (wt_0 (List.mem_of_getElem? (i := 17) rfl)) rfl
theorem l_X3_83 : cV RX3 83 3 RX3 yX3_readTest cX3_readTest 4 (some .boolean) 1 := ⟨wd_807, wd_809, wd_17, wd_113, wd_810, by decide +kernel, TX3, _, rfl⟩
theorem n_49 {h : Hp} : nd h 49 0 48 := nd_of (by decide) rfl
theorem wd_814 : Cond.code yX3_readBoth cX3_readBoth 4 (some .boolean) ∈ lw_g := gw (wt_3 (List.mem_of_getElem? (i := 226) rfl)) rfl
theorem wd_811 : Cond.methodLink RX3 86 yX3_readBoth ∈ lw_g := gw (wt_3 (List.mem_of_getElem? (i := 223) rfl)) rfl
theorem wd_813 : Cond.instanceMethod yX3_readBoth ∈ lw_g := gw (wt_3 (List.mem_of_getElem? (i := 225) rfl)) rfl
theorem wd_18 : Cond.selects RX3 yX3_readBoth yX3_readBoth ∈ lw_g := gw (wt_0 (List.mem_of_getElem? (i := 18) rfl)) rfl
theorem l_X3_86 : cV RX3 86 3 RX3 yX3_readBoth cX3_readBoth 4 (some .boolean) 1 := ⟨wd_811, wd_813, wd_18, wd_113, wd_814, by decide +kernel, TX3, _, rfl⟩
theorem wd_805 : Cond.code yX3_put cX3_put 3 (none) ∈ lw_g := gw (wt_3 (List.mem_of_getElem? (i := 217) rfl)) rfl
theorem wd_802 : Cond.methodLink RX3 93 yX3_put ∈ lw_g := gw (wt_3 (List.mem_of_getElem? (i := 214) rfl)) rfl
theorem wd_804 : Cond.instanceMethod yX3_put ∈ lw_g := gw (wt_3 (List.mem_of_getElem? (i := 216) rfl)) rfl
theorem wd_16 : Cond.selects RX3 yX3_put yX3_put ∈ lw_g := gw (wt_0 (List.mem_of_getElem? (i := 16) rfl)) rfl
theorem l_X3_93 : cV RX3 93 3 RX3 yX3_put cX3_put 3 (none) 2 := ⟨wd_802, wd_804, wd_16, wd_113, wd_805, by decide +kernel, TX3, _, rfl⟩
theorem wd_832 : Cond.code yX3_aimHere cX3_aimHere 3 (none) ∈ lw_g := gw (wt_4 (List.mem_of_getElem? (i := 4) rfl)) rfl
theorem wd_829 : Cond.methodLink RX3 97 yX3_aimHere ∈ lw_g := gw (wt_4 (List.mem_of_getElem? (i := 1) rfl)) rfl
theorem wd_831 : Cond.instanceMethod yX3_aimHere ∈ lw_g := gw (wt_4 (List.mem_of_getElem? (i := 3) rfl)) rfl
theorem wd_22 : Cond.selects RX3 yX3_aimHere yX3_aimHere ∈ lw_g := gw (wt_0 (List.mem_of_getElem? (i := 22) rfl)) rfl
theorem l_X3_97 : cV RX3 97 3 RX3 yX3_aimHere cX3_aimHere 3 (none) 2 := ⟨wd_829, wd_831, wd_22, wd_113, wd_832, by decide +kernel, TX3, _, rfl⟩
theorem n_48 {h : Hp} : nd h 48 0 400 := nd_of (by decide) rfl
theorem wd_818 : Cond.code yX3_readPlain cX3_readPlain 4 (some .boolean) ∈ lw_g := gw (wt_3 (List.mem_of_getElem? (i := 230) rfl)) rfl
theorem wd_815 : Cond.methodLink RX3 100 yX3_readPlain ∈ lw_g := gw (wt_3 (List.mem_of_getElem? (i := 227) rfl)) rfl
theorem wd_817 : Cond.instanceMethod yX3_readPlain ∈ lw_g := gw (wt_3 (List.mem_of_getElem? (i := 229) rfl)) rfl
theorem wd_19 : Cond.selects RX3 yX3_readPlain yX3_readPlain ∈ lw_g := gw (wt_0 (List.mem_of_getElem? (i := 19) rfl)) rfl
theorem l_X3_100 : cV RX3 100 3 RX3 yX3_readPlain cX3_readPlain 4 (some .boolean) 1 := ⟨wd_815, wd_817, wd_19, wd_113, wd_818, by decide +kernel, TX3, _, rfl⟩
theorem wd_827 : Cond.code yX3_comparisonHere cX3_comparisonHere 1 (some .int) ∈ lw_g := gw (wt_3 (List.mem_of_getElem? (i := 239) rfl)) rfl
theorem wd_824 : Cond.methodLink RX3 110 yX3_comparisonHere ∈ lw_g := gw (wt_3 (List.mem_of_getElem? (i := 236) rfl)) rfl
theorem wd_826 : Cond.instanceMethod yX3_comparisonHere ∈ lw_g := gw (wt_3 (List.mem_of_getElem? (i := 238) rfl)) rfl
theorem wd_21 : Cond.selects RX3 yX3_comparisonHere yX3_comparisonHere ∈ lw_g := gw (wt_0 (List.mem_of_getElem? (i := 21) rfl)) rfl
theorem l_X3_110 : cV RX3 110 3 RX3 yX3_comparisonHere cX3_comparisonHere 1 (some .int) 0 := ⟨wd_824, wd_826, wd_21, wd_113, wd_827, by decide +kernel, TX3, _, rfl⟩
theorem wd_823 : Cond.code yX3_readBracketed cX3_readBracketed 2 (some .boolean) ∈ lw_g := gw (wt_3 (List.mem_of_getElem? (i := 235) rfl)) rfl
theorem wd_820 : Cond.methodLink RX3 107 yX3_readBracketed ∈ lw_g := gw (wt_3 (List.mem_of_getElem? (i := 232) rfl)) rfl
theorem wd_822 : Cond.instanceMethod yX3_readBracketed ∈ lw_g := gw (wt_3 (List.mem_of_getElem? (i := 234) rfl)) rfl
theorem wd_20 : Cond.selects RX3 yX3_readBracketed yX3_readBracketed ∈ lw_g := gw (wt_0 (List.mem_of_getElem? (i := 20) rfl)) rfl
theorem l_X3_107 : cV RX3 107 3 RX3 yX3_readBracketed cX3_readBracketed 2 (some .boolean) 1 := ⟨wd_820, wd_822, wd_20, wd_113, wd_823, by decide +kernel, TX3, _, rfl⟩
theorem wd_783 : Cond.code yX3_takes cX3_takes 2 (some .boolean) ∈ lw_g := gw (wt_3 (List.mem_of_getElem? (i := 195) rfl)) rfl
theorem wd_780 : Cond.methodLink RX3 114 yX3_takes ∈ lw_g := gw (wt_3 (List.mem_of_getElem? (i := 192) rfl)) rfl
theorem wd_782 : Cond.instanceMethod yX3_takes ∈ lw_g := gw (wt_3 (List.mem_of_getElem? (i := 194) rfl)) rfl
theorem wd_13 : Cond.selects RX3 yX3_takes yX3_takes ∈ lw_g := gw (wt_0 (List.mem_of_getElem? (i := 13) rfl)) rfl
theorem l_X3_114 : cV RX3 114 3 RX3 yX3_takes cX3_takes 2 (some .boolean) 1 := ⟨wd_780, wd_782, wd_13, wd_113, wd_783, by decide +kernel, TX3, _, rfl⟩
theorem wd_771 : Cond.code yX3_readTerm cX3_readTerm 4 (some .boolean) ∈ lw_g := gw (wt_3 (List.mem_of_getElem? (i := 183) rfl)) rfl
theorem wd_768 : Cond.methodLink RX3 117 yX3_readTerm ∈ lw_g := gw (wt_3 (List.mem_of_getElem? (i := 180) rfl)) rfl
theorem wd_770 : Cond.instanceMethod yX3_readTerm ∈ lw_g := gw (wt_3 (List.mem_of_getElem? (i := 182) rfl)) rfl
theorem wd_10 : Cond.selects RX3 yX3_readTerm yX3_readTerm ∈ lw_g := gw (wt_0 (List.mem_of_getElem? (i := 10) rfl)) rfl
theorem l_X3_117 : cV RX3 117 3 RX3 yX3_readTerm cX3_readTerm 4 (some .boolean) 1 := ⟨wd_768, wd_770, wd_10, wd_113, wd_771, by decide +kernel, TX3, _, rfl⟩
theorem wd_775 : Cond.code yX3_readPart cX3_readPart 4 (some .boolean) ∈ lw_g := gw (wt_3 (List.mem_of_getElem? (i := 187) rfl)) rfl
theorem wd_772 : Cond.methodLink RX3 120 yX3_readPart ∈ lw_g := gw (wt_3 (List.mem_of_getElem? (i := 184) rfl)) rfl
theorem wd_774 : Cond.instanceMethod yX3_readPart ∈ lw_g := gw (wt_3 (List.mem_of_getElem? (i := 186) rfl)) rfl
theorem wd_11 : Cond.selects RX3 yX3_readPart yX3_readPart ∈ lw_g := gw (wt_0 (List.mem_of_getElem? (i := 11) rfl)) rfl
theorem l_X3_120 : cV RX3 120 3 RX3 yX3_readPart cX3_readPart 4 (some .boolean) 1 := ⟨wd_772, wd_774, wd_11, wd_113, wd_775, by decide +kernel, TX3, _, rfl⟩
theorem wd_794 : Cond.code yX3_wordHere cX3_wordHere 1 (some .int) ∈ lw_g := gw (wt_3 (List.mem_of_getElem? (i := 206) rfl)) rfl
theorem wd_791 : Cond.methodLink RX3 126 yX3_wordHere ∈ lw_g := gw (wt_3 (List.mem_of_getElem? (i := 203) rfl)) rfl
theorem wd_793 : Cond.instanceMethod yX3_wordHere ∈ lw_g := gw (wt_3 (List.mem_of_getElem? (i := 205) rfl)) rfl
theorem wd_15 : Cond.selects RX3 yX3_wordHere yX3_wordHere ∈ lw_g := gw (wt_0 (List.mem_of_getElem? (i := 15) rfl)) rfl
theorem l_X3_126 : cV RX3 126 3 RX3 yX3_wordHere cX3_wordHere 1 (some .int) 0 := ⟨wd_791, wd_793, wd_15, wd_113, wd_794, by decide +kernel, TX3, _, rfl⟩
theorem wd_787 : Cond.code yX3_numberHere cX3_numberHere 3 (some .int) ∈ lw_g := gw (wt_3 (List.mem_of_getElem? (i := 199) rfl)) rfl
theorem wd_784 : Cond.methodLink RX3 123 yX3_numberHere ∈ lw_g := gw (wt_3 (List.mem_of_getElem? (i := 196) rfl)) rfl
theorem wd_786 : Cond.instanceMethod yX3_numberHere ∈ lw_g := gw (wt_3 (List.mem_of_getElem? (i := 198) rfl)) rfl
theorem wd_14 : Cond.selects RX3 yX3_numberHere yX3_numberHere ∈ lw_g := gw (wt_0 (List.mem_of_getElem? (i := 14) rfl)) rfl
theorem l_X3_123 : cV RX3 123 3 RX3 yX3_numberHere cX3_numberHere 3 (some .int) 0 := ⟨wd_784, wd_786, wd_14, wd_113, wd_787, by decide +kernel, TX3, _, rfl⟩
theorem wd_788 : Cond.methodLink RX3 134 Lib.Math.min.name ∈ lw_g := gw (wt_3 (List.mem_of_getElem? (i := 200) rfl)) rfl
theorem wd_268 : Cond.fieldLink RX3 163 "SlackRace$Tape" "length" "I" ∈ lw_g := gw (wt_1 (List.mem_of_getElem? (i := 160) rfl)) rfl
theorem f_X3_163 : fF RX3 163 7 1 0 false := ⟨_, TX7, 2, tyX7, rfl, inX7, by decide, wd_268, rfl, tyX7_ok, nmX7, Or.inl ⟨rfl, rfl⟩, rfl⟩
theorem wd_701 : Cond.code yX3_sortAt cX3_sortAt 3 (some .int) ∈ lw_g := gw (wt_3 (List.mem_of_getElem? (i := 113) rfl)) rfl
theorem wd_698 : Cond.methodLink RX3 165 yX3_sortAt ∈ lw_g := gw (wt_3 (List.mem_of_getElem? (i := 110) rfl)) rfl
theorem wd_700 : Cond.instanceMethod yX3_sortAt ∈ lw_g := gw (wt_3 (List.mem_of_getElem? (i := 112) rfl)) rfl
theorem wd_5 : Cond.selects RX3 yX3_sortAt yX3_sortAt ∈ lw_g := gw (wt_0 (List.mem_of_getElem? (i := 5) rfl)) rfl
theorem l_X3_165 : cV RX3 165 3 RX3 yX3_sortAt cX3_sortAt 3 (some .int) 1 := ⟨wd_698, wd_700, wd_5, wd_113, wd_701, by decide +kernel, TX3, _, rfl⟩
theorem wd_580 : Cond.fieldLink RX11 96 "SlackRace" "foulBytes" "I" ∈ lw_g := gw (wt_2 (List.mem_of_getElem? (i := 232) rfl)) rfl
theorem f_X11_96 : fF RX11 96 11 13 0 false := ⟨_, TX11, 15, tyX11, rfl, inX11, by decide, wd_580, rfl, tyX11_ok, nmX11, Or.inl ⟨rfl, rfl⟩, rfl⟩
theorem wd_264 : Cond.fieldLink RX11 161 "SlackRace$Tape" "bytes" "[I" ∈ lw_g := gw (wt_1 (List.mem_of_getElem? (i := 156) rfl)) rfl
theorem f_X11_161 : fF RX11 161 7 0 2 true := ⟨_, TX7, 2, tyX7, rfl, inX7, by decide, wd_264, rfl, tyX7_ok, nmX7, Or.inr (Or.inr (Or.inr ⟨rfl, Or.inr ⟨_, rfl⟩⟩)), rfl⟩
theorem wd_112 : Cond.initialized RX7 ∈ lw_g := gw (wt_1 (List.mem_of_getElem? (i := 4) rfl)) rfl
theorem wd_673 : Cond.code yX7_add cX7_add 3 (none) ∈ lw_g := gw (wt_3 (List.mem_of_getElem? (i := 85) rfl)) rfl
theorem wd_670 : Cond.methodLink RX11 157 yX7_add ∈ lw_g := gw (wt_3 (List.mem_of_getElem? (i := 82) rfl)) rfl
theorem wd_671 : Cond.instanceMethod yX7_add ∈ lw_g := gw (wt_3 (List.mem_of_getElem? (i := 83) rfl)) rfl
theorem wd_672 : Cond.selects RX7 yX7_add yX7_add ∈ lw_g := gw (wt_3 (List.mem_of_getElem? (i := 84) rfl)) rfl
theorem l_X11_157 : cV RX11 157 7 RX7 yX7_add cX7_add 3 (none) 1 := ⟨wd_670, wd_671, wd_672, wd_112, wd_673, by decide +kernel, TX7, _, rfl⟩
theorem wd_266 : Cond.fieldLink RX7 15 "SlackRace$Tape" "length" "I" ∈ lw_g := gw (wt_1 (List.mem_of_getElem? (i := 158) rfl)) rfl
theorem f_X7_15 : fF RX7 15 7 1 0 false := ⟨_, TX7, 2, tyX7, rfl, inX7, by decide, wd_266, rfl, tyX7_ok, nmX7, Or.inl ⟨rfl, rfl⟩, rfl⟩
theorem wd_263 : Cond.fieldLink RX7 9 "SlackRace$Tape" "bytes" "[I" ∈ lw_g := gw (wt_1 (List.mem_of_getElem? (i := 155) rfl)) rfl
theorem f_X7_9 : fF RX7 9 7 0 2 true := ⟨_, TX7, 2, tyX7, rfl, inX7, by decide, wd_263, rfl, tyX7_ok, nmX7, Or.inr (Or.inr (Or.inr ⟨rfl, Or.inr ⟨_, rfl⟩⟩)), rfl⟩
theorem wd_662 : Cond.fieldLink RX11 142 "SlackRace" "TERM_LEAST" "[I" ∈ lw_g := gw (wt_3 (List.mem_of_getElem? (i := 74) rfl)) rfl
theorem wd_664 : Cond.fieldLink RX11 145 "SlackRace" "TERM_MOST" "[I" ∈ lw_g := gw (wt_3 (List.mem_of_getElem? (i := 76) rfl)) rfl
theorem wd_167 : Cond.fieldLink RX11 148 "SlackRace$State" "terms" "[I" ∈ lw_g := gw (wt_1 (List.mem_of_getElem? (i := 59) rfl)) rfl
theorem f_X11_148 : fF RX11 148 6 2 2 true := ⟨_, TX6, 19, tyX6, rfl, inX6, by decide, wd_167, rfl, tyX6_ok, nmX6, Or.inr (Or.inr (Or.inr ⟨rfl, Or.inr ⟨_, rfl⟩⟩)), rfl⟩
theorem wd_651 : Cond.fieldLink RX11 129 "SlackRace" "MOON_LEAST" "[I" ∈ lw_g := gw (wt_3 (List.mem_of_getElem? (i := 63) rfl)) rfl
theorem wd_653 : Cond.fieldLink RX11 132 "SlackRace" "MOON_MOST" "[I" ∈ lw_g := gw (wt_3 (List.mem_of_getElem? (i := 65) rfl)) rfl
theorem wd_655 : Cond.methodLink RX11 135 yX11_moonPlace ∈ lw_g := gw (wt_3 (List.mem_of_getElem? (i := 67) rfl)) rfl
theorem l_X11_135 : cS RX11 135 yX11_moonPlace cX11_moonPlace 2 (some .int) 2 := ⟨wd_655, wd_656, wd_109, wd_657, by decide +kernel⟩
theorem wd_164 : Cond.fieldLink RX11 139 "SlackRace$State" "moons" "[I" ∈ lw_g := gw (wt_1 (List.mem_of_getElem? (i := 56) rfl)) rfl
theorem f_X11_139 : fF RX11 139 6 1 2 true := ⟨_, TX6, 19, tyX6, rfl, inX6, by decide, wd_164, rfl, tyX6_ok, nmX6, Or.inr (Or.inr (Or.inr ⟨rfl, Or.inr ⟨_, rfl⟩⟩)), rfl⟩
theorem wd_620 : Cond.fieldLink RX11 106 "SlackRace" "SEA_LEAST" "[I" ∈ lw_g := gw (wt_3 (List.mem_of_getElem? (i := 32) rfl)) rfl
theorem wd_622 : Cond.fieldLink RX11 109 "SlackRace" "SEA_MOST" "[I" ∈ lw_g := gw (wt_3 (List.mem_of_getElem? (i := 34) rfl)) rfl
theorem wd_160 : Cond.fieldLink RX11 116 "SlackRace$State" "seas" "[I" ∈ lw_g := gw (wt_1 (List.mem_of_getElem? (i := 52) rfl)) rfl
theorem f_X11_116 : fF RX11 116 6 0 2 true := ⟨_, TX6, 19, tyX6, rfl, inX6, by decide, wd_160, rfl, tyX6_ok, nmX6, Or.inr (Or.inr (Or.inr ⟨rfl, Or.inr ⟨_, rfl⟩⟩)), rfl⟩
theorem wd_719 : Cond.fieldLink RJ0 38 "java/lang/String" "COMPACT_STRINGS" "Z" ∈ lw_g := gw (wt_3 (List.mem_of_getElem? (i := 131) rfl)) rfl
theorem wd_1950 : Cond.fieldLink RJ0 15 "java/lang/String" "coder" "B" ∈ lw_g := gw (wt_8 (List.mem_of_getElem? (i := 162) rfl)) rfl
theorem wd_1949 : Cond.fieldLink RJ0 9 "java/lang/String" "value" "[B" ∈ lw_g := gw (wt_8 (List.mem_of_getElem? (i := 161) rfl)) rfl
theorem wd_735 : Cond.fieldLink RJ0 1053 "jdk/internal/util/Preconditions" "SIOOBE_FORMATTER" "Ljava/util/function/BiFunction;" ∈ lw_g := gw (wt_3 (List.mem_of_getElem? (i := 147) rfl)) rfl
theorem wd_716 : Cond.instanceMethod yJ0_coder_7d493 ∈ lw_g := gw (wt_3 (List.mem_of_getElem? (i := 128) rfl)) rfl
theorem wd_717 : Cond.selects RJ0 yJ0_coder_7d493 yJ0_coder_7d493 ∈ lw_g := gw (wt_3 (List.mem_of_getElem? (i := 129) rfl)) rfl
theorem wd_726 : Cond.instanceMethod yJ0_isLatin1_aae02 ∈ lw_g := gw (wt_3 (List.mem_of_getElem? (i := 138) rfl)) rfl
theorem wd_727 : Cond.selects RJ0 yJ0_isLatin1_aae02 yJ0_isLatin1_aae02 ∈ lw_g := gw (wt_3 (List.mem_of_getElem? (i := 139) rfl)) rfl
theorem wd_712 : Cond.instanceMethod yJ0_length_8abf5 ∈ lw_g := gw (wt_3 (List.mem_of_getElem? (i := 124) rfl)) rfl
theorem wd_713 : Cond.selects RJ0 yJ0_length_8abf5 yJ0_length_8abf5 ∈ lw_g := gw (wt_3 (List.mem_of_getElem? (i := 125) rfl)) rfl
theorem wd_722 : Cond.instanceMethod yJ0_charAt_5068e ∈ lw_g := gw (wt_3 (List.mem_of_getElem? (i := 134) rfl)) rfl
theorem wd_723 : Cond.selects RJ0 yJ0_charAt_5068e yJ0_charAt_5068e ∈ lw_g := gw (wt_3 (List.mem_of_getElem? (i := 135) rfl)) rfl
theorem wd_733 : Cond.static yJ0_checkIndex_df160 ∈ lw_g := gw (wt_3 (List.mem_of_getElem? (i := 145) rfl)) rfl
theorem wd_730 : Cond.static yJ1_charAt_3b067 ∈ lw_g := gw (wt_3 (List.mem_of_getElem? (i := 142) rfl)) rfl
theorem wd_738 : Cond.static yJ3_checkIndex_8e157 ∈ lw_g := gw (wt_3 (List.mem_of_getElem? (i := 150) rfl)) rfl
theorem wd_718 : Cond.code yJ0_coder_7d493 cJ0_coder_7d493 1 (some .byte) ∈ lw_g := gw (wt_3 (List.mem_of_getElem? (i := 130) rfl)) rfl
theorem wd_728 : Cond.code yJ0_isLatin1_aae02 cJ0_isLatin1_aae02 1 (some .boolean) ∈ lw_g := gw (wt_3 (List.mem_of_getElem? (i := 140) rfl)) rfl
theorem wd_714 : Cond.code yJ0_length_8abf5 cJ0_length_8abf5 1 (some .int) ∈ lw_g := gw (wt_3 (List.mem_of_getElem? (i := 126) rfl)) rfl
theorem wd_724 : Cond.code yJ0_charAt_5068e cJ0_charAt_5068e 2 (some .char) ∈ lw_g := gw (wt_3 (List.mem_of_getElem? (i := 136) rfl)) rfl
theorem wd_734 : Cond.code yJ0_checkIndex_df160 cJ0_checkIndex_df160 2 (none) ∈ lw_g := gw (wt_3 (List.mem_of_getElem? (i := 146) rfl)) rfl
theorem wd_731 : Cond.code yJ1_charAt_3b067 cJ1_charAt_3b067 2 (some .char) ∈ lw_g := gw (wt_3 (List.mem_of_getElem? (i := 143) rfl)) rfl
theorem wd_739 : Cond.code yJ3_checkIndex_8e157 cJ3_checkIndex_8e157 3 (some .int) ∈ lw_g := gw (wt_3 (List.mem_of_getElem? (i := 151) rfl)) rfl
theorem wd_122 : Cond.initialized RJ0 ∈ lw_g := gw (wt_1 (List.mem_of_getElem? (i := 14) rfl)) rfl
theorem wd_123 : Cond.initialized RJ1 ∈ lw_g := gw (wt_1 (List.mem_of_getElem? (i := 15) rfl)) rfl
theorem wd_124 : Cond.initialized RJ3 ∈ lw_g := gw (wt_1 (List.mem_of_getElem? (i := 16) rfl)) rfl
theorem wd_715 : Cond.methodLink RJ0 335 yJ0_coder_7d493 ∈ lw_g := gw (wt_3 (List.mem_of_getElem? (i := 127) rfl)) rfl
theorem wd_725 : Cond.methodLink RJ0 492 yJ0_isLatin1_aae02 ∈ lw_g := gw (wt_3 (List.mem_of_getElem? (i := 137) rfl)) rfl
theorem wd_737 : Cond.methodLink RJ0 1059 yJ3_checkIndex_8e157 ∈ lw_g := gw (wt_3 (List.mem_of_getElem? (i := 149) rfl)) rfl
theorem wd_732 : Cond.methodLink RJ1 9 yJ0_checkIndex_df160 ∈ lw_g := gw (wt_3 (List.mem_of_getElem? (i := 144) rfl)) rfl
theorem wd_729 : Cond.methodLink RJ0 495 yJ1_charAt_3b067 ∈ lw_g := gw (wt_3 (List.mem_of_getElem? (i := 141) rfl)) rfl
theorem wd_711 : Cond.methodLink RX3 154 yJ0_length_8abf5 ∈ lw_g := gw (wt_3 (List.mem_of_getElem? (i := 123) rfl)) rfl
theorem wd_721 : Cond.methodLink RX3 159 yJ0_charAt_5068e ∈ lw_g := gw (wt_3 (List.mem_of_getElem? (i := 133) rfl)) rfl
