theorem zmc_ge {c : Nat} (h : 13 ≤ c) : zmc c = [] := by unfold zmc; split <;> first | rfl | omega
def zcw (q : zMt) : Cond := if q.2.2.2.2.1 = [] then .code q.1 q.2.1 q.2.2.1 q.2.2.2.1 else .codeWith q.1 q.2.1 q.2.2.1 q.2.2.2.1 q.2.2.2.2.1
def zplj (j : Nat) : Option (Nat × Nat × Nat × Nat) := (zpl (j / 200))[j % 200]?
theorem zall_app {α : Type} {f : α → Bool} {a b : List α} (ha : a.all f = true) (hb : b.all f = true) : (a ++ b).all f = true := by rw [List.all_append, ha, hb]; rfl
/-- the calls of a class's pool -/
def zmpe (c : Nat) (e : Nat × Nat × Nat × Nat) : Bool := match zent e.2.2.1, zplj e.2.2.1 with
  | some q, some pl => (match e.2.1 with
    | 0 => decide (lw_tbl[e.2.2.2]? = some (.methodLink (zcn c) e.1 q.1)) && decide (lw_tbl[pl.2.1]? = some (.instanceMethod q.1)) && decide (lw_tbl[pl.2.2.1]? = some (.selects q.1.cls q.1 q.1)) && q.2.2.2.2.1.isEmpty && Nat.blt (e.2.2.1 / 200) 10
    | 1 => decide (lw_tbl[e.2.2.2]? = some (.methodLink (zcn c) e.1 q.1)) && decide (lw_tbl[pl.2.1]? = some (.static q.1)) && (e.2.2.1 != 2024)
    | 2 => decide (lw_tbl[e.2.2.2]? = some (.methodLink (zcn c) e.1 q.1)) && decide (lw_tbl[pl.2.1]? = some (.instanceMethod q.1)) && zini e.2.2.1 && q.2.2.2.2.1.isEmpty && decide (q.2.2.2.1 = none) && Nat.blt (e.2.2.1 / 200) 10
    | 3 => decide (Cond.methodLinkNest (zcn c) e.1 q.1 "ElidedLocks" ∈ zNs) && decide (lw_tbl[pl.2.1]? = some (.instanceMethod q.1)) && zini e.2.2.1 && q.2.2.2.2.1.isEmpty && decide (q.2.2.2.1 = none) && Nat.blt (e.2.2.1 / 200) 10
    | _ => true)
  | _, _ => (match e.2.1 with
    | 0 | 1 | 2 | 3 => false
    | _ => true)
theorem zmq_0_0 : ([(3, 4, 0, 190), (32, 5, 0, 519)] : List (Nat × Nat × Nat × Nat)).all (zmpe 0) = true := by decide +kernel
theorem zmq_0 : ∀ e ∈ zmp 0, zmpe 0 e = true := fun e h => List.all_eq_true.mp (show (([(3, 4, 0, 190), (32, 5, 0, 519)] : List (Nat × Nat × Nat × Nat))).all (zmpe 0) = true from zmq_0_0) e h
theorem zmq_1_0 : ([(3, 4, 0, 152)] : List (Nat × Nat × Nat × Nat)).all (zmpe 1) = true := by decide +kernel
theorem zmq_1 : ∀ e ∈ zmp 1, zmpe 1 e = true := fun e h => List.all_eq_true.mp (show (([(3, 4, 0, 152)] : List (Nat × Nat × Nat × Nat))).all (zmpe 1) = true from zmq_1_0) e h
theorem zmq_2_0 : ([(3, 4, 0, 290), (15, 5, 0, 524), (28, 1, 2400, 1259)] : List (Nat × Nat × Nat × Nat)).all (zmpe 2) = true := by decide +kernel
theorem zmq_2 : ∀ e ∈ zmp 2, zmpe 2 e = true := fun e h => List.all_eq_true.mp (show (([(3, 4, 0, 290), (15, 5, 0, 524), (28, 1, 2400, 1259)] : List (Nat × Nat × Nat × Nat))).all (zmpe 2) = true from zmq_2_0) e h
theorem zmq_3_0 : ([(3, 4, 0, 145), (23, 2, 200, 149), (32, 3, 1200, 181), (52, 3, 400, 287), (57, 5, 0, 503), (63, 0, 201, 506), (70, 0, 1201, 510), (82, 0, 401, 520), (112, 0, 608, 529), (108, 0, 602, 533), (116, 0, 1206, 537), (136, 0, 1205, 547)] : List (Nat × Nat × Nat × Nat)).all (zmpe 3) = true := by decide +kernel
theorem zmq_3_1 : ([(139, 0, 1204, 551), (142, 0, 614, 555), (183, 0, 603, 559), (158, 0, 620, 563), (203, 0, 604, 567), (85, 1, 2401, 571), (238, 0, 606, 574), (241, 0, 621, 578), (123, 1, 2200, 582), (176, 0, 624, 588), (274, 0, 203, 592), (231, 0, 3, 596)] : List (Nat × Nat × Nat × Nat)).all (zmpe 3) = true := by decide +kernel
theorem zmq_3_2 : ([(179, 0, 402, 600), (245, 0, 622, 604), (252, 0, 623, 608), (256, 0, 7, 612), (215, 0, 4, 616), (218, 0, 605, 620), (101, 0, 8, 624), (200, 0, 5, 628), (146, 0, 613, 632), (196, 0, 2, 636), (212, 0, 202, 640), (149, 0, 615, 644)] : List (Nat × Nat × Nat × Nat)).all (zmpe 3) = true := by decide +kernel
theorem zmq_3_3 : ([(224, 0, 6, 648), (227, 0, 616, 652), (152, 0, 617, 656), (162, 0, 618, 660), (166, 0, 619, 664), (170, 0, 612, 668), (120, 0, 627, 1154), (129, 0, 610, 1155)] : List (Nat × Nat × Nat × Nat)).all (zmpe 3) = true := by decide +kernel
theorem zmq_3 : ∀ e ∈ zmp 3, zmpe 3 e = true := fun e h => List.all_eq_true.mp (show (([(3, 4, 0, 145), (23, 2, 200, 149), (32, 3, 1200, 181), (52, 3, 400, 287), (57, 5, 0, 503), (63, 0, 201, 506), (70, 0, 1201, 510), (82, 0, 401, 520), (112, 0, 608, 529), (108, 0, 602, 533), (116, 0, 1206, 537), (136, 0, 1205, 547)] : List (Nat × Nat × Nat × Nat)) ++ (([(139, 0, 1204, 551), (142, 0, 614, 555), (183, 0, 603, 559), (158, 0, 620, 563), (203, 0, 604, 567), (85, 1, 2401, 571), (238, 0, 606, 574), (241, 0, 621, 578), (123, 1, 2200, 582), (176, 0, 624, 588), (274, 0, 203, 592), (231, 0, 3, 596)] : List (Nat × Nat × Nat × Nat)) ++ (([(179, 0, 402, 600), (245, 0, 622, 604), (252, 0, 623, 608), (256, 0, 7, 612), (215, 0, 4, 616), (218, 0, 605, 620), (101, 0, 8, 624), (200, 0, 5, 628), (146, 0, 613, 632), (196, 0, 2, 636), (212, 0, 202, 640), (149, 0, 615, 644)] : List (Nat × Nat × Nat × Nat)) ++ (([(224, 0, 6, 648), (227, 0, 616, 652), (152, 0, 617, 656), (162, 0, 618, 660), (166, 0, 619, 664), (170, 0, 612, 668), (120, 0, 627, 1154), (129, 0, 610, 1155)] : List (Nat × Nat × Nat × Nat)))))).all (zmpe 3) = true from (zall_app zmq_3_0 (zall_app zmq_3_1 (zall_app zmq_3_2 zmq_3_3)))) e h
theorem zmq_4_0 : ([(3, 4, 0, 407), (47, 0, 602, 680), (51, 0, 1211, 681), (57, 0, 607, 695), (67, 5, 0, 696), (73, 0, 804, 697), (76, 0, 808, 701), (83, 0, 805, 705), (86, 0, 1210, 709), (90, 0, 1204, 710), (93, 0, 1205, 711), (96, 0, 806, 712)] : List (Nat × Nat × Nat × Nat)).all (zmpe 4) = true := by decide +kernel
theorem zmq_4_1 : ([(100, 0, 603, 716), (109, 0, 807, 717)] : List (Nat × Nat × Nat × Nat)).all (zmpe 4) = true := by decide +kernel
theorem zmq_4 : ∀ e ∈ zmp 4, zmpe 4 e = true := fun e h => List.all_eq_true.mp (show (([(3, 4, 0, 407), (47, 0, 602, 680), (51, 0, 1211, 681), (57, 0, 607, 695), (67, 5, 0, 696), (73, 0, 804, 697), (76, 0, 808, 701), (83, 0, 805, 705), (86, 0, 1210, 709), (90, 0, 1204, 710), (93, 0, 1205, 711), (96, 0, 806, 712)] : List (Nat × Nat × Nat × Nat)) ++ (([(100, 0, 603, 716), (109, 0, 807, 717)] : List (Nat × Nat × Nat × Nat)))).all (zmpe 4) = true from (zall_app zmq_4_0 zmq_4_1)) e h
theorem zmq_5_0 : ([(3, 4, 0, 371), (19, 1, 2402, 778), (32, 0, 1009, 781), (38, 0, 1002, 785), (48, 0, 1011, 790), (134, 6, 0, 794), (139, 7, 0, 804), (52, 0, 1004, 842), (83, 0, 1012, 846), (86, 0, 603, 850), (55, 0, 1005, 851), (64, 0, 1006, 855)] : List (Nat × Nat × Nat × Nat)).all (zmpe 5) = true := by decide +kernel
theorem zmq_5_1 : ([(102, 0, 631, 860), (67, 0, 1003, 864), (71, 0, 1007, 872), (109, 0, 602, 876), (113, 0, 1202, 877), (118, 0, 1008, 882), (130, 0, 1203, 891), (42, 0, 1010, 895)] : List (Nat × Nat × Nat × Nat)).all (zmpe 5) = true := by decide +kernel
theorem zmq_5 : ∀ e ∈ zmp 5, zmpe 5 e = true := fun e h => List.all_eq_true.mp (show (([(3, 4, 0, 371), (19, 1, 2402, 778), (32, 0, 1009, 781), (38, 0, 1002, 785), (48, 0, 1011, 790), (134, 6, 0, 794), (139, 7, 0, 804), (52, 0, 1004, 842), (83, 0, 1012, 846), (86, 0, 603, 850), (55, 0, 1005, 851), (64, 0, 1006, 855)] : List (Nat × Nat × Nat × Nat)) ++ (([(102, 0, 631, 860), (67, 0, 1003, 864), (71, 0, 1007, 872), (109, 0, 602, 876), (113, 0, 1202, 877), (118, 0, 1008, 882), (130, 0, 1203, 891), (42, 0, 1010, 895)] : List (Nat × Nat × Nat × Nat)))).all (zmpe 5) = true from (zall_app zmq_5_0 zmq_5_1)) e h
theorem zmq_6_0 : ([(3, 4, 0, 184), (23, 3, 0, 187), (28, 5, 0, 514), (53, 0, 1, 515), (81, 0, 1210, 685), (64, 0, 1204, 689), (67, 0, 1208, 690), (60, 0, 1205, 694), (57, 0, 3, 881), (71, 1, 2200, 1230), (76, 1, 2401, 1231)] : List (Nat × Nat × Nat × Nat)).all (zmpe 6) = true := by decide +kernel
theorem zmq_6 : ∀ e ∈ zmp 6, zmpe 6 e = true := fun e h => List.all_eq_true.mp (show (([(3, 4, 0, 184), (23, 3, 0, 187), (28, 5, 0, 514), (53, 0, 1, 515), (81, 0, 1210, 685), (64, 0, 1204, 689), (67, 0, 1208, 690), (60, 0, 1205, 694), (57, 0, 3, 881), (71, 1, 2200, 1230), (76, 1, 2401, 1231)] : List (Nat × Nat × Nat × Nat))).all (zmpe 6) = true from zmq_6_0) e h
theorem zmq_7_0 : ([(3, 4, 0, 394), (21, 0, 1404, 1274), (46, 6, 0, 1278), (51, 7, 0, 1279), (30, 0, 1403, 1280), (36, 0, 1204, 1285), (40, 0, 1205, 1286), (43, 0, 1405, 1287)] : List (Nat × Nat × Nat × Nat)).all (zmpe 7) = true := by decide +kernel
theorem zmq_7 : ∀ e ∈ zmp 7, zmpe 7 e = true := fun e h => List.all_eq_true.mp (show (([(3, 4, 0, 394), (21, 0, 1404, 1274), (46, 6, 0, 1278), (51, 7, 0, 1279), (30, 0, 1403, 1280), (36, 0, 1204, 1285), (40, 0, 1205, 1286), (43, 0, 1405, 1287)] : List (Nat × Nat × Nat × Nat))).all (zmpe 7) = true from zmq_7_0) e h
theorem zmq_8_0 : ([(3, 4, 0, 137), (11, 3, 600, 142), (32, 2, 1000, 368), (41, 3, 1400, 391), (48, 2, 800, 404), (58, 0, 1602, 475), (251, 0, 1625, 495), (62, 0, 601, 499), (254, 0, 607, 525), (229, 0, 608, 541), (216, 0, 611, 543), (271, 0, 803, 676)] : List (Nat × Nat × Nat × Nat)).all (zmpe 8) = true := by decide +kernel
theorem zmq_8_1 : ([(274, 0, 802, 721), (302, 0, 1402, 729), (84, 0, 801, 741), (308, 0, 627, 749), (311, 0, 628, 753), (314, 0, 630, 757), (317, 0, 629, 761), (65, 0, 1001, 774), (87, 0, 1638, 993), (154, 0, 602, 1013), (109, 0, 1206, 1014), (118, 0, 1207, 1015)] : List (Nat × Nat × Nat × Nat)).all (zmpe 8) = true := by decide +kernel
theorem zmq_8_2 : ([(140, 1, 1640, 1049), (163, 1, 1639, 1068), (166, 0, 605, 1079), (175, 0, 603, 1088), (190, 0, 626, 1089), (201, 0, 1204, 1109), (204, 0, 1205, 1110), (219, 1, 1641, 1142), (222, 0, 1618, 1146), (226, 0, 609, 1150), (234, 0, 620, 1175), (257, 0, 625, 1207)] : List (Nat × Nat × Nat × Nat)).all (zmpe 8) = true := by decide +kernel
theorem zmq_8_3 : ([(262, 0, 1209, 1226), (265, 0, 1211, 1239), (292, 0, 403, 1255), (298, 0, 1401, 1269)] : List (Nat × Nat × Nat × Nat)).all (zmpe 8) = true := by decide +kernel
theorem zmq_8 : ∀ e ∈ zmp 8, zmpe 8 e = true := fun e h => List.all_eq_true.mp (show (([(3, 4, 0, 137), (11, 3, 600, 142), (32, 2, 1000, 368), (41, 3, 1400, 391), (48, 2, 800, 404), (58, 0, 1602, 475), (251, 0, 1625, 495), (62, 0, 601, 499), (254, 0, 607, 525), (229, 0, 608, 541), (216, 0, 611, 543), (271, 0, 803, 676)] : List (Nat × Nat × Nat × Nat)) ++ (([(274, 0, 802, 721), (302, 0, 1402, 729), (84, 0, 801, 741), (308, 0, 627, 749), (311, 0, 628, 753), (314, 0, 630, 757), (317, 0, 629, 761), (65, 0, 1001, 774), (87, 0, 1638, 993), (154, 0, 602, 1013), (109, 0, 1206, 1014), (118, 0, 1207, 1015)] : List (Nat × Nat × Nat × Nat)) ++ (([(140, 1, 1640, 1049), (163, 1, 1639, 1068), (166, 0, 605, 1079), (175, 0, 603, 1088), (190, 0, 626, 1089), (201, 0, 1204, 1109), (204, 0, 1205, 1110), (219, 1, 1641, 1142), (222, 0, 1618, 1146), (226, 0, 609, 1150), (234, 0, 620, 1175), (257, 0, 625, 1207)] : List (Nat × Nat × Nat × Nat)) ++ (([(262, 0, 1209, 1226), (265, 0, 1211, 1239), (292, 0, 403, 1255), (298, 0, 1401, 1269)] : List (Nat × Nat × Nat × Nat)))))).all (zmpe 8) = true from (zall_app zmq_8_0 (zall_app zmq_8_1 (zall_app zmq_8_2 zmq_8_3)))) e h
theorem zmq_9_0 : ([(7, 4, 0, 1300), (42, 1, 1806, 1357), (282, 0, 1861, 1380), (178, 0, 1845, 1384), (172, 0, 1844, 1388), (213, 0, 1846, 1392), (279, 0, 1860, 1396), (195, 0, 1847, 1401), (181, 6, 0, 1405), (186, 7, 0, 1406), (245, 0, 1853, 1407), (77, 0, 1809, 1411)] : List (Nat × Nat × Nat × Nat)).all (zmpe 9) = true := by decide +kernel
theorem zmq_9_1 : ([(50, 1, 1810, 1415), (222, 0, 1852, 1418), (216, 0, 1851, 1422), (54, 0, 1811, 1434), (219, 0, 1850, 1438), (190, 0, 1849, 1442), (225, 0, 1848, 1446), (251, 0, 1854, 1451), (256, 0, 1855, 1456), (261, 0, 1856, 1462), (270, 0, 1859, 1469), (273, 1, 1857, 1480)] : List (Nat × Nat × Nat × Nat)).all (zmpe 9) = true := by decide +kernel
theorem zmq_9_2 : ([(276, 1, 1858, 1483), (285, 0, 1801, 1486), (292, 0, 1863, 1494), (289, 1, 1802, 1498), (153, 0, 1812, 1501), (296, 0, 1835, 1506), (146, 0, 1813, 1510), (150, 0, 1834, 1514), (133, 0, 1829, 1518), (111, 0, 1823, 1522), (91, 0, 1814, 1526), (95, 0, 1819, 1530)] : List (Nat × Nat × Nat × Nat)).all (zmpe 9) = true := by decide +kernel
theorem zmq_9_3 : ([(99, 0, 1821, 1534), (85, 0, 1820, 1538), (81, 1, 1803, 1542), (88, 0, 1818, 1545), (70, 0, 1817, 1549), (57, 1, 2401, 1553), (62, 0, 1816, 1554), (66, 0, 1815, 1558), (114, 0, 1822, 1562), (117, 0, 1825, 1566), (120, 0, 1824, 1570), (102, 1, 1804, 1574)] : List (Nat × Nat × Nat × Nat)).all (zmpe 9) = true := by decide +kernel
theorem zmq_9_4 : ([(105, 0, 1826, 1577), (124, 0, 1827, 1581), (127, 0, 1828, 1585), (108, 1, 2402, 1589), (136, 0, 1831, 1590), (130, 0, 1830, 1594), (139, 0, 1832, 1598), (142, 0, 1833, 1602), (308, 0, 1865, 1610), (299, 0, 1837, 1614), (156, 0, 1836, 1618), (302, 0, 1840, 1622)] : List (Nat × Nat × Nat × Nat)).all (zmpe 9) = true := by decide +kernel
theorem zmq_9_5 : ([(160, 0, 1839, 1626), (305, 0, 1838, 1631), (312, 0, 1871, 1655), (315, 0, 1876, 1675), (318, 0, 1879, 1687), (321, 0, 1885, 1711), (324, 0, 1886, 1715), (327, 0, 1887, 1719), (330, 0, 1889, 1727), (333, 0, 1891, 1735), (336, 0, 1894, 1747), (340, 0, 1897, 1759)] : List (Nat × Nat × Nat × Nat)).all (zmpe 9) = true := by decide +kernel
theorem zmq_9_6 : ([(346, 0, 1900, 1767), (343, 0, 1899, 1771), (359, 0, 1905, 1779), (352, 0, 1904, 1783), (355, 0, 1902, 1787), (349, 0, 1903, 1791), (370, 0, 1907, 1800), (390, 0, 1909, 1805), (365, 0, 1908, 1816)] : List (Nat × Nat × Nat × Nat)).all (zmpe 9) = true := by decide +kernel
theorem zmq_9 : ∀ e ∈ zmp 9, zmpe 9 e = true := fun e h => List.all_eq_true.mp (show (([(7, 4, 0, 1300), (42, 1, 1806, 1357), (282, 0, 1861, 1380), (178, 0, 1845, 1384), (172, 0, 1844, 1388), (213, 0, 1846, 1392), (279, 0, 1860, 1396), (195, 0, 1847, 1401), (181, 6, 0, 1405), (186, 7, 0, 1406), (245, 0, 1853, 1407), (77, 0, 1809, 1411)] : List (Nat × Nat × Nat × Nat)) ++ (([(50, 1, 1810, 1415), (222, 0, 1852, 1418), (216, 0, 1851, 1422), (54, 0, 1811, 1434), (219, 0, 1850, 1438), (190, 0, 1849, 1442), (225, 0, 1848, 1446), (251, 0, 1854, 1451), (256, 0, 1855, 1456), (261, 0, 1856, 1462), (270, 0, 1859, 1469), (273, 1, 1857, 1480)] : List (Nat × Nat × Nat × Nat)) ++ (([(276, 1, 1858, 1483), (285, 0, 1801, 1486), (292, 0, 1863, 1494), (289, 1, 1802, 1498), (153, 0, 1812, 1501), (296, 0, 1835, 1506), (146, 0, 1813, 1510), (150, 0, 1834, 1514), (133, 0, 1829, 1518), (111, 0, 1823, 1522), (91, 0, 1814, 1526), (95, 0, 1819, 1530)] : List (Nat × Nat × Nat × Nat)) ++ (([(99, 0, 1821, 1534), (85, 0, 1820, 1538), (81, 1, 1803, 1542), (88, 0, 1818, 1545), (70, 0, 1817, 1549), (57, 1, 2401, 1553), (62, 0, 1816, 1554), (66, 0, 1815, 1558), (114, 0, 1822, 1562), (117, 0, 1825, 1566), (120, 0, 1824, 1570), (102, 1, 1804, 1574)] : List (Nat × Nat × Nat × Nat)) ++ (([(105, 0, 1826, 1577), (124, 0, 1827, 1581), (127, 0, 1828, 1585), (108, 1, 2402, 1589), (136, 0, 1831, 1590), (130, 0, 1830, 1594), (139, 0, 1832, 1598), (142, 0, 1833, 1602), (308, 0, 1865, 1610), (299, 0, 1837, 1614), (156, 0, 1836, 1618), (302, 0, 1840, 1622)] : List (Nat × Nat × Nat × Nat)) ++ (([(160, 0, 1839, 1626), (305, 0, 1838, 1631), (312, 0, 1871, 1655), (315, 0, 1876, 1675), (318, 0, 1879, 1687), (321, 0, 1885, 1711), (324, 0, 1886, 1715), (327, 0, 1887, 1719), (330, 0, 1889, 1727), (333, 0, 1891, 1735), (336, 0, 1894, 1747), (340, 0, 1897, 1759)] : List (Nat × Nat × Nat × Nat)) ++ (([(346, 0, 1900, 1767), (343, 0, 1899, 1771), (359, 0, 1905, 1779), (352, 0, 1904, 1783), (355, 0, 1902, 1787), (349, 0, 1903, 1791), (370, 0, 1907, 1800), (390, 0, 1909, 1805), (365, 0, 1908, 1816)] : List (Nat × Nat × Nat × Nat))))))))).all (zmpe 9) = true from (zall_app zmq_9_0 (zall_app zmq_9_1 (zall_app zmq_9_2 (zall_app zmq_9_3 (zall_app zmq_9_4 (zall_app zmq_9_5 zmq_9_6))))))) e h
theorem zmq_10_0 : ([(95, 2, 1600, 134), (99, 0, 1601, 471), (104, 0, 1603, 479), (115, 0, 1605, 483), (167, 0, 1621, 487), (177, 0, 1624, 491), (193, 0, 1630, 672), (206, 0, 1634, 725), (210, 0, 1635, 733), (214, 0, 1636, 737), (219, 0, 1637, 745), (109, 1, 2000, 765)] : List (Nat × Nat × Nat × Nat)).all (zmpe 10) = true := by decide +kernel
theorem zmq_10_1 : ([(7, 0, 1604, 770), (119, 1, 2001, 984), (17, 0, 1606, 989), (126, 1, 2002, 1035), (25, 0, 1607, 1038), (129, 1, 2003, 1042), (28, 0, 1608, 1045), (132, 1, 2004, 1053), (31, 0, 1609, 1056), (135, 1, 2005, 1061), (34, 0, 1610, 1064), (139, 1, 2006, 1072)] : List (Nat × Nat × Nat × Nat)).all (zmpe 10) = true := by decide +kernel
theorem zmq_10_2 : ([(38, 0, 1611, 1075), (142, 1, 2007, 1080), (41, 0, 1612, 1083), (145, 1, 2008, 1094), (44, 0, 1613, 1097), (148, 1, 2009, 1102), (47, 0, 1614, 1105), (152, 1, 2010, 1111), (51, 0, 1615, 1115), (155, 1, 2011, 1135), (56, 0, 1616, 1138), (158, 1, 2012, 1160)] : List (Nat × Nat × Nat × Nat)).all (zmpe 10) = true := by decide +kernel
theorem zmq_10_3 : ([(59, 0, 1617, 1163), (161, 1, 2013, 1167), (62, 0, 1619, 1170), (164, 1, 2014, 1176), (65, 0, 1620, 1179), (171, 1, 2015, 1186), (68, 0, 1622, 1189), (174, 1, 2016, 1193), (71, 0, 1623, 1196), (181, 1, 2017, 1200), (74, 0, 1626, 1203), (184, 1, 2018, 1211)] : List (Nat × Nat × Nat × Nat)).all (zmpe 10) = true := by decide +kernel
theorem zmq_10_4 : ([(77, 0, 1627, 1214), (187, 1, 2019, 1219), (80, 0, 1628, 1222), (190, 1, 2020, 1232), (83, 0, 1629, 1235), (197, 1, 2021, 1240), (86, 0, 1631, 1243), (200, 1, 2022, 1247), (89, 0, 1632, 1250), (203, 1, 2023, 1262), (92, 0, 1633, 1265), (123, 0, 1800, 1291)] : List (Nat × Nat × Nat × Nat)).all (zmpe 10) = true := by decide +kernel
theorem zmq_10_5 : ([(98, 2, 1805, 1297), (213, 0, 1807, 1353), (218, 0, 1808, 1360), (103, 0, 1841, 1364), (108, 0, 1842, 1368), (118, 0, 1843, 1372), (114, 0, 1862, 1376), (154, 0, 1864, 1490), (157, 0, 1866, 1606), (160, 0, 1867, 1635), (163, 0, 1868, 1639), (166, 0, 1869, 1643)] : List (Nat × Nat × Nat × Nat)).all (zmpe 10) = true := by decide +kernel
theorem zmq_10_6 : ([(170, 0, 1870, 1647), (122, 0, 1872, 1651), (128, 0, 1873, 1659), (131, 0, 1874, 1663), (134, 0, 1875, 1667), (138, 0, 1877, 1671), (141, 0, 1878, 1679), (144, 0, 1880, 1683), (147, 0, 1881, 1691), (151, 0, 1882, 1695), (199, 0, 1883, 1699), (202, 0, 1884, 1703)] : List (Nat × Nat × Nat × Nat)).all (zmpe 10) = true := by decide +kernel
theorem zmq_10_7 : ([(222, 0, 1888, 1707), (173, 0, 1890, 1723), (176, 0, 1892, 1731), (180, 0, 1893, 1739), (183, 0, 1895, 1743), (186, 0, 1896, 1751), (189, 0, 1898, 1755), (192, 0, 1901, 1763), (196, 0, 1906, 1775), (205, 0, 1910, 1795), (209, 0, 1911, 1820)] : List (Nat × Nat × Nat × Nat)).all (zmpe 10) = true := by decide +kernel
theorem zmq_10 : ∀ e ∈ zmp 10, zmpe 10 e = true := fun e h => List.all_eq_true.mp (show (([(95, 2, 1600, 134), (99, 0, 1601, 471), (104, 0, 1603, 479), (115, 0, 1605, 483), (167, 0, 1621, 487), (177, 0, 1624, 491), (193, 0, 1630, 672), (206, 0, 1634, 725), (210, 0, 1635, 733), (214, 0, 1636, 737), (219, 0, 1637, 745), (109, 1, 2000, 765)] : List (Nat × Nat × Nat × Nat)) ++ (([(7, 0, 1604, 770), (119, 1, 2001, 984), (17, 0, 1606, 989), (126, 1, 2002, 1035), (25, 0, 1607, 1038), (129, 1, 2003, 1042), (28, 0, 1608, 1045), (132, 1, 2004, 1053), (31, 0, 1609, 1056), (135, 1, 2005, 1061), (34, 0, 1610, 1064), (139, 1, 2006, 1072)] : List (Nat × Nat × Nat × Nat)) ++ (([(38, 0, 1611, 1075), (142, 1, 2007, 1080), (41, 0, 1612, 1083), (145, 1, 2008, 1094), (44, 0, 1613, 1097), (148, 1, 2009, 1102), (47, 0, 1614, 1105), (152, 1, 2010, 1111), (51, 0, 1615, 1115), (155, 1, 2011, 1135), (56, 0, 1616, 1138), (158, 1, 2012, 1160)] : List (Nat × Nat × Nat × Nat)) ++ (([(59, 0, 1617, 1163), (161, 1, 2013, 1167), (62, 0, 1619, 1170), (164, 1, 2014, 1176), (65, 0, 1620, 1179), (171, 1, 2015, 1186), (68, 0, 1622, 1189), (174, 1, 2016, 1193), (71, 0, 1623, 1196), (181, 1, 2017, 1200), (74, 0, 1626, 1203), (184, 1, 2018, 1211)] : List (Nat × Nat × Nat × Nat)) ++ (([(77, 0, 1627, 1214), (187, 1, 2019, 1219), (80, 0, 1628, 1222), (190, 1, 2020, 1232), (83, 0, 1629, 1235), (197, 1, 2021, 1240), (86, 0, 1631, 1243), (200, 1, 2022, 1247), (89, 0, 1632, 1250), (203, 1, 2023, 1262), (92, 0, 1633, 1265), (123, 0, 1800, 1291)] : List (Nat × Nat × Nat × Nat)) ++ (([(98, 2, 1805, 1297), (213, 0, 1807, 1353), (218, 0, 1808, 1360), (103, 0, 1841, 1364), (108, 0, 1842, 1368), (118, 0, 1843, 1372), (114, 0, 1862, 1376), (154, 0, 1864, 1490), (157, 0, 1866, 1606), (160, 0, 1867, 1635), (163, 0, 1868, 1639), (166, 0, 1869, 1643)] : List (Nat × Nat × Nat × Nat)) ++ (([(170, 0, 1870, 1647), (122, 0, 1872, 1651), (128, 0, 1873, 1659), (131, 0, 1874, 1663), (134, 0, 1875, 1667), (138, 0, 1877, 1671), (141, 0, 1878, 1679), (144, 0, 1880, 1683), (147, 0, 1881, 1691), (151, 0, 1882, 1695), (199, 0, 1883, 1699), (202, 0, 1884, 1703)] : List (Nat × Nat × Nat × Nat)) ++ (([(222, 0, 1888, 1707), (173, 0, 1890, 1723), (176, 0, 1892, 1731), (180, 0, 1893, 1739), (183, 0, 1895, 1743), (186, 0, 1896, 1751), (189, 0, 1898, 1755), (192, 0, 1901, 1763), (196, 0, 1906, 1775), (205, 0, 1910, 1795), (209, 0, 1911, 1820)] : List (Nat × Nat × Nat × Nat)))))))))).all (zmpe 10) = true from (zall_app zmq_10_0 (zall_app zmq_10_1 (zall_app zmq_10_2 (zall_app zmq_10_3 (zall_app zmq_10_4 (zall_app zmq_10_5 (zall_app zmq_10_6 zmq_10_7)))))))) e h
theorem zmq_11 : ∀ e ∈ zmp 11, zmpe 11 e = true := fun _ h => nomatch h
theorem zmq_12 : ∀ e ∈ zmp 12, zmpe 12 e = true := fun _ h => nomatch h
theorem zmp_ok {c : Nat} {e : Nat × Nat × Nat × Nat} (h : e ∈ zmp c) : zmpe c e = true := by
  match c, h with
  | 0, h => exact zmq_0 e h
  | 1, h => exact zmq_1 e h
  | 2, h => exact zmq_2 e h
  | 3, h => exact zmq_3 e h
  | 4, h => exact zmq_4 e h
  | 5, h => exact zmq_5 e h
  | 6, h => exact zmq_6 e h
  | 7, h => exact zmq_7 e h
  | 8, h => exact zmq_8 e h
  | 9, h => exact zmq_9 e h
  | 10, h => exact zmq_10 e h
  | 11, h => exact zmq_11 e h
  | 12, h => exact zmq_12 e h
  | k + 13, h => rw [zmp_ge (by omega)] at h; cases h
theorem zent_lt {j : Nat} {q : zMt} (h : zent j = some q) : j / 200 < 13 := by
  apply Nat.lt_of_not_le
  intro hc
  unfold zent at h
  rw [zmc_ge hc] at h
  cases h
theorem zplj_ex {j : Nat} {q : zMt} (h : zent j = some q) : ∃ pl, zplj j = some pl := by
  have hlen : (zpl (j / 200)).length = (zmc (j / 200)).length := by
    have h1 := zent_lt h
    exact of_decide_eq_true (List.all_eq_true.mp (show (List.range 13).all (fun c => decide ((zpl c).length = (zmc c).length)) = true by decide +kernel) (j / 200) (List.mem_range.mpr h1))
  unfold zent at h
  unfold zplj
  have h2 := (List.getElem?_eq_some_iff.mp h).1
  exact ⟨_, List.getElem?_eq_getElem (by rw [hlen]; exact h2)⟩
theorem zmt_ok {j : Nat} {q : zMt} (h : zent j = some q) (hj : j ≠ 2024) (hj2 : j < 2400) : ∃ pl, zplj j = some pl ∧ zmok (j / 200) (j % 200) q pl = true := by
  obtain ⟨pl, hp⟩ := zplj_ex h
  refine ⟨pl, hp, ?_⟩
  have hc : j / 200 < 12 := by omega
  have hi : j / 200 = 10 → j % 200 ≠ 24 := by omega
  unfold zent at h
  unfold zplj at hp
  generalize j / 200 = c at h hp hc hi ⊢
  generalize j % 200 = i at h hp hi ⊢
  match c, hc, h, hp, hi with
  | 0, _, h, hp, _ => exact zmt_0 h hp
  | 1, _, h, hp, _ => exact zmt_1 h hp
  | 2, _, h, hp, _ => exact zmt_2 h hp
  | 3, _, h, hp, _ => exact zmt_3 h hp
  | 4, _, h, hp, _ => exact zmt_4 h hp
  | 5, _, h, hp, _ => exact zmt_5 h hp
  | 6, _, h, hp, _ => exact zmt_6 h hp
  | 7, _, h, hp, _ => exact zmt_7 h hp
  | 8, _, h, hp, _ => exact zmt_8 h hp
  | 9, _, h, hp, _ => exact zmt_9 h hp
  | 10, _, h, hp, hi => exact zmt_10 h hp (hi rfl)
  | 11, _, h, hp, _ => exact zmt_11 h hp
  | k + 12, hc, _, _, _ => exact absurd hc (by omega)
theorem zj_eq (j : Nat) : 200 * (j / 200) + j % 200 = j := Nat.div_add_mod j 200
theorem zmt_all {j : Nat} {q : zMt} (h : zent j = some q) (hj : j ≠ 2024) (hj2 : j < 2400) : q.1.cls = zcn (j / 200) ∧ plainName q.1.cls = true ∧ (q.1.cls ≠ "java/lang/invoke/MethodHandle" ∧ q.1.cls ≠ "java/lang/invoke/VarHandle") ∧ zcw q ∈ zWs ∧ Cond.initialized q.1.cls ∈ zWs ∧ (parseMethodDescriptor q.1.desc).map (fun d => d.parameters.length) = some (zna j) ∧ q.2.2.1 ≤ 20 ∧ (zini j = true → q.1.name = "<init>") := by
  obtain ⟨pl, -, hk⟩ := zmt_ok h hj hj2
  unfold zmok at hk
  rw [zj_eq] at hk
  simp only [Bool.and_eq_true, decide_eq_true_eq] at hk
  obtain ⟨⟨⟨⟨⟨⟨⟨⟨⟨⟨⟨a1, a2⟩, a3⟩, a4⟩, a5⟩, a6⟩, a7⟩, a8⟩, a9⟩, a10⟩, a11⟩, a12⟩ := hk
  refine ⟨a1, a2, ⟨a3, a4⟩, ?_, List.mem_filter.mpr ⟨List.mem_of_getElem? a6, rfl⟩, a7, Nat.le_of_ble_eq_true a11, fun hi => ?_⟩
  · unfold zcw
    by_cases hh : q.2.2.2.2.1 = []
    · rw [if_pos hh] at a5 ⊢
      exact List.mem_filter.mpr ⟨List.mem_of_getElem? (of_decide_eq_true a5), rfl⟩
    · rw [if_neg hh] at a5 ⊢
      exact List.mem_filter.mpr ⟨List.mem_of_getElem? (of_decide_eq_true a5), rfl⟩
  · rw [hi, if_pos rfl] at a10
    exact of_decide_eq_true a10
theorem zin_of {i : Nat} {w : Cond} (h : lw_tbl[i]? = some w) (g : goodWord w = true) : w ∈ zWs := List.mem_filter.mpr ⟨List.mem_of_getElem? h, g⟩
theorem zk0_ok {c idx j pl : Nat} (h : (zmp c).lookup idx = some (0, j, pl)) : ∃ q, zent j = some q ∧ Cond.methodLink (zcn c) idx q.1 ∈ zWs ∧ Cond.instanceMethod q.1 ∈ zWs ∧ Cond.selects q.1.cls q.1 q.1 ∈ zWs ∧ q.2.2.2.2.1 = [] ∧ j < 2000 := by
  have h1 := zmp_ok (zlk_of (β := Unit) h)
  unfold zmpe at h1
  cases hq : zent j with
  | none => simp only [hq] at h1; cases h1
  | some q =>
    obtain ⟨p2, hp⟩ := zplj_ex hq
    simp only [hq, hp, Bool.and_eq_true, decide_eq_true_eq] at h1
    obtain ⟨⟨⟨⟨a1, a2⟩, a3⟩, a4⟩, a5⟩ := h1
    have := zblt a5
    exact ⟨q, rfl, zin_of a1 rfl, zin_of a2 rfl, zin_of a3 rfl, List.isEmpty_iff.mp a4, by omega⟩
theorem zk1_ok {c idx j pl : Nat} (h : (zmp c).lookup idx = some (1, j, pl)) : ∃ q, zent j = some q ∧ Cond.methodLink (zcn c) idx q.1 ∈ zWs ∧ Cond.static q.1 ∈ zWs ∧ j ≠ 2024 := by
  have h1 := zmp_ok (zlk_of (β := Unit) h)
  unfold zmpe at h1
  cases hq : zent j with
  | none => simp only [hq] at h1; cases h1
  | some q =>
    obtain ⟨p2, hp⟩ := zplj_ex hq
    simp only [hq, hp, Bool.and_eq_true, decide_eq_true_eq, bne_iff_ne] at h1
    obtain ⟨⟨a1, a2⟩, a3⟩ := h1
    exact ⟨q, rfl, zin_of a1 rfl, zin_of a2 rfl, a3⟩
theorem zk2_ok {c idx j pl : Nat} (h : (zmp c).lookup idx = some (2, j, pl)) : ∃ q, zent j = some q ∧ Cond.methodLink (zcn c) idx q.1 ∈ zWs ∧ Cond.instanceMethod q.1 ∈ zWs ∧ zini j = true ∧ q.2.2.2.2.1 = [] ∧ q.2.2.2.1 = none ∧ j < 2000 := by
  have h1 := zmp_ok (zlk_of (β := Unit) h)
  unfold zmpe at h1
  cases hq : zent j with
  | none => simp only [hq] at h1; cases h1
  | some q =>
    obtain ⟨p2, hp⟩ := zplj_ex hq
    simp only [hq, hp, Bool.and_eq_true, decide_eq_true_eq] at h1
    obtain ⟨⟨⟨⟨⟨a1, a2⟩, a3⟩, a4⟩, a6⟩, a5⟩ := h1
    have := zblt a5
    exact ⟨q, rfl, zin_of a1 rfl, zin_of a2 rfl, a3, List.isEmpty_iff.mp a4, a6, by omega⟩
theorem zk3_ok {c idx j pl : Nat} (h : (zmp c).lookup idx = some (3, j, pl)) : ∃ q, zent j = some q ∧ Cond.methodLinkNest (zcn c) idx q.1 "ElidedLocks" ∈ zNs ∧ Cond.instanceMethod q.1 ∈ zWs ∧ zini j = true ∧ q.2.2.2.2.1 = [] ∧ q.2.2.2.1 = none ∧ j < 2000 := by
  have h1 := zmp_ok (zlk_of (β := Unit) h)
  unfold zmpe at h1
  cases hq : zent j with
  | none => simp only [hq] at h1; cases h1
  | some q =>
    obtain ⟨p2, hp⟩ := zplj_ex hq
    simp only [hq, hp, Bool.and_eq_true, decide_eq_true_eq] at h1
    obtain ⟨⟨⟨⟨⟨a1, a2⟩, a3⟩, a4⟩, a6⟩, a5⟩ := h1
    have := zblt a5
    exact ⟨q, rfl, a1, zin_of a2 rfl, a3, List.isEmpty_iff.mp a4, a6, by omega⟩
