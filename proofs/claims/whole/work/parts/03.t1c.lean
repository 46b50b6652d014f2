theorem ok_X9_addBlow : okY yX9_addBlow 1 = true := by decide +kernel
theorem tg_1094 : Cond.methodLink RL 65 yX9_addBlow ∈ tblG := inG_i 1094 (by decide +kernel) (by decide +kernel)
theorem tg_1095 : Cond.instanceMethod yX9_addBlow ∈ tblG := inG_i 1095 (by decide +kernel) (by decide +kernel)
theorem tg_1096 : Cond.selects RX9 yX9_addBlow yX9_addBlow ∈ tblG := inG_i 1096 (by decide +kernel) (by decide +kernel)
theorem tg_1108 : Cond.code yX9_addFile cX9_addFile 4 (some .int) ∈ tblG := inG_i 1108 (by decide +kernel) (by decide +kernel)
theorem ok_X9_addFile : okY yX9_addFile 3 = true := by decide +kernel
theorem tg_1105 : Cond.methodLink RL 68 yX9_addFile ∈ tblG := inG_i 1105 (by decide +kernel) (by decide +kernel)
theorem tg_1106 : Cond.instanceMethod yX9_addFile ∈ tblG := inG_i 1106 (by decide +kernel) (by decide +kernel)
theorem tg_1107 : Cond.selects RX9 yX9_addFile yX9_addFile ∈ tblG := inG_i 1107 (by decide +kernel) (by decide +kernel)
theorem tg_1115 : Cond.code yX9_judge cX9_judge 3 (some .int) ∈ tblG := inG_i 1115 (by decide +kernel) (by decide +kernel)
theorem ok_X9_judge : okY yX9_judge 2 = true := by decide +kernel
theorem tg_1112 : Cond.methodLink RL 71 yX9_judge ∈ tblG := inG_i 1112 (by decide +kernel) (by decide +kernel)
theorem tg_1113 : Cond.instanceMethod yX9_judge ∈ tblG := inG_i 1113 (by decide +kernel) (by decide +kernel)
theorem tg_1114 : Cond.selects RX9 yX9_judge yX9_judge ∈ tblG := inG_i 1114 (by decide +kernel) (by decide +kernel)
theorem tg_1134 : Cond.code yX9_hours cX9_hours 4 (some .long) ∈ tblG := inG_i 1134 (by decide +kernel) (by decide +kernel)
theorem ok_X9_hours : okY yX9_hours 3 = true := by decide +kernel
theorem tg_1131 : Cond.methodLink RL 74 yX9_hours ∈ tblG := inG_i 1131 (by decide +kernel) (by decide +kernel)
theorem tg_1132 : Cond.instanceMethod yX9_hours ∈ tblG := inG_i 1132 (by decide +kernel) (by decide +kernel)
theorem tg_1133 : Cond.selects RX9 yX9_hours yX9_hours ∈ tblG := inG_i 1133 (by decide +kernel) (by decide +kernel)
theorem tg_1181 : Cond.code yX9_order cX9_order 5 (some .int) ∈ tblG := inG_i 1181 (by decide +kernel) (by decide +kernel)
theorem ok_X9_order : okY yX9_order 4 = true := by decide +kernel
theorem tg_1178 : Cond.methodLink RL 78 yX9_order ∈ tblG := inG_i 1178 (by decide +kernel) (by decide +kernel)
theorem tg_1179 : Cond.instanceMethod yX9_order ∈ tblG := inG_i 1179 (by decide +kernel) (by decide +kernel)
theorem tg_1180 : Cond.selects RX9 yX9_order yX9_order ∈ tblG := inG_i 1180 (by decide +kernel) (by decide +kernel)
theorem tg_1192 : Cond.code yX9_black cX9_black 3 (some .int) ∈ tblG := inG_i 1192 (by decide +kernel) (by decide +kernel)
theorem ok_X9_black : okY yX9_black 2 = true := by decide +kernel
theorem tg_1189 : Cond.methodLink RL 82 yX9_black ∈ tblG := inG_i 1189 (by decide +kernel) (by decide +kernel)
theorem tg_1190 : Cond.instanceMethod yX9_black ∈ tblG := inG_i 1190 (by decide +kernel) (by decide +kernel)
theorem tg_1191 : Cond.selects RX9 yX9_black yX9_black ∈ tblG := inG_i 1191 (by decide +kernel) (by decide +kernel)
theorem tg_1203 : Cond.code yX9_colour cX9_colour 4 (some .int) ∈ tblG := inG_i 1203 (by decide +kernel) (by decide +kernel)
theorem ok_X9_colour : okY yX9_colour 3 = true := by decide +kernel
theorem tg_1200 : Cond.methodLink RL 85 yX9_colour ∈ tblG := inG_i 1200 (by decide +kernel) (by decide +kernel)
theorem tg_1201 : Cond.instanceMethod yX9_colour ∈ tblG := inG_i 1201 (by decide +kernel) (by decide +kernel)
theorem tg_1202 : Cond.selects RX9 yX9_colour yX9_colour ∈ tblG := inG_i 1202 (by decide +kernel) (by decide +kernel)
theorem tg_1230 : Cond.code yX9_uneven cX9_uneven 3 (some .int) ∈ tblG := inG_i 1230 (by decide +kernel) (by decide +kernel)
theorem ok_X9_uneven : okY yX9_uneven 2 = true := by decide +kernel
theorem tg_1227 : Cond.methodLink RL 88 yX9_uneven ∈ tblG := inG_i 1227 (by decide +kernel) (by decide +kernel)
theorem tg_1228 : Cond.instanceMethod yX9_uneven ∈ tblG := inG_i 1228 (by decide +kernel) (by decide +kernel)
theorem tg_1229 : Cond.selects RX9 yX9_uneven yX9_uneven ∈ tblG := inG_i 1229 (by decide +kernel) (by decide +kernel)
theorem tg_1254 : Cond.code yX9_even cX9_even 2 (some .int) ∈ tblG := inG_i 1254 (by decide +kernel) (by decide +kernel)
theorem ok_X9_even : okY yX9_even 1 = true := by decide +kernel
theorem tg_1251 : Cond.methodLink RL 91 yX9_even ∈ tblG := inG_i 1251 (by decide +kernel) (by decide +kernel)
theorem tg_1252 : Cond.instanceMethod yX9_even ∈ tblG := inG_i 1252 (by decide +kernel) (by decide +kernel)
theorem tg_1253 : Cond.selects RX9 yX9_even yX9_even ∈ tblG := inG_i 1253 (by decide +kernel) (by decide +kernel)
theorem tg_1284 : Cond.code yX9_press cX9_press 2 (some .int) ∈ tblG := inG_i 1284 (by decide +kernel) (by decide +kernel)
theorem ok_X9_press : okY yX9_press 1 = true := by decide +kernel
theorem tg_1281 : Cond.methodLink RL 94 yX9_press ∈ tblG := inG_i 1281 (by decide +kernel) (by decide +kernel)
theorem tg_1282 : Cond.instanceMethod yX9_press ∈ tblG := inG_i 1282 (by decide +kernel) (by decide +kernel)
theorem tg_1283 : Cond.selects RX9 yX9_press yX9_press ∈ tblG := inG_i 1283 (by decide +kernel) (by decide +kernel)
theorem tg_1300 : Cond.code yX9_print cX9_print 3 (some .int) ∈ tblG := inG_i 1300 (by decide +kernel) (by decide +kernel)
theorem ok_X9_print : okY yX9_print 1 = true := by decide +kernel
theorem tg_1297 : Cond.methodLink RL 97 yX9_print ∈ tblG := inG_i 1297 (by decide +kernel) (by decide +kernel)
theorem tg_1298 : Cond.instanceMethod yX9_print ∈ tblG := inG_i 1298 (by decide +kernel) (by decide +kernel)
theorem tg_1299 : Cond.selects RX9 yX9_print yX9_print ∈ tblG := inG_i 1299 (by decide +kernel) (by decide +kernel)
theorem tg_1312 : Cond.code yX9_kin cX9_kin 5 (some .boolean) ∈ tblG := inG_i 1312 (by decide +kernel) (by decide +kernel)
theorem ok_X9_kin : okY yX9_kin 4 = true := by decide +kernel
theorem tg_1309 : Cond.methodLink RL 101 yX9_kin ∈ tblG := inG_i 1309 (by decide +kernel) (by decide +kernel)
theorem tg_1310 : Cond.instanceMethod yX9_kin ∈ tblG := inG_i 1310 (by decide +kernel) (by decide +kernel)
theorem tg_1311 : Cond.selects RX9 yX9_kin yX9_kin ∈ tblG := inG_i 1311 (by decide +kernel) (by decide +kernel)
theorem tg_1339 : Cond.code yX9_partings cX9_partings 4 (some .int) ∈ tblG := inG_i 1339 (by decide +kernel) (by decide +kernel)
theorem ok_X9_partings : okY yX9_partings 3 = true := by decide +kernel
theorem tg_1336 : Cond.methodLink RL 105 yX9_partings ∈ tblG := inG_i 1336 (by decide +kernel) (by decide +kernel)
theorem tg_1337 : Cond.instanceMethod yX9_partings ∈ tblG := inG_i 1337 (by decide +kernel) (by decide +kernel)
theorem tg_1338 : Cond.selects RX9 yX9_partings yX9_partings ∈ tblG := inG_i 1338 (by decide +kernel) (by decide +kernel)
theorem tg_1371 : Cond.code yX9_bars cX9_bars 4 (some .long) ∈ tblG := inG_i 1371 (by decide +kernel) (by decide +kernel)
theorem ok_X9_bars : okY yX9_bars 3 = true := by decide +kernel
theorem tg_1368 : Cond.methodLink RL 108 yX9_bars ∈ tblG := inG_i 1368 (by decide +kernel) (by decide +kernel)
theorem tg_1369 : Cond.instanceMethod yX9_bars ∈ tblG := inG_i 1369 (by decide +kernel) (by decide +kernel)
theorem tg_1370 : Cond.selects RX9 yX9_bars yX9_bars ∈ tblG := inG_i 1370 (by decide +kernel) (by decide +kernel)
theorem tg_1382 : Cond.code yX9_nearest cX9_nearest 6 (some .int) ∈ tblG := inG_i 1382 (by decide +kernel) (by decide +kernel)
theorem ok_X9_nearest : okY yX9_nearest 3 = true := by decide +kernel
theorem tg_1379 : Cond.methodLink RL 111 yX9_nearest ∈ tblG := inG_i 1379 (by decide +kernel) (by decide +kernel)
theorem tg_1380 : Cond.instanceMethod yX9_nearest ∈ tblG := inG_i 1380 (by decide +kernel) (by decide +kernel)
theorem tg_1381 : Cond.selects RX9 yX9_nearest yX9_nearest ∈ tblG := inG_i 1381 (by decide +kernel) (by decide +kernel)
theorem tg_1399 : Cond.code yX9_originals cX9_originals 4 (some .int) ∈ tblG := inG_i 1399 (by decide +kernel) (by decide +kernel)
theorem ok_X9_originals : okY yX9_originals 2 = true := by decide +kernel
theorem tg_1396 : Cond.methodLink RL 115 yX9_originals ∈ tblG := inG_i 1396 (by decide +kernel) (by decide +kernel)
theorem tg_1397 : Cond.instanceMethod yX9_originals ∈ tblG := inG_i 1397 (by decide +kernel) (by decide +kernel)
theorem tg_1398 : Cond.selects RX9 yX9_originals yX9_originals ∈ tblG := inG_i 1398 (by decide +kernel) (by decide +kernel)
theorem tg_1415 : Cond.code yX9_fount cX9_fount 4 (some .int) ∈ tblG := inG_i 1415 (by decide +kernel) (by decide +kernel)
theorem ok_X9_fount : okY yX9_fount 3 = true := by decide +kernel
theorem tg_1412 : Cond.methodLink RL 119 yX9_fount ∈ tblG := inG_i 1412 (by decide +kernel) (by decide +kernel)
theorem tg_1413 : Cond.instanceMethod yX9_fount ∈ tblG := inG_i 1413 (by decide +kernel) (by decide +kernel)
theorem tg_1414 : Cond.selects RX9 yX9_fount yX9_fount ∈ tblG := inG_i 1414 (by decide +kernel) (by decide +kernel)
theorem tg_516 : Cond.code yX9_feed cX9_feed 6 (some .int) ∈ tblG := inG_i 516 (by decide +kernel) (by decide +kernel)
theorem ok_X9_feed : okY yX9_feed 5 = true := by decide +kernel
theorem tg_513 : Cond.methodLink RL 126 yX9_feed ∈ tblG := inG_i 513 (by decide +kernel) (by decide +kernel)
theorem tg_514 : Cond.instanceMethod yX9_feed ∈ tblG := inG_i 514 (by decide +kernel) (by decide +kernel)
theorem tg_515 : Cond.selects RX9 yX9_feed yX9_feed ∈ tblG := inG_i 515 (by decide +kernel) (by decide +kernel)
theorem tg_1589 : Cond.code yX10_feed cX10_feed 8 (some .int) ∈ tblG := inG_i 1589 (by decide +kernel) (by decide +kernel)
theorem ok_X10_feed : okY yX10_feed 5 = true := by decide +kernel
theorem tg_1586 : Cond.methodLink RL 130 yX10_feed ∈ tblG := inG_i 1586 (by decide +kernel) (by decide +kernel)
theorem tg_1587 : Cond.instanceMethod yX10_feed ∈ tblG := inG_i 1587 (by decide +kernel) (by decide +kernel)
theorem tg_1588 : Cond.selects RX10 yX10_feed yX10_feed ∈ tblG := inG_i 1588 (by decide +kernel) (by decide +kernel)
theorem tg_633 : Cond.codeWith yL_sheet cL_sheet 4 (some .int) [(0, 9, 12, 13)] ∈ tblG := inG_i 633 (by decide +kernel) (by decide +kernel)
theorem tg_89 : Cond.initialized RL ∈ tblG := inG_i 89 (by decide +kernel) (by decide +kernel)
theorem ok_L_sheet : okY yL_sheet 3 = true := by decide +kernel
theorem tg_631 : Cond.methodLink RL 131 yL_sheet ∈ tblG := inG_i 631 (by decide +kernel) (by decide +kernel)
theorem tg_632 : Cond.static yL_sheet ∈ tblG := inG_i 632 (by decide +kernel) (by decide +kernel)
theorem tg_1593 : Cond.code yX10_sheet cX10_sheet 4 (some .int) ∈ tblG := inG_i 1593 (by decide +kernel) (by decide +kernel)
theorem ok_X10_sheet : okY yX10_sheet 1 = true := by decide +kernel
theorem tg_1590 : Cond.methodLink RL 136 yX10_sheet ∈ tblG := inG_i 1590 (by decide +kernel) (by decide +kernel)
theorem tg_1591 : Cond.instanceMethod yX10_sheet ∈ tblG := inG_i 1591 (by decide +kernel) (by decide +kernel)
theorem tg_1592 : Cond.selects RX10 yX10_sheet yX10_sheet ∈ tblG := inG_i 1592 (by decide +kernel) (by decide +kernel)
theorem tg_1585 : Cond.code yX10_thrown cX10_thrown 1 (some .int) ∈ tblG := inG_i 1585 (by decide +kernel) (by decide +kernel)
theorem ok_X10_thrown : okY yX10_thrown 0 = true := by decide +kernel
theorem tg_1582 : Cond.methodLink RL 137 yX10_thrown ∈ tblG := inG_i 1582 (by decide +kernel) (by decide +kernel)
theorem tg_1583 : Cond.instanceMethod yX10_thrown ∈ tblG := inG_i 1583 (by decide +kernel) (by decide +kernel)
theorem tg_1584 : Cond.selects RX10 yX10_thrown yX10_thrown ∈ tblG := inG_i 1584 (by decide +kernel) (by decide +kernel)
theorem tg_524 : Cond.code yX9_fault cX9_fault 1 (some .int) ∈ tblG := inG_i 524 (by decide +kernel) (by decide +kernel)
theorem ok_X9_fault : okY yX9_fault 0 = true := by decide +kernel
theorem tg_521 : Cond.methodLink RL 141 yX9_fault ∈ tblG := inG_i 521 (by decide +kernel) (by decide +kernel)
theorem tg_522 : Cond.instanceMethod yX9_fault ∈ tblG := inG_i 522 (by decide +kernel) (by decide +kernel)
theorem tg_523 : Cond.selects RX9 yX9_fault yX9_fault ∈ tblG := inG_i 523 (by decide +kernel) (by decide +kernel)
theorem tg_1687 : Cond.code yX10_fault cX10_fault 1 (some .int) ∈ tblG := inG_i 1687 (by decide +kernel) (by decide +kernel)
theorem ok_X10_fault : okY yX10_fault 0 = true := by decide +kernel
theorem tg_1684 : Cond.methodLink RL 144 yX10_fault ∈ tblG := inG_i 1684 (by decide +kernel) (by decide +kernel)
theorem tg_1685 : Cond.instanceMethod yX10_fault ∈ tblG := inG_i 1685 (by decide +kernel) (by decide +kernel)
theorem tg_1686 : Cond.selects RX10 yX10_fault yX10_fault ∈ tblG := inG_i 1686 (by decide +kernel) (by decide +kernel)
theorem tg_878 : Cond.codeWith yL_told cL_told 4 (some .int) [(0, 9, 12, 13)] ∈ tblG := inG_i 878 (by decide +kernel) (by decide +kernel)
theorem ok_L_told : okY yL_told 3 = true := by decide +kernel
theorem tg_876 : Cond.methodLink RL 145 yL_told ∈ tblG := inG_i 876 (by decide +kernel) (by decide +kernel)
theorem tg_877 : Cond.static yL_told ∈ tblG := inG_i 877 (by decide +kernel) (by decide +kernel)
theorem tg_1691 : Cond.code yX10_told cX10_told 2 (some .int) ∈ tblG := inG_i 1691 (by decide +kernel) (by decide +kernel)
theorem ok_X10_told : okY yX10_told 1 = true := by decide +kernel
theorem tg_1688 : Cond.methodLink RL 147 yX10_told ∈ tblG := inG_i 1688 (by decide +kernel) (by decide +kernel)
theorem tg_1689 : Cond.instanceMethod yX10_told ∈ tblG := inG_i 1689 (by decide +kernel) (by decide +kernel)
theorem tg_1690 : Cond.selects RX10 yX10_told yX10_told ∈ tblG := inG_i 1690 (by decide +kernel) (by decide +kernel)
theorem tg_885 : Cond.codeWith yL_squares cL_squares 5 (some .int) [(0, 9, 12, 22), (0, 9, 16, 13)] ∈ tblG := inG_i 885 (by decide +kernel) (by decide +kernel)
theorem ok_L_squares : okY yL_squares 4 = true := by decide +kernel
theorem tg_883 : Cond.methodLink RL 148 yL_squares ∈ tblG := inG_i 883 (by decide +kernel) (by decide +kernel)
theorem tg_884 : Cond.static yL_squares ∈ tblG := inG_i 884 (by decide +kernel) (by decide +kernel)
theorem tg_1695 : Cond.code yX10_squares cX10_squares 3 (some .long) ∈ tblG := inG_i 1695 (by decide +kernel) (by decide +kernel)
theorem ok_X10_squares : okY yX10_squares 2 = true := by decide +kernel
theorem tg_1692 : Cond.methodLink RL 151 yX10_squares ∈ tblG := inG_i 1692 (by decide +kernel) (by decide +kernel)
theorem tg_1693 : Cond.instanceMethod yX10_squares ∈ tblG := inG_i 1693 (by decide +kernel) (by decide +kernel)
theorem tg_1694 : Cond.selects RX10 yX10_squares yX10_squares ∈ tblG := inG_i 1694 (by decide +kernel) (by decide +kernel)
theorem tg_914 : Cond.codeWith yL_letter cL_letter 5 (some .int) [(0, 10, 13, 22), (0, 10, 17, 13)] ∈ tblG := inG_i 914 (by decide +kernel) (by decide +kernel)
theorem ok_L_letter : okY yL_letter 4 = true := by decide +kernel
theorem tg_912 : Cond.methodLink RL 152 yL_letter ∈ tblG := inG_i 912 (by decide +kernel) (by decide +kernel)
theorem tg_913 : Cond.static yL_letter ∈ tblG := inG_i 913 (by decide +kernel) (by decide +kernel)
theorem tg_1703 : Cond.code yX10_letter cX10_letter 6 (some .int) ∈ tblG := inG_i 1703 (by decide +kernel) (by decide +kernel)
theorem ok_X10_letter : okY yX10_letter 2 = true := by decide +kernel
theorem tg_1700 : Cond.methodLink RL 154 yX10_letter ∈ tblG := inG_i 1700 (by decide +kernel) (by decide +kernel)
theorem tg_1701 : Cond.instanceMethod yX10_letter ∈ tblG := inG_i 1701 (by decide +kernel) (by decide +kernel)
theorem tg_1702 : Cond.selects RX10 yX10_letter yX10_letter ∈ tblG := inG_i 1702 (by decide +kernel) (by decide +kernel)
theorem tg_932 : Cond.codeWith yL_hollow cL_hollow 4 (some .int) [(0, 8, 11, 32)] ∈ tblG := inG_i 932 (by decide +kernel) (by decide +kernel)
theorem ok_L_hollow : okY yL_hollow 3 = true := by decide +kernel
theorem tg_930 : Cond.methodLink RL 155 yL_hollow ∈ tblG := inG_i 930 (by decide +kernel) (by decide +kernel)
theorem tg_931 : Cond.static yL_hollow ∈ tblG := inG_i 931 (by decide +kernel) (by decide +kernel)
theorem tg_1718 : Cond.code yX10_hollow cX10_hollow 2 (some .long) ∈ tblG := inG_i 1718 (by decide +kernel) (by decide +kernel)
theorem ok_X10_hollow : okY yX10_hollow 1 = true := by decide +kernel
theorem tg_1715 : Cond.methodLink RL 157 yX10_hollow ∈ tblG := inG_i 1715 (by decide +kernel) (by decide +kernel)
theorem tg_1716 : Cond.instanceMethod yX10_hollow ∈ tblG := inG_i 1716 (by decide +kernel) (by decide +kernel)
theorem tg_1717 : Cond.selects RX10 yX10_hollow yX10_hollow ∈ tblG := inG_i 1717 (by decide +kernel) (by decide +kernel)
theorem tg_1986 : Cond.constantLong RL 158 4294967295 ∈ tblG := inG_i 1986 (by decide +kernel) (by decide +kernel)
theorem tg_528 : Cond.code yX9_shape cX9_shape 3 (some .long) ∈ tblG := inG_i 528 (by decide +kernel) (by decide +kernel)
theorem ok_X9_shape : okY yX9_shape 1 = true := by decide +kernel
theorem tg_525 : Cond.methodLink RL 160 yX9_shape ∈ tblG := inG_i 525 (by decide +kernel) (by decide +kernel)
theorem tg_526 : Cond.instanceMethod yX9_shape ∈ tblG := inG_i 526 (by decide +kernel) (by decide +kernel)
theorem tg_527 : Cond.selects RX9 yX9_shape yX9_shape ∈ tblG := inG_i 527 (by decide +kernel) (by decide +kernel)
theorem tg_1726 : Cond.code yX10_shape cX10_shape 3 (some .long) ∈ tblG := inG_i 1726 (by decide +kernel) (by decide +kernel)
theorem ok_X10_shape : okY yX10_shape 1 = true := by decide +kernel
theorem tg_1723 : Cond.methodLink RL 164 yX10_shape ∈ tblG := inG_i 1723 (by decide +kernel) (by decide +kernel)
theorem tg_1724 : Cond.instanceMethod yX10_shape ∈ tblG := inG_i 1724 (by decide +kernel) (by decide +kernel)
theorem tg_1725 : Cond.selects RX10 yX10_shape yX10_shape ∈ tblG := inG_i 1725 (by decide +kernel) (by decide +kernel)
theorem tg_960 : Cond.codeWith yL_apart cL_apart 6 (some .int) [(0, 12, 15, 32)] ∈ tblG := inG_i 960 (by decide +kernel) (by decide +kernel)
theorem ok_L_apart : okY yL_apart 5 = true := by decide +kernel
theorem tg_958 : Cond.methodLink RL 165 yL_apart ∈ tblG := inG_i 958 (by decide +kernel) (by decide +kernel)
theorem tg_959 : Cond.static yL_apart ∈ tblG := inG_i 959 (by decide +kernel) (by decide +kernel)
theorem tg_1733 : Cond.code yX10_apart cX10_apart 4 (some .int) ∈ tblG := inG_i 1733 (by decide +kernel) (by decide +kernel)
theorem ok_X10_apart : okY yX10_apart 3 = true := by decide +kernel
theorem tg_1730 : Cond.methodLink RL 168 yX10_apart ∈ tblG := inG_i 1730 (by decide +kernel) (by decide +kernel)
theorem tg_1731 : Cond.instanceMethod yX10_apart ∈ tblG := inG_i 1731 (by decide +kernel) (by decide +kernel)
theorem tg_1732 : Cond.selects RX10 yX10_apart yX10_apart ∈ tblG := inG_i 1732 (by decide +kernel) (by decide +kernel)
theorem tg_975 : Cond.codeWith yL_punches cL_punches 6 (some .int) [(0, 12, 15, 13)] ∈ tblG := inG_i 975 (by decide +kernel) (by decide +kernel)
theorem ok_L_punches : okY yL_punches 5 = true := by decide +kernel
theorem tg_973 : Cond.methodLink RL 169 yL_punches ∈ tblG := inG_i 973 (by decide +kernel) (by decide +kernel)
theorem tg_974 : Cond.static yL_punches ∈ tblG := inG_i 974 (by decide +kernel) (by decide +kernel)
theorem tg_1746 : Cond.code yX10_punches cX10_punches 5 (some .int) ∈ tblG := inG_i 1746 (by decide +kernel) (by decide +kernel)
theorem ok_X10_punches : okY yX10_punches 3 = true := by decide +kernel
theorem tg_1743 : Cond.methodLink RL 172 yX10_punches ∈ tblG := inG_i 1743 (by decide +kernel) (by decide +kernel)
theorem tg_1744 : Cond.instanceMethod yX10_punches ∈ tblG := inG_i 1744 (by decide +kernel) (by decide +kernel)
theorem tg_1745 : Cond.selects RX10 yX10_punches yX10_punches ∈ tblG := inG_i 1745 (by decide +kernel) (by decide +kernel)
theorem tg_1004 : Cond.codeWith yL_served cL_served 6 (some .int) [(0, 12, 15, 32), (0, 12, 19, 13)] ∈ tblG := inG_i 1004 (by decide +kernel) (by decide +kernel)
theorem ok_L_served : okY yL_served 5 = true := by decide +kernel
theorem tg_1002 : Cond.methodLink RL 173 yL_served ∈ tblG := inG_i 1002 (by decide +kernel) (by decide +kernel)
theorem tg_1003 : Cond.static yL_served ∈ tblG := inG_i 1003 (by decide +kernel) (by decide +kernel)
theorem tg_1754 : Cond.code yX10_served cX10_served 6 (some .int) ∈ tblG := inG_i 1754 (by decide +kernel) (by decide +kernel)
theorem ok_X10_served : okY yX10_served 3 = true := by decide +kernel
theorem tg_1751 : Cond.methodLink RL 175 yX10_served ∈ tblG := inG_i 1751 (by decide +kernel) (by decide +kernel)
theorem tg_1752 : Cond.instanceMethod yX10_served ∈ tblG := inG_i 1752 (by decide +kernel) (by decide +kernel)
theorem tg_1753 : Cond.selects RX10 yX10_served yX10_served ∈ tblG := inG_i 1753 (by decide +kernel) (by decide +kernel)
theorem tg_1016 : Cond.codeWith yL_bites cL_bites 5 (some .int) [(0, 10, 13, 22), (0, 10, 17, 13)] ∈ tblG := inG_i 1016 (by decide +kernel) (by decide +kernel)
theorem ok_L_bites : okY yL_bites 4 = true := by decide +kernel
theorem tg_1014 : Cond.methodLink RL 176 yL_bites ∈ tblG := inG_i 1014 (by decide +kernel) (by decide +kernel)
theorem tg_1015 : Cond.static yL_bites ∈ tblG := inG_i 1015 (by decide +kernel) (by decide +kernel)
theorem tg_1758 : Cond.code yX10_bites cX10_bites 3 (some .int) ∈ tblG := inG_i 1758 (by decide +kernel) (by decide +kernel)
theorem ok_X10_bites : okY yX10_bites 2 = true := by decide +kernel
theorem tg_1755 : Cond.methodLink RL 178 yX10_bites ∈ tblG := inG_i 1755 (by decide +kernel) (by decide +kernel)
theorem tg_1756 : Cond.instanceMethod yX10_bites ∈ tblG := inG_i 1756 (by decide +kernel) (by decide +kernel)
theorem tg_1757 : Cond.selects RX10 yX10_bites yX10_bites ∈ tblG := inG_i 1757 (by decide +kernel) (by decide +kernel)
theorem tg_1032 : Cond.codeWith yL_lines cL_lines 4 (some .int) [(0, 8, 11, 22)] ∈ tblG := inG_i 1032 (by decide +kernel) (by decide +kernel)
theorem ok_L_lines : okY yL_lines 3 = true := by decide +kernel
theorem tg_1030 : Cond.methodLink RL 179 yL_lines ∈ tblG := inG_i 1030 (by decide +kernel) (by decide +kernel)
theorem tg_1031 : Cond.static yL_lines ∈ tblG := inG_i 1031 (by decide +kernel) (by decide +kernel)
theorem tg_1777 : Cond.code yX10_lines cX10_lines 2 (some .long) ∈ tblG := inG_i 1777 (by decide +kernel) (by decide +kernel)
theorem ok_X10_lines : okY yX10_lines 1 = true := by decide +kernel
theorem tg_1774 : Cond.methodLink RL 181 yX10_lines ∈ tblG := inG_i 1774 (by decide +kernel) (by decide +kernel)
theorem tg_1775 : Cond.instanceMethod yX10_lines ∈ tblG := inG_i 1775 (by decide +kernel) (by decide +kernel)
theorem tg_1776 : Cond.selects RX10 yX10_lines yX10_lines ∈ tblG := inG_i 1776 (by decide +kernel) (by decide +kernel)
theorem tg_1039 : Cond.codeWith yL_begin cL_begin 3 (some .int) [(0, 5, 8, 22)] ∈ tblG := inG_i 1039 (by decide +kernel) (by decide +kernel)
theorem ok_L_begin : okY yL_begin 2 = true := by decide +kernel
theorem tg_1037 : Cond.methodLink RL 182 yL_begin ∈ tblG := inG_i 1037 (by decide +kernel) (by decide +kernel)
theorem tg_1038 : Cond.static yL_begin ∈ tblG := inG_i 1038 (by decide +kernel) (by decide +kernel)
theorem tg_1786 : Cond.code yX10_begin cX10_begin 2 none ∈ tblG := inG_i 1786 (by decide +kernel) (by decide +kernel)
theorem ok_X10_begin : okY yX10_begin 1 = true := by decide +kernel
theorem tg_1783 : Cond.methodLink RL 185 yX10_begin ∈ tblG := inG_i 1783 (by decide +kernel) (by decide +kernel)
theorem tg_1784 : Cond.instanceMethod yX10_begin ∈ tblG := inG_i 1784 (by decide +kernel) (by decide +kernel)
theorem tg_1785 : Cond.selects RX10 yX10_begin yX10_begin ∈ tblG := inG_i 1785 (by decide +kernel) (by decide +kernel)
theorem tg_1050 : Cond.codeWith yL_blow cL_blow 4 (some .int) [(0, 9, 12, 32)] ∈ tblG := inG_i 1050 (by decide +kernel) (by decide +kernel)
theorem ok_L_blow : okY yL_blow 3 = true := by decide +kernel
theorem tg_1048 : Cond.methodLink RL 186 yL_blow ∈ tblG := inG_i 1048 (by decide +kernel) (by decide +kernel)
theorem tg_1049 : Cond.static yL_blow ∈ tblG := inG_i 1049 (by decide +kernel) (by decide +kernel)
theorem tg_1790 : Cond.code yX10_blow cX10_blow 3 (some .int) ∈ tblG := inG_i 1790 (by decide +kernel) (by decide +kernel)
theorem ok_X10_blow : okY yX10_blow 1 = true := by decide +kernel
theorem tg_1787 : Cond.methodLink RL 188 yX10_blow ∈ tblG := inG_i 1787 (by decide +kernel) (by decide +kernel)
theorem tg_1788 : Cond.instanceMethod yX10_blow ∈ tblG := inG_i 1788 (by decide +kernel) (by decide +kernel)
theorem tg_1789 : Cond.selects RX10 yX10_blow yX10_blow ∈ tblG := inG_i 1789 (by decide +kernel) (by decide +kernel)
theorem tg_1069 : Cond.codeWith yL_file cL_file 6 (some .int) [(0, 12, 15, 13)] ∈ tblG := inG_i 1069 (by decide +kernel) (by decide +kernel)
theorem ok_L_file : okY yL_file 5 = true := by decide +kernel
theorem tg_1067 : Cond.methodLink RL 189 yL_file ∈ tblG := inG_i 1067 (by decide +kernel) (by decide +kernel)
theorem tg_1068 : Cond.static yL_file ∈ tblG := inG_i 1068 (by decide +kernel) (by decide +kernel)
theorem tg_1798 : Cond.code yX10_file cX10_file 5 (some .int) ∈ tblG := inG_i 1798 (by decide +kernel) (by decide +kernel)
theorem ok_X10_file : okY yX10_file 3 = true := by decide +kernel
theorem tg_1795 : Cond.methodLink RL 192 yX10_file ∈ tblG := inG_i 1795 (by decide +kernel) (by decide +kernel)
theorem tg_1796 : Cond.instanceMethod yX10_file ∈ tblG := inG_i 1796 (by decide +kernel) (by decide +kernel)
theorem tg_1797 : Cond.selects RX10 yX10_file yX10_file ∈ tblG := inG_i 1797 (by decide +kernel) (by decide +kernel)
theorem tg_533 : Cond.code yX9_steel cX9_steel 1 (some .long) ∈ tblG := inG_i 533 (by decide +kernel) (by decide +kernel)
theorem ok_X9_steel : okY yX9_steel 0 = true := by decide +kernel
theorem tg_530 : Cond.methodLink RL 193 yX9_steel ∈ tblG := inG_i 530 (by decide +kernel) (by decide +kernel)
theorem tg_531 : Cond.instanceMethod yX9_steel ∈ tblG := inG_i 531 (by decide +kernel) (by decide +kernel)
theorem tg_532 : Cond.selects RX9 yX9_steel yX9_steel ∈ tblG := inG_i 532 (by decide +kernel) (by decide +kernel)
theorem tg_1809 : Cond.code yX10_steel cX10_steel 1 (some .long) ∈ tblG := inG_i 1809 (by decide +kernel) (by decide +kernel)
theorem ok_X10_steel : okY yX10_steel 0 = true := by decide +kernel
theorem tg_1806 : Cond.methodLink RL 197 yX10_steel ∈ tblG := inG_i 1806 (by decide +kernel) (by decide +kernel)
theorem tg_1807 : Cond.instanceMethod yX10_steel ∈ tblG := inG_i 1807 (by decide +kernel) (by decide +kernel)
theorem tg_1808 : Cond.selects RX10 yX10_steel yX10_steel ∈ tblG := inG_i 1808 (by decide +kernel) (by decide +kernel)
theorem tg_1083 : Cond.codeWith yL_punch cL_punch 4 (some .int) [(0, 9, 12, 13)] ∈ tblG := inG_i 1083 (by decide +kernel) (by decide +kernel)
theorem ok_L_punch : okY yL_punch 3 = true := by decide +kernel
theorem tg_1081 : Cond.methodLink RL 198 yL_punch ∈ tblG := inG_i 1081 (by decide +kernel) (by decide +kernel)
theorem tg_1082 : Cond.static yL_punch ∈ tblG := inG_i 1082 (by decide +kernel) (by decide +kernel)
theorem tg_1813 : Cond.code yX10_punch cX10_punch 2 (some .int) ∈ tblG := inG_i 1813 (by decide +kernel) (by decide +kernel)
theorem ok_X10_punch : okY yX10_punch 1 = true := by decide +kernel
theorem tg_1810 : Cond.methodLink RL 200 yX10_punch ∈ tblG := inG_i 1810 (by decide +kernel) (by decide +kernel)
theorem tg_1811 : Cond.instanceMethod yX10_punch ∈ tblG := inG_i 1811 (by decide +kernel) (by decide +kernel)
theorem tg_1812 : Cond.selects RX10 yX10_punch yX10_punch ∈ tblG := inG_i 1812 (by decide +kernel) (by decide +kernel)
theorem tg_1093 : Cond.codeWith yL_addBlow cL_addBlow 4 (some .int) [(0, 9, 12, 32)] ∈ tblG := inG_i 1093 (by decide +kernel) (by decide +kernel)
theorem ok_L_addBlow : okY yL_addBlow 3 = true := by decide +kernel
theorem tg_1091 : Cond.methodLink RL 201 yL_addBlow ∈ tblG := inG_i 1091 (by decide +kernel) (by decide +kernel)
theorem tg_1092 : Cond.static yL_addBlow ∈ tblG := inG_i 1092 (by decide +kernel) (by decide +kernel)
theorem tg_1821 : Cond.code yX10_addBlow cX10_addBlow 2 (some .int) ∈ tblG := inG_i 1821 (by decide +kernel) (by decide +kernel)
theorem ok_X10_addBlow : okY yX10_addBlow 1 = true := by decide +kernel
theorem tg_1818 : Cond.methodLink RL 203 yX10_addBlow ∈ tblG := inG_i 1818 (by decide +kernel) (by decide +kernel)
theorem tg_1819 : Cond.instanceMethod yX10_addBlow ∈ tblG := inG_i 1819 (by decide +kernel) (by decide +kernel)
theorem tg_1820 : Cond.selects RX10 yX10_addBlow yX10_addBlow ∈ tblG := inG_i 1820 (by decide +kernel) (by decide +kernel)
theorem tg_1104 : Cond.codeWith yL_addFile cL_addFile 6 (some .int) [(0, 12, 15, 13)] ∈ tblG := inG_i 1104 (by decide +kernel) (by decide +kernel)
theorem ok_L_addFile : okY yL_addFile 5 = true := by decide +kernel
theorem tg_1102 : Cond.methodLink RL 204 yL_addFile ∈ tblG := inG_i 1102 (by decide +kernel) (by decide +kernel)
theorem tg_1103 : Cond.static yL_addFile ∈ tblG := inG_i 1103 (by decide +kernel) (by decide +kernel)
theorem tg_1829 : Cond.code yX10_addFile cX10_addFile 4 (some .int) ∈ tblG := inG_i 1829 (by decide +kernel) (by decide +kernel)
theorem ok_X10_addFile : okY yX10_addFile 3 = true := by decide +kernel
theorem tg_1826 : Cond.methodLink RL 206 yX10_addFile ∈ tblG := inG_i 1826 (by decide +kernel) (by decide +kernel)
theorem tg_1827 : Cond.instanceMethod yX10_addFile ∈ tblG := inG_i 1827 (by decide +kernel) (by decide +kernel)
theorem tg_1828 : Cond.selects RX10 yX10_addFile yX10_addFile ∈ tblG := inG_i 1828 (by decide +kernel) (by decide +kernel)
theorem tg_542 : Cond.code yX9_clear cX9_clear 2 (some .int) ∈ tblG := inG_i 542 (by decide +kernel) (by decide +kernel)
theorem ok_X9_clear : okY yX9_clear 0 = true := by decide +kernel
theorem tg_539 : Cond.methodLink RL 207 yX9_clear ∈ tblG := inG_i 539 (by decide +kernel) (by decide +kernel)
theorem tg_540 : Cond.instanceMethod yX9_clear ∈ tblG := inG_i 540 (by decide +kernel) (by decide +kernel)
theorem tg_541 : Cond.selects RX9 yX9_clear yX9_clear ∈ tblG := inG_i 541 (by decide +kernel) (by decide +kernel)
theorem tg_1833 : Cond.code yX10_clear cX10_clear 2 (some .int) ∈ tblG := inG_i 1833 (by decide +kernel) (by decide +kernel)
theorem ok_X10_clear : okY yX10_clear 0 = true := by decide +kernel
theorem tg_1830 : Cond.methodLink RL 210 yX10_clear ∈ tblG := inG_i 1830 (by decide +kernel) (by decide +kernel)
theorem tg_1831 : Cond.instanceMethod yX10_clear ∈ tblG := inG_i 1831 (by decide +kernel) (by decide +kernel)
theorem tg_1832 : Cond.selects RX10 yX10_clear yX10_clear ∈ tblG := inG_i 1832 (by decide +kernel) (by decide +kernel)
theorem tg_1111 : Cond.codeWith yL_judge cL_judge 5 (some .int) [(0, 10, 13, 22), (0, 10, 17, 13)] ∈ tblG := inG_i 1111 (by decide +kernel) (by decide +kernel)
theorem ok_L_judge : okY yL_judge 4 = true := by decide +kernel
theorem tg_1109 : Cond.methodLink RL 211 yL_judge ∈ tblG := inG_i 1109 (by decide +kernel) (by decide +kernel)
theorem tg_1110 : Cond.static yL_judge ∈ tblG := inG_i 1110 (by decide +kernel) (by decide +kernel)
theorem tg_1837 : Cond.code yX10_judge cX10_judge 8 (some .int) ∈ tblG := inG_i 1837 (by decide +kernel) (by decide +kernel)
theorem ok_X10_judge : okY yX10_judge 2 = true := by decide +kernel
theorem tg_1834 : Cond.methodLink RL 213 yX10_judge ∈ tblG := inG_i 1834 (by decide +kernel) (by decide +kernel)
theorem tg_1835 : Cond.instanceMethod yX10_judge ∈ tblG := inG_i 1835 (by decide +kernel) (by decide +kernel)
theorem tg_1836 : Cond.selects RX10 yX10_judge yX10_judge ∈ tblG := inG_i 1836 (by decide +kernel) (by decide +kernel)
theorem tg_1130 : Cond.codeWith yL_hours cL_hours 6 (some .int) [(0, 11, 14, 22), (0, 11, 18, 13)] ∈ tblG := inG_i 1130 (by decide +kernel) (by decide +kernel)
theorem ok_L_hours : okY yL_hours 5 = true := by decide +kernel
theorem tg_1128 : Cond.methodLink RL 214 yL_hours ∈ tblG := inG_i 1128 (by decide +kernel) (by decide +kernel)
theorem tg_1129 : Cond.static yL_hours ∈ tblG := inG_i 1129 (by decide +kernel) (by decide +kernel)
theorem tg_1841 : Cond.code yX10_hours cX10_hours 11 (some .long) ∈ tblG := inG_i 1841 (by decide +kernel) (by decide +kernel)
theorem ok_X10_hours : okY yX10_hours 3 = true := by decide +kernel
theorem tg_1838 : Cond.methodLink RL 216 yX10_hours ∈ tblG := inG_i 1838 (by decide +kernel) (by decide +kernel)
theorem tg_1839 : Cond.instanceMethod yX10_hours ∈ tblG := inG_i 1839 (by decide +kernel) (by decide +kernel)
theorem tg_1840 : Cond.selects RX10 yX10_hours yX10_hours ∈ tblG := inG_i 1840 (by decide +kernel) (by decide +kernel)
theorem tg_1177 : Cond.codeWith yL_order cL_order 7 (some .int) [(0, 14, 17, 22), (0, 14, 21, 13)] ∈ tblG := inG_i 1177 (by decide +kernel) (by decide +kernel)
theorem ok_L_order : okY yL_order 6 = true := by decide +kernel
theorem tg_1175 : Cond.methodLink RL 217 yL_order ∈ tblG := inG_i 1175 (by decide +kernel) (by decide +kernel)
theorem tg_1176 : Cond.static yL_order ∈ tblG := inG_i 1176 (by decide +kernel) (by decide +kernel)
theorem tg_1870 : Cond.code yX10_order cX10_order 5 (some .int) ∈ tblG := inG_i 1870 (by decide +kernel) (by decide +kernel)
theorem ok_X10_order : okY yX10_order 4 = true := by decide +kernel
theorem tg_1867 : Cond.methodLink RL 220 yX10_order ∈ tblG := inG_i 1867 (by decide +kernel) (by decide +kernel)
theorem tg_1868 : Cond.instanceMethod yX10_order ∈ tblG := inG_i 1868 (by decide +kernel) (by decide +kernel)
theorem tg_1869 : Cond.selects RX10 yX10_order yX10_order ∈ tblG := inG_i 1869 (by decide +kernel) (by decide +kernel)
theorem tg_1188 : Cond.codeWith yL_black cL_black 5 (some .int) [(0, 10, 13, 22), (0, 10, 17, 13)] ∈ tblG := inG_i 1188 (by decide +kernel) (by decide +kernel)
theorem ok_L_black : okY yL_black 4 = true := by decide +kernel
theorem tg_1186 : Cond.methodLink RL 221 yL_black ∈ tblG := inG_i 1186 (by decide +kernel) (by decide +kernel)
theorem tg_1187 : Cond.static yL_black ∈ tblG := inG_i 1187 (by decide +kernel) (by decide +kernel)
theorem tg_1878 : Cond.code yX10_black cX10_black 3 (some .int) ∈ tblG := inG_i 1878 (by decide +kernel) (by decide +kernel)
theorem ok_X10_black : okY yX10_black 2 = true := by decide +kernel
theorem tg_1875 : Cond.methodLink RL 223 yX10_black ∈ tblG := inG_i 1875 (by decide +kernel) (by decide +kernel)
theorem tg_1876 : Cond.instanceMethod yX10_black ∈ tblG := inG_i 1876 (by decide +kernel) (by decide +kernel)
theorem tg_1877 : Cond.selects RX10 yX10_black yX10_black ∈ tblG := inG_i 1877 (by decide +kernel) (by decide +kernel)
theorem tg_1199 : Cond.codeWith yL_colour cL_colour 6 (some .int) [(0, 12, 15, 32), (0, 12, 19, 13)] ∈ tblG := inG_i 1199 (by decide +kernel) (by decide +kernel)
theorem ok_L_colour : okY yL_colour 5 = true := by decide +kernel
theorem tg_1197 : Cond.methodLink RL 224 yL_colour ∈ tblG := inG_i 1197 (by decide +kernel) (by decide +kernel)
theorem tg_1198 : Cond.static yL_colour ∈ tblG := inG_i 1198 (by decide +kernel) (by decide +kernel)
theorem tg_1886 : Cond.code yX10_colour cX10_colour 4 (some .int) ∈ tblG := inG_i 1886 (by decide +kernel) (by decide +kernel)
theorem ok_X10_colour : okY yX10_colour 3 = true := by decide +kernel
theorem tg_1883 : Cond.methodLink RL 226 yX10_colour ∈ tblG := inG_i 1883 (by decide +kernel) (by decide +kernel)
theorem tg_1884 : Cond.instanceMethod yX10_colour ∈ tblG := inG_i 1884 (by decide +kernel) (by decide +kernel)
theorem tg_1885 : Cond.selects RX10 yX10_colour yX10_colour ∈ tblG := inG_i 1885 (by decide +kernel) (by decide +kernel)
theorem tg_1226 : Cond.codeWith yL_uneven cL_uneven 5 (some .int) [(0, 10, 13, 13)] ∈ tblG := inG_i 1226 (by decide +kernel) (by decide +kernel)
theorem ok_L_uneven : okY yL_uneven 4 = true := by decide +kernel
theorem tg_1224 : Cond.methodLink RL 227 yL_uneven ∈ tblG := inG_i 1224 (by decide +kernel) (by decide +kernel)
theorem tg_1225 : Cond.static yL_uneven ∈ tblG := inG_i 1225 (by decide +kernel) (by decide +kernel)
theorem tg_1905 : Cond.code yX10_uneven cX10_uneven 3 (some .int) ∈ tblG := inG_i 1905 (by decide +kernel) (by decide +kernel)
theorem ok_X10_uneven : okY yX10_uneven 2 = true := by decide +kernel
theorem tg_1902 : Cond.methodLink RL 229 yX10_uneven ∈ tblG := inG_i 1902 (by decide +kernel) (by decide +kernel)
theorem tg_1903 : Cond.instanceMethod yX10_uneven ∈ tblG := inG_i 1903 (by decide +kernel) (by decide +kernel)
theorem tg_1904 : Cond.selects RX10 yX10_uneven yX10_uneven ∈ tblG := inG_i 1904 (by decide +kernel) (by decide +kernel)
theorem tg_1250 : Cond.codeWith yL_even cL_even 4 (some .int) [(0, 9, 12, 13)] ∈ tblG := inG_i 1250 (by decide +kernel) (by decide +kernel)
theorem ok_L_even : okY yL_even 3 = true := by decide +kernel
theorem tg_1248 : Cond.methodLink RL 230 yL_even ∈ tblG := inG_i 1248 (by decide +kernel) (by decide +kernel)
theorem tg_1249 : Cond.static yL_even ∈ tblG := inG_i 1249 (by decide +kernel) (by decide +kernel)
theorem tg_1913 : Cond.code yX10_even cX10_even 11 (some .int) ∈ tblG := inG_i 1913 (by decide +kernel) (by decide +kernel)
theorem ok_X10_even : okY yX10_even 1 = true := by decide +kernel
theorem tg_1910 : Cond.methodLink RL 232 yX10_even ∈ tblG := inG_i 1910 (by decide +kernel) (by decide +kernel)
theorem tg_1911 : Cond.instanceMethod yX10_even ∈ tblG := inG_i 1911 (by decide +kernel) (by decide +kernel)
theorem tg_1912 : Cond.selects RX10 yX10_even yX10_even ∈ tblG := inG_i 1912 (by decide +kernel) (by decide +kernel)
theorem tg_1280 : Cond.codeWith yL_press cL_press 4 (some .int) [(0, 9, 12, 13)] ∈ tblG := inG_i 1280 (by decide +kernel) (by decide +kernel)
theorem ok_L_press : okY yL_press 3 = true := by decide +kernel
theorem tg_1278 : Cond.methodLink RL 233 yL_press ∈ tblG := inG_i 1278 (by decide +kernel) (by decide +kernel)
theorem tg_1279 : Cond.static yL_press ∈ tblG := inG_i 1279 (by decide +kernel) (by decide +kernel)
theorem tg_1917 : Cond.code yX10_press cX10_press 7 (some .int) ∈ tblG := inG_i 1917 (by decide +kernel) (by decide +kernel)
theorem ok_X10_press : okY yX10_press 1 = true := by decide +kernel
theorem tg_1914 : Cond.methodLink RL 235 yX10_press ∈ tblG := inG_i 1914 (by decide +kernel) (by decide +kernel)
theorem tg_1915 : Cond.instanceMethod yX10_press ∈ tblG := inG_i 1915 (by decide +kernel) (by decide +kernel)
theorem tg_1916 : Cond.selects RX10 yX10_press yX10_press ∈ tblG := inG_i 1916 (by decide +kernel) (by decide +kernel)
theorem tg_1296 : Cond.codeWith yL_print cL_print 5 (some .int) [(0, 9, 12, 13)] ∈ tblG := inG_i 1296 (by decide +kernel) (by decide +kernel)
theorem ok_L_print : okY yL_print 3 = true := by decide +kernel
theorem tg_1294 : Cond.methodLink RL 236 yL_print ∈ tblG := inG_i 1294 (by decide +kernel) (by decide +kernel)
theorem tg_1295 : Cond.static yL_print ∈ tblG := inG_i 1295 (by decide +kernel) (by decide +kernel)
theorem tg_1925 : Cond.code yX10_print cX10_print 3 (some .int) ∈ tblG := inG_i 1925 (by decide +kernel) (by decide +kernel)
theorem ok_X10_print : okY yX10_print 1 = true := by decide +kernel
theorem tg_1922 : Cond.methodLink RL 239 yX10_print ∈ tblG := inG_i 1922 (by decide +kernel) (by decide +kernel)
theorem tg_1923 : Cond.instanceMethod yX10_print ∈ tblG := inG_i 1923 (by decide +kernel) (by decide +kernel)
theorem tg_1924 : Cond.selects RX10 yX10_print yX10_print ∈ tblG := inG_i 1924 (by decide +kernel) (by decide +kernel)
theorem tg_1308 : Cond.codeWith yL_kin cL_kin 7 (some .int) [(0, 21, 24, 32), (0, 21, 28, 13)] ∈ tblG := inG_i 1308 (by decide +kernel) (by decide +kernel)
theorem ok_L_kin : okY yL_kin 6 = true := by decide +kernel
theorem tg_1306 : Cond.methodLink RL 240 yL_kin ∈ tblG := inG_i 1306 (by decide +kernel) (by decide +kernel)
theorem tg_1307 : Cond.static yL_kin ∈ tblG := inG_i 1307 (by decide +kernel) (by decide +kernel)
theorem tg_1929 : Cond.code yX10_kin cX10_kin 5 (some .boolean) ∈ tblG := inG_i 1929 (by decide +kernel) (by decide +kernel)
theorem ok_X10_kin : okY yX10_kin 4 = true := by decide +kernel
theorem tg_1926 : Cond.methodLink RL 243 yX10_kin ∈ tblG := inG_i 1926 (by decide +kernel) (by decide +kernel)
theorem tg_1927 : Cond.instanceMethod yX10_kin ∈ tblG := inG_i 1927 (by decide +kernel) (by decide +kernel)
theorem tg_1928 : Cond.selects RX10 yX10_kin yX10_kin ∈ tblG := inG_i 1928 (by decide +kernel) (by decide +kernel)
theorem tg_1335 : Cond.codeWith yL_partings cL_partings 6 (some .int) [(0, 12, 15, 13)] ∈ tblG := inG_i 1335 (by decide +kernel) (by decide +kernel)
theorem ok_L_partings : okY yL_partings 5 = true := by decide +kernel
theorem tg_1333 : Cond.methodLink RL 244 yL_partings ∈ tblG := inG_i 1333 (by decide +kernel) (by decide +kernel)
theorem tg_1334 : Cond.static yL_partings ∈ tblG := inG_i 1334 (by decide +kernel) (by decide +kernel)
theorem tg_1937 : Cond.code yX10_partings cX10_partings 6 (some .int) ∈ tblG := inG_i 1937 (by decide +kernel) (by decide +kernel)
theorem ok_X10_partings : okY yX10_partings 3 = true := by decide +kernel
theorem tg_1934 : Cond.methodLink RL 246 yX10_partings ∈ tblG := inG_i 1934 (by decide +kernel) (by decide +kernel)
theorem tg_1935 : Cond.instanceMethod yX10_partings ∈ tblG := inG_i 1935 (by decide +kernel) (by decide +kernel)
theorem tg_1936 : Cond.selects RX10 yX10_partings yX10_partings ∈ tblG := inG_i 1936 (by decide +kernel) (by decide +kernel)
theorem tg_546 : Cond.code yX9_can cX9_can 1 (some .boolean) ∈ tblG := inG_i 546 (by decide +kernel) (by decide +kernel)
theorem ok_X9_can : okY yX9_can 0 = true := by decide +kernel
theorem tg_543 : Cond.methodLink RL 247 yX9_can ∈ tblG := inG_i 543 (by decide +kernel) (by decide +kernel)
theorem tg_544 : Cond.instanceMethod yX9_can ∈ tblG := inG_i 544 (by decide +kernel) (by decide +kernel)
theorem tg_545 : Cond.selects RX9 yX9_can yX9_can ∈ tblG := inG_i 545 (by decide +kernel) (by decide +kernel)
theorem tg_1945 : Cond.code yX10_can cX10_can 1 (some .boolean) ∈ tblG := inG_i 1945 (by decide +kernel) (by decide +kernel)
theorem ok_X10_can : okY yX10_can 0 = true := by decide +kernel
theorem tg_1942 : Cond.methodLink RL 251 yX10_can ∈ tblG := inG_i 1942 (by decide +kernel) (by decide +kernel)
theorem tg_1943 : Cond.instanceMethod yX10_can ∈ tblG := inG_i 1943 (by decide +kernel) (by decide +kernel)
theorem tg_1944 : Cond.selects RX10 yX10_can yX10_can ∈ tblG := inG_i 1944 (by decide +kernel) (by decide +kernel)
theorem tg_564 : Cond.code yX9_left cX9_left 3 (some .int) ∈ tblG := inG_i 564 (by decide +kernel) (by decide +kernel)
theorem ok_X9_left : okY yX9_left 0 = true := by decide +kernel
theorem tg_561 : Cond.methodLink RL 252 yX9_left ∈ tblG := inG_i 561 (by decide +kernel) (by decide +kernel)
theorem tg_562 : Cond.instanceMethod yX9_left ∈ tblG := inG_i 562 (by decide +kernel) (by decide +kernel)
theorem tg_563 : Cond.selects RX9 yX9_left yX9_left ∈ tblG := inG_i 563 (by decide +kernel) (by decide +kernel)
theorem tg_1953 : Cond.code yX10_left cX10_left 3 (some .int) ∈ tblG := inG_i 1953 (by decide +kernel) (by decide +kernel)
theorem ok_X10_left : okY yX10_left 0 = true := by decide +kernel
theorem tg_1950 : Cond.methodLink RL 255 yX10_left ∈ tblG := inG_i 1950 (by decide +kernel) (by decide +kernel)
theorem tg_1951 : Cond.instanceMethod yX10_left ∈ tblG := inG_i 1951 (by decide +kernel) (by decide +kernel)
theorem tg_1952 : Cond.selects RX10 yX10_left yX10_left ∈ tblG := inG_i 1952 (by decide +kernel) (by decide +kernel)
theorem tg_1367 : Cond.codeWith yL_bars cL_bars 6 (some .int) [(0, 11, 14, 22), (0, 11, 18, 13)] ∈ tblG := inG_i 1367 (by decide +kernel) (by decide +kernel)
theorem ok_L_bars : okY yL_bars 5 = true := by decide +kernel
theorem tg_1365 : Cond.methodLink RL 256 yL_bars ∈ tblG := inG_i 1365 (by decide +kernel) (by decide +kernel)
theorem tg_1366 : Cond.static yL_bars ∈ tblG := inG_i 1366 (by decide +kernel) (by decide +kernel)
theorem tg_1874 : Cond.code yX10_bars cX10_bars 9 (some .long) ∈ tblG := inG_i 1874 (by decide +kernel) (by decide +kernel)
theorem ok_X10_bars : okY yX10_bars 3 = true := by decide +kernel
theorem tg_1871 : Cond.methodLink RL 258 yX10_bars ∈ tblG := inG_i 1871 (by decide +kernel) (by decide +kernel)
theorem tg_1872 : Cond.instanceMethod yX10_bars ∈ tblG := inG_i 1872 (by decide +kernel) (by decide +kernel)
theorem tg_1873 : Cond.selects RX10 yX10_bars yX10_bars ∈ tblG := inG_i 1873 (by decide +kernel) (by decide +kernel)
theorem tg_1378 : Cond.codeWith yL_nearest cL_nearest 7 (some .int) [(0, 13, 16, 13)] ∈ tblG := inG_i 1378 (by decide +kernel) (by decide +kernel)
theorem ok_L_nearest : okY yL_nearest 5 = true := by decide +kernel
theorem tg_1376 : Cond.methodLink RL 259 yL_nearest ∈ tblG := inG_i 1376 (by decide +kernel) (by decide +kernel)
theorem tg_1377 : Cond.static yL_nearest ∈ tblG := inG_i 1377 (by decide +kernel) (by decide +kernel)
theorem tg_1957 : Cond.code yX10_nearest cX10_nearest 9 (some .int) ∈ tblG := inG_i 1957 (by decide +kernel) (by decide +kernel)
theorem ok_X10_nearest : okY yX10_nearest 3 = true := by decide +kernel
theorem tg_1954 : Cond.methodLink RL 262 yX10_nearest ∈ tblG := inG_i 1954 (by decide +kernel) (by decide +kernel)
theorem tg_1955 : Cond.instanceMethod yX10_nearest ∈ tblG := inG_i 1955 (by decide +kernel) (by decide +kernel)
theorem tg_1956 : Cond.selects RX10 yX10_nearest yX10_nearest ∈ tblG := inG_i 1956 (by decide +kernel) (by decide +kernel)
theorem tg_1395 : Cond.codeWith yL_originals cL_originals 5 (some .int) [(0, 10, 13, 13)] ∈ tblG := inG_i 1395 (by decide +kernel) (by decide +kernel)
theorem ok_L_originals : okY yL_originals 4 = true := by decide +kernel
theorem tg_1393 : Cond.methodLink RL 263 yL_originals ∈ tblG := inG_i 1393 (by decide +kernel) (by decide +kernel)
theorem tg_1394 : Cond.static yL_originals ∈ tblG := inG_i 1394 (by decide +kernel) (by decide +kernel)
theorem tg_1961 : Cond.code yX10_originals cX10_originals 7 (some .int) ∈ tblG := inG_i 1961 (by decide +kernel) (by decide +kernel)
theorem ok_X10_originals : okY yX10_originals 2 = true := by decide +kernel
theorem tg_1958 : Cond.methodLink RL 266 yX10_originals ∈ tblG := inG_i 1958 (by decide +kernel) (by decide +kernel)
theorem tg_1959 : Cond.instanceMethod yX10_originals ∈ tblG := inG_i 1959 (by decide +kernel) (by decide +kernel)
theorem tg_1960 : Cond.selects RX10 yX10_originals yX10_originals ∈ tblG := inG_i 1960 (by decide +kernel) (by decide +kernel)
theorem tg_1411 : Cond.codeWith yL_fount cL_fount 6 (some .int) [(0, 12, 15, 13)] ∈ tblG := inG_i 1411 (by decide +kernel) (by decide +kernel)
theorem ok_L_fount : okY yL_fount 5 = true := by decide +kernel
theorem tg_1409 : Cond.methodLink RL 267 yL_fount ∈ tblG := inG_i 1409 (by decide +kernel) (by decide +kernel)
theorem tg_1410 : Cond.static yL_fount ∈ tblG := inG_i 1410 (by decide +kernel) (by decide +kernel)
theorem tg_1965 : Cond.code yX10_fount cX10_fount 7 (some .int) ∈ tblG := inG_i 1965 (by decide +kernel) (by decide +kernel)
theorem ok_X10_fount : okY yX10_fount 3 = true := by decide +kernel
theorem tg_1962 : Cond.methodLink RL 269 yX10_fount ∈ tblG := inG_i 1962 (by decide +kernel) (by decide +kernel)
theorem tg_1963 : Cond.instanceMethod yX10_fount ∈ tblG := inG_i 1963 (by decide +kernel) (by decide +kernel)
theorem tg_1964 : Cond.selects RX10 yX10_fount yX10_fount ∈ tblG := inG_i 1964 (by decide +kernel) (by decide +kernel)
theorem tg_615 : Cond.code yX9_image cX9_image 1 (some .int) ∈ tblG := inG_i 615 (by decide +kernel) (by decide +kernel)
theorem ok_X9_image : okY yX9_image 0 = true := by decide +kernel
theorem tg_612 : Cond.methodLink RL 270 yX9_image ∈ tblG := inG_i 612 (by decide +kernel) (by decide +kernel)
theorem tg_613 : Cond.instanceMethod yX9_image ∈ tblG := inG_i 613 (by decide +kernel) (by decide +kernel)
theorem tg_614 : Cond.selects RX9 yX9_image yX9_image ∈ tblG := inG_i 614 (by decide +kernel) (by decide +kernel)
theorem tg_1969 : Cond.code yX10_image cX10_image 1 (some .int) ∈ tblG := inG_i 1969 (by decide +kernel) (by decide +kernel)
theorem ok_X10_image : okY yX10_image 0 = true := by decide +kernel
theorem tg_1966 : Cond.methodLink RL 273 yX10_image ∈ tblG := inG_i 1966 (by decide +kernel) (by decide +kernel)
theorem tg_1967 : Cond.instanceMethod yX10_image ∈ tblG := inG_i 1967 (by decide +kernel) (by decide +kernel)
theorem tg_1968 : Cond.selects RX10 yX10_image yX10_image ∈ tblG := inG_i 1968 (by decide +kernel) (by decide +kernel)
theorem tg_626 : Cond.code yX9_restore cX9_restore 1 (some .int) ∈ tblG := inG_i 626 (by decide +kernel) (by decide +kernel)
theorem ok_X9_restore : okY yX9_restore 0 = true := by decide +kernel
theorem tg_623 : Cond.methodLink RL 274 yX9_restore ∈ tblG := inG_i 623 (by decide +kernel) (by decide +kernel)
theorem tg_624 : Cond.instanceMethod yX9_restore ∈ tblG := inG_i 624 (by decide +kernel) (by decide +kernel)
theorem tg_625 : Cond.selects RX9 yX9_restore yX9_restore ∈ tblG := inG_i 625 (by decide +kernel) (by decide +kernel)
theorem tg_1981 : Cond.code yX10_restore cX10_restore 1 (some .int) ∈ tblG := inG_i 1981 (by decide +kernel) (by decide +kernel)
theorem ok_X10_restore : okY yX10_restore 0 = true := by decide +kernel
theorem tg_1978 : Cond.methodLink RL 277 yX10_restore ∈ tblG := inG_i 1978 (by decide +kernel) (by decide +kernel)
theorem tg_1979 : Cond.instanceMethod yX10_restore ∈ tblG := inG_i 1979 (by decide +kernel) (by decide +kernel)
theorem tg_1980 : Cond.selects RX10 yX10_restore yX10_restore ∈ tblG := inG_i 1980 (by decide +kernel) (by decide +kernel)
theorem tg_630 : Cond.code yX9_count cX9_count 2 (some .int) ∈ tblG := inG_i 630 (by decide +kernel) (by decide +kernel)
theorem ok_X9_count : okY yX9_count 1 = true := by decide +kernel
theorem tg_627 : Cond.methodLink RL 278 yX9_count ∈ tblG := inG_i 627 (by decide +kernel) (by decide +kernel)
theorem tg_628 : Cond.instanceMethod yX9_count ∈ tblG := inG_i 628 (by decide +kernel) (by decide +kernel)
theorem tg_629 : Cond.selects RX9 yX9_count yX9_count ∈ tblG := inG_i 629 (by decide +kernel) (by decide +kernel)
theorem tg_1985 : Cond.code yX10_count cX10_count 2 (some .int) ∈ tblG := inG_i 1985 (by decide +kernel) (by decide +kernel)
theorem ok_X10_count : okY yX10_count 1 = true := by decide +kernel
theorem tg_1982 : Cond.methodLink RL 281 yX10_count ∈ tblG := inG_i 1982 (by decide +kernel) (by decide +kernel)
theorem tg_1983 : Cond.instanceMethod yX10_count ∈ tblG := inG_i 1983 (by decide +kernel) (by decide +kernel)
theorem tg_1984 : Cond.selects RX10 yX10_count yX10_count ∈ tblG := inG_i 1984 (by decide +kernel) (by decide +kernel)
