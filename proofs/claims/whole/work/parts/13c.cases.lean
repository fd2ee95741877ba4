/-! the law: its links and its cases (by program) -/
theorem ln_L_13 : LNV RL 13 mX11_layer 11 2 := ⟨(RX11, TX11, 11), rfl, rfl, mem_tg (List.mem_of_getElem? (i := 371) (by decide +kernel)) rfl, mem_tg (List.mem_of_getElem? (i := 372) (by decide +kernel)) rfl, mem_tg (List.mem_of_getElem? (i := 373) (by decide +kernel)) rfl, ok_X11_layer⟩
theorem ln_L_17 : LNV RL 17 mX12_layer 12 2 := ⟨(RX12, TX12, 51), rfl, rfl, mem_tg (List.mem_of_getElem? (i := 1155) (by decide +kernel)) rfl, mem_tg (List.mem_of_getElem? (i := 1156) (by decide +kernel)) rfl, mem_tg (List.mem_of_getElem? (i := 1157) (by decide +kernel)) rfl, ok_X12_layer⟩
theorem ln_L_18 : LNV RL 18 mX11_lose 11 1 := ⟨(RX11, TX11, 11), rfl, rfl, mem_tg (List.mem_of_getElem? (i := 478) (by decide +kernel)) rfl, mem_tg (List.mem_of_getElem? (i := 479) (by decide +kernel)) rfl, mem_tg (List.mem_of_getElem? (i := 480) (by decide +kernel)) rfl, ok_X11_lose⟩
theorem ln_L_22 : LNV RL 22 mX12_lose 12 1 := ⟨(RX12, TX12, 51), rfl, rfl, mem_tg (List.mem_of_getElem? (i := 1178) (by decide +kernel)) rfl, mem_tg (List.mem_of_getElem? (i := 1179) (by decide +kernel)) rfl, mem_tg (List.mem_of_getElem? (i := 1180) (by decide +kernel)) rfl, ok_X12_lose⟩
theorem ln_L_23 : LNV RL 23 mX11_cube 11 3 := ⟨(RX11, TX11, 11), rfl, rfl, mem_tg (List.mem_of_getElem? (i := 487) (by decide +kernel)) rfl, mem_tg (List.mem_of_getElem? (i := 488) (by decide +kernel)) rfl, mem_tg (List.mem_of_getElem? (i := 489) (by decide +kernel)) rfl, ok_X11_cube⟩
theorem ln_L_27 : LNV RL 27 mX12_cube 12 3 := ⟨(RX12, TX12, 51), rfl, rfl, mem_tg (List.mem_of_getElem? (i := 1182) (by decide +kernel)) rfl, mem_tg (List.mem_of_getElem? (i := 1183) (by decide +kernel)) rfl, mem_tg (List.mem_of_getElem? (i := 1184) (by decide +kernel)) rfl, ok_X12_cube⟩
theorem ln_L_28 : LNV RL 28 mX11_copy 11 5 := ⟨(RX11, TX11, 11), rfl, rfl, mem_tg (List.mem_of_getElem? (i := 498) (by decide +kernel)) rfl, mem_tg (List.mem_of_getElem? (i := 499) (by decide +kernel)) rfl, mem_tg (List.mem_of_getElem? (i := 500) (by decide +kernel)) rfl, ok_X11_copy⟩
theorem ln_L_32 : LNV RL 32 mX12_copy 12 5 := ⟨(RX12, TX12, 51), rfl, rfl, mem_tg (List.mem_of_getElem? (i := 1186) (by decide +kernel)) rfl, mem_tg (List.mem_of_getElem? (i := 1187) (by decide +kernel)) rfl, mem_tg (List.mem_of_getElem? (i := 1188) (by decide +kernel)) rfl, ok_X12_copy⟩
theorem ln_L_33 : LNV RL 33 mX11_box 11 3 := ⟨(RX11, TX11, 11), rfl, rfl, mem_tg (List.mem_of_getElem? (i := 502) (by decide +kernel)) rfl, mem_tg (List.mem_of_getElem? (i := 503) (by decide +kernel)) rfl, mem_tg (List.mem_of_getElem? (i := 504) (by decide +kernel)) rfl, ok_X11_box⟩
theorem ln_L_36 : LNV RL 36 mX12_box 12 3 := ⟨(RX12, TX12, 51), rfl, rfl, mem_tg (List.mem_of_getElem? (i := 1190) (by decide +kernel)) rfl, mem_tg (List.mem_of_getElem? (i := 1191) (by decide +kernel)) rfl, mem_tg (List.mem_of_getElem? (i := 1192) (by decide +kernel)) rfl, ok_X12_box⟩
theorem ln_L_37 : LNV RL 37 mX11_well 11 0 := ⟨(RX11, TX11, 11), rfl, rfl, mem_tg (List.mem_of_getElem? (i := 509) (by decide +kernel)) rfl, mem_tg (List.mem_of_getElem? (i := 510) (by decide +kernel)) rfl, mem_tg (List.mem_of_getElem? (i := 511) (by decide +kernel)) rfl, ok_X11_well⟩
theorem ln_L_41 : LNV RL 41 mX12_well 12 0 := ⟨(RX12, TX12, 51), rfl, rfl, mem_tg (List.mem_of_getElem? (i := 1194) (by decide +kernel)) rfl, mem_tg (List.mem_of_getElem? (i := 1195) (by decide +kernel)) rfl, mem_tg (List.mem_of_getElem? (i := 1196) (by decide +kernel)) rfl, ok_X12_well⟩
theorem ln_L_42 : LNV RL 42 mX11_skin 11 0 := ⟨(RX11, TX11, 11), rfl, rfl, mem_tg (List.mem_of_getElem? (i := 517) (by decide +kernel)) rfl, mem_tg (List.mem_of_getElem? (i := 518) (by decide +kernel)) rfl, mem_tg (List.mem_of_getElem? (i := 519) (by decide +kernel)) rfl, ok_X11_skin⟩
theorem ln_L_45 : LNV RL 45 mX12_skin 12 0 := ⟨(RX12, TX12, 51), rfl, rfl, mem_tg (List.mem_of_getElem? (i := 1236) (by decide +kernel)) rfl, mem_tg (List.mem_of_getElem? (i := 1237) (by decide +kernel)) rfl, mem_tg (List.mem_of_getElem? (i := 1238) (by decide +kernel)) rfl, ok_X12_skin⟩
theorem ln_L_46 : LNV RL 46 mX11_square 11 2 := ⟨(RX11, TX11, 11), rfl, rfl, mem_tg (List.mem_of_getElem? (i := 525) (by decide +kernel)) rfl, mem_tg (List.mem_of_getElem? (i := 526) (by decide +kernel)) rfl, mem_tg (List.mem_of_getElem? (i := 527) (by decide +kernel)) rfl, ok_X11_square⟩
theorem ln_L_49 : LNV RL 49 mX12_square 12 2 := ⟨(RX12, TX12, 51), rfl, rfl, mem_tg (List.mem_of_getElem? (i := 1257) (by decide +kernel)) rfl, mem_tg (List.mem_of_getElem? (i := 1258) (by decide +kernel)) rfl, mem_tg (List.mem_of_getElem? (i := 1259) (by decide +kernel)) rfl, ok_X12_square⟩
theorem ln_L_50 : LNV RL 50 mX11_across 11 3 := ⟨(RX11, TX11, 11), rfl, rfl, mem_tg (List.mem_of_getElem? (i := 538) (by decide +kernel)) rfl, mem_tg (List.mem_of_getElem? (i := 539) (by decide +kernel)) rfl, mem_tg (List.mem_of_getElem? (i := 540) (by decide +kernel)) rfl, ok_X11_across⟩
theorem ln_L_53 : LNV RL 53 mX12_across 12 3 := ⟨(RX12, TX12, 51), rfl, rfl, mem_tg (List.mem_of_getElem? (i := 1261) (by decide +kernel)) rfl, mem_tg (List.mem_of_getElem? (i := 1262) (by decide +kernel)) rfl, mem_tg (List.mem_of_getElem? (i := 1263) (by decide +kernel)) rfl, ok_X12_across⟩
theorem ln_L_54 : LNV RL 54 mX11_cut 11 3 := ⟨(RX11, TX11, 11), rfl, rfl, mem_tg (List.mem_of_getElem? (i := 561) (by decide +kernel)) rfl, mem_tg (List.mem_of_getElem? (i := 562) (by decide +kernel)) rfl, mem_tg (List.mem_of_getElem? (i := 563) (by decide +kernel)) rfl, ok_X11_cut⟩
theorem ln_L_57 : LNV RL 57 mX12_cut 12 3 := ⟨(RX12, TX12, 51), rfl, rfl, mem_tg (List.mem_of_getElem? (i := 1282) (by decide +kernel)) rfl, mem_tg (List.mem_of_getElem? (i := 1283) (by decide +kernel)) rfl, mem_tg (List.mem_of_getElem? (i := 1284) (by decide +kernel)) rfl, ok_X12_cut⟩
theorem ln_L_58 : LNV RL 58 mX11_cuts 11 0 := ⟨(RX11, TX11, 11), rfl, rfl, mem_tg (List.mem_of_getElem? (i := 569) (by decide +kernel)) rfl, mem_tg (List.mem_of_getElem? (i := 570) (by decide +kernel)) rfl, mem_tg (List.mem_of_getElem? (i := 571) (by decide +kernel)) rfl, ok_X11_cuts⟩
theorem ln_L_61 : LNV RL 61 mX12_cuts 12 0 := ⟨(RX12, TX12, 51), rfl, rfl, mem_tg (List.mem_of_getElem? (i := 1286) (by decide +kernel)) rfl, mem_tg (List.mem_of_getElem? (i := 1287) (by decide +kernel)) rfl, mem_tg (List.mem_of_getElem? (i := 1288) (by decide +kernel)) rfl, ok_X12_cuts⟩
theorem ln_L_62 : LNV RL 62 mX11_open 11 0 := ⟨(RX11, TX11, 11), rfl, rfl, mem_tg (List.mem_of_getElem? (i := 578) (by decide +kernel)) rfl, mem_tg (List.mem_of_getElem? (i := 579) (by decide +kernel)) rfl, mem_tg (List.mem_of_getElem? (i := 580) (by decide +kernel)) rfl, ok_X11_open⟩
theorem ln_L_65 : LNV RL 65 mX12_open 12 0 := ⟨(RX12, TX12, 51), rfl, rfl, mem_tg (List.mem_of_getElem? (i := 1290) (by decide +kernel)) rfl, mem_tg (List.mem_of_getElem? (i := 1291) (by decide +kernel)) rfl, mem_tg (List.mem_of_getElem? (i := 1292) (by decide +kernel)) rfl, ok_X12_open⟩
theorem ln_L_66 : LNV RL 66 mX11_spot 11 3 := ⟨(RX11, TX11, 11), rfl, rfl, mem_tg (List.mem_of_getElem? (i := 680) (by decide +kernel)) rfl, mem_tg (List.mem_of_getElem? (i := 681) (by decide +kernel)) rfl, mem_tg (List.mem_of_getElem? (i := 682) (by decide +kernel)) rfl, ok_X11_spot⟩
theorem ln_L_69 : LNV RL 69 mX12_spot 12 3 := ⟨(RX12, TX12, 51), rfl, rfl, mem_tg (List.mem_of_getElem? (i := 1324) (by decide +kernel)) rfl, mem_tg (List.mem_of_getElem? (i := 1325) (by decide +kernel)) rfl, mem_tg (List.mem_of_getElem? (i := 1326) (by decide +kernel)) rfl, ok_X12_spot⟩
theorem ln_L_70 : LNV RL 70 mX11_crease 11 4 := ⟨(RX11, TX11, 11), rfl, rfl, mem_tg (List.mem_of_getElem? (i := 699) (by decide +kernel)) rfl, mem_tg (List.mem_of_getElem? (i := 700) (by decide +kernel)) rfl, mem_tg (List.mem_of_getElem? (i := 701) (by decide +kernel)) rfl, ok_X11_crease⟩
theorem ln_L_74 : LNV RL 74 mX12_crease 12 4 := ⟨(RX12, TX12, 51), rfl, rfl, mem_tg (List.mem_of_getElem? (i := 1343) (by decide +kernel)) rfl, mem_tg (List.mem_of_getElem? (i := 1344) (by decide +kernel)) rfl, mem_tg (List.mem_of_getElem? (i := 1345) (by decide +kernel)) rfl, ok_X12_crease⟩
theorem ln_L_75 : LNV RL 75 mX11_turn 11 1 := ⟨(RX11, TX11, 11), rfl, rfl, mem_tg (List.mem_of_getElem? (i := 709) (by decide +kernel)) rfl, mem_tg (List.mem_of_getElem? (i := 710) (by decide +kernel)) rfl, mem_tg (List.mem_of_getElem? (i := 711) (by decide +kernel)) rfl, ok_X11_turn⟩
theorem ln_L_78 : LNV RL 78 mX12_turn 12 1 := ⟨(RX12, TX12, 51), rfl, rfl, mem_tg (List.mem_of_getElem? (i := 1354) (by decide +kernel)) rfl, mem_tg (List.mem_of_getElem? (i := 1355) (by decide +kernel)) rfl, mem_tg (List.mem_of_getElem? (i := 1356) (by decide +kernel)) rfl, ok_X12_turn⟩
theorem ln_L_79 : LNV RL 79 mX11_clear 11 0 := ⟨(RX11, TX11, 11), rfl, rfl, mem_tg (List.mem_of_getElem? (i := 734) (by decide +kernel)) rfl, mem_tg (List.mem_of_getElem? (i := 735) (by decide +kernel)) rfl, mem_tg (List.mem_of_getElem? (i := 736) (by decide +kernel)) rfl, ok_X11_clear⟩
theorem ln_L_82 : LNV RL 82 mX12_clear 12 0 := ⟨(RX12, TX12, 51), rfl, rfl, mem_tg (List.mem_of_getElem? (i := 1362) (by decide +kernel)) rfl, mem_tg (List.mem_of_getElem? (i := 1363) (by decide +kernel)) rfl, mem_tg (List.mem_of_getElem? (i := 1364) (by decide +kernel)) rfl, ok_X12_clear⟩
theorem ln_L_83 : LNV RL 83 mX11_told 11 2 := ⟨(RX11, TX11, 11), rfl, rfl, mem_tg (List.mem_of_getElem? (i := 739) (by decide +kernel)) rfl, mem_tg (List.mem_of_getElem? (i := 740) (by decide +kernel)) rfl, mem_tg (List.mem_of_getElem? (i := 741) (by decide +kernel)) rfl, ok_X11_told⟩
theorem ln_L_86 : LNV RL 86 mX12_told 12 2 := ⟨(RX12, TX12, 51), rfl, rfl, mem_tg (List.mem_of_getElem? (i := 1366) (by decide +kernel)) rfl, mem_tg (List.mem_of_getElem? (i := 1367) (by decide +kernel)) rfl, mem_tg (List.mem_of_getElem? (i := 1368) (by decide +kernel)) rfl, ok_X12_told⟩
theorem ln_L_87 : LNV RL 87 mX11_fold 11 0 := ⟨(RX11, TX11, 11), rfl, rfl, mem_tg (List.mem_of_getElem? (i := 752) (by decide +kernel)) rfl, mem_tg (List.mem_of_getElem? (i := 753) (by decide +kernel)) rfl, mem_tg (List.mem_of_getElem? (i := 754) (by decide +kernel)) rfl, ok_X11_fold⟩
theorem ln_L_90 : LNV RL 90 mX12_fold 12 0 := ⟨(RX12, TX12, 51), rfl, rfl, mem_tg (List.mem_of_getElem? (i := 1370) (by decide +kernel)) rfl, mem_tg (List.mem_of_getElem? (i := 1371) (by decide +kernel)) rfl, mem_tg (List.mem_of_getElem? (i := 1372) (by decide +kernel)) rfl, ok_X12_fold⟩
theorem ln_L_91 : LNV RL 91 mX11_where 11 2 := ⟨(RX11, TX11, 11), rfl, rfl, mem_tg (List.mem_of_getElem? (i := 828) (by decide +kernel)) rfl, mem_tg (List.mem_of_getElem? (i := 829) (by decide +kernel)) rfl, mem_tg (List.mem_of_getElem? (i := 830) (by decide +kernel)) rfl, ok_X11_where⟩
theorem ln_L_94 : LNV RL 94 mX12_where 12 2 := ⟨(RX12, TX12, 51), rfl, rfl, mem_tg (List.mem_of_getElem? (i := 1386) (by decide +kernel)) rfl, mem_tg (List.mem_of_getElem? (i := 1387) (by decide +kernel)) rfl, mem_tg (List.mem_of_getElem? (i := 1388) (by decide +kernel)) rfl, ok_X12_where⟩
theorem ln_L_95 : LNV RL 95 mX11_closed 11 0 := ⟨(RX11, TX11, 11), rfl, rfl, mem_tg (List.mem_of_getElem? (i := 833) (by decide +kernel)) rfl, mem_tg (List.mem_of_getElem? (i := 834) (by decide +kernel)) rfl, mem_tg (List.mem_of_getElem? (i := 835) (by decide +kernel)) rfl, ok_X11_closed⟩
theorem ln_L_98 : LNV RL 98 mX12_closed 12 0 := ⟨(RX12, TX12, 51), rfl, rfl, mem_tg (List.mem_of_getElem? (i := 1390) (by decide +kernel)) rfl, mem_tg (List.mem_of_getElem? (i := 1391) (by decide +kernel)) rfl, mem_tg (List.mem_of_getElem? (i := 1392) (by decide +kernel)) rfl, ok_X12_closed⟩
theorem ln_L_99 : LNV RL 99 mX11_form 11 1 := ⟨(RX11, TX11, 11), rfl, rfl, mem_tg (List.mem_of_getElem? (i := 849) (by decide +kernel)) rfl, mem_tg (List.mem_of_getElem? (i := 850) (by decide +kernel)) rfl, mem_tg (List.mem_of_getElem? (i := 851) (by decide +kernel)) rfl, ok_X11_form⟩
theorem ln_L_102 : LNV RL 102 mX12_form 12 1 := ⟨(RX12, TX12, 51), rfl, rfl, mem_tg (List.mem_of_getElem? (i := 1398) (by decide +kernel)) rfl, mem_tg (List.mem_of_getElem? (i := 1399) (by decide +kernel)) rfl, mem_tg (List.mem_of_getElem? (i := 1400) (by decide +kernel)) rfl, ok_X12_form⟩
theorem ln_L_103 : LNV RL 103 mX11_same 11 0 := ⟨(RX11, TX11, 11), rfl, rfl, mem_tg (List.mem_of_getElem? (i := 883) (by decide +kernel)) rfl, mem_tg (List.mem_of_getElem? (i := 884) (by decide +kernel)) rfl, mem_tg (List.mem_of_getElem? (i := 885) (by decide +kernel)) rfl, ok_X11_same⟩
theorem ln_L_106 : LNV RL 106 mX12_same 12 0 := ⟨(RX12, TX12, 51), rfl, rfl, mem_tg (List.mem_of_getElem? (i := 1414) (by decide +kernel)) rfl, mem_tg (List.mem_of_getElem? (i := 1415) (by decide +kernel)) rfl, mem_tg (List.mem_of_getElem? (i := 1416) (by decide +kernel)) rfl, ok_X12_same⟩
theorem ln_L_107 : LNV RL 107 mX11_shelve 11 1 := ⟨(RX11, TX11, 11), rfl, rfl, mem_tg (List.mem_of_getElem? (i := 891) (by decide +kernel)) rfl, mem_tg (List.mem_of_getElem? (i := 892) (by decide +kernel)) rfl, mem_tg (List.mem_of_getElem? (i := 893) (by decide +kernel)) rfl, ok_X11_shelve⟩
theorem ln_L_110 : LNV RL 110 mX12_shelve 12 1 := ⟨(RX12, TX12, 51), rfl, rfl, mem_tg (List.mem_of_getElem? (i := 1418) (by decide +kernel)) rfl, mem_tg (List.mem_of_getElem? (i := 1419) (by decide +kernel)) rfl, mem_tg (List.mem_of_getElem? (i := 1420) (by decide +kernel)) rfl, ok_X12_shelve⟩
theorem ln_L_111 : LNV RL 111 mX11_alike 11 1 := ⟨(RX11, TX11, 11), rfl, rfl, mem_tg (List.mem_of_getElem? (i := 895) (by decide +kernel)) rfl, mem_tg (List.mem_of_getElem? (i := 896) (by decide +kernel)) rfl, mem_tg (List.mem_of_getElem? (i := 897) (by decide +kernel)) rfl, ok_X11_alike⟩
theorem ln_L_114 : LNV RL 114 mX12_alike 12 1 := ⟨(RX12, TX12, 51), rfl, rfl, mem_tg (List.mem_of_getElem? (i := 1422) (by decide +kernel)) rfl, mem_tg (List.mem_of_getElem? (i := 1423) (by decide +kernel)) rfl, mem_tg (List.mem_of_getElem? (i := 1424) (by decide +kernel)) rfl, ok_X12_alike⟩
theorem ln_L_115 : LNV RL 115 mX11_wraps 11 0 := ⟨(RX11, TX11, 11), rfl, rfl, mem_tg (List.mem_of_getElem? (i := 903) (by decide +kernel)) rfl, mem_tg (List.mem_of_getElem? (i := 904) (by decide +kernel)) rfl, mem_tg (List.mem_of_getElem? (i := 905) (by decide +kernel)) rfl, ok_X11_wraps⟩
theorem ln_L_118 : LNV RL 118 mX12_wraps 12 0 := ⟨(RX12, TX12, 51), rfl, rfl, mem_tg (List.mem_of_getElem? (i := 1426) (by decide +kernel)) rfl, mem_tg (List.mem_of_getElem? (i := 1427) (by decide +kernel)) rfl, mem_tg (List.mem_of_getElem? (i := 1428) (by decide +kernel)) rfl, ok_X12_wraps⟩
theorem ln_L_119 : LNV RL 119 mX11_way 11 2 := ⟨(RX11, TX11, 11), rfl, rfl, mem_tg (List.mem_of_getElem? (i := 939) (by decide +kernel)) rfl, mem_tg (List.mem_of_getElem? (i := 940) (by decide +kernel)) rfl, mem_tg (List.mem_of_getElem? (i := 941) (by decide +kernel)) rfl, ok_X11_way⟩
theorem ln_L_122 : LNV RL 122 mX12_way 12 2 := ⟨(RX12, TX12, 51), rfl, rfl, mem_tg (List.mem_of_getElem? (i := 1442) (by decide +kernel)) rfl, mem_tg (List.mem_of_getElem? (i := 1443) (by decide +kernel)) rfl, mem_tg (List.mem_of_getElem? (i := 1444) (by decide +kernel)) rfl, ok_X12_way⟩
theorem ln_L_123 : LNV RL 123 mX11_undo 11 0 := ⟨(RX11, TX11, 11), rfl, rfl, mem_tg (List.mem_of_getElem? (i := 955) (by decide +kernel)) rfl, mem_tg (List.mem_of_getElem? (i := 956) (by decide +kernel)) rfl, mem_tg (List.mem_of_getElem? (i := 957) (by decide +kernel)) rfl, ok_X11_undo⟩
theorem ln_L_126 : LNV RL 126 mX12_undo 12 0 := ⟨(RX12, TX12, 51), rfl, rfl, mem_tg (List.mem_of_getElem? (i := 1147) (by decide +kernel)) rfl, mem_tg (List.mem_of_getElem? (i := 1148) (by decide +kernel)) rfl, mem_tg (List.mem_of_getElem? (i := 1149) (by decide +kernel)) rfl, ok_X12_undo⟩
theorem ln_L_127 : LNV RL 127 mX11_count 11 1 := ⟨(RX11, TX11, 11), rfl, rfl, mem_tg (List.mem_of_getElem? (i := 967) (by decide +kernel)) rfl, mem_tg (List.mem_of_getElem? (i := 968) (by decide +kernel)) rfl, mem_tg (List.mem_of_getElem? (i := 969) (by decide +kernel)) rfl, ok_X11_count⟩
theorem ln_L_130 : LNV RL 130 mX12_count 12 1 := ⟨(RX12, TX12, 51), rfl, rfl, mem_tg (List.mem_of_getElem? (i := 1446) (by decide +kernel)) rfl, mem_tg (List.mem_of_getElem? (i := 1447) (by decide +kernel)) rfl, mem_tg (List.mem_of_getElem? (i := 1448) (by decide +kernel)) rfl, ok_X12_count⟩
theorem law_0 {L : Nat} {xs : Nat → Int32} {i : Int} {m : tM} (h : Rel m) (i0 : 0 ≤ i) (i1 : i + 6 ≤ L) (hL : L ≤ 3072) (nxt : ∀ m2, Rel m2 → Lj L xs 924 i [] m2) : Lj L xs 160 i [] m := by
  refine Lj.aload dL_law_160 rfl rfl ?_
  refine Lj.aload dL_law_161 rfl rfl ?_
  refine Lj.iload dL_law_162 rfl ?_
  refine Lj.iconst dL_law_163 (by decide) rfl ?_
  refine Lj.iadd dL_law_164 (by constructor <;> omega) rfl ?_
  refine Lj.sld dL_law_165 (by omega) (by omega) rfl ?_
  refine Lj.aload dL_law_166 rfl rfl ?_
  refine Lj.iload dL_law_167 rfl ?_
  refine Lj.iconst dL_law_168 (by decide) rfl ?_
  refine Lj.iadd dL_law_169 (by constructor <;> omega) rfl ?_
  refine Lj.sld dL_law_170 (by omega) (by omega) rfl ?_
  refine Lj.call (a := 0) (as := [iV (xs (i + 1).toNat).toInt, iV (xs (i + 2).toNat).toInt]) (rest := []) dL_law_171 ln_L_13 sh_0 (by decide) rfl rfl (Nat.le_of_ble_eq_true rfl) ⟨Nat.le_of_ble_eq_true rfl, Nat.le_of_ble_eq_true rfl⟩ (Nat.le_of_ble_eq_true rfl) rfl ?_
  refine Cli.mono (rel_layer (K := fun r r' m2 => r = r' ∧ Rel m2) h (fun _ _ hr => ⟨rfl, hr⟩)) (fun r m1 h2 => ?_)
  refine Lj.aload dL_law_174 rfl rfl ?_
  refine Lj.aload dL_law_175 rfl rfl ?_
  refine Lj.iload dL_law_176 rfl ?_
  refine Lj.iconst dL_law_177 (by decide) rfl ?_
  refine Lj.iadd dL_law_178 (by constructor <;> omega) rfl ?_
  refine Lj.sld dL_law_179 (by omega) (by omega) rfl ?_
  refine Lj.aload dL_law_180 rfl rfl ?_
  refine Lj.iload dL_law_181 rfl ?_
  refine Lj.iconst dL_law_182 (by decide) rfl ?_
  refine Lj.iadd dL_law_183 (by constructor <;> omega) rfl ?_
  refine Lj.sld dL_law_184 (by omega) (by omega) rfl ?_
  refine Lj.call (a := 145) (as := [iV (xs (i + 1).toNat).toInt, iV (xs (i + 2).toNat).toInt]) (rest := [iV r]) dL_law_185 ln_L_17 sh_145 (by decide) rfl rfl (Nat.le_of_ble_eq_true rfl) ⟨Nat.le_of_ble_eq_true rfl, Nat.le_of_ble_eq_true rfl⟩ (Nat.le_of_ble_eq_true rfl) rfl ?_
  refine Cli.mono h2 (fun r' m2 ⟨e, hr⟩ => ?_)
  subst e
  refine Lj.same dL_law_188 (tgt := 924) rfl ?_
  exact nxt m2 hr
theorem law_1 {L : Nat} {xs : Nat → Int32} {i : Int} {m : tM} (h : Rel m) (i0 : 0 ≤ i) (i1 : i + 6 ≤ L) (hL : L ≤ 3072) (nxt : ∀ m2, Rel m2 → Lj L xs 924 i [] m2) : Lj L xs 193 i [] m := by
  refine Lj.aload dL_law_193 rfl rfl ?_
  refine Lj.aload dL_law_194 rfl rfl ?_
  refine Lj.iload dL_law_195 rfl ?_
  refine Lj.iconst dL_law_196 (by decide) rfl ?_
  refine Lj.iadd dL_law_197 (by constructor <;> omega) rfl ?_
  refine Lj.sld dL_law_198 (by omega) (by omega) rfl ?_
  refine Lj.call (a := 0) (as := [iV (xs (i + 1).toNat).toInt]) (rest := []) dL_law_199 ln_L_18 sh_0 (by decide) rfl rfl (Nat.le_of_ble_eq_true rfl) ⟨Nat.le_of_ble_eq_true rfl, Nat.le_of_ble_eq_true rfl⟩ (Nat.le_of_ble_eq_true rfl) rfl ?_
  refine Cli.mono (rel_lose (K := fun r r' m2 => r = r' ∧ Rel m2) h (fun _ _ hr => ⟨rfl, hr⟩)) (fun r m1 h2 => ?_)
  refine Lj.aload dL_law_202 rfl rfl ?_
  refine Lj.aload dL_law_203 rfl rfl ?_
  refine Lj.iload dL_law_204 rfl ?_
  refine Lj.iconst dL_law_205 (by decide) rfl ?_
  refine Lj.iadd dL_law_206 (by constructor <;> omega) rfl ?_
  refine Lj.sld dL_law_207 (by omega) (by omega) rfl ?_
  refine Lj.call (a := 145) (as := [iV (xs (i + 1).toNat).toInt]) (rest := [iV r]) dL_law_208 ln_L_22 sh_145 (by decide) rfl rfl (Nat.le_of_ble_eq_true rfl) ⟨Nat.le_of_ble_eq_true rfl, Nat.le_of_ble_eq_true rfl⟩ (Nat.le_of_ble_eq_true rfl) rfl ?_
  refine Cli.mono h2 (fun r' m2 ⟨e, hr⟩ => ?_)
  subst e
  refine Lj.same dL_law_211 (tgt := 924) rfl ?_
  exact nxt m2 hr
theorem law_2 {L : Nat} {xs : Nat → Int32} {i : Int} {m : tM} (h : Rel m) (i0 : 0 ≤ i) (i1 : i + 6 ≤ L) (hL : L ≤ 3072) (nxt : ∀ m2, Rel m2 → Lj L xs 924 i [] m2) : Lj L xs 216 i [] m := by
  refine Lj.aload dL_law_216 rfl rfl ?_
  refine Lj.aload dL_law_217 rfl rfl ?_
  refine Lj.iload dL_law_218 rfl ?_
  refine Lj.iconst dL_law_219 (by decide) rfl ?_
  refine Lj.iadd dL_law_220 (by constructor <;> omega) rfl ?_
  refine Lj.sld dL_law_221 (by omega) (by omega) rfl ?_
  refine Lj.aload dL_law_222 rfl rfl ?_
  refine Lj.iload dL_law_223 rfl ?_
  refine Lj.iconst dL_law_224 (by decide) rfl ?_
  refine Lj.iadd dL_law_225 (by constructor <;> omega) rfl ?_
  refine Lj.sld dL_law_226 (by omega) (by omega) rfl ?_
  refine Lj.aload dL_law_227 rfl rfl ?_
  refine Lj.iload dL_law_228 rfl ?_
  refine Lj.iconst dL_law_229 (by decide) rfl ?_
  refine Lj.iadd dL_law_230 (by constructor <;> omega) rfl ?_
  refine Lj.sld dL_law_231 (by omega) (by omega) rfl ?_
  refine Lj.call (a := 0) (as := [iV (xs (i + 1).toNat).toInt, iV (xs (i + 2).toNat).toInt, iV (xs (i + 3).toNat).toInt]) (rest := []) dL_law_232 ln_L_23 sh_0 (by decide) rfl rfl (Nat.le_of_ble_eq_true rfl) ⟨Nat.le_of_ble_eq_true rfl, Nat.le_of_ble_eq_true rfl⟩ (Nat.le_of_ble_eq_true rfl) rfl ?_
  refine Cli.mono (rel_cube (K := fun r r' m2 => r = r' ∧ Rel m2) h (fun _ _ hr => ⟨rfl, hr⟩)) (fun r m1 h2 => ?_)
  refine Lj.aload dL_law_235 rfl rfl ?_
  refine Lj.aload dL_law_236 rfl rfl ?_
  refine Lj.iload dL_law_237 rfl ?_
  refine Lj.iconst dL_law_238 (by decide) rfl ?_
  refine Lj.iadd dL_law_239 (by constructor <;> omega) rfl ?_
  refine Lj.sld dL_law_240 (by omega) (by omega) rfl ?_
  refine Lj.aload dL_law_241 rfl rfl ?_
  refine Lj.iload dL_law_242 rfl ?_
  refine Lj.iconst dL_law_243 (by decide) rfl ?_
  refine Lj.iadd dL_law_244 (by constructor <;> omega) rfl ?_
  refine Lj.sld dL_law_245 (by omega) (by omega) rfl ?_
  refine Lj.aload dL_law_246 rfl rfl ?_
  refine Lj.iload dL_law_247 rfl ?_
  refine Lj.iconst dL_law_248 (by decide) rfl ?_
  refine Lj.iadd dL_law_249 (by constructor <;> omega) rfl ?_
  refine Lj.sld dL_law_250 (by omega) (by omega) rfl ?_
  refine Lj.call (a := 145) (as := [iV (xs (i + 1).toNat).toInt, iV (xs (i + 2).toNat).toInt, iV (xs (i + 3).toNat).toInt]) (rest := [iV r]) dL_law_251 ln_L_27 sh_145 (by decide) rfl rfl (Nat.le_of_ble_eq_true rfl) ⟨Nat.le_of_ble_eq_true rfl, Nat.le_of_ble_eq_true rfl⟩ (Nat.le_of_ble_eq_true rfl) rfl ?_
  refine Cli.mono h2 (fun r' m2 ⟨e, hr⟩ => ?_)
  subst e
  refine Lj.same dL_law_254 (tgt := 924) rfl ?_
  exact nxt m2 hr
theorem law_3 {L : Nat} {xs : Nat → Int32} {i : Int} {m : tM} (h : Rel m) (i0 : 0 ≤ i) (i1 : i + 6 ≤ L) (hL : L ≤ 3072) (nxt : ∀ m2, Rel m2 → Lj L xs 924 i [] m2) : Lj L xs 259 i [] m := by
  refine Lj.aload dL_law_259 rfl rfl ?_
  refine Lj.aload dL_law_260 rfl rfl ?_
  refine Lj.iload dL_law_261 rfl ?_
  refine Lj.iconst dL_law_262 (by decide) rfl ?_
  refine Lj.iadd dL_law_263 (by constructor <;> omega) rfl ?_
  refine Lj.sld dL_law_264 (by omega) (by omega) rfl ?_
  refine Lj.aload dL_law_265 rfl rfl ?_
  refine Lj.iload dL_law_266 rfl ?_
  refine Lj.iconst dL_law_267 (by decide) rfl ?_
  refine Lj.iadd dL_law_268 (by constructor <;> omega) rfl ?_
  refine Lj.sld dL_law_269 (by omega) (by omega) rfl ?_
  refine Lj.aload dL_law_270 rfl rfl ?_
  refine Lj.iload dL_law_271 rfl ?_
  refine Lj.iconst dL_law_272 (by decide) rfl ?_
  refine Lj.iadd dL_law_273 (by constructor <;> omega) rfl ?_
  refine Lj.sld dL_law_274 (by omega) (by omega) rfl ?_
  refine Lj.aload dL_law_275 rfl rfl ?_
  refine Lj.iload dL_law_276 rfl ?_
  refine Lj.iconst dL_law_277 (by decide) rfl ?_
  refine Lj.iadd dL_law_278 (by constructor <;> omega) rfl ?_
  refine Lj.sld dL_law_279 (by omega) (by omega) rfl ?_
  refine Lj.aload dL_law_280 rfl rfl ?_
  refine Lj.iload dL_law_281 rfl ?_
  refine Lj.iconst dL_law_282 (by decide) rfl ?_
  refine Lj.iadd dL_law_283 (by constructor <;> omega) rfl ?_
  refine Lj.sld dL_law_284 (by omega) (by omega) rfl ?_
  refine Lj.call (a := 0) (as := [iV (xs (i + 1).toNat).toInt, iV (xs (i + 2).toNat).toInt, iV (xs (i + 3).toNat).toInt, iV (xs (i + 4).toNat).toInt, iV (xs (i + 5).toNat).toInt]) (rest := []) dL_law_285 ln_L_28 sh_0 (by decide) rfl rfl (Nat.le_of_ble_eq_true rfl) ⟨Nat.le_of_ble_eq_true rfl, Nat.le_of_ble_eq_true rfl⟩ (Nat.le_of_ble_eq_true rfl) rfl ?_
  refine Cli.mono (rel_copy (K := fun r r' m2 => r = r' ∧ Rel m2) h (fun _ _ hr => ⟨rfl, hr⟩)) (fun r m1 h2 => ?_)
  refine Lj.aload dL_law_288 rfl rfl ?_
  refine Lj.aload dL_law_289 rfl rfl ?_
  refine Lj.iload dL_law_290 rfl ?_
  refine Lj.iconst dL_law_291 (by decide) rfl ?_
  refine Lj.iadd dL_law_292 (by constructor <;> omega) rfl ?_
  refine Lj.sld dL_law_293 (by omega) (by omega) rfl ?_
  refine Lj.aload dL_law_294 rfl rfl ?_
  refine Lj.iload dL_law_295 rfl ?_
  refine Lj.iconst dL_law_296 (by decide) rfl ?_
  refine Lj.iadd dL_law_297 (by constructor <;> omega) rfl ?_
  refine Lj.sld dL_law_298 (by omega) (by omega) rfl ?_
  refine Lj.aload dL_law_299 rfl rfl ?_
  refine Lj.iload dL_law_300 rfl ?_
  refine Lj.iconst dL_law_301 (by decide) rfl ?_
  refine Lj.iadd dL_law_302 (by constructor <;> omega) rfl ?_
  refine Lj.sld dL_law_303 (by omega) (by omega) rfl ?_
  refine Lj.aload dL_law_304 rfl rfl ?_
  refine Lj.iload dL_law_305 rfl ?_
  refine Lj.iconst dL_law_306 (by decide) rfl ?_
  refine Lj.iadd dL_law_307 (by constructor <;> omega) rfl ?_
  refine Lj.sld dL_law_308 (by omega) (by omega) rfl ?_
  refine Lj.aload dL_law_309 rfl rfl ?_
  refine Lj.iload dL_law_310 rfl ?_
  refine Lj.iconst dL_law_311 (by decide) rfl ?_
  refine Lj.iadd dL_law_312 (by constructor <;> omega) rfl ?_
  refine Lj.sld dL_law_313 (by omega) (by omega) rfl ?_
  refine Lj.call (a := 145) (as := [iV (xs (i + 1).toNat).toInt, iV (xs (i + 2).toNat).toInt, iV (xs (i + 3).toNat).toInt, iV (xs (i + 4).toNat).toInt, iV (xs (i + 5).toNat).toInt]) (rest := [iV r]) dL_law_314 ln_L_32 sh_145 (by decide) rfl rfl (Nat.le_of_ble_eq_true rfl) ⟨Nat.le_of_ble_eq_true rfl, Nat.le_of_ble_eq_true rfl⟩ (Nat.le_of_ble_eq_true rfl) rfl ?_
  refine Cli.mono h2 (fun r' m2 ⟨e, hr⟩ => ?_)
  subst e
  refine Lj.same dL_law_317 (tgt := 924) rfl ?_
  exact nxt m2 hr
theorem law_4 {L : Nat} {xs : Nat → Int32} {i : Int} {m : tM} (h : Rel m) (i0 : 0 ≤ i) (i1 : i + 6 ≤ L) (hL : L ≤ 3072) (nxt : ∀ m2, Rel m2 → Lj L xs 924 i [] m2) : Lj L xs 322 i [] m := by
  refine Lj.aload dL_law_322 rfl rfl ?_
  refine Lj.aload dL_law_323 rfl rfl ?_
  refine Lj.iload dL_law_324 rfl ?_
  refine Lj.iconst dL_law_325 (by decide) rfl ?_
  refine Lj.iadd dL_law_326 (by constructor <;> omega) rfl ?_
  refine Lj.sld dL_law_327 (by omega) (by omega) rfl ?_
  refine Lj.aload dL_law_328 rfl rfl ?_
  refine Lj.iload dL_law_329 rfl ?_
  refine Lj.iconst dL_law_330 (by decide) rfl ?_
  refine Lj.iadd dL_law_331 (by constructor <;> omega) rfl ?_
  refine Lj.sld dL_law_332 (by omega) (by omega) rfl ?_
  refine Lj.aload dL_law_333 rfl rfl ?_
  refine Lj.iload dL_law_334 rfl ?_
  refine Lj.iconst dL_law_335 (by decide) rfl ?_
  refine Lj.iadd dL_law_336 (by constructor <;> omega) rfl ?_
  refine Lj.sld dL_law_337 (by omega) (by omega) rfl ?_
  refine Lj.call (a := 0) (as := [iV (xs (i + 1).toNat).toInt, iV (xs (i + 2).toNat).toInt, iV (xs (i + 3).toNat).toInt]) (rest := []) dL_law_338 ln_L_33 sh_0 (by decide) rfl rfl (Nat.le_of_ble_eq_true rfl) ⟨Nat.le_of_ble_eq_true rfl, Nat.le_of_ble_eq_true rfl⟩ (Nat.le_of_ble_eq_true rfl) rfl ?_
  refine Cli.mono (rel_box (K := fun r r' m2 => r = r' ∧ Rel m2) h (fun _ _ hr => ⟨rfl, hr⟩)) (fun r m1 h2 => ?_)
  refine Lj.aload dL_law_341 rfl rfl ?_
  refine Lj.aload dL_law_342 rfl rfl ?_
  refine Lj.iload dL_law_343 rfl ?_
  refine Lj.iconst dL_law_344 (by decide) rfl ?_
  refine Lj.iadd dL_law_345 (by constructor <;> omega) rfl ?_
  refine Lj.sld dL_law_346 (by omega) (by omega) rfl ?_
  refine Lj.aload dL_law_347 rfl rfl ?_
  refine Lj.iload dL_law_348 rfl ?_
  refine Lj.iconst dL_law_349 (by decide) rfl ?_
  refine Lj.iadd dL_law_350 (by constructor <;> omega) rfl ?_
  refine Lj.sld dL_law_351 (by omega) (by omega) rfl ?_
  refine Lj.aload dL_law_352 rfl rfl ?_
  refine Lj.iload dL_law_353 rfl ?_
  refine Lj.iconst dL_law_354 (by decide) rfl ?_
  refine Lj.iadd dL_law_355 (by constructor <;> omega) rfl ?_
  refine Lj.sld dL_law_356 (by omega) (by omega) rfl ?_
  refine Lj.call (a := 145) (as := [iV (xs (i + 1).toNat).toInt, iV (xs (i + 2).toNat).toInt, iV (xs (i + 3).toNat).toInt]) (rest := [iV r]) dL_law_357 ln_L_36 sh_145 (by decide) rfl rfl (Nat.le_of_ble_eq_true rfl) ⟨Nat.le_of_ble_eq_true rfl, Nat.le_of_ble_eq_true rfl⟩ (Nat.le_of_ble_eq_true rfl) rfl ?_
  refine Cli.mono h2 (fun r' m2 ⟨e, hr⟩ => ?_)
  subst e
  refine Lj.same dL_law_360 (tgt := 924) rfl ?_
  exact nxt m2 hr
theorem law_5 {L : Nat} {xs : Nat → Int32} {i : Int} {m : tM} (h : Rel m) (i0 : 0 ≤ i) (i1 : i + 6 ≤ L) (hL : L ≤ 3072) (nxt : ∀ m2, Rel m2 → Lj L xs 924 i [] m2) : Lj L xs 365 i [] m := by
  refine Lj.aload dL_law_365 rfl rfl ?_
  refine Lj.call (a := 0) (as := []) (rest := []) dL_law_366 ln_L_37 sh_0 (by decide) rfl rfl (Nat.le_of_ble_eq_true rfl) ⟨Nat.le_of_ble_eq_true rfl, Nat.le_of_ble_eq_true rfl⟩ (Nat.le_of_ble_eq_true rfl) rfl ?_
  refine Cli.mono (rel_well (K := fun r r' m2 => r = r' ∧ Rel m2) h (fun _ _ hr => ⟨rfl, hr⟩)) (fun r m1 h2 => ?_)
  refine Lj.aload dL_law_369 rfl rfl ?_
  refine Lj.call (a := 145) (as := []) (rest := [iV r]) dL_law_370 ln_L_41 sh_145 (by decide) rfl rfl (Nat.le_of_ble_eq_true rfl) ⟨Nat.le_of_ble_eq_true rfl, Nat.le_of_ble_eq_true rfl⟩ (Nat.le_of_ble_eq_true rfl) rfl ?_
  refine Cli.mono h2 (fun r' m2 ⟨e, hr⟩ => ?_)
  subst e
  refine Lj.same dL_law_373 (tgt := 924) rfl ?_
  exact nxt m2 hr
theorem law_6 {L : Nat} {xs : Nat → Int32} {i : Int} {m : tM} (h : Rel m) (i0 : 0 ≤ i) (i1 : i + 6 ≤ L) (hL : L ≤ 3072) (nxt : ∀ m2, Rel m2 → Lj L xs 924 i [] m2) : Lj L xs 378 i [] m := by
  refine Lj.aload dL_law_378 rfl rfl ?_
  refine Lj.call (a := 0) (as := []) (rest := []) dL_law_379 ln_L_42 sh_0 (by decide) rfl rfl (Nat.le_of_ble_eq_true rfl) ⟨Nat.le_of_ble_eq_true rfl, Nat.le_of_ble_eq_true rfl⟩ (Nat.le_of_ble_eq_true rfl) rfl ?_
  refine Cli.mono (rel_skin (K := fun r r' m2 => r = r' ∧ Rel m2) h (fun _ _ hr => ⟨rfl, hr⟩)) (fun r m1 h2 => ?_)
  refine Lj.aload dL_law_382 rfl rfl ?_
  refine Lj.call (a := 145) (as := []) (rest := [iV r]) dL_law_383 ln_L_45 sh_145 (by decide) rfl rfl (Nat.le_of_ble_eq_true rfl) ⟨Nat.le_of_ble_eq_true rfl, Nat.le_of_ble_eq_true rfl⟩ (Nat.le_of_ble_eq_true rfl) rfl ?_
  refine Cli.mono h2 (fun r' m2 ⟨e, hr⟩ => ?_)
  subst e
  refine Lj.same dL_law_386 (tgt := 924) rfl ?_
  exact nxt m2 hr
theorem law_7 {L : Nat} {xs : Nat → Int32} {i : Int} {m : tM} (h : Rel m) (i0 : 0 ≤ i) (i1 : i + 6 ≤ L) (hL : L ≤ 3072) (nxt : ∀ m2, Rel m2 → Lj L xs 924 i [] m2) : Lj L xs 391 i [] m := by
  refine Lj.aload dL_law_391 rfl rfl ?_
  refine Lj.aload dL_law_392 rfl rfl ?_
  refine Lj.iload dL_law_393 rfl ?_
  refine Lj.iconst dL_law_394 (by decide) rfl ?_
  refine Lj.iadd dL_law_395 (by constructor <;> omega) rfl ?_
  refine Lj.sld dL_law_396 (by omega) (by omega) rfl ?_
  refine Lj.aload dL_law_397 rfl rfl ?_
  refine Lj.iload dL_law_398 rfl ?_
  refine Lj.iconst dL_law_399 (by decide) rfl ?_
  refine Lj.iadd dL_law_400 (by constructor <;> omega) rfl ?_
  refine Lj.sld dL_law_401 (by omega) (by omega) rfl ?_
  refine Lj.call (a := 0) (as := [iV (xs (i + 1).toNat).toInt, iV (xs (i + 2).toNat).toInt]) (rest := []) dL_law_402 ln_L_46 sh_0 (by decide) rfl rfl (Nat.le_of_ble_eq_true rfl) ⟨Nat.le_of_ble_eq_true rfl, Nat.le_of_ble_eq_true rfl⟩ (Nat.le_of_ble_eq_true rfl) rfl ?_
  refine Cli.mono (rel_square (K := fun r r' m2 => r = r' ∧ Rel m2) h (fun _ _ hr => ⟨rfl, hr⟩)) (fun r m1 h2 => ?_)
  refine Lj.aload dL_law_405 rfl rfl ?_
  refine Lj.aload dL_law_406 rfl rfl ?_
  refine Lj.iload dL_law_407 rfl ?_
  refine Lj.iconst dL_law_408 (by decide) rfl ?_
  refine Lj.iadd dL_law_409 (by constructor <;> omega) rfl ?_
  refine Lj.sld dL_law_410 (by omega) (by omega) rfl ?_
  refine Lj.aload dL_law_411 rfl rfl ?_
  refine Lj.iload dL_law_412 rfl ?_
  refine Lj.iconst dL_law_413 (by decide) rfl ?_
  refine Lj.iadd dL_law_414 (by constructor <;> omega) rfl ?_
  refine Lj.sld dL_law_415 (by omega) (by omega) rfl ?_
  refine Lj.call (a := 145) (as := [iV (xs (i + 1).toNat).toInt, iV (xs (i + 2).toNat).toInt]) (rest := [iV r]) dL_law_416 ln_L_49 sh_145 (by decide) rfl rfl (Nat.le_of_ble_eq_true rfl) ⟨Nat.le_of_ble_eq_true rfl, Nat.le_of_ble_eq_true rfl⟩ (Nat.le_of_ble_eq_true rfl) rfl ?_
  refine Cli.mono h2 (fun r' m2 ⟨e, hr⟩ => ?_)
  subst e
  refine Lj.same dL_law_419 (tgt := 924) rfl ?_
  exact nxt m2 hr
theorem law_8 {L : Nat} {xs : Nat → Int32} {i : Int} {m : tM} (h : Rel m) (i0 : 0 ≤ i) (i1 : i + 6 ≤ L) (hL : L ≤ 3072) (nxt : ∀ m2, Rel m2 → Lj L xs 924 i [] m2) : Lj L xs 424 i [] m := by
  refine Lj.aload dL_law_424 rfl rfl ?_
  refine Lj.aload dL_law_425 rfl rfl ?_
  refine Lj.iload dL_law_426 rfl ?_
  refine Lj.iconst dL_law_427 (by decide) rfl ?_
  refine Lj.iadd dL_law_428 (by constructor <;> omega) rfl ?_
  refine Lj.sld dL_law_429 (by omega) (by omega) rfl ?_
  refine Lj.aload dL_law_430 rfl rfl ?_
  refine Lj.iload dL_law_431 rfl ?_
  refine Lj.iconst dL_law_432 (by decide) rfl ?_
  refine Lj.iadd dL_law_433 (by constructor <;> omega) rfl ?_
  refine Lj.sld dL_law_434 (by omega) (by omega) rfl ?_
  refine Lj.aload dL_law_435 rfl rfl ?_
  refine Lj.iload dL_law_436 rfl ?_
  refine Lj.iconst dL_law_437 (by decide) rfl ?_
  refine Lj.iadd dL_law_438 (by constructor <;> omega) rfl ?_
  refine Lj.sld dL_law_439 (by omega) (by omega) rfl ?_
  refine Lj.call (a := 0) (as := [iV (xs (i + 1).toNat).toInt, iV (xs (i + 2).toNat).toInt, iV (xs (i + 3).toNat).toInt]) (rest := []) dL_law_440 ln_L_50 sh_0 (by decide) rfl rfl (Nat.le_of_ble_eq_true rfl) ⟨Nat.le_of_ble_eq_true rfl, Nat.le_of_ble_eq_true rfl⟩ (Nat.le_of_ble_eq_true rfl) rfl ?_
  refine Cli.mono (rel_across (K := fun r r' m2 => r = r' ∧ Rel m2) h (fun _ _ hr => ⟨rfl, hr⟩)) (fun r m1 h2 => ?_)
  refine Lj.aload dL_law_443 rfl rfl ?_
  refine Lj.aload dL_law_444 rfl rfl ?_
  refine Lj.iload dL_law_445 rfl ?_
  refine Lj.iconst dL_law_446 (by decide) rfl ?_
  refine Lj.iadd dL_law_447 (by constructor <;> omega) rfl ?_
  refine Lj.sld dL_law_448 (by omega) (by omega) rfl ?_
  refine Lj.aload dL_law_449 rfl rfl ?_
  refine Lj.iload dL_law_450 rfl ?_
  refine Lj.iconst dL_law_451 (by decide) rfl ?_
  refine Lj.iadd dL_law_452 (by constructor <;> omega) rfl ?_
  refine Lj.sld dL_law_453 (by omega) (by omega) rfl ?_
  refine Lj.aload dL_law_454 rfl rfl ?_
  refine Lj.iload dL_law_455 rfl ?_
  refine Lj.iconst dL_law_456 (by decide) rfl ?_
  refine Lj.iadd dL_law_457 (by constructor <;> omega) rfl ?_
  refine Lj.sld dL_law_458 (by omega) (by omega) rfl ?_
  refine Lj.call (a := 145) (as := [iV (xs (i + 1).toNat).toInt, iV (xs (i + 2).toNat).toInt, iV (xs (i + 3).toNat).toInt]) (rest := [iV r]) dL_law_459 ln_L_53 sh_145 (by decide) rfl rfl (Nat.le_of_ble_eq_true rfl) ⟨Nat.le_of_ble_eq_true rfl, Nat.le_of_ble_eq_true rfl⟩ (Nat.le_of_ble_eq_true rfl) rfl ?_
  refine Cli.mono h2 (fun r' m2 ⟨e, hr⟩ => ?_)
  subst e
  refine Lj.same dL_law_462 (tgt := 924) rfl ?_
  exact nxt m2 hr
theorem law_9 {L : Nat} {xs : Nat → Int32} {i : Int} {m : tM} (h : Rel m) (i0 : 0 ≤ i) (i1 : i + 6 ≤ L) (hL : L ≤ 3072) (nxt : ∀ m2, Rel m2 → Lj L xs 924 i [] m2) : Lj L xs 467 i [] m := by
  refine Lj.aload dL_law_467 rfl rfl ?_
  refine Lj.aload dL_law_468 rfl rfl ?_
  refine Lj.iload dL_law_469 rfl ?_
  refine Lj.iconst dL_law_470 (by decide) rfl ?_
  refine Lj.iadd dL_law_471 (by constructor <;> omega) rfl ?_
  refine Lj.sld dL_law_472 (by omega) (by omega) rfl ?_
  refine Lj.aload dL_law_473 rfl rfl ?_
  refine Lj.iload dL_law_474 rfl ?_
  refine Lj.iconst dL_law_475 (by decide) rfl ?_
  refine Lj.iadd dL_law_476 (by constructor <;> omega) rfl ?_
  refine Lj.sld dL_law_477 (by omega) (by omega) rfl ?_
  refine Lj.aload dL_law_478 rfl rfl ?_
  refine Lj.iload dL_law_479 rfl ?_
  refine Lj.iconst dL_law_480 (by decide) rfl ?_
  refine Lj.iadd dL_law_481 (by constructor <;> omega) rfl ?_
  refine Lj.sld dL_law_482 (by omega) (by omega) rfl ?_
  refine Lj.call (a := 0) (as := [iV (xs (i + 1).toNat).toInt, iV (xs (i + 2).toNat).toInt, iV (xs (i + 3).toNat).toInt]) (rest := []) dL_law_483 ln_L_54 sh_0 (by decide) rfl rfl (Nat.le_of_ble_eq_true rfl) ⟨Nat.le_of_ble_eq_true rfl, Nat.le_of_ble_eq_true rfl⟩ (Nat.le_of_ble_eq_true rfl) rfl ?_
  refine Cli.mono (rel_cut (K := fun r r' m2 => r = r' ∧ Rel m2) h (fun _ _ hr => ⟨rfl, hr⟩)) (fun r m1 h2 => ?_)
  refine Lj.aload dL_law_486 rfl rfl ?_
  refine Lj.aload dL_law_487 rfl rfl ?_
  refine Lj.iload dL_law_488 rfl ?_
  refine Lj.iconst dL_law_489 (by decide) rfl ?_
  refine Lj.iadd dL_law_490 (by constructor <;> omega) rfl ?_
  refine Lj.sld dL_law_491 (by omega) (by omega) rfl ?_
  refine Lj.aload dL_law_492 rfl rfl ?_
  refine Lj.iload dL_law_493 rfl ?_
  refine Lj.iconst dL_law_494 (by decide) rfl ?_
  refine Lj.iadd dL_law_495 (by constructor <;> omega) rfl ?_
  refine Lj.sld dL_law_496 (by omega) (by omega) rfl ?_
  refine Lj.aload dL_law_497 rfl rfl ?_
  refine Lj.iload dL_law_498 rfl ?_
  refine Lj.iconst dL_law_499 (by decide) rfl ?_
  refine Lj.iadd dL_law_500 (by constructor <;> omega) rfl ?_
  refine Lj.sld dL_law_501 (by omega) (by omega) rfl ?_
  refine Lj.call (a := 145) (as := [iV (xs (i + 1).toNat).toInt, iV (xs (i + 2).toNat).toInt, iV (xs (i + 3).toNat).toInt]) (rest := [iV r]) dL_law_502 ln_L_57 sh_145 (by decide) rfl rfl (Nat.le_of_ble_eq_true rfl) ⟨Nat.le_of_ble_eq_true rfl, Nat.le_of_ble_eq_true rfl⟩ (Nat.le_of_ble_eq_true rfl) rfl ?_
  refine Cli.mono h2 (fun r' m2 ⟨e, hr⟩ => ?_)
  subst e
  refine Lj.same dL_law_505 (tgt := 924) rfl ?_
  exact nxt m2 hr
theorem law_10 {L : Nat} {xs : Nat → Int32} {i : Int} {m : tM} (h : Rel m) (i0 : 0 ≤ i) (i1 : i + 6 ≤ L) (hL : L ≤ 3072) (nxt : ∀ m2, Rel m2 → Lj L xs 924 i [] m2) : Lj L xs 510 i [] m := by
  refine Lj.aload dL_law_510 rfl rfl ?_
  refine Lj.call (a := 0) (as := []) (rest := []) dL_law_511 ln_L_58 sh_0 (by decide) rfl rfl (Nat.le_of_ble_eq_true rfl) ⟨Nat.le_of_ble_eq_true rfl, Nat.le_of_ble_eq_true rfl⟩ (Nat.le_of_ble_eq_true rfl) rfl ?_
  refine Cli.mono (rel_cuts (K := fun r r' m2 => r = r' ∧ Rel m2) h (fun _ _ hr => ⟨rfl, hr⟩)) (fun r m1 h2 => ?_)
  refine Lj.aload dL_law_514 rfl rfl ?_
  refine Lj.call (a := 145) (as := []) (rest := [iV r]) dL_law_515 ln_L_61 sh_145 (by decide) rfl rfl (Nat.le_of_ble_eq_true rfl) ⟨Nat.le_of_ble_eq_true rfl, Nat.le_of_ble_eq_true rfl⟩ (Nat.le_of_ble_eq_true rfl) rfl ?_
  refine Cli.mono h2 (fun r' m2 ⟨e, hr⟩ => ?_)
  subst e
  refine Lj.same dL_law_518 (tgt := 924) rfl ?_
  exact nxt m2 hr
theorem law_11 {L : Nat} {xs : Nat → Int32} {i : Int} {m : tM} (h : Rel m) (i0 : 0 ≤ i) (i1 : i + 6 ≤ L) (hL : L ≤ 3072) (nxt : ∀ m2, Rel m2 → Lj L xs 924 i [] m2) : Lj L xs 523 i [] m := by
  refine Lj.aload dL_law_523 rfl rfl ?_
  refine Lj.call (a := 0) (as := []) (rest := []) dL_law_524 ln_L_62 sh_0 (by decide) rfl rfl (Nat.le_of_ble_eq_true rfl) ⟨Nat.le_of_ble_eq_true rfl, Nat.le_of_ble_eq_true rfl⟩ (Nat.le_of_ble_eq_true rfl) rfl ?_
  refine Cli.mono (sim_open (K := fun r r' m2 => r = r' ∧ Rel m2) h (fun _ _ hr => ⟨rfl, hr⟩)) (fun r m1 h2 => ?_)
  refine Lj.aload dL_law_527 rfl rfl ?_
  refine Lj.call (a := 145) (as := []) (rest := [iV r]) dL_law_528 ln_L_65 sh_145 (by decide) rfl rfl (Nat.le_of_ble_eq_true rfl) ⟨Nat.le_of_ble_eq_true rfl, Nat.le_of_ble_eq_true rfl⟩ (Nat.le_of_ble_eq_true rfl) rfl ?_
  refine Cli.mono h2 (fun r' m2 ⟨e, hr⟩ => ?_)
  subst e
  refine Lj.same dL_law_531 (tgt := 924) rfl ?_
  exact nxt m2 hr
theorem law_12 {L : Nat} {xs : Nat → Int32} {i : Int} {m : tM} (h : Rel m) (i0 : 0 ≤ i) (i1 : i + 6 ≤ L) (hL : L ≤ 3072) (nxt : ∀ m2, Rel m2 → Lj L xs 924 i [] m2) : Lj L xs 536 i [] m := by
  refine Lj.aload dL_law_536 rfl rfl ?_
  refine Lj.aload dL_law_537 rfl rfl ?_
  refine Lj.iload dL_law_538 rfl ?_
  refine Lj.iconst dL_law_539 (by decide) rfl ?_
  refine Lj.iadd dL_law_540 (by constructor <;> omega) rfl ?_
  refine Lj.sld dL_law_541 (by omega) (by omega) rfl ?_
  refine Lj.aload dL_law_542 rfl rfl ?_
  refine Lj.iload dL_law_543 rfl ?_
  refine Lj.iconst dL_law_544 (by decide) rfl ?_
  refine Lj.iadd dL_law_545 (by constructor <;> omega) rfl ?_
  refine Lj.sld dL_law_546 (by omega) (by omega) rfl ?_
  refine Lj.aload dL_law_547 rfl rfl ?_
  refine Lj.iload dL_law_548 rfl ?_
  refine Lj.iconst dL_law_549 (by decide) rfl ?_
  refine Lj.iadd dL_law_550 (by constructor <;> omega) rfl ?_
  refine Lj.sld dL_law_551 (by omega) (by omega) rfl ?_
  refine Lj.call (a := 0) (as := [iV (xs (i + 1).toNat).toInt, iV (xs (i + 2).toNat).toInt, iV (xs (i + 3).toNat).toInt]) (rest := []) dL_law_552 ln_L_66 sh_0 (by decide) rfl rfl (Nat.le_of_ble_eq_true rfl) ⟨Nat.le_of_ble_eq_true rfl, Nat.le_of_ble_eq_true rfl⟩ (Nat.le_of_ble_eq_true rfl) rfl ?_
  refine Cli.mono (rel_spot (K := fun r r' m2 => r = r' ∧ Rel m2) h (fun _ _ hr => ⟨rfl, hr⟩)) (fun r m1 h2 => ?_)
  refine Lj.aload dL_law_555 rfl rfl ?_
  refine Lj.aload dL_law_556 rfl rfl ?_
  refine Lj.iload dL_law_557 rfl ?_
  refine Lj.iconst dL_law_558 (by decide) rfl ?_
  refine Lj.iadd dL_law_559 (by constructor <;> omega) rfl ?_
  refine Lj.sld dL_law_560 (by omega) (by omega) rfl ?_
  refine Lj.aload dL_law_561 rfl rfl ?_
  refine Lj.iload dL_law_562 rfl ?_
  refine Lj.iconst dL_law_563 (by decide) rfl ?_
  refine Lj.iadd dL_law_564 (by constructor <;> omega) rfl ?_
  refine Lj.sld dL_law_565 (by omega) (by omega) rfl ?_
  refine Lj.aload dL_law_566 rfl rfl ?_
  refine Lj.iload dL_law_567 rfl ?_
  refine Lj.iconst dL_law_568 (by decide) rfl ?_
  refine Lj.iadd dL_law_569 (by constructor <;> omega) rfl ?_
  refine Lj.sld dL_law_570 (by omega) (by omega) rfl ?_
  refine Lj.call (a := 145) (as := [iV (xs (i + 1).toNat).toInt, iV (xs (i + 2).toNat).toInt, iV (xs (i + 3).toNat).toInt]) (rest := [iV r]) dL_law_571 ln_L_69 sh_145 (by decide) rfl rfl (Nat.le_of_ble_eq_true rfl) ⟨Nat.le_of_ble_eq_true rfl, Nat.le_of_ble_eq_true rfl⟩ (Nat.le_of_ble_eq_true rfl) rfl ?_
  refine Cli.mono h2 (fun r' m2 ⟨e, hr⟩ => ?_)
  subst e
  refine Lj.same dL_law_574 (tgt := 924) rfl ?_
  exact nxt m2 hr
theorem law_13 {L : Nat} {xs : Nat → Int32} {i : Int} {m : tM} (h : Rel m) (i0 : 0 ≤ i) (i1 : i + 6 ≤ L) (hL : L ≤ 3072) (nxt : ∀ m2, Rel m2 → Lj L xs 924 i [] m2) : Lj L xs 579 i [] m := by
  refine Lj.aload dL_law_579 rfl rfl ?_
  refine Lj.aload dL_law_580 rfl rfl ?_
  refine Lj.iload dL_law_581 rfl ?_
  refine Lj.iconst dL_law_582 (by decide) rfl ?_
  refine Lj.iadd dL_law_583 (by constructor <;> omega) rfl ?_
  refine Lj.sld dL_law_584 (by omega) (by omega) rfl ?_
  refine Lj.aload dL_law_585 rfl rfl ?_
  refine Lj.iload dL_law_586 rfl ?_
  refine Lj.iconst dL_law_587 (by decide) rfl ?_
  refine Lj.iadd dL_law_588 (by constructor <;> omega) rfl ?_
  refine Lj.sld dL_law_589 (by omega) (by omega) rfl ?_
  refine Lj.aload dL_law_590 rfl rfl ?_
  refine Lj.iload dL_law_591 rfl ?_
  refine Lj.iconst dL_law_592 (by decide) rfl ?_
  refine Lj.iadd dL_law_593 (by constructor <;> omega) rfl ?_
  refine Lj.sld dL_law_594 (by omega) (by omega) rfl ?_
  refine Lj.aload dL_law_595 rfl rfl ?_
  refine Lj.iload dL_law_596 rfl ?_
  refine Lj.iconst dL_law_597 (by decide) rfl ?_
  refine Lj.iadd dL_law_598 (by constructor <;> omega) rfl ?_
  refine Lj.sld dL_law_599 (by omega) (by omega) rfl ?_
  refine Lj.call (a := 0) (as := [iV (xs (i + 1).toNat).toInt, iV (xs (i + 2).toNat).toInt, iV (xs (i + 3).toNat).toInt, iV (xs (i + 4).toNat).toInt]) (rest := []) dL_law_600 ln_L_70 sh_0 (by decide) rfl rfl (Nat.le_of_ble_eq_true rfl) ⟨Nat.le_of_ble_eq_true rfl, Nat.le_of_ble_eq_true rfl⟩ (Nat.le_of_ble_eq_true rfl) rfl ?_
  refine Cli.mono (rel_crease (K := fun r r' m2 => r = r' ∧ Rel m2) h (fun _ _ hr => ⟨rfl, hr⟩)) (fun r m1 h2 => ?_)
  refine Lj.aload dL_law_603 rfl rfl ?_
  refine Lj.aload dL_law_604 rfl rfl ?_
  refine Lj.iload dL_law_605 rfl ?_
  refine Lj.iconst dL_law_606 (by decide) rfl ?_
  refine Lj.iadd dL_law_607 (by constructor <;> omega) rfl ?_
  refine Lj.sld dL_law_608 (by omega) (by omega) rfl ?_
  refine Lj.aload dL_law_609 rfl rfl ?_
  refine Lj.iload dL_law_610 rfl ?_
  refine Lj.iconst dL_law_611 (by decide) rfl ?_
  refine Lj.iadd dL_law_612 (by constructor <;> omega) rfl ?_
  refine Lj.sld dL_law_613 (by omega) (by omega) rfl ?_
  refine Lj.aload dL_law_614 rfl rfl ?_
  refine Lj.iload dL_law_615 rfl ?_
  refine Lj.iconst dL_law_616 (by decide) rfl ?_
  refine Lj.iadd dL_law_617 (by constructor <;> omega) rfl ?_
  refine Lj.sld dL_law_618 (by omega) (by omega) rfl ?_
  refine Lj.aload dL_law_619 rfl rfl ?_
  refine Lj.iload dL_law_620 rfl ?_
  refine Lj.iconst dL_law_621 (by decide) rfl ?_
  refine Lj.iadd dL_law_622 (by constructor <;> omega) rfl ?_
  refine Lj.sld dL_law_623 (by omega) (by omega) rfl ?_
  refine Lj.call (a := 145) (as := [iV (xs (i + 1).toNat).toInt, iV (xs (i + 2).toNat).toInt, iV (xs (i + 3).toNat).toInt, iV (xs (i + 4).toNat).toInt]) (rest := [iV r]) dL_law_624 ln_L_74 sh_145 (by decide) rfl rfl (Nat.le_of_ble_eq_true rfl) ⟨Nat.le_of_ble_eq_true rfl, Nat.le_of_ble_eq_true rfl⟩ (Nat.le_of_ble_eq_true rfl) rfl ?_
  refine Cli.mono h2 (fun r' m2 ⟨e, hr⟩ => ?_)
  subst e
  refine Lj.same dL_law_627 (tgt := 924) rfl ?_
  exact nxt m2 hr
theorem law_14 {L : Nat} {xs : Nat → Int32} {i : Int} {m : tM} (h : Rel m) (i0 : 0 ≤ i) (i1 : i + 6 ≤ L) (hL : L ≤ 3072) (nxt : ∀ m2, Rel m2 → Lj L xs 924 i [] m2) : Lj L xs 632 i [] m := by
  refine Lj.aload dL_law_632 rfl rfl ?_
  refine Lj.aload dL_law_633 rfl rfl ?_
  refine Lj.iload dL_law_634 rfl ?_
  refine Lj.iconst dL_law_635 (by decide) rfl ?_
  refine Lj.iadd dL_law_636 (by constructor <;> omega) rfl ?_
  refine Lj.sld dL_law_637 (by omega) (by omega) rfl ?_
  refine Lj.call (a := 0) (as := [iV (xs (i + 1).toNat).toInt]) (rest := []) dL_law_638 ln_L_75 sh_0 (by decide) rfl rfl (Nat.le_of_ble_eq_true rfl) ⟨Nat.le_of_ble_eq_true rfl, Nat.le_of_ble_eq_true rfl⟩ (Nat.le_of_ble_eq_true rfl) rfl ?_
  refine Cli.mono (rel_turn (K := fun r r' m2 => r = r' ∧ Rel m2) h (fun _ _ hr => ⟨rfl, hr⟩)) (fun r m1 h2 => ?_)
  refine Lj.aload dL_law_641 rfl rfl ?_
  refine Lj.aload dL_law_642 rfl rfl ?_
  refine Lj.iload dL_law_643 rfl ?_
  refine Lj.iconst dL_law_644 (by decide) rfl ?_
  refine Lj.iadd dL_law_645 (by constructor <;> omega) rfl ?_
  refine Lj.sld dL_law_646 (by omega) (by omega) rfl ?_
  refine Lj.call (a := 145) (as := [iV (xs (i + 1).toNat).toInt]) (rest := [iV r]) dL_law_647 ln_L_78 sh_145 (by decide) rfl rfl (Nat.le_of_ble_eq_true rfl) ⟨Nat.le_of_ble_eq_true rfl, Nat.le_of_ble_eq_true rfl⟩ (Nat.le_of_ble_eq_true rfl) rfl ?_
  refine Cli.mono h2 (fun r' m2 ⟨e, hr⟩ => ?_)
  subst e
  refine Lj.same dL_law_650 (tgt := 924) rfl ?_
  exact nxt m2 hr
theorem law_15 {L : Nat} {xs : Nat → Int32} {i : Int} {m : tM} (h : Rel m) (i0 : 0 ≤ i) (i1 : i + 6 ≤ L) (hL : L ≤ 3072) (nxt : ∀ m2, Rel m2 → Lj L xs 924 i [] m2) : Lj L xs 655 i [] m := by
  refine Lj.aload dL_law_655 rfl rfl ?_
  refine Lj.call (a := 0) (as := []) (rest := []) dL_law_656 ln_L_79 sh_0 (by decide) rfl rfl (Nat.le_of_ble_eq_true rfl) ⟨Nat.le_of_ble_eq_true rfl, Nat.le_of_ble_eq_true rfl⟩ (Nat.le_of_ble_eq_true rfl) rfl ?_
  refine Cli.mono (rel_clear (K := fun r r' m2 => r = r' ∧ Rel m2) h (fun _ _ hr => ⟨rfl, hr⟩)) (fun r m1 h2 => ?_)
  refine Lj.aload dL_law_659 rfl rfl ?_
  refine Lj.call (a := 145) (as := []) (rest := [iV r]) dL_law_660 ln_L_82 sh_145 (by decide) rfl rfl (Nat.le_of_ble_eq_true rfl) ⟨Nat.le_of_ble_eq_true rfl, Nat.le_of_ble_eq_true rfl⟩ (Nat.le_of_ble_eq_true rfl) rfl ?_
  refine Cli.mono h2 (fun r' m2 ⟨e, hr⟩ => ?_)
  subst e
  refine Lj.same dL_law_663 (tgt := 924) rfl ?_
  exact nxt m2 hr
theorem law_16 {L : Nat} {xs : Nat → Int32} {i : Int} {m : tM} (h : Rel m) (i0 : 0 ≤ i) (i1 : i + 6 ≤ L) (hL : L ≤ 3072) (nxt : ∀ m2, Rel m2 → Lj L xs 924 i [] m2) : Lj L xs 668 i [] m := by
  refine Lj.aload dL_law_668 rfl rfl ?_
  refine Lj.aload dL_law_669 rfl rfl ?_
  refine Lj.iload dL_law_670 rfl ?_
  refine Lj.iconst dL_law_671 (by decide) rfl ?_
  refine Lj.iadd dL_law_672 (by constructor <;> omega) rfl ?_
  refine Lj.sld dL_law_673 (by omega) (by omega) rfl ?_
  refine Lj.aload dL_law_674 rfl rfl ?_
  refine Lj.iload dL_law_675 rfl ?_
  refine Lj.iconst dL_law_676 (by decide) rfl ?_
  refine Lj.iadd dL_law_677 (by constructor <;> omega) rfl ?_
  refine Lj.sld dL_law_678 (by omega) (by omega) rfl ?_
  refine Lj.call (a := 0) (as := [iV (xs (i + 1).toNat).toInt, iV (xs (i + 2).toNat).toInt]) (rest := []) dL_law_679 ln_L_83 sh_0 (by decide) rfl rfl (Nat.le_of_ble_eq_true rfl) ⟨Nat.le_of_ble_eq_true rfl, Nat.le_of_ble_eq_true rfl⟩ (Nat.le_of_ble_eq_true rfl) rfl ?_
  refine Cli.mono (rel_told (K := fun r r' m2 => r = r' ∧ Rel m2) h (fun _ _ hr => ⟨rfl, hr⟩)) (fun r m1 h2 => ?_)
  refine Lj.aload dL_law_682 rfl rfl ?_
  refine Lj.aload dL_law_683 rfl rfl ?_
  refine Lj.iload dL_law_684 rfl ?_
  refine Lj.iconst dL_law_685 (by decide) rfl ?_
  refine Lj.iadd dL_law_686 (by constructor <;> omega) rfl ?_
  refine Lj.sld dL_law_687 (by omega) (by omega) rfl ?_
  refine Lj.aload dL_law_688 rfl rfl ?_
  refine Lj.iload dL_law_689 rfl ?_
  refine Lj.iconst dL_law_690 (by decide) rfl ?_
  refine Lj.iadd dL_law_691 (by constructor <;> omega) rfl ?_
  refine Lj.sld dL_law_692 (by omega) (by omega) rfl ?_
  refine Lj.call (a := 145) (as := [iV (xs (i + 1).toNat).toInt, iV (xs (i + 2).toNat).toInt]) (rest := [iV r]) dL_law_693 ln_L_86 sh_145 (by decide) rfl rfl (Nat.le_of_ble_eq_true rfl) ⟨Nat.le_of_ble_eq_true rfl, Nat.le_of_ble_eq_true rfl⟩ (Nat.le_of_ble_eq_true rfl) rfl ?_
  refine Cli.mono h2 (fun r' m2 ⟨e, hr⟩ => ?_)
  subst e
  refine Lj.same dL_law_696 (tgt := 924) rfl ?_
  exact nxt m2 hr
theorem law_17 {L : Nat} {xs : Nat → Int32} {i : Int} {m : tM} (h : Rel m) (i0 : 0 ≤ i) (i1 : i + 6 ≤ L) (hL : L ≤ 3072) (nxt : ∀ m2, Rel m2 → Lj L xs 924 i [] m2) : Lj L xs 701 i [] m := by
  refine Lj.aload dL_law_701 rfl rfl ?_
  refine Lj.call (a := 0) (as := []) (rest := []) dL_law_702 ln_L_87 sh_0 (by decide) rfl rfl (Nat.le_of_ble_eq_true rfl) ⟨Nat.le_of_ble_eq_true rfl, Nat.le_of_ble_eq_true rfl⟩ (Nat.le_of_ble_eq_true rfl) rfl ?_
  refine Cli.mono (sim_fold (K := fun r r' m2 => r = r' ∧ Rel m2) h (fun _ _ hr => ⟨rfl, hr⟩)) (fun r m1 h2 => ?_)
  refine Lj.aload dL_law_705 rfl rfl ?_
  refine Lj.call (a := 145) (as := []) (rest := [iV r]) dL_law_706 ln_L_90 sh_145 (by decide) rfl rfl (Nat.le_of_ble_eq_true rfl) ⟨Nat.le_of_ble_eq_true rfl, Nat.le_of_ble_eq_true rfl⟩ (Nat.le_of_ble_eq_true rfl) rfl ?_
  refine Cli.mono h2 (fun r' m2 ⟨e, hr⟩ => ?_)
  subst e
  refine Lj.same dL_law_709 (tgt := 924) rfl ?_
  exact nxt m2 hr
theorem law_18 {L : Nat} {xs : Nat → Int32} {i : Int} {m : tM} (h : Rel m) (i0 : 0 ≤ i) (i1 : i + 6 ≤ L) (hL : L ≤ 3072) (nxt : ∀ m2, Rel m2 → Lj L xs 924 i [] m2) : Lj L xs 714 i [] m := by
  refine Lj.aload dL_law_714 rfl rfl ?_
  refine Lj.aload dL_law_715 rfl rfl ?_
  refine Lj.iload dL_law_716 rfl ?_
  refine Lj.iconst dL_law_717 (by decide) rfl ?_
  refine Lj.iadd dL_law_718 (by constructor <;> omega) rfl ?_
  refine Lj.sld dL_law_719 (by omega) (by omega) rfl ?_
  refine Lj.aload dL_law_720 rfl rfl ?_
  refine Lj.iload dL_law_721 rfl ?_
  refine Lj.iconst dL_law_722 (by decide) rfl ?_
  refine Lj.iadd dL_law_723 (by constructor <;> omega) rfl ?_
  refine Lj.sld dL_law_724 (by omega) (by omega) rfl ?_
  refine Lj.call (a := 0) (as := [iV (xs (i + 1).toNat).toInt, iV (xs (i + 2).toNat).toInt]) (rest := []) dL_law_725 ln_L_91 sh_0 (by decide) rfl rfl (Nat.le_of_ble_eq_true rfl) ⟨Nat.le_of_ble_eq_true rfl, Nat.le_of_ble_eq_true rfl⟩ (Nat.le_of_ble_eq_true rfl) rfl ?_
  refine Cli.mono (sim_where (K := fun r r' m2 => r = r' ∧ Rel m2) h (fun _ _ hr => ⟨rfl, hr⟩)) (fun r m1 h2 => ?_)
  refine Lj.aload dL_law_728 rfl rfl ?_
  refine Lj.aload dL_law_729 rfl rfl ?_
  refine Lj.iload dL_law_730 rfl ?_
  refine Lj.iconst dL_law_731 (by decide) rfl ?_
  refine Lj.iadd dL_law_732 (by constructor <;> omega) rfl ?_
  refine Lj.sld dL_law_733 (by omega) (by omega) rfl ?_
  refine Lj.aload dL_law_734 rfl rfl ?_
  refine Lj.iload dL_law_735 rfl ?_
  refine Lj.iconst dL_law_736 (by decide) rfl ?_
  refine Lj.iadd dL_law_737 (by constructor <;> omega) rfl ?_
  refine Lj.sld dL_law_738 (by omega) (by omega) rfl ?_
  refine Lj.call (a := 145) (as := [iV (xs (i + 1).toNat).toInt, iV (xs (i + 2).toNat).toInt]) (rest := [iV r]) dL_law_739 ln_L_94 sh_145 (by decide) rfl rfl (Nat.le_of_ble_eq_true rfl) ⟨Nat.le_of_ble_eq_true rfl, Nat.le_of_ble_eq_true rfl⟩ (Nat.le_of_ble_eq_true rfl) rfl ?_
  refine Cli.mono h2 (fun r' m2 ⟨e, hr⟩ => ?_)
  subst e
  refine Lj.same dL_law_742 (tgt := 924) rfl ?_
  exact nxt m2 hr
theorem law_19 {L : Nat} {xs : Nat → Int32} {i : Int} {m : tM} (h : Rel m) (i0 : 0 ≤ i) (i1 : i + 6 ≤ L) (hL : L ≤ 3072) (nxt : ∀ m2, Rel m2 → Lj L xs 924 i [] m2) : Lj L xs 747 i [] m := by
  refine Lj.aload dL_law_747 rfl rfl ?_
  refine Lj.call (a := 0) (as := []) (rest := []) dL_law_748 ln_L_95 sh_0 (by decide) rfl rfl (Nat.le_of_ble_eq_true rfl) ⟨Nat.le_of_ble_eq_true rfl, Nat.le_of_ble_eq_true rfl⟩ (Nat.le_of_ble_eq_true rfl) rfl ?_
  refine Cli.mono (sim_closed (K := fun r r' m2 => r = r' ∧ Rel m2) h (fun _ _ hr => ⟨rfl, hr⟩)) (fun r m1 h2 => ?_)
  refine Lj.aload dL_law_751 rfl rfl ?_
  refine Lj.call (a := 145) (as := []) (rest := [iV r]) dL_law_752 ln_L_98 sh_145 (by decide) rfl rfl (Nat.le_of_ble_eq_true rfl) ⟨Nat.le_of_ble_eq_true rfl, Nat.le_of_ble_eq_true rfl⟩ (Nat.le_of_ble_eq_true rfl) rfl ?_
  refine Cli.mono h2 (fun r' m2 ⟨e, hr⟩ => ?_)
  subst e
  refine Lj.same dL_law_755 (tgt := 924) rfl ?_
  exact nxt m2 hr
theorem law_20 {L : Nat} {xs : Nat → Int32} {i : Int} {m : tM} (h : Rel m) (i0 : 0 ≤ i) (i1 : i + 6 ≤ L) (hL : L ≤ 3072) (nxt : ∀ m2, Rel m2 → Lj L xs 924 i [] m2) : Lj L xs 760 i [] m := by
  refine Lj.aload dL_law_760 rfl rfl ?_
  refine Lj.aload dL_law_761 rfl rfl ?_
  refine Lj.iload dL_law_762 rfl ?_
  refine Lj.iconst dL_law_763 (by decide) rfl ?_
  refine Lj.iadd dL_law_764 (by constructor <;> omega) rfl ?_
  refine Lj.sld dL_law_765 (by omega) (by omega) rfl ?_
  refine Lj.call (a := 0) (as := [iV (xs (i + 1).toNat).toInt]) (rest := []) dL_law_766 ln_L_99 sh_0 (by decide) rfl rfl (Nat.le_of_ble_eq_true rfl) ⟨Nat.le_of_ble_eq_true rfl, Nat.le_of_ble_eq_true rfl⟩ (Nat.le_of_ble_eq_true rfl) rfl ?_
  refine Cli.mono (rel_form (K := fun r r' m2 => r = r' ∧ Rel m2) h (fun _ _ hr => ⟨rfl, hr⟩)) (fun r m1 h2 => ?_)
  refine Lj.aload dL_law_769 rfl rfl ?_
  refine Lj.aload dL_law_770 rfl rfl ?_
  refine Lj.iload dL_law_771 rfl ?_
  refine Lj.iconst dL_law_772 (by decide) rfl ?_
  refine Lj.iadd dL_law_773 (by constructor <;> omega) rfl ?_
  refine Lj.sld dL_law_774 (by omega) (by omega) rfl ?_
  refine Lj.call (a := 145) (as := [iV (xs (i + 1).toNat).toInt]) (rest := [iV r]) dL_law_775 ln_L_102 sh_145 (by decide) rfl rfl (Nat.le_of_ble_eq_true rfl) ⟨Nat.le_of_ble_eq_true rfl, Nat.le_of_ble_eq_true rfl⟩ (Nat.le_of_ble_eq_true rfl) rfl ?_
  refine Cli.mono h2 (fun r' m2 ⟨e, hr⟩ => ?_)
  subst e
  refine Lj.same dL_law_778 (tgt := 924) rfl ?_
  exact nxt m2 hr
theorem law_21 {L : Nat} {xs : Nat → Int32} {i : Int} {m : tM} (h : Rel m) (i0 : 0 ≤ i) (i1 : i + 6 ≤ L) (hL : L ≤ 3072) (nxt : ∀ m2, Rel m2 → Lj L xs 924 i [] m2) : Lj L xs 783 i [] m := by
  refine Lj.aload dL_law_783 rfl rfl ?_
  refine Lj.call (a := 0) (as := []) (rest := []) dL_law_784 ln_L_103 sh_0 (by decide) rfl rfl (Nat.le_of_ble_eq_true rfl) ⟨Nat.le_of_ble_eq_true rfl, Nat.le_of_ble_eq_true rfl⟩ (Nat.le_of_ble_eq_true rfl) rfl ?_
  refine Cli.mono (rel_same (K := fun r r' m2 => r = r' ∧ Rel m2) h (fun _ _ hr => ⟨rfl, hr⟩)) (fun r m1 h2 => ?_)
  refine Lj.aload dL_law_787 rfl rfl ?_
  refine Lj.call (a := 145) (as := []) (rest := [iV r]) dL_law_788 ln_L_106 sh_145 (by decide) rfl rfl (Nat.le_of_ble_eq_true rfl) ⟨Nat.le_of_ble_eq_true rfl, Nat.le_of_ble_eq_true rfl⟩ (Nat.le_of_ble_eq_true rfl) rfl ?_
  refine Cli.mono h2 (fun r' m2 ⟨e, hr⟩ => ?_)
  subst e
  refine Lj.same dL_law_791 (tgt := 924) rfl ?_
  exact nxt m2 hr
theorem law_22 {L : Nat} {xs : Nat → Int32} {i : Int} {m : tM} (h : Rel m) (i0 : 0 ≤ i) (i1 : i + 6 ≤ L) (hL : L ≤ 3072) (nxt : ∀ m2, Rel m2 → Lj L xs 924 i [] m2) : Lj L xs 796 i [] m := by
  refine Lj.aload dL_law_796 rfl rfl ?_
  refine Lj.aload dL_law_797 rfl rfl ?_
  refine Lj.iload dL_law_798 rfl ?_
  refine Lj.iconst dL_law_799 (by decide) rfl ?_
  refine Lj.iadd dL_law_800 (by constructor <;> omega) rfl ?_
  refine Lj.sld dL_law_801 (by omega) (by omega) rfl ?_
  refine Lj.call (a := 0) (as := [iV (xs (i + 1).toNat).toInt]) (rest := []) dL_law_802 ln_L_107 sh_0 (by decide) rfl rfl (Nat.le_of_ble_eq_true rfl) ⟨Nat.le_of_ble_eq_true rfl, Nat.le_of_ble_eq_true rfl⟩ (Nat.le_of_ble_eq_true rfl) rfl ?_
  refine Cli.mono (rel_shelve (K := fun r r' m2 => r = r' ∧ Rel m2) h (fun _ _ hr => ⟨rfl, hr⟩)) (fun r m1 h2 => ?_)
  refine Lj.aload dL_law_805 rfl rfl ?_
  refine Lj.aload dL_law_806 rfl rfl ?_
  refine Lj.iload dL_law_807 rfl ?_
  refine Lj.iconst dL_law_808 (by decide) rfl ?_
  refine Lj.iadd dL_law_809 (by constructor <;> omega) rfl ?_
  refine Lj.sld dL_law_810 (by omega) (by omega) rfl ?_
  refine Lj.call (a := 145) (as := [iV (xs (i + 1).toNat).toInt]) (rest := [iV r]) dL_law_811 ln_L_110 sh_145 (by decide) rfl rfl (Nat.le_of_ble_eq_true rfl) ⟨Nat.le_of_ble_eq_true rfl, Nat.le_of_ble_eq_true rfl⟩ (Nat.le_of_ble_eq_true rfl) rfl ?_
  refine Cli.mono h2 (fun r' m2 ⟨e, hr⟩ => ?_)
  subst e
  refine Lj.same dL_law_814 (tgt := 924) rfl ?_
  exact nxt m2 hr
theorem law_23 {L : Nat} {xs : Nat → Int32} {i : Int} {m : tM} (h : Rel m) (i0 : 0 ≤ i) (i1 : i + 6 ≤ L) (hL : L ≤ 3072) (nxt : ∀ m2, Rel m2 → Lj L xs 924 i [] m2) : Lj L xs 819 i [] m := by
  refine Lj.aload dL_law_819 rfl rfl ?_
  refine Lj.aload dL_law_820 rfl rfl ?_
  refine Lj.iload dL_law_821 rfl ?_
  refine Lj.iconst dL_law_822 (by decide) rfl ?_
  refine Lj.iadd dL_law_823 (by constructor <;> omega) rfl ?_
  refine Lj.sld dL_law_824 (by omega) (by omega) rfl ?_
  refine Lj.call (a := 0) (as := [iV (xs (i + 1).toNat).toInt]) (rest := []) dL_law_825 ln_L_111 sh_0 (by decide) rfl rfl (Nat.le_of_ble_eq_true rfl) ⟨Nat.le_of_ble_eq_true rfl, Nat.le_of_ble_eq_true rfl⟩ (Nat.le_of_ble_eq_true rfl) rfl ?_
  refine Cli.mono (rel_alike (K := fun r r' m2 => r = r' ∧ Rel m2) h (fun _ _ hr => ⟨rfl, hr⟩)) (fun r m1 h2 => ?_)
  refine Lj.aload dL_law_828 rfl rfl ?_
  refine Lj.aload dL_law_829 rfl rfl ?_
  refine Lj.iload dL_law_830 rfl ?_
  refine Lj.iconst dL_law_831 (by decide) rfl ?_
  refine Lj.iadd dL_law_832 (by constructor <;> omega) rfl ?_
  refine Lj.sld dL_law_833 (by omega) (by omega) rfl ?_
  refine Lj.call (a := 145) (as := [iV (xs (i + 1).toNat).toInt]) (rest := [iV r]) dL_law_834 ln_L_114 sh_145 (by decide) rfl rfl (Nat.le_of_ble_eq_true rfl) ⟨Nat.le_of_ble_eq_true rfl, Nat.le_of_ble_eq_true rfl⟩ (Nat.le_of_ble_eq_true rfl) rfl ?_
  refine Cli.mono h2 (fun r' m2 ⟨e, hr⟩ => ?_)
  subst e
  refine Lj.same dL_law_837 (tgt := 924) rfl ?_
  exact nxt m2 hr
theorem law_24 {L : Nat} {xs : Nat → Int32} {i : Int} {m : tM} (h : Rel m) (i0 : 0 ≤ i) (i1 : i + 6 ≤ L) (hL : L ≤ 3072) (nxt : ∀ m2, Rel m2 → Lj L xs 924 i [] m2) : Lj L xs 842 i [] m := by
  refine Lj.aload dL_law_842 rfl rfl ?_
  refine Lj.call (a := 0) (as := []) (rest := []) dL_law_843 ln_L_115 sh_0 (by decide) rfl rfl (Nat.le_of_ble_eq_true rfl) ⟨Nat.le_of_ble_eq_true rfl, Nat.le_of_ble_eq_true rfl⟩ (Nat.le_of_ble_eq_true rfl) rfl ?_
  refine Cli.mono (sim_wraps (K := fun r r' m2 => r = r' ∧ Rel m2) h (fun _ _ hr => ⟨rfl, hr⟩)) (fun r m1 h2 => ?_)
  refine Lj.aload dL_law_846 rfl rfl ?_
  refine Lj.call (a := 145) (as := []) (rest := [iV r]) dL_law_847 ln_L_118 sh_145 (by decide) rfl rfl (Nat.le_of_ble_eq_true rfl) ⟨Nat.le_of_ble_eq_true rfl, Nat.le_of_ble_eq_true rfl⟩ (Nat.le_of_ble_eq_true rfl) rfl ?_
  refine Cli.mono h2 (fun r' m2 ⟨e, hr⟩ => ?_)
  subst e
  refine Lj.same dL_law_850 (tgt := 924) rfl ?_
  exact nxt m2 hr
theorem law_25 {L : Nat} {xs : Nat → Int32} {i : Int} {m : tM} (h : Rel m) (i0 : 0 ≤ i) (i1 : i + 6 ≤ L) (hL : L ≤ 3072) (nxt : ∀ m2, Rel m2 → Lj L xs 924 i [] m2) : Lj L xs 855 i [] m := by
  refine Lj.aload dL_law_855 rfl rfl ?_
  refine Lj.aload dL_law_856 rfl rfl ?_
  refine Lj.iload dL_law_857 rfl ?_
  refine Lj.iconst dL_law_858 (by decide) rfl ?_
  refine Lj.iadd dL_law_859 (by constructor <;> omega) rfl ?_
  refine Lj.sld dL_law_860 (by omega) (by omega) rfl ?_
  refine Lj.aload dL_law_861 rfl rfl ?_
  refine Lj.iload dL_law_862 rfl ?_
  refine Lj.iconst dL_law_863 (by decide) rfl ?_
  refine Lj.iadd dL_law_864 (by constructor <;> omega) rfl ?_
  refine Lj.sld dL_law_865 (by omega) (by omega) rfl ?_
  refine Lj.call (a := 0) (as := [iV (xs (i + 1).toNat).toInt, iV (xs (i + 2).toNat).toInt]) (rest := []) dL_law_866 ln_L_119 sh_0 (by decide) rfl rfl (Nat.le_of_ble_eq_true rfl) ⟨Nat.le_of_ble_eq_true rfl, Nat.le_of_ble_eq_true rfl⟩ (Nat.le_of_ble_eq_true rfl) rfl ?_
  refine Cli.mono (sim_way (K := fun r r' m2 => r = r' ∧ Rel m2) h (fun _ _ hr => ⟨rfl, hr⟩)) (fun r m1 h2 => ?_)
  refine Lj.aload dL_law_869 rfl rfl ?_
  refine Lj.aload dL_law_870 rfl rfl ?_
  refine Lj.iload dL_law_871 rfl ?_
  refine Lj.iconst dL_law_872 (by decide) rfl ?_
  refine Lj.iadd dL_law_873 (by constructor <;> omega) rfl ?_
  refine Lj.sld dL_law_874 (by omega) (by omega) rfl ?_
  refine Lj.aload dL_law_875 rfl rfl ?_
  refine Lj.iload dL_law_876 rfl ?_
  refine Lj.iconst dL_law_877 (by decide) rfl ?_
  refine Lj.iadd dL_law_878 (by constructor <;> omega) rfl ?_
  refine Lj.sld dL_law_879 (by omega) (by omega) rfl ?_
  refine Lj.call (a := 145) (as := [iV (xs (i + 1).toNat).toInt, iV (xs (i + 2).toNat).toInt]) (rest := [iV r]) dL_law_880 ln_L_122 sh_145 (by decide) rfl rfl (Nat.le_of_ble_eq_true rfl) ⟨Nat.le_of_ble_eq_true rfl, Nat.le_of_ble_eq_true rfl⟩ (Nat.le_of_ble_eq_true rfl) rfl ?_
  refine Cli.mono h2 (fun r' m2 ⟨e, hr⟩ => ?_)
  subst e
  refine Lj.same dL_law_883 (tgt := 924) rfl ?_
  exact nxt m2 hr
theorem law_26 {L : Nat} {xs : Nat → Int32} {i : Int} {m : tM} (h : Rel m) (i0 : 0 ≤ i) (i1 : i + 6 ≤ L) (hL : L ≤ 3072) (nxt : ∀ m2, Rel m2 → Lj L xs 924 i [] m2) : Lj L xs 888 i [] m := by
  refine Lj.aload dL_law_888 rfl rfl ?_
  refine Lj.call (a := 0) (as := []) (rest := []) dL_law_889 ln_L_123 sh_0 (by decide) rfl rfl (Nat.le_of_ble_eq_true rfl) ⟨Nat.le_of_ble_eq_true rfl, Nat.le_of_ble_eq_true rfl⟩ (Nat.le_of_ble_eq_true rfl) rfl ?_
  refine Cli.mono (rel_undo (K := fun r r' m2 => r = r' ∧ Rel m2) h (fun _ _ hr => ⟨rfl, hr⟩)) (fun r m1 h2 => ?_)
  refine Lj.aload dL_law_892 rfl rfl ?_
  refine Lj.call (a := 145) (as := []) (rest := [iV r]) dL_law_893 ln_L_126 sh_145 (by decide) rfl rfl (Nat.le_of_ble_eq_true rfl) ⟨Nat.le_of_ble_eq_true rfl, Nat.le_of_ble_eq_true rfl⟩ (Nat.le_of_ble_eq_true rfl) rfl ?_
  refine Cli.mono h2 (fun r' m2 ⟨e, hr⟩ => ?_)
  subst e
  refine Lj.same dL_law_896 (tgt := 924) rfl ?_
  exact nxt m2 hr
theorem law_27 {L : Nat} {xs : Nat → Int32} {i : Int} {m : tM} (h : Rel m) (i0 : 0 ≤ i) (i1 : i + 6 ≤ L) (hL : L ≤ 3072) (nxt : ∀ m2, Rel m2 → Lj L xs 924 i [] m2) : Lj L xs 901 i [] m := by
  refine Lj.aload dL_law_901 rfl rfl ?_
  refine Lj.aload dL_law_902 rfl rfl ?_
  refine Lj.iload dL_law_903 rfl ?_
  refine Lj.iconst dL_law_904 (by decide) rfl ?_
  refine Lj.iadd dL_law_905 (by constructor <;> omega) rfl ?_
  refine Lj.sld dL_law_906 (by omega) (by omega) rfl ?_
  refine Lj.call (a := 0) (as := [iV (xs (i + 1).toNat).toInt]) (rest := []) dL_law_907 ln_L_127 sh_0 (by decide) rfl rfl (Nat.le_of_ble_eq_true rfl) ⟨Nat.le_of_ble_eq_true rfl, Nat.le_of_ble_eq_true rfl⟩ (Nat.le_of_ble_eq_true rfl) rfl ?_
  refine Cli.mono (rel_count (K := fun r r' m2 => r = r' ∧ Rel m2) h (fun _ _ hr => ⟨rfl, hr⟩)) (fun r m1 h2 => ?_)
  refine Lj.aload dL_law_910 rfl rfl ?_
  refine Lj.aload dL_law_911 rfl rfl ?_
  refine Lj.iload dL_law_912 rfl ?_
  refine Lj.iconst dL_law_913 (by decide) rfl ?_
  refine Lj.iadd dL_law_914 (by constructor <;> omega) rfl ?_
  refine Lj.sld dL_law_915 (by omega) (by omega) rfl ?_
  refine Lj.call (a := 145) (as := [iV (xs (i + 1).toNat).toInt]) (rest := [iV r]) dL_law_916 ln_L_130 sh_145 (by decide) rfl rfl (Nat.le_of_ble_eq_true rfl) ⟨Nat.le_of_ble_eq_true rfl, Nat.le_of_ble_eq_true rfl⟩ (Nat.le_of_ble_eq_true rfl) rfl ?_
  refine Cli.mono h2 (fun r' m2 ⟨e, hr⟩ => ?_)
  subst e
  refine Lj.same dL_law_919 (tgt := 924) rfl ?_
  exact nxt m2 hr
theorem law_loop {L : Nat} {xs : Nat → Int32} (hL : L ≤ 3072) : ∀ (u : Nat) (i : Int) (m : tM), Rel m → 0 ≤ i → (L : Int) + 6 - i ≤ u → i ≤ L + 6 → Lj L xs 18 i [] m := by
  intro u
  induction u with
  | zero =>
    intro i m h i0 hu hi
    refine Lj.iload dL_law_18 rfl ?_
    refine Lj.aload dL_law_19 rfl rfl ?_
    refine Lj.slen dL_law_20 rfl ?_
    refine Lj.bipush dL_law_21 (by decide) (by decide +kernel) rfl ?_
    refine Lj.isub dL_law_23 (by constructor <;> omega) rfl ?_
    exact Lj.icmp_gt dL_law_24 (tgt := 930) rfl rfl (fun q => by omega) (fun _ => Lj.fin dL_law_930 dL_law_931)
  | succ u ih =>
    intro i m h i0 hu hi
    refine Lj.iload dL_law_18 rfl ?_
    refine Lj.aload dL_law_19 rfl rfl ?_
    refine Lj.slen dL_law_20 rfl ?_
    refine Lj.bipush dL_law_21 (by decide) (by decide +kernel) rfl ?_
    refine Lj.isub dL_law_23 (by constructor <;> omega) rfl ?_
    refine Lj.icmp_gt dL_law_24 (tgt := 930) rfl rfl (fun q => ?_) (fun _ => Lj.fin dL_law_930 dL_law_931)
    have i1 : i + 6 ≤ L := by omega
    have nxt : ∀ m2, Rel m2 → Lj L xs 924 i [] m2 := fun m2 hr => by
      refine Lj.iinc dL_law_924 (by constructor <;> omega) rfl ?_
      refine Lj.goto dL_law_927 (pc' := 18) rfl ?_
      exact ih (i + 6) m2 hr (by omega) (by omega) (by omega)
    refine Lj.aload dL_law_27 rfl rfl ?_
    refine Lj.iload dL_law_28 rfl ?_
    refine Lj.sld dL_law_29 i0 (by omega) rfl ?_
    refine Lj.bipush dL_law_30 (by decide) (by decide +kernel) rfl ?_
    refine Lj.iand dL_law_32 rfl ?_
    generalize bAnd (xs i.toNat).toInt 31 = v
    by_cases c0 : v = 0
    · exact Lj.tsI (off := 127) dL_law_33 c0 (by decide) (by decide) (by decide +kernel) (pc' := 160) rfl (law_0 h i0 i1 hL nxt)
    by_cases c1 : v = 1
    · exact Lj.tsI (off := 160) dL_law_33 c1 (by decide) (by decide) (by decide +kernel) (pc' := 193) rfl (law_1 h i0 i1 hL nxt)
    by_cases c2 : v = 2
    · exact Lj.tsI (off := 183) dL_law_33 c2 (by decide) (by decide) (by decide +kernel) (pc' := 216) rfl (law_2 h i0 i1 hL nxt)
    by_cases c3 : v = 3
    · exact Lj.tsI (off := 226) dL_law_33 c3 (by decide) (by decide) (by decide +kernel) (pc' := 259) rfl (law_3 h i0 i1 hL nxt)
    by_cases c4 : v = 4
    · exact Lj.tsI (off := 289) dL_law_33 c4 (by decide) (by decide) (by decide +kernel) (pc' := 322) rfl (law_4 h i0 i1 hL nxt)
    by_cases c5 : v = 5
    · exact Lj.tsI (off := 332) dL_law_33 c5 (by decide) (by decide) (by decide +kernel) (pc' := 365) rfl (law_5 h i0 i1 hL nxt)
    by_cases c6 : v = 6
    · exact Lj.tsI (off := 345) dL_law_33 c6 (by decide) (by decide) (by decide +kernel) (pc' := 378) rfl (law_6 h i0 i1 hL nxt)
    by_cases c7 : v = 7
    · exact Lj.tsI (off := 358) dL_law_33 c7 (by decide) (by decide) (by decide +kernel) (pc' := 391) rfl (law_7 h i0 i1 hL nxt)
    by_cases c8 : v = 8
    · exact Lj.tsI (off := 391) dL_law_33 c8 (by decide) (by decide) (by decide +kernel) (pc' := 424) rfl (law_8 h i0 i1 hL nxt)
    by_cases c9 : v = 9
    · exact Lj.tsI (off := 434) dL_law_33 c9 (by decide) (by decide) (by decide +kernel) (pc' := 467) rfl (law_9 h i0 i1 hL nxt)
    by_cases c10 : v = 10
    · exact Lj.tsI (off := 477) dL_law_33 c10 (by decide) (by decide) (by decide +kernel) (pc' := 510) rfl (law_10 h i0 i1 hL nxt)
    by_cases c11 : v = 11
    · exact Lj.tsI (off := 490) dL_law_33 c11 (by decide) (by decide) (by decide +kernel) (pc' := 523) rfl (law_11 h i0 i1 hL nxt)
    by_cases c12 : v = 12
    · exact Lj.tsI (off := 503) dL_law_33 c12 (by decide) (by decide) (by decide +kernel) (pc' := 536) rfl (law_12 h i0 i1 hL nxt)
    by_cases c13 : v = 13
    · exact Lj.tsI (off := 546) dL_law_33 c13 (by decide) (by decide) (by decide +kernel) (pc' := 579) rfl (law_13 h i0 i1 hL nxt)
    by_cases c14 : v = 14
    · exact Lj.tsI (off := 599) dL_law_33 c14 (by decide) (by decide) (by decide +kernel) (pc' := 632) rfl (law_14 h i0 i1 hL nxt)
    by_cases c15 : v = 15
    · exact Lj.tsI (off := 622) dL_law_33 c15 (by decide) (by decide) (by decide +kernel) (pc' := 655) rfl (law_15 h i0 i1 hL nxt)
    by_cases c16 : v = 16
    · exact Lj.tsI (off := 635) dL_law_33 c16 (by decide) (by decide) (by decide +kernel) (pc' := 668) rfl (law_16 h i0 i1 hL nxt)
    by_cases c17 : v = 17
    · exact Lj.tsI (off := 668) dL_law_33 c17 (by decide) (by decide) (by decide +kernel) (pc' := 701) rfl (law_17 h i0 i1 hL nxt)
    by_cases c18 : v = 18
    · exact Lj.tsI (off := 681) dL_law_33 c18 (by decide) (by decide) (by decide +kernel) (pc' := 714) rfl (law_18 h i0 i1 hL nxt)
    by_cases c19 : v = 19
    · exact Lj.tsI (off := 714) dL_law_33 c19 (by decide) (by decide) (by decide +kernel) (pc' := 747) rfl (law_19 h i0 i1 hL nxt)
    by_cases c20 : v = 20
    · exact Lj.tsI (off := 727) dL_law_33 c20 (by decide) (by decide) (by decide +kernel) (pc' := 760) rfl (law_20 h i0 i1 hL nxt)
    by_cases c21 : v = 21
    · exact Lj.tsI (off := 750) dL_law_33 c21 (by decide) (by decide) (by decide +kernel) (pc' := 783) rfl (law_21 h i0 i1 hL nxt)
    by_cases c22 : v = 22
    · exact Lj.tsI (off := 763) dL_law_33 c22 (by decide) (by decide) (by decide +kernel) (pc' := 796) rfl (law_22 h i0 i1 hL nxt)
    by_cases c23 : v = 23
    · exact Lj.tsI (off := 786) dL_law_33 c23 (by decide) (by decide) (by decide +kernel) (pc' := 819) rfl (law_23 h i0 i1 hL nxt)
    by_cases c24 : v = 24
    · exact Lj.tsI (off := 809) dL_law_33 c24 (by decide) (by decide) (by decide +kernel) (pc' := 842) rfl (law_24 h i0 i1 hL nxt)
    by_cases c25 : v = 25
    · exact Lj.tsI (off := 822) dL_law_33 c25 (by decide) (by decide) (by decide +kernel) (pc' := 855) rfl (law_25 h i0 i1 hL nxt)
    by_cases c26 : v = 26
    · exact Lj.tsI (off := 855) dL_law_33 c26 (by decide) (by decide) (by decide +kernel) (pc' := 888) rfl (law_26 h i0 i1 hL nxt)
    by_cases c27 : v = 27
    · exact Lj.tsI (off := 868) dL_law_33 c27 (by decide) (by decide) (by decide +kernel) (pc' := 901) rfl (law_27 h i0 i1 hL nxt)
    exact Lj.tsO dL_law_33 (by omega) (pc' := 924) rfl (nxt m h)
