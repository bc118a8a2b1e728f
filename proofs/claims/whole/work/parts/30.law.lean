abbrev c_La_law : ByteArray := code
set_option maxRecDepth 100000 in
theorem Y_Md_block : sn_Y y_Md_block c_Md_block 5 (some .boolean) 4 := ⟨sn_tb (n := 1555) rfl rfl, sn_tb (n := 9) (by decide +kernel) rfl, by decide +kernel⟩
theorem L_La_60 : Cond.methodLink "SignalNetworkLaw" 60 y_Md_block ∈ sn_tbl := sn_tb (n := 1552) (by decide +kernel) rfl
theorem I_Md_block : Cond.instanceMethod y_Md_block ∈ sn_tbl := sn_tb (n := 1553) (by decide +kernel) rfl
theorem Se_Md_block : Cond.selects y_Md_block.cls y_Md_block y_Md_block ∈ sn_tbl := sn_tb (n := 1554) (by decide +kernel) rfl
set_option maxRecDepth 100000 in
theorem Y_Sn_block : sn_Y y_Sn_block c_Sn_block 6 (some .boolean) 4 := ⟨sn_tb (n := 968) rfl rfl, sn_tb (n := 1) (by decide +kernel) rfl, by decide +kernel⟩
theorem L_La_56 : Cond.methodLink "SignalNetworkLaw" 56 y_Sn_block ∈ sn_tbl := sn_tb (n := 965) (by decide +kernel) rfl
theorem I_Sn_block : Cond.instanceMethod y_Sn_block ∈ sn_tbl := sn_tb (n := 966) (by decide +kernel) rfl
theorem Se_Sn_block : Cond.selects y_Sn_block.cls y_Sn_block y_Sn_block ∈ sn_tbl := sn_tb (n := 967) (by decide +kernel) rfl
set_option maxRecDepth 100000 in
theorem Y_Md_cut : sn_Y y_Md_cut c_Md_cut 3 (some .boolean) 2 := ⟨sn_tb (n := 1379) rfl rfl, sn_tb (n := 9) (by decide +kernel) rfl, by decide +kernel⟩
theorem L_La_31 : Cond.methodLink "SignalNetworkLaw" 31 y_Md_cut ∈ sn_tbl := sn_tb (n := 1376) (by decide +kernel) rfl
theorem I_Md_cut : Cond.instanceMethod y_Md_cut ∈ sn_tbl := sn_tb (n := 1377) (by decide +kernel) rfl
theorem Se_Md_cut : Cond.selects y_Md_cut.cls y_Md_cut y_Md_cut ∈ sn_tbl := sn_tb (n := 1378) (by decide +kernel) rfl
set_option maxRecDepth 100000 in
theorem Y_Sn_cut : sn_Y y_Sn_cut c_Sn_cut 3 (some .boolean) 2 := ⟨sn_tb (n := 610) rfl rfl, sn_tb (n := 1) (by decide +kernel) rfl, by decide +kernel⟩
theorem L_La_28 : Cond.methodLink "SignalNetworkLaw" 28 y_Sn_cut ∈ sn_tbl := sn_tb (n := 607) (by decide +kernel) rfl
theorem I_Sn_cut : Cond.instanceMethod y_Sn_cut ∈ sn_tbl := sn_tb (n := 608) (by decide +kernel) rfl
theorem Se_Sn_cut : Cond.selects y_Sn_cut.cls y_Sn_cut y_Sn_cut ∈ sn_tbl := sn_tb (n := 609) (by decide +kernel) rfl
set_option maxRecDepth 100000 in
theorem Y_Md_activate : sn_Y y_Md_activate c_Md_activate 4 (some .boolean) 2 := ⟨sn_tb (n := 1343) rfl rfl, sn_tb (n := 9) (by decide +kernel) rfl, by decide +kernel⟩
theorem L_La_27 : Cond.methodLink "SignalNetworkLaw" 27 y_Md_activate ∈ sn_tbl := sn_tb (n := 1340) (by decide +kernel) rfl
theorem I_Md_activate : Cond.instanceMethod y_Md_activate ∈ sn_tbl := sn_tb (n := 1341) (by decide +kernel) rfl
theorem Se_Md_activate : Cond.selects y_Md_activate.cls y_Md_activate y_Md_activate ∈ sn_tbl := sn_tb (n := 1342) (by decide +kernel) rfl
set_option maxRecDepth 100000 in
theorem Y_Sn_activate : sn_Y y_Sn_activate c_Sn_activate 3 (some .boolean) 2 := ⟨sn_tb (n := 544) rfl rfl, sn_tb (n := 1) (by decide +kernel) rfl, by decide +kernel⟩
theorem L_La_23 : Cond.methodLink "SignalNetworkLaw" 23 y_Sn_activate ∈ sn_tbl := sn_tb (n := 541) (by decide +kernel) rfl
theorem I_Sn_activate : Cond.instanceMethod y_Sn_activate ∈ sn_tbl := sn_tb (n := 542) (by decide +kernel) rfl
theorem Se_Sn_activate : Cond.selects y_Sn_activate.cls y_Sn_activate y_Sn_activate ∈ sn_tbl := sn_tb (n := 543) (by decide +kernel) rfl
set_option maxRecDepth 100000 in
theorem Y_Sn_link : sn_Y y_Sn_link c_Sn_link 4 (some .int) 2 := ⟨sn_tb (n := 243) rfl rfl, sn_tb (n := 1) (by decide +kernel) rfl, by decide +kernel⟩
theorem L_La_13 : Cond.methodLink "SignalNetworkLaw" 13 y_Sn_link ∈ sn_tbl := sn_tb (n := 240) (by decide +kernel) rfl
set_option maxRecDepth 100000 in
theorem Y_Md_link : sn_Y y_Md_link c_Md_link 3 (some .int) 2 := ⟨sn_tb (n := 1286) rfl rfl, sn_tb (n := 9) (by decide +kernel) rfl, by decide +kernel⟩
theorem L_La_17 : Cond.methodLink "SignalNetworkLaw" 17 y_Md_link ∈ sn_tbl := sn_tb (n := 1283) (by decide +kernel) rfl
theorem I_Md_link : Cond.instanceMethod y_Md_link ∈ sn_tbl := sn_tb (n := 1284) (by decide +kernel) rfl
theorem Se_Md_link : Cond.selects y_Md_link.cls y_Md_link y_Md_link ∈ sn_tbl := sn_tb (n := 1285) (by decide +kernel) rfl
theorem I_Sn_link : Cond.instanceMethod y_Sn_link ∈ sn_tbl := sn_tb (n := 241) (by decide +kernel) rfl
theorem Se_Sn_link : Cond.selects y_Sn_link.cls y_Sn_link y_Sn_link ∈ sn_tbl := sn_tb (n := 242) (by decide +kernel) rfl
set_option maxRecDepth 100000 in
theorem Y_Sn_route : sn_Y y_Sn_route c_Sn_route 5 (some .boolean) 4 := ⟨sn_tb (n := 494) rfl rfl, sn_tb (n := 1) (by decide +kernel) rfl, by decide +kernel⟩
theorem L_La_18 : Cond.methodLink "SignalNetworkLaw" 18 y_Sn_route ∈ sn_tbl := sn_tb (n := 491) (by decide +kernel) rfl
set_option maxRecDepth 100000 in
theorem Y_Md_route_ : sn_Y y_Md_route_ c_Md_route_ 5 (some .boolean) 4 := ⟨sn_tb (n := 1301) rfl rfl, sn_tb (n := 9) (by decide +kernel) rfl, by decide +kernel⟩
theorem L_La_22 : Cond.methodLink "SignalNetworkLaw" 22 y_Md_route_ ∈ sn_tbl := sn_tb (n := 1298) (by decide +kernel) rfl
theorem I_Md_route_ : Cond.instanceMethod y_Md_route_ ∈ sn_tbl := sn_tb (n := 1299) (by decide +kernel) rfl
theorem Se_Md_route_ : Cond.selects y_Md_route_.cls y_Md_route_ y_Md_route_ ∈ sn_tbl := sn_tb (n := 1300) (by decide +kernel) rfl
theorem I_Sn_route : Cond.instanceMethod y_Sn_route ∈ sn_tbl := sn_tb (n := 492) (by decide +kernel) rfl
theorem Se_Sn_route : Cond.selects y_Sn_route.cls y_Sn_route y_Sn_route ∈ sn_tbl := sn_tb (n := 493) (by decide +kernel) rfl
set_option maxRecDepth 100000 in
theorem Y_Sn_damage : sn_Y y_Sn_damage c_Sn_damage 5 (some .boolean) 3 := ⟨sn_tb (n := 614) rfl rfl, sn_tb (n := 1) (by decide +kernel) rfl, by decide +kernel⟩
theorem L_La_32 : Cond.methodLink "SignalNetworkLaw" 32 y_Sn_damage ∈ sn_tbl := sn_tb (n := 611) (by decide +kernel) rfl
set_option maxRecDepth 100000 in
theorem Y_Md_damage : sn_Y y_Md_damage c_Md_damage 4 (some .boolean) 3 := ⟨sn_tb (n := 1383) rfl rfl, sn_tb (n := 9) (by decide +kernel) rfl, by decide +kernel⟩
theorem L_La_36 : Cond.methodLink "SignalNetworkLaw" 36 y_Md_damage ∈ sn_tbl := sn_tb (n := 1380) (by decide +kernel) rfl
theorem I_Md_damage : Cond.instanceMethod y_Md_damage ∈ sn_tbl := sn_tb (n := 1381) (by decide +kernel) rfl
theorem Se_Md_damage : Cond.selects y_Md_damage.cls y_Md_damage y_Md_damage ∈ sn_tbl := sn_tb (n := 1382) (by decide +kernel) rfl
theorem I_Sn_damage : Cond.instanceMethod y_Sn_damage ∈ sn_tbl := sn_tb (n := 612) (by decide +kernel) rfl
theorem Se_Sn_damage : Cond.selects y_Sn_damage.cls y_Sn_damage y_Sn_damage ∈ sn_tbl := sn_tb (n := 613) (by decide +kernel) rfl
set_option maxRecDepth 100000 in
theorem Y_Sn_tick : sn_Y y_Sn_tick c_Sn_tick 6 (some .int) 1 := ⟨sn_tb (n := 619) rfl rfl, sn_tb (n := 1) (by decide +kernel) rfl, by decide +kernel⟩
theorem L_La_37 : Cond.methodLink "SignalNetworkLaw" 37 y_Sn_tick ∈ sn_tbl := sn_tb (n := 616) (by decide +kernel) rfl
set_option maxRecDepth 100000 in
theorem Y_Md_tick : sn_Y y_Md_tick c_Md_tick 3 (some .int) 1 := ⟨sn_tb (n := 1391) rfl rfl, sn_tb (n := 9) (by decide +kernel) rfl, by decide +kernel⟩
theorem L_La_41 : Cond.methodLink "SignalNetworkLaw" 41 y_Md_tick ∈ sn_tbl := sn_tb (n := 1388) (by decide +kernel) rfl
theorem I_Md_tick : Cond.instanceMethod y_Md_tick ∈ sn_tbl := sn_tb (n := 1389) (by decide +kernel) rfl
theorem Se_Md_tick : Cond.selects y_Md_tick.cls y_Md_tick y_Md_tick ∈ sn_tbl := sn_tb (n := 1390) (by decide +kernel) rfl
theorem I_Sn_tick : Cond.instanceMethod y_Sn_tick ∈ sn_tbl := sn_tb (n := 617) (by decide +kernel) rfl
theorem Se_Sn_tick : Cond.selects y_Sn_tick.cls y_Sn_tick y_Sn_tick ∈ sn_tbl := sn_tb (n := 618) (by decide +kernel) rfl
set_option maxRecDepth 100000 in
theorem Y_Sn_dial : sn_Y y_Sn_dial c_Sn_dial 4 (some .boolean) 2 := ⟨sn_tb (n := 944) rfl rfl, sn_tb (n := 1) (by decide +kernel) rfl, by decide +kernel⟩
theorem L_La_42 : Cond.methodLink "SignalNetworkLaw" 42 y_Sn_dial ∈ sn_tbl := sn_tb (n := 941) (by decide +kernel) rfl
set_option maxRecDepth 100000 in
theorem Y_Md_dial : sn_Y y_Md_dial c_Md_dial 4 (some .boolean) 2 := ⟨sn_tb (n := 1540) rfl rfl, sn_tb (n := 9) (by decide +kernel) rfl, by decide +kernel⟩
theorem L_La_46 : Cond.methodLink "SignalNetworkLaw" 46 y_Md_dial ∈ sn_tbl := sn_tb (n := 1537) (by decide +kernel) rfl
theorem I_Md_dial : Cond.instanceMethod y_Md_dial ∈ sn_tbl := sn_tb (n := 1538) (by decide +kernel) rfl
theorem Se_Md_dial : Cond.selects y_Md_dial.cls y_Md_dial y_Md_dial ∈ sn_tbl := sn_tb (n := 1539) (by decide +kernel) rfl
theorem I_Sn_dial : Cond.instanceMethod y_Sn_dial ∈ sn_tbl := sn_tb (n := 942) (by decide +kernel) rfl
theorem Se_Sn_dial : Cond.selects y_Sn_dial.cls y_Sn_dial y_Sn_dial ∈ sn_tbl := sn_tb (n := 943) (by decide +kernel) rfl
set_option maxRecDepth 100000 in
theorem Y_Sn_answer : sn_Y y_Sn_answer c_Sn_answer 3 (some .boolean) 1 := ⟨sn_tb (n := 952) rfl rfl, sn_tb (n := 1) (by decide +kernel) rfl, by decide +kernel⟩
theorem L_La_47 : Cond.methodLink "SignalNetworkLaw" 47 y_Sn_answer ∈ sn_tbl := sn_tb (n := 949) (by decide +kernel) rfl
set_option maxRecDepth 100000 in
theorem Y_Md_answer : sn_Y y_Md_answer c_Md_answer 3 (some .boolean) 1 := ⟨sn_tb (n := 1547) rfl rfl, sn_tb (n := 9) (by decide +kernel) rfl, by decide +kernel⟩
theorem L_La_51 : Cond.methodLink "SignalNetworkLaw" 51 y_Md_answer ∈ sn_tbl := sn_tb (n := 1544) (by decide +kernel) rfl
theorem I_Md_answer : Cond.instanceMethod y_Md_answer ∈ sn_tbl := sn_tb (n := 1545) (by decide +kernel) rfl
theorem Se_Md_answer : Cond.selects y_Md_answer.cls y_Md_answer y_Md_answer ∈ sn_tbl := sn_tb (n := 1546) (by decide +kernel) rfl
theorem I_Sn_answer : Cond.instanceMethod y_Sn_answer ∈ sn_tbl := sn_tb (n := 950) (by decide +kernel) rfl
theorem Se_Sn_answer : Cond.selects y_Sn_answer.cls y_Sn_answer y_Sn_answer ∈ sn_tbl := sn_tb (n := 951) (by decide +kernel) rfl
set_option maxRecDepth 100000 in
theorem Y_Sn_hang : sn_Y y_Sn_hang c_Sn_hang 3 (some .boolean) 1 := ⟨sn_tb (n := 960) rfl rfl, sn_tb (n := 1) (by decide +kernel) rfl, by decide +kernel⟩
theorem L_La_52 : Cond.methodLink "SignalNetworkLaw" 52 y_Sn_hang ∈ sn_tbl := sn_tb (n := 957) (by decide +kernel) rfl
set_option maxRecDepth 100000 in
theorem Y_Md_hang : sn_Y y_Md_hang c_Md_hang 5 (some .boolean) 1 := ⟨sn_tb (n := 1551) rfl rfl, sn_tb (n := 9) (by decide +kernel) rfl, by decide +kernel⟩
theorem L_La_55 : Cond.methodLink "SignalNetworkLaw" 55 y_Md_hang ∈ sn_tbl := sn_tb (n := 1548) (by decide +kernel) rfl
theorem I_Md_hang : Cond.instanceMethod y_Md_hang ∈ sn_tbl := sn_tb (n := 1549) (by decide +kernel) rfl
theorem Se_Md_hang : Cond.selects y_Md_hang.cls y_Md_hang y_Md_hang ∈ sn_tbl := sn_tb (n := 1550) (by decide +kernel) rfl
theorem I_Sn_hang : Cond.instanceMethod y_Sn_hang ∈ sn_tbl := sn_tb (n := 958) (by decide +kernel) rfl
theorem Se_Sn_hang : Cond.selects y_Sn_hang.cls y_Sn_hang y_Sn_hang ∈ sn_tbl := sn_tb (n := 959) (by decide +kernel) rfl
set_option maxRecDepth 100000 in
theorem Y_Sn_end : sn_Y y_Sn_end c_Sn_end 5 (some .int) 3 := ⟨sn_tb (n := 976) rfl rfl, sn_tb (n := 1) (by decide +kernel) rfl, by decide +kernel⟩
theorem L_La_61 : Cond.methodLink "SignalNetworkLaw" 61 y_Sn_end ∈ sn_tbl := sn_tb (n := 973) (by decide +kernel) rfl
set_option maxRecDepth 100000 in
theorem Y_Md_end : sn_Y y_Md_end c_Md_end 5 (some .int) 3 := ⟨sn_tb (n := 1563) rfl rfl, sn_tb (n := 9) (by decide +kernel) rfl, by decide +kernel⟩
theorem L_La_65 : Cond.methodLink "SignalNetworkLaw" 65 y_Md_end ∈ sn_tbl := sn_tb (n := 1560) (by decide +kernel) rfl
theorem I_Md_end : Cond.instanceMethod y_Md_end ∈ sn_tbl := sn_tb (n := 1561) (by decide +kernel) rfl
theorem Se_Md_end : Cond.selects y_Md_end.cls y_Md_end y_Md_end ∈ sn_tbl := sn_tb (n := 1562) (by decide +kernel) rfl
theorem I_Sn_end : Cond.instanceMethod y_Sn_end ∈ sn_tbl := sn_tb (n := 974) (by decide +kernel) rfl
theorem Se_Sn_end : Cond.selects y_Sn_end.cls y_Sn_end y_Sn_end ∈ sn_tbl := sn_tb (n := 975) (by decide +kernel) rfl
set_option maxRecDepth 100000 in
theorem Y_Sn_octet : sn_Y y_Sn_octet c_Sn_octet 5 (some .int) 3 := ⟨sn_tb (n := 988) rfl rfl, sn_tb (n := 1) (by decide +kernel) rfl, by decide +kernel⟩
theorem L_La_66 : Cond.methodLink "SignalNetworkLaw" 66 y_Sn_octet ∈ sn_tbl := sn_tb (n := 985) (by decide +kernel) rfl
set_option maxRecDepth 100000 in
theorem Y_Md_octet : sn_Y y_Md_octet c_Md_octet 4 (some .int) 3 := ⟨sn_tb (n := 1571) rfl rfl, sn_tb (n := 9) (by decide +kernel) rfl, by decide +kernel⟩
theorem L_La_69 : Cond.methodLink "SignalNetworkLaw" 69 y_Md_octet ∈ sn_tbl := sn_tb (n := 1568) (by decide +kernel) rfl
theorem I_Md_octet : Cond.instanceMethod y_Md_octet ∈ sn_tbl := sn_tb (n := 1569) (by decide +kernel) rfl
theorem Se_Md_octet : Cond.selects y_Md_octet.cls y_Md_octet y_Md_octet ∈ sn_tbl := sn_tb (n := 1570) (by decide +kernel) rfl
theorem I_Sn_octet : Cond.instanceMethod y_Sn_octet ∈ sn_tbl := sn_tb (n := 986) (by decide +kernel) rfl
theorem Se_Sn_octet : Cond.selects y_Sn_octet.cls y_Sn_octet y_Sn_octet ∈ sn_tbl := sn_tb (n := 987) (by decide +kernel) rfl
set_option maxRecDepth 100000 in
theorem Y_Sn_bits : sn_Y y_Sn_bits c_Sn_bits 4 (some .int) 2 := ⟨sn_tb (n := 1020) rfl rfl, sn_tb (n := 1) (by decide +kernel) rfl, by decide +kernel⟩
theorem L_La_70 : Cond.methodLink "SignalNetworkLaw" 70 y_Sn_bits ∈ sn_tbl := sn_tb (n := 1017) (by decide +kernel) rfl
set_option maxRecDepth 100000 in
theorem Y_Md_bits : sn_Y y_Md_bits c_Md_bits 9 (some .int) 2 := ⟨sn_tb (n := 1589) rfl rfl, sn_tb (n := 9) (by decide +kernel) rfl, by decide +kernel⟩
theorem L_La_73 : Cond.methodLink "SignalNetworkLaw" 73 y_Md_bits ∈ sn_tbl := sn_tb (n := 1586) (by decide +kernel) rfl
theorem I_Md_bits : Cond.instanceMethod y_Md_bits ∈ sn_tbl := sn_tb (n := 1587) (by decide +kernel) rfl
theorem Se_Md_bits : Cond.selects y_Md_bits.cls y_Md_bits y_Md_bits ∈ sn_tbl := sn_tb (n := 1588) (by decide +kernel) rfl
theorem I_Sn_bits : Cond.instanceMethod y_Sn_bits ∈ sn_tbl := sn_tb (n := 1018) (by decide +kernel) rfl
theorem Se_Sn_bits : Cond.selects y_Sn_bits.cls y_Sn_bits y_Sn_bits ∈ sn_tbl := sn_tb (n := 1019) (by decide +kernel) rfl
set_option maxRecDepth 100000 in
theorem Y_Sn_flow : sn_Y y_Sn_flow c_Sn_flow 6 (some .int) 4 := ⟨sn_tb (n := 1027) rfl rfl, sn_tb (n := 1) (by decide +kernel) rfl, by decide +kernel⟩
theorem L_La_74 : Cond.methodLink "SignalNetworkLaw" 74 y_Sn_flow ∈ sn_tbl := sn_tb (n := 1024) (by decide +kernel) rfl
set_option maxRecDepth 100000 in
theorem Y_Md_flow : sn_Y y_Md_flow c_Md_flow 6 (some .int) 4 := ⟨sn_tb (n := 1593) rfl rfl, sn_tb (n := 9) (by decide +kernel) rfl, by decide +kernel⟩
theorem L_La_78 : Cond.methodLink "SignalNetworkLaw" 78 y_Md_flow ∈ sn_tbl := sn_tb (n := 1590) (by decide +kernel) rfl
theorem I_Md_flow : Cond.instanceMethod y_Md_flow ∈ sn_tbl := sn_tb (n := 1591) (by decide +kernel) rfl
theorem Se_Md_flow : Cond.selects y_Md_flow.cls y_Md_flow y_Md_flow ∈ sn_tbl := sn_tb (n := 1592) (by decide +kernel) rfl
theorem I_Sn_flow : Cond.instanceMethod y_Sn_flow ∈ sn_tbl := sn_tb (n := 1025) (by decide +kernel) rfl
theorem Se_Sn_flow : Cond.selects y_Sn_flow.cls y_Sn_flow y_Sn_flow ∈ sn_tbl := sn_tb (n := 1026) (by decide +kernel) rfl
set_option maxRecDepth 100000 in
theorem Y_Sn_next : sn_Y y_Sn_next c_Sn_next 4 (some .int) 3 := ⟨sn_tb (n := 1036) rfl rfl, sn_tb (n := 1) (by decide +kernel) rfl, by decide +kernel⟩
theorem L_La_79 : Cond.methodLink "SignalNetworkLaw" 79 y_Sn_next ∈ sn_tbl := sn_tb (n := 1033) (by decide +kernel) rfl
set_option maxRecDepth 100000 in
theorem Y_Md_next : sn_Y y_Md_next c_Md_next 6 (some .int) 3 := ⟨sn_tb (n := 1597) rfl rfl, sn_tb (n := 9) (by decide +kernel) rfl, by decide +kernel⟩
theorem L_La_82 : Cond.methodLink "SignalNetworkLaw" 82 y_Md_next ∈ sn_tbl := sn_tb (n := 1594) (by decide +kernel) rfl
theorem I_Md_next : Cond.instanceMethod y_Md_next ∈ sn_tbl := sn_tb (n := 1595) (by decide +kernel) rfl
theorem Se_Md_next : Cond.selects y_Md_next.cls y_Md_next y_Md_next ∈ sn_tbl := sn_tb (n := 1596) (by decide +kernel) rfl
theorem I_Sn_next : Cond.instanceMethod y_Sn_next ∈ sn_tbl := sn_tb (n := 1034) (by decide +kernel) rfl
theorem Se_Sn_next : Cond.selects y_Sn_next.cls y_Sn_next y_Sn_next ∈ sn_tbl := sn_tb (n := 1035) (by decide +kernel) rfl
set_option maxRecDepth 100000 in
theorem Y_Sn_circuit : sn_Y y_Sn_circuit c_Sn_circuit 6 (some .int) 4 := ⟨sn_tb (n := 1045) rfl rfl, sn_tb (n := 1) (by decide +kernel) rfl, by decide +kernel⟩
theorem L_La_83 : Cond.methodLink "SignalNetworkLaw" 83 y_Sn_circuit ∈ sn_tbl := sn_tb (n := 1042) (by decide +kernel) rfl
set_option maxRecDepth 100000 in
theorem Y_Md_circuit : sn_Y y_Md_circuit c_Md_circuit 6 (some .int) 4 := ⟨sn_tb (n := 1601) rfl rfl, sn_tb (n := 9) (by decide +kernel) rfl, by decide +kernel⟩
theorem L_La_86 : Cond.methodLink "SignalNetworkLaw" 86 y_Md_circuit ∈ sn_tbl := sn_tb (n := 1598) (by decide +kernel) rfl
theorem I_Md_circuit : Cond.instanceMethod y_Md_circuit ∈ sn_tbl := sn_tb (n := 1599) (by decide +kernel) rfl
theorem Se_Md_circuit : Cond.selects y_Md_circuit.cls y_Md_circuit y_Md_circuit ∈ sn_tbl := sn_tb (n := 1600) (by decide +kernel) rfl
theorem I_Sn_circuit : Cond.instanceMethod y_Sn_circuit ∈ sn_tbl := sn_tb (n := 1043) (by decide +kernel) rfl
theorem Se_Sn_circuit : Cond.selects y_Sn_circuit.cls y_Sn_circuit y_Sn_circuit ∈ sn_tbl := sn_tb (n := 1044) (by decide +kernel) rfl
set_option maxRecDepth 100000 in
theorem Y_Sn_subscriber : sn_Y y_Sn_subscriber c_Sn_subscriber 4 (some .int) 2 := ⟨sn_tb (n := 1064) rfl rfl, sn_tb (n := 1) (by decide +kernel) rfl, by decide +kernel⟩
theorem L_La_87 : Cond.methodLink "SignalNetworkLaw" 87 y_Sn_subscriber ∈ sn_tbl := sn_tb (n := 1061) (by decide +kernel) rfl
set_option maxRecDepth 100000 in
theorem Y_Md_subscriber : sn_Y y_Md_subscriber c_Md_subscriber 4 (some .int) 2 := ⟨sn_tb (n := 1609) rfl rfl, sn_tb (n := 9) (by decide +kernel) rfl, by decide +kernel⟩
theorem L_La_90 : Cond.methodLink "SignalNetworkLaw" 90 y_Md_subscriber ∈ sn_tbl := sn_tb (n := 1606) (by decide +kernel) rfl
theorem I_Md_subscriber : Cond.instanceMethod y_Md_subscriber ∈ sn_tbl := sn_tb (n := 1607) (by decide +kernel) rfl
theorem Se_Md_subscriber : Cond.selects y_Md_subscriber.cls y_Md_subscriber y_Md_subscriber ∈ sn_tbl := sn_tb (n := 1608) (by decide +kernel) rfl
theorem I_Sn_subscriber : Cond.instanceMethod y_Sn_subscriber ∈ sn_tbl := sn_tb (n := 1062) (by decide +kernel) rfl
theorem Se_Sn_subscriber : Cond.selects y_Sn_subscriber.cls y_Sn_subscriber y_Sn_subscriber ∈ sn_tbl := sn_tb (n := 1063) (by decide +kernel) rfl
set_option maxRecDepth 100000 in
theorem Y_Sn_counted : sn_Y y_Sn_counted c_Sn_counted 2 (some .int) 1 := ⟨sn_tb (n := 1079) rfl rfl, sn_tb (n := 1) (by decide +kernel) rfl, by decide +kernel⟩
theorem L_La_91 : Cond.methodLink "SignalNetworkLaw" 91 y_Sn_counted ∈ sn_tbl := sn_tb (n := 1076) (by decide +kernel) rfl
set_option maxRecDepth 100000 in
theorem Y_Md_counted : sn_Y y_Md_counted c_Md_counted 2 (some .int) 1 := ⟨sn_tb (n := 1617) rfl rfl, sn_tb (n := 9) (by decide +kernel) rfl, by decide +kernel⟩
theorem L_La_94 : Cond.methodLink "SignalNetworkLaw" 94 y_Md_counted ∈ sn_tbl := sn_tb (n := 1614) (by decide +kernel) rfl
theorem I_Md_counted : Cond.instanceMethod y_Md_counted ∈ sn_tbl := sn_tb (n := 1615) (by decide +kernel) rfl
theorem Se_Md_counted : Cond.selects y_Md_counted.cls y_Md_counted y_Md_counted ∈ sn_tbl := sn_tb (n := 1616) (by decide +kernel) rfl
theorem I_Sn_counted : Cond.instanceMethod y_Sn_counted ∈ sn_tbl := sn_tb (n := 1077) (by decide +kernel) rfl
theorem Se_Sn_counted : Cond.selects y_Sn_counted.cls y_Sn_counted y_Sn_counted ∈ sn_tbl := sn_tb (n := 1078) (by decide +kernel) rfl
theorem C_La_7 : Cond.classLink "SignalNetworkLaw" 7 "SignalNetwork" ∈ sn_tbl := sn_tb (n := 15) (by decide +kernel) rfl
theorem In_Sn : Cond.instantiable "SignalNetwork" 5 ∈ sn_tbl := sn_tb (n := 16) (by decide +kernel) rfl
theorem Ii_Sn : Cond.initialized "SignalNetwork" ∈ sn_tbl := sn_tb (n := 1) (by decide +kernel) rfl
set_option maxRecDepth 100000 in
theorem Y_Sn_init : sn_Y y_Sn_init c_Sn_init 1 none 0 := ⟨sn_tb (n := 19) rfl rfl, sn_tb (n := 1) (by decide +kernel) rfl, by decide +kernel⟩
theorem C_La_10 : Cond.classLink "SignalNetworkLaw" 10 "SignalNetworkModel" ∈ sn_tbl := sn_tb (n := 1080) (by decide +kernel) rfl
theorem In_Md : Cond.instantiable "SignalNetworkModel" 64 ∈ sn_tbl := sn_tb (n := 1081) (by decide +kernel) rfl
theorem Ii_Md : Cond.initialized "SignalNetworkModel" ∈ sn_tbl := sn_tb (n := 9) (by decide +kernel) rfl
set_option maxRecDepth 100000 in
theorem Y_Md_init : sn_Y y_Md_init c_Md_init 2 none 0 := ⟨sn_tb (n := 1084) rfl rfl, sn_tb (n := 9) (by decide +kernel) rfl, by decide +kernel⟩
theorem L_La_12 : Cond.methodLink "SignalNetworkLaw" 12 y_Md_init ∈ sn_tbl := sn_tb (n := 1082) (by decide +kernel) rfl
theorem I_Md_init : Cond.instanceMethod y_Md_init ∈ sn_tbl := sn_tb (n := 1083) (by decide +kernel) rfl
theorem L_La_9 : Cond.methodLink "SignalNetworkLaw" 9 y_Sn_init ∈ sn_tbl := sn_tb (n := 17) (by decide +kernel) rfl
theorem I_Sn_init : Cond.instanceMethod y_Sn_init ∈ sn_tbl := sn_tb (n := 18) (by decide +kernel) rfl
theorem d_La_law_0 : decode c_La_law 0 = .ok (.new 7, 3) := by decide +kernel
theorem d_La_law_3 : decode c_La_law 3 = .ok (.dup, 1) := by decide +kernel
theorem d_La_law_4 : decode c_La_law 4 = .ok (.invokespecial 9, 3) := by decide +kernel
theorem d_La_law_7 : decode c_La_law 7 = .ok (.astore_n 1, 1) := by decide +kernel
theorem d_La_law_8 : decode c_La_law 8 = .ok (.new 10, 3) := by decide +kernel
theorem d_La_law_11 : decode c_La_law 11 = .ok (.dup, 1) := by decide +kernel
theorem d_La_law_12 : decode c_La_law 12 = .ok (.invokespecial 12, 3) := by decide +kernel
theorem d_La_law_15 : decode c_La_law 15 = .ok (.astore_n 2, 1) := by decide +kernel
theorem d_La_law_16 : decode c_La_law 16 = .ok (.iconst 0, 1) := by decide +kernel
theorem d_La_law_17 : decode c_La_law 17 = .ok (.istore_n 3, 1) := by decide +kernel
theorem d_La_law_18 : decode c_La_law 18 = .ok (.iload_n 3, 1) := by decide +kernel
theorem d_La_law_19 : decode c_La_law 19 = .ok (.aload_n 0, 1) := by decide +kernel
theorem d_La_law_20 : decode c_La_law 20 = .ok (.arraylength, 1) := by decide +kernel
theorem d_La_law_21 : decode c_La_law 21 = .ok (.iconst 5, 1) := by decide +kernel
theorem d_La_law_22 : decode c_La_law 22 = .ok (.isub, 1) := by decide +kernel
theorem d_La_law_23 : decode c_La_law 23 = .ok (.if_icmp .gt 825, 3) := by decide +kernel
theorem d_La_law_26 : decode c_La_law 26 = .ok (.aload_n 0, 1) := by decide +kernel
theorem d_La_law_27 : decode c_La_law 27 = .ok (.iload_n 3, 1) := by decide +kernel
theorem d_La_law_28 : decode c_La_law 28 = .ok (.iaload, 1) := by decide +kernel
theorem d_La_law_29 : decode c_La_law 29 = .ok (.bipush 31, 2) := by decide +kernel
theorem d_La_law_31 : decode c_La_law 31 = .ok (.iand, 1) := by decide +kernel
theorem d_La_law_32 : decode c_La_law 32 = .ok (.tableswitch 810 0 17 #[88, 121, 174, 223, 272, 315, 338, 371, 394, 417, 486, 529, 572, 605, 658, 701, 754, 787], 88) := by decide +kernel
theorem d_La_law_120 : decode c_La_law 120 = .ok (.aload_n 1, 1) := by decide +kernel
theorem d_La_law_121 : decode c_La_law 121 = .ok (.aload_n 0, 1) := by decide +kernel
theorem d_La_law_122 : decode c_La_law 122 = .ok (.iload_n 3, 1) := by decide +kernel
theorem d_La_law_123 : decode c_La_law 123 = .ok (.iconst 1, 1) := by decide +kernel
theorem d_La_law_124 : decode c_La_law 124 = .ok (.iadd, 1) := by decide +kernel
theorem d_La_law_125 : decode c_La_law 125 = .ok (.iaload, 1) := by decide +kernel
theorem d_La_law_126 : decode c_La_law 126 = .ok (.aload_n 0, 1) := by decide +kernel
theorem d_La_law_127 : decode c_La_law 127 = .ok (.iload_n 3, 1) := by decide +kernel
theorem d_La_law_128 : decode c_La_law 128 = .ok (.iconst 2, 1) := by decide +kernel
theorem d_La_law_129 : decode c_La_law 129 = .ok (.iadd, 1) := by decide +kernel
theorem d_La_law_130 : decode c_La_law 130 = .ok (.iaload, 1) := by decide +kernel
theorem d_La_law_131 : decode c_La_law 131 = .ok (.invokevirtual 13, 3) := by decide +kernel
theorem d_La_law_134 : decode c_La_law 134 = .ok (.aload_n 2, 1) := by decide +kernel
theorem d_La_law_135 : decode c_La_law 135 = .ok (.aload_n 0, 1) := by decide +kernel
theorem d_La_law_136 : decode c_La_law 136 = .ok (.iload_n 3, 1) := by decide +kernel
theorem d_La_law_137 : decode c_La_law 137 = .ok (.iconst 1, 1) := by decide +kernel
theorem d_La_law_138 : decode c_La_law 138 = .ok (.iadd, 1) := by decide +kernel
theorem d_La_law_139 : decode c_La_law 139 = .ok (.iaload, 1) := by decide +kernel
theorem d_La_law_140 : decode c_La_law 140 = .ok (.aload_n 0, 1) := by decide +kernel
theorem d_La_law_141 : decode c_La_law 141 = .ok (.iload_n 3, 1) := by decide +kernel
theorem d_La_law_142 : decode c_La_law 142 = .ok (.iconst 2, 1) := by decide +kernel
theorem d_La_law_143 : decode c_La_law 143 = .ok (.iadd, 1) := by decide +kernel
theorem d_La_law_144 : decode c_La_law 144 = .ok (.iaload, 1) := by decide +kernel
theorem d_La_law_145 : decode c_La_law 145 = .ok (.invokevirtual 17, 3) := by decide +kernel
theorem d_La_law_148 : decode c_La_law 148 = .ok (.if_icmp .eq 694, 3) := by decide +kernel
theorem d_La_law_151 : decode c_La_law 151 = .ok (.iconst 0, 1) := by decide +kernel
theorem d_La_law_152 : decode c_La_law 152 = .ok (.ireturn, 1) := by decide +kernel
theorem d_La_law_153 : decode c_La_law 153 = .ok (.aload_n 1, 1) := by decide +kernel
theorem d_La_law_154 : decode c_La_law 154 = .ok (.aload_n 0, 1) := by decide +kernel
theorem d_La_law_155 : decode c_La_law 155 = .ok (.iload_n 3, 1) := by decide +kernel
theorem d_La_law_156 : decode c_La_law 156 = .ok (.iconst 1, 1) := by decide +kernel
theorem d_La_law_157 : decode c_La_law 157 = .ok (.iadd, 1) := by decide +kernel
theorem d_La_law_158 : decode c_La_law 158 = .ok (.iaload, 1) := by decide +kernel
theorem d_La_law_159 : decode c_La_law 159 = .ok (.aload_n 0, 1) := by decide +kernel
theorem d_La_law_160 : decode c_La_law 160 = .ok (.iload_n 3, 1) := by decide +kernel
theorem d_La_law_161 : decode c_La_law 161 = .ok (.iconst 2, 1) := by decide +kernel
theorem d_La_law_162 : decode c_La_law 162 = .ok (.iadd, 1) := by decide +kernel
theorem d_La_law_163 : decode c_La_law 163 = .ok (.iaload, 1) := by decide +kernel
theorem d_La_law_164 : decode c_La_law 164 = .ok (.aload_n 0, 1) := by decide +kernel
theorem d_La_law_165 : decode c_La_law 165 = .ok (.iload_n 3, 1) := by decide +kernel
theorem d_La_law_166 : decode c_La_law 166 = .ok (.iconst 3, 1) := by decide +kernel
theorem d_La_law_167 : decode c_La_law 167 = .ok (.iadd, 1) := by decide +kernel
theorem d_La_law_168 : decode c_La_law 168 = .ok (.iaload, 1) := by decide +kernel
theorem d_La_law_169 : decode c_La_law 169 = .ok (.aload_n 0, 1) := by decide +kernel
theorem d_La_law_170 : decode c_La_law 170 = .ok (.iload_n 3, 1) := by decide +kernel
theorem d_La_law_171 : decode c_La_law 171 = .ok (.iconst 4, 1) := by decide +kernel
theorem d_La_law_172 : decode c_La_law 172 = .ok (.iadd, 1) := by decide +kernel
theorem d_La_law_173 : decode c_La_law 173 = .ok (.iaload, 1) := by decide +kernel
theorem d_La_law_174 : decode c_La_law 174 = .ok (.invokevirtual 18, 3) := by decide +kernel
theorem d_La_law_177 : decode c_La_law 177 = .ok (.aload_n 2, 1) := by decide +kernel
theorem d_La_law_178 : decode c_La_law 178 = .ok (.aload_n 0, 1) := by decide +kernel
theorem d_La_law_179 : decode c_La_law 179 = .ok (.iload_n 3, 1) := by decide +kernel
theorem d_La_law_180 : decode c_La_law 180 = .ok (.iconst 1, 1) := by decide +kernel
theorem d_La_law_181 : decode c_La_law 181 = .ok (.iadd, 1) := by decide +kernel
theorem d_La_law_182 : decode c_La_law 182 = .ok (.iaload, 1) := by decide +kernel
theorem d_La_law_183 : decode c_La_law 183 = .ok (.aload_n 0, 1) := by decide +kernel
theorem d_La_law_184 : decode c_La_law 184 = .ok (.iload_n 3, 1) := by decide +kernel
theorem d_La_law_185 : decode c_La_law 185 = .ok (.iconst 2, 1) := by decide +kernel
theorem d_La_law_186 : decode c_La_law 186 = .ok (.iadd, 1) := by decide +kernel
theorem d_La_law_187 : decode c_La_law 187 = .ok (.iaload, 1) := by decide +kernel
theorem d_La_law_188 : decode c_La_law 188 = .ok (.aload_n 0, 1) := by decide +kernel
theorem d_La_law_189 : decode c_La_law 189 = .ok (.iload_n 3, 1) := by decide +kernel
theorem d_La_law_190 : decode c_La_law 190 = .ok (.iconst 3, 1) := by decide +kernel
theorem d_La_law_191 : decode c_La_law 191 = .ok (.iadd, 1) := by decide +kernel
theorem d_La_law_192 : decode c_La_law 192 = .ok (.iaload, 1) := by decide +kernel
theorem d_La_law_193 : decode c_La_law 193 = .ok (.aload_n 0, 1) := by decide +kernel
theorem d_La_law_194 : decode c_La_law 194 = .ok (.iload_n 3, 1) := by decide +kernel
theorem d_La_law_195 : decode c_La_law 195 = .ok (.iconst 4, 1) := by decide +kernel
theorem d_La_law_196 : decode c_La_law 196 = .ok (.iadd, 1) := by decide +kernel
theorem d_La_law_197 : decode c_La_law 197 = .ok (.iaload, 1) := by decide +kernel
theorem d_La_law_198 : decode c_La_law 198 = .ok (.invokevirtual 22, 3) := by decide +kernel
theorem d_La_law_201 : decode c_La_law 201 = .ok (.if_icmp .eq 641, 3) := by decide +kernel
theorem d_La_law_204 : decode c_La_law 204 = .ok (.iconst 0, 1) := by decide +kernel
theorem d_La_law_205 : decode c_La_law 205 = .ok (.ireturn, 1) := by decide +kernel
theorem d_La_law_206 : decode c_La_law 206 = .ok (.aload_n 1, 1) := by decide +kernel
theorem d_La_law_207 : decode c_La_law 207 = .ok (.aload_n 0, 1) := by decide +kernel
theorem d_La_law_208 : decode c_La_law 208 = .ok (.iload_n 3, 1) := by decide +kernel
theorem d_La_law_209 : decode c_La_law 209 = .ok (.iconst 1, 1) := by decide +kernel
theorem d_La_law_210 : decode c_La_law 210 = .ok (.iadd, 1) := by decide +kernel
theorem d_La_law_211 : decode c_La_law 211 = .ok (.iaload, 1) := by decide +kernel
theorem d_La_law_212 : decode c_La_law 212 = .ok (.aload_n 0, 1) := by decide +kernel
theorem d_La_law_213 : decode c_La_law 213 = .ok (.iload_n 3, 1) := by decide +kernel
theorem d_La_law_214 : decode c_La_law 214 = .ok (.iconst 2, 1) := by decide +kernel
theorem d_La_law_215 : decode c_La_law 215 = .ok (.iadd, 1) := by decide +kernel
theorem d_La_law_216 : decode c_La_law 216 = .ok (.iaload, 1) := by decide +kernel
theorem d_La_law_217 : decode c_La_law 217 = .ok (.ifCond .eq 7, 3) := by decide +kernel
theorem d_La_law_220 : decode c_La_law 220 = .ok (.iconst 1, 1) := by decide +kernel
theorem d_La_law_221 : decode c_La_law 221 = .ok (.goto 4, 3) := by decide +kernel
theorem d_La_law_224 : decode c_La_law 224 = .ok (.iconst 0, 1) := by decide +kernel
theorem d_La_law_225 : decode c_La_law 225 = .ok (.invokevirtual 23, 3) := by decide +kernel
theorem d_La_law_228 : decode c_La_law 228 = .ok (.aload_n 2, 1) := by decide +kernel
theorem d_La_law_229 : decode c_La_law 229 = .ok (.aload_n 0, 1) := by decide +kernel
theorem d_La_law_230 : decode c_La_law 230 = .ok (.iload_n 3, 1) := by decide +kernel
theorem d_La_law_231 : decode c_La_law 231 = .ok (.iconst 1, 1) := by decide +kernel
theorem d_La_law_232 : decode c_La_law 232 = .ok (.iadd, 1) := by decide +kernel
theorem d_La_law_233 : decode c_La_law 233 = .ok (.iaload, 1) := by decide +kernel
theorem d_La_law_234 : decode c_La_law 234 = .ok (.aload_n 0, 1) := by decide +kernel
theorem d_La_law_235 : decode c_La_law 235 = .ok (.iload_n 3, 1) := by decide +kernel
theorem d_La_law_236 : decode c_La_law 236 = .ok (.iconst 2, 1) := by decide +kernel
theorem d_La_law_237 : decode c_La_law 237 = .ok (.iadd, 1) := by decide +kernel
theorem d_La_law_238 : decode c_La_law 238 = .ok (.iaload, 1) := by decide +kernel
theorem d_La_law_239 : decode c_La_law 239 = .ok (.ifCond .eq 7, 3) := by decide +kernel
theorem d_La_law_242 : decode c_La_law 242 = .ok (.iconst 1, 1) := by decide +kernel
theorem d_La_law_243 : decode c_La_law 243 = .ok (.goto 4, 3) := by decide +kernel
theorem d_La_law_246 : decode c_La_law 246 = .ok (.iconst 0, 1) := by decide +kernel
theorem d_La_law_247 : decode c_La_law 247 = .ok (.invokevirtual 27, 3) := by decide +kernel
theorem d_La_law_250 : decode c_La_law 250 = .ok (.if_icmp .eq 592, 3) := by decide +kernel
theorem d_La_law_253 : decode c_La_law 253 = .ok (.iconst 0, 1) := by decide +kernel
theorem d_La_law_254 : decode c_La_law 254 = .ok (.ireturn, 1) := by decide +kernel
theorem d_La_law_255 : decode c_La_law 255 = .ok (.aload_n 1, 1) := by decide +kernel
theorem d_La_law_256 : decode c_La_law 256 = .ok (.aload_n 0, 1) := by decide +kernel
theorem d_La_law_257 : decode c_La_law 257 = .ok (.iload_n 3, 1) := by decide +kernel
theorem d_La_law_258 : decode c_La_law 258 = .ok (.iconst 1, 1) := by decide +kernel
theorem d_La_law_259 : decode c_La_law 259 = .ok (.iadd, 1) := by decide +kernel
theorem d_La_law_260 : decode c_La_law 260 = .ok (.iaload, 1) := by decide +kernel
theorem d_La_law_261 : decode c_La_law 261 = .ok (.aload_n 0, 1) := by decide +kernel
theorem d_La_law_262 : decode c_La_law 262 = .ok (.iload_n 3, 1) := by decide +kernel
theorem d_La_law_263 : decode c_La_law 263 = .ok (.iconst 2, 1) := by decide +kernel
theorem d_La_law_264 : decode c_La_law 264 = .ok (.iadd, 1) := by decide +kernel
theorem d_La_law_265 : decode c_La_law 265 = .ok (.iaload, 1) := by decide +kernel
theorem d_La_law_266 : decode c_La_law 266 = .ok (.ifCond .eq 7, 3) := by decide +kernel
theorem d_La_law_269 : decode c_La_law 269 = .ok (.iconst 1, 1) := by decide +kernel
theorem d_La_law_270 : decode c_La_law 270 = .ok (.goto 4, 3) := by decide +kernel
theorem d_La_law_273 : decode c_La_law 273 = .ok (.iconst 0, 1) := by decide +kernel
theorem d_La_law_274 : decode c_La_law 274 = .ok (.invokevirtual 28, 3) := by decide +kernel
theorem d_La_law_277 : decode c_La_law 277 = .ok (.aload_n 2, 1) := by decide +kernel
theorem d_La_law_278 : decode c_La_law 278 = .ok (.aload_n 0, 1) := by decide +kernel
theorem d_La_law_279 : decode c_La_law 279 = .ok (.iload_n 3, 1) := by decide +kernel
theorem d_La_law_280 : decode c_La_law 280 = .ok (.iconst 1, 1) := by decide +kernel
theorem d_La_law_281 : decode c_La_law 281 = .ok (.iadd, 1) := by decide +kernel
theorem d_La_law_282 : decode c_La_law 282 = .ok (.iaload, 1) := by decide +kernel
theorem d_La_law_283 : decode c_La_law 283 = .ok (.aload_n 0, 1) := by decide +kernel
theorem d_La_law_284 : decode c_La_law 284 = .ok (.iload_n 3, 1) := by decide +kernel
theorem d_La_law_285 : decode c_La_law 285 = .ok (.iconst 2, 1) := by decide +kernel
theorem d_La_law_286 : decode c_La_law 286 = .ok (.iadd, 1) := by decide +kernel
theorem d_La_law_287 : decode c_La_law 287 = .ok (.iaload, 1) := by decide +kernel
theorem d_La_law_288 : decode c_La_law 288 = .ok (.ifCond .eq 7, 3) := by decide +kernel
theorem d_La_law_291 : decode c_La_law 291 = .ok (.iconst 1, 1) := by decide +kernel
theorem d_La_law_292 : decode c_La_law 292 = .ok (.goto 4, 3) := by decide +kernel
theorem d_La_law_295 : decode c_La_law 295 = .ok (.iconst 0, 1) := by decide +kernel
theorem d_La_law_296 : decode c_La_law 296 = .ok (.invokevirtual 31, 3) := by decide +kernel
theorem d_La_law_299 : decode c_La_law 299 = .ok (.if_icmp .eq 543, 3) := by decide +kernel
theorem d_La_law_302 : decode c_La_law 302 = .ok (.iconst 0, 1) := by decide +kernel
theorem d_La_law_303 : decode c_La_law 303 = .ok (.ireturn, 1) := by decide +kernel
theorem d_La_law_304 : decode c_La_law 304 = .ok (.aload_n 1, 1) := by decide +kernel
theorem d_La_law_305 : decode c_La_law 305 = .ok (.aload_n 0, 1) := by decide +kernel
theorem d_La_law_306 : decode c_La_law 306 = .ok (.iload_n 3, 1) := by decide +kernel
theorem d_La_law_307 : decode c_La_law 307 = .ok (.iconst 1, 1) := by decide +kernel
theorem d_La_law_308 : decode c_La_law 308 = .ok (.iadd, 1) := by decide +kernel
theorem d_La_law_309 : decode c_La_law 309 = .ok (.iaload, 1) := by decide +kernel
theorem d_La_law_310 : decode c_La_law 310 = .ok (.aload_n 0, 1) := by decide +kernel
theorem d_La_law_311 : decode c_La_law 311 = .ok (.iload_n 3, 1) := by decide +kernel
theorem d_La_law_312 : decode c_La_law 312 = .ok (.iconst 2, 1) := by decide +kernel
theorem d_La_law_313 : decode c_La_law 313 = .ok (.iadd, 1) := by decide +kernel
theorem d_La_law_314 : decode c_La_law 314 = .ok (.iaload, 1) := by decide +kernel
theorem d_La_law_315 : decode c_La_law 315 = .ok (.aload_n 0, 1) := by decide +kernel
theorem d_La_law_316 : decode c_La_law 316 = .ok (.iload_n 3, 1) := by decide +kernel
theorem d_La_law_317 : decode c_La_law 317 = .ok (.iconst 3, 1) := by decide +kernel
theorem d_La_law_318 : decode c_La_law 318 = .ok (.iadd, 1) := by decide +kernel
theorem d_La_law_319 : decode c_La_law 319 = .ok (.iaload, 1) := by decide +kernel
theorem d_La_law_320 : decode c_La_law 320 = .ok (.invokevirtual 32, 3) := by decide +kernel
theorem d_La_law_323 : decode c_La_law 323 = .ok (.aload_n 2, 1) := by decide +kernel
theorem d_La_law_324 : decode c_La_law 324 = .ok (.aload_n 0, 1) := by decide +kernel
theorem d_La_law_325 : decode c_La_law 325 = .ok (.iload_n 3, 1) := by decide +kernel
theorem d_La_law_326 : decode c_La_law 326 = .ok (.iconst 1, 1) := by decide +kernel
theorem d_La_law_327 : decode c_La_law 327 = .ok (.iadd, 1) := by decide +kernel
theorem d_La_law_328 : decode c_La_law 328 = .ok (.iaload, 1) := by decide +kernel
theorem d_La_law_329 : decode c_La_law 329 = .ok (.aload_n 0, 1) := by decide +kernel
theorem d_La_law_330 : decode c_La_law 330 = .ok (.iload_n 3, 1) := by decide +kernel
theorem d_La_law_331 : decode c_La_law 331 = .ok (.iconst 2, 1) := by decide +kernel
theorem d_La_law_332 : decode c_La_law 332 = .ok (.iadd, 1) := by decide +kernel
theorem d_La_law_333 : decode c_La_law 333 = .ok (.iaload, 1) := by decide +kernel
theorem d_La_law_334 : decode c_La_law 334 = .ok (.aload_n 0, 1) := by decide +kernel
theorem d_La_law_335 : decode c_La_law 335 = .ok (.iload_n 3, 1) := by decide +kernel
theorem d_La_law_336 : decode c_La_law 336 = .ok (.iconst 3, 1) := by decide +kernel
theorem d_La_law_337 : decode c_La_law 337 = .ok (.iadd, 1) := by decide +kernel
theorem d_La_law_338 : decode c_La_law 338 = .ok (.iaload, 1) := by decide +kernel
theorem d_La_law_339 : decode c_La_law 339 = .ok (.invokevirtual 36, 3) := by decide +kernel
theorem d_La_law_342 : decode c_La_law 342 = .ok (.if_icmp .eq 500, 3) := by decide +kernel
theorem d_La_law_345 : decode c_La_law 345 = .ok (.iconst 0, 1) := by decide +kernel
theorem d_La_law_346 : decode c_La_law 346 = .ok (.ireturn, 1) := by decide +kernel
theorem d_La_law_347 : decode c_La_law 347 = .ok (.aload_n 1, 1) := by decide +kernel
theorem d_La_law_348 : decode c_La_law 348 = .ok (.aload_n 0, 1) := by decide +kernel
theorem d_La_law_349 : decode c_La_law 349 = .ok (.iload_n 3, 1) := by decide +kernel
theorem d_La_law_350 : decode c_La_law 350 = .ok (.iconst 1, 1) := by decide +kernel
theorem d_La_law_351 : decode c_La_law 351 = .ok (.iadd, 1) := by decide +kernel
theorem d_La_law_352 : decode c_La_law 352 = .ok (.iaload, 1) := by decide +kernel
theorem d_La_law_353 : decode c_La_law 353 = .ok (.invokevirtual 37, 3) := by decide +kernel
theorem d_La_law_356 : decode c_La_law 356 = .ok (.aload_n 2, 1) := by decide +kernel
theorem d_La_law_357 : decode c_La_law 357 = .ok (.aload_n 0, 1) := by decide +kernel
theorem d_La_law_358 : decode c_La_law 358 = .ok (.iload_n 3, 1) := by decide +kernel
theorem d_La_law_359 : decode c_La_law 359 = .ok (.iconst 1, 1) := by decide +kernel
theorem d_La_law_360 : decode c_La_law 360 = .ok (.iadd, 1) := by decide +kernel
theorem d_La_law_361 : decode c_La_law 361 = .ok (.iaload, 1) := by decide +kernel
theorem d_La_law_362 : decode c_La_law 362 = .ok (.invokevirtual 41, 3) := by decide +kernel
theorem d_La_law_365 : decode c_La_law 365 = .ok (.if_icmp .eq 477, 3) := by decide +kernel
theorem d_La_law_368 : decode c_La_law 368 = .ok (.iconst 0, 1) := by decide +kernel
theorem d_La_law_369 : decode c_La_law 369 = .ok (.ireturn, 1) := by decide +kernel
theorem d_La_law_370 : decode c_La_law 370 = .ok (.aload_n 1, 1) := by decide +kernel
theorem d_La_law_371 : decode c_La_law 371 = .ok (.aload_n 0, 1) := by decide +kernel
theorem d_La_law_372 : decode c_La_law 372 = .ok (.iload_n 3, 1) := by decide +kernel
theorem d_La_law_373 : decode c_La_law 373 = .ok (.iconst 1, 1) := by decide +kernel
theorem d_La_law_374 : decode c_La_law 374 = .ok (.iadd, 1) := by decide +kernel
theorem d_La_law_375 : decode c_La_law 375 = .ok (.iaload, 1) := by decide +kernel
theorem d_La_law_376 : decode c_La_law 376 = .ok (.aload_n 0, 1) := by decide +kernel
theorem d_La_law_377 : decode c_La_law 377 = .ok (.iload_n 3, 1) := by decide +kernel
theorem d_La_law_378 : decode c_La_law 378 = .ok (.iconst 2, 1) := by decide +kernel
theorem d_La_law_379 : decode c_La_law 379 = .ok (.iadd, 1) := by decide +kernel
theorem d_La_law_380 : decode c_La_law 380 = .ok (.iaload, 1) := by decide +kernel
theorem d_La_law_381 : decode c_La_law 381 = .ok (.invokevirtual 42, 3) := by decide +kernel
theorem d_La_law_384 : decode c_La_law 384 = .ok (.aload_n 2, 1) := by decide +kernel
theorem d_La_law_385 : decode c_La_law 385 = .ok (.aload_n 0, 1) := by decide +kernel
theorem d_La_law_386 : decode c_La_law 386 = .ok (.iload_n 3, 1) := by decide +kernel
theorem d_La_law_387 : decode c_La_law 387 = .ok (.iconst 1, 1) := by decide +kernel
theorem d_La_law_388 : decode c_La_law 388 = .ok (.iadd, 1) := by decide +kernel
theorem d_La_law_389 : decode c_La_law 389 = .ok (.iaload, 1) := by decide +kernel
theorem d_La_law_390 : decode c_La_law 390 = .ok (.aload_n 0, 1) := by decide +kernel
theorem d_La_law_391 : decode c_La_law 391 = .ok (.iload_n 3, 1) := by decide +kernel
theorem d_La_law_392 : decode c_La_law 392 = .ok (.iconst 2, 1) := by decide +kernel
theorem d_La_law_393 : decode c_La_law 393 = .ok (.iadd, 1) := by decide +kernel
theorem d_La_law_394 : decode c_La_law 394 = .ok (.iaload, 1) := by decide +kernel
theorem d_La_law_395 : decode c_La_law 395 = .ok (.invokevirtual 46, 3) := by decide +kernel
theorem d_La_law_398 : decode c_La_law 398 = .ok (.if_icmp .eq 444, 3) := by decide +kernel
theorem d_La_law_401 : decode c_La_law 401 = .ok (.iconst 0, 1) := by decide +kernel
theorem d_La_law_402 : decode c_La_law 402 = .ok (.ireturn, 1) := by decide +kernel
theorem d_La_law_403 : decode c_La_law 403 = .ok (.aload_n 1, 1) := by decide +kernel
theorem d_La_law_404 : decode c_La_law 404 = .ok (.aload_n 0, 1) := by decide +kernel
theorem d_La_law_405 : decode c_La_law 405 = .ok (.iload_n 3, 1) := by decide +kernel
theorem d_La_law_406 : decode c_La_law 406 = .ok (.iconst 1, 1) := by decide +kernel
theorem d_La_law_407 : decode c_La_law 407 = .ok (.iadd, 1) := by decide +kernel
theorem d_La_law_408 : decode c_La_law 408 = .ok (.iaload, 1) := by decide +kernel
theorem d_La_law_409 : decode c_La_law 409 = .ok (.invokevirtual 47, 3) := by decide +kernel
theorem d_La_law_412 : decode c_La_law 412 = .ok (.aload_n 2, 1) := by decide +kernel
theorem d_La_law_413 : decode c_La_law 413 = .ok (.aload_n 0, 1) := by decide +kernel
theorem d_La_law_414 : decode c_La_law 414 = .ok (.iload_n 3, 1) := by decide +kernel
theorem d_La_law_415 : decode c_La_law 415 = .ok (.iconst 1, 1) := by decide +kernel
theorem d_La_law_416 : decode c_La_law 416 = .ok (.iadd, 1) := by decide +kernel
theorem d_La_law_417 : decode c_La_law 417 = .ok (.iaload, 1) := by decide +kernel
theorem d_La_law_418 : decode c_La_law 418 = .ok (.invokevirtual 51, 3) := by decide +kernel
theorem d_La_law_421 : decode c_La_law 421 = .ok (.if_icmp .eq 421, 3) := by decide +kernel
theorem d_La_law_424 : decode c_La_law 424 = .ok (.iconst 0, 1) := by decide +kernel
theorem d_La_law_425 : decode c_La_law 425 = .ok (.ireturn, 1) := by decide +kernel
theorem d_La_law_426 : decode c_La_law 426 = .ok (.aload_n 1, 1) := by decide +kernel
theorem d_La_law_427 : decode c_La_law 427 = .ok (.aload_n 0, 1) := by decide +kernel
theorem d_La_law_428 : decode c_La_law 428 = .ok (.iload_n 3, 1) := by decide +kernel
theorem d_La_law_429 : decode c_La_law 429 = .ok (.iconst 1, 1) := by decide +kernel
theorem d_La_law_430 : decode c_La_law 430 = .ok (.iadd, 1) := by decide +kernel
theorem d_La_law_431 : decode c_La_law 431 = .ok (.iaload, 1) := by decide +kernel
theorem d_La_law_432 : decode c_La_law 432 = .ok (.invokevirtual 52, 3) := by decide +kernel
theorem d_La_law_435 : decode c_La_law 435 = .ok (.aload_n 2, 1) := by decide +kernel
theorem d_La_law_436 : decode c_La_law 436 = .ok (.aload_n 0, 1) := by decide +kernel
theorem d_La_law_437 : decode c_La_law 437 = .ok (.iload_n 3, 1) := by decide +kernel
theorem d_La_law_438 : decode c_La_law 438 = .ok (.iconst 1, 1) := by decide +kernel
theorem d_La_law_439 : decode c_La_law 439 = .ok (.iadd, 1) := by decide +kernel
theorem d_La_law_440 : decode c_La_law 440 = .ok (.iaload, 1) := by decide +kernel
theorem d_La_law_441 : decode c_La_law 441 = .ok (.invokevirtual 55, 3) := by decide +kernel
theorem d_La_law_444 : decode c_La_law 444 = .ok (.if_icmp .eq 398, 3) := by decide +kernel
theorem d_La_law_447 : decode c_La_law 447 = .ok (.iconst 0, 1) := by decide +kernel
theorem d_La_law_448 : decode c_La_law 448 = .ok (.ireturn, 1) := by decide +kernel
theorem d_La_law_449 : decode c_La_law 449 = .ok (.aload_n 1, 1) := by decide +kernel
theorem d_La_law_450 : decode c_La_law 450 = .ok (.aload_n 0, 1) := by decide +kernel
theorem d_La_law_451 : decode c_La_law 451 = .ok (.iload_n 3, 1) := by decide +kernel
theorem d_La_law_452 : decode c_La_law 452 = .ok (.iconst 1, 1) := by decide +kernel
theorem d_La_law_453 : decode c_La_law 453 = .ok (.iadd, 1) := by decide +kernel
theorem d_La_law_454 : decode c_La_law 454 = .ok (.iaload, 1) := by decide +kernel
theorem d_La_law_455 : decode c_La_law 455 = .ok (.aload_n 0, 1) := by decide +kernel
theorem d_La_law_456 : decode c_La_law 456 = .ok (.iload_n 3, 1) := by decide +kernel
theorem d_La_law_457 : decode c_La_law 457 = .ok (.iconst 2, 1) := by decide +kernel
theorem d_La_law_458 : decode c_La_law 458 = .ok (.iadd, 1) := by decide +kernel
theorem d_La_law_459 : decode c_La_law 459 = .ok (.iaload, 1) := by decide +kernel
theorem d_La_law_460 : decode c_La_law 460 = .ok (.aload_n 0, 1) := by decide +kernel
theorem d_La_law_461 : decode c_La_law 461 = .ok (.iload_n 3, 1) := by decide +kernel
theorem d_La_law_462 : decode c_La_law 462 = .ok (.iconst 3, 1) := by decide +kernel
theorem d_La_law_463 : decode c_La_law 463 = .ok (.iadd, 1) := by decide +kernel
theorem d_La_law_464 : decode c_La_law 464 = .ok (.iaload, 1) := by decide +kernel
theorem d_La_law_465 : decode c_La_law 465 = .ok (.aload_n 0, 1) := by decide +kernel
theorem d_La_law_466 : decode c_La_law 466 = .ok (.iload_n 3, 1) := by decide +kernel
theorem d_La_law_467 : decode c_La_law 467 = .ok (.iconst 4, 1) := by decide +kernel
theorem d_La_law_468 : decode c_La_law 468 = .ok (.iadd, 1) := by decide +kernel
theorem d_La_law_469 : decode c_La_law 469 = .ok (.iaload, 1) := by decide +kernel
theorem d_La_law_470 : decode c_La_law 470 = .ok (.ifCond .eq 7, 3) := by decide +kernel
theorem d_La_law_473 : decode c_La_law 473 = .ok (.iconst 1, 1) := by decide +kernel
theorem d_La_law_474 : decode c_La_law 474 = .ok (.goto 4, 3) := by decide +kernel
theorem d_La_law_477 : decode c_La_law 477 = .ok (.iconst 0, 1) := by decide +kernel
theorem d_La_law_478 : decode c_La_law 478 = .ok (.invokevirtual 56, 3) := by decide +kernel
theorem d_La_law_481 : decode c_La_law 481 = .ok (.aload_n 2, 1) := by decide +kernel
theorem d_La_law_482 : decode c_La_law 482 = .ok (.aload_n 0, 1) := by decide +kernel
theorem d_La_law_483 : decode c_La_law 483 = .ok (.iload_n 3, 1) := by decide +kernel
theorem d_La_law_484 : decode c_La_law 484 = .ok (.iconst 1, 1) := by decide +kernel
theorem d_La_law_485 : decode c_La_law 485 = .ok (.iadd, 1) := by decide +kernel
theorem d_La_law_486 : decode c_La_law 486 = .ok (.iaload, 1) := by decide +kernel
theorem d_La_law_487 : decode c_La_law 487 = .ok (.aload_n 0, 1) := by decide +kernel
theorem d_La_law_488 : decode c_La_law 488 = .ok (.iload_n 3, 1) := by decide +kernel
theorem d_La_law_489 : decode c_La_law 489 = .ok (.iconst 2, 1) := by decide +kernel
theorem d_La_law_490 : decode c_La_law 490 = .ok (.iadd, 1) := by decide +kernel
theorem d_La_law_491 : decode c_La_law 491 = .ok (.iaload, 1) := by decide +kernel
theorem d_La_law_492 : decode c_La_law 492 = .ok (.aload_n 0, 1) := by decide +kernel
theorem d_La_law_493 : decode c_La_law 493 = .ok (.iload_n 3, 1) := by decide +kernel
theorem d_La_law_494 : decode c_La_law 494 = .ok (.iconst 3, 1) := by decide +kernel
theorem d_La_law_495 : decode c_La_law 495 = .ok (.iadd, 1) := by decide +kernel
theorem d_La_law_496 : decode c_La_law 496 = .ok (.iaload, 1) := by decide +kernel
theorem d_La_law_497 : decode c_La_law 497 = .ok (.aload_n 0, 1) := by decide +kernel
theorem d_La_law_498 : decode c_La_law 498 = .ok (.iload_n 3, 1) := by decide +kernel
theorem d_La_law_499 : decode c_La_law 499 = .ok (.iconst 4, 1) := by decide +kernel
theorem d_La_law_500 : decode c_La_law 500 = .ok (.iadd, 1) := by decide +kernel
theorem d_La_law_501 : decode c_La_law 501 = .ok (.iaload, 1) := by decide +kernel
theorem d_La_law_502 : decode c_La_law 502 = .ok (.ifCond .eq 7, 3) := by decide +kernel
theorem d_La_law_505 : decode c_La_law 505 = .ok (.iconst 1, 1) := by decide +kernel
theorem d_La_law_506 : decode c_La_law 506 = .ok (.goto 4, 3) := by decide +kernel
theorem d_La_law_509 : decode c_La_law 509 = .ok (.iconst 0, 1) := by decide +kernel
theorem d_La_law_510 : decode c_La_law 510 = .ok (.invokevirtual 60, 3) := by decide +kernel
theorem d_La_law_513 : decode c_La_law 513 = .ok (.if_icmp .eq 329, 3) := by decide +kernel
theorem d_La_law_516 : decode c_La_law 516 = .ok (.iconst 0, 1) := by decide +kernel
theorem d_La_law_517 : decode c_La_law 517 = .ok (.ireturn, 1) := by decide +kernel
theorem d_La_law_518 : decode c_La_law 518 = .ok (.aload_n 1, 1) := by decide +kernel
theorem d_La_law_519 : decode c_La_law 519 = .ok (.aload_n 0, 1) := by decide +kernel
theorem d_La_law_520 : decode c_La_law 520 = .ok (.iload_n 3, 1) := by decide +kernel
theorem d_La_law_521 : decode c_La_law 521 = .ok (.iconst 1, 1) := by decide +kernel
theorem d_La_law_522 : decode c_La_law 522 = .ok (.iadd, 1) := by decide +kernel
theorem d_La_law_523 : decode c_La_law 523 = .ok (.iaload, 1) := by decide +kernel
theorem d_La_law_524 : decode c_La_law 524 = .ok (.aload_n 0, 1) := by decide +kernel
theorem d_La_law_525 : decode c_La_law 525 = .ok (.iload_n 3, 1) := by decide +kernel
theorem d_La_law_526 : decode c_La_law 526 = .ok (.iconst 2, 1) := by decide +kernel
theorem d_La_law_527 : decode c_La_law 527 = .ok (.iadd, 1) := by decide +kernel
theorem d_La_law_528 : decode c_La_law 528 = .ok (.iaload, 1) := by decide +kernel
theorem d_La_law_529 : decode c_La_law 529 = .ok (.aload_n 0, 1) := by decide +kernel
theorem d_La_law_530 : decode c_La_law 530 = .ok (.iload_n 3, 1) := by decide +kernel
theorem d_La_law_531 : decode c_La_law 531 = .ok (.iconst 3, 1) := by decide +kernel
theorem d_La_law_532 : decode c_La_law 532 = .ok (.iadd, 1) := by decide +kernel
theorem d_La_law_533 : decode c_La_law 533 = .ok (.iaload, 1) := by decide +kernel
theorem d_La_law_534 : decode c_La_law 534 = .ok (.invokevirtual 61, 3) := by decide +kernel
theorem d_La_law_537 : decode c_La_law 537 = .ok (.aload_n 2, 1) := by decide +kernel
theorem d_La_law_538 : decode c_La_law 538 = .ok (.aload_n 0, 1) := by decide +kernel
theorem d_La_law_539 : decode c_La_law 539 = .ok (.iload_n 3, 1) := by decide +kernel
theorem d_La_law_540 : decode c_La_law 540 = .ok (.iconst 1, 1) := by decide +kernel
theorem d_La_law_541 : decode c_La_law 541 = .ok (.iadd, 1) := by decide +kernel
theorem d_La_law_542 : decode c_La_law 542 = .ok (.iaload, 1) := by decide +kernel
theorem d_La_law_543 : decode c_La_law 543 = .ok (.aload_n 0, 1) := by decide +kernel
theorem d_La_law_544 : decode c_La_law 544 = .ok (.iload_n 3, 1) := by decide +kernel
theorem d_La_law_545 : decode c_La_law 545 = .ok (.iconst 2, 1) := by decide +kernel
theorem d_La_law_546 : decode c_La_law 546 = .ok (.iadd, 1) := by decide +kernel
theorem d_La_law_547 : decode c_La_law 547 = .ok (.iaload, 1) := by decide +kernel
theorem d_La_law_548 : decode c_La_law 548 = .ok (.aload_n 0, 1) := by decide +kernel
theorem d_La_law_549 : decode c_La_law 549 = .ok (.iload_n 3, 1) := by decide +kernel
theorem d_La_law_550 : decode c_La_law 550 = .ok (.iconst 3, 1) := by decide +kernel
theorem d_La_law_551 : decode c_La_law 551 = .ok (.iadd, 1) := by decide +kernel
theorem d_La_law_552 : decode c_La_law 552 = .ok (.iaload, 1) := by decide +kernel
theorem d_La_law_553 : decode c_La_law 553 = .ok (.invokevirtual 65, 3) := by decide +kernel
theorem d_La_law_556 : decode c_La_law 556 = .ok (.if_icmp .eq 286, 3) := by decide +kernel
theorem d_La_law_559 : decode c_La_law 559 = .ok (.iconst 0, 1) := by decide +kernel
theorem d_La_law_560 : decode c_La_law 560 = .ok (.ireturn, 1) := by decide +kernel
theorem d_La_law_561 : decode c_La_law 561 = .ok (.aload_n 1, 1) := by decide +kernel
theorem d_La_law_562 : decode c_La_law 562 = .ok (.aload_n 0, 1) := by decide +kernel
theorem d_La_law_563 : decode c_La_law 563 = .ok (.iload_n 3, 1) := by decide +kernel
theorem d_La_law_564 : decode c_La_law 564 = .ok (.iconst 1, 1) := by decide +kernel
theorem d_La_law_565 : decode c_La_law 565 = .ok (.iadd, 1) := by decide +kernel
theorem d_La_law_566 : decode c_La_law 566 = .ok (.iaload, 1) := by decide +kernel
theorem d_La_law_567 : decode c_La_law 567 = .ok (.aload_n 0, 1) := by decide +kernel
theorem d_La_law_568 : decode c_La_law 568 = .ok (.iload_n 3, 1) := by decide +kernel
theorem d_La_law_569 : decode c_La_law 569 = .ok (.iconst 2, 1) := by decide +kernel
theorem d_La_law_570 : decode c_La_law 570 = .ok (.iadd, 1) := by decide +kernel
theorem d_La_law_571 : decode c_La_law 571 = .ok (.iaload, 1) := by decide +kernel
theorem d_La_law_572 : decode c_La_law 572 = .ok (.aload_n 0, 1) := by decide +kernel
theorem d_La_law_573 : decode c_La_law 573 = .ok (.iload_n 3, 1) := by decide +kernel
theorem d_La_law_574 : decode c_La_law 574 = .ok (.iconst 3, 1) := by decide +kernel
theorem d_La_law_575 : decode c_La_law 575 = .ok (.iadd, 1) := by decide +kernel
theorem d_La_law_576 : decode c_La_law 576 = .ok (.iaload, 1) := by decide +kernel
theorem d_La_law_577 : decode c_La_law 577 = .ok (.invokevirtual 66, 3) := by decide +kernel
theorem d_La_law_580 : decode c_La_law 580 = .ok (.aload_n 2, 1) := by decide +kernel
theorem d_La_law_581 : decode c_La_law 581 = .ok (.aload_n 0, 1) := by decide +kernel
theorem d_La_law_582 : decode c_La_law 582 = .ok (.iload_n 3, 1) := by decide +kernel
theorem d_La_law_583 : decode c_La_law 583 = .ok (.iconst 1, 1) := by decide +kernel
theorem d_La_law_584 : decode c_La_law 584 = .ok (.iadd, 1) := by decide +kernel
theorem d_La_law_585 : decode c_La_law 585 = .ok (.iaload, 1) := by decide +kernel
theorem d_La_law_586 : decode c_La_law 586 = .ok (.aload_n 0, 1) := by decide +kernel
theorem d_La_law_587 : decode c_La_law 587 = .ok (.iload_n 3, 1) := by decide +kernel
theorem d_La_law_588 : decode c_La_law 588 = .ok (.iconst 2, 1) := by decide +kernel
theorem d_La_law_589 : decode c_La_law 589 = .ok (.iadd, 1) := by decide +kernel
theorem d_La_law_590 : decode c_La_law 590 = .ok (.iaload, 1) := by decide +kernel
theorem d_La_law_591 : decode c_La_law 591 = .ok (.aload_n 0, 1) := by decide +kernel
theorem d_La_law_592 : decode c_La_law 592 = .ok (.iload_n 3, 1) := by decide +kernel
theorem d_La_law_593 : decode c_La_law 593 = .ok (.iconst 3, 1) := by decide +kernel
theorem d_La_law_594 : decode c_La_law 594 = .ok (.iadd, 1) := by decide +kernel
theorem d_La_law_595 : decode c_La_law 595 = .ok (.iaload, 1) := by decide +kernel
theorem d_La_law_596 : decode c_La_law 596 = .ok (.invokevirtual 69, 3) := by decide +kernel
theorem d_La_law_599 : decode c_La_law 599 = .ok (.if_icmp .eq 243, 3) := by decide +kernel
theorem d_La_law_602 : decode c_La_law 602 = .ok (.iconst 0, 1) := by decide +kernel
theorem d_La_law_603 : decode c_La_law 603 = .ok (.ireturn, 1) := by decide +kernel
theorem d_La_law_604 : decode c_La_law 604 = .ok (.aload_n 1, 1) := by decide +kernel
theorem d_La_law_605 : decode c_La_law 605 = .ok (.aload_n 0, 1) := by decide +kernel
theorem d_La_law_606 : decode c_La_law 606 = .ok (.iload_n 3, 1) := by decide +kernel
theorem d_La_law_607 : decode c_La_law 607 = .ok (.iconst 1, 1) := by decide +kernel
theorem d_La_law_608 : decode c_La_law 608 = .ok (.iadd, 1) := by decide +kernel
theorem d_La_law_609 : decode c_La_law 609 = .ok (.iaload, 1) := by decide +kernel
theorem d_La_law_610 : decode c_La_law 610 = .ok (.aload_n 0, 1) := by decide +kernel
theorem d_La_law_611 : decode c_La_law 611 = .ok (.iload_n 3, 1) := by decide +kernel
theorem d_La_law_612 : decode c_La_law 612 = .ok (.iconst 2, 1) := by decide +kernel
theorem d_La_law_613 : decode c_La_law 613 = .ok (.iadd, 1) := by decide +kernel
theorem d_La_law_614 : decode c_La_law 614 = .ok (.iaload, 1) := by decide +kernel
theorem d_La_law_615 : decode c_La_law 615 = .ok (.invokevirtual 70, 3) := by decide +kernel
theorem d_La_law_618 : decode c_La_law 618 = .ok (.aload_n 2, 1) := by decide +kernel
theorem d_La_law_619 : decode c_La_law 619 = .ok (.aload_n 0, 1) := by decide +kernel
theorem d_La_law_620 : decode c_La_law 620 = .ok (.iload_n 3, 1) := by decide +kernel
theorem d_La_law_621 : decode c_La_law 621 = .ok (.iconst 1, 1) := by decide +kernel
theorem d_La_law_622 : decode c_La_law 622 = .ok (.iadd, 1) := by decide +kernel
theorem d_La_law_623 : decode c_La_law 623 = .ok (.iaload, 1) := by decide +kernel
theorem d_La_law_624 : decode c_La_law 624 = .ok (.aload_n 0, 1) := by decide +kernel
theorem d_La_law_625 : decode c_La_law 625 = .ok (.iload_n 3, 1) := by decide +kernel
theorem d_La_law_626 : decode c_La_law 626 = .ok (.iconst 2, 1) := by decide +kernel
theorem d_La_law_627 : decode c_La_law 627 = .ok (.iadd, 1) := by decide +kernel
theorem d_La_law_628 : decode c_La_law 628 = .ok (.iaload, 1) := by decide +kernel
theorem d_La_law_629 : decode c_La_law 629 = .ok (.invokevirtual 73, 3) := by decide +kernel
theorem d_La_law_632 : decode c_La_law 632 = .ok (.if_icmp .eq 210, 3) := by decide +kernel
theorem d_La_law_635 : decode c_La_law 635 = .ok (.iconst 0, 1) := by decide +kernel
theorem d_La_law_636 : decode c_La_law 636 = .ok (.ireturn, 1) := by decide +kernel
theorem d_La_law_637 : decode c_La_law 637 = .ok (.aload_n 1, 1) := by decide +kernel
theorem d_La_law_638 : decode c_La_law 638 = .ok (.aload_n 0, 1) := by decide +kernel
theorem d_La_law_639 : decode c_La_law 639 = .ok (.iload_n 3, 1) := by decide +kernel
theorem d_La_law_640 : decode c_La_law 640 = .ok (.iconst 1, 1) := by decide +kernel
theorem d_La_law_641 : decode c_La_law 641 = .ok (.iadd, 1) := by decide +kernel
theorem d_La_law_642 : decode c_La_law 642 = .ok (.iaload, 1) := by decide +kernel
theorem d_La_law_643 : decode c_La_law 643 = .ok (.aload_n 0, 1) := by decide +kernel
theorem d_La_law_644 : decode c_La_law 644 = .ok (.iload_n 3, 1) := by decide +kernel
theorem d_La_law_645 : decode c_La_law 645 = .ok (.iconst 2, 1) := by decide +kernel
theorem d_La_law_646 : decode c_La_law 646 = .ok (.iadd, 1) := by decide +kernel
theorem d_La_law_647 : decode c_La_law 647 = .ok (.iaload, 1) := by decide +kernel
theorem d_La_law_648 : decode c_La_law 648 = .ok (.aload_n 0, 1) := by decide +kernel
theorem d_La_law_649 : decode c_La_law 649 = .ok (.iload_n 3, 1) := by decide +kernel
theorem d_La_law_650 : decode c_La_law 650 = .ok (.iconst 3, 1) := by decide +kernel
theorem d_La_law_651 : decode c_La_law 651 = .ok (.iadd, 1) := by decide +kernel
theorem d_La_law_652 : decode c_La_law 652 = .ok (.iaload, 1) := by decide +kernel
theorem d_La_law_653 : decode c_La_law 653 = .ok (.aload_n 0, 1) := by decide +kernel
theorem d_La_law_654 : decode c_La_law 654 = .ok (.iload_n 3, 1) := by decide +kernel
theorem d_La_law_655 : decode c_La_law 655 = .ok (.iconst 4, 1) := by decide +kernel
theorem d_La_law_656 : decode c_La_law 656 = .ok (.iadd, 1) := by decide +kernel
theorem d_La_law_657 : decode c_La_law 657 = .ok (.iaload, 1) := by decide +kernel
theorem d_La_law_658 : decode c_La_law 658 = .ok (.invokevirtual 74, 3) := by decide +kernel
theorem d_La_law_661 : decode c_La_law 661 = .ok (.aload_n 2, 1) := by decide +kernel
theorem d_La_law_662 : decode c_La_law 662 = .ok (.aload_n 0, 1) := by decide +kernel
theorem d_La_law_663 : decode c_La_law 663 = .ok (.iload_n 3, 1) := by decide +kernel
theorem d_La_law_664 : decode c_La_law 664 = .ok (.iconst 1, 1) := by decide +kernel
theorem d_La_law_665 : decode c_La_law 665 = .ok (.iadd, 1) := by decide +kernel
theorem d_La_law_666 : decode c_La_law 666 = .ok (.iaload, 1) := by decide +kernel
theorem d_La_law_667 : decode c_La_law 667 = .ok (.aload_n 0, 1) := by decide +kernel
theorem d_La_law_668 : decode c_La_law 668 = .ok (.iload_n 3, 1) := by decide +kernel
theorem d_La_law_669 : decode c_La_law 669 = .ok (.iconst 2, 1) := by decide +kernel
theorem d_La_law_670 : decode c_La_law 670 = .ok (.iadd, 1) := by decide +kernel
theorem d_La_law_671 : decode c_La_law 671 = .ok (.iaload, 1) := by decide +kernel
theorem d_La_law_672 : decode c_La_law 672 = .ok (.aload_n 0, 1) := by decide +kernel
theorem d_La_law_673 : decode c_La_law 673 = .ok (.iload_n 3, 1) := by decide +kernel
theorem d_La_law_674 : decode c_La_law 674 = .ok (.iconst 3, 1) := by decide +kernel
theorem d_La_law_675 : decode c_La_law 675 = .ok (.iadd, 1) := by decide +kernel
theorem d_La_law_676 : decode c_La_law 676 = .ok (.iaload, 1) := by decide +kernel
theorem d_La_law_677 : decode c_La_law 677 = .ok (.aload_n 0, 1) := by decide +kernel
theorem d_La_law_678 : decode c_La_law 678 = .ok (.iload_n 3, 1) := by decide +kernel
theorem d_La_law_679 : decode c_La_law 679 = .ok (.iconst 4, 1) := by decide +kernel
theorem d_La_law_680 : decode c_La_law 680 = .ok (.iadd, 1) := by decide +kernel
theorem d_La_law_681 : decode c_La_law 681 = .ok (.iaload, 1) := by decide +kernel
theorem d_La_law_682 : decode c_La_law 682 = .ok (.invokevirtual 78, 3) := by decide +kernel
theorem d_La_law_685 : decode c_La_law 685 = .ok (.if_icmp .eq 157, 3) := by decide +kernel
theorem d_La_law_688 : decode c_La_law 688 = .ok (.iconst 0, 1) := by decide +kernel
theorem d_La_law_689 : decode c_La_law 689 = .ok (.ireturn, 1) := by decide +kernel
theorem d_La_law_690 : decode c_La_law 690 = .ok (.aload_n 1, 1) := by decide +kernel
theorem d_La_law_691 : decode c_La_law 691 = .ok (.aload_n 0, 1) := by decide +kernel
theorem d_La_law_692 : decode c_La_law 692 = .ok (.iload_n 3, 1) := by decide +kernel
theorem d_La_law_693 : decode c_La_law 693 = .ok (.iconst 1, 1) := by decide +kernel
theorem d_La_law_694 : decode c_La_law 694 = .ok (.iadd, 1) := by decide +kernel
theorem d_La_law_695 : decode c_La_law 695 = .ok (.iaload, 1) := by decide +kernel
theorem d_La_law_696 : decode c_La_law 696 = .ok (.aload_n 0, 1) := by decide +kernel
theorem d_La_law_697 : decode c_La_law 697 = .ok (.iload_n 3, 1) := by decide +kernel
theorem d_La_law_698 : decode c_La_law 698 = .ok (.iconst 2, 1) := by decide +kernel
theorem d_La_law_699 : decode c_La_law 699 = .ok (.iadd, 1) := by decide +kernel
theorem d_La_law_700 : decode c_La_law 700 = .ok (.iaload, 1) := by decide +kernel
theorem d_La_law_701 : decode c_La_law 701 = .ok (.aload_n 0, 1) := by decide +kernel
theorem d_La_law_702 : decode c_La_law 702 = .ok (.iload_n 3, 1) := by decide +kernel
theorem d_La_law_703 : decode c_La_law 703 = .ok (.iconst 3, 1) := by decide +kernel
theorem d_La_law_704 : decode c_La_law 704 = .ok (.iadd, 1) := by decide +kernel
theorem d_La_law_705 : decode c_La_law 705 = .ok (.iaload, 1) := by decide +kernel
theorem d_La_law_706 : decode c_La_law 706 = .ok (.invokevirtual 79, 3) := by decide +kernel
theorem d_La_law_709 : decode c_La_law 709 = .ok (.aload_n 2, 1) := by decide +kernel
theorem d_La_law_710 : decode c_La_law 710 = .ok (.aload_n 0, 1) := by decide +kernel
theorem d_La_law_711 : decode c_La_law 711 = .ok (.iload_n 3, 1) := by decide +kernel
theorem d_La_law_712 : decode c_La_law 712 = .ok (.iconst 1, 1) := by decide +kernel
theorem d_La_law_713 : decode c_La_law 713 = .ok (.iadd, 1) := by decide +kernel
theorem d_La_law_714 : decode c_La_law 714 = .ok (.iaload, 1) := by decide +kernel
theorem d_La_law_715 : decode c_La_law 715 = .ok (.aload_n 0, 1) := by decide +kernel
theorem d_La_law_716 : decode c_La_law 716 = .ok (.iload_n 3, 1) := by decide +kernel
theorem d_La_law_717 : decode c_La_law 717 = .ok (.iconst 2, 1) := by decide +kernel
theorem d_La_law_718 : decode c_La_law 718 = .ok (.iadd, 1) := by decide +kernel
theorem d_La_law_719 : decode c_La_law 719 = .ok (.iaload, 1) := by decide +kernel
theorem d_La_law_720 : decode c_La_law 720 = .ok (.aload_n 0, 1) := by decide +kernel
theorem d_La_law_721 : decode c_La_law 721 = .ok (.iload_n 3, 1) := by decide +kernel
theorem d_La_law_722 : decode c_La_law 722 = .ok (.iconst 3, 1) := by decide +kernel
theorem d_La_law_723 : decode c_La_law 723 = .ok (.iadd, 1) := by decide +kernel
theorem d_La_law_724 : decode c_La_law 724 = .ok (.iaload, 1) := by decide +kernel
theorem d_La_law_725 : decode c_La_law 725 = .ok (.invokevirtual 82, 3) := by decide +kernel
theorem d_La_law_728 : decode c_La_law 728 = .ok (.if_icmp .eq 114, 3) := by decide +kernel
theorem d_La_law_731 : decode c_La_law 731 = .ok (.iconst 0, 1) := by decide +kernel
theorem d_La_law_732 : decode c_La_law 732 = .ok (.ireturn, 1) := by decide +kernel
theorem d_La_law_733 : decode c_La_law 733 = .ok (.aload_n 1, 1) := by decide +kernel
theorem d_La_law_734 : decode c_La_law 734 = .ok (.aload_n 0, 1) := by decide +kernel
theorem d_La_law_735 : decode c_La_law 735 = .ok (.iload_n 3, 1) := by decide +kernel
theorem d_La_law_736 : decode c_La_law 736 = .ok (.iconst 1, 1) := by decide +kernel
theorem d_La_law_737 : decode c_La_law 737 = .ok (.iadd, 1) := by decide +kernel
theorem d_La_law_738 : decode c_La_law 738 = .ok (.iaload, 1) := by decide +kernel
theorem d_La_law_739 : decode c_La_law 739 = .ok (.aload_n 0, 1) := by decide +kernel
theorem d_La_law_740 : decode c_La_law 740 = .ok (.iload_n 3, 1) := by decide +kernel
theorem d_La_law_741 : decode c_La_law 741 = .ok (.iconst 2, 1) := by decide +kernel
theorem d_La_law_742 : decode c_La_law 742 = .ok (.iadd, 1) := by decide +kernel
theorem d_La_law_743 : decode c_La_law 743 = .ok (.iaload, 1) := by decide +kernel
theorem d_La_law_744 : decode c_La_law 744 = .ok (.aload_n 0, 1) := by decide +kernel
theorem d_La_law_745 : decode c_La_law 745 = .ok (.iload_n 3, 1) := by decide +kernel
theorem d_La_law_746 : decode c_La_law 746 = .ok (.iconst 3, 1) := by decide +kernel
theorem d_La_law_747 : decode c_La_law 747 = .ok (.iadd, 1) := by decide +kernel
theorem d_La_law_748 : decode c_La_law 748 = .ok (.iaload, 1) := by decide +kernel
theorem d_La_law_749 : decode c_La_law 749 = .ok (.aload_n 0, 1) := by decide +kernel
theorem d_La_law_750 : decode c_La_law 750 = .ok (.iload_n 3, 1) := by decide +kernel
theorem d_La_law_751 : decode c_La_law 751 = .ok (.iconst 4, 1) := by decide +kernel
theorem d_La_law_752 : decode c_La_law 752 = .ok (.iadd, 1) := by decide +kernel
theorem d_La_law_753 : decode c_La_law 753 = .ok (.iaload, 1) := by decide +kernel
theorem d_La_law_754 : decode c_La_law 754 = .ok (.invokevirtual 83, 3) := by decide +kernel
theorem d_La_law_757 : decode c_La_law 757 = .ok (.aload_n 2, 1) := by decide +kernel
theorem d_La_law_758 : decode c_La_law 758 = .ok (.aload_n 0, 1) := by decide +kernel
theorem d_La_law_759 : decode c_La_law 759 = .ok (.iload_n 3, 1) := by decide +kernel
theorem d_La_law_760 : decode c_La_law 760 = .ok (.iconst 1, 1) := by decide +kernel
theorem d_La_law_761 : decode c_La_law 761 = .ok (.iadd, 1) := by decide +kernel
theorem d_La_law_762 : decode c_La_law 762 = .ok (.iaload, 1) := by decide +kernel
theorem d_La_law_763 : decode c_La_law 763 = .ok (.aload_n 0, 1) := by decide +kernel
theorem d_La_law_764 : decode c_La_law 764 = .ok (.iload_n 3, 1) := by decide +kernel
theorem d_La_law_765 : decode c_La_law 765 = .ok (.iconst 2, 1) := by decide +kernel
theorem d_La_law_766 : decode c_La_law 766 = .ok (.iadd, 1) := by decide +kernel
theorem d_La_law_767 : decode c_La_law 767 = .ok (.iaload, 1) := by decide +kernel
theorem d_La_law_768 : decode c_La_law 768 = .ok (.aload_n 0, 1) := by decide +kernel
theorem d_La_law_769 : decode c_La_law 769 = .ok (.iload_n 3, 1) := by decide +kernel
theorem d_La_law_770 : decode c_La_law 770 = .ok (.iconst 3, 1) := by decide +kernel
theorem d_La_law_771 : decode c_La_law 771 = .ok (.iadd, 1) := by decide +kernel
theorem d_La_law_772 : decode c_La_law 772 = .ok (.iaload, 1) := by decide +kernel
theorem d_La_law_773 : decode c_La_law 773 = .ok (.aload_n 0, 1) := by decide +kernel
theorem d_La_law_774 : decode c_La_law 774 = .ok (.iload_n 3, 1) := by decide +kernel
theorem d_La_law_775 : decode c_La_law 775 = .ok (.iconst 4, 1) := by decide +kernel
theorem d_La_law_776 : decode c_La_law 776 = .ok (.iadd, 1) := by decide +kernel
theorem d_La_law_777 : decode c_La_law 777 = .ok (.iaload, 1) := by decide +kernel
theorem d_La_law_778 : decode c_La_law 778 = .ok (.invokevirtual 86, 3) := by decide +kernel
theorem d_La_law_781 : decode c_La_law 781 = .ok (.if_icmp .eq 61, 3) := by decide +kernel
theorem d_La_law_784 : decode c_La_law 784 = .ok (.iconst 0, 1) := by decide +kernel
theorem d_La_law_785 : decode c_La_law 785 = .ok (.ireturn, 1) := by decide +kernel
theorem d_La_law_786 : decode c_La_law 786 = .ok (.aload_n 1, 1) := by decide +kernel
theorem d_La_law_787 : decode c_La_law 787 = .ok (.aload_n 0, 1) := by decide +kernel
theorem d_La_law_788 : decode c_La_law 788 = .ok (.iload_n 3, 1) := by decide +kernel
theorem d_La_law_789 : decode c_La_law 789 = .ok (.iconst 1, 1) := by decide +kernel
theorem d_La_law_790 : decode c_La_law 790 = .ok (.iadd, 1) := by decide +kernel
theorem d_La_law_791 : decode c_La_law 791 = .ok (.iaload, 1) := by decide +kernel
theorem d_La_law_792 : decode c_La_law 792 = .ok (.aload_n 0, 1) := by decide +kernel
theorem d_La_law_793 : decode c_La_law 793 = .ok (.iload_n 3, 1) := by decide +kernel
theorem d_La_law_794 : decode c_La_law 794 = .ok (.iconst 2, 1) := by decide +kernel
theorem d_La_law_795 : decode c_La_law 795 = .ok (.iadd, 1) := by decide +kernel
theorem d_La_law_796 : decode c_La_law 796 = .ok (.iaload, 1) := by decide +kernel
theorem d_La_law_797 : decode c_La_law 797 = .ok (.invokevirtual 87, 3) := by decide +kernel
theorem d_La_law_800 : decode c_La_law 800 = .ok (.aload_n 2, 1) := by decide +kernel
theorem d_La_law_801 : decode c_La_law 801 = .ok (.aload_n 0, 1) := by decide +kernel
theorem d_La_law_802 : decode c_La_law 802 = .ok (.iload_n 3, 1) := by decide +kernel
theorem d_La_law_803 : decode c_La_law 803 = .ok (.iconst 1, 1) := by decide +kernel
theorem d_La_law_804 : decode c_La_law 804 = .ok (.iadd, 1) := by decide +kernel
theorem d_La_law_805 : decode c_La_law 805 = .ok (.iaload, 1) := by decide +kernel
theorem d_La_law_806 : decode c_La_law 806 = .ok (.aload_n 0, 1) := by decide +kernel
theorem d_La_law_807 : decode c_La_law 807 = .ok (.iload_n 3, 1) := by decide +kernel
theorem d_La_law_808 : decode c_La_law 808 = .ok (.iconst 2, 1) := by decide +kernel
theorem d_La_law_809 : decode c_La_law 809 = .ok (.iadd, 1) := by decide +kernel
theorem d_La_law_810 : decode c_La_law 810 = .ok (.iaload, 1) := by decide +kernel
theorem d_La_law_811 : decode c_La_law 811 = .ok (.invokevirtual 90, 3) := by decide +kernel
theorem d_La_law_814 : decode c_La_law 814 = .ok (.if_icmp .eq 28, 3) := by decide +kernel
theorem d_La_law_817 : decode c_La_law 817 = .ok (.iconst 0, 1) := by decide +kernel
theorem d_La_law_818 : decode c_La_law 818 = .ok (.ireturn, 1) := by decide +kernel
theorem d_La_law_819 : decode c_La_law 819 = .ok (.aload_n 1, 1) := by decide +kernel
theorem d_La_law_820 : decode c_La_law 820 = .ok (.aload_n 0, 1) := by decide +kernel
theorem d_La_law_821 : decode c_La_law 821 = .ok (.iload_n 3, 1) := by decide +kernel
theorem d_La_law_822 : decode c_La_law 822 = .ok (.iconst 1, 1) := by decide +kernel
theorem d_La_law_823 : decode c_La_law 823 = .ok (.iadd, 1) := by decide +kernel
theorem d_La_law_824 : decode c_La_law 824 = .ok (.iaload, 1) := by decide +kernel
theorem d_La_law_825 : decode c_La_law 825 = .ok (.invokevirtual 91, 3) := by decide +kernel
theorem d_La_law_828 : decode c_La_law 828 = .ok (.aload_n 2, 1) := by decide +kernel
theorem d_La_law_829 : decode c_La_law 829 = .ok (.aload_n 0, 1) := by decide +kernel
theorem d_La_law_830 : decode c_La_law 830 = .ok (.iload_n 3, 1) := by decide +kernel
theorem d_La_law_831 : decode c_La_law 831 = .ok (.iconst 1, 1) := by decide +kernel
theorem d_La_law_832 : decode c_La_law 832 = .ok (.iadd, 1) := by decide +kernel
theorem d_La_law_833 : decode c_La_law 833 = .ok (.iaload, 1) := by decide +kernel
theorem d_La_law_834 : decode c_La_law 834 = .ok (.invokevirtual 94, 3) := by decide +kernel
theorem d_La_law_837 : decode c_La_law 837 = .ok (.if_icmp .eq 5, 3) := by decide +kernel
theorem d_La_law_840 : decode c_La_law 840 = .ok (.iconst 0, 1) := by decide +kernel
theorem d_La_law_841 : decode c_La_law 841 = .ok (.ireturn, 1) := by decide +kernel
theorem d_La_law_842 : decode c_La_law 842 = .ok (.iinc 3 5, 3) := by decide +kernel
theorem d_La_law_845 : decode c_La_law 845 = .ok (.goto (-827), 3) := by decide +kernel
theorem d_La_law_848 : decode c_La_law 848 = .ok (.iconst 1, 1) := by decide +kernel
theorem d_La_law_849 : decode c_La_law 849 = .ok (.ireturn, 1) := by decide +kernel
def f_La_law_842 (k18 : Option Nat → Option Nat → Int32 → sn_M) (b L : Nat) (xs : Nat → Int32) (r1 : Option Nat) (r2 : Option Nat) (x3 : Int32) : sn_M := k18 r1 r2 (x3 + (5 : Int32))
set_option maxHeartbeats 4000000 in
set_option maxRecDepth 100000 in
theorem mono_La_law_842 (k18 : Option Nat → Option Nat → Int32 → sn_M) (mk18 : ∀ (r1 : Option Nat) (r2 : Option Nat) (x3 : Int32), sn_Mono (k18 r1 r2 x3)) (b L : Nat) (xs : Nat → Int32) (r1 : Option Nat) (r2 : Option Nat) (x3 : Int32) : sn_Mono (f_La_law_842 k18 b L xs r1 r2 x3) := mk18 r1 r2 (x3 + (5 : Int32))
set_option maxHeartbeats 4000000 in
set_option maxRecDepth 100000 in
theorem s_La_law_842 {X : sn_X} {nm9 : String} (C : sn_Cx X c_La_law "SignalNetworkLaw" (some .boolean) nm9 4 16 394) (b L : Nat) (xs : Nat → Int32) (hSc : sn_Sc X b L xs) (k18 : Option Nat → Option Nat → Int32 → sn_M) (hk18 : ∀ (r1 : Option Nat) (r2 : Option Nat) (x3 : Int32), sn_S X 18 [(0, vA (some b)), (1, vA r1), (2, vA r2), (3, vI x3)] [] (k18 r1 r2 x3)) (r1 : Option Nat) (r2 : Option Nat) (x3 : Int32) : sn_S X 842 [(0, vA (some b)), (1, vA r1), (2, vA r2), (3, vI x3)] [] (f_La_law_842 k18 b L xs r1 r2 x3) := by
  unfold f_La_law_842
  refine r_iinc (q := 845) (pl := 3) (v := x3 + (5 : Int32)) (lv' := [(3, vI (x3 + (5 : Int32))), (0, vA (some b)), (1, vA r1), (2, vA r2)]) C d_La_law_842 rfl rfl rfl (by decide) rfl ?_
  refine r_goto (tgt := 18) C d_La_law_845 (by decide) ?_
  refine r_sub (lv' := [(0, vA (some b)), (1, vA r1), (2, vA r2), (3, vI (x3 + (5 : Int32)))]) [1, 2, 3, 0] rfl ?_
  exact hk18 r1 r2 (x3 + (5 : Int32))
def f_La_law_510 (k18 : Option Nat → Option Nat → Int32 → sn_M) (b L : Nat) (xs : Nat → Int32) (r1 : Option Nat) (r2 : Option Nat) (x3 : Int32) (t0 : Int32) (t1 : Option Nat) (t2 : Int32) (t3 : Int32) (t4 : Int32) (t5 : Int32) : sn_M := n_n 12 t1 fun a1 => c_I (f_Md_block a1 t2 t3 t4 t5) fun v2 => (if t0 = v2 then f_La_law_842 k18 b L xs r1 r2 x3 else r_Z (0 : Int32))
set_option maxHeartbeats 4000000 in
set_option maxRecDepth 100000 in
theorem mono_La_law_510 (k18 : Option Nat → Option Nat → Int32 → sn_M) (mk18 : ∀ (r1 : Option Nat) (r2 : Option Nat) (x3 : Int32), sn_Mono (k18 r1 r2 x3)) (b L : Nat) (xs : Nat → Int32) (r1 : Option Nat) (r2 : Option Nat) (x3 : Int32) (t0 : Int32) (t1 : Option Nat) (t2 : Int32) (t3 : Int32) (t4 : Int32) (t5 : Int32) : sn_Mono (f_La_law_510 k18 b L xs r1 r2 x3 t0 t1 t2 t3 t4 t5) := sn_Mono.nn (fun a1 => sn_Mono.cI (mono_Md_block a1 t2 t3 t4 t5) (fun v2 => sn_Mono.ite (mono_La_law_842 k18 mk18 b L xs r1 r2 x3) (sn_Mono.rZ)))
set_option maxHeartbeats 4000000 in
set_option maxRecDepth 100000 in
theorem s_La_law_510 {X : sn_X} {nm9 : String} (C : sn_Cx X c_La_law "SignalNetworkLaw" (some .boolean) nm9 4 16 394) (b L : Nat) (xs : Nat → Int32) (hSc : sn_Sc X b L xs) (k18 : Option Nat → Option Nat → Int32 → sn_M) (hk18 : ∀ (r1 : Option Nat) (r2 : Option Nat) (x3 : Int32), sn_S X 18 [(0, vA (some b)), (1, vA r1), (2, vA r2), (3, vI x3)] [] (k18 r1 r2 x3)) (r1 : Option Nat) (r2 : Option Nat) (x3 : Int32) (t0 : Int32) (t1 : Option Nat) (t2 : Int32) (t3 : Int32) (t4 : Int32) (t5 : Int32) : sn_S X 510 [(0, vA (some b)), (1, vA r1), (2, vA r2), (3, vI x3)] [vI t5, vI t4, vI t3, vI t2, vA t1, vI t0] (f_La_law_510 k18 b L xs r1 r2 x3 t0 t1 t2 t3 t4 t5) := by
  unfold f_La_law_510
  refine r_cvI (q := 513) (As := [vI t2, vI t3, vI t4, vI t5]) (st := [vI t0]) (cy := 11) C d_La_law_510 rfl Y_Md_block L_La_60 I_Md_block Se_Md_block rfl (by decide) rfl (Nat.le_of_ble_eq_true rfl) (Nat.le_of_ble_eq_true rfl) (Nat.le_of_ble_eq_true rfl) rfl (fun a1 => con_Md_block a1 t2 t3 t4 t5) (fun v2 => ?_)
  refine r_icmp_eq (tgt := 842) (q := 516) C d_La_law_513 (by decide) rfl ?_ ?_
  · exact s_La_law_842 C b L xs hSc k18 hk18 r1 r2 x3
  · refine r_iconst (q := 517) (v := 0) C d_La_law_516 rfl (by decide) ?_
    exact r_zret C d_La_law_517 rfl
def f_La_law_478 (k18 : Option Nat → Option Nat → Int32 → sn_M) (b L : Nat) (xs : Nat → Int32) (r1 : Option Nat) (r2 : Option Nat) (x3 : Int32) (t0 : Option Nat) (t1 : Int32) (t2 : Int32) (t3 : Int32) (t4 : Int32) : sn_M := n_n 11 t0 fun a3 => c_I (f_Sn_block a3 t1 t2 t3 t4) fun v4 => a_S L xs (x3 + (1 : Int32)) fun v5 => a_S L xs (x3 + (2 : Int32)) fun v6 => a_S L xs (x3 + (3 : Int32)) fun v7 => a_S L xs (x3 + (4 : Int32)) fun v8 => (if v8 = 0 then f_La_law_510 k18 b L xs r1 r2 x3 v4 r2 v5 v6 v7 (0 : Int32) else f_La_law_510 k18 b L xs r1 r2 x3 v4 r2 v5 v6 v7 (1 : Int32))
set_option maxHeartbeats 4000000 in
set_option maxRecDepth 100000 in
theorem mono_La_law_478 (k18 : Option Nat → Option Nat → Int32 → sn_M) (mk18 : ∀ (r1 : Option Nat) (r2 : Option Nat) (x3 : Int32), sn_Mono (k18 r1 r2 x3)) (b L : Nat) (xs : Nat → Int32) (r1 : Option Nat) (r2 : Option Nat) (x3 : Int32) (t0 : Option Nat) (t1 : Int32) (t2 : Int32) (t3 : Int32) (t4 : Int32) : sn_Mono (f_La_law_478 k18 b L xs r1 r2 x3 t0 t1 t2 t3 t4) := sn_Mono.nn (fun a3 => sn_Mono.cI (mono_Sn_block a3 t1 t2 t3 t4) (fun v4 => sn_Mono.aS (fun v5 => sn_Mono.aS (fun v6 => sn_Mono.aS (fun v7 => sn_Mono.aS (fun v8 => sn_Mono.ite (mono_La_law_510 k18 mk18 b L xs r1 r2 x3 v4 r2 v5 v6 v7 (0 : Int32)) (mono_La_law_510 k18 mk18 b L xs r1 r2 x3 v4 r2 v5 v6 v7 (1 : Int32))))))))
set_option maxHeartbeats 4000000 in
set_option maxRecDepth 100000 in
theorem s_La_law_478 {X : sn_X} {nm9 : String} (C : sn_Cx X c_La_law "SignalNetworkLaw" (some .boolean) nm9 4 16 394) (b L : Nat) (xs : Nat → Int32) (hSc : sn_Sc X b L xs) (k18 : Option Nat → Option Nat → Int32 → sn_M) (hk18 : ∀ (r1 : Option Nat) (r2 : Option Nat) (x3 : Int32), sn_S X 18 [(0, vA (some b)), (1, vA r1), (2, vA r2), (3, vI x3)] [] (k18 r1 r2 x3)) (r1 : Option Nat) (r2 : Option Nat) (x3 : Int32) (t0 : Option Nat) (t1 : Int32) (t2 : Int32) (t3 : Int32) (t4 : Int32) : sn_S X 478 [(0, vA (some b)), (1, vA r1), (2, vA r2), (3, vI x3)] [vI t4, vI t3, vI t2, vI t1, vA t0] (f_La_law_478 k18 b L xs r1 r2 x3 t0 t1 t2 t3 t4) := by
  unfold f_La_law_478
  refine r_cvI (q := 481) (As := [vI t1, vI t2, vI t3, vI t4]) (st := []) (cy := 10) C d_La_law_478 rfl Y_Sn_block L_La_56 I_Sn_block Se_Sn_block rfl (by decide) rfl (Nat.le_of_ble_eq_true rfl) (Nat.le_of_ble_eq_true rfl) (Nat.le_of_ble_eq_true rfl) rfl (fun a3 => con_Sn_block a3 t1 t2 t3 t4) (fun v4 => ?_)
  refine r_aload_n (q := 482) (i := 2) (pl := 2) C d_La_law_481 rfl rfl rfl ?_
  refine r_aload_n (q := 483) (i := 0) (pl := 0) C d_La_law_482 rfl rfl rfl ?_
  refine r_iload_n (q := 484) (i := 3) (pl := 3) C d_La_law_483 rfl rfl rfl ?_
  refine r_iconst (q := 485) (v := 1) C d_La_law_484 rfl (by decide) ?_
  refine r_iadd (q := 486) C d_La_law_485 rfl ?_
  refine r_sld (q := 487) C hSc d_La_law_486 rfl (fun v5 => ?_)
  refine r_aload_n (q := 488) (i := 0) (pl := 0) C d_La_law_487 rfl rfl rfl ?_
  refine r_iload_n (q := 489) (i := 3) (pl := 3) C d_La_law_488 rfl rfl rfl ?_
  refine r_iconst (q := 490) (v := 2) C d_La_law_489 rfl (by decide) ?_
  refine r_iadd (q := 491) C d_La_law_490 rfl ?_
  refine r_sld (q := 492) C hSc d_La_law_491 rfl (fun v6 => ?_)
  refine r_aload_n (q := 493) (i := 0) (pl := 0) C d_La_law_492 rfl rfl rfl ?_
  refine r_iload_n (q := 494) (i := 3) (pl := 3) C d_La_law_493 rfl rfl rfl ?_
  refine r_iconst (q := 495) (v := 3) C d_La_law_494 rfl (by decide) ?_
  refine r_iadd (q := 496) C d_La_law_495 rfl ?_
  refine r_sld (q := 497) C hSc d_La_law_496 rfl (fun v7 => ?_)
  refine r_aload_n (q := 498) (i := 0) (pl := 0) C d_La_law_497 rfl rfl rfl ?_
  refine r_iload_n (q := 499) (i := 3) (pl := 3) C d_La_law_498 rfl rfl rfl ?_
  refine r_iconst (q := 500) (v := 4) C d_La_law_499 rfl (by decide) ?_
  refine r_iadd (q := 501) C d_La_law_500 rfl ?_
  refine r_sld (q := 502) C hSc d_La_law_501 rfl (fun v8 => ?_)
  refine r_if_eq (tgt := 509) (q := 505) C d_La_law_502 (by decide) rfl ?_ ?_
  · refine r_iconst (q := 510) (v := 0) C d_La_law_509 rfl (by decide) ?_
    exact s_La_law_510 C b L xs hSc k18 hk18 r1 r2 x3 v4 r2 v5 v6 v7 (0 : Int32)
  · refine r_iconst (q := 506) (v := 1) C d_La_law_505 rfl (by decide) ?_
    refine r_goto (tgt := 510) C d_La_law_506 (by decide) ?_
    exact s_La_law_510 C b L xs hSc k18 hk18 r1 r2 x3 v4 r2 v5 v6 v7 (1 : Int32)
def f_La_law_296 (k18 : Option Nat → Option Nat → Int32 → sn_M) (b L : Nat) (xs : Nat → Int32) (r1 : Option Nat) (r2 : Option Nat) (x3 : Int32) (t0 : Int32) (t1 : Option Nat) (t2 : Int32) (t3 : Int32) : sn_M := n_n 12 t1 fun a9 => c_I (f_Md_cut a9 t2 t3) fun v10 => (if t0 = v10 then f_La_law_842 k18 b L xs r1 r2 x3 else r_Z (0 : Int32))
set_option maxHeartbeats 4000000 in
set_option maxRecDepth 100000 in
theorem mono_La_law_296 (k18 : Option Nat → Option Nat → Int32 → sn_M) (mk18 : ∀ (r1 : Option Nat) (r2 : Option Nat) (x3 : Int32), sn_Mono (k18 r1 r2 x3)) (b L : Nat) (xs : Nat → Int32) (r1 : Option Nat) (r2 : Option Nat) (x3 : Int32) (t0 : Int32) (t1 : Option Nat) (t2 : Int32) (t3 : Int32) : sn_Mono (f_La_law_296 k18 b L xs r1 r2 x3 t0 t1 t2 t3) := sn_Mono.nn (fun a9 => sn_Mono.cI (mono_Md_cut a9 t2 t3) (fun v10 => sn_Mono.ite (mono_La_law_842 k18 mk18 b L xs r1 r2 x3) (sn_Mono.rZ)))
set_option maxHeartbeats 4000000 in
set_option maxRecDepth 100000 in
theorem s_La_law_296 {X : sn_X} {nm9 : String} (C : sn_Cx X c_La_law "SignalNetworkLaw" (some .boolean) nm9 4 16 394) (b L : Nat) (xs : Nat → Int32) (hSc : sn_Sc X b L xs) (k18 : Option Nat → Option Nat → Int32 → sn_M) (hk18 : ∀ (r1 : Option Nat) (r2 : Option Nat) (x3 : Int32), sn_S X 18 [(0, vA (some b)), (1, vA r1), (2, vA r2), (3, vI x3)] [] (k18 r1 r2 x3)) (r1 : Option Nat) (r2 : Option Nat) (x3 : Int32) (t0 : Int32) (t1 : Option Nat) (t2 : Int32) (t3 : Int32) : sn_S X 296 [(0, vA (some b)), (1, vA r1), (2, vA r2), (3, vI x3)] [vI t3, vI t2, vA t1, vI t0] (f_La_law_296 k18 b L xs r1 r2 x3 t0 t1 t2 t3) := by
  unfold f_La_law_296
  refine r_cvI (q := 299) (As := [vI t2, vI t3]) (st := [vI t0]) (cy := 11) C d_La_law_296 rfl Y_Md_cut L_La_31 I_Md_cut Se_Md_cut rfl (by decide) rfl (Nat.le_of_ble_eq_true rfl) (Nat.le_of_ble_eq_true rfl) (Nat.le_of_ble_eq_true rfl) rfl (fun a9 => con_Md_cut a9 t2 t3) (fun v10 => ?_)
  refine r_icmp_eq (tgt := 842) (q := 302) C d_La_law_299 (by decide) rfl ?_ ?_
  · exact s_La_law_842 C b L xs hSc k18 hk18 r1 r2 x3
  · refine r_iconst (q := 303) (v := 0) C d_La_law_302 rfl (by decide) ?_
    exact r_zret C d_La_law_303 rfl
def f_La_law_274 (k18 : Option Nat → Option Nat → Int32 → sn_M) (b L : Nat) (xs : Nat → Int32) (r1 : Option Nat) (r2 : Option Nat) (x3 : Int32) (t0 : Option Nat) (t1 : Int32) (t2 : Int32) : sn_M := n_n 11 t0 fun a11 => c_I (f_Sn_cut a11 t1 t2) fun v12 => a_S L xs (x3 + (1 : Int32)) fun v13 => a_S L xs (x3 + (2 : Int32)) fun v14 => (if v14 = 0 then f_La_law_296 k18 b L xs r1 r2 x3 v12 r2 v13 (0 : Int32) else f_La_law_296 k18 b L xs r1 r2 x3 v12 r2 v13 (1 : Int32))
set_option maxHeartbeats 4000000 in
set_option maxRecDepth 100000 in
theorem mono_La_law_274 (k18 : Option Nat → Option Nat → Int32 → sn_M) (mk18 : ∀ (r1 : Option Nat) (r2 : Option Nat) (x3 : Int32), sn_Mono (k18 r1 r2 x3)) (b L : Nat) (xs : Nat → Int32) (r1 : Option Nat) (r2 : Option Nat) (x3 : Int32) (t0 : Option Nat) (t1 : Int32) (t2 : Int32) : sn_Mono (f_La_law_274 k18 b L xs r1 r2 x3 t0 t1 t2) := sn_Mono.nn (fun a11 => sn_Mono.cI (mono_Sn_cut a11 t1 t2) (fun v12 => sn_Mono.aS (fun v13 => sn_Mono.aS (fun v14 => sn_Mono.ite (mono_La_law_296 k18 mk18 b L xs r1 r2 x3 v12 r2 v13 (0 : Int32)) (mono_La_law_296 k18 mk18 b L xs r1 r2 x3 v12 r2 v13 (1 : Int32))))))
set_option maxHeartbeats 4000000 in
set_option maxRecDepth 100000 in
theorem s_La_law_274 {X : sn_X} {nm9 : String} (C : sn_Cx X c_La_law "SignalNetworkLaw" (some .boolean) nm9 4 16 394) (b L : Nat) (xs : Nat → Int32) (hSc : sn_Sc X b L xs) (k18 : Option Nat → Option Nat → Int32 → sn_M) (hk18 : ∀ (r1 : Option Nat) (r2 : Option Nat) (x3 : Int32), sn_S X 18 [(0, vA (some b)), (1, vA r1), (2, vA r2), (3, vI x3)] [] (k18 r1 r2 x3)) (r1 : Option Nat) (r2 : Option Nat) (x3 : Int32) (t0 : Option Nat) (t1 : Int32) (t2 : Int32) : sn_S X 274 [(0, vA (some b)), (1, vA r1), (2, vA r2), (3, vI x3)] [vI t2, vI t1, vA t0] (f_La_law_274 k18 b L xs r1 r2 x3 t0 t1 t2) := by
  unfold f_La_law_274
  refine r_cvI (q := 277) (As := [vI t1, vI t2]) (st := []) (cy := 10) C d_La_law_274 rfl Y_Sn_cut L_La_28 I_Sn_cut Se_Sn_cut rfl (by decide) rfl (Nat.le_of_ble_eq_true rfl) (Nat.le_of_ble_eq_true rfl) (Nat.le_of_ble_eq_true rfl) rfl (fun a11 => con_Sn_cut a11 t1 t2) (fun v12 => ?_)
  refine r_aload_n (q := 278) (i := 2) (pl := 2) C d_La_law_277 rfl rfl rfl ?_
  refine r_aload_n (q := 279) (i := 0) (pl := 0) C d_La_law_278 rfl rfl rfl ?_
  refine r_iload_n (q := 280) (i := 3) (pl := 3) C d_La_law_279 rfl rfl rfl ?_
  refine r_iconst (q := 281) (v := 1) C d_La_law_280 rfl (by decide) ?_
  refine r_iadd (q := 282) C d_La_law_281 rfl ?_
  refine r_sld (q := 283) C hSc d_La_law_282 rfl (fun v13 => ?_)
  refine r_aload_n (q := 284) (i := 0) (pl := 0) C d_La_law_283 rfl rfl rfl ?_
  refine r_iload_n (q := 285) (i := 3) (pl := 3) C d_La_law_284 rfl rfl rfl ?_
  refine r_iconst (q := 286) (v := 2) C d_La_law_285 rfl (by decide) ?_
  refine r_iadd (q := 287) C d_La_law_286 rfl ?_
  refine r_sld (q := 288) C hSc d_La_law_287 rfl (fun v14 => ?_)
  refine r_if_eq (tgt := 295) (q := 291) C d_La_law_288 (by decide) rfl ?_ ?_
  · refine r_iconst (q := 296) (v := 0) C d_La_law_295 rfl (by decide) ?_
    exact s_La_law_296 C b L xs hSc k18 hk18 r1 r2 x3 v12 r2 v13 (0 : Int32)
  · refine r_iconst (q := 292) (v := 1) C d_La_law_291 rfl (by decide) ?_
    refine r_goto (tgt := 296) C d_La_law_292 (by decide) ?_
    exact s_La_law_296 C b L xs hSc k18 hk18 r1 r2 x3 v12 r2 v13 (1 : Int32)
def f_La_law_247 (k18 : Option Nat → Option Nat → Int32 → sn_M) (b L : Nat) (xs : Nat → Int32) (r1 : Option Nat) (r2 : Option Nat) (x3 : Int32) (t0 : Int32) (t1 : Option Nat) (t2 : Int32) (t3 : Int32) : sn_M := n_n 12 t1 fun a15 => c_I (f_Md_activate a15 t2 t3) fun v16 => (if t0 = v16 then f_La_law_842 k18 b L xs r1 r2 x3 else r_Z (0 : Int32))
set_option maxHeartbeats 4000000 in
set_option maxRecDepth 100000 in
theorem mono_La_law_247 (k18 : Option Nat → Option Nat → Int32 → sn_M) (mk18 : ∀ (r1 : Option Nat) (r2 : Option Nat) (x3 : Int32), sn_Mono (k18 r1 r2 x3)) (b L : Nat) (xs : Nat → Int32) (r1 : Option Nat) (r2 : Option Nat) (x3 : Int32) (t0 : Int32) (t1 : Option Nat) (t2 : Int32) (t3 : Int32) : sn_Mono (f_La_law_247 k18 b L xs r1 r2 x3 t0 t1 t2 t3) := sn_Mono.nn (fun a15 => sn_Mono.cI (mono_Md_activate a15 t2 t3) (fun v16 => sn_Mono.ite (mono_La_law_842 k18 mk18 b L xs r1 r2 x3) (sn_Mono.rZ)))
set_option maxHeartbeats 4000000 in
set_option maxRecDepth 100000 in
theorem s_La_law_247 {X : sn_X} {nm9 : String} (C : sn_Cx X c_La_law "SignalNetworkLaw" (some .boolean) nm9 4 16 394) (b L : Nat) (xs : Nat → Int32) (hSc : sn_Sc X b L xs) (k18 : Option Nat → Option Nat → Int32 → sn_M) (hk18 : ∀ (r1 : Option Nat) (r2 : Option Nat) (x3 : Int32), sn_S X 18 [(0, vA (some b)), (1, vA r1), (2, vA r2), (3, vI x3)] [] (k18 r1 r2 x3)) (r1 : Option Nat) (r2 : Option Nat) (x3 : Int32) (t0 : Int32) (t1 : Option Nat) (t2 : Int32) (t3 : Int32) : sn_S X 247 [(0, vA (some b)), (1, vA r1), (2, vA r2), (3, vI x3)] [vI t3, vI t2, vA t1, vI t0] (f_La_law_247 k18 b L xs r1 r2 x3 t0 t1 t2 t3) := by
  unfold f_La_law_247
  refine r_cvI (q := 250) (As := [vI t2, vI t3]) (st := [vI t0]) (cy := 11) C d_La_law_247 rfl Y_Md_activate L_La_27 I_Md_activate Se_Md_activate rfl (by decide) rfl (Nat.le_of_ble_eq_true rfl) (Nat.le_of_ble_eq_true rfl) (Nat.le_of_ble_eq_true rfl) rfl (fun a15 => con_Md_activate a15 t2 t3) (fun v16 => ?_)
  refine r_icmp_eq (tgt := 842) (q := 253) C d_La_law_250 (by decide) rfl ?_ ?_
  · exact s_La_law_842 C b L xs hSc k18 hk18 r1 r2 x3
  · refine r_iconst (q := 254) (v := 0) C d_La_law_253 rfl (by decide) ?_
    exact r_zret C d_La_law_254 rfl
def f_La_law_225 (k18 : Option Nat → Option Nat → Int32 → sn_M) (b L : Nat) (xs : Nat → Int32) (r1 : Option Nat) (r2 : Option Nat) (x3 : Int32) (t0 : Option Nat) (t1 : Int32) (t2 : Int32) : sn_M := n_n 11 t0 fun a17 => c_I (f_Sn_activate a17 t1 t2) fun v18 => a_S L xs (x3 + (1 : Int32)) fun v19 => a_S L xs (x3 + (2 : Int32)) fun v20 => (if v20 = 0 then f_La_law_247 k18 b L xs r1 r2 x3 v18 r2 v19 (0 : Int32) else f_La_law_247 k18 b L xs r1 r2 x3 v18 r2 v19 (1 : Int32))
set_option maxHeartbeats 4000000 in
set_option maxRecDepth 100000 in
theorem mono_La_law_225 (k18 : Option Nat → Option Nat → Int32 → sn_M) (mk18 : ∀ (r1 : Option Nat) (r2 : Option Nat) (x3 : Int32), sn_Mono (k18 r1 r2 x3)) (b L : Nat) (xs : Nat → Int32) (r1 : Option Nat) (r2 : Option Nat) (x3 : Int32) (t0 : Option Nat) (t1 : Int32) (t2 : Int32) : sn_Mono (f_La_law_225 k18 b L xs r1 r2 x3 t0 t1 t2) := sn_Mono.nn (fun a17 => sn_Mono.cI (mono_Sn_activate a17 t1 t2) (fun v18 => sn_Mono.aS (fun v19 => sn_Mono.aS (fun v20 => sn_Mono.ite (mono_La_law_247 k18 mk18 b L xs r1 r2 x3 v18 r2 v19 (0 : Int32)) (mono_La_law_247 k18 mk18 b L xs r1 r2 x3 v18 r2 v19 (1 : Int32))))))
set_option maxHeartbeats 4000000 in
set_option maxRecDepth 100000 in
theorem s_La_law_225 {X : sn_X} {nm9 : String} (C : sn_Cx X c_La_law "SignalNetworkLaw" (some .boolean) nm9 4 16 394) (b L : Nat) (xs : Nat → Int32) (hSc : sn_Sc X b L xs) (k18 : Option Nat → Option Nat → Int32 → sn_M) (hk18 : ∀ (r1 : Option Nat) (r2 : Option Nat) (x3 : Int32), sn_S X 18 [(0, vA (some b)), (1, vA r1), (2, vA r2), (3, vI x3)] [] (k18 r1 r2 x3)) (r1 : Option Nat) (r2 : Option Nat) (x3 : Int32) (t0 : Option Nat) (t1 : Int32) (t2 : Int32) : sn_S X 225 [(0, vA (some b)), (1, vA r1), (2, vA r2), (3, vI x3)] [vI t2, vI t1, vA t0] (f_La_law_225 k18 b L xs r1 r2 x3 t0 t1 t2) := by
  unfold f_La_law_225
  refine r_cvI (q := 228) (As := [vI t1, vI t2]) (st := []) (cy := 10) C d_La_law_225 rfl Y_Sn_activate L_La_23 I_Sn_activate Se_Sn_activate rfl (by decide) rfl (Nat.le_of_ble_eq_true rfl) (Nat.le_of_ble_eq_true rfl) (Nat.le_of_ble_eq_true rfl) rfl (fun a17 => con_Sn_activate a17 t1 t2) (fun v18 => ?_)
  refine r_aload_n (q := 229) (i := 2) (pl := 2) C d_La_law_228 rfl rfl rfl ?_
  refine r_aload_n (q := 230) (i := 0) (pl := 0) C d_La_law_229 rfl rfl rfl ?_
  refine r_iload_n (q := 231) (i := 3) (pl := 3) C d_La_law_230 rfl rfl rfl ?_
  refine r_iconst (q := 232) (v := 1) C d_La_law_231 rfl (by decide) ?_
  refine r_iadd (q := 233) C d_La_law_232 rfl ?_
  refine r_sld (q := 234) C hSc d_La_law_233 rfl (fun v19 => ?_)
  refine r_aload_n (q := 235) (i := 0) (pl := 0) C d_La_law_234 rfl rfl rfl ?_
  refine r_iload_n (q := 236) (i := 3) (pl := 3) C d_La_law_235 rfl rfl rfl ?_
  refine r_iconst (q := 237) (v := 2) C d_La_law_236 rfl (by decide) ?_
  refine r_iadd (q := 238) C d_La_law_237 rfl ?_
  refine r_sld (q := 239) C hSc d_La_law_238 rfl (fun v20 => ?_)
  refine r_if_eq (tgt := 246) (q := 242) C d_La_law_239 (by decide) rfl ?_ ?_
  · refine r_iconst (q := 247) (v := 0) C d_La_law_246 rfl (by decide) ?_
    exact s_La_law_247 C b L xs hSc k18 hk18 r1 r2 x3 v18 r2 v19 (0 : Int32)
  · refine r_iconst (q := 243) (v := 1) C d_La_law_242 rfl (by decide) ?_
    refine r_goto (tgt := 247) C d_La_law_243 (by decide) ?_
    exact s_La_law_247 C b L xs hSc k18 hk18 r1 r2 x3 v18 r2 v19 (1 : Int32)
def f_La_law_18 (b L : Nat) (xs : Nat → Int32) : Nat → Option Nat → Option Nat → Int32 → sn_M
  | 0, _, _, _ => r_0
  | n + 1, r1, r2, x3 => a_SL L fun v21 => (if (v21 - (5 : Int32)) < x3 then r_Z (1 : Int32) else a_S L xs x3 fun v22 => (sn_sw (v22 &&& (31 : Int32)) [0, 1, 2, 3, 4, 5, 6, 7, 8, 9, 10, 11, 12, 13, 14, 15, 16, 17] [(a_S L xs (x3 + (1 : Int32)) fun v23 => a_S L xs (x3 + (2 : Int32)) fun v24 => n_n 11 r1 fun a25 => c_I (f_Sn_link a25 v23 v24) fun v26 => a_S L xs (x3 + (1 : Int32)) fun v27 => a_S L xs (x3 + (2 : Int32)) fun v28 => n_n 12 r2 fun a29 => c_I (f_Md_link a29 v27 v28) fun v30 => (if v26 = v30 then f_La_law_842 (f_La_law_18 b L xs n) b L xs r1 r2 x3 else r_Z (0 : Int32))), (a_S L xs (x3 + (1 : Int32)) fun v31 => a_S L xs (x3 + (2 : Int32)) fun v32 => a_S L xs (x3 + (3 : Int32)) fun v33 => a_S L xs (x3 + (4 : Int32)) fun v34 => n_n 11 r1 fun a35 => c_I (f_Sn_route a35 v31 v32 v33 v34) fun v36 => a_S L xs (x3 + (1 : Int32)) fun v37 => a_S L xs (x3 + (2 : Int32)) fun v38 => a_S L xs (x3 + (3 : Int32)) fun v39 => a_S L xs (x3 + (4 : Int32)) fun v40 => n_n 12 r2 fun a41 => c_I (f_Md_route_ a41 v37 v38 v39 v40) fun v42 => (if v36 = v42 then f_La_law_842 (f_La_law_18 b L xs n) b L xs r1 r2 x3 else r_Z (0 : Int32))), (a_S L xs (x3 + (1 : Int32)) fun v43 => a_S L xs (x3 + (2 : Int32)) fun v44 => (if v44 = 0 then f_La_law_225 (f_La_law_18 b L xs n) b L xs r1 r2 x3 r1 v43 (0 : Int32) else f_La_law_225 (f_La_law_18 b L xs n) b L xs r1 r2 x3 r1 v43 (1 : Int32))), (a_S L xs (x3 + (1 : Int32)) fun v45 => a_S L xs (x3 + (2 : Int32)) fun v46 => (if v46 = 0 then f_La_law_274 (f_La_law_18 b L xs n) b L xs r1 r2 x3 r1 v45 (0 : Int32) else f_La_law_274 (f_La_law_18 b L xs n) b L xs r1 r2 x3 r1 v45 (1 : Int32))), (a_S L xs (x3 + (1 : Int32)) fun v47 => a_S L xs (x3 + (2 : Int32)) fun v48 => a_S L xs (x3 + (3 : Int32)) fun v49 => n_n 11 r1 fun a50 => c_I (f_Sn_damage a50 v47 v48 v49) fun v51 => a_S L xs (x3 + (1 : Int32)) fun v52 => a_S L xs (x3 + (2 : Int32)) fun v53 => a_S L xs (x3 + (3 : Int32)) fun v54 => n_n 12 r2 fun a55 => c_I (f_Md_damage a55 v52 v53 v54) fun v56 => (if v51 = v56 then f_La_law_842 (f_La_law_18 b L xs n) b L xs r1 r2 x3 else r_Z (0 : Int32))), (a_S L xs (x3 + (1 : Int32)) fun v57 => n_n 11 r1 fun a58 => c_I (f_Sn_tick a58 v57) fun v59 => a_S L xs (x3 + (1 : Int32)) fun v60 => n_n 12 r2 fun a61 => c_I (f_Md_tick a61 v60) fun v62 => (if v59 = v62 then f_La_law_842 (f_La_law_18 b L xs n) b L xs r1 r2 x3 else r_Z (0 : Int32))), (a_S L xs (x3 + (1 : Int32)) fun v63 => a_S L xs (x3 + (2 : Int32)) fun v64 => n_n 11 r1 fun a65 => c_I (f_Sn_dial a65 v63 v64) fun v66 => a_S L xs (x3 + (1 : Int32)) fun v67 => a_S L xs (x3 + (2 : Int32)) fun v68 => n_n 12 r2 fun a69 => c_I (f_Md_dial a69 v67 v68) fun v70 => (if v66 = v70 then f_La_law_842 (f_La_law_18 b L xs n) b L xs r1 r2 x3 else r_Z (0 : Int32))), (a_S L xs (x3 + (1 : Int32)) fun v71 => n_n 11 r1 fun a72 => c_I (f_Sn_answer a72 v71) fun v73 => a_S L xs (x3 + (1 : Int32)) fun v74 => n_n 12 r2 fun a75 => c_I (f_Md_answer a75 v74) fun v76 => (if v73 = v76 then f_La_law_842 (f_La_law_18 b L xs n) b L xs r1 r2 x3 else r_Z (0 : Int32))), (a_S L xs (x3 + (1 : Int32)) fun v77 => n_n 11 r1 fun a78 => c_I (f_Sn_hang a78 v77) fun v79 => a_S L xs (x3 + (1 : Int32)) fun v80 => n_n 12 r2 fun a81 => c_I (f_Md_hang a81 v80) fun v82 => (if v79 = v82 then f_La_law_842 (f_La_law_18 b L xs n) b L xs r1 r2 x3 else r_Z (0 : Int32))), (a_S L xs (x3 + (1 : Int32)) fun v83 => a_S L xs (x3 + (2 : Int32)) fun v84 => a_S L xs (x3 + (3 : Int32)) fun v85 => a_S L xs (x3 + (4 : Int32)) fun v86 => (if v86 = 0 then f_La_law_478 (f_La_law_18 b L xs n) b L xs r1 r2 x3 r1 v83 v84 v85 (0 : Int32) else f_La_law_478 (f_La_law_18 b L xs n) b L xs r1 r2 x3 r1 v83 v84 v85 (1 : Int32))), (a_S L xs (x3 + (1 : Int32)) fun v87 => a_S L xs (x3 + (2 : Int32)) fun v88 => a_S L xs (x3 + (3 : Int32)) fun v89 => n_n 11 r1 fun a90 => c_I (f_Sn_end a90 v87 v88 v89) fun v91 => a_S L xs (x3 + (1 : Int32)) fun v92 => a_S L xs (x3 + (2 : Int32)) fun v93 => a_S L xs (x3 + (3 : Int32)) fun v94 => n_n 12 r2 fun a95 => c_I (f_Md_end a95 v92 v93 v94) fun v96 => (if v91 = v96 then f_La_law_842 (f_La_law_18 b L xs n) b L xs r1 r2 x3 else r_Z (0 : Int32))), (a_S L xs (x3 + (1 : Int32)) fun v97 => a_S L xs (x3 + (2 : Int32)) fun v98 => a_S L xs (x3 + (3 : Int32)) fun v99 => n_n 11 r1 fun a100 => c_I (f_Sn_octet a100 v97 v98 v99) fun v101 => a_S L xs (x3 + (1 : Int32)) fun v102 => a_S L xs (x3 + (2 : Int32)) fun v103 => a_S L xs (x3 + (3 : Int32)) fun v104 => n_n 12 r2 fun a105 => c_I (f_Md_octet a105 v102 v103 v104) fun v106 => (if v101 = v106 then f_La_law_842 (f_La_law_18 b L xs n) b L xs r1 r2 x3 else r_Z (0 : Int32))), (a_S L xs (x3 + (1 : Int32)) fun v107 => a_S L xs (x3 + (2 : Int32)) fun v108 => n_n 11 r1 fun a109 => c_I (f_Sn_bits a109 v107 v108) fun v110 => a_S L xs (x3 + (1 : Int32)) fun v111 => a_S L xs (x3 + (2 : Int32)) fun v112 => n_n 12 r2 fun a113 => c_I (f_Md_bits a113 v111 v112) fun v114 => (if v110 = v114 then f_La_law_842 (f_La_law_18 b L xs n) b L xs r1 r2 x3 else r_Z (0 : Int32))), (a_S L xs (x3 + (1 : Int32)) fun v115 => a_S L xs (x3 + (2 : Int32)) fun v116 => a_S L xs (x3 + (3 : Int32)) fun v117 => a_S L xs (x3 + (4 : Int32)) fun v118 => n_n 11 r1 fun a119 => c_I (f_Sn_flow a119 v115 v116 v117 v118) fun v120 => a_S L xs (x3 + (1 : Int32)) fun v121 => a_S L xs (x3 + (2 : Int32)) fun v122 => a_S L xs (x3 + (3 : Int32)) fun v123 => a_S L xs (x3 + (4 : Int32)) fun v124 => n_n 12 r2 fun a125 => c_I (f_Md_flow a125 v121 v122 v123 v124) fun v126 => (if v120 = v126 then f_La_law_842 (f_La_law_18 b L xs n) b L xs r1 r2 x3 else r_Z (0 : Int32))), (a_S L xs (x3 + (1 : Int32)) fun v127 => a_S L xs (x3 + (2 : Int32)) fun v128 => a_S L xs (x3 + (3 : Int32)) fun v129 => n_n 11 r1 fun a130 => c_I (f_Sn_next a130 v127 v128 v129) fun v131 => a_S L xs (x3 + (1 : Int32)) fun v132 => a_S L xs (x3 + (2 : Int32)) fun v133 => a_S L xs (x3 + (3 : Int32)) fun v134 => n_n 12 r2 fun a135 => c_I (f_Md_next a135 v132 v133 v134) fun v136 => (if v131 = v136 then f_La_law_842 (f_La_law_18 b L xs n) b L xs r1 r2 x3 else r_Z (0 : Int32))), (a_S L xs (x3 + (1 : Int32)) fun v137 => a_S L xs (x3 + (2 : Int32)) fun v138 => a_S L xs (x3 + (3 : Int32)) fun v139 => a_S L xs (x3 + (4 : Int32)) fun v140 => n_n 11 r1 fun a141 => c_I (f_Sn_circuit a141 v137 v138 v139 v140) fun v142 => a_S L xs (x3 + (1 : Int32)) fun v143 => a_S L xs (x3 + (2 : Int32)) fun v144 => a_S L xs (x3 + (3 : Int32)) fun v145 => a_S L xs (x3 + (4 : Int32)) fun v146 => n_n 12 r2 fun a147 => c_I (f_Md_circuit a147 v143 v144 v145 v146) fun v148 => (if v142 = v148 then f_La_law_842 (f_La_law_18 b L xs n) b L xs r1 r2 x3 else r_Z (0 : Int32))), (a_S L xs (x3 + (1 : Int32)) fun v149 => a_S L xs (x3 + (2 : Int32)) fun v150 => n_n 11 r1 fun a151 => c_I (f_Sn_subscriber a151 v149 v150) fun v152 => a_S L xs (x3 + (1 : Int32)) fun v153 => a_S L xs (x3 + (2 : Int32)) fun v154 => n_n 12 r2 fun a155 => c_I (f_Md_subscriber a155 v153 v154) fun v156 => (if v152 = v156 then f_La_law_842 (f_La_law_18 b L xs n) b L xs r1 r2 x3 else r_Z (0 : Int32))), (a_S L xs (x3 + (1 : Int32)) fun v157 => n_n 11 r1 fun a158 => c_I (f_Sn_counted a158 v157) fun v159 => a_S L xs (x3 + (1 : Int32)) fun v160 => n_n 12 r2 fun a161 => c_I (f_Md_counted a161 v160) fun v162 => (if v159 = v162 then f_La_law_842 (f_La_law_18 b L xs n) b L xs r1 r2 x3 else r_Z (0 : Int32)))] (f_La_law_842 (f_La_law_18 b L xs n) b L xs r1 r2 x3)))
set_option maxHeartbeats 4000000 in
set_option maxRecDepth 100000 in
theorem mono_La_law_18 (b L : Nat) (xs : Nat → Int32) : ∀ (n : Nat) (r1 : Option Nat) (r2 : Option Nat) (x3 : Int32), sn_Mono (f_La_law_18 b L xs n r1 r2 x3)
  | 0, _, _, _ => sn_Mono.r0
  | n + 1, r1, r2, x3 => sn_Mono.aSL (fun v21 => sn_Mono.ite (sn_Mono.rZ) (sn_Mono.aS (fun v22 => sn_sw_mono (mono_La_law_842 (f_La_law_18 b L xs n) (mono_La_law_18 b L xs n) b L xs r1 r2 x3) _ _ (List.forall_mem_cons.mpr ⟨sn_Mono.aS (fun v23 => sn_Mono.aS (fun v24 => sn_Mono.nn (fun a25 => sn_Mono.cI (mono_Sn_link a25 v23 v24) (fun v26 => sn_Mono.aS (fun v27 => sn_Mono.aS (fun v28 => sn_Mono.nn (fun a29 => sn_Mono.cI (mono_Md_link a29 v27 v28) (fun v30 => sn_Mono.ite (mono_La_law_842 (f_La_law_18 b L xs n) (mono_La_law_18 b L xs n) b L xs r1 r2 x3) (sn_Mono.rZ))))))))), (List.forall_mem_cons.mpr ⟨sn_Mono.aS (fun v31 => sn_Mono.aS (fun v32 => sn_Mono.aS (fun v33 => sn_Mono.aS (fun v34 => sn_Mono.nn (fun a35 => sn_Mono.cI (mono_Sn_route a35 v31 v32 v33 v34) (fun v36 => sn_Mono.aS (fun v37 => sn_Mono.aS (fun v38 => sn_Mono.aS (fun v39 => sn_Mono.aS (fun v40 => sn_Mono.nn (fun a41 => sn_Mono.cI (mono_Md_route_ a41 v37 v38 v39 v40) (fun v42 => sn_Mono.ite (mono_La_law_842 (f_La_law_18 b L xs n) (mono_La_law_18 b L xs n) b L xs r1 r2 x3) (sn_Mono.rZ))))))))))))), (List.forall_mem_cons.mpr ⟨sn_Mono.aS (fun v43 => sn_Mono.aS (fun v44 => sn_Mono.ite (mono_La_law_225 (f_La_law_18 b L xs n) (mono_La_law_18 b L xs n) b L xs r1 r2 x3 r1 v43 (0 : Int32)) (mono_La_law_225 (f_La_law_18 b L xs n) (mono_La_law_18 b L xs n) b L xs r1 r2 x3 r1 v43 (1 : Int32)))), (List.forall_mem_cons.mpr ⟨sn_Mono.aS (fun v45 => sn_Mono.aS (fun v46 => sn_Mono.ite (mono_La_law_274 (f_La_law_18 b L xs n) (mono_La_law_18 b L xs n) b L xs r1 r2 x3 r1 v45 (0 : Int32)) (mono_La_law_274 (f_La_law_18 b L xs n) (mono_La_law_18 b L xs n) b L xs r1 r2 x3 r1 v45 (1 : Int32)))), (List.forall_mem_cons.mpr ⟨sn_Mono.aS (fun v47 => sn_Mono.aS (fun v48 => sn_Mono.aS (fun v49 => sn_Mono.nn (fun a50 => sn_Mono.cI (mono_Sn_damage a50 v47 v48 v49) (fun v51 => sn_Mono.aS (fun v52 => sn_Mono.aS (fun v53 => sn_Mono.aS (fun v54 => sn_Mono.nn (fun a55 => sn_Mono.cI (mono_Md_damage a55 v52 v53 v54) (fun v56 => sn_Mono.ite (mono_La_law_842 (f_La_law_18 b L xs n) (mono_La_law_18 b L xs n) b L xs r1 r2 x3) (sn_Mono.rZ))))))))))), (List.forall_mem_cons.mpr ⟨sn_Mono.aS (fun v57 => sn_Mono.nn (fun a58 => sn_Mono.cI (mono_Sn_tick a58 v57) (fun v59 => sn_Mono.aS (fun v60 => sn_Mono.nn (fun a61 => sn_Mono.cI (mono_Md_tick a61 v60) (fun v62 => sn_Mono.ite (mono_La_law_842 (f_La_law_18 b L xs n) (mono_La_law_18 b L xs n) b L xs r1 r2 x3) (sn_Mono.rZ))))))), (List.forall_mem_cons.mpr ⟨sn_Mono.aS (fun v63 => sn_Mono.aS (fun v64 => sn_Mono.nn (fun a65 => sn_Mono.cI (mono_Sn_dial a65 v63 v64) (fun v66 => sn_Mono.aS (fun v67 => sn_Mono.aS (fun v68 => sn_Mono.nn (fun a69 => sn_Mono.cI (mono_Md_dial a69 v67 v68) (fun v70 => sn_Mono.ite (mono_La_law_842 (f_La_law_18 b L xs n) (mono_La_law_18 b L xs n) b L xs r1 r2 x3) (sn_Mono.rZ))))))))), (List.forall_mem_cons.mpr ⟨sn_Mono.aS (fun v71 => sn_Mono.nn (fun a72 => sn_Mono.cI (mono_Sn_answer a72 v71) (fun v73 => sn_Mono.aS (fun v74 => sn_Mono.nn (fun a75 => sn_Mono.cI (mono_Md_answer a75 v74) (fun v76 => sn_Mono.ite (mono_La_law_842 (f_La_law_18 b L xs n) (mono_La_law_18 b L xs n) b L xs r1 r2 x3) (sn_Mono.rZ))))))), (List.forall_mem_cons.mpr ⟨sn_Mono.aS (fun v77 => sn_Mono.nn (fun a78 => sn_Mono.cI (mono_Sn_hang a78 v77) (fun v79 => sn_Mono.aS (fun v80 => sn_Mono.nn (fun a81 => sn_Mono.cI (mono_Md_hang a81 v80) (fun v82 => sn_Mono.ite (mono_La_law_842 (f_La_law_18 b L xs n) (mono_La_law_18 b L xs n) b L xs r1 r2 x3) (sn_Mono.rZ))))))), (List.forall_mem_cons.mpr ⟨sn_Mono.aS (fun v83 => sn_Mono.aS (fun v84 => sn_Mono.aS (fun v85 => sn_Mono.aS (fun v86 => sn_Mono.ite (mono_La_law_478 (f_La_law_18 b L xs n) (mono_La_law_18 b L xs n) b L xs r1 r2 x3 r1 v83 v84 v85 (0 : Int32)) (mono_La_law_478 (f_La_law_18 b L xs n) (mono_La_law_18 b L xs n) b L xs r1 r2 x3 r1 v83 v84 v85 (1 : Int32)))))), (List.forall_mem_cons.mpr ⟨sn_Mono.aS (fun v87 => sn_Mono.aS (fun v88 => sn_Mono.aS (fun v89 => sn_Mono.nn (fun a90 => sn_Mono.cI (mono_Sn_end a90 v87 v88 v89) (fun v91 => sn_Mono.aS (fun v92 => sn_Mono.aS (fun v93 => sn_Mono.aS (fun v94 => sn_Mono.nn (fun a95 => sn_Mono.cI (mono_Md_end a95 v92 v93 v94) (fun v96 => sn_Mono.ite (mono_La_law_842 (f_La_law_18 b L xs n) (mono_La_law_18 b L xs n) b L xs r1 r2 x3) (sn_Mono.rZ))))))))))), (List.forall_mem_cons.mpr ⟨sn_Mono.aS (fun v97 => sn_Mono.aS (fun v98 => sn_Mono.aS (fun v99 => sn_Mono.nn (fun a100 => sn_Mono.cI (mono_Sn_octet a100 v97 v98 v99) (fun v101 => sn_Mono.aS (fun v102 => sn_Mono.aS (fun v103 => sn_Mono.aS (fun v104 => sn_Mono.nn (fun a105 => sn_Mono.cI (mono_Md_octet a105 v102 v103 v104) (fun v106 => sn_Mono.ite (mono_La_law_842 (f_La_law_18 b L xs n) (mono_La_law_18 b L xs n) b L xs r1 r2 x3) (sn_Mono.rZ))))))))))), (List.forall_mem_cons.mpr ⟨sn_Mono.aS (fun v107 => sn_Mono.aS (fun v108 => sn_Mono.nn (fun a109 => sn_Mono.cI (mono_Sn_bits a109 v107 v108) (fun v110 => sn_Mono.aS (fun v111 => sn_Mono.aS (fun v112 => sn_Mono.nn (fun a113 => sn_Mono.cI (mono_Md_bits a113 v111 v112) (fun v114 => sn_Mono.ite (mono_La_law_842 (f_La_law_18 b L xs n) (mono_La_law_18 b L xs n) b L xs r1 r2 x3) (sn_Mono.rZ))))))))), (List.forall_mem_cons.mpr ⟨sn_Mono.aS (fun v115 => sn_Mono.aS (fun v116 => sn_Mono.aS (fun v117 => sn_Mono.aS (fun v118 => sn_Mono.nn (fun a119 => sn_Mono.cI (mono_Sn_flow a119 v115 v116 v117 v118) (fun v120 => sn_Mono.aS (fun v121 => sn_Mono.aS (fun v122 => sn_Mono.aS (fun v123 => sn_Mono.aS (fun v124 => sn_Mono.nn (fun a125 => sn_Mono.cI (mono_Md_flow a125 v121 v122 v123 v124) (fun v126 => sn_Mono.ite (mono_La_law_842 (f_La_law_18 b L xs n) (mono_La_law_18 b L xs n) b L xs r1 r2 x3) (sn_Mono.rZ))))))))))))), (List.forall_mem_cons.mpr ⟨sn_Mono.aS (fun v127 => sn_Mono.aS (fun v128 => sn_Mono.aS (fun v129 => sn_Mono.nn (fun a130 => sn_Mono.cI (mono_Sn_next a130 v127 v128 v129) (fun v131 => sn_Mono.aS (fun v132 => sn_Mono.aS (fun v133 => sn_Mono.aS (fun v134 => sn_Mono.nn (fun a135 => sn_Mono.cI (mono_Md_next a135 v132 v133 v134) (fun v136 => sn_Mono.ite (mono_La_law_842 (f_La_law_18 b L xs n) (mono_La_law_18 b L xs n) b L xs r1 r2 x3) (sn_Mono.rZ))))))))))), (List.forall_mem_cons.mpr ⟨sn_Mono.aS (fun v137 => sn_Mono.aS (fun v138 => sn_Mono.aS (fun v139 => sn_Mono.aS (fun v140 => sn_Mono.nn (fun a141 => sn_Mono.cI (mono_Sn_circuit a141 v137 v138 v139 v140) (fun v142 => sn_Mono.aS (fun v143 => sn_Mono.aS (fun v144 => sn_Mono.aS (fun v145 => sn_Mono.aS (fun v146 => sn_Mono.nn (fun a147 => sn_Mono.cI (mono_Md_circuit a147 v143 v144 v145 v146) (fun v148 => sn_Mono.ite (mono_La_law_842 (f_La_law_18 b L xs n) (mono_La_law_18 b L xs n) b L xs r1 r2 x3) (sn_Mono.rZ))))))))))))), (List.forall_mem_cons.mpr ⟨sn_Mono.aS (fun v149 => sn_Mono.aS (fun v150 => sn_Mono.nn (fun a151 => sn_Mono.cI (mono_Sn_subscriber a151 v149 v150) (fun v152 => sn_Mono.aS (fun v153 => sn_Mono.aS (fun v154 => sn_Mono.nn (fun a155 => sn_Mono.cI (mono_Md_subscriber a155 v153 v154) (fun v156 => sn_Mono.ite (mono_La_law_842 (f_La_law_18 b L xs n) (mono_La_law_18 b L xs n) b L xs r1 r2 x3) (sn_Mono.rZ))))))))), (List.forall_mem_cons.mpr ⟨sn_Mono.aS (fun v157 => sn_Mono.nn (fun a158 => sn_Mono.cI (mono_Sn_counted a158 v157) (fun v159 => sn_Mono.aS (fun v160 => sn_Mono.nn (fun a161 => sn_Mono.cI (mono_Md_counted a161 v160) (fun v162 => sn_Mono.ite (mono_La_law_842 (f_La_law_18 b L xs n) (mono_La_law_18 b L xs n) b L xs r1 r2 x3) (sn_Mono.rZ))))))), (fun _ h => absurd h List.not_mem_nil)⟩)⟩)⟩)⟩)⟩)⟩)⟩)⟩)⟩)⟩)⟩)⟩)⟩)⟩)⟩)⟩)⟩)⟩))))
set_option maxHeartbeats 4000000 in
set_option maxRecDepth 100000 in
theorem s_La_law_18 {X : sn_X} {nm9 : String} (C : sn_Cx X c_La_law "SignalNetworkLaw" (some .boolean) nm9 4 16 394) (b L : Nat) (xs : Nat → Int32) (hSc : sn_Sc X b L xs) (n : Nat) : ∀ (r1 : Option Nat) (r2 : Option Nat) (x3 : Int32), sn_S X 18 [(0, vA (some b)), (1, vA r1), (2, vA r2), (3, vI x3)] [] (f_La_law_18 b L xs n r1 r2 x3) := by
  induction n with
  | zero => intro r1 r2 x3; exact sn_S.zero
  | succ n ih =>
    intro r1 r2 x3
    unfold f_La_law_18
    refine r_iload_n (q := 19) (i := 3) (pl := 3) C d_La_law_18 rfl rfl rfl ?_
    refine r_aload_n (q := 20) (i := 0) (pl := 0) C d_La_law_19 rfl rfl rfl ?_
    refine r_slen (q := 21) C hSc d_La_law_20 rfl (fun v21 => ?_)
    refine r_iconst (q := 22) (v := 5) C d_La_law_21 rfl (by decide) ?_
    refine r_isub (q := 23) C d_La_law_22 rfl ?_
    refine r_icmp_gt (tgt := 848) (q := 26) C d_La_law_23 (by decide) rfl ?_ ?_
    · refine r_iconst (q := 849) (v := 1) C d_La_law_848 rfl (by decide) ?_
      exact r_zret C d_La_law_849 rfl
    · refine r_aload_n (q := 27) (i := 0) (pl := 0) C d_La_law_26 rfl rfl rfl ?_
      refine r_iload_n (q := 28) (i := 3) (pl := 3) C d_La_law_27 rfl rfl rfl ?_
      refine r_sld (q := 29) C hSc d_La_law_28 rfl (fun v22 => ?_)
      refine r_bipush (q := 31) (v := 31) C d_La_law_29 rfl (by decide) ?_
      refine r_iand (q := 32) C d_La_law_31 rfl ?_
      refine r_table (tD := 842) (ks := [0, 1, 2, 3, 4, 5, 6, 7, 8, 9, 10, 11, 12, 13, 14, 15, 16, 17]) (ts := [120, 153, 206, 255, 304, 347, 370, 403, 426, 449, 518, 561, 604, 637, 690, 733, 786, 819]) C d_La_law_32 (by decide) (by decide) rfl ?_ ⟨?_, ?_, ?_, ?_, ?_, ?_, ?_, ?_, ?_, ?_, ?_, ?_, ?_, ?_, ?_, ?_, ?_, ?_, trivial⟩
      · exact s_La_law_842 C b L xs hSc (f_La_law_18 b L xs n) ih r1 r2 x3
      · refine r_aload_n (q := 121) (i := 1) (pl := 1) C d_La_law_120 rfl rfl rfl ?_
        refine r_aload_n (q := 122) (i := 0) (pl := 0) C d_La_law_121 rfl rfl rfl ?_
        refine r_iload_n (q := 123) (i := 3) (pl := 3) C d_La_law_122 rfl rfl rfl ?_
        refine r_iconst (q := 124) (v := 1) C d_La_law_123 rfl (by decide) ?_
        refine r_iadd (q := 125) C d_La_law_124 rfl ?_
        refine r_sld (q := 126) C hSc d_La_law_125 rfl (fun v23 => ?_)
        refine r_aload_n (q := 127) (i := 0) (pl := 0) C d_La_law_126 rfl rfl rfl ?_
        refine r_iload_n (q := 128) (i := 3) (pl := 3) C d_La_law_127 rfl rfl rfl ?_
        refine r_iconst (q := 129) (v := 2) C d_La_law_128 rfl (by decide) ?_
        refine r_iadd (q := 130) C d_La_law_129 rfl ?_
        refine r_sld (q := 131) C hSc d_La_law_130 rfl (fun v24 => ?_)
        refine r_cvI (q := 134) (As := [vI v23, vI v24]) (st := []) (cy := 10) C d_La_law_131 rfl Y_Sn_link L_La_13 I_Sn_link Se_Sn_link rfl (by decide) rfl (Nat.le_of_ble_eq_true rfl) (Nat.le_of_ble_eq_true rfl) (Nat.le_of_ble_eq_true rfl) rfl (fun a25 => con_Sn_link a25 v23 v24) (fun v26 => ?_)
        refine r_aload_n (q := 135) (i := 2) (pl := 2) C d_La_law_134 rfl rfl rfl ?_
        refine r_aload_n (q := 136) (i := 0) (pl := 0) C d_La_law_135 rfl rfl rfl ?_
        refine r_iload_n (q := 137) (i := 3) (pl := 3) C d_La_law_136 rfl rfl rfl ?_
        refine r_iconst (q := 138) (v := 1) C d_La_law_137 rfl (by decide) ?_
        refine r_iadd (q := 139) C d_La_law_138 rfl ?_
        refine r_sld (q := 140) C hSc d_La_law_139 rfl (fun v27 => ?_)
        refine r_aload_n (q := 141) (i := 0) (pl := 0) C d_La_law_140 rfl rfl rfl ?_
        refine r_iload_n (q := 142) (i := 3) (pl := 3) C d_La_law_141 rfl rfl rfl ?_
        refine r_iconst (q := 143) (v := 2) C d_La_law_142 rfl (by decide) ?_
        refine r_iadd (q := 144) C d_La_law_143 rfl ?_
        refine r_sld (q := 145) C hSc d_La_law_144 rfl (fun v28 => ?_)
        refine r_cvI (q := 148) (As := [vI v27, vI v28]) (st := [vI v26]) (cy := 11) C d_La_law_145 rfl Y_Md_link L_La_17 I_Md_link Se_Md_link rfl (by decide) rfl (Nat.le_of_ble_eq_true rfl) (Nat.le_of_ble_eq_true rfl) (Nat.le_of_ble_eq_true rfl) rfl (fun a29 => con_Md_link a29 v27 v28) (fun v30 => ?_)
        refine r_icmp_eq (tgt := 842) (q := 151) C d_La_law_148 (by decide) rfl ?_ ?_
        · exact s_La_law_842 C b L xs hSc (f_La_law_18 b L xs n) ih r1 r2 x3
        · refine r_iconst (q := 152) (v := 0) C d_La_law_151 rfl (by decide) ?_
          exact r_zret C d_La_law_152 rfl
      · refine r_aload_n (q := 154) (i := 1) (pl := 1) C d_La_law_153 rfl rfl rfl ?_
        refine r_aload_n (q := 155) (i := 0) (pl := 0) C d_La_law_154 rfl rfl rfl ?_
        refine r_iload_n (q := 156) (i := 3) (pl := 3) C d_La_law_155 rfl rfl rfl ?_
        refine r_iconst (q := 157) (v := 1) C d_La_law_156 rfl (by decide) ?_
        refine r_iadd (q := 158) C d_La_law_157 rfl ?_
        refine r_sld (q := 159) C hSc d_La_law_158 rfl (fun v31 => ?_)
        refine r_aload_n (q := 160) (i := 0) (pl := 0) C d_La_law_159 rfl rfl rfl ?_
        refine r_iload_n (q := 161) (i := 3) (pl := 3) C d_La_law_160 rfl rfl rfl ?_
        refine r_iconst (q := 162) (v := 2) C d_La_law_161 rfl (by decide) ?_
        refine r_iadd (q := 163) C d_La_law_162 rfl ?_
        refine r_sld (q := 164) C hSc d_La_law_163 rfl (fun v32 => ?_)
        refine r_aload_n (q := 165) (i := 0) (pl := 0) C d_La_law_164 rfl rfl rfl ?_
        refine r_iload_n (q := 166) (i := 3) (pl := 3) C d_La_law_165 rfl rfl rfl ?_
        refine r_iconst (q := 167) (v := 3) C d_La_law_166 rfl (by decide) ?_
        refine r_iadd (q := 168) C d_La_law_167 rfl ?_
        refine r_sld (q := 169) C hSc d_La_law_168 rfl (fun v33 => ?_)
        refine r_aload_n (q := 170) (i := 0) (pl := 0) C d_La_law_169 rfl rfl rfl ?_
        refine r_iload_n (q := 171) (i := 3) (pl := 3) C d_La_law_170 rfl rfl rfl ?_
        refine r_iconst (q := 172) (v := 4) C d_La_law_171 rfl (by decide) ?_
        refine r_iadd (q := 173) C d_La_law_172 rfl ?_
        refine r_sld (q := 174) C hSc d_La_law_173 rfl (fun v34 => ?_)
        refine r_cvI (q := 177) (As := [vI v31, vI v32, vI v33, vI v34]) (st := []) (cy := 10) C d_La_law_174 rfl Y_Sn_route L_La_18 I_Sn_route Se_Sn_route rfl (by decide) rfl (Nat.le_of_ble_eq_true rfl) (Nat.le_of_ble_eq_true rfl) (Nat.le_of_ble_eq_true rfl) rfl (fun a35 => con_Sn_route a35 v31 v32 v33 v34) (fun v36 => ?_)
        refine r_aload_n (q := 178) (i := 2) (pl := 2) C d_La_law_177 rfl rfl rfl ?_
        refine r_aload_n (q := 179) (i := 0) (pl := 0) C d_La_law_178 rfl rfl rfl ?_
        refine r_iload_n (q := 180) (i := 3) (pl := 3) C d_La_law_179 rfl rfl rfl ?_
        refine r_iconst (q := 181) (v := 1) C d_La_law_180 rfl (by decide) ?_
        refine r_iadd (q := 182) C d_La_law_181 rfl ?_
        refine r_sld (q := 183) C hSc d_La_law_182 rfl (fun v37 => ?_)
        refine r_aload_n (q := 184) (i := 0) (pl := 0) C d_La_law_183 rfl rfl rfl ?_
        refine r_iload_n (q := 185) (i := 3) (pl := 3) C d_La_law_184 rfl rfl rfl ?_
        refine r_iconst (q := 186) (v := 2) C d_La_law_185 rfl (by decide) ?_
        refine r_iadd (q := 187) C d_La_law_186 rfl ?_
        refine r_sld (q := 188) C hSc d_La_law_187 rfl (fun v38 => ?_)
        refine r_aload_n (q := 189) (i := 0) (pl := 0) C d_La_law_188 rfl rfl rfl ?_
        refine r_iload_n (q := 190) (i := 3) (pl := 3) C d_La_law_189 rfl rfl rfl ?_
        refine r_iconst (q := 191) (v := 3) C d_La_law_190 rfl (by decide) ?_
        refine r_iadd (q := 192) C d_La_law_191 rfl ?_
        refine r_sld (q := 193) C hSc d_La_law_192 rfl (fun v39 => ?_)
        refine r_aload_n (q := 194) (i := 0) (pl := 0) C d_La_law_193 rfl rfl rfl ?_
        refine r_iload_n (q := 195) (i := 3) (pl := 3) C d_La_law_194 rfl rfl rfl ?_
        refine r_iconst (q := 196) (v := 4) C d_La_law_195 rfl (by decide) ?_
        refine r_iadd (q := 197) C d_La_law_196 rfl ?_
        refine r_sld (q := 198) C hSc d_La_law_197 rfl (fun v40 => ?_)
        refine r_cvI (q := 201) (As := [vI v37, vI v38, vI v39, vI v40]) (st := [vI v36]) (cy := 11) C d_La_law_198 rfl Y_Md_route_ L_La_22 I_Md_route_ Se_Md_route_ rfl (by decide) rfl (Nat.le_of_ble_eq_true rfl) (Nat.le_of_ble_eq_true rfl) (Nat.le_of_ble_eq_true rfl) rfl (fun a41 => con_Md_route_ a41 v37 v38 v39 v40) (fun v42 => ?_)
        refine r_icmp_eq (tgt := 842) (q := 204) C d_La_law_201 (by decide) rfl ?_ ?_
        · exact s_La_law_842 C b L xs hSc (f_La_law_18 b L xs n) ih r1 r2 x3
        · refine r_iconst (q := 205) (v := 0) C d_La_law_204 rfl (by decide) ?_
          exact r_zret C d_La_law_205 rfl
      · refine r_aload_n (q := 207) (i := 1) (pl := 1) C d_La_law_206 rfl rfl rfl ?_
        refine r_aload_n (q := 208) (i := 0) (pl := 0) C d_La_law_207 rfl rfl rfl ?_
        refine r_iload_n (q := 209) (i := 3) (pl := 3) C d_La_law_208 rfl rfl rfl ?_
        refine r_iconst (q := 210) (v := 1) C d_La_law_209 rfl (by decide) ?_
        refine r_iadd (q := 211) C d_La_law_210 rfl ?_
        refine r_sld (q := 212) C hSc d_La_law_211 rfl (fun v43 => ?_)
        refine r_aload_n (q := 213) (i := 0) (pl := 0) C d_La_law_212 rfl rfl rfl ?_
        refine r_iload_n (q := 214) (i := 3) (pl := 3) C d_La_law_213 rfl rfl rfl ?_
        refine r_iconst (q := 215) (v := 2) C d_La_law_214 rfl (by decide) ?_
        refine r_iadd (q := 216) C d_La_law_215 rfl ?_
        refine r_sld (q := 217) C hSc d_La_law_216 rfl (fun v44 => ?_)
        refine r_if_eq (tgt := 224) (q := 220) C d_La_law_217 (by decide) rfl ?_ ?_
        · refine r_iconst (q := 225) (v := 0) C d_La_law_224 rfl (by decide) ?_
          exact s_La_law_225 C b L xs hSc (f_La_law_18 b L xs n) ih r1 r2 x3 r1 v43 (0 : Int32)
        · refine r_iconst (q := 221) (v := 1) C d_La_law_220 rfl (by decide) ?_
          refine r_goto (tgt := 225) C d_La_law_221 (by decide) ?_
          exact s_La_law_225 C b L xs hSc (f_La_law_18 b L xs n) ih r1 r2 x3 r1 v43 (1 : Int32)
      · refine r_aload_n (q := 256) (i := 1) (pl := 1) C d_La_law_255 rfl rfl rfl ?_
        refine r_aload_n (q := 257) (i := 0) (pl := 0) C d_La_law_256 rfl rfl rfl ?_
        refine r_iload_n (q := 258) (i := 3) (pl := 3) C d_La_law_257 rfl rfl rfl ?_
        refine r_iconst (q := 259) (v := 1) C d_La_law_258 rfl (by decide) ?_
        refine r_iadd (q := 260) C d_La_law_259 rfl ?_
        refine r_sld (q := 261) C hSc d_La_law_260 rfl (fun v45 => ?_)
        refine r_aload_n (q := 262) (i := 0) (pl := 0) C d_La_law_261 rfl rfl rfl ?_
        refine r_iload_n (q := 263) (i := 3) (pl := 3) C d_La_law_262 rfl rfl rfl ?_
        refine r_iconst (q := 264) (v := 2) C d_La_law_263 rfl (by decide) ?_
        refine r_iadd (q := 265) C d_La_law_264 rfl ?_
        refine r_sld (q := 266) C hSc d_La_law_265 rfl (fun v46 => ?_)
        refine r_if_eq (tgt := 273) (q := 269) C d_La_law_266 (by decide) rfl ?_ ?_
        · refine r_iconst (q := 274) (v := 0) C d_La_law_273 rfl (by decide) ?_
          exact s_La_law_274 C b L xs hSc (f_La_law_18 b L xs n) ih r1 r2 x3 r1 v45 (0 : Int32)
        · refine r_iconst (q := 270) (v := 1) C d_La_law_269 rfl (by decide) ?_
          refine r_goto (tgt := 274) C d_La_law_270 (by decide) ?_
          exact s_La_law_274 C b L xs hSc (f_La_law_18 b L xs n) ih r1 r2 x3 r1 v45 (1 : Int32)
      · refine r_aload_n (q := 305) (i := 1) (pl := 1) C d_La_law_304 rfl rfl rfl ?_
        refine r_aload_n (q := 306) (i := 0) (pl := 0) C d_La_law_305 rfl rfl rfl ?_
        refine r_iload_n (q := 307) (i := 3) (pl := 3) C d_La_law_306 rfl rfl rfl ?_
        refine r_iconst (q := 308) (v := 1) C d_La_law_307 rfl (by decide) ?_
        refine r_iadd (q := 309) C d_La_law_308 rfl ?_
        refine r_sld (q := 310) C hSc d_La_law_309 rfl (fun v47 => ?_)
        refine r_aload_n (q := 311) (i := 0) (pl := 0) C d_La_law_310 rfl rfl rfl ?_
        refine r_iload_n (q := 312) (i := 3) (pl := 3) C d_La_law_311 rfl rfl rfl ?_
        refine r_iconst (q := 313) (v := 2) C d_La_law_312 rfl (by decide) ?_
        refine r_iadd (q := 314) C d_La_law_313 rfl ?_
        refine r_sld (q := 315) C hSc d_La_law_314 rfl (fun v48 => ?_)
        refine r_aload_n (q := 316) (i := 0) (pl := 0) C d_La_law_315 rfl rfl rfl ?_
        refine r_iload_n (q := 317) (i := 3) (pl := 3) C d_La_law_316 rfl rfl rfl ?_
        refine r_iconst (q := 318) (v := 3) C d_La_law_317 rfl (by decide) ?_
        refine r_iadd (q := 319) C d_La_law_318 rfl ?_
        refine r_sld (q := 320) C hSc d_La_law_319 rfl (fun v49 => ?_)
        refine r_cvI (q := 323) (As := [vI v47, vI v48, vI v49]) (st := []) (cy := 10) C d_La_law_320 rfl Y_Sn_damage L_La_32 I_Sn_damage Se_Sn_damage rfl (by decide) rfl (Nat.le_of_ble_eq_true rfl) (Nat.le_of_ble_eq_true rfl) (Nat.le_of_ble_eq_true rfl) rfl (fun a50 => con_Sn_damage a50 v47 v48 v49) (fun v51 => ?_)
        refine r_aload_n (q := 324) (i := 2) (pl := 2) C d_La_law_323 rfl rfl rfl ?_
        refine r_aload_n (q := 325) (i := 0) (pl := 0) C d_La_law_324 rfl rfl rfl ?_
        refine r_iload_n (q := 326) (i := 3) (pl := 3) C d_La_law_325 rfl rfl rfl ?_
        refine r_iconst (q := 327) (v := 1) C d_La_law_326 rfl (by decide) ?_
        refine r_iadd (q := 328) C d_La_law_327 rfl ?_
        refine r_sld (q := 329) C hSc d_La_law_328 rfl (fun v52 => ?_)
        refine r_aload_n (q := 330) (i := 0) (pl := 0) C d_La_law_329 rfl rfl rfl ?_
        refine r_iload_n (q := 331) (i := 3) (pl := 3) C d_La_law_330 rfl rfl rfl ?_
        refine r_iconst (q := 332) (v := 2) C d_La_law_331 rfl (by decide) ?_
        refine r_iadd (q := 333) C d_La_law_332 rfl ?_
        refine r_sld (q := 334) C hSc d_La_law_333 rfl (fun v53 => ?_)
        refine r_aload_n (q := 335) (i := 0) (pl := 0) C d_La_law_334 rfl rfl rfl ?_
        refine r_iload_n (q := 336) (i := 3) (pl := 3) C d_La_law_335 rfl rfl rfl ?_
        refine r_iconst (q := 337) (v := 3) C d_La_law_336 rfl (by decide) ?_
        refine r_iadd (q := 338) C d_La_law_337 rfl ?_
        refine r_sld (q := 339) C hSc d_La_law_338 rfl (fun v54 => ?_)
        refine r_cvI (q := 342) (As := [vI v52, vI v53, vI v54]) (st := [vI v51]) (cy := 11) C d_La_law_339 rfl Y_Md_damage L_La_36 I_Md_damage Se_Md_damage rfl (by decide) rfl (Nat.le_of_ble_eq_true rfl) (Nat.le_of_ble_eq_true rfl) (Nat.le_of_ble_eq_true rfl) rfl (fun a55 => con_Md_damage a55 v52 v53 v54) (fun v56 => ?_)
        refine r_icmp_eq (tgt := 842) (q := 345) C d_La_law_342 (by decide) rfl ?_ ?_
        · exact s_La_law_842 C b L xs hSc (f_La_law_18 b L xs n) ih r1 r2 x3
        · refine r_iconst (q := 346) (v := 0) C d_La_law_345 rfl (by decide) ?_
          exact r_zret C d_La_law_346 rfl
      · refine r_aload_n (q := 348) (i := 1) (pl := 1) C d_La_law_347 rfl rfl rfl ?_
        refine r_aload_n (q := 349) (i := 0) (pl := 0) C d_La_law_348 rfl rfl rfl ?_
        refine r_iload_n (q := 350) (i := 3) (pl := 3) C d_La_law_349 rfl rfl rfl ?_
        refine r_iconst (q := 351) (v := 1) C d_La_law_350 rfl (by decide) ?_
        refine r_iadd (q := 352) C d_La_law_351 rfl ?_
        refine r_sld (q := 353) C hSc d_La_law_352 rfl (fun v57 => ?_)
        refine r_cvI (q := 356) (As := [vI v57]) (st := []) (cy := 10) C d_La_law_353 rfl Y_Sn_tick L_La_37 I_Sn_tick Se_Sn_tick rfl (by decide) rfl (Nat.le_of_ble_eq_true rfl) (Nat.le_of_ble_eq_true rfl) (Nat.le_of_ble_eq_true rfl) rfl (fun a58 => con_Sn_tick a58 v57) (fun v59 => ?_)
        refine r_aload_n (q := 357) (i := 2) (pl := 2) C d_La_law_356 rfl rfl rfl ?_
        refine r_aload_n (q := 358) (i := 0) (pl := 0) C d_La_law_357 rfl rfl rfl ?_
        refine r_iload_n (q := 359) (i := 3) (pl := 3) C d_La_law_358 rfl rfl rfl ?_
        refine r_iconst (q := 360) (v := 1) C d_La_law_359 rfl (by decide) ?_
        refine r_iadd (q := 361) C d_La_law_360 rfl ?_
        refine r_sld (q := 362) C hSc d_La_law_361 rfl (fun v60 => ?_)
        refine r_cvI (q := 365) (As := [vI v60]) (st := [vI v59]) (cy := 11) C d_La_law_362 rfl Y_Md_tick L_La_41 I_Md_tick Se_Md_tick rfl (by decide) rfl (Nat.le_of_ble_eq_true rfl) (Nat.le_of_ble_eq_true rfl) (Nat.le_of_ble_eq_true rfl) rfl (fun a61 => con_Md_tick a61 v60) (fun v62 => ?_)
        refine r_icmp_eq (tgt := 842) (q := 368) C d_La_law_365 (by decide) rfl ?_ ?_
        · exact s_La_law_842 C b L xs hSc (f_La_law_18 b L xs n) ih r1 r2 x3
        · refine r_iconst (q := 369) (v := 0) C d_La_law_368 rfl (by decide) ?_
          exact r_zret C d_La_law_369 rfl
      · refine r_aload_n (q := 371) (i := 1) (pl := 1) C d_La_law_370 rfl rfl rfl ?_
        refine r_aload_n (q := 372) (i := 0) (pl := 0) C d_La_law_371 rfl rfl rfl ?_
        refine r_iload_n (q := 373) (i := 3) (pl := 3) C d_La_law_372 rfl rfl rfl ?_
        refine r_iconst (q := 374) (v := 1) C d_La_law_373 rfl (by decide) ?_
        refine r_iadd (q := 375) C d_La_law_374 rfl ?_
        refine r_sld (q := 376) C hSc d_La_law_375 rfl (fun v63 => ?_)
        refine r_aload_n (q := 377) (i := 0) (pl := 0) C d_La_law_376 rfl rfl rfl ?_
        refine r_iload_n (q := 378) (i := 3) (pl := 3) C d_La_law_377 rfl rfl rfl ?_
        refine r_iconst (q := 379) (v := 2) C d_La_law_378 rfl (by decide) ?_
        refine r_iadd (q := 380) C d_La_law_379 rfl ?_
        refine r_sld (q := 381) C hSc d_La_law_380 rfl (fun v64 => ?_)
        refine r_cvI (q := 384) (As := [vI v63, vI v64]) (st := []) (cy := 10) C d_La_law_381 rfl Y_Sn_dial L_La_42 I_Sn_dial Se_Sn_dial rfl (by decide) rfl (Nat.le_of_ble_eq_true rfl) (Nat.le_of_ble_eq_true rfl) (Nat.le_of_ble_eq_true rfl) rfl (fun a65 => con_Sn_dial a65 v63 v64) (fun v66 => ?_)
        refine r_aload_n (q := 385) (i := 2) (pl := 2) C d_La_law_384 rfl rfl rfl ?_
        refine r_aload_n (q := 386) (i := 0) (pl := 0) C d_La_law_385 rfl rfl rfl ?_
        refine r_iload_n (q := 387) (i := 3) (pl := 3) C d_La_law_386 rfl rfl rfl ?_
        refine r_iconst (q := 388) (v := 1) C d_La_law_387 rfl (by decide) ?_
        refine r_iadd (q := 389) C d_La_law_388 rfl ?_
        refine r_sld (q := 390) C hSc d_La_law_389 rfl (fun v67 => ?_)
        refine r_aload_n (q := 391) (i := 0) (pl := 0) C d_La_law_390 rfl rfl rfl ?_
        refine r_iload_n (q := 392) (i := 3) (pl := 3) C d_La_law_391 rfl rfl rfl ?_
        refine r_iconst (q := 393) (v := 2) C d_La_law_392 rfl (by decide) ?_
        refine r_iadd (q := 394) C d_La_law_393 rfl ?_
        refine r_sld (q := 395) C hSc d_La_law_394 rfl (fun v68 => ?_)
        refine r_cvI (q := 398) (As := [vI v67, vI v68]) (st := [vI v66]) (cy := 11) C d_La_law_395 rfl Y_Md_dial L_La_46 I_Md_dial Se_Md_dial rfl (by decide) rfl (Nat.le_of_ble_eq_true rfl) (Nat.le_of_ble_eq_true rfl) (Nat.le_of_ble_eq_true rfl) rfl (fun a69 => con_Md_dial a69 v67 v68) (fun v70 => ?_)
        refine r_icmp_eq (tgt := 842) (q := 401) C d_La_law_398 (by decide) rfl ?_ ?_
        · exact s_La_law_842 C b L xs hSc (f_La_law_18 b L xs n) ih r1 r2 x3
        · refine r_iconst (q := 402) (v := 0) C d_La_law_401 rfl (by decide) ?_
          exact r_zret C d_La_law_402 rfl
      · refine r_aload_n (q := 404) (i := 1) (pl := 1) C d_La_law_403 rfl rfl rfl ?_
        refine r_aload_n (q := 405) (i := 0) (pl := 0) C d_La_law_404 rfl rfl rfl ?_
        refine r_iload_n (q := 406) (i := 3) (pl := 3) C d_La_law_405 rfl rfl rfl ?_
        refine r_iconst (q := 407) (v := 1) C d_La_law_406 rfl (by decide) ?_
        refine r_iadd (q := 408) C d_La_law_407 rfl ?_
        refine r_sld (q := 409) C hSc d_La_law_408 rfl (fun v71 => ?_)
        refine r_cvI (q := 412) (As := [vI v71]) (st := []) (cy := 10) C d_La_law_409 rfl Y_Sn_answer L_La_47 I_Sn_answer Se_Sn_answer rfl (by decide) rfl (Nat.le_of_ble_eq_true rfl) (Nat.le_of_ble_eq_true rfl) (Nat.le_of_ble_eq_true rfl) rfl (fun a72 => con_Sn_answer a72 v71) (fun v73 => ?_)
        refine r_aload_n (q := 413) (i := 2) (pl := 2) C d_La_law_412 rfl rfl rfl ?_
        refine r_aload_n (q := 414) (i := 0) (pl := 0) C d_La_law_413 rfl rfl rfl ?_
        refine r_iload_n (q := 415) (i := 3) (pl := 3) C d_La_law_414 rfl rfl rfl ?_
        refine r_iconst (q := 416) (v := 1) C d_La_law_415 rfl (by decide) ?_
        refine r_iadd (q := 417) C d_La_law_416 rfl ?_
        refine r_sld (q := 418) C hSc d_La_law_417 rfl (fun v74 => ?_)
        refine r_cvI (q := 421) (As := [vI v74]) (st := [vI v73]) (cy := 11) C d_La_law_418 rfl Y_Md_answer L_La_51 I_Md_answer Se_Md_answer rfl (by decide) rfl (Nat.le_of_ble_eq_true rfl) (Nat.le_of_ble_eq_true rfl) (Nat.le_of_ble_eq_true rfl) rfl (fun a75 => con_Md_answer a75 v74) (fun v76 => ?_)
        refine r_icmp_eq (tgt := 842) (q := 424) C d_La_law_421 (by decide) rfl ?_ ?_
        · exact s_La_law_842 C b L xs hSc (f_La_law_18 b L xs n) ih r1 r2 x3
        · refine r_iconst (q := 425) (v := 0) C d_La_law_424 rfl (by decide) ?_
          exact r_zret C d_La_law_425 rfl
      · refine r_aload_n (q := 427) (i := 1) (pl := 1) C d_La_law_426 rfl rfl rfl ?_
        refine r_aload_n (q := 428) (i := 0) (pl := 0) C d_La_law_427 rfl rfl rfl ?_
        refine r_iload_n (q := 429) (i := 3) (pl := 3) C d_La_law_428 rfl rfl rfl ?_
        refine r_iconst (q := 430) (v := 1) C d_La_law_429 rfl (by decide) ?_
        refine r_iadd (q := 431) C d_La_law_430 rfl ?_
        refine r_sld (q := 432) C hSc d_La_law_431 rfl (fun v77 => ?_)
        refine r_cvI (q := 435) (As := [vI v77]) (st := []) (cy := 10) C d_La_law_432 rfl Y_Sn_hang L_La_52 I_Sn_hang Se_Sn_hang rfl (by decide) rfl (Nat.le_of_ble_eq_true rfl) (Nat.le_of_ble_eq_true rfl) (Nat.le_of_ble_eq_true rfl) rfl (fun a78 => con_Sn_hang a78 v77) (fun v79 => ?_)
        refine r_aload_n (q := 436) (i := 2) (pl := 2) C d_La_law_435 rfl rfl rfl ?_
        refine r_aload_n (q := 437) (i := 0) (pl := 0) C d_La_law_436 rfl rfl rfl ?_
        refine r_iload_n (q := 438) (i := 3) (pl := 3) C d_La_law_437 rfl rfl rfl ?_
        refine r_iconst (q := 439) (v := 1) C d_La_law_438 rfl (by decide) ?_
        refine r_iadd (q := 440) C d_La_law_439 rfl ?_
        refine r_sld (q := 441) C hSc d_La_law_440 rfl (fun v80 => ?_)
        refine r_cvI (q := 444) (As := [vI v80]) (st := [vI v79]) (cy := 11) C d_La_law_441 rfl Y_Md_hang L_La_55 I_Md_hang Se_Md_hang rfl (by decide) rfl (Nat.le_of_ble_eq_true rfl) (Nat.le_of_ble_eq_true rfl) (Nat.le_of_ble_eq_true rfl) rfl (fun a81 => con_Md_hang a81 v80) (fun v82 => ?_)
        refine r_icmp_eq (tgt := 842) (q := 447) C d_La_law_444 (by decide) rfl ?_ ?_
        · exact s_La_law_842 C b L xs hSc (f_La_law_18 b L xs n) ih r1 r2 x3
        · refine r_iconst (q := 448) (v := 0) C d_La_law_447 rfl (by decide) ?_
          exact r_zret C d_La_law_448 rfl
      · refine r_aload_n (q := 450) (i := 1) (pl := 1) C d_La_law_449 rfl rfl rfl ?_
        refine r_aload_n (q := 451) (i := 0) (pl := 0) C d_La_law_450 rfl rfl rfl ?_
        refine r_iload_n (q := 452) (i := 3) (pl := 3) C d_La_law_451 rfl rfl rfl ?_
        refine r_iconst (q := 453) (v := 1) C d_La_law_452 rfl (by decide) ?_
        refine r_iadd (q := 454) C d_La_law_453 rfl ?_
        refine r_sld (q := 455) C hSc d_La_law_454 rfl (fun v83 => ?_)
        refine r_aload_n (q := 456) (i := 0) (pl := 0) C d_La_law_455 rfl rfl rfl ?_
        refine r_iload_n (q := 457) (i := 3) (pl := 3) C d_La_law_456 rfl rfl rfl ?_
        refine r_iconst (q := 458) (v := 2) C d_La_law_457 rfl (by decide) ?_
        refine r_iadd (q := 459) C d_La_law_458 rfl ?_
        refine r_sld (q := 460) C hSc d_La_law_459 rfl (fun v84 => ?_)
        refine r_aload_n (q := 461) (i := 0) (pl := 0) C d_La_law_460 rfl rfl rfl ?_
        refine r_iload_n (q := 462) (i := 3) (pl := 3) C d_La_law_461 rfl rfl rfl ?_
        refine r_iconst (q := 463) (v := 3) C d_La_law_462 rfl (by decide) ?_
        refine r_iadd (q := 464) C d_La_law_463 rfl ?_
        refine r_sld (q := 465) C hSc d_La_law_464 rfl (fun v85 => ?_)
        refine r_aload_n (q := 466) (i := 0) (pl := 0) C d_La_law_465 rfl rfl rfl ?_
        refine r_iload_n (q := 467) (i := 3) (pl := 3) C d_La_law_466 rfl rfl rfl ?_
        refine r_iconst (q := 468) (v := 4) C d_La_law_467 rfl (by decide) ?_
        refine r_iadd (q := 469) C d_La_law_468 rfl ?_
        refine r_sld (q := 470) C hSc d_La_law_469 rfl (fun v86 => ?_)
        refine r_if_eq (tgt := 477) (q := 473) C d_La_law_470 (by decide) rfl ?_ ?_
        · refine r_iconst (q := 478) (v := 0) C d_La_law_477 rfl (by decide) ?_
          exact s_La_law_478 C b L xs hSc (f_La_law_18 b L xs n) ih r1 r2 x3 r1 v83 v84 v85 (0 : Int32)
        · refine r_iconst (q := 474) (v := 1) C d_La_law_473 rfl (by decide) ?_
          refine r_goto (tgt := 478) C d_La_law_474 (by decide) ?_
          exact s_La_law_478 C b L xs hSc (f_La_law_18 b L xs n) ih r1 r2 x3 r1 v83 v84 v85 (1 : Int32)
      · refine r_aload_n (q := 519) (i := 1) (pl := 1) C d_La_law_518 rfl rfl rfl ?_
        refine r_aload_n (q := 520) (i := 0) (pl := 0) C d_La_law_519 rfl rfl rfl ?_
        refine r_iload_n (q := 521) (i := 3) (pl := 3) C d_La_law_520 rfl rfl rfl ?_
        refine r_iconst (q := 522) (v := 1) C d_La_law_521 rfl (by decide) ?_
        refine r_iadd (q := 523) C d_La_law_522 rfl ?_
        refine r_sld (q := 524) C hSc d_La_law_523 rfl (fun v87 => ?_)
        refine r_aload_n (q := 525) (i := 0) (pl := 0) C d_La_law_524 rfl rfl rfl ?_
        refine r_iload_n (q := 526) (i := 3) (pl := 3) C d_La_law_525 rfl rfl rfl ?_
        refine r_iconst (q := 527) (v := 2) C d_La_law_526 rfl (by decide) ?_
        refine r_iadd (q := 528) C d_La_law_527 rfl ?_
        refine r_sld (q := 529) C hSc d_La_law_528 rfl (fun v88 => ?_)
        refine r_aload_n (q := 530) (i := 0) (pl := 0) C d_La_law_529 rfl rfl rfl ?_
        refine r_iload_n (q := 531) (i := 3) (pl := 3) C d_La_law_530 rfl rfl rfl ?_
        refine r_iconst (q := 532) (v := 3) C d_La_law_531 rfl (by decide) ?_
        refine r_iadd (q := 533) C d_La_law_532 rfl ?_
        refine r_sld (q := 534) C hSc d_La_law_533 rfl (fun v89 => ?_)
        refine r_cvI (q := 537) (As := [vI v87, vI v88, vI v89]) (st := []) (cy := 10) C d_La_law_534 rfl Y_Sn_end L_La_61 I_Sn_end Se_Sn_end rfl (by decide) rfl (Nat.le_of_ble_eq_true rfl) (Nat.le_of_ble_eq_true rfl) (Nat.le_of_ble_eq_true rfl) rfl (fun a90 => con_Sn_end a90 v87 v88 v89) (fun v91 => ?_)
        refine r_aload_n (q := 538) (i := 2) (pl := 2) C d_La_law_537 rfl rfl rfl ?_
        refine r_aload_n (q := 539) (i := 0) (pl := 0) C d_La_law_538 rfl rfl rfl ?_
        refine r_iload_n (q := 540) (i := 3) (pl := 3) C d_La_law_539 rfl rfl rfl ?_
        refine r_iconst (q := 541) (v := 1) C d_La_law_540 rfl (by decide) ?_
        refine r_iadd (q := 542) C d_La_law_541 rfl ?_
        refine r_sld (q := 543) C hSc d_La_law_542 rfl (fun v92 => ?_)
        refine r_aload_n (q := 544) (i := 0) (pl := 0) C d_La_law_543 rfl rfl rfl ?_
        refine r_iload_n (q := 545) (i := 3) (pl := 3) C d_La_law_544 rfl rfl rfl ?_
        refine r_iconst (q := 546) (v := 2) C d_La_law_545 rfl (by decide) ?_
        refine r_iadd (q := 547) C d_La_law_546 rfl ?_
        refine r_sld (q := 548) C hSc d_La_law_547 rfl (fun v93 => ?_)
        refine r_aload_n (q := 549) (i := 0) (pl := 0) C d_La_law_548 rfl rfl rfl ?_
        refine r_iload_n (q := 550) (i := 3) (pl := 3) C d_La_law_549 rfl rfl rfl ?_
        refine r_iconst (q := 551) (v := 3) C d_La_law_550 rfl (by decide) ?_
        refine r_iadd (q := 552) C d_La_law_551 rfl ?_
        refine r_sld (q := 553) C hSc d_La_law_552 rfl (fun v94 => ?_)
        refine r_cvI (q := 556) (As := [vI v92, vI v93, vI v94]) (st := [vI v91]) (cy := 11) C d_La_law_553 rfl Y_Md_end L_La_65 I_Md_end Se_Md_end rfl (by decide) rfl (Nat.le_of_ble_eq_true rfl) (Nat.le_of_ble_eq_true rfl) (Nat.le_of_ble_eq_true rfl) rfl (fun a95 => con_Md_end a95 v92 v93 v94) (fun v96 => ?_)
        refine r_icmp_eq (tgt := 842) (q := 559) C d_La_law_556 (by decide) rfl ?_ ?_
        · exact s_La_law_842 C b L xs hSc (f_La_law_18 b L xs n) ih r1 r2 x3
        · refine r_iconst (q := 560) (v := 0) C d_La_law_559 rfl (by decide) ?_
          exact r_zret C d_La_law_560 rfl
      · refine r_aload_n (q := 562) (i := 1) (pl := 1) C d_La_law_561 rfl rfl rfl ?_
        refine r_aload_n (q := 563) (i := 0) (pl := 0) C d_La_law_562 rfl rfl rfl ?_
        refine r_iload_n (q := 564) (i := 3) (pl := 3) C d_La_law_563 rfl rfl rfl ?_
        refine r_iconst (q := 565) (v := 1) C d_La_law_564 rfl (by decide) ?_
        refine r_iadd (q := 566) C d_La_law_565 rfl ?_
        refine r_sld (q := 567) C hSc d_La_law_566 rfl (fun v97 => ?_)
        refine r_aload_n (q := 568) (i := 0) (pl := 0) C d_La_law_567 rfl rfl rfl ?_
        refine r_iload_n (q := 569) (i := 3) (pl := 3) C d_La_law_568 rfl rfl rfl ?_
        refine r_iconst (q := 570) (v := 2) C d_La_law_569 rfl (by decide) ?_
        refine r_iadd (q := 571) C d_La_law_570 rfl ?_
        refine r_sld (q := 572) C hSc d_La_law_571 rfl (fun v98 => ?_)
        refine r_aload_n (q := 573) (i := 0) (pl := 0) C d_La_law_572 rfl rfl rfl ?_
        refine r_iload_n (q := 574) (i := 3) (pl := 3) C d_La_law_573 rfl rfl rfl ?_
        refine r_iconst (q := 575) (v := 3) C d_La_law_574 rfl (by decide) ?_
        refine r_iadd (q := 576) C d_La_law_575 rfl ?_
        refine r_sld (q := 577) C hSc d_La_law_576 rfl (fun v99 => ?_)
        refine r_cvI (q := 580) (As := [vI v97, vI v98, vI v99]) (st := []) (cy := 10) C d_La_law_577 rfl Y_Sn_octet L_La_66 I_Sn_octet Se_Sn_octet rfl (by decide) rfl (Nat.le_of_ble_eq_true rfl) (Nat.le_of_ble_eq_true rfl) (Nat.le_of_ble_eq_true rfl) rfl (fun a100 => con_Sn_octet a100 v97 v98 v99) (fun v101 => ?_)
        refine r_aload_n (q := 581) (i := 2) (pl := 2) C d_La_law_580 rfl rfl rfl ?_
        refine r_aload_n (q := 582) (i := 0) (pl := 0) C d_La_law_581 rfl rfl rfl ?_
        refine r_iload_n (q := 583) (i := 3) (pl := 3) C d_La_law_582 rfl rfl rfl ?_
        refine r_iconst (q := 584) (v := 1) C d_La_law_583 rfl (by decide) ?_
        refine r_iadd (q := 585) C d_La_law_584 rfl ?_
        refine r_sld (q := 586) C hSc d_La_law_585 rfl (fun v102 => ?_)
        refine r_aload_n (q := 587) (i := 0) (pl := 0) C d_La_law_586 rfl rfl rfl ?_
        refine r_iload_n (q := 588) (i := 3) (pl := 3) C d_La_law_587 rfl rfl rfl ?_
        refine r_iconst (q := 589) (v := 2) C d_La_law_588 rfl (by decide) ?_
        refine r_iadd (q := 590) C d_La_law_589 rfl ?_
        refine r_sld (q := 591) C hSc d_La_law_590 rfl (fun v103 => ?_)
        refine r_aload_n (q := 592) (i := 0) (pl := 0) C d_La_law_591 rfl rfl rfl ?_
        refine r_iload_n (q := 593) (i := 3) (pl := 3) C d_La_law_592 rfl rfl rfl ?_
        refine r_iconst (q := 594) (v := 3) C d_La_law_593 rfl (by decide) ?_
        refine r_iadd (q := 595) C d_La_law_594 rfl ?_
        refine r_sld (q := 596) C hSc d_La_law_595 rfl (fun v104 => ?_)
        refine r_cvI (q := 599) (As := [vI v102, vI v103, vI v104]) (st := [vI v101]) (cy := 11) C d_La_law_596 rfl Y_Md_octet L_La_69 I_Md_octet Se_Md_octet rfl (by decide) rfl (Nat.le_of_ble_eq_true rfl) (Nat.le_of_ble_eq_true rfl) (Nat.le_of_ble_eq_true rfl) rfl (fun a105 => con_Md_octet a105 v102 v103 v104) (fun v106 => ?_)
        refine r_icmp_eq (tgt := 842) (q := 602) C d_La_law_599 (by decide) rfl ?_ ?_
        · exact s_La_law_842 C b L xs hSc (f_La_law_18 b L xs n) ih r1 r2 x3
        · refine r_iconst (q := 603) (v := 0) C d_La_law_602 rfl (by decide) ?_
          exact r_zret C d_La_law_603 rfl
      · refine r_aload_n (q := 605) (i := 1) (pl := 1) C d_La_law_604 rfl rfl rfl ?_
        refine r_aload_n (q := 606) (i := 0) (pl := 0) C d_La_law_605 rfl rfl rfl ?_
        refine r_iload_n (q := 607) (i := 3) (pl := 3) C d_La_law_606 rfl rfl rfl ?_
        refine r_iconst (q := 608) (v := 1) C d_La_law_607 rfl (by decide) ?_
        refine r_iadd (q := 609) C d_La_law_608 rfl ?_
        refine r_sld (q := 610) C hSc d_La_law_609 rfl (fun v107 => ?_)
        refine r_aload_n (q := 611) (i := 0) (pl := 0) C d_La_law_610 rfl rfl rfl ?_
        refine r_iload_n (q := 612) (i := 3) (pl := 3) C d_La_law_611 rfl rfl rfl ?_
        refine r_iconst (q := 613) (v := 2) C d_La_law_612 rfl (by decide) ?_
        refine r_iadd (q := 614) C d_La_law_613 rfl ?_
        refine r_sld (q := 615) C hSc d_La_law_614 rfl (fun v108 => ?_)
        refine r_cvI (q := 618) (As := [vI v107, vI v108]) (st := []) (cy := 10) C d_La_law_615 rfl Y_Sn_bits L_La_70 I_Sn_bits Se_Sn_bits rfl (by decide) rfl (Nat.le_of_ble_eq_true rfl) (Nat.le_of_ble_eq_true rfl) (Nat.le_of_ble_eq_true rfl) rfl (fun a109 => con_Sn_bits a109 v107 v108) (fun v110 => ?_)
        refine r_aload_n (q := 619) (i := 2) (pl := 2) C d_La_law_618 rfl rfl rfl ?_
        refine r_aload_n (q := 620) (i := 0) (pl := 0) C d_La_law_619 rfl rfl rfl ?_
        refine r_iload_n (q := 621) (i := 3) (pl := 3) C d_La_law_620 rfl rfl rfl ?_
        refine r_iconst (q := 622) (v := 1) C d_La_law_621 rfl (by decide) ?_
        refine r_iadd (q := 623) C d_La_law_622 rfl ?_
        refine r_sld (q := 624) C hSc d_La_law_623 rfl (fun v111 => ?_)
        refine r_aload_n (q := 625) (i := 0) (pl := 0) C d_La_law_624 rfl rfl rfl ?_
        refine r_iload_n (q := 626) (i := 3) (pl := 3) C d_La_law_625 rfl rfl rfl ?_
        refine r_iconst (q := 627) (v := 2) C d_La_law_626 rfl (by decide) ?_
        refine r_iadd (q := 628) C d_La_law_627 rfl ?_
        refine r_sld (q := 629) C hSc d_La_law_628 rfl (fun v112 => ?_)
        refine r_cvI (q := 632) (As := [vI v111, vI v112]) (st := [vI v110]) (cy := 11) C d_La_law_629 rfl Y_Md_bits L_La_73 I_Md_bits Se_Md_bits rfl (by decide) rfl (Nat.le_of_ble_eq_true rfl) (Nat.le_of_ble_eq_true rfl) (Nat.le_of_ble_eq_true rfl) rfl (fun a113 => con_Md_bits a113 v111 v112) (fun v114 => ?_)
        refine r_icmp_eq (tgt := 842) (q := 635) C d_La_law_632 (by decide) rfl ?_ ?_
        · exact s_La_law_842 C b L xs hSc (f_La_law_18 b L xs n) ih r1 r2 x3
        · refine r_iconst (q := 636) (v := 0) C d_La_law_635 rfl (by decide) ?_
          exact r_zret C d_La_law_636 rfl
      · refine r_aload_n (q := 638) (i := 1) (pl := 1) C d_La_law_637 rfl rfl rfl ?_
        refine r_aload_n (q := 639) (i := 0) (pl := 0) C d_La_law_638 rfl rfl rfl ?_
        refine r_iload_n (q := 640) (i := 3) (pl := 3) C d_La_law_639 rfl rfl rfl ?_
        refine r_iconst (q := 641) (v := 1) C d_La_law_640 rfl (by decide) ?_
        refine r_iadd (q := 642) C d_La_law_641 rfl ?_
        refine r_sld (q := 643) C hSc d_La_law_642 rfl (fun v115 => ?_)
        refine r_aload_n (q := 644) (i := 0) (pl := 0) C d_La_law_643 rfl rfl rfl ?_
        refine r_iload_n (q := 645) (i := 3) (pl := 3) C d_La_law_644 rfl rfl rfl ?_
        refine r_iconst (q := 646) (v := 2) C d_La_law_645 rfl (by decide) ?_
        refine r_iadd (q := 647) C d_La_law_646 rfl ?_
        refine r_sld (q := 648) C hSc d_La_law_647 rfl (fun v116 => ?_)
        refine r_aload_n (q := 649) (i := 0) (pl := 0) C d_La_law_648 rfl rfl rfl ?_
        refine r_iload_n (q := 650) (i := 3) (pl := 3) C d_La_law_649 rfl rfl rfl ?_
        refine r_iconst (q := 651) (v := 3) C d_La_law_650 rfl (by decide) ?_
        refine r_iadd (q := 652) C d_La_law_651 rfl ?_
        refine r_sld (q := 653) C hSc d_La_law_652 rfl (fun v117 => ?_)
        refine r_aload_n (q := 654) (i := 0) (pl := 0) C d_La_law_653 rfl rfl rfl ?_
        refine r_iload_n (q := 655) (i := 3) (pl := 3) C d_La_law_654 rfl rfl rfl ?_
        refine r_iconst (q := 656) (v := 4) C d_La_law_655 rfl (by decide) ?_
        refine r_iadd (q := 657) C d_La_law_656 rfl ?_
        refine r_sld (q := 658) C hSc d_La_law_657 rfl (fun v118 => ?_)
        refine r_cvI (q := 661) (As := [vI v115, vI v116, vI v117, vI v118]) (st := []) (cy := 10) C d_La_law_658 rfl Y_Sn_flow L_La_74 I_Sn_flow Se_Sn_flow rfl (by decide) rfl (Nat.le_of_ble_eq_true rfl) (Nat.le_of_ble_eq_true rfl) (Nat.le_of_ble_eq_true rfl) rfl (fun a119 => con_Sn_flow a119 v115 v116 v117 v118) (fun v120 => ?_)
        refine r_aload_n (q := 662) (i := 2) (pl := 2) C d_La_law_661 rfl rfl rfl ?_
        refine r_aload_n (q := 663) (i := 0) (pl := 0) C d_La_law_662 rfl rfl rfl ?_
        refine r_iload_n (q := 664) (i := 3) (pl := 3) C d_La_law_663 rfl rfl rfl ?_
        refine r_iconst (q := 665) (v := 1) C d_La_law_664 rfl (by decide) ?_
        refine r_iadd (q := 666) C d_La_law_665 rfl ?_
        refine r_sld (q := 667) C hSc d_La_law_666 rfl (fun v121 => ?_)
        refine r_aload_n (q := 668) (i := 0) (pl := 0) C d_La_law_667 rfl rfl rfl ?_
        refine r_iload_n (q := 669) (i := 3) (pl := 3) C d_La_law_668 rfl rfl rfl ?_
        refine r_iconst (q := 670) (v := 2) C d_La_law_669 rfl (by decide) ?_
        refine r_iadd (q := 671) C d_La_law_670 rfl ?_
        refine r_sld (q := 672) C hSc d_La_law_671 rfl (fun v122 => ?_)
        refine r_aload_n (q := 673) (i := 0) (pl := 0) C d_La_law_672 rfl rfl rfl ?_
        refine r_iload_n (q := 674) (i := 3) (pl := 3) C d_La_law_673 rfl rfl rfl ?_
        refine r_iconst (q := 675) (v := 3) C d_La_law_674 rfl (by decide) ?_
        refine r_iadd (q := 676) C d_La_law_675 rfl ?_
        refine r_sld (q := 677) C hSc d_La_law_676 rfl (fun v123 => ?_)
        refine r_aload_n (q := 678) (i := 0) (pl := 0) C d_La_law_677 rfl rfl rfl ?_
        refine r_iload_n (q := 679) (i := 3) (pl := 3) C d_La_law_678 rfl rfl rfl ?_
        refine r_iconst (q := 680) (v := 4) C d_La_law_679 rfl (by decide) ?_
        refine r_iadd (q := 681) C d_La_law_680 rfl ?_
        refine r_sld (q := 682) C hSc d_La_law_681 rfl (fun v124 => ?_)
        refine r_cvI (q := 685) (As := [vI v121, vI v122, vI v123, vI v124]) (st := [vI v120]) (cy := 11) C d_La_law_682 rfl Y_Md_flow L_La_78 I_Md_flow Se_Md_flow rfl (by decide) rfl (Nat.le_of_ble_eq_true rfl) (Nat.le_of_ble_eq_true rfl) (Nat.le_of_ble_eq_true rfl) rfl (fun a125 => con_Md_flow a125 v121 v122 v123 v124) (fun v126 => ?_)
        refine r_icmp_eq (tgt := 842) (q := 688) C d_La_law_685 (by decide) rfl ?_ ?_
        · exact s_La_law_842 C b L xs hSc (f_La_law_18 b L xs n) ih r1 r2 x3
        · refine r_iconst (q := 689) (v := 0) C d_La_law_688 rfl (by decide) ?_
          exact r_zret C d_La_law_689 rfl
      · refine r_aload_n (q := 691) (i := 1) (pl := 1) C d_La_law_690 rfl rfl rfl ?_
        refine r_aload_n (q := 692) (i := 0) (pl := 0) C d_La_law_691 rfl rfl rfl ?_
        refine r_iload_n (q := 693) (i := 3) (pl := 3) C d_La_law_692 rfl rfl rfl ?_
        refine r_iconst (q := 694) (v := 1) C d_La_law_693 rfl (by decide) ?_
        refine r_iadd (q := 695) C d_La_law_694 rfl ?_
        refine r_sld (q := 696) C hSc d_La_law_695 rfl (fun v127 => ?_)
        refine r_aload_n (q := 697) (i := 0) (pl := 0) C d_La_law_696 rfl rfl rfl ?_
        refine r_iload_n (q := 698) (i := 3) (pl := 3) C d_La_law_697 rfl rfl rfl ?_
        refine r_iconst (q := 699) (v := 2) C d_La_law_698 rfl (by decide) ?_
        refine r_iadd (q := 700) C d_La_law_699 rfl ?_
        refine r_sld (q := 701) C hSc d_La_law_700 rfl (fun v128 => ?_)
        refine r_aload_n (q := 702) (i := 0) (pl := 0) C d_La_law_701 rfl rfl rfl ?_
        refine r_iload_n (q := 703) (i := 3) (pl := 3) C d_La_law_702 rfl rfl rfl ?_
        refine r_iconst (q := 704) (v := 3) C d_La_law_703 rfl (by decide) ?_
        refine r_iadd (q := 705) C d_La_law_704 rfl ?_
        refine r_sld (q := 706) C hSc d_La_law_705 rfl (fun v129 => ?_)
        refine r_cvI (q := 709) (As := [vI v127, vI v128, vI v129]) (st := []) (cy := 10) C d_La_law_706 rfl Y_Sn_next L_La_79 I_Sn_next Se_Sn_next rfl (by decide) rfl (Nat.le_of_ble_eq_true rfl) (Nat.le_of_ble_eq_true rfl) (Nat.le_of_ble_eq_true rfl) rfl (fun a130 => con_Sn_next a130 v127 v128 v129) (fun v131 => ?_)
        refine r_aload_n (q := 710) (i := 2) (pl := 2) C d_La_law_709 rfl rfl rfl ?_
        refine r_aload_n (q := 711) (i := 0) (pl := 0) C d_La_law_710 rfl rfl rfl ?_
        refine r_iload_n (q := 712) (i := 3) (pl := 3) C d_La_law_711 rfl rfl rfl ?_
        refine r_iconst (q := 713) (v := 1) C d_La_law_712 rfl (by decide) ?_
        refine r_iadd (q := 714) C d_La_law_713 rfl ?_
        refine r_sld (q := 715) C hSc d_La_law_714 rfl (fun v132 => ?_)
        refine r_aload_n (q := 716) (i := 0) (pl := 0) C d_La_law_715 rfl rfl rfl ?_
        refine r_iload_n (q := 717) (i := 3) (pl := 3) C d_La_law_716 rfl rfl rfl ?_
        refine r_iconst (q := 718) (v := 2) C d_La_law_717 rfl (by decide) ?_
        refine r_iadd (q := 719) C d_La_law_718 rfl ?_
        refine r_sld (q := 720) C hSc d_La_law_719 rfl (fun v133 => ?_)
        refine r_aload_n (q := 721) (i := 0) (pl := 0) C d_La_law_720 rfl rfl rfl ?_
        refine r_iload_n (q := 722) (i := 3) (pl := 3) C d_La_law_721 rfl rfl rfl ?_
        refine r_iconst (q := 723) (v := 3) C d_La_law_722 rfl (by decide) ?_
        refine r_iadd (q := 724) C d_La_law_723 rfl ?_
        refine r_sld (q := 725) C hSc d_La_law_724 rfl (fun v134 => ?_)
        refine r_cvI (q := 728) (As := [vI v132, vI v133, vI v134]) (st := [vI v131]) (cy := 11) C d_La_law_725 rfl Y_Md_next L_La_82 I_Md_next Se_Md_next rfl (by decide) rfl (Nat.le_of_ble_eq_true rfl) (Nat.le_of_ble_eq_true rfl) (Nat.le_of_ble_eq_true rfl) rfl (fun a135 => con_Md_next a135 v132 v133 v134) (fun v136 => ?_)
        refine r_icmp_eq (tgt := 842) (q := 731) C d_La_law_728 (by decide) rfl ?_ ?_
        · exact s_La_law_842 C b L xs hSc (f_La_law_18 b L xs n) ih r1 r2 x3
        · refine r_iconst (q := 732) (v := 0) C d_La_law_731 rfl (by decide) ?_
          exact r_zret C d_La_law_732 rfl
      · refine r_aload_n (q := 734) (i := 1) (pl := 1) C d_La_law_733 rfl rfl rfl ?_
        refine r_aload_n (q := 735) (i := 0) (pl := 0) C d_La_law_734 rfl rfl rfl ?_
        refine r_iload_n (q := 736) (i := 3) (pl := 3) C d_La_law_735 rfl rfl rfl ?_
        refine r_iconst (q := 737) (v := 1) C d_La_law_736 rfl (by decide) ?_
        refine r_iadd (q := 738) C d_La_law_737 rfl ?_
        refine r_sld (q := 739) C hSc d_La_law_738 rfl (fun v137 => ?_)
        refine r_aload_n (q := 740) (i := 0) (pl := 0) C d_La_law_739 rfl rfl rfl ?_
        refine r_iload_n (q := 741) (i := 3) (pl := 3) C d_La_law_740 rfl rfl rfl ?_
        refine r_iconst (q := 742) (v := 2) C d_La_law_741 rfl (by decide) ?_
        refine r_iadd (q := 743) C d_La_law_742 rfl ?_
        refine r_sld (q := 744) C hSc d_La_law_743 rfl (fun v138 => ?_)
        refine r_aload_n (q := 745) (i := 0) (pl := 0) C d_La_law_744 rfl rfl rfl ?_
        refine r_iload_n (q := 746) (i := 3) (pl := 3) C d_La_law_745 rfl rfl rfl ?_
        refine r_iconst (q := 747) (v := 3) C d_La_law_746 rfl (by decide) ?_
        refine r_iadd (q := 748) C d_La_law_747 rfl ?_
        refine r_sld (q := 749) C hSc d_La_law_748 rfl (fun v139 => ?_)
        refine r_aload_n (q := 750) (i := 0) (pl := 0) C d_La_law_749 rfl rfl rfl ?_
        refine r_iload_n (q := 751) (i := 3) (pl := 3) C d_La_law_750 rfl rfl rfl ?_
        refine r_iconst (q := 752) (v := 4) C d_La_law_751 rfl (by decide) ?_
        refine r_iadd (q := 753) C d_La_law_752 rfl ?_
        refine r_sld (q := 754) C hSc d_La_law_753 rfl (fun v140 => ?_)
        refine r_cvI (q := 757) (As := [vI v137, vI v138, vI v139, vI v140]) (st := []) (cy := 10) C d_La_law_754 rfl Y_Sn_circuit L_La_83 I_Sn_circuit Se_Sn_circuit rfl (by decide) rfl (Nat.le_of_ble_eq_true rfl) (Nat.le_of_ble_eq_true rfl) (Nat.le_of_ble_eq_true rfl) rfl (fun a141 => con_Sn_circuit a141 v137 v138 v139 v140) (fun v142 => ?_)
        refine r_aload_n (q := 758) (i := 2) (pl := 2) C d_La_law_757 rfl rfl rfl ?_
        refine r_aload_n (q := 759) (i := 0) (pl := 0) C d_La_law_758 rfl rfl rfl ?_
        refine r_iload_n (q := 760) (i := 3) (pl := 3) C d_La_law_759 rfl rfl rfl ?_
        refine r_iconst (q := 761) (v := 1) C d_La_law_760 rfl (by decide) ?_
        refine r_iadd (q := 762) C d_La_law_761 rfl ?_
        refine r_sld (q := 763) C hSc d_La_law_762 rfl (fun v143 => ?_)
        refine r_aload_n (q := 764) (i := 0) (pl := 0) C d_La_law_763 rfl rfl rfl ?_
        refine r_iload_n (q := 765) (i := 3) (pl := 3) C d_La_law_764 rfl rfl rfl ?_
        refine r_iconst (q := 766) (v := 2) C d_La_law_765 rfl (by decide) ?_
        refine r_iadd (q := 767) C d_La_law_766 rfl ?_
        refine r_sld (q := 768) C hSc d_La_law_767 rfl (fun v144 => ?_)
        refine r_aload_n (q := 769) (i := 0) (pl := 0) C d_La_law_768 rfl rfl rfl ?_
        refine r_iload_n (q := 770) (i := 3) (pl := 3) C d_La_law_769 rfl rfl rfl ?_
        refine r_iconst (q := 771) (v := 3) C d_La_law_770 rfl (by decide) ?_
        refine r_iadd (q := 772) C d_La_law_771 rfl ?_
        refine r_sld (q := 773) C hSc d_La_law_772 rfl (fun v145 => ?_)
        refine r_aload_n (q := 774) (i := 0) (pl := 0) C d_La_law_773 rfl rfl rfl ?_
        refine r_iload_n (q := 775) (i := 3) (pl := 3) C d_La_law_774 rfl rfl rfl ?_
        refine r_iconst (q := 776) (v := 4) C d_La_law_775 rfl (by decide) ?_
        refine r_iadd (q := 777) C d_La_law_776 rfl ?_
        refine r_sld (q := 778) C hSc d_La_law_777 rfl (fun v146 => ?_)
        refine r_cvI (q := 781) (As := [vI v143, vI v144, vI v145, vI v146]) (st := [vI v142]) (cy := 11) C d_La_law_778 rfl Y_Md_circuit L_La_86 I_Md_circuit Se_Md_circuit rfl (by decide) rfl (Nat.le_of_ble_eq_true rfl) (Nat.le_of_ble_eq_true rfl) (Nat.le_of_ble_eq_true rfl) rfl (fun a147 => con_Md_circuit a147 v143 v144 v145 v146) (fun v148 => ?_)
        refine r_icmp_eq (tgt := 842) (q := 784) C d_La_law_781 (by decide) rfl ?_ ?_
        · exact s_La_law_842 C b L xs hSc (f_La_law_18 b L xs n) ih r1 r2 x3
        · refine r_iconst (q := 785) (v := 0) C d_La_law_784 rfl (by decide) ?_
          exact r_zret C d_La_law_785 rfl
      · refine r_aload_n (q := 787) (i := 1) (pl := 1) C d_La_law_786 rfl rfl rfl ?_
        refine r_aload_n (q := 788) (i := 0) (pl := 0) C d_La_law_787 rfl rfl rfl ?_
        refine r_iload_n (q := 789) (i := 3) (pl := 3) C d_La_law_788 rfl rfl rfl ?_
        refine r_iconst (q := 790) (v := 1) C d_La_law_789 rfl (by decide) ?_
        refine r_iadd (q := 791) C d_La_law_790 rfl ?_
        refine r_sld (q := 792) C hSc d_La_law_791 rfl (fun v149 => ?_)
        refine r_aload_n (q := 793) (i := 0) (pl := 0) C d_La_law_792 rfl rfl rfl ?_
        refine r_iload_n (q := 794) (i := 3) (pl := 3) C d_La_law_793 rfl rfl rfl ?_
        refine r_iconst (q := 795) (v := 2) C d_La_law_794 rfl (by decide) ?_
        refine r_iadd (q := 796) C d_La_law_795 rfl ?_
        refine r_sld (q := 797) C hSc d_La_law_796 rfl (fun v150 => ?_)
        refine r_cvI (q := 800) (As := [vI v149, vI v150]) (st := []) (cy := 10) C d_La_law_797 rfl Y_Sn_subscriber L_La_87 I_Sn_subscriber Se_Sn_subscriber rfl (by decide) rfl (Nat.le_of_ble_eq_true rfl) (Nat.le_of_ble_eq_true rfl) (Nat.le_of_ble_eq_true rfl) rfl (fun a151 => con_Sn_subscriber a151 v149 v150) (fun v152 => ?_)
        refine r_aload_n (q := 801) (i := 2) (pl := 2) C d_La_law_800 rfl rfl rfl ?_
        refine r_aload_n (q := 802) (i := 0) (pl := 0) C d_La_law_801 rfl rfl rfl ?_
        refine r_iload_n (q := 803) (i := 3) (pl := 3) C d_La_law_802 rfl rfl rfl ?_
        refine r_iconst (q := 804) (v := 1) C d_La_law_803 rfl (by decide) ?_
        refine r_iadd (q := 805) C d_La_law_804 rfl ?_
        refine r_sld (q := 806) C hSc d_La_law_805 rfl (fun v153 => ?_)
        refine r_aload_n (q := 807) (i := 0) (pl := 0) C d_La_law_806 rfl rfl rfl ?_
        refine r_iload_n (q := 808) (i := 3) (pl := 3) C d_La_law_807 rfl rfl rfl ?_
        refine r_iconst (q := 809) (v := 2) C d_La_law_808 rfl (by decide) ?_
        refine r_iadd (q := 810) C d_La_law_809 rfl ?_
        refine r_sld (q := 811) C hSc d_La_law_810 rfl (fun v154 => ?_)
        refine r_cvI (q := 814) (As := [vI v153, vI v154]) (st := [vI v152]) (cy := 11) C d_La_law_811 rfl Y_Md_subscriber L_La_90 I_Md_subscriber Se_Md_subscriber rfl (by decide) rfl (Nat.le_of_ble_eq_true rfl) (Nat.le_of_ble_eq_true rfl) (Nat.le_of_ble_eq_true rfl) rfl (fun a155 => con_Md_subscriber a155 v153 v154) (fun v156 => ?_)
        refine r_icmp_eq (tgt := 842) (q := 817) C d_La_law_814 (by decide) rfl ?_ ?_
        · exact s_La_law_842 C b L xs hSc (f_La_law_18 b L xs n) ih r1 r2 x3
        · refine r_iconst (q := 818) (v := 0) C d_La_law_817 rfl (by decide) ?_
          exact r_zret C d_La_law_818 rfl
      · refine r_aload_n (q := 820) (i := 1) (pl := 1) C d_La_law_819 rfl rfl rfl ?_
        refine r_aload_n (q := 821) (i := 0) (pl := 0) C d_La_law_820 rfl rfl rfl ?_
        refine r_iload_n (q := 822) (i := 3) (pl := 3) C d_La_law_821 rfl rfl rfl ?_
        refine r_iconst (q := 823) (v := 1) C d_La_law_822 rfl (by decide) ?_
        refine r_iadd (q := 824) C d_La_law_823 rfl ?_
        refine r_sld (q := 825) C hSc d_La_law_824 rfl (fun v157 => ?_)
        refine r_cvI (q := 828) (As := [vI v157]) (st := []) (cy := 10) C d_La_law_825 rfl Y_Sn_counted L_La_91 I_Sn_counted Se_Sn_counted rfl (by decide) rfl (Nat.le_of_ble_eq_true rfl) (Nat.le_of_ble_eq_true rfl) (Nat.le_of_ble_eq_true rfl) rfl (fun a158 => con_Sn_counted a158 v157) (fun v159 => ?_)
        refine r_aload_n (q := 829) (i := 2) (pl := 2) C d_La_law_828 rfl rfl rfl ?_
        refine r_aload_n (q := 830) (i := 0) (pl := 0) C d_La_law_829 rfl rfl rfl ?_
        refine r_iload_n (q := 831) (i := 3) (pl := 3) C d_La_law_830 rfl rfl rfl ?_
        refine r_iconst (q := 832) (v := 1) C d_La_law_831 rfl (by decide) ?_
        refine r_iadd (q := 833) C d_La_law_832 rfl ?_
        refine r_sld (q := 834) C hSc d_La_law_833 rfl (fun v160 => ?_)
        refine r_cvI (q := 837) (As := [vI v160]) (st := [vI v159]) (cy := 11) C d_La_law_834 rfl Y_Md_counted L_La_94 I_Md_counted Se_Md_counted rfl (by decide) rfl (Nat.le_of_ble_eq_true rfl) (Nat.le_of_ble_eq_true rfl) (Nat.le_of_ble_eq_true rfl) rfl (fun a161 => con_Md_counted a161 v160) (fun v162 => ?_)
        refine r_icmp_eq (tgt := 842) (q := 840) C d_La_law_837 (by decide) rfl ?_ ?_
        · exact s_La_law_842 C b L xs hSc (f_La_law_18 b L xs n) ih r1 r2 x3
        · refine r_iconst (q := 841) (v := 0) C d_La_law_840 rfl (by decide) ?_
          exact r_zret C d_La_law_841 rfl
def f_La_law (b L : Nat) (xs : Nat → Int32) : sn_M := n_O 11 5 fun v163 => n_n 11 v163 fun o164 => c_V (f_Sn_init o164) (n_O 12 64 fun v165 => n_n 12 v165 fun o166 => c_V (f_Md_init o166) (f_La_law_18 b L xs sn_fuel v163 v165 (0 : Int32)))
set_option maxHeartbeats 4000000 in
set_option maxRecDepth 100000 in
theorem mono_La_law (b L : Nat) (xs : Nat → Int32) : sn_Mono (f_La_law b L xs) := sn_Mono.nO (fun v163 => sn_Mono.nn (fun o164 => sn_Mono.cV (mono_Sn_init o164) (sn_Mono.nO (fun v165 => sn_Mono.nn (fun o166 => sn_Mono.cV (mono_Md_init o166) (mono_La_law_18 b L xs sn_fuel v163 v165 (0 : Int32)))))))
set_option maxHeartbeats 4000000 in
set_option maxRecDepth 100000 in
theorem s_La_law {X : sn_X} {nm9 : String} (C : sn_Cx X c_La_law "SignalNetworkLaw" (some .boolean) nm9 4 16 394) (b L : Nat) (xs : Nat → Int32) (hSc : sn_Sc X b L xs) : sn_S X 0 [(0, vA (some b))] [] (f_La_law b L xs) := by
  unfold f_La_law
  refine r_new (q := 3) C d_La_law_0 rfl CF11 C_La_7 In_Sn Ii_Sn (fun v163 => ?_)
  refine r_dup (q := 4) C d_La_law_3 rfl rfl ?_
  refine r_ciV (q := 7) (As := []) (st := [vA v163]) (cy := 10) C d_La_law_4 rfl Y_Sn_init L_La_9 I_Sn_init rfl rfl rfl (Nat.le_of_ble_eq_true rfl) (Nat.le_of_ble_eq_true rfl) (Nat.le_of_ble_eq_true rfl) rfl (fun o164 => con_Sn_init o164) ?_
  refine r_astore_n (q := 8) (i := 1) (lv' := [(1, vA v163), (0, vA (some b))]) C d_La_law_7 rfl rfl (by decide) rfl ?_
  refine r_new (q := 11) C d_La_law_8 rfl CF12 C_La_10 In_Md Ii_Md (fun v165 => ?_)
  refine r_dup (q := 12) C d_La_law_11 rfl rfl ?_
  refine r_ciV (q := 15) (As := []) (st := [vA v165]) (cy := 11) C d_La_law_12 rfl Y_Md_init L_La_12 I_Md_init rfl rfl rfl (Nat.le_of_ble_eq_true rfl) (Nat.le_of_ble_eq_true rfl) (Nat.le_of_ble_eq_true rfl) rfl (fun o166 => con_Md_init o166) ?_
  refine r_astore_n (q := 16) (i := 2) (lv' := [(2, vA v165), (1, vA v163), (0, vA (some b))]) C d_La_law_15 rfl rfl (by decide) rfl ?_
  refine r_iconst (q := 17) (v := 0) C d_La_law_16 rfl (by decide) ?_
  refine r_istore_n (q := 18) (i := 3) (lv' := [(3, vI (0 : Int32)), (2, vA v165), (1, vA v163), (0, vA (some b))]) C d_La_law_17 rfl rfl (by decide) rfl ?_
  refine r_sub (lv' := [(0, vA (some b)), (1, vA v163), (2, vA v165), (3, vI (0 : Int32))]) [3, 2, 1, 0] rfl ?_
  exact s_La_law_18 C b L xs hSc sn_fuel v163 v165 (0 : Int32)
