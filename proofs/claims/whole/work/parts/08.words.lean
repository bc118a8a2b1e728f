theorem CF0 : sn_CF 0 "SignalNetwork$Clock" T0 1 ty0 := ⟨rfl, by decide, in0, ty0_ok, n0_ok, fun k hk => match k, hk with | 0, _ => rfl | n + 1, h => absurd h (by omega)⟩
theorem CF1 : sn_CF 1 "SignalNetwork$End" T1 19 ty1 := ⟨rfl, by decide, in1, ty1_ok, n1_ok, fun k hk => match k, hk with | 0, _ => rfl | 1, _ => rfl | 2, _ => rfl | 3, _ => rfl | 4, _ => rfl | 5, _ => rfl | 6, _ => rfl | 7, _ => rfl | 8, _ => rfl | 9, _ => rfl | 10, _ => rfl | 11, _ => rfl | 12, _ => rfl | 13, _ => rfl | 14, _ => rfl | 15, _ => rfl | 16, _ => rfl | 17, _ => rfl | 18, _ => rfl | n + 19, h => absurd h (by omega)⟩
theorem CF2 : sn_CF 2 "SignalNetwork$Flow" T2 7 ty2 := ⟨rfl, by decide, in2, ty2_ok, n2_ok, fun k hk => match k, hk with | 0, _ => rfl | 1, _ => rfl | 2, _ => rfl | 3, _ => rfl | 4, _ => rfl | 5, _ => rfl | 6, _ => rfl | n + 7, h => absurd h (by omega)⟩
theorem CF3 : sn_CF 3 "SignalNetwork$Leg" T3 12 ty3 := ⟨rfl, by decide, in3, ty3_ok, n3_ok, fun k hk => match k, hk with | 0, _ => rfl | 1, _ => rfl | 2, _ => rfl | 3, _ => rfl | 4, _ => rfl | 5, _ => rfl | 6, _ => rfl | 7, _ => rfl | 8, _ => rfl | 9, _ => rfl | 10, _ => rfl | 11, _ => rfl | n + 12, h => absurd h (by omega)⟩
theorem CF5 : sn_CF 4 "SignalNetwork$Plan" T5 8 ty5 := ⟨rfl, by decide, in5, ty5_ok, n5_ok, fun k hk => match k, hk with | 0, _ => rfl | 1, _ => rfl | 2, _ => rfl | 3, _ => rfl | 4, _ => rfl | 5, _ => rfl | 6, _ => rfl | 7, _ => rfl | n + 8, h => absurd h (by omega)⟩
theorem CF6 : sn_CF 5 "SignalNetwork$Queue" T6 3 ty6 := ⟨rfl, by decide, in6, ty6_ok, n6_ok, fun k hk => match k, hk with | 0, _ => rfl | 1, _ => rfl | 2, _ => rfl | n + 3, h => absurd h (by omega)⟩
theorem CF7 : sn_CF 6 "SignalNetwork$Switchboard" T7 5 ty7 := ⟨rfl, by decide, in7, ty7_ok, n7_ok, fun k hk => match k, hk with | 0, _ => rfl | 1, _ => rfl | 2, _ => rfl | 3, _ => rfl | 4, _ => rfl | n + 5, h => absurd h (by omega)⟩
theorem CF8 : sn_CF 7 "SignalNetwork$Transfer" T8 10 ty8 := ⟨rfl, by decide, in8, ty8_ok, n8_ok, fun k hk => match k, hk with | 0, _ => rfl | 1, _ => rfl | 2, _ => rfl | 3, _ => rfl | 4, _ => rfl | 5, _ => rfl | 6, _ => rfl | 7, _ => rfl | 8, _ => rfl | 9, _ => rfl | n + 10, h => absurd h (by omega)⟩
theorem CF9 : sn_CF 8 "SignalNetwork$Unit" T9 7 ty9 := ⟨rfl, by decide, in9, ty9_ok, n9_ok, fun k hk => match k, hk with | 0, _ => rfl | 1, _ => rfl | 2, _ => rfl | 3, _ => rfl | 4, _ => rfl | 5, _ => rfl | 6, _ => rfl | n + 7, h => absurd h (by omega)⟩
theorem CF10 : sn_CF 9 "SignalNetwork$Window" T10 9 ty10 := ⟨rfl, by decide, in10, ty10_ok, n10_ok, fun k hk => match k, hk with | 0, _ => rfl | 1, _ => rfl | 2, _ => rfl | 3, _ => rfl | 4, _ => rfl | 5, _ => rfl | 6, _ => rfl | 7, _ => rfl | 8, _ => rfl | n + 9, h => absurd h (by omega)⟩
theorem CF11 : sn_CF 10 "SignalNetwork" T11 5 ty11 := ⟨rfl, by decide, in11, ty11_ok, n11_ok, fun k hk => match k, hk with | 0, _ => rfl | 1, _ => rfl | 2, _ => rfl | 3, _ => rfl | 4, _ => rfl | n + 5, h => absurd h (by omega)⟩
theorem CF12 : sn_CF 11 "SignalNetworkModel" T12 64 ty12 := ⟨rfl, by decide, in12, ty12_ok, n12_ok, fun k hk => match k, hk with | 0, _ => rfl | 1, _ => rfl | 2, _ => rfl | 3, _ => rfl | 4, _ => rfl | 5, _ => rfl | 6, _ => rfl | 7, _ => rfl | 8, _ => rfl | 9, _ => rfl | 10, _ => rfl | 11, _ => rfl | 12, _ => rfl | 13, _ => rfl | 14, _ => rfl | 15, _ => rfl | 16, _ => rfl | 17, _ => rfl | 18, _ => rfl | 19, _ => rfl | 20, _ => rfl | 21, _ => rfl | 22, _ => rfl | 23, _ => rfl | 24, _ => rfl | 25, _ => rfl | 26, _ => rfl | 27, _ => rfl | 28, _ => rfl | 29, _ => rfl | 30, _ => rfl | 31, _ => rfl | 32, _ => rfl | 33, _ => rfl | 34, _ => rfl | 35, _ => rfl | 36, _ => rfl | 37, _ => rfl | 38, _ => rfl | 39, _ => rfl | 40, _ => rfl | 41, _ => rfl | 42, _ => rfl | 43, _ => rfl | 44, _ => rfl | 45, _ => rfl | 46, _ => rfl | 47, _ => rfl | 48, _ => rfl | 49, _ => rfl | 50, _ => rfl | 51, _ => rfl | 52, _ => rfl | 53, _ => rfl | 54, _ => rfl | 55, _ => rfl | 56, _ => rfl | 57, _ => rfl | 58, _ => rfl | 59, _ => rfl | 60, _ => rfl | 61, _ => rfl | 62, _ => rfl | 63, _ => rfl | n + 64, h => absurd h (by omega)⟩
abbrev y_Ck_init : MethodName := ⟨"SignalNetwork$Clock", "<init>", "()V"⟩
abbrev c_Ck_init : ByteArray := prog_2_method_1_code
abbrev y_Ck_beginLooking : MethodName := ⟨"SignalNetwork$Clock", "beginLooking", "()V"⟩
abbrev c_Ck_beginLooking : ByteArray := prog_2_method_2_code
abbrev y_Ck_after : MethodName := ⟨"SignalNetwork$Clock", "after", "(I)I"⟩
abbrev c_Ck_after : ByteArray := prog_2_method_3_code
abbrev y_Ck_isOut : MethodName := ⟨"SignalNetwork$Clock", "isOut", "(I)Z"⟩
abbrev c_Ck_isOut : ByteArray := prog_2_method_4_code
abbrev y_Ck_left : MethodName := ⟨"SignalNetwork$Clock", "left", "(I)I"⟩
abbrev c_Ck_left : ByteArray := prog_2_method_5_code
abbrev y_Un_init : MethodName := ⟨"SignalNetwork$Unit", "<init>", "()V"⟩
abbrev c_Un_init : ByteArray := prog_11_method_1_code
abbrev y_Ma_max : MethodName := ⟨"java/lang/Math", "max", "(II)I"⟩
abbrev c_Ma_max : ByteArray := prog_15_method_65_code
abbrev y_Qu_init : MethodName := ⟨"SignalNetwork$Queue", "<init>", "(I)V"⟩
abbrev c_Qu_init : ByteArray := prog_8_method_1_code
abbrev y_Wi_stop : MethodName := ⟨"SignalNetwork$Window", "stop", "()V"⟩
abbrev c_Wi_stop : ByteArray := prog_12_method_3_code
abbrev y_Wi_reset : MethodName := ⟨"SignalNetwork$Window", "reset", "()V"⟩
abbrev c_Wi_reset : ByteArray := prog_12_method_2_code
abbrev y_Wi_init : MethodName := ⟨"SignalNetwork$Window", "<init>", "(LSignalNetwork$Clock;)V"⟩
abbrev c_Wi_init : ByteArray := prog_12_method_1_code
abbrev y_En_init : MethodName := ⟨"SignalNetwork$End", "<init>", "(IIILSignalNetwork$Clock;)V"⟩
abbrev c_En_init : ByteArray := prog_3_method_1_code
abbrev y_En_enter : MethodName := ⟨"SignalNetwork$End", "enter", "(II)V"⟩
abbrev c_En_enter : ByteArray := prog_3_method_4_code
abbrev y_En_start : MethodName := ⟨"SignalNetwork$End", "start", "(Z)V"⟩
abbrev c_En_start : ByteArray := prog_3_method_2_code
abbrev y_En_fallOut : MethodName := ⟨"SignalNetwork$End", "fallOut", "()V"⟩
abbrev c_En_fallOut : ByteArray := prog_3_method_3_code
abbrev y_En_isDamagedNow : MethodName := ⟨"SignalNetwork$End", "isDamagedNow", "()Z"⟩
abbrev c_En_isDamagedNow : ByteArray := prog_3_method_5_code
abbrev y_En_isProve : MethodName := ⟨"SignalNetwork$End", "isProve", "(I)Z"⟩
abbrev c_En_isProve : ByteArray := prog_3_method_7_code
abbrev y_En_prove : MethodName := ⟨"SignalNetwork$End", "prove", "(I)V"⟩
abbrev c_En_prove : ByteArray := prog_3_method_10_code
abbrev y_En_hearAligned : MethodName := ⟨"SignalNetwork$End", "hearAligned", "(I)I"⟩
abbrev c_En_hearAligned : ByteArray := prog_3_method_9_code
abbrev y_En_err : MethodName := ⟨"SignalNetwork$End", "err", "()I"⟩
abbrev c_En_err : ByteArray := prog_3_method_12_code
abbrev y_En_hearProving : MethodName := ⟨"SignalNetwork$End", "hearProving", "(I)I"⟩
abbrev c_En_hearProving : ByteArray := prog_3_method_11_code
abbrev y_En_serve : MethodName := ⟨"SignalNetwork$End", "serve", "()I"⟩
abbrev c_En_serve : ByteArray := prog_3_method_14_code
abbrev y_En_hearReady : MethodName := ⟨"SignalNetwork$End", "hearReady", "(I)I"⟩
abbrev c_En_hearReady : ByteArray := prog_3_method_13_code
abbrev y_En_hearSeeking : MethodName := ⟨"SignalNetwork$End", "hearSeeking", "(I)I"⟩
abbrev c_En_hearSeeking : ByteArray := prog_3_method_8_code
abbrev y_En_hear : MethodName := ⟨"SignalNetwork$End", "hear", "(II)I"⟩
abbrev c_En_hear : ByteArray := prog_3_method_6_code
abbrev y_En_becomeReady : MethodName := ⟨"SignalNetwork$End", "becomeReady", "()V"⟩
abbrev c_En_becomeReady : ByteArray := prog_3_method_15_code
abbrev y_Qu_at : MethodName := ⟨"SignalNetwork$Queue", "at", "(I)J"⟩
abbrev c_Qu_at : ByteArray := prog_8_method_3_code
abbrev y_Ma_floorMod : MethodName := ⟨"java/lang/Math", "floorMod", "(II)I"⟩
abbrev c_Ma_floorMod : ByteArray := prog_15_method_50_code
abbrev y_Wi_numberOf : MethodName := ⟨"SignalNetwork$Window", "numberOf", "(I)I"⟩
abbrev c_Wi_numberOf : ByteArray := prog_12_method_6_code
abbrev y_Wi_repeat : MethodName := ⟨"SignalNetwork$Window", "repeat", "(LSignalNetwork$Unit;)V"⟩
abbrev c_Wi_repeat : ByteArray := prog_12_method_8_code
abbrev y_Qu_add : MethodName := ⟨"SignalNetwork$Queue", "add", "(J)Z"⟩
abbrev c_Qu_add : ByteArray := prog_8_method_2_code
abbrev y_Qu_drop : MethodName := ⟨"SignalNetwork$Queue", "drop", "(I)V"⟩
abbrev c_Qu_drop : ByteArray := prog_8_method_5_code
abbrev y_Qu_takeFirst : MethodName := ⟨"SignalNetwork$Queue", "takeFirst", "()J"⟩
abbrev c_Qu_takeFirst : ByteArray := prog_8_method_4_code
abbrev y_Wi_sendAnew : MethodName := ⟨"SignalNetwork$Window", "sendAnew", "(LSignalNetwork$Unit;)V"⟩
abbrev c_Wi_sendAnew : ByteArray := prog_12_method_9_code
abbrev y_Wi_fill : MethodName := ⟨"SignalNetwork$Window", "fill", "(LSignalNetwork$Unit;)V"⟩
abbrev c_Wi_fill : ByteArray := prog_12_method_7_code
abbrev y_En_sendUnit : MethodName := ⟨"SignalNetwork$End", "sendUnit", "()V"⟩
abbrev c_En_sendUnit : ByteArray := prog_3_method_16_code
abbrev y_En_tell : MethodName := ⟨"SignalNetwork$End", "tell", "(I)I"⟩
abbrev c_En_tell : ByteArray := prog_3_method_17_code
abbrev y_Fl_init : MethodName := ⟨"SignalNetwork$Flow", "<init>", "(I)V"⟩
abbrev c_Fl_init : ByteArray := prog_4_method_1_code
abbrev y_Fl_isOpen : MethodName := ⟨"SignalNetwork$Flow", "isOpen", "()Z"⟩
abbrev c_Fl_isOpen : ByteArray := prog_4_method_2_code
abbrev y_Fl_place : MethodName := ⟨"SignalNetwork$Flow", "place", "()LSignalNetwork$Queue;"⟩
abbrev c_Fl_place : ByteArray := prog_4_method_3_code
abbrev y_Fl_holdFor : MethodName := ⟨"SignalNetwork$Flow", "holdFor", "(LSignalNetwork$End;)V"⟩
abbrev c_Fl_holdFor : ByteArray := prog_4_method_4_code
abbrev y_Fl_free : MethodName := ⟨"SignalNetwork$Flow", "free", "(LSignalNetwork$End;)V"⟩
abbrev c_Fl_free : ByteArray := prog_4_method_5_code
abbrev y_Fl_tell : MethodName := ⟨"SignalNetwork$Flow", "tell", "(I)I"⟩
abbrev c_Fl_tell : ByteArray := prog_4_method_6_code
abbrev y_Lg_init : MethodName := ⟨"SignalNetwork$Leg", "<init>", "(III)V"⟩
abbrev c_Lg_init : ByteArray := prog_5_method_1_code
abbrev y_Lg_isSubscriber : MethodName := ⟨"SignalNetwork$Leg", "isSubscriber", "()Z"⟩
abbrev c_Lg_isSubscriber : ByteArray := prog_5_method_2_code
abbrev y_Lg_isFree : MethodName := ⟨"SignalNetwork$Leg", "isFree", "()Z"⟩
abbrev c_Lg_isFree : ByteArray := prog_5_method_3_code
abbrev y_Lg_isInCall : MethodName := ⟨"SignalNetwork$Leg", "isInCall", "()Z"⟩
abbrev c_Lg_isInCall : ByteArray := prog_5_method_4_code
abbrev y_Lg_isAnswered : MethodName := ⟨"SignalNetwork$Leg", "isAnswered", "()Z"⟩
abbrev c_Lg_isAnswered : ByteArray := prog_5_method_5_code
abbrev y_Lg_controls : MethodName := ⟨"SignalNetwork$Leg", "controls", "()Z"⟩
abbrev c_Lg_controls : ByteArray := prog_5_method_6_code
abbrev y_Lg_code : MethodName := ⟨"SignalNetwork$Leg", "code", "()I"⟩
abbrev c_Lg_code : ByteArray := prog_5_method_7_code
abbrev y_Lg_joinedCode : MethodName := ⟨"SignalNetwork$Leg", "joinedCode", "()I"⟩
abbrev c_Lg_joinedCode : ByteArray := prog_5_method_8_code
abbrev y_Lg_part : MethodName := ⟨"SignalNetwork$Leg", "part", "()LSignalNetwork$Leg;"⟩
abbrev c_Lg_part : ByteArray := prog_5_method_9_code
abbrev y_Lg_leaveCall : MethodName := ⟨"SignalNetwork$Leg", "leaveCall", "(I)V"⟩
abbrev c_Lg_leaveCall : ByteArray := prog_5_method_10_code
abbrev y_Lg_tellCircuit : MethodName := ⟨"SignalNetwork$Leg", "tellCircuit", "(ILSignalNetwork$Clock;)I"⟩
abbrev c_Lg_tellCircuit : ByteArray := prog_5_method_11_code
abbrev y_Ms_of : MethodName := ⟨"SignalNetwork$Message", "of", "(IIIIII)J"⟩
abbrev c_Ms_of : ByteArray := prog_6_method_2_code
abbrev y_Ms_kind : MethodName := ⟨"SignalNetwork$Message", "kind", "(J)I"⟩
abbrev c_Ms_kind : ByteArray := prog_6_method_3_code
abbrev y_Ms_from : MethodName := ⟨"SignalNetwork$Message", "from", "(J)I"⟩
abbrev c_Ms_from : ByteArray := prog_6_method_4_code
abbrev y_Ms_to : MethodName := ⟨"SignalNetwork$Message", "to", "(J)I"⟩
abbrev c_Ms_to : ByteArray := prog_6_method_5_code
abbrev y_Ms_lane : MethodName := ⟨"SignalNetwork$Message", "lane", "(J)I"⟩
abbrev c_Ms_lane : ByteArray := prog_6_method_6_code
abbrev y_Ms_first : MethodName := ⟨"SignalNetwork$Message", "first", "(J)I"⟩
abbrev c_Ms_first : ByteArray := prog_6_method_7_code
abbrev y_Ms_second : MethodName := ⟨"SignalNetwork$Message", "second", "(J)I"⟩
abbrev c_Ms_second : ByteArray := prog_6_method_8_code
abbrev y_Ms_hops : MethodName := ⟨"SignalNetwork$Message", "hops", "(J)I"⟩
abbrev c_Ms_hops : ByteArray := prog_6_method_9_code
abbrev y_Ms_hopped : MethodName := ⟨"SignalNetwork$Message", "hopped", "(J)J"⟩
abbrev c_Ms_hopped : ByteArray := prog_6_method_10_code
abbrev y_Pl_init : MethodName := ⟨"SignalNetwork$Plan", "<init>", "()V"⟩
abbrev c_Pl_init : ByteArray := prog_7_method_1_code
abbrev y_Pl_isExchange : MethodName := ⟨"SignalNetwork$Plan", "isExchange", "(I)Z"⟩
abbrev c_Pl_isExchange : ByteArray := prog_7_method_2_code
abbrev y_Pl_areTwo : MethodName := ⟨"SignalNetwork$Plan", "areTwo", "(II)Z"⟩
abbrev c_Pl_areTwo : ByteArray := prog_7_method_3_code
abbrev y_Pl_isLink : MethodName := ⟨"SignalNetwork$Plan", "isLink", "(I)Z"⟩
abbrev c_Pl_isLink : ByteArray := prog_7_method_4_code
abbrev y_Pl_setSize : MethodName := ⟨"SignalNetwork$Plan", "setSize", "(II)I"⟩
abbrev c_Pl_setSize : ByteArray := prog_7_method_5_code
abbrev y_Pl_areNeighbours : MethodName := ⟨"SignalNetwork$Plan", "areNeighbours", "(II)Z"⟩
abbrev c_Pl_areNeighbours : ByteArray := prog_7_method_6_code
abbrev y_Ma_min : MethodName := ⟨"java/lang/Math", "min", "(II)I"⟩
abbrev c_Ma_min : ByteArray := prog_15_method_69_code
abbrev y_Pl_addLink : MethodName := ⟨"SignalNetwork$Plan", "addLink", "(II)I"⟩
abbrev c_Pl_addLink : ByteArray := prog_7_method_7_code
abbrev y_Pl_mayBeTold : MethodName := ⟨"SignalNetwork$Plan", "mayBeTold", "(II)Z"⟩
abbrev c_Pl_mayBeTold : ByteArray := prog_7_method_9_code
abbrev y_Pl_tell : MethodName := ⟨"SignalNetwork$Plan", "tell", "(IIII)Z"⟩
abbrev c_Pl_tell : ByteArray := prog_7_method_8_code
abbrev y_Pl_told : MethodName := ⟨"SignalNetwork$Plan", "told", "(III)I"⟩
abbrev c_Pl_told : ByteArray := prog_7_method_10_code
abbrev y_Sw_init : MethodName := ⟨"SignalNetwork$Switchboard", "<init>", "(LSignalNetwork$Plan;LSignalNetwork$Clock;)V"⟩
abbrev c_Sw_init : ByteArray := prog_9_method_1_code
abbrev y_Sw_addCircuit : MethodName := ⟨"SignalNetwork$Switchboard", "addCircuit", "(III)V"⟩
abbrev c_Sw_addCircuit : ByteArray := prog_9_method_3_code
abbrev y_Sw_addCircuits : MethodName := ⟨"SignalNetwork$Switchboard", "addCircuits", "(II)V"⟩
abbrev c_Sw_addCircuits : ByteArray := prog_9_method_2_code
abbrev y_Sw_subscriberAt : MethodName := ⟨"SignalNetwork$Switchboard", "subscriberAt", "(I)LSignalNetwork$Leg;"⟩
abbrev c_Sw_subscriberAt : ByteArray := prog_9_method_4_code
abbrev y_Sw_circuitAt : MethodName := ⟨"SignalNetwork$Switchboard", "circuitAt", "(III)LSignalNetwork$Leg;"⟩
abbrev c_Sw_circuitAt : ByteArray := prog_9_method_5_code
abbrev y_Sw_circuitPlaces : MethodName := ⟨"SignalNetwork$Switchboard", "circuitPlaces", "()I"⟩
abbrev c_Sw_circuitPlaces : ByteArray := prog_9_method_6_code
abbrev y_Sw_post : MethodName := ⟨"SignalNetwork$Switchboard", "post", "(LSignalNetwork$Leg;III)V"⟩
abbrev c_Sw_post : ByteArray := prog_9_method_12_code
abbrev y_Sw_ask : MethodName := ⟨"SignalNetwork$Switchboard", "ask", "(LSignalNetwork$Leg;II)V"⟩
abbrev c_Sw_ask : ByteArray := prog_9_method_17_code
abbrev y_Sw_goBack : MethodName := ⟨"SignalNetwork$Switchboard", "goBack", "(LSignalNetwork$Leg;I)V"⟩
abbrev c_Sw_goBack : ByteArray := prog_9_method_18_code
abbrev y_Sw_idleCircuit : MethodName := ⟨"SignalNetwork$Switchboard", "idleCircuit", "(LSignalNetwork$Leg;I)LSignalNetwork$Leg;"⟩
abbrev c_Sw_idleCircuit : ByteArray := prog_9_method_16_code
abbrev y_Sw_idleSubscriber : MethodName := ⟨"SignalNetwork$Switchboard", "idleSubscriber", "(I)LSignalNetwork$Leg;"⟩
abbrev c_Sw_idleSubscriber : ByteArray := prog_9_method_15_code
abbrev y_Sw_join : MethodName := ⟨"SignalNetwork$Switchboard", "join", "(LSignalNetwork$Leg;LSignalNetwork$Leg;)V"⟩
abbrev c_Sw_join : ByteArray := prog_9_method_13_code
abbrev y_Sw_letGo : MethodName := ⟨"SignalNetwork$Switchboard", "letGo", "(LSignalNetwork$Leg;)V"⟩
abbrev c_Sw_letGo : ByteArray := prog_9_method_19_code
abbrev y_Sw_connect : MethodName := ⟨"SignalNetwork$Switchboard", "connect", "(LSignalNetwork$Leg;I)V"⟩
abbrev c_Sw_connect : ByteArray := prog_9_method_14_code
abbrev y_Sw_call : MethodName := ⟨"SignalNetwork$Switchboard", "call", "(II)Z"⟩
abbrev c_Sw_call : ByteArray := prog_9_method_7_code
abbrev y_Sw_pickUp : MethodName := ⟨"SignalNetwork$Switchboard", "pickUp", "(I)Z"⟩
abbrev c_Sw_pickUp : ByteArray := prog_9_method_8_code
abbrev y_Sw_putDown : MethodName := ⟨"SignalNetwork$Switchboard", "putDown", "(I)Z"⟩
abbrev c_Sw_putDown : ByteArray := prog_9_method_9_code
abbrev y_Sw_setBlocked : MethodName := ⟨"SignalNetwork$Switchboard", "setBlocked", "(IIIZ)Z"⟩
abbrev c_Sw_setBlocked : ByteArray := prog_9_method_10_code
abbrev y_Sw_talksWith : MethodName := ⟨"SignalNetwork$Switchboard", "talksWith", "(LSignalNetwork$Leg;)I"⟩
abbrev c_Sw_talksWith : ByteArray := prog_9_method_11_code
abbrev y_Sw_getInitial : MethodName := ⟨"SignalNetwork$Switchboard", "getInitial", "(LSignalNetwork$Leg;II)V"⟩
abbrev c_Sw_getInitial : ByteArray := prog_9_method_21_code
abbrev y_Sw_reset : MethodName := ⟨"SignalNetwork$Switchboard", "reset", "(LSignalNetwork$Leg;)V"⟩
abbrev c_Sw_reset : ByteArray := prog_9_method_23_code
abbrev y_Sw_getProgress : MethodName := ⟨"SignalNetwork$Switchboard", "getProgress", "(LSignalNetwork$Leg;II)V"⟩
abbrev c_Sw_getProgress : ByteArray := prog_9_method_22_code
abbrev y_Sw_getRelease : MethodName := ⟨"SignalNetwork$Switchboard", "getRelease", "(LSignalNetwork$Leg;II)V"⟩
abbrev c_Sw_getRelease : ByteArray := prog_9_method_24_code
abbrev y_Sw_get : MethodName := ⟨"SignalNetwork$Switchboard", "get", "(J)V"⟩
abbrev c_Sw_get : ByteArray := prog_9_method_20_code
abbrev y_Sw_timeOut : MethodName := ⟨"SignalNetwork$Switchboard", "timeOut", "(LSignalNetwork$Leg;)V"⟩
abbrev c_Sw_timeOut : ByteArray := prog_9_method_26_code
abbrev y_Sw_runTimers : MethodName := ⟨"SignalNetwork$Switchboard", "runTimers", "(I)Z"⟩
abbrev c_Sw_runTimers : ByteArray := prog_9_method_25_code
abbrev y_Tr_init : MethodName := ⟨"SignalNetwork$Transfer", "<init>", "(LSignalNetwork$Plan;LSignalNetwork$Clock;)V"⟩
abbrev c_Tr_init : ByteArray := prog_10_method_1_code
abbrev y_Tr_addEnd : MethodName := ⟨"SignalNetwork$Transfer", "addEnd", "(III)V"⟩
abbrev c_Tr_addEnd : ByteArray := prog_10_method_3_code
abbrev y_Tr_addEnds : MethodName := ⟨"SignalNetwork$Transfer", "addEnds", "(I)V"⟩
abbrev c_Tr_addEnds : ByteArray := prog_10_method_2_code
abbrev y_Tr_endOf : MethodName := ⟨"SignalNetwork$Transfer", "endOf", "(II)LSignalNetwork$End;"⟩
abbrev c_Tr_endOf : ByteArray := prog_10_method_4_code
abbrev y_Tr_flowTo : MethodName := ⟨"SignalNetwork$Transfer", "flowTo", "(III)LSignalNetwork$Flow;"⟩
abbrev c_Tr_flowTo : ByteArray := prog_10_method_5_code
abbrev y_Tr_placeOf : MethodName := ⟨"SignalNetwork$Transfer", "placeOf", "(III)I"⟩
abbrev c_Tr_placeOf : ByteArray := prog_10_method_6_code
abbrev y_Tr_wayTo : MethodName := ⟨"SignalNetwork$Transfer", "wayTo", "(IIII)LSignalNetwork$Flow;"⟩
abbrev c_Tr_wayTo : ByteArray := prog_10_method_15_code
abbrev y_Tr_tellWay : MethodName := ⟨"SignalNetwork$Transfer", "tellWay", "(III)I"⟩
abbrev c_Tr_tellWay : ByteArray := prog_10_method_7_code
abbrev y_Tr_best : MethodName := ⟨"SignalNetwork$Transfer", "best", "(III)LSignalNetwork$End;"⟩
abbrev c_Tr_best : ByteArray := prog_10_method_10_code
abbrev y_Tr_give : MethodName := ⟨"SignalNetwork$Transfer", "give", "(LSignalNetwork$Flow;J)V"⟩
abbrev c_Tr_give : ByteArray := prog_10_method_16_code
abbrev y_Tr_waitAt : MethodName := ⟨"SignalNetwork$Transfer", "waitAt", "(LSignalNetwork$End;J)V"⟩
abbrev c_Tr_waitAt : ByteArray := prog_10_method_17_code
abbrev y_Tr_goOtherWay : MethodName := ⟨"SignalNetwork$Transfer", "goOtherWay", "(IIJ)V"⟩
abbrev c_Tr_goOtherWay : ByteArray := prog_10_method_18_code
abbrev y_Tr_look : MethodName := ⟨"SignalNetwork$Transfer", "look", "(I)V"⟩
abbrev c_Tr_look : ByteArray := prog_10_method_31_code
abbrev y_Tr_overOf : MethodName := ⟨"SignalNetwork$Transfer", "overOf", "(LSignalNetwork$End;I)J"⟩
abbrev c_Tr_overOf : ByteArray := prog_10_method_24_code
abbrev y_Tr_takeOut : MethodName := ⟨"SignalNetwork$Transfer", "takeOut", "(LSignalNetwork$End;)Z"⟩
abbrev c_Tr_takeOut : ByteArray := prog_10_method_23_code
abbrev y_Tr_fail : MethodName := ⟨"SignalNetwork$Transfer", "fail", "(LSignalNetwork$End;)V"⟩
abbrev c_Tr_fail : ByteArray := prog_10_method_22_code
abbrev y_Tr_start : MethodName := ⟨"SignalNetwork$Transfer", "start", "(LSignalNetwork$End;)V"⟩
abbrev c_Tr_start : ByteArray := prog_10_method_9_code
abbrev y_Tr_switchEnds : MethodName := ⟨"SignalNetwork$Transfer", "switchEnds", "(IZ)V"⟩
abbrev c_Tr_switchEnds : ByteArray := prog_10_method_8_code
abbrev y_Tr_sendBack : MethodName := ⟨"SignalNetwork$Transfer", "sendBack", "(LSignalNetwork$Flow;II)V"⟩
abbrev c_Tr_sendBack : ByteArray := prog_10_method_21_code
abbrev y_Tr_useBest : MethodName := ⟨"SignalNetwork$Transfer", "useBest", "(LSignalNetwork$Flow;II)V"⟩
abbrev c_Tr_useBest : ByteArray := prog_10_method_20_code
abbrev y_Tr_comeUp : MethodName := ⟨"SignalNetwork$Transfer", "comeUp", "(LSignalNetwork$End;)V"⟩
abbrev c_Tr_comeUp : ByteArray := prog_10_method_19_code
abbrev y_Wi_acknowledge : MethodName := ⟨"SignalNetwork$Window", "acknowledge", "(I)V"⟩
abbrev c_Wi_acknowledge : ByteArray := prog_12_method_5_code
abbrev y_Wi_treat : MethodName := ⟨"SignalNetwork$Window", "treat", "(LSignalNetwork$Unit;)Z"⟩
abbrev c_Wi_treat : ByteArray := prog_12_method_4_code
abbrev y_Tr_receive : MethodName := ⟨"SignalNetwork$Transfer", "receive", "(I)J"⟩
abbrev c_Tr_receive : ByteArray := prog_10_method_11_code
abbrev y_Tr_changeBack : MethodName := ⟨"SignalNetwork$Transfer", "changeBack", "(IJ)V"⟩
abbrev c_Tr_changeBack : ByteArray := prog_10_method_29_code
abbrev y_Tr_giveAgain : MethodName := ⟨"SignalNetwork$Transfer", "giveAgain", "(LSignalNetwork$End;LSignalNetwork$Queue;)V"⟩
abbrev c_Tr_giveAgain : ByteArray := prog_10_method_27_code
abbrev y_Tr_endChangeover : MethodName := ⟨"SignalNetwork$Transfer", "endChangeover", "(LSignalNetwork$End;I)V"⟩
abbrev c_Tr_endChangeover : ByteArray := prog_10_method_26_code
abbrev y_Tr_changeOver : MethodName := ⟨"SignalNetwork$Transfer", "changeOver", "(IJ)V"⟩
abbrev c_Tr_changeOver : ByteArray := prog_10_method_25_code
abbrev y_Tr_confirmBack : MethodName := ⟨"SignalNetwork$Transfer", "confirmBack", "(IJ)V"⟩
abbrev c_Tr_confirmBack : ByteArray := prog_10_method_28_code
abbrev y_Tr_passOn : MethodName := ⟨"SignalNetwork$Transfer", "passOn", "(IJ)V"⟩
abbrev c_Tr_passOn : ByteArray := prog_10_method_13_code
abbrev y_Tr_prohibit : MethodName := ⟨"SignalNetwork$Transfer", "prohibit", "(IJ)V"⟩
abbrev c_Tr_prohibit : ByteArray := prog_10_method_30_code
abbrev y_Tr_get : MethodName := ⟨"SignalNetwork$Transfer", "get", "(IJ)Z"⟩
abbrev c_Tr_get : ByteArray := prog_10_method_12_code
abbrev y_Tr_send : MethodName := ⟨"SignalNetwork$Transfer", "send", "(J)V"⟩
abbrev c_Tr_send : ByteArray := prog_10_method_14_code
abbrev y_Tr_runChangebackTimers : MethodName := ⟨"SignalNetwork$Transfer", "runChangebackTimers", "(I)V"⟩
abbrev c_Tr_runChangebackTimers : ByteArray := prog_10_method_35_code
abbrev y_Tr_runChangeoverTimers : MethodName := ⟨"SignalNetwork$Transfer", "runChangeoverTimers", "(I)V"⟩
abbrev c_Tr_runChangeoverTimers : ByteArray := prog_10_method_34_code
abbrev y_Tr_runEndTimers : MethodName := ⟨"SignalNetwork$Transfer", "runEndTimers", "(LSignalNetwork$End;)V"⟩
abbrev c_Tr_runEndTimers : ByteArray := prog_10_method_33_code
abbrev y_Tr_runTimers : MethodName := ⟨"SignalNetwork$Transfer", "runTimers", "()V"⟩
abbrev c_Tr_runTimers : ByteArray := prog_10_method_32_code
abbrev y_Tr_sendUnits : MethodName := ⟨"SignalNetwork$Transfer", "sendUnits", "()V"⟩
abbrev c_Tr_sendUnits : ByteArray := prog_10_method_36_code
abbrev y_Un_checkOf : MethodName := ⟨"SignalNetwork$Unit", "checkOf", "([II)I"⟩
abbrev c_Un_checkOf : ByteArray := prog_11_method_5_code
abbrev y_Un_spellNumbered : MethodName := ⟨"SignalNetwork$Unit", "spellNumbered", "([I)I"⟩
abbrev c_Un_spellNumbered : ByteArray := prog_11_method_4_code
abbrev y_Un_spellState : MethodName := ⟨"SignalNetwork$Unit", "spellState", "([I)I"⟩
abbrev c_Un_spellState : ByteArray := prog_11_method_3_code
abbrev y_Un_spell : MethodName := ⟨"SignalNetwork$Unit", "spell", "([I)I"⟩
abbrev c_Un_spell : ByteArray := prog_11_method_2_code
abbrev y_Un_bitsOnLine : MethodName := ⟨"SignalNetwork$Unit", "bitsOnLine", "([II)I"⟩
abbrev c_Un_bitsOnLine : ByteArray := prog_11_method_6_code
abbrev y_Sn_init : MethodName := ⟨"SignalNetwork", "<init>", "()V"⟩
abbrev c_Sn_init : ByteArray := prog_1_method_1_code
abbrev y_Sn_link : MethodName := ⟨"SignalNetwork", "link", "(II)I"⟩
abbrev c_Sn_link : ByteArray := prog_1_method_2_code
abbrev y_Sn_route : MethodName := ⟨"SignalNetwork", "route", "(IIII)Z"⟩
abbrev c_Sn_route : ByteArray := prog_1_method_3_code
abbrev y_Sn_activate : MethodName := ⟨"SignalNetwork", "activate", "(IZ)Z"⟩
abbrev c_Sn_activate : ByteArray := prog_1_method_4_code
abbrev y_Sn_cut : MethodName := ⟨"SignalNetwork", "cut", "(IZ)Z"⟩
abbrev c_Sn_cut : ByteArray := prog_1_method_5_code
abbrev y_Sn_damage : MethodName := ⟨"SignalNetwork", "damage", "(III)Z"⟩
abbrev c_Sn_damage : ByteArray := prog_1_method_6_code
abbrev y_Sn_sendPosted : MethodName := ⟨"SignalNetwork", "sendPosted", "()V"⟩
abbrev c_Sn_sendPosted : ByteArray := prog_1_method_22_code
abbrev y_Sn_runCircuitTimers : MethodName := ⟨"SignalNetwork", "runCircuitTimers", "()V"⟩
abbrev c_Sn_runCircuitTimers : ByteArray := prog_1_method_21_code
abbrev y_Sn_tick : MethodName := ⟨"SignalNetwork", "tick", "(I)I"⟩
abbrev c_Sn_tick : ByteArray := prog_1_method_7_code
abbrev y_Sn_dial : MethodName := ⟨"SignalNetwork", "dial", "(II)Z"⟩
abbrev c_Sn_dial : ByteArray := prog_1_method_8_code
abbrev y_Sn_answer : MethodName := ⟨"SignalNetwork", "answer", "(I)Z"⟩
abbrev c_Sn_answer : ByteArray := prog_1_method_9_code
abbrev y_Sn_hang : MethodName := ⟨"SignalNetwork", "hang", "(I)Z"⟩
abbrev c_Sn_hang : ByteArray := prog_1_method_10_code
abbrev y_Sn_block : MethodName := ⟨"SignalNetwork", "block", "(IIIZ)Z"⟩
abbrev c_Sn_block : ByteArray := prog_1_method_11_code
abbrev y_Sn_end : MethodName := ⟨"SignalNetwork", "end", "(III)I"⟩
abbrev c_Sn_end : ByteArray := prog_1_method_12_code
abbrev y_Sn_spellLatest : MethodName := ⟨"SignalNetwork", "spellLatest", "(II)I"⟩
abbrev c_Sn_spellLatest : ByteArray := prog_1_method_20_code
abbrev y_Sn_octet : MethodName := ⟨"SignalNetwork", "octet", "(III)I"⟩
abbrev c_Sn_octet : ByteArray := prog_1_method_13_code
abbrev y_Sn_bits : MethodName := ⟨"SignalNetwork", "bits", "(II)I"⟩
abbrev c_Sn_bits : ByteArray := prog_1_method_14_code
abbrev y_Sn_flow : MethodName := ⟨"SignalNetwork", "flow", "(IIII)I"⟩
abbrev c_Sn_flow : ByteArray := prog_1_method_15_code
abbrev y_Sn_next : MethodName := ⟨"SignalNetwork", "next", "(III)I"⟩
abbrev c_Sn_next : ByteArray := prog_1_method_16_code
abbrev y_Sn_circuit : MethodName := ⟨"SignalNetwork", "circuit", "(IIII)I"⟩
abbrev c_Sn_circuit : ByteArray := prog_1_method_17_code
abbrev y_Sn_subscriber : MethodName := ⟨"SignalNetwork", "subscriber", "(II)I"⟩
abbrev c_Sn_subscriber : ByteArray := prog_1_method_18_code
abbrev y_Sn_counted : MethodName := ⟨"SignalNetwork", "counted", "(I)I"⟩
abbrev c_Sn_counted : ByteArray := prog_1_method_19_code
abbrev y_Md_fresh : MethodName := ⟨"SignalNetworkModel", "fresh", "(I)V"⟩
abbrev c_Md_fresh : ByteArray := prog_14_method_2_code
abbrev y_Md_init : MethodName := ⟨"SignalNetworkModel", "<init>", "()V"⟩
abbrev c_Md_init : ByteArray := prog_14_method_1_code
abbrev y_Md_message : MethodName := ⟨"SignalNetworkModel", "message", "(IIIIII)J"⟩
abbrev c_Md_message : ByteArray := prog_14_method_3_code
abbrev y_Md_kindOf : MethodName := ⟨"SignalNetworkModel", "kindOf", "(J)I"⟩
abbrev c_Md_kindOf : ByteArray := prog_14_method_4_code
abbrev y_Md_fromOf : MethodName := ⟨"SignalNetworkModel", "fromOf", "(J)I"⟩
abbrev c_Md_fromOf : ByteArray := prog_14_method_5_code
abbrev y_Md_toOf : MethodName := ⟨"SignalNetworkModel", "toOf", "(J)I"⟩
abbrev c_Md_toOf : ByteArray := prog_14_method_6_code
abbrev y_Md_flowOf : MethodName := ⟨"SignalNetworkModel", "flowOf", "(J)I"⟩
abbrev c_Md_flowOf : ByteArray := prog_14_method_7_code
abbrev y_Md_oneOf : MethodName := ⟨"SignalNetworkModel", "oneOf", "(J)I"⟩
abbrev c_Md_oneOf : ByteArray := prog_14_method_8_code
abbrev y_Md_twoOf : MethodName := ⟨"SignalNetworkModel", "twoOf", "(J)I"⟩
abbrev c_Md_twoOf : ByteArray := prog_14_method_9_code
abbrev y_Md_hopsOf : MethodName := ⟨"SignalNetworkModel", "hopsOf", "(J)I"⟩
abbrev c_Md_hopsOf : ByteArray := prog_14_method_10_code
abbrev y_Md_isExchange : MethodName := ⟨"SignalNetworkModel", "isExchange", "(I)Z"⟩
abbrev c_Md_isExchange : ByteArray := prog_14_method_11_code
abbrev y_Md_isOf : MethodName := ⟨"SignalNetworkModel", "isOf", "(III)Z"⟩
abbrev c_Md_isOf : ByteArray := prog_14_method_12_code
abbrev y_Md_setSize : MethodName := ⟨"SignalNetworkModel", "setSize", "(II)I"⟩
abbrev c_Md_setSize : ByteArray := prog_14_method_13_code
abbrev y_Md_areNeighbours : MethodName := ⟨"SignalNetworkModel", "areNeighbours", "(II)Z"⟩
abbrev c_Md_areNeighbours : ByteArray := prog_14_method_14_code
abbrev y_Md_endAt : MethodName := ⟨"SignalNetworkModel", "endAt", "(II)I"⟩
abbrev c_Md_endAt : ByteArray := prog_14_method_15_code
abbrev y_Md_exchangeOf : MethodName := ⟨"SignalNetworkModel", "exchangeOf", "(I)I"⟩
abbrev c_Md_exchangeOf : ByteArray := prog_14_method_16_code
abbrev y_Md_otherOf : MethodName := ⟨"SignalNetworkModel", "otherOf", "(I)I"⟩
abbrev c_Md_otherOf : ByteArray := prog_14_method_17_code
abbrev y_Md_flowAt : MethodName := ⟨"SignalNetworkModel", "flowAt", "(III)I"⟩
abbrev c_Md_flowAt : ByteArray := prog_14_method_18_code
abbrev y_Md_isOpen : MethodName := ⟨"SignalNetworkModel", "isOpen", "(III)Z"⟩
abbrev c_Md_isOpen : ByteArray := prog_14_method_19_code
abbrev y_Md_bestOf : MethodName := ⟨"SignalNetworkModel", "bestOf", "(III)I"⟩
abbrev c_Md_bestOf : ByteArray := prog_14_method_20_code
abbrev y_Md_waitAt : MethodName := ⟨"SignalNetworkModel", "waitAt", "(IJ)V"⟩
abbrev c_Md_waitAt : ByteArray := prog_14_method_21_code
abbrev y_Md_give : MethodName := ⟨"SignalNetworkModel", "give", "(IIIJ)V"⟩
abbrev c_Md_give : ByteArray := prog_14_method_22_code
abbrev y_Md_route : MethodName := ⟨"SignalNetworkModel", "route", "(IIJI)V"⟩
abbrev c_Md_route : ByteArray := prog_14_method_23_code
abbrev y_Md_otherWay : MethodName := ⟨"SignalNetworkModel", "otherWay", "(IIJ)V"⟩
abbrev c_Md_otherWay : ByteArray := prog_14_method_24_code
abbrev y_Md_nextOf : MethodName := ⟨"SignalNetworkModel", "nextOf", "(II)I"⟩
abbrev c_Md_nextOf : ByteArray := prog_14_method_25_code
abbrev y_Md_look : MethodName := ⟨"SignalNetworkModel", "look", "(I)V"⟩
abbrev c_Md_look : ByteArray := prog_14_method_26_code
abbrev y_Md_start : MethodName := ⟨"SignalNetworkModel", "start", "(I)V"⟩
abbrev c_Md_start : ByteArray := prog_14_method_27_code
abbrev y_Md_fail : MethodName := ⟨"SignalNetworkModel", "fail", "(IZ)V"⟩
abbrev c_Md_fail : ByteArray := prog_14_method_28_code
abbrev y_Md_up : MethodName := ⟨"SignalNetworkModel", "up", "(I)V"⟩
abbrev c_Md_up : ByteArray := prog_14_method_29_code
abbrev y_Md_align : MethodName := ⟨"SignalNetworkModel", "align", "(I)V"⟩
abbrev c_Md_align : ByteArray := prog_14_method_30_code
abbrev y_Md_prove : MethodName := ⟨"SignalNetworkModel", "prove", "(IZ)V"⟩
abbrev c_Md_prove : ByteArray := prog_14_method_31_code
abbrev y_Md_proving : MethodName := ⟨"SignalNetworkModel", "proving", "(IZI)V"⟩
abbrev c_Md_proving : ByteArray := prog_14_method_33_code
abbrev y_Md_acknowledge : MethodName := ⟨"SignalNetworkModel", "acknowledge", "(II)V"⟩
abbrev c_Md_acknowledge : ByteArray := prog_14_method_35_code
abbrev y_Md_backEnds : MethodName := ⟨"SignalNetworkModel", "backEnds", "(III)V"⟩
abbrev c_Md_backEnds : ByteArray := prog_14_method_43_code
abbrev y_Md_says : MethodName := ⟨"SignalNetworkModel", "says", "(IIII)V"⟩
abbrev c_Md_says : ByteArray := prog_14_method_45_code
abbrev y_Md_say : MethodName := ⟨"SignalNetworkModel", "say", "(III)V"⟩
abbrev c_Md_say : ByteArray := prog_14_method_44_code
abbrev y_Md_back : MethodName := ⟨"SignalNetworkModel", "back", "(II)V"⟩
abbrev c_Md_back : ByteArray := prog_14_method_52_code
abbrev y_Md_becomes : MethodName := ⟨"SignalNetworkModel", "becomes", "(IIII)V"⟩
abbrev c_Md_becomes : ByteArray := prog_14_method_50_code
abbrev y_Md_setLeg : MethodName := ⟨"SignalNetworkModel", "setLeg", "(II)V"⟩
abbrev c_Md_setLeg : ByteArray := prog_14_method_47_code
abbrev y_Md_join : MethodName := ⟨"SignalNetworkModel", "join", "(II)V"⟩
abbrev c_Md_join : ByteArray := prog_14_method_48_code
abbrev y_Md_legOf : MethodName := ⟨"SignalNetworkModel", "legOf", "(I)I"⟩
abbrev c_Md_legOf : ByteArray := prog_14_method_46_code
abbrev y_Md_part : MethodName := ⟨"SignalNetworkModel", "part", "(I)V"⟩
abbrev c_Md_part : ByteArray := prog_14_method_49_code
abbrev y_Md_letGo : MethodName := ⟨"SignalNetworkModel", "letGo", "(I)V"⟩
abbrev c_Md_letGo : ByteArray := prog_14_method_51_code
abbrev y_Md_connect : MethodName := ⟨"SignalNetworkModel", "connect", "(III)V"⟩
abbrev c_Md_connect : ByteArray := prog_14_method_53_code
abbrev y_Md_controls : MethodName := ⟨"SignalNetworkModel", "controls", "(III)Z"⟩
abbrev c_Md_controls : ByteArray := prog_14_method_55_code
abbrev y_Md_takeCall : MethodName := ⟨"SignalNetworkModel", "takeCall", "(III)V"⟩
abbrev c_Md_takeCall : ByteArray := prog_14_method_54_code
abbrev y_Md_circuitGets : MethodName := ⟨"SignalNetworkModel", "circuitGets", "(IIIII)V"⟩
abbrev c_Md_circuitGets : ByteArray := prog_14_method_56_code
abbrev y_Md_openAt : MethodName := ⟨"SignalNetworkModel", "openAt", "(II)I"⟩
abbrev c_Md_openAt : ByteArray := prog_14_method_36_code
abbrev y_Md_overEnds : MethodName := ⟨"SignalNetworkModel", "overEnds", "(III)V"⟩
abbrev c_Md_overEnds : ByteArray := prog_14_method_42_code
abbrev y_Md_over : MethodName := ⟨"SignalNetworkModel", "over", "(IIII)V"⟩
abbrev c_Md_over : ByteArray := prog_14_method_41_code
abbrev y_Md_get : MethodName := ⟨"SignalNetworkModel", "get", "(IJ)V"⟩
abbrev c_Md_get : ByteArray := prog_14_method_40_code
abbrev y_Md_treat : MethodName := ⟨"SignalNetworkModel", "treat", "(I)V"⟩
abbrev c_Md_treat : ByteArray := prog_14_method_37_code
abbrev y_Md_serving : MethodName := ⟨"SignalNetworkModel", "serving", "(IZI)V"⟩
abbrev c_Md_serving : ByteArray := prog_14_method_34_code
abbrev y_Md_arrive : MethodName := ⟨"SignalNetworkModel", "arrive", "(I)V"⟩
abbrev c_Md_arrive : ByteArray := prog_14_method_32_code
abbrev y_Md_timer : MethodName := ⟨"SignalNetworkModel", "timer", "(I)V"⟩
abbrev c_Md_timer : ByteArray := prog_14_method_38_code
abbrev y_Md_send : MethodName := ⟨"SignalNetworkModel", "send", "(I)V"⟩
abbrev c_Md_send : ByteArray := prog_14_method_39_code
abbrev y_Md_lineTimer : MethodName := ⟨"SignalNetworkModel", "lineTimer", "(I)V"⟩
abbrev c_Md_lineTimer : ByteArray := prog_14_method_57_code
abbrev y_Md_one : MethodName := ⟨"SignalNetworkModel", "one", "()V"⟩
abbrev c_Md_one : ByteArray := prog_14_method_58_code
abbrev y_Md_link : MethodName := ⟨"SignalNetworkModel", "link", "(II)I"⟩
abbrev c_Md_link : ByteArray := prog_14_method_59_code
abbrev y_Md_canBeTold : MethodName := ⟨"SignalNetworkModel", "canBeTold", "(II)Z"⟩
abbrev c_Md_canBeTold : ByteArray := prog_14_method_60_code
abbrev y_Md_route_ : MethodName := ⟨"SignalNetworkModel", "route", "(IIII)Z"⟩
abbrev c_Md_route_ : ByteArray := prog_14_method_61_code
abbrev y_Md_isLink : MethodName := ⟨"SignalNetworkModel", "isLink", "(I)Z"⟩
abbrev c_Md_isLink : ByteArray := prog_14_method_62_code
abbrev y_Md_isEnd : MethodName := ⟨"SignalNetworkModel", "isEnd", "(II)Z"⟩
abbrev c_Md_isEnd : ByteArray := prog_14_method_63_code
abbrev y_Md_activate : MethodName := ⟨"SignalNetworkModel", "activate", "(IZ)Z"⟩
abbrev c_Md_activate : ByteArray := prog_14_method_64_code
abbrev y_Md_cut : MethodName := ⟨"SignalNetworkModel", "cut", "(IZ)Z"⟩
abbrev c_Md_cut : ByteArray := prog_14_method_65_code
abbrev y_Md_damage : MethodName := ⟨"SignalNetworkModel", "damage", "(III)Z"⟩
abbrev c_Md_damage : ByteArray := prog_14_method_66_code
abbrev y_Md_tick : MethodName := ⟨"SignalNetworkModel", "tick", "(I)I"⟩
abbrev c_Md_tick : ByteArray := prog_14_method_67_code
abbrev y_Md_personAt : MethodName := ⟨"SignalNetworkModel", "personAt", "(I)I"⟩
abbrev c_Md_personAt : ByteArray := prog_14_method_68_code
abbrev y_Md_dial : MethodName := ⟨"SignalNetworkModel", "dial", "(II)Z"⟩
abbrev c_Md_dial : ByteArray := prog_14_method_69_code
abbrev y_Md_answer : MethodName := ⟨"SignalNetworkModel", "answer", "(I)Z"⟩
abbrev c_Md_answer : ByteArray := prog_14_method_70_code
abbrev y_Md_hang : MethodName := ⟨"SignalNetworkModel", "hang", "(I)Z"⟩
abbrev c_Md_hang : ByteArray := prog_14_method_71_code
abbrev y_Md_isFlow : MethodName := ⟨"SignalNetworkModel", "isFlow", "(III)Z"⟩
abbrev c_Md_isFlow : ByteArray := prog_14_method_72_code
abbrev y_Md_block : MethodName := ⟨"SignalNetworkModel", "block", "(IIIZ)Z"⟩
abbrev c_Md_block : ByteArray := prog_14_method_73_code
abbrev y_Md_left : MethodName := ⟨"SignalNetworkModel", "left", "(I)I"⟩
abbrev c_Md_left : ByteArray := prog_14_method_74_code
abbrev y_Md_end : MethodName := ⟨"SignalNetworkModel", "end", "(III)I"⟩
abbrev c_Md_end : ByteArray := prog_14_method_75_code
abbrev y_Md_octets : MethodName := ⟨"SignalNetworkModel", "octets", "(I)I"⟩
abbrev c_Md_octets : ByteArray := prog_14_method_76_code
abbrev y_Md_plain : MethodName := ⟨"SignalNetworkModel", "plain", "(II)I"⟩
abbrev c_Md_plain : ByteArray := prog_14_method_77_code
abbrev y_Md_octetOf : MethodName := ⟨"SignalNetworkModel", "octetOf", "(II)I"⟩
abbrev c_Md_octetOf : ByteArray := prog_14_method_78_code
abbrev y_Md_octet : MethodName := ⟨"SignalNetworkModel", "octet", "(III)I"⟩
abbrev c_Md_octet : ByteArray := prog_14_method_79_code
abbrev y_Md_bits : MethodName := ⟨"SignalNetworkModel", "bits", "(II)I"⟩
abbrev c_Md_bits : ByteArray := prog_14_method_80_code
abbrev y_Md_flow : MethodName := ⟨"SignalNetworkModel", "flow", "(IIII)I"⟩
abbrev c_Md_flow : ByteArray := prog_14_method_81_code
abbrev y_Md_next : MethodName := ⟨"SignalNetworkModel", "next", "(III)I"⟩
abbrev c_Md_next : ByteArray := prog_14_method_82_code
abbrev y_Md_legTold : MethodName := ⟨"SignalNetworkModel", "legTold", "(I)I"⟩
abbrev c_Md_legTold : ByteArray := prog_14_method_83_code
abbrev y_Md_circuit : MethodName := ⟨"SignalNetworkModel", "circuit", "(IIII)I"⟩
abbrev c_Md_circuit : ByteArray := prog_14_method_84_code
abbrev y_Md_talks : MethodName := ⟨"SignalNetworkModel", "talks", "(I)I"⟩
abbrev c_Md_talks : ByteArray := prog_14_method_85_code
abbrev y_Md_subscriber : MethodName := ⟨"SignalNetworkModel", "subscriber", "(II)I"⟩
abbrev c_Md_subscriber : ByteArray := prog_14_method_86_code
abbrev y_Md_counted : MethodName := ⟨"SignalNetworkModel", "counted", "(I)I"⟩
abbrev c_Md_counted : ByteArray := prog_14_method_87_code
theorem W_oi : Cond.instanceMethod Lib.objectInit ∈ sn_tbl := sn_tb (n := 21) (by decide +kernel) rfl
theorem W_oc : Cond.code Lib.objectInit ⟨#[0xb1]⟩ 1 none ∈ sn_tbl := sn_tb (n := 22) (by decide +kernel) rfl
theorem AO_24 : ∀ (D : sn_D) (U : State), sn_K D U → va_AO "SignalNetwork$End" U := fun _ _ h => h.2.1.1
theorem AO_25 : ∀ (D : sn_D) (U : State), sn_K D U → va_AO "SignalNetwork$Flow" U := fun _ _ h => h.2.1.2.1
theorem AO_26 : ∀ (D : sn_D) (U : State), sn_K D U → va_AO "SignalNetwork$Leg" U := fun _ _ h => h.2.1.2.2
theorem NL_Sn : ∀ (D : sn_D) (U : State), sn_K D U → va_Nw (.methodLinkNest "SignalNetwork" 11 y_Ck_init "SignalNetwork") U := fun _ _ h => h.2.2.1
theorem NL_En : ∀ (D : sn_D) (U : State), sn_K D U → va_Nw (.methodLinkNest "SignalNetwork$End" 11 y_Un_init "SignalNetwork") U := fun _ _ h => h.2.2.2
theorem LO_Ck_1 : Cond.methodLink "SignalNetwork$Clock" 1 Lib.objectInit ∈ sn_tbl := sn_tb (n := 28) (by decide +kernel) rfl
theorem F_Ck_7 : sn_F "SignalNetwork$Clock" 7 0 0 false (.int) := ⟨_, _, _, _, CF0, by decide, rfl, rfl, rfl, sn_tb (n := 29) (by decide +kernel) rfl⟩
theorem LO_En_3 : Cond.methodLink "SignalNetwork$End" 3 Lib.objectInit ∈ sn_tbl := sn_tb (n := 278) (by decide +kernel) rfl
theorem C_En_9 : Cond.classLink "SignalNetwork$End" 9 "SignalNetwork$Unit" ∈ sn_tbl := sn_tb (n := 279) (by decide +kernel) rfl
theorem In_Un : Cond.instantiable "SignalNetwork$Unit" 7 ∈ sn_tbl := sn_tb (n := 280) (by decide +kernel) rfl
theorem Ii_Un : Cond.initialized "SignalNetwork$Unit" ∈ sn_tbl := sn_tb (n := 11) (by decide +kernel) rfl
set_option maxRecDepth 100000 in
theorem Y_Un_init : sn_Y y_Un_init c_Un_init 1 none 0 := ⟨sn_tb (n := 283) rfl rfl, sn_tb (n := 11) (by decide +kernel) rfl, by decide +kernel⟩
theorem F_En_12 : sn_F "SignalNetwork$End" 12 1 5 true (.object "SignalNetwork$Unit") := ⟨_, _, _, _, CF1, by decide, rfl, rfl, rfl, sn_tb (n := 386) (by decide +kernel) rfl⟩
theorem F_En_18 : sn_F "SignalNetwork$End" 18 1 7 false (.int) := ⟨_, _, _, _, CF1, by decide, rfl, rfl, rfl, sn_tb (n := 391) (by decide +kernel) rfl⟩
theorem F_En_22 : sn_F "SignalNetwork$End" 22 1 1 true (.int) := ⟨_, _, _, _, CF1, by decide, rfl, rfl, rfl, sn_tb (n := 376) (by decide +kernel) rfl⟩
theorem F_En_25 : sn_F "SignalNetwork$End" 25 1 2 true (.int) := ⟨_, _, _, _, CF1, by decide, rfl, rfl, rfl, sn_tb (n := 379) (by decide +kernel) rfl⟩
theorem F_En_28 : sn_F "SignalNetwork$End" 28 1 3 true (.int) := ⟨_, _, _, _, CF1, by decide, rfl, rfl, rfl, sn_tb (n := 381) (by decide +kernel) rfl⟩
theorem F_En_31 : sn_F "SignalNetwork$End" 31 1 0 true (.object "SignalNetwork$Clock") := ⟨_, _, _, _, CF1, by decide, rfl, rfl, rfl, sn_tb (n := 375) (by decide +kernel) rfl⟩
theorem C_En_35 : Cond.classLink "SignalNetwork$End" 35 "SignalNetwork$Window" ∈ sn_tbl := sn_tb (n := 318) (by decide +kernel) rfl
theorem In_Wi : Cond.instantiable "SignalNetwork$Window" 9 ∈ sn_tbl := sn_tb (n := 319) (by decide +kernel) rfl
theorem Ii_Wi : Cond.initialized "SignalNetwork$Window" ∈ sn_tbl := sn_tb (n := 12) (by decide +kernel) rfl
set_option maxRecDepth 100000 in
theorem Y_Wi_init : sn_Y y_Wi_init c_Wi_init 2 none 1 := ⟨sn_tb (n := 322) rfl rfl, sn_tb (n := 12) (by decide +kernel) rfl, by decide +kernel⟩
theorem F_En_40 : sn_F "SignalNetwork$End" 40 1 4 true (.object "SignalNetwork$Window") := ⟨_, _, _, _, CF1, by decide, rfl, rfl, rfl, sn_tb (n := 383) (by decide +kernel) rfl⟩
theorem L_En_37 : Cond.methodLink "SignalNetwork$End" 37 y_Wi_init ∈ sn_tbl := sn_tb (n := 320) (by decide +kernel) rfl
theorem I_Wi_init : Cond.instanceMethod y_Wi_init ∈ sn_tbl := sn_tb (n := 321) (by decide +kernel) rfl
theorem I_Un_init : Cond.instanceMethod y_Un_init ∈ sn_tbl := sn_tb (n := 282) (by decide +kernel) rfl
set_option maxRecDepth 100000 in
theorem Y_En_enter : sn_Y y_En_enter c_En_enter 3 none 2 := ⟨sn_tb (n := 569) rfl rfl, sn_tb (n := 10) (by decide +kernel) rfl, by decide +kernel⟩
theorem L_En_44 : Cond.methodLink "SignalNetwork$End" 44 y_En_enter ∈ sn_tbl := sn_tb (n := 566) (by decide +kernel) rfl
theorem F_En_48 : sn_F "SignalNetwork$End" 48 1 13 false (.boolean) := ⟨_, _, _, _, CF1, by decide, rfl, rfl, rfl, sn_tb (n := 402) (by decide +kernel) rfl⟩
theorem F_En_52 : sn_F "SignalNetwork$End" 52 1 9 false (.int) := ⟨_, _, _, _, CF1, by decide, rfl, rfl, rfl, sn_tb (n := 395) (by decide +kernel) rfl⟩
theorem I_En_enter : Cond.instanceMethod y_En_enter ∈ sn_tbl := sn_tb (n := 568) (by decide +kernel) rfl
theorem Se_En_enter : Cond.selects y_En_enter.cls y_En_enter y_En_enter ∈ sn_tbl := sn_in (List.mem_append_left _ (List.mem_of_getElem? (l := k2_sels lw_privs) (i := 6) (by decide +kernel))) rfl
set_option maxRecDepth 100000 in
theorem Y_Ck_after : sn_Y y_Ck_after c_Ck_after 2 (some .int) 1 := ⟨sn_tb (n := 573) rfl rfl, sn_tb (n := 2) (by decide +kernel) rfl, by decide +kernel⟩
theorem L_En_55 : Cond.methodLink "SignalNetwork$End" 55 y_Ck_after ∈ sn_tbl := sn_tb (n := 570) (by decide +kernel) rfl
theorem F_En_61 : sn_F "SignalNetwork$End" 61 1 8 false (.int) := ⟨_, _, _, _, CF1, by decide, rfl, rfl, rfl, sn_tb (n := 393) (by decide +kernel) rfl⟩
set_option maxRecDepth 100000 in
theorem Y_Wi_stop : sn_Y y_Wi_stop c_Wi_stop 1 none 0 := ⟨sn_tb (n := 333) rfl rfl, sn_tb (n := 12) (by decide +kernel) rfl, by decide +kernel⟩
theorem L_En_64 : Cond.methodLink "SignalNetwork$End" 64 y_Wi_stop ∈ sn_tbl := sn_tb (n := 586) (by decide +kernel) rfl
theorem I_Wi_stop : Cond.instanceMethod y_Wi_stop ∈ sn_tbl := sn_tb (n := 331) (by decide +kernel) rfl
theorem Se_Wi_stop : Cond.selects y_Wi_stop.cls y_Wi_stop y_Wi_stop ∈ sn_tbl := sn_tb (n := 332) (by decide +kernel) rfl
theorem I_Ck_after : Cond.instanceMethod y_Ck_after ∈ sn_tbl := sn_tb (n := 571) (by decide +kernel) rfl
theorem Se_Ck_after : Cond.selects y_Ck_after.cls y_Ck_after y_Ck_after ∈ sn_tbl := sn_tb (n := 572) (by decide +kernel) rfl
theorem F_En_67 : sn_F "SignalNetwork$End" 67 1 11 false (.int) := ⟨_, _, _, _, CF1, by decide, rfl, rfl, rfl, sn_tb (n := 399) (by decide +kernel) rfl⟩
set_option maxRecDepth 100000 in
theorem Y_En_hearSeeking : sn_Y y_En_hearSeeking c_En_hearSeeking 2 (some .int) 1 := ⟨sn_tb (n := 638) rfl rfl, sn_tb (n := 10) (by decide +kernel) rfl, by decide +kernel⟩
theorem L_En_77 : Cond.methodLink "SignalNetwork$End" 77 y_En_hearSeeking ∈ sn_tbl := sn_tb (n := 635) (by decide +kernel) rfl
theorem I_En_hearSeeking : Cond.instanceMethod y_En_hearSeeking ∈ sn_tbl := sn_tb (n := 637) (by decide +kernel) rfl
theorem Se_En_hearSeeking : Cond.selects y_En_hearSeeking.cls y_En_hearSeeking y_En_hearSeeking ∈ sn_tbl := sn_in (List.mem_append_left _ (List.mem_of_getElem? (l := k2_sels lw_privs) (i := 11) (by decide +kernel))) rfl
set_option maxRecDepth 100000 in
theorem Y_En_hearAligned : sn_Y y_En_hearAligned c_En_hearAligned 2 (some .int) 1 := ⟨sn_tb (n := 642) rfl rfl, sn_tb (n := 10) (by decide +kernel) rfl, by decide +kernel⟩
theorem L_En_80 : Cond.methodLink "SignalNetwork$End" 80 y_En_hearAligned ∈ sn_tbl := sn_tb (n := 639) (by decide +kernel) rfl
theorem I_En_hearAligned : Cond.instanceMethod y_En_hearAligned ∈ sn_tbl := sn_tb (n := 641) (by decide +kernel) rfl
theorem Se_En_hearAligned : Cond.selects y_En_hearAligned.cls y_En_hearAligned y_En_hearAligned ∈ sn_tbl := sn_in (List.mem_append_left _ (List.mem_of_getElem? (l := k2_sels lw_privs) (i := 12) (by decide +kernel))) rfl
set_option maxRecDepth 100000 in
theorem Y_En_hearProving : sn_Y y_En_hearProving c_En_hearProving 2 (some .int) 1 := ⟨sn_tb (n := 650) rfl rfl, sn_tb (n := 10) (by decide +kernel) rfl, by decide +kernel⟩
theorem L_En_83 : Cond.methodLink "SignalNetwork$End" 83 y_En_hearProving ∈ sn_tbl := sn_tb (n := 647) (by decide +kernel) rfl
theorem I_En_hearProving : Cond.instanceMethod y_En_hearProving ∈ sn_tbl := sn_tb (n := 649) (by decide +kernel) rfl
theorem Se_En_hearProving : Cond.selects y_En_hearProving.cls y_En_hearProving y_En_hearProving ∈ sn_tbl := sn_in (List.mem_append_left _ (List.mem_of_getElem? (l := k2_sels lw_privs) (i := 14) (by decide +kernel))) rfl
set_option maxRecDepth 100000 in
theorem Y_En_hearReady : sn_Y y_En_hearReady c_En_hearReady 2 (some .int) 1 := ⟨sn_tb (n := 658) rfl rfl, sn_tb (n := 10) (by decide +kernel) rfl, by decide +kernel⟩
theorem L_En_86 : Cond.methodLink "SignalNetwork$End" 86 y_En_hearReady ∈ sn_tbl := sn_tb (n := 655) (by decide +kernel) rfl
theorem I_En_hearReady : Cond.instanceMethod y_En_hearReady ∈ sn_tbl := sn_tb (n := 657) (by decide +kernel) rfl
theorem Se_En_hearReady : Cond.selects y_En_hearReady.cls y_En_hearReady y_En_hearReady ∈ sn_tbl := sn_in (List.mem_append_left _ (List.mem_of_getElem? (l := k2_sels lw_privs) (i := 16) (by decide +kernel))) rfl
set_option maxRecDepth 100000 in
theorem Y_En_isProve : sn_Y y_En_isProve c_En_isProve 1 (some .boolean) 1 := ⟨sn_tb (n := 634) rfl rfl, sn_tb (n := 10) (by decide +kernel) rfl, by decide +kernel⟩
theorem L_En_70 : Cond.methodLink "SignalNetwork$End" 70 y_En_isProve ∈ sn_tbl := sn_tb (n := 632) (by decide +kernel) rfl
theorem F_En_74 : sn_F "SignalNetwork$End" 74 1 10 false (.int) := ⟨_, _, _, _, CF1, by decide, rfl, rfl, rfl, sn_tb (n := 397) (by decide +kernel) rfl⟩
theorem St_En_isProve : Cond.static y_En_isProve ∈ sn_tbl := sn_tb (n := 633) (by decide +kernel) rfl
set_option maxRecDepth 100000 in
theorem Y_En_prove : sn_Y y_En_prove c_En_prove 2 none 1 := ⟨sn_tb (n := 646) rfl rfl, sn_tb (n := 10) (by decide +kernel) rfl, by decide +kernel⟩
theorem L_En_92 : Cond.methodLink "SignalNetwork$End" 92 y_En_prove ∈ sn_tbl := sn_tb (n := 643) (by decide +kernel) rfl
theorem I_En_prove : Cond.instanceMethod y_En_prove ∈ sn_tbl := sn_tb (n := 645) (by decide +kernel) rfl
theorem Se_En_prove : Cond.selects y_En_prove.cls y_En_prove y_En_prove ∈ sn_tbl := sn_in (List.mem_append_left _ (List.mem_of_getElem? (l := k2_sels lw_privs) (i := 13) (by decide +kernel))) rfl
theorem F_En_89 : sn_F "SignalNetwork$End" 89 1 15 false (.int) := ⟨_, _, _, _, CF1, by decide, rfl, rfl, rfl, sn_tb (n := 404) (by decide +kernel) rfl⟩
theorem F_En_96 : sn_F "SignalNetwork$End" 96 1 14 false (.int) := ⟨_, _, _, _, CF1, by decide, rfl, rfl, rfl, sn_tb (n := 403) (by decide +kernel) rfl⟩
theorem F_En_99 : sn_F "SignalNetwork$End" 99 1 16 false (.int) := ⟨_, _, _, _, CF1, by decide, rfl, rfl, rfl, sn_tb (n := 405) (by decide +kernel) rfl⟩
set_option maxRecDepth 100000 in
theorem Y_En_err : sn_Y y_En_err c_En_err 1 (some .int) 0 := ⟨sn_tb (n := 654) rfl rfl, sn_tb (n := 10) (by decide +kernel) rfl, by decide +kernel⟩
theorem L_En_102 : Cond.methodLink "SignalNetwork$End" 102 y_En_err ∈ sn_tbl := sn_tb (n := 651) (by decide +kernel) rfl
theorem I_En_err : Cond.instanceMethod y_En_err ∈ sn_tbl := sn_tb (n := 653) (by decide +kernel) rfl
theorem Se_En_err : Cond.selects y_En_err.cls y_En_err y_En_err ∈ sn_tbl := sn_in (List.mem_append_left _ (List.mem_of_getElem? (l := k2_sels lw_privs) (i := 15) (by decide +kernel))) rfl
set_option maxRecDepth 100000 in
theorem Y_En_serve : sn_Y y_En_serve c_En_serve 1 (some .int) 0 := ⟨sn_tb (n := 662) rfl rfl, sn_tb (n := 10) (by decide +kernel) rfl, by decide +kernel⟩
theorem L_En_112 : Cond.methodLink "SignalNetwork$End" 112 y_En_serve ∈ sn_tbl := sn_tb (n := 659) (by decide +kernel) rfl
theorem I_En_serve : Cond.instanceMethod y_En_serve ∈ sn_tbl := sn_tb (n := 661) (by decide +kernel) rfl
theorem Se_En_serve : Cond.selects y_En_serve.cls y_En_serve y_En_serve ∈ sn_tbl := sn_in (List.mem_append_left _ (List.mem_of_getElem? (l := k2_sels lw_privs) (i := 17) (by decide +kernel))) rfl
theorem F_En_109 : sn_F "SignalNetwork$End" 109 1 17 false (.int) := ⟨_, _, _, _, CF1, by decide, rfl, rfl, rfl, sn_tb (n := 406) (by decide +kernel) rfl⟩
theorem F_En_106 : sn_F "SignalNetwork$End" 106 1 18 false (.int) := ⟨_, _, _, _, CF1, by decide, rfl, rfl, rfl, sn_tb (n := 407) (by decide +kernel) rfl⟩
set_option maxRecDepth 100000 in
theorem Y_Wi_reset : sn_Y y_Wi_reset c_Wi_reset 1 none 0 := ⟨sn_tb (n := 329) rfl rfl, sn_tb (n := 12) (by decide +kernel) rfl, by decide +kernel⟩
theorem L_En_115 : Cond.methodLink "SignalNetwork$End" 115 y_Wi_reset ∈ sn_tbl := sn_tb (n := 892) (by decide +kernel) rfl
theorem I_Wi_reset : Cond.instanceMethod y_Wi_reset ∈ sn_tbl := sn_tb (n := 327) (by decide +kernel) rfl
theorem Se_Wi_reset : Cond.selects y_Wi_reset.cls y_Wi_reset y_Wi_reset ∈ sn_tbl := sn_tb (n := 328) (by decide +kernel) rfl
theorem F_En_122 : sn_F "SignalNetwork$End" 122 8 0 false (.int) := ⟨_, _, _, _, CF9, by decide, rfl, rfl, rfl, sn_tb (n := 288) (by decide +kernel) rfl⟩
theorem F_En_118 : sn_F "SignalNetwork$End" 118 1 6 false (.boolean) := ⟨_, _, _, _, CF1, by decide, rfl, rfl, rfl, sn_tb (n := 389) (by decide +kernel) rfl⟩
theorem F_En_121 : sn_F "SignalNetwork$End" 121 8 5 false (.int) := ⟨_, _, _, _, CF9, by decide, rfl, rfl, rfl, sn_tb (n := 299) (by decide +kernel) rfl⟩
set_option maxRecDepth 100000 in
theorem Y_Wi_fill : sn_Y y_Wi_fill c_Wi_fill 2 none 1 := ⟨sn_tb (n := 929) rfl rfl, sn_tb (n := 12) (by decide +kernel) rfl, by decide +kernel⟩
theorem L_En_125 : Cond.methodLink "SignalNetwork$End" 125 y_Wi_fill ∈ sn_tbl := sn_tb (n := 926) (by decide +kernel) rfl
theorem I_Wi_fill : Cond.instanceMethod y_Wi_fill ∈ sn_tbl := sn_tb (n := 927) (by decide +kernel) rfl
theorem Se_Wi_fill : Cond.selects y_Wi_fill.cls y_Wi_fill y_Wi_fill ∈ sn_tbl := sn_tb (n := 928) (by decide +kernel) rfl
set_option maxRecDepth 100000 in
theorem Y_Ck_left : sn_Y y_Ck_left c_Ck_left 2 (some .int) 1 := ⟨sn_tb (n := 984) rfl rfl, sn_tb (n := 2) (by decide +kernel) rfl, by decide +kernel⟩
theorem L_En_129 : Cond.methodLink "SignalNetwork$End" 129 y_Ck_left ∈ sn_tbl := sn_tb (n := 981) (by decide +kernel) rfl
theorem I_Ck_left : Cond.instanceMethod y_Ck_left ∈ sn_tbl := sn_tb (n := 982) (by decide +kernel) rfl
theorem Se_Ck_left : Cond.selects y_Ck_left.cls y_Ck_left y_Ck_left ∈ sn_tbl := sn_tb (n := 983) (by decide +kernel) rfl
theorem F_En_132 : sn_F "SignalNetwork$End" 132 9 1 false (.int) := ⟨_, _, _, _, CF10, by decide, rfl, rfl, rfl, sn_tb (n := 336) (by decide +kernel) rfl⟩
theorem F_En_135 : sn_F "SignalNetwork$End" 135 9 2 false (.int) := ⟨_, _, _, _, CF10, by decide, rfl, rfl, rfl, sn_tb (n := 338) (by decide +kernel) rfl⟩
theorem F_En_138 : sn_F "SignalNetwork$End" 138 9 3 false (.int) := ⟨_, _, _, _, CF10, by decide, rfl, rfl, rfl, sn_tb (n := 341) (by decide +kernel) rfl⟩
theorem F_En_141 : sn_F "SignalNetwork$End" 141 9 4 false (.int) := ⟨_, _, _, _, CF10, by decide, rfl, rfl, rfl, sn_tb (n := 343) (by decide +kernel) rfl⟩
theorem F_En_144 : sn_F "SignalNetwork$End" 144 9 7 true (.object "SignalNetwork$Queue") := ⟨_, _, _, _, CF10, by decide, rfl, rfl, rfl, sn_tb (n := 350) (by decide +kernel) rfl⟩
theorem F_En_148 : sn_F "SignalNetwork$End" 148 5 2 false (.int) := ⟨_, _, _, _, CF6, by decide, rfl, rfl, rfl, sn_tb (n := 141) (by decide +kernel) rfl⟩
theorem F_En_153 : sn_F "SignalNetwork$End" 153 9 8 true (.object "SignalNetwork$Queue") := ⟨_, _, _, _, CF10, by decide, rfl, rfl, rfl, sn_tb (n := 355) (by decide +kernel) rfl⟩
theorem F_En_156 : sn_F "SignalNetwork$End" 156 9 6 false (.int) := ⟨_, _, _, _, CF10, by decide, rfl, rfl, rfl, sn_tb (n := 347) (by decide +kernel) rfl⟩
theorem F_En_157 : sn_F "SignalNetwork$End" 157 9 5 false (.int) := ⟨_, _, _, _, CF10, by decide, rfl, rfl, rfl, sn_tb (n := 345) (by decide +kernel) rfl⟩
theorem LO_Fl_3 : Cond.methodLink "SignalNetwork$Flow" 3 Lib.objectInit ∈ sn_tbl := sn_tb (n := 452) (by decide +kernel) rfl
theorem F_Fl_11 : sn_F "SignalNetwork$Flow" 11 2 2 false (.int) := ⟨_, _, _, _, CF2, by decide, rfl, rfl, rfl, sn_tb (n := 459) (by decide +kernel) rfl⟩
theorem C_Fl_15 : Cond.classLink "SignalNetwork$Flow" 15 "SignalNetwork$Queue" ∈ sn_tbl := sn_tb (n := 453) (by decide +kernel) rfl
theorem In_Qu : Cond.instantiable "SignalNetwork$Queue" 3 ∈ sn_tbl := sn_tb (n := 128) (by decide +kernel) rfl
theorem Ii_Qu : Cond.initialized "SignalNetwork$Queue" ∈ sn_tbl := sn_tb (n := 6) (by decide +kernel) rfl
set_option maxRecDepth 100000 in
theorem Y_Qu_init : sn_Y y_Qu_init c_Qu_init 2 none 1 := ⟨sn_tb (n := 131) rfl rfl, sn_tb (n := 6) (by decide +kernel) rfl, by decide +kernel⟩
theorem F_Fl_20 : sn_F "SignalNetwork$Flow" 20 2 6 true (.object "SignalNetwork$Queue") := ⟨_, _, _, _, CF2, by decide, rfl, rfl, rfl, sn_tb (n := 466) (by decide +kernel) rfl⟩
theorem F_Fl_24 : sn_F "SignalNetwork$Flow" 24 2 0 true (.int) := ⟨_, _, _, _, CF2, by decide, rfl, rfl, rfl, sn_tb (n := 455) (by decide +kernel) rfl⟩
theorem L_Fl_17 : Cond.methodLink "SignalNetwork$Flow" 17 y_Qu_init ∈ sn_tbl := sn_tb (n := 454) (by decide +kernel) rfl
theorem I_Qu_init : Cond.instanceMethod y_Qu_init ∈ sn_tbl := sn_tb (n := 130) (by decide +kernel) rfl
theorem F_Fl_27 : sn_F "SignalNetwork$Flow" 27 2 1 false (.object "SignalNetwork$End") := ⟨_, _, _, _, CF2, by decide, rfl, rfl, rfl, sn_tb (n := 457) (by decide +kernel) rfl⟩
theorem F_Fl_31 : sn_F "SignalNetwork$Flow" 31 1 4 true (.object "SignalNetwork$Window") := ⟨_, _, _, _, CF1, by decide, rfl, rfl, rfl, sn_tb (n := 384) (by decide +kernel) rfl⟩
theorem F_Fl_37 : sn_F "SignalNetwork$Flow" 37 9 8 true (.object "SignalNetwork$Queue") := ⟨_, _, _, _, CF10, by decide, rfl, rfl, rfl, sn_tb (n := 353) (by decide +kernel) rfl⟩
theorem F_Fl_42 : sn_F "SignalNetwork$Flow" 42 2 3 false (.object "SignalNetwork$End") := ⟨_, _, _, _, CF2, by decide, rfl, rfl, rfl, sn_tb (n := 461) (by decide +kernel) rfl⟩
theorem F_Fl_45 : sn_F "SignalNetwork$Flow" 45 2 4 false (.int) := ⟨_, _, _, _, CF2, by decide, rfl, rfl, rfl, sn_tb (n := 463) (by decide +kernel) rfl⟩
theorem F_Fl_48 : sn_F "SignalNetwork$Flow" 48 1 1 true (.int) := ⟨_, _, _, _, CF1, by decide, rfl, rfl, rfl, sn_tb (n := 377) (by decide +kernel) rfl⟩
theorem F_Fl_51 : sn_F "SignalNetwork$Flow" 51 5 2 false (.int) := ⟨_, _, _, _, CF6, by decide, rfl, rfl, rfl, sn_tb (n := 140) (by decide +kernel) rfl⟩
theorem LO_Lg_3 : Cond.methodLink "SignalNetwork$Leg" 3 Lib.objectInit ∈ sn_tbl := sn_tb (n := 156) (by decide +kernel) rfl
theorem F_Lg_11 : sn_F "SignalNetwork$Leg" 11 3 3 false (.int) := ⟨_, _, _, _, CF3, by decide, rfl, rfl, rfl, sn_tb (n := 163) (by decide +kernel) rfl⟩
theorem F_Lg_15 : sn_F "SignalNetwork$Leg" 15 3 9 false (.int) := ⟨_, _, _, _, CF3, by decide, rfl, rfl, rfl, sn_tb (n := 176) (by decide +kernel) rfl⟩
theorem F_Lg_18 : sn_F "SignalNetwork$Leg" 18 3 0 true (.int) := ⟨_, _, _, _, CF3, by decide, rfl, rfl, rfl, sn_tb (n := 157) (by decide +kernel) rfl⟩
theorem F_Lg_21 : sn_F "SignalNetwork$Leg" 21 3 1 true (.int) := ⟨_, _, _, _, CF3, by decide, rfl, rfl, rfl, sn_tb (n := 159) (by decide +kernel) rfl⟩
theorem F_Lg_24 : sn_F "SignalNetwork$Leg" 24 3 2 true (.int) := ⟨_, _, _, _, CF3, by decide, rfl, rfl, rfl, sn_tb (n := 161) (by decide +kernel) rfl⟩
theorem F_Lg_27 : sn_F "SignalNetwork$Leg" 27 3 7 false (.boolean) := ⟨_, _, _, _, CF3, by decide, rfl, rfl, rfl, sn_tb (n := 172) (by decide +kernel) rfl⟩
theorem F_Lg_31 : sn_F "SignalNetwork$Leg" 31 3 8 false (.boolean) := ⟨_, _, _, _, CF3, by decide, rfl, rfl, rfl, sn_tb (n := 174) (by decide +kernel) rfl⟩
set_option maxRecDepth 100000 in
theorem Y_Lg_isSubscriber : sn_Y y_Lg_isSubscriber c_Lg_isSubscriber 1 (some .boolean) 0 := ⟨sn_tb (n := 828) rfl rfl, sn_tb (n := 8) (by decide +kernel) rfl, by decide +kernel⟩
theorem L_Lg_34 : Cond.methodLink "SignalNetwork$Leg" 34 y_Lg_isSubscriber ∈ sn_tbl := sn_tb (n := 1060) (by decide +kernel) rfl
theorem I_Lg_isSubscriber : Cond.instanceMethod y_Lg_isSubscriber ∈ sn_tbl := sn_tb (n := 826) (by decide +kernel) rfl
theorem Se_Lg_isSubscriber : Cond.selects y_Lg_isSubscriber.cls y_Lg_isSubscriber y_Lg_isSubscriber ∈ sn_tbl := sn_tb (n := 827) (by decide +kernel) rfl
theorem F_Lg_38 : sn_F "SignalNetwork$Leg" 38 3 4 false (.object "SignalNetwork$Leg") := ⟨_, _, _, _, CF3, by decide, rfl, rfl, rfl, sn_tb (n := 166) (by decide +kernel) rfl⟩
set_option maxRecDepth 100000 in
theorem Y_Lg_code : sn_Y y_Lg_code c_Lg_code 1 (some .int) 0 := ⟨sn_tb (n := 1059) rfl rfl, sn_tb (n := 8) (by decide +kernel) rfl, by decide +kernel⟩
theorem L_Lg_42 : Cond.methodLink "SignalNetwork$Leg" 42 y_Lg_code ∈ sn_tbl := sn_tb (n := 1056) (by decide +kernel) rfl
theorem I_Lg_code : Cond.instanceMethod y_Lg_code ∈ sn_tbl := sn_tb (n := 1057) (by decide +kernel) rfl
theorem Se_Lg_code : Cond.selects y_Lg_code.cls y_Lg_code y_Lg_code ∈ sn_tbl := sn_tb (n := 1058) (by decide +kernel) rfl
theorem F_Lg_46 : sn_F "SignalNetwork$Leg" 46 3 5 false (.int) := ⟨_, _, _, _, CF3, by decide, rfl, rfl, rfl, sn_tb (n := 168) (by decide +kernel) rfl⟩
theorem F_Lg_49 : sn_F "SignalNetwork$Leg" 49 3 6 false (.int) := ⟨_, _, _, _, CF3, by decide, rfl, rfl, rfl, sn_tb (n := 170) (by decide +kernel) rfl⟩
theorem F_Lg_52 : sn_F "SignalNetwork$Leg" 52 3 11 false (.int) := ⟨_, _, _, _, CF3, by decide, rfl, rfl, rfl, sn_tb (n := 180) (by decide +kernel) rfl⟩
theorem L_Lg_55 : Cond.methodLink "SignalNetwork$Leg" 55 y_Ck_left ∈ sn_tbl := sn_tb (n := 1051) (by decide +kernel) rfl
set_option maxRecDepth 100000 in
theorem Y_Lg_joinedCode : sn_Y y_Lg_joinedCode c_Lg_joinedCode 1 (some .int) 0 := ⟨sn_tb (n := 1055) rfl rfl, sn_tb (n := 8) (by decide +kernel) rfl, by decide +kernel⟩
theorem L_Lg_61 : Cond.methodLink "SignalNetwork$Leg" 61 y_Lg_joinedCode ∈ sn_tbl := sn_tb (n := 1052) (by decide +kernel) rfl
theorem I_Lg_joinedCode : Cond.instanceMethod y_Lg_joinedCode ∈ sn_tbl := sn_tb (n := 1053) (by decide +kernel) rfl
theorem Se_Lg_joinedCode : Cond.selects y_Lg_joinedCode.cls y_Lg_joinedCode y_Lg_joinedCode ∈ sn_tbl := sn_tb (n := 1054) (by decide +kernel) rfl
theorem F_Lg_64 : sn_F "SignalNetwork$Leg" 64 3 10 false (.int) := ⟨_, _, _, _, CF3, by decide, rfl, rfl, rfl, sn_tb (n := 179) (by decide +kernel) rfl⟩
theorem K_Ms_7 : Cond.constant "SignalNetwork$Message" 7 (65535) ∈ sn_tbl := sn_tb (n := 528) (by decide +kernel) rfl
theorem KL_Ms_8 : Cond.constantLong "SignalNetwork$Message" 8 (68719476736) ∈ sn_tbl := sn_tb (n := 710) (by decide +kernel) rfl
theorem F_Pl_28 : sn_F "SignalNetwork$Plan" 28 4 6 true (.array .int) := ⟨_, _, _, _, CF5, by decide, rfl, rfl, rfl, sn_tb (n := 54) (by decide +kernel) rfl⟩
theorem F_Pl_31 : sn_F "SignalNetwork$Plan" 31 4 7 true (.array .int) := ⟨_, _, _, _, CF5, by decide, rfl, rfl, rfl, sn_tb (n := 55) (by decide +kernel) rfl⟩
theorem LO_Pl_3 : Cond.methodLink "SignalNetwork$Plan" 3 Lib.objectInit ∈ sn_tbl := sn_tb (n := 39) (by decide +kernel) rfl
theorem AC_21 : Cond.arrayClass .int ∈ sn_tbl := sn_tb (n := 73) (by decide +kernel) rfl
theorem F_Pl_9 : sn_F "SignalNetwork$Plan" 9 4 1 true (.array .int) := ⟨_, _, _, _, CF5, by decide, rfl, rfl, rfl, sn_tb (n := 43) (by decide +kernel) rfl⟩
theorem F_Pl_15 : sn_F "SignalNetwork$Plan" 15 4 2 true (.array .int) := ⟨_, _, _, _, CF5, by decide, rfl, rfl, rfl, sn_tb (n := 45) (by decide +kernel) rfl⟩
theorem AC_23 : Cond.arrayClass .boolean ∈ sn_tbl := sn_tb (n := 74) (by decide +kernel) rfl
theorem F_Pl_18 : sn_F "SignalNetwork$Plan" 18 4 3 true (.array .boolean) := ⟨_, _, _, _, CF5, by decide, rfl, rfl, rfl, sn_tb (n := 47) (by decide +kernel) rfl⟩
theorem F_Pl_22 : sn_F "SignalNetwork$Plan" 22 4 4 true (.array .boolean) := ⟨_, _, _, _, CF5, by decide, rfl, rfl, rfl, sn_tb (n := 50) (by decide +kernel) rfl⟩
theorem F_Pl_25 : sn_F "SignalNetwork$Plan" 25 4 5 true (.array .int) := ⟨_, _, _, _, CF5, by decide, rfl, rfl, rfl, sn_tb (n := 53) (by decide +kernel) rfl⟩
set_option maxRecDepth 100000 in
theorem Y_Pl_isExchange : sn_Y y_Pl_isExchange c_Pl_isExchange 1 (some .boolean) 1 := ⟨sn_tb (n := 253) rfl rfl, sn_tb (n := 3) (by decide +kernel) rfl, by decide +kernel⟩
theorem L_Pl_34 : Cond.methodLink "SignalNetwork$Plan" 34 y_Pl_isExchange ∈ sn_tbl := sn_tb (n := 251) (by decide +kernel) rfl
theorem St_Pl_isExchange : Cond.static y_Pl_isExchange ∈ sn_tbl := sn_tb (n := 252) (by decide +kernel) rfl
theorem F_Pl_38 : sn_F "SignalNetwork$Plan" 38 4 0 false (.int) := ⟨_, _, _, _, CF5, by decide, rfl, rfl, rfl, sn_tb (n := 40) (by decide +kernel) rfl⟩
set_option maxRecDepth 100000 in
theorem Y_Pl_setSize : sn_Y y_Pl_setSize c_Pl_setSize 3 (some .int) 2 := ⟨sn_tb (n := 257) rfl rfl, sn_tb (n := 3) (by decide +kernel) rfl, by decide +kernel⟩
theorem L_Pl_42 : Cond.methodLink "SignalNetwork$Plan" 42 y_Pl_setSize ∈ sn_tbl := sn_tb (n := 254) (by decide +kernel) rfl
theorem I_Pl_setSize : Cond.instanceMethod y_Pl_setSize ∈ sn_tbl := sn_tb (n := 255) (by decide +kernel) rfl
theorem Se_Pl_setSize : Cond.selects y_Pl_setSize.cls y_Pl_setSize y_Pl_setSize ∈ sn_tbl := sn_tb (n := 256) (by decide +kernel) rfl
set_option maxRecDepth 100000 in
theorem Y_Pl_areTwo : sn_Y y_Pl_areTwo c_Pl_areTwo 2 (some .boolean) 2 := ⟨sn_tb (n := 250) rfl rfl, sn_tb (n := 3) (by decide +kernel) rfl, by decide +kernel⟩
theorem L_Pl_46 : Cond.methodLink "SignalNetwork$Plan" 46 y_Pl_areTwo ∈ sn_tbl := sn_tb (n := 248) (by decide +kernel) rfl
set_option maxRecDepth 100000 in
theorem Y_Ma_min : sn_Y y_Ma_min c_Ma_min 2 (some .int) 2 := ⟨sn_tb (n := 260) rfl rfl, sn_tb (n := 7) (by decide +kernel) rfl, by decide +kernel⟩
theorem L_Pl_50 : Cond.methodLink "SignalNetwork$Plan" 50 y_Ma_min ∈ sn_tbl := sn_tb (n := 258) (by decide +kernel) rfl
set_option maxRecDepth 100000 in
theorem Y_Ma_max : sn_Y y_Ma_max c_Ma_max 2 (some .int) 2 := ⟨sn_tb (n := 135) rfl rfl, sn_tb (n := 7) (by decide +kernel) rfl, by decide +kernel⟩
theorem L_Pl_55 : Cond.methodLink "SignalNetwork$Plan" 55 y_Ma_max ∈ sn_tbl := sn_tb (n := 261) (by decide +kernel) rfl
theorem St_Ma_max : Cond.static y_Ma_max ∈ sn_tbl := sn_tb (n := 134) (by decide +kernel) rfl
theorem St_Ma_min : Cond.static y_Ma_min ∈ sn_tbl := sn_tb (n := 259) (by decide +kernel) rfl
theorem St_Pl_areTwo : Cond.static y_Pl_areTwo ∈ sn_tbl := sn_tb (n := 249) (by decide +kernel) rfl
set_option maxRecDepth 100000 in
theorem Y_Pl_mayBeTold : sn_Y y_Pl_mayBeTold c_Pl_mayBeTold 2 (some .boolean) 2 := ⟨sn_tb (n := 501) rfl rfl, sn_tb (n := 3) (by decide +kernel) rfl, by decide +kernel⟩
theorem L_Pl_58 : Cond.methodLink "SignalNetwork$Plan" 58 y_Pl_mayBeTold ∈ sn_tbl := sn_tb (n := 499) (by decide +kernel) rfl
theorem St_Pl_mayBeTold : Cond.static y_Pl_mayBeTold ∈ sn_tbl := sn_tb (n := 500) (by decide +kernel) rfl
theorem LO_Qu_1 : Cond.methodLink "SignalNetwork$Queue" 1 Lib.objectInit ∈ sn_tbl := sn_tb (n := 132) (by decide +kernel) rfl
theorem L_Qu_7 : Cond.methodLink "SignalNetwork$Queue" 7 y_Ma_max ∈ sn_tbl := sn_tb (n := 133) (by decide +kernel) rfl
theorem AC_22 : Cond.arrayClass .long ∈ sn_tbl := sn_tb (n := 151) (by decide +kernel) rfl
theorem F_Qu_13 : sn_F "SignalNetwork$Queue" 13 5 0 true (.array .long) := ⟨_, _, _, _, CF6, by decide, rfl, rfl, rfl, sn_tb (n := 136) (by decide +kernel) rfl⟩
theorem F_Qu_19 : sn_F "SignalNetwork$Queue" 19 5 2 false (.int) := ⟨_, _, _, _, CF6, by decide, rfl, rfl, rfl, sn_tb (n := 138) (by decide +kernel) rfl⟩
theorem F_Qu_23 : sn_F "SignalNetwork$Queue" 23 5 1 false (.int) := ⟨_, _, _, _, CF6, by decide, rfl, rfl, rfl, sn_tb (n := 137) (by decide +kernel) rfl⟩
set_option maxRecDepth 100000 in
theorem Y_Qu_at : sn_Y y_Qu_at c_Qu_at 3 (some .long) 1 := ⟨sn_tb (n := 752) rfl rfl, sn_tb (n := 6) (by decide +kernel) rfl, by decide +kernel⟩
theorem L_Qu_28 : Cond.methodLink "SignalNetwork$Queue" 28 y_Qu_at ∈ sn_tbl := sn_tb (n := 749) (by decide +kernel) rfl
set_option maxRecDepth 100000 in
theorem Y_Qu_drop : sn_Y y_Qu_drop c_Qu_drop 3 none 1 := ⟨sn_tb (n := 693) rfl rfl, sn_tb (n := 6) (by decide +kernel) rfl, by decide +kernel⟩
theorem L_Qu_32 : Cond.methodLink "SignalNetwork$Queue" 32 y_Qu_drop ∈ sn_tbl := sn_tb (n := 753) (by decide +kernel) rfl
theorem I_Qu_drop : Cond.instanceMethod y_Qu_drop ∈ sn_tbl := sn_tb (n := 691) (by decide +kernel) rfl
theorem Se_Qu_drop : Cond.selects y_Qu_drop.cls y_Qu_drop y_Qu_drop ∈ sn_tbl := sn_tb (n := 692) (by decide +kernel) rfl
theorem I_Qu_at : Cond.instanceMethod y_Qu_at ∈ sn_tbl := sn_tb (n := 750) (by decide +kernel) rfl
theorem Se_Qu_at : Cond.selects y_Qu_at.cls y_Qu_at y_Qu_at ∈ sn_tbl := sn_tb (n := 751) (by decide +kernel) rfl
theorem F_Sw_11 : sn_F "SignalNetwork$Switchboard" 11 6 2 true (.array (.object "SignalNetwork$Leg")) := ⟨_, _, _, _, CF7, by decide, rfl, rfl, rfl, sn_tb (n := 209) (by decide +kernel) rfl⟩
theorem C_Sw_9 : Cond.classLink "SignalNetwork$Switchboard" 9 "SignalNetwork$Leg" ∈ sn_tbl := sn_tb (n := 125) (by decide +kernel) rfl
theorem In_Lg : Cond.instantiable "SignalNetwork$Leg" 12 ∈ sn_tbl := sn_tb (n := 152) (by decide +kernel) rfl
theorem Ii_Lg : Cond.initialized "SignalNetwork$Leg" ∈ sn_tbl := sn_tb (n := 8) (by decide +kernel) rfl
set_option maxRecDepth 100000 in
theorem Y_Lg_init : sn_Y y_Lg_init c_Lg_init 4 none 3 := ⟨sn_tb (n := 155) rfl rfl, sn_tb (n := 8) (by decide +kernel) rfl, by decide +kernel⟩
theorem L_Sw_37 : Cond.methodLink "SignalNetwork$Switchboard" 37 y_Lg_init ∈ sn_tbl := sn_tb (n := 153) (by decide +kernel) rfl
theorem I_Lg_init : Cond.instanceMethod y_Lg_init ∈ sn_tbl := sn_tb (n := 154) (by decide +kernel) rfl
theorem LO_Sw_3 : Cond.methodLink "SignalNetwork$Switchboard" 3 Lib.objectInit ∈ sn_tbl := sn_tb (n := 124) (by decide +kernel) rfl
theorem F_Sw_17 : sn_F "SignalNetwork$Switchboard" 17 6 3 true (.array (.object "SignalNetwork$Leg")) := ⟨_, _, _, _, CF7, by decide, rfl, rfl, rfl, sn_tb (n := 210) (by decide +kernel) rfl⟩
theorem C_Sw_20 : Cond.classLink "SignalNetwork$Switchboard" 20 "SignalNetwork$Queue" ∈ sn_tbl := sn_tb (n := 127) (by decide +kernel) rfl
theorem F_Sw_25 : sn_F "SignalNetwork$Switchboard" 25 6 4 true (.object "SignalNetwork$Queue") := ⟨_, _, _, _, CF7, by decide, rfl, rfl, rfl, sn_tb (n := 211) (by decide +kernel) rfl⟩
theorem F_Sw_29 : sn_F "SignalNetwork$Switchboard" 29 6 0 true (.object "SignalNetwork$Plan") := ⟨_, _, _, _, CF7, by decide, rfl, rfl, rfl, sn_tb (n := 207) (by decide +kernel) rfl⟩
theorem F_Sw_33 : sn_F "SignalNetwork$Switchboard" 33 6 1 true (.object "SignalNetwork$Clock") := ⟨_, _, _, _, CF7, by decide, rfl, rfl, rfl, sn_tb (n := 208) (by decide +kernel) rfl⟩
theorem L_Sw_22 : Cond.methodLink "SignalNetwork$Switchboard" 22 y_Qu_init ∈ sn_tbl := sn_tb (n := 129) (by decide +kernel) rfl
set_option maxRecDepth 100000 in
theorem Y_Sw_addCircuit : sn_Y y_Sw_addCircuit c_Sw_addCircuit 5 none 3 := ⟨sn_tb (n := 490) rfl rfl, sn_tb (n := 5) (by decide +kernel) rfl, by decide +kernel⟩
theorem L_Sw_40 : Cond.methodLink "SignalNetwork$Switchboard" 40 y_Sw_addCircuit ∈ sn_tbl := sn_tb (n := 487) (by decide +kernel) rfl
theorem I_Sw_addCircuit : Cond.instanceMethod y_Sw_addCircuit ∈ sn_tbl := sn_tb (n := 489) (by decide +kernel) rfl
theorem Se_Sw_addCircuit : Cond.selects y_Sw_addCircuit.cls y_Sw_addCircuit y_Sw_addCircuit ∈ sn_tbl := sn_in (List.mem_append_left _ (List.mem_of_getElem? (l := k2_sels lw_privs) (i := 1) (by decide +kernel))) rfl
set_option maxRecDepth 100000 in
theorem Y_Sw_subscriberAt : sn_Y y_Sw_subscriberAt c_Sw_subscriberAt 3 (some (.object "SignalNetwork$Leg")) 1 := ⟨sn_tb (n := 811) rfl rfl, sn_tb (n := 5) (by decide +kernel) rfl, by decide +kernel⟩
theorem L_Sw_43 : Cond.methodLink "SignalNetwork$Switchboard" 43 y_Sw_subscriberAt ∈ sn_tbl := sn_tb (n := 808) (by decide +kernel) rfl
theorem F_Sw_47 : sn_F "SignalNetwork$Switchboard" 47 3 3 false (.int) := ⟨_, _, _, _, CF3, by decide, rfl, rfl, rfl, sn_tb (n := 164) (by decide +kernel) rfl⟩
set_option maxRecDepth 100000 in
theorem Y_Sw_connect : sn_Y y_Sw_connect c_Sw_connect 5 none 2 := ⟨sn_tb (n := 803) rfl rfl, sn_tb (n := 5) (by decide +kernel) rfl, by decide +kernel⟩
theorem L_Sw_51 : Cond.methodLink "SignalNetwork$Switchboard" 51 y_Sw_connect ∈ sn_tbl := sn_tb (n := 800) (by decide +kernel) rfl
theorem I_Sw_connect : Cond.instanceMethod y_Sw_connect ∈ sn_tbl := sn_tb (n := 802) (by decide +kernel) rfl
theorem Se_Sw_connect : Cond.selects y_Sw_connect.cls y_Sw_connect y_Sw_connect ∈ sn_tbl := sn_in (List.mem_append_left _ (List.mem_of_getElem? (l := k2_sels lw_privs) (i := 30) (by decide +kernel))) rfl
theorem I_Sw_subscriberAt : Cond.instanceMethod y_Sw_subscriberAt ∈ sn_tbl := sn_tb (n := 809) (by decide +kernel) rfl
theorem Se_Sw_subscriberAt : Cond.selects y_Sw_subscriberAt.cls y_Sw_subscriberAt y_Sw_subscriberAt ∈ sn_tbl := sn_tb (n := 810) (by decide +kernel) rfl
theorem F_Sw_55 : sn_F "SignalNetwork$Switchboard" 55 3 4 false (.object "SignalNetwork$Leg") := ⟨_, _, _, _, CF3, by decide, rfl, rfl, rfl, sn_tb (n := 167) (by decide +kernel) rfl⟩
set_option maxRecDepth 100000 in
theorem Y_Sw_goBack : sn_Y y_Sw_goBack c_Sw_goBack 4 none 2 := ⟨sn_tb (n := 846) rfl rfl, sn_tb (n := 5) (by decide +kernel) rfl, by decide +kernel⟩
theorem L_Sw_59 : Cond.methodLink "SignalNetwork$Switchboard" 59 y_Sw_goBack ∈ sn_tbl := sn_tb (n := 843) (by decide +kernel) rfl
theorem I_Sw_goBack : Cond.instanceMethod y_Sw_goBack ∈ sn_tbl := sn_tb (n := 845) (by decide +kernel) rfl
theorem Se_Sw_goBack : Cond.selects y_Sw_goBack.cls y_Sw_goBack y_Sw_goBack ∈ sn_tbl := sn_in (List.mem_append_left _ (List.mem_of_getElem? (l := k2_sels lw_privs) (i := 35) (by decide +kernel))) rfl
set_option maxRecDepth 100000 in
theorem Y_Lg_part : sn_Y y_Lg_part c_Lg_part 2 (some (.object "SignalNetwork$Leg")) 0 := ⟨sn_tb (n := 795) rfl rfl, sn_tb (n := 8) (by decide +kernel) rfl, by decide +kernel⟩
theorem L_Sw_62 : Cond.methodLink "SignalNetwork$Switchboard" 62 y_Lg_part ∈ sn_tbl := sn_tb (n := 792) (by decide +kernel) rfl
set_option maxRecDepth 100000 in
theorem Y_Sw_letGo : sn_Y y_Sw_letGo c_Sw_letGo 2 none 1 := ⟨sn_tb (n := 824) rfl rfl, sn_tb (n := 5) (by decide +kernel) rfl, by decide +kernel⟩
theorem L_Sw_66 : Cond.methodLink "SignalNetwork$Switchboard" 66 y_Sw_letGo ∈ sn_tbl := sn_tb (n := 821) (by decide +kernel) rfl
theorem I_Sw_letGo : Cond.instanceMethod y_Sw_letGo ∈ sn_tbl := sn_tb (n := 823) (by decide +kernel) rfl
theorem Se_Sw_letGo : Cond.selects y_Sw_letGo.cls y_Sw_letGo y_Sw_letGo ∈ sn_tbl := sn_in (List.mem_append_left _ (List.mem_of_getElem? (l := k2_sels lw_privs) (i := 33) (by decide +kernel))) rfl
theorem I_Lg_part : Cond.instanceMethod y_Lg_part ∈ sn_tbl := sn_tb (n := 793) (by decide +kernel) rfl
theorem Se_Lg_part : Cond.selects y_Lg_part.cls y_Lg_part y_Lg_part ∈ sn_tbl := sn_tb (n := 794) (by decide +kernel) rfl
theorem F_Sw_78 : sn_F "SignalNetwork$Switchboard" 78 3 10 false (.int) := ⟨_, _, _, _, CF3, by decide, rfl, rfl, rfl, sn_tb (n := 178) (by decide +kernel) rfl⟩
set_option maxRecDepth 100000 in
theorem Y_Sw_post : sn_Y y_Sw_post c_Sw_post 6 none 4 := ⟨sn_tb (n := 837) rfl rfl, sn_tb (n := 5) (by decide +kernel) rfl, by decide +kernel⟩
theorem L_Sw_81 : Cond.methodLink "SignalNetwork$Switchboard" 81 y_Sw_post ∈ sn_tbl := sn_tb (n := 834) (by decide +kernel) rfl
theorem I_Sw_post : Cond.instanceMethod y_Sw_post ∈ sn_tbl := sn_tb (n := 836) (by decide +kernel) rfl
theorem Se_Sw_post : Cond.selects y_Sw_post.cls y_Sw_post y_Sw_post ∈ sn_tbl := sn_in (List.mem_append_left _ (List.mem_of_getElem? (l := k2_sels lw_privs) (i := 34) (by decide +kernel))) rfl
set_option maxRecDepth 100000 in
theorem Y_Sw_circuitAt : sn_Y y_Sw_circuitAt c_Sw_circuitAt 4 (some (.object "SignalNetwork$Leg")) 3 := ⟨sn_tb (n := 781) rfl rfl, sn_tb (n := 5) (by decide +kernel) rfl, by decide +kernel⟩
theorem L_Sw_70 : Cond.methodLink "SignalNetwork$Switchboard" 70 y_Sw_circuitAt ∈ sn_tbl := sn_tb (n := 778) (by decide +kernel) rfl
theorem F_Sw_74 : sn_F "SignalNetwork$Switchboard" 74 3 7 false (.boolean) := ⟨_, _, _, _, CF3, by decide, rfl, rfl, rfl, sn_tb (n := 173) (by decide +kernel) rfl⟩
theorem I_Sw_circuitAt : Cond.instanceMethod y_Sw_circuitAt ∈ sn_tbl := sn_tb (n := 779) (by decide +kernel) rfl
theorem Se_Sw_circuitAt : Cond.selects y_Sw_circuitAt.cls y_Sw_circuitAt y_Sw_circuitAt ∈ sn_tbl := sn_tb (n := 780) (by decide +kernel) rfl
theorem L_Sw_101 : Cond.methodLink "SignalNetwork$Switchboard" 101 y_Lg_code ∈ sn_tbl := sn_tb (n := 1075) (by decide +kernel) rfl
theorem L_Sw_85 : Cond.methodLink "SignalNetwork$Switchboard" 85 y_Lg_isSubscriber ∈ sn_tbl := sn_tb (n := 825) (by decide +kernel) rfl
theorem F_Sw_89 : sn_F "SignalNetwork$Switchboard" 89 3 1 true (.int) := ⟨_, _, _, _, CF3, by decide, rfl, rfl, rfl, sn_tb (n := 160) (by decide +kernel) rfl⟩
theorem F_Sw_92 : sn_F "SignalNetwork$Switchboard" 92 3 0 true (.int) := ⟨_, _, _, _, CF3, by decide, rfl, rfl, rfl, sn_tb (n := 158) (by decide +kernel) rfl⟩
theorem F_Sw_95 : sn_F "SignalNetwork$Switchboard" 95 3 2 true (.int) := ⟨_, _, _, _, CF3, by decide, rfl, rfl, rfl, sn_tb (n := 162) (by decide +kernel) rfl⟩
set_option maxRecDepth 100000 in
theorem Y_Lg_isAnswered : sn_Y y_Lg_isAnswered c_Lg_isAnswered 1 (some .boolean) 0 := ⟨sn_tb (n := 1074) rfl rfl, sn_tb (n := 8) (by decide +kernel) rfl, by decide +kernel⟩
theorem L_Sw_98 : Cond.methodLink "SignalNetwork$Switchboard" 98 y_Lg_isAnswered ∈ sn_tbl := sn_tb (n := 1071) (by decide +kernel) rfl
theorem I_Lg_isAnswered : Cond.instanceMethod y_Lg_isAnswered ∈ sn_tbl := sn_tb (n := 1072) (by decide +kernel) rfl
theorem Se_Lg_isAnswered : Cond.selects y_Lg_isAnswered.cls y_Lg_isAnswered y_Lg_isAnswered ∈ sn_tbl := sn_tb (n := 1073) (by decide +kernel) rfl
set_option maxRecDepth 100000 in
theorem Y_Ms_of : sn_Y y_Ms_of c_Ms_of 8 (some .long) 6 := ⟨sn_tb (n := 527) rfl rfl, sn_tb (n := 14) (by decide +kernel) rfl, by decide +kernel⟩
theorem L_Sw_105 : Cond.methodLink "SignalNetwork$Switchboard" 105 y_Ms_of ∈ sn_tbl := sn_tb (n := 838) (by decide +kernel) rfl
set_option maxRecDepth 100000 in
theorem Y_Qu_add : sn_Y y_Qu_add c_Qu_add 4 (some .boolean) 1 := ⟨sn_tb (n := 540) rfl rfl, sn_tb (n := 6) (by decide +kernel) rfl, by decide +kernel⟩
theorem L_Sw_111 : Cond.methodLink "SignalNetwork$Switchboard" 111 y_Qu_add ∈ sn_tbl := sn_tb (n := 839) (by decide +kernel) rfl
theorem I_Qu_add : Cond.instanceMethod y_Qu_add ∈ sn_tbl := sn_tb (n := 538) (by decide +kernel) rfl
theorem Se_Qu_add : Cond.selects y_Qu_add.cls y_Qu_add y_Qu_add ∈ sn_tbl := sn_tb (n := 539) (by decide +kernel) rfl
theorem St_Ms_of : Cond.static y_Ms_of ∈ sn_tbl := sn_tb (n := 526) (by decide +kernel) rfl
set_option maxRecDepth 100000 in
theorem Y_Sw_join : sn_Y y_Sw_join c_Sw_join 2 none 2 := ⟨sn_tb (n := 842) rfl rfl, sn_tb (n := 5) (by decide +kernel) rfl, by decide +kernel⟩
theorem L_Sw_122 : Cond.methodLink "SignalNetwork$Switchboard" 122 y_Sw_join ∈ sn_tbl := sn_tb (n := 840) (by decide +kernel) rfl
theorem F_Sw_126 : sn_F "SignalNetwork$Switchboard" 126 3 11 false (.int) := ⟨_, _, _, _, CF3, by decide, rfl, rfl, rfl, sn_tb (n := 181) (by decide +kernel) rfl⟩
set_option maxRecDepth 100000 in
theorem Y_Sw_ask : sn_Y y_Sw_ask c_Sw_ask 4 none 3 := ⟨sn_tb (n := 850) rfl rfl, sn_tb (n := 5) (by decide +kernel) rfl, by decide +kernel⟩
theorem L_Sw_129 : Cond.methodLink "SignalNetwork$Switchboard" 129 y_Sw_ask ∈ sn_tbl := sn_tb (n := 847) (by decide +kernel) rfl
theorem I_Sw_ask : Cond.instanceMethod y_Sw_ask ∈ sn_tbl := sn_tb (n := 849) (by decide +kernel) rfl
theorem Se_Sw_ask : Cond.selects y_Sw_ask.cls y_Sw_ask y_Sw_ask ∈ sn_tbl := sn_in (List.mem_append_left _ (List.mem_of_getElem? (l := k2_sels lw_privs) (i := 36) (by decide +kernel))) rfl
theorem St_Sw_join : Cond.static y_Sw_join ∈ sn_tbl := sn_tb (n := 841) (by decide +kernel) rfl
set_option maxRecDepth 100000 in
theorem Y_Sw_idleCircuit : sn_Y y_Sw_idleCircuit c_Sw_idleCircuit 7 (some (.object "SignalNetwork$Leg")) 2 := ⟨sn_tb (n := 815) rfl rfl, sn_tb (n := 5) (by decide +kernel) rfl, by decide +kernel⟩
theorem L_Sw_118 : Cond.methodLink "SignalNetwork$Switchboard" 118 y_Sw_idleCircuit ∈ sn_tbl := sn_tb (n := 812) (by decide +kernel) rfl
theorem I_Sw_idleCircuit : Cond.instanceMethod y_Sw_idleCircuit ∈ sn_tbl := sn_tb (n := 814) (by decide +kernel) rfl
theorem Se_Sw_idleCircuit : Cond.selects y_Sw_idleCircuit.cls y_Sw_idleCircuit y_Sw_idleCircuit ∈ sn_tbl := sn_in (List.mem_append_left _ (List.mem_of_getElem? (l := k2_sels lw_privs) (i := 32) (by decide +kernel))) rfl
set_option maxRecDepth 100000 in
theorem Y_Sw_idleSubscriber : sn_Y y_Sw_idleSubscriber c_Sw_idleSubscriber 3 (some (.object "SignalNetwork$Leg")) 1 := ⟨sn_tb (n := 807) rfl rfl, sn_tb (n := 5) (by decide +kernel) rfl, by decide +kernel⟩
theorem L_Sw_115 : Cond.methodLink "SignalNetwork$Switchboard" 115 y_Sw_idleSubscriber ∈ sn_tbl := sn_tb (n := 804) (by decide +kernel) rfl
theorem I_Sw_idleSubscriber : Cond.instanceMethod y_Sw_idleSubscriber ∈ sn_tbl := sn_tb (n := 806) (by decide +kernel) rfl
theorem Se_Sw_idleSubscriber : Cond.selects y_Sw_idleSubscriber.cls y_Sw_idleSubscriber y_Sw_idleSubscriber ∈ sn_tbl := sn_in (List.mem_append_left _ (List.mem_of_getElem? (l := k2_sels lw_privs) (i := 31) (by decide +kernel))) rfl
set_option maxRecDepth 100000 in
theorem Y_Lg_isFree : sn_Y y_Lg_isFree c_Lg_isFree 1 (some .boolean) 0 := ⟨sn_tb (n := 820) rfl rfl, sn_tb (n := 8) (by decide +kernel) rfl, by decide +kernel⟩
theorem L_Sw_139 : Cond.methodLink "SignalNetwork$Switchboard" 139 y_Lg_isFree ∈ sn_tbl := sn_tb (n := 817) (by decide +kernel) rfl
theorem I_Lg_isFree : Cond.instanceMethod y_Lg_isFree ∈ sn_tbl := sn_tb (n := 818) (by decide +kernel) rfl
theorem Se_Lg_isFree : Cond.selects y_Lg_isFree.cls y_Lg_isFree y_Lg_isFree ∈ sn_tbl := sn_tb (n := 819) (by decide +kernel) rfl
set_option maxRecDepth 100000 in
theorem Y_Pl_told : sn_Y y_Pl_told c_Pl_told 6 (some .int) 3 := ⟨sn_tb (n := 521) rfl rfl, sn_tb (n := 3) (by decide +kernel) rfl, by decide +kernel⟩
theorem L_Sw_133 : Cond.methodLink "SignalNetwork$Switchboard" 133 y_Pl_told ∈ sn_tbl := sn_tb (n := 816) (by decide +kernel) rfl
theorem I_Pl_told : Cond.instanceMethod y_Pl_told ∈ sn_tbl := sn_tb (n := 519) (by decide +kernel) rfl
theorem Se_Pl_told : Cond.selects y_Pl_told.cls y_Pl_told y_Pl_told ∈ sn_tbl := sn_tb (n := 520) (by decide +kernel) rfl
theorem L_Sw_142 : Cond.methodLink "SignalNetwork$Switchboard" 142 y_Ck_after ∈ sn_tbl := sn_tb (n := 833) (by decide +kernel) rfl
theorem F_Sw_148 : sn_F "SignalNetwork$Switchboard" 148 3 5 false (.int) := ⟨_, _, _, _, CF3, by decide, rfl, rfl, rfl, sn_tb (n := 169) (by decide +kernel) rfl⟩
theorem F_Sw_151 : sn_F "SignalNetwork$Switchboard" 151 3 9 false (.int) := ⟨_, _, _, _, CF3, by decide, rfl, rfl, rfl, sn_tb (n := 177) (by decide +kernel) rfl⟩
set_option maxRecDepth 100000 in
theorem Y_Lg_isInCall : sn_Y y_Lg_isInCall c_Lg_isInCall 1 (some .boolean) 0 := ⟨sn_tb (n := 832) rfl rfl, sn_tb (n := 8) (by decide +kernel) rfl, by decide +kernel⟩
theorem L_Sw_154 : Cond.methodLink "SignalNetwork$Switchboard" 154 y_Lg_isInCall ∈ sn_tbl := sn_tb (n := 829) (by decide +kernel) rfl
set_option maxRecDepth 100000 in
theorem Y_Lg_leaveCall : sn_Y y_Lg_leaveCall c_Lg_leaveCall 2 none 1 := ⟨sn_tb (n := 799) rfl rfl, sn_tb (n := 8) (by decide +kernel) rfl, by decide +kernel⟩
theorem L_Sw_157 : Cond.methodLink "SignalNetwork$Switchboard" 157 y_Lg_leaveCall ∈ sn_tbl := sn_tb (n := 796) (by decide +kernel) rfl
theorem F_Sw_160 : sn_F "SignalNetwork$Switchboard" 160 3 6 false (.int) := ⟨_, _, _, _, CF3, by decide, rfl, rfl, rfl, sn_tb (n := 171) (by decide +kernel) rfl⟩
theorem I_Lg_leaveCall : Cond.instanceMethod y_Lg_leaveCall ∈ sn_tbl := sn_tb (n := 797) (by decide +kernel) rfl
theorem Se_Lg_leaveCall : Cond.selects y_Lg_leaveCall.cls y_Lg_leaveCall y_Lg_leaveCall ∈ sn_tbl := sn_tb (n := 798) (by decide +kernel) rfl
theorem I_Lg_isInCall : Cond.instanceMethod y_Lg_isInCall ∈ sn_tbl := sn_tb (n := 830) (by decide +kernel) rfl
theorem Se_Lg_isInCall : Cond.selects y_Lg_isInCall.cls y_Lg_isInCall y_Lg_isInCall ∈ sn_tbl := sn_tb (n := 831) (by decide +kernel) rfl
set_option maxRecDepth 100000 in
theorem Y_Sw_getProgress : sn_Y y_Sw_getProgress c_Sw_getProgress 4 none 3 := ⟨sn_tb (n := 854) rfl rfl, sn_tb (n := 5) (by decide +kernel) rfl, by decide +kernel⟩
theorem L_Sw_182 : Cond.methodLink "SignalNetwork$Switchboard" 182 y_Sw_getProgress ∈ sn_tbl := sn_tb (n := 851) (by decide +kernel) rfl
theorem I_Sw_getProgress : Cond.instanceMethod y_Sw_getProgress ∈ sn_tbl := sn_tb (n := 853) (by decide +kernel) rfl
theorem Se_Sw_getProgress : Cond.selects y_Sw_getProgress.cls y_Sw_getProgress y_Sw_getProgress ∈ sn_tbl := sn_in (List.mem_append_left _ (List.mem_of_getElem? (l := k2_sels lw_privs) (i := 37) (by decide +kernel))) rfl
set_option maxRecDepth 100000 in
theorem Y_Sw_getRelease : sn_Y y_Sw_getRelease c_Sw_getRelease 4 none 3 := ⟨sn_tb (n := 862) rfl rfl, sn_tb (n := 5) (by decide +kernel) rfl, by decide +kernel⟩
theorem L_Sw_185 : Cond.methodLink "SignalNetwork$Switchboard" 185 y_Sw_getRelease ∈ sn_tbl := sn_tb (n := 859) (by decide +kernel) rfl
theorem I_Sw_getRelease : Cond.instanceMethod y_Sw_getRelease ∈ sn_tbl := sn_tb (n := 861) (by decide +kernel) rfl
theorem Se_Sw_getRelease : Cond.selects y_Sw_getRelease.cls y_Sw_getRelease y_Sw_getRelease ∈ sn_tbl := sn_in (List.mem_append_left _ (List.mem_of_getElem? (l := k2_sels lw_privs) (i := 39) (by decide +kernel))) rfl
theorem F_Sw_188 : sn_F "SignalNetwork$Switchboard" 188 3 8 false (.boolean) := ⟨_, _, _, _, CF3, by decide, rfl, rfl, rfl, sn_tb (n := 175) (by decide +kernel) rfl⟩
set_option maxRecDepth 100000 in
theorem Y_Ms_first : sn_Y y_Ms_first c_Ms_first 2 (some .int) 1 := ⟨sn_tb (n := 723) rfl rfl, sn_tb (n := 14) (by decide +kernel) rfl, by decide +kernel⟩
theorem L_Sw_163 : Cond.methodLink "SignalNetwork$Switchboard" 163 y_Ms_first ∈ sn_tbl := sn_tb (n := 775) (by decide +kernel) rfl
set_option maxRecDepth 100000 in
theorem Y_Ms_to : sn_Y y_Ms_to c_Ms_to 2 (some .int) 1 := ⟨sn_tb (n := 702) rfl rfl, sn_tb (n := 14) (by decide +kernel) rfl, by decide +kernel⟩
theorem L_Sw_167 : Cond.methodLink "SignalNetwork$Switchboard" 167 y_Ms_to ∈ sn_tbl := sn_tb (n := 776) (by decide +kernel) rfl
set_option maxRecDepth 100000 in
theorem Y_Ms_from : sn_Y y_Ms_from c_Ms_from 2 (some .int) 1 := ⟨sn_tb (n := 726) rfl rfl, sn_tb (n := 14) (by decide +kernel) rfl, by decide +kernel⟩
theorem L_Sw_170 : Cond.methodLink "SignalNetwork$Switchboard" 170 y_Ms_from ∈ sn_tbl := sn_tb (n := 777) (by decide +kernel) rfl
set_option maxRecDepth 100000 in
theorem Y_Ms_kind : sn_Y y_Ms_kind c_Ms_kind 2 (some .int) 1 := ⟨sn_tb (n := 716) rfl rfl, sn_tb (n := 14) (by decide +kernel) rfl, by decide +kernel⟩
theorem L_Sw_173 : Cond.methodLink "SignalNetwork$Switchboard" 173 y_Ms_kind ∈ sn_tbl := sn_tb (n := 782) (by decide +kernel) rfl
set_option maxRecDepth 100000 in
theorem Y_Ms_second : sn_Y y_Ms_second c_Ms_second 2 (some .int) 1 := ⟨sn_tb (n := 729) rfl rfl, sn_tb (n := 14) (by decide +kernel) rfl, by decide +kernel⟩
theorem L_Sw_176 : Cond.methodLink "SignalNetwork$Switchboard" 176 y_Ms_second ∈ sn_tbl := sn_tb (n := 783) (by decide +kernel) rfl
set_option maxRecDepth 100000 in
theorem Y_Sw_getInitial : sn_Y y_Sw_getInitial c_Sw_getInitial 7 none 3 := ⟨sn_tb (n := 787) rfl rfl, sn_tb (n := 5) (by decide +kernel) rfl, by decide +kernel⟩
theorem L_Sw_179 : Cond.methodLink "SignalNetwork$Switchboard" 179 y_Sw_getInitial ∈ sn_tbl := sn_tb (n := 784) (by decide +kernel) rfl
theorem I_Sw_getInitial : Cond.instanceMethod y_Sw_getInitial ∈ sn_tbl := sn_tb (n := 786) (by decide +kernel) rfl
theorem Se_Sw_getInitial : Cond.selects y_Sw_getInitial.cls y_Sw_getInitial y_Sw_getInitial ∈ sn_tbl := sn_in (List.mem_append_left _ (List.mem_of_getElem? (l := k2_sels lw_privs) (i := 29) (by decide +kernel))) rfl
theorem St_Ms_second : Cond.static y_Ms_second ∈ sn_tbl := sn_tb (n := 728) (by decide +kernel) rfl
theorem St_Ms_kind : Cond.static y_Ms_kind ∈ sn_tbl := sn_tb (n := 715) (by decide +kernel) rfl
theorem St_Ms_first : Cond.static y_Ms_first ∈ sn_tbl := sn_tb (n := 722) (by decide +kernel) rfl
theorem St_Ms_from : Cond.static y_Ms_from ∈ sn_tbl := sn_tb (n := 725) (by decide +kernel) rfl
theorem St_Ms_to : Cond.static y_Ms_to ∈ sn_tbl := sn_tb (n := 701) (by decide +kernel) rfl
set_option maxRecDepth 100000 in
theorem Y_Lg_controls : sn_Y y_Lg_controls c_Lg_controls 2 (some .boolean) 0 := ⟨sn_tb (n := 791) rfl rfl, sn_tb (n := 8) (by decide +kernel) rfl, by decide +kernel⟩
theorem L_Sw_191 : Cond.methodLink "SignalNetwork$Switchboard" 191 y_Lg_controls ∈ sn_tbl := sn_tb (n := 788) (by decide +kernel) rfl
theorem I_Lg_controls : Cond.instanceMethod y_Lg_controls ∈ sn_tbl := sn_tb (n := 789) (by decide +kernel) rfl
theorem Se_Lg_controls : Cond.selects y_Lg_controls.cls y_Lg_controls y_Lg_controls ∈ sn_tbl := sn_tb (n := 790) (by decide +kernel) rfl
set_option maxRecDepth 100000 in
theorem Y_Sw_reset : sn_Y y_Sw_reset c_Sw_reset 2 none 1 := ⟨sn_tb (n := 858) rfl rfl, sn_tb (n := 5) (by decide +kernel) rfl, by decide +kernel⟩
theorem L_Sw_194 : Cond.methodLink "SignalNetwork$Switchboard" 194 y_Sw_reset ∈ sn_tbl := sn_tb (n := 855) (by decide +kernel) rfl
theorem I_Sw_reset : Cond.instanceMethod y_Sw_reset ∈ sn_tbl := sn_tb (n := 857) (by decide +kernel) rfl
theorem Se_Sw_reset : Cond.selects y_Sw_reset.cls y_Sw_reset y_Sw_reset ∈ sn_tbl := sn_in (List.mem_append_left _ (List.mem_of_getElem? (l := k2_sels lw_privs) (i := 38) (by decide +kernel))) rfl
set_option maxRecDepth 100000 in
theorem Y_Ck_isOut : sn_Y y_Ck_isOut c_Ck_isOut 2 (some .boolean) 1 := ⟨sn_tb (n := 887) rfl rfl, sn_tb (n := 2) (by decide +kernel) rfl, by decide +kernel⟩
theorem L_Sw_197 : Cond.methodLink "SignalNetwork$Switchboard" 197 y_Ck_isOut ∈ sn_tbl := sn_tb (n := 913) (by decide +kernel) rfl
set_option maxRecDepth 100000 in
theorem Y_Sw_timeOut : sn_Y y_Sw_timeOut c_Sw_timeOut 3 none 1 := ⟨sn_tb (n := 917) rfl rfl, sn_tb (n := 5) (by decide +kernel) rfl, by decide +kernel⟩
theorem L_Sw_201 : Cond.methodLink "SignalNetwork$Switchboard" 201 y_Sw_timeOut ∈ sn_tbl := sn_tb (n := 914) (by decide +kernel) rfl
theorem I_Sw_timeOut : Cond.instanceMethod y_Sw_timeOut ∈ sn_tbl := sn_tb (n := 916) (by decide +kernel) rfl
theorem Se_Sw_timeOut : Cond.selects y_Sw_timeOut.cls y_Sw_timeOut y_Sw_timeOut ∈ sn_tbl := sn_in (List.mem_append_left _ (List.mem_of_getElem? (l := k2_sels lw_privs) (i := 45) (by decide +kernel))) rfl
theorem I_Ck_isOut : Cond.instanceMethod y_Ck_isOut ∈ sn_tbl := sn_tb (n := 885) (by decide +kernel) rfl
theorem Se_Ck_isOut : Cond.selects y_Ck_isOut.cls y_Ck_isOut y_Ck_isOut ∈ sn_tbl := sn_tb (n := 886) (by decide +kernel) rfl
theorem LO_Tr_3 : Cond.methodLink "SignalNetwork$Transfer" 3 Lib.objectInit ∈ sn_tbl := sn_tb (n := 80) (by decide +kernel) rfl
theorem C_Tr_9 : Cond.classLink "SignalNetwork$Transfer" 9 "SignalNetwork$End" ∈ sn_tbl := sn_tb (n := 81) (by decide +kernel) rfl
theorem F_Tr_11 : sn_F "SignalNetwork$Transfer" 11 7 2 true (.array (.object "SignalNetwork$End")) := ⟨_, _, _, _, CF8, by decide, rfl, rfl, rfl, sn_tb (n := 87) (by decide +kernel) rfl⟩
theorem F_Tr_17 : sn_F "SignalNetwork$Transfer" 17 7 3 true (.array (.object "SignalNetwork$End")) := ⟨_, _, _, _, CF8, by decide, rfl, rfl, rfl, sn_tb (n := 88) (by decide +kernel) rfl⟩
theorem C_Tr_20 : Cond.classLink "SignalNetwork$Transfer" 20 "SignalNetwork$Flow" ∈ sn_tbl := sn_tb (n := 83) (by decide +kernel) rfl
theorem F_Tr_22 : sn_F "SignalNetwork$Transfer" 22 7 4 true (.array (.object "SignalNetwork$Flow")) := ⟨_, _, _, _, CF8, by decide, rfl, rfl, rfl, sn_tb (n := 89) (by decide +kernel) rfl⟩
theorem F_Tr_26 : sn_F "SignalNetwork$Transfer" 26 7 5 true (.array .boolean) := ⟨_, _, _, _, CF8, by decide, rfl, rfl, rfl, sn_tb (n := 90) (by decide +kernel) rfl⟩
theorem F_Tr_30 : sn_F "SignalNetwork$Transfer" 30 7 6 true (.array .int) := ⟨_, _, _, _, CF8, by decide, rfl, rfl, rfl, sn_tb (n := 91) (by decide +kernel) rfl⟩
theorem F_Tr_34 : sn_F "SignalNetwork$Transfer" 34 7 0 true (.object "SignalNetwork$Plan") := ⟨_, _, _, _, CF8, by decide, rfl, rfl, rfl, sn_tb (n := 85) (by decide +kernel) rfl⟩
theorem F_Tr_38 : sn_F "SignalNetwork$Transfer" 38 7 1 true (.object "SignalNetwork$Clock") := ⟨_, _, _, _, CF8, by decide, rfl, rfl, rfl, sn_tb (n := 86) (by decide +kernel) rfl⟩
set_option maxRecDepth 100000 in
theorem Y_Pl_isLink : sn_Y y_Pl_isLink c_Pl_isLink 2 (some .boolean) 1 := ⟨sn_tb (n := 269) rfl rfl, sn_tb (n := 3) (by decide +kernel) rfl, by decide +kernel⟩
theorem L_Tr_42 : Cond.methodLink "SignalNetwork$Transfer" 42 y_Pl_isLink ∈ sn_tbl := sn_tb (n := 266) (by decide +kernel) rfl
theorem F_Tr_48 : sn_F "SignalNetwork$Transfer" 48 4 1 true (.array .int) := ⟨_, _, _, _, CF5, by decide, rfl, rfl, rfl, sn_tb (n := 44) (by decide +kernel) rfl⟩
theorem F_Tr_51 : sn_F "SignalNetwork$Transfer" 51 4 2 true (.array .int) := ⟨_, _, _, _, CF5, by decide, rfl, rfl, rfl, sn_tb (n := 46) (by decide +kernel) rfl⟩
set_option maxRecDepth 100000 in
theorem Y_Tr_addEnd : sn_Y y_Tr_addEnd c_Tr_addEnd 7 none 3 := ⟨sn_tb (n := 273) rfl rfl, sn_tb (n := 4) (by decide +kernel) rfl, by decide +kernel⟩
theorem L_Tr_54 : Cond.methodLink "SignalNetwork$Transfer" 54 y_Tr_addEnd ∈ sn_tbl := sn_tb (n := 270) (by decide +kernel) rfl
theorem I_Tr_addEnd : Cond.instanceMethod y_Tr_addEnd ∈ sn_tbl := sn_tb (n := 272) (by decide +kernel) rfl
theorem Se_Tr_addEnd : Cond.selects y_Tr_addEnd.cls y_Tr_addEnd y_Tr_addEnd ∈ sn_tbl := sn_in (List.mem_append_left _ (List.mem_of_getElem? (l := k2_sels lw_privs) (i := 0) (by decide +kernel))) rfl
theorem I_Pl_isLink : Cond.instanceMethod y_Pl_isLink ∈ sn_tbl := sn_tb (n := 267) (by decide +kernel) rfl
theorem Se_Pl_isLink : Cond.selects y_Pl_isLink.cls y_Pl_isLink y_Pl_isLink ∈ sn_tbl := sn_tb (n := 268) (by decide +kernel) rfl
theorem In_Fl : Cond.instantiable "SignalNetwork$Flow" 7 ∈ sn_tbl := sn_tb (n := 448) (by decide +kernel) rfl
theorem Ii_Fl : Cond.initialized "SignalNetwork$Flow" ∈ sn_tbl := sn_tb (n := 13) (by decide +kernel) rfl
set_option maxRecDepth 100000 in
theorem Y_Fl_init : sn_Y y_Fl_init c_Fl_init 2 none 1 := ⟨sn_tb (n := 451) rfl rfl, sn_tb (n := 13) (by decide +kernel) rfl, by decide +kernel⟩
theorem L_Tr_65 : Cond.methodLink "SignalNetwork$Transfer" 65 y_Fl_init ∈ sn_tbl := sn_tb (n := 449) (by decide +kernel) rfl
theorem I_Fl_init : Cond.instanceMethod y_Fl_init ∈ sn_tbl := sn_tb (n := 450) (by decide +kernel) rfl
theorem In_En : Cond.instantiable "SignalNetwork$End" 19 ∈ sn_tbl := sn_tb (n := 274) (by decide +kernel) rfl
theorem Ii_En : Cond.initialized "SignalNetwork$End" ∈ sn_tbl := sn_tb (n := 10) (by decide +kernel) rfl
set_option maxRecDepth 100000 in
theorem Y_En_init : sn_Y y_En_init c_En_init 5 none 4 := ⟨sn_tb (n := 277) rfl rfl, sn_tb (n := 10) (by decide +kernel) rfl, by decide +kernel⟩
theorem L_Tr_61 : Cond.methodLink "SignalNetwork$Transfer" 61 y_Pl_setSize ∈ sn_tbl := sn_tb (n := 447) (by decide +kernel) rfl
theorem L_Tr_58 : Cond.methodLink "SignalNetwork$Transfer" 58 y_En_init ∈ sn_tbl := sn_tb (n := 275) (by decide +kernel) rfl
theorem I_En_init : Cond.instanceMethod y_En_init ∈ sn_tbl := sn_tb (n := 276) (by decide +kernel) rfl
theorem L_Tr_68 : Cond.methodLink "SignalNetwork$Transfer" 68 y_Pl_areTwo ∈ sn_tbl := sn_tb (n := 1041) (by decide +kernel) rfl
set_option maxRecDepth 100000 in
theorem Y_Pl_areNeighbours : sn_Y y_Pl_areNeighbours c_Pl_areNeighbours 3 (some .boolean) 2 := ⟨sn_tb (n := 769) rfl rfl, sn_tb (n := 3) (by decide +kernel) rfl, by decide +kernel⟩
theorem L_Tr_80 : Cond.methodLink "SignalNetwork$Transfer" 80 y_Pl_areNeighbours ∈ sn_tbl := sn_tb (n := 766) (by decide +kernel) rfl
set_option maxRecDepth 100000 in
theorem Y_Tr_placeOf : sn_Y y_Tr_placeOf c_Tr_placeOf 3 (some .int) 3 := ⟨sn_tb (n := 524) rfl rfl, sn_tb (n := 4) (by decide +kernel) rfl, by decide +kernel⟩
theorem L_Tr_83 : Cond.methodLink "SignalNetwork$Transfer" 83 y_Tr_placeOf ∈ sn_tbl := sn_tb (n := 522) (by decide +kernel) rfl
theorem St_Tr_placeOf : Cond.static y_Tr_placeOf ∈ sn_tbl := sn_tb (n := 523) (by decide +kernel) rfl
theorem I_Pl_areNeighbours : Cond.instanceMethod y_Pl_areNeighbours ∈ sn_tbl := sn_tb (n := 767) (by decide +kernel) rfl
theorem Se_Pl_areNeighbours : Cond.selects y_Pl_areNeighbours.cls y_Pl_areNeighbours y_Pl_areNeighbours ∈ sn_tbl := sn_tb (n := 768) (by decide +kernel) rfl
set_option maxRecDepth 100000 in
theorem Y_Tr_wayTo : sn_Y y_Tr_wayTo c_Tr_wayTo 8 (some (.object "SignalNetwork$Flow")) 4 := ⟨sn_tb (n := 517) rfl rfl, sn_tb (n := 4) (by decide +kernel) rfl, by decide +kernel⟩
theorem L_Tr_72 : Cond.methodLink "SignalNetwork$Transfer" 72 y_Tr_wayTo ∈ sn_tbl := sn_tb (n := 514) (by decide +kernel) rfl
theorem F_Tr_76 : sn_F "SignalNetwork$Transfer" 76 2 0 true (.int) := ⟨_, _, _, _, CF2, by decide, rfl, rfl, rfl, sn_tb (n := 456) (by decide +kernel) rfl⟩
theorem I_Tr_wayTo : Cond.instanceMethod y_Tr_wayTo ∈ sn_tbl := sn_tb (n := 516) (by decide +kernel) rfl
theorem Se_Tr_wayTo : Cond.selects y_Tr_wayTo.cls y_Tr_wayTo y_Tr_wayTo ∈ sn_tbl := sn_in (List.mem_append_left _ (List.mem_of_getElem? (l := k2_sels lw_privs) (i := 2) (by decide +kernel))) rfl
theorem F_Tr_91 : sn_F "SignalNetwork$Transfer" 91 1 7 false (.int) := ⟨_, _, _, _, CF1, by decide, rfl, rfl, rfl, sn_tb (n := 392) (by decide +kernel) rfl⟩
set_option maxRecDepth 100000 in
theorem Y_Tr_fail : sn_Y y_Tr_fail c_Tr_fail 2 none 1 := ⟨sn_tb (n := 577) rfl rfl, sn_tb (n := 4) (by decide +kernel) rfl, by decide +kernel⟩
theorem L_Tr_101 : Cond.methodLink "SignalNetwork$Transfer" 101 y_Tr_fail ∈ sn_tbl := sn_tb (n := 574) (by decide +kernel) rfl
theorem I_Tr_fail : Cond.instanceMethod y_Tr_fail ∈ sn_tbl := sn_tb (n := 576) (by decide +kernel) rfl
theorem Se_Tr_fail : Cond.selects y_Tr_fail.cls y_Tr_fail y_Tr_fail ∈ sn_tbl := sn_in (List.mem_append_left _ (List.mem_of_getElem? (l := k2_sels lw_privs) (i := 7) (by decide +kernel))) rfl
set_option maxRecDepth 100000 in
theorem Y_Tr_endOf : sn_Y y_Tr_endOf c_Tr_endOf 3 (some (.object "SignalNetwork$End")) 2 := ⟨sn_tb (n := 553) rfl rfl, sn_tb (n := 4) (by decide +kernel) rfl, by decide +kernel⟩
theorem L_Tr_87 : Cond.methodLink "SignalNetwork$Transfer" 87 y_Tr_endOf ∈ sn_tbl := sn_tb (n := 550) (by decide +kernel) rfl
theorem F_Tr_94 : sn_F "SignalNetwork$Transfer" 94 1 8 false (.int) := ⟨_, _, _, _, CF1, by decide, rfl, rfl, rfl, sn_tb (n := 394) (by decide +kernel) rfl⟩
set_option maxRecDepth 100000 in
theorem Y_Tr_start : sn_Y y_Tr_start c_Tr_start 2 none 1 := ⟨sn_tb (n := 557) rfl rfl, sn_tb (n := 4) (by decide +kernel) rfl, by decide +kernel⟩
theorem L_Tr_97 : Cond.methodLink "SignalNetwork$Transfer" 97 y_Tr_start ∈ sn_tbl := sn_tb (n := 554) (by decide +kernel) rfl
theorem I_Tr_start : Cond.instanceMethod y_Tr_start ∈ sn_tbl := sn_tb (n := 556) (by decide +kernel) rfl
theorem Se_Tr_start : Cond.selects y_Tr_start.cls y_Tr_start y_Tr_start ∈ sn_tbl := sn_in (List.mem_append_left _ (List.mem_of_getElem? (l := k2_sels lw_privs) (i := 4) (by decide +kernel))) rfl
theorem I_Tr_endOf : Cond.instanceMethod y_Tr_endOf ∈ sn_tbl := sn_tb (n := 551) (by decide +kernel) rfl
theorem Se_Tr_endOf : Cond.selects y_Tr_endOf.cls y_Tr_endOf y_Tr_endOf ∈ sn_tbl := sn_tb (n := 552) (by decide +kernel) rfl
set_option maxRecDepth 100000 in
theorem Y_En_start : sn_Y y_En_start c_En_start 2 none 1 := ⟨sn_tb (n := 565) rfl rfl, sn_tb (n := 10) (by decide +kernel) rfl, by decide +kernel⟩
theorem L_Tr_112 : Cond.methodLink "SignalNetwork$Transfer" 112 y_En_start ∈ sn_tbl := sn_tb (n := 562) (by decide +kernel) rfl
theorem I_En_start : Cond.instanceMethod y_En_start ∈ sn_tbl := sn_tb (n := 563) (by decide +kernel) rfl
theorem Se_En_start : Cond.selects y_En_start.cls y_En_start y_En_start ∈ sn_tbl := sn_tb (n := 564) (by decide +kernel) rfl
theorem F_Tr_104 : sn_F "SignalNetwork$Transfer" 104 1 2 true (.int) := ⟨_, _, _, _, CF1, by decide, rfl, rfl, rfl, sn_tb (n := 380) (by decide +kernel) rfl⟩
theorem F_Tr_107 : sn_F "SignalNetwork$Transfer" 107 1 3 true (.int) := ⟨_, _, _, _, CF1, by decide, rfl, rfl, rfl, sn_tb (n := 382) (by decide +kernel) rfl⟩
set_option maxRecDepth 100000 in
theorem Y_Tr_best : sn_Y y_Tr_best c_Tr_best 8 (some (.object "SignalNetwork$End")) 3 := ⟨sn_tb (n := 561) rfl rfl, sn_tb (n := 4) (by decide +kernel) rfl, by decide +kernel⟩
theorem L_Tr_108 : Cond.methodLink "SignalNetwork$Transfer" 108 y_Tr_best ∈ sn_tbl := sn_tb (n := 558) (by decide +kernel) rfl
theorem I_Tr_best : Cond.instanceMethod y_Tr_best ∈ sn_tbl := sn_tb (n := 560) (by decide +kernel) rfl
theorem Se_Tr_best : Cond.selects y_Tr_best.cls y_Tr_best y_Tr_best ∈ sn_tbl := sn_in (List.mem_append_left _ (List.mem_of_getElem? (l := k2_sels lw_privs) (i := 5) (by decide +kernel))) rfl
theorem F_Tr_145 : sn_F "SignalNetwork$Transfer" 145 1 4 true (.object "SignalNetwork$Window") := ⟨_, _, _, _, CF1, by decide, rfl, rfl, rfl, sn_tb (n := 385) (by decide +kernel) rfl⟩
theorem F_Tr_127 : sn_F "SignalNetwork$Transfer" 127 1 5 true (.object "SignalNetwork$Unit") := ⟨_, _, _, _, CF1, by decide, rfl, rfl, rfl, sn_tb (n := 387) (by decide +kernel) rfl⟩
set_option maxRecDepth 100000 in
theorem Y_Wi_treat : sn_Y y_Wi_treat c_Wi_treat 2 (some .boolean) 1 := ⟨sn_tb (n := 678) rfl rfl, sn_tb (n := 12) (by decide +kernel) rfl, by decide +kernel⟩
theorem L_Tr_149 : Cond.methodLink "SignalNetwork$Transfer" 149 y_Wi_treat ∈ sn_tbl := sn_tb (n := 675) (by decide +kernel) rfl
theorem F_Tr_155 : sn_F "SignalNetwork$Transfer" 155 8 6 false (.long) := ⟨_, _, _, _, CF9, by decide, rfl, rfl, rfl, sn_tb (n := 302) (by decide +kernel) rfl⟩
theorem I_Wi_treat : Cond.instanceMethod y_Wi_treat ∈ sn_tbl := sn_tb (n := 676) (by decide +kernel) rfl
theorem Se_Wi_treat : Cond.selects y_Wi_treat.cls y_Wi_treat y_Wi_treat ∈ sn_tbl := sn_tb (n := 677) (by decide +kernel) rfl
set_option maxRecDepth 100000 in
theorem Y_Tr_comeUp : sn_Y y_Tr_comeUp c_Tr_comeUp 7 none 1 := ⟨sn_tb (n := 666) rfl rfl, sn_tb (n := 4) (by decide +kernel) rfl, by decide +kernel⟩
theorem L_Tr_142 : Cond.methodLink "SignalNetwork$Transfer" 142 y_Tr_comeUp ∈ sn_tbl := sn_tb (n := 663) (by decide +kernel) rfl
theorem I_Tr_comeUp : Cond.instanceMethod y_Tr_comeUp ∈ sn_tbl := sn_tb (n := 665) (by decide +kernel) rfl
theorem Se_Tr_comeUp : Cond.selects y_Tr_comeUp.cls y_Tr_comeUp y_Tr_comeUp ∈ sn_tbl := sn_in (List.mem_append_left _ (List.mem_of_getElem? (l := k2_sels lw_privs) (i := 18) (by decide +kernel))) rfl
theorem F_Tr_136 : sn_F "SignalNetwork$Transfer" 136 8 5 false (.int) := ⟨_, _, _, _, CF9, by decide, rfl, rfl, rfl, sn_tb (n := 298) (by decide +kernel) rfl⟩
set_option maxRecDepth 100000 in
theorem Y_En_hear : sn_Y y_En_hear c_En_hear 3 (some .int) 2 := ⟨sn_tb (n := 631) rfl rfl, sn_tb (n := 10) (by decide +kernel) rfl, by decide +kernel⟩
theorem L_Tr_139 : Cond.methodLink "SignalNetwork$Transfer" 139 y_En_hear ∈ sn_tbl := sn_tb (n := 628) (by decide +kernel) rfl
theorem I_En_hear : Cond.instanceMethod y_En_hear ∈ sn_tbl := sn_tb (n := 629) (by decide +kernel) rfl
theorem Se_En_hear : Cond.selects y_En_hear.cls y_En_hear y_En_hear ∈ sn_tbl := sn_tb (n := 630) (by decide +kernel) rfl
set_option maxRecDepth 100000 in
theorem Y_En_isDamagedNow : sn_Y y_En_isDamagedNow c_En_isDamagedNow 1 (some .boolean) 0 := ⟨sn_tb (n := 627) rfl rfl, sn_tb (n := 10) (by decide +kernel) rfl, by decide +kernel⟩
theorem L_Tr_117 : Cond.methodLink "SignalNetwork$Transfer" 117 y_En_isDamagedNow ∈ sn_tbl := sn_tb (n := 624) (by decide +kernel) rfl
theorem F_Tr_121 : sn_F "SignalNetwork$Transfer" 121 4 4 true (.array .boolean) := ⟨_, _, _, _, CF5, by decide, rfl, rfl, rfl, sn_tb (n := 52) (by decide +kernel) rfl⟩
theorem F_Tr_124 : sn_F "SignalNetwork$Transfer" 124 1 1 true (.int) := ⟨_, _, _, _, CF1, by decide, rfl, rfl, rfl, sn_tb (n := 378) (by decide +kernel) rfl⟩
theorem F_Tr_131 : sn_F "SignalNetwork$Transfer" 131 8 0 false (.int) := ⟨_, _, _, _, CF9, by decide, rfl, rfl, rfl, sn_tb (n := 287) (by decide +kernel) rfl⟩
theorem I_En_isDamagedNow : Cond.instanceMethod y_En_isDamagedNow ∈ sn_tbl := sn_tb (n := 625) (by decide +kernel) rfl
theorem Se_En_isDamagedNow : Cond.selects y_En_isDamagedNow.cls y_En_isDamagedNow y_En_isDamagedNow ∈ sn_tbl := sn_tb (n := 626) (by decide +kernel) rfl
set_option maxRecDepth 100000 in
theorem Y_Tr_changeOver : sn_Y y_Tr_changeOver c_Tr_changeOver 7 none 2 := ⟨sn_tb (n := 720) rfl rfl, sn_tb (n := 4) (by decide +kernel) rfl, by decide +kernel⟩
theorem L_Tr_176 : Cond.methodLink "SignalNetwork$Transfer" 176 y_Tr_changeOver ∈ sn_tbl := sn_tb (n := 717) (by decide +kernel) rfl
theorem I_Tr_changeOver : Cond.instanceMethod y_Tr_changeOver ∈ sn_tbl := sn_tb (n := 719) (by decide +kernel) rfl
theorem Se_Tr_changeOver : Cond.selects y_Tr_changeOver.cls y_Tr_changeOver y_Tr_changeOver ∈ sn_tbl := sn_in (List.mem_append_left _ (List.mem_of_getElem? (l := k2_sels lw_privs) (i := 23) (by decide +kernel))) rfl
set_option maxRecDepth 100000 in
theorem Y_Tr_prohibit : sn_Y y_Tr_prohibit c_Tr_prohibit 6 none 2 := ⟨sn_tb (n := 765) rfl rfl, sn_tb (n := 4) (by decide +kernel) rfl, by decide +kernel⟩
theorem L_Tr_185 : Cond.methodLink "SignalNetwork$Transfer" 185 y_Tr_prohibit ∈ sn_tbl := sn_tb (n := 762) (by decide +kernel) rfl
theorem I_Tr_prohibit : Cond.instanceMethod y_Tr_prohibit ∈ sn_tbl := sn_tb (n := 764) (by decide +kernel) rfl
theorem Se_Tr_prohibit : Cond.selects y_Tr_prohibit.cls y_Tr_prohibit y_Tr_prohibit ∈ sn_tbl := sn_in (List.mem_append_left _ (List.mem_of_getElem? (l := k2_sels lw_privs) (i := 28) (by decide +kernel))) rfl
theorem L_Tr_159 : Cond.methodLink "SignalNetwork$Transfer" 159 y_Ms_to ∈ sn_tbl := sn_tb (n := 700) (by decide +kernel) rfl
theorem F_Tr_167 : sn_F "SignalNetwork$Transfer" 167 7 8 false (.int) := ⟨_, _, _, _, CF8, by decide, rfl, rfl, rfl, sn_tb (n := 94) (by decide +kernel) rfl⟩
theorem L_Tr_170 : Cond.methodLink "SignalNetwork$Transfer" 170 y_Ms_kind ∈ sn_tbl := sn_tb (n := 714) (by decide +kernel) rfl
theorem F_Tr_173 : sn_F "SignalNetwork$Transfer" 173 7 9 false (.int) := ⟨_, _, _, _, CF8, by decide, rfl, rfl, rfl, sn_tb (n := 96) (by decide +kernel) rfl⟩
set_option maxRecDepth 100000 in
theorem Y_Tr_confirmBack : sn_Y y_Tr_confirmBack c_Tr_confirmBack 6 none 2 := ⟨sn_tb (n := 757) rfl rfl, sn_tb (n := 4) (by decide +kernel) rfl, by decide +kernel⟩
theorem L_Tr_179 : Cond.methodLink "SignalNetwork$Transfer" 179 y_Tr_confirmBack ∈ sn_tbl := sn_tb (n := 754) (by decide +kernel) rfl
theorem I_Tr_confirmBack : Cond.instanceMethod y_Tr_confirmBack ∈ sn_tbl := sn_tb (n := 756) (by decide +kernel) rfl
theorem Se_Tr_confirmBack : Cond.selects y_Tr_confirmBack.cls y_Tr_confirmBack y_Tr_confirmBack ∈ sn_tbl := sn_in (List.mem_append_left _ (List.mem_of_getElem? (l := k2_sels lw_privs) (i := 26) (by decide +kernel))) rfl
set_option maxRecDepth 100000 in
theorem Y_Tr_changeBack : sn_Y y_Tr_changeBack c_Tr_changeBack 7 none 2 := ⟨sn_tb (n := 761) rfl rfl, sn_tb (n := 4) (by decide +kernel) rfl, by decide +kernel⟩
theorem L_Tr_182 : Cond.methodLink "SignalNetwork$Transfer" 182 y_Tr_changeBack ∈ sn_tbl := sn_tb (n := 758) (by decide +kernel) rfl
theorem I_Tr_changeBack : Cond.instanceMethod y_Tr_changeBack ∈ sn_tbl := sn_tb (n := 760) (by decide +kernel) rfl
theorem Se_Tr_changeBack : Cond.selects y_Tr_changeBack.cls y_Tr_changeBack y_Tr_changeBack ∈ sn_tbl := sn_in (List.mem_append_left _ (List.mem_of_getElem? (l := k2_sels lw_privs) (i := 27) (by decide +kernel))) rfl
set_option maxRecDepth 100000 in
theorem Y_Tr_passOn : sn_Y y_Tr_passOn c_Tr_passOn 6 none 2 := ⟨sn_tb (n := 706) rfl rfl, sn_tb (n := 4) (by decide +kernel) rfl, by decide +kernel⟩
theorem L_Tr_163 : Cond.methodLink "SignalNetwork$Transfer" 163 y_Tr_passOn ∈ sn_tbl := sn_tb (n := 703) (by decide +kernel) rfl
theorem I_Tr_passOn : Cond.instanceMethod y_Tr_passOn ∈ sn_tbl := sn_tb (n := 705) (by decide +kernel) rfl
theorem Se_Tr_passOn : Cond.selects y_Tr_passOn.cls y_Tr_passOn y_Tr_passOn ∈ sn_tbl := sn_in (List.mem_append_left _ (List.mem_of_getElem? (l := k2_sels lw_privs) (i := 22) (by decide +kernel))) rfl
set_option maxRecDepth 100000 in
theorem Y_Ms_hopped : sn_Y y_Ms_hopped c_Ms_hopped 2 (some .long) 1 := ⟨sn_tb (n := 709) rfl rfl, sn_tb (n := 14) (by decide +kernel) rfl, by decide +kernel⟩
theorem L_Tr_188 : Cond.methodLink "SignalNetwork$Transfer" 188 y_Ms_hopped ∈ sn_tbl := sn_tb (n := 707) (by decide +kernel) rfl
set_option maxRecDepth 100000 in
theorem Y_Ms_hops : sn_Y y_Ms_hops c_Ms_hops 2 (some .int) 1 := ⟨sn_tb (n := 713) rfl rfl, sn_tb (n := 14) (by decide +kernel) rfl, by decide +kernel⟩
theorem L_Tr_192 : Cond.methodLink "SignalNetwork$Transfer" 192 y_Ms_hops ∈ sn_tbl := sn_tb (n := 711) (by decide +kernel) rfl
set_option maxRecDepth 100000 in
theorem Y_Ms_lane : sn_Y y_Ms_lane c_Ms_lane 2 (some .int) 1 := ⟨sn_tb (n := 605) rfl rfl, sn_tb (n := 14) (by decide +kernel) rfl, by decide +kernel⟩
theorem L_Tr_198 : Cond.methodLink "SignalNetwork$Transfer" 198 y_Ms_lane ∈ sn_tbl := sn_tb (n := 603) (by decide +kernel) rfl
set_option maxRecDepth 100000 in
theorem Y_Tr_give : sn_Y y_Tr_give c_Tr_give 5 none 2 := ⟨sn_tb (n := 532) rfl rfl, sn_tb (n := 4) (by decide +kernel) rfl, by decide +kernel⟩
theorem L_Tr_201 : Cond.methodLink "SignalNetwork$Transfer" 201 y_Tr_give ∈ sn_tbl := sn_tb (n := 529) (by decide +kernel) rfl
theorem I_Tr_give : Cond.instanceMethod y_Tr_give ∈ sn_tbl := sn_tb (n := 531) (by decide +kernel) rfl
theorem Se_Tr_give : Cond.selects y_Tr_give.cls y_Tr_give y_Tr_give ∈ sn_tbl := sn_in (List.mem_append_left _ (List.mem_of_getElem? (l := k2_sels lw_privs) (i := 3) (by decide +kernel))) rfl
theorem St_Ms_lane : Cond.static y_Ms_lane ∈ sn_tbl := sn_tb (n := 604) (by decide +kernel) rfl
theorem F_Tr_195 : sn_F "SignalNetwork$Transfer" 195 7 7 false (.int) := ⟨_, _, _, _, CF8, by decide, rfl, rfl, rfl, sn_tb (n := 92) (by decide +kernel) rfl⟩
theorem St_Ms_hops : Cond.static y_Ms_hops ∈ sn_tbl := sn_tb (n := 712) (by decide +kernel) rfl
theorem St_Ms_hopped : Cond.static y_Ms_hopped ∈ sn_tbl := sn_tb (n := 708) (by decide +kernel) rfl
theorem L_Tr_205 : Cond.methodLink "SignalNetwork$Transfer" 205 y_Ms_from ∈ sn_tbl := sn_tb (n := 724) (by decide +kernel) rfl
set_option maxRecDepth 100000 in
theorem Y_Fl_isOpen : sn_Y y_Fl_isOpen c_Fl_isOpen 1 (some .boolean) 0 := ⟨sn_tb (n := 513) rfl rfl, sn_tb (n := 13) (by decide +kernel) rfl, by decide +kernel⟩
theorem L_Tr_214 : Cond.methodLink "SignalNetwork$Transfer" 214 y_Fl_isOpen ∈ sn_tbl := sn_tb (n := 510) (by decide +kernel) rfl
theorem I_Fl_isOpen : Cond.instanceMethod y_Fl_isOpen ∈ sn_tbl := sn_tb (n := 511) (by decide +kernel) rfl
theorem Se_Fl_isOpen : Cond.selects y_Fl_isOpen.cls y_Fl_isOpen y_Fl_isOpen ∈ sn_tbl := sn_tb (n := 512) (by decide +kernel) rfl
theorem L_Tr_208 : Cond.methodLink "SignalNetwork$Transfer" 208 y_Pl_told ∈ sn_tbl := sn_tb (n := 518) (by decide +kernel) rfl
set_option maxRecDepth 100000 in
theorem Y_Tr_flowTo : sn_Y y_Tr_flowTo c_Tr_flowTo 4 (some (.object "SignalNetwork$Flow")) 3 := ⟨sn_tb (n := 509) rfl rfl, sn_tb (n := 4) (by decide +kernel) rfl, by decide +kernel⟩
theorem L_Tr_210 : Cond.methodLink "SignalNetwork$Transfer" 210 y_Tr_flowTo ∈ sn_tbl := sn_tb (n := 506) (by decide +kernel) rfl
theorem I_Tr_flowTo : Cond.instanceMethod y_Tr_flowTo ∈ sn_tbl := sn_tb (n := 507) (by decide +kernel) rfl
theorem Se_Tr_flowTo : Cond.selects y_Tr_flowTo.cls y_Tr_flowTo y_Tr_flowTo ∈ sn_tbl := sn_tb (n := 508) (by decide +kernel) rfl
theorem L_Tr_221 : Cond.methodLink "SignalNetwork$Transfer" 221 y_Qu_add ∈ sn_tbl := sn_tb (n := 537) (by decide +kernel) rfl
set_option maxRecDepth 100000 in
theorem Y_Fl_place : sn_Y y_Fl_place c_Fl_place 1 (some (.object "SignalNetwork$Queue")) 0 := ⟨sn_tb (n := 536) rfl rfl, sn_tb (n := 13) (by decide +kernel) rfl, by decide +kernel⟩
theorem L_Tr_217 : Cond.methodLink "SignalNetwork$Transfer" 217 y_Fl_place ∈ sn_tbl := sn_tb (n := 533) (by decide +kernel) rfl
theorem I_Fl_place : Cond.instanceMethod y_Fl_place ∈ sn_tbl := sn_tb (n := 534) (by decide +kernel) rfl
theorem Se_Fl_place : Cond.selects y_Fl_place.cls y_Fl_place y_Fl_place ∈ sn_tbl := sn_tb (n := 535) (by decide +kernel) rfl
theorem F_Tr_227 : sn_F "SignalNetwork$Transfer" 227 9 8 true (.object "SignalNetwork$Queue") := ⟨_, _, _, _, CF10, by decide, rfl, rfl, rfl, sn_tb (n := 354) (by decide +kernel) rfl⟩
set_option maxRecDepth 100000 in
theorem Y_Tr_waitAt : sn_Y y_Tr_waitAt c_Tr_waitAt 4 none 2 := ⟨sn_tb (n := 602) rfl rfl, sn_tb (n := 4) (by decide +kernel) rfl, by decide +kernel⟩
theorem L_Tr_231 : Cond.methodLink "SignalNetwork$Transfer" 231 y_Tr_waitAt ∈ sn_tbl := sn_tb (n := 599) (by decide +kernel) rfl
theorem I_Tr_waitAt : Cond.instanceMethod y_Tr_waitAt ∈ sn_tbl := sn_tb (n := 601) (by decide +kernel) rfl
theorem Se_Tr_waitAt : Cond.selects y_Tr_waitAt.cls y_Tr_waitAt y_Tr_waitAt ∈ sn_tbl := sn_in (List.mem_append_left _ (List.mem_of_getElem? (l := k2_sels lw_privs) (i := 10) (by decide +kernel))) rfl
set_option maxRecDepth 100000 in
theorem Y_Tr_look : sn_Y y_Tr_look c_Tr_look 9 none 1 := ⟨sn_tb (n := 505) rfl rfl, sn_tb (n := 4) (by decide +kernel) rfl, by decide +kernel⟩
theorem L_Tr_242 : Cond.methodLink "SignalNetwork$Transfer" 242 y_Tr_look ∈ sn_tbl := sn_tb (n := 606) (by decide +kernel) rfl
theorem I_Tr_look : Cond.instanceMethod y_Tr_look ∈ sn_tbl := sn_tb (n := 503) (by decide +kernel) rfl
theorem Se_Tr_look : Cond.selects y_Tr_look.cls y_Tr_look y_Tr_look ∈ sn_tbl := sn_tb (n := 504) (by decide +kernel) rfl
theorem F_Tr_235 : sn_F "SignalNetwork$Transfer" 235 2 2 false (.int) := ⟨_, _, _, _, CF2, by decide, rfl, rfl, rfl, sn_tb (n := 460) (by decide +kernel) rfl⟩
set_option maxRecDepth 100000 in
theorem Y_Tr_useBest : sn_Y y_Tr_useBest c_Tr_useBest 5 none 3 := ⟨sn_tb (n := 670) rfl rfl, sn_tb (n := 4) (by decide +kernel) rfl, by decide +kernel⟩
theorem L_Tr_238 : Cond.methodLink "SignalNetwork$Transfer" 238 y_Tr_useBest ∈ sn_tbl := sn_tb (n := 667) (by decide +kernel) rfl
theorem I_Tr_useBest : Cond.instanceMethod y_Tr_useBest ∈ sn_tbl := sn_tb (n := 669) (by decide +kernel) rfl
theorem Se_Tr_useBest : Cond.selects y_Tr_useBest.cls y_Tr_useBest y_Tr_useBest ∈ sn_tbl := sn_in (List.mem_append_left _ (List.mem_of_getElem? (l := k2_sels lw_privs) (i := 19) (by decide +kernel))) rfl
theorem F_Tr_245 : sn_F "SignalNetwork$Transfer" 245 2 1 false (.object "SignalNetwork$End") := ⟨_, _, _, _, CF2, by decide, rfl, rfl, rfl, sn_tb (n := 458) (by decide +kernel) rfl⟩
theorem F_Tr_249 : sn_F "SignalNetwork$Transfer" 249 2 5 false (.int) := ⟨_, _, _, _, CF2, by decide, rfl, rfl, rfl, sn_tb (n := 465) (by decide +kernel) rfl⟩
set_option maxRecDepth 100000 in
theorem Y_Tr_sendBack : sn_Y y_Tr_sendBack c_Tr_sendBack 4 none 3 := ⟨sn_tb (n := 674) rfl rfl, sn_tb (n := 4) (by decide +kernel) rfl, by decide +kernel⟩
theorem L_Tr_252 : Cond.methodLink "SignalNetwork$Transfer" 252 y_Tr_sendBack ∈ sn_tbl := sn_tb (n := 671) (by decide +kernel) rfl
theorem I_Tr_sendBack : Cond.instanceMethod y_Tr_sendBack ∈ sn_tbl := sn_tb (n := 673) (by decide +kernel) rfl
theorem Se_Tr_sendBack : Cond.selects y_Tr_sendBack.cls y_Tr_sendBack y_Tr_sendBack ∈ sn_tbl := sn_in (List.mem_append_left _ (List.mem_of_getElem? (l := k2_sels lw_privs) (i := 20) (by decide +kernel))) rfl
theorem L_Tr_259 : Cond.methodLink "SignalNetwork$Transfer" 259 y_Ck_after ∈ sn_tbl := sn_tb (n := 587) (by decide +kernel) rfl
theorem F_Tr_265 : sn_F "SignalNetwork$Transfer" 265 2 4 false (.int) := ⟨_, _, _, _, CF2, by decide, rfl, rfl, rfl, sn_tb (n := 464) (by decide +kernel) rfl⟩
theorem L_Tr_255 : Cond.methodLink "SignalNetwork$Transfer" 255 y_Ms_of ∈ sn_tbl := sn_tb (n := 525) (by decide +kernel) rfl
set_option maxRecDepth 100000 in
theorem Y_Tr_takeOut : sn_Y y_Tr_takeOut c_Tr_takeOut 5 (some .boolean) 1 := ⟨sn_tb (n := 581) rfl rfl, sn_tb (n := 4) (by decide +kernel) rfl, by decide +kernel⟩
theorem L_Tr_266 : Cond.methodLink "SignalNetwork$Transfer" 266 y_Tr_takeOut ∈ sn_tbl := sn_tb (n := 578) (by decide +kernel) rfl
set_option maxRecDepth 100000 in
theorem Y_Tr_overOf : sn_Y y_Tr_overOf c_Tr_overOf 3 (some .long) 2 := ⟨sn_tb (n := 594) rfl rfl, sn_tb (n := 4) (by decide +kernel) rfl, by decide +kernel⟩
theorem L_Tr_270 : Cond.methodLink "SignalNetwork$Transfer" 270 y_Tr_overOf ∈ sn_tbl := sn_tb (n := 592) (by decide +kernel) rfl
set_option maxRecDepth 100000 in
theorem Y_Tr_goOtherWay : sn_Y y_Tr_goOtherWay c_Tr_goOtherWay 6 none 3 := ⟨sn_tb (n := 598) rfl rfl, sn_tb (n := 4) (by decide +kernel) rfl, by decide +kernel⟩
theorem L_Tr_274 : Cond.methodLink "SignalNetwork$Transfer" 274 y_Tr_goOtherWay ∈ sn_tbl := sn_tb (n := 595) (by decide +kernel) rfl
theorem I_Tr_goOtherWay : Cond.instanceMethod y_Tr_goOtherWay ∈ sn_tbl := sn_tb (n := 597) (by decide +kernel) rfl
theorem Se_Tr_goOtherWay : Cond.selects y_Tr_goOtherWay.cls y_Tr_goOtherWay y_Tr_goOtherWay ∈ sn_tbl := sn_in (List.mem_append_left _ (List.mem_of_getElem? (l := k2_sels lw_privs) (i := 9) (by decide +kernel))) rfl
theorem St_Tr_overOf : Cond.static y_Tr_overOf ∈ sn_tbl := sn_tb (n := 593) (by decide +kernel) rfl
theorem I_Tr_takeOut : Cond.instanceMethod y_Tr_takeOut ∈ sn_tbl := sn_tb (n := 580) (by decide +kernel) rfl
theorem Se_Tr_takeOut : Cond.selects y_Tr_takeOut.cls y_Tr_takeOut y_Tr_takeOut ∈ sn_tbl := sn_in (List.mem_append_left _ (List.mem_of_getElem? (l := k2_sels lw_privs) (i := 8) (by decide +kernel))) rfl
set_option maxRecDepth 100000 in
theorem Y_Fl_holdFor : sn_Y y_Fl_holdFor c_Fl_holdFor 2 none 1 := ⟨sn_tb (n := 591) rfl rfl, sn_tb (n := 13) (by decide +kernel) rfl, by decide +kernel⟩
theorem L_Tr_284 : Cond.methodLink "SignalNetwork$Transfer" 284 y_Fl_holdFor ∈ sn_tbl := sn_tb (n := 588) (by decide +kernel) rfl
theorem I_Fl_holdFor : Cond.instanceMethod y_Fl_holdFor ∈ sn_tbl := sn_tb (n := 589) (by decide +kernel) rfl
theorem Se_Fl_holdFor : Cond.selects y_Fl_holdFor.cls y_Fl_holdFor y_Fl_holdFor ∈ sn_tbl := sn_tb (n := 590) (by decide +kernel) rfl
set_option maxRecDepth 100000 in
theorem Y_En_fallOut : sn_Y y_En_fallOut c_En_fallOut 1 none 0 := ⟨sn_tb (n := 585) rfl rfl, sn_tb (n := 10) (by decide +kernel) rfl, by decide +kernel⟩
theorem L_Tr_278 : Cond.methodLink "SignalNetwork$Transfer" 278 y_En_fallOut ∈ sn_tbl := sn_tb (n := 582) (by decide +kernel) rfl
theorem F_Tr_281 : sn_F "SignalNetwork$Transfer" 281 1 12 false (.int) := ⟨_, _, _, _, CF1, by decide, rfl, rfl, rfl, sn_tb (n := 401) (by decide +kernel) rfl⟩
theorem I_En_fallOut : Cond.instanceMethod y_En_fallOut ∈ sn_tbl := sn_tb (n := 583) (by decide +kernel) rfl
theorem Se_En_fallOut : Cond.selects y_En_fallOut.cls y_En_fallOut y_En_fallOut ∈ sn_tbl := sn_tb (n := 584) (by decide +kernel) rfl
theorem F_Tr_287 : sn_F "SignalNetwork$Transfer" 287 1 9 false (.int) := ⟨_, _, _, _, CF1, by decide, rfl, rfl, rfl, sn_tb (n := 396) (by decide +kernel) rfl⟩
theorem F_Tr_288 : sn_F "SignalNetwork$Transfer" 288 9 2 false (.int) := ⟨_, _, _, _, CF10, by decide, rfl, rfl, rfl, sn_tb (n := 339) (by decide +kernel) rfl⟩
theorem L_Tr_297 : Cond.methodLink "SignalNetwork$Transfer" 297 y_Ms_second ∈ sn_tbl := sn_tb (n := 727) (by decide +kernel) rfl
set_option maxRecDepth 100000 in
theorem Y_Tr_endChangeover : sn_Y y_Tr_endChangeover c_Tr_endChangeover 6 none 2 := ⟨sn_tb (n := 733) rfl rfl, sn_tb (n := 4) (by decide +kernel) rfl, by decide +kernel⟩
theorem L_Tr_300 : Cond.methodLink "SignalNetwork$Transfer" 300 y_Tr_endChangeover ∈ sn_tbl := sn_tb (n := 730) (by decide +kernel) rfl
theorem I_Tr_endChangeover : Cond.instanceMethod y_Tr_endChangeover ∈ sn_tbl := sn_tb (n := 732) (by decide +kernel) rfl
theorem Se_Tr_endChangeover : Cond.selects y_Tr_endChangeover.cls y_Tr_endChangeover y_Tr_endChangeover ∈ sn_tbl := sn_in (List.mem_append_left _ (List.mem_of_getElem? (l := k2_sels lw_privs) (i := 24) (by decide +kernel))) rfl
theorem F_Tr_294 : sn_F "SignalNetwork$Transfer" 294 1 10 false (.int) := ⟨_, _, _, _, CF1, by decide, rfl, rfl, rfl, sn_tb (n := 398) (by decide +kernel) rfl⟩
theorem L_Tr_291 : Cond.methodLink "SignalNetwork$Transfer" 291 y_Ms_first ∈ sn_tbl := sn_tb (n := 721) (by decide +kernel) rfl
theorem F_Tr_329 : sn_F "SignalNetwork$Transfer" 329 2 6 true (.object "SignalNetwork$Queue") := ⟨_, _, _, _, CF2, by decide, rfl, rfl, rfl, sn_tb (n := 467) (by decide +kernel) rfl⟩
set_option maxRecDepth 100000 in
theorem Y_Tr_giveAgain : sn_Y y_Tr_giveAgain c_Tr_giveAgain 9 none 2 := ⟨sn_tb (n := 744) rfl rfl, sn_tb (n := 4) (by decide +kernel) rfl, by decide +kernel⟩
theorem L_Tr_325 : Cond.methodLink "SignalNetwork$Transfer" 325 y_Tr_giveAgain ∈ sn_tbl := sn_tb (n := 741) (by decide +kernel) rfl
theorem I_Tr_giveAgain : Cond.instanceMethod y_Tr_giveAgain ∈ sn_tbl := sn_tb (n := 743) (by decide +kernel) rfl
theorem Se_Tr_giveAgain : Cond.selects y_Tr_giveAgain.cls y_Tr_giveAgain y_Tr_giveAgain ∈ sn_tbl := sn_in (List.mem_append_left _ (List.mem_of_getElem? (l := k2_sels lw_privs) (i := 25) (by decide +kernel))) rfl
theorem F_Tr_319 : sn_F "SignalNetwork$Transfer" 319 2 3 false (.object "SignalNetwork$End") := ⟨_, _, _, _, CF2, by decide, rfl, rfl, rfl, sn_tb (n := 462) (by decide +kernel) rfl⟩
set_option maxRecDepth 100000 in
theorem Y_Fl_free : sn_Y y_Fl_free c_Fl_free 2 none 1 := ⟨sn_tb (n := 740) rfl rfl, sn_tb (n := 13) (by decide +kernel) rfl, by decide +kernel⟩
theorem L_Tr_322 : Cond.methodLink "SignalNetwork$Transfer" 322 y_Fl_free ∈ sn_tbl := sn_tb (n := 737) (by decide +kernel) rfl
theorem I_Fl_free : Cond.instanceMethod y_Fl_free ∈ sn_tbl := sn_tb (n := 738) (by decide +kernel) rfl
theorem Se_Fl_free : Cond.selects y_Fl_free.cls y_Fl_free y_Fl_free ∈ sn_tbl := sn_tb (n := 739) (by decide +kernel) rfl
theorem L_Tr_316 : Cond.methodLink "SignalNetwork$Transfer" 316 y_Wi_stop ∈ sn_tbl := sn_tb (n := 736) (by decide +kernel) rfl
theorem F_Tr_304 : sn_F "SignalNetwork$Transfer" 304 9 7 true (.object "SignalNetwork$Queue") := ⟨_, _, _, _, CF10, by decide, rfl, rfl, rfl, sn_tb (n := 351) (by decide +kernel) rfl⟩
set_option maxRecDepth 100000 in
theorem Y_Wi_acknowledge : sn_Y y_Wi_acknowledge c_Wi_acknowledge 3 none 1 := ⟨sn_tb (n := 682) rfl rfl, sn_tb (n := 12) (by decide +kernel) rfl, by decide +kernel⟩
theorem L_Tr_313 : Cond.methodLink "SignalNetwork$Transfer" 313 y_Wi_acknowledge ∈ sn_tbl := sn_tb (n := 735) (by decide +kernel) rfl
theorem I_Wi_acknowledge : Cond.instanceMethod y_Wi_acknowledge ∈ sn_tbl := sn_tb (n := 680) (by decide +kernel) rfl
theorem Se_Wi_acknowledge : Cond.selects y_Wi_acknowledge.cls y_Wi_acknowledge y_Wi_acknowledge ∈ sn_tbl := sn_tb (n := 681) (by decide +kernel) rfl
theorem F_Tr_307 : sn_F "SignalNetwork$Transfer" 307 5 2 false (.int) := ⟨_, _, _, _, CF6, by decide, rfl, rfl, rfl, sn_tb (n := 143) (by decide +kernel) rfl⟩
theorem L_Tr_310 : Cond.methodLink "SignalNetwork$Transfer" 310 y_Qu_drop ∈ sn_tbl := sn_tb (n := 734) (by decide +kernel) rfl
set_option maxRecDepth 100000 in
theorem Y_Qu_takeFirst : sn_Y y_Qu_takeFirst c_Qu_takeFirst 3 (some .long) 0 := ⟨sn_tb (n := 748) rfl rfl, sn_tb (n := 6) (by decide +kernel) rfl, by decide +kernel⟩
theorem L_Tr_332 : Cond.methodLink "SignalNetwork$Transfer" 332 y_Qu_takeFirst ∈ sn_tbl := sn_tb (n := 745) (by decide +kernel) rfl
theorem I_Qu_takeFirst : Cond.instanceMethod y_Qu_takeFirst ∈ sn_tbl := sn_tb (n := 746) (by decide +kernel) rfl
theorem Se_Qu_takeFirst : Cond.selects y_Qu_takeFirst.cls y_Qu_takeFirst y_Qu_takeFirst ∈ sn_tbl := sn_tb (n := 747) (by decide +kernel) rfl
theorem L_Tr_336 : Cond.methodLink "SignalNetwork$Transfer" 336 y_Pl_isExchange ∈ sn_tbl := sn_tb (n := 770) (by decide +kernel) rfl
set_option maxRecDepth 100000 in
theorem Y_Tr_runChangeoverTimers : sn_Y y_Tr_runChangeoverTimers c_Tr_runChangeoverTimers 4 none 1 := ⟨sn_tb (n := 896) rfl rfl, sn_tb (n := 4) (by decide +kernel) rfl, by decide +kernel⟩
theorem L_Tr_345 : Cond.methodLink "SignalNetwork$Transfer" 345 y_Tr_runChangeoverTimers ∈ sn_tbl := sn_tb (n := 893) (by decide +kernel) rfl
set_option maxRecDepth 100000 in
theorem Y_Tr_runChangebackTimers : sn_Y y_Tr_runChangebackTimers c_Tr_runChangebackTimers 5 none 1 := ⟨sn_tb (n := 900) rfl rfl, sn_tb (n := 4) (by decide +kernel) rfl, by decide +kernel⟩
theorem L_Tr_348 : Cond.methodLink "SignalNetwork$Transfer" 348 y_Tr_runChangebackTimers ∈ sn_tbl := sn_tb (n := 897) (by decide +kernel) rfl
theorem I_Tr_runChangebackTimers : Cond.instanceMethod y_Tr_runChangebackTimers ∈ sn_tbl := sn_tb (n := 899) (by decide +kernel) rfl
theorem Se_Tr_runChangebackTimers : Cond.selects y_Tr_runChangebackTimers.cls y_Tr_runChangebackTimers y_Tr_runChangebackTimers ∈ sn_tbl := sn_in (List.mem_append_left _ (List.mem_of_getElem? (l := k2_sels lw_privs) (i := 43) (by decide +kernel))) rfl
theorem I_Tr_runChangeoverTimers : Cond.instanceMethod y_Tr_runChangeoverTimers ∈ sn_tbl := sn_tb (n := 895) (by decide +kernel) rfl
theorem Se_Tr_runChangeoverTimers : Cond.selects y_Tr_runChangeoverTimers.cls y_Tr_runChangeoverTimers y_Tr_runChangeoverTimers ∈ sn_tbl := sn_in (List.mem_append_left _ (List.mem_of_getElem? (l := k2_sels lw_privs) (i := 42) (by decide +kernel))) rfl
theorem F_Tr_339 : sn_F "SignalNetwork$Transfer" 339 4 0 false (.int) := ⟨_, _, _, _, CF5, by decide, rfl, rfl, rfl, sn_tb (n := 42) (by decide +kernel) rfl⟩
set_option maxRecDepth 100000 in
theorem Y_Tr_runEndTimers : sn_Y y_Tr_runEndTimers c_Tr_runEndTimers 2 none 1 := ⟨sn_tb (n := 883) rfl rfl, sn_tb (n := 4) (by decide +kernel) rfl, by decide +kernel⟩
theorem L_Tr_342 : Cond.methodLink "SignalNetwork$Transfer" 342 y_Tr_runEndTimers ∈ sn_tbl := sn_tb (n := 880) (by decide +kernel) rfl
theorem I_Tr_runEndTimers : Cond.instanceMethod y_Tr_runEndTimers ∈ sn_tbl := sn_tb (n := 882) (by decide +kernel) rfl
theorem Se_Tr_runEndTimers : Cond.selects y_Tr_runEndTimers.cls y_Tr_runEndTimers y_Tr_runEndTimers ∈ sn_tbl := sn_in (List.mem_append_left _ (List.mem_of_getElem? (l := k2_sels lw_privs) (i := 41) (by decide +kernel))) rfl
theorem F_Tr_360 : sn_F "SignalNetwork$Transfer" 360 9 6 false (.int) := ⟨_, _, _, _, CF10, by decide, rfl, rfl, rfl, sn_tb (n := 348) (by decide +kernel) rfl⟩
theorem L_Tr_351 : Cond.methodLink "SignalNetwork$Transfer" 351 y_Ck_isOut ∈ sn_tbl := sn_tb (n := 884) (by decide +kernel) rfl
theorem F_Tr_357 : sn_F "SignalNetwork$Transfer" 357 4 3 true (.array .boolean) := ⟨_, _, _, _, CF5, by decide, rfl, rfl, rfl, sn_tb (n := 49) (by decide +kernel) rfl⟩
set_option maxRecDepth 100000 in
theorem Y_En_becomeReady : sn_Y y_En_becomeReady c_En_becomeReady 1 none 0 := ⟨sn_tb (n := 891) rfl rfl, sn_tb (n := 10) (by decide +kernel) rfl, by decide +kernel⟩
theorem L_Tr_354 : Cond.methodLink "SignalNetwork$Transfer" 354 y_En_becomeReady ∈ sn_tbl := sn_tb (n := 888) (by decide +kernel) rfl
theorem I_En_becomeReady : Cond.instanceMethod y_En_becomeReady ∈ sn_tbl := sn_tb (n := 889) (by decide +kernel) rfl
theorem Se_En_becomeReady : Cond.selects y_En_becomeReady.cls y_En_becomeReady y_En_becomeReady ∈ sn_tbl := sn_tb (n := 890) (by decide +kernel) rfl
set_option maxRecDepth 100000 in
theorem Y_En_sendUnit : sn_Y y_En_sendUnit c_En_sendUnit 1 none 0 := ⟨sn_tb (n := 925) rfl rfl, sn_tb (n := 10) (by decide +kernel) rfl, by decide +kernel⟩
theorem L_Tr_361 : Cond.methodLink "SignalNetwork$Transfer" 361 y_En_sendUnit ∈ sn_tbl := sn_tb (n := 922) (by decide +kernel) rfl
theorem I_En_sendUnit : Cond.instanceMethod y_En_sendUnit ∈ sn_tbl := sn_tb (n := 923) (by decide +kernel) rfl
theorem Se_En_sendUnit : Cond.selects y_En_sendUnit.cls y_En_sendUnit y_En_sendUnit ∈ sn_tbl := sn_tb (n := 924) (by decide +kernel) rfl
theorem LO_Un_3 : Cond.methodLink "SignalNetwork$Unit" 3 Lib.objectInit ∈ sn_tbl := sn_tb (n := 284) (by decide +kernel) rfl
set_option maxRecDepth 100000 in
theorem Y_Un_checkOf : sn_Y y_Un_checkOf c_Un_checkOf 5 (some .int) 2 := ⟨sn_tb (n := 1014) rfl rfl, sn_tb (n := 11) (by decide +kernel) rfl, by decide +kernel⟩
theorem L_Un_22 : Cond.methodLink "SignalNetwork$Unit" 22 y_Un_checkOf ∈ sn_tbl := sn_tb (n := 1012) (by decide +kernel) rfl
theorem St_Un_checkOf : Cond.static y_Un_checkOf ∈ sn_tbl := sn_tb (n := 1013) (by decide +kernel) rfl
theorem F_Un_9 : sn_F "SignalNetwork$Unit" 9 8 0 false (.int) := ⟨_, _, _, _, CF9, by decide, rfl, rfl, rfl, sn_tb (n := 285) (by decide +kernel) rfl⟩
set_option maxRecDepth 100000 in
theorem Y_Un_spellNumbered : sn_Y y_Un_spellNumbered c_Un_spellNumbered 4 (some .int) 1 := ⟨sn_tb (n := 1004) rfl rfl, sn_tb (n := 11) (by decide +kernel) rfl, by decide +kernel⟩
theorem L_Un_19 : Cond.methodLink "SignalNetwork$Unit" 19 y_Un_spellNumbered ∈ sn_tbl := sn_tb (n := 1001) (by decide +kernel) rfl
theorem I_Un_spellNumbered : Cond.instanceMethod y_Un_spellNumbered ∈ sn_tbl := sn_tb (n := 1003) (by decide +kernel) rfl
theorem Se_Un_spellNumbered : Cond.selects y_Un_spellNumbered.cls y_Un_spellNumbered y_Un_spellNumbered ∈ sn_tbl := sn_in (List.mem_append_left _ (List.mem_of_getElem? (l := k2_sels lw_privs) (i := 50) (by decide +kernel))) rfl
set_option maxRecDepth 100000 in
theorem Y_Un_spellState : sn_Y y_Un_spellState c_Un_spellState 2 (some .int) 1 := ⟨sn_tb (n := 1000) rfl rfl, sn_tb (n := 11) (by decide +kernel) rfl, by decide +kernel⟩
theorem L_Un_15 : Cond.methodLink "SignalNetwork$Unit" 15 y_Un_spellState ∈ sn_tbl := sn_tb (n := 997) (by decide +kernel) rfl
theorem I_Un_spellState : Cond.instanceMethod y_Un_spellState ∈ sn_tbl := sn_tb (n := 999) (by decide +kernel) rfl
theorem Se_Un_spellState : Cond.selects y_Un_spellState.cls y_Un_spellState y_Un_spellState ∈ sn_tbl := sn_in (List.mem_append_left _ (List.mem_of_getElem? (l := k2_sels lw_privs) (i := 49) (by decide +kernel))) rfl
theorem F_Un_26 : sn_F "SignalNetwork$Unit" 26 8 5 false (.int) := ⟨_, _, _, _, CF9, by decide, rfl, rfl, rfl, sn_tb (n := 297) (by decide +kernel) rfl⟩
theorem F_Un_41 : sn_F "SignalNetwork$Unit" 41 8 6 false (.long) := ⟨_, _, _, _, CF9, by decide, rfl, rfl, rfl, sn_tb (n := 300) (by decide +kernel) rfl⟩
theorem L_Un_60 : Cond.methodLink "SignalNetwork$Unit" 60 y_Ms_first ∈ sn_tbl := sn_tb (n := 1009) (by decide +kernel) rfl
theorem L_Un_63 : Cond.methodLink "SignalNetwork$Unit" 63 y_Ms_second ∈ sn_tbl := sn_tb (n := 1010) (by decide +kernel) rfl
theorem L_Un_66 : Cond.methodLink "SignalNetwork$Unit" 66 y_Ms_hops ∈ sn_tbl := sn_tb (n := 1011) (by decide +kernel) rfl
theorem L_Un_45 : Cond.methodLink "SignalNetwork$Unit" 45 y_Ms_to ∈ sn_tbl := sn_tb (n := 1005) (by decide +kernel) rfl
theorem L_Un_51 : Cond.methodLink "SignalNetwork$Unit" 51 y_Ms_from ∈ sn_tbl := sn_tb (n := 1006) (by decide +kernel) rfl
theorem L_Un_54 : Cond.methodLink "SignalNetwork$Unit" 54 y_Ms_lane ∈ sn_tbl := sn_tb (n := 1007) (by decide +kernel) rfl
theorem L_Un_57 : Cond.methodLink "SignalNetwork$Unit" 57 y_Ms_kind ∈ sn_tbl := sn_tb (n := 1008) (by decide +kernel) rfl
theorem F_Un_29 : sn_F "SignalNetwork$Unit" 29 8 3 false (.int) := ⟨_, _, _, _, CF9, by decide, rfl, rfl, rfl, sn_tb (n := 294) (by decide +kernel) rfl⟩
theorem F_Un_32 : sn_F "SignalNetwork$Unit" 32 8 4 false (.int) := ⟨_, _, _, _, CF9, by decide, rfl, rfl, rfl, sn_tb (n := 296) (by decide +kernel) rfl⟩
theorem F_Un_35 : sn_F "SignalNetwork$Unit" 35 8 1 false (.int) := ⟨_, _, _, _, CF9, by decide, rfl, rfl, rfl, sn_tb (n := 289) (by decide +kernel) rfl⟩
theorem F_Un_38 : sn_F "SignalNetwork$Unit" 38 8 2 false (.int) := ⟨_, _, _, _, CF9, by decide, rfl, rfl, rfl, sn_tb (n := 291) (by decide +kernel) rfl⟩
theorem K_Un_69 : Cond.constant "SignalNetwork$Unit" 69 (65535) ∈ sn_tbl := sn_tb (n := 1015) (by decide +kernel) rfl
theorem K_Un_70 : Cond.constant "SignalNetwork$Unit" 70 (33800) ∈ sn_tbl := sn_tb (n := 1016) (by decide +kernel) rfl
theorem LO_Wi_3 : Cond.methodLink "SignalNetwork$Window" 3 Lib.objectInit ∈ sn_tbl := sn_tb (n := 323) (by decide +kernel) rfl
theorem C_Wi_9 : Cond.classLink "SignalNetwork$Window" 9 "SignalNetwork$Queue" ∈ sn_tbl := sn_tb (n := 324) (by decide +kernel) rfl
theorem F_Wi_16 : sn_F "SignalNetwork$Window" 16 9 7 true (.object "SignalNetwork$Queue") := ⟨_, _, _, _, CF10, by decide, rfl, rfl, rfl, sn_tb (n := 349) (by decide +kernel) rfl⟩
theorem F_Wi_20 : sn_F "SignalNetwork$Window" 20 9 8 true (.object "SignalNetwork$Queue") := ⟨_, _, _, _, CF10, by decide, rfl, rfl, rfl, sn_tb (n := 352) (by decide +kernel) rfl⟩
theorem F_Wi_23 : sn_F "SignalNetwork$Window" 23 9 0 true (.object "SignalNetwork$Clock") := ⟨_, _, _, _, CF10, by decide, rfl, rfl, rfl, sn_tb (n := 334) (by decide +kernel) rfl⟩
theorem L_Wi_27 : Cond.methodLink "SignalNetwork$Window" 27 y_Wi_reset ∈ sn_tbl := sn_tb (n := 326) (by decide +kernel) rfl
theorem L_Wi_13 : Cond.methodLink "SignalNetwork$Window" 13 y_Qu_init ∈ sn_tbl := sn_tb (n := 325) (by decide +kernel) rfl
theorem F_Wi_30 : sn_F "SignalNetwork$Window" 30 9 1 false (.int) := ⟨_, _, _, _, CF10, by decide, rfl, rfl, rfl, sn_tb (n := 335) (by decide +kernel) rfl⟩
theorem F_Wi_34 : sn_F "SignalNetwork$Window" 34 9 2 false (.int) := ⟨_, _, _, _, CF10, by decide, rfl, rfl, rfl, sn_tb (n := 337) (by decide +kernel) rfl⟩
theorem F_Wi_37 : sn_F "SignalNetwork$Window" 37 9 3 false (.int) := ⟨_, _, _, _, CF10, by decide, rfl, rfl, rfl, sn_tb (n := 340) (by decide +kernel) rfl⟩
theorem F_Wi_40 : sn_F "SignalNetwork$Window" 40 9 4 false (.int) := ⟨_, _, _, _, CF10, by decide, rfl, rfl, rfl, sn_tb (n := 342) (by decide +kernel) rfl⟩
theorem L_Wi_43 : Cond.methodLink "SignalNetwork$Window" 43 y_Wi_stop ∈ sn_tbl := sn_tb (n := 330) (by decide +kernel) rfl
theorem F_Wi_46 : sn_F "SignalNetwork$Window" 46 9 5 false (.int) := ⟨_, _, _, _, CF10, by decide, rfl, rfl, rfl, sn_tb (n := 344) (by decide +kernel) rfl⟩
theorem F_Wi_49 : sn_F "SignalNetwork$Window" 49 9 6 false (.int) := ⟨_, _, _, _, CF10, by decide, rfl, rfl, rfl, sn_tb (n := 346) (by decide +kernel) rfl⟩
theorem F_Wi_62 : sn_F "SignalNetwork$Window" 62 8 2 false (.int) := ⟨_, _, _, _, CF9, by decide, rfl, rfl, rfl, sn_tb (n := 292) (by decide +kernel) rfl⟩
theorem F_Wi_63 : sn_F "SignalNetwork$Window" 63 8 1 false (.int) := ⟨_, _, _, _, CF9, by decide, rfl, rfl, rfl, sn_tb (n := 290) (by decide +kernel) rfl⟩
theorem F_Wi_66 : sn_F "SignalNetwork$Window" 66 8 0 false (.int) := ⟨_, _, _, _, CF9, by decide, rfl, rfl, rfl, sn_tb (n := 286) (by decide +kernel) rfl⟩
theorem F_Wi_52 : sn_F "SignalNetwork$Window" 52 8 3 false (.int) := ⟨_, _, _, _, CF9, by decide, rfl, rfl, rfl, sn_tb (n := 293) (by decide +kernel) rfl⟩
theorem L_Wi_55 : Cond.methodLink "SignalNetwork$Window" 55 y_Wi_acknowledge ∈ sn_tbl := sn_tb (n := 679) (by decide +kernel) rfl
theorem F_Wi_58 : sn_F "SignalNetwork$Window" 58 8 4 false (.int) := ⟨_, _, _, _, CF9, by decide, rfl, rfl, rfl, sn_tb (n := 295) (by decide +kernel) rfl⟩
theorem F_Wi_59 : sn_F "SignalNetwork$Window" 59 5 2 false (.int) := ⟨_, _, _, _, CF6, by decide, rfl, rfl, rfl, sn_tb (n := 139) (by decide +kernel) rfl⟩
set_option maxRecDepth 100000 in
theorem Y_Wi_numberOf : sn_Y y_Wi_numberOf c_Wi_numberOf 2 (some .int) 1 := ⟨sn_tb (n := 686) rfl rfl, sn_tb (n := 12) (by decide +kernel) rfl, by decide +kernel⟩
theorem L_Wi_69 : Cond.methodLink "SignalNetwork$Window" 69 y_Wi_numberOf ∈ sn_tbl := sn_tb (n := 683) (by decide +kernel) rfl
set_option maxRecDepth 100000 in
theorem Y_Ma_floorMod : sn_Y y_Ma_floorMod c_Ma_floorMod 3 (some .int) 2 := ⟨sn_tb (n := 689) rfl rfl, sn_tb (n := 7) (by decide +kernel) rfl, by decide +kernel⟩
theorem L_Wi_73 : Cond.methodLink "SignalNetwork$Window" 73 y_Ma_floorMod ∈ sn_tbl := sn_tb (n := 687) (by decide +kernel) rfl
theorem L_Wi_79 : Cond.methodLink "SignalNetwork$Window" 79 y_Qu_drop ∈ sn_tbl := sn_tb (n := 690) (by decide +kernel) rfl
theorem L_Wi_82 : Cond.methodLink "SignalNetwork$Window" 82 y_Ck_after ∈ sn_tbl := sn_tb (n := 694) (by decide +kernel) rfl
theorem L_Wi_87 : Cond.methodLink "SignalNetwork$Window" 87 y_Ma_max ∈ sn_tbl := sn_tb (n := 695) (by decide +kernel) rfl
theorem St_Ma_floorMod : Cond.static y_Ma_floorMod ∈ sn_tbl := sn_tb (n := 688) (by decide +kernel) rfl
theorem I_Wi_numberOf : Cond.instanceMethod y_Wi_numberOf ∈ sn_tbl := sn_tb (n := 685) (by decide +kernel) rfl
theorem Se_Wi_numberOf : Cond.selects y_Wi_numberOf.cls y_Wi_numberOf y_Wi_numberOf ∈ sn_tbl := sn_in (List.mem_append_left _ (List.mem_of_getElem? (l := k2_sels lw_privs) (i := 21) (by decide +kernel))) rfl
theorem F_Wi_99 : sn_F "SignalNetwork$Window" 99 8 6 false (.long) := ⟨_, _, _, _, CF9, by decide, rfl, rfl, rfl, sn_tb (n := 301) (by decide +kernel) rfl⟩
set_option maxRecDepth 100000 in
theorem Y_Wi_sendAnew : sn_Y y_Wi_sendAnew c_Wi_sendAnew 2 none 1 := ⟨sn_tb (n := 938) rfl rfl, sn_tb (n := 12) (by decide +kernel) rfl, by decide +kernel⟩
theorem L_Wi_94 : Cond.methodLink "SignalNetwork$Window" 94 y_Wi_sendAnew ∈ sn_tbl := sn_tb (n := 935) (by decide +kernel) rfl
theorem I_Wi_sendAnew : Cond.instanceMethod y_Wi_sendAnew ∈ sn_tbl := sn_tb (n := 937) (by decide +kernel) rfl
theorem Se_Wi_sendAnew : Cond.selects y_Wi_sendAnew.cls y_Wi_sendAnew y_Wi_sendAnew ∈ sn_tbl := sn_in (List.mem_append_left _ (List.mem_of_getElem? (l := k2_sels lw_privs) (i := 47) (by decide +kernel))) rfl
set_option maxRecDepth 100000 in
theorem Y_Wi_repeat : sn_Y y_Wi_repeat c_Wi_repeat 2 none 1 := ⟨sn_tb (n := 933) rfl rfl, sn_tb (n := 12) (by decide +kernel) rfl, by decide +kernel⟩
theorem L_Wi_90 : Cond.methodLink "SignalNetwork$Window" 90 y_Wi_repeat ∈ sn_tbl := sn_tb (n := 930) (by decide +kernel) rfl
theorem I_Wi_repeat : Cond.instanceMethod y_Wi_repeat ∈ sn_tbl := sn_tb (n := 932) (by decide +kernel) rfl
theorem Se_Wi_repeat : Cond.selects y_Wi_repeat.cls y_Wi_repeat y_Wi_repeat ∈ sn_tbl := sn_in (List.mem_append_left _ (List.mem_of_getElem? (l := k2_sels lw_privs) (i := 46) (by decide +kernel))) rfl
theorem L_Wi_103 : Cond.methodLink "SignalNetwork$Window" 103 y_Qu_at ∈ sn_tbl := sn_tb (n := 934) (by decide +kernel) rfl
theorem L_Wi_107 : Cond.methodLink "SignalNetwork$Window" 107 y_Qu_takeFirst ∈ sn_tbl := sn_tb (n := 939) (by decide +kernel) rfl
theorem L_Wi_111 : Cond.methodLink "SignalNetwork$Window" 111 y_Qu_add ∈ sn_tbl := sn_tb (n := 940) (by decide +kernel) rfl
theorem LO_Sn_3 : Cond.methodLink "SignalNetwork" 3 Lib.objectInit ∈ sn_tbl := sn_tb (n := 20) (by decide +kernel) rfl
theorem C_Sn_9 : Cond.classLink "SignalNetwork" 9 "SignalNetwork$Clock" ∈ sn_tbl := sn_tb (n := 23) (by decide +kernel) rfl
theorem In_Ck : Cond.instantiable "SignalNetwork$Clock" 1 ∈ sn_tbl := sn_tb (n := 24) (by decide +kernel) rfl
theorem Ii_Ck : Cond.initialized "SignalNetwork$Clock" ∈ sn_tbl := sn_tb (n := 2) (by decide +kernel) rfl
set_option maxRecDepth 100000 in
theorem Y_Ck_init : sn_Y y_Ck_init c_Ck_init 1 none 0 := ⟨sn_tb (n := 27) rfl rfl, sn_tb (n := 2) (by decide +kernel) rfl, by decide +kernel⟩
theorem F_Sn_12 : sn_F "SignalNetwork" 12 10 0 true (.object "SignalNetwork$Clock") := ⟨_, _, _, _, CF11, by decide, rfl, rfl, rfl, sn_tb (n := 224) (by decide +kernel) rfl⟩
theorem C_Sn_16 : Cond.classLink "SignalNetwork" 16 "SignalNetwork$Plan" ∈ sn_tbl := sn_tb (n := 34) (by decide +kernel) rfl
theorem In_Pl : Cond.instantiable "SignalNetwork$Plan" 8 ∈ sn_tbl := sn_tb (n := 35) (by decide +kernel) rfl
theorem Ii_Pl : Cond.initialized "SignalNetwork$Plan" ∈ sn_tbl := sn_tb (n := 3) (by decide +kernel) rfl
set_option maxRecDepth 100000 in
theorem Y_Pl_init : sn_Y y_Pl_init c_Pl_init 2 none 0 := ⟨sn_tb (n := 38) rfl rfl, sn_tb (n := 3) (by decide +kernel) rfl, by decide +kernel⟩
theorem F_Sn_19 : sn_F "SignalNetwork" 19 10 1 true (.object "SignalNetwork$Plan") := ⟨_, _, _, _, CF11, by decide, rfl, rfl, rfl, sn_tb (n := 225) (by decide +kernel) rfl⟩
theorem C_Sn_23 : Cond.classLink "SignalNetwork" 23 "SignalNetwork$Transfer" ∈ sn_tbl := sn_tb (n := 75) (by decide +kernel) rfl
theorem In_Tr : Cond.instantiable "SignalNetwork$Transfer" 10 ∈ sn_tbl := sn_tb (n := 76) (by decide +kernel) rfl
theorem Ii_Tr : Cond.initialized "SignalNetwork$Transfer" ∈ sn_tbl := sn_tb (n := 4) (by decide +kernel) rfl
set_option maxRecDepth 100000 in
theorem Y_Tr_init : sn_Y y_Tr_init c_Tr_init 3 none 2 := ⟨sn_tb (n := 79) rfl rfl, sn_tb (n := 4) (by decide +kernel) rfl, by decide +kernel⟩
theorem F_Sn_28 : sn_F "SignalNetwork" 28 10 2 true (.object "SignalNetwork$Transfer") := ⟨_, _, _, _, CF11, by decide, rfl, rfl, rfl, sn_tb (n := 226) (by decide +kernel) rfl⟩
theorem C_Sn_32 : Cond.classLink "SignalNetwork" 32 "SignalNetwork$Switchboard" ∈ sn_tbl := sn_tb (n := 119) (by decide +kernel) rfl
theorem In_Sw : Cond.instantiable "SignalNetwork$Switchboard" 5 ∈ sn_tbl := sn_tb (n := 120) (by decide +kernel) rfl
theorem Ii_Sw : Cond.initialized "SignalNetwork$Switchboard" ∈ sn_tbl := sn_tb (n := 5) (by decide +kernel) rfl
set_option maxRecDepth 100000 in
theorem Y_Sw_init : sn_Y y_Sw_init c_Sw_init 4 none 2 := ⟨sn_tb (n := 123) rfl rfl, sn_tb (n := 5) (by decide +kernel) rfl, by decide +kernel⟩
theorem F_Sn_35 : sn_F "SignalNetwork" 35 10 3 true (.object "SignalNetwork$Switchboard") := ⟨_, _, _, _, CF11, by decide, rfl, rfl, rfl, sn_tb (n := 227) (by decide +kernel) rfl⟩
theorem F_Sn_41 : sn_F "SignalNetwork" 41 10 4 true (.array .int) := ⟨_, _, _, _, CF11, by decide, rfl, rfl, rfl, sn_tb (n := 228) (by decide +kernel) rfl⟩
theorem L_Sn_34 : Cond.methodLink "SignalNetwork" 34 y_Sw_init ∈ sn_tbl := sn_tb (n := 121) (by decide +kernel) rfl
theorem I_Sw_init : Cond.instanceMethod y_Sw_init ∈ sn_tbl := sn_tb (n := 122) (by decide +kernel) rfl
theorem L_Sn_25 : Cond.methodLink "SignalNetwork" 25 y_Tr_init ∈ sn_tbl := sn_tb (n := 77) (by decide +kernel) rfl
theorem I_Tr_init : Cond.instanceMethod y_Tr_init ∈ sn_tbl := sn_tb (n := 78) (by decide +kernel) rfl
theorem L_Sn_18 : Cond.methodLink "SignalNetwork" 18 y_Pl_init ∈ sn_tbl := sn_tb (n := 36) (by decide +kernel) rfl
theorem I_Pl_init : Cond.instanceMethod y_Pl_init ∈ sn_tbl := sn_tb (n := 37) (by decide +kernel) rfl
theorem I_Ck_init : Cond.instanceMethod y_Ck_init ∈ sn_tbl := sn_tb (n := 26) (by decide +kernel) rfl
set_option maxRecDepth 100000 in
theorem Y_Pl_addLink : sn_Y y_Pl_addLink c_Pl_addLink 3 (some .int) 2 := ⟨sn_tb (n := 247) rfl rfl, sn_tb (n := 3) (by decide +kernel) rfl, by decide +kernel⟩
theorem L_Sn_45 : Cond.methodLink "SignalNetwork" 45 y_Pl_addLink ∈ sn_tbl := sn_tb (n := 244) (by decide +kernel) rfl
set_option maxRecDepth 100000 in
theorem Y_Tr_addEnds : sn_Y y_Tr_addEnds c_Tr_addEnds 2 none 1 := ⟨sn_tb (n := 265) rfl rfl, sn_tb (n := 4) (by decide +kernel) rfl, by decide +kernel⟩
theorem L_Sn_49 : Cond.methodLink "SignalNetwork" 49 y_Tr_addEnds ∈ sn_tbl := sn_tb (n := 262) (by decide +kernel) rfl
set_option maxRecDepth 100000 in
theorem Y_Sw_addCircuits : sn_Y y_Sw_addCircuits c_Sw_addCircuits 4 none 2 := ⟨sn_tb (n := 486) rfl rfl, sn_tb (n := 5) (by decide +kernel) rfl, by decide +kernel⟩
theorem L_Sn_53 : Cond.methodLink "SignalNetwork" 53 y_Sw_addCircuits ∈ sn_tbl := sn_tb (n := 483) (by decide +kernel) rfl
theorem I_Sw_addCircuits : Cond.instanceMethod y_Sw_addCircuits ∈ sn_tbl := sn_tb (n := 484) (by decide +kernel) rfl
theorem Se_Sw_addCircuits : Cond.selects y_Sw_addCircuits.cls y_Sw_addCircuits y_Sw_addCircuits ∈ sn_tbl := sn_tb (n := 485) (by decide +kernel) rfl
theorem I_Tr_addEnds : Cond.instanceMethod y_Tr_addEnds ∈ sn_tbl := sn_tb (n := 263) (by decide +kernel) rfl
theorem Se_Tr_addEnds : Cond.selects y_Tr_addEnds.cls y_Tr_addEnds y_Tr_addEnds ∈ sn_tbl := sn_tb (n := 264) (by decide +kernel) rfl
theorem I_Pl_addLink : Cond.instanceMethod y_Pl_addLink ∈ sn_tbl := sn_tb (n := 245) (by decide +kernel) rfl
theorem Se_Pl_addLink : Cond.selects y_Pl_addLink.cls y_Pl_addLink y_Pl_addLink ∈ sn_tbl := sn_tb (n := 246) (by decide +kernel) rfl
set_option maxRecDepth 100000 in
theorem Y_Pl_tell : sn_Y y_Pl_tell c_Pl_tell 5 (some .boolean) 4 := ⟨sn_tb (n := 498) rfl rfl, sn_tb (n := 3) (by decide +kernel) rfl, by decide +kernel⟩
theorem L_Sn_57 : Cond.methodLink "SignalNetwork" 57 y_Pl_tell ∈ sn_tbl := sn_tb (n := 495) (by decide +kernel) rfl
theorem L_Sn_61 : Cond.methodLink "SignalNetwork" 61 y_Tr_look ∈ sn_tbl := sn_tb (n := 502) (by decide +kernel) rfl
theorem I_Pl_tell : Cond.instanceMethod y_Pl_tell ∈ sn_tbl := sn_tb (n := 496) (by decide +kernel) rfl
theorem Se_Pl_tell : Cond.selects y_Pl_tell.cls y_Pl_tell y_Pl_tell ∈ sn_tbl := sn_tb (n := 497) (by decide +kernel) rfl
theorem L_Sn_64 : Cond.methodLink "SignalNetwork" 64 y_Pl_isLink ∈ sn_tbl := sn_tb (n := 545) (by decide +kernel) rfl
theorem F_Sn_68 : sn_F "SignalNetwork" 68 4 3 true (.array .boolean) := ⟨_, _, _, _, CF5, by decide, rfl, rfl, rfl, sn_tb (n := 48) (by decide +kernel) rfl⟩
set_option maxRecDepth 100000 in
theorem Y_Tr_switchEnds : sn_Y y_Tr_switchEnds c_Tr_switchEnds 5 none 2 := ⟨sn_tb (n := 549) rfl rfl, sn_tb (n := 4) (by decide +kernel) rfl, by decide +kernel⟩
theorem L_Sn_72 : Cond.methodLink "SignalNetwork" 72 y_Tr_switchEnds ∈ sn_tbl := sn_tb (n := 546) (by decide +kernel) rfl
theorem I_Tr_switchEnds : Cond.instanceMethod y_Tr_switchEnds ∈ sn_tbl := sn_tb (n := 547) (by decide +kernel) rfl
theorem Se_Tr_switchEnds : Cond.selects y_Tr_switchEnds.cls y_Tr_switchEnds y_Tr_switchEnds ∈ sn_tbl := sn_tb (n := 548) (by decide +kernel) rfl
theorem F_Sn_76 : sn_F "SignalNetwork" 76 4 4 true (.array .boolean) := ⟨_, _, _, _, CF5, by decide, rfl, rfl, rfl, sn_tb (n := 51) (by decide +kernel) rfl⟩
theorem L_Sn_79 : Cond.methodLink "SignalNetwork" 79 y_Tr_endOf ∈ sn_tbl := sn_tb (n := 615) (by decide +kernel) rfl
theorem F_Sn_83 : sn_F "SignalNetwork" 83 1 11 false (.int) := ⟨_, _, _, _, CF1, by decide, rfl, rfl, rfl, sn_tb (n := 400) (by decide +kernel) rfl⟩
theorem F_Sn_89 : sn_F "SignalNetwork" 89 4 0 false (.int) := ⟨_, _, _, _, CF5, by decide, rfl, rfl, rfl, sn_tb (n := 41) (by decide +kernel) rfl⟩
set_option maxRecDepth 100000 in
theorem Y_Ck_beginLooking : sn_Y y_Ck_beginLooking c_Ck_beginLooking 1 none 0 := ⟨sn_tb (n := 875) rfl rfl, sn_tb (n := 2) (by decide +kernel) rfl, by decide +kernel⟩
theorem L_Sn_108 : Cond.methodLink "SignalNetwork" 108 y_Ck_beginLooking ∈ sn_tbl := sn_tb (n := 872) (by decide +kernel) rfl
set_option maxRecDepth 100000 in
theorem Y_Tr_runTimers : sn_Y y_Tr_runTimers c_Tr_runTimers 2 none 0 := ⟨sn_tb (n := 879) rfl rfl, sn_tb (n := 4) (by decide +kernel) rfl, by decide +kernel⟩
theorem L_Sn_111 : Cond.methodLink "SignalNetwork" 111 y_Tr_runTimers ∈ sn_tbl := sn_tb (n := 876) (by decide +kernel) rfl
set_option maxRecDepth 100000 in
theorem Y_Sn_runCircuitTimers : sn_Y y_Sn_runCircuitTimers c_Sn_runCircuitTimers 2 none 0 := ⟨sn_tb (n := 904) rfl rfl, sn_tb (n := 1) (by decide +kernel) rfl, by decide +kernel⟩
theorem L_Sn_114 : Cond.methodLink "SignalNetwork" 114 y_Sn_runCircuitTimers ∈ sn_tbl := sn_tb (n := 901) (by decide +kernel) rfl
set_option maxRecDepth 100000 in
theorem Y_Tr_sendUnits : sn_Y y_Tr_sendUnits c_Tr_sendUnits 2 none 0 := ⟨sn_tb (n := 921) rfl rfl, sn_tb (n := 4) (by decide +kernel) rfl, by decide +kernel⟩
theorem L_Sn_117 : Cond.methodLink "SignalNetwork" 117 y_Tr_sendUnits ∈ sn_tbl := sn_tb (n := 918) (by decide +kernel) rfl
theorem I_Tr_sendUnits : Cond.instanceMethod y_Tr_sendUnits ∈ sn_tbl := sn_tb (n := 919) (by decide +kernel) rfl
theorem Se_Tr_sendUnits : Cond.selects y_Tr_sendUnits.cls y_Tr_sendUnits y_Tr_sendUnits ∈ sn_tbl := sn_tb (n := 920) (by decide +kernel) rfl
theorem I_Sn_runCircuitTimers : Cond.instanceMethod y_Sn_runCircuitTimers ∈ sn_tbl := sn_tb (n := 903) (by decide +kernel) rfl
theorem Se_Sn_runCircuitTimers : Cond.selects y_Sn_runCircuitTimers.cls y_Sn_runCircuitTimers y_Sn_runCircuitTimers ∈ sn_tbl := sn_in (List.mem_append_left _ (List.mem_of_getElem? (l := k2_sels lw_privs) (i := 44) (by decide +kernel))) rfl
theorem I_Tr_runTimers : Cond.instanceMethod y_Tr_runTimers ∈ sn_tbl := sn_tb (n := 877) (by decide +kernel) rfl
theorem Se_Tr_runTimers : Cond.selects y_Tr_runTimers.cls y_Tr_runTimers y_Tr_runTimers ∈ sn_tbl := sn_tb (n := 878) (by decide +kernel) rfl
theorem I_Ck_beginLooking : Cond.instanceMethod y_Ck_beginLooking ∈ sn_tbl := sn_tb (n := 873) (by decide +kernel) rfl
theorem Se_Ck_beginLooking : Cond.selects y_Ck_beginLooking.cls y_Ck_beginLooking y_Ck_beginLooking ∈ sn_tbl := sn_tb (n := 874) (by decide +kernel) rfl
set_option maxRecDepth 100000 in
theorem Y_Tr_receive : sn_Y y_Tr_receive c_Tr_receive 8 (some .long) 1 := ⟨sn_tb (n := 623) rfl rfl, sn_tb (n := 4) (by decide +kernel) rfl, by decide +kernel⟩
theorem L_Sn_92 : Cond.methodLink "SignalNetwork" 92 y_Tr_receive ∈ sn_tbl := sn_tb (n := 620) (by decide +kernel) rfl
set_option maxRecDepth 100000 in
theorem Y_Tr_get : sn_Y y_Tr_get c_Tr_get 6 (some .boolean) 2 := ⟨sn_tb (n := 699) rfl rfl, sn_tb (n := 4) (by decide +kernel) rfl, by decide +kernel⟩
theorem L_Sn_98 : Cond.methodLink "SignalNetwork" 98 y_Tr_get ∈ sn_tbl := sn_tb (n := 696) (by decide +kernel) rfl
set_option maxRecDepth 100000 in
theorem Y_Sw_get : sn_Y y_Sw_get c_Sw_get 7 none 1 := ⟨sn_tb (n := 774) rfl rfl, sn_tb (n := 5) (by decide +kernel) rfl, by decide +kernel⟩
theorem L_Sn_102 : Cond.methodLink "SignalNetwork" 102 y_Sw_get ∈ sn_tbl := sn_tb (n := 771) (by decide +kernel) rfl
set_option maxRecDepth 100000 in
theorem Y_Sn_sendPosted : sn_Y y_Sn_sendPosted c_Sn_sendPosted 2 none 0 := ⟨sn_tb (n := 866) rfl rfl, sn_tb (n := 1) (by decide +kernel) rfl, by decide +kernel⟩
theorem L_Sn_105 : Cond.methodLink "SignalNetwork" 105 y_Sn_sendPosted ∈ sn_tbl := sn_tb (n := 863) (by decide +kernel) rfl
theorem I_Sn_sendPosted : Cond.instanceMethod y_Sn_sendPosted ∈ sn_tbl := sn_tb (n := 865) (by decide +kernel) rfl
theorem Se_Sn_sendPosted : Cond.selects y_Sn_sendPosted.cls y_Sn_sendPosted y_Sn_sendPosted ∈ sn_tbl := sn_in (List.mem_append_left _ (List.mem_of_getElem? (l := k2_sels lw_privs) (i := 40) (by decide +kernel))) rfl
theorem I_Sw_get : Cond.instanceMethod y_Sw_get ∈ sn_tbl := sn_tb (n := 772) (by decide +kernel) rfl
theorem Se_Sw_get : Cond.selects y_Sw_get.cls y_Sw_get y_Sw_get ∈ sn_tbl := sn_tb (n := 773) (by decide +kernel) rfl
theorem I_Tr_get : Cond.instanceMethod y_Tr_get ∈ sn_tbl := sn_tb (n := 697) (by decide +kernel) rfl
theorem Se_Tr_get : Cond.selects y_Tr_get.cls y_Tr_get y_Tr_get ∈ sn_tbl := sn_tb (n := 698) (by decide +kernel) rfl
theorem I_Tr_receive : Cond.instanceMethod y_Tr_receive ∈ sn_tbl := sn_tb (n := 621) (by decide +kernel) rfl
theorem Se_Tr_receive : Cond.selects y_Tr_receive.cls y_Tr_receive y_Tr_receive ∈ sn_tbl := sn_tb (n := 622) (by decide +kernel) rfl
theorem F_Sn_120 : sn_F "SignalNetwork" 120 0 0 false (.int) := ⟨_, _, _, _, CF0, by decide, rfl, rfl, rfl, sn_tb (n := 30) (by decide +kernel) rfl⟩
set_option maxRecDepth 100000 in
theorem Y_Sw_call : sn_Y y_Sw_call c_Sw_call 4 (some .boolean) 2 := ⟨sn_tb (n := 948) rfl rfl, sn_tb (n := 5) (by decide +kernel) rfl, by decide +kernel⟩
theorem L_Sn_123 : Cond.methodLink "SignalNetwork" 123 y_Sw_call ∈ sn_tbl := sn_tb (n := 945) (by decide +kernel) rfl
theorem I_Sw_call : Cond.instanceMethod y_Sw_call ∈ sn_tbl := sn_tb (n := 946) (by decide +kernel) rfl
theorem Se_Sw_call : Cond.selects y_Sw_call.cls y_Sw_call y_Sw_call ∈ sn_tbl := sn_tb (n := 947) (by decide +kernel) rfl
set_option maxRecDepth 100000 in
theorem Y_Sw_pickUp : sn_Y y_Sw_pickUp c_Sw_pickUp 3 (some .boolean) 1 := ⟨sn_tb (n := 956) rfl rfl, sn_tb (n := 5) (by decide +kernel) rfl, by decide +kernel⟩
theorem L_Sn_127 : Cond.methodLink "SignalNetwork" 127 y_Sw_pickUp ∈ sn_tbl := sn_tb (n := 953) (by decide +kernel) rfl
theorem I_Sw_pickUp : Cond.instanceMethod y_Sw_pickUp ∈ sn_tbl := sn_tb (n := 954) (by decide +kernel) rfl
theorem Se_Sw_pickUp : Cond.selects y_Sw_pickUp.cls y_Sw_pickUp y_Sw_pickUp ∈ sn_tbl := sn_tb (n := 955) (by decide +kernel) rfl
set_option maxRecDepth 100000 in
theorem Y_Sw_putDown : sn_Y y_Sw_putDown c_Sw_putDown 3 (some .boolean) 1 := ⟨sn_tb (n := 964) rfl rfl, sn_tb (n := 5) (by decide +kernel) rfl, by decide +kernel⟩
theorem L_Sn_130 : Cond.methodLink "SignalNetwork" 130 y_Sw_putDown ∈ sn_tbl := sn_tb (n := 961) (by decide +kernel) rfl
theorem I_Sw_putDown : Cond.instanceMethod y_Sw_putDown ∈ sn_tbl := sn_tb (n := 962) (by decide +kernel) rfl
theorem Se_Sw_putDown : Cond.selects y_Sw_putDown.cls y_Sw_putDown y_Sw_putDown ∈ sn_tbl := sn_tb (n := 963) (by decide +kernel) rfl
set_option maxRecDepth 100000 in
theorem Y_Sw_setBlocked : sn_Y y_Sw_setBlocked c_Sw_setBlocked 6 (some .boolean) 4 := ⟨sn_tb (n := 972) rfl rfl, sn_tb (n := 5) (by decide +kernel) rfl, by decide +kernel⟩
theorem L_Sn_133 : Cond.methodLink "SignalNetwork" 133 y_Sw_setBlocked ∈ sn_tbl := sn_tb (n := 969) (by decide +kernel) rfl
theorem I_Sw_setBlocked : Cond.instanceMethod y_Sw_setBlocked ∈ sn_tbl := sn_tb (n := 970) (by decide +kernel) rfl
theorem Se_Sw_setBlocked : Cond.selects y_Sw_setBlocked.cls y_Sw_setBlocked y_Sw_setBlocked ∈ sn_tbl := sn_tb (n := 971) (by decide +kernel) rfl
set_option maxRecDepth 100000 in
theorem Y_En_tell : sn_Y y_En_tell c_En_tell 2 (some .int) 1 := ⟨sn_tb (n := 980) rfl rfl, sn_tb (n := 10) (by decide +kernel) rfl, by decide +kernel⟩
theorem L_Sn_137 : Cond.methodLink "SignalNetwork" 137 y_En_tell ∈ sn_tbl := sn_tb (n := 977) (by decide +kernel) rfl
theorem I_En_tell : Cond.instanceMethod y_En_tell ∈ sn_tbl := sn_tb (n := 978) (by decide +kernel) rfl
theorem Se_En_tell : Cond.selects y_En_tell.cls y_En_tell y_En_tell ∈ sn_tbl := sn_tb (n := 979) (by decide +kernel) rfl
set_option maxRecDepth 100000 in
theorem Y_Sn_spellLatest : sn_Y y_Sn_spellLatest c_Sn_spellLatest 4 (some .int) 2 := ⟨sn_tb (n := 992) rfl rfl, sn_tb (n := 1) (by decide +kernel) rfl, by decide +kernel⟩
theorem L_Sn_140 : Cond.methodLink "SignalNetwork" 140 y_Sn_spellLatest ∈ sn_tbl := sn_tb (n := 989) (by decide +kernel) rfl
theorem I_Sn_spellLatest : Cond.instanceMethod y_Sn_spellLatest ∈ sn_tbl := sn_tb (n := 991) (by decide +kernel) rfl
theorem Se_Sn_spellLatest : Cond.selects y_Sn_spellLatest.cls y_Sn_spellLatest y_Sn_spellLatest ∈ sn_tbl := sn_in (List.mem_append_left _ (List.mem_of_getElem? (l := k2_sels lw_privs) (i := 48) (by decide +kernel))) rfl
set_option maxRecDepth 100000 in
theorem Y_Un_bitsOnLine : sn_Y y_Un_bitsOnLine c_Un_bitsOnLine 5 (some .int) 2 := ⟨sn_tb (n := 1023) rfl rfl, sn_tb (n := 11) (by decide +kernel) rfl, by decide +kernel⟩
theorem L_Sn_143 : Cond.methodLink "SignalNetwork" 143 y_Un_bitsOnLine ∈ sn_tbl := sn_tb (n := 1021) (by decide +kernel) rfl
theorem St_Un_bitsOnLine : Cond.static y_Un_bitsOnLine ∈ sn_tbl := sn_tb (n := 1022) (by decide +kernel) rfl
theorem L_Sn_147 : Cond.methodLink "SignalNetwork" 147 y_Tr_flowTo ∈ sn_tbl := sn_tb (n := 1028) (by decide +kernel) rfl
set_option maxRecDepth 100000 in
theorem Y_Fl_tell : sn_Y y_Fl_tell c_Fl_tell 2 (some .int) 1 := ⟨sn_tb (n := 1032) rfl rfl, sn_tb (n := 13) (by decide +kernel) rfl, by decide +kernel⟩
theorem L_Sn_151 : Cond.methodLink "SignalNetwork" 151 y_Fl_tell ∈ sn_tbl := sn_tb (n := 1029) (by decide +kernel) rfl
theorem I_Fl_tell : Cond.instanceMethod y_Fl_tell ∈ sn_tbl := sn_tb (n := 1030) (by decide +kernel) rfl
theorem Se_Fl_tell : Cond.selects y_Fl_tell.cls y_Fl_tell y_Fl_tell ∈ sn_tbl := sn_tb (n := 1031) (by decide +kernel) rfl
set_option maxRecDepth 100000 in
theorem Y_Tr_tellWay : sn_Y y_Tr_tellWay c_Tr_tellWay 6 (some .int) 3 := ⟨sn_tb (n := 1040) rfl rfl, sn_tb (n := 4) (by decide +kernel) rfl, by decide +kernel⟩
theorem L_Sn_154 : Cond.methodLink "SignalNetwork" 154 y_Tr_tellWay ∈ sn_tbl := sn_tb (n := 1037) (by decide +kernel) rfl
theorem I_Tr_tellWay : Cond.instanceMethod y_Tr_tellWay ∈ sn_tbl := sn_tb (n := 1038) (by decide +kernel) rfl
theorem Se_Tr_tellWay : Cond.selects y_Tr_tellWay.cls y_Tr_tellWay y_Tr_tellWay ∈ sn_tbl := sn_tb (n := 1039) (by decide +kernel) rfl
theorem L_Sn_158 : Cond.methodLink "SignalNetwork" 158 y_Sw_circuitAt ∈ sn_tbl := sn_tb (n := 1046) (by decide +kernel) rfl
set_option maxRecDepth 100000 in
theorem Y_Lg_tellCircuit : sn_Y y_Lg_tellCircuit c_Lg_tellCircuit 3 (some .int) 2 := ⟨sn_tb (n := 1050) rfl rfl, sn_tb (n := 8) (by decide +kernel) rfl, by decide +kernel⟩
theorem L_Sn_162 : Cond.methodLink "SignalNetwork" 162 y_Lg_tellCircuit ∈ sn_tbl := sn_tb (n := 1047) (by decide +kernel) rfl
theorem I_Lg_tellCircuit : Cond.instanceMethod y_Lg_tellCircuit ∈ sn_tbl := sn_tb (n := 1048) (by decide +kernel) rfl
theorem Se_Lg_tellCircuit : Cond.selects y_Lg_tellCircuit.cls y_Lg_tellCircuit y_Lg_tellCircuit ∈ sn_tbl := sn_tb (n := 1049) (by decide +kernel) rfl
theorem L_Sn_168 : Cond.methodLink "SignalNetwork" 168 y_Sw_subscriberAt ∈ sn_tbl := sn_tb (n := 1065) (by decide +kernel) rfl
theorem F_Sn_172 : sn_F "SignalNetwork" 172 3 3 false (.int) := ⟨_, _, _, _, CF3, by decide, rfl, rfl, rfl, sn_tb (n := 165) (by decide +kernel) rfl⟩
theorem L_Sn_175 : Cond.methodLink "SignalNetwork" 175 y_Lg_joinedCode ∈ sn_tbl := sn_tb (n := 1066) (by decide +kernel) rfl
set_option maxRecDepth 100000 in
theorem Y_Sw_talksWith : sn_Y y_Sw_talksWith c_Sw_talksWith 6 (some .int) 1 := ⟨sn_tb (n := 1070) rfl rfl, sn_tb (n := 5) (by decide +kernel) rfl, by decide +kernel⟩
theorem L_Sn_179 : Cond.methodLink "SignalNetwork" 179 y_Sw_talksWith ∈ sn_tbl := sn_tb (n := 1067) (by decide +kernel) rfl
theorem I_Sw_talksWith : Cond.instanceMethod y_Sw_talksWith ∈ sn_tbl := sn_tb (n := 1068) (by decide +kernel) rfl
theorem Se_Sw_talksWith : Cond.selects y_Sw_talksWith.cls y_Sw_talksWith y_Sw_talksWith ∈ sn_tbl := sn_tb (n := 1069) (by decide +kernel) rfl
theorem F_Sn_183 : sn_F "SignalNetwork" 183 7 7 false (.int) := ⟨_, _, _, _, CF8, by decide, rfl, rfl, rfl, sn_tb (n := 93) (by decide +kernel) rfl⟩
theorem F_Sn_186 : sn_F "SignalNetwork" 186 7 8 false (.int) := ⟨_, _, _, _, CF8, by decide, rfl, rfl, rfl, sn_tb (n := 95) (by decide +kernel) rfl⟩
theorem F_Sn_189 : sn_F "SignalNetwork" 189 7 9 false (.int) := ⟨_, _, _, _, CF8, by decide, rfl, rfl, rfl, sn_tb (n := 97) (by decide +kernel) rfl⟩
theorem F_Sn_192 : sn_F "SignalNetwork" 192 1 6 false (.boolean) := ⟨_, _, _, _, CF1, by decide, rfl, rfl, rfl, sn_tb (n := 390) (by decide +kernel) rfl⟩
theorem F_Sn_196 : sn_F "SignalNetwork" 196 1 5 true (.object "SignalNetwork$Unit") := ⟨_, _, _, _, CF1, by decide, rfl, rfl, rfl, sn_tb (n := 388) (by decide +kernel) rfl⟩
set_option maxRecDepth 100000 in
theorem Y_Un_spell : sn_Y y_Un_spell c_Un_spell 4 (some .int) 1 := ⟨sn_tb (n := 996) rfl rfl, sn_tb (n := 11) (by decide +kernel) rfl, by decide +kernel⟩
theorem L_Sn_200 : Cond.methodLink "SignalNetwork" 200 y_Un_spell ∈ sn_tbl := sn_tb (n := 993) (by decide +kernel) rfl
theorem I_Un_spell : Cond.instanceMethod y_Un_spell ∈ sn_tbl := sn_tb (n := 994) (by decide +kernel) rfl
theorem Se_Un_spell : Cond.selects y_Un_spell.cls y_Un_spell y_Un_spell ∈ sn_tbl := sn_tb (n := 995) (by decide +kernel) rfl
set_option maxRecDepth 100000 in
theorem Y_Sw_circuitPlaces : sn_Y y_Sw_circuitPlaces c_Sw_circuitPlaces 1 (some .int) 0 := ⟨sn_tb (n := 908) rfl rfl, sn_tb (n := 5) (by decide +kernel) rfl, by decide +kernel⟩
theorem L_Sn_204 : Cond.methodLink "SignalNetwork" 204 y_Sw_circuitPlaces ∈ sn_tbl := sn_tb (n := 905) (by decide +kernel) rfl
set_option maxRecDepth 100000 in
theorem Y_Sw_runTimers : sn_Y y_Sw_runTimers c_Sw_runTimers 5 (some .boolean) 1 := ⟨sn_tb (n := 912) rfl rfl, sn_tb (n := 5) (by decide +kernel) rfl, by decide +kernel⟩
theorem L_Sn_207 : Cond.methodLink "SignalNetwork" 207 y_Sw_runTimers ∈ sn_tbl := sn_tb (n := 909) (by decide +kernel) rfl
theorem I_Sw_runTimers : Cond.instanceMethod y_Sw_runTimers ∈ sn_tbl := sn_tb (n := 910) (by decide +kernel) rfl
theorem Se_Sw_runTimers : Cond.selects y_Sw_runTimers.cls y_Sw_runTimers y_Sw_runTimers ∈ sn_tbl := sn_tb (n := 911) (by decide +kernel) rfl
theorem I_Sw_circuitPlaces : Cond.instanceMethod y_Sw_circuitPlaces ∈ sn_tbl := sn_tb (n := 906) (by decide +kernel) rfl
theorem Se_Sw_circuitPlaces : Cond.selects y_Sw_circuitPlaces.cls y_Sw_circuitPlaces y_Sw_circuitPlaces ∈ sn_tbl := sn_tb (n := 907) (by decide +kernel) rfl
theorem F_Sn_209 : sn_F "SignalNetwork" 209 6 4 true (.object "SignalNetwork$Queue") := ⟨_, _, _, _, CF7, by decide, rfl, rfl, rfl, sn_tb (n := 212) (by decide +kernel) rfl⟩
theorem L_Sn_218 : Cond.methodLink "SignalNetwork" 218 y_Qu_takeFirst ∈ sn_tbl := sn_tb (n := 867) (by decide +kernel) rfl
set_option maxRecDepth 100000 in
theorem Y_Tr_send : sn_Y y_Tr_send c_Tr_send 3 none 1 := ⟨sn_tb (n := 871) rfl rfl, sn_tb (n := 4) (by decide +kernel) rfl, by decide +kernel⟩
theorem L_Sn_222 : Cond.methodLink "SignalNetwork" 222 y_Tr_send ∈ sn_tbl := sn_tb (n := 868) (by decide +kernel) rfl
theorem I_Tr_send : Cond.instanceMethod y_Tr_send ∈ sn_tbl := sn_tb (n := 869) (by decide +kernel) rfl
theorem Se_Tr_send : Cond.selects y_Tr_send.cls y_Tr_send y_Tr_send ∈ sn_tbl := sn_tb (n := 870) (by decide +kernel) rfl
theorem F_Sn_213 : sn_F "SignalNetwork" 213 5 2 false (.int) := ⟨_, _, _, _, CF6, by decide, rfl, rfl, rfl, sn_tb (n := 142) (by decide +kernel) rfl⟩
set_option maxRecDepth 100000 in
theorem Y_Md_fresh : sn_Y y_Md_fresh c_Md_fresh 2 none 1 := ⟨sn_tb (n := 1089) rfl rfl, sn_tb (n := 9) (by decide +kernel) rfl, by decide +kernel⟩
theorem L_Md_186 : Cond.methodLink "SignalNetworkModel" 186 y_Md_fresh ∈ sn_tbl := sn_tb (n := 1086) (by decide +kernel) rfl
theorem I_Md_fresh : Cond.instanceMethod y_Md_fresh ∈ sn_tbl := sn_tb (n := 1088) (by decide +kernel) rfl
theorem Se_Md_fresh : Cond.selects y_Md_fresh.cls y_Md_fresh y_Md_fresh ∈ sn_tbl := sn_in (List.mem_append_left _ (List.mem_of_getElem? (l := k2_sels lw_privs) (i := 51) (by decide +kernel))) rfl
theorem F_Md_180 : sn_F "SignalNetworkModel" 180 11 62 true (.array .int) := ⟨_, _, _, _, CF12, by decide, rfl, rfl, rfl, sn_tb (n := 1152) (by decide +kernel) rfl⟩
theorem F_Md_144 : sn_F "SignalNetworkModel" 144 11 50 true (.array .int) := ⟨_, _, _, _, CF12, by decide, rfl, rfl, rfl, sn_tb (n := 1140) (by decide +kernel) rfl⟩
theorem F_Md_147 : sn_F "SignalNetworkModel" 147 11 51 true (.array .int) := ⟨_, _, _, _, CF12, by decide, rfl, rfl, rfl, sn_tb (n := 1141) (by decide +kernel) rfl⟩
theorem F_Md_117 : sn_F "SignalNetworkModel" 117 11 41 true (.array .int) := ⟨_, _, _, _, CF12, by decide, rfl, rfl, rfl, sn_tb (n := 1131) (by decide +kernel) rfl⟩
theorem F_Md_123 : sn_F "SignalNetworkModel" 123 11 43 true (.array .int) := ⟨_, _, _, _, CF12, by decide, rfl, rfl, rfl, sn_tb (n := 1133) (by decide +kernel) rfl⟩
theorem F_Md_165 : sn_F "SignalNetworkModel" 165 11 57 true (.array .int) := ⟨_, _, _, _, CF12, by decide, rfl, rfl, rfl, sn_tb (n := 1147) (by decide +kernel) rfl⟩
theorem F_Md_168 : sn_F "SignalNetworkModel" 168 11 58 true (.array .int) := ⟨_, _, _, _, CF12, by decide, rfl, rfl, rfl, sn_tb (n := 1148) (by decide +kernel) rfl⟩
theorem LO_Md_1 : Cond.methodLink "SignalNetworkModel" 1 Lib.objectInit ∈ sn_tbl := sn_tb (n := 1085) (by decide +kernel) rfl
theorem F_Md_7 : sn_F "SignalNetworkModel" 7 11 0 true (.array .int) := ⟨_, _, _, _, CF12, by decide, rfl, rfl, rfl, sn_tb (n := 1090) (by decide +kernel) rfl⟩
theorem F_Md_13 : sn_F "SignalNetworkModel" 13 11 1 true (.array .int) := ⟨_, _, _, _, CF12, by decide, rfl, rfl, rfl, sn_tb (n := 1091) (by decide +kernel) rfl⟩
theorem F_Md_16 : sn_F "SignalNetworkModel" 16 11 2 true (.array .boolean) := ⟨_, _, _, _, CF12, by decide, rfl, rfl, rfl, sn_tb (n := 1092) (by decide +kernel) rfl⟩
theorem F_Md_20 : sn_F "SignalNetworkModel" 20 11 3 true (.array .boolean) := ⟨_, _, _, _, CF12, by decide, rfl, rfl, rfl, sn_tb (n := 1093) (by decide +kernel) rfl⟩
theorem F_Md_23 : sn_F "SignalNetworkModel" 23 11 10 true (.array .int) := ⟨_, _, _, _, CF12, by decide, rfl, rfl, rfl, sn_tb (n := 1100) (by decide +kernel) rfl⟩
theorem F_Md_26 : sn_F "SignalNetworkModel" 26 11 11 true (.array .int) := ⟨_, _, _, _, CF12, by decide, rfl, rfl, rfl, sn_tb (n := 1101) (by decide +kernel) rfl⟩
theorem F_Md_29 : sn_F "SignalNetworkModel" 29 11 12 true (.array .int) := ⟨_, _, _, _, CF12, by decide, rfl, rfl, rfl, sn_tb (n := 1102) (by decide +kernel) rfl⟩
theorem F_Md_32 : sn_F "SignalNetworkModel" 32 11 13 true (.array .int) := ⟨_, _, _, _, CF12, by decide, rfl, rfl, rfl, sn_tb (n := 1103) (by decide +kernel) rfl⟩
theorem F_Md_35 : sn_F "SignalNetworkModel" 35 11 14 true (.array .int) := ⟨_, _, _, _, CF12, by decide, rfl, rfl, rfl, sn_tb (n := 1104) (by decide +kernel) rfl⟩
theorem F_Md_38 : sn_F "SignalNetworkModel" 38 11 15 true (.array .int) := ⟨_, _, _, _, CF12, by decide, rfl, rfl, rfl, sn_tb (n := 1105) (by decide +kernel) rfl⟩
theorem F_Md_41 : sn_F "SignalNetworkModel" 41 11 16 true (.array .int) := ⟨_, _, _, _, CF12, by decide, rfl, rfl, rfl, sn_tb (n := 1106) (by decide +kernel) rfl⟩
theorem F_Md_44 : sn_F "SignalNetworkModel" 44 11 17 true (.array .int) := ⟨_, _, _, _, CF12, by decide, rfl, rfl, rfl, sn_tb (n := 1107) (by decide +kernel) rfl⟩
theorem F_Md_47 : sn_F "SignalNetworkModel" 47 11 18 true (.array .int) := ⟨_, _, _, _, CF12, by decide, rfl, rfl, rfl, sn_tb (n := 1108) (by decide +kernel) rfl⟩
theorem F_Md_50 : sn_F "SignalNetworkModel" 50 11 19 true (.array .int) := ⟨_, _, _, _, CF12, by decide, rfl, rfl, rfl, sn_tb (n := 1109) (by decide +kernel) rfl⟩
theorem F_Md_53 : sn_F "SignalNetworkModel" 53 11 20 true (.array .int) := ⟨_, _, _, _, CF12, by decide, rfl, rfl, rfl, sn_tb (n := 1110) (by decide +kernel) rfl⟩
theorem F_Md_56 : sn_F "SignalNetworkModel" 56 11 21 true (.array .int) := ⟨_, _, _, _, CF12, by decide, rfl, rfl, rfl, sn_tb (n := 1111) (by decide +kernel) rfl⟩
theorem F_Md_59 : sn_F "SignalNetworkModel" 59 11 22 true (.array .int) := ⟨_, _, _, _, CF12, by decide, rfl, rfl, rfl, sn_tb (n := 1112) (by decide +kernel) rfl⟩
theorem F_Md_62 : sn_F "SignalNetworkModel" 62 11 23 true (.array .boolean) := ⟨_, _, _, _, CF12, by decide, rfl, rfl, rfl, sn_tb (n := 1113) (by decide +kernel) rfl⟩
theorem F_Md_65 : sn_F "SignalNetworkModel" 65 11 24 true (.array .boolean) := ⟨_, _, _, _, CF12, by decide, rfl, rfl, rfl, sn_tb (n := 1114) (by decide +kernel) rfl⟩
theorem F_Md_68 : sn_F "SignalNetworkModel" 68 11 25 true (.array .long) := ⟨_, _, _, _, CF12, by decide, rfl, rfl, rfl, sn_tb (n := 1115) (by decide +kernel) rfl⟩
theorem F_Md_72 : sn_F "SignalNetworkModel" 72 11 26 true (.array .int) := ⟨_, _, _, _, CF12, by decide, rfl, rfl, rfl, sn_tb (n := 1116) (by decide +kernel) rfl⟩
theorem F_Md_75 : sn_F "SignalNetworkModel" 75 11 27 true (.array .int) := ⟨_, _, _, _, CF12, by decide, rfl, rfl, rfl, sn_tb (n := 1117) (by decide +kernel) rfl⟩
theorem F_Md_78 : sn_F "SignalNetworkModel" 78 11 28 true (.array .long) := ⟨_, _, _, _, CF12, by decide, rfl, rfl, rfl, sn_tb (n := 1118) (by decide +kernel) rfl⟩
theorem F_Md_81 : sn_F "SignalNetworkModel" 81 11 29 true (.array .int) := ⟨_, _, _, _, CF12, by decide, rfl, rfl, rfl, sn_tb (n := 1119) (by decide +kernel) rfl⟩
theorem F_Md_84 : sn_F "SignalNetworkModel" 84 11 30 true (.array .int) := ⟨_, _, _, _, CF12, by decide, rfl, rfl, rfl, sn_tb (n := 1120) (by decide +kernel) rfl⟩
theorem F_Md_87 : sn_F "SignalNetworkModel" 87 11 31 true (.array .int) := ⟨_, _, _, _, CF12, by decide, rfl, rfl, rfl, sn_tb (n := 1121) (by decide +kernel) rfl⟩
theorem F_Md_90 : sn_F "SignalNetworkModel" 90 11 32 true (.array .int) := ⟨_, _, _, _, CF12, by decide, rfl, rfl, rfl, sn_tb (n := 1122) (by decide +kernel) rfl⟩
theorem F_Md_93 : sn_F "SignalNetworkModel" 93 11 33 true (.array .int) := ⟨_, _, _, _, CF12, by decide, rfl, rfl, rfl, sn_tb (n := 1123) (by decide +kernel) rfl⟩
theorem F_Md_96 : sn_F "SignalNetworkModel" 96 11 34 true (.array .int) := ⟨_, _, _, _, CF12, by decide, rfl, rfl, rfl, sn_tb (n := 1124) (by decide +kernel) rfl⟩
theorem F_Md_99 : sn_F "SignalNetworkModel" 99 11 35 true (.array .long) := ⟨_, _, _, _, CF12, by decide, rfl, rfl, rfl, sn_tb (n := 1125) (by decide +kernel) rfl⟩
theorem F_Md_102 : sn_F "SignalNetworkModel" 102 11 36 true (.array .boolean) := ⟨_, _, _, _, CF12, by decide, rfl, rfl, rfl, sn_tb (n := 1126) (by decide +kernel) rfl⟩
theorem F_Md_105 : sn_F "SignalNetworkModel" 105 11 37 true (.array .int) := ⟨_, _, _, _, CF12, by decide, rfl, rfl, rfl, sn_tb (n := 1127) (by decide +kernel) rfl⟩
theorem F_Md_108 : sn_F "SignalNetworkModel" 108 11 38 true (.array .int) := ⟨_, _, _, _, CF12, by decide, rfl, rfl, rfl, sn_tb (n := 1128) (by decide +kernel) rfl⟩
theorem F_Md_111 : sn_F "SignalNetworkModel" 111 11 39 true (.array .int) := ⟨_, _, _, _, CF12, by decide, rfl, rfl, rfl, sn_tb (n := 1129) (by decide +kernel) rfl⟩
theorem F_Md_114 : sn_F "SignalNetworkModel" 114 11 40 true (.array .int) := ⟨_, _, _, _, CF12, by decide, rfl, rfl, rfl, sn_tb (n := 1130) (by decide +kernel) rfl⟩
theorem F_Md_120 : sn_F "SignalNetworkModel" 120 11 42 true (.array .int) := ⟨_, _, _, _, CF12, by decide, rfl, rfl, rfl, sn_tb (n := 1132) (by decide +kernel) rfl⟩
theorem F_Md_126 : sn_F "SignalNetworkModel" 126 11 44 true (.array .int) := ⟨_, _, _, _, CF12, by decide, rfl, rfl, rfl, sn_tb (n := 1134) (by decide +kernel) rfl⟩
theorem F_Md_129 : sn_F "SignalNetworkModel" 129 11 45 true (.array .int) := ⟨_, _, _, _, CF12, by decide, rfl, rfl, rfl, sn_tb (n := 1135) (by decide +kernel) rfl⟩
theorem F_Md_132 : sn_F "SignalNetworkModel" 132 11 46 true (.array .long) := ⟨_, _, _, _, CF12, by decide, rfl, rfl, rfl, sn_tb (n := 1136) (by decide +kernel) rfl⟩
theorem F_Md_135 : sn_F "SignalNetworkModel" 135 11 47 true (.array .int) := ⟨_, _, _, _, CF12, by decide, rfl, rfl, rfl, sn_tb (n := 1137) (by decide +kernel) rfl⟩
theorem F_Md_138 : sn_F "SignalNetworkModel" 138 11 48 true (.array .boolean) := ⟨_, _, _, _, CF12, by decide, rfl, rfl, rfl, sn_tb (n := 1138) (by decide +kernel) rfl⟩
theorem F_Md_141 : sn_F "SignalNetworkModel" 141 11 49 true (.array .int) := ⟨_, _, _, _, CF12, by decide, rfl, rfl, rfl, sn_tb (n := 1139) (by decide +kernel) rfl⟩
theorem F_Md_150 : sn_F "SignalNetworkModel" 150 11 52 true (.array .int) := ⟨_, _, _, _, CF12, by decide, rfl, rfl, rfl, sn_tb (n := 1142) (by decide +kernel) rfl⟩
theorem F_Md_153 : sn_F "SignalNetworkModel" 153 11 53 true (.array .int) := ⟨_, _, _, _, CF12, by decide, rfl, rfl, rfl, sn_tb (n := 1143) (by decide +kernel) rfl⟩
theorem F_Md_156 : sn_F "SignalNetworkModel" 156 11 54 true (.array .int) := ⟨_, _, _, _, CF12, by decide, rfl, rfl, rfl, sn_tb (n := 1144) (by decide +kernel) rfl⟩
theorem F_Md_159 : sn_F "SignalNetworkModel" 159 11 55 true (.array .boolean) := ⟨_, _, _, _, CF12, by decide, rfl, rfl, rfl, sn_tb (n := 1145) (by decide +kernel) rfl⟩
theorem F_Md_162 : sn_F "SignalNetworkModel" 162 11 56 true (.array .boolean) := ⟨_, _, _, _, CF12, by decide, rfl, rfl, rfl, sn_tb (n := 1146) (by decide +kernel) rfl⟩
theorem F_Md_171 : sn_F "SignalNetworkModel" 171 11 59 true (.array .int) := ⟨_, _, _, _, CF12, by decide, rfl, rfl, rfl, sn_tb (n := 1149) (by decide +kernel) rfl⟩
theorem F_Md_174 : sn_F "SignalNetworkModel" 174 11 60 true (.array .int) := ⟨_, _, _, _, CF12, by decide, rfl, rfl, rfl, sn_tb (n := 1150) (by decide +kernel) rfl⟩
theorem F_Md_177 : sn_F "SignalNetworkModel" 177 11 61 true (.array .int) := ⟨_, _, _, _, CF12, by decide, rfl, rfl, rfl, sn_tb (n := 1151) (by decide +kernel) rfl⟩
theorem F_Md_183 : sn_F "SignalNetworkModel" 183 11 63 true (.array .long) := ⟨_, _, _, _, CF12, by decide, rfl, rfl, rfl, sn_tb (n := 1153) (by decide +kernel) rfl⟩
theorem KL_Md_190 : Cond.constantLong "SignalNetworkModel" 190 (15) ∈ sn_tbl := sn_tb (n := 1375) (by decide +kernel) rfl
theorem KL_Md_192 : Cond.constantLong "SignalNetworkModel" 192 (255) ∈ sn_tbl := sn_tb (n := 1453) (by decide +kernel) rfl
theorem KL_Md_194 : Cond.constantLong "SignalNetworkModel" 194 (65535) ∈ sn_tbl := sn_tb (n := 1460) (by decide +kernel) rfl
theorem F_Md_196 : sn_F "SignalNetworkModel" 196 11 4 false (.int) := ⟨_, _, _, _, CF12, by decide, rfl, rfl, rfl, sn_tb (n := 1094) (by decide +kernel) rfl⟩
set_option maxRecDepth 100000 in
theorem Y_Md_isOf : sn_Y y_Md_isOf c_Md_isOf 4 (some .boolean) 3 := ⟨sn_tb (n := 1297) rfl rfl, sn_tb (n := 9) (by decide +kernel) rfl, by decide +kernel⟩
theorem L_Md_200 : Cond.methodLink "SignalNetworkModel" 200 y_Md_isOf ∈ sn_tbl := sn_tb (n := 1294) (by decide +kernel) rfl
theorem I_Md_isOf : Cond.instanceMethod y_Md_isOf ∈ sn_tbl := sn_tb (n := 1296) (by decide +kernel) rfl
theorem Se_Md_isOf : Cond.selects y_Md_isOf.cls y_Md_isOf y_Md_isOf ∈ sn_tbl := sn_in (List.mem_append_left _ (List.mem_of_getElem? (l := k2_sels lw_privs) (i := 53) (by decide +kernel))) rfl
set_option maxRecDepth 100000 in
theorem Y_Md_isExchange : sn_Y y_Md_isExchange c_Md_isExchange 1 (some .boolean) 1 := ⟨sn_tb (n := 1289) rfl rfl, sn_tb (n := 9) (by decide +kernel) rfl, by decide +kernel⟩
theorem L_Md_204 : Cond.methodLink "SignalNetworkModel" 204 y_Md_isExchange ∈ sn_tbl := sn_tb (n := 1287) (by decide +kernel) rfl
set_option maxRecDepth 100000 in
theorem Y_Md_setSize : sn_Y y_Md_setSize c_Md_setSize 5 (some .int) 2 := ⟨sn_tb (n := 1293) rfl rfl, sn_tb (n := 9) (by decide +kernel) rfl, by decide +kernel⟩
theorem L_Md_208 : Cond.methodLink "SignalNetworkModel" 208 y_Md_setSize ∈ sn_tbl := sn_tb (n := 1290) (by decide +kernel) rfl
theorem I_Md_setSize : Cond.instanceMethod y_Md_setSize ∈ sn_tbl := sn_tb (n := 1292) (by decide +kernel) rfl
theorem Se_Md_setSize : Cond.selects y_Md_setSize.cls y_Md_setSize y_Md_setSize ∈ sn_tbl := sn_in (List.mem_append_left _ (List.mem_of_getElem? (l := k2_sels lw_privs) (i := 52) (by decide +kernel))) rfl
theorem St_Md_isExchange : Cond.static y_Md_isExchange ∈ sn_tbl := sn_tb (n := 1288) (by decide +kernel) rfl
set_option maxRecDepth 100000 in
theorem Y_Md_flowAt : sn_Y y_Md_flowAt c_Md_flowAt 4 (some .int) 3 := ⟨sn_tb (n := 1324) rfl rfl, sn_tb (n := 9) (by decide +kernel) rfl, by decide +kernel⟩
theorem L_Md_212 : Cond.methodLink "SignalNetworkModel" 212 y_Md_flowAt ∈ sn_tbl := sn_tb (n := 1321) (by decide +kernel) rfl
theorem I_Md_flowAt : Cond.instanceMethod y_Md_flowAt ∈ sn_tbl := sn_tb (n := 1323) (by decide +kernel) rfl
theorem Se_Md_flowAt : Cond.selects y_Md_flowAt.cls y_Md_flowAt y_Md_flowAt ∈ sn_tbl := sn_in (List.mem_append_left _ (List.mem_of_getElem? (l := k2_sels lw_privs) (i := 58) (by decide +kernel))) rfl
set_option maxRecDepth 100000 in
theorem Y_Md_endAt : sn_Y y_Md_endAt c_Md_endAt 3 (some .int) 2 := ⟨sn_tb (n := 1335) rfl rfl, sn_tb (n := 9) (by decide +kernel) rfl, by decide +kernel⟩
theorem L_Md_216 : Cond.methodLink "SignalNetworkModel" 216 y_Md_endAt ∈ sn_tbl := sn_tb (n := 1332) (by decide +kernel) rfl
theorem I_Md_endAt : Cond.instanceMethod y_Md_endAt ∈ sn_tbl := sn_tb (n := 1334) (by decide +kernel) rfl
theorem Se_Md_endAt : Cond.selects y_Md_endAt.cls y_Md_endAt y_Md_endAt ∈ sn_tbl := sn_in (List.mem_append_left _ (List.mem_of_getElem? (l := k2_sels lw_privs) (i := 60) (by decide +kernel))) rfl
theorem F_Md_219 : sn_F "SignalNetworkModel" 219 11 7 false (.int) := ⟨_, _, _, _, CF12, by decide, rfl, rfl, rfl, sn_tb (n := 1097) (by decide +kernel) rfl⟩
set_option maxRecDepth 100000 in
theorem Y_Md_waitAt : sn_Y y_Md_waitAt c_Md_waitAt 4 none 2 := ⟨sn_tb (n := 1339) rfl rfl, sn_tb (n := 9) (by decide +kernel) rfl, by decide +kernel⟩
theorem L_Md_222 : Cond.methodLink "SignalNetworkModel" 222 y_Md_waitAt ∈ sn_tbl := sn_tb (n := 1336) (by decide +kernel) rfl
theorem I_Md_waitAt : Cond.instanceMethod y_Md_waitAt ∈ sn_tbl := sn_tb (n := 1338) (by decide +kernel) rfl
theorem Se_Md_waitAt : Cond.selects y_Md_waitAt.cls y_Md_waitAt y_Md_waitAt ∈ sn_tbl := sn_in (List.mem_append_left _ (List.mem_of_getElem? (l := k2_sels lw_privs) (i := 61) (by decide +kernel))) rfl
set_option maxRecDepth 100000 in
theorem Y_Md_areNeighbours : sn_Y y_Md_areNeighbours c_Md_areNeighbours 3 (some .boolean) 2 := ⟨sn_tb (n := 1316) rfl rfl, sn_tb (n := 9) (by decide +kernel) rfl, by decide +kernel⟩
theorem L_Md_226 : Cond.methodLink "SignalNetworkModel" 226 y_Md_areNeighbours ∈ sn_tbl := sn_tb (n := 1313) (by decide +kernel) rfl
set_option maxRecDepth 100000 in
theorem Y_Md_flowOf : sn_Y y_Md_flowOf c_Md_flowOf 2 (some .int) 1 := ⟨sn_tb (n := 1374) rfl rfl, sn_tb (n := 9) (by decide +kernel) rfl, by decide +kernel⟩
theorem L_Md_230 : Cond.methodLink "SignalNetworkModel" 230 y_Md_flowOf ∈ sn_tbl := sn_tb (n := 1372) (by decide +kernel) rfl
set_option maxRecDepth 100000 in
theorem Y_Md_isOpen : sn_Y y_Md_isOpen c_Md_isOpen 4 (some .boolean) 3 := ⟨sn_tb (n := 1320) rfl rfl, sn_tb (n := 9) (by decide +kernel) rfl, by decide +kernel⟩
theorem L_Md_234 : Cond.methodLink "SignalNetworkModel" 234 y_Md_isOpen ∈ sn_tbl := sn_tb (n := 1317) (by decide +kernel) rfl
set_option maxRecDepth 100000 in
theorem Y_Md_give : sn_Y y_Md_give c_Md_give 7 none 4 := ⟨sn_tb (n := 1331) rfl rfl, sn_tb (n := 9) (by decide +kernel) rfl, by decide +kernel⟩
theorem L_Md_237 : Cond.methodLink "SignalNetworkModel" 237 y_Md_give ∈ sn_tbl := sn_tb (n := 1328) (by decide +kernel) rfl
theorem I_Md_give : Cond.instanceMethod y_Md_give ∈ sn_tbl := sn_tb (n := 1330) (by decide +kernel) rfl
theorem Se_Md_give : Cond.selects y_Md_give.cls y_Md_give y_Md_give ∈ sn_tbl := sn_in (List.mem_append_left _ (List.mem_of_getElem? (l := k2_sels lw_privs) (i := 59) (by decide +kernel))) rfl
theorem St_Md_flowOf : Cond.static y_Md_flowOf ∈ sn_tbl := sn_tb (n := 1373) (by decide +kernel) rfl
theorem I_Md_isOpen : Cond.instanceMethod y_Md_isOpen ∈ sn_tbl := sn_tb (n := 1319) (by decide +kernel) rfl
theorem Se_Md_isOpen : Cond.selects y_Md_isOpen.cls y_Md_isOpen y_Md_isOpen ∈ sn_tbl := sn_in (List.mem_append_left _ (List.mem_of_getElem? (l := k2_sels lw_privs) (i := 57) (by decide +kernel))) rfl
theorem I_Md_areNeighbours : Cond.instanceMethod y_Md_areNeighbours ∈ sn_tbl := sn_tb (n := 1315) (by decide +kernel) rfl
theorem Se_Md_areNeighbours : Cond.selects y_Md_areNeighbours.cls y_Md_areNeighbours y_Md_areNeighbours ∈ sn_tbl := sn_in (List.mem_append_left _ (List.mem_of_getElem? (l := k2_sels lw_privs) (i := 56) (by decide +kernel))) rfl
set_option maxRecDepth 100000 in
theorem Y_Md_route : sn_Y y_Md_route c_Md_route 8 none 4 := ⟨sn_tb (n := 1371) rfl rfl, sn_tb (n := 9) (by decide +kernel) rfl, by decide +kernel⟩
theorem L_Md_241 : Cond.methodLink "SignalNetworkModel" 241 y_Md_route ∈ sn_tbl := sn_tb (n := 1368) (by decide +kernel) rfl
theorem I_Md_route : Cond.instanceMethod y_Md_route ∈ sn_tbl := sn_tb (n := 1370) (by decide +kernel) rfl
theorem Se_Md_route : Cond.selects y_Md_route.cls y_Md_route y_Md_route ∈ sn_tbl := sn_in (List.mem_append_left _ (List.mem_of_getElem? (l := k2_sels lw_privs) (i := 68) (by decide +kernel))) rfl
set_option maxRecDepth 100000 in
theorem Y_Md_message : sn_Y y_Md_message c_Md_message 6 (some .long) 6 := ⟨sn_tb (n := 1327) rfl rfl, sn_tb (n := 9) (by decide +kernel) rfl, by decide +kernel⟩
theorem L_Md_248 : Cond.methodLink "SignalNetworkModel" 248 y_Md_message ∈ sn_tbl := sn_tb (n := 1325) (by decide +kernel) rfl
theorem St_Md_message : Cond.static y_Md_message ∈ sn_tbl := sn_tb (n := 1326) (by decide +kernel) rfl
set_option maxRecDepth 100000 in
theorem Y_Md_nextOf : sn_Y y_Md_nextOf c_Md_nextOf 5 (some .int) 2 := ⟨sn_tb (n := 1312) rfl rfl, sn_tb (n := 9) (by decide +kernel) rfl, by decide +kernel⟩
theorem L_Md_245 : Cond.methodLink "SignalNetworkModel" 245 y_Md_nextOf ∈ sn_tbl := sn_tb (n := 1309) (by decide +kernel) rfl
theorem I_Md_nextOf : Cond.instanceMethod y_Md_nextOf ∈ sn_tbl := sn_tb (n := 1311) (by decide +kernel) rfl
theorem Se_Md_nextOf : Cond.selects y_Md_nextOf.cls y_Md_nextOf y_Md_nextOf ∈ sn_tbl := sn_in (List.mem_append_left _ (List.mem_of_getElem? (l := k2_sels lw_privs) (i := 55) (by decide +kernel))) rfl
set_option maxRecDepth 100000 in
theorem Y_Md_otherOf : sn_Y y_Md_otherOf c_Md_otherOf 2 (some .int) 1 := ⟨sn_tb (n := 1359) rfl rfl, sn_tb (n := 9) (by decide +kernel) rfl, by decide +kernel⟩
theorem L_Md_259 : Cond.methodLink "SignalNetworkModel" 259 y_Md_otherOf ∈ sn_tbl := sn_tb (n := 1356) (by decide +kernel) rfl
theorem I_Md_otherOf : Cond.instanceMethod y_Md_otherOf ∈ sn_tbl := sn_tb (n := 1358) (by decide +kernel) rfl
theorem Se_Md_otherOf : Cond.selects y_Md_otherOf.cls y_Md_otherOf y_Md_otherOf ∈ sn_tbl := sn_in (List.mem_append_left _ (List.mem_of_getElem? (l := k2_sels lw_privs) (i := 65) (by decide +kernel))) rfl
set_option maxRecDepth 100000 in
theorem Y_Md_exchangeOf : sn_Y y_Md_exchangeOf c_Md_exchangeOf 2 (some .int) 1 := ⟨sn_tb (n := 1355) rfl rfl, sn_tb (n := 9) (by decide +kernel) rfl, by decide +kernel⟩
theorem L_Md_252 : Cond.methodLink "SignalNetworkModel" 252 y_Md_exchangeOf ∈ sn_tbl := sn_tb (n := 1352) (by decide +kernel) rfl
theorem F_Md_256 : sn_F "SignalNetworkModel" 256 11 6 false (.int) := ⟨_, _, _, _, CF12, by decide, rfl, rfl, rfl, sn_tb (n := 1096) (by decide +kernel) rfl⟩
theorem I_Md_exchangeOf : Cond.instanceMethod y_Md_exchangeOf ∈ sn_tbl := sn_tb (n := 1354) (by decide +kernel) rfl
theorem Se_Md_exchangeOf : Cond.selects y_Md_exchangeOf.cls y_Md_exchangeOf y_Md_exchangeOf ∈ sn_tbl := sn_in (List.mem_append_left _ (List.mem_of_getElem? (l := k2_sels lw_privs) (i := 64) (by decide +kernel))) rfl
set_option maxRecDepth 100000 in
theorem Y_Md_look : sn_Y y_Md_look c_Md_look 6 none 1 := ⟨sn_tb (n := 1308) rfl rfl, sn_tb (n := 9) (by decide +kernel) rfl, by decide +kernel⟩
theorem L_Md_266 : Cond.methodLink "SignalNetworkModel" 266 y_Md_look ∈ sn_tbl := sn_tb (n := 1305) (by decide +kernel) rfl
theorem I_Md_look : Cond.instanceMethod y_Md_look ∈ sn_tbl := sn_tb (n := 1307) (by decide +kernel) rfl
theorem Se_Md_look : Cond.selects y_Md_look.cls y_Md_look y_Md_look ∈ sn_tbl := sn_in (List.mem_append_left _ (List.mem_of_getElem? (l := k2_sels lw_privs) (i := 54) (by decide +kernel))) rfl
set_option maxRecDepth 100000 in
theorem Y_Md_otherWay : sn_Y y_Md_otherWay c_Md_otherWay 6 none 3 := ⟨sn_tb (n := 1367) rfl rfl, sn_tb (n := 9) (by decide +kernel) rfl, by decide +kernel⟩
theorem L_Md_262 : Cond.methodLink "SignalNetworkModel" 262 y_Md_otherWay ∈ sn_tbl := sn_tb (n := 1364) (by decide +kernel) rfl
theorem I_Md_otherWay : Cond.instanceMethod y_Md_otherWay ∈ sn_tbl := sn_tb (n := 1366) (by decide +kernel) rfl
theorem Se_Md_otherWay : Cond.selects y_Md_otherWay.cls y_Md_otherWay y_Md_otherWay ∈ sn_tbl := sn_in (List.mem_append_left _ (List.mem_of_getElem? (l := k2_sels lw_privs) (i := 67) (by decide +kernel))) rfl
set_option maxRecDepth 100000 in
theorem Y_Md_bestOf : sn_Y y_Md_bestOf c_Md_bestOf 8 (some .int) 3 := ⟨sn_tb (n := 1423) rfl rfl, sn_tb (n := 9) (by decide +kernel) rfl, by decide +kernel⟩
theorem L_Md_269 : Cond.methodLink "SignalNetworkModel" 269 y_Md_bestOf ∈ sn_tbl := sn_tb (n := 1420) (by decide +kernel) rfl
theorem I_Md_bestOf : Cond.instanceMethod y_Md_bestOf ∈ sn_tbl := sn_tb (n := 1422) (by decide +kernel) rfl
theorem Se_Md_bestOf : Cond.selects y_Md_bestOf.cls y_Md_bestOf y_Md_bestOf ∈ sn_tbl := sn_in (List.mem_append_left _ (List.mem_of_getElem? (l := k2_sels lw_privs) (i := 77) (by decide +kernel))) rfl
set_option maxRecDepth 100000 in
theorem Y_Md_prove : sn_Y y_Md_prove c_Md_prove 3 none 2 := ⟨sn_tb (n := 1407) rfl rfl, sn_tb (n := 9) (by decide +kernel) rfl, by decide +kernel⟩
theorem L_Md_279 : Cond.methodLink "SignalNetworkModel" 279 y_Md_prove ∈ sn_tbl := sn_tb (n := 1404) (by decide +kernel) rfl
theorem I_Md_prove : Cond.instanceMethod y_Md_prove ∈ sn_tbl := sn_tb (n := 1406) (by decide +kernel) rfl
theorem Se_Md_prove : Cond.selects y_Md_prove.cls y_Md_prove y_Md_prove ∈ sn_tbl := sn_in (List.mem_append_left _ (List.mem_of_getElem? (l := k2_sels lw_privs) (i := 73) (by decide +kernel))) rfl
set_option maxRecDepth 100000 in
theorem Y_Md_serving : sn_Y y_Md_serving c_Md_serving 4 none 3 := ⟨sn_tb (n := 1415) rfl rfl, sn_tb (n := 9) (by decide +kernel) rfl, by decide +kernel⟩
theorem L_Md_286 : Cond.methodLink "SignalNetworkModel" 286 y_Md_serving ∈ sn_tbl := sn_tb (n := 1412) (by decide +kernel) rfl
theorem I_Md_serving : Cond.instanceMethod y_Md_serving ∈ sn_tbl := sn_tb (n := 1414) (by decide +kernel) rfl
theorem Se_Md_serving : Cond.selects y_Md_serving.cls y_Md_serving y_Md_serving ∈ sn_tbl := sn_in (List.mem_append_left _ (List.mem_of_getElem? (l := k2_sels lw_privs) (i := 75) (by decide +kernel))) rfl
set_option maxRecDepth 100000 in
theorem Y_Md_proving : sn_Y y_Md_proving c_Md_proving 4 none 3 := ⟨sn_tb (n := 1411) rfl rfl, sn_tb (n := 9) (by decide +kernel) rfl, by decide +kernel⟩
theorem L_Md_282 : Cond.methodLink "SignalNetworkModel" 282 y_Md_proving ∈ sn_tbl := sn_tb (n := 1408) (by decide +kernel) rfl
theorem I_Md_proving : Cond.instanceMethod y_Md_proving ∈ sn_tbl := sn_tb (n := 1410) (by decide +kernel) rfl
theorem Se_Md_proving : Cond.selects y_Md_proving.cls y_Md_proving y_Md_proving ∈ sn_tbl := sn_in (List.mem_append_left _ (List.mem_of_getElem? (l := k2_sels lw_privs) (i := 74) (by decide +kernel))) rfl
set_option maxRecDepth 100000 in
theorem Y_Md_fail : sn_Y y_Md_fail c_Md_fail 8 none 2 := ⟨sn_tb (n := 1363) rfl rfl, sn_tb (n := 9) (by decide +kernel) rfl, by decide +kernel⟩
theorem L_Md_275 : Cond.methodLink "SignalNetworkModel" 275 y_Md_fail ∈ sn_tbl := sn_tb (n := 1360) (by decide +kernel) rfl
theorem I_Md_fail : Cond.instanceMethod y_Md_fail ∈ sn_tbl := sn_tb (n := 1362) (by decide +kernel) rfl
theorem Se_Md_fail : Cond.selects y_Md_fail.cls y_Md_fail y_Md_fail ∈ sn_tbl := sn_in (List.mem_append_left _ (List.mem_of_getElem? (l := k2_sels lw_privs) (i := 66) (by decide +kernel))) rfl
set_option maxRecDepth 100000 in
theorem Y_Md_align : sn_Y y_Md_align c_Md_align 2 none 1 := ⟨sn_tb (n := 1403) rfl rfl, sn_tb (n := 9) (by decide +kernel) rfl, by decide +kernel⟩
theorem L_Md_272 : Cond.methodLink "SignalNetworkModel" 272 y_Md_align ∈ sn_tbl := sn_tb (n := 1400) (by decide +kernel) rfl
theorem I_Md_align : Cond.instanceMethod y_Md_align ∈ sn_tbl := sn_tb (n := 1402) (by decide +kernel) rfl
theorem Se_Md_align : Cond.selects y_Md_align.cls y_Md_align y_Md_align ∈ sn_tbl := sn_in (List.mem_append_left _ (List.mem_of_getElem? (l := k2_sels lw_privs) (i := 72) (by decide +kernel))) rfl
set_option maxRecDepth 100000 in
theorem Y_Md_treat : sn_Y y_Md_treat c_Md_treat 4 none 1 := ⟨sn_tb (n := 1427) rfl rfl, sn_tb (n := 9) (by decide +kernel) rfl, by decide +kernel⟩
theorem L_Md_292 : Cond.methodLink "SignalNetworkModel" 292 y_Md_treat ∈ sn_tbl := sn_tb (n := 1424) (by decide +kernel) rfl
theorem I_Md_treat : Cond.instanceMethod y_Md_treat ∈ sn_tbl := sn_tb (n := 1426) (by decide +kernel) rfl
theorem Se_Md_treat : Cond.selects y_Md_treat.cls y_Md_treat y_Md_treat ∈ sn_tbl := sn_in (List.mem_append_left _ (List.mem_of_getElem? (l := k2_sels lw_privs) (i := 78) (by decide +kernel))) rfl
set_option maxRecDepth 100000 in
theorem Y_Md_up : sn_Y y_Md_up c_Md_up 8 none 1 := ⟨sn_tb (n := 1419) rfl rfl, sn_tb (n := 9) (by decide +kernel) rfl, by decide +kernel⟩
theorem L_Md_289 : Cond.methodLink "SignalNetworkModel" 289 y_Md_up ∈ sn_tbl := sn_tb (n := 1416) (by decide +kernel) rfl
theorem I_Md_up : Cond.instanceMethod y_Md_up ∈ sn_tbl := sn_tb (n := 1418) (by decide +kernel) rfl
theorem Se_Md_up : Cond.selects y_Md_up.cls y_Md_up y_Md_up ∈ sn_tbl := sn_in (List.mem_append_left _ (List.mem_of_getElem? (l := k2_sels lw_privs) (i := 76) (by decide +kernel))) rfl
set_option maxRecDepth 100000 in
theorem Y_Md_get : sn_Y y_Md_get c_Md_get 6 none 2 := ⟨sn_tb (n := 1439) rfl rfl, sn_tb (n := 9) (by decide +kernel) rfl, by decide +kernel⟩
theorem L_Md_302 : Cond.methodLink "SignalNetworkModel" 302 y_Md_get ∈ sn_tbl := sn_tb (n := 1436) (by decide +kernel) rfl
theorem I_Md_get : Cond.instanceMethod y_Md_get ∈ sn_tbl := sn_tb (n := 1438) (by decide +kernel) rfl
theorem Se_Md_get : Cond.selects y_Md_get.cls y_Md_get y_Md_get ∈ sn_tbl := sn_in (List.mem_append_left _ (List.mem_of_getElem? (l := k2_sels lw_privs) (i := 81) (by decide +kernel))) rfl
set_option maxRecDepth 100000 in
theorem Y_Md_openAt : sn_Y y_Md_openAt c_Md_openAt 4 (some .int) 2 := ⟨sn_tb (n := 1431) rfl rfl, sn_tb (n := 9) (by decide +kernel) rfl, by decide +kernel⟩
theorem L_Md_295 : Cond.methodLink "SignalNetworkModel" 295 y_Md_openAt ∈ sn_tbl := sn_tb (n := 1428) (by decide +kernel) rfl
set_option maxRecDepth 100000 in
theorem Y_Md_acknowledge : sn_Y y_Md_acknowledge c_Md_acknowledge 4 none 2 := ⟨sn_tb (n := 1435) rfl rfl, sn_tb (n := 9) (by decide +kernel) rfl, by decide +kernel⟩
theorem L_Md_298 : Cond.methodLink "SignalNetworkModel" 298 y_Md_acknowledge ∈ sn_tbl := sn_tb (n := 1432) (by decide +kernel) rfl
theorem I_Md_acknowledge : Cond.instanceMethod y_Md_acknowledge ∈ sn_tbl := sn_tb (n := 1434) (by decide +kernel) rfl
theorem Se_Md_acknowledge : Cond.selects y_Md_acknowledge.cls y_Md_acknowledge y_Md_acknowledge ∈ sn_tbl := sn_in (List.mem_append_left _ (List.mem_of_getElem? (l := k2_sels lw_privs) (i := 80) (by decide +kernel))) rfl
theorem I_Md_openAt : Cond.instanceMethod y_Md_openAt ∈ sn_tbl := sn_tb (n := 1430) (by decide +kernel) rfl
theorem Se_Md_openAt : Cond.selects y_Md_openAt.cls y_Md_openAt y_Md_openAt ∈ sn_tbl := sn_in (List.mem_append_left _ (List.mem_of_getElem? (l := k2_sels lw_privs) (i := 79) (by decide +kernel))) rfl
set_option maxRecDepth 100000 in
theorem Y_Md_start : sn_Y y_Md_start c_Md_start 4 none 1 := ⟨sn_tb (n := 1351) rfl rfl, sn_tb (n := 9) (by decide +kernel) rfl, by decide +kernel⟩
theorem L_Md_305 : Cond.methodLink "SignalNetworkModel" 305 y_Md_start ∈ sn_tbl := sn_tb (n := 1348) (by decide +kernel) rfl
theorem I_Md_start : Cond.instanceMethod y_Md_start ∈ sn_tbl := sn_tb (n := 1350) (by decide +kernel) rfl
theorem Se_Md_start : Cond.selects y_Md_start.cls y_Md_start y_Md_start ∈ sn_tbl := sn_in (List.mem_append_left _ (List.mem_of_getElem? (l := k2_sels lw_privs) (i := 63) (by decide +kernel))) rfl
set_option maxRecDepth 100000 in
theorem Y_Md_kindOf : sn_Y y_Md_kindOf c_Md_kindOf 2 (some .int) 1 := ⟨sn_tb (n := 1456) rfl rfl, sn_tb (n := 9) (by decide +kernel) rfl, by decide +kernel⟩
theorem L_Md_325 : Cond.methodLink "SignalNetworkModel" 325 y_Md_kindOf ∈ sn_tbl := sn_tb (n := 1454) (by decide +kernel) rfl
theorem St_Md_kindOf : Cond.static y_Md_kindOf ∈ sn_tbl := sn_tb (n := 1455) (by decide +kernel) rfl
set_option maxRecDepth 100000 in
theorem Y_Md_toOf : sn_Y y_Md_toOf c_Md_toOf 2 (some .int) 1 := ⟨sn_tb (n := 1442) rfl rfl, sn_tb (n := 9) (by decide +kernel) rfl, by decide +kernel⟩
theorem L_Md_308 : Cond.methodLink "SignalNetworkModel" 308 y_Md_toOf ∈ sn_tbl := sn_tb (n := 1440) (by decide +kernel) rfl
set_option maxRecDepth 100000 in
theorem Y_Md_fromOf : sn_Y y_Md_fromOf c_Md_fromOf 2 (some .int) 1 := ⟨sn_tb (n := 1449) rfl rfl, sn_tb (n := 9) (by decide +kernel) rfl, by decide +kernel⟩
theorem L_Md_316 : Cond.methodLink "SignalNetworkModel" 316 y_Md_fromOf ∈ sn_tbl := sn_tb (n := 1447) (by decide +kernel) rfl
set_option maxRecDepth 100000 in
theorem Y_Md_oneOf : sn_Y y_Md_oneOf c_Md_oneOf 2 (some .int) 1 := ⟨sn_tb (n := 1452) rfl rfl, sn_tb (n := 9) (by decide +kernel) rfl, by decide +kernel⟩
theorem L_Md_319 : Cond.methodLink "SignalNetworkModel" 319 y_Md_oneOf ∈ sn_tbl := sn_tb (n := 1450) (by decide +kernel) rfl
theorem F_Md_322 : sn_F "SignalNetworkModel" 322 11 8 false (.int) := ⟨_, _, _, _, CF12, by decide, rfl, rfl, rfl, sn_tb (n := 1098) (by decide +kernel) rfl⟩
theorem F_Md_328 : sn_F "SignalNetworkModel" 328 11 9 false (.int) := ⟨_, _, _, _, CF12, by decide, rfl, rfl, rfl, sn_tb (n := 1099) (by decide +kernel) rfl⟩
set_option maxRecDepth 100000 in
theorem Y_Md_twoOf : sn_Y y_Md_twoOf c_Md_twoOf 2 (some .int) 1 := ⟨sn_tb (n := 1459) rfl rfl, sn_tb (n := 9) (by decide +kernel) rfl, by decide +kernel⟩
theorem L_Md_331 : Cond.methodLink "SignalNetworkModel" 331 y_Md_twoOf ∈ sn_tbl := sn_tb (n := 1457) (by decide +kernel) rfl
set_option maxRecDepth 100000 in
theorem Y_Md_over : sn_Y y_Md_over c_Md_over 7 none 4 := ⟨sn_tb (n := 1464) rfl rfl, sn_tb (n := 9) (by decide +kernel) rfl, by decide +kernel⟩
theorem L_Md_334 : Cond.methodLink "SignalNetworkModel" 334 y_Md_over ∈ sn_tbl := sn_tb (n := 1461) (by decide +kernel) rfl
theorem I_Md_over : Cond.instanceMethod y_Md_over ∈ sn_tbl := sn_tb (n := 1463) (by decide +kernel) rfl
theorem Se_Md_over : Cond.selects y_Md_over.cls y_Md_over y_Md_over ∈ sn_tbl := sn_in (List.mem_append_left _ (List.mem_of_getElem? (l := k2_sels lw_privs) (i := 82) (by decide +kernel))) rfl
theorem St_Md_twoOf : Cond.static y_Md_twoOf ∈ sn_tbl := sn_tb (n := 1458) (by decide +kernel) rfl
set_option maxRecDepth 100000 in
theorem Y_Md_overEnds : sn_Y y_Md_overEnds c_Md_overEnds 10 none 3 := ⟨sn_tb (n := 1468) rfl rfl, sn_tb (n := 9) (by decide +kernel) rfl, by decide +kernel⟩
theorem L_Md_338 : Cond.methodLink "SignalNetworkModel" 338 y_Md_overEnds ∈ sn_tbl := sn_tb (n := 1465) (by decide +kernel) rfl
theorem I_Md_overEnds : Cond.instanceMethod y_Md_overEnds ∈ sn_tbl := sn_tb (n := 1467) (by decide +kernel) rfl
theorem Se_Md_overEnds : Cond.selects y_Md_overEnds.cls y_Md_overEnds y_Md_overEnds ∈ sn_tbl := sn_in (List.mem_append_left _ (List.mem_of_getElem? (l := k2_sels lw_privs) (i := 83) (by decide +kernel))) rfl
set_option maxRecDepth 100000 in
theorem Y_Md_backEnds : sn_Y y_Md_backEnds c_Md_backEnds 7 none 3 := ⟨sn_tb (n := 1472) rfl rfl, sn_tb (n := 9) (by decide +kernel) rfl, by decide +kernel⟩
theorem L_Md_342 : Cond.methodLink "SignalNetworkModel" 342 y_Md_backEnds ∈ sn_tbl := sn_tb (n := 1469) (by decide +kernel) rfl
theorem I_Md_backEnds : Cond.instanceMethod y_Md_backEnds ∈ sn_tbl := sn_tb (n := 1471) (by decide +kernel) rfl
theorem Se_Md_backEnds : Cond.selects y_Md_backEnds.cls y_Md_backEnds y_Md_backEnds ∈ sn_tbl := sn_in (List.mem_append_left _ (List.mem_of_getElem? (l := k2_sels lw_privs) (i := 84) (by decide +kernel))) rfl
set_option maxRecDepth 100000 in
theorem Y_Md_circuitGets : sn_Y y_Md_circuitGets c_Md_circuitGets 14 none 5 := ⟨sn_tb (n := 1476) rfl rfl, sn_tb (n := 9) (by decide +kernel) rfl, by decide +kernel⟩
theorem L_Md_345 : Cond.methodLink "SignalNetworkModel" 345 y_Md_circuitGets ∈ sn_tbl := sn_tb (n := 1473) (by decide +kernel) rfl
theorem I_Md_circuitGets : Cond.instanceMethod y_Md_circuitGets ∈ sn_tbl := sn_tb (n := 1475) (by decide +kernel) rfl
theorem Se_Md_circuitGets : Cond.selects y_Md_circuitGets.cls y_Md_circuitGets y_Md_circuitGets ∈ sn_tbl := sn_in (List.mem_append_left _ (List.mem_of_getElem? (l := k2_sels lw_privs) (i := 85) (by decide +kernel))) rfl
theorem St_Md_oneOf : Cond.static y_Md_oneOf ∈ sn_tbl := sn_tb (n := 1451) (by decide +kernel) rfl
theorem St_Md_fromOf : Cond.static y_Md_fromOf ∈ sn_tbl := sn_tb (n := 1448) (by decide +kernel) rfl
theorem KL_Md_311 : Cond.constantLong "SignalNetworkModel" 311 (1099511627776) ∈ sn_tbl := sn_tb (n := 1443) (by decide +kernel) rfl
set_option maxRecDepth 100000 in
theorem Y_Md_hopsOf : sn_Y y_Md_hopsOf c_Md_hopsOf 2 (some .int) 1 := ⟨sn_tb (n := 1446) rfl rfl, sn_tb (n := 9) (by decide +kernel) rfl, by decide +kernel⟩
theorem L_Md_313 : Cond.methodLink "SignalNetworkModel" 313 y_Md_hopsOf ∈ sn_tbl := sn_tb (n := 1444) (by decide +kernel) rfl
theorem St_Md_toOf : Cond.static y_Md_toOf ∈ sn_tbl := sn_tb (n := 1441) (by decide +kernel) rfl
theorem St_Md_hopsOf : Cond.static y_Md_hopsOf ∈ sn_tbl := sn_tb (n := 1445) (by decide +kernel) rfl
set_option maxRecDepth 100000 in
theorem Y_Md_says : sn_Y y_Md_says c_Md_says 7 none 4 := ⟨sn_tb (n := 1512) rfl rfl, sn_tb (n := 9) (by decide +kernel) rfl, by decide +kernel⟩
theorem L_Md_349 : Cond.methodLink "SignalNetworkModel" 349 y_Md_says ∈ sn_tbl := sn_tb (n := 1509) (by decide +kernel) rfl
theorem I_Md_says : Cond.instanceMethod y_Md_says ∈ sn_tbl := sn_tb (n := 1511) (by decide +kernel) rfl
theorem Se_Md_says : Cond.selects y_Md_says.cls y_Md_says y_Md_says ∈ sn_tbl := sn_in (List.mem_append_left _ (List.mem_of_getElem? (l := k2_sels lw_privs) (i := 94) (by decide +kernel))) rfl
set_option maxRecDepth 100000 in
theorem Y_Md_setLeg : sn_Y y_Md_setLeg c_Md_setLeg 3 none 2 := ⟨sn_tb (n := 1504) rfl rfl, sn_tb (n := 9) (by decide +kernel) rfl, by decide +kernel⟩
theorem L_Md_352 : Cond.methodLink "SignalNetworkModel" 352 y_Md_setLeg ∈ sn_tbl := sn_tb (n := 1501) (by decide +kernel) rfl
theorem I_Md_setLeg : Cond.instanceMethod y_Md_setLeg ∈ sn_tbl := sn_tb (n := 1503) (by decide +kernel) rfl
theorem Se_Md_setLeg : Cond.selects y_Md_setLeg.cls y_Md_setLeg y_Md_setLeg ∈ sn_tbl := sn_in (List.mem_append_left _ (List.mem_of_getElem? (l := k2_sels lw_privs) (i := 92) (by decide +kernel))) rfl
set_option maxRecDepth 100000 in
theorem Y_Md_legOf : sn_Y y_Md_legOf c_Md_legOf 2 (some .int) 1 := ⟨sn_tb (n := 1500) rfl rfl, sn_tb (n := 9) (by decide +kernel) rfl, by decide +kernel⟩
theorem L_Md_355 : Cond.methodLink "SignalNetworkModel" 355 y_Md_legOf ∈ sn_tbl := sn_tb (n := 1497) (by decide +kernel) rfl
theorem I_Md_legOf : Cond.instanceMethod y_Md_legOf ∈ sn_tbl := sn_tb (n := 1499) (by decide +kernel) rfl
theorem Se_Md_legOf : Cond.selects y_Md_legOf.cls y_Md_legOf y_Md_legOf ∈ sn_tbl := sn_in (List.mem_append_left _ (List.mem_of_getElem? (l := k2_sels lw_privs) (i := 91) (by decide +kernel))) rfl
set_option maxRecDepth 100000 in
theorem Y_Md_part : sn_Y y_Md_part c_Md_part 3 none 1 := ⟨sn_tb (n := 1496) rfl rfl, sn_tb (n := 9) (by decide +kernel) rfl, by decide +kernel⟩
theorem L_Md_358 : Cond.methodLink "SignalNetworkModel" 358 y_Md_part ∈ sn_tbl := sn_tb (n := 1493) (by decide +kernel) rfl
set_option maxRecDepth 100000 in
theorem Y_Md_say : sn_Y y_Md_say c_Md_say 4 none 3 := ⟨sn_tb (n := 1508) rfl rfl, sn_tb (n := 9) (by decide +kernel) rfl, by decide +kernel⟩
theorem L_Md_361 : Cond.methodLink "SignalNetworkModel" 361 y_Md_say ∈ sn_tbl := sn_tb (n := 1505) (by decide +kernel) rfl
set_option maxRecDepth 100000 in
theorem Y_Md_becomes : sn_Y y_Md_becomes c_Md_becomes 5 none 4 := ⟨sn_tb (n := 1484) rfl rfl, sn_tb (n := 9) (by decide +kernel) rfl, by decide +kernel⟩
theorem L_Md_364 : Cond.methodLink "SignalNetworkModel" 364 y_Md_becomes ∈ sn_tbl := sn_tb (n := 1481) (by decide +kernel) rfl
theorem I_Md_becomes : Cond.instanceMethod y_Md_becomes ∈ sn_tbl := sn_tb (n := 1483) (by decide +kernel) rfl
theorem Se_Md_becomes : Cond.selects y_Md_becomes.cls y_Md_becomes y_Md_becomes ∈ sn_tbl := sn_in (List.mem_append_left _ (List.mem_of_getElem? (l := k2_sels lw_privs) (i := 87) (by decide +kernel))) rfl
theorem I_Md_say : Cond.instanceMethod y_Md_say ∈ sn_tbl := sn_tb (n := 1507) (by decide +kernel) rfl
theorem Se_Md_say : Cond.selects y_Md_say.cls y_Md_say y_Md_say ∈ sn_tbl := sn_in (List.mem_append_left _ (List.mem_of_getElem? (l := k2_sels lw_privs) (i := 93) (by decide +kernel))) rfl
theorem I_Md_part : Cond.instanceMethod y_Md_part ∈ sn_tbl := sn_tb (n := 1495) (by decide +kernel) rfl
theorem Se_Md_part : Cond.selects y_Md_part.cls y_Md_part y_Md_part ∈ sn_tbl := sn_in (List.mem_append_left _ (List.mem_of_getElem? (l := k2_sels lw_privs) (i := 90) (by decide +kernel))) rfl
set_option maxRecDepth 100000 in
theorem Y_Md_letGo : sn_Y y_Md_letGo c_Md_letGo 2 none 1 := ⟨sn_tb (n := 1492) rfl rfl, sn_tb (n := 9) (by decide +kernel) rfl, by decide +kernel⟩
theorem L_Md_367 : Cond.methodLink "SignalNetworkModel" 367 y_Md_letGo ∈ sn_tbl := sn_tb (n := 1489) (by decide +kernel) rfl
theorem I_Md_letGo : Cond.instanceMethod y_Md_letGo ∈ sn_tbl := sn_tb (n := 1491) (by decide +kernel) rfl
theorem Se_Md_letGo : Cond.selects y_Md_letGo.cls y_Md_letGo y_Md_letGo ∈ sn_tbl := sn_in (List.mem_append_left _ (List.mem_of_getElem? (l := k2_sels lw_privs) (i := 89) (by decide +kernel))) rfl
set_option maxRecDepth 100000 in
theorem Y_Md_join : sn_Y y_Md_join c_Md_join 3 none 2 := ⟨sn_tb (n := 1516) rfl rfl, sn_tb (n := 9) (by decide +kernel) rfl, by decide +kernel⟩
theorem L_Md_370 : Cond.methodLink "SignalNetworkModel" 370 y_Md_join ∈ sn_tbl := sn_tb (n := 1513) (by decide +kernel) rfl
theorem I_Md_join : Cond.instanceMethod y_Md_join ∈ sn_tbl := sn_tb (n := 1515) (by decide +kernel) rfl
theorem Se_Md_join : Cond.selects y_Md_join.cls y_Md_join y_Md_join ∈ sn_tbl := sn_in (List.mem_append_left _ (List.mem_of_getElem? (l := k2_sels lw_privs) (i := 95) (by decide +kernel))) rfl
set_option maxRecDepth 100000 in
theorem Y_Md_back : sn_Y y_Md_back c_Md_back 4 none 2 := ⟨sn_tb (n := 1520) rfl rfl, sn_tb (n := 9) (by decide +kernel) rfl, by decide +kernel⟩
theorem L_Md_373 : Cond.methodLink "SignalNetworkModel" 373 y_Md_back ∈ sn_tbl := sn_tb (n := 1517) (by decide +kernel) rfl
theorem I_Md_back : Cond.instanceMethod y_Md_back ∈ sn_tbl := sn_tb (n := 1519) (by decide +kernel) rfl
theorem Se_Md_back : Cond.selects y_Md_back.cls y_Md_back y_Md_back ∈ sn_tbl := sn_in (List.mem_append_left _ (List.mem_of_getElem? (l := k2_sels lw_privs) (i := 96) (by decide +kernel))) rfl
set_option maxRecDepth 100000 in
theorem Y_Md_connect : sn_Y y_Md_connect c_Md_connect 10 none 3 := ⟨sn_tb (n := 1488) rfl rfl, sn_tb (n := 9) (by decide +kernel) rfl, by decide +kernel⟩
theorem L_Md_376 : Cond.methodLink "SignalNetworkModel" 376 y_Md_connect ∈ sn_tbl := sn_tb (n := 1485) (by decide +kernel) rfl
theorem I_Md_connect : Cond.instanceMethod y_Md_connect ∈ sn_tbl := sn_tb (n := 1487) (by decide +kernel) rfl
theorem Se_Md_connect : Cond.selects y_Md_connect.cls y_Md_connect y_Md_connect ∈ sn_tbl := sn_in (List.mem_append_left _ (List.mem_of_getElem? (l := k2_sels lw_privs) (i := 88) (by decide +kernel))) rfl
set_option maxRecDepth 100000 in
theorem Y_Md_controls : sn_Y y_Md_controls c_Md_controls 4 (some .boolean) 3 := ⟨sn_tb (n := 1524) rfl rfl, sn_tb (n := 9) (by decide +kernel) rfl, by decide +kernel⟩
theorem L_Md_382 : Cond.methodLink "SignalNetworkModel" 382 y_Md_controls ∈ sn_tbl := sn_tb (n := 1521) (by decide +kernel) rfl
set_option maxRecDepth 100000 in
theorem Y_Md_takeCall : sn_Y y_Md_takeCall c_Md_takeCall 5 none 3 := ⟨sn_tb (n := 1480) rfl rfl, sn_tb (n := 9) (by decide +kernel) rfl, by decide +kernel⟩
theorem L_Md_379 : Cond.methodLink "SignalNetworkModel" 379 y_Md_takeCall ∈ sn_tbl := sn_tb (n := 1477) (by decide +kernel) rfl
theorem I_Md_takeCall : Cond.instanceMethod y_Md_takeCall ∈ sn_tbl := sn_tb (n := 1479) (by decide +kernel) rfl
theorem Se_Md_takeCall : Cond.selects y_Md_takeCall.cls y_Md_takeCall y_Md_takeCall ∈ sn_tbl := sn_in (List.mem_append_left _ (List.mem_of_getElem? (l := k2_sels lw_privs) (i := 86) (by decide +kernel))) rfl
theorem I_Md_controls : Cond.instanceMethod y_Md_controls ∈ sn_tbl := sn_tb (n := 1523) (by decide +kernel) rfl
theorem Se_Md_controls : Cond.selects y_Md_controls.cls y_Md_controls y_Md_controls ∈ sn_tbl := sn_in (List.mem_append_left _ (List.mem_of_getElem? (l := k2_sels lw_privs) (i := 97) (by decide +kernel))) rfl
theorem F_Md_397 : sn_F "SignalNetworkModel" 397 11 5 false (.int) := ⟨_, _, _, _, CF12, by decide, rfl, rfl, rfl, sn_tb (n := 1095) (by decide +kernel) rfl⟩
set_option maxRecDepth 100000 in
theorem Y_Md_send : sn_Y y_Md_send c_Md_send 4 none 1 := ⟨sn_tb (n := 1536) rfl rfl, sn_tb (n := 9) (by decide +kernel) rfl, by decide +kernel⟩
theorem L_Md_394 : Cond.methodLink "SignalNetworkModel" 394 y_Md_send ∈ sn_tbl := sn_tb (n := 1533) (by decide +kernel) rfl
theorem I_Md_send : Cond.instanceMethod y_Md_send ∈ sn_tbl := sn_tb (n := 1535) (by decide +kernel) rfl
theorem Se_Md_send : Cond.selects y_Md_send.cls y_Md_send y_Md_send ∈ sn_tbl := sn_in (List.mem_append_left _ (List.mem_of_getElem? (l := k2_sels lw_privs) (i := 100) (by decide +kernel))) rfl
set_option maxRecDepth 100000 in
theorem Y_Md_lineTimer : sn_Y y_Md_lineTimer c_Md_lineTimer 3 none 1 := ⟨sn_tb (n := 1532) rfl rfl, sn_tb (n := 9) (by decide +kernel) rfl, by decide +kernel⟩
theorem L_Md_391 : Cond.methodLink "SignalNetworkModel" 391 y_Md_lineTimer ∈ sn_tbl := sn_tb (n := 1529) (by decide +kernel) rfl
theorem I_Md_lineTimer : Cond.instanceMethod y_Md_lineTimer ∈ sn_tbl := sn_tb (n := 1531) (by decide +kernel) rfl
theorem Se_Md_lineTimer : Cond.selects y_Md_lineTimer.cls y_Md_lineTimer y_Md_lineTimer ∈ sn_tbl := sn_in (List.mem_append_left _ (List.mem_of_getElem? (l := k2_sels lw_privs) (i := 99) (by decide +kernel))) rfl
set_option maxRecDepth 100000 in
theorem Y_Md_timer : sn_Y y_Md_timer c_Md_timer 2 none 1 := ⟨sn_tb (n := 1528) rfl rfl, sn_tb (n := 9) (by decide +kernel) rfl, by decide +kernel⟩
theorem L_Md_388 : Cond.methodLink "SignalNetworkModel" 388 y_Md_timer ∈ sn_tbl := sn_tb (n := 1525) (by decide +kernel) rfl
theorem I_Md_timer : Cond.instanceMethod y_Md_timer ∈ sn_tbl := sn_tb (n := 1527) (by decide +kernel) rfl
theorem Se_Md_timer : Cond.selects y_Md_timer.cls y_Md_timer y_Md_timer ∈ sn_tbl := sn_in (List.mem_append_left _ (List.mem_of_getElem? (l := k2_sels lw_privs) (i := 98) (by decide +kernel))) rfl
set_option maxRecDepth 100000 in
theorem Y_Md_arrive : sn_Y y_Md_arrive c_Md_arrive 4 none 1 := ⟨sn_tb (n := 1399) rfl rfl, sn_tb (n := 9) (by decide +kernel) rfl, by decide +kernel⟩
theorem L_Md_385 : Cond.methodLink "SignalNetworkModel" 385 y_Md_arrive ∈ sn_tbl := sn_tb (n := 1396) (by decide +kernel) rfl
theorem I_Md_arrive : Cond.instanceMethod y_Md_arrive ∈ sn_tbl := sn_tb (n := 1398) (by decide +kernel) rfl
theorem Se_Md_arrive : Cond.selects y_Md_arrive.cls y_Md_arrive y_Md_arrive ∈ sn_tbl := sn_in (List.mem_append_left _ (List.mem_of_getElem? (l := k2_sels lw_privs) (i := 71) (by decide +kernel))) rfl
set_option maxRecDepth 100000 in
theorem Y_Md_canBeTold : sn_Y y_Md_canBeTold c_Md_canBeTold 2 (some .boolean) 2 := ⟨sn_tb (n := 1304) rfl rfl, sn_tb (n := 9) (by decide +kernel) rfl, by decide +kernel⟩
theorem L_Md_400 : Cond.methodLink "SignalNetworkModel" 400 y_Md_canBeTold ∈ sn_tbl := sn_tb (n := 1302) (by decide +kernel) rfl
theorem St_Md_canBeTold : Cond.static y_Md_canBeTold ∈ sn_tbl := sn_tb (n := 1303) (by decide +kernel) rfl
set_option maxRecDepth 100000 in
theorem Y_Md_isLink : sn_Y y_Md_isLink c_Md_isLink 2 (some .boolean) 1 := ⟨sn_tb (n := 1347) rfl rfl, sn_tb (n := 9) (by decide +kernel) rfl, by decide +kernel⟩
theorem L_Md_403 : Cond.methodLink "SignalNetworkModel" 403 y_Md_isLink ∈ sn_tbl := sn_tb (n := 1344) (by decide +kernel) rfl
theorem I_Md_isLink : Cond.instanceMethod y_Md_isLink ∈ sn_tbl := sn_tb (n := 1346) (by decide +kernel) rfl
theorem Se_Md_isLink : Cond.selects y_Md_isLink.cls y_Md_isLink y_Md_isLink ∈ sn_tbl := sn_in (List.mem_append_left _ (List.mem_of_getElem? (l := k2_sels lw_privs) (i := 62) (by decide +kernel))) rfl
set_option maxRecDepth 100000 in
theorem Y_Md_isEnd : sn_Y y_Md_isEnd c_Md_isEnd 3 (some .boolean) 2 := ⟨sn_tb (n := 1387) rfl rfl, sn_tb (n := 9) (by decide +kernel) rfl, by decide +kernel⟩
theorem L_Md_406 : Cond.methodLink "SignalNetworkModel" 406 y_Md_isEnd ∈ sn_tbl := sn_tb (n := 1384) (by decide +kernel) rfl
theorem I_Md_isEnd : Cond.instanceMethod y_Md_isEnd ∈ sn_tbl := sn_tb (n := 1386) (by decide +kernel) rfl
theorem Se_Md_isEnd : Cond.selects y_Md_isEnd.cls y_Md_isEnd y_Md_isEnd ∈ sn_tbl := sn_in (List.mem_append_left _ (List.mem_of_getElem? (l := k2_sels lw_privs) (i := 69) (by decide +kernel))) rfl
set_option maxRecDepth 100000 in
theorem Y_Md_one : sn_Y y_Md_one c_Md_one 5 none 0 := ⟨sn_tb (n := 1395) rfl rfl, sn_tb (n := 9) (by decide +kernel) rfl, by decide +kernel⟩
theorem L_Md_409 : Cond.methodLink "SignalNetworkModel" 409 y_Md_one ∈ sn_tbl := sn_tb (n := 1392) (by decide +kernel) rfl
theorem I_Md_one : Cond.instanceMethod y_Md_one ∈ sn_tbl := sn_tb (n := 1394) (by decide +kernel) rfl
theorem Se_Md_one : Cond.selects y_Md_one.cls y_Md_one y_Md_one ∈ sn_tbl := sn_in (List.mem_append_left _ (List.mem_of_getElem? (l := k2_sels lw_privs) (i := 70) (by decide +kernel))) rfl
set_option maxRecDepth 100000 in
theorem Y_Md_personAt : sn_Y y_Md_personAt c_Md_personAt 1 (some .int) 1 := ⟨sn_tb (n := 1543) rfl rfl, sn_tb (n := 9) (by decide +kernel) rfl, by decide +kernel⟩
theorem L_Md_412 : Cond.methodLink "SignalNetworkModel" 412 y_Md_personAt ∈ sn_tbl := sn_tb (n := 1541) (by decide +kernel) rfl
theorem St_Md_personAt : Cond.static y_Md_personAt ∈ sn_tbl := sn_tb (n := 1542) (by decide +kernel) rfl
set_option maxRecDepth 100000 in
theorem Y_Md_isFlow : sn_Y y_Md_isFlow c_Md_isFlow 4 (some .boolean) 3 := ⟨sn_tb (n := 1559) rfl rfl, sn_tb (n := 9) (by decide +kernel) rfl, by decide +kernel⟩
theorem L_Md_415 : Cond.methodLink "SignalNetworkModel" 415 y_Md_isFlow ∈ sn_tbl := sn_tb (n := 1556) (by decide +kernel) rfl
theorem I_Md_isFlow : Cond.instanceMethod y_Md_isFlow ∈ sn_tbl := sn_tb (n := 1558) (by decide +kernel) rfl
theorem Se_Md_isFlow : Cond.selects y_Md_isFlow.cls y_Md_isFlow y_Md_isFlow ∈ sn_tbl := sn_in (List.mem_append_left _ (List.mem_of_getElem? (l := k2_sels lw_privs) (i := 101) (by decide +kernel))) rfl
set_option maxRecDepth 100000 in
theorem Y_Md_left : sn_Y y_Md_left c_Md_left 2 (some .int) 1 := ⟨sn_tb (n := 1567) rfl rfl, sn_tb (n := 9) (by decide +kernel) rfl, by decide +kernel⟩
theorem L_Md_418 : Cond.methodLink "SignalNetworkModel" 418 y_Md_left ∈ sn_tbl := sn_tb (n := 1564) (by decide +kernel) rfl
theorem I_Md_left : Cond.instanceMethod y_Md_left ∈ sn_tbl := sn_tb (n := 1566) (by decide +kernel) rfl
theorem Se_Md_left : Cond.selects y_Md_left.cls y_Md_left y_Md_left ∈ sn_tbl := sn_in (List.mem_append_left _ (List.mem_of_getElem? (l := k2_sels lw_privs) (i := 102) (by decide +kernel))) rfl
theorem K_Md_428 : Cond.constant "SignalNetworkModel" 428 (33800) ∈ sn_tbl := sn_tb (n := 1585) (by decide +kernel) rfl
theorem K_Md_427 : Cond.constant "SignalNetworkModel" 427 (65535) ∈ sn_tbl := sn_tb (n := 1584) (by decide +kernel) rfl
set_option maxRecDepth 100000 in
theorem Y_Md_plain : sn_Y y_Md_plain c_Md_plain 6 (some .int) 2 := ⟨sn_tb (n := 1583) rfl rfl, sn_tb (n := 9) (by decide +kernel) rfl, by decide +kernel⟩
theorem L_Md_424 : Cond.methodLink "SignalNetworkModel" 424 y_Md_plain ∈ sn_tbl := sn_tb (n := 1580) (by decide +kernel) rfl
theorem I_Md_plain : Cond.instanceMethod y_Md_plain ∈ sn_tbl := sn_tb (n := 1582) (by decide +kernel) rfl
theorem Se_Md_plain : Cond.selects y_Md_plain.cls y_Md_plain y_Md_plain ∈ sn_tbl := sn_in (List.mem_append_left _ (List.mem_of_getElem? (l := k2_sels lw_privs) (i := 105) (by decide +kernel))) rfl
set_option maxRecDepth 100000 in
theorem Y_Md_octets : sn_Y y_Md_octets c_Md_octets 2 (some .int) 1 := ⟨sn_tb (n := 1575) rfl rfl, sn_tb (n := 9) (by decide +kernel) rfl, by decide +kernel⟩
theorem L_Md_421 : Cond.methodLink "SignalNetworkModel" 421 y_Md_octets ∈ sn_tbl := sn_tb (n := 1572) (by decide +kernel) rfl
theorem I_Md_octets : Cond.instanceMethod y_Md_octets ∈ sn_tbl := sn_tb (n := 1574) (by decide +kernel) rfl
theorem Se_Md_octets : Cond.selects y_Md_octets.cls y_Md_octets y_Md_octets ∈ sn_tbl := sn_in (List.mem_append_left _ (List.mem_of_getElem? (l := k2_sels lw_privs) (i := 103) (by decide +kernel))) rfl
set_option maxRecDepth 100000 in
theorem Y_Md_octetOf : sn_Y y_Md_octetOf c_Md_octetOf 8 (some .int) 2 := ⟨sn_tb (n := 1579) rfl rfl, sn_tb (n := 9) (by decide +kernel) rfl, by decide +kernel⟩
theorem L_Md_429 : Cond.methodLink "SignalNetworkModel" 429 y_Md_octetOf ∈ sn_tbl := sn_tb (n := 1576) (by decide +kernel) rfl
theorem I_Md_octetOf : Cond.instanceMethod y_Md_octetOf ∈ sn_tbl := sn_tb (n := 1578) (by decide +kernel) rfl
theorem Se_Md_octetOf : Cond.selects y_Md_octetOf.cls y_Md_octetOf y_Md_octetOf ∈ sn_tbl := sn_in (List.mem_append_left _ (List.mem_of_getElem? (l := k2_sels lw_privs) (i := 104) (by decide +kernel))) rfl
set_option maxRecDepth 100000 in
theorem Y_Md_legTold : sn_Y y_Md_legTold c_Md_legTold 2 (some .int) 1 := ⟨sn_tb (n := 1605) rfl rfl, sn_tb (n := 9) (by decide +kernel) rfl, by decide +kernel⟩
theorem L_Md_432 : Cond.methodLink "SignalNetworkModel" 432 y_Md_legTold ∈ sn_tbl := sn_tb (n := 1602) (by decide +kernel) rfl
theorem I_Md_legTold : Cond.instanceMethod y_Md_legTold ∈ sn_tbl := sn_tb (n := 1604) (by decide +kernel) rfl
theorem Se_Md_legTold : Cond.selects y_Md_legTold.cls y_Md_legTold y_Md_legTold ∈ sn_tbl := sn_in (List.mem_append_left _ (List.mem_of_getElem? (l := k2_sels lw_privs) (i := 106) (by decide +kernel))) rfl
set_option maxRecDepth 100000 in
theorem Y_Md_talks : sn_Y y_Md_talks c_Md_talks 7 (some .int) 1 := ⟨sn_tb (n := 1613) rfl rfl, sn_tb (n := 9) (by decide +kernel) rfl, by decide +kernel⟩
theorem L_Md_435 : Cond.methodLink "SignalNetworkModel" 435 y_Md_talks ∈ sn_tbl := sn_tb (n := 1610) (by decide +kernel) rfl
theorem I_Md_talks : Cond.instanceMethod y_Md_talks ∈ sn_tbl := sn_tb (n := 1612) (by decide +kernel) rfl
theorem Se_Md_talks : Cond.selects y_Md_talks.cls y_Md_talks y_Md_talks ∈ sn_tbl := sn_in (List.mem_append_left _ (List.mem_of_getElem? (l := k2_sels lw_privs) (i := 107) (by decide +kernel))) rfl
