def sn_tbl : List Cond := lw_tbl.filter goodWord
theorem sn_in {w : Cond} (h : w ∈ lw_tbl) (g : goodWord w = true) : w ∈ sn_tbl := List.mem_filter.mpr ⟨h, g⟩
theorem sn_tb {w : Cond} {n : Nat} (h : tables_1[n]? = some w) (g : goodWord w = true) : w ∈ sn_tbl := sn_in (List.mem_append_right _ (List.mem_of_getElem? h)) g
def R0 : String := "SignalNetwork$Clock"
def R1 : String := "SignalNetwork$End"
def R2 : String := "SignalNetwork$Flow"
def R3 : String := "SignalNetwork$Leg"
def R4 : String := "SignalNetwork$Message"
def R5 : String := "SignalNetwork$Plan"
def R6 : String := "SignalNetwork$Queue"
def R7 : String := "SignalNetwork$Switchboard"
def R8 : String := "SignalNetwork$Transfer"
def R9 : String := "SignalNetwork$Unit"
def R10 : String := "SignalNetwork$Window"
def R11 : String := "SignalNetwork"
def R12 : String := "SignalNetworkModel"
def T0 : u_T := fun k => match k with
  | _ => ("SignalNetwork$Clock", "lookings", "I", false)
def ty0 : Nat → FieldType := fun k => match k with
  | _ => .int
theorem n0_ok : ∀ a, a < 1 → ∀ b, b < 1 → a ≠ b → (T0 a).2.1 ≠ (T0 b).2.1 := by decide +kernel
theorem ty0_ok : ∀ k, k < 1 → parseFieldDescriptor (T0 k).2.2.1 = some (ty0 k) := by decide +kernel
theorem jn0 : ∀ w ∈ u_ws R0 T0 1, w ∈ tables_1 ∧ goodWord w = true := by decide +kernel
theorem in0 : ∀ w ∈ u_ws R0 T0 1, w ∈ sn_tbl := fun w h => sn_in (List.mem_append_right _ (jn0 w h).1) (jn0 w h).2
def T1 : u_T := fun k => match k with
  | 0 => ("SignalNetwork$End", "clock", "LSignalNetwork$Clock;", true)
  | 1 => ("SignalNetwork$End", "link", "I", true)
  | 2 => ("SignalNetwork$End", "exchange", "I", true)
  | 3 => ("SignalNetwork$End", "neighbour", "I", true)
  | 4 => ("SignalNetwork$End", "window", "LSignalNetwork$Window;", true)
  | 5 => ("SignalNetwork$End", "unit", "LSignalNetwork$Unit;", true)
  | 6 => ("SignalNetwork$End", "hasSent", "Z", false)
  | 7 => ("SignalNetwork$End", "state", "I", false)
  | 8 => ("SignalNetwork$End", "timer", "I", false)
  | 9 => ("SignalNetwork$End", "life", "I", false)
  | 10 => ("SignalNetwork$End", "peer", "I", false)
  | 11 => ("SignalNetwork$End", "damaged", "I", false)
  | 12 => ("SignalNetwork$End", "changeover", "I", false)
  | 13 => ("SignalNetwork$End", "urgent", "Z", false)
  | 14 => ("SignalNetwork$End", "provingTime", "I", false)
  | 15 => ("SignalNetwork$End", "round", "I", false)
  | 16 => ("SignalNetwork$End", "errors", "I", false)
  | 17 => ("SignalNetwork$End", "credit", "I", false)
  | _ => ("SignalNetwork$End", "arrived", "I", false)
def ty1 : Nat → FieldType := fun k => match k with
  | 0 => .object "SignalNetwork$Clock"
  | 1 => .int
  | 2 => .int
  | 3 => .int
  | 4 => .object "SignalNetwork$Window"
  | 5 => .object "SignalNetwork$Unit"
  | 6 => .boolean
  | 7 => .int
  | 8 => .int
  | 9 => .int
  | 10 => .int
  | 11 => .int
  | 12 => .int
  | 13 => .boolean
  | 14 => .int
  | 15 => .int
  | 16 => .int
  | 17 => .int
  | _ => .int
theorem n1_ok : ∀ a, a < 19 → ∀ b, b < 19 → a ≠ b → (T1 a).2.1 ≠ (T1 b).2.1 := by decide +kernel
theorem ty1_ok : ∀ k, k < 19 → parseFieldDescriptor (T1 k).2.2.1 = some (ty1 k) := by decide +kernel
theorem jn1 : ∀ w ∈ u_ws R1 T1 19, w ∈ tables_1 ∧ goodWord w = true := by decide +kernel
theorem in1 : ∀ w ∈ u_ws R1 T1 19, w ∈ sn_tbl := fun w h => sn_in (List.mem_append_right _ (jn1 w h).1) (jn1 w h).2
def T2 : u_T := fun k => match k with
  | 0 => ("SignalNetwork$Flow", "neighbour", "I", true)
  | 1 => ("SignalNetwork$Flow", "current", "LSignalNetwork$End;", false)
  | 2 => ("SignalNetwork$Flow", "held", "I", false)
  | 3 => ("SignalNetwork$Flow", "heldFor", "LSignalNetwork$End;", false)
  | 4 => ("SignalNetwork$Flow", "timer", "I", false)
  | 5 => ("SignalNetwork$Flow", "began", "I", false)
  | _ => ("SignalNetwork$Flow", "kept", "LSignalNetwork$Queue;", true)
def ty2 : Nat → FieldType := fun k => match k with
  | 0 => .int
  | 1 => .object "SignalNetwork$End"
  | 2 => .int
  | 3 => .object "SignalNetwork$End"
  | 4 => .int
  | 5 => .int
  | _ => .object "SignalNetwork$Queue"
theorem n2_ok : ∀ a, a < 7 → ∀ b, b < 7 → a ≠ b → (T2 a).2.1 ≠ (T2 b).2.1 := by decide +kernel
theorem ty2_ok : ∀ k, k < 7 → parseFieldDescriptor (T2 k).2.2.1 = some (ty2 k) := by decide +kernel
theorem jn2 : ∀ w ∈ u_ws R2 T2 7, w ∈ tables_1 ∧ goodWord w = true := by decide +kernel
theorem in2 : ∀ w ∈ u_ws R2 T2 7, w ∈ sn_tbl := fun w h => sn_in (List.mem_append_right _ (jn2 w h).1) (jn2 w h).2
def T3 : u_T := fun k => match k with
  | 0 => ("SignalNetwork$Leg", "exchange", "I", true)
  | 1 => ("SignalNetwork$Leg", "neighbour", "I", true)
  | 2 => ("SignalNetwork$Leg", "number", "I", true)
  | 3 => ("SignalNetwork$Leg", "state", "I", false)
  | 4 => ("SignalNetwork$Leg", "joined", "LSignalNetwork$Leg;", false)
  | 5 => ("SignalNetwork$Leg", "timer", "I", false)
  | 6 => ("SignalNetwork$Leg", "resetTimer", "I", false)
  | 7 => ("SignalNetwork$Leg", "blockedHere", "Z", false)
  | 8 => ("SignalNetwork$Leg", "blockedThere", "Z", false)
  | 9 => ("SignalNetwork$Leg", "wanted", "I", false)
  | 10 => ("SignalNetwork$Leg", "count", "I", false)
  | _ => ("SignalNetwork$Leg", "length", "I", false)
def ty3 : Nat → FieldType := fun k => match k with
  | 0 => .int
  | 1 => .int
  | 2 => .int
  | 3 => .int
  | 4 => .object "SignalNetwork$Leg"
  | 5 => .int
  | 6 => .int
  | 7 => .boolean
  | 8 => .boolean
  | 9 => .int
  | 10 => .int
  | _ => .int
theorem n3_ok : ∀ a, a < 12 → ∀ b, b < 12 → a ≠ b → (T3 a).2.1 ≠ (T3 b).2.1 := by decide +kernel
theorem ty3_ok : ∀ k, k < 12 → parseFieldDescriptor (T3 k).2.2.1 = some (ty3 k) := by decide +kernel
theorem jn3 : ∀ w ∈ u_ws R3 T3 12, w ∈ tables_1 ∧ goodWord w = true := by decide +kernel
theorem in3 : ∀ w ∈ u_ws R3 T3 12, w ∈ sn_tbl := fun w h => sn_in (List.mem_append_right _ (jn3 w h).1) (jn3 w h).2
def T5 : u_T := fun k => match k with
  | 0 => ("SignalNetwork$Plan", "links", "I", false)
  | 1 => ("SignalNetwork$Plan", "lower", "[I", true)
  | 2 => ("SignalNetwork$Plan", "higher", "[I", true)
  | 3 => ("SignalNetwork$Plan", "active", "[Z", true)
  | 4 => ("SignalNetwork$Plan", "cut", "[Z", true)
  | 5 => ("SignalNetwork$Plan", "setSizes", "[I", true)
  | 6 => ("SignalNetwork$Plan", "firsts", "[I", true)
  | _ => ("SignalNetwork$Plan", "seconds", "[I", true)
def ty5 : Nat → FieldType := fun k => match k with
  | 0 => .int
  | 1 => .array .int
  | 2 => .array .int
  | 3 => .array .boolean
  | 4 => .array .boolean
  | 5 => .array .int
  | 6 => .array .int
  | _ => .array .int
theorem n5_ok : ∀ a, a < 8 → ∀ b, b < 8 → a ≠ b → (T5 a).2.1 ≠ (T5 b).2.1 := by decide +kernel
theorem ty5_ok : ∀ k, k < 8 → parseFieldDescriptor (T5 k).2.2.1 = some (ty5 k) := by decide +kernel
theorem jn5 : ∀ w ∈ u_ws R5 T5 8, w ∈ tables_1 ∧ goodWord w = true := by decide +kernel
theorem in5 : ∀ w ∈ u_ws R5 T5 8, w ∈ sn_tbl := fun w h => sn_in (List.mem_append_right _ (jn5 w h).1) (jn5 w h).2
def T6 : u_T := fun k => match k with
  | 0 => ("SignalNetwork$Queue", "ring", "[J", true)
  | 1 => ("SignalNetwork$Queue", "head", "I", false)
  | _ => ("SignalNetwork$Queue", "size", "I", false)
def ty6 : Nat → FieldType := fun k => match k with
  | 0 => .array .long
  | 1 => .int
  | _ => .int
theorem n6_ok : ∀ a, a < 3 → ∀ b, b < 3 → a ≠ b → (T6 a).2.1 ≠ (T6 b).2.1 := by decide +kernel
theorem ty6_ok : ∀ k, k < 3 → parseFieldDescriptor (T6 k).2.2.1 = some (ty6 k) := by decide +kernel
theorem jn6 : ∀ w ∈ u_ws R6 T6 3, w ∈ tables_1 ∧ goodWord w = true := by decide +kernel
theorem in6 : ∀ w ∈ u_ws R6 T6 3, w ∈ sn_tbl := fun w h => sn_in (List.mem_append_right _ (jn6 w h).1) (jn6 w h).2
def T7 : u_T := fun k => match k with
  | 0 => ("SignalNetwork$Switchboard", "plan", "LSignalNetwork$Plan;", true)
  | 1 => ("SignalNetwork$Switchboard", "clock", "LSignalNetwork$Clock;", true)
  | 2 => ("SignalNetwork$Switchboard", "subscribers", "[LSignalNetwork$Leg;", true)
  | 3 => ("SignalNetwork$Switchboard", "circuits", "[LSignalNetwork$Leg;", true)
  | _ => ("SignalNetwork$Switchboard", "posted", "LSignalNetwork$Queue;", true)
def ty7 : Nat → FieldType := fun k => match k with
  | 0 => .object "SignalNetwork$Plan"
  | 1 => .object "SignalNetwork$Clock"
  | 2 => .array (.object "SignalNetwork$Leg")
  | 3 => .array (.object "SignalNetwork$Leg")
  | _ => .object "SignalNetwork$Queue"
theorem n7_ok : ∀ a, a < 5 → ∀ b, b < 5 → a ≠ b → (T7 a).2.1 ≠ (T7 b).2.1 := by decide +kernel
theorem ty7_ok : ∀ k, k < 5 → parseFieldDescriptor (T7 k).2.2.1 = some (ty7 k) := by decide +kernel
theorem jn7 : ∀ w ∈ u_ws R7 T7 5, w ∈ tables_1 ∧ goodWord w = true := by decide +kernel
theorem in7 : ∀ w ∈ u_ws R7 T7 5, w ∈ sn_tbl := fun w h => sn_in (List.mem_append_right _ (jn7 w h).1) (jn7 w h).2
def T8 : u_T := fun k => match k with
  | 0 => ("SignalNetwork$Transfer", "plan", "LSignalNetwork$Plan;", true)
  | 1 => ("SignalNetwork$Transfer", "clock", "LSignalNetwork$Clock;", true)
  | 2 => ("SignalNetwork$Transfer", "ends", "[LSignalNetwork$End;", true)
  | 3 => ("SignalNetwork$Transfer", "sets", "[LSignalNetwork$End;", true)
  | 4 => ("SignalNetwork$Transfer", "flows", "[LSignalNetwork$Flow;", true)
  | 5 => ("SignalNetwork$Transfer", "prohibited", "[Z", true)
  | 6 => ("SignalNetwork$Transfer", "told", "[I", true)
  | 7 => ("SignalNetwork$Transfer", "lost", "I", false)
  | 8 => ("SignalNetwork$Transfer", "done", "I", false)
  | _ => ("SignalNetwork$Transfer", "latestKind", "I", false)
def ty8 : Nat → FieldType := fun k => match k with
  | 0 => .object "SignalNetwork$Plan"
  | 1 => .object "SignalNetwork$Clock"
  | 2 => .array (.object "SignalNetwork$End")
  | 3 => .array (.object "SignalNetwork$End")
  | 4 => .array (.object "SignalNetwork$Flow")
  | 5 => .array .boolean
  | 6 => .array .int
  | 7 => .int
  | 8 => .int
  | _ => .int
theorem n8_ok : ∀ a, a < 10 → ∀ b, b < 10 → a ≠ b → (T8 a).2.1 ≠ (T8 b).2.1 := by decide +kernel
theorem ty8_ok : ∀ k, k < 10 → parseFieldDescriptor (T8 k).2.2.1 = some (ty8 k) := by decide +kernel
theorem jn8 : ∀ w ∈ u_ws R8 T8 10, w ∈ tables_1 ∧ goodWord w = true := by decide +kernel
theorem in8 : ∀ w ∈ u_ws R8 T8 10, w ∈ sn_tbl := fun w h => sn_in (List.mem_append_right _ (jn8 w h).1) (jn8 w h).2
def T9 : u_T := fun k => match k with
  | 0 => ("SignalNetwork$Unit", "type", "I", false)
  | 1 => ("SignalNetwork$Unit", "number", "I", false)
  | 2 => ("SignalNetwork$Unit", "forward", "I", false)
  | 3 => ("SignalNetwork$Unit", "taken", "I", false)
  | 4 => ("SignalNetwork$Unit", "backward", "I", false)
  | 5 => ("SignalNetwork$Unit", "life", "I", false)
  | _ => ("SignalNetwork$Unit", "message", "J", false)
def ty9 : Nat → FieldType := fun k => match k with
  | 0 => .int
  | 1 => .int
  | 2 => .int
  | 3 => .int
  | 4 => .int
  | 5 => .int
  | _ => .long
theorem n9_ok : ∀ a, a < 7 → ∀ b, b < 7 → a ≠ b → (T9 a).2.1 ≠ (T9 b).2.1 := by decide +kernel
theorem ty9_ok : ∀ k, k < 7 → parseFieldDescriptor (T9 k).2.2.1 = some (ty9 k) := by decide +kernel
theorem jn9 : ∀ w ∈ u_ws R9 T9 7, w ∈ tables_1 ∧ goodWord w = true := by decide +kernel
theorem in9 : ∀ w ∈ u_ws R9 T9 7, w ∈ sn_tbl := fun w h => sn_in (List.mem_append_right _ (jn9 w h).1) (jn9 w h).2
def T10 : u_T := fun k => match k with
  | 0 => ("SignalNetwork$Window", "clock", "LSignalNetwork$Clock;", true)
  | 1 => ("SignalNetwork$Window", "sent", "I", false)
  | 2 => ("SignalNetwork$Window", "taken", "I", false)
  | 3 => ("SignalNetwork$Window", "forward", "I", false)
  | 4 => ("SignalNetwork$Window", "backward", "I", false)
  | 5 => ("SignalNetwork$Window", "repeatAt", "I", false)
  | 6 => ("SignalNetwork$Window", "timer", "I", false)
  | 7 => ("SignalNetwork$Window", "unacknowledged", "LSignalNetwork$Queue;", true)
  | _ => ("SignalNetwork$Window", "waiting", "LSignalNetwork$Queue;", true)
def ty10 : Nat → FieldType := fun k => match k with
  | 0 => .object "SignalNetwork$Clock"
  | 1 => .int
  | 2 => .int
  | 3 => .int
  | 4 => .int
  | 5 => .int
  | 6 => .int
  | 7 => .object "SignalNetwork$Queue"
  | _ => .object "SignalNetwork$Queue"
theorem n10_ok : ∀ a, a < 9 → ∀ b, b < 9 → a ≠ b → (T10 a).2.1 ≠ (T10 b).2.1 := by decide +kernel
theorem ty10_ok : ∀ k, k < 9 → parseFieldDescriptor (T10 k).2.2.1 = some (ty10 k) := by decide +kernel
theorem jn10 : ∀ w ∈ u_ws R10 T10 9, w ∈ tables_1 ∧ goodWord w = true := by decide +kernel
theorem in10 : ∀ w ∈ u_ws R10 T10 9, w ∈ sn_tbl := fun w h => sn_in (List.mem_append_right _ (jn10 w h).1) (jn10 w h).2
def T11 : u_T := fun k => match k with
  | 0 => ("SignalNetwork", "clock", "LSignalNetwork$Clock;", true)
  | 1 => ("SignalNetwork", "plan", "LSignalNetwork$Plan;", true)
  | 2 => ("SignalNetwork", "transfer", "LSignalNetwork$Transfer;", true)
  | 3 => ("SignalNetwork", "switchboard", "LSignalNetwork$Switchboard;", true)
  | _ => ("SignalNetwork", "octets", "[I", true)
def ty11 : Nat → FieldType := fun k => match k with
  | 0 => .object "SignalNetwork$Clock"
  | 1 => .object "SignalNetwork$Plan"
  | 2 => .object "SignalNetwork$Transfer"
  | 3 => .object "SignalNetwork$Switchboard"
  | _ => .array .int
theorem n11_ok : ∀ a, a < 5 → ∀ b, b < 5 → a ≠ b → (T11 a).2.1 ≠ (T11 b).2.1 := by decide +kernel
theorem ty11_ok : ∀ k, k < 5 → parseFieldDescriptor (T11 k).2.2.1 = some (ty11 k) := by decide +kernel
theorem jn11 : ∀ w ∈ u_ws R11 T11 5, w ∈ tables_1 ∧ goodWord w = true := by decide +kernel
theorem in11 : ∀ w ∈ u_ws R11 T11 5, w ∈ sn_tbl := fun w h => sn_in (List.mem_append_right _ (jn11 w h).1) (jn11 w h).2
def T12 : u_T := fun k => match k with
  | 0 => ("SignalNetworkModel", "low", "[I", true)
  | 1 => ("SignalNetworkModel", "high", "[I", true)
  | 2 => ("SignalNetworkModel", "active", "[Z", true)
  | 3 => ("SignalNetworkModel", "cuts", "[Z", true)
  | 4 => ("SignalNetworkModel", "links", "I", false)
  | 5 => ("SignalNetworkModel", "ticks", "I", false)
  | 6 => ("SignalNetworkModel", "lookings", "I", false)
  | 7 => ("SignalNetworkModel", "lost", "I", false)
  | 8 => ("SignalNetworkModel", "dones", "I", false)
  | 9 => ("SignalNetworkModel", "lastKind", "I", false)
  | 10 => ("SignalNetworkModel", "state", "[I", true)
  | 11 => ("SignalNetworkModel", "due", "[I", true)
  | 12 => ("SignalNetworkModel", "sent", "[I", true)
  | 13 => ("SignalNetworkModel", "taken", "[I", true)
  | 14 => ("SignalNetworkModel", "forward", "[I", true)
  | 15 => ("SignalNetworkModel", "backward", "[I", true)
  | 16 => ("SignalNetworkModel", "credit", "[I", true)
  | 17 => ("SignalNetworkModel", "round", "[I", true)
  | 18 => ("SignalNetworkModel", "errors", "[I", true)
  | 19 => ("SignalNetworkModel", "came", "[I", true)
  | 20 => ("SignalNetworkModel", "waitDue", "[I", true)
  | 21 => ("SignalNetworkModel", "repeat", "[I", true)
  | 22 => ("SignalNetworkModel", "harm", "[I", true)
  | 23 => ("SignalNetworkModel", "urgent", "[Z", true)
  | 24 => ("SignalNetworkModel", "brief", "[Z", true)
  | 25 => ("SignalNetworkModel", "open", "[J", true)
  | 26 => ("SignalNetworkModel", "number", "[I", true)
  | 27 => ("SignalNetworkModel", "opens", "[I", true)
  | 28 => ("SignalNetworkModel", "wait", "[J", true)
  | 29 => ("SignalNetworkModel", "waits", "[I", true)
  | 30 => ("SignalNetworkModel", "unit", "[I", true)
  | 31 => ("SignalNetworkModel", "unitNumber", "[I", true)
  | 32 => ("SignalNetworkModel", "unitForward", "[I", true)
  | 33 => ("SignalNetworkModel", "unitTaken", "[I", true)
  | 34 => ("SignalNetworkModel", "unitBackward", "[I", true)
  | 35 => ("SignalNetworkModel", "unitMessage", "[J", true)
  | 36 => ("SignalNetworkModel", "hasSent", "[Z", true)
  | 37 => ("SignalNetworkModel", "life", "[I", true)
  | 38 => ("SignalNetworkModel", "peer", "[I", true)
  | 39 => ("SignalNetworkModel", "unitLife", "[I", true)
  | 40 => ("SignalNetworkModel", "overDue", "[I", true)
  | 41 => ("SignalNetworkModel", "current", "[I", true)
  | 42 => ("SignalNetworkModel", "held", "[I", true)
  | 43 => ("SignalNetworkModel", "heldFor", "[I", true)
  | 44 => ("SignalNetworkModel", "backDue", "[I", true)
  | 45 => ("SignalNetworkModel", "begun", "[I", true)
  | 46 => ("SignalNetworkModel", "keep", "[J", true)
  | 47 => ("SignalNetworkModel", "keeps", "[I", true)
  | 48 => ("SignalNetworkModel", "barred", "[Z", true)
  | 49 => ("SignalNetworkModel", "told", "[I", true)
  | 50 => ("SignalNetworkModel", "first", "[I", true)
  | 51 => ("SignalNetworkModel", "second", "[I", true)
  | 52 => ("SignalNetworkModel", "line", "[I", true)
  | 53 => ("SignalNetworkModel", "lineDue", "[I", true)
  | 54 => ("SignalNetworkModel", "longDue", "[I", true)
  | 55 => ("SignalNetworkModel", "here", "[Z", true)
  | 56 => ("SignalNetworkModel", "there", "[Z", true)
  | 57 => ("SignalNetworkModel", "leg", "[I", true)
  | 58 => ("SignalNetworkModel", "wanted", "[I", true)
  | 59 => ("SignalNetworkModel", "counts", "[I", true)
  | 60 => ("SignalNetworkModel", "lengths", "[I", true)
  | 61 => ("SignalNetworkModel", "person", "[I", true)
  | 62 => ("SignalNetworkModel", "personLeg", "[I", true)
  | _ => ("SignalNetworkModel", "moved", "[J", true)
def ty12 : Nat → FieldType := fun k => match k with
  | 0 => .array .int
  | 1 => .array .int
  | 2 => .array .boolean
  | 3 => .array .boolean
  | 4 => .int
  | 5 => .int
  | 6 => .int
  | 7 => .int
  | 8 => .int
  | 9 => .int
  | 10 => .array .int
  | 11 => .array .int
  | 12 => .array .int
  | 13 => .array .int
  | 14 => .array .int
  | 15 => .array .int
  | 16 => .array .int
  | 17 => .array .int
  | 18 => .array .int
  | 19 => .array .int
  | 20 => .array .int
  | 21 => .array .int
  | 22 => .array .int
  | 23 => .array .boolean
  | 24 => .array .boolean
  | 25 => .array .long
  | 26 => .array .int
  | 27 => .array .int
  | 28 => .array .long
  | 29 => .array .int
  | 30 => .array .int
  | 31 => .array .int
  | 32 => .array .int
  | 33 => .array .int
  | 34 => .array .int
  | 35 => .array .long
  | 36 => .array .boolean
  | 37 => .array .int
  | 38 => .array .int
  | 39 => .array .int
  | 40 => .array .int
  | 41 => .array .int
  | 42 => .array .int
  | 43 => .array .int
  | 44 => .array .int
  | 45 => .array .int
  | 46 => .array .long
  | 47 => .array .int
  | 48 => .array .boolean
  | 49 => .array .int
  | 50 => .array .int
  | 51 => .array .int
  | 52 => .array .int
  | 53 => .array .int
  | 54 => .array .int
  | 55 => .array .boolean
  | 56 => .array .boolean
  | 57 => .array .int
  | 58 => .array .int
  | 59 => .array .int
  | 60 => .array .int
  | 61 => .array .int
  | 62 => .array .int
  | _ => .array .long
theorem n12_ok : ∀ a, a < 64 → ∀ b, b < 64 → a ≠ b → (T12 a).2.1 ≠ (T12 b).2.1 := by decide +kernel
theorem ty12_ok : ∀ k, k < 64 → parseFieldDescriptor (T12 k).2.2.1 = some (ty12 k) := by decide +kernel
theorem jn12 : ∀ w ∈ u_ws R12 T12 64, w ∈ tables_1 ∧ goodWord w = true := by decide +kernel
theorem in12 : ∀ w ∈ u_ws R12 T12 64, w ∈ sn_tbl := fun w h => sn_in (List.mem_append_right _ (jn12 w h).1) (jn12 w h).2
def sn_cls : List vw_C := [(R0, T0, 1), (R1, T1, 19), (R2, T2, 7), (R3, T3, 12), (R5, T5, 8), (R6, T6, 3), (R7, T7, 5), (R8, T8, 10), (R9, T9, 7), (R10, T10, 9), (R11, T11, 5), (R12, T12, 64)]
def sn_fts : List (List Nat) := [[0], [2, 0, 0, 0, 2, 2, 0, 0, 0, 0, 0, 0, 0, 0, 0, 0, 0, 0, 0], [0, 2, 0, 2, 0, 0, 2], [0, 0, 0, 0, 2, 0, 0, 0, 0, 0, 0, 0], [0, 2, 2, 2, 2, 2, 2, 2], [2, 0, 0], [2, 2, 2, 2, 2], [2, 2, 2, 2, 2, 2, 2, 0, 0, 0], [0, 0, 0, 0, 0, 0, 1], [2, 0, 0, 0, 0, 0, 0, 2, 2], [2, 2, 2, 2, 2], [2, 2, 2, 2, 0, 0, 0, 0, 0, 0, 2, 2, 2, 2, 2, 2, 2, 2, 2, 2, 2, 2, 2, 2, 2, 2, 2, 2, 2, 2, 2, 2, 2, 2, 2, 2, 2, 2, 2, 2, 2, 2, 2, 2, 2, 2, 2, 2, 2, 2, 2, 2, 2, 2, 2, 2, 2, 2, 2, 2, 2, 2, 2, 2]]
def sn_ft (c j : Nat) : Nat := (sn_fts.getD c []).getD j 0
def sn_y1 : MethodName := ⟨"SignalNetwork$Clock", "<init>", "()V"⟩
def sn_y2 : MethodName := ⟨"SignalNetwork$Unit", "<init>", "()V"⟩
def sn_e24 : String := "SignalNetwork$End"
def sn_e25 : String := "SignalNetwork$Flow"
def sn_e26 : String := "SignalNetwork$Leg"
