/-! the words that hold at every state of the claim's methods, and that a call hands on -/
def zGW : List Cond := lw_tbl.filter goodWord
def zPart (j : Nat) : List Cond := match j with
  | 0 => k2_sels lw_privs
  | 1 => tables_1_1
  | 2 => tables_1_2
  | 3 => tables_1_3
  | 4 => tables_1_4
  | 5 => tables_1_5
  | 6 => tables_1_6
  | _ => []
theorem zPart_in {j : Nat} {w : Cond} (h : w ∈ zPart j) : w ∈ lw_tbl := by
  unfold lw_tbl tables_1
  match j, h with
  | 0, h => exact List.mem_append_left _ h
  | 1, h => exact List.mem_append_right _ (List.mem_append_left _ h)
  | 2, h => exact List.mem_append_right _ (List.mem_append_right _ (List.mem_append_left _ h))
  | 3, h => exact List.mem_append_right _ (List.mem_append_right _ (List.mem_append_right _ (List.mem_append_left _ h)))
  | 4, h => exact List.mem_append_right _ (List.mem_append_right _ (List.mem_append_right _ (List.mem_append_right _ (List.mem_append_left _ h))))
  | 5, h => exact List.mem_append_right _ (List.mem_append_right _ (List.mem_append_right _ (List.mem_append_right _ (List.mem_append_right _ (List.mem_append_left _ h)))))
  | 6, h => exact List.mem_append_right _ (List.mem_append_right _ (List.mem_append_right _ (List.mem_append_right _ (List.mem_append_right _ (List.mem_append_right _ ( h))))))
  | j + 7, h => exact absurd h List.not_mem_nil
def zPl (p : Nat) : Option Cond := (zPart (p / 1000))[p % 1000]?
theorem zPl_in {p : Nat} {w : Cond} (h : zPl p = some w) : w ∈ lw_tbl := zPart_in (List.mem_of_getElem? h)
def zAt (p : Nat) (w : Cond) : Bool := decide (zPl p = some w) && goodWord w
theorem zAt_mem {p : Nat} {w : Cond} (h : zAt p w = true) : w ∈ zGW := by
  unfold zAt at h
  rw [Bool.and_eq_true] at h
  exact List.mem_filter.mpr ⟨zPl_in (of_decide_eq_true h.1), h.2⟩
theorem zGW_good : ∀ w ∈ zGW, (w.onTables && w.keeps) = true ∨ ∃ ty, w = .arrayClass ty := fun w h => good_of_word (List.mem_filter.mp h).2
def zWs (m : zD) : List Cond := Cond.code m.2.1 m.2.2.1 m.2.2.2.1 m.2.2.2.2 :: zGW
/-- words that a call does not hand on by itself: links to private members of nest mates -/
def zNW : List Cond := [Cond.methodLinkNest "StopPress" (9 : Nat) ({ cls := "StopPress$Text", name := "<init>", desc := "()V" } : MethodName) "StopPress", Cond.methodLinkNest "StopPress$Collation" (25 : Nat) ({ cls := "StopPress$Aligner", name := "<init>", desc := "()V" } : MethodName) "StopPress", Cond.methodLinkNest "StopPress$Collation" (40 : Nat) ({ cls := "StopPress$Text", name := "<init>", desc := "()V" } : MethodName) "StopPress", Cond.methodLinkNest "StopPress$Collation" (41 : Nat) ({ cls := "StopPress$Alignment", name := "<init>", desc := "()V" } : MethodName) "StopPress", Cond.methodLinkNest "StopPress" (25 : Nat) ({ cls := "StopPress$Stemma", name := "<init>", desc := "()V" } : MethodName) "StopPress", Cond.methodLinkNest "StopPress" (32 : Nat) ({ cls := "StopPress$Sightings", name := "<init>", desc := "()V" } : MethodName) "StopPress", Cond.methodLinkNest "StopPress" (39 : Nat) ({ cls := "StopPress$Chronology", name := "<init>", desc := "()V" } : MethodName) "StopPress", Cond.methodLinkNest "StopPress" (46 : Nat) ({ cls := "StopPress$Fault", name := "<init>", desc := "()V" } : MethodName) "StopPress", Cond.methodLinkNest "StopPress" (53 : Nat) ({ cls := "StopPress$Presses", name := "<init>", desc := "()V" } : MethodName) "StopPress", Cond.fieldLinkNest "StopPress$Aligner" (59 : Nat) "StopPress" "GROUP_OF_LETTER" "[I" "StopPress", Cond.fieldLinkNest "StopPress$Aligner" (49 : Nat) "StopPress" "COST_OF_KIND" "[I" "StopPress", Cond.fieldLinkNest "StopPress$Alignment" (25 : Nat) "StopPress" "STEP_OF_KIND" "[I" "StopPress", Cond.fieldLinkNest "StopPress$Alignment" (28 : Nat) "StopPress" "COST_OF_KIND" "[I" "StopPress"]
def zNP : List Nat := [1024, 1048, 1056, 1058, 1096, 1141, 1158, 1189, 1217, 2151, 2153, 2166, 2168]
theorem zNW_in : ∀ w ∈ zNW, w ∈ lw_tbl := by
  have h : zNW = zNP.filterMap zPl := by decide +kernel
  intro w hw
  rw [h] at hw
  obtain ⟨i, -, hi⟩ := List.mem_filterMap.mp hw
  exact zPl_in hi
theorem zmem (ws : List Cond) (ps : List Nat) (hp : ws = ps.filterMap zPl) (hg : ws.all goodWord = true) : ∀ w ∈ ws, w ∈ zGW := by
  intro w hw
  refine List.mem_filter.mpr ⟨?_, List.all_eq_true.mp hg w hw⟩
  rw [hp] at hw
  obtain ⟨i, -, hi⟩ := List.mem_filterMap.mp hw
  exact zPl_in hi
theorem ziX0 : ∀ w ∈ u_ws RX0 TX0 1, w ∈ zGW := zmem _ [1053] (by decide +kernel) (by decide +kernel)
theorem ziX1 : ∀ w ∈ u_ws RX1 TX1 4, w ∈ zGW := zmem _ [1066, 1068, 1070, 1072] (by decide +kernel) (by decide +kernel)
theorem ziX2 : ∀ w ∈ u_ws RX2 TX2 8, w ∈ zGW := zmem _ [1170, 1172, 1174, 1176, 1178, 1180, 1182, 1184] (by decide +kernel) (by decide +kernel)
theorem ziX3 : ∀ w ∈ u_ws RX3 TX3 6, w ∈ zGW := zmem _ [1081, 1083, 1085, 1087, 1089, 1091] (by decide +kernel) (by decide +kernel)
theorem ziX4 : ∀ w ∈ u_ws RX4 TX4 7, w ∈ zGW := zmem _ [1200, 1202, 1204, 1206, 1208, 1210, 1212] (by decide +kernel) (by decide +kernel)
theorem ziX5 : ∀ w ∈ u_ws RX5 TX5 3, w ∈ zGW := zmem _ [1224, 1226, 1228] (by decide +kernel) (by decide +kernel)
theorem ziX6 : ∀ w ∈ u_ws RX6 TX6 3, w ∈ zGW := zmem _ [1149, 1151, 1153] (by decide +kernel) (by decide +kernel)
theorem ziX7 : ∀ w ∈ u_ws RX7 TX7 12, w ∈ zGW := zmem _ [1114, 1116, 1118, 1120, 1122, 1124, 1126, 1128, 1130, 1132, 1134, 1136] (by decide +kernel) (by decide +kernel)
theorem ziX8 : ∀ w ∈ u_ws RX8 TX8 2, w ∈ zGW := zmem _ [1030, 1032] (by decide +kernel) (by decide +kernel)
theorem ziX9 : ∀ w ∈ u_ws RX9 TX9 9, w ∈ zGW := zmem _ [2000, 2002, 2004, 2006, 2008, 2010, 2012, 2014, 2016] (by decide +kernel) (by decide +kernel)
theorem ziX10 : ∀ w ∈ u_ws RX10 TX10 32, w ∈ zGW := zmem _ [4119, 4121, 4123, 4125, 4127, 4129, 4131, 4133, 4135, 4137, 4139, 4141, 4143, 4145, 4147, 4149, 4151, 4153, 4155, 4157, 4159, 4161, 4163, 4165, 4167, 4169, 4171, 4173, 4175, 4177, 4179, 4181] (by decide +kernel) (by decide +kernel)
abbrev zCls : List vw_C := [(RX0, TX0, 1), (RX1, TX1, 4), (RX2, TX2, 8), (RX3, TX3, 6), (RX4, TX4, 7), (RX5, TX5, 3), (RX6, TX6, 3), (RX7, TX7, 12), (RX8, TX8, 2), (RX9, TX9, 9), (RX10, TX10, 32)]
def zTT (c : Nat) : u_T := match c with
  | 0 => TX0
  | 1 => TX1
  | 2 => TX2
  | 3 => TX3
  | 4 => TX4
  | 5 => TX5
  | 6 => TX6
  | 7 => TX7
  | 8 => TX8
  | 9 => TX9
  | _ => TX10
def zTyF (c : Nat) : Nat → FieldType := match c with
  | 0 => tyX0
  | 1 => tyX1
  | 2 => tyX2
  | 3 => tyX3
  | 4 => tyX4
  | 5 => tyX5
  | 6 => tyX6
  | 7 => tyX7
  | 8 => tyX8
  | 9 => tyX9
  | _ => tyX10
theorem zCls_at {c : Nat} (h : c < 11) : zCls[c]? = some (zCn c, zTT c, zNF c) := by
  rcases (show c = 0 ∨ c = 1 ∨ c = 2 ∨ c = 3 ∨ c = 4 ∨ c = 5 ∨ c = 6 ∨ c = 7 ∨ c = 8 ∨ c = 9 ∨ c = 10 by omega) with rfl | rfl | rfl | rfl | rfl | rfl | rfl | rfl | rfl | rfl | rfl <;> rfl
theorem zi_c {c : Nat} (h : c < 11) : ∀ w ∈ u_ws (zCn c) (zTT c) (zNF c), w ∈ zGW := by
  rcases (show c = 0 ∨ c = 1 ∨ c = 2 ∨ c = 3 ∨ c = 4 ∨ c = 5 ∨ c = 6 ∨ c = 7 ∨ c = 8 ∨ c = 9 ∨ c = 10 by omega) with rfl | rfl | rfl | rfl | rfl | rfl | rfl | rfl | rfl | rfl | rfl
  · exact ziX0
  · exact ziX1
  · exact ziX2
  · exact ziX3
  · exact ziX4
  · exact ziX5
  · exact ziX6
  · exact ziX7
  · exact ziX8
  · exact ziX9
  · exact ziX10
theorem znm_c {c : Nat} (h : c < 11) : ∀ a, a < zNF c → ∀ b, b < zNF c → a ≠ b → (zTT c a).2.1 ≠ (zTT c b).2.1 := by
  rcases (show c = 0 ∨ c = 1 ∨ c = 2 ∨ c = 3 ∨ c = 4 ∨ c = 5 ∨ c = 6 ∨ c = 7 ∨ c = 8 ∨ c = 9 ∨ c = 10 by omega) with rfl | rfl | rfl | rfl | rfl | rfl | rfl | rfl | rfl | rfl | rfl
  · exact nmX0
  · exact nmX1
  · exact nmX2
  · exact nmX3
  · exact nmX4
  · exact nmX5
  · exact nmX6
  · exact nmX7
  · exact nmX8
  · exact nmX9
  · exact nmX10
theorem zty_c {c : Nat} (h : c < 11) : ∀ k, k < zNF c → parseFieldDescriptor (zTT c k).2.2.1 = some (zTyF c k) := by
  rcases (show c = 0 ∨ c = 1 ∨ c = 2 ∨ c = 3 ∨ c = 4 ∨ c = 5 ∨ c = 6 ∨ c = 7 ∨ c = 8 ∨ c = 9 ∨ c = 10 by omega) with rfl | rfl | rfl | rfl | rfl | rfl | rfl | rfl | rfl | rfl | rfl
  · exact tyX0_ok
  · exact tyX1_ok
  · exact tyX2_ok
  · exact tyX3_ok
  · exact tyX4_ok
  · exact tyX5_ok
  · exact tyX6_ok
  · exact tyX7_ok
  · exact tyX8_ok
  · exact tyX9_ok
  · exact tyX10_ok
/-- the kind of a field by its type: 0 int, 1 boolean, 2 long, 3 a reference -/
def zTk (t : FieldType) : Nat := match t with
  | .int => 0
  | .boolean => 1
  | .long => 2
  | _ => 3
def zIsR (t : FieldType) : Bool := match t with
  | .object _ => true
  | .array _ => true
  | _ => false
theorem zTk_c : ∀ c, c < 11 → ∀ k, k < zNF c → zTk (zTyF c k) = zTy c k ∧ (zTy c k = 3 → zIsR (zTyF c k) = true) := by decide +kernel
/-- a row of the table of fields: its link, its class, its slot -/
theorem zmr0 (p : Nat) {w : Cond} (h : zPl p = some w) (hg : goodWord w = true) : w ∈ zGW := List.mem_filter.mpr ⟨zPl_in h, hg⟩
def zFok (c : Nat) (e : Nat × Nat × Nat × Nat × Bool) : Prop := Cond.fieldLink (zCn c) e.1 (zCn e.2.1) (zTT e.2.1 e.2.2.1).2.1 (zTT e.2.1 e.2.2.1).2.2.1 ∈ zGW ∧ e.2.1 < 11 ∧ e.2.2.1 < zNF e.2.1 ∧ zTy e.2.1 e.2.2.1 = e.2.2.2.1 ∧ (zTT e.2.1 e.2.2.1).2.2.2 = e.2.2.2.2 ∧ (zTT e.2.1 e.2.2.1).1 = zCn e.2.1
theorem zf_0_11 : zFok 0 (11, 0, 0, 3, true) := ⟨zmr0 1052 rfl rfl, by decide, by decide, rfl, rfl, rfl⟩
theorem zFo0 : ∀ e ∈ zFT0, zFok 0 e := List.forall_mem_cons.mpr ⟨zf_0_11, fun _ h => absurd h List.not_mem_nil⟩
theorem zf_1_9 : zFok 1 (9, 1, 0, 3, true) := ⟨zmr0 1062 rfl rfl, by decide, by decide, rfl, rfl, rfl⟩
theorem zf_1_15 : zFok 1 (15, 1, 1, 3, true) := ⟨zmr0 1063 rfl rfl, by decide, by decide, rfl, rfl, rfl⟩
theorem zf_1_18 : zFok 1 (18, 1, 2, 1, false) := ⟨zmr0 1064 rfl rfl, by decide, by decide, rfl, rfl, rfl⟩
theorem zf_1_22 : zFok 1 (22, 1, 3, 1, false) := ⟨zmr0 1065 rfl rfl, by decide, by decide, rfl, rfl, rfl⟩
theorem zFo1 : ∀ e ∈ zFT1, zFok 1 e := List.forall_mem_cons.mpr ⟨zf_1_9, List.forall_mem_cons.mpr ⟨zf_1_15, List.forall_mem_cons.mpr ⟨zf_1_18, List.forall_mem_cons.mpr ⟨zf_1_22, fun _ h => absurd h List.not_mem_nil⟩⟩⟩⟩
theorem zf_2_9 : zFok 2 (9, 2, 0, 3, true) := ⟨zmr0 1162 rfl rfl, by decide, by decide, rfl, rfl, rfl⟩
theorem zf_2_15 : zFok 2 (15, 2, 1, 3, true) := ⟨zmr0 1163 rfl rfl, by decide, by decide, rfl, rfl, rfl⟩
theorem zf_2_18 : zFok 2 (18, 2, 2, 3, true) := ⟨zmr0 1164 rfl rfl, by decide, by decide, rfl, rfl, rfl⟩
theorem zf_2_21 : zFok 2 (21, 2, 3, 3, true) := ⟨zmr0 1165 rfl rfl, by decide, by decide, rfl, rfl, rfl⟩
theorem zf_2_24 : zFok 2 (24, 2, 4, 3, true) := ⟨zmr0 1166 rfl rfl, by decide, by decide, rfl, rfl, rfl⟩
theorem zf_2_27 : zFok 2 (27, 2, 5, 0, false) := ⟨zmr0 1167 rfl rfl, by decide, by decide, rfl, rfl, rfl⟩
theorem zf_2_31 : zFok 2 (31, 2, 6, 0, false) := ⟨zmr0 1168 rfl rfl, by decide, by decide, rfl, rfl, rfl⟩
theorem zf_2_34 : zFok 2 (34, 2, 7, 0, false) := ⟨zmr0 1169 rfl rfl, by decide, by decide, rfl, rfl, rfl⟩
theorem zFo2 : ∀ e ∈ zFT2, zFok 2 e := List.forall_mem_cons.mpr ⟨zf_2_9, List.forall_mem_cons.mpr ⟨zf_2_15, List.forall_mem_cons.mpr ⟨zf_2_18, List.forall_mem_cons.mpr ⟨zf_2_21, List.forall_mem_cons.mpr ⟨zf_2_24, List.forall_mem_cons.mpr ⟨zf_2_27, List.forall_mem_cons.mpr ⟨zf_2_31, List.forall_mem_cons.mpr ⟨zf_2_34, fun _ h => absurd h List.not_mem_nil⟩⟩⟩⟩⟩⟩⟩⟩
theorem zf_3_11 : zFok 3 (11, 3, 0, 3, true) := ⟨zmr0 1075 rfl rfl, by decide, by decide, rfl, rfl, rfl⟩
theorem zf_3_19 : zFok 3 (19, 3, 1, 3, true) := ⟨zmr0 1076 rfl rfl, by decide, by decide, rfl, rfl, rfl⟩
theorem zf_3_26 : zFok 3 (26, 3, 2, 3, true) := ⟨zmr0 1077 rfl rfl, by decide, by decide, rfl, rfl, rfl⟩
theorem zf_3_30 : zFok 3 (30, 3, 3, 0, false) := ⟨zmr0 1078 rfl rfl, by decide, by decide, rfl, rfl, rfl⟩
theorem zf_3_34 : zFok 3 (34, 3, 4, 0, false) := ⟨zmr0 1079 rfl rfl, by decide, by decide, rfl, rfl, rfl⟩
theorem zf_3_37 : zFok 3 (37, 3, 5, 0, false) := ⟨zmr0 1080 rfl rfl, by decide, by decide, rfl, rfl, rfl⟩
theorem zFo3 : ∀ e ∈ zFT3, zFok 3 e := List.forall_mem_cons.mpr ⟨zf_3_11, List.forall_mem_cons.mpr ⟨zf_3_19, List.forall_mem_cons.mpr ⟨zf_3_26, List.forall_mem_cons.mpr ⟨zf_3_30, List.forall_mem_cons.mpr ⟨zf_3_34, List.forall_mem_cons.mpr ⟨zf_3_37, fun _ h => absurd h List.not_mem_nil⟩⟩⟩⟩⟩⟩
theorem zf_4_11 : zFok 4 (11, 4, 0, 3, true) := ⟨zmr0 1193 rfl rfl, by decide, by decide, rfl, rfl, rfl⟩
theorem zf_4_15 : zFok 4 (15, 4, 1, 3, true) := ⟨zmr0 1194 rfl rfl, by decide, by decide, rfl, rfl, rfl⟩
theorem zf_4_18 : zFok 4 (18, 4, 2, 3, true) := ⟨zmr0 1195 rfl rfl, by decide, by decide, rfl, rfl, rfl⟩
theorem zf_4_21 : zFok 4 (21, 4, 3, 3, true) := ⟨zmr0 1196 rfl rfl, by decide, by decide, rfl, rfl, rfl⟩
theorem zf_4_24 : zFok 4 (24, 4, 4, 0, false) := ⟨zmr0 1197 rfl rfl, by decide, by decide, rfl, rfl, rfl⟩
theorem zf_4_28 : zFok 4 (28, 4, 5, 0, false) := ⟨zmr0 1198 rfl rfl, by decide, by decide, rfl, rfl, rfl⟩
theorem zf_4_31 : zFok 4 (31, 4, 6, 0, false) := ⟨zmr0 1199 rfl rfl, by decide, by decide, rfl, rfl, rfl⟩
theorem zFo4 : ∀ e ∈ zFT4, zFok 4 e := List.forall_mem_cons.mpr ⟨zf_4_11, List.forall_mem_cons.mpr ⟨zf_4_15, List.forall_mem_cons.mpr ⟨zf_4_18, List.forall_mem_cons.mpr ⟨zf_4_21, List.forall_mem_cons.mpr ⟨zf_4_24, List.forall_mem_cons.mpr ⟨zf_4_28, List.forall_mem_cons.mpr ⟨zf_4_31, fun _ h => absurd h List.not_mem_nil⟩⟩⟩⟩⟩⟩⟩
theorem zf_5_9 : zFok 5 (9, 5, 0, 3, true) := ⟨zmr0 1221 rfl rfl, by decide, by decide, rfl, rfl, rfl⟩
theorem zf_5_15 : zFok 5 (15, 5, 1, 0, false) := ⟨zmr0 1222 rfl rfl, by decide, by decide, rfl, rfl, rfl⟩
theorem zf_5_19 : zFok 5 (19, 5, 2, 0, false) := ⟨zmr0 1223 rfl rfl, by decide, by decide, rfl, rfl, rfl⟩
theorem zFo5 : ∀ e ∈ zFT5, zFok 5 e := List.forall_mem_cons.mpr ⟨zf_5_9, List.forall_mem_cons.mpr ⟨zf_5_15, List.forall_mem_cons.mpr ⟨zf_5_19, fun _ h => absurd h List.not_mem_nil⟩⟩⟩
theorem zf_6_11 : zFok 6 (11, 6, 0, 3, true) := ⟨zmr0 1146 rfl rfl, by decide, by decide, rfl, rfl, rfl⟩
theorem zf_6_16 : zFok 6 (16, 6, 1, 0, false) := ⟨zmr0 1147 rfl rfl, by decide, by decide, rfl, rfl, rfl⟩
theorem zf_6_20 : zFok 6 (20, 6, 2, 0, false) := ⟨zmr0 1148 rfl rfl, by decide, by decide, rfl, rfl, rfl⟩
theorem zFo6 : ∀ e ∈ zFT6, zFok 6 e := List.forall_mem_cons.mpr ⟨zf_6_11, List.forall_mem_cons.mpr ⟨zf_6_16, List.forall_mem_cons.mpr ⟨zf_6_20, fun _ h => absurd h List.not_mem_nil⟩⟩⟩
theorem zf_7_11 : zFok 7 (11, 7, 0, 3, true) := ⟨zmr0 1102 rfl rfl, by decide, by decide, rfl, rfl, rfl⟩
theorem zf_7_16 : zFok 7 (16, 7, 1, 3, true) := ⟨zmr0 1103 rfl rfl, by decide, by decide, rfl, rfl, rfl⟩
theorem zf_7_20 : zFok 7 (20, 7, 2, 3, true) := ⟨zmr0 1104 rfl rfl, by decide, by decide, rfl, rfl, rfl⟩
theorem zf_7_23 : zFok 7 (23, 7, 3, 3, true) := ⟨zmr0 1105 rfl rfl, by decide, by decide, rfl, rfl, rfl⟩
theorem zf_7_26 : zFok 7 (26, 7, 4, 3, true) := ⟨zmr0 1106 rfl rfl, by decide, by decide, rfl, rfl, rfl⟩
theorem zf_7_29 : zFok 7 (29, 7, 5, 3, true) := ⟨zmr0 1107 rfl rfl, by decide, by decide, rfl, rfl, rfl⟩
theorem zf_7_32 : zFok 7 (32, 7, 6, 3, true) := ⟨zmr0 1108 rfl rfl, by decide, by decide, rfl, rfl, rfl⟩
theorem zf_7_35 : zFok 7 (35, 7, 7, 3, true) := ⟨zmr0 1109 rfl rfl, by decide, by decide, rfl, rfl, rfl⟩
theorem zf_7_38 : zFok 7 (38, 7, 8, 0, false) := ⟨zmr0 1110 rfl rfl, by decide, by decide, rfl, rfl, rfl⟩
theorem zf_7_42 : zFok 7 (42, 7, 9, 0, false) := ⟨zmr0 1111 rfl rfl, by decide, by decide, rfl, rfl, rfl⟩
theorem zf_7_45 : zFok 7 (45, 7, 10, 0, false) := ⟨zmr0 1112 rfl rfl, by decide, by decide, rfl, rfl, rfl⟩
theorem zf_7_48 : zFok 7 (48, 7, 11, 0, false) := ⟨zmr0 1113 rfl rfl, by decide, by decide, rfl, rfl, rfl⟩
theorem zFo7 : ∀ e ∈ zFT7, zFok 7 e := List.forall_mem_cons.mpr ⟨zf_7_11, List.forall_mem_cons.mpr ⟨zf_7_16, List.forall_mem_cons.mpr ⟨zf_7_20, List.forall_mem_cons.mpr ⟨zf_7_23, List.forall_mem_cons.mpr ⟨zf_7_26, List.forall_mem_cons.mpr ⟨zf_7_29, List.forall_mem_cons.mpr ⟨zf_7_32, List.forall_mem_cons.mpr ⟨zf_7_35, List.forall_mem_cons.mpr ⟨zf_7_38, List.forall_mem_cons.mpr ⟨zf_7_42, List.forall_mem_cons.mpr ⟨zf_7_45, List.forall_mem_cons.mpr ⟨zf_7_48, fun _ h => absurd h List.not_mem_nil⟩⟩⟩⟩⟩⟩⟩⟩⟩⟩⟩⟩
theorem zf_8_9 : zFok 8 (9, 8, 0, 3, true) := ⟨zmr0 1028 rfl rfl, by decide, by decide, rfl, rfl, rfl⟩
theorem zf_8_15 : zFok 8 (15, 8, 1, 0, false) := ⟨zmr0 1029 rfl rfl, by decide, by decide, rfl, rfl, rfl⟩
theorem zFo8 : ∀ e ∈ zFT8, zFok 8 e := List.forall_mem_cons.mpr ⟨zf_8_9, List.forall_mem_cons.mpr ⟨zf_8_15, fun _ h => absurd h List.not_mem_nil⟩⟩
theorem zf_9_10 : zFok 9 (10, 9, 0, 3, true) := ⟨zmr0 1231 rfl rfl, by decide, by decide, rfl, rfl, rfl⟩
theorem zf_9_19 : zFok 9 (19, 9, 1, 3, true) := ⟨zmr0 1232 rfl rfl, by decide, by decide, rfl, rfl, rfl⟩
theorem zf_9_26 : zFok 9 (26, 9, 2, 3, true) := ⟨zmr0 1233 rfl rfl, by decide, by decide, rfl, rfl, rfl⟩
theorem zf_9_33 : zFok 9 (33, 9, 3, 3, true) := ⟨zmr0 1234 rfl rfl, by decide, by decide, rfl, rfl, rfl⟩
theorem zf_9_40 : zFok 9 (40, 9, 4, 3, true) := ⟨zmr0 1235 rfl rfl, by decide, by decide, rfl, rfl, rfl⟩
theorem zf_9_47 : zFok 9 (47, 9, 5, 3, true) := ⟨zmr0 1236 rfl rfl, by decide, by decide, rfl, rfl, rfl⟩
theorem zf_9_54 : zFok 9 (54, 9, 6, 3, true) := ⟨zmr0 1237 rfl rfl, by decide, by decide, rfl, rfl, rfl⟩
theorem zf_9_58 : zFok 9 (58, 9, 7, 0, false) := ⟨zmr0 1238 rfl rfl, by decide, by decide, rfl, rfl, rfl⟩
theorem zf_9_62 : zFok 9 (62, 9, 8, 0, false) := ⟨zmr0 1239 rfl rfl, by decide, by decide, rfl, rfl, rfl⟩
theorem zFo9 : ∀ e ∈ zFT9, zFok 9 e := List.forall_mem_cons.mpr ⟨zf_9_10, List.forall_mem_cons.mpr ⟨zf_9_19, List.forall_mem_cons.mpr ⟨zf_9_26, List.forall_mem_cons.mpr ⟨zf_9_33, List.forall_mem_cons.mpr ⟨zf_9_40, List.forall_mem_cons.mpr ⟨zf_9_47, List.forall_mem_cons.mpr ⟨zf_9_54, List.forall_mem_cons.mpr ⟨zf_9_58, List.forall_mem_cons.mpr ⟨zf_9_62, fun _ h => absurd h List.not_mem_nil⟩⟩⟩⟩⟩⟩⟩⟩⟩
theorem zf_10_7 : zFok 10 (7, 10, 1, 3, true) := ⟨zmr0 4088 rfl rfl, by decide, by decide, rfl, rfl, rfl⟩
theorem zf_10_13 : zFok 10 (13, 10, 3, 3, true) := ⟨zmr0 4090 rfl rfl, by decide, by decide, rfl, rfl, rfl⟩
theorem zf_10_16 : zFok 10 (16, 10, 4, 3, true) := ⟨zmr0 4091 rfl rfl, by decide, by decide, rfl, rfl, rfl⟩
theorem zf_10_19 : zFok 10 (19, 10, 5, 0, false) := ⟨zmr0 4092 rfl rfl, by decide, by decide, rfl, rfl, rfl⟩
theorem zf_10_23 : zFok 10 (23, 10, 8, 3, true) := ⟨zmr0 4095 rfl rfl, by decide, by decide, rfl, rfl, rfl⟩
theorem zf_10_26 : zFok 10 (26, 10, 9, 3, true) := ⟨zmr0 4096 rfl rfl, by decide, by decide, rfl, rfl, rfl⟩
theorem zf_10_29 : zFok 10 (29, 10, 10, 3, true) := ⟨zmr0 4097 rfl rfl, by decide, by decide, rfl, rfl, rfl⟩
theorem zf_10_32 : zFok 10 (32, 10, 11, 3, true) := ⟨zmr0 4098 rfl rfl, by decide, by decide, rfl, rfl, rfl⟩
theorem zf_10_35 : zFok 10 (35, 10, 13, 3, true) := ⟨zmr0 4100 rfl rfl, by decide, by decide, rfl, rfl, rfl⟩
theorem zf_10_38 : zFok 10 (38, 10, 15, 3, true) := ⟨zmr0 4102 rfl rfl, by decide, by decide, rfl, rfl, rfl⟩
theorem zf_10_41 : zFok 10 (41, 10, 18, 3, true) := ⟨zmr0 4105 rfl rfl, by decide, by decide, rfl, rfl, rfl⟩
theorem zf_10_44 : zFok 10 (44, 10, 19, 3, true) := ⟨zmr0 4106 rfl rfl, by decide, by decide, rfl, rfl, rfl⟩
theorem zf_10_48 : zFok 10 (48, 10, 21, 3, true) := ⟨zmr0 4108 rfl rfl, by decide, by decide, rfl, rfl, rfl⟩
theorem zf_10_51 : zFok 10 (51, 10, 22, 3, true) := ⟨zmr0 4109 rfl rfl, by decide, by decide, rfl, rfl, rfl⟩
theorem zf_10_54 : zFok 10 (54, 10, 23, 3, true) := ⟨zmr0 4110 rfl rfl, by decide, by decide, rfl, rfl, rfl⟩
theorem zf_10_57 : zFok 10 (57, 10, 24, 3, true) := ⟨zmr0 4111 rfl rfl, by decide, by decide, rfl, rfl, rfl⟩
theorem zf_10_60 : zFok 10 (60, 10, 26, 3, true) := ⟨zmr0 4113 rfl rfl, by decide, by decide, rfl, rfl, rfl⟩
theorem zf_10_63 : zFok 10 (63, 10, 27, 3, true) := ⟨zmr0 4114 rfl rfl, by decide, by decide, rfl, rfl, rfl⟩
theorem zf_10_66 : zFok 10 (66, 10, 29, 3, true) := ⟨zmr0 4116 rfl rfl, by decide, by decide, rfl, rfl, rfl⟩
theorem zf_10_69 : zFok 10 (69, 10, 30, 3, true) := ⟨zmr0 4117 rfl rfl, by decide, by decide, rfl, rfl, rfl⟩
theorem zf_10_76 : zFok 10 (76, 10, 0, 0, false) := ⟨zmr0 4087 rfl rfl, by decide, by decide, rfl, rfl, rfl⟩
theorem zf_10_79 : zFok 10 (79, 10, 6, 0, false) := ⟨zmr0 4093 rfl rfl, by decide, by decide, rfl, rfl, rfl⟩
theorem zf_10_86 : zFok 10 (86, 10, 2, 0, false) := ⟨zmr0 4089 rfl rfl, by decide, by decide, rfl, rfl, rfl⟩
theorem zf_10_101 : zFok 10 (101, 10, 16, 0, false) := ⟨zmr0 4103 rfl rfl, by decide, by decide, rfl, rfl, rfl⟩
theorem zf_10_104 : zFok 10 (104, 10, 17, 0, false) := ⟨zmr0 4104 rfl rfl, by decide, by decide, rfl, rfl, rfl⟩
theorem zf_10_122 : zFok 10 (122, 10, 14, 0, false) := ⟨zmr0 4101 rfl rfl, by decide, by decide, rfl, rfl, rfl⟩
theorem zf_10_148 : zFok 10 (148, 10, 20, 0, false) := ⟨zmr0 4107 rfl rfl, by decide, by decide, rfl, rfl, rfl⟩
theorem zf_10_215 : zFok 10 (215, 10, 7, 0, false) := ⟨zmr0 4094 rfl rfl, by decide, by decide, rfl, rfl, rfl⟩
theorem zf_10_224 : zFok 10 (224, 10, 12, 0, false) := ⟨zmr0 4099 rfl rfl, by decide, by decide, rfl, rfl, rfl⟩
theorem zf_10_230 : zFok 10 (230, 10, 25, 0, false) := ⟨zmr0 4112 rfl rfl, by decide, by decide, rfl, rfl, rfl⟩
theorem zf_10_272 : zFok 10 (272, 10, 28, 0, false) := ⟨zmr0 4115 rfl rfl, by decide, by decide, rfl, rfl, rfl⟩
theorem zf_10_310 : zFok 10 (310, 10, 31, 2, false) := ⟨zmr0 4118 rfl rfl, by decide, by decide, rfl, rfl, rfl⟩
theorem zFo10 : ∀ e ∈ zFT10, zFok 10 e := List.forall_mem_cons.mpr ⟨zf_10_7, List.forall_mem_cons.mpr ⟨zf_10_13, List.forall_mem_cons.mpr ⟨zf_10_16, List.forall_mem_cons.mpr ⟨zf_10_19, List.forall_mem_cons.mpr ⟨zf_10_23, List.forall_mem_cons.mpr ⟨zf_10_26, List.forall_mem_cons.mpr ⟨zf_10_29, List.forall_mem_cons.mpr ⟨zf_10_32, List.forall_mem_cons.mpr ⟨zf_10_35, List.forall_mem_cons.mpr ⟨zf_10_38, List.forall_mem_cons.mpr ⟨zf_10_41, List.forall_mem_cons.mpr ⟨zf_10_44, List.forall_mem_cons.mpr ⟨zf_10_48, List.forall_mem_cons.mpr ⟨zf_10_51, List.forall_mem_cons.mpr ⟨zf_10_54, List.forall_mem_cons.mpr ⟨zf_10_57, List.forall_mem_cons.mpr ⟨zf_10_60, List.forall_mem_cons.mpr ⟨zf_10_63, List.forall_mem_cons.mpr ⟨zf_10_66, List.forall_mem_cons.mpr ⟨zf_10_69, List.forall_mem_cons.mpr ⟨zf_10_76, List.forall_mem_cons.mpr ⟨zf_10_79, List.forall_mem_cons.mpr ⟨zf_10_86, List.forall_mem_cons.mpr ⟨zf_10_101, List.forall_mem_cons.mpr ⟨zf_10_104, List.forall_mem_cons.mpr ⟨zf_10_122, List.forall_mem_cons.mpr ⟨zf_10_148, List.forall_mem_cons.mpr ⟨zf_10_215, List.forall_mem_cons.mpr ⟨zf_10_224, List.forall_mem_cons.mpr ⟨zf_10_230, List.forall_mem_cons.mpr ⟨zf_10_272, List.forall_mem_cons.mpr ⟨zf_10_310, fun _ h => absurd h List.not_mem_nil⟩⟩⟩⟩⟩⟩⟩⟩⟩⟩⟩⟩⟩⟩⟩⟩⟩⟩⟩⟩⟩⟩⟩⟩⟩⟩⟩⟩⟩⟩⟩⟩
theorem zFo11 : ∀ e ∈ zFT11, zFok 11 e := fun _ h => absurd h List.not_mem_nil
theorem zFo12 : ∀ e ∈ zFT12, zFok 12 e := fun _ h => absurd h List.not_mem_nil
theorem zFo13 : ∀ e ∈ zFT13, zFok 13 e := fun _ h => absurd h List.not_mem_nil
theorem zFld_ok {c i C k t : Nat} {fin : Bool} (h : zFld c i = some (C, k, t, fin)) : zFok c (i, C, k, t, fin) := by
  unfold zFld at h
  obtain ⟨e, he, h2⟩ := Option.map_eq_some_iff.mp h
  have hm := List.mem_of_find?_eq_some he
  have hi : e.1 = i := by have := List.find?_some he; simpa using this
  have hee : e = (i, C, k, t, fin) := by rw [← hi, ← h2]
  rw [hee] at hm
  match c, hm with
  | 0, hm => exact zFo0 _ hm
  | 1, hm => exact zFo1 _ hm
  | 2, hm => exact zFo2 _ hm
  | 3, hm => exact zFo3 _ hm
  | 4, hm => exact zFo4 _ hm
  | 5, hm => exact zFo5 _ hm
  | 6, hm => exact zFo6 _ hm
  | 7, hm => exact zFo7 _ hm
  | 8, hm => exact zFo8 _ hm
  | 9, hm => exact zFo9 _ hm
  | 10, hm => exact zFo10 _ hm
  | 11, hm => exact zFo11 _ hm
  | 12, hm => exact zFo12 _ hm
  | 13, hm => exact zFo13 _ hm
  | c + 14, hm => exact absurd hm List.not_mem_nil
theorem zmr (p : Nat) {w : Cond} (h : zPl p = some w) (hg : goodWord w = true) : w ∈ zGW := List.mem_filter.mpr ⟨zPl_in h, hg⟩
def zMok (m : zD) (np : Nat) : Prop := Cond.code m.2.1 m.2.2.1 m.2.2.2.1 m.2.2.2.2 ∈ zGW ∧ Cond.initialized m.2.1.cls ∈ zGW ∧ m.2.1.cls = zCn m.1 ∧ (parseMethodDescriptor m.2.1.desc).map (fun d => d.parameters.length) = some np ∧ (m.2.1.cls ≠ "java/lang/invoke/MethodHandle" ∧ m.2.1.cls ≠ "java/lang/invoke/VarHandle") ∧ plainName m.2.1.cls = true ∧ m.2.2.2.1 ≤ 23
/-- a row of the table of calls -/
def zCok (c : Nat) (e : Nat × Nat × Nat × zD) : Prop := zMok e.2.2.2 e.2.2.1 ∧
  (e.2.1 = 0 → Cond.methodLink (zCn c) e.1 e.2.2.2.2.1 ∈ zGW ∧ Cond.instanceMethod e.2.2.2.2.1 ∈ zGW ∧ Cond.selects e.2.2.2.2.1.cls e.2.2.2.2.1 e.2.2.2.2.1 ∈ zGW ∧ e.2.2.2.1 < 11) ∧
  (e.2.1 = 1 → Cond.methodLink (zCn c) e.1 e.2.2.2.2.1 ∈ zGW ∧ Cond.static e.2.2.2.2.1 ∈ zGW) ∧
  (e.2.1 = 2 → Cond.methodLink (zCn c) e.1 e.2.2.2.2.1 ∈ zGW ∧ Cond.instanceMethod e.2.2.2.2.1 ∈ zGW ∧ e.2.2.2.2.1.name = "<init>" ∧ e.2.2.2.2.2.2.2 = none) ∧
  (e.2.1 = 3 → Cond.methodLinkNest (zCn c) e.1 e.2.2.2.2.1 "StopPress" ∈ zNW ∧ Cond.instanceMethod e.2.2.2.2.1 ∈ zGW ∧ e.2.2.2.2.1.name = "<init>" ∧ e.2.2.2.2.2.2.2 = none)
theorem zo_zm_Text_size : zMok zm_Text_size 0 := ⟨zmr 2026 rfl rfl, zmr 1002 rfl rfl, rfl, by decide +kernel, by decide +kernel, by decide +kernel, by decide⟩
theorem zo_zm_Alignment_begin : zMok zm_Alignment_begin 1 := ⟨zmr 2141 rfl rfl, zmr 1005 rfl rfl, rfl, by decide +kernel, by decide +kernel, by decide +kernel, by decide⟩
theorem zo_zm_Aligner_fill : zMok zm_Aligner_fill 3 := ⟨zmr 2145 rfl rfl, zmr 1004 rfl rfl, rfl, by decide +kernel, by decide +kernel, by decide +kernel, by decide⟩
theorem zo_zm_Aligner_trace : zMok zm_Aligner_trace 3 := ⟨zmr 2161 rfl rfl, zmr 1004 rfl rfl, rfl, by decide +kernel, by decide +kernel, by decide +kernel, by decide⟩
theorem zo_zm_Text_at : zMok zm_Text_at 1 := ⟨zmr 2066 rfl rfl, zmr 1002 rfl rfl, rfl, by decide +kernel, by decide +kernel, by decide +kernel, by decide⟩
theorem zo_zm_Aligner_kindOfPair : zMok zm_Aligner_kindOfPair 2 := ⟨zmr 2150 rfl rfl, zmr 1004 rfl rfl, rfl, by decide +kernel, by decide +kernel, by decide +kernel, by decide⟩
theorem zo_zm_Alignment_add : zMok zm_Alignment_add 1 := ⟨zmr 2165 rfl rfl, zmr 1005 rfl rfl, rfl, by decide +kernel, by decide +kernel, by decide +kernel, by decide⟩
theorem zo_zm_Alignment_length : zMok zm_Alignment_length 0 := ⟨zmr 2180 rfl rfl, zmr 1005 rfl rfl, rfl, by decide +kernel, by decide +kernel, by decide +kernel, by decide⟩
theorem zo_zm_Alignment_hasStep : zMok zm_Alignment_hasStep 1 := ⟨zmr 2188 rfl rfl, zmr 1005 rfl rfl, rfl, by decide +kernel, by decide +kernel, by decide +kernel, by decide⟩
theorem zo_zm_Sight_changes : zMok zm_Sight_changes 0 := ⟨zmr 3146 rfl rfl, zmr 1007 rfl rfl, rfl, by decide +kernel, by decide +kernel, by decide +kernel, by decide⟩
theorem zo_zm_Sight_size : zMok zm_Sight_size 0 := ⟨zmr 3105 rfl rfl, zmr 1007 rfl rfl, rfl, by decide +kernel, by decide +kernel, by decide +kernel, by decide⟩
theorem zo_zm_Chrono_enter : zMok zm_Chrono_enter 2 := ⟨zmr 3151 rfl rfl, zmr 1008 rfl rfl, rfl, by decide +kernel, by decide +kernel, by decide +kernel, by decide⟩
theorem zo_zm_Chrono_findCompanions : zMok zm_Chrono_findCompanions 1 := ⟨zmr 3160 rfl rfl, zmr 1008 rfl rfl, rfl, by decide +kernel, by decide +kernel, by decide +kernel, by decide⟩
theorem zo_zm_Chrono_countOrders : zMok zm_Chrono_countOrders 0 := ⟨zmr 3164 rfl rfl, zmr 1008 rfl rfl, rfl, by decide +kernel, by decide +kernel, by decide +kernel, by decide⟩
theorem zo_zm_Chrono_findFirst : zMok zm_Chrono_findFirst 0 := ⟨zmr 3168 rfl rfl, zmr 1008 rfl rfl, rfl, by decide +kernel, by decide +kernel, by decide +kernel, by decide⟩
theorem zo_zm_Sight_get : zMok zm_Sight_get 2 := ⟨zmr 3130 rfl rfl, zmr 1007 rfl rfl, rfl, by decide +kernel, by decide +kernel, by decide +kernel, by decide⟩
theorem zo_zm_Sight_isLessWorn : zMok zm_Sight_isLessWorn 2 := ⟨zmr 3156 rfl rfl, zmr 1007 rfl rfl, rfl, by decide +kernel, by decide +kernel, by decide +kernel, by decide⟩
theorem zo_zm_Chrono_firstFree : zMok zm_Chrono_firstFree 1 := ⟨zmr 3172 rfl rfl, zmr 1008 rfl rfl, rfl, by decide +kernel, by decide +kernel, by decide +kernel, by decide⟩
theorem zo_zm_Int_numberOfTrailingZeros : zMok zm_Int_numberOfTrailingZeros 1 := ⟨zmr 3175 rfl rfl, zmr 1013 rfl rfl, rfl, by decide +kernel, by decide +kernel, by decide +kernel, by decide⟩
theorem zo_zm_Int_bitCount : zMok zm_Int_bitCount 1 := ⟨zmr 3060 rfl rfl, zmr 1013 rfl rfl, rfl, by decide +kernel, by decide +kernel, by decide +kernel, by decide⟩
theorem zo_zm_Chrono_orderLength : zMok zm_Chrono_orderLength 0 := ⟨zmr 3197 rfl rfl, zmr 1008 rfl rfl, rfl, by decide +kernel, by decide +kernel, by decide +kernel, by decide⟩
theorem zo_zm_Chrono_hasPlace : zMok zm_Chrono_hasPlace 1 := ⟨zmr 4039 rfl rfl, zmr 1008 rfl rfl, rfl, by decide +kernel, by decide +kernel, by decide +kernel, by decide⟩
theorem zo_zm_Aligner_init : zMok zm_Aligner_init 0 := ⟨zmr 1050 rfl rfl, zmr 1004 rfl rfl, rfl, by decide +kernel, by decide +kernel, by decide +kernel, by decide⟩
theorem zo_zm_Text_init : zMok zm_Text_init 0 := ⟨zmr 1026 rfl rfl, zmr 1002 rfl rfl, rfl, by decide +kernel, by decide +kernel, by decide +kernel, by decide⟩
theorem zo_zm_Alignment_init : zMok zm_Alignment_init 0 := ⟨zmr 1060 rfl rfl, zmr 1005 rfl rfl, rfl, by decide +kernel, by decide +kernel, by decide +kernel, by decide⟩
theorem zo_zm_Coll_has : zMok zm_Coll_has 1 := ⟨zmr 2079 rfl rfl, zmr 1003 rfl rfl, rfl, by decide +kernel, by decide +kernel, by decide +kernel, by decide⟩
theorem zo_zm_Text_takeFrom : zMok zm_Text_takeFrom 1 := ⟨zmr 2061 rfl rfl, zmr 1002 rfl rfl, rfl, by decide +kernel, by decide +kernel, by decide +kernel, by decide⟩
theorem zo_zm_Alignment_forget : zMok zm_Alignment_forget 0 := ⟨zmr 2071 rfl rfl, zmr 1005 rfl rfl, rfl, by decide +kernel, by decide +kernel, by decide +kernel, by decide⟩
theorem zo_zm_Text_clear : zMok zm_Text_clear 0 := ⟨zmr 2038 rfl rfl, zmr 1002 rfl rfl, rfl, by decide +kernel, by decide +kernel, by decide +kernel, by decide⟩
theorem zo_zm_Alignment_isKnown : zMok zm_Alignment_isKnown 0 := ⟨zmr 2128 rfl rfl, zmr 1005 rfl rfl, rfl, by decide +kernel, by decide +kernel, by decide +kernel, by decide⟩
theorem zo_zm_Coll_text : zMok zm_Coll_text 1 := ⟨zmr 2083 rfl rfl, zmr 1003 rfl rfl, rfl, by decide +kernel, by decide +kernel, by decide +kernel, by decide⟩
theorem zo_zm_Aligner_align : zMok zm_Aligner_align 4 := ⟨zmr 2133 rfl rfl, zmr 1004 rfl rfl, rfl, by decide +kernel, by decide +kernel, by decide +kernel, by decide⟩
theorem zo_zm_Fault_findPairs : zMok zm_Fault_findPairs 1 := ⟨zmr 4003 rfl rfl, zmr 1009 rfl rfl, rfl, by decide +kernel, by decide +kernel, by decide +kernel, by decide⟩
theorem zo_zm_Fault_search : zMok zm_Fault_search 1 := ⟨zmr 4010 rfl rfl, zmr 1009 rfl rfl, rfl, by decide +kernel, by decide +kernel, by decide +kernel, by decide⟩
theorem zo_zm_Fault_hasOrderWithout : zMok zm_Fault_hasOrderWithout 1 := ⟨zmr 4015 rfl rfl, zmr 1009 rfl rfl, rfl, by decide +kernel, by decide +kernel, by decide +kernel, by decide⟩
theorem zo_zm_Fault_hasNoCycle : zMok zm_Fault_hasNoCycle 0 := ⟨zmr 4019 rfl rfl, zmr 1009 rfl rfl, rfl, by decide +kernel, by decide +kernel, by decide +kernel, by decide⟩
theorem zo_zm_Chrono_builtFor : zMok zm_Chrono_builtFor 0 := ⟨zmr 3206 rfl rfl, zmr 1008 rfl rfl, rfl, by decide +kernel, by decide +kernel, by decide +kernel, by decide⟩
theorem zo_zm_Presses_assign : zMok zm_Presses_assign 4 := ⟨zmr 3209 rfl rfl, zmr 1010 rfl rfl, rfl, by decide +kernel, by decide +kernel, by decide +kernel, by decide⟩
theorem zo_zm_Chrono_typesOn : zMok zm_Chrono_typesOn 1 := ⟨zmr 3180 rfl rfl, zmr 1008 rfl rfl, rfl, by decide +kernel, by decide +kernel, by decide +kernel, by decide⟩
theorem zo_zm_Presses_fits : zMok zm_Presses_fits 3 := ⟨zmr 3213 rfl rfl, zmr 1010 rfl rfl, rfl, by decide +kernel, by decide +kernel, by decide +kernel, by decide⟩
theorem zo_zm_Chrono_companionsOf : zMok zm_Chrono_companionsOf 1 := ⟨zmr 3189 rfl rfl, zmr 1008 rfl rfl, rfl, by decide +kernel, by decide +kernel, by decide +kernel, by decide⟩
theorem zo_zm_Sight_has : zMok zm_Sight_has 1 := ⟨zmr 3117 rfl rfl, zmr 1007 rfl rfl, rfl, by decide +kernel, by decide +kernel, by decide +kernel, by decide⟩
theorem zo_zm_Coll_changes : zMok zm_Coll_changes 0 := ⟨zmr 2117 rfl rfl, zmr 1003 rfl rfl, rfl, by decide +kernel, by decide +kernel, by decide +kernel, by decide⟩
theorem zo_zm_Coll_size : zMok zm_Coll_size 0 := ⟨zmr 2050 rfl rfl, zmr 1003 rfl rfl, rfl, by decide +kernel, by decide +kernel, by decide +kernel, by decide⟩
theorem zo_zm_Coll_best : zMok zm_Coll_best 2 := ⟨zmr 2124 rfl rfl, zmr 1003 rfl rfl, rfl, by decide +kernel, by decide +kernel, by decide +kernel, by decide⟩
theorem zo_zm_Alignment_isFound : zMok zm_Alignment_isFound 0 := ⟨zmr 2172 rfl rfl, zmr 1005 rfl rfl, rfl, by decide +kernel, by decide +kernel, by decide +kernel, by decide⟩
theorem zo_zm_Stemma_read : zMok zm_Stemma_read 3 := ⟨zmr 2176 rfl rfl, zmr 1006 rfl rfl, rfl, by decide +kernel, by decide +kernel, by decide +kernel, by decide⟩
theorem zo_zm_Stemma_group : zMok zm_Stemma_group 1 := ⟨zmr 2194 rfl rfl, zmr 1006 rfl rfl, rfl, by decide +kernel, by decide +kernel, by decide +kernel, by decide⟩
theorem zo_zm_Stemma_connect : zMok zm_Stemma_connect 0 := ⟨zmr 2206 rfl rfl, zmr 1006 rfl rfl, rfl, by decide +kernel, by decide +kernel, by decide +kernel, by decide⟩
theorem zo_zm_Stemma_findReverted : zMok zm_Stemma_findReverted 0 := ⟨zmr 2222 rfl rfl, zmr 1006 rfl rfl, rfl, by decide +kernel, by decide +kernel, by decide +kernel, by decide⟩
theorem zo_zm_Alignment_stepAt : zMok zm_Alignment_stepAt 1 := ⟨zmr 2184 rfl rfl, zmr 1005 rfl rfl, rfl, by decide +kernel, by decide +kernel, by decide +kernel, by decide⟩
theorem zo_zm_Stemma_differences : zMok zm_Stemma_differences 2 := ⟨zmr 2198 rfl rfl, zmr 1006 rfl rfl, rfl, by decide +kernel, by decide +kernel, by decide +kernel, by decide⟩
theorem zo_zm_Stemma_joinNearest : zMok zm_Stemma_joinNearest 1 := ⟨zmr 2210 rfl rfl, zmr 1006 rfl rfl, rfl, by decide +kernel, by decide +kernel, by decide +kernel, by decide⟩
theorem zo_zm_Stemma_distance : zMok zm_Stemma_distance 2 := ⟨zmr 2214 rfl rfl, zmr 1006 rfl rfl, rfl, by decide +kernel, by decide +kernel, by decide +kernel, by decide⟩
theorem zo_zm_Stemma_goesBack : zMok zm_Stemma_goesBack 2 := ⟨zmr 2226 rfl rfl, zmr 1006 rfl rfl, rfl, by decide +kernel, by decide +kernel, by decide +kernel, by decide⟩
theorem zo_zm_Stemma_readingOfState : zMok zm_Stemma_readingOfState 2 := ⟨zmr 2230 rfl rfl, zmr 1006 rfl rfl, rfl, by decide +kernel, by decide +kernel, by decide +kernel, by decide⟩
theorem zo_zm_Stemma_parentOf : zMok zm_Stemma_parentOf 1 := ⟨zmr 2234 rfl rfl, zmr 1006 rfl rfl, rfl, by decide +kernel, by decide +kernel, by decide +kernel, by decide⟩
theorem zo_zm_Stemma_stateOfCopy : zMok zm_Stemma_stateOfCopy 1 := ⟨zmr 3006 rfl rfl, zmr 1006 rfl rfl, rfl, by decide +kernel, by decide +kernel, by decide +kernel, by decide⟩
theorem zo_zm_Stemma_readingAt : zMok zm_Stemma_readingAt 2 := ⟨zmr 2202 rfl rfl, zmr 1006 rfl rfl, rfl, by decide +kernel, by decide +kernel, by decide +kernel, by decide⟩
theorem zo_zm_Stemma_has : zMok zm_Stemma_has 1 := ⟨zmr 2218 rfl rfl, zmr 1006 rfl rfl, rfl, by decide +kernel, by decide +kernel, by decide +kernel, by decide⟩
theorem zo_zm_Stemma_ancestors : zMok zm_Stemma_ancestors 1 := ⟨zmr 3080 rfl rfl, zmr 1006 rfl rfl, rfl, by decide +kernel, by decide +kernel, by decide +kernel, by decide⟩
theorem zo_zm_Stemma_length : zMok zm_Stemma_length 0 := ⟨zmr 3049 rfl rfl, zmr 1006 rfl rfl, rfl, by decide +kernel, by decide +kernel, by decide +kernel, by decide⟩
theorem zo_zm_Stemma_variedPlaces : zMok zm_Stemma_variedPlaces 0 := ⟨zmr 3053 rfl rfl, zmr 1006 rfl rfl, rfl, by decide +kernel, by decide +kernel, by decide +kernel, by decide⟩
theorem zo_zm_Stemma_reversions : zMok zm_Stemma_reversions 0 := ⟨zmr 3057 rfl rfl, zmr 1006 rfl rfl, rfl, by decide +kernel, by decide +kernel, by decide +kernel, by decide⟩
theorem zo_zm_Stemma_leaves : zMok zm_Stemma_leaves 0 := ⟨zmr 3067 rfl rfl, zmr 1006 rfl rfl, rfl, by decide +kernel, by decide +kernel, by decide +kernel, by decide⟩
theorem zo_zm_Text_append : zMok zm_Text_append 1 := ⟨zmr 2030 rfl rfl, zmr 1002 rfl rfl, rfl, by decide +kernel, by decide +kernel, by decide +kernel, by decide⟩
theorem zo_zm_Coll_init : zMok zm_Coll_init 0 := ⟨zmr 1040 rfl rfl, zmr 1003 rfl rfl, rfl, by decide +kernel, by decide +kernel, by decide +kernel, by decide⟩
theorem zo_zm_Stemma_init : zMok zm_Stemma_init 0 := ⟨zmr 1098 rfl rfl, zmr 1006 rfl rfl, rfl, by decide +kernel, by decide +kernel, by decide +kernel, by decide⟩
theorem zo_zm_Sight_init : zMok zm_Sight_init 0 := ⟨zmr 1143 rfl rfl, zmr 1007 rfl rfl, rfl, by decide +kernel, by decide +kernel, by decide +kernel, by decide⟩
theorem zo_zm_Chrono_init : zMok zm_Chrono_init 0 := ⟨zmr 1160 rfl rfl, zmr 1008 rfl rfl, rfl, by decide +kernel, by decide +kernel, by decide +kernel, by decide⟩
theorem zo_zm_Fault_init : zMok zm_Fault_init 0 := ⟨zmr 1191 rfl rfl, zmr 1009 rfl rfl, rfl, by decide +kernel, by decide +kernel, by decide +kernel, by decide⟩
theorem zo_zm_Presses_init : zMok zm_Presses_init 0 := ⟨zmr 1219 rfl rfl, zmr 1010 rfl rfl, rfl, by decide +kernel, by decide +kernel, by decide +kernel, by decide⟩
theorem zo_zm_Text_isWord : zMok zm_Text_isWord 0 := ⟨zmr 2046 rfl rfl, zmr 1002 rfl rfl, rfl, by decide +kernel, by decide +kernel, by decide +kernel, by decide⟩
theorem zo_zm_Coll_put : zMok zm_Coll_put 2 := ⟨zmr 2054 rfl rfl, zmr 1003 rfl rfl, rfl, by decide +kernel, by decide +kernel, by decide +kernel, by decide⟩
theorem zo_zm_Coll_removeLast : zMok zm_Coll_removeLast 0 := ⟨zmr 2092 rfl rfl, zmr 1003 rfl rfl, rfl, by decide +kernel, by decide +kernel, by decide +kernel, by decide⟩
theorem zo_zm_Coll_reach : zMok zm_Coll_reach 0 := ⟨zmr 2101 rfl rfl, zmr 1003 rfl rfl, rfl, by decide +kernel, by decide +kernel, by decide +kernel, by decide⟩
theorem zo_zm_Coll_setReach : zMok zm_Coll_setReach 1 := ⟨zmr 2105 rfl rfl, zmr 1003 rfl rfl, rfl, by decide +kernel, by decide +kernel, by decide +kernel, by decide⟩
theorem zo_zm_Stemma_build : zMok zm_Stemma_build 1 := ⟨zmr 2113 rfl rfl, zmr 1006 rfl rfl, rfl, by decide +kernel, by decide +kernel, by decide +kernel, by decide⟩
theorem zo_zm_P_describeCopy : zMok zm_P_describeCopy 2 := ⟨zmr 2238 rfl rfl, zmr 1001 rfl rfl, rfl, by decide +kernel, by decide +kernel, by decide +kernel, by decide⟩
theorem zo_zm_Text_has : zMok zm_Text_has 1 := ⟨zmr 3021 rfl rfl, zmr 1002 rfl rfl, rfl, by decide +kernel, by decide +kernel, by decide +kernel, by decide⟩
theorem zo_zm_Alignment_tally : zMok zm_Alignment_tally 1 := ⟨zmr 3012 rfl rfl, zmr 1005 rfl rfl, rfl, by decide +kernel, by decide +kernel, by decide +kernel, by decide⟩
theorem zo_zm_Stemma_isExcluded : zMok zm_Stemma_isExcluded 1 := ⟨zmr 3002 rfl rfl, zmr 1006 rfl rfl, rfl, by decide +kernel, by decide +kernel, by decide +kernel, by decide⟩
theorem zo_zm_Stemma_describeAll : zMok zm_Stemma_describeAll 1 := ⟨zmr 3045 rfl rfl, zmr 1006 rfl rfl, rfl, by decide +kernel, by decide +kernel, by decide +kernel, by decide⟩
theorem zo_zm_Stemma_describe : zMok zm_Stemma_describe 2 := ⟨zmr 3076 rfl rfl, zmr 1006 rfl rfl, rfl, by decide +kernel, by decide +kernel, by decide +kernel, by decide⟩
theorem zo_zm_Stemma_isReverted : zMok zm_Stemma_isReverted 2 := ⟨zmr 3093 rfl rfl, zmr 1006 rfl rfl, rfl, by decide +kernel, by decide +kernel, by decide +kernel, by decide⟩
theorem zo_zm_Sight_clash : zMok zm_Sight_clash 3 := ⟨zmr 3101 rfl rfl, zmr 1007 rfl rfl, rfl, by decide +kernel, by decide +kernel, by decide +kernel, by decide⟩
theorem zo_zm_Sight_add : zMok zm_Sight_add 4 := ⟨zmr 3109 rfl rfl, zmr 1007 rfl rfl, rfl, by decide +kernel, by decide +kernel, by decide +kernel, by decide⟩
theorem zo_zm_Sight_remove : zMok zm_Sight_remove 1 := ⟨zmr 3121 rfl rfl, zmr 1007 rfl rfl, rfl, by decide +kernel, by decide +kernel, by decide +kernel, by decide⟩
theorem zo_zm_P_describeForme : zMok zm_P_describeForme 2 := ⟨zmr 3138 rfl rfl, zmr 1001 rfl rfl, rfl, by decide +kernel, by decide +kernel, by decide +kernel, by decide⟩
theorem zo_zm_P_describeFormes : zMok zm_P_describeFormes 1 := ⟨zmr 3226 rfl rfl, zmr 1001 rfl rfl, rfl, by decide +kernel, by decide +kernel, by decide +kernel, by decide⟩
theorem zo_zm_Chrono_build : zMok zm_Chrono_build 1 := ⟨zmr 3142 rfl rfl, zmr 1008 rfl rfl, rfl, by decide +kernel, by decide +kernel, by decide +kernel, by decide⟩
theorem zo_zm_Chrono_formeAt : zMok zm_Chrono_formeAt 1 := ⟨zmr 4043 rfl rfl, zmr 1008 rfl rfl, rfl, by decide +kernel, by decide +kernel, by decide +kernel, by decide⟩
theorem zo_zm_P_hashCopies : zMok zm_P_hashCopies 1 := ⟨zmr 4057 rfl rfl, zmr 1001 rfl rfl, rfl, by decide +kernel, by decide +kernel, by decide +kernel, by decide⟩
theorem zo_zm_P_hashPairs : zMok zm_P_hashPairs 1 := ⟨zmr 4062 rfl rfl, zmr 1001 rfl rfl, rfl, by decide +kernel, by decide +kernel, by decide +kernel, by decide⟩
theorem zo_zm_P_hashStates : zMok zm_P_hashStates 1 := ⟨zmr 4066 rfl rfl, zmr 1001 rfl rfl, rfl, by decide +kernel, by decide +kernel, by decide +kernel, by decide⟩
theorem zo_zm_P_hashSightings : zMok zm_P_hashSightings 1 := ⟨zmr 4074 rfl rfl, zmr 1001 rfl rfl, rfl, by decide +kernel, by decide +kernel, by decide +kernel, by decide⟩
theorem zo_zm_P_hashFormes : zMok zm_P_hashFormes 1 := ⟨zmr 4078 rfl rfl, zmr 1001 rfl rfl, rfl, by decide +kernel, by decide +kernel, by decide +kernel, by decide⟩
theorem zo_zm_P_count : zMok zm_P_count 1 := ⟨zmr 4048 rfl rfl, zmr 1001 rfl rfl, rfl, by decide +kernel, by decide +kernel, by decide +kernel, by decide⟩
theorem zo_zm_Stemma_size : zMok zm_Stemma_size 0 := ⟨zmr 4070 rfl rfl, zmr 1006 rfl rfl, rfl, by decide +kernel, by decide +kernel, by decide +kernel, by decide⟩
theorem zo_zm_Chrono_aheadOf : zMok zm_Chrono_aheadOf 1 := ⟨zmr 3185 rfl rfl, zmr 1008 rfl rfl, rfl, by decide +kernel, by decide +kernel, by decide +kernel, by decide⟩
theorem zo_zm_Chrono_placeOf : zMok zm_Chrono_placeOf 1 := ⟨zmr 3193 rfl rfl, zmr 1008 rfl rfl, rfl, by decide +kernel, by decide +kernel, by decide +kernel, by decide⟩
theorem zo_zm_Presses_build : zMok zm_Presses_build 1 := ⟨zmr 3202 rfl rfl, zmr 1010 rfl rfl, rfl, by decide +kernel, by decide +kernel, by decide +kernel, by decide⟩
theorem zo_zm_Presses_pressOf : zMok zm_Presses_pressOf 1 := ⟨zmr 3218 rfl rfl, zmr 1010 rfl rfl, rfl, by decide +kernel, by decide +kernel, by decide +kernel, by decide⟩
theorem zo_zm_Chrono_seenSet : zMok zm_Chrono_seenSet 0 := ⟨zmr 3230 rfl rfl, zmr 1008 rfl rfl, rfl, by decide +kernel, by decide +kernel, by decide +kernel, by decide⟩
theorem zo_zm_Chrono_orders : zMok zm_Chrono_orders 0 := ⟨zmr 3234 rfl rfl, zmr 1008 rfl rfl, rfl, by decide +kernel, by decide +kernel, by decide +kernel, by decide⟩
theorem zo_zm_Fault_build : zMok zm_Fault_build 1 := ⟨zmr 3238 rfl rfl, zmr 1009 rfl rfl, rfl, by decide +kernel, by decide +kernel, by decide +kernel, by decide⟩
theorem zo_zm_Fault_set : zMok zm_Fault_set 0 := ⟨zmr 4023 rfl rfl, zmr 1009 rfl rfl, rfl, by decide +kernel, by decide +kernel, by decide +kernel, by decide⟩
theorem zo_zm_Presses_number : zMok zm_Presses_number 0 := ⟨zmr 4027 rfl rfl, zmr 1010 rfl rfl, rfl, by decide +kernel, by decide +kernel, by decide +kernel, by decide⟩
theorem zo_zm_Chrono_typeSet : zMok zm_Chrono_typeSet 0 := ⟨zmr 4031 rfl rfl, zmr 1008 rfl rfl, rfl, by decide +kernel, by decide +kernel, by decide +kernel, by decide⟩
theorem zo_zm_M_within : zMok zm_M_within 3 := ⟨zmr 4191 rfl rfl, zmr 1011 rfl rfl, rfl, by decide +kernel, by decide +kernel, by decide +kernel, by decide⟩
theorem zo_zm_M_isCopyPage : zMok zm_M_isCopyPage 0 := ⟨zmr 4203 rfl rfl, zmr 1011 rfl rfl, rfl, by decide +kernel, by decide +kernel, by decide +kernel, by decide⟩
theorem zo_zm_M_readInto : zMok zm_M_readInto 1 := ⟨zmr 4207 rfl rfl, zmr 1011 rfl rfl, rfl, by decide +kernel, by decide +kernel, by decide +kernel, by decide⟩
theorem zo_zm_M_isCopy : zMok zm_M_isCopy 1 := ⟨zmr 4215 rfl rfl, zmr 1011 rfl rfl, rfl, by decide +kernel, by decide +kernel, by decide +kernel, by decide⟩
theorem zo_zm_M_family : zMok zm_M_family 1 := ⟨zmr 5014 rfl rfl, zmr 1011 rfl rfl, rfl, by decide +kernel, by decide +kernel, by decide +kernel, by decide⟩
theorem zo_zm_M_letterAt : zMok zm_M_letterAt 2 := ⟨zmr 5008 rfl rfl, zmr 1011 rfl rfl, rfl, by decide +kernel, by decide +kernel, by decide +kernel, by decide⟩
theorem zo_zm_M_pairCost : zMok zm_M_pairCost 2 := ⟨zmr 5011 rfl rfl, zmr 1011 rfl rfl, rfl, by decide +kernel, by decide +kernel, by decide +kernel, by decide⟩
theorem zo_zm_M_costBy : zMok zm_M_costBy 3 := ⟨zmr 5004 rfl rfl, zmr 1011 rfl rfl, rfl, by decide +kernel, by decide +kernel, by decide +kernel, by decide⟩
theorem zo_zm_M_leastCost : zMok zm_M_leastCost 2 := ⟨zmr 4239 rfl rfl, zmr 1011 rfl rfl, rfl, by decide +kernel, by decide +kernel, by decide +kernel, by decide⟩
theorem zo_zm_M_isCollated : zMok zm_M_isCollated 0 := ⟨zmr 5018 rfl rfl, zmr 1011 rfl rfl, rfl, by decide +kernel, by decide +kernel, by decide +kernel, by decide⟩
theorem zo_zm_M_layCollation : zMok zm_M_layCollation 2 := ⟨zmr 4235 rfl rfl, zmr 1011 rfl rfl, rfl, by decide +kernel, by decide +kernel, by decide +kernel, by decide⟩
theorem zo_zm_M_stepsOf : zMok zm_M_stepsOf 1 := ⟨zmr 5022 rfl rfl, zmr 1011 rfl rfl, rfl, by decide +kernel, by decide +kernel, by decide +kernel, by decide⟩
theorem zo_zm_M_collateNow : zMok zm_M_collateNow 3 := ⟨zmr 4231 rfl rfl, zmr 1011 rfl rfl, rfl, by decide +kernel, by decide +kernel, by decide +kernel, by decide⟩
theorem zo_zm_M_stepNow : zMok zm_M_stepNow 3 := ⟨zmr 5030 rfl rfl, zmr 1011 rfl rfl, rfl, by decide +kernel, by decide +kernel, by decide +kernel, by decide⟩
theorem zo_zm_M_places : zMok zm_M_places 0 := ⟨zmr 5054 rfl rfl, zmr 1011 rfl rfl, rfl, by decide +kernel, by decide +kernel, by decide +kernel, by decide⟩
theorem zo_zm_M_unlike : zMok zm_M_unlike 2 := ⟨zmr 5050 rfl rfl, zmr 1011 rfl rfl, rfl, by decide +kernel, by decide +kernel, by decide +kernel, by decide⟩
theorem zo_zm_M_layReading : zMok zm_M_layReading 1 := ⟨zmr 5046 rfl rfl, zmr 1011 rfl rfl, rfl, by decide +kernel, by decide +kernel, by decide +kernel, by decide⟩
theorem zo_zm_M_layTree : zMok zm_M_layTree 0 := ⟨zmr 5058 rfl rfl, zmr 1011 rfl rfl, rfl, by decide +kernel, by decide +kernel, by decide +kernel, by decide⟩
theorem zo_zm_M_farNow : zMok zm_M_farNow 2 := ⟨zmr 5062 rfl rfl, zmr 1011 rfl rfl, rfl, by decide +kernel, by decide +kernel, by decide +kernel, by decide⟩
theorem zo_zm_M_readingOf : zMok zm_M_readingOf 2 := ⟨zmr 5106 rfl rfl, zmr 1011 rfl rfl, rfl, by decide +kernel, by decide +kernel, by decide +kernel, by decide⟩
theorem zo_zm_M_isTurned : zMok zm_M_isTurned 2 := ⟨zmr 5118 rfl rfl, zmr 1011 rfl rfl, rfl, by decide +kernel, by decide +kernel, by decide +kernel, by decide⟩
theorem zo_zm_M_layStates : zMok zm_M_layStates 0 := ⟨zmr 5042 rfl rfl, zmr 1011 rfl rfl, rfl, by decide +kernel, by decide +kernel, by decide +kernel, by decide⟩
theorem zo_zm_M_costOf : zMok zm_M_costOf 1 := ⟨zmr 5066 rfl rfl, zmr 1011 rfl rfl, rfl, by decide +kernel, by decide +kernel, by decide +kernel, by decide⟩
theorem zo_zm_M_moreOf : zMok zm_M_moreOf 1 := ⟨zmr 5070 rfl rfl, zmr 1011 rfl rfl, rfl, by decide +kernel, by decide +kernel, by decide +kernel, by decide⟩
theorem zo_zm_M_otherReadings : zMok zm_M_otherReadings 1 := ⟨zmr 5074 rfl rfl, zmr 1011 rfl rfl, rfl, by decide +kernel, by decide +kernel, by decide +kernel, by decide⟩
theorem zo_zm_M_copyNow : zMok zm_M_copyNow 2 := ⟨zmr 5038 rfl rfl, zmr 1011 rfl rfl, rfl, by decide +kernel, by decide +kernel, by decide +kernel, by decide⟩
theorem zo_zm_M_turnedMany : zMok zm_M_turnedMany 1 := ⟨zmr 5114 rfl rfl, zmr 1011 rfl rfl, rfl, by decide +kernel, by decide +kernel, by decide +kernel, by decide⟩
theorem zo_zm_M_outMany : zMok zm_M_outMany 0 := ⟨zmr 5094 rfl rfl, zmr 1011 rfl rfl, rfl, by decide +kernel, by decide +kernel, by decide +kernel, by decide⟩
theorem zo_zm_M_changes : zMok zm_M_changes 0 := ⟨zmr 5098 rfl rfl, zmr 1011 rfl rfl, rfl, by decide +kernel, by decide +kernel, by decide +kernel, by decide⟩
theorem zo_zm_M_unlikePlaces : zMok zm_M_unlikePlaces 0 := ⟨zmr 5102 rfl rfl, zmr 1011 rfl rfl, rfl, by decide +kernel, by decide +kernel, by decide +kernel, by decide⟩
theorem zo_zm_M_turnedAll : zMok zm_M_turnedAll 0 := ⟨zmr 5110 rfl rfl, zmr 1011 rfl rfl, rfl, by decide +kernel, by decide +kernel, by decide +kernel, by decide⟩
theorem zo_zm_M_childless : zMok zm_M_childless 0 := ⟨zmr 5122 rfl rfl, zmr 1011 rfl rfl, rfl, by decide +kernel, by decide +kernel, by decide +kernel, by decide⟩
theorem zo_zm_M_statesNow : zMok zm_M_statesNow 1 := ⟨zmr 5090 rfl rfl, zmr 1011 rfl rfl, rfl, by decide +kernel, by decide +kernel, by decide +kernel, by decide⟩
theorem zo_zm_M_copiesIn : zMok zm_M_copiesIn 1 := ⟨zmr 5138 rfl rfl, zmr 1011 rfl rfl, rfl, by decide +kernel, by decide +kernel, by decide +kernel, by decide⟩
theorem zo_zm_M_above : zMok zm_M_above 1 := ⟨zmr 5142 rfl rfl, zmr 1011 rfl rfl, rfl, by decide +kernel, by decide +kernel, by decide +kernel, by decide⟩
theorem zo_zm_M_tellState : zMok zm_M_tellState 2 := ⟨zmr 5134 rfl rfl, zmr 1011 rfl rfl, rfl, by decide +kernel, by decide +kernel, by decide +kernel, by decide⟩
theorem zo_zm_M_stateNow : zMok zm_M_stateNow 2 := ⟨zmr 5130 rfl rfl, zmr 1011 rfl rfl, rfl, by decide +kernel, by decide +kernel, by decide +kernel, by decide⟩
theorem zo_zm_M_isTaken : zMok zm_M_isTaken 3 := ⟨zmr 5158 rfl rfl, zmr 1011 rfl rfl, rfl, by decide +kernel, by decide +kernel, by decide +kernel, by decide⟩
theorem zo_zm_M_isSighting : zMok zm_M_isSighting 1 := ⟨zmr 5166 rfl rfl, zmr 1011 rfl rfl, rfl, by decide +kernel, by decide +kernel, by decide +kernel, by decide⟩
theorem zo_zm_M_sightingNow : zMok zm_M_sightingNow 2 := ⟨zmr 5174 rfl rfl, zmr 1011 rfl rfl, rfl, by decide +kernel, by decide +kernel, by decide +kernel, by decide⟩
theorem zo_zm_M_has : zMok zm_M_has 2 := ⟨zmr 5197 rfl rfl, zmr 1011 rfl rfl, rfl, by decide +kernel, by decide +kernel, by decide +kernel, by decide⟩
theorem zo_zm_M_canBeFirst : zMok zm_M_canBeFirst 2 := ⟨zmr 5205 rfl rfl, zmr 1011 rfl rfl, rfl, by decide +kernel, by decide +kernel, by decide +kernel, by decide⟩
theorem zo_zm_M_layAhead : zMok zm_M_layAhead 1 := ⟨zmr 5194 rfl rfl, zmr 1011 rfl rfl, rfl, by decide +kernel, by decide +kernel, by decide +kernel, by decide⟩
theorem zo_zm_M_layWays : zMok zm_M_layWays 0 := ⟨zmr 5201 rfl rfl, zmr 1011 rfl rfl, rfl, by decide +kernel, by decide +kernel, by decide +kernel, by decide⟩
theorem zo_zm_M_allSightings : zMok zm_M_allSightings 0 := ⟨zmr 5186 rfl rfl, zmr 1011 rfl rfl, rfl, by decide +kernel, by decide +kernel, by decide +kernel, by decide⟩
theorem zo_zm_M_many : zMok zm_M_many 1 := ⟨zmr 5208 rfl rfl, zmr 1011 rfl rfl, rfl, by decide +kernel, by decide +kernel, by decide +kernel, by decide⟩
theorem zo_zm_M_orders : zMok zm_M_orders 1 := ⟨zmr 5190 rfl rfl, zmr 1011 rfl rfl, rfl, by decide +kernel, by decide +kernel, by decide +kernel, by decide⟩
theorem zo_zm_M_orderAt : zMok zm_M_orderAt 1 := ⟨zmr 5182 rfl rfl, zmr 1011 rfl rfl, rfl, by decide +kernel, by decide +kernel, by decide +kernel, by decide⟩
theorem zo_zm_M_typesOn : zMok zm_M_typesOn 1 := ⟨zmr 5228 rfl rfl, zmr 1011 rfl rfl, rfl, by decide +kernel, by decide +kernel, by decide +kernel, by decide⟩
theorem zo_zm_M_goesOn : zMok zm_M_goesOn 1 := ⟨zmr 6008 rfl rfl, zmr 1011 rfl rfl, rfl, by decide +kernel, by decide +kernel, by decide +kernel, by decide⟩
theorem zo_zm_M_goesBack : zMok zm_M_goesBack 1 := ⟨zmr 6012 rfl rfl, zmr 1011 rfl rfl, rfl, by decide +kernel, by decide +kernel, by decide +kernel, by decide⟩
theorem zo_zm_M_mayBeOn : zMok zm_M_mayBeOn 2 := ⟨zmr 6016 rfl rfl, zmr 1011 rfl rfl, rfl, by decide +kernel, by decide +kernel, by decide +kernel, by decide⟩
theorem zo_zm_M_togetherWith : zMok zm_M_togetherWith 1 := ⟨zmr 5224 rfl rfl, zmr 1011 rfl rfl, rfl, by decide +kernel, by decide +kernel, by decide +kernel, by decide⟩
theorem zo_zm_M_findsRoom : zMok zm_M_findsRoom 1 := ⟨zmr 6004 rfl rfl, zmr 1011 rfl rfl, rfl, by decide +kernel, by decide +kernel, by decide +kernel, by decide⟩
theorem zo_zm_M_layPresses : zMok zm_M_layPresses 0 := ⟨zmr 6000 rfl rfl, zmr 1011 rfl rfl, rfl, by decide +kernel, by decide +kernel, by decide +kernel, by decide⟩
theorem zo_zm_M_onForme : zMok zm_M_onForme 1 := ⟨zmr 5220 rfl rfl, zmr 1011 rfl rfl, rfl, by decide +kernel, by decide +kernel, by decide +kernel, by decide⟩
theorem zo_zm_M_placeOf : zMok zm_M_placeOf 1 := ⟨zmr 5232 rfl rfl, zmr 1011 rfl rfl, rfl, by decide +kernel, by decide +kernel, by decide +kernel, by decide⟩
theorem zo_zm_M_pressNow : zMok zm_M_pressNow 1 := ⟨zmr 5236 rfl rfl, zmr 1011 rfl rfl, rfl, by decide +kernel, by decide +kernel, by decide +kernel, by decide⟩
theorem zo_zm_M_formeNow : zMok zm_M_formeNow 2 := ⟨zmr 5216 rfl rfl, zmr 1011 rfl rfl, rfl, by decide +kernel, by decide +kernel, by decide +kernel, by decide⟩
theorem zo_zm_M_faultNow : zMok zm_M_faultNow 0 := ⟨zmr 6028 rfl rfl, zmr 1011 rfl rfl, rfl, by decide +kernel, by decide +kernel, by decide +kernel, by decide⟩
theorem zo_zm_M_pressesNow : zMok zm_M_pressesNow 0 := ⟨zmr 6032 rfl rfl, zmr 1011 rfl rfl, rfl, by decide +kernel, by decide +kernel, by decide +kernel, by decide⟩
theorem zo_zm_M_typesSeen : zMok zm_M_typesSeen 0 := ⟨zmr 6036 rfl rfl, zmr 1011 rfl rfl, rfl, by decide +kernel, by decide +kernel, by decide +kernel, by decide⟩
theorem zo_zm_M_formesNow : zMok zm_M_formesNow 1 := ⟨zmr 6024 rfl rfl, zmr 1011 rfl rfl, rfl, by decide +kernel, by decide +kernel, by decide +kernel, by decide⟩
theorem zo_zm_M_howMany : zMok zm_M_howMany 1 := ⟨zmr 6044 rfl rfl, zmr 1011 rfl rfl, rfl, by decide +kernel, by decide +kernel, by decide +kernel, by decide⟩
theorem zo_zm_M_mix : zMok zm_M_mix 1 := ⟨zmr 6057 rfl rfl, zmr 1011 rfl rfl, rfl, by decide +kernel, by decide +kernel, by decide +kernel, by decide⟩
theorem zo_zm_M_mixCopies : zMok zm_M_mixCopies 0 := ⟨zmr 6053 rfl rfl, zmr 1011 rfl rfl, rfl, by decide +kernel, by decide +kernel, by decide +kernel, by decide⟩
theorem zo_zm_M_mixStates : zMok zm_M_mixStates 0 := ⟨zmr 6062 rfl rfl, zmr 1011 rfl rfl, rfl, by decide +kernel, by decide +kernel, by decide +kernel, by decide⟩
theorem zo_zm_M_mixFormes : zMok zm_M_mixFormes 0 := ⟨zmr 6066 rfl rfl, zmr 1011 rfl rfl, rfl, by decide +kernel, by decide +kernel, by decide +kernel, by decide⟩
theorem zo_zm_P_init : zMok zm_P_init 0 := ⟨zmr 1018 rfl rfl, zmr 1001 rfl rfl, rfl, by decide +kernel, by decide +kernel, by decide +kernel, by decide⟩
theorem zo_zm_M_init : zMok zm_M_init 0 := ⟨zmr 4085 rfl rfl, zmr 1011 rfl rfl, rfl, by decide +kernel, by decide +kernel, by decide +kernel, by decide⟩
theorem zo_zm_P_letter : zMok zm_P_letter 1 := ⟨zmr 2022 rfl rfl, zmr 1001 rfl rfl, rfl, by decide +kernel, by decide +kernel, by decide +kernel, by decide⟩
theorem zo_zm_M_letter : zMok zm_M_letter 1 := ⟨zmr 4188 rfl rfl, zmr 1011 rfl rfl, rfl, by decide +kernel, by decide +kernel, by decide +kernel, by decide⟩
theorem zo_zm_P_blank : zMok zm_P_blank 0 := ⟨zmr 2034 rfl rfl, zmr 1001 rfl rfl, rfl, by decide +kernel, by decide +kernel, by decide +kernel, by decide⟩
theorem zo_zm_M_blank : zMok zm_M_blank 0 := ⟨zmr 4195 rfl rfl, zmr 1011 rfl rfl, rfl, by decide +kernel, by decide +kernel, by decide +kernel, by decide⟩
theorem zo_zm_P_copy : zMok zm_P_copy 0 := ⟨zmr 2042 rfl rfl, zmr 1001 rfl rfl, rfl, by decide +kernel, by decide +kernel, by decide +kernel, by decide⟩
theorem zo_zm_M_copy : zMok zm_M_copy 0 := ⟨zmr 4199 rfl rfl, zmr 1011 rfl rfl, rfl, by decide +kernel, by decide +kernel, by decide +kernel, by decide⟩
theorem zo_zm_P_correct : zMok zm_P_correct 1 := ⟨zmr 2075 rfl rfl, zmr 1001 rfl rfl, rfl, by decide +kernel, by decide +kernel, by decide +kernel, by decide⟩
theorem zo_zm_M_correct : zMok zm_M_correct 1 := ⟨zmr 4211 rfl rfl, zmr 1011 rfl rfl, rfl, by decide +kernel, by decide +kernel, by decide +kernel, by decide⟩
theorem zo_zm_P_drop : zMok zm_P_drop 0 := ⟨zmr 2088 rfl rfl, zmr 1001 rfl rfl, rfl, by decide +kernel, by decide +kernel, by decide +kernel, by decide⟩
theorem zo_zm_M_drop : zMok zm_M_drop 0 := ⟨zmr 4219 rfl rfl, zmr 1011 rfl rfl, rfl, by decide +kernel, by decide +kernel, by decide +kernel, by decide⟩
theorem zo_zm_P_band : zMok zm_P_band 1 := ⟨zmr 2097 rfl rfl, zmr 1001 rfl rfl, rfl, by decide +kernel, by decide +kernel, by decide +kernel, by decide⟩
theorem zo_zm_M_band : zMok zm_M_band 1 := ⟨zmr 4223 rfl rfl, zmr 1011 rfl rfl, rfl, by decide +kernel, by decide +kernel, by decide +kernel, by decide⟩
theorem zo_zm_P_of : zMok zm_P_of 2 := ⟨zmr 2109 rfl rfl, zmr 1001 rfl rfl, rfl, by decide +kernel, by decide +kernel, by decide +kernel, by decide⟩
theorem zo_zm_M_of : zMok zm_M_of 2 := ⟨zmr 5034 rfl rfl, zmr 1011 rfl rfl, rfl, by decide +kernel, by decide +kernel, by decide +kernel, by decide⟩
theorem zo_zm_P_sign : zMok zm_P_sign 2 := ⟨zmr 3017 rfl rfl, zmr 1001 rfl rfl, rfl, by decide +kernel, by decide +kernel, by decide +kernel, by decide⟩
theorem zo_zm_M_sign : zMok zm_M_sign 2 := ⟨zmr 5078 rfl rfl, zmr 1011 rfl rfl, rfl, by decide +kernel, by decide +kernel, by decide +kernel, by decide⟩
theorem zo_zm_P_collate : zMok zm_P_collate 3 := ⟨zmr 3026 rfl rfl, zmr 1001 rfl rfl, rfl, by decide +kernel, by decide +kernel, by decide +kernel, by decide⟩
theorem zo_zm_M_collate : zMok zm_M_collate 3 := ⟨zmr 4227 rfl rfl, zmr 1011 rfl rfl, rfl, by decide +kernel, by decide +kernel, by decide +kernel, by decide⟩
theorem zo_zm_P_step : zMok zm_P_step 3 := ⟨zmr 3030 rfl rfl, zmr 1001 rfl rfl, rfl, by decide +kernel, by decide +kernel, by decide +kernel, by decide⟩
theorem zo_zm_M_step : zMok zm_M_step 3 := ⟨zmr 5026 rfl rfl, zmr 1011 rfl rfl, rfl, by decide +kernel, by decide +kernel, by decide +kernel, by decide⟩
theorem zo_zm_P_reading : zMok zm_P_reading 2 := ⟨zmr 3036 rfl rfl, zmr 1001 rfl rfl, rfl, by decide +kernel, by decide +kernel, by decide +kernel, by decide⟩
theorem zo_zm_M_reading : zMok zm_M_reading 2 := ⟨zmr 5082 rfl rfl, zmr 1011 rfl rfl, rfl, by decide +kernel, by decide +kernel, by decide +kernel, by decide⟩
theorem zo_zm_P_states : zMok zm_P_states 1 := ⟨zmr 3041 rfl rfl, zmr 1001 rfl rfl, rfl, by decide +kernel, by decide +kernel, by decide +kernel, by decide⟩
theorem zo_zm_M_states : zMok zm_M_states 1 := ⟨zmr 5086 rfl rfl, zmr 1011 rfl rfl, rfl, by decide +kernel, by decide +kernel, by decide +kernel, by decide⟩
theorem zo_zm_P_state : zMok zm_P_state 2 := ⟨zmr 3071 rfl rfl, zmr 1001 rfl rfl, rfl, by decide +kernel, by decide +kernel, by decide +kernel, by decide⟩
theorem zo_zm_M_state : zMok zm_M_state 2 := ⟨zmr 5126 rfl rfl, zmr 1011 rfl rfl, rfl, by decide +kernel, by decide +kernel, by decide +kernel, by decide⟩
theorem zo_zm_P_far : zMok zm_P_far 2 := ⟨zmr 3084 rfl rfl, zmr 1001 rfl rfl, rfl, by decide +kernel, by decide +kernel, by decide +kernel, by decide⟩
theorem zo_zm_M_far : zMok zm_M_far 2 := ⟨zmr 5146 rfl rfl, zmr 1011 rfl rfl, rfl, by decide +kernel, by decide +kernel, by decide +kernel, by decide⟩
theorem zo_zm_P_turned : zMok zm_P_turned 2 := ⟨zmr 3089 rfl rfl, zmr 1001 rfl rfl, rfl, by decide +kernel, by decide +kernel, by decide +kernel, by decide⟩
theorem zo_zm_M_turned : zMok zm_M_turned 2 := ⟨zmr 5150 rfl rfl, zmr 1011 rfl rfl, rfl, by decide +kernel, by decide +kernel, by decide +kernel, by decide⟩
theorem zo_zm_P_see : zMok zm_P_see 4 := ⟨zmr 3097 rfl rfl, zmr 1001 rfl rfl, rfl, by decide +kernel, by decide +kernel, by decide +kernel, by decide⟩
theorem zo_zm_M_see : zMok zm_M_see 4 := ⟨zmr 5154 rfl rfl, zmr 1011 rfl rfl, rfl, by decide +kernel, by decide +kernel, by decide +kernel, by decide⟩
theorem zo_zm_P_unsee : zMok zm_P_unsee 1 := ⟨zmr 3113 rfl rfl, zmr 1001 rfl rfl, rfl, by decide +kernel, by decide +kernel, by decide +kernel, by decide⟩
theorem zo_zm_M_unsee : zMok zm_M_unsee 1 := ⟨zmr 5162 rfl rfl, zmr 1011 rfl rfl, rfl, by decide +kernel, by decide +kernel, by decide +kernel, by decide⟩
theorem zo_zm_P_seen : zMok zm_P_seen 2 := ⟨zmr 3126 rfl rfl, zmr 1001 rfl rfl, rfl, by decide +kernel, by decide +kernel, by decide +kernel, by decide⟩
theorem zo_zm_M_seen : zMok zm_M_seen 2 := ⟨zmr 5170 rfl rfl, zmr 1011 rfl rfl, rfl, by decide +kernel, by decide +kernel, by decide +kernel, by decide⟩
theorem zo_zm_P_forme : zMok zm_P_forme 2 := ⟨zmr 3134 rfl rfl, zmr 1001 rfl rfl, rfl, by decide +kernel, by decide +kernel, by decide +kernel, by decide⟩
theorem zo_zm_M_forme : zMok zm_M_forme 2 := ⟨zmr 5212 rfl rfl, zmr 1011 rfl rfl, rfl, by decide +kernel, by decide +kernel, by decide +kernel, by decide⟩
theorem zo_zm_P_formes : zMok zm_P_formes 1 := ⟨zmr 3222 rfl rfl, zmr 1001 rfl rfl, rfl, by decide +kernel, by decide +kernel, by decide +kernel, by decide⟩
theorem zo_zm_M_formes : zMok zm_M_formes 1 := ⟨zmr 6020 rfl rfl, zmr 1011 rfl rfl, rfl, by decide +kernel, by decide +kernel, by decide +kernel, by decide⟩
theorem zo_zm_P_order : zMok zm_P_order 1 := ⟨zmr 4035 rfl rfl, zmr 1001 rfl rfl, rfl, by decide +kernel, by decide +kernel, by decide +kernel, by decide⟩
theorem zo_zm_M_order : zMok zm_M_order 1 := ⟨zmr 5178 rfl rfl, zmr 1011 rfl rfl, rfl, by decide +kernel, by decide +kernel, by decide +kernel, by decide⟩
theorem zo_zm_M_count : zMok zm_M_count 1 := ⟨zmr 6040 rfl rfl, zmr 1011 rfl rfl, rfl, by decide +kernel, by decide +kernel, by decide +kernel, by decide⟩
theorem zo_zm_P_digest : zMok zm_P_digest 0 := ⟨zmr 4052 rfl rfl, zmr 1001 rfl rfl, rfl, by decide +kernel, by decide +kernel, by decide +kernel, by decide⟩
theorem zo_zm_M_digest : zMok zm_M_digest 0 := ⟨zmr 6048 rfl rfl, zmr 1011 rfl rfl, rfl, by decide +kernel, by decide +kernel, by decide +kernel, by decide⟩
theorem zr_0_15 : zCok 0 (15, 0, 0, zm_Text_size) := ⟨zo_zm_Text_size, fun _ => ⟨zmr 2134 rfl rfl, zmr 2024 rfl rfl, zmr 2025 rfl rfl, by decide⟩, fun h => absurd h (by decide), fun h => absurd h (by decide), fun h => absurd h (by decide)⟩
theorem zr_0_27 : zCok 0 (27, 0, 1, zm_Alignment_begin) := ⟨zo_zm_Alignment_begin, fun _ => ⟨zmr 2138 rfl rfl, zmr 2139 rfl rfl, zmr 2140 rfl rfl, by decide⟩, fun h => absurd h (by decide), fun h => absurd h (by decide), fun h => absurd h (by decide)⟩
theorem zr_0_33 : zCok 0 (33, 0, 3, zm_Aligner_fill) := ⟨zo_zm_Aligner_fill, fun _ => ⟨zmr 2142 rfl rfl, zmr 2144 rfl rfl, zmr 0 rfl rfl, by decide⟩, fun h => absurd h (by decide), fun h => absurd h (by decide), fun h => absurd h (by decide)⟩
theorem zr_0_37 : zCok 0 (37, 0, 3, zm_Aligner_trace) := ⟨zo_zm_Aligner_trace, fun _ => ⟨zmr 2158 rfl rfl, zmr 2160 rfl rfl, zmr 1 rfl rfl, by decide⟩, fun h => absurd h (by decide), fun h => absurd h (by decide), fun h => absurd h (by decide)⟩
theorem zr_0_42 : zCok 0 (42, 0, 1, zm_Text_at) := ⟨zo_zm_Text_at, fun _ => ⟨zmr 2147 rfl rfl, zmr 2064 rfl rfl, zmr 2065 rfl rfl, by decide⟩, fun h => absurd h (by decide), fun h => absurd h (by decide), fun h => absurd h (by decide)⟩
theorem zr_0_45 : zCok 0 (45, 1, 2, zm_Aligner_kindOfPair) := ⟨zo_zm_Aligner_kindOfPair, fun h => absurd h (by decide), fun _ => ⟨zmr 2148 rfl rfl, zmr 2149 rfl rfl⟩, fun h => absurd h (by decide), fun h => absurd h (by decide)⟩
theorem zr_0_55 : zCok 0 (55, 0, 1, zm_Alignment_add) := ⟨zo_zm_Alignment_add, fun _ => ⟨zmr 2162 rfl rfl, zmr 2163 rfl rfl, zmr 2164 rfl rfl, by decide⟩, fun h => absurd h (by decide), fun h => absurd h (by decide), fun h => absurd h (by decide)⟩
theorem zCo0 : ∀ e ∈ zCT0, zCok 0 e := List.forall_mem_cons.mpr ⟨zr_0_15, List.forall_mem_cons.mpr ⟨zr_0_27, List.forall_mem_cons.mpr ⟨zr_0_33, List.forall_mem_cons.mpr ⟨zr_0_37, List.forall_mem_cons.mpr ⟨zr_0_42, List.forall_mem_cons.mpr ⟨zr_0_45, List.forall_mem_cons.mpr ⟨zr_0_55, fun _ h => absurd h List.not_mem_nil⟩⟩⟩⟩⟩⟩⟩
theorem zr_1_31 : zCok 1 (31, 0, 0, zm_Alignment_length) := ⟨zo_zm_Alignment_length, fun _ => ⟨zmr 2189 rfl rfl, zmr 2178 rfl rfl, zmr 2179 rfl rfl, by decide⟩, fun h => absurd h (by decide), fun h => absurd h (by decide), fun h => absurd h (by decide)⟩
theorem zr_1_35 : zCok 1 (35, 0, 1, zm_Alignment_hasStep) := ⟨zo_zm_Alignment_hasStep, fun _ => ⟨zmr 2185 rfl rfl, zmr 2186 rfl rfl, zmr 2187 rfl rfl, by decide⟩, fun h => absurd h (by decide), fun h => absurd h (by decide), fun h => absurd h (by decide)⟩
theorem zCo1 : ∀ e ∈ zCT1, zCok 1 e := List.forall_mem_cons.mpr ⟨zr_1_31, List.forall_mem_cons.mpr ⟨zr_1_35, fun _ h => absurd h List.not_mem_nil⟩⟩
theorem zr_2_37 : zCok 2 (37, 0, 0, zm_Sight_changes) := ⟨zo_zm_Sight_changes, fun _ => ⟨zmr 3143 rfl rfl, zmr 3144 rfl rfl, zmr 3145 rfl rfl, by decide⟩, fun h => absurd h (by decide), fun h => absurd h (by decide), fun h => absurd h (by decide)⟩
theorem zr_2_43 : zCok 2 (43, 0, 0, zm_Sight_size) := ⟨zo_zm_Sight_size, fun _ => ⟨zmr 3147 rfl rfl, zmr 3103 rfl rfl, zmr 3104 rfl rfl, by decide⟩, fun h => absurd h (by decide), fun h => absurd h (by decide), fun h => absurd h (by decide)⟩
theorem zr_2_46 : zCok 2 (46, 0, 2, zm_Chrono_enter) := ⟨zo_zm_Chrono_enter, fun _ => ⟨zmr 3148 rfl rfl, zmr 3150 rfl rfl, zmr 17 rfl rfl, by decide⟩, fun h => absurd h (by decide), fun h => absurd h (by decide), fun h => absurd h (by decide)⟩
theorem zr_2_50 : zCok 2 (50, 0, 1, zm_Chrono_findCompanions) := ⟨zo_zm_Chrono_findCompanions, fun _ => ⟨zmr 3157 rfl rfl, zmr 3159 rfl rfl, zmr 18 rfl rfl, by decide⟩, fun h => absurd h (by decide), fun h => absurd h (by decide), fun h => absurd h (by decide)⟩
theorem zr_2_54 : zCok 2 (54, 0, 0, zm_Chrono_countOrders) := ⟨zo_zm_Chrono_countOrders, fun _ => ⟨zmr 3161 rfl rfl, zmr 3163 rfl rfl, zmr 19 rfl rfl, by decide⟩, fun h => absurd h (by decide), fun h => absurd h (by decide), fun h => absurd h (by decide)⟩
theorem zr_2_57 : zCok 2 (57, 0, 0, zm_Chrono_findFirst) := ⟨zo_zm_Chrono_findFirst, fun _ => ⟨zmr 3165 rfl rfl, zmr 3167 rfl rfl, zmr 20 rfl rfl, by decide⟩, fun h => absurd h (by decide), fun h => absurd h (by decide), fun h => absurd h (by decide)⟩
theorem zr_2_60 : zCok 2 (60, 0, 2, zm_Sight_get) := ⟨zo_zm_Sight_get, fun _ => ⟨zmr 3152 rfl rfl, zmr 3128 rfl rfl, zmr 3129 rfl rfl, by decide⟩, fun h => absurd h (by decide), fun h => absurd h (by decide), fun h => absurd h (by decide)⟩
theorem zr_2_64 : zCok 2 (64, 0, 2, zm_Sight_isLessWorn) := ⟨zo_zm_Sight_isLessWorn, fun _ => ⟨zmr 3153 rfl rfl, zmr 3154 rfl rfl, zmr 3155 rfl rfl, by decide⟩, fun h => absurd h (by decide), fun h => absurd h (by decide), fun h => absurd h (by decide)⟩
theorem zr_2_68 : zCok 2 (68, 0, 1, zm_Chrono_firstFree) := ⟨zo_zm_Chrono_firstFree, fun _ => ⟨zmr 3169 rfl rfl, zmr 3171 rfl rfl, zmr 21 rfl rfl, by decide⟩, fun h => absurd h (by decide), fun h => absurd h (by decide), fun h => absurd h (by decide)⟩
theorem zr_2_71 : zCok 2 (71, 1, 1, zm_Int_numberOfTrailingZeros) := ⟨zo_zm_Int_numberOfTrailingZeros, fun h => absurd h (by decide), fun _ => ⟨zmr 3173 rfl rfl, zmr 3174 rfl rfl⟩, fun h => absurd h (by decide), fun h => absurd h (by decide)⟩
theorem zr_2_76 : zCok 2 (76, 1, 1, zm_Int_bitCount) := ⟨zo_zm_Int_bitCount, fun h => absurd h (by decide), fun _ => ⟨zmr 3198 rfl rfl, zmr 3059 rfl rfl⟩, fun h => absurd h (by decide), fun h => absurd h (by decide)⟩
theorem zr_2_79 : zCok 2 (79, 0, 0, zm_Chrono_orderLength) := ⟨zo_zm_Chrono_orderLength, fun _ => ⟨zmr 3194 rfl rfl, zmr 3195 rfl rfl, zmr 3196 rfl rfl, by decide⟩, fun h => absurd h (by decide), fun h => absurd h (by decide), fun h => absurd h (by decide)⟩
theorem zr_2_82 : zCok 2 (82, 0, 1, zm_Chrono_hasPlace) := ⟨zo_zm_Chrono_hasPlace, fun _ => ⟨zmr 4044 rfl rfl, zmr 4037 rfl rfl, zmr 4038 rfl rfl, by decide⟩, fun h => absurd h (by decide), fun h => absurd h (by decide), fun h => absurd h (by decide)⟩
theorem zCo2 : ∀ e ∈ zCT2, zCok 2 e := List.forall_mem_cons.mpr ⟨zr_2_37, List.forall_mem_cons.mpr ⟨zr_2_43, List.forall_mem_cons.mpr ⟨zr_2_46, List.forall_mem_cons.mpr ⟨zr_2_50, List.forall_mem_cons.mpr ⟨zr_2_54, List.forall_mem_cons.mpr ⟨zr_2_57, List.forall_mem_cons.mpr ⟨zr_2_60, List.forall_mem_cons.mpr ⟨zr_2_64, List.forall_mem_cons.mpr ⟨zr_2_68, List.forall_mem_cons.mpr ⟨zr_2_71, List.forall_mem_cons.mpr ⟨zr_2_76, List.forall_mem_cons.mpr ⟨zr_2_79, List.forall_mem_cons.mpr ⟨zr_2_82, fun _ h => absurd h List.not_mem_nil⟩⟩⟩⟩⟩⟩⟩⟩⟩⟩⟩⟩⟩
theorem zr_3_25 : zCok 3 (25, 3, 0, zm_Aligner_init) := ⟨zo_zm_Aligner_init, fun h => absurd h (by decide), fun h => absurd h (by decide), fun h => absurd h (by decide), fun _ => ⟨List.mem_of_getElem? (i := 1) rfl, zmr 1049 rfl rfl, rfl, rfl⟩⟩
theorem zr_3_40 : zCok 3 (40, 3, 0, zm_Text_init) := ⟨zo_zm_Text_init, fun h => absurd h (by decide), fun h => absurd h (by decide), fun h => absurd h (by decide), fun _ => ⟨List.mem_of_getElem? (i := 2) rfl, zmr 1025 rfl rfl, rfl, rfl⟩⟩
theorem zr_3_41 : zCok 3 (41, 3, 0, zm_Alignment_init) := ⟨zo_zm_Alignment_init, fun h => absurd h (by decide), fun h => absurd h (by decide), fun h => absurd h (by decide), fun _ => ⟨List.mem_of_getElem? (i := 3) rfl, zmr 1059 rfl rfl, rfl, rfl⟩⟩
theorem zr_3_42 : zCok 3 (42, 0, 1, zm_Coll_has) := ⟨zo_zm_Coll_has, fun _ => ⟨zmr 2084 rfl rfl, zmr 2077 rfl rfl, zmr 2078 rfl rfl, by decide⟩, fun h => absurd h (by decide), fun h => absurd h (by decide), fun h => absurd h (by decide)⟩
theorem zr_3_52 : zCok 3 (52, 0, 1, zm_Text_takeFrom) := ⟨zo_zm_Text_takeFrom, fun _ => ⟨zmr 2058 rfl rfl, zmr 2059 rfl rfl, zmr 2060 rfl rfl, by decide⟩, fun h => absurd h (by decide), fun h => absurd h (by decide), fun h => absurd h (by decide)⟩
theorem zr_3_56 : zCok 3 (56, 0, 0, zm_Alignment_forget) := ⟨zo_zm_Alignment_forget, fun _ => ⟨zmr 2068 rfl rfl, zmr 2069 rfl rfl, zmr 2070 rfl rfl, by decide⟩, fun h => absurd h (by decide), fun h => absurd h (by decide), fun h => absurd h (by decide)⟩
theorem zr_3_59 : zCok 3 (59, 0, 0, zm_Text_clear) := ⟨zo_zm_Text_clear, fun _ => ⟨zmr 2093 rfl rfl, zmr 2036 rfl rfl, zmr 2037 rfl rfl, by decide⟩, fun h => absurd h (by decide), fun h => absurd h (by decide), fun h => absurd h (by decide)⟩
theorem zr_3_62 : zCok 3 (62, 0, 0, zm_Alignment_isKnown) := ⟨zo_zm_Alignment_isKnown, fun _ => ⟨zmr 2125 rfl rfl, zmr 2126 rfl rfl, zmr 2127 rfl rfl, by decide⟩, fun h => absurd h (by decide), fun h => absurd h (by decide), fun h => absurd h (by decide)⟩
theorem zr_3_66 : zCok 3 (66, 0, 1, zm_Coll_text) := ⟨zo_zm_Coll_text, fun _ => ⟨zmr 2129 rfl rfl, zmr 2081 rfl rfl, zmr 2082 rfl rfl, by decide⟩, fun h => absurd h (by decide), fun h => absurd h (by decide), fun h => absurd h (by decide)⟩
theorem zr_3_70 : zCok 3 (70, 0, 4, zm_Aligner_align) := ⟨zo_zm_Aligner_align, fun _ => ⟨zmr 2130 rfl rfl, zmr 2131 rfl rfl, zmr 2132 rfl rfl, by decide⟩, fun h => absurd h (by decide), fun h => absurd h (by decide), fun h => absurd h (by decide)⟩
theorem zCo3 : ∀ e ∈ zCT3, zCok 3 e := List.forall_mem_cons.mpr ⟨zr_3_25, List.forall_mem_cons.mpr ⟨zr_3_40, List.forall_mem_cons.mpr ⟨zr_3_41, List.forall_mem_cons.mpr ⟨zr_3_42, List.forall_mem_cons.mpr ⟨zr_3_52, List.forall_mem_cons.mpr ⟨zr_3_56, List.forall_mem_cons.mpr ⟨zr_3_59, List.forall_mem_cons.mpr ⟨zr_3_62, List.forall_mem_cons.mpr ⟨zr_3_66, List.forall_mem_cons.mpr ⟨zr_3_70, fun _ h => absurd h List.not_mem_nil⟩⟩⟩⟩⟩⟩⟩⟩⟩⟩
theorem zr_4_34 : zCok 4 (34, 0, 0, zm_Sight_changes) := ⟨zo_zm_Sight_changes, fun _ => ⟨zmr 3239 rfl rfl, zmr 3144 rfl rfl, zmr 3145 rfl rfl, by decide⟩, fun h => absurd h (by decide), fun h => absurd h (by decide), fun h => absurd h (by decide)⟩
theorem zr_4_40 : zCok 4 (40, 0, 1, zm_Fault_findPairs) := ⟨zo_zm_Fault_findPairs, fun _ => ⟨zmr 4000 rfl rfl, zmr 4002 rfl rfl, zmr 23 rfl rfl, by decide⟩, fun h => absurd h (by decide), fun h => absurd h (by decide), fun h => absurd h (by decide)⟩
theorem zr_4_44 : zCok 4 (44, 0, 0, zm_Sight_size) := ⟨zo_zm_Sight_size, fun _ => ⟨zmr 4004 rfl rfl, zmr 3103 rfl rfl, zmr 3104 rfl rfl, by decide⟩, fun h => absurd h (by decide), fun h => absurd h (by decide), fun h => absurd h (by decide)⟩
theorem zr_4_47 : zCok 4 (47, 0, 1, zm_Fault_search) := ⟨zo_zm_Fault_search, fun _ => ⟨zmr 4007 rfl rfl, zmr 4009 rfl rfl, zmr 24 rfl rfl, by decide⟩, fun h => absurd h (by decide), fun h => absurd h (by decide), fun h => absurd h (by decide)⟩
theorem zr_4_51 : zCok 4 (51, 0, 2, zm_Sight_isLessWorn) := ⟨zo_zm_Sight_isLessWorn, fun _ => ⟨zmr 4005 rfl rfl, zmr 3154 rfl rfl, zmr 3155 rfl rfl, by decide⟩, fun h => absurd h (by decide), fun h => absurd h (by decide), fun h => absurd h (by decide)⟩
theorem zr_4_55 : zCok 4 (55, 0, 2, zm_Sight_get) := ⟨zo_zm_Sight_get, fun _ => ⟨zmr 4006 rfl rfl, zmr 3128 rfl rfl, zmr 3129 rfl rfl, by decide⟩, fun h => absurd h (by decide), fun h => absurd h (by decide), fun h => absurd h (by decide)⟩
theorem zr_4_59 : zCok 4 (59, 1, 1, zm_Int_bitCount) := ⟨zo_zm_Int_bitCount, fun h => absurd h (by decide), fun _ => ⟨zmr 4011 rfl rfl, zmr 3059 rfl rfl⟩, fun h => absurd h (by decide), fun h => absurd h (by decide)⟩
theorem zr_4_65 : zCok 4 (65, 0, 1, zm_Fault_hasOrderWithout) := ⟨zo_zm_Fault_hasOrderWithout, fun _ => ⟨zmr 4012 rfl rfl, zmr 4014 rfl rfl, zmr 25 rfl rfl, by decide⟩, fun h => absurd h (by decide), fun h => absurd h (by decide), fun h => absurd h (by decide)⟩
theorem zr_4_69 : zCok 4 (69, 0, 0, zm_Fault_hasNoCycle) := ⟨zo_zm_Fault_hasNoCycle, fun _ => ⟨zmr 4016 rfl rfl, zmr 4018 rfl rfl, zmr 26 rfl rfl, by decide⟩, fun h => absurd h (by decide), fun h => absurd h (by decide), fun h => absurd h (by decide)⟩
theorem zCo4 : ∀ e ∈ zCT4, zCok 4 e := List.forall_mem_cons.mpr ⟨zr_4_34, List.forall_mem_cons.mpr ⟨zr_4_40, List.forall_mem_cons.mpr ⟨zr_4_44, List.forall_mem_cons.mpr ⟨zr_4_47, List.forall_mem_cons.mpr ⟨zr_4_51, List.forall_mem_cons.mpr ⟨zr_4_55, List.forall_mem_cons.mpr ⟨zr_4_59, List.forall_mem_cons.mpr ⟨zr_4_65, List.forall_mem_cons.mpr ⟨zr_4_69, fun _ h => absurd h List.not_mem_nil⟩⟩⟩⟩⟩⟩⟩⟩⟩
theorem zr_5_22 : zCok 5 (22, 0, 0, zm_Chrono_builtFor) := ⟨zo_zm_Chrono_builtFor, fun _ => ⟨zmr 3203 rfl rfl, zmr 3204 rfl rfl, zmr 3205 rfl rfl, by decide⟩, fun h => absurd h (by decide), fun h => absurd h (by decide), fun h => absurd h (by decide)⟩
theorem zr_5_27 : zCok 5 (27, 1, 4, zm_Presses_assign) := ⟨zo_zm_Presses_assign, fun h => absurd h (by decide), fun _ => ⟨zmr 3207 rfl rfl, zmr 3208 rfl rfl⟩, fun h => absurd h (by decide), fun h => absurd h (by decide)⟩
theorem zr_5_31 : zCok 5 (31, 0, 1, zm_Chrono_typesOn) := ⟨zo_zm_Chrono_typesOn, fun _ => ⟨zmr 3210 rfl rfl, zmr 3178 rfl rfl, zmr 3179 rfl rfl, by decide⟩, fun h => absurd h (by decide), fun h => absurd h (by decide), fun h => absurd h (by decide)⟩
theorem zr_5_35 : zCok 5 (35, 1, 3, zm_Presses_fits) := ⟨zo_zm_Presses_fits, fun h => absurd h (by decide), fun _ => ⟨zmr 3211 rfl rfl, zmr 3212 rfl rfl⟩, fun h => absurd h (by decide), fun h => absurd h (by decide)⟩
theorem zr_5_39 : zCok 5 (39, 0, 1, zm_Chrono_companionsOf) := ⟨zo_zm_Chrono_companionsOf, fun _ => ⟨zmr 3214 rfl rfl, zmr 3187 rfl rfl, zmr 3188 rfl rfl, by decide⟩, fun h => absurd h (by decide), fun h => absurd h (by decide), fun h => absurd h (by decide)⟩
theorem zCo5 : ∀ e ∈ zCT5, zCok 5 e := List.forall_mem_cons.mpr ⟨zr_5_22, List.forall_mem_cons.mpr ⟨zr_5_27, List.forall_mem_cons.mpr ⟨zr_5_31, List.forall_mem_cons.mpr ⟨zr_5_35, List.forall_mem_cons.mpr ⟨zr_5_39, fun _ h => absurd h List.not_mem_nil⟩⟩⟩⟩⟩
theorem zr_6_23 : zCok 6 (23, 0, 1, zm_Sight_has) := ⟨zo_zm_Sight_has, fun _ => ⟨zmr 3122 rfl rfl, zmr 3115 rfl rfl, zmr 3116 rfl rfl, by decide⟩, fun h => absurd h (by decide), fun h => absurd h (by decide), fun h => absurd h (by decide)⟩
theorem zCo6 : ∀ e ∈ zCT6, zCok 6 e := List.forall_mem_cons.mpr ⟨zr_6_23, fun _ h => absurd h List.not_mem_nil⟩
theorem zr_7_51 : zCok 7 (51, 0, 0, zm_Coll_changes) := ⟨zo_zm_Coll_changes, fun _ => ⟨zmr 2114 rfl rfl, zmr 2115 rfl rfl, zmr 2116 rfl rfl, by decide⟩, fun h => absurd h (by decide), fun h => absurd h (by decide), fun h => absurd h (by decide)⟩
theorem zr_7_57 : zCok 7 (57, 0, 0, zm_Coll_size) := ⟨zo_zm_Coll_size, fun _ => ⟨zmr 2118 rfl rfl, zmr 2048 rfl rfl, zmr 2049 rfl rfl, by decide⟩, fun h => absurd h (by decide), fun h => absurd h (by decide), fun h => absurd h (by decide)⟩
theorem zr_7_59 : zCok 7 (59, 0, 1, zm_Coll_text) := ⟨zo_zm_Coll_text, fun _ => ⟨zmr 2119 rfl rfl, zmr 2081 rfl rfl, zmr 2082 rfl rfl, by decide⟩, fun h => absurd h (by decide), fun h => absurd h (by decide), fun h => absurd h (by decide)⟩
theorem zr_7_63 : zCok 7 (63, 0, 0, zm_Text_size) := ⟨zo_zm_Text_size, fun _ => ⟨zmr 2120 rfl rfl, zmr 2024 rfl rfl, zmr 2025 rfl rfl, by decide⟩, fun h => absurd h (by decide), fun h => absurd h (by decide), fun h => absurd h (by decide)⟩
theorem zr_7_66 : zCok 7 (66, 0, 2, zm_Coll_best) := ⟨zo_zm_Coll_best, fun _ => ⟨zmr 2121 rfl rfl, zmr 2122 rfl rfl, zmr 2123 rfl rfl, by decide⟩, fun h => absurd h (by decide), fun h => absurd h (by decide), fun h => absurd h (by decide)⟩
theorem zr_7_70 : zCok 7 (70, 0, 0, zm_Alignment_isFound) := ⟨zo_zm_Alignment_isFound, fun _ => ⟨zmr 2169 rfl rfl, zmr 2170 rfl rfl, zmr 2171 rfl rfl, by decide⟩, fun h => absurd h (by decide), fun h => absurd h (by decide), fun h => absurd h (by decide)⟩
theorem zr_7_76 : zCok 7 (76, 0, 3, zm_Stemma_read) := ⟨zo_zm_Stemma_read, fun _ => ⟨zmr 2173 rfl rfl, zmr 2175 rfl rfl, zmr 2 rfl rfl, by decide⟩, fun h => absurd h (by decide), fun h => absurd h (by decide), fun h => absurd h (by decide)⟩
theorem zr_7_80 : zCok 7 (80, 0, 1, zm_Stemma_group) := ⟨zo_zm_Stemma_group, fun _ => ⟨zmr 2191 rfl rfl, zmr 2193 rfl rfl, zmr 3 rfl rfl, by decide⟩, fun h => absurd h (by decide), fun h => absurd h (by decide), fun h => absurd h (by decide)⟩
theorem zr_7_84 : zCok 7 (84, 0, 0, zm_Stemma_connect) := ⟨zo_zm_Stemma_connect, fun _ => ⟨zmr 2203 rfl rfl, zmr 2205 rfl rfl, zmr 4 rfl rfl, by decide⟩, fun h => absurd h (by decide), fun h => absurd h (by decide), fun h => absurd h (by decide)⟩
theorem zr_7_87 : zCok 7 (87, 0, 0, zm_Stemma_findReverted) := ⟨zo_zm_Stemma_findReverted, fun _ => ⟨zmr 2219 rfl rfl, zmr 2221 rfl rfl, zmr 6 rfl rfl, by decide⟩, fun h => absurd h (by decide), fun h => absurd h (by decide), fun h => absurd h (by decide)⟩
theorem zr_7_90 : zCok 7 (90, 0, 0, zm_Alignment_length) := ⟨zo_zm_Alignment_length, fun _ => ⟨zmr 2177 rfl rfl, zmr 2178 rfl rfl, zmr 2179 rfl rfl, by decide⟩, fun h => absurd h (by decide), fun h => absurd h (by decide), fun h => absurd h (by decide)⟩
theorem zr_7_93 : zCok 7 (93, 0, 1, zm_Alignment_stepAt) := ⟨zo_zm_Alignment_stepAt, fun _ => ⟨zmr 2181 rfl rfl, zmr 2182 rfl rfl, zmr 2183 rfl rfl, by decide⟩, fun h => absurd h (by decide), fun h => absurd h (by decide), fun h => absurd h (by decide)⟩
theorem zr_7_97 : zCok 7 (97, 0, 1, zm_Text_at) := ⟨zo_zm_Text_at, fun _ => ⟨zmr 2190 rfl rfl, zmr 2064 rfl rfl, zmr 2065 rfl rfl, by decide⟩, fun h => absurd h (by decide), fun h => absurd h (by decide), fun h => absurd h (by decide)⟩
theorem zr_7_100 : zCok 7 (100, 0, 2, zm_Stemma_differences) := ⟨zo_zm_Stemma_differences, fun _ => ⟨zmr 2195 rfl rfl, zmr 2196 rfl rfl, zmr 2197 rfl rfl, by decide⟩, fun h => absurd h (by decide), fun h => absurd h (by decide), fun h => absurd h (by decide)⟩
theorem zr_7_104 : zCok 7 (104, 0, 1, zm_Stemma_joinNearest) := ⟨zo_zm_Stemma_joinNearest, fun _ => ⟨zmr 2207 rfl rfl, zmr 2209 rfl rfl, zmr 5 rfl rfl, by decide⟩, fun h => absurd h (by decide), fun h => absurd h (by decide), fun h => absurd h (by decide)⟩
theorem zr_7_107 : zCok 7 (107, 0, 2, zm_Stemma_distance) := ⟨zo_zm_Stemma_distance, fun _ => ⟨zmr 2211 rfl rfl, zmr 2212 rfl rfl, zmr 2213 rfl rfl, by decide⟩, fun h => absurd h (by decide), fun h => absurd h (by decide), fun h => absurd h (by decide)⟩
theorem zr_7_110 : zCok 7 (110, 0, 2, zm_Stemma_goesBack) := ⟨zo_zm_Stemma_goesBack, fun _ => ⟨zmr 2223 rfl rfl, zmr 2225 rfl rfl, zmr 7 rfl rfl, by decide⟩, fun h => absurd h (by decide), fun h => absurd h (by decide), fun h => absurd h (by decide)⟩
theorem zr_7_114 : zCok 7 (114, 0, 2, zm_Stemma_readingOfState) := ⟨zo_zm_Stemma_readingOfState, fun _ => ⟨zmr 2227 rfl rfl, zmr 2229 rfl rfl, zmr 8 rfl rfl, by decide⟩, fun h => absurd h (by decide), fun h => absurd h (by decide), fun h => absurd h (by decide)⟩
theorem zr_7_117 : zCok 7 (117, 0, 1, zm_Stemma_parentOf) := ⟨zo_zm_Stemma_parentOf, fun _ => ⟨zmr 2231 rfl rfl, zmr 2233 rfl rfl, zmr 9 rfl rfl, by decide⟩, fun h => absurd h (by decide), fun h => absurd h (by decide), fun h => absurd h (by decide)⟩
theorem zr_7_120 : zCok 7 (120, 0, 1, zm_Stemma_stateOfCopy) := ⟨zo_zm_Stemma_stateOfCopy, fun _ => ⟨zmr 3003 rfl rfl, zmr 3004 rfl rfl, zmr 3005 rfl rfl, by decide⟩, fun h => absurd h (by decide), fun h => absurd h (by decide), fun h => absurd h (by decide)⟩
theorem zr_7_122 : zCok 7 (122, 0, 2, zm_Stemma_readingAt) := ⟨zo_zm_Stemma_readingAt, fun _ => ⟨zmr 2199 rfl rfl, zmr 2200 rfl rfl, zmr 2201 rfl rfl, by decide⟩, fun h => absurd h (by decide), fun h => absurd h (by decide), fun h => absurd h (by decide)⟩
theorem zr_7_125 : zCok 7 (125, 0, 1, zm_Stemma_has) := ⟨zo_zm_Stemma_has, fun _ => ⟨zmr 2215 rfl rfl, zmr 2216 rfl rfl, zmr 2217 rfl rfl, by decide⟩, fun h => absurd h (by decide), fun h => absurd h (by decide), fun h => absurd h (by decide)⟩
theorem zr_7_129 : zCok 7 (129, 0, 1, zm_Stemma_ancestors) := ⟨zo_zm_Stemma_ancestors, fun _ => ⟨zmr 3077 rfl rfl, zmr 3079 rfl rfl, zmr 15 rfl rfl, by decide⟩, fun h => absurd h (by decide), fun h => absurd h (by decide), fun h => absurd h (by decide)⟩
theorem zr_7_132 : zCok 7 (132, 1, 1, zm_Int_bitCount) := ⟨zo_zm_Int_bitCount, fun h => absurd h (by decide), fun _ => ⟨zmr 3058 rfl rfl, zmr 3059 rfl rfl⟩, fun h => absurd h (by decide), fun h => absurd h (by decide)⟩
theorem zr_7_137 : zCok 7 (137, 0, 0, zm_Stemma_length) := ⟨zo_zm_Stemma_length, fun _ => ⟨zmr 3046 rfl rfl, zmr 3048 rfl rfl, zmr 11 rfl rfl, by decide⟩, fun h => absurd h (by decide), fun h => absurd h (by decide), fun h => absurd h (by decide)⟩
theorem zr_7_138 : zCok 7 (138, 0, 0, zm_Stemma_variedPlaces) := ⟨zo_zm_Stemma_variedPlaces, fun _ => ⟨zmr 3050 rfl rfl, zmr 3052 rfl rfl, zmr 12 rfl rfl, by decide⟩, fun h => absurd h (by decide), fun h => absurd h (by decide), fun h => absurd h (by decide)⟩
theorem zr_7_141 : zCok 7 (141, 0, 0, zm_Stemma_reversions) := ⟨zo_zm_Stemma_reversions, fun _ => ⟨zmr 3054 rfl rfl, zmr 3056 rfl rfl, zmr 13 rfl rfl, by decide⟩, fun h => absurd h (by decide), fun h => absurd h (by decide), fun h => absurd h (by decide)⟩
theorem zr_7_144 : zCok 7 (144, 0, 0, zm_Stemma_leaves) := ⟨zo_zm_Stemma_leaves, fun _ => ⟨zmr 3064 rfl rfl, zmr 3066 rfl rfl, zmr 14 rfl rfl, by decide⟩, fun h => absurd h (by decide), fun h => absurd h (by decide), fun h => absurd h (by decide)⟩
theorem zCo7 : ∀ e ∈ zCT7, zCok 7 e := List.forall_mem_cons.mpr ⟨zr_7_51, List.forall_mem_cons.mpr ⟨zr_7_57, List.forall_mem_cons.mpr ⟨zr_7_59, List.forall_mem_cons.mpr ⟨zr_7_63, List.forall_mem_cons.mpr ⟨zr_7_66, List.forall_mem_cons.mpr ⟨zr_7_70, List.forall_mem_cons.mpr ⟨zr_7_76, List.forall_mem_cons.mpr ⟨zr_7_80, List.forall_mem_cons.mpr ⟨zr_7_84, List.forall_mem_cons.mpr ⟨zr_7_87, List.forall_mem_cons.mpr ⟨zr_7_90, List.forall_mem_cons.mpr ⟨zr_7_93, List.forall_mem_cons.mpr ⟨zr_7_97, List.forall_mem_cons.mpr ⟨zr_7_100, List.forall_mem_cons.mpr ⟨zr_7_104, List.forall_mem_cons.mpr ⟨zr_7_107, List.forall_mem_cons.mpr ⟨zr_7_110, List.forall_mem_cons.mpr ⟨zr_7_114, List.forall_mem_cons.mpr ⟨zr_7_117, List.forall_mem_cons.mpr ⟨zr_7_120, List.forall_mem_cons.mpr ⟨zr_7_122, List.forall_mem_cons.mpr ⟨zr_7_125, List.forall_mem_cons.mpr ⟨zr_7_129, List.forall_mem_cons.mpr ⟨zr_7_132, List.forall_mem_cons.mpr ⟨zr_7_137, List.forall_mem_cons.mpr ⟨zr_7_138, List.forall_mem_cons.mpr ⟨zr_7_141, List.forall_mem_cons.mpr ⟨zr_7_144, fun _ h => absurd h List.not_mem_nil⟩⟩⟩⟩⟩⟩⟩⟩⟩⟩⟩⟩⟩⟩⟩⟩⟩⟩⟩⟩⟩⟩⟩⟩⟩⟩⟩⟩
theorem zr_8_19 : zCok 8 (19, 0, 0, zm_Text_size) := ⟨zo_zm_Text_size, fun _ => ⟨zmr 2062 rfl rfl, zmr 2024 rfl rfl, zmr 2025 rfl rfl, by decide⟩, fun h => absurd h (by decide), fun h => absurd h (by decide), fun h => absurd h (by decide)⟩
theorem zr_8_23 : zCok 8 (23, 0, 1, zm_Text_at) := ⟨zo_zm_Text_at, fun _ => ⟨zmr 2063 rfl rfl, zmr 2064 rfl rfl, zmr 2065 rfl rfl, by decide⟩, fun h => absurd h (by decide), fun h => absurd h (by decide), fun h => absurd h (by decide)⟩
theorem zr_8_27 : zCok 8 (27, 0, 1, zm_Text_append) := ⟨zo_zm_Text_append, fun _ => ⟨zmr 2067 rfl rfl, zmr 2028 rfl rfl, zmr 2029 rfl rfl, by decide⟩, fun h => absurd h (by decide), fun h => absurd h (by decide), fun h => absurd h (by decide)⟩
theorem zCo8 : ∀ e ∈ zCT8, zCok 8 e := List.forall_mem_cons.mpr ⟨zr_8_19, List.forall_mem_cons.mpr ⟨zr_8_23, List.forall_mem_cons.mpr ⟨zr_8_27, fun _ h => absurd h List.not_mem_nil⟩⟩⟩
theorem zr_9_9 : zCok 9 (9, 3, 0, zm_Text_init) := ⟨zo_zm_Text_init, fun h => absurd h (by decide), fun h => absurd h (by decide), fun h => absurd h (by decide), fun _ => ⟨List.mem_of_getElem? (i := 0) rfl, zmr 1025 rfl rfl, rfl, rfl⟩⟩
theorem zr_9_18 : zCok 9 (18, 2, 0, zm_Coll_init) := ⟨zo_zm_Coll_init, fun h => absurd h (by decide), fun h => absurd h (by decide), fun _ => ⟨zmr 1038 rfl rfl, zmr 1039 rfl rfl, rfl, rfl⟩, fun h => absurd h (by decide)⟩
theorem zr_9_25 : zCok 9 (25, 3, 0, zm_Stemma_init) := ⟨zo_zm_Stemma_init, fun h => absurd h (by decide), fun h => absurd h (by decide), fun h => absurd h (by decide), fun _ => ⟨List.mem_of_getElem? (i := 4) rfl, zmr 1097 rfl rfl, rfl, rfl⟩⟩
theorem zr_9_32 : zCok 9 (32, 3, 0, zm_Sight_init) := ⟨zo_zm_Sight_init, fun h => absurd h (by decide), fun h => absurd h (by decide), fun h => absurd h (by decide), fun _ => ⟨List.mem_of_getElem? (i := 5) rfl, zmr 1142 rfl rfl, rfl, rfl⟩⟩
theorem zr_9_39 : zCok 9 (39, 3, 0, zm_Chrono_init) := ⟨zo_zm_Chrono_init, fun h => absurd h (by decide), fun h => absurd h (by decide), fun h => absurd h (by decide), fun _ => ⟨List.mem_of_getElem? (i := 6) rfl, zmr 1159 rfl rfl, rfl, rfl⟩⟩
theorem zr_9_46 : zCok 9 (46, 3, 0, zm_Fault_init) := ⟨zo_zm_Fault_init, fun h => absurd h (by decide), fun h => absurd h (by decide), fun h => absurd h (by decide), fun _ => ⟨List.mem_of_getElem? (i := 7) rfl, zmr 1190 rfl rfl, rfl, rfl⟩⟩
theorem zr_9_53 : zCok 9 (53, 3, 0, zm_Presses_init) := ⟨zo_zm_Presses_init, fun h => absurd h (by decide), fun h => absurd h (by decide), fun h => absurd h (by decide), fun _ => ⟨List.mem_of_getElem? (i := 8) rfl, zmr 1218 rfl rfl, rfl, rfl⟩⟩
theorem zr_9_65 : zCok 9 (65, 0, 0, zm_Text_size) := ⟨zo_zm_Text_size, fun _ => ⟨zmr 2023 rfl rfl, zmr 2024 rfl rfl, zmr 2025 rfl rfl, by decide⟩, fun h => absurd h (by decide), fun h => absurd h (by decide), fun h => absurd h (by decide)⟩
theorem zr_9_69 : zCok 9 (69, 0, 1, zm_Text_append) := ⟨zo_zm_Text_append, fun _ => ⟨zmr 2027 rfl rfl, zmr 2028 rfl rfl, zmr 2029 rfl rfl, by decide⟩, fun h => absurd h (by decide), fun h => absurd h (by decide), fun h => absurd h (by decide)⟩
theorem zr_9_73 : zCok 9 (73, 0, 0, zm_Text_clear) := ⟨zo_zm_Text_clear, fun _ => ⟨zmr 2035 rfl rfl, zmr 2036 rfl rfl, zmr 2037 rfl rfl, by decide⟩, fun h => absurd h (by decide), fun h => absurd h (by decide), fun h => absurd h (by decide)⟩
theorem zr_9_76 : zCok 9 (76, 0, 0, zm_Text_isWord) := ⟨zo_zm_Text_isWord, fun _ => ⟨zmr 2043 rfl rfl, zmr 2044 rfl rfl, zmr 2045 rfl rfl, by decide⟩, fun h => absurd h (by decide), fun h => absurd h (by decide), fun h => absurd h (by decide)⟩
theorem zr_9_80 : zCok 9 (80, 0, 0, zm_Coll_size) := ⟨zo_zm_Coll_size, fun _ => ⟨zmr 2047 rfl rfl, zmr 2048 rfl rfl, zmr 2049 rfl rfl, by decide⟩, fun h => absurd h (by decide), fun h => absurd h (by decide), fun h => absurd h (by decide)⟩
theorem zr_9_81 : zCok 9 (81, 0, 2, zm_Coll_put) := ⟨zo_zm_Coll_put, fun _ => ⟨zmr 2051 rfl rfl, zmr 2052 rfl rfl, zmr 2053 rfl rfl, by decide⟩, fun h => absurd h (by decide), fun h => absurd h (by decide), fun h => absurd h (by decide)⟩
theorem zr_9_85 : zCok 9 (85, 0, 1, zm_Coll_has) := ⟨zo_zm_Coll_has, fun _ => ⟨zmr 2076 rfl rfl, zmr 2077 rfl rfl, zmr 2078 rfl rfl, by decide⟩, fun h => absurd h (by decide), fun h => absurd h (by decide), fun h => absurd h (by decide)⟩
theorem zr_9_89 : zCok 9 (89, 0, 1, zm_Coll_text) := ⟨zo_zm_Coll_text, fun _ => ⟨zmr 2080 rfl rfl, zmr 2081 rfl rfl, zmr 2082 rfl rfl, by decide⟩, fun h => absurd h (by decide), fun h => absurd h (by decide), fun h => absurd h (by decide)⟩
theorem zr_9_93 : zCok 9 (93, 0, 0, zm_Coll_removeLast) := ⟨zo_zm_Coll_removeLast, fun _ => ⟨zmr 2089 rfl rfl, zmr 2090 rfl rfl, zmr 2091 rfl rfl, by decide⟩, fun h => absurd h (by decide), fun h => absurd h (by decide), fun h => absurd h (by decide)⟩
theorem zr_9_96 : zCok 9 (96, 0, 0, zm_Coll_reach) := ⟨zo_zm_Coll_reach, fun _ => ⟨zmr 2098 rfl rfl, zmr 2099 rfl rfl, zmr 2100 rfl rfl, by decide⟩, fun h => absurd h (by decide), fun h => absurd h (by decide), fun h => absurd h (by decide)⟩
theorem zr_9_99 : zCok 9 (99, 0, 1, zm_Coll_setReach) := ⟨zo_zm_Coll_setReach, fun _ => ⟨zmr 2102 rfl rfl, zmr 2103 rfl rfl, zmr 2104 rfl rfl, by decide⟩, fun h => absurd h (by decide), fun h => absurd h (by decide), fun h => absurd h (by decide)⟩
theorem zr_9_102 : zCok 9 (102, 0, 1, zm_Stemma_build) := ⟨zo_zm_Stemma_build, fun _ => ⟨zmr 2110 rfl rfl, zmr 2111 rfl rfl, zmr 2112 rfl rfl, by decide⟩, fun h => absurd h (by decide), fun h => absurd h (by decide), fun h => absurd h (by decide)⟩
theorem zr_9_106 : zCok 9 (106, 0, 2, zm_P_describeCopy) := ⟨zo_zm_P_describeCopy, fun _ => ⟨zmr 2235 rfl rfl, zmr 2237 rfl rfl, zmr 10 rfl rfl, by decide⟩, fun h => absurd h (by decide), fun h => absurd h (by decide), fun h => absurd h (by decide)⟩
theorem zr_9_110 : zCok 9 (110, 0, 1, zm_Text_has) := ⟨zo_zm_Text_has, fun _ => ⟨zmr 3018 rfl rfl, zmr 3019 rfl rfl, zmr 3020 rfl rfl, by decide⟩, fun h => absurd h (by decide), fun h => absurd h (by decide), fun h => absurd h (by decide)⟩
theorem zr_9_111 : zCok 9 (111, 0, 1, zm_Text_at) := ⟨zo_zm_Text_at, fun _ => ⟨zmr 3022 rfl rfl, zmr 2064 rfl rfl, zmr 2065 rfl rfl, by decide⟩, fun h => absurd h (by decide), fun h => absurd h (by decide), fun h => absurd h (by decide)⟩
theorem zr_9_115 : zCok 9 (115, 0, 2, zm_Coll_best) := ⟨zo_zm_Coll_best, fun _ => ⟨zmr 3008 rfl rfl, zmr 2122 rfl rfl, zmr 2123 rfl rfl, by decide⟩, fun h => absurd h (by decide), fun h => absurd h (by decide), fun h => absurd h (by decide)⟩
theorem zr_9_119 : zCok 9 (119, 0, 1, zm_Alignment_tally) := ⟨zo_zm_Alignment_tally, fun _ => ⟨zmr 3009 rfl rfl, zmr 3010 rfl rfl, zmr 3011 rfl rfl, by decide⟩, fun h => absurd h (by decide), fun h => absurd h (by decide), fun h => absurd h (by decide)⟩
theorem zr_9_124 : zCok 9 (124, 0, 1, zm_Alignment_hasStep) := ⟨zo_zm_Alignment_hasStep, fun _ => ⟨zmr 3031 rfl rfl, zmr 2186 rfl rfl, zmr 2187 rfl rfl, by decide⟩, fun h => absurd h (by decide), fun h => absurd h (by decide), fun h => absurd h (by decide)⟩
theorem zr_9_127 : zCok 9 (127, 0, 1, zm_Alignment_stepAt) := ⟨zo_zm_Alignment_stepAt, fun _ => ⟨zmr 3032 rfl rfl, zmr 2182 rfl rfl, zmr 2183 rfl rfl, by decide⟩, fun h => absurd h (by decide), fun h => absurd h (by decide), fun h => absurd h (by decide)⟩
theorem zr_9_130 : zCok 9 (130, 0, 1, zm_Stemma_isExcluded) := ⟨zo_zm_Stemma_isExcluded, fun _ => ⟨zmr 2239 rfl rfl, zmr 3000 rfl rfl, zmr 3001 rfl rfl, by decide⟩, fun h => absurd h (by decide), fun h => absurd h (by decide), fun h => absurd h (by decide)⟩
theorem zr_9_133 : zCok 9 (133, 0, 2, zm_Stemma_readingAt) := ⟨zo_zm_Stemma_readingAt, fun _ => ⟨zmr 3037 rfl rfl, zmr 2200 rfl rfl, zmr 2201 rfl rfl, by decide⟩, fun h => absurd h (by decide), fun h => absurd h (by decide), fun h => absurd h (by decide)⟩
theorem zr_9_136 : zCok 9 (136, 0, 1, zm_Stemma_describeAll) := ⟨zo_zm_Stemma_describeAll, fun _ => ⟨zmr 3042 rfl rfl, zmr 3043 rfl rfl, zmr 3044 rfl rfl, by decide⟩, fun h => absurd h (by decide), fun h => absurd h (by decide), fun h => absurd h (by decide)⟩
theorem zr_9_139 : zCok 9 (139, 0, 1, zm_Stemma_has) := ⟨zo_zm_Stemma_has, fun _ => ⟨zmr 3072 rfl rfl, zmr 2216 rfl rfl, zmr 2217 rfl rfl, by decide⟩, fun h => absurd h (by decide), fun h => absurd h (by decide), fun h => absurd h (by decide)⟩
theorem zr_9_140 : zCok 9 (140, 0, 2, zm_Stemma_describe) := ⟨zo_zm_Stemma_describe, fun _ => ⟨zmr 3073 rfl rfl, zmr 3074 rfl rfl, zmr 3075 rfl rfl, by decide⟩, fun h => absurd h (by decide), fun h => absurd h (by decide), fun h => absurd h (by decide)⟩
theorem zr_9_143 : zCok 9 (143, 0, 2, zm_Stemma_distance) := ⟨zo_zm_Stemma_distance, fun _ => ⟨zmr 3085 rfl rfl, zmr 2212 rfl rfl, zmr 2213 rfl rfl, by decide⟩, fun h => absurd h (by decide), fun h => absurd h (by decide), fun h => absurd h (by decide)⟩
theorem zr_9_146 : zCok 9 (146, 0, 2, zm_Stemma_isReverted) := ⟨zo_zm_Stemma_isReverted, fun _ => ⟨zmr 3090 rfl rfl, zmr 3091 rfl rfl, zmr 3092 rfl rfl, by decide⟩, fun h => absurd h (by decide), fun h => absurd h (by decide), fun h => absurd h (by decide)⟩
theorem zr_9_150 : zCok 9 (150, 0, 3, zm_Sight_clash) := ⟨zo_zm_Sight_clash, fun _ => ⟨zmr 3098 rfl rfl, zmr 3099 rfl rfl, zmr 3100 rfl rfl, by decide⟩, fun h => absurd h (by decide), fun h => absurd h (by decide), fun h => absurd h (by decide)⟩
theorem zr_9_154 : zCok 9 (154, 0, 0, zm_Sight_size) := ⟨zo_zm_Sight_size, fun _ => ⟨zmr 3102 rfl rfl, zmr 3103 rfl rfl, zmr 3104 rfl rfl, by decide⟩, fun h => absurd h (by decide), fun h => absurd h (by decide), fun h => absurd h (by decide)⟩
theorem zr_9_155 : zCok 9 (155, 0, 4, zm_Sight_add) := ⟨zo_zm_Sight_add, fun _ => ⟨zmr 3106 rfl rfl, zmr 3107 rfl rfl, zmr 3108 rfl rfl, by decide⟩, fun h => absurd h (by decide), fun h => absurd h (by decide), fun h => absurd h (by decide)⟩
theorem zr_9_159 : zCok 9 (159, 0, 1, zm_Sight_has) := ⟨zo_zm_Sight_has, fun _ => ⟨zmr 3114 rfl rfl, zmr 3115 rfl rfl, zmr 3116 rfl rfl, by decide⟩, fun h => absurd h (by decide), fun h => absurd h (by decide), fun h => absurd h (by decide)⟩
theorem zr_9_160 : zCok 9 (160, 0, 1, zm_Sight_remove) := ⟨zo_zm_Sight_remove, fun _ => ⟨zmr 3118 rfl rfl, zmr 3119 rfl rfl, zmr 3120 rfl rfl, by decide⟩, fun h => absurd h (by decide), fun h => absurd h (by decide), fun h => absurd h (by decide)⟩
theorem zr_9_163 : zCok 9 (163, 0, 2, zm_Sight_get) := ⟨zo_zm_Sight_get, fun _ => ⟨zmr 3127 rfl rfl, zmr 3128 rfl rfl, zmr 3129 rfl rfl, by decide⟩, fun h => absurd h (by decide), fun h => absurd h (by decide), fun h => absurd h (by decide)⟩
theorem zr_9_166 : zCok 9 (166, 0, 2, zm_P_describeForme) := ⟨zo_zm_P_describeForme, fun _ => ⟨zmr 3135 rfl rfl, zmr 3137 rfl rfl, zmr 16 rfl rfl, by decide⟩, fun h => absurd h (by decide), fun h => absurd h (by decide), fun h => absurd h (by decide)⟩
theorem zr_9_169 : zCok 9 (169, 0, 1, zm_P_describeFormes) := ⟨zo_zm_P_describeFormes, fun _ => ⟨zmr 3223 rfl rfl, zmr 3225 rfl rfl, zmr 22 rfl rfl, by decide⟩, fun h => absurd h (by decide), fun h => absurd h (by decide), fun h => absurd h (by decide)⟩
theorem zr_9_172 : zCok 9 (172, 0, 1, zm_Chrono_build) := ⟨zo_zm_Chrono_build, fun _ => ⟨zmr 3139 rfl rfl, zmr 3140 rfl rfl, zmr 3141 rfl rfl, by decide⟩, fun h => absurd h (by decide), fun h => absurd h (by decide), fun h => absurd h (by decide)⟩
theorem zr_9_175 : zCok 9 (175, 0, 1, zm_Chrono_hasPlace) := ⟨zo_zm_Chrono_hasPlace, fun _ => ⟨zmr 4036 rfl rfl, zmr 4037 rfl rfl, zmr 4038 rfl rfl, by decide⟩, fun h => absurd h (by decide), fun h => absurd h (by decide), fun h => absurd h (by decide)⟩
theorem zr_9_178 : zCok 9 (178, 0, 1, zm_Chrono_formeAt) := ⟨zo_zm_Chrono_formeAt, fun _ => ⟨zmr 4040 rfl rfl, zmr 4041 rfl rfl, zmr 4042 rfl rfl, by decide⟩, fun h => absurd h (by decide), fun h => absurd h (by decide), fun h => absurd h (by decide)⟩
theorem zr_9_183 : zCok 9 (183, 0, 1, zm_P_hashCopies) := ⟨zo_zm_P_hashCopies, fun _ => ⟨zmr 4054 rfl rfl, zmr 4056 rfl rfl, zmr 27 rfl rfl, by decide⟩, fun h => absurd h (by decide), fun h => absurd h (by decide), fun h => absurd h (by decide)⟩
theorem zr_9_187 : zCok 9 (187, 0, 1, zm_P_hashPairs) := ⟨zo_zm_P_hashPairs, fun _ => ⟨zmr 4059 rfl rfl, zmr 4061 rfl rfl, zmr 28 rfl rfl, by decide⟩, fun h => absurd h (by decide), fun h => absurd h (by decide), fun h => absurd h (by decide)⟩
theorem zr_9_190 : zCok 9 (190, 0, 1, zm_P_hashStates) := ⟨zo_zm_P_hashStates, fun _ => ⟨zmr 4063 rfl rfl, zmr 4065 rfl rfl, zmr 29 rfl rfl, by decide⟩, fun h => absurd h (by decide), fun h => absurd h (by decide), fun h => absurd h (by decide)⟩
theorem zr_9_193 : zCok 9 (193, 0, 1, zm_P_hashSightings) := ⟨zo_zm_P_hashSightings, fun _ => ⟨zmr 4071 rfl rfl, zmr 4073 rfl rfl, zmr 30 rfl rfl, by decide⟩, fun h => absurd h (by decide), fun h => absurd h (by decide), fun h => absurd h (by decide)⟩
theorem zr_9_196 : zCok 9 (196, 0, 1, zm_P_hashFormes) := ⟨zo_zm_P_hashFormes, fun _ => ⟨zmr 4075 rfl rfl, zmr 4077 rfl rfl, zmr 31 rfl rfl, by decide⟩, fun h => absurd h (by decide), fun h => absurd h (by decide), fun h => absurd h (by decide)⟩
theorem zr_9_201 : zCok 9 (201, 0, 1, zm_P_count) := ⟨zo_zm_P_count, fun _ => ⟨zmr 4080 rfl rfl, zmr 4046 rfl rfl, zmr 4047 rfl rfl, by decide⟩, fun h => absurd h (by decide), fun h => absurd h (by decide), fun h => absurd h (by decide)⟩
theorem zr_9_204 : zCok 9 (204, 0, 0, zm_Stemma_size) := ⟨zo_zm_Stemma_size, fun _ => ⟨zmr 4067 rfl rfl, zmr 4068 rfl rfl, zmr 4069 rfl rfl, by decide⟩, fun h => absurd h (by decide), fun h => absurd h (by decide), fun h => absurd h (by decide)⟩
theorem zr_9_205 : zCok 9 (205, 0, 0, zm_Chrono_orderLength) := ⟨zo_zm_Chrono_orderLength, fun _ => ⟨zmr 4079 rfl rfl, zmr 3195 rfl rfl, zmr 3196 rfl rfl, by decide⟩, fun h => absurd h (by decide), fun h => absurd h (by decide), fun h => absurd h (by decide)⟩
theorem zr_9_208 : zCok 9 (208, 0, 1, zm_Stemma_stateOfCopy) := ⟨zo_zm_Stemma_stateOfCopy, fun _ => ⟨zmr 3007 rfl rfl, zmr 3004 rfl rfl, zmr 3005 rfl rfl, by decide⟩, fun h => absurd h (by decide), fun h => absurd h (by decide), fun h => absurd h (by decide)⟩
theorem zr_9_211 : zCok 9 (211, 0, 2, zm_Stemma_differences) := ⟨zo_zm_Stemma_differences, fun _ => ⟨zmr 3013 rfl rfl, zmr 2196 rfl rfl, zmr 2197 rfl rfl, by decide⟩, fun h => absurd h (by decide), fun h => absurd h (by decide), fun h => absurd h (by decide)⟩
theorem zr_9_214 : zCok 9 (214, 0, 1, zm_Chrono_typesOn) := ⟨zo_zm_Chrono_typesOn, fun _ => ⟨zmr 3177 rfl rfl, zmr 3178 rfl rfl, zmr 3179 rfl rfl, by decide⟩, fun h => absurd h (by decide), fun h => absurd h (by decide), fun h => absurd h (by decide)⟩
theorem zr_9_217 : zCok 9 (217, 1, 1, zm_Int_bitCount) := ⟨zo_zm_Int_bitCount, fun h => absurd h (by decide), fun _ => ⟨zmr 3181 rfl rfl, zmr 3059 rfl rfl⟩, fun h => absurd h (by decide), fun h => absurd h (by decide)⟩
theorem zr_9_222 : zCok 9 (222, 0, 1, zm_Chrono_aheadOf) := ⟨zo_zm_Chrono_aheadOf, fun _ => ⟨zmr 3182 rfl rfl, zmr 3183 rfl rfl, zmr 3184 rfl rfl, by decide⟩, fun h => absurd h (by decide), fun h => absurd h (by decide), fun h => absurd h (by decide)⟩
theorem zr_9_225 : zCok 9 (225, 0, 1, zm_Chrono_companionsOf) := ⟨zo_zm_Chrono_companionsOf, fun _ => ⟨zmr 3186 rfl rfl, zmr 3187 rfl rfl, zmr 3188 rfl rfl, by decide⟩, fun h => absurd h (by decide), fun h => absurd h (by decide), fun h => absurd h (by decide)⟩
theorem zr_9_228 : zCok 9 (228, 0, 1, zm_Chrono_placeOf) := ⟨zo_zm_Chrono_placeOf, fun _ => ⟨zmr 3190 rfl rfl, zmr 3191 rfl rfl, zmr 3192 rfl rfl, by decide⟩, fun h => absurd h (by decide), fun h => absurd h (by decide), fun h => absurd h (by decide)⟩
theorem zr_9_231 : zCok 9 (231, 0, 1, zm_Presses_build) := ⟨zo_zm_Presses_build, fun _ => ⟨zmr 3199 rfl rfl, zmr 3200 rfl rfl, zmr 3201 rfl rfl, by decide⟩, fun h => absurd h (by decide), fun h => absurd h (by decide), fun h => absurd h (by decide)⟩
theorem zr_9_234 : zCok 9 (234, 0, 1, zm_Presses_pressOf) := ⟨zo_zm_Presses_pressOf, fun _ => ⟨zmr 3215 rfl rfl, zmr 3216 rfl rfl, zmr 3217 rfl rfl, by decide⟩, fun h => absurd h (by decide), fun h => absurd h (by decide), fun h => absurd h (by decide)⟩
theorem zr_9_237 : zCok 9 (237, 0, 0, zm_Chrono_seenSet) := ⟨zo_zm_Chrono_seenSet, fun _ => ⟨zmr 3227 rfl rfl, zmr 3228 rfl rfl, zmr 3229 rfl rfl, by decide⟩, fun h => absurd h (by decide), fun h => absurd h (by decide), fun h => absurd h (by decide)⟩
theorem zr_9_240 : zCok 9 (240, 0, 0, zm_Chrono_orders) := ⟨zo_zm_Chrono_orders, fun _ => ⟨zmr 3231 rfl rfl, zmr 3232 rfl rfl, zmr 3233 rfl rfl, by decide⟩, fun h => absurd h (by decide), fun h => absurd h (by decide), fun h => absurd h (by decide)⟩
theorem zr_9_243 : zCok 9 (243, 0, 1, zm_Fault_build) := ⟨zo_zm_Fault_build, fun _ => ⟨zmr 3235 rfl rfl, zmr 3236 rfl rfl, zmr 3237 rfl rfl, by decide⟩, fun h => absurd h (by decide), fun h => absurd h (by decide), fun h => absurd h (by decide)⟩
theorem zr_9_244 : zCok 9 (244, 0, 0, zm_Fault_set) := ⟨zo_zm_Fault_set, fun _ => ⟨zmr 4020 rfl rfl, zmr 4021 rfl rfl, zmr 4022 rfl rfl, by decide⟩, fun h => absurd h (by decide), fun h => absurd h (by decide), fun h => absurd h (by decide)⟩
theorem zr_9_247 : zCok 9 (247, 0, 0, zm_Presses_number) := ⟨zo_zm_Presses_number, fun _ => ⟨zmr 4024 rfl rfl, zmr 4025 rfl rfl, zmr 4026 rfl rfl, by decide⟩, fun h => absurd h (by decide), fun h => absurd h (by decide), fun h => absurd h (by decide)⟩
theorem zr_9_250 : zCok 9 (250, 0, 0, zm_Chrono_typeSet) := ⟨zo_zm_Chrono_typeSet, fun _ => ⟨zmr 4028 rfl rfl, zmr 4029 rfl rfl, zmr 4030 rfl rfl, by decide⟩, fun h => absurd h (by decide), fun h => absurd h (by decide), fun h => absurd h (by decide)⟩
theorem zCo9 : ∀ e ∈ zCT9, zCok 9 e := List.forall_mem_cons.mpr ⟨zr_9_9, List.forall_mem_cons.mpr ⟨zr_9_18, List.forall_mem_cons.mpr ⟨zr_9_25, List.forall_mem_cons.mpr ⟨zr_9_32, List.forall_mem_cons.mpr ⟨zr_9_39, List.forall_mem_cons.mpr ⟨zr_9_46, List.forall_mem_cons.mpr ⟨zr_9_53, List.forall_mem_cons.mpr ⟨zr_9_65, List.forall_mem_cons.mpr ⟨zr_9_69, List.forall_mem_cons.mpr ⟨zr_9_73, List.forall_mem_cons.mpr ⟨zr_9_76, List.forall_mem_cons.mpr ⟨zr_9_80, List.forall_mem_cons.mpr ⟨zr_9_81, List.forall_mem_cons.mpr ⟨zr_9_85, List.forall_mem_cons.mpr ⟨zr_9_89, List.forall_mem_cons.mpr ⟨zr_9_93, List.forall_mem_cons.mpr ⟨zr_9_96, List.forall_mem_cons.mpr ⟨zr_9_99, List.forall_mem_cons.mpr ⟨zr_9_102, List.forall_mem_cons.mpr ⟨zr_9_106, List.forall_mem_cons.mpr ⟨zr_9_110, List.forall_mem_cons.mpr ⟨zr_9_111, List.forall_mem_cons.mpr ⟨zr_9_115, List.forall_mem_cons.mpr ⟨zr_9_119, List.forall_mem_cons.mpr ⟨zr_9_124, List.forall_mem_cons.mpr ⟨zr_9_127, List.forall_mem_cons.mpr ⟨zr_9_130, List.forall_mem_cons.mpr ⟨zr_9_133, List.forall_mem_cons.mpr ⟨zr_9_136, List.forall_mem_cons.mpr ⟨zr_9_139, List.forall_mem_cons.mpr ⟨zr_9_140, List.forall_mem_cons.mpr ⟨zr_9_143, List.forall_mem_cons.mpr ⟨zr_9_146, List.forall_mem_cons.mpr ⟨zr_9_150, List.forall_mem_cons.mpr ⟨zr_9_154, List.forall_mem_cons.mpr ⟨zr_9_155, List.forall_mem_cons.mpr ⟨zr_9_159, List.forall_mem_cons.mpr ⟨zr_9_160, List.forall_mem_cons.mpr ⟨zr_9_163, List.forall_mem_cons.mpr ⟨zr_9_166, List.forall_mem_cons.mpr ⟨zr_9_169, List.forall_mem_cons.mpr ⟨zr_9_172, List.forall_mem_cons.mpr ⟨zr_9_175, List.forall_mem_cons.mpr ⟨zr_9_178, List.forall_mem_cons.mpr ⟨zr_9_183, List.forall_mem_cons.mpr ⟨zr_9_187, List.forall_mem_cons.mpr ⟨zr_9_190, List.forall_mem_cons.mpr ⟨zr_9_193, List.forall_mem_cons.mpr ⟨zr_9_196, List.forall_mem_cons.mpr ⟨zr_9_201, List.forall_mem_cons.mpr ⟨zr_9_204, List.forall_mem_cons.mpr ⟨zr_9_205, List.forall_mem_cons.mpr ⟨zr_9_208, List.forall_mem_cons.mpr ⟨zr_9_211, List.forall_mem_cons.mpr ⟨zr_9_214, List.forall_mem_cons.mpr ⟨zr_9_217, List.forall_mem_cons.mpr ⟨zr_9_222, List.forall_mem_cons.mpr ⟨zr_9_225, List.forall_mem_cons.mpr ⟨zr_9_228, List.forall_mem_cons.mpr ⟨zr_9_231, List.forall_mem_cons.mpr ⟨zr_9_234, List.forall_mem_cons.mpr ⟨zr_9_237, List.forall_mem_cons.mpr ⟨zr_9_240, List.forall_mem_cons.mpr ⟨zr_9_243, List.forall_mem_cons.mpr ⟨zr_9_244, List.forall_mem_cons.mpr ⟨zr_9_247, List.forall_mem_cons.mpr ⟨zr_9_250, fun _ h => absurd h List.not_mem_nil⟩⟩⟩⟩⟩⟩⟩⟩⟩⟩⟩⟩⟩⟩⟩⟩⟩⟩⟩⟩⟩⟩⟩⟩⟩⟩⟩⟩⟩⟩⟩⟩⟩⟩⟩⟩⟩⟩⟩⟩⟩⟩⟩⟩⟩⟩⟩⟩⟩⟩⟩⟩⟩⟩⟩⟩⟩⟩⟩⟩⟩⟩⟩⟩⟩⟩⟩
theorem zr_10_72 : zCok 10 (72, 1, 3, zm_M_within) := ⟨zo_zm_M_within, fun h => absurd h (by decide), fun _ => ⟨zmr 4189 rfl rfl, zmr 4190 rfl rfl⟩, fun h => absurd h (by decide), fun h => absurd h (by decide)⟩
theorem zr_10_82 : zCok 10 (82, 0, 0, zm_M_isCopyPage) := ⟨zo_zm_M_isCopyPage, fun _ => ⟨zmr 4200 rfl rfl, zmr 4202 rfl rfl, zmr 32 rfl rfl, by decide⟩, fun h => absurd h (by decide), fun h => absurd h (by decide), fun h => absurd h (by decide)⟩
theorem zr_10_89 : zCok 10 (89, 0, 1, zm_M_readInto) := ⟨zo_zm_M_readInto, fun _ => ⟨zmr 4204 rfl rfl, zmr 4206 rfl rfl, zmr 33 rfl rfl, by decide⟩, fun h => absurd h (by decide), fun h => absurd h (by decide), fun h => absurd h (by decide)⟩
theorem zr_10_93 : zCok 10 (93, 0, 1, zm_M_isCopy) := ⟨zo_zm_M_isCopy, fun _ => ⟨zmr 4212 rfl rfl, zmr 4214 rfl rfl, zmr 34 rfl rfl, by decide⟩, fun h => absurd h (by decide), fun h => absurd h (by decide), fun h => absurd h (by decide)⟩
theorem zr_10_97 : zCok 10 (97, 1, 1, zm_M_family) := ⟨zo_zm_M_family, fun h => absurd h (by decide), fun _ => ⟨zmr 5012 rfl rfl, zmr 5013 rfl rfl⟩, fun h => absurd h (by decide), fun h => absurd h (by decide)⟩
theorem zr_10_108 : zCok 10 (108, 0, 2, zm_M_letterAt) := ⟨zo_zm_M_letterAt, fun _ => ⟨zmr 5005 rfl rfl, zmr 5007 rfl rfl, zmr 39 rfl rfl, by decide⟩, fun h => absurd h (by decide), fun h => absurd h (by decide), fun h => absurd h (by decide)⟩
theorem zr_10_112 : zCok 10 (112, 1, 2, zm_M_pairCost) := ⟨zo_zm_M_pairCost, fun h => absurd h (by decide), fun _ => ⟨zmr 5009 rfl rfl, zmr 5010 rfl rfl⟩, fun h => absurd h (by decide), fun h => absurd h (by decide)⟩
theorem zr_10_115 : zCok 10 (115, 0, 3, zm_M_costBy) := ⟨zo_zm_M_costBy, fun _ => ⟨zmr 5001 rfl rfl, zmr 5003 rfl rfl, zmr 38 rfl rfl, by decide⟩, fun h => absurd h (by decide), fun h => absurd h (by decide), fun h => absurd h (by decide)⟩
theorem zr_10_119 : zCok 10 (119, 0, 2, zm_M_leastCost) := ⟨zo_zm_M_leastCost, fun _ => ⟨zmr 4236 rfl rfl, zmr 4238 rfl rfl, zmr 37 rfl rfl, by decide⟩, fun h => absurd h (by decide), fun h => absurd h (by decide), fun h => absurd h (by decide)⟩
theorem zr_10_125 : zCok 10 (125, 0, 0, zm_M_isCollated) := ⟨zo_zm_M_isCollated, fun _ => ⟨zmr 5015 rfl rfl, zmr 5017 rfl rfl, zmr 40 rfl rfl, by decide⟩, fun h => absurd h (by decide), fun h => absurd h (by decide), fun h => absurd h (by decide)⟩
theorem zr_10_128 : zCok 10 (128, 0, 2, zm_M_layCollation) := ⟨zo_zm_M_layCollation, fun _ => ⟨zmr 4232 rfl rfl, zmr 4234 rfl rfl, zmr 36 rfl rfl, by decide⟩, fun h => absurd h (by decide), fun h => absurd h (by decide), fun h => absurd h (by decide)⟩
theorem zr_10_132 : zCok 10 (132, 0, 1, zm_M_stepsOf) := ⟨zo_zm_M_stepsOf, fun _ => ⟨zmr 5019 rfl rfl, zmr 5021 rfl rfl, zmr 41 rfl rfl, by decide⟩, fun h => absurd h (by decide), fun h => absurd h (by decide), fun h => absurd h (by decide)⟩
theorem zr_10_135 : zCok 10 (135, 0, 3, zm_M_collateNow) := ⟨zo_zm_M_collateNow, fun _ => ⟨zmr 4228 rfl rfl, zmr 4230 rfl rfl, zmr 35 rfl rfl, by decide⟩, fun h => absurd h (by decide), fun h => absurd h (by decide), fun h => absurd h (by decide)⟩
theorem zr_10_138 : zCok 10 (138, 0, 3, zm_M_stepNow) := ⟨zo_zm_M_stepNow, fun _ => ⟨zmr 5027 rfl rfl, zmr 5029 rfl rfl, zmr 42 rfl rfl, by decide⟩, fun h => absurd h (by decide), fun h => absurd h (by decide), fun h => absurd h (by decide)⟩
theorem zr_10_141 : zCok 10 (141, 0, 0, zm_M_places) := ⟨zo_zm_M_places, fun _ => ⟨zmr 5051 rfl rfl, zmr 5053 rfl rfl, zmr 47 rfl rfl, by decide⟩, fun h => absurd h (by decide), fun h => absurd h (by decide), fun h => absurd h (by decide)⟩
theorem zr_10_145 : zCok 10 (145, 0, 2, zm_M_unlike) := ⟨zo_zm_M_unlike, fun _ => ⟨zmr 5047 rfl rfl, zmr 5049 rfl rfl, zmr 46 rfl rfl, by decide⟩, fun h => absurd h (by decide), fun h => absurd h (by decide), fun h => absurd h (by decide)⟩
theorem zr_10_151 : zCok 10 (151, 0, 1, zm_M_layReading) := ⟨zo_zm_M_layReading, fun _ => ⟨zmr 5043 rfl rfl, zmr 5045 rfl rfl, zmr 45 rfl rfl, by decide⟩, fun h => absurd h (by decide), fun h => absurd h (by decide), fun h => absurd h (by decide)⟩
theorem zr_10_154 : zCok 10 (154, 0, 0, zm_M_layTree) := ⟨zo_zm_M_layTree, fun _ => ⟨zmr 5055 rfl rfl, zmr 5057 rfl rfl, zmr 48 rfl rfl, by decide⟩, fun h => absurd h (by decide), fun h => absurd h (by decide), fun h => absurd h (by decide)⟩
theorem zr_10_157 : zCok 10 (157, 0, 2, zm_M_farNow) := ⟨zo_zm_M_farNow, fun _ => ⟨zmr 5059 rfl rfl, zmr 5061 rfl rfl, zmr 49 rfl rfl, by decide⟩, fun h => absurd h (by decide), fun h => absurd h (by decide), fun h => absurd h (by decide)⟩
theorem zr_10_160 : zCok 10 (160, 0, 2, zm_M_readingOf) := ⟨zo_zm_M_readingOf, fun _ => ⟨zmr 5103 rfl rfl, zmr 5105 rfl rfl, zmr 57 rfl rfl, by decide⟩, fun h => absurd h (by decide), fun h => absurd h (by decide), fun h => absurd h (by decide)⟩
theorem zr_10_163 : zCok 10 (163, 0, 2, zm_M_isTurned) := ⟨zo_zm_M_isTurned, fun _ => ⟨zmr 5115 rfl rfl, zmr 5117 rfl rfl, zmr 60 rfl rfl, by decide⟩, fun h => absurd h (by decide), fun h => absurd h (by decide), fun h => absurd h (by decide)⟩
theorem zr_10_167 : zCok 10 (167, 0, 0, zm_M_layStates) := ⟨zo_zm_M_layStates, fun _ => ⟨zmr 5039 rfl rfl, zmr 5041 rfl rfl, zmr 44 rfl rfl, by decide⟩, fun h => absurd h (by decide), fun h => absurd h (by decide), fun h => absurd h (by decide)⟩
theorem zr_10_170 : zCok 10 (170, 0, 1, zm_M_costOf) := ⟨zo_zm_M_costOf, fun _ => ⟨zmr 5063 rfl rfl, zmr 5065 rfl rfl, zmr 50 rfl rfl, by decide⟩, fun h => absurd h (by decide), fun h => absurd h (by decide), fun h => absurd h (by decide)⟩
theorem zr_10_173 : zCok 10 (173, 0, 1, zm_M_moreOf) := ⟨zo_zm_M_moreOf, fun _ => ⟨zmr 5067 rfl rfl, zmr 5069 rfl rfl, zmr 51 rfl rfl, by decide⟩, fun h => absurd h (by decide), fun h => absurd h (by decide), fun h => absurd h (by decide)⟩
theorem zr_10_176 : zCok 10 (176, 0, 1, zm_M_otherReadings) := ⟨zo_zm_M_otherReadings, fun _ => ⟨zmr 5071 rfl rfl, zmr 5073 rfl rfl, zmr 52 rfl rfl, by decide⟩, fun h => absurd h (by decide), fun h => absurd h (by decide), fun h => absurd h (by decide)⟩
theorem zr_10_179 : zCok 10 (179, 0, 2, zm_M_copyNow) := ⟨zo_zm_M_copyNow, fun _ => ⟨zmr 5035 rfl rfl, zmr 5037 rfl rfl, zmr 43 rfl rfl, by decide⟩, fun h => absurd h (by decide), fun h => absurd h (by decide), fun h => absurd h (by decide)⟩
theorem zr_10_182 : zCok 10 (182, 0, 1, zm_M_turnedMany) := ⟨zo_zm_M_turnedMany, fun _ => ⟨zmr 5111 rfl rfl, zmr 5113 rfl rfl, zmr 59 rfl rfl, by decide⟩, fun h => absurd h (by decide), fun h => absurd h (by decide), fun h => absurd h (by decide)⟩
theorem zr_10_185 : zCok 10 (185, 0, 0, zm_M_outMany) := ⟨zo_zm_M_outMany, fun _ => ⟨zmr 5091 rfl rfl, zmr 5093 rfl rfl, zmr 54 rfl rfl, by decide⟩, fun h => absurd h (by decide), fun h => absurd h (by decide), fun h => absurd h (by decide)⟩
theorem zr_10_188 : zCok 10 (188, 0, 0, zm_M_changes) := ⟨zo_zm_M_changes, fun _ => ⟨zmr 5095 rfl rfl, zmr 5097 rfl rfl, zmr 55 rfl rfl, by decide⟩, fun h => absurd h (by decide), fun h => absurd h (by decide), fun h => absurd h (by decide)⟩
theorem zr_10_191 : zCok 10 (191, 0, 0, zm_M_unlikePlaces) := ⟨zo_zm_M_unlikePlaces, fun _ => ⟨zmr 5099 rfl rfl, zmr 5101 rfl rfl, zmr 56 rfl rfl, by decide⟩, fun h => absurd h (by decide), fun h => absurd h (by decide), fun h => absurd h (by decide)⟩
theorem zr_10_194 : zCok 10 (194, 0, 0, zm_M_turnedAll) := ⟨zo_zm_M_turnedAll, fun _ => ⟨zmr 5107 rfl rfl, zmr 5109 rfl rfl, zmr 58 rfl rfl, by decide⟩, fun h => absurd h (by decide), fun h => absurd h (by decide), fun h => absurd h (by decide)⟩
theorem zr_10_197 : zCok 10 (197, 0, 0, zm_M_childless) := ⟨zo_zm_M_childless, fun _ => ⟨zmr 5119 rfl rfl, zmr 5121 rfl rfl, zmr 61 rfl rfl, by decide⟩, fun h => absurd h (by decide), fun h => absurd h (by decide), fun h => absurd h (by decide)⟩
theorem zr_10_200 : zCok 10 (200, 0, 1, zm_M_statesNow) := ⟨zo_zm_M_statesNow, fun _ => ⟨zmr 5087 rfl rfl, zmr 5089 rfl rfl, zmr 53 rfl rfl, by decide⟩, fun h => absurd h (by decide), fun h => absurd h (by decide), fun h => absurd h (by decide)⟩
theorem zr_10_203 : zCok 10 (203, 0, 1, zm_M_copiesIn) := ⟨zo_zm_M_copiesIn, fun _ => ⟨zmr 5135 rfl rfl, zmr 5137 rfl rfl, zmr 64 rfl rfl, by decide⟩, fun h => absurd h (by decide), fun h => absurd h (by decide), fun h => absurd h (by decide)⟩
theorem zr_10_206 : zCok 10 (206, 0, 1, zm_M_above) := ⟨zo_zm_M_above, fun _ => ⟨zmr 5139 rfl rfl, zmr 5141 rfl rfl, zmr 65 rfl rfl, by decide⟩, fun h => absurd h (by decide), fun h => absurd h (by decide), fun h => absurd h (by decide)⟩
theorem zr_10_209 : zCok 10 (209, 0, 2, zm_M_tellState) := ⟨zo_zm_M_tellState, fun _ => ⟨zmr 5131 rfl rfl, zmr 5133 rfl rfl, zmr 63 rfl rfl, by decide⟩, fun h => absurd h (by decide), fun h => absurd h (by decide), fun h => absurd h (by decide)⟩
theorem zr_10_212 : zCok 10 (212, 0, 2, zm_M_stateNow) := ⟨zo_zm_M_stateNow, fun _ => ⟨zmr 5127 rfl rfl, zmr 5129 rfl rfl, zmr 62 rfl rfl, by decide⟩, fun h => absurd h (by decide), fun h => absurd h (by decide), fun h => absurd h (by decide)⟩
theorem zr_10_218 : zCok 10 (218, 0, 3, zm_M_isTaken) := ⟨zo_zm_M_isTaken, fun _ => ⟨zmr 5155 rfl rfl, zmr 5157 rfl rfl, zmr 66 rfl rfl, by decide⟩, fun h => absurd h (by decide), fun h => absurd h (by decide), fun h => absurd h (by decide)⟩
theorem zr_10_221 : zCok 10 (221, 0, 1, zm_M_isSighting) := ⟨zo_zm_M_isSighting, fun _ => ⟨zmr 5163 rfl rfl, zmr 5165 rfl rfl, zmr 67 rfl rfl, by decide⟩, fun h => absurd h (by decide), fun h => absurd h (by decide), fun h => absurd h (by decide)⟩
theorem zr_10_227 : zCok 10 (227, 0, 2, zm_M_sightingNow) := ⟨zo_zm_M_sightingNow, fun _ => ⟨zmr 5171 rfl rfl, zmr 5173 rfl rfl, zmr 68 rfl rfl, by decide⟩, fun h => absurd h (by decide), fun h => absurd h (by decide), fun h => absurd h (by decide)⟩
theorem zr_10_233 : zCok 10 (233, 1, 2, zm_M_has) := ⟨zo_zm_M_has, fun h => absurd h (by decide), fun _ => ⟨zmr 5195 rfl rfl, zmr 5196 rfl rfl⟩, fun h => absurd h (by decide), fun h => absurd h (by decide)⟩
theorem zr_10_236 : zCok 10 (236, 0, 2, zm_M_canBeFirst) := ⟨zo_zm_M_canBeFirst, fun _ => ⟨zmr 5202 rfl rfl, zmr 5204 rfl rfl, zmr 74 rfl rfl, by decide⟩, fun h => absurd h (by decide), fun h => absurd h (by decide), fun h => absurd h (by decide)⟩
theorem zr_10_239 : zCok 10 (239, 0, 1, zm_M_layAhead) := ⟨zo_zm_M_layAhead, fun _ => ⟨zmr 5191 rfl rfl, zmr 5193 rfl rfl, zmr 72 rfl rfl, by decide⟩, fun h => absurd h (by decide), fun h => absurd h (by decide), fun h => absurd h (by decide)⟩
theorem zr_10_242 : zCok 10 (242, 0, 0, zm_M_layWays) := ⟨zo_zm_M_layWays, fun _ => ⟨zmr 5198 rfl rfl, zmr 5200 rfl rfl, zmr 73 rfl rfl, by decide⟩, fun h => absurd h (by decide), fun h => absurd h (by decide), fun h => absurd h (by decide)⟩
theorem zr_10_245 : zCok 10 (245, 0, 0, zm_M_allSightings) := ⟨zo_zm_M_allSightings, fun _ => ⟨zmr 5183 rfl rfl, zmr 5185 rfl rfl, zmr 70 rfl rfl, by decide⟩, fun h => absurd h (by decide), fun h => absurd h (by decide), fun h => absurd h (by decide)⟩
theorem zr_10_248 : zCok 10 (248, 1, 1, zm_M_many) := ⟨zo_zm_M_many, fun h => absurd h (by decide), fun _ => ⟨zmr 5206 rfl rfl, zmr 5207 rfl rfl⟩, fun h => absurd h (by decide), fun h => absurd h (by decide)⟩
theorem zr_10_251 : zCok 10 (251, 0, 1, zm_M_orders) := ⟨zo_zm_M_orders, fun _ => ⟨zmr 5187 rfl rfl, zmr 5189 rfl rfl, zmr 71 rfl rfl, by decide⟩, fun h => absurd h (by decide), fun h => absurd h (by decide), fun h => absurd h (by decide)⟩
theorem zr_10_254 : zCok 10 (254, 0, 1, zm_M_orderAt) := ⟨zo_zm_M_orderAt, fun _ => ⟨zmr 5179 rfl rfl, zmr 5181 rfl rfl, zmr 69 rfl rfl, by decide⟩, fun h => absurd h (by decide), fun h => absurd h (by decide), fun h => absurd h (by decide)⟩
theorem zr_10_257 : zCok 10 (257, 0, 1, zm_M_typesOn) := ⟨zo_zm_M_typesOn, fun _ => ⟨zmr 5225 rfl rfl, zmr 5227 rfl rfl, zmr 78 rfl rfl, by decide⟩, fun h => absurd h (by decide), fun h => absurd h (by decide), fun h => absurd h (by decide)⟩
theorem zr_10_260 : zCok 10 (260, 0, 1, zm_M_goesOn) := ⟨zo_zm_M_goesOn, fun _ => ⟨zmr 6005 rfl rfl, zmr 6007 rfl rfl, zmr 83 rfl rfl, by decide⟩, fun h => absurd h (by decide), fun h => absurd h (by decide), fun h => absurd h (by decide)⟩
theorem zr_10_263 : zCok 10 (263, 0, 1, zm_M_goesBack) := ⟨zo_zm_M_goesBack, fun _ => ⟨zmr 6009 rfl rfl, zmr 6011 rfl rfl, zmr 84 rfl rfl, by decide⟩, fun h => absurd h (by decide), fun h => absurd h (by decide), fun h => absurd h (by decide)⟩
theorem zr_10_266 : zCok 10 (266, 0, 2, zm_M_mayBeOn) := ⟨zo_zm_M_mayBeOn, fun _ => ⟨zmr 6013 rfl rfl, zmr 6015 rfl rfl, zmr 85 rfl rfl, by decide⟩, fun h => absurd h (by decide), fun h => absurd h (by decide), fun h => absurd h (by decide)⟩
theorem zr_10_269 : zCok 10 (269, 0, 1, zm_M_togetherWith) := ⟨zo_zm_M_togetherWith, fun _ => ⟨zmr 5221 rfl rfl, zmr 5223 rfl rfl, zmr 77 rfl rfl, by decide⟩, fun h => absurd h (by decide), fun h => absurd h (by decide), fun h => absurd h (by decide)⟩
theorem zr_10_275 : zCok 10 (275, 0, 1, zm_M_findsRoom) := ⟨zo_zm_M_findsRoom, fun _ => ⟨zmr 6001 rfl rfl, zmr 6003 rfl rfl, zmr 82 rfl rfl, by decide⟩, fun h => absurd h (by decide), fun h => absurd h (by decide), fun h => absurd h (by decide)⟩
theorem zr_10_278 : zCok 10 (278, 0, 0, zm_M_layPresses) := ⟨zo_zm_M_layPresses, fun _ => ⟨zmr 5237 rfl rfl, zmr 5239 rfl rfl, zmr 81 rfl rfl, by decide⟩, fun h => absurd h (by decide), fun h => absurd h (by decide), fun h => absurd h (by decide)⟩
theorem zr_10_281 : zCok 10 (281, 0, 1, zm_M_onForme) := ⟨zo_zm_M_onForme, fun _ => ⟨zmr 5217 rfl rfl, zmr 5219 rfl rfl, zmr 76 rfl rfl, by decide⟩, fun h => absurd h (by decide), fun h => absurd h (by decide), fun h => absurd h (by decide)⟩
theorem zr_10_284 : zCok 10 (284, 0, 1, zm_M_placeOf) := ⟨zo_zm_M_placeOf, fun _ => ⟨zmr 5229 rfl rfl, zmr 5231 rfl rfl, zmr 79 rfl rfl, by decide⟩, fun h => absurd h (by decide), fun h => absurd h (by decide), fun h => absurd h (by decide)⟩
theorem zr_10_287 : zCok 10 (287, 0, 1, zm_M_pressNow) := ⟨zo_zm_M_pressNow, fun _ => ⟨zmr 5233 rfl rfl, zmr 5235 rfl rfl, zmr 80 rfl rfl, by decide⟩, fun h => absurd h (by decide), fun h => absurd h (by decide), fun h => absurd h (by decide)⟩
theorem zr_10_290 : zCok 10 (290, 0, 2, zm_M_formeNow) := ⟨zo_zm_M_formeNow, fun _ => ⟨zmr 5213 rfl rfl, zmr 5215 rfl rfl, zmr 75 rfl rfl, by decide⟩, fun h => absurd h (by decide), fun h => absurd h (by decide), fun h => absurd h (by decide)⟩
theorem zr_10_293 : zCok 10 (293, 0, 0, zm_M_faultNow) := ⟨zo_zm_M_faultNow, fun _ => ⟨zmr 6025 rfl rfl, zmr 6027 rfl rfl, zmr 87 rfl rfl, by decide⟩, fun h => absurd h (by decide), fun h => absurd h (by decide), fun h => absurd h (by decide)⟩
theorem zr_10_296 : zCok 10 (296, 0, 0, zm_M_pressesNow) := ⟨zo_zm_M_pressesNow, fun _ => ⟨zmr 6029 rfl rfl, zmr 6031 rfl rfl, zmr 88 rfl rfl, by decide⟩, fun h => absurd h (by decide), fun h => absurd h (by decide), fun h => absurd h (by decide)⟩
theorem zr_10_299 : zCok 10 (299, 0, 0, zm_M_typesSeen) := ⟨zo_zm_M_typesSeen, fun _ => ⟨zmr 6033 rfl rfl, zmr 6035 rfl rfl, zmr 89 rfl rfl, by decide⟩, fun h => absurd h (by decide), fun h => absurd h (by decide), fun h => absurd h (by decide)⟩
theorem zr_10_302 : zCok 10 (302, 0, 1, zm_M_formesNow) := ⟨zo_zm_M_formesNow, fun _ => ⟨zmr 6021 rfl rfl, zmr 6023 rfl rfl, zmr 86 rfl rfl, by decide⟩, fun h => absurd h (by decide), fun h => absurd h (by decide), fun h => absurd h (by decide)⟩
theorem zr_10_305 : zCok 10 (305, 0, 1, zm_M_howMany) := ⟨zo_zm_M_howMany, fun _ => ⟨zmr 6041 rfl rfl, zmr 6043 rfl rfl, zmr 90 rfl rfl, by decide⟩, fun h => absurd h (by decide), fun h => absurd h (by decide), fun h => absurd h (by decide)⟩
theorem zr_10_314 : zCok 10 (314, 0, 1, zm_M_mix) := ⟨zo_zm_M_mix, fun _ => ⟨zmr 6054 rfl rfl, zmr 6056 rfl rfl, zmr 92 rfl rfl, by decide⟩, fun h => absurd h (by decide), fun h => absurd h (by decide), fun h => absurd h (by decide)⟩
theorem zr_10_320 : zCok 10 (320, 0, 0, zm_M_mixCopies) := ⟨zo_zm_M_mixCopies, fun _ => ⟨zmr 6050 rfl rfl, zmr 6052 rfl rfl, zmr 91 rfl rfl, by decide⟩, fun h => absurd h (by decide), fun h => absurd h (by decide), fun h => absurd h (by decide)⟩
theorem zr_10_323 : zCok 10 (323, 0, 0, zm_M_mixStates) := ⟨zo_zm_M_mixStates, fun _ => ⟨zmr 6059 rfl rfl, zmr 6061 rfl rfl, zmr 93 rfl rfl, by decide⟩, fun h => absurd h (by decide), fun h => absurd h (by decide), fun h => absurd h (by decide)⟩
theorem zr_10_326 : zCok 10 (326, 0, 0, zm_M_mixFormes) := ⟨zo_zm_M_mixFormes, fun _ => ⟨zmr 6063 rfl rfl, zmr 6065 rfl rfl, zmr 94 rfl rfl, by decide⟩, fun h => absurd h (by decide), fun h => absurd h (by decide), fun h => absurd h (by decide)⟩
theorem zCo10 : ∀ e ∈ zCT10, zCok 10 e := List.forall_mem_cons.mpr ⟨zr_10_72, List.forall_mem_cons.mpr ⟨zr_10_82, List.forall_mem_cons.mpr ⟨zr_10_89, List.forall_mem_cons.mpr ⟨zr_10_93, List.forall_mem_cons.mpr ⟨zr_10_97, List.forall_mem_cons.mpr ⟨zr_10_108, List.forall_mem_cons.mpr ⟨zr_10_112, List.forall_mem_cons.mpr ⟨zr_10_115, List.forall_mem_cons.mpr ⟨zr_10_119, List.forall_mem_cons.mpr ⟨zr_10_125, List.forall_mem_cons.mpr ⟨zr_10_128, List.forall_mem_cons.mpr ⟨zr_10_132, List.forall_mem_cons.mpr ⟨zr_10_135, List.forall_mem_cons.mpr ⟨zr_10_138, List.forall_mem_cons.mpr ⟨zr_10_141, List.forall_mem_cons.mpr ⟨zr_10_145, List.forall_mem_cons.mpr ⟨zr_10_151, List.forall_mem_cons.mpr ⟨zr_10_154, List.forall_mem_cons.mpr ⟨zr_10_157, List.forall_mem_cons.mpr ⟨zr_10_160, List.forall_mem_cons.mpr ⟨zr_10_163, List.forall_mem_cons.mpr ⟨zr_10_167, List.forall_mem_cons.mpr ⟨zr_10_170, List.forall_mem_cons.mpr ⟨zr_10_173, List.forall_mem_cons.mpr ⟨zr_10_176, List.forall_mem_cons.mpr ⟨zr_10_179, List.forall_mem_cons.mpr ⟨zr_10_182, List.forall_mem_cons.mpr ⟨zr_10_185, List.forall_mem_cons.mpr ⟨zr_10_188, List.forall_mem_cons.mpr ⟨zr_10_191, List.forall_mem_cons.mpr ⟨zr_10_194, List.forall_mem_cons.mpr ⟨zr_10_197, List.forall_mem_cons.mpr ⟨zr_10_200, List.forall_mem_cons.mpr ⟨zr_10_203, List.forall_mem_cons.mpr ⟨zr_10_206, List.forall_mem_cons.mpr ⟨zr_10_209, List.forall_mem_cons.mpr ⟨zr_10_212, List.forall_mem_cons.mpr ⟨zr_10_218, List.forall_mem_cons.mpr ⟨zr_10_221, List.forall_mem_cons.mpr ⟨zr_10_227, List.forall_mem_cons.mpr ⟨zr_10_233, List.forall_mem_cons.mpr ⟨zr_10_236, List.forall_mem_cons.mpr ⟨zr_10_239, List.forall_mem_cons.mpr ⟨zr_10_242, List.forall_mem_cons.mpr ⟨zr_10_245, List.forall_mem_cons.mpr ⟨zr_10_248, List.forall_mem_cons.mpr ⟨zr_10_251, List.forall_mem_cons.mpr ⟨zr_10_254, List.forall_mem_cons.mpr ⟨zr_10_257, List.forall_mem_cons.mpr ⟨zr_10_260, List.forall_mem_cons.mpr ⟨zr_10_263, List.forall_mem_cons.mpr ⟨zr_10_266, List.forall_mem_cons.mpr ⟨zr_10_269, List.forall_mem_cons.mpr ⟨zr_10_275, List.forall_mem_cons.mpr ⟨zr_10_278, List.forall_mem_cons.mpr ⟨zr_10_281, List.forall_mem_cons.mpr ⟨zr_10_284, List.forall_mem_cons.mpr ⟨zr_10_287, List.forall_mem_cons.mpr ⟨zr_10_290, List.forall_mem_cons.mpr ⟨zr_10_293, List.forall_mem_cons.mpr ⟨zr_10_296, List.forall_mem_cons.mpr ⟨zr_10_299, List.forall_mem_cons.mpr ⟨zr_10_302, List.forall_mem_cons.mpr ⟨zr_10_305, List.forall_mem_cons.mpr ⟨zr_10_314, List.forall_mem_cons.mpr ⟨zr_10_320, List.forall_mem_cons.mpr ⟨zr_10_323, List.forall_mem_cons.mpr ⟨zr_10_326, fun _ h => absurd h List.not_mem_nil⟩⟩⟩⟩⟩⟩⟩⟩⟩⟩⟩⟩⟩⟩⟩⟩⟩⟩⟩⟩⟩⟩⟩⟩⟩⟩⟩⟩⟩⟩⟩⟩⟩⟩⟩⟩⟩⟩⟩⟩⟩⟩⟩⟩⟩⟩⟩⟩⟩⟩⟩⟩⟩⟩⟩⟩⟩⟩⟩⟩⟩⟩⟩⟩⟩⟩⟩⟩
theorem zr_11_9 : zCok 11 (9, 2, 0, zm_P_init) := ⟨zo_zm_P_init, fun h => absurd h (by decide), fun h => absurd h (by decide), fun _ => ⟨zmr 1016 rfl rfl, zmr 1017 rfl rfl, rfl, rfl⟩, fun h => absurd h (by decide)⟩
theorem zr_11_12 : zCok 11 (12, 2, 0, zm_M_init) := ⟨zo_zm_M_init, fun h => absurd h (by decide), fun h => absurd h (by decide), fun _ => ⟨zmr 4083 rfl rfl, zmr 4084 rfl rfl, rfl, rfl⟩, fun h => absurd h (by decide)⟩
theorem zr_11_13 : zCok 11 (13, 0, 1, zm_P_letter) := ⟨zo_zm_P_letter, fun _ => ⟨zmr 2019 rfl rfl, zmr 2020 rfl rfl, zmr 2021 rfl rfl, by decide⟩, fun h => absurd h (by decide), fun h => absurd h (by decide), fun h => absurd h (by decide)⟩
theorem zr_11_17 : zCok 11 (17, 0, 1, zm_M_letter) := ⟨zo_zm_M_letter, fun _ => ⟨zmr 4185 rfl rfl, zmr 4186 rfl rfl, zmr 4187 rfl rfl, by decide⟩, fun h => absurd h (by decide), fun h => absurd h (by decide), fun h => absurd h (by decide)⟩
theorem zr_11_18 : zCok 11 (18, 0, 0, zm_P_blank) := ⟨zo_zm_P_blank, fun _ => ⟨zmr 2031 rfl rfl, zmr 2032 rfl rfl, zmr 2033 rfl rfl, by decide⟩, fun h => absurd h (by decide), fun h => absurd h (by decide), fun h => absurd h (by decide)⟩
theorem zr_11_22 : zCok 11 (22, 0, 0, zm_M_blank) := ⟨zo_zm_M_blank, fun _ => ⟨zmr 4192 rfl rfl, zmr 4193 rfl rfl, zmr 4194 rfl rfl, by decide⟩, fun h => absurd h (by decide), fun h => absurd h (by decide), fun h => absurd h (by decide)⟩
theorem zr_11_23 : zCok 11 (23, 0, 0, zm_P_copy) := ⟨zo_zm_P_copy, fun _ => ⟨zmr 2039 rfl rfl, zmr 2040 rfl rfl, zmr 2041 rfl rfl, by decide⟩, fun h => absurd h (by decide), fun h => absurd h (by decide), fun h => absurd h (by decide)⟩
theorem zr_11_26 : zCok 11 (26, 0, 0, zm_M_copy) := ⟨zo_zm_M_copy, fun _ => ⟨zmr 4196 rfl rfl, zmr 4197 rfl rfl, zmr 4198 rfl rfl, by decide⟩, fun h => absurd h (by decide), fun h => absurd h (by decide), fun h => absurd h (by decide)⟩
theorem zr_11_27 : zCok 11 (27, 0, 1, zm_P_correct) := ⟨zo_zm_P_correct, fun _ => ⟨zmr 2072 rfl rfl, zmr 2073 rfl rfl, zmr 2074 rfl rfl, by decide⟩, fun h => absurd h (by decide), fun h => absurd h (by decide), fun h => absurd h (by decide)⟩
theorem zr_11_30 : zCok 11 (30, 0, 1, zm_M_correct) := ⟨zo_zm_M_correct, fun _ => ⟨zmr 4208 rfl rfl, zmr 4209 rfl rfl, zmr 4210 rfl rfl, by decide⟩, fun h => absurd h (by decide), fun h => absurd h (by decide), fun h => absurd h (by decide)⟩
theorem zr_11_31 : zCok 11 (31, 0, 0, zm_P_drop) := ⟨zo_zm_P_drop, fun _ => ⟨zmr 2085 rfl rfl, zmr 2086 rfl rfl, zmr 2087 rfl rfl, by decide⟩, fun h => absurd h (by decide), fun h => absurd h (by decide), fun h => absurd h (by decide)⟩
theorem zr_11_34 : zCok 11 (34, 0, 0, zm_M_drop) := ⟨zo_zm_M_drop, fun _ => ⟨zmr 4216 rfl rfl, zmr 4217 rfl rfl, zmr 4218 rfl rfl, by decide⟩, fun h => absurd h (by decide), fun h => absurd h (by decide), fun h => absurd h (by decide)⟩
theorem zr_11_35 : zCok 11 (35, 0, 1, zm_P_band) := ⟨zo_zm_P_band, fun _ => ⟨zmr 2094 rfl rfl, zmr 2095 rfl rfl, zmr 2096 rfl rfl, by decide⟩, fun h => absurd h (by decide), fun h => absurd h (by decide), fun h => absurd h (by decide)⟩
theorem zr_11_38 : zCok 11 (38, 0, 1, zm_M_band) := ⟨zo_zm_M_band, fun _ => ⟨zmr 4220 rfl rfl, zmr 4221 rfl rfl, zmr 4222 rfl rfl, by decide⟩, fun h => absurd h (by decide), fun h => absurd h (by decide), fun h => absurd h (by decide)⟩
theorem zr_11_39 : zCok 11 (39, 0, 2, zm_P_of) := ⟨zo_zm_P_of, fun _ => ⟨zmr 2106 rfl rfl, zmr 2107 rfl rfl, zmr 2108 rfl rfl, by decide⟩, fun h => absurd h (by decide), fun h => absurd h (by decide), fun h => absurd h (by decide)⟩
theorem zr_11_43 : zCok 11 (43, 0, 2, zm_M_of) := ⟨zo_zm_M_of, fun _ => ⟨zmr 5031 rfl rfl, zmr 5032 rfl rfl, zmr 5033 rfl rfl, by decide⟩, fun h => absurd h (by decide), fun h => absurd h (by decide), fun h => absurd h (by decide)⟩
theorem zr_11_44 : zCok 11 (44, 0, 2, zm_P_sign) := ⟨zo_zm_P_sign, fun _ => ⟨zmr 3014 rfl rfl, zmr 3015 rfl rfl, zmr 3016 rfl rfl, by decide⟩, fun h => absurd h (by decide), fun h => absurd h (by decide), fun h => absurd h (by decide)⟩
theorem zr_11_47 : zCok 11 (47, 0, 2, zm_M_sign) := ⟨zo_zm_M_sign, fun _ => ⟨zmr 5075 rfl rfl, zmr 5076 rfl rfl, zmr 5077 rfl rfl, by decide⟩, fun h => absurd h (by decide), fun h => absurd h (by decide), fun h => absurd h (by decide)⟩
theorem zr_11_48 : zCok 11 (48, 0, 3, zm_P_collate) := ⟨zo_zm_P_collate, fun _ => ⟨zmr 3023 rfl rfl, zmr 3024 rfl rfl, zmr 3025 rfl rfl, by decide⟩, fun h => absurd h (by decide), fun h => absurd h (by decide), fun h => absurd h (by decide)⟩
theorem zr_11_52 : zCok 11 (52, 0, 3, zm_M_collate) := ⟨zo_zm_M_collate, fun _ => ⟨zmr 4224 rfl rfl, zmr 4225 rfl rfl, zmr 4226 rfl rfl, by decide⟩, fun h => absurd h (by decide), fun h => absurd h (by decide), fun h => absurd h (by decide)⟩
theorem zr_11_53 : zCok 11 (53, 0, 3, zm_P_step) := ⟨zo_zm_P_step, fun _ => ⟨zmr 3027 rfl rfl, zmr 3028 rfl rfl, zmr 3029 rfl rfl, by decide⟩, fun h => absurd h (by decide), fun h => absurd h (by decide), fun h => absurd h (by decide)⟩
theorem zr_11_56 : zCok 11 (56, 0, 3, zm_M_step) := ⟨zo_zm_M_step, fun _ => ⟨zmr 5023 rfl rfl, zmr 5024 rfl rfl, zmr 5025 rfl rfl, by decide⟩, fun h => absurd h (by decide), fun h => absurd h (by decide), fun h => absurd h (by decide)⟩
theorem zr_11_57 : zCok 11 (57, 0, 2, zm_P_reading) := ⟨zo_zm_P_reading, fun _ => ⟨zmr 3033 rfl rfl, zmr 3034 rfl rfl, zmr 3035 rfl rfl, by decide⟩, fun h => absurd h (by decide), fun h => absurd h (by decide), fun h => absurd h (by decide)⟩
theorem zr_11_60 : zCok 11 (60, 0, 2, zm_M_reading) := ⟨zo_zm_M_reading, fun _ => ⟨zmr 5079 rfl rfl, zmr 5080 rfl rfl, zmr 5081 rfl rfl, by decide⟩, fun h => absurd h (by decide), fun h => absurd h (by decide), fun h => absurd h (by decide)⟩
theorem zr_11_61 : zCok 11 (61, 0, 1, zm_P_states) := ⟨zo_zm_P_states, fun _ => ⟨zmr 3038 rfl rfl, zmr 3039 rfl rfl, zmr 3040 rfl rfl, by decide⟩, fun h => absurd h (by decide), fun h => absurd h (by decide), fun h => absurd h (by decide)⟩
theorem zr_11_64 : zCok 11 (64, 0, 1, zm_M_states) := ⟨zo_zm_M_states, fun _ => ⟨zmr 5083 rfl rfl, zmr 5084 rfl rfl, zmr 5085 rfl rfl, by decide⟩, fun h => absurd h (by decide), fun h => absurd h (by decide), fun h => absurd h (by decide)⟩
theorem zr_11_65 : zCok 11 (65, 0, 2, zm_P_state) := ⟨zo_zm_P_state, fun _ => ⟨zmr 3068 rfl rfl, zmr 3069 rfl rfl, zmr 3070 rfl rfl, by decide⟩, fun h => absurd h (by decide), fun h => absurd h (by decide), fun h => absurd h (by decide)⟩
theorem zr_11_68 : zCok 11 (68, 0, 2, zm_M_state) := ⟨zo_zm_M_state, fun _ => ⟨zmr 5123 rfl rfl, zmr 5124 rfl rfl, zmr 5125 rfl rfl, by decide⟩, fun h => absurd h (by decide), fun h => absurd h (by decide), fun h => absurd h (by decide)⟩
theorem zr_11_69 : zCok 11 (69, 0, 2, zm_P_far) := ⟨zo_zm_P_far, fun _ => ⟨zmr 3081 rfl rfl, zmr 3082 rfl rfl, zmr 3083 rfl rfl, by decide⟩, fun h => absurd h (by decide), fun h => absurd h (by decide), fun h => absurd h (by decide)⟩
theorem zr_11_72 : zCok 11 (72, 0, 2, zm_M_far) := ⟨zo_zm_M_far, fun _ => ⟨zmr 5143 rfl rfl, zmr 5144 rfl rfl, zmr 5145 rfl rfl, by decide⟩, fun h => absurd h (by decide), fun h => absurd h (by decide), fun h => absurd h (by decide)⟩
theorem zr_11_73 : zCok 11 (73, 0, 2, zm_P_turned) := ⟨zo_zm_P_turned, fun _ => ⟨zmr 3086 rfl rfl, zmr 3087 rfl rfl, zmr 3088 rfl rfl, by decide⟩, fun h => absurd h (by decide), fun h => absurd h (by decide), fun h => absurd h (by decide)⟩
theorem zr_11_76 : zCok 11 (76, 0, 2, zm_M_turned) := ⟨zo_zm_M_turned, fun _ => ⟨zmr 5147 rfl rfl, zmr 5148 rfl rfl, zmr 5149 rfl rfl, by decide⟩, fun h => absurd h (by decide), fun h => absurd h (by decide), fun h => absurd h (by decide)⟩
theorem zr_11_77 : zCok 11 (77, 0, 4, zm_P_see) := ⟨zo_zm_P_see, fun _ => ⟨zmr 3094 rfl rfl, zmr 3095 rfl rfl, zmr 3096 rfl rfl, by decide⟩, fun h => absurd h (by decide), fun h => absurd h (by decide), fun h => absurd h (by decide)⟩
theorem zr_11_81 : zCok 11 (81, 0, 4, zm_M_see) := ⟨zo_zm_M_see, fun _ => ⟨zmr 5151 rfl rfl, zmr 5152 rfl rfl, zmr 5153 rfl rfl, by decide⟩, fun h => absurd h (by decide), fun h => absurd h (by decide), fun h => absurd h (by decide)⟩
theorem zr_11_82 : zCok 11 (82, 0, 1, zm_P_unsee) := ⟨zo_zm_P_unsee, fun _ => ⟨zmr 3110 rfl rfl, zmr 3111 rfl rfl, zmr 3112 rfl rfl, by decide⟩, fun h => absurd h (by decide), fun h => absurd h (by decide), fun h => absurd h (by decide)⟩
theorem zr_11_85 : zCok 11 (85, 0, 1, zm_M_unsee) := ⟨zo_zm_M_unsee, fun _ => ⟨zmr 5159 rfl rfl, zmr 5160 rfl rfl, zmr 5161 rfl rfl, by decide⟩, fun h => absurd h (by decide), fun h => absurd h (by decide), fun h => absurd h (by decide)⟩
theorem zr_11_86 : zCok 11 (86, 0, 2, zm_P_seen) := ⟨zo_zm_P_seen, fun _ => ⟨zmr 3123 rfl rfl, zmr 3124 rfl rfl, zmr 3125 rfl rfl, by decide⟩, fun h => absurd h (by decide), fun h => absurd h (by decide), fun h => absurd h (by decide)⟩
theorem zr_11_89 : zCok 11 (89, 0, 2, zm_M_seen) := ⟨zo_zm_M_seen, fun _ => ⟨zmr 5167 rfl rfl, zmr 5168 rfl rfl, zmr 5169 rfl rfl, by decide⟩, fun h => absurd h (by decide), fun h => absurd h (by decide), fun h => absurd h (by decide)⟩
theorem zr_11_90 : zCok 11 (90, 0, 2, zm_P_forme) := ⟨zo_zm_P_forme, fun _ => ⟨zmr 3131 rfl rfl, zmr 3132 rfl rfl, zmr 3133 rfl rfl, by decide⟩, fun h => absurd h (by decide), fun h => absurd h (by decide), fun h => absurd h (by decide)⟩
theorem zr_11_93 : zCok 11 (93, 0, 2, zm_M_forme) := ⟨zo_zm_M_forme, fun _ => ⟨zmr 5209 rfl rfl, zmr 5210 rfl rfl, zmr 5211 rfl rfl, by decide⟩, fun h => absurd h (by decide), fun h => absurd h (by decide), fun h => absurd h (by decide)⟩
theorem zr_11_94 : zCok 11 (94, 0, 1, zm_P_formes) := ⟨zo_zm_P_formes, fun _ => ⟨zmr 3219 rfl rfl, zmr 3220 rfl rfl, zmr 3221 rfl rfl, by decide⟩, fun h => absurd h (by decide), fun h => absurd h (by decide), fun h => absurd h (by decide)⟩
theorem zr_11_97 : zCok 11 (97, 0, 1, zm_M_formes) := ⟨zo_zm_M_formes, fun _ => ⟨zmr 6017 rfl rfl, zmr 6018 rfl rfl, zmr 6019 rfl rfl, by decide⟩, fun h => absurd h (by decide), fun h => absurd h (by decide), fun h => absurd h (by decide)⟩
theorem zr_11_98 : zCok 11 (98, 0, 1, zm_P_order) := ⟨zo_zm_P_order, fun _ => ⟨zmr 4032 rfl rfl, zmr 4033 rfl rfl, zmr 4034 rfl rfl, by decide⟩, fun h => absurd h (by decide), fun h => absurd h (by decide), fun h => absurd h (by decide)⟩
theorem zr_11_101 : zCok 11 (101, 0, 1, zm_M_order) := ⟨zo_zm_M_order, fun _ => ⟨zmr 5175 rfl rfl, zmr 5176 rfl rfl, zmr 5177 rfl rfl, by decide⟩, fun h => absurd h (by decide), fun h => absurd h (by decide), fun h => absurd h (by decide)⟩
theorem zr_11_102 : zCok 11 (102, 0, 1, zm_P_count) := ⟨zo_zm_P_count, fun _ => ⟨zmr 4045 rfl rfl, zmr 4046 rfl rfl, zmr 4047 rfl rfl, by decide⟩, fun h => absurd h (by decide), fun h => absurd h (by decide), fun h => absurd h (by decide)⟩
theorem zr_11_105 : zCok 11 (105, 0, 1, zm_M_count) := ⟨zo_zm_M_count, fun _ => ⟨zmr 6037 rfl rfl, zmr 6038 rfl rfl, zmr 6039 rfl rfl, by decide⟩, fun h => absurd h (by decide), fun h => absurd h (by decide), fun h => absurd h (by decide)⟩
theorem zr_11_106 : zCok 11 (106, 0, 0, zm_P_digest) := ⟨zo_zm_P_digest, fun _ => ⟨zmr 4049 rfl rfl, zmr 4050 rfl rfl, zmr 4051 rfl rfl, by decide⟩, fun h => absurd h (by decide), fun h => absurd h (by decide), fun h => absurd h (by decide)⟩
theorem zr_11_110 : zCok 11 (110, 0, 0, zm_M_digest) := ⟨zo_zm_M_digest, fun _ => ⟨zmr 6045 rfl rfl, zmr 6046 rfl rfl, zmr 6047 rfl rfl, by decide⟩, fun h => absurd h (by decide), fun h => absurd h (by decide), fun h => absurd h (by decide)⟩
theorem zCo11 : ∀ e ∈ zCT11, zCok 11 e := List.forall_mem_cons.mpr ⟨zr_11_9, List.forall_mem_cons.mpr ⟨zr_11_12, List.forall_mem_cons.mpr ⟨zr_11_13, List.forall_mem_cons.mpr ⟨zr_11_17, List.forall_mem_cons.mpr ⟨zr_11_18, List.forall_mem_cons.mpr ⟨zr_11_22, List.forall_mem_cons.mpr ⟨zr_11_23, List.forall_mem_cons.mpr ⟨zr_11_26, List.forall_mem_cons.mpr ⟨zr_11_27, List.forall_mem_cons.mpr ⟨zr_11_30, List.forall_mem_cons.mpr ⟨zr_11_31, List.forall_mem_cons.mpr ⟨zr_11_34, List.forall_mem_cons.mpr ⟨zr_11_35, List.forall_mem_cons.mpr ⟨zr_11_38, List.forall_mem_cons.mpr ⟨zr_11_39, List.forall_mem_cons.mpr ⟨zr_11_43, List.forall_mem_cons.mpr ⟨zr_11_44, List.forall_mem_cons.mpr ⟨zr_11_47, List.forall_mem_cons.mpr ⟨zr_11_48, List.forall_mem_cons.mpr ⟨zr_11_52, List.forall_mem_cons.mpr ⟨zr_11_53, List.forall_mem_cons.mpr ⟨zr_11_56, List.forall_mem_cons.mpr ⟨zr_11_57, List.forall_mem_cons.mpr ⟨zr_11_60, List.forall_mem_cons.mpr ⟨zr_11_61, List.forall_mem_cons.mpr ⟨zr_11_64, List.forall_mem_cons.mpr ⟨zr_11_65, List.forall_mem_cons.mpr ⟨zr_11_68, List.forall_mem_cons.mpr ⟨zr_11_69, List.forall_mem_cons.mpr ⟨zr_11_72, List.forall_mem_cons.mpr ⟨zr_11_73, List.forall_mem_cons.mpr ⟨zr_11_76, List.forall_mem_cons.mpr ⟨zr_11_77, List.forall_mem_cons.mpr ⟨zr_11_81, List.forall_mem_cons.mpr ⟨zr_11_82, List.forall_mem_cons.mpr ⟨zr_11_85, List.forall_mem_cons.mpr ⟨zr_11_86, List.forall_mem_cons.mpr ⟨zr_11_89, List.forall_mem_cons.mpr ⟨zr_11_90, List.forall_mem_cons.mpr ⟨zr_11_93, List.forall_mem_cons.mpr ⟨zr_11_94, List.forall_mem_cons.mpr ⟨zr_11_97, List.forall_mem_cons.mpr ⟨zr_11_98, List.forall_mem_cons.mpr ⟨zr_11_101, List.forall_mem_cons.mpr ⟨zr_11_102, List.forall_mem_cons.mpr ⟨zr_11_105, List.forall_mem_cons.mpr ⟨zr_11_106, List.forall_mem_cons.mpr ⟨zr_11_110, fun _ h => absurd h List.not_mem_nil⟩⟩⟩⟩⟩⟩⟩⟩⟩⟩⟩⟩⟩⟩⟩⟩⟩⟩⟩⟩⟩⟩⟩⟩⟩⟩⟩⟩⟩⟩⟩⟩⟩⟩⟩⟩⟩⟩⟩⟩⟩⟩⟩⟩⟩⟩⟩⟩
theorem zCo12 : ∀ e ∈ zCT12, zCok 12 e := fun _ h => absurd h List.not_mem_nil
theorem zCo13 : ∀ e ∈ zCT13, zCok 13 e := fun _ h => absurd h List.not_mem_nil
theorem zCall_ok {c i kd np : Nat} {m : zD} (h : zCall c i = some (kd, np, m)) : zCok c (i, kd, np, m) := by
  unfold zCall at h
  obtain ⟨e, he, h2⟩ := Option.map_eq_some_iff.mp h
  have hm := List.mem_of_find?_eq_some he
  have hi : e.1 = i := by have := List.find?_some he; simpa using this
  have hee : e = (i, kd, np, m) := by rw [← hi, ← h2]
  rw [hee] at hm
  match c, hm with
  | 0, hm => exact zCo0 _ hm
  | 1, hm => exact zCo1 _ hm
  | 2, hm => exact zCo2 _ hm
  | 3, hm => exact zCo3 _ hm
  | 4, hm => exact zCo4 _ hm
  | 5, hm => exact zCo5 _ hm
  | 6, hm => exact zCo6 _ hm
  | 7, hm => exact zCo7 _ hm
  | 8, hm => exact zCo8 _ hm
  | 9, hm => exact zCo9 _ hm
  | 10, hm => exact zCo10 _ hm
  | 11, hm => exact zCo11 _ hm
  | 12, hm => exact zCo12 _ hm
  | 13, hm => exact zCo13 _ hm
  | c + 14, hm => exact absurd hm List.not_mem_nil
theorem zObj_ok {c i : Nat} (h : zObj c i = true) : Cond.methodLink (zCn c) i Lib.objectInit ∈ zGW := by
  match c, h with
  | 0, h =>
    have e : i = 3 := by simpa [zObj] using h
    subst e
    exact zmr 1051 rfl rfl
  | 1, h =>
    have e : i = 3 := by simpa [zObj] using h
    subst e
    exact zmr 1061 rfl rfl
  | 2, h =>
    have e : i = 3 := by simpa [zObj] using h
    subst e
    exact zmr 1161 rfl rfl
  | 3, h =>
    have e : i = 3 := by simpa [zObj] using h
    subst e
    exact zmr 1041 rfl rfl
  | 4, h =>
    have e : i = 3 := by simpa [zObj] using h
    subst e
    exact zmr 1192 rfl rfl
  | 5, h =>
    have e : i = 3 := by simpa [zObj] using h
    subst e
    exact zmr 1220 rfl rfl
  | 6, h =>
    have e : i = 3 := by simpa [zObj] using h
    subst e
    exact zmr 1144 rfl rfl
  | 7, h =>
    have e : i = 3 := by simpa [zObj] using h
    subst e
    exact zmr 1099 rfl rfl
  | 8, h =>
    have e : i = 3 := by simpa [zObj] using h
    subst e
    exact zmr 1027 rfl rfl
  | 9, h =>
    have e : i = 1 := by simpa [zObj] using h
    subst e
    exact zmr 1019 rfl rfl
  | 10, h =>
    have e : i = 1 := by simpa [zObj] using h
    subst e
    exact zmr 4086 rfl rfl
  | c + 11, h => simp [zObj] at h
theorem zObj_i : Cond.instanceMethod Lib.objectInit ∈ zGW := zmr 1020 rfl rfl
theorem zObj_c : Cond.code Lib.objectInit ⟨#[0xb1]⟩ 1 none ∈ zGW := zmr 1021 rfl rfl
def zMn (a : Nat) : MethodName := match a with
  | 0 => Lib.Math.max.name
  | 1 => Lib.Math.min.name
  | _ => Lib.Math.abs.name
theorem zMth_ok {c i a : Nat} (h : zMth c i = some a) : Cond.methodLink (zCn c) i (zMn a) ∈ zGW ∧ (a = 0 ∨ a = 1 ∨ a = 2) := by
  unfold zMth at h
  split at h
  · cases h; exact ⟨zmr 2135 rfl rfl, by decide⟩
  · cases h; exact ⟨zmr 2155 rfl rfl, by decide⟩
  · cases h; exact ⟨zmr 2055 rfl rfl, by decide⟩
  · cases h
theorem zMs0 : Cond.static Lib.Math.max.name ∈ zGW := zmr 2056 rfl rfl
theorem zMc0 : Cond.code Lib.Math.max.name Lib.Math.max.code 2 (some .int) ∈ zGW := zmr 2057 rfl rfl
theorem zMs1 : Cond.static Lib.Math.min.name ∈ zGW := zmr 2156 rfl rfl
theorem zMc1 : Cond.code Lib.Math.min.name Lib.Math.min.code 2 (some .int) ∈ zGW := zmr 2157 rfl rfl
theorem zMs2 : Cond.static Lib.Math.abs.name ∈ zGW := zmr 2136 rfl rfl
theorem zMc2 : Cond.code Lib.Math.abs.name Lib.Math.abs.code 1 (some .int) ∈ zGW := zmr 2137 rfl rfl
theorem zCst_ok {c i : Nat} {v : Int} (h : zCst c i = some v) : Cond.constant (zCn c) i (Int32.ofInt v) ∈ zGW ∧ zR v := by
  unfold zCst at h
  split at h
  · cases h; exact ⟨zmr 2146 rfl rfl, by decide, by decide⟩
  · cases h; exact ⟨zmr 3061 rfl rfl, by decide, by decide⟩
  · cases h; exact ⟨zmr 3062 rfl rfl, by decide, by decide⟩
  · cases h; exact ⟨zmr 3063 rfl rfl, by decide, by decide⟩
  · cases h; exact ⟨zmr 3176 rfl rfl, by decide, by decide⟩
  · cases h; exact ⟨zmr 5000 rfl rfl, by decide, by decide⟩
  · cases h
theorem zCstL_ok {c i : Nat} {v : Int64} (h : zCstL c i = some v) : Cond.constantLong (zCn c) i v ∈ zGW := by
  unfold zCstL at h
  split at h
  · cases h; exact zmr 4053 rfl rfl
  · cases h; exact zmr 4058 rfl rfl
  · cases h; exact zmr 6049 rfl rfl
  · cases h; exact zmr 6058 rfl rfl
  · cases h
def zSn (a : Nat) : String := match a with
  | 0 => "GROUP_OF_LETTER"
  | 1 => "COST_OF_KIND"
  | _ => "STEP_OF_KIND"
theorem zStat_ok {c i a : Nat} (h : zStat c i = some a) : Cond.fieldLinkNest (zCn c) i "StopPress" (zSn a) "[I" "StopPress" ∈ zNW ∧ a < 3 := by
  unfold zStat at h
  split at h
  · cases h; exact ⟨List.mem_of_getElem? (i := 9) (by decide +kernel), by decide⟩
  · cases h; exact ⟨List.mem_of_getElem? (i := 10) (by decide +kernel), by decide⟩
  · cases h; exact ⟨List.mem_of_getElem? (i := 11) (by decide +kernel), by decide⟩
  · cases h; exact ⟨List.mem_of_getElem? (i := 12) (by decide +kernel), by decide⟩
  · cases h
theorem zNew_ok {c i C : Nat} (h : zNew c i = some C) : Cond.classLink (zCn c) i (zCn C) ∈ zGW ∧ Cond.instantiable (zCn C) (zNF C) ∈ zGW ∧ Cond.initialized (zCn C) ∈ zGW ∧ C < 11 := by
  unfold zNew at h
  split at h
  · cases h; exact ⟨zmr 1014 rfl rfl, zmr 1015 rfl rfl, zmr 1001 rfl rfl, by decide⟩
  · cases h; exact ⟨zmr 4081 rfl rfl, zmr 4082 rfl rfl, zmr 1011 rfl rfl, by decide⟩
  · cases h; exact ⟨zmr 1022 rfl rfl, zmr 1023 rfl rfl, zmr 1002 rfl rfl, by decide⟩
  · cases h; exact ⟨zmr 1036 rfl rfl, zmr 1037 rfl rfl, zmr 1003 rfl rfl, by decide⟩
  · cases h; exact ⟨zmr 1094 rfl rfl, zmr 1095 rfl rfl, zmr 1006 rfl rfl, by decide⟩
  · cases h; exact ⟨zmr 1139 rfl rfl, zmr 1140 rfl rfl, zmr 1007 rfl rfl, by decide⟩
  · cases h; exact ⟨zmr 1156 rfl rfl, zmr 1157 rfl rfl, zmr 1008 rfl rfl, by decide⟩
  · cases h; exact ⟨zmr 1187 rfl rfl, zmr 1188 rfl rfl, zmr 1009 rfl rfl, by decide⟩
  · cases h; exact ⟨zmr 1215 rfl rfl, zmr 1216 rfl rfl, zmr 1010 rfl rfl, by decide⟩
  · cases h; exact ⟨zmr 1042 rfl rfl, zmr 1023 rfl rfl, zmr 1002 rfl rfl, by decide⟩
  · cases h; exact ⟨zmr 1044 rfl rfl, zmr 1057 rfl rfl, zmr 1005 rfl rfl, by decide⟩
  · cases h; exact ⟨zmr 1046 rfl rfl, zmr 1047 rfl rfl, zmr 1004 rfl rfl, by decide⟩
  · cases h
theorem zM6 : Cond.classLink (zCn 6) 9 "[[I" ∈ zGW := zmr 1145 rfl rfl
theorem zM7 : Cond.classLink (zCn 7) 9 "[[I" ∈ zGW := zmr 1100 rfl rfl
theorem zAi : Cond.arrayClass .int ∈ zGW := zmr 1035 rfl rfl
theorem zAz : Cond.arrayClass .boolean ∈ zGW := zmr 4184 rfl rfl
theorem zAoT : Cond.arrayOver (.object "StopPress$Text") ∈ lw_tbl := zPl_in (p := 1043) rfl
theorem zAoA : Cond.arrayOver (.object "StopPress$Alignment") ∈ lw_tbl := zPl_in (p := 1045) rfl
theorem zAoI : Cond.arrayOver (.array .int) ∈ lw_tbl := zPl_in (p := 1101) rfl
theorem zLs0 : Cond.laysStatic "StopPress" "GROUP_OF_LETTER" "[I" ∈ lw_tbl := zPl_in (p := 2152) rfl
theorem zLs1 : Cond.laysStatic "StopPress" "COST_OF_KIND" "[I" ∈ lw_tbl := zPl_in (p := 2154) rfl
theorem zLs2 : Cond.laysStatic "StopPress" "STEP_OF_KIND" "[I" ∈ lw_tbl := zPl_in (p := 2167) rfl
theorem zIn0 : Cond.initialized (zCn 0) ∈ zGW := zmr 1004 rfl rfl
theorem zIn1 : Cond.initialized (zCn 1) ∈ zGW := zmr 1005 rfl rfl
theorem zIn2 : Cond.initialized (zCn 2) ∈ zGW := zmr 1008 rfl rfl
theorem zIn3 : Cond.initialized (zCn 3) ∈ zGW := zmr 1003 rfl rfl
theorem zIn4 : Cond.initialized (zCn 4) ∈ zGW := zmr 1009 rfl rfl
theorem zIn5 : Cond.initialized (zCn 5) ∈ zGW := zmr 1010 rfl rfl
theorem zIn6 : Cond.initialized (zCn 6) ∈ zGW := zmr 1007 rfl rfl
theorem zIn7 : Cond.initialized (zCn 7) ∈ zGW := zmr 1006 rfl rfl
theorem zIn8 : Cond.initialized (zCn 8) ∈ zGW := zmr 1002 rfl rfl
theorem zIn9 : Cond.initialized (zCn 9) ∈ zGW := zmr 1001 rfl rfl
theorem zIn10 : Cond.initialized (zCn 10) ∈ zGW := zmr 1011 rfl rfl
theorem zIn11 : Cond.initialized (zCn 11) ∈ zGW := zmr 1000 rfl rfl
theorem zIn12 : Cond.initialized (zCn 12) ∈ zGW := zmr 1013 rfl rfl
theorem zIn13 : Cond.initialized (zCn 13) ∈ zGW := zmr 1012 rfl rfl
