def oNest : List Cond := [(Jvm.Cond.fieldLinkNest "VillageOven$Masonry" (32 : Nat) "VillageOven" "MASS" "[I" "VillageOven"), (Jvm.Cond.methodLinkNest "VillageOven" (18 : Nat) ({ cls := "VillageOven$Kinds", name := "<init>", desc := "()V" } : Jvm.MethodName) "VillageOven"), (Jvm.Cond.methodLinkNest "VillageOven$Loaves" (40 : Nat) ({ cls := "VillageOven$Load", name := "<init>", desc := "()V" } : Jvm.MethodName) "VillageOven"), (Jvm.Cond.methodLinkNest "VillageOven$Planner" (52 : Nat) ({ cls := "VillageOven$Load", name := "<init>", desc := "()V" } : Jvm.MethodName) "VillageOven"), (Jvm.Cond.methodLinkNest "VillageOven" (41 : Nat) ({ cls := "VillageOven$WoodFinder", name := "<init>", desc := "()V" } : Jvm.MethodName) "VillageOven"), (Jvm.Cond.methodLinkNest "VillageOven" (55 : Nat) ({ cls := "VillageOven$Book", name := "<init>", desc := "()V" } : Jvm.MethodName) "VillageOven"), (Jvm.Cond.fieldLinkNest "VillageOven$Masonry" (96 : Nat) "VillageOven" "DOOR_DRAUGHT" "[I" "VillageOven"), (Jvm.Cond.methodLinkNest "VillageOven$Kinds" (47 : Nat) ({ cls := "VillageOven", name := "within", desc := "(III)Z" } : Jvm.MethodName) "VillageOven"), (Jvm.Cond.fieldLinkNest "VillageOven$Loaves" (57 : Nat) "VillageOven" "ROOM" "[I" "VillageOven"), (Jvm.Cond.methodLinkNest "VillageOven$Loaves" (45 : Nat) ({ cls := "VillageOven", name := "within", desc := "(III)Z" } : Jvm.MethodName) "VillageOven"), (Jvm.Cond.fieldLinkNest "VillageOven$Planner" (74 : Nat) "VillageOven" "PAIR_OUT" "[I" "VillageOven"), (Jvm.Cond.fieldLinkNest "VillageOven$Planner" (125 : Nat) "VillageOven" "ROOM" "[I" "VillageOven"), (Jvm.Cond.fieldLinkNest "VillageOven$Planner" (71 : Nat) "VillageOven" "PAIR_IN" "[I" "VillageOven"), (Jvm.Cond.methodLinkNest "VillageOven$Planner" (67 : Nat) ({ cls := "VillageOven", name := "within", desc := "(III)Z" } : Jvm.MethodName) "VillageOven"), (Jvm.Cond.methodLinkNest "VillageOven$Turns" (38 : Nat) ({ cls := "VillageOven", name := "within", desc := "(III)Z" } : Jvm.MethodName) "VillageOven")]
theorem oNest_in : ∀ w ∈ oNest, w ∈ lw_tbl := by
  intro w hw
  simp only [oNest, List.mem_cons, List.not_mem_nil, or_false] at hw
  rcases hw with rfl | rfl | rfl | rfl | rfl | rfl | rfl | rfl | rfl | rfl | rfl | rfl | rfl | rfl | rfl
  · exact oMemT 27 (by decide +kernel)
  · exact oMemT 72 (by decide +kernel)
  · exact oMemT 124 (by decide +kernel)
  · exact oMemT 199 (by decide +kernel)
  · exact oMemT 253 (by decide +kernel)
  · exact oMemT 311 (by decide +kernel)
  · exact oMemT 456 (by decide +kernel)
  · exact oMemT 522 (by decide +kernel)
  · exact oMemT 553 (by decide +kernel)
  · exact oMemT 567 (by decide +kernel)
  · exact oMemT 657 (by decide +kernel)
  · exact oMemT 659 (by decide +kernel)
  · exact oMemT 660 (by decide +kernel)
  · exact oMemT 686 (by decide +kernel)
  · exact oMemT 736 (by decide +kernel)
/-- kind of a tag: 1 an object (class, fields), 2 ints, 3 longs, 4 booleans (length), 5 Loads (length, first) -/
def oTab : List (Nat × Nat × Nat × Nat) := [(100, 1, 0, 8), (101, 2, 244, 0), (102, 2, 10, 0), (103, 2, 10, 0), (200, 1, 1, 11), (201, 2, 8, 0), (202, 4, 8, 0), (203, 2, 8, 0), (204, 2, 8, 0), (205, 2, 8, 0), (206, 2, 8, 0), (207, 2, 8, 0), (208, 2, 8, 0), (209, 2, 8, 0), (210, 2, 8, 0), (300, 1, 2, 3), (400, 1, 3, 13), (402, 5, 4, 0), (403, 2, 200, 0), (404, 2, 200, 0), (405, 2, 200, 0), (406, 2, 200, 0), (407, 2, 200, 0), (408, 2, 200, 0), (500, 1, 4, 10), (501, 3, 12, 0), (502, 2, 4, 0), (503, 2, 4, 0), (504, 2, 30, 0), (505, 2, 30, 0), (600, 1, 5, 15), (603, 3, 160, 0), (604, 2, 4, 0), (605, 2, 3, 0), (606, 4, 48, 0), (607, 2, 5, 0), (608, 5, 8, 4), (609, 2, 4, 0), (610, 2, 4, 0), (700, 1, 6, 10), (701, 2, 30, 0), (702, 2, 30, 0), (703, 2, 30, 0), (704, 4, 30, 0), (705, 2, 8, 0), (800, 1, 7, 2), (900, 1, 8, 8), (1000, 1, 9, 65), (1002, 3, 12, 0), (1003, 2, 4, 0), (1004, 2, 4, 0), (1007, 2, 30, 0), (1008, 2, 30, 0), (1015, 2, 8, 0), (1016, 4, 8, 0), (1017, 2, 8, 0), (1018, 2, 8, 0), (1019, 2, 8, 0), (1020, 2, 8, 0), (1021, 2, 8, 0), (1022, 2, 8, 0), (1023, 2, 8, 0), (1024, 2, 8, 0), (1026, 2, 200, 0), (1027, 2, 200, 0), (1028, 2, 200, 0), (1029, 2, 200, 0), (1030, 2, 200, 0), (1031, 2, 200, 0), (1034, 2, 4, 0), (1036, 2, 4, 0), (1042, 2, 30, 0), (1043, 2, 30, 0), (1044, 2, 30, 0), (1045, 4, 30, 0), (1046, 2, 244, 0), (1048, 2, 10, 0), (1049, 2, 10, 0), (1050, 3, 12, 0), (1051, 3, 12, 0), (1052, 2, 4, 0), (1057, 3, 164, 0), (1059, 2, 13, 0), (1060, 2, 13, 0), (1061, 2, 13, 0), (1062, 4, 52, 0), (1063, 2, 4, 0), (1065, 2, 8, 0)]
def oTags : List (Nat × Nat) := [(100, 1), (101, 1), (102, 1), (103, 1), (200, 1), (201, 1), (202, 1), (203, 1), (204, 1), (205, 1), (206, 1), (207, 1), (208, 1), (209, 1), (210, 1), (300, 12), (400, 1), (402, 1), (403, 1), (404, 1), (405, 1), (406, 1), (407, 1), (408, 1), (500, 4), (501, 4), (502, 4), (503, 4), (504, 4), (505, 4), (600, 1), (603, 1), (604, 1), (605, 1), (606, 1), (607, 1), (608, 1), (609, 1), (610, 1), (700, 1), (701, 1), (702, 1), (703, 1), (704, 1), (705, 1), (800, 1), (900, 1), (1000, 1), (1002, 1), (1003, 1), (1004, 1), (1007, 1), (1008, 1), (1015, 1), (1016, 1), (1017, 1), (1018, 1), (1019, 1), (1020, 1), (1021, 1), (1022, 1), (1023, 1), (1024, 1), (1026, 1), (1027, 1), (1028, 1), (1029, 1), (1030, 1), (1031, 1), (1034, 1), (1036, 1), (1042, 1), (1043, 1), (1044, 1), (1045, 1), (1046, 1), (1048, 1), (1049, 1), (1050, 1), (1051, 1), (1052, 1), (1057, 1), (1059, 1), (1060, 1), (1061, 1), (1062, 1), (1063, 1), (1065, 1)]
/-- fields: 0 an int, 1 a long, 2 a reference to tag, instance a j + b -/
def oFtab : List (Nat × Nat × Nat × Nat × Nat) := [(10000, 2, 101, 1, 0), (10001, 2, 102, 1, 0), (10002, 2, 103, 1, 0), (10003, 0, 0, 0, 0), (10004, 0, 0, 0, 0), (10005, 0, 0, 0, 0), (10006, 0, 0, 0, 0), (10007, 0, 0, 0, 0), (20000, 2, 201, 1, 0), (20001, 2, 202, 1, 0), (20002, 2, 203, 1, 0), (20003, 2, 204, 1, 0), (20004, 2, 205, 1, 0), (20005, 2, 206, 1, 0), (20006, 2, 207, 1, 0), (20007, 2, 208, 1, 0), (20008, 2, 209, 1, 0), (20009, 2, 210, 1, 0), (20010, 0, 0, 0, 0), (30000, 0, 0, 0, 0), (30001, 0, 0, 0, 0), (30002, 0, 0, 0, 0), (40000, 2, 200, 0, 0), (40001, 2, 402, 1, 0), (40002, 2, 403, 1, 0), (40003, 2, 404, 1, 0), (40004, 2, 405, 1, 0), (40005, 2, 406, 1, 0), (40006, 2, 407, 1, 0), (40007, 2, 408, 1, 0), (40008, 0, 0, 0, 0), (40009, 0, 0, 0, 0), (40010, 0, 0, 0, 0), (40011, 1, 0, 0, 0), (40012, 0, 0, 0, 0), (50000, 2, 501, 1, 0), (50001, 2, 502, 1, 0), (50002, 2, 503, 1, 0), (50003, 2, 504, 1, 0), (50004, 2, 505, 1, 0), (50005, 0, 0, 0, 0), (50006, 0, 0, 0, 0), (50007, 0, 0, 0, 0), (50008, 1, 0, 0, 0), (50009, 1, 0, 0, 0), (60000, 2, 200, 0, 0), (60001, 2, 500, 0, 1), (60002, 2, 603, 1, 0), (60003, 2, 604, 1, 0), (60004, 2, 605, 1, 0), (60005, 2, 606, 1, 0), (60006, 2, 607, 1, 0), (60007, 2, 608, 1, 0), (60008, 2, 609, 1, 0), (60009, 2, 610, 1, 0), (60010, 0, 0, 0, 0), (60011, 0, 0, 0, 0), (60012, 0, 0, 0, 0), (60013, 0, 0, 0, 0), (60014, 0, 0, 0, 0), (70000, 2, 701, 1, 0), (70001, 2, 702, 1, 0), (70002, 2, 703, 1, 0), (70003, 2, 704, 1, 0), (70004, 2, 705, 1, 0), (70005, 0, 0, 0, 0), (70006, 0, 0, 0, 0), (70007, 0, 0, 0, 0), (70008, 0, 0, 0, 0), (70009, 0, 0, 0, 0), (80000, 2, 500, 0, 2), (80001, 2, 500, 0, 3), (90000, 2, 500, 0, 0), (90001, 2, 200, 0, 0), (90002, 2, 400, 0, 0), (90003, 2, 600, 0, 0), (90004, 2, 800, 0, 0), (90005, 2, 700, 0, 0), (90006, 2, 100, 0, 0), (90007, 0, 0, 0, 0), (100000, 0, 0, 0, 0), (100001, 2, 1002, 1, 0), (100002, 2, 1003, 1, 0), (100003, 2, 1004, 1, 0), (100004, 0, 0, 0, 0), (100005, 0, 0, 0, 0), (100006, 2, 1007, 1, 0), (100007, 2, 1008, 1, 0), (100008, 1, 0, 0, 0), (100009, 1, 0, 0, 0), (100010, 1, 0, 0, 0), (100011, 0, 0, 0, 0), (100012, 0, 0, 0, 0), (100013, 0, 0, 0, 0), (100014, 2, 1015, 1, 0), (100015, 2, 1016, 1, 0), (100016, 2, 1017, 1, 0), (100017, 2, 1018, 1, 0), (100018, 2, 1019, 1, 0), (100019, 2, 1020, 1, 0), (100020, 2, 1021, 1, 0), (100021, 2, 1022, 1, 0), (100022, 2, 1023, 1, 0), (100023, 2, 1024, 1, 0), (100024, 0, 0, 0, 0), (100025, 2, 1026, 1, 0), (100026, 2, 1027, 1, 0), (100027, 2, 1028, 1, 0), (100028, 2, 1029, 1, 0), (100029, 2, 1030, 1, 0), (100030, 2, 1031, 1, 0), (100031, 0, 0, 0, 0), (100032, 0, 0, 0, 0), (100033, 2, 1034, 1, 0), (100034, 0, 0, 0, 0), (100035, 2, 1036, 1, 0), (100036, 0, 0, 0, 0), (100037, 0, 0, 0, 0), (100038, 0, 0, 0, 0), (100039, 0, 0, 0, 0), (100040, 0, 0, 0, 0), (100041, 2, 1042, 1, 0), (100042, 2, 1043, 1, 0), (100043, 2, 1044, 1, 0), (100044, 2, 1045, 1, 0), (100045, 2, 1046, 1, 0), (100046, 0, 0, 0, 0), (100047, 2, 1048, 1, 0), (100048, 2, 1049, 1, 0), (100049, 2, 1050, 1, 0), (100050, 2, 1051, 1, 0), (100051, 2, 1052, 1, 0), (100052, 1, 0, 0, 0), (100053, 0, 0, 0, 0), (100054, 0, 0, 0, 0), (100055, 0, 0, 0, 0), (100056, 2, 1057, 1, 0), (100057, 0, 0, 0, 0), (100058, 2, 1059, 1, 0), (100059, 2, 1060, 1, 0), (100060, 2, 1061, 1, 0), (100061, 2, 1062, 1, 0), (100062, 2, 1063, 1, 0), (100063, 0, 0, 0, 0), (100064, 2, 1065, 1, 0)]
def oKd (t : Nat) : Nat × Nat × Nat := (oTab.lookup t).getD (0, 0, 0)
def oCnt (t : Nat) : Nat := (oTags.lookup t).getD 0
def oFt (t k : Nat) : Nat × Nat × Nat × Nat := (oFtab.lookup (t * 100 + k)).getD (0, 0, 0, 0)
def oIds : List (Nat × Nat) := oTags.flatMap fun q => (List.range q.2).map fun j => (q.1, j)
theorem oLayX0 : ∀ w ∈ u_ws RX0 TX0 8, oW w := by
  have h : ∀ k, k < 8 → oW (u_lay RX0 TX0 k) := (lt_s (lt_s (lt_s (lt_s (lt_s (lt_s (lt_s (lt_s lt_0 wd_329) wd_331) wd_333) wd_335) wd_337) wd_339) wd_341) wd_343)
  intro w hw
  obtain ⟨k, hk, rfl⟩ := List.mem_map.mp hw
  exact h k (List.mem_range.mp hk)
theorem oLayX1 : ∀ w ∈ u_ws RX1 TX1 11, oW w := by
  have h : ∀ k, k < 11 → oW (u_lay RX1 TX1 k) := (lt_s (lt_s (lt_s (lt_s (lt_s (lt_s (lt_s (lt_s (lt_s (lt_s (lt_s lt_0 wd_91) wd_93) wd_95) wd_97) wd_99) wd_101) wd_103) wd_105) wd_107) wd_109) wd_111)
  intro w hw
  obtain ⟨k, hk, rfl⟩ := List.mem_map.mp hw
  exact h k (List.mem_range.mp hk)
theorem oLayX2 : ∀ w ∈ u_ws RX2 TX2 3, oW w := by
  have h : ∀ k, k < 3 → oW (u_lay RX2 TX2 k) := (lt_s (lt_s (lt_s lt_0 wd_131) wd_133) wd_135)
  intro w hw
  obtain ⟨k, hk, rfl⟩ := List.mem_map.mp hw
  exact h k (List.mem_range.mp hk)
theorem oLayX3 : ∀ w ∈ u_ws RX3 TX3 13, oW w := by
  have h : ∀ k, k < 13 → oW (u_lay RX3 TX3 k) := (lt_s (lt_s (lt_s (lt_s (lt_s (lt_s (lt_s (lt_s (lt_s (lt_s (lt_s (lt_s (lt_s lt_0 wd_163) wd_165) wd_167) wd_169) wd_171) wd_173) wd_175) wd_177) wd_179) wd_181) wd_183) wd_185) wd_187)
  intro w hw
  obtain ⟨k, hk, rfl⟩ := List.mem_map.mp hw
  exact h k (List.mem_range.mp hk)
theorem oLayX4 : ∀ w ∈ u_ws RX4 TX4 10, oW w := by
  have h : ∀ k, k < 10 → oW (u_lay RX4 TX4 k) := (lt_s (lt_s (lt_s (lt_s (lt_s (lt_s (lt_s (lt_s (lt_s (lt_s lt_0 wd_47) wd_49) wd_51) wd_53) wd_55) wd_57) wd_59) wd_61) wd_63) wd_65)
  intro w hw
  obtain ⟨k, hk, rfl⟩ := List.mem_map.mp hw
  exact h k (List.mem_range.mp hk)
theorem oLayX5 : ∀ w ∈ u_ws RX5 TX5 15, oW w := by
  have h : ∀ k, k < 15 → oW (u_lay RX5 TX5 k) := (lt_s (lt_s (lt_s (lt_s (lt_s (lt_s (lt_s (lt_s (lt_s (lt_s (lt_s (lt_s (lt_s (lt_s (lt_s lt_0 wd_220) wd_222) wd_224) wd_226) wd_228) wd_230) wd_232) wd_234) wd_236) wd_238) wd_240) wd_242) wd_244) wd_246) wd_248)
  intro w hw
  obtain ⟨k, hk, rfl⟩ := List.mem_map.mp hw
  exact h k (List.mem_range.mp hk)
theorem oLayX6 : ∀ w ∈ u_ws RX6 TX6 10, oW w := by
  have h : ∀ k, k < 10 → oW (u_lay RX6 TX6 k) := (lt_s (lt_s (lt_s (lt_s (lt_s (lt_s (lt_s (lt_s (lt_s (lt_s lt_0 wd_288) wd_290) wd_292) wd_294) wd_296) wd_298) wd_300) wd_302) wd_304) wd_306)
  intro w hw
  obtain ⟨k, hk, rfl⟩ := List.mem_map.mp hw
  exact h k (List.mem_range.mp hk)
theorem oLayX7 : ∀ w ∈ u_ws RX7 TX7 2, oW w := by
  have h : ∀ k, k < 2 → oW (u_lay RX7 TX7 k) := (lt_s (lt_s lt_0 wd_261) wd_263)
  intro w hw
  obtain ⟨k, hk, rfl⟩ := List.mem_map.mp hw
  exact h k (List.mem_range.mp hk)
theorem oLayX8 : ∀ w ∈ u_ws RX8 TX8 8, oW w := by
  have h : ∀ k, k < 8 → oW (u_lay RX8 TX8 k) := (lt_s (lt_s (lt_s (lt_s (lt_s (lt_s (lt_s (lt_s lt_0 wd_354) wd_356) wd_358) wd_360) wd_362) wd_364) wd_366) wd_368)
  intro w hw
  obtain ⟨k, hk, rfl⟩ := List.mem_map.mp hw
  exact h k (List.mem_range.mp hk)
theorem oLayX9 : ∀ w ∈ u_ws RX9 TX9 65, oW w := by
  have h : ∀ k, k < 65 → oW (u_lay RX9 TX9 k) := (lt_s (lt_s (lt_s (lt_s (lt_s (lt_s (lt_s (lt_s (lt_s (lt_s (lt_s (lt_s (lt_s (lt_s (lt_s (lt_s (lt_s (lt_s (lt_s (lt_s (lt_s (lt_s (lt_s (lt_s (lt_s (lt_s (lt_s (lt_s (lt_s (lt_s (lt_s (lt_s (lt_s (lt_s (lt_s (lt_s (lt_s (lt_s (lt_s (lt_s (lt_s (lt_s (lt_s (lt_s (lt_s (lt_s (lt_s (lt_s (lt_s (lt_s (lt_s (lt_s (lt_s (lt_s (lt_s (lt_s (lt_s (lt_s (lt_s (lt_s (lt_s (lt_s (lt_s (lt_s (lt_s lt_0 wd_926) wd_928) wd_930) wd_932) wd_934) wd_936) wd_938) wd_940) wd_942) wd_944) wd_946) wd_948) wd_950) wd_952) wd_954) wd_956) wd_958) wd_960) wd_962) wd_964) wd_966) wd_968) wd_970) wd_972) wd_974) wd_976) wd_978) wd_980) wd_982) wd_984) wd_986) wd_988) wd_990) wd_992) wd_994) wd_996) wd_998) wd_1000) wd_1002) wd_1004) wd_1006) wd_1008) wd_1010) wd_1012) wd_1014) wd_1016) wd_1018) wd_1020) wd_1022) wd_1024) wd_1026) wd_1028) wd_1030) wd_1032) wd_1034) wd_1036) wd_1038) wd_1040) wd_1042) wd_1044) wd_1046) wd_1048) wd_1050) wd_1052) wd_1054)
  intro w hw
  obtain ⟨k, hk, rfl⟩ := List.mem_map.mp hw
  exact h k (List.mem_range.mp hk)
theorem kd_100 : oKd 100 = (1, 0, 8) := by decide +kernel
theorem cn_100 : oCnt 100 = 1 := by decide +kernel
theorem kd_101 : oKd 101 = (2, 244, 0) := by decide +kernel
theorem cn_101 : oCnt 101 = 1 := by decide +kernel
theorem kd_102 : oKd 102 = (2, 10, 0) := by decide +kernel
theorem cn_102 : oCnt 102 = 1 := by decide +kernel
theorem kd_103 : oKd 103 = (2, 10, 0) := by decide +kernel
theorem cn_103 : oCnt 103 = 1 := by decide +kernel
theorem kd_200 : oKd 200 = (1, 1, 11) := by decide +kernel
theorem cn_200 : oCnt 200 = 1 := by decide +kernel
theorem kd_201 : oKd 201 = (2, 8, 0) := by decide +kernel
theorem cn_201 : oCnt 201 = 1 := by decide +kernel
theorem kd_202 : oKd 202 = (4, 8, 0) := by decide +kernel
theorem cn_202 : oCnt 202 = 1 := by decide +kernel
theorem kd_203 : oKd 203 = (2, 8, 0) := by decide +kernel
theorem cn_203 : oCnt 203 = 1 := by decide +kernel
theorem kd_204 : oKd 204 = (2, 8, 0) := by decide +kernel
theorem cn_204 : oCnt 204 = 1 := by decide +kernel
theorem kd_205 : oKd 205 = (2, 8, 0) := by decide +kernel
theorem cn_205 : oCnt 205 = 1 := by decide +kernel
theorem kd_206 : oKd 206 = (2, 8, 0) := by decide +kernel
theorem cn_206 : oCnt 206 = 1 := by decide +kernel
theorem kd_207 : oKd 207 = (2, 8, 0) := by decide +kernel
theorem cn_207 : oCnt 207 = 1 := by decide +kernel
theorem kd_208 : oKd 208 = (2, 8, 0) := by decide +kernel
theorem cn_208 : oCnt 208 = 1 := by decide +kernel
theorem kd_209 : oKd 209 = (2, 8, 0) := by decide +kernel
theorem cn_209 : oCnt 209 = 1 := by decide +kernel
theorem kd_210 : oKd 210 = (2, 8, 0) := by decide +kernel
theorem cn_210 : oCnt 210 = 1 := by decide +kernel
theorem kd_300 : oKd 300 = (1, 2, 3) := by decide +kernel
theorem cn_300 : oCnt 300 = 12 := by decide +kernel
theorem kd_400 : oKd 400 = (1, 3, 13) := by decide +kernel
theorem cn_400 : oCnt 400 = 1 := by decide +kernel
theorem kd_402 : oKd 402 = (5, 4, 0) := by decide +kernel
theorem cn_402 : oCnt 402 = 1 := by decide +kernel
theorem kd_403 : oKd 403 = (2, 200, 0) := by decide +kernel
theorem cn_403 : oCnt 403 = 1 := by decide +kernel
theorem kd_404 : oKd 404 = (2, 200, 0) := by decide +kernel
theorem cn_404 : oCnt 404 = 1 := by decide +kernel
theorem kd_405 : oKd 405 = (2, 200, 0) := by decide +kernel
theorem cn_405 : oCnt 405 = 1 := by decide +kernel
theorem kd_406 : oKd 406 = (2, 200, 0) := by decide +kernel
theorem cn_406 : oCnt 406 = 1 := by decide +kernel
theorem kd_407 : oKd 407 = (2, 200, 0) := by decide +kernel
theorem cn_407 : oCnt 407 = 1 := by decide +kernel
theorem kd_408 : oKd 408 = (2, 200, 0) := by decide +kernel
theorem cn_408 : oCnt 408 = 1 := by decide +kernel
theorem kd_500 : oKd 500 = (1, 4, 10) := by decide +kernel
theorem cn_500 : oCnt 500 = 4 := by decide +kernel
theorem kd_501 : oKd 501 = (3, 12, 0) := by decide +kernel
theorem cn_501 : oCnt 501 = 4 := by decide +kernel
theorem kd_502 : oKd 502 = (2, 4, 0) := by decide +kernel
theorem cn_502 : oCnt 502 = 4 := by decide +kernel
theorem kd_503 : oKd 503 = (2, 4, 0) := by decide +kernel
theorem cn_503 : oCnt 503 = 4 := by decide +kernel
theorem kd_504 : oKd 504 = (2, 30, 0) := by decide +kernel
theorem cn_504 : oCnt 504 = 4 := by decide +kernel
theorem kd_505 : oKd 505 = (2, 30, 0) := by decide +kernel
theorem cn_505 : oCnt 505 = 4 := by decide +kernel
theorem kd_600 : oKd 600 = (1, 5, 15) := by decide +kernel
theorem cn_600 : oCnt 600 = 1 := by decide +kernel
theorem kd_603 : oKd 603 = (3, 160, 0) := by decide +kernel
theorem cn_603 : oCnt 603 = 1 := by decide +kernel
theorem kd_604 : oKd 604 = (2, 4, 0) := by decide +kernel
theorem cn_604 : oCnt 604 = 1 := by decide +kernel
theorem kd_605 : oKd 605 = (2, 3, 0) := by decide +kernel
theorem cn_605 : oCnt 605 = 1 := by decide +kernel
theorem kd_606 : oKd 606 = (4, 48, 0) := by decide +kernel
theorem cn_606 : oCnt 606 = 1 := by decide +kernel
theorem kd_607 : oKd 607 = (2, 5, 0) := by decide +kernel
theorem cn_607 : oCnt 607 = 1 := by decide +kernel
theorem kd_608 : oKd 608 = (5, 8, 4) := by decide +kernel
theorem cn_608 : oCnt 608 = 1 := by decide +kernel
theorem kd_609 : oKd 609 = (2, 4, 0) := by decide +kernel
theorem cn_609 : oCnt 609 = 1 := by decide +kernel
theorem kd_610 : oKd 610 = (2, 4, 0) := by decide +kernel
theorem cn_610 : oCnt 610 = 1 := by decide +kernel
theorem kd_700 : oKd 700 = (1, 6, 10) := by decide +kernel
theorem cn_700 : oCnt 700 = 1 := by decide +kernel
theorem kd_701 : oKd 701 = (2, 30, 0) := by decide +kernel
theorem cn_701 : oCnt 701 = 1 := by decide +kernel
theorem kd_702 : oKd 702 = (2, 30, 0) := by decide +kernel
theorem cn_702 : oCnt 702 = 1 := by decide +kernel
theorem kd_703 : oKd 703 = (2, 30, 0) := by decide +kernel
theorem cn_703 : oCnt 703 = 1 := by decide +kernel
theorem kd_704 : oKd 704 = (4, 30, 0) := by decide +kernel
theorem cn_704 : oCnt 704 = 1 := by decide +kernel
theorem kd_705 : oKd 705 = (2, 8, 0) := by decide +kernel
theorem cn_705 : oCnt 705 = 1 := by decide +kernel
theorem kd_800 : oKd 800 = (1, 7, 2) := by decide +kernel
theorem cn_800 : oCnt 800 = 1 := by decide +kernel
theorem kd_900 : oKd 900 = (1, 8, 8) := by decide +kernel
theorem cn_900 : oCnt 900 = 1 := by decide +kernel
theorem kd_1000 : oKd 1000 = (1, 9, 65) := by decide +kernel
theorem cn_1000 : oCnt 1000 = 1 := by decide +kernel
theorem kd_1002 : oKd 1002 = (3, 12, 0) := by decide +kernel
theorem cn_1002 : oCnt 1002 = 1 := by decide +kernel
theorem kd_1003 : oKd 1003 = (2, 4, 0) := by decide +kernel
theorem cn_1003 : oCnt 1003 = 1 := by decide +kernel
theorem kd_1004 : oKd 1004 = (2, 4, 0) := by decide +kernel
theorem cn_1004 : oCnt 1004 = 1 := by decide +kernel
theorem kd_1007 : oKd 1007 = (2, 30, 0) := by decide +kernel
theorem cn_1007 : oCnt 1007 = 1 := by decide +kernel
theorem kd_1008 : oKd 1008 = (2, 30, 0) := by decide +kernel
theorem cn_1008 : oCnt 1008 = 1 := by decide +kernel
theorem kd_1015 : oKd 1015 = (2, 8, 0) := by decide +kernel
theorem cn_1015 : oCnt 1015 = 1 := by decide +kernel
theorem kd_1016 : oKd 1016 = (4, 8, 0) := by decide +kernel
theorem cn_1016 : oCnt 1016 = 1 := by decide +kernel
theorem kd_1017 : oKd 1017 = (2, 8, 0) := by decide +kernel
theorem cn_1017 : oCnt 1017 = 1 := by decide +kernel
theorem kd_1018 : oKd 1018 = (2, 8, 0) := by decide +kernel
theorem cn_1018 : oCnt 1018 = 1 := by decide +kernel
theorem kd_1019 : oKd 1019 = (2, 8, 0) := by decide +kernel
theorem cn_1019 : oCnt 1019 = 1 := by decide +kernel
theorem kd_1020 : oKd 1020 = (2, 8, 0) := by decide +kernel
theorem cn_1020 : oCnt 1020 = 1 := by decide +kernel
theorem kd_1021 : oKd 1021 = (2, 8, 0) := by decide +kernel
theorem cn_1021 : oCnt 1021 = 1 := by decide +kernel
theorem kd_1022 : oKd 1022 = (2, 8, 0) := by decide +kernel
theorem cn_1022 : oCnt 1022 = 1 := by decide +kernel
theorem kd_1023 : oKd 1023 = (2, 8, 0) := by decide +kernel
theorem cn_1023 : oCnt 1023 = 1 := by decide +kernel
theorem kd_1024 : oKd 1024 = (2, 8, 0) := by decide +kernel
theorem cn_1024 : oCnt 1024 = 1 := by decide +kernel
theorem kd_1026 : oKd 1026 = (2, 200, 0) := by decide +kernel
theorem cn_1026 : oCnt 1026 = 1 := by decide +kernel
theorem kd_1027 : oKd 1027 = (2, 200, 0) := by decide +kernel
theorem cn_1027 : oCnt 1027 = 1 := by decide +kernel
theorem kd_1028 : oKd 1028 = (2, 200, 0) := by decide +kernel
theorem cn_1028 : oCnt 1028 = 1 := by decide +kernel
theorem kd_1029 : oKd 1029 = (2, 200, 0) := by decide +kernel
theorem cn_1029 : oCnt 1029 = 1 := by decide +kernel
theorem kd_1030 : oKd 1030 = (2, 200, 0) := by decide +kernel
theorem cn_1030 : oCnt 1030 = 1 := by decide +kernel
theorem kd_1031 : oKd 1031 = (2, 200, 0) := by decide +kernel
theorem cn_1031 : oCnt 1031 = 1 := by decide +kernel
theorem kd_1034 : oKd 1034 = (2, 4, 0) := by decide +kernel
theorem cn_1034 : oCnt 1034 = 1 := by decide +kernel
theorem kd_1036 : oKd 1036 = (2, 4, 0) := by decide +kernel
theorem cn_1036 : oCnt 1036 = 1 := by decide +kernel
theorem kd_1042 : oKd 1042 = (2, 30, 0) := by decide +kernel
theorem cn_1042 : oCnt 1042 = 1 := by decide +kernel
theorem kd_1043 : oKd 1043 = (2, 30, 0) := by decide +kernel
theorem cn_1043 : oCnt 1043 = 1 := by decide +kernel
theorem kd_1044 : oKd 1044 = (2, 30, 0) := by decide +kernel
theorem cn_1044 : oCnt 1044 = 1 := by decide +kernel
theorem kd_1045 : oKd 1045 = (4, 30, 0) := by decide +kernel
theorem cn_1045 : oCnt 1045 = 1 := by decide +kernel
theorem kd_1046 : oKd 1046 = (2, 244, 0) := by decide +kernel
theorem cn_1046 : oCnt 1046 = 1 := by decide +kernel
theorem kd_1048 : oKd 1048 = (2, 10, 0) := by decide +kernel
theorem cn_1048 : oCnt 1048 = 1 := by decide +kernel
theorem kd_1049 : oKd 1049 = (2, 10, 0) := by decide +kernel
theorem cn_1049 : oCnt 1049 = 1 := by decide +kernel
theorem kd_1050 : oKd 1050 = (3, 12, 0) := by decide +kernel
theorem cn_1050 : oCnt 1050 = 1 := by decide +kernel
theorem kd_1051 : oKd 1051 = (3, 12, 0) := by decide +kernel
theorem cn_1051 : oCnt 1051 = 1 := by decide +kernel
theorem kd_1052 : oKd 1052 = (2, 4, 0) := by decide +kernel
theorem cn_1052 : oCnt 1052 = 1 := by decide +kernel
theorem kd_1057 : oKd 1057 = (3, 164, 0) := by decide +kernel
theorem cn_1057 : oCnt 1057 = 1 := by decide +kernel
theorem kd_1059 : oKd 1059 = (2, 13, 0) := by decide +kernel
theorem cn_1059 : oCnt 1059 = 1 := by decide +kernel
theorem kd_1060 : oKd 1060 = (2, 13, 0) := by decide +kernel
theorem cn_1060 : oCnt 1060 = 1 := by decide +kernel
theorem kd_1061 : oKd 1061 = (2, 13, 0) := by decide +kernel
theorem cn_1061 : oCnt 1061 = 1 := by decide +kernel
theorem kd_1062 : oKd 1062 = (4, 52, 0) := by decide +kernel
theorem cn_1062 : oCnt 1062 = 1 := by decide +kernel
theorem kd_1063 : oKd 1063 = (2, 4, 0) := by decide +kernel
theorem cn_1063 : oCnt 1063 = 1 := by decide +kernel
theorem kd_1065 : oKd 1065 = (2, 8, 0) := by decide +kernel
theorem cn_1065 : oCnt 1065 = 1 := by decide +kernel
theorem ft_100_0 : oFt 100 0 = (2, 101, 1, 0) := by decide +kernel
theorem ft_100_1 : oFt 100 1 = (2, 102, 1, 0) := by decide +kernel
theorem ft_100_2 : oFt 100 2 = (2, 103, 1, 0) := by decide +kernel
theorem ft_100_3 : oFt 100 3 = (0, 0, 0, 0) := by decide +kernel
theorem ft_100_4 : oFt 100 4 = (0, 0, 0, 0) := by decide +kernel
theorem ft_100_5 : oFt 100 5 = (0, 0, 0, 0) := by decide +kernel
theorem ft_100_6 : oFt 100 6 = (0, 0, 0, 0) := by decide +kernel
theorem ft_100_7 : oFt 100 7 = (0, 0, 0, 0) := by decide +kernel
theorem ft_200_0 : oFt 200 0 = (2, 201, 1, 0) := by decide +kernel
theorem ft_200_1 : oFt 200 1 = (2, 202, 1, 0) := by decide +kernel
theorem ft_200_2 : oFt 200 2 = (2, 203, 1, 0) := by decide +kernel
theorem ft_200_3 : oFt 200 3 = (2, 204, 1, 0) := by decide +kernel
theorem ft_200_4 : oFt 200 4 = (2, 205, 1, 0) := by decide +kernel
theorem ft_200_5 : oFt 200 5 = (2, 206, 1, 0) := by decide +kernel
theorem ft_200_6 : oFt 200 6 = (2, 207, 1, 0) := by decide +kernel
theorem ft_200_7 : oFt 200 7 = (2, 208, 1, 0) := by decide +kernel
theorem ft_200_8 : oFt 200 8 = (2, 209, 1, 0) := by decide +kernel
theorem ft_200_9 : oFt 200 9 = (2, 210, 1, 0) := by decide +kernel
theorem ft_200_10 : oFt 200 10 = (0, 0, 0, 0) := by decide +kernel
theorem ft_300_0 : oFt 300 0 = (0, 0, 0, 0) := by decide +kernel
theorem ft_300_1 : oFt 300 1 = (0, 0, 0, 0) := by decide +kernel
theorem ft_300_2 : oFt 300 2 = (0, 0, 0, 0) := by decide +kernel
theorem ft_400_0 : oFt 400 0 = (2, 200, 0, 0) := by decide +kernel
theorem ft_400_1 : oFt 400 1 = (2, 402, 1, 0) := by decide +kernel
theorem ft_400_2 : oFt 400 2 = (2, 403, 1, 0) := by decide +kernel
theorem ft_400_3 : oFt 400 3 = (2, 404, 1, 0) := by decide +kernel
theorem ft_400_4 : oFt 400 4 = (2, 405, 1, 0) := by decide +kernel
theorem ft_400_5 : oFt 400 5 = (2, 406, 1, 0) := by decide +kernel
theorem ft_400_6 : oFt 400 6 = (2, 407, 1, 0) := by decide +kernel
theorem ft_400_7 : oFt 400 7 = (2, 408, 1, 0) := by decide +kernel
theorem ft_400_8 : oFt 400 8 = (0, 0, 0, 0) := by decide +kernel
theorem ft_400_9 : oFt 400 9 = (0, 0, 0, 0) := by decide +kernel
theorem ft_400_10 : oFt 400 10 = (0, 0, 0, 0) := by decide +kernel
theorem ft_400_11 : oFt 400 11 = (1, 0, 0, 0) := by decide +kernel
theorem ft_400_12 : oFt 400 12 = (0, 0, 0, 0) := by decide +kernel
theorem ft_500_0 : oFt 500 0 = (2, 501, 1, 0) := by decide +kernel
theorem ft_500_1 : oFt 500 1 = (2, 502, 1, 0) := by decide +kernel
theorem ft_500_2 : oFt 500 2 = (2, 503, 1, 0) := by decide +kernel
theorem ft_500_3 : oFt 500 3 = (2, 504, 1, 0) := by decide +kernel
theorem ft_500_4 : oFt 500 4 = (2, 505, 1, 0) := by decide +kernel
theorem ft_500_5 : oFt 500 5 = (0, 0, 0, 0) := by decide +kernel
theorem ft_500_6 : oFt 500 6 = (0, 0, 0, 0) := by decide +kernel
theorem ft_500_7 : oFt 500 7 = (0, 0, 0, 0) := by decide +kernel
theorem ft_500_8 : oFt 500 8 = (1, 0, 0, 0) := by decide +kernel
theorem ft_500_9 : oFt 500 9 = (1, 0, 0, 0) := by decide +kernel
theorem ft_600_0 : oFt 600 0 = (2, 200, 0, 0) := by decide +kernel
theorem ft_600_1 : oFt 600 1 = (2, 500, 0, 1) := by decide +kernel
theorem ft_600_2 : oFt 600 2 = (2, 603, 1, 0) := by decide +kernel
theorem ft_600_3 : oFt 600 3 = (2, 604, 1, 0) := by decide +kernel
theorem ft_600_4 : oFt 600 4 = (2, 605, 1, 0) := by decide +kernel
theorem ft_600_5 : oFt 600 5 = (2, 606, 1, 0) := by decide +kernel
theorem ft_600_6 : oFt 600 6 = (2, 607, 1, 0) := by decide +kernel
theorem ft_600_7 : oFt 600 7 = (2, 608, 1, 0) := by decide +kernel
theorem ft_600_8 : oFt 600 8 = (2, 609, 1, 0) := by decide +kernel
theorem ft_600_9 : oFt 600 9 = (2, 610, 1, 0) := by decide +kernel
theorem ft_600_10 : oFt 600 10 = (0, 0, 0, 0) := by decide +kernel
theorem ft_600_11 : oFt 600 11 = (0, 0, 0, 0) := by decide +kernel
theorem ft_600_12 : oFt 600 12 = (0, 0, 0, 0) := by decide +kernel
theorem ft_600_13 : oFt 600 13 = (0, 0, 0, 0) := by decide +kernel
theorem ft_600_14 : oFt 600 14 = (0, 0, 0, 0) := by decide +kernel
theorem ft_700_0 : oFt 700 0 = (2, 701, 1, 0) := by decide +kernel
theorem ft_700_1 : oFt 700 1 = (2, 702, 1, 0) := by decide +kernel
theorem ft_700_2 : oFt 700 2 = (2, 703, 1, 0) := by decide +kernel
theorem ft_700_3 : oFt 700 3 = (2, 704, 1, 0) := by decide +kernel
theorem ft_700_4 : oFt 700 4 = (2, 705, 1, 0) := by decide +kernel
theorem ft_700_5 : oFt 700 5 = (0, 0, 0, 0) := by decide +kernel
theorem ft_700_6 : oFt 700 6 = (0, 0, 0, 0) := by decide +kernel
theorem ft_700_7 : oFt 700 7 = (0, 0, 0, 0) := by decide +kernel
theorem ft_700_8 : oFt 700 8 = (0, 0, 0, 0) := by decide +kernel
theorem ft_700_9 : oFt 700 9 = (0, 0, 0, 0) := by decide +kernel
theorem ft_800_0 : oFt 800 0 = (2, 500, 0, 2) := by decide +kernel
theorem ft_800_1 : oFt 800 1 = (2, 500, 0, 3) := by decide +kernel
theorem ft_900_0 : oFt 900 0 = (2, 500, 0, 0) := by decide +kernel
theorem ft_900_1 : oFt 900 1 = (2, 200, 0, 0) := by decide +kernel
theorem ft_900_2 : oFt 900 2 = (2, 400, 0, 0) := by decide +kernel
theorem ft_900_3 : oFt 900 3 = (2, 600, 0, 0) := by decide +kernel
theorem ft_900_4 : oFt 900 4 = (2, 800, 0, 0) := by decide +kernel
theorem ft_900_5 : oFt 900 5 = (2, 700, 0, 0) := by decide +kernel
theorem ft_900_6 : oFt 900 6 = (2, 100, 0, 0) := by decide +kernel
theorem ft_900_7 : oFt 900 7 = (0, 0, 0, 0) := by decide +kernel
theorem ft_1000_0 : oFt 1000 0 = (0, 0, 0, 0) := by decide +kernel
theorem ft_1000_1 : oFt 1000 1 = (2, 1002, 1, 0) := by decide +kernel
theorem ft_1000_2 : oFt 1000 2 = (2, 1003, 1, 0) := by decide +kernel
theorem ft_1000_3 : oFt 1000 3 = (2, 1004, 1, 0) := by decide +kernel
theorem ft_1000_4 : oFt 1000 4 = (0, 0, 0, 0) := by decide +kernel
theorem ft_1000_5 : oFt 1000 5 = (0, 0, 0, 0) := by decide +kernel
theorem ft_1000_6 : oFt 1000 6 = (2, 1007, 1, 0) := by decide +kernel
theorem ft_1000_7 : oFt 1000 7 = (2, 1008, 1, 0) := by decide +kernel
theorem ft_1000_8 : oFt 1000 8 = (1, 0, 0, 0) := by decide +kernel
theorem ft_1000_9 : oFt 1000 9 = (1, 0, 0, 0) := by decide +kernel
theorem ft_1000_10 : oFt 1000 10 = (1, 0, 0, 0) := by decide +kernel
theorem ft_1000_11 : oFt 1000 11 = (0, 0, 0, 0) := by decide +kernel
theorem ft_1000_12 : oFt 1000 12 = (0, 0, 0, 0) := by decide +kernel
theorem ft_1000_13 : oFt 1000 13 = (0, 0, 0, 0) := by decide +kernel
theorem ft_1000_14 : oFt 1000 14 = (2, 1015, 1, 0) := by decide +kernel
theorem ft_1000_15 : oFt 1000 15 = (2, 1016, 1, 0) := by decide +kernel
theorem ft_1000_16 : oFt 1000 16 = (2, 1017, 1, 0) := by decide +kernel
theorem ft_1000_17 : oFt 1000 17 = (2, 1018, 1, 0) := by decide +kernel
theorem ft_1000_18 : oFt 1000 18 = (2, 1019, 1, 0) := by decide +kernel
theorem ft_1000_19 : oFt 1000 19 = (2, 1020, 1, 0) := by decide +kernel
theorem ft_1000_20 : oFt 1000 20 = (2, 1021, 1, 0) := by decide +kernel
theorem ft_1000_21 : oFt 1000 21 = (2, 1022, 1, 0) := by decide +kernel
theorem ft_1000_22 : oFt 1000 22 = (2, 1023, 1, 0) := by decide +kernel
theorem ft_1000_23 : oFt 1000 23 = (2, 1024, 1, 0) := by decide +kernel
theorem ft_1000_24 : oFt 1000 24 = (0, 0, 0, 0) := by decide +kernel
theorem ft_1000_25 : oFt 1000 25 = (2, 1026, 1, 0) := by decide +kernel
theorem ft_1000_26 : oFt 1000 26 = (2, 1027, 1, 0) := by decide +kernel
theorem ft_1000_27 : oFt 1000 27 = (2, 1028, 1, 0) := by decide +kernel
theorem ft_1000_28 : oFt 1000 28 = (2, 1029, 1, 0) := by decide +kernel
theorem ft_1000_29 : oFt 1000 29 = (2, 1030, 1, 0) := by decide +kernel
theorem ft_1000_30 : oFt 1000 30 = (2, 1031, 1, 0) := by decide +kernel
theorem ft_1000_31 : oFt 1000 31 = (0, 0, 0, 0) := by decide +kernel
theorem ft_1000_32 : oFt 1000 32 = (0, 0, 0, 0) := by decide +kernel
theorem ft_1000_33 : oFt 1000 33 = (2, 1034, 1, 0) := by decide +kernel
theorem ft_1000_34 : oFt 1000 34 = (0, 0, 0, 0) := by decide +kernel
theorem ft_1000_35 : oFt 1000 35 = (2, 1036, 1, 0) := by decide +kernel
theorem ft_1000_36 : oFt 1000 36 = (0, 0, 0, 0) := by decide +kernel
theorem ft_1000_37 : oFt 1000 37 = (0, 0, 0, 0) := by decide +kernel
theorem ft_1000_38 : oFt 1000 38 = (0, 0, 0, 0) := by decide +kernel
theorem ft_1000_39 : oFt 1000 39 = (0, 0, 0, 0) := by decide +kernel
theorem ft_1000_40 : oFt 1000 40 = (0, 0, 0, 0) := by decide +kernel
theorem ft_1000_41 : oFt 1000 41 = (2, 1042, 1, 0) := by decide +kernel
theorem ft_1000_42 : oFt 1000 42 = (2, 1043, 1, 0) := by decide +kernel
theorem ft_1000_43 : oFt 1000 43 = (2, 1044, 1, 0) := by decide +kernel
theorem ft_1000_44 : oFt 1000 44 = (2, 1045, 1, 0) := by decide +kernel
theorem ft_1000_45 : oFt 1000 45 = (2, 1046, 1, 0) := by decide +kernel
theorem ft_1000_46 : oFt 1000 46 = (0, 0, 0, 0) := by decide +kernel
theorem ft_1000_47 : oFt 1000 47 = (2, 1048, 1, 0) := by decide +kernel
theorem ft_1000_48 : oFt 1000 48 = (2, 1049, 1, 0) := by decide +kernel
theorem ft_1000_49 : oFt 1000 49 = (2, 1050, 1, 0) := by decide +kernel
theorem ft_1000_50 : oFt 1000 50 = (2, 1051, 1, 0) := by decide +kernel
theorem ft_1000_51 : oFt 1000 51 = (2, 1052, 1, 0) := by decide +kernel
theorem ft_1000_52 : oFt 1000 52 = (1, 0, 0, 0) := by decide +kernel
theorem ft_1000_53 : oFt 1000 53 = (0, 0, 0, 0) := by decide +kernel
theorem ft_1000_54 : oFt 1000 54 = (0, 0, 0, 0) := by decide +kernel
theorem ft_1000_55 : oFt 1000 55 = (0, 0, 0, 0) := by decide +kernel
theorem ft_1000_56 : oFt 1000 56 = (2, 1057, 1, 0) := by decide +kernel
theorem ft_1000_57 : oFt 1000 57 = (0, 0, 0, 0) := by decide +kernel
theorem ft_1000_58 : oFt 1000 58 = (2, 1059, 1, 0) := by decide +kernel
theorem ft_1000_59 : oFt 1000 59 = (2, 1060, 1, 0) := by decide +kernel
theorem ft_1000_60 : oFt 1000 60 = (2, 1061, 1, 0) := by decide +kernel
theorem ft_1000_61 : oFt 1000 61 = (2, 1062, 1, 0) := by decide +kernel
theorem ft_1000_62 : oFt 1000 62 = (2, 1063, 1, 0) := by decide +kernel
theorem ft_1000_63 : oFt 1000 63 = (0, 0, 0, 0) := by decide +kernel
theorem ft_1000_64 : oFt 1000 64 = (2, 1065, 1, 0) := by decide +kernel
