-- ===== the words that the rows need, each by its place in the tables (by program: wip/gen_parts.py) =====
theorem wt_of {w : Cond} (i : Nat) (h : tables_1[i]? = some w) (g : goodWord w = true) : w ∈ WT := List.mem_filter.mpr ⟨List.mem_append_right _ (List.mem_of_getElem? h), g⟩
theorem wt_sel {q : MethodName} (i : Nat) (h : (lw_privs[i]?).map (·.1) = some q) : Cond.selects q.cls q q ∈ WT := by
  cases hp : lw_privs[i]? with
  | none => rw [hp] at h; cases h
  | some x =>
    rw [hp] at h
    cases h
    exact List.mem_filter.mpr ⟨List.mem_append_left _ (List.mem_map.mpr ⟨x, List.mem_of_getElem? hp, rfl⟩), rfl⟩
theorem wt_all {ws : List Cond} (is : List Nat) (h : ws = is.filterMap (fun i => tables_1[i]?)) (g : ws.all goodWord = true) : ∀ w ∈ ws, w ∈ WT := by
  intro w hw
  have g1 := List.all_eq_true.mp g w hw
  rw [h] at hw
  obtain ⟨i, -, hi⟩ := List.mem_filterMap.mp hw
  exact wt_of i hi g1
def FU : Nat := 4000000
theorem clsX0 : Cls 0 RX0 TX0 17 := ⟨rfl, by decide, rfl, wt_all [175, 177, 179, 181, 183, 185, 187, 189, 191, 193, 195, 197, 199, 201, 203, 205, 207] (by decide +kernel) (by decide +kernel), tyX0_ok, nmX0, by decide +kernel⟩
theorem clsX1 : Cls 1 RX1 TX1 4 := ⟨rfl, by decide, rfl, wt_all [301, 303, 305, 307] (by decide +kernel) (by decide +kernel), tyX1_ok, nmX1, by decide +kernel⟩
theorem clsX2 : Cls 2 RX2 TX2 6 := ⟨rfl, by decide, rfl, wt_all [351, 353, 355, 357, 359, 361] (by decide +kernel) (by decide +kernel), tyX2_ok, nmX2, by decide +kernel⟩
theorem clsX3 : Cls 3 RX3 TX3 9 := ⟨rfl, by decide, rfl, wt_all [375, 377, 379, 381, 383, 385, 387, 389, 391] (by decide +kernel) (by decide +kernel), tyX3_ok, nmX3, by decide +kernel⟩
theorem clsX4 : Cls 4 RX4 TX4 8 := ⟨rfl, by decide, rfl, wt_all [220, 222, 224, 226, 228, 230, 232, 234] (by decide +kernel) (by decide +kernel), tyX4_ok, nmX4, by decide +kernel⟩
theorem clsX5 : Cls 5 RX5 TX5 5 := ⟨rfl, by decide, rfl, wt_all [321, 323, 325, 327, 329] (by decide +kernel) (by decide +kernel), tyX5_ok, nmX5, by decide +kernel⟩
theorem clsX6 : Cls 6 RX6 TX6 13 := ⟨rfl, by decide, rfl, wt_all [752, 754, 756, 758, 760, 762, 764, 766, 768, 770, 772, 774, 776] (by decide +kernel) (by decide +kernel), tyX6_ok, nmX6, by decide +kernel⟩
theorem clsX7 : Cls 7 RX7 TX7 7 := ⟨rfl, by decide, rfl, wt_all [103, 105, 107, 109, 111, 113, 115] (by decide +kernel) (by decide +kernel), tyX7_ok, nmX7, by decide +kernel⟩
theorem clsX8 : Cls 8 RX8 TX8 8 := ⟨rfl, by decide, rfl, wt_all [274, 276, 278, 280, 282, 284, 286, 288] (by decide +kernel) (by decide +kernel), tyX8_ok, nmX8, by decide +kernel⟩
theorem clsX9 : Cls 9 RX9 TX9 9 := ⟨rfl, by decide, rfl, wt_all [1003, 1005, 1007, 1009, 1011, 1013, 1015, 1017, 1019] (by decide +kernel) (by decide +kernel), tyX9_ok, nmX9, by decide +kernel⟩
theorem clsX10 : Cls 10 RX10 TX10 9 := ⟨rfl, by decide, rfl, wt_all [405, 407, 409, 411, 413, 415, 417, 419, 421] (by decide +kernel) (by decide +kernel), tyX10_ok, nmX10, by decide +kernel⟩
theorem clsX11 : Cls 11 RX11 TX11 85 := ⟨rfl, by decide, rfl, wt_all [1156, 1158, 1160, 1162, 1164, 1166, 1168, 1170, 1172, 1174, 1176, 1178, 1180, 1182, 1184, 1186, 1188, 1190, 1192, 1194, 1196, 1198, 1200, 1202, 1204, 1206, 1208, 1210, 1212, 1214, 1216, 1218, 1220, 1222, 1224, 1226, 1228, 1230, 1232, 1234, 1236, 1238, 1240, 1242, 1244, 1246, 1248, 1250, 1252, 1254, 1256, 1258, 1260, 1262, 1264, 1266, 1268, 1270, 1272, 1274, 1276, 1278, 1280, 1282, 1284, 1286, 1288, 1290, 1292, 1294, 1296, 1298, 1300, 1302, 1304, 1306, 1308, 1310, 1312, 1314, 1316, 1318, 1320, 1322, 1324] (by decide +kernel) (by decide +kernel), tyX11_ok, nmX11, by decide +kernel⟩
theorem oim : Cond.instanceMethod Lib.objectInit ∈ WT := wt_of 27 (by decide +kernel) (by decide +kernel)
theorem oic : Cond.code Lib.objectInit ⟨#[0xb1]⟩ 1 none ∈ WT := wt_of 28 (by decide +kernel) (by decide +kernel)
set_option maxRecDepth 100000 in
theorem oiX0_3 : Cond.methodLink RX0 3 Lib.objectInit ∈ WT := wt_of 133 rfl rfl
set_option maxRecDepth 100000 in
theorem ac20 : Cond.arrayClass (aty 20) ∈ WT := wt_of 119 rfl rfl
set_option maxRecDepth 100000 in
theorem lkX0_9 : Lk RX0 9 0 4 2 := ⟨RX0, TX0, 17, clsX0, by decide, wt_of 146 rfl rfl, (fun h => nomatch h), fun _ => ⟨rfl, rfl⟩⟩
set_option maxRecDepth 100000 in
theorem ac21 : Cond.arrayClass (aty 21) ∈ WT := wt_of 120 rfl rfl
set_option maxRecDepth 100000 in
theorem lkX0_15 : Lk RX0 15 0 5 2 := ⟨RX0, TX0, 17, clsX0, by decide, wt_of 148 rfl rfl, (fun h => nomatch h), fun _ => ⟨rfl, rfl⟩⟩
set_option maxRecDepth 100000 in
theorem lkX0_19 : Lk RX0 19 0 7 2 := ⟨RX0, TX0, 17, clsX0, by decide, wt_of 153 rfl rfl, (fun h => nomatch h), fun _ => ⟨rfl, rfl⟩⟩
set_option maxRecDepth 100000 in
theorem lkX0_22 : Lk RX0 22 0 8 2 := ⟨RX0, TX0, 17, clsX0, by decide, wt_of 155 rfl rfl, (fun h => nomatch h), fun _ => ⟨rfl, rfl⟩⟩
set_option maxRecDepth 100000 in
theorem lkX0_25 : Lk RX0 25 0 10 2 := ⟨RX0, TX0, 17, clsX0, by decide, wt_of 160 rfl rfl, (fun h => nomatch h), fun _ => ⟨rfl, rfl⟩⟩
set_option maxRecDepth 100000 in
theorem lkX0_28 : Lk RX0 28 0 11 2 := ⟨RX0, TX0, 17, clsX0, by decide, wt_of 162 rfl rfl, (fun h => nomatch h), fun _ => ⟨rfl, rfl⟩⟩
set_option maxRecDepth 100000 in
theorem lkX0_31 : Lk RX0 31 0 13 2 := ⟨RX0, TX0, 17, clsX0, by decide, wt_of 167 rfl rfl, (fun h => nomatch h), fun _ => ⟨rfl, rfl⟩⟩
set_option maxRecDepth 100000 in
theorem lkX0_34 : Lk RX0 34 0 14 2 := ⟨RX0, TX0, 17, clsX0, by decide, wt_of 169 rfl rfl, (fun h => nomatch h), fun _ => ⟨rfl, rfl⟩⟩
set_option maxRecDepth 100000 in
theorem lkX0_37 : Lk RX0 37 0 15 2 := ⟨RX0, TX0, 17, clsX0, by decide, wt_of 171 rfl rfl, (fun h => nomatch h), fun _ => ⟨rfl, rfl⟩⟩
set_option maxRecDepth 100000 in
theorem lkX0_40 : Lk RX0 40 0 0 1 := ⟨RX0, TX0, 17, clsX0, by decide, wt_of 135 rfl rfl, fun _ => rfl, (fun h => nomatch h)⟩
set_option maxRecDepth 100000 in
theorem lkX0_44 : Lk RX0 44 0 1 1 := ⟨RX0, TX0, 17, clsX0, by decide, wt_of 138 rfl rfl, fun _ => rfl, (fun h => nomatch h)⟩
set_option maxRecDepth 100000 in
theorem lkX0_47 : Lk RX0 47 0 2 1 := ⟨RX0, TX0, 17, clsX0, by decide, wt_of 141 rfl rfl, fun _ => rfl, (fun h => nomatch h)⟩
set_option maxRecDepth 100000 in
theorem lkX0_50 : Lk RX0 50 0 3 1 := ⟨RX0, TX0, 17, clsX0, by decide, wt_of 144 rfl rfl, fun _ => rfl, (fun h => nomatch h)⟩
set_option maxRecDepth 100000 in
theorem lkX0_53 : Lk RX0 53 0 6 1 := ⟨RX0, TX0, 17, clsX0, by decide, wt_of 151 rfl rfl, fun _ => rfl, (fun h => nomatch h)⟩
set_option maxRecDepth 100000 in
theorem lkX0_56 : Lk RX0 56 0 9 1 := ⟨RX0, TX0, 17, clsX0, by decide, wt_of 158 rfl rfl, fun _ => rfl, (fun h => nomatch h)⟩
set_option maxRecDepth 100000 in
theorem lkX0_59 : Lk RX0 59 0 12 1 := ⟨RX0, TX0, 17, clsX0, by decide, wt_of 165 rfl rfl, fun _ => rfl, (fun h => nomatch h)⟩
set_option maxRecDepth 100000 in
theorem lkX0_62 : Lk RX0 62 0 16 1 := ⟨RX0, TX0, 17, clsX0, by decide, wt_of 174 rfl rfl, fun _ => rfl, (fun h => nomatch h)⟩
set_option maxRecDepth 100000 in
theorem mlX0_65 : Cond.methodLink RX0 65 yX0_emit ∈ WT := wt_of 619 rfl rfl
set_option maxRecDepth 100000 in
theorem imX0_emit : Cond.instanceMethod yX0_emit ∈ WT := wt_of 575 rfl rfl
set_option maxRecDepth 100000 in
theorem seX0_emit : Cond.selects yX0_emit.cls yX0_emit yX0_emit ∈ WT := wt_of 576 rfl rfl
set_option maxRecDepth 100000 in
theorem nlX0_69 : ((RX0, 69, yX10_positionOf, "TollAlmanac") : String × Nat × MethodName × String) ∈ NL := by decide +kernel
set_option maxRecDepth 100000 in
theorem smX10_positionOf : Cond.static yX10_positionOf ∈ WT := wt_of 470 rfl rfl
set_option maxRecDepth 100000 in
theorem oiX8_3 : Cond.methodLink RX8 3 Lib.objectInit ∈ WT := wt_of 251 rfl rfl
set_option maxRecDepth 100000 in
theorem lkX8_9 : Lk RX8 9 8 1 1 := ⟨RX8, TX8, 8, clsX8, by decide, wt_of 256 rfl rfl, fun _ => rfl, (fun h => nomatch h)⟩
set_option maxRecDepth 100000 in
theorem lkX8_15 : Lk RX8 15 8 5 2 := ⟨RX8, TX8, 8, clsX8, by decide, wt_of 267 rfl rfl, (fun h => nomatch h), fun _ => ⟨rfl, rfl⟩⟩
set_option maxRecDepth 100000 in
theorem lkX8_19 : Lk RX8 19 8 6 2 := ⟨RX8, TX8, 8, clsX8, by decide, wt_of 269 rfl rfl, (fun h => nomatch h), fun _ => ⟨rfl, rfl⟩⟩
set_option maxRecDepth 100000 in
theorem lkX8_23 : Lk RX8 23 8 7 2 := ⟨RX8, TX8, 8, clsX8, by decide, wt_of 271 rfl rfl, (fun h => nomatch h), fun _ => ⟨rfl, rfl⟩⟩
set_option maxRecDepth 100000 in
theorem lkX1_24 : Lk RX1 24 1 2 1 := ⟨RX1, TX1, 4, clsX1, by decide, wt_of 297 rfl rfl, fun _ => rfl, (fun h => nomatch h)⟩
set_option maxRecDepth 100000 in
theorem lkX1_28 : Lk RX1 28 1 3 1 := ⟨RX1, TX1, 4, clsX1, by decide, wt_of 299 rfl rfl, fun _ => rfl, (fun h => nomatch h)⟩
set_option maxRecDepth 100000 in
theorem lkX1_19 : Lk RX1 19 1 1 2 := ⟨RX1, TX1, 4, clsX1, by decide, wt_of 293 rfl rfl, (fun h => nomatch h), fun _ => ⟨rfl, rfl⟩⟩
set_option maxRecDepth 100000 in
theorem cdX1_17 : Cond.classLink RX1 17 RX8 ∈ WT := wt_of 245 rfl rfl
set_option maxRecDepth 100000 in
theorem inX8 : Cond.instantiable RX8 8 ∈ WT := wt_of 247 rfl rfl
set_option maxRecDepth 100000 in
theorem iiX8 : Cond.initialized RX8 ∈ WT := wt_of 10 rfl rfl
set_option maxRecDepth 100000 in
theorem mlX1_23 : Cond.methodLink RX1 23 yX8_init ∈ WT := wt_of 248 rfl rfl
set_option maxRecDepth 100000 in
theorem imX8_init : Cond.instanceMethod yX8_init ∈ WT := wt_of 249 rfl rfl
set_option maxRecDepth 100000 in
theorem oiX1_3 : Cond.methodLink RX1 3 Lib.objectInit ∈ WT := wt_of 242 rfl rfl
set_option maxRecDepth 100000 in
theorem cdX1_9 : Cond.classLink RX1 9 RX6 ∈ WT := wt_of 243 rfl rfl
set_option maxRecDepth 100000 in
theorem lkX1_11 : Lk RX1 11 1 0 2 := ⟨RX1, TX1, 4, clsX1, by decide, wt_of 291 rfl rfl, (fun h => nomatch h), fun _ => ⟨rfl, rfl⟩⟩
set_option maxRecDepth 100000 in
theorem lkX1_39 : Lk RX1 39 6 1 0 := ⟨RX6, TX6, 13, clsX6, by decide, wt_of 727 rfl rfl, (fun h => nomatch h), (fun h => nomatch h)⟩
set_option maxRecDepth 100000 in
theorem lkX8_30 : Lk RX8 30 8 2 1 := ⟨RX8, TX8, 8, clsX8, by decide, wt_of 259 rfl rfl, fun _ => rfl, (fun h => nomatch h)⟩
set_option maxRecDepth 100000 in
theorem lkX8_33 : Lk RX8 33 8 3 1 := ⟨RX8, TX8, 8, clsX8, by decide, wt_of 261 rfl rfl, fun _ => rfl, (fun h => nomatch h)⟩
set_option maxRecDepth 100000 in
theorem lkX8_36 : Lk RX8 36 8 4 1 := ⟨RX8, TX8, 8, clsX8, by decide, wt_of 264 rfl rfl, fun _ => rfl, (fun h => nomatch h)⟩
set_option maxRecDepth 100000 in
theorem mlX8_45 : Cond.methodLink RX8 45 yJ7_fill_d0a16 ∈ WT := wt_of 810 rfl rfl
set_option maxRecDepth 100000 in
theorem smJ7_fill_d0a16 : Cond.static yJ7_fill_d0a16 ∈ WT := wt_of 811 rfl rfl
set_option maxRecDepth 100000 in
theorem mlX8_39 : Cond.methodLink RX8 39 yJ7_fill_53178 ∈ WT := wt_of 807 rfl rfl
set_option maxRecDepth 100000 in
theorem smJ7_fill_53178 : Cond.static yJ7_fill_53178 ∈ WT := wt_of 808 rfl rfl
set_option maxRecDepth 100000 in
theorem lkX8_26 : Lk RX8 26 8 0 1 := ⟨RX8, TX8, 8, clsX8, by decide, wt_of 252 rfl rfl, fun _ => rfl, (fun h => nomatch h)⟩
set_option maxRecDepth 100000 in
theorem mlX1_35 : Cond.methodLink RX1 35 yX8_make ∈ WT := wt_of 803 rfl rfl
set_option maxRecDepth 100000 in
theorem imX8_make : Cond.instanceMethod yX8_make ∈ WT := wt_of 804 rfl rfl
set_option maxRecDepth 100000 in
theorem seX8_make : Cond.selects yX8_make.cls yX8_make yX8_make ∈ WT := wt_of 805 rfl rfl
set_option maxRecDepth 100000 in
theorem mlX1_31 : Cond.methodLink RX1 31 yX1_touchedYears ∈ WT := wt_of 799 rfl rfl
set_option maxRecDepth 100000 in
theorem imX1_touchedYears : Cond.instanceMethod yX1_touchedYears ∈ WT := wt_of 801 rfl rfl
set_option maxRecDepth 100000 in
theorem seX1_touchedYears : Cond.selects yX1_touchedYears.cls yX1_touchedYears yX1_touchedYears ∈ WT := wt_sel 33 (by decide +kernel)
set_option maxRecDepth 100000 in
theorem lkX6_69 : Lk RX6 69 6 8 2 := ⟨RX6, TX6, 13, clsX6, by decide, wt_of 745 rfl rfl, (fun h => nomatch h), fun _ => ⟨rfl, rfl⟩⟩
set_option maxRecDepth 100000 in
theorem lkX6_58 : Lk RX6 58 6 6 2 := ⟨RX6, TX6, 13, clsX6, by decide, wt_of 739 rfl rfl, (fun h => nomatch h), fun _ => ⟨rfl, rfl⟩⟩
set_option maxRecDepth 100000 in
theorem lkX6_29 : Lk RX6 29 6 3 2 := ⟨RX6, TX6, 13, clsX6, by decide, wt_of 731 rfl rfl, (fun h => nomatch h), fun _ => ⟨rfl, rfl⟩⟩
set_option maxRecDepth 100000 in
theorem lkX1_44 : Lk RX1 44 8 0 1 := ⟨RX8, TX8, 8, clsX8, by decide, wt_of 255 rfl rfl, fun _ => rfl, (fun h => nomatch h)⟩
set_option maxRecDepth 100000 in
theorem lkX1_52 : Lk RX1 52 6 0 0 := ⟨RX6, TX6, 13, clsX6, by decide, wt_of 724 rfl rfl, (fun h => nomatch h), (fun h => nomatch h)⟩
set_option maxRecDepth 100000 in
theorem mlX1_48 : Cond.methodLink RX1 48 yX6_indexOf ∈ WT := wt_of 843 rfl rfl
set_option maxRecDepth 100000 in
theorem imX6_indexOf : Cond.instanceMethod yX6_indexOf ∈ WT := wt_of 844 rfl rfl
set_option maxRecDepth 100000 in
theorem seX6_indexOf : Cond.selects yX6_indexOf.cls yX6_indexOf yX6_indexOf ∈ WT := wt_of 845 rfl rfl
set_option maxRecDepth 100000 in
theorem clX1_42 : Cond.constantLong RX1 42 (1099511627775) ∈ WT := wt_of 842 rfl rfl
set_option maxRecDepth 100000 in
theorem oiX2_1 : Cond.methodLink RX2 1 Lib.objectInit ∈ WT := wt_of 344 rfl rfl
set_option maxRecDepth 100000 in
theorem lkX3_22 : Lk RX3 22 3 3 2 := ⟨RX3, TX3, 9, clsX3, by decide, wt_of 367 rfl rfl, (fun h => nomatch h), fun _ => ⟨rfl, rfl⟩⟩
set_option maxRecDepth 100000 in
theorem lkX3_26 : Lk RX3 26 3 5 2 := ⟨RX3, TX3, 9, clsX3, by decide, wt_of 369 rfl rfl, (fun h => nomatch h), fun _ => ⟨rfl, rfl⟩⟩
set_option maxRecDepth 100000 in
theorem lkX3_29 : Lk RX3 29 3 7 2 := ⟨RX3, TX3, 9, clsX3, by decide, wt_of 371 rfl rfl, (fun h => nomatch h), fun _ => ⟨rfl, rfl⟩⟩
set_option maxRecDepth 100000 in
theorem lkX3_33 : Lk RX3 33 3 8 1 := ⟨RX3, TX3, 9, clsX3, by decide, wt_of 373 rfl rfl, fun _ => rfl, (fun h => nomatch h)⟩
set_option maxRecDepth 100000 in
theorem lkX3_17 : Lk RX3 17 3 1 2 := ⟨RX3, TX3, 9, clsX3, by decide, wt_of 365 rfl rfl, (fun h => nomatch h), fun _ => ⟨rfl, rfl⟩⟩
set_option maxRecDepth 100000 in
theorem cdX3_15 : Cond.classLink RX3 15 RX2 ∈ WT := wt_of 338 rfl rfl
set_option maxRecDepth 100000 in
theorem inX2 : Cond.instantiable RX2 6 ∈ WT := wt_of 340 rfl rfl
set_option maxRecDepth 100000 in
theorem iiX2 : Cond.initialized RX2 ∈ WT := wt_of 13 rfl rfl
set_option maxRecDepth 100000 in
theorem nlX3_21 : ((RX3, 21, yX2_init, "TollAlmanac") : String × Nat × MethodName × String) ∈ NL := by decide +kernel
set_option maxRecDepth 100000 in
theorem imX2_init : Cond.instanceMethod yX2_init ∈ WT := wt_of 342 rfl rfl
set_option maxRecDepth 100000 in
theorem oiX3_3 : Cond.methodLink RX3 3 Lib.objectInit ∈ WT := wt_of 337 rfl rfl
set_option maxRecDepth 100000 in
theorem lkX3_9 : Lk RX3 9 3 0 2 := ⟨RX3, TX3, 9, clsX3, by decide, wt_of 364 rfl rfl, (fun h => nomatch h), fun _ => ⟨rfl, rfl⟩⟩
set_option maxRecDepth 100000 in
theorem lkX3_37 : Lk RX3 37 3 2 1 := ⟨RX3, TX3, 9, clsX3, by decide, wt_of 366 rfl rfl, fun _ => rfl, (fun h => nomatch h)⟩
set_option maxRecDepth 100000 in
theorem lkX3_119 : Lk RX3 119 2 0 1 := ⟨RX2, TX2, 6, clsX2, by decide, wt_of 345 rfl rfl, fun _ => rfl, (fun h => nomatch h)⟩
set_option maxRecDepth 100000 in
theorem lkX3_122 : Lk RX3 122 2 1 1 := ⟨RX2, TX2, 6, clsX2, by decide, wt_of 346 rfl rfl, fun _ => rfl, (fun h => nomatch h)⟩
set_option maxRecDepth 100000 in
theorem lkX3_123 : Lk RX3 123 2 2 1 := ⟨RX2, TX2, 6, clsX2, by decide, wt_of 347 rfl rfl, fun _ => rfl, (fun h => nomatch h)⟩
set_option maxRecDepth 100000 in
theorem lkX3_40 : Lk RX3 40 3 4 1 := ⟨RX3, TX3, 9, clsX3, by decide, wt_of 368 rfl rfl, fun _ => rfl, (fun h => nomatch h)⟩
set_option maxRecDepth 100000 in
theorem lkX3_126 : Lk RX3 126 2 3 1 := ⟨RX2, TX2, 6, clsX2, by decide, wt_of 348 rfl rfl, fun _ => rfl, (fun h => nomatch h)⟩
set_option maxRecDepth 100000 in
theorem lkX3_129 : Lk RX3 129 2 4 1 := ⟨RX2, TX2, 6, clsX2, by decide, wt_of 349 rfl rfl, fun _ => rfl, (fun h => nomatch h)⟩
set_option maxRecDepth 100000 in
theorem lkX3_132 : Lk RX3 132 2 5 1 := ⟨RX2, TX2, 6, clsX2, by decide, wt_of 350 rfl rfl, fun _ => rfl, (fun h => nomatch h)⟩
set_option maxRecDepth 100000 in
theorem lkX3_104 : Lk RX3 104 8 0 1 := ⟨RX8, TX8, 8, clsX8, by decide, wt_of 254 rfl rfl, fun _ => rfl, (fun h => nomatch h)⟩
set_option maxRecDepth 100000 in
theorem mlX3_115 : Cond.methodLink RX3 115 yX3_open ∈ WT := wt_of 912 rfl rfl
set_option maxRecDepth 100000 in
theorem imX3_open : Cond.instanceMethod yX3_open ∈ WT := wt_of 914 rfl rfl
set_option maxRecDepth 100000 in
theorem seX3_open : Cond.selects yX3_open.cls yX3_open yX3_open ∈ WT := wt_sel 44 (by decide +kernel)
set_option maxRecDepth 100000 in
theorem lkX3_100 : Lk RX3 100 1 1 0 := ⟨RX1, TX1, 4, clsX1, by decide, wt_of 295 rfl rfl, (fun h => nomatch h), (fun h => nomatch h)⟩
set_option maxRecDepth 100000 in
theorem lkX3_136 : Lk RX3 136 8 1 1 := ⟨RX8, TX8, 8, clsX8, by decide, wt_of 257 rfl rfl, fun _ => rfl, (fun h => nomatch h)⟩
set_option maxRecDepth 100000 in
theorem clX8_53 : Cond.constantLong RX8 53 (-2000000000000000) ∈ WT := wt_of 891 rfl rfl
set_option maxRecDepth 100000 in
theorem lkX8_48 : Lk RX8 48 6 6 0 := ⟨RX6, TX6, 13, clsX6, by decide, wt_of 741 rfl rfl, (fun h => nomatch h), (fun h => nomatch h)⟩
set_option maxRecDepth 100000 in
theorem clX3_188 : Cond.constantLong RX3 188 (-2000000000000000) ∈ WT := wt_of 939 rfl rfl
set_option maxRecDepth 100000 in
theorem mlX3_162 : Cond.methodLink RX3 162 yX3_push ∈ WT := wt_of 929 rfl rfl
set_option maxRecDepth 100000 in
theorem imX3_push : Cond.instanceMethod yX3_push ∈ WT := wt_of 931 rfl rfl
set_option maxRecDepth 100000 in
theorem seX3_push : Cond.selects yX3_push.cls yX3_push yX3_push ∈ WT := wt_sel 48 (by decide +kernel)
set_option maxRecDepth 100000 in
theorem mlX3_184 : Cond.methodLink RX3 184 yX8_valueOf ∈ WT := wt_of 938 rfl rfl
set_option maxRecDepth 100000 in
theorem imX8_valueOf : Cond.instanceMethod yX8_valueOf ∈ WT := wt_of 888 rfl rfl
set_option maxRecDepth 100000 in
theorem seX8_valueOf : Cond.selects yX8_valueOf.cls yX8_valueOf yX8_valueOf ∈ WT := wt_of 889 rfl rfl
set_option maxRecDepth 100000 in
theorem mlX3_94 : Cond.methodLink RX3 94 yX1_find ∈ WT := wt_of 937 rfl rfl
set_option maxRecDepth 100000 in
theorem imX1_find : Cond.instanceMethod yX1_find ∈ WT := wt_of 839 rfl rfl
set_option maxRecDepth 100000 in
theorem seX1_find : Cond.selects yX1_find.cls yX1_find yX1_find ∈ WT := wt_of 840 rfl rfl
set_option maxRecDepth 100000 in
theorem lkX8_55 : Lk RX8 55 6 9 0 := ⟨RX6, TX6, 13, clsX6, by decide, wt_of 748 rfl rfl, (fun h => nomatch h), (fun h => nomatch h)⟩
set_option maxRecDepth 100000 in
theorem lkX3_201 : Lk RX3 201 8 7 0 := ⟨RX8, TX8, 8, clsX8, by decide, wt_of 273 rfl rfl, (fun h => nomatch h), (fun h => nomatch h)⟩
set_option maxRecDepth 100000 in
theorem lkX3_198 : Lk RX3 198 8 4 1 := ⟨RX8, TX8, 8, clsX8, by decide, wt_of 266 rfl rfl, fun _ => rfl, (fun h => nomatch h)⟩
set_option maxRecDepth 100000 in
theorem mlX3_194 : Cond.methodLink RX3 194 yX8_hasEntry ∈ WT := wt_of 952 rfl rfl
set_option maxRecDepth 100000 in
theorem imX8_hasEntry : Cond.instanceMethod yX8_hasEntry ∈ WT := wt_of 897 rfl rfl
set_option maxRecDepth 100000 in
theorem seX8_hasEntry : Cond.selects yX8_hasEntry.cls yX8_hasEntry yX8_hasEntry ∈ WT := wt_of 898 rfl rfl
set_option maxRecDepth 100000 in
theorem mlX3_173 : Cond.methodLink RX3 173 yX3_pop ∈ WT := wt_of 948 rfl rfl
set_option maxRecDepth 100000 in
theorem imX3_pop : Cond.instanceMethod yX3_pop ∈ WT := wt_of 950 rfl rfl
set_option maxRecDepth 100000 in
theorem seX3_pop : Cond.selects yX3_pop.cls yX3_pop yX3_pop ∈ WT := wt_sel 52 (by decide +kernel)
set_option maxRecDepth 100000 in
theorem mlX3_190 : Cond.methodLink RX3 190 yX3_pushEntry ∈ WT := wt_of 944 rfl rfl
set_option maxRecDepth 100000 in
theorem imX3_pushEntry : Cond.instanceMethod yX3_pushEntry ∈ WT := wt_of 946 rfl rfl
set_option maxRecDepth 100000 in
theorem seX3_pushEntry : Cond.selects yX3_pushEntry.cls yX3_pushEntry yX3_pushEntry ∈ WT := wt_sel 51 (by decide +kernel)
set_option maxRecDepth 100000 in
theorem mlX3_43 : Cond.methodLink RX3 43 yX3_demand ∈ WT := wt_of 908 rfl rfl
set_option maxRecDepth 100000 in
theorem imX3_demand : Cond.instanceMethod yX3_demand ∈ WT := wt_of 910 rfl rfl
set_option maxRecDepth 100000 in
theorem seX3_demand : Cond.selects yX3_demand.cls yX3_demand yX3_demand ∈ WT := wt_sel 43 (by decide +kernel)
set_option maxRecDepth 100000 in
theorem mlX3_156 : Cond.methodLink RX3 156 yX3_finish ∈ WT := wt_of 925 rfl rfl
set_option maxRecDepth 100000 in
theorem imX3_finish : Cond.instanceMethod yX3_finish ∈ WT := wt_of 927 rfl rfl
set_option maxRecDepth 100000 in
theorem seX3_finish : Cond.selects yX3_finish.cls yX3_finish yX3_finish ∈ WT := wt_sel 47 (by decide +kernel)
set_option maxRecDepth 100000 in
theorem mlX3_181 : Cond.methodLink RX3 181 yX3_calculate ∈ WT := wt_of 957 rfl rfl
set_option maxRecDepth 100000 in
theorem imX3_calculate : Cond.instanceMethod yX3_calculate ∈ WT := wt_of 959 rfl rfl
set_option maxRecDepth 100000 in
theorem seX3_calculate : Cond.selects yX3_calculate.cls yX3_calculate yX3_calculate ∈ WT := wt_sel 54 (by decide +kernel)
set_option maxRecDepth 100000 in
theorem lkX3_153 : Lk RX3 153 6 4 0 := ⟨RX6, TX6, 13, clsX6, by decide, wt_of 735 rfl rfl, (fun h => nomatch h), (fun h => nomatch h)⟩
set_option maxRecDepth 100000 in
theorem lkX3_159 : Lk RX3 159 6 5 0 := ⟨RX6, TX6, 13, clsX6, by decide, wt_of 738 rfl rfl, (fun h => nomatch h), (fun h => nomatch h)⟩
set_option maxRecDepth 100000 in
theorem mlX3_166 : Cond.methodLink RX3 166 yX3_readConst ∈ WT := wt_of 933 rfl rfl
set_option maxRecDepth 100000 in
theorem imX3_readConst : Cond.instanceMethod yX3_readConst ∈ WT := wt_of 935 rfl rfl
set_option maxRecDepth 100000 in
theorem seX3_readConst : Cond.selects yX3_readConst.cls yX3_readConst yX3_readConst ∈ WT := wt_sel 49 (by decide +kernel)
set_option maxRecDepth 100000 in
theorem mlX3_169 : Cond.methodLink RX3 169 yX3_readEntry ∈ WT := wt_of 940 rfl rfl
set_option maxRecDepth 100000 in
theorem imX3_readEntry : Cond.instanceMethod yX3_readEntry ∈ WT := wt_of 942 rfl rfl
set_option maxRecDepth 100000 in
theorem seX3_readEntry : Cond.selects yX3_readEntry.cls yX3_readEntry yX3_readEntry ∈ WT := wt_sel 50 (by decide +kernel)
set_option maxRecDepth 100000 in
theorem mlX3_177 : Cond.methodLink RX3 177 yX3_storeEntry ∈ WT := wt_of 953 rfl rfl
set_option maxRecDepth 100000 in
theorem imX3_storeEntry : Cond.instanceMethod yX3_storeEntry ∈ WT := wt_of 955 rfl rfl
set_option maxRecDepth 100000 in
theorem seX3_storeEntry : Cond.selects yX3_storeEntry.cls yX3_storeEntry yX3_storeEntry ∈ WT := wt_sel 53 (by decide +kernel)
set_option maxRecDepth 100000 in
theorem lkX3_75 : Lk RX3 75 3 6 1 := ⟨RX3, TX3, 9, clsX3, by decide, wt_of 370 rfl rfl, fun _ => rfl, (fun h => nomatch h)⟩
set_option maxRecDepth 100000 in
theorem lkX6_80 : Lk RX6 80 6 10 2 := ⟨RX6, TX6, 13, clsX6, by decide, wt_of 749 rfl rfl, (fun h => nomatch h), fun _ => ⟨rfl, rfl⟩⟩
set_option maxRecDepth 100000 in
theorem lkX6_84 : Lk RX6 84 6 11 2 := ⟨RX6, TX6, 13, clsX6, by decide, wt_of 750 rfl rfl, (fun h => nomatch h), fun _ => ⟨rfl, rfl⟩⟩
set_option maxRecDepth 100000 in
theorem lkX6_88 : Lk RX6 88 6 12 2 := ⟨RX6, TX6, 13, clsX6, by decide, wt_of 751 rfl rfl, (fun h => nomatch h), fun _ => ⟨rfl, rfl⟩⟩
set_option maxRecDepth 100000 in
theorem lkX3_150 : Lk RX3 150 8 3 1 := ⟨RX8, TX8, 8, clsX8, by decide, wt_of 263 rfl rfl, fun _ => rfl, (fun h => nomatch h)⟩
set_option maxRecDepth 100000 in
theorem mlX3_147 : Cond.methodLink RX3 147 yX6_catchAt ∈ WT := wt_of 965 rfl rfl
set_option maxRecDepth 100000 in
theorem imX6_catchAt : Cond.instanceMethod yX6_catchAt ∈ WT := wt_of 966 rfl rfl
set_option maxRecDepth 100000 in
theorem seX6_catchAt : Cond.selects yX6_catchAt.cls yX6_catchAt yX6_catchAt ∈ WT := wt_of 967 rfl rfl
set_option maxRecDepth 100000 in
theorem ciX3_139 : Cond.constant RX3 139 (1000000) ∈ WT := wt_of 920 rfl rfl
set_option maxRecDepth 100000 in
theorem mlX3_144 : Cond.methodLink RX3 144 yX3_unwind ∈ WT := wt_of 961 rfl rfl
set_option maxRecDepth 100000 in
theorem imX3_unwind : Cond.instanceMethod yX3_unwind ∈ WT := wt_of 963 rfl rfl
set_option maxRecDepth 100000 in
theorem seX3_unwind : Cond.selects yX3_unwind.cls yX3_unwind yX3_unwind ∈ WT := wt_sel 55 (by decide +kernel)
set_option maxRecDepth 100000 in
theorem mlX3_140 : Cond.methodLink RX3 140 yX3_advance ∈ WT := wt_of 921 rfl rfl
set_option maxRecDepth 100000 in
theorem imX3_advance : Cond.instanceMethod yX3_advance ∈ WT := wt_of 923 rfl rfl
set_option maxRecDepth 100000 in
theorem seX3_advance : Cond.selects yX3_advance.cls yX3_advance yX3_advance ∈ WT := wt_sel 46 (by decide +kernel)
set_option maxRecDepth 100000 in
theorem mlX3_47 : Cond.methodLink RX3 47 yX3_run ∈ WT := wt_of 916 rfl rfl
set_option maxRecDepth 100000 in
theorem imX3_run : Cond.instanceMethod yX3_run ∈ WT := wt_of 918 rfl rfl
set_option maxRecDepth 100000 in
theorem seX3_run : Cond.selects yX3_run.cls yX3_run yX3_run ∈ WT := wt_sel 45 (by decide +kernel)
set_option maxRecDepth 100000 in
theorem lkX3_82 : Lk RX3 82 9 0 0 := ⟨RX9, TX9, 9, clsX9, by decide, wt_of 984 rfl rfl, (fun h => nomatch h), (fun h => nomatch h)⟩
set_option maxRecDepth 100000 in
theorem lkX3_85 : Lk RX3 85 9 1 0 := ⟨RX9, TX9, 9, clsX9, by decide, wt_of 986 rfl rfl, (fun h => nomatch h), (fun h => nomatch h)⟩
set_option maxRecDepth 100000 in
theorem lkX3_88 : Lk RX3 88 9 3 0 := ⟨RX9, TX9, 9, clsX9, by decide, wt_of 991 rfl rfl, (fun h => nomatch h), (fun h => nomatch h)⟩
set_option maxRecDepth 100000 in
theorem lkX3_91 : Lk RX3 91 9 5 0 := ⟨RX9, TX9, 9, clsX9, by decide, wt_of 995 rfl rfl, (fun h => nomatch h), (fun h => nomatch h)⟩
set_option maxRecDepth 100000 in
theorem lkX3_110 : Lk RX3 110 6 3 0 := ⟨RX6, TX6, 13, clsX6, by decide, wt_of 732 rfl rfl, (fun h => nomatch h), (fun h => nomatch h)⟩
set_option maxRecDepth 100000 in
theorem lkX3_72 : Lk RX3 72 9 6 0 := ⟨RX9, TX9, 9, clsX9, by decide, wt_of 997 rfl rfl, (fun h => nomatch h), (fun h => nomatch h)⟩
set_option maxRecDepth 100000 in
theorem lkX3_79 : Lk RX3 79 9 7 1 := ⟨RX9, TX9, 9, clsX9, by decide, wt_of 999 rfl rfl, fun _ => rfl, (fun h => nomatch h)⟩
set_option maxRecDepth 100000 in
theorem lkX3_56 : Lk RX3 56 9 2 1 := ⟨RX9, TX9, 9, clsX9, by decide, wt_of 988 rfl rfl, fun _ => rfl, (fun h => nomatch h)⟩
set_option maxRecDepth 100000 in
theorem lkX3_51 : Lk RX3 51 9 8 1 := ⟨RX9, TX9, 9, clsX9, by decide, wt_of 1001 rfl rfl, fun _ => rfl, (fun h => nomatch h)⟩
set_option maxRecDepth 100000 in
theorem lkX3_59 : Lk RX3 59 9 4 0 := ⟨RX9, TX9, 9, clsX9, by decide, wt_of 993 rfl rfl, (fun h => nomatch h), (fun h => nomatch h)⟩
set_option maxRecDepth 100000 in
theorem mlX3_69 : Cond.methodLink RX3 69 yX3_workRule ∈ WT := wt_of 1047 rfl rfl
set_option maxRecDepth 100000 in
theorem imX3_workRule : Cond.instanceMethod yX3_workRule ∈ WT := wt_of 1049 rfl rfl
set_option maxRecDepth 100000 in
theorem seX3_workRule : Cond.selects yX3_workRule.cls yX3_workRule yX3_workRule ∈ WT := wt_sel 58 (by decide +kernel)
set_option maxRecDepth 100000 in
theorem mlX3_65 : Cond.methodLink RX3 65 yX3_prepare ∈ WT := wt_of 1043 rfl rfl
set_option maxRecDepth 100000 in
theorem imX3_prepare : Cond.instanceMethod yX3_prepare ∈ WT := wt_of 1045 rfl rfl
set_option maxRecDepth 100000 in
theorem seX3_prepare : Cond.selects yX3_prepare.cls yX3_prepare yX3_prepare ∈ WT := wt_sel 57 (by decide +kernel)
set_option maxRecDepth 100000 in
theorem mlX3_62 : Cond.methodLink RX3 62 yX3_summon ∈ WT := wt_of 1042 rfl rfl
set_option maxRecDepth 100000 in
theorem imX3_summon : Cond.instanceMethod yX3_summon ∈ WT := wt_of 905 rfl rfl
set_option maxRecDepth 100000 in
theorem seX3_summon : Cond.selects yX3_summon.cls yX3_summon yX3_summon ∈ WT := wt_of 906 rfl rfl
set_option maxRecDepth 100000 in
theorem oiX4_3 : Cond.methodLink RX4 3 Lib.objectInit ∈ WT := wt_of 127 rfl rfl
set_option maxRecDepth 100000 in
theorem lkX4_9 : Lk RX4 9 4 0 2 := ⟨RX4, TX4, 8, clsX4, by decide, wt_of 210 rfl rfl, (fun h => nomatch h), fun _ => ⟨rfl, rfl⟩⟩
set_option maxRecDepth 100000 in
theorem cdX4_15 : Cond.classLink RX4 15 RX0 ∈ WT := wt_of 128 rfl rfl
set_option maxRecDepth 100000 in
theorem inX0 : Cond.instantiable RX0 17 ∈ WT := wt_of 129 rfl rfl
set_option maxRecDepth 100000 in
theorem iiX0 : Cond.initialized RX0 ∈ WT := wt_of 8 rfl rfl
set_option maxRecDepth 100000 in
theorem lkX4_18 : Lk RX4 18 4 1 2 := ⟨RX4, TX4, 8, clsX4, by decide, wt_of 211 rfl rfl, (fun h => nomatch h), fun _ => ⟨rfl, rfl⟩⟩
set_option maxRecDepth 100000 in
theorem lkX4_22 : Lk RX4 22 4 6 1 := ⟨RX4, TX4, 8, clsX4, by decide, wt_of 216 rfl rfl, fun _ => rfl, (fun h => nomatch h)⟩
set_option maxRecDepth 100000 in
theorem lkX4_26 : Lk RX4 26 4 7 1 := ⟨RX4, TX4, 8, clsX4, by decide, wt_of 218 rfl rfl, fun _ => rfl, (fun h => nomatch h)⟩
set_option maxRecDepth 100000 in
theorem mlX4_17 : Cond.methodLink RX4 17 yX0_init ∈ WT := wt_of 130 rfl rfl
set_option maxRecDepth 100000 in
theorem imX0_init : Cond.instanceMethod yX0_init ∈ WT := wt_of 131 rfl rfl
set_option maxRecDepth 100000 in
theorem lkX7_33 : Lk RX7 33 7 1 1 := ⟨RX7, TX7, 7, clsX7, by decide, wt_of 91 rfl rfl, fun _ => rfl, (fun h => nomatch h)⟩
set_option maxRecDepth 100000 in
theorem lkX7_9 : Lk RX7 9 7 0 2 := ⟨RX7, TX7, 7, clsX7, by decide, wt_of 90 rfl rfl, (fun h => nomatch h), fun _ => ⟨rfl, rfl⟩⟩
set_option maxRecDepth 100000 in
theorem lkX7_37 : Lk RX7 37 7 5 1 := ⟨RX7, TX7, 7, clsX7, by decide, wt_of 100 rfl rfl, fun _ => rfl, (fun h => nomatch h)⟩
set_option maxRecDepth 100000 in
theorem lkX7_15 : Lk RX7 15 7 2 2 := ⟨RX7, TX7, 7, clsX7, by decide, wt_of 94 rfl rfl, (fun h => nomatch h), fun _ => ⟨rfl, rfl⟩⟩
set_option maxRecDepth 100000 in
theorem lkX7_19 : Lk RX7 19 7 3 2 := ⟨RX7, TX7, 7, clsX7, by decide, wt_of 96 rfl rfl, (fun h => nomatch h), fun _ => ⟨rfl, rfl⟩⟩
set_option maxRecDepth 100000 in
theorem lkX7_22 : Lk RX7 22 7 4 2 := ⟨RX7, TX7, 7, clsX7, by decide, wt_of 98 rfl rfl, (fun h => nomatch h), fun _ => ⟨rfl, rfl⟩⟩
set_option maxRecDepth 100000 in
theorem mlX7_60 : Cond.methodLink RX7 60 yX7_add ∈ WT := wt_of 465 rfl rfl
set_option maxRecDepth 100000 in
theorem imX7_add : Cond.instanceMethod yX7_add ∈ WT := wt_of 467 rfl rfl
set_option maxRecDepth 100000 in
theorem seX7_add : Cond.selects yX7_add.cls yX7_add yX7_add ∈ WT := wt_sel 3 (by decide +kernel)
set_option maxRecDepth 100000 in
theorem lkX7_30 : Lk RX7 30 7 6 2 := ⟨RX7, TX7, 7, clsX7, by decide, wt_of 102 rfl rfl, (fun h => nomatch h), fun _ => ⟨rfl, rfl⟩⟩
set_option maxRecDepth 100000 in
theorem nlX7_80 : ((RX7, 80, yX10_positionOf, "TollAlmanac") : String × Nat × MethodName × String) ∈ NL := by decide +kernel
set_option maxRecDepth 100000 in
theorem mlX7_52 : Cond.methodLink RX7 52 yX7_withLetter ∈ WT := wt_of 87 rfl rfl
set_option maxRecDepth 100000 in
theorem smX7_withLetter : Cond.static yX7_withLetter ∈ WT := wt_of 88 rfl rfl
set_option maxRecDepth 100000 in
theorem clX7_84 : Cond.constantLong RX7 84 (10) ∈ WT := wt_of 476 rfl rfl
set_option maxRecDepth 100000 in
theorem mlX7_72 : Cond.methodLink RX7 72 yX7_addNumber ∈ WT := wt_of 472 rfl rfl
set_option maxRecDepth 100000 in
theorem imX7_addNumber : Cond.instanceMethod yX7_addNumber ∈ WT := wt_of 474 rfl rfl
set_option maxRecDepth 100000 in
theorem seX7_addNumber : Cond.selects yX7_addNumber.cls yX7_addNumber yX7_addNumber ∈ WT := wt_sel 4 (by decide +kernel)
set_option maxRecDepth 100000 in
theorem mlX7_64 : Cond.methodLink RX7 64 yX7_rowEnd ∈ WT := wt_of 457 rfl rfl
set_option maxRecDepth 100000 in
theorem imX7_rowEnd : Cond.instanceMethod yX7_rowEnd ∈ WT := wt_of 459 rfl rfl
set_option maxRecDepth 100000 in
theorem seX7_rowEnd : Cond.selects yX7_rowEnd.cls yX7_rowEnd yX7_rowEnd ∈ WT := wt_sel 1 (by decide +kernel)
set_option maxRecDepth 100000 in
theorem mlX7_68 : Cond.methodLink RX7 68 yX7_addName ∈ WT := wt_of 461 rfl rfl
set_option maxRecDepth 100000 in
theorem imX7_addName : Cond.instanceMethod yX7_addName ∈ WT := wt_of 463 rfl rfl
set_option maxRecDepth 100000 in
theorem seX7_addName : Cond.selects yX7_addName.cls yX7_addName yX7_addName ∈ WT := wt_sel 2 (by decide +kernel)
set_option maxRecDepth 100000 in
theorem mlX7_56 : Cond.methodLink RX7 56 yX7_cutOne ∈ WT := wt_of 453 rfl rfl
set_option maxRecDepth 100000 in
theorem imX7_cutOne : Cond.instanceMethod yX7_cutOne ∈ WT := wt_of 455 rfl rfl
set_option maxRecDepth 100000 in
theorem seX7_cutOne : Cond.selects yX7_cutOne.cls yX7_cutOne yX7_cutOne ∈ WT := wt_sel 0 (by decide +kernel)
set_option maxRecDepth 100000 in
theorem lkX4_46 : Lk RX4 46 4 5 1 := ⟨RX4, TX4, 8, clsX4, by decide, wt_of 215 rfl rfl, fun _ => rfl, (fun h => nomatch h)⟩
set_option maxRecDepth 100000 in
theorem lkX4_37 : Lk RX4 37 4 2 1 := ⟨RX4, TX4, 8, clsX4, by decide, wt_of 212 rfl rfl, fun _ => rfl, (fun h => nomatch h)⟩
set_option maxRecDepth 100000 in
theorem lkX4_76 : Lk RX4 76 7 5 1 := ⟨RX7, TX7, 7, clsX7, by decide, wt_of 101 rfl rfl, fun _ => rfl, (fun h => nomatch h)⟩
set_option maxRecDepth 100000 in
theorem lkX4_79 : Lk RX4 79 7 2 0 := ⟨RX7, TX7, 7, clsX7, by decide, wt_of 95 rfl rfl, (fun h => nomatch h), (fun h => nomatch h)⟩
set_option maxRecDepth 100000 in
theorem lkX4_86 : Lk RX4 86 7 1 1 := ⟨RX7, TX7, 7, clsX7, by decide, wt_of 93 rfl rfl, fun _ => rfl, (fun h => nomatch h)⟩
set_option maxRecDepth 100000 in
theorem lkX4_83 : Lk RX4 83 7 3 0 := ⟨RX7, TX7, 7, clsX7, by decide, wt_of 97 rfl rfl, (fun h => nomatch h), (fun h => nomatch h)⟩
set_option maxRecDepth 100000 in
theorem lkX4_89 : Lk RX4 89 7 4 0 := ⟨RX7, TX7, 7, clsX7, by decide, wt_of 99 rfl rfl, (fun h => nomatch h), (fun h => nomatch h)⟩
set_option maxRecDepth 100000 in
theorem mlX4_93 : Cond.methodLink RX4 93 yX4_reject ∈ WT := wt_of 561 rfl rfl
set_option maxRecDepth 100000 in
theorem imX4_reject : Cond.instanceMethod yX4_reject ∈ WT := wt_of 563 rfl rfl
set_option maxRecDepth 100000 in
theorem seX4_reject : Cond.selects yX4_reject.cls yX4_reject yX4_reject ∈ WT := wt_sel 10 (by decide +kernel)
set_option maxRecDepth 100000 in
theorem mlX4_53 : Cond.methodLink RX4 53 yX4_kind ∈ WT := wt_of 545 rfl rfl
set_option maxRecDepth 100000 in
theorem imX4_kind : Cond.instanceMethod yX4_kind ∈ WT := wt_of 547 rfl rfl
set_option maxRecDepth 100000 in
theorem seX4_kind : Cond.selects yX4_kind.cls yX4_kind yX4_kind ∈ WT := wt_sel 6 (by decide +kernel)
set_option maxRecDepth 100000 in
theorem clX10_188 : Cond.constantLong RX10 188 (1700) ∈ WT := wt_of 443 rfl rfl
set_option maxRecDepth 100000 in
theorem clX10_190 : Cond.constantLong RX10 190 (1730) ∈ WT := wt_of 444 rfl rfl
set_option maxRecDepth 100000 in
theorem lkX4_40 : Lk RX4 40 4 3 1 := ⟨RX4, TX4, 8, clsX4, by decide, wt_of 213 rfl rfl, fun _ => rfl, (fun h => nomatch h)⟩
set_option maxRecDepth 100000 in
theorem mlX4_118 : Cond.methodLink RX4 118 yX4_note ∈ WT := wt_of 570 rfl rfl
set_option maxRecDepth 100000 in
theorem imX4_note : Cond.instanceMethod yX4_note ∈ WT := wt_of 572 rfl rfl
set_option maxRecDepth 100000 in
theorem seX4_note : Cond.selects yX4_note.cls yX4_note yX4_note ∈ WT := wt_sel 12 (by decide +kernel)
set_option maxRecDepth 100000 in
theorem lkX4_122 : Lk RX4 122 0 1 1 := ⟨RX0, TX0, 17, clsX0, by decide, wt_of 139 rfl rfl, fun _ => rfl, (fun h => nomatch h)⟩
set_option maxRecDepth 100000 in
theorem nlX4_114 : ((RX4, 114, yX10_yearIndex, "TollAlmanac") : String × Nat × MethodName × String) ∈ NL := by decide +kernel
set_option maxRecDepth 100000 in
theorem smX10_yearIndex : Cond.static yX10_yearIndex ∈ WT := wt_of 441 rfl rfl
set_option maxRecDepth 100000 in
theorem lkX4_111 : Lk RX4 111 0 0 1 := ⟨RX0, TX0, 17, clsX0, by decide, wt_of 136 rfl rfl, fun _ => rfl, (fun h => nomatch h)⟩
set_option maxRecDepth 100000 in
theorem mlX4_103 : Cond.methodLink RX4 103 yX4_take ∈ WT := wt_of 557 rfl rfl
set_option maxRecDepth 100000 in
theorem imX4_take : Cond.instanceMethod yX4_take ∈ WT := wt_of 559 rfl rfl
set_option maxRecDepth 100000 in
theorem seX4_take : Cond.selects yX4_take.cls yX4_take yX4_take ∈ WT := wt_sel 9 (by decide +kernel)
set_option maxRecDepth 100000 in
theorem mlX4_67 : Cond.methodLink RX4 67 yX0_emit ∈ WT := wt_of 574 rfl rfl
set_option maxRecDepth 100000 in
theorem mlX4_107 : Cond.methodLink RX4 107 yX4_leanOn ∈ WT := wt_of 565 rfl rfl
set_option maxRecDepth 100000 in
theorem imX4_leanOn : Cond.instanceMethod yX4_leanOn ∈ WT := wt_of 567 rfl rfl
set_option maxRecDepth 100000 in
theorem seX4_leanOn : Cond.selects yX4_leanOn.cls yX4_leanOn yX4_leanOn ∈ WT := wt_sel 11 (by decide +kernel)
set_option maxRecDepth 100000 in
theorem mlX4_99 : Cond.methodLink RX4 99 yX4_content ∈ WT := wt_of 553 rfl rfl
set_option maxRecDepth 100000 in
theorem imX4_content : Cond.instanceMethod yX4_content ∈ WT := wt_of 555 rfl rfl
set_option maxRecDepth 100000 in
theorem seX4_content : Cond.selects yX4_content.cls yX4_content yX4_content ∈ WT := wt_sel 8 (by decide +kernel)
set_option maxRecDepth 100000 in
theorem mlX4_96 : Cond.methodLink RX4 96 yX4_place ∈ WT := wt_of 549 rfl rfl
set_option maxRecDepth 100000 in
theorem imX4_place : Cond.instanceMethod yX4_place ∈ WT := wt_of 551 rfl rfl
set_option maxRecDepth 100000 in
theorem seX4_place : Cond.selects yX4_place.cls yX4_place yX4_place ∈ WT := wt_sel 7 (by decide +kernel)
set_option maxRecDepth 100000 in
theorem mlX4_125 : Cond.methodLink RX4 125 yX0_hasName ∈ WT := wt_of 586 rfl rfl
set_option maxRecDepth 100000 in
theorem imX0_hasName : Cond.instanceMethod yX0_hasName ∈ WT := wt_of 587 rfl rfl
set_option maxRecDepth 100000 in
theorem seX0_hasName : Cond.selects yX0_hasName.cls yX0_hasName yX0_hasName ∈ WT := wt_of 588 rfl rfl
set_option maxRecDepth 100000 in
theorem mlX4_158 : Cond.methodLink RX4 158 yX0_emitReference ∈ WT := wt_of 615 rfl rfl
set_option maxRecDepth 100000 in
theorem imX0_emitReference : Cond.instanceMethod yX0_emitReference ∈ WT := wt_of 616 rfl rfl
set_option maxRecDepth 100000 in
theorem seX0_emitReference : Cond.selects yX0_emitReference.cls yX0_emitReference yX0_emitReference ∈ WT := wt_of 617 rfl rfl
set_option maxRecDepth 100000 in
theorem mlX4_155 : Cond.methodLink RX4 155 yX4_readConstName ∈ WT := wt_of 611 rfl rfl
set_option maxRecDepth 100000 in
theorem imX4_readConstName : Cond.instanceMethod yX4_readConstName ∈ WT := wt_of 613 rfl rfl
set_option maxRecDepth 100000 in
theorem seX4_readConstName : Cond.selects yX4_readConstName.cls yX4_readConstName yX4_readConstName ∈ WT := wt_sel 19 (by decide +kernel)
set_option maxRecDepth 100000 in
theorem mlX4_152 : Cond.methodLink RX4 152 yX4_readNumberOrYear ∈ WT := wt_of 607 rfl rfl
set_option maxRecDepth 100000 in
theorem imX4_readNumberOrYear : Cond.instanceMethod yX4_readNumberOrYear ∈ WT := wt_of 609 rfl rfl
set_option maxRecDepth 100000 in
theorem seX4_readNumberOrYear : Cond.selects yX4_readNumberOrYear.cls yX4_readNumberOrYear yX4_readNumberOrYear ∈ WT := wt_sel 18 (by decide +kernel)
set_option maxRecDepth 100000 in
theorem mlX4_148 : Cond.methodLink RX4 148 yX4_takeMinus ∈ WT := wt_of 603 rfl rfl
set_option maxRecDepth 100000 in
theorem imX4_takeMinus : Cond.instanceMethod yX4_takeMinus ∈ WT := wt_of 605 rfl rfl
set_option maxRecDepth 100000 in
theorem seX4_takeMinus : Cond.selects yX4_takeMinus.cls yX4_takeMinus yX4_takeMinus ∈ WT := wt_sel 17 (by decide +kernel)
set_option maxRecDepth 100000 in
theorem mlX4_145 : Cond.methodLink RX4 145 yX4_readConstantOperand ∈ WT := wt_of 599 rfl rfl
set_option maxRecDepth 100000 in
theorem imX4_readConstantOperand : Cond.instanceMethod yX4_readConstantOperand ∈ WT := wt_of 601 rfl rfl
set_option maxRecDepth 100000 in
theorem seX4_readConstantOperand : Cond.selects yX4_readConstantOperand.cls yX4_readConstantOperand yX4_readConstantOperand ∈ WT := wt_sel 16 (by decide +kernel)
set_option maxRecDepth 100000 in
theorem mlX4_142 : Cond.methodLink RX4 142 yX0_landHere ∈ WT := wt_of 620 rfl rfl
set_option maxRecDepth 100000 in
theorem imX0_landHere : Cond.instanceMethod yX0_landHere ∈ WT := wt_of 621 rfl rfl
set_option maxRecDepth 100000 in
theorem seX0_landHere : Cond.selects yX0_landHere.cls yX0_landHere yX0_landHere ∈ WT := wt_of 622 rfl rfl
set_option maxRecDepth 100000 in
theorem mlX4_139 : Cond.methodLink RX4 139 yX4_readConstantSum ∈ WT := wt_of 595 rfl rfl
set_option maxRecDepth 100000 in
theorem imX4_readConstantSum : Cond.instanceMethod yX4_readConstantSum ∈ WT := wt_of 597 rfl rfl
set_option maxRecDepth 100000 in
theorem seX4_readConstantSum : Cond.selects yX4_readConstantSum.cls yX4_readConstantSum yX4_readConstantSum ∈ WT := wt_sel 15 (by decide +kernel)
set_option maxRecDepth 100000 in
theorem mlX4_135 : Cond.methodLink RX4 135 yX0_addConst ∈ WT := wt_of 591 rfl rfl
set_option maxRecDepth 100000 in
theorem imX0_addConst : Cond.instanceMethod yX0_addConst ∈ WT := wt_of 592 rfl rfl
set_option maxRecDepth 100000 in
theorem seX0_addConst : Cond.selects yX0_addConst.cls yX0_addConst yX0_addConst ∈ WT := wt_of 593 rfl rfl
set_option maxRecDepth 100000 in
theorem mlX4_132 : Cond.methodLink RX4 132 yX4_takeNewName ∈ WT := wt_of 582 rfl rfl
set_option maxRecDepth 100000 in
theorem imX4_takeNewName : Cond.instanceMethod yX4_takeNewName ∈ WT := wt_of 584 rfl rfl
set_option maxRecDepth 100000 in
theorem seX4_takeNewName : Cond.selects yX4_takeNewName.cls yX4_takeNewName yX4_takeNewName ∈ WT := wt_sel 14 (by decide +kernel)
set_option maxRecDepth 100000 in
theorem lkX4_129 : Lk RX4 129 0 9 1 := ⟨RX0, TX0, 17, clsX0, by decide, wt_of 159 rfl rfl, fun _ => rfl, (fun h => nomatch h)⟩
set_option maxRecDepth 100000 in
theorem mlX4_166 : Cond.methodLink RX4 166 yX4_readChoice ∈ WT := wt_of 628 rfl rfl
set_option maxRecDepth 100000 in
theorem imX4_readChoice : Cond.instanceMethod yX4_readChoice ∈ WT := wt_of 630 rfl rfl
set_option maxRecDepth 100000 in
theorem seX4_readChoice : Cond.selects yX4_readChoice.cls yX4_readChoice yX4_readChoice ∈ WT := wt_sel 21 (by decide +kernel)
set_option maxRecDepth 100000 in
theorem lkX4_43 : Lk RX4 43 4 4 1 := ⟨RX4, TX4, 8, clsX4, by decide, wt_of 214 rfl rfl, fun _ => rfl, (fun h => nomatch h)⟩
set_option maxRecDepth 100000 in
theorem mlX4_219 : Cond.methodLink RX4 219 yX4_readReference ∈ WT := wt_of 644 rfl rfl
set_option maxRecDepth 100000 in
theorem imX4_readReference : Cond.instanceMethod yX4_readReference ∈ WT := wt_of 646 rfl rfl
set_option maxRecDepth 100000 in
theorem seX4_readReference : Cond.selects yX4_readReference.cls yX4_readReference yX4_readReference ∈ WT := wt_sel 25 (by decide +kernel)
set_option maxRecDepth 100000 in
theorem mlX4_222 : Cond.methodLink RX4 222 yX4_readSetting ∈ WT := wt_of 648 rfl rfl
set_option maxRecDepth 100000 in
theorem imX4_readSetting : Cond.instanceMethod yX4_readSetting ∈ WT := wt_of 650 rfl rfl
set_option maxRecDepth 100000 in
theorem seX4_readSetting : Cond.selects yX4_readSetting.cls yX4_readSetting yX4_readSetting ∈ WT := wt_sel 26 (by decide +kernel)
set_option maxRecDepth 100000 in
theorem mlX4_216 : Cond.methodLink RX4 216 yX4_factor ∈ WT := wt_of 652 rfl rfl
set_option maxRecDepth 100000 in
theorem smX4_factor : Cond.static yX4_factor ∈ WT := wt_of 653 rfl rfl
set_option maxRecDepth 100000 in
theorem mlX4_213 : Cond.methodLink RX4 213 yX4_readOperand ∈ WT := wt_of 640 rfl rfl
set_option maxRecDepth 100000 in
theorem imX4_readOperand : Cond.instanceMethod yX4_readOperand ∈ WT := wt_of 642 rfl rfl
set_option maxRecDepth 100000 in
theorem seX4_readOperand : Cond.selects yX4_readOperand.cls yX4_readOperand yX4_readOperand ∈ WT := wt_sel 24 (by decide +kernel)
set_option maxRecDepth 100000 in
theorem mlX4_210 : Cond.methodLink RX4 210 yX4_readProduct ∈ WT := wt_of 636 rfl rfl
set_option maxRecDepth 100000 in
theorem imX4_readProduct : Cond.instanceMethod yX4_readProduct ∈ WT := wt_of 638 rfl rfl
set_option maxRecDepth 100000 in
theorem seX4_readProduct : Cond.selects yX4_readProduct.cls yX4_readProduct yX4_readProduct ∈ WT := wt_sel 23 (by decide +kernel)
set_option maxRecDepth 100000 in
theorem mlX4_203 : Cond.methodLink RX4 203 yX4_readSum ∈ WT := wt_of 632 rfl rfl
set_option maxRecDepth 100000 in
theorem imX4_readSum : Cond.instanceMethod yX4_readSum ∈ WT := wt_of 634 rfl rfl
set_option maxRecDepth 100000 in
theorem seX4_readSum : Cond.selects yX4_readSum.cls yX4_readSum yX4_readSum ∈ WT := wt_sel 22 (by decide +kernel)
set_option maxRecDepth 100000 in
theorem mlX4_206 : Cond.methodLink RX4 206 yX4_comparison ∈ WT := wt_of 655 rfl rfl
set_option maxRecDepth 100000 in
theorem smX4_comparison : Cond.static yX4_comparison ∈ WT := wt_of 656 rfl rfl
set_option maxRecDepth 100000 in
theorem lkX4_165 : Lk RX4 165 0 6 1 := ⟨RX0, TX0, 17, clsX0, by decide, wt_of 152 rfl rfl, fun _ => rfl, (fun h => nomatch h)⟩
set_option maxRecDepth 100000 in
theorem lkX4_162 : Lk RX4 162 0 3 1 := ⟨RX0, TX0, 17, clsX0, by decide, wt_of 145 rfl rfl, fun _ => rfl, (fun h => nomatch h)⟩
set_option maxRecDepth 100000 in
theorem clX4_192 : Cond.constantLong RX4 192 (8) ∈ WT := wt_of 674 rfl rfl
set_option maxRecDepth 100000 in
theorem mlX4_188 : Cond.methodLink RX4 188 yX0_addTable ∈ WT := wt_of 670 rfl rfl
set_option maxRecDepth 100000 in
theorem imX0_addTable : Cond.instanceMethod yX0_addTable ∈ WT := wt_of 671 rfl rfl
set_option maxRecDepth 100000 in
theorem seX0_addTable : Cond.selects yX0_addTable.cls yX0_addTable yX0_addTable ∈ WT := wt_of 672 rfl rfl
set_option maxRecDepth 100000 in
theorem mlX4_184 : Cond.methodLink RX4 184 yX4_takeNumber ∈ WT := wt_of 666 rfl rfl
set_option maxRecDepth 100000 in
theorem imX4_takeNumber : Cond.instanceMethod yX4_takeNumber ∈ WT := wt_of 668 rfl rfl
set_option maxRecDepth 100000 in
theorem seX4_takeNumber : Cond.selects yX4_takeNumber.cls yX4_takeNumber yX4_takeNumber ∈ WT := wt_sel 29 (by decide +kernel)
set_option maxRecDepth 100000 in
theorem lkX4_181 : Lk RX4 181 0 12 1 := ⟨RX0, TX0, 17, clsX0, by decide, wt_of 166 rfl rfl, fun _ => rfl, (fun h => nomatch h)⟩
set_option maxRecDepth 100000 in
theorem mlX4_63 : Cond.methodLink RX4 63 yX4_readStep ∈ WT := wt_of 658 rfl rfl
set_option maxRecDepth 100000 in
theorem imX4_readStep : Cond.instanceMethod yX4_readStep ∈ WT := wt_of 660 rfl rfl
set_option maxRecDepth 100000 in
theorem seX4_readStep : Cond.selects yX4_readStep.cls yX4_readStep yX4_readStep ∈ WT := wt_sel 27 (by decide +kernel)
set_option maxRecDepth 100000 in
theorem mlX4_197 : Cond.methodLink RX4 197 yX4_readSteps ∈ WT := wt_of 687 rfl rfl
set_option maxRecDepth 100000 in
theorem imX4_readSteps : Cond.instanceMethod yX4_readSteps ∈ WT := wt_of 689 rfl rfl
set_option maxRecDepth 100000 in
theorem seX4_readSteps : Cond.selects yX4_readSteps.cls yX4_readSteps yX4_readSteps ∈ WT := wt_sel 32 (by decide +kernel)
set_option maxRecDepth 100000 in
theorem mlX4_200 : Cond.methodLink RX4 200 yX0_closeTry ∈ WT := wt_of 691 rfl rfl
set_option maxRecDepth 100000 in
theorem imX0_closeTry : Cond.instanceMethod yX0_closeTry ∈ WT := wt_of 692 rfl rfl
set_option maxRecDepth 100000 in
theorem seX0_closeTry : Cond.selects yX0_closeTry.cls yX0_closeTry yX0_closeTry ∈ WT := wt_of 693 rfl rfl
set_option maxRecDepth 100000 in
theorem mlX4_194 : Cond.methodLink RX4 194 yX0_openTry ∈ WT := wt_of 683 rfl rfl
set_option maxRecDepth 100000 in
theorem imX0_openTry : Cond.instanceMethod yX0_openTry ∈ WT := wt_of 684 rfl rfl
set_option maxRecDepth 100000 in
theorem seX0_openTry : Cond.selects yX0_openTry.cls yX0_openTry yX0_openTry ∈ WT := wt_of 685 rfl rfl
set_option maxRecDepth 100000 in
theorem mlX4_178 : Cond.methodLink RX4 178 yX4_readTry ∈ WT := wt_of 679 rfl rfl
set_option maxRecDepth 100000 in
theorem imX4_readTry : Cond.instanceMethod yX4_readTry ∈ WT := wt_of 681 rfl rfl
set_option maxRecDepth 100000 in
theorem seX4_readTry : Cond.selects yX4_readTry.cls yX4_readTry yX4_readTry ∈ WT := wt_sel 31 (by decide +kernel)
set_option maxRecDepth 100000 in
theorem mlX4_175 : Cond.methodLink RX4 175 yX4_readCheck ∈ WT := wt_of 675 rfl rfl
set_option maxRecDepth 100000 in
theorem imX4_readCheck : Cond.instanceMethod yX4_readCheck ∈ WT := wt_of 677 rfl rfl
set_option maxRecDepth 100000 in
theorem seX4_readCheck : Cond.selects yX4_readCheck.cls yX4_readCheck yX4_readCheck ∈ WT := wt_sel 30 (by decide +kernel)
set_option maxRecDepth 100000 in
theorem mlX4_172 : Cond.methodLink RX4 172 yX4_readTable ∈ WT := wt_of 662 rfl rfl
set_option maxRecDepth 100000 in
theorem imX4_readTable : Cond.instanceMethod yX4_readTable ∈ WT := wt_of 664 rfl rfl
set_option maxRecDepth 100000 in
theorem seX4_readTable : Cond.selects yX4_readTable.cls yX4_readTable yX4_readTable ∈ WT := wt_sel 28 (by decide +kernel)
set_option maxRecDepth 100000 in
theorem lkX4_169 : Lk RX4 169 0 2 1 := ⟨RX0, TX0, 17, clsX0, by decide, wt_of 142 rfl rfl, fun _ => rfl, (fun h => nomatch h)⟩
set_option maxRecDepth 100000 in
theorem mmJ7_304 : Cond.methodLink RJ7 304 Lib.Math.min.name ∈ WT := wt_of 711 rfl rfl
set_option maxRecDepth 100000 in
theorem acJ7_150 : Cond.methodLink RJ7 150 arraycopyName ∈ WT := wt_of 712 rfl rfl
set_option maxRecDepth 100000 in
theorem cnJ7_316 : Cond.methodLink RJ7 316 ⟨"[I", "clone", "()Ljava/lang/Object;"⟩ ∈ WT := wt_of 704 rfl rfl
set_option maxRecDepth 100000 in
theorem ccJ7_317 : Cond.classLink RJ7 317 "[I" ∈ WT := wt_of 710 rfl rfl
set_option maxRecDepth 100000 in
theorem cnJ7_319 : Cond.methodLink RJ7 319 ⟨"[J", "clone", "()Ljava/lang/Object;"⟩ ∈ WT := wt_of 718 rfl rfl
set_option maxRecDepth 100000 in
theorem ccJ7_320 : Cond.classLink RJ7 320 "[J" ∈ WT := wt_of 722 rfl rfl
set_option maxRecDepth 100000 in
theorem oiX6_3 : Cond.methodLink RX6 3 Lib.objectInit ∈ WT := wt_of 700 rfl rfl
set_option maxRecDepth 100000 in
theorem lkX6_9 : Lk RX6 9 0 0 1 := ⟨RX0, TX0, 17, clsX0, by decide, wt_of 134 rfl rfl, fun _ => rfl, (fun h => nomatch h)⟩
set_option maxRecDepth 100000 in
theorem lkX6_15 : Lk RX6 15 6 0 2 := ⟨RX6, TX6, 13, clsX6, by decide, wt_of 723 rfl rfl, (fun h => nomatch h), fun _ => ⟨rfl, rfl⟩⟩
set_option maxRecDepth 100000 in
theorem lkX6_18 : Lk RX6 18 0 1 1 := ⟨RX0, TX0, 17, clsX0, by decide, wt_of 137 rfl rfl, fun _ => rfl, (fun h => nomatch h)⟩
set_option maxRecDepth 100000 in
theorem lkX6_21 : Lk RX6 21 6 1 2 := ⟨RX6, TX6, 13, clsX6, by decide, wt_of 726 rfl rfl, (fun h => nomatch h), fun _ => ⟨rfl, rfl⟩⟩
set_option maxRecDepth 100000 in
theorem lkX6_22 : Lk RX6 22 0 2 1 := ⟨RX0, TX0, 17, clsX0, by decide, wt_of 140 rfl rfl, fun _ => rfl, (fun h => nomatch h)⟩
set_option maxRecDepth 100000 in
theorem lkX6_25 : Lk RX6 25 6 2 2 := ⟨RX6, TX6, 13, clsX6, by decide, wt_of 729 rfl rfl, (fun h => nomatch h), fun _ => ⟨rfl, rfl⟩⟩
set_option maxRecDepth 100000 in
theorem lkX6_26 : Lk RX6 26 0 3 1 := ⟨RX0, TX0, 17, clsX0, by decide, wt_of 143 rfl rfl, fun _ => rfl, (fun h => nomatch h)⟩
set_option maxRecDepth 100000 in
theorem lkX6_30 : Lk RX6 30 0 4 0 := ⟨RX0, TX0, 17, clsX0, by decide, wt_of 147 rfl rfl, (fun h => nomatch h), (fun h => nomatch h)⟩
set_option maxRecDepth 100000 in
theorem lkX6_34 : Lk RX6 34 0 6 1 := ⟨RX0, TX0, 17, clsX0, by decide, wt_of 150 rfl rfl, fun _ => rfl, (fun h => nomatch h)⟩
set_option maxRecDepth 100000 in
theorem lkX6_43 : Lk RX6 43 6 4 2 := ⟨RX6, TX6, 13, clsX6, by decide, wt_of 733 rfl rfl, (fun h => nomatch h), fun _ => ⟨rfl, rfl⟩⟩
set_option maxRecDepth 100000 in
theorem lkX6_44 : Lk RX6 44 0 5 0 := ⟨RX0, TX0, 17, clsX0, by decide, wt_of 149 rfl rfl, (fun h => nomatch h), (fun h => nomatch h)⟩
set_option maxRecDepth 100000 in
theorem lkX6_51 : Lk RX6 51 6 5 2 := ⟨RX6, TX6, 13, clsX6, by decide, wt_of 736 rfl rfl, (fun h => nomatch h), fun _ => ⟨rfl, rfl⟩⟩
set_option maxRecDepth 100000 in
theorem lkX6_52 : Lk RX6 52 0 7 0 := ⟨RX0, TX0, 17, clsX0, by decide, wt_of 154 rfl rfl, (fun h => nomatch h), (fun h => nomatch h)⟩
set_option maxRecDepth 100000 in
theorem lkX6_55 : Lk RX6 55 0 9 1 := ⟨RX0, TX0, 17, clsX0, by decide, wt_of 157 rfl rfl, fun _ => rfl, (fun h => nomatch h)⟩
set_option maxRecDepth 100000 in
theorem lkX6_59 : Lk RX6 59 0 8 0 := ⟨RX0, TX0, 17, clsX0, by decide, wt_of 156 rfl rfl, (fun h => nomatch h), (fun h => nomatch h)⟩
set_option maxRecDepth 100000 in
theorem lkX6_62 : Lk RX6 62 6 7 2 := ⟨RX6, TX6, 13, clsX6, by decide, wt_of 743 rfl rfl, (fun h => nomatch h), fun _ => ⟨rfl, rfl⟩⟩
set_option maxRecDepth 100000 in
theorem lkX6_63 : Lk RX6 63 0 10 0 := ⟨RX0, TX0, 17, clsX0, by decide, wt_of 161 rfl rfl, (fun h => nomatch h), (fun h => nomatch h)⟩
set_option maxRecDepth 100000 in
theorem lkX6_66 : Lk RX6 66 0 12 1 := ⟨RX0, TX0, 17, clsX0, by decide, wt_of 164 rfl rfl, fun _ => rfl, (fun h => nomatch h)⟩
set_option maxRecDepth 100000 in
theorem lkX6_70 : Lk RX6 70 0 11 0 := ⟨RX0, TX0, 17, clsX0, by decide, wt_of 163 rfl rfl, (fun h => nomatch h), (fun h => nomatch h)⟩
set_option maxRecDepth 100000 in
theorem lkX6_73 : Lk RX6 73 6 9 2 := ⟨RX6, TX6, 13, clsX6, by decide, wt_of 747 rfl rfl, (fun h => nomatch h), fun _ => ⟨rfl, rfl⟩⟩
set_option maxRecDepth 100000 in
theorem lkX6_74 : Lk RX6 74 0 13 0 := ⟨RX0, TX0, 17, clsX0, by decide, wt_of 168 rfl rfl, (fun h => nomatch h), (fun h => nomatch h)⟩
set_option maxRecDepth 100000 in
theorem lkX6_77 : Lk RX6 77 0 16 1 := ⟨RX0, TX0, 17, clsX0, by decide, wt_of 173 rfl rfl, fun _ => rfl, (fun h => nomatch h)⟩
set_option maxRecDepth 100000 in
theorem lkX6_81 : Lk RX6 81 0 14 0 := ⟨RX0, TX0, 17, clsX0, by decide, wt_of 170 rfl rfl, (fun h => nomatch h), (fun h => nomatch h)⟩
set_option maxRecDepth 100000 in
theorem lkX6_85 : Lk RX6 85 0 15 0 := ⟨RX0, TX0, 17, clsX0, by decide, wt_of 172 rfl rfl, (fun h => nomatch h), (fun h => nomatch h)⟩
set_option maxRecDepth 100000 in
theorem mlX6_37 : Cond.methodLink RX6 37 yJ7_copyOf_59c91 ∈ WT := wt_of 701 rfl rfl
set_option maxRecDepth 100000 in
theorem smJ7_copyOf_59c91 : Cond.static yJ7_copyOf_59c91 ∈ WT := wt_of 702 rfl rfl
set_option maxRecDepth 100000 in
theorem mlX6_48 : Cond.methodLink RX6 48 yJ7_copyOf_c38d5 ∈ WT := wt_of 715 rfl rfl
set_option maxRecDepth 100000 in
theorem smJ7_copyOf_c38d5 : Cond.static yJ7_copyOf_c38d5 ∈ WT := wt_of 716 rfl rfl
set_option maxRecDepth 100000 in
theorem cdX4_71 : Cond.classLink RX4 71 RX6 ∈ WT := wt_of 695 rfl rfl
set_option maxRecDepth 100000 in
theorem inX6 : Cond.instantiable RX6 13 ∈ WT := wt_of 696 rfl rfl
set_option maxRecDepth 100000 in
theorem iiX6 : Cond.initialized RX6 ∈ WT := wt_of 17 rfl rfl
set_option maxRecDepth 100000 in
theorem mlX4_73 : Cond.methodLink RX4 73 yX6_init ∈ WT := wt_of 697 rfl rfl
set_option maxRecDepth 100000 in
theorem imX6_init : Cond.instanceMethod yX6_init ∈ WT := wt_of 698 rfl rfl
set_option maxRecDepth 100000 in
theorem mlX4_60 : Cond.methodLink RX4 60 yX4_readRule ∈ WT := wt_of 624 rfl rfl
set_option maxRecDepth 100000 in
theorem imX4_readRule : Cond.instanceMethod yX4_readRule ∈ WT := wt_of 626 rfl rfl
set_option maxRecDepth 100000 in
theorem seX4_readRule : Cond.selects yX4_readRule.cls yX4_readRule yX4_readRule ∈ WT := wt_sel 20 (by decide +kernel)
set_option maxRecDepth 100000 in
theorem mlX4_57 : Cond.methodLink RX4 57 yX4_readConst ∈ WT := wt_of 578 rfl rfl
set_option maxRecDepth 100000 in
theorem imX4_readConst : Cond.instanceMethod yX4_readConst ∈ WT := wt_of 580 rfl rfl
set_option maxRecDepth 100000 in
theorem seX4_readConst : Cond.selects yX4_readConst.cls yX4_readConst yX4_readConst ∈ WT := wt_sel 13 (by decide +kernel)
set_option maxRecDepth 100000 in
theorem mlX4_50 : Cond.methodLink RX4 50 yX4_readUnder ∈ WT := wt_of 541 rfl rfl
set_option maxRecDepth 100000 in
theorem imX4_readUnder : Cond.instanceMethod yX4_readUnder ∈ WT := wt_of 543 rfl rfl
set_option maxRecDepth 100000 in
theorem seX4_readUnder : Cond.selects yX4_readUnder.cls yX4_readUnder yX4_readUnder ∈ WT := wt_sel 5 (by decide +kernel)
set_option maxRecDepth 100000 in
theorem mlX4_34 : Cond.methodLink RX4 34 yX0_clear ∈ WT := wt_of 537 rfl rfl
set_option maxRecDepth 100000 in
theorem imX0_clear : Cond.instanceMethod yX0_clear ∈ WT := wt_of 538 rfl rfl
set_option maxRecDepth 100000 in
theorem seX0_clear : Cond.selects yX0_clear.cls yX0_clear yX0_clear ∈ WT := wt_of 539 rfl rfl
set_option maxRecDepth 100000 in
theorem mlX4_29 : Cond.methodLink RX4 29 yX7_cut ∈ WT := wt_of 449 rfl rfl
set_option maxRecDepth 100000 in
theorem imX7_cut : Cond.instanceMethod yX7_cut ∈ WT := wt_of 450 rfl rfl
set_option maxRecDepth 100000 in
theorem seX7_cut : Cond.selects yX7_cut.cls yX7_cut yX7_cut ∈ WT := wt_of 451 rfl rfl
set_option maxRecDepth 100000 in
theorem oiX5_3 : Cond.methodLink RX5 3 Lib.objectInit ∈ WT := wt_of 315 rfl rfl
set_option maxRecDepth 100000 in
theorem lkX5_9 : Lk RX5 9 5 0 2 := ⟨RX5, TX5, 5, clsX5, by decide, wt_of 316 rfl rfl, (fun h => nomatch h), fun _ => ⟨rfl, rfl⟩⟩
set_option maxRecDepth 100000 in
theorem lkX5_15 : Lk RX5 15 5 1 2 := ⟨RX5, TX5, 5, clsX5, by decide, wt_of 317 rfl rfl, (fun h => nomatch h), fun _ => ⟨rfl, rfl⟩⟩
set_option maxRecDepth 100000 in
theorem lkX5_19 : Lk RX5 19 5 3 2 := ⟨RX5, TX5, 5, clsX5, by decide, wt_of 319 rfl rfl, (fun h => nomatch h), fun _ => ⟨rfl, rfl⟩⟩
set_option maxRecDepth 100000 in
theorem lkX5_23 : Lk RX5 23 1 1 0 := ⟨RX1, TX1, 4, clsX1, by decide, wt_of 294 rfl rfl, (fun h => nomatch h), (fun h => nomatch h)⟩
set_option maxRecDepth 100000 in
theorem lkX5_40 : Lk RX5 40 8 5 0 := ⟨RX8, TX8, 8, clsX8, by decide, wt_of 268 rfl rfl, (fun h => nomatch h), (fun h => nomatch h)⟩
set_option maxRecDepth 100000 in
theorem lkX5_47 : Lk RX5 47 5 2 1 := ⟨RX5, TX5, 5, clsX5, by decide, wt_of 318 rfl rfl, fun _ => rfl, (fun h => nomatch h)⟩
set_option maxRecDepth 100000 in
theorem mlX5_62 : Cond.methodLink RX5 62 yX5_mark ∈ WT := wt_of 825 rfl rfl
set_option maxRecDepth 100000 in
theorem imX5_mark : Cond.instanceMethod yX5_mark ∈ WT := wt_of 827 rfl rfl
set_option maxRecDepth 100000 in
theorem seX5_mark : Cond.selects yX5_mark.cls yX5_mark yX5_mark ∈ WT := wt_sel 36 (by decide +kernel)
set_option maxRecDepth 100000 in
theorem lkX5_75 : Lk RX5 75 5 4 1 := ⟨RX5, TX5, 5, clsX5, by decide, wt_of 320 rfl rfl, fun _ => rfl, (fun h => nomatch h)⟩
set_option maxRecDepth 100000 in
theorem clX5_98 : Cond.constantLong RX5 98 (1000000000000000) ∈ WT := wt_of 855 rfl rfl
set_option maxRecDepth 100000 in
theorem clX5_100 : Cond.constantLong RX5 100 (-1000000000000000) ∈ WT := wt_of 856 rfl rfl
set_option maxRecDepth 100000 in
theorem lkX5_59 : Lk RX5 59 8 6 0 := ⟨RX8, TX8, 8, clsX8, by decide, wt_of 270 rfl rfl, (fun h => nomatch h), (fun h => nomatch h)⟩
set_option maxRecDepth 100000 in
theorem mlX5_95 : Cond.methodLink RX5 95 yX5_put ∈ WT := wt_of 851 rfl rfl
set_option maxRecDepth 100000 in
theorem imX5_put : Cond.instanceMethod yX5_put ∈ WT := wt_of 853 rfl rfl
set_option maxRecDepth 100000 in
theorem seX5_put : Cond.selects yX5_put.cls yX5_put yX5_put ∈ WT := wt_sel 40 (by decide +kernel)
set_option maxRecDepth 100000 in
theorem mlX5_66 : Cond.methodLink RX5 66 yX5_markOf ∈ WT := wt_of 847 rfl rfl
set_option maxRecDepth 100000 in
theorem imX5_markOf : Cond.instanceMethod yX5_markOf ∈ WT := wt_of 849 rfl rfl
set_option maxRecDepth 100000 in
theorem seX5_markOf : Cond.selects yX5_markOf.cls yX5_markOf yX5_markOf ∈ WT := wt_sel 39 (by decide +kernel)
set_option maxRecDepth 100000 in
theorem mlX5_92 : Cond.methodLink RX5 92 yX1_find ∈ WT := wt_of 838 rfl rfl
set_option maxRecDepth 100000 in
theorem mmX5_106 : Cond.methodLink RX5 106 Lib.MathLoose.abs_long.x ∈ WT := wt_of 864 rfl rfl
set_option maxRecDepth 100000 in
theorem mlX5_102 : Cond.methodLink RX5 102 yX5_productFits ∈ WT := wt_of 861 rfl rfl
set_option maxRecDepth 100000 in
theorem smX5_productFits : Cond.static yX5_productFits ∈ WT := wt_of 862 rfl rfl
set_option maxRecDepth 100000 in
theorem lkX5_78 : Lk RX5 78 6 4 0 := ⟨RX6, TX6, 13, clsX6, by decide, wt_of 734 rfl rfl, (fun h => nomatch h), (fun h => nomatch h)⟩
set_option maxRecDepth 100000 in
theorem lkX5_81 : Lk RX5 81 6 5 0 := ⟨RX6, TX6, 13, clsX6, by decide, wt_of 737 rfl rfl, (fun h => nomatch h), (fun h => nomatch h)⟩
set_option maxRecDepth 100000 in
theorem mlX5_88 : Cond.methodLink RX5 88 yX5_calculate ∈ WT := wt_of 857 rfl rfl
set_option maxRecDepth 100000 in
theorem imX5_calculate : Cond.instanceMethod yX5_calculate ∈ WT := wt_of 859 rfl rfl
set_option maxRecDepth 100000 in
theorem seX5_calculate : Cond.selects yX5_calculate.cls yX5_calculate yX5_calculate ∈ WT := wt_sel 41 (by decide +kernel)
set_option maxRecDepth 100000 in
theorem mlX5_84 : Cond.methodLink RX5 84 yX5_refer ∈ WT := wt_of 834 rfl rfl
set_option maxRecDepth 100000 in
theorem imX5_refer : Cond.instanceMethod yX5_refer ∈ WT := wt_of 836 rfl rfl
set_option maxRecDepth 100000 in
theorem seX5_refer : Cond.selects yX5_refer.cls yX5_refer yX5_refer ∈ WT := wt_sel 38 (by decide +kernel)
set_option maxRecDepth 100000 in
theorem lkX5_29 : Lk RX5 29 8 0 1 := ⟨RX8, TX8, 8, clsX8, by decide, wt_of 253 rfl rfl, fun _ => rfl, (fun h => nomatch h)⟩
set_option maxRecDepth 100000 in
theorem lkX5_72 : Lk RX5 72 6 7 0 := ⟨RX6, TX6, 13, clsX6, by decide, wt_of 744 rfl rfl, (fun h => nomatch h), (fun h => nomatch h)⟩
set_option maxRecDepth 100000 in
theorem mlX5_69 : Cond.methodLink RX5 69 yX5_loseOpen ∈ WT := wt_of 867 rfl rfl
set_option maxRecDepth 100000 in
theorem imX5_loseOpen : Cond.instanceMethod yX5_loseOpen ∈ WT := wt_of 869 rfl rfl
set_option maxRecDepth 100000 in
theorem seX5_loseOpen : Cond.selects yX5_loseOpen.cls yX5_loseOpen yX5_loseOpen ∈ WT := wt_sel 42 (by decide +kernel)
set_option maxRecDepth 100000 in
theorem ciX5_54 : Cond.constant RX5 54 (1000000) ∈ WT := wt_of 829 rfl rfl
set_option maxRecDepth 100000 in
theorem mlX5_51 : Cond.methodLink RX5 51 yX5_push ∈ WT := wt_of 821 rfl rfl
set_option maxRecDepth 100000 in
theorem imX5_push : Cond.instanceMethod yX5_push ∈ WT := wt_of 823 rfl rfl
set_option maxRecDepth 100000 in
theorem seX5_push : Cond.selects yX5_push.cls yX5_push yX5_push ∈ WT := wt_sel 35 (by decide +kernel)
set_option maxRecDepth 100000 in
theorem mlX5_55 : Cond.methodLink RX5 55 yX5_evaluate ∈ WT := wt_of 830 rfl rfl
set_option maxRecDepth 100000 in
theorem imX5_evaluate : Cond.instanceMethod yX5_evaluate ∈ WT := wt_of 832 rfl rfl
set_option maxRecDepth 100000 in
theorem seX5_evaluate : Cond.selects yX5_evaluate.cls yX5_evaluate yX5_evaluate ∈ WT := wt_sel 37 (by decide +kernel)
set_option maxRecDepth 100000 in
theorem mlX5_43 : Cond.methodLink RX5 43 yX5_settle ∈ WT := wt_of 817 rfl rfl
set_option maxRecDepth 100000 in
theorem imX5_settle : Cond.instanceMethod yX5_settle ∈ WT := wt_of 819 rfl rfl
set_option maxRecDepth 100000 in
theorem seX5_settle : Cond.selects yX5_settle.cls yX5_settle yX5_settle ∈ WT := wt_sel 34 (by decide +kernel)
set_option maxRecDepth 100000 in
theorem lkX5_35 : Lk RX5 35 6 6 0 := ⟨RX6, TX6, 13, clsX6, by decide, wt_of 740 rfl rfl, (fun h => nomatch h), (fun h => nomatch h)⟩
set_option maxRecDepth 100000 in
theorem oiX7_3 : Cond.methodLink RX7 3 Lib.objectInit ∈ WT := wt_of 34 rfl rfl
set_option maxRecDepth 100000 in
theorem ac22 : Cond.arrayClass (aty 22) ∈ WT := wt_of 118 rfl rfl
set_option maxRecDepth 100000 in
theorem mlX7_26 : Cond.methodLink RX7 26 yX7_packedWords ∈ WT := wt_of 35 rfl rfl
set_option maxRecDepth 100000 in
theorem smX7_packedWords : Cond.static yX7_packedWords ∈ WT := wt_of 36 rfl rfl
set_option maxRecDepth 100000 in
theorem oiX9_3 : Cond.methodLink RX9 3 Lib.objectInit ∈ WT := wt_of 982 rfl rfl
set_option maxRecDepth 100000 in
theorem lkX9_9 : Lk RX9 9 9 0 2 := ⟨RX9, TX9, 9, clsX9, by decide, wt_of 983 rfl rfl, (fun h => nomatch h), fun _ => ⟨rfl, rfl⟩⟩
set_option maxRecDepth 100000 in
theorem lkX9_15 : Lk RX9 15 9 1 2 := ⟨RX9, TX9, 9, clsX9, by decide, wt_of 985 rfl rfl, (fun h => nomatch h), fun _ => ⟨rfl, rfl⟩⟩
set_option maxRecDepth 100000 in
theorem lkX9_18 : Lk RX9 18 9 3 2 := ⟨RX9, TX9, 9, clsX9, by decide, wt_of 990 rfl rfl, (fun h => nomatch h), fun _ => ⟨rfl, rfl⟩⟩
set_option maxRecDepth 100000 in
theorem lkX9_22 : Lk RX9 22 9 4 2 := ⟨RX9, TX9, 9, clsX9, by decide, wt_of 992 rfl rfl, (fun h => nomatch h), fun _ => ⟨rfl, rfl⟩⟩
set_option maxRecDepth 100000 in
theorem lkX9_25 : Lk RX9 25 9 5 2 := ⟨RX9, TX9, 9, clsX9, by decide, wt_of 994 rfl rfl, (fun h => nomatch h), fun _ => ⟨rfl, rfl⟩⟩
set_option maxRecDepth 100000 in
theorem lkX9_28 : Lk RX9 28 9 6 2 := ⟨RX9, TX9, 9, clsX9, by decide, wt_of 996 rfl rfl, (fun h => nomatch h), fun _ => ⟨rfl, rfl⟩⟩
set_option maxRecDepth 100000 in
theorem lkX9_32 : Lk RX9 32 9 2 1 := ⟨RX9, TX9, 9, clsX9, by decide, wt_of 987 rfl rfl, fun _ => rfl, (fun h => nomatch h)⟩
set_option maxRecDepth 100000 in
theorem oiX10_3 : Cond.methodLink RX10 3 Lib.objectInit ∈ WT := wt_of 26 rfl rfl
set_option maxRecDepth 100000 in
theorem cdX10_9 : Cond.classLink RX10 9 RX7 ∈ WT := wt_of 29 rfl rfl
set_option maxRecDepth 100000 in
theorem inX7 : Cond.instantiable RX7 7 ∈ WT := wt_of 30 rfl rfl
set_option maxRecDepth 100000 in
theorem iiX7 : Cond.initialized RX7 ∈ WT := wt_of 2 rfl rfl
set_option maxRecDepth 100000 in
theorem lkX10_12 : Lk RX10 12 10 0 2 := ⟨RX10, TX10, 9, clsX10, by decide, wt_of 396 rfl rfl, (fun h => nomatch h), fun _ => ⟨rfl, rfl⟩⟩
set_option maxRecDepth 100000 in
theorem cdX10_16 : Cond.classLink RX10 16 RX4 ∈ WT := wt_of 122 rfl rfl
set_option maxRecDepth 100000 in
theorem inX4 : Cond.instantiable RX4 8 ∈ WT := wt_of 123 rfl rfl
set_option maxRecDepth 100000 in
theorem iiX4 : Cond.initialized RX4 ∈ WT := wt_of 7 rfl rfl
set_option maxRecDepth 100000 in
theorem lkX10_21 : Lk RX10 21 10 1 2 := ⟨RX10, TX10, 9, clsX10, by decide, wt_of 397 rfl rfl, (fun h => nomatch h), fun _ => ⟨rfl, rfl⟩⟩
set_option maxRecDepth 100000 in
theorem cdX10_25 : Cond.classLink RX10 25 RX1 ∈ WT := wt_of 237 rfl rfl
set_option maxRecDepth 100000 in
theorem inX1 : Cond.instantiable RX1 4 ∈ WT := wt_of 238 rfl rfl
set_option maxRecDepth 100000 in
theorem iiX1 : Cond.initialized RX1 ∈ WT := wt_of 9 rfl rfl
set_option maxRecDepth 100000 in
theorem lkX10_28 : Lk RX10 28 10 2 2 := ⟨RX10, TX10, 9, clsX10, by decide, wt_of 398 rfl rfl, (fun h => nomatch h), fun _ => ⟨rfl, rfl⟩⟩
set_option maxRecDepth 100000 in
theorem cdX10_32 : Cond.classLink RX10 32 RX5 ∈ WT := wt_of 310 rfl rfl
set_option maxRecDepth 100000 in
theorem inX5 : Cond.instantiable RX5 5 ∈ WT := wt_of 311 rfl rfl
set_option maxRecDepth 100000 in
theorem iiX5 : Cond.initialized RX5 ∈ WT := wt_of 11 rfl rfl
set_option maxRecDepth 100000 in
theorem lkX10_37 : Lk RX10 37 10 3 2 := ⟨RX10, TX10, 9, clsX10, by decide, wt_of 399 rfl rfl, (fun h => nomatch h), fun _ => ⟨rfl, rfl⟩⟩
set_option maxRecDepth 100000 in
theorem cdX10_41 : Cond.classLink RX10 41 RX3 ∈ WT := wt_of 332 rfl rfl
set_option maxRecDepth 100000 in
theorem inX3 : Cond.instantiable RX3 9 ∈ WT := wt_of 333 rfl rfl
set_option maxRecDepth 100000 in
theorem iiX3 : Cond.initialized RX3 ∈ WT := wt_of 12 rfl rfl
set_option maxRecDepth 100000 in
theorem lkX10_44 : Lk RX10 44 10 4 2 := ⟨RX10, TX10, 9, clsX10, by decide, wt_of 400 rfl rfl, (fun h => nomatch h), fun _ => ⟨rfl, rfl⟩⟩
set_option maxRecDepth 100000 in
theorem cdX10_48 : Cond.classLink RX10 48 RX9 ∈ WT := wt_of 394 rfl rfl
set_option maxRecDepth 100000 in
theorem lkX10_50 : Lk RX10 50 10 5 2 := ⟨RX10, TX10, 9, clsX10, by decide, wt_of 401 rfl rfl, (fun h => nomatch h), fun _ => ⟨rfl, rfl⟩⟩
set_option maxRecDepth 100000 in
theorem lkX10_54 : Lk RX10 54 10 6 1 := ⟨RX10, TX10, 9, clsX10, by decide, wt_of 402 rfl rfl, fun _ => rfl, (fun h => nomatch h)⟩
set_option maxRecDepth 100000 in
theorem lkX10_58 : Lk RX10 58 10 7 1 := ⟨RX10, TX10, 9, clsX10, by decide, wt_of 403 rfl rfl, fun _ => rfl, (fun h => nomatch h)⟩
set_option maxRecDepth 100000 in
theorem lkX10_61 : Lk RX10 61 10 8 1 := ⟨RX10, TX10, 9, clsX10, by decide, wt_of 404 rfl rfl, fun _ => rfl, (fun h => nomatch h)⟩
set_option maxRecDepth 100000 in
theorem mlX10_43 : Cond.methodLink RX10 43 yX3_init ∈ WT := wt_of 334 rfl rfl
set_option maxRecDepth 100000 in
theorem imX3_init : Cond.instanceMethod yX3_init ∈ WT := wt_of 335 rfl rfl
set_option maxRecDepth 100000 in
theorem mlX10_34 : Cond.methodLink RX10 34 yX5_init ∈ WT := wt_of 312 rfl rfl
set_option maxRecDepth 100000 in
theorem imX5_init : Cond.instanceMethod yX5_init ∈ WT := wt_of 313 rfl rfl
set_option maxRecDepth 100000 in
theorem mlX10_27 : Cond.methodLink RX10 27 yX1_init ∈ WT := wt_of 239 rfl rfl
set_option maxRecDepth 100000 in
theorem imX1_init : Cond.instanceMethod yX1_init ∈ WT := wt_of 240 rfl rfl
set_option maxRecDepth 100000 in
theorem mlX10_18 : Cond.methodLink RX10 18 yX4_init ∈ WT := wt_of 124 rfl rfl
set_option maxRecDepth 100000 in
theorem imX4_init : Cond.instanceMethod yX4_init ∈ WT := wt_of 125 rfl rfl
set_option maxRecDepth 100000 in
theorem mlX10_11 : Cond.methodLink RX10 11 yX7_init ∈ WT := wt_of 31 rfl rfl
set_option maxRecDepth 100000 in
theorem imX7_init : Cond.instanceMethod yX7_init ∈ WT := wt_of 32 rfl rfl
set_option maxRecDepth 100000 in
theorem lkX10_64 : Lk RX10 64 7 1 1 := ⟨RX7, TX7, 7, clsX7, by decide, wt_of 92 rfl rfl, fun _ => rfl, (fun h => nomatch h)⟩
set_option maxRecDepth 100000 in
theorem mlX10_67 : Cond.methodLink RX10 67 yX7_put ∈ WT := wt_of 428 rfl rfl
set_option maxRecDepth 100000 in
theorem imX7_put : Cond.instanceMethod yX7_put ∈ WT := wt_of 429 rfl rfl
set_option maxRecDepth 100000 in
theorem seX7_put : Cond.selects yX7_put.cls yX7_put yX7_put ∈ WT := wt_of 430 rfl rfl
set_option maxRecDepth 100000 in
theorem lkX10_83 : Lk RX10 83 6 2 0 := ⟨RX6, TX6, 13, clsX6, by decide, wt_of 730 rfl rfl, (fun h => nomatch h), (fun h => nomatch h)⟩
set_option maxRecDepth 100000 in
theorem mlX10_79 : Cond.methodLink RX10 79 yX1_change ∈ WT := wt_of 779 rfl rfl
set_option maxRecDepth 100000 in
theorem imX1_change : Cond.instanceMethod yX1_change ∈ WT := wt_of 780 rfl rfl
set_option maxRecDepth 100000 in
theorem seX1_change : Cond.selects yX1_change.cls yX1_change yX1_change ∈ WT := wt_of 781 rfl rfl
set_option maxRecDepth 100000 in
theorem mlX10_75 : Cond.methodLink RX10 75 yX4_read ∈ WT := wt_of 445 rfl rfl
set_option maxRecDepth 100000 in
theorem imX4_read : Cond.instanceMethod yX4_read ∈ WT := wt_of 446 rfl rfl
set_option maxRecDepth 100000 in
theorem seX4_read : Cond.selects yX4_read.cls yX4_read yX4_read ∈ WT := wt_of 447 rfl rfl
set_option maxRecDepth 100000 in
theorem mlX10_71 : Cond.methodLink RX10 71 yX10_yearIndex ∈ WT := wt_of 440 rfl rfl
set_option maxRecDepth 100000 in
theorem lkX10_88 : Lk RX10 88 4 6 1 := ⟨RX4, TX4, 8, clsX4, by decide, wt_of 217 rfl rfl, fun _ => rfl, (fun h => nomatch h)⟩
set_option maxRecDepth 100000 in
theorem lkX10_91 : Lk RX10 91 4 7 1 := ⟨RX4, TX4, 8, clsX4, by decide, wt_of 219 rfl rfl, fun _ => rfl, (fun h => nomatch h)⟩
set_option maxRecDepth 100000 in
theorem lkX10_94 : Lk RX10 94 1 0 0 := ⟨RX1, TX1, 4, clsX1, by decide, wt_of 292 rfl rfl, (fun h => nomatch h), (fun h => nomatch h)⟩
set_option maxRecDepth 100000 in
theorem mlX10_102 : Cond.methodLink RX10 102 yX5_settleAll ∈ WT := wt_of 813 rfl rfl
set_option maxRecDepth 100000 in
theorem imX5_settleAll : Cond.instanceMethod yX5_settleAll ∈ WT := wt_of 814 rfl rfl
set_option maxRecDepth 100000 in
theorem seX5_settleAll : Cond.selects yX5_settleAll.cls yX5_settleAll yX5_settleAll ∈ WT := wt_of 815 rfl rfl
set_option maxRecDepth 100000 in
theorem mlX10_98 : Cond.methodLink RX10 98 yX1_renew ∈ WT := wt_of 795 rfl rfl
set_option maxRecDepth 100000 in
theorem imX1_renew : Cond.instanceMethod yX1_renew ∈ WT := wt_of 796 rfl rfl
set_option maxRecDepth 100000 in
theorem seX1_renew : Cond.selects yX1_renew.cls yX1_renew yX1_renew ∈ WT := wt_of 797 rfl rfl
set_option maxRecDepth 100000 in
theorem lkX10_192 : Lk RX10 192 6 6 0 := ⟨RX6, TX6, 13, clsX6, by decide, wt_of 742 rfl rfl, (fun h => nomatch h), (fun h => nomatch h)⟩
set_option maxRecDepth 100000 in
theorem lkX10_195 : Lk RX10 195 6 8 0 := ⟨RX6, TX6, 13, clsX6, by decide, wt_of 746 rfl rfl, (fun h => nomatch h), (fun h => nomatch h)⟩
set_option maxRecDepth 100000 in
theorem lkX10_198 : Lk RX10 198 6 0 0 := ⟨RX6, TX6, 13, clsX6, by decide, wt_of 725 rfl rfl, (fun h => nomatch h), (fun h => nomatch h)⟩
set_option maxRecDepth 100000 in
theorem mlX10_126 : Cond.methodLink RX10 126 yX10_sheetState ∈ WT := wt_of 875 rfl rfl
set_option maxRecDepth 100000 in
theorem smX10_sheetState : Cond.static yX10_sheetState ∈ WT := wt_of 876 rfl rfl
set_option maxRecDepth 100000 in
theorem lkX10_105 : Lk RX10 105 1 1 0 := ⟨RX1, TX1, 4, clsX1, by decide, wt_of 296 rfl rfl, (fun h => nomatch h), (fun h => nomatch h)⟩
set_option maxRecDepth 100000 in
theorem lkX10_109 : Lk RX10 109 8 1 1 := ⟨RX8, TX8, 8, clsX8, by decide, wt_of 258 rfl rfl, fun _ => rfl, (fun h => nomatch h)⟩
set_option maxRecDepth 100000 in
theorem lkX10_114 : Lk RX10 114 8 2 1 := ⟨RX8, TX8, 8, clsX8, by decide, wt_of 260 rfl rfl, fun _ => rfl, (fun h => nomatch h)⟩
set_option maxRecDepth 100000 in
theorem lkX10_117 : Lk RX10 117 8 3 1 := ⟨RX8, TX8, 8, clsX8, by decide, wt_of 262 rfl rfl, fun _ => rfl, (fun h => nomatch h)⟩
set_option maxRecDepth 100000 in
theorem lkX10_120 : Lk RX10 120 8 4 1 := ⟨RX8, TX8, 8, clsX8, by decide, wt_of 265 rfl rfl, fun _ => rfl, (fun h => nomatch h)⟩
set_option maxRecDepth 100000 in
theorem lkX10_123 : Lk RX10 123 1 2 1 := ⟨RX1, TX1, 4, clsX1, by decide, wt_of 298 rfl rfl, fun _ => rfl, (fun h => nomatch h)⟩
set_option maxRecDepth 100000 in
theorem lkX10_130 : Lk RX10 130 6 1 0 := ⟨RX6, TX6, 13, clsX6, by decide, wt_of 728 rfl rfl, (fun h => nomatch h), (fun h => nomatch h)⟩
set_option maxRecDepth 100000 in
theorem mlX10_135 : Cond.methodLink RX10 135 yX8_valueOf ∈ WT := wt_of 887 rfl rfl
set_option maxRecDepth 100000 in
theorem clX10_133 : Cond.constantLong RX10 133 (-2000000000000000) ∈ WT := wt_of 886 rfl rfl
set_option maxRecDepth 100000 in
theorem lkX10_143 : Lk RX10 143 8 7 0 := ⟨RX8, TX8, 8, clsX8, by decide, wt_of 272 rfl rfl, (fun h => nomatch h), (fun h => nomatch h)⟩
set_option maxRecDepth 100000 in
theorem mlX10_139 : Cond.methodLink RX10 139 yX8_hasEntry ∈ WT := wt_of 896 rfl rfl
set_option maxRecDepth 100000 in
theorem mlX10_147 : Cond.methodLink RX10 147 yX3_summon ∈ WT := wt_of 904 rfl rfl
set_option maxRecDepth 100000 in
theorem lkX10_151 : Lk RX10 151 3 8 1 := ⟨RX3, TX3, 9, clsX3, by decide, wt_of 374 rfl rfl, fun _ => rfl, (fun h => nomatch h)⟩
set_option maxRecDepth 100000 in
theorem lkX10_154 : Lk RX10 154 3 7 0 := ⟨RX3, TX3, 9, clsX3, by decide, wt_of 372 rfl rfl, (fun h => nomatch h), (fun h => nomatch h)⟩
set_option maxRecDepth 100000 in
theorem inX9 : Cond.instantiable RX9 9 ∈ WT := wt_of 978 rfl rfl
set_option maxRecDepth 100000 in
theorem iiX9 : Cond.initialized RX9 ∈ WT := wt_of 20 rfl rfl
set_option maxRecDepth 100000 in
theorem mlX10_159 : Cond.methodLink RX10 159 yX9_init ∈ WT := wt_of 979 rfl rfl
set_option maxRecDepth 100000 in
theorem imX9_init : Cond.instanceMethod yX9_init ∈ WT := wt_of 980 rfl rfl
set_option maxRecDepth 100000 in
theorem ciX10_158 : Cond.constant RX10 158 (100000) ∈ WT := wt_of 977 rfl rfl
set_option maxRecDepth 100000 in
theorem lkX10_166 : Lk RX10 166 9 2 1 := ⟨RX9, TX9, 9, clsX9, by decide, wt_of 989 rfl rfl, fun _ => rfl, (fun h => nomatch h)⟩
set_option maxRecDepth 100000 in
theorem mlX10_169 : Cond.methodLink RX10 169 yX9_addLock ∈ WT := wt_of 1030 rfl rfl
set_option maxRecDepth 100000 in
theorem imX9_addLock : Cond.instanceMethod yX9_addLock ∈ WT := wt_of 1031 rfl rfl
set_option maxRecDepth 100000 in
theorem seX9_addLock : Cond.selects yX9_addLock.cls yX9_addLock yX9_addLock ∈ WT := wt_of 1032 rfl rfl
set_option maxRecDepth 100000 in
theorem mlX10_162 : Cond.methodLink RX10 162 yX10_voyageOf ∈ WT := wt_of 1026 rfl rfl
set_option maxRecDepth 100000 in
theorem imX10_voyageOf : Cond.instanceMethod yX10_voyageOf ∈ WT := wt_of 1028 rfl rfl
set_option maxRecDepth 100000 in
theorem seX10_voyageOf : Cond.selects yX10_voyageOf.cls yX10_voyageOf yX10_voyageOf ∈ WT := wt_sel 56 (by decide +kernel)
set_option maxRecDepth 100000 in
theorem mlX10_173 : Cond.methodLink RX10 173 yX3_charge ∈ WT := wt_of 1038 rfl rfl
set_option maxRecDepth 100000 in
theorem imX3_charge : Cond.instanceMethod yX3_charge ∈ WT := wt_of 1039 rfl rfl
set_option maxRecDepth 100000 in
theorem seX3_charge : Cond.selects yX3_charge.cls yX3_charge yX3_charge ∈ WT := wt_of 1040 rfl rfl
set_option maxRecDepth 100000 in
theorem lkX10_177 : Lk RX10 177 9 8 1 := ⟨RX9, TX9, 9, clsX9, by decide, wt_of 1002 rfl rfl, fun _ => rfl, (fun h => nomatch h)⟩
set_option maxRecDepth 100000 in
theorem lkX10_184 : Lk RX10 184 9 6 0 := ⟨RX9, TX9, 9, clsX9, by decide, wt_of 998 rfl rfl, (fun h => nomatch h), (fun h => nomatch h)⟩
set_option maxRecDepth 100000 in
theorem lkX10_180 : Lk RX10 180 9 7 1 := ⟨RX9, TX9, 9, clsX9, by decide, wt_of 1000 rfl rfl, fun _ => rfl, (fun h => nomatch h)⟩
set_option maxRecDepth 100000 in
theorem lkX10_187 : Lk RX10 187 1 3 1 := ⟨RX1, TX1, 4, clsX1, by decide, wt_of 300 rfl rfl, fun _ => rfl, (fun h => nomatch h)⟩
set_option maxRecDepth 100000 in
theorem clX11_180 : Cond.constantLong RX11 180 (32) ∈ WT := wt_of 1069 rfl rfl
set_option maxRecDepth 100000 in
theorem clX11_178 : Cond.constantLong RX11 178 (96) ∈ WT := wt_of 1068 rfl rfl
set_option maxRecDepth 100000 in
theorem oiX11_1 : Cond.methodLink RX11 1 Lib.objectInit ∈ WT := wt_of 1064 rfl rfl
set_option maxRecDepth 100000 in
theorem ac23 : Cond.arrayClass (aty 23) ∈ WT := wt_of 121 rfl rfl
set_option maxRecDepth 100000 in
theorem lkX11_7 : Lk RX11 7 11 0 2 := ⟨RX11, TX11, 85, clsX11, by decide, wt_of 1071 rfl rfl, (fun h => nomatch h), fun _ => ⟨rfl, rfl⟩⟩
set_option maxRecDepth 100000 in
theorem lkX11_13 : Lk RX11 13 11 3 1 := ⟨RX11, TX11, 85, clsX11, by decide, wt_of 1074 rfl rfl, fun _ => rfl, (fun h => nomatch h)⟩
set_option maxRecDepth 100000 in
theorem lkX11_21 : Lk RX11 21 11 13 2 := ⟨RX11, TX11, 85, clsX11, by decide, wt_of 1084 rfl rfl, (fun h => nomatch h), fun _ => ⟨rfl, rfl⟩⟩
set_option maxRecDepth 100000 in
theorem lkX11_25 : Lk RX11 25 11 16 2 := ⟨RX11, TX11, 85, clsX11, by decide, wt_of 1087 rfl rfl, (fun h => nomatch h), fun _ => ⟨rfl, rfl⟩⟩
set_option maxRecDepth 100000 in
theorem lkX11_28 : Lk RX11 28 11 17 2 := ⟨RX11, TX11, 85, clsX11, by decide, wt_of 1088 rfl rfl, (fun h => nomatch h), fun _ => ⟨rfl, rfl⟩⟩
set_option maxRecDepth 100000 in
theorem lkX11_32 : Lk RX11 32 11 19 2 := ⟨RX11, TX11, 85, clsX11, by decide, wt_of 1090 rfl rfl, (fun h => nomatch h), fun _ => ⟨rfl, rfl⟩⟩
set_option maxRecDepth 100000 in
theorem lkX11_35 : Lk RX11 35 11 20 2 := ⟨RX11, TX11, 85, clsX11, by decide, wt_of 1091 rfl rfl, (fun h => nomatch h), fun _ => ⟨rfl, rfl⟩⟩
set_option maxRecDepth 100000 in
theorem lkX11_38 : Lk RX11 38 11 23 2 := ⟨RX11, TX11, 85, clsX11, by decide, wt_of 1094 rfl rfl, (fun h => nomatch h), fun _ => ⟨rfl, rfl⟩⟩
set_option maxRecDepth 100000 in
theorem lkX11_41 : Lk RX11 41 11 24 2 := ⟨RX11, TX11, 85, clsX11, by decide, wt_of 1095 rfl rfl, (fun h => nomatch h), fun _ => ⟨rfl, rfl⟩⟩
set_option maxRecDepth 100000 in
theorem lkX11_44 : Lk RX11 44 11 25 2 := ⟨RX11, TX11, 85, clsX11, by decide, wt_of 1096 rfl rfl, (fun h => nomatch h), fun _ => ⟨rfl, rfl⟩⟩
set_option maxRecDepth 100000 in
theorem lkX11_47 : Lk RX11 47 11 28 2 := ⟨RX11, TX11, 85, clsX11, by decide, wt_of 1099 rfl rfl, (fun h => nomatch h), fun _ => ⟨rfl, rfl⟩⟩
set_option maxRecDepth 100000 in
theorem lkX11_50 : Lk RX11 50 11 29 2 := ⟨RX11, TX11, 85, clsX11, by decide, wt_of 1100 rfl rfl, (fun h => nomatch h), fun _ => ⟨rfl, rfl⟩⟩
set_option maxRecDepth 100000 in
theorem lkX11_53 : Lk RX11 53 11 30 2 := ⟨RX11, TX11, 85, clsX11, by decide, wt_of 1101 rfl rfl, (fun h => nomatch h), fun _ => ⟨rfl, rfl⟩⟩
set_option maxRecDepth 100000 in
theorem ac24 : Cond.arrayClass (aty 24) ∈ WT := wt_of 1327 rfl rfl
set_option maxRecDepth 100000 in
theorem lkX11_56 : Lk RX11 56 11 36 2 := ⟨RX11, TX11, 85, clsX11, by decide, wt_of 1107 rfl rfl, (fun h => nomatch h), fun _ => ⟨rfl, rfl⟩⟩
set_option maxRecDepth 100000 in
theorem lkX11_60 : Lk RX11 60 11 37 2 := ⟨RX11, TX11, 85, clsX11, by decide, wt_of 1108 rfl rfl, (fun h => nomatch h), fun _ => ⟨rfl, rfl⟩⟩
set_option maxRecDepth 100000 in
theorem lkX11_63 : Lk RX11 63 11 38 2 := ⟨RX11, TX11, 85, clsX11, by decide, wt_of 1109 rfl rfl, (fun h => nomatch h), fun _ => ⟨rfl, rfl⟩⟩
set_option maxRecDepth 100000 in
theorem lkX11_66 : Lk RX11 66 11 39 2 := ⟨RX11, TX11, 85, clsX11, by decide, wt_of 1110 rfl rfl, (fun h => nomatch h), fun _ => ⟨rfl, rfl⟩⟩
set_option maxRecDepth 100000 in
theorem lkX11_69 : Lk RX11 69 11 40 2 := ⟨RX11, TX11, 85, clsX11, by decide, wt_of 1111 rfl rfl, (fun h => nomatch h), fun _ => ⟨rfl, rfl⟩⟩
set_option maxRecDepth 100000 in
theorem lkX11_72 : Lk RX11 72 11 41 2 := ⟨RX11, TX11, 85, clsX11, by decide, wt_of 1112 rfl rfl, (fun h => nomatch h), fun _ => ⟨rfl, rfl⟩⟩
set_option maxRecDepth 100000 in
theorem lkX11_75 : Lk RX11 75 11 42 2 := ⟨RX11, TX11, 85, clsX11, by decide, wt_of 1113 rfl rfl, (fun h => nomatch h), fun _ => ⟨rfl, rfl⟩⟩
set_option maxRecDepth 100000 in
theorem lkX11_78 : Lk RX11 78 11 43 2 := ⟨RX11, TX11, 85, clsX11, by decide, wt_of 1114 rfl rfl, (fun h => nomatch h), fun _ => ⟨rfl, rfl⟩⟩
set_option maxRecDepth 100000 in
theorem lkX11_81 : Lk RX11 81 11 44 2 := ⟨RX11, TX11, 85, clsX11, by decide, wt_of 1115 rfl rfl, (fun h => nomatch h), fun _ => ⟨rfl, rfl⟩⟩
set_option maxRecDepth 100000 in
theorem lkX11_84 : Lk RX11 84 11 45 2 := ⟨RX11, TX11, 85, clsX11, by decide, wt_of 1116 rfl rfl, (fun h => nomatch h), fun _ => ⟨rfl, rfl⟩⟩
set_option maxRecDepth 100000 in
theorem lkX11_87 : Lk RX11 87 11 46 2 := ⟨RX11, TX11, 85, clsX11, by decide, wt_of 1117 rfl rfl, (fun h => nomatch h), fun _ => ⟨rfl, rfl⟩⟩
set_option maxRecDepth 100000 in
theorem lkX11_90 : Lk RX11 90 11 47 2 := ⟨RX11, TX11, 85, clsX11, by decide, wt_of 1118 rfl rfl, (fun h => nomatch h), fun _ => ⟨rfl, rfl⟩⟩
set_option maxRecDepth 100000 in
theorem lkX11_93 : Lk RX11 93 11 48 2 := ⟨RX11, TX11, 85, clsX11, by decide, wt_of 1119 rfl rfl, (fun h => nomatch h), fun _ => ⟨rfl, rfl⟩⟩
set_option maxRecDepth 100000 in
theorem lkX11_96 : Lk RX11 96 11 49 2 := ⟨RX11, TX11, 85, clsX11, by decide, wt_of 1120 rfl rfl, (fun h => nomatch h), fun _ => ⟨rfl, rfl⟩⟩
set_option maxRecDepth 100000 in
theorem ciX11_99 : Cond.constant RX11 99 (72000) ∈ WT := wt_of 1070 rfl rfl
set_option maxRecDepth 100000 in
theorem lkX11_100 : Lk RX11 100 11 50 2 := ⟨RX11, TX11, 85, clsX11, by decide, wt_of 1121 rfl rfl, (fun h => nomatch h), fun _ => ⟨rfl, rfl⟩⟩
set_option maxRecDepth 100000 in
theorem lkX11_103 : Lk RX11 103 11 51 2 := ⟨RX11, TX11, 85, clsX11, by decide, wt_of 1122 rfl rfl, (fun h => nomatch h), fun _ => ⟨rfl, rfl⟩⟩
set_option maxRecDepth 100000 in
theorem lkX11_106 : Lk RX11 106 11 52 2 := ⟨RX11, TX11, 85, clsX11, by decide, wt_of 1123 rfl rfl, (fun h => nomatch h), fun _ => ⟨rfl, rfl⟩⟩
set_option maxRecDepth 100000 in
theorem lkX11_109 : Lk RX11 109 11 53 2 := ⟨RX11, TX11, 85, clsX11, by decide, wt_of 1124 rfl rfl, (fun h => nomatch h), fun _ => ⟨rfl, rfl⟩⟩
set_option maxRecDepth 100000 in
theorem lkX11_112 : Lk RX11 112 11 54 2 := ⟨RX11, TX11, 85, clsX11, by decide, wt_of 1125 rfl rfl, (fun h => nomatch h), fun _ => ⟨rfl, rfl⟩⟩
set_option maxRecDepth 100000 in
theorem lkX11_115 : Lk RX11 115 11 55 2 := ⟨RX11, TX11, 85, clsX11, by decide, wt_of 1126 rfl rfl, (fun h => nomatch h), fun _ => ⟨rfl, rfl⟩⟩
set_option maxRecDepth 100000 in
theorem lkX11_118 : Lk RX11 118 11 56 2 := ⟨RX11, TX11, 85, clsX11, by decide, wt_of 1127 rfl rfl, (fun h => nomatch h), fun _ => ⟨rfl, rfl⟩⟩
set_option maxRecDepth 100000 in
theorem lkX11_121 : Lk RX11 121 11 57 2 := ⟨RX11, TX11, 85, clsX11, by decide, wt_of 1128 rfl rfl, (fun h => nomatch h), fun _ => ⟨rfl, rfl⟩⟩
set_option maxRecDepth 100000 in
theorem lkX11_124 : Lk RX11 124 11 58 2 := ⟨RX11, TX11, 85, clsX11, by decide, wt_of 1129 rfl rfl, (fun h => nomatch h), fun _ => ⟨rfl, rfl⟩⟩
set_option maxRecDepth 100000 in
theorem lkX11_127 : Lk RX11 127 11 60 2 := ⟨RX11, TX11, 85, clsX11, by decide, wt_of 1131 rfl rfl, (fun h => nomatch h), fun _ => ⟨rfl, rfl⟩⟩
set_option maxRecDepth 100000 in
theorem lkX11_130 : Lk RX11 130 11 61 2 := ⟨RX11, TX11, 85, clsX11, by decide, wt_of 1132 rfl rfl, (fun h => nomatch h), fun _ => ⟨rfl, rfl⟩⟩
set_option maxRecDepth 100000 in
theorem lkX11_133 : Lk RX11 133 11 62 2 := ⟨RX11, TX11, 85, clsX11, by decide, wt_of 1133 rfl rfl, (fun h => nomatch h), fun _ => ⟨rfl, rfl⟩⟩
set_option maxRecDepth 100000 in
theorem lkX11_136 : Lk RX11 136 11 64 1 := ⟨RX11, TX11, 85, clsX11, by decide, wt_of 1135 rfl rfl, fun _ => rfl, (fun h => nomatch h)⟩
set_option maxRecDepth 100000 in
theorem lkX11_139 : Lk RX11 139 11 65 2 := ⟨RX11, TX11, 85, clsX11, by decide, wt_of 1136 rfl rfl, (fun h => nomatch h), fun _ => ⟨rfl, rfl⟩⟩
set_option maxRecDepth 100000 in
theorem lkX11_142 : Lk RX11 142 11 72 2 := ⟨RX11, TX11, 85, clsX11, by decide, wt_of 1143 rfl rfl, (fun h => nomatch h), fun _ => ⟨rfl, rfl⟩⟩
set_option maxRecDepth 100000 in
theorem lkX11_145 : Lk RX11 145 11 74 2 := ⟨RX11, TX11, 85, clsX11, by decide, wt_of 1145 rfl rfl, (fun h => nomatch h), fun _ => ⟨rfl, rfl⟩⟩
set_option maxRecDepth 100000 in
theorem lkX11_148 : Lk RX11 148 11 75 2 := ⟨RX11, TX11, 85, clsX11, by decide, wt_of 1146 rfl rfl, (fun h => nomatch h), fun _ => ⟨rfl, rfl⟩⟩
set_option maxRecDepth 100000 in
theorem lkX11_151 : Lk RX11 151 11 76 2 := ⟨RX11, TX11, 85, clsX11, by decide, wt_of 1147 rfl rfl, (fun h => nomatch h), fun _ => ⟨rfl, rfl⟩⟩
set_option maxRecDepth 100000 in
theorem lkX11_154 : Lk RX11 154 11 77 2 := ⟨RX11, TX11, 85, clsX11, by decide, wt_of 1148 rfl rfl, (fun h => nomatch h), fun _ => ⟨rfl, rfl⟩⟩
set_option maxRecDepth 100000 in
theorem lkX11_157 : Lk RX11 157 11 78 2 := ⟨RX11, TX11, 85, clsX11, by decide, wt_of 1149 rfl rfl, (fun h => nomatch h), fun _ => ⟨rfl, rfl⟩⟩
set_option maxRecDepth 100000 in
theorem lkX11_160 : Lk RX11 160 11 79 2 := ⟨RX11, TX11, 85, clsX11, by decide, wt_of 1150 rfl rfl, (fun h => nomatch h), fun _ => ⟨rfl, rfl⟩⟩
set_option maxRecDepth 100000 in
theorem lkX11_163 : Lk RX11 163 11 80 2 := ⟨RX11, TX11, 85, clsX11, by decide, wt_of 1151 rfl rfl, (fun h => nomatch h), fun _ => ⟨rfl, rfl⟩⟩
set_option maxRecDepth 100000 in
theorem lkX11_166 : Lk RX11 166 11 81 2 := ⟨RX11, TX11, 85, clsX11, by decide, wt_of 1152 rfl rfl, (fun h => nomatch h), fun _ => ⟨rfl, rfl⟩⟩
set_option maxRecDepth 100000 in
theorem lkX11_169 : Lk RX11 169 11 82 2 := ⟨RX11, TX11, 85, clsX11, by decide, wt_of 1153 rfl rfl, (fun h => nomatch h), fun _ => ⟨rfl, rfl⟩⟩
set_option maxRecDepth 100000 in
theorem mlX11_17 : Cond.methodLink RX11 17 yX11_named ∈ WT := wt_of 1065 rfl rfl
set_option maxRecDepth 100000 in
theorem smX11_named : Cond.static yX11_named ∈ WT := wt_of 1066 rfl rfl
set_option maxRecDepth 100000 in
theorem lkX11_172 : Lk RX11 172 11 1 1 := ⟨RX11, TX11, 85, clsX11, by decide, wt_of 1072 rfl rfl, fun _ => rfl, (fun h => nomatch h)⟩
set_option maxRecDepth 100000 in
theorem lkX11_175 : Lk RX11 175 11 4 1 := ⟨RX11, TX11, 85, clsX11, by decide, wt_of 1075 rfl rfl, fun _ => rfl, (fun h => nomatch h)⟩
set_option maxRecDepth 100000 in
theorem lkX11_182 : Lk RX11 182 11 5 1 := ⟨RX11, TX11, 85, clsX11, by decide, wt_of 1076 rfl rfl, fun _ => rfl, (fun h => nomatch h)⟩
set_option maxRecDepth 100000 in
theorem lkX11_192 : Lk RX11 192 11 10 1 := ⟨RX11, TX11, 85, clsX11, by decide, wt_of 1081 rfl rfl, fun _ => rfl, (fun h => nomatch h)⟩
set_option maxRecDepth 100000 in
theorem lkX11_195 : Lk RX11 195 11 6 1 := ⟨RX11, TX11, 85, clsX11, by decide, wt_of 1077 rfl rfl, fun _ => rfl, (fun h => nomatch h)⟩
set_option maxRecDepth 100000 in
theorem lkX11_202 : Lk RX11 202 11 8 1 := ⟨RX11, TX11, 85, clsX11, by decide, wt_of 1079 rfl rfl, fun _ => rfl, (fun h => nomatch h)⟩
set_option maxRecDepth 100000 in
theorem lkX11_189 : Lk RX11 189 11 7 1 := ⟨RX11, TX11, 85, clsX11, by decide, wt_of 1078 rfl rfl, fun _ => rfl, (fun h => nomatch h)⟩
set_option maxRecDepth 100000 in
theorem mlX11_185 : Cond.methodLink RX11 185 yX11_byteAt ∈ WT := wt_of 1351 rfl rfl
set_option maxRecDepth 100000 in
theorem imX11_byteAt : Cond.instanceMethod yX11_byteAt ∈ WT := wt_of 1353 rfl rfl
set_option maxRecDepth 100000 in
theorem seX11_byteAt : Cond.selects yX11_byteAt.cls yX11_byteAt yX11_byteAt ∈ WT := wt_sel 61 (by decide +kernel)
set_option maxRecDepth 100000 in
theorem mlX11_198 : Cond.methodLink RX11 198 yX11_isLetter ∈ WT := wt_of 1355 rfl rfl
set_option maxRecDepth 100000 in
theorem smX11_isLetter : Cond.static yX11_isLetter ∈ WT := wt_of 1356 rfl rfl
set_option maxRecDepth 100000 in
theorem lkX11_209 : Lk RX11 209 11 9 1 := ⟨RX11, TX11, 85, clsX11, by decide, wt_of 1080 rfl rfl, fun _ => rfl, (fun h => nomatch h)⟩
set_option maxRecDepth 100000 in
theorem mlX11_206 : Cond.methodLink RX11 206 yX11_isDigit ∈ WT := wt_of 1358 rfl rfl
set_option maxRecDepth 100000 in
theorem smX11_isDigit : Cond.static yX11_isDigit ∈ WT := wt_of 1359 rfl rfl
set_option maxRecDepth 100000 in
theorem mlX11_212 : Cond.methodLink RX11 212 yX11_isSignByte ∈ WT := wt_of 1361 rfl rfl
set_option maxRecDepth 100000 in
theorem smX11_isSignByte : Cond.static yX11_isSignByte ∈ WT := wt_of 1362 rfl rfl
set_option maxRecDepth 100000 in
theorem lkX11_215 : Lk RX11 215 11 11 1 := ⟨RX11, TX11, 85, clsX11, by decide, wt_of 1082 rfl rfl, fun _ => rfl, (fun h => nomatch h)⟩
set_option maxRecDepth 100000 in
theorem lkX11_219 : Lk RX11 219 11 2 1 := ⟨RX11, TX11, 85, clsX11, by decide, wt_of 1073 rfl rfl, fun _ => rfl, (fun h => nomatch h)⟩
set_option maxRecDepth 100000 in
theorem mlX11_225 : Cond.methodLink RX11 225 yX11_advance ∈ WT := wt_of 1347 rfl rfl
set_option maxRecDepth 100000 in
theorem imX11_advance : Cond.instanceMethod yX11_advance ∈ WT := wt_of 1349 rfl rfl
set_option maxRecDepth 100000 in
theorem seX11_advance : Cond.selects yX11_advance.cls yX11_advance yX11_advance ∈ WT := wt_sel 60 (by decide +kernel)
set_option maxRecDepth 100000 in
theorem mlX11_222 : Cond.methodLink RX11 222 yX11_isSign ∈ WT := wt_of 1388 rfl rfl
set_option maxRecDepth 100000 in
theorem imX11_isSign : Cond.instanceMethod yX11_isSign ∈ WT := wt_of 1390 rfl rfl
set_option maxRecDepth 100000 in
theorem seX11_isSign : Cond.selects yX11_isSign.cls yX11_isSign yX11_isSign ∈ WT := wt_sel 68 (by decide +kernel)
set_option maxRecDepth 100000 in
theorem mlX11_228 : Cond.methodLink RX11 228 yX11_stops ∈ WT := wt_of 1372 rfl rfl
set_option maxRecDepth 100000 in
theorem imX11_stops : Cond.instanceMethod yX11_stops ∈ WT := wt_of 1374 rfl rfl
set_option maxRecDepth 100000 in
theorem seX11_stops : Cond.selects yX11_stops.cls yX11_stops yX11_stops ∈ WT := wt_sel 64 (by decide +kernel)
set_option maxRecDepth 100000 in
theorem lkX11_231 : Lk RX11 231 11 27 1 := ⟨RX11, TX11, 85, clsX11, by decide, wt_of 1098 rfl rfl, fun _ => rfl, (fun h => nomatch h)⟩
set_option maxRecDepth 100000 in
theorem mlX11_237 : Cond.methodLink RX11 237 yX11_tells ∈ WT := wt_of 1380 rfl rfl
set_option maxRecDepth 100000 in
theorem imX11_tells : Cond.instanceMethod yX11_tells ∈ WT := wt_of 1382 rfl rfl
set_option maxRecDepth 100000 in
theorem seX11_tells : Cond.selects yX11_tells.cls yX11_tells yX11_tells ∈ WT := wt_sel 66 (by decide +kernel)
set_option maxRecDepth 100000 in
theorem lkX11_234 : Lk RX11 234 11 12 1 := ⟨RX11, TX11, 85, clsX11, by decide, wt_of 1083 rfl rfl, fun _ => rfl, (fun h => nomatch h)⟩
set_option maxRecDepth 100000 in
theorem lkX11_241 : Lk RX11 241 11 35 1 := ⟨RX11, TX11, 85, clsX11, by decide, wt_of 1106 rfl rfl, fun _ => rfl, (fun h => nomatch h)⟩
set_option maxRecDepth 100000 in
theorem mlX11_247 : Cond.methodLink RX11 247 yX11_emit ∈ WT := wt_of 1420 rfl rfl
set_option maxRecDepth 100000 in
theorem imX11_emit : Cond.instanceMethod yX11_emit ∈ WT := wt_of 1422 rfl rfl
set_option maxRecDepth 100000 in
theorem seX11_emit : Cond.selects yX11_emit.cls yX11_emit yX11_emit ∈ WT := wt_sel 76 (by decide +kernel)
set_option maxRecDepth 100000 in
theorem mlX11_255 : Cond.methodLink RX11 255 yX11_yearOf ∈ WT := wt_of 1376 rfl rfl
set_option maxRecDepth 100000 in
theorem imX11_yearOf : Cond.instanceMethod yX11_yearOf ∈ WT := wt_of 1378 rfl rfl
set_option maxRecDepth 100000 in
theorem seX11_yearOf : Cond.selects yX11_yearOf.cls yX11_yearOf yX11_yearOf ∈ WT := wt_sel 65 (by decide +kernel)
set_option maxRecDepth 100000 in
theorem mlX11_251 : Cond.methodLink RX11 251 yX11_takesName ∈ WT := wt_of 1396 rfl rfl
set_option maxRecDepth 100000 in
theorem imX11_takesName : Cond.instanceMethod yX11_takesName ∈ WT := wt_of 1398 rfl rfl
set_option maxRecDepth 100000 in
theorem seX11_takesName : Cond.selects yX11_takesName.cls yX11_takesName yX11_takesName ∈ WT := wt_sel 70 (by decide +kernel)
set_option maxRecDepth 100000 in
theorem mlX11_244 : Cond.methodLink RX11 244 yX11_takes ∈ WT := wt_of 1416 rfl rfl
set_option maxRecDepth 100000 in
theorem imX11_takes : Cond.instanceMethod yX11_takes ∈ WT := wt_of 1418 rfl rfl
set_option maxRecDepth 100000 in
theorem seX11_takes : Cond.selects yX11_takes.cls yX11_takes yX11_takes ∈ WT := wt_sel 75 (by decide +kernel)
set_option maxRecDepth 100000 in
theorem mlX11_259 : Cond.methodLink RX11 259 yX11_plainPart ∈ WT := wt_of 1412 rfl rfl
set_option maxRecDepth 100000 in
theorem imX11_plainPart : Cond.instanceMethod yX11_plainPart ∈ WT := wt_of 1414 rfl rfl
set_option maxRecDepth 100000 in
theorem seX11_plainPart : Cond.selects yX11_plainPart.cls yX11_plainPart yX11_plainPart ∈ WT := wt_sel 74 (by decide +kernel)
set_option maxRecDepth 100000 in
theorem mlX11_262 : Cond.methodLink RX11 262 yX11_plainProduct ∈ WT := wt_of 1408 rfl rfl
set_option maxRecDepth 100000 in
theorem imX11_plainProduct : Cond.instanceMethod yX11_plainProduct ∈ WT := wt_of 1410 rfl rfl
set_option maxRecDepth 100000 in
theorem seX11_plainProduct : Cond.selects yX11_plainProduct.cls yX11_plainProduct yX11_plainProduct ∈ WT := wt_sel 73 (by decide +kernel)
set_option maxRecDepth 100000 in
theorem mlX11_274 : Cond.methodLink RX11 274 yX11_must ∈ WT := wt_of 1384 rfl rfl
set_option maxRecDepth 100000 in
theorem imX11_must : Cond.instanceMethod yX11_must ∈ WT := wt_of 1386 rfl rfl
set_option maxRecDepth 100000 in
theorem seX11_must : Cond.selects yX11_must.cls yX11_must yX11_must ∈ WT := wt_sel 67 (by decide +kernel)
set_option maxRecDepth 100000 in
theorem mlX11_271 : Cond.methodLink RX11 271 yX11_formula ∈ WT := wt_of 1432 rfl rfl
set_option maxRecDepth 100000 in
theorem imX11_formula : Cond.instanceMethod yX11_formula ∈ WT := wt_of 1434 rfl rfl
set_option maxRecDepth 100000 in
theorem seX11_formula : Cond.selects yX11_formula.cls yX11_formula yX11_formula ∈ WT := wt_sel 79 (by decide +kernel)
set_option maxRecDepth 100000 in
theorem lkX11_301 : Lk RX11 301 11 34 1 := ⟨RX11, TX11, 85, clsX11, by decide, wt_of 1105 rfl rfl, fun _ => rfl, (fun h => nomatch h)⟩
set_option maxRecDepth 100000 in
theorem lkX11_298 : Lk RX11 298 11 33 1 := ⟨RX11, TX11, 85, clsX11, by decide, wt_of 1104 rfl rfl, fun _ => rfl, (fun h => nomatch h)⟩
set_option maxRecDepth 100000 in
theorem mlX11_290 : Cond.methodLink RX11 290 yX11_called ∈ WT := wt_of 1456 rfl rfl
set_option maxRecDepth 100000 in
theorem imX11_called : Cond.instanceMethod yX11_called ∈ WT := wt_of 1458 rfl rfl
set_option maxRecDepth 100000 in
theorem seX11_called : Cond.selects yX11_called.cls yX11_called yX11_called ∈ WT := wt_sel 85 (by decide +kernel)
set_option maxRecDepth 100000 in
theorem mlX11_294 : Cond.methodLink RX11 294 yX11_takesNumber ∈ WT := wt_of 1368 rfl rfl
set_option maxRecDepth 100000 in
theorem imX11_takesNumber : Cond.instanceMethod yX11_takesNumber ∈ WT := wt_of 1370 rfl rfl
set_option maxRecDepth 100000 in
theorem seX11_takesNumber : Cond.selects yX11_takesNumber.cls yX11_takesNumber yX11_takesNumber ∈ WT := wt_sel 63 (by decide +kernel)
set_option maxRecDepth 100000 in
theorem mlX11_287 : Cond.methodLink RX11 287 yX11_atom ∈ WT := wt_of 1452 rfl rfl
set_option maxRecDepth 100000 in
theorem imX11_atom : Cond.instanceMethod yX11_atom ∈ WT := wt_of 1454 rfl rfl
set_option maxRecDepth 100000 in
theorem seX11_atom : Cond.selects yX11_atom.cls yX11_atom yX11_atom ∈ WT := wt_sel 84 (by decide +kernel)
set_option maxRecDepth 100000 in
theorem mlX11_284 : Cond.methodLink RX11 284 yX11_signed ∈ WT := wt_of 1448 rfl rfl
set_option maxRecDepth 100000 in
theorem imX11_signed : Cond.instanceMethod yX11_signed ∈ WT := wt_of 1450 rfl rfl
set_option maxRecDepth 100000 in
theorem seX11_signed : Cond.selects yX11_signed.cls yX11_signed yX11_signed ∈ WT := wt_sel 83 (by decide +kernel)
set_option maxRecDepth 100000 in
theorem mlX11_281 : Cond.methodLink RX11 281 yX11_product ∈ WT := wt_of 1444 rfl rfl
set_option maxRecDepth 100000 in
theorem imX11_product : Cond.instanceMethod yX11_product ∈ WT := wt_of 1446 rfl rfl
set_option maxRecDepth 100000 in
theorem seX11_product : Cond.selects yX11_product.cls yX11_product yX11_product ∈ WT := wt_sel 82 (by decide +kernel)
set_option maxRecDepth 100000 in
theorem mlX11_278 : Cond.methodLink RX11 278 yX11_sum ∈ WT := wt_of 1440 rfl rfl
set_option maxRecDepth 100000 in
theorem imX11_sum : Cond.instanceMethod yX11_sum ∈ WT := wt_of 1442 rfl rfl
set_option maxRecDepth 100000 in
theorem seX11_sum : Cond.selects yX11_sum.cls yX11_sum yX11_sum ∈ WT := wt_sel 81 (by decide +kernel)
set_option maxRecDepth 100000 in
theorem lkX11_265 : Lk RX11 265 11 31 1 := ⟨RX11, TX11, 85, clsX11, by decide, wt_of 1102 rfl rfl, fun _ => rfl, (fun h => nomatch h)⟩
set_option maxRecDepth 100000 in
theorem mlX11_268 : Cond.methodLink RX11 268 yX11_compared ∈ WT := wt_of 1436 rfl rfl
set_option maxRecDepth 100000 in
theorem imX11_compared : Cond.instanceMethod yX11_compared ∈ WT := wt_of 1438 rfl rfl
set_option maxRecDepth 100000 in
theorem seX11_compared : Cond.selects yX11_compared.cls yX11_compared yX11_compared ∈ WT := wt_sel 80 (by decide +kernel)
set_option maxRecDepth 100000 in
theorem lkX11_304 : Lk RX11 304 11 21 1 := ⟨RX11, TX11, 85, clsX11, by decide, wt_of 1092 rfl rfl, fun _ => rfl, (fun h => nomatch h)⟩
set_option maxRecDepth 100000 in
theorem lkX11_310 : Lk RX11 310 11 18 1 := ⟨RX11, TX11, 85, clsX11, by decide, wt_of 1089 rfl rfl, fun _ => rfl, (fun h => nomatch h)⟩
set_option maxRecDepth 100000 in
theorem lkX11_307 : Lk RX11 307 11 15 1 := ⟨RX11, TX11, 85, clsX11, by decide, wt_of 1086 rfl rfl, fun _ => rfl, (fun h => nomatch h)⟩
set_option maxRecDepth 100000 in
theorem mlX11_320 : Cond.methodLink RX11 320 yX11_mark ∈ WT := wt_of 1468 rfl rfl
set_option maxRecDepth 100000 in
theorem imX11_mark : Cond.instanceMethod yX11_mark ∈ WT := wt_of 1470 rfl rfl
set_option maxRecDepth 100000 in
theorem seX11_mark : Cond.selects yX11_mark.cls yX11_mark yX11_mark ∈ WT := wt_sel 88 (by decide +kernel)
set_option maxRecDepth 100000 in
theorem mlX11_317 : Cond.methodLink RX11 317 yX11_whole ∈ WT := wt_of 1428 rfl rfl
set_option maxRecDepth 100000 in
theorem imX11_whole : Cond.instanceMethod yX11_whole ∈ WT := wt_of 1430 rfl rfl
set_option maxRecDepth 100000 in
theorem seX11_whole : Cond.selects yX11_whole.cls yX11_whole yX11_whole ∈ WT := wt_sel 78 (by decide +kernel)
set_option maxRecDepth 100000 in
theorem mlX11_313 : Cond.methodLink RX11 313 yX11_isTaken ∈ WT := wt_of 1400 rfl rfl
set_option maxRecDepth 100000 in
theorem imX11_isTaken : Cond.instanceMethod yX11_isTaken ∈ WT := wt_of 1402 rfl rfl
set_option maxRecDepth 100000 in
theorem seX11_isTaken : Cond.selects yX11_isTaken.cls yX11_isTaken yX11_isTaken ∈ WT := wt_sel 71 (by decide +kernel)
set_option maxRecDepth 100000 in
theorem mlX11_327 : Cond.methodLink RX11 327 yX11_step ∈ WT := wt_of 1460 rfl rfl
set_option maxRecDepth 100000 in
theorem imX11_step : Cond.instanceMethod yX11_step ∈ WT := wt_of 1462 rfl rfl
set_option maxRecDepth 100000 in
theorem seX11_step : Cond.selects yX11_step.cls yX11_step yX11_step ∈ WT := wt_sel 86 (by decide +kernel)
set_option maxRecDepth 100000 in
theorem mlX11_324 : Cond.methodLink RX11 324 yX11_isWord ∈ WT := wt_of 1364 rfl rfl
set_option maxRecDepth 100000 in
theorem imX11_isWord : Cond.instanceMethod yX11_isWord ∈ WT := wt_of 1366 rfl rfl
set_option maxRecDepth 100000 in
theorem seX11_isWord : Cond.selects yX11_isWord.cls yX11_isWord yX11_isWord ∈ WT := wt_sel 62 (by decide +kernel)
set_option maxRecDepth 100000 in
theorem lkX11_333 : Lk RX11 333 11 22 1 := ⟨RX11, TX11, 85, clsX11, by decide, wt_of 1093 rfl rfl, fun _ => rfl, (fun h => nomatch h)⟩
set_option maxRecDepth 100000 in
theorem lkX11_330 : Lk RX11 330 11 32 1 := ⟨RX11, TX11, 85, clsX11, by decide, wt_of 1103 rfl rfl, fun _ => rfl, (fun h => nomatch h)⟩
set_option maxRecDepth 100000 in
theorem mlX11_342 : Cond.methodLink RX11 342 yX11_block ∈ WT := wt_of 1476 rfl rfl
set_option maxRecDepth 100000 in
theorem imX11_block : Cond.instanceMethod yX11_block ∈ WT := wt_of 1478 rfl rfl
set_option maxRecDepth 100000 in
theorem seX11_block : Cond.selects yX11_block.cls yX11_block yX11_block ∈ WT := wt_sel 90 (by decide +kernel)
set_option maxRecDepth 100000 in
theorem mlX11_339 : Cond.methodLink RX11 339 yX11_check ∈ WT := wt_of 1472 rfl rfl
set_option maxRecDepth 100000 in
theorem imX11_check : Cond.instanceMethod yX11_check ∈ WT := wt_of 1474 rfl rfl
set_option maxRecDepth 100000 in
theorem seX11_check : Cond.selects yX11_check.cls yX11_check yX11_check ∈ WT := wt_sel 89 (by decide +kernel)
set_option maxRecDepth 100000 in
theorem mlX11_336 : Cond.methodLink RX11 336 yX11_table ∈ WT := wt_of 1464 rfl rfl
set_option maxRecDepth 100000 in
theorem imX11_table : Cond.instanceMethod yX11_table ∈ WT := wt_of 1466 rfl rfl
set_option maxRecDepth 100000 in
theorem seX11_table : Cond.selects yX11_table.cls yX11_table yX11_table ∈ WT := wt_sel 87 (by decide +kernel)
set_option maxRecDepth 100000 in
theorem mlX11_345 : Cond.methodLink RX11 345 yX11_plainSum ∈ WT := wt_of 1404 rfl rfl
set_option maxRecDepth 100000 in
theorem imX11_plainSum : Cond.instanceMethod yX11_plainSum ∈ WT := wt_of 1406 rfl rfl
set_option maxRecDepth 100000 in
theorem seX11_plainSum : Cond.selects yX11_plainSum.cls yX11_plainSum yX11_plainSum ∈ WT := wt_sel 72 (by decide +kernel)
set_option maxRecDepth 100000 in
theorem lkX11_348 : Lk RX11 348 11 26 1 := ⟨RX11, TX11, 85, clsX11, by decide, wt_of 1097 rfl rfl, fun _ => rfl, (fun h => nomatch h)⟩
set_option maxRecDepth 100000 in
theorem mlX11_357 : Cond.methodLink RX11 357 yX11_rule ∈ WT := wt_of 1424 rfl rfl
set_option maxRecDepth 100000 in
theorem imX11_rule : Cond.instanceMethod yX11_rule ∈ WT := wt_of 1426 rfl rfl
set_option maxRecDepth 100000 in
theorem seX11_rule : Cond.selects yX11_rule.cls yX11_rule yX11_rule ∈ WT := wt_sel 77 (by decide +kernel)
set_option maxRecDepth 100000 in
theorem mlX11_354 : Cond.methodLink RX11 354 yX11_aConst ∈ WT := wt_of 1392 rfl rfl
set_option maxRecDepth 100000 in
theorem imX11_aConst : Cond.instanceMethod yX11_aConst ∈ WT := wt_of 1394 rfl rfl
set_option maxRecDepth 100000 in
theorem seX11_aConst : Cond.selects yX11_aConst.cls yX11_aConst yX11_aConst ∈ WT := wt_sel 69 (by decide +kernel)
set_option maxRecDepth 100000 in
theorem lkX11_351 : Lk RX11 351 11 14 1 := ⟨RX11, TX11, 85, clsX11, by decide, wt_of 1085 rfl rfl, fun _ => rfl, (fun h => nomatch h)⟩
set_option maxRecDepth 100000 in
theorem mlX11_366 : Cond.methodLink RX11 366 yX11_keeps ∈ WT := wt_of 1480 rfl rfl
set_option maxRecDepth 100000 in
theorem imX11_keeps : Cond.instanceMethod yX11_keeps ∈ WT := wt_of 1482 rfl rfl
set_option maxRecDepth 100000 in
theorem seX11_keeps : Cond.selects yX11_keeps.cls yX11_keeps yX11_keeps ∈ WT := wt_sel 91 (by decide +kernel)
set_option maxRecDepth 100000 in
theorem mlX11_363 : Cond.methodLink RX11 363 yX11_reads ∈ WT := wt_of 1343 rfl rfl
set_option maxRecDepth 100000 in
theorem imX11_reads : Cond.instanceMethod yX11_reads ∈ WT := wt_of 1345 rfl rfl
set_option maxRecDepth 100000 in
theorem seX11_reads : Cond.selects yX11_reads.cls yX11_reads yX11_reads ∈ WT := wt_sel 59 (by decide +kernel)
set_option maxRecDepth 100000 in
theorem mlX11_360 : Cond.methodLink RX11 360 yX11_isYear ∈ WT := wt_of 1340 rfl rfl
set_option maxRecDepth 100000 in
theorem smX11_isYear : Cond.static yX11_isYear ∈ WT := wt_of 1341 rfl rfl
set_option maxRecDepth 100000 in
theorem mlX11_372 : Cond.methodLink RX11 372 yX11_copies ∈ WT := wt_of 1496 rfl rfl
set_option maxRecDepth 100000 in
theorem imX11_copies : Cond.instanceMethod yX11_copies ∈ WT := wt_of 1498 rfl rfl
set_option maxRecDepth 100000 in
theorem seX11_copies : Cond.selects yX11_copies.cls yX11_copies yX11_copies ∈ WT := wt_sel 92 (by decide +kernel)
set_option maxRecDepth 100000 in
theorem lkX11_369 : Lk RX11 369 11 59 1 := ⟨RX11, TX11, 85, clsX11, by decide, wt_of 1130 rfl rfl, fun _ => rfl, (fun h => nomatch h)⟩
set_option maxRecDepth 100000 in
theorem clX11_375 : Cond.constantLong RX11 375 (1000000000000000) ∈ WT := wt_of 1528 rfl rfl
set_option maxRecDepth 100000 in
theorem clX11_377 : Cond.constantLong RX11 377 (-1000000000000000) ∈ WT := wt_of 1532 rfl rfl
set_option maxRecDepth 100000 in
theorem mlX11_386 : Cond.methodLink RX11 386 yX11_isSmall ∈ WT := wt_of 1529 rfl rfl
set_option maxRecDepth 100000 in
theorem smX11_isSmall : Cond.static yX11_isSmall ∈ WT := wt_of 1530 rfl rfl
set_option maxRecDepth 100000 in
theorem mlX11_382 : Cond.methodLink RX11 382 yX11_constOf ∈ WT := wt_of 1524 rfl rfl
set_option maxRecDepth 100000 in
theorem imX11_constOf : Cond.instanceMethod yX11_constOf ∈ WT := wt_of 1526 rfl rfl
set_option maxRecDepth 100000 in
theorem seX11_constOf : Cond.selects yX11_constOf.cls yX11_constOf yX11_constOf ∈ WT := wt_sel 95 (by decide +kernel)
set_option maxRecDepth 100000 in
theorem lkX11_379 : Lk RX11 379 11 63 1 := ⟨RX11, TX11, 85, clsX11, by decide, wt_of 1134 rfl rfl, fun _ => rfl, (fun h => nomatch h)⟩
set_option maxRecDepth 100000 in
theorem mlX11_389 : Cond.methodLink RX11 389 yX11_comesOut ∈ WT := wt_of 1520 rfl rfl
set_option maxRecDepth 100000 in
theorem imX11_comesOut : Cond.instanceMethod yX11_comesOut ∈ WT := wt_of 1522 rfl rfl
set_option maxRecDepth 100000 in
theorem seX11_comesOut : Cond.selects yX11_comesOut.cls yX11_comesOut yX11_comesOut ∈ WT := wt_sel 94 (by decide +kernel)
set_option maxRecDepth 100000 in
theorem clX11_396 : Cond.constantLong RX11 396 (-2000000000000000) ∈ WT := wt_of 1515 rfl rfl
set_option maxRecDepth 100000 in
theorem mlX11_398 : Cond.methodLink RX11 398 yX11_worksConstants ∈ WT := wt_of 1516 rfl rfl
set_option maxRecDepth 100000 in
theorem imX11_worksConstants : Cond.instanceMethod yX11_worksConstants ∈ WT := wt_of 1518 rfl rfl
set_option maxRecDepth 100000 in
theorem seX11_worksConstants : Cond.selects yX11_worksConstants.cls yX11_worksConstants yX11_worksConstants ∈ WT := wt_sel 93 (by decide +kernel)
set_option maxRecDepth 100000 in
theorem mlX11_392 : Cond.methodLink RX11 392 yX11_isIn ∈ WT := wt_of 1512 rfl rfl
set_option maxRecDepth 100000 in
theorem smX11_isIn : Cond.static yX11_isIn ∈ WT := wt_of 1513 rfl rfl
set_option maxRecDepth 100000 in
theorem lkX11_425 : Lk RX11 425 11 67 1 := ⟨RX11, TX11, 85, clsX11, by decide, wt_of 1138 rfl rfl, fun _ => rfl, (fun h => nomatch h)⟩
set_option maxRecDepth 100000 in
theorem lkX11_428 : Lk RX11 428 11 68 1 := ⟨RX11, TX11, 85, clsX11, by decide, wt_of 1139 rfl rfl, fun _ => rfl, (fun h => nomatch h)⟩
set_option maxRecDepth 100000 in
theorem lkX11_431 : Lk RX11 431 11 69 1 := ⟨RX11, TX11, 85, clsX11, by decide, wt_of 1140 rfl rfl, fun _ => rfl, (fun h => nomatch h)⟩
set_option maxRecDepth 100000 in
theorem lkX11_434 : Lk RX11 434 11 70 1 := ⟨RX11, TX11, 85, clsX11, by decide, wt_of 1141 rfl rfl, fun _ => rfl, (fun h => nomatch h)⟩
set_option maxRecDepth 100000 in
theorem lkX11_417 : Lk RX11 417 11 71 1 := ⟨RX11, TX11, 85, clsX11, by decide, wt_of 1142 rfl rfl, fun _ => rfl, (fun h => nomatch h)⟩
set_option maxRecDepth 100000 in
theorem mlX11_404 : Cond.methodLink RX11 404 yX11_needs ∈ WT := wt_of 1541 rfl rfl
set_option maxRecDepth 100000 in
theorem imX11_needs : Cond.instanceMethod yX11_needs ∈ WT := wt_of 1543 rfl rfl
set_option maxRecDepth 100000 in
theorem seX11_needs : Cond.selects yX11_needs.cls yX11_needs yX11_needs ∈ WT := wt_sel 96 (by decide +kernel)
set_option maxRecDepth 100000 in
theorem mlX11_420 : Cond.methodLink RX11 420 yX11_tableOf ∈ WT := wt_of 1565 rfl rfl
set_option maxRecDepth 100000 in
theorem imX11_tableOf : Cond.instanceMethod yX11_tableOf ∈ WT := wt_of 1567 rfl rfl
set_option maxRecDepth 100000 in
theorem seX11_tableOf : Cond.selects yX11_tableOf.cls yX11_tableOf yX11_tableOf ∈ WT := wt_sel 102 (by decide +kernel)
set_option maxRecDepth 100000 in
theorem clX11_423 : Cond.constantLong RX11 423 (-1) ∈ WT := wt_of 1572 rfl rfl
set_option maxRecDepth 100000 in
theorem mlX11_437 : Cond.methodLink RX11 437 yX11_told ∈ WT := wt_of 1557 rfl rfl
set_option maxRecDepth 100000 in
theorem imX11_told : Cond.instanceMethod yX11_told ∈ WT := wt_of 1559 rfl rfl
set_option maxRecDepth 100000 in
theorem seX11_told : Cond.selects yX11_told.cls yX11_told yX11_told ∈ WT := wt_sel 100 (by decide +kernel)
set_option maxRecDepth 100000 in
theorem mlX11_445 : Cond.methodLink RX11 445 yX11_acted ∈ WT := wt_of 1569 rfl rfl
set_option maxRecDepth 100000 in
theorem smX11_acted : Cond.static yX11_acted ∈ WT := wt_of 1570 rfl rfl
set_option maxRecDepth 100000 in
theorem mlX11_441 : Cond.methodLink RX11 441 yX11_looks ∈ WT := wt_of 1561 rfl rfl
set_option maxRecDepth 100000 in
theorem imX11_looks : Cond.instanceMethod yX11_looks ∈ WT := wt_of 1563 rfl rfl
set_option maxRecDepth 100000 in
theorem seX11_looks : Cond.selects yX11_looks.cls yX11_looks yX11_looks ∈ WT := wt_sel 101 (by decide +kernel)
set_option maxRecDepth 100000 in
theorem mlX11_414 : Cond.methodLink RX11 414 yX11_works ∈ WT := wt_of 1553 rfl rfl
set_option maxRecDepth 100000 in
theorem imX11_works : Cond.instanceMethod yX11_works ∈ WT := wt_of 1555 rfl rfl
set_option maxRecDepth 100000 in
theorem seX11_works : Cond.selects yX11_works.cls yX11_works yX11_works ∈ WT := wt_sel 99 (by decide +kernel)
set_option maxRecDepth 100000 in
theorem mlX11_410 : Cond.methodLink RX11 410 yX11_builds ∈ WT := wt_of 1549 rfl rfl
set_option maxRecDepth 100000 in
theorem imX11_builds : Cond.instanceMethod yX11_builds ∈ WT := wt_of 1551 rfl rfl
set_option maxRecDepth 100000 in
theorem seX11_builds : Cond.selects yX11_builds.cls yX11_builds yX11_builds ∈ WT := wt_sel 98 (by decide +kernel)
set_option maxRecDepth 100000 in
theorem mlX11_407 : Cond.methodLink RX11 407 yX11_does ∈ WT := wt_of 1545 rfl rfl
set_option maxRecDepth 100000 in
theorem imX11_does : Cond.instanceMethod yX11_does ∈ WT := wt_of 1547 rfl rfl
set_option maxRecDepth 100000 in
theorem seX11_does : Cond.selects yX11_does.cls yX11_does yX11_does ∈ WT := wt_sel 97 (by decide +kernel)
set_option maxRecDepth 100000 in
theorem lkX11_401 : Lk RX11 401 11 66 1 := ⟨RX11, TX11, 85, clsX11, by decide, wt_of 1137 rfl rfl, fun _ => rfl, (fun h => nomatch h)⟩
set_option maxRecDepth 100000 in
theorem lkX11_449 : Lk RX11 449 11 73 1 := ⟨RX11, TX11, 85, clsX11, by decide, wt_of 1144 rfl rfl, fun _ => rfl, (fun h => nomatch h)⟩
set_option maxRecDepth 100000 in
theorem ciX11_452 : Cond.constant RX11 452 (100001) ∈ WT := wt_of 1581 rfl rfl
set_option maxRecDepth 100000 in
theorem lkX11_459 : Lk RX11 459 11 83 1 := ⟨RX11, TX11, 85, clsX11, by decide, wt_of 1154 rfl rfl, fun _ => rfl, (fun h => nomatch h)⟩
set_option maxRecDepth 100000 in
theorem lkX11_456 : Lk RX11 456 11 84 1 := ⟨RX11, TX11, 85, clsX11, by decide, wt_of 1155 rfl rfl, fun _ => rfl, (fun h => nomatch h)⟩
set_option maxRecDepth 100000 in
theorem mlX11_453 : Cond.methodLink RX11 453 yX11_lined ∈ WT := wt_of 1590 rfl rfl
set_option maxRecDepth 100000 in
theorem imX11_lined : Cond.instanceMethod yX11_lined ∈ WT := wt_of 1592 rfl rfl
set_option maxRecDepth 100000 in
theorem seX11_lined : Cond.selects yX11_lined.cls yX11_lined yX11_lined ∈ WT := wt_sel 103 (by decide +kernel)
set_option maxRecDepth 100000 in
theorem fsJ0_38 : Cond.fieldLink RJ0 38 "java/lang/String" "COMPACT_STRINGS" "Z" ∈ WT := wt_of 47 rfl rfl
set_option maxRecDepth 100000 in
theorem fsJ0_15 : Cond.fieldLink RJ0 15 "java/lang/String" "coder" "B" ∈ WT := wt_of 1603 rfl rfl
set_option maxRecDepth 100000 in
theorem fsJ0_9 : Cond.fieldLink RJ0 9 "java/lang/String" "value" "[B" ∈ WT := wt_of 1602 rfl rfl
set_option maxRecDepth 100000 in
theorem mlJ0_335 : Cond.methodLink RJ0 335 yJ0_coder_7d493 ∈ WT := wt_of 43 rfl rfl
set_option maxRecDepth 100000 in
theorem imJ0_coder_7d493 : Cond.instanceMethod yJ0_coder_7d493 ∈ WT := wt_of 44 rfl rfl
set_option maxRecDepth 100000 in
theorem seJ0_coder_7d493 : Cond.selects yJ0_coder_7d493.cls yJ0_coder_7d493 yJ0_coder_7d493 ∈ WT := wt_of 45 rfl rfl
set_option maxRecDepth 100000 in
theorem fsJ0_1053 : Cond.fieldLink RJ0 1053 "jdk/internal/util/Preconditions" "SIOOBE_FORMATTER" "Ljava/util/function/BiFunction;" ∈ WT := wt_of 63 rfl rfl
set_option maxRecDepth 100000 in
theorem mlJ0_1059 : Cond.methodLink RJ0 1059 yJ3_checkIndex_8e157 ∈ WT := wt_of 65 rfl rfl
set_option maxRecDepth 100000 in
theorem smJ3_checkIndex_8e157 : Cond.static yJ3_checkIndex_8e157 ∈ WT := wt_of 66 rfl rfl
set_option maxRecDepth 100000 in
theorem mlJ1_9 : Cond.methodLink RJ1 9 yJ0_checkIndex_df160 ∈ WT := wt_of 60 rfl rfl
set_option maxRecDepth 100000 in
theorem smJ0_checkIndex_df160 : Cond.static yJ0_checkIndex_df160 ∈ WT := wt_of 61 rfl rfl
set_option maxRecDepth 100000 in
theorem mlJ0_495 : Cond.methodLink RJ0 495 yJ1_charAt_3b067 ∈ WT := wt_of 57 rfl rfl
set_option maxRecDepth 100000 in
theorem smJ1_charAt_3b067 : Cond.static yJ1_charAt_3b067 ∈ WT := wt_of 58 rfl rfl
set_option maxRecDepth 100000 in
theorem mlJ0_492 : Cond.methodLink RJ0 492 yJ0_isLatin1_aae02 ∈ WT := wt_of 53 rfl rfl
set_option maxRecDepth 100000 in
theorem imJ0_isLatin1_aae02 : Cond.instanceMethod yJ0_isLatin1_aae02 ∈ WT := wt_of 54 rfl rfl
set_option maxRecDepth 100000 in
theorem seJ0_isLatin1_aae02 : Cond.selects yJ0_isLatin1_aae02.cls yJ0_isLatin1_aae02 yJ0_isLatin1_aae02 ∈ WT := wt_of 55 rfl rfl
set_option maxRecDepth 100000 in
theorem mmJ1_92 : Cond.methodLink RJ1 92 Lib.Math.max.name ∈ WT := wt_of 493 rfl rfl
set_option maxRecDepth 100000 in
theorem mmJ1_38 : Cond.methodLink RJ1 38 Lib.Math.min.name ∈ WT := wt_of 496 rfl rfl
set_option maxRecDepth 100000 in
theorem mlJ1_95 : Cond.methodLink RJ1 95 yJ1_indexOfChar_4cfef ∈ WT := wt_of 499 rfl rfl
set_option maxRecDepth 100000 in
theorem smJ1_indexOfChar_4cfef : Cond.static yJ1_indexOfChar_4cfef ∈ WT := wt_of 500 rfl rfl
set_option maxRecDepth 100000 in
theorem mlJ1_88 : Cond.methodLink RJ1 88 yJ1_canEncode_9a6ad ∈ WT := wt_of 490 rfl rfl
set_option maxRecDepth 100000 in
theorem smJ1_canEncode_9a6ad : Cond.static yJ1_canEncode_9a6ad ∈ WT := wt_of 491 rfl rfl
set_option maxRecDepth 100000 in
theorem mlJ0_637 : Cond.methodLink RJ0 637 yJ1_indexOf_4cfef ∈ WT := wt_of 487 rfl rfl
set_option maxRecDepth 100000 in
theorem smJ1_indexOf_4cfef : Cond.static yJ1_indexOf_4cfef ∈ WT := wt_of 488 rfl rfl
set_option maxRecDepth 100000 in
theorem mlJ0_505 : Cond.methodLink RJ0 505 yJ0_length_8abf5 ∈ WT := wt_of 486 rfl rfl
set_option maxRecDepth 100000 in
theorem imJ0_length_8abf5 : Cond.instanceMethod yJ0_length_8abf5 ∈ WT := wt_of 40 rfl rfl
set_option maxRecDepth 100000 in
theorem seJ0_length_8abf5 : Cond.selects yJ0_length_8abf5.cls yJ0_length_8abf5 yJ0_length_8abf5 ∈ WT := wt_of 41 rfl rfl
set_option maxRecDepth 100000 in
theorem mlJ0_633 : Cond.methodLink RJ0 633 yJ0_indexOf_7cf53 ∈ WT := wt_of 482 rfl rfl
set_option maxRecDepth 100000 in
theorem imJ0_indexOf_7cf53 : Cond.instanceMethod yJ0_indexOf_7cf53 ∈ WT := wt_of 483 rfl rfl
set_option maxRecDepth 100000 in
theorem seJ0_indexOf_7cf53 : Cond.selects yJ0_indexOf_7cf53.cls yJ0_indexOf_7cf53 yJ0_indexOf_7cf53 ∈ WT := wt_of 484 rfl rfl
set_option maxRecDepth 100000 in
theorem mlL_17 : Cond.methodLink RL 17 yX11_feed ∈ WT := wt_of 1328 rfl rfl
set_option maxRecDepth 100000 in
theorem imX11_feed : Cond.instanceMethod yX11_feed ∈ WT := wt_of 1329 rfl rfl
set_option maxRecDepth 100000 in
theorem seX11_feed : Cond.selects yX11_feed.cls yX11_feed yX11_feed ∈ WT := wt_of 1330 rfl rfl
set_option maxRecDepth 100000 in
theorem mlL_13 : Cond.methodLink RL 13 yX10_feed ∈ WT := wt_of 424 rfl rfl
set_option maxRecDepth 100000 in
theorem imX10_feed : Cond.instanceMethod yX10_feed ∈ WT := wt_of 425 rfl rfl
set_option maxRecDepth 100000 in
theorem seX10_feed : Cond.selects yX10_feed.cls yX10_feed yX10_feed ∈ WT := wt_of 426 rfl rfl
set_option maxRecDepth 100000 in
theorem mlL_22 : Cond.methodLink RL 22 yX11_end ∈ WT := wt_of 1332 rfl rfl
set_option maxRecDepth 100000 in
theorem imX11_end : Cond.instanceMethod yX11_end ∈ WT := wt_of 1333 rfl rfl
set_option maxRecDepth 100000 in
theorem seX11_end : Cond.selects yX11_end.cls yX11_end yX11_end ∈ WT := wt_of 1334 rfl rfl
set_option maxRecDepth 100000 in
theorem mlL_18 : Cond.methodLink RL 18 yX10_end ∈ WT := wt_of 432 rfl rfl
set_option maxRecDepth 100000 in
theorem imX10_end : Cond.instanceMethod yX10_end ∈ WT := wt_of 433 rfl rfl
set_option maxRecDepth 100000 in
theorem seX10_end : Cond.selects yX10_end.cls yX10_end yX10_end ∈ WT := wt_of 434 rfl rfl
set_option maxRecDepth 100000 in
theorem mlL_26 : Cond.methodLink RL 26 yX11_sheet ∈ WT := wt_of 1336 rfl rfl
set_option maxRecDepth 100000 in
theorem imX11_sheet : Cond.instanceMethod yX11_sheet ∈ WT := wt_of 1337 rfl rfl
set_option maxRecDepth 100000 in
theorem seX11_sheet : Cond.selects yX11_sheet.cls yX11_sheet yX11_sheet ∈ WT := wt_of 1338 rfl rfl
set_option maxRecDepth 100000 in
theorem mlL_23 : Cond.methodLink RL 23 yX10_sheet ∈ WT := wt_of 436 rfl rfl
set_option maxRecDepth 100000 in
theorem imX10_sheet : Cond.instanceMethod yX10_sheet ∈ WT := wt_of 437 rfl rfl
set_option maxRecDepth 100000 in
theorem seX10_sheet : Cond.selects yX10_sheet.cls yX10_sheet yX10_sheet ∈ WT := wt_of 438 rfl rfl
set_option maxRecDepth 100000 in
theorem mlL_30 : Cond.methodLink RL 30 yX11_fault ∈ WT := wt_of 1484 rfl rfl
set_option maxRecDepth 100000 in
theorem imX11_fault : Cond.instanceMethod yX11_fault ∈ WT := wt_of 1485 rfl rfl
set_option maxRecDepth 100000 in
theorem seX11_fault : Cond.selects yX11_fault.cls yX11_fault yX11_fault ∈ WT := wt_of 1486 rfl rfl
set_option maxRecDepth 100000 in
theorem mlL_27 : Cond.methodLink RL 27 yX10_fault ∈ WT := wt_of 783 rfl rfl
set_option maxRecDepth 100000 in
theorem imX10_fault : Cond.instanceMethod yX10_fault ∈ WT := wt_of 784 rfl rfl
set_option maxRecDepth 100000 in
theorem seX10_fault : Cond.selects yX10_fault.cls yX10_fault yX10_fault ∈ WT := wt_of 785 rfl rfl
set_option maxRecDepth 100000 in
theorem mlL_35 : Cond.methodLink RL 35 yX11_forget ∈ WT := wt_of 1488 rfl rfl
set_option maxRecDepth 100000 in
theorem imX11_forget : Cond.instanceMethod yX11_forget ∈ WT := wt_of 1489 rfl rfl
set_option maxRecDepth 100000 in
theorem seX11_forget : Cond.selects yX11_forget.cls yX11_forget yX11_forget ∈ WT := wt_of 1490 rfl rfl
set_option maxRecDepth 100000 in
theorem mlL_31 : Cond.methodLink RL 31 yX10_forget ∈ WT := wt_of 787 rfl rfl
set_option maxRecDepth 100000 in
theorem imX10_forget : Cond.instanceMethod yX10_forget ∈ WT := wt_of 788 rfl rfl
set_option maxRecDepth 100000 in
theorem seX10_forget : Cond.selects yX10_forget.cls yX10_forget yX10_forget ∈ WT := wt_of 789 rfl rfl
set_option maxRecDepth 100000 in
theorem mlL_40 : Cond.methodLink RL 40 yX11_issue ∈ WT := wt_of 1492 rfl rfl
set_option maxRecDepth 100000 in
theorem imX11_issue : Cond.instanceMethod yX11_issue ∈ WT := wt_of 1493 rfl rfl
set_option maxRecDepth 100000 in
theorem seX11_issue : Cond.selects yX11_issue.cls yX11_issue yX11_issue ∈ WT := wt_of 1494 rfl rfl
set_option maxRecDepth 100000 in
theorem mlL_36 : Cond.methodLink RL 36 yX10_issue ∈ WT := wt_of 791 rfl rfl
set_option maxRecDepth 100000 in
theorem imX10_issue : Cond.instanceMethod yX10_issue ∈ WT := wt_of 792 rfl rfl
set_option maxRecDepth 100000 in
theorem seX10_issue : Cond.selects yX10_issue.cls yX10_issue yX10_issue ∈ WT := wt_of 793 rfl rfl
set_option maxRecDepth 100000 in
theorem mlL_45 : Cond.methodLink RL 45 yX11_state ∈ WT := wt_of 1500 rfl rfl
set_option maxRecDepth 100000 in
theorem imX11_state : Cond.instanceMethod yX11_state ∈ WT := wt_of 1501 rfl rfl
set_option maxRecDepth 100000 in
theorem seX11_state : Cond.selects yX11_state.cls yX11_state yX11_state ∈ WT := wt_of 1502 rfl rfl
set_option maxRecDepth 100000 in
theorem mlL_41 : Cond.methodLink RL 41 yX10_state ∈ WT := wt_of 871 rfl rfl
set_option maxRecDepth 100000 in
theorem imX10_state : Cond.instanceMethod yX10_state ∈ WT := wt_of 872 rfl rfl
set_option maxRecDepth 100000 in
theorem seX10_state : Cond.selects yX10_state.cls yX10_state yX10_state ∈ WT := wt_of 873 rfl rfl
set_option maxRecDepth 100000 in
theorem mlL_50 : Cond.methodLink RL 50 yX11_leans ∈ WT := wt_of 1504 rfl rfl
set_option maxRecDepth 100000 in
theorem imX11_leans : Cond.instanceMethod yX11_leans ∈ WT := wt_of 1505 rfl rfl
set_option maxRecDepth 100000 in
theorem seX11_leans : Cond.selects yX11_leans.cls yX11_leans yX11_leans ∈ WT := wt_of 1506 rfl rfl
set_option maxRecDepth 100000 in
theorem mlL_46 : Cond.methodLink RL 46 yX10_leans ∈ WT := wt_of 878 rfl rfl
set_option maxRecDepth 100000 in
theorem imX10_leans : Cond.instanceMethod yX10_leans ∈ WT := wt_of 879 rfl rfl
set_option maxRecDepth 100000 in
theorem seX10_leans : Cond.selects yX10_leans.cls yX10_leans yX10_leans ∈ WT := wt_of 880 rfl rfl
set_option maxRecDepth 100000 in
theorem mlL_55 : Cond.methodLink RL 55 yX11_constant ∈ WT := wt_of 1508 rfl rfl
set_option maxRecDepth 100000 in
theorem imX11_constant : Cond.instanceMethod yX11_constant ∈ WT := wt_of 1509 rfl rfl
set_option maxRecDepth 100000 in
theorem seX11_constant : Cond.selects yX11_constant.cls yX11_constant yX11_constant ∈ WT := wt_of 1510 rfl rfl
set_option maxRecDepth 100000 in
theorem mlL_51 : Cond.methodLink RL 51 yX10_constant ∈ WT := wt_of 882 rfl rfl
set_option maxRecDepth 100000 in
theorem imX10_constant : Cond.instanceMethod yX10_constant ∈ WT := wt_of 883 rfl rfl
set_option maxRecDepth 100000 in
theorem seX10_constant : Cond.selects yX10_constant.cls yX10_constant yX10_constant ∈ WT := wt_of 884 rfl rfl
set_option maxRecDepth 100000 in
theorem mlL_60 : Cond.methodLink RL 60 yX11_entry ∈ WT := wt_of 1533 rfl rfl
set_option maxRecDepth 100000 in
theorem imX11_entry : Cond.instanceMethod yX11_entry ∈ WT := wt_of 1534 rfl rfl
set_option maxRecDepth 100000 in
theorem seX11_entry : Cond.selects yX11_entry.cls yX11_entry yX11_entry ∈ WT := wt_of 1535 rfl rfl
set_option maxRecDepth 100000 in
theorem mlL_56 : Cond.methodLink RL 56 yX10_entry ∈ WT := wt_of 892 rfl rfl
set_option maxRecDepth 100000 in
theorem imX10_entry : Cond.instanceMethod yX10_entry ∈ WT := wt_of 893 rfl rfl
set_option maxRecDepth 100000 in
theorem seX10_entry : Cond.selects yX10_entry.cls yX10_entry yX10_entry ∈ WT := wt_of 894 rfl rfl
set_option maxRecDepth 100000 in
theorem mlL_64 : Cond.methodLink RL 64 yX11_need ∈ WT := wt_of 1537 rfl rfl
set_option maxRecDepth 100000 in
theorem imX11_need : Cond.instanceMethod yX11_need ∈ WT := wt_of 1538 rfl rfl
set_option maxRecDepth 100000 in
theorem seX11_need : Cond.selects yX11_need.cls yX11_need yX11_need ∈ WT := wt_of 1539 rfl rfl
set_option maxRecDepth 100000 in
theorem mlL_61 : Cond.methodLink RL 61 yX10_need ∈ WT := wt_of 900 rfl rfl
set_option maxRecDepth 100000 in
theorem imX10_need : Cond.instanceMethod yX10_need ∈ WT := wt_of 901 rfl rfl
set_option maxRecDepth 100000 in
theorem seX10_need : Cond.selects yX10_need.cls yX10_need yX10_need ∈ WT := wt_of 902 rfl rfl
set_option maxRecDepth 100000 in
theorem mlL_68 : Cond.methodLink RL 68 yX11_started ∈ WT := wt_of 1573 rfl rfl
set_option maxRecDepth 100000 in
theorem imX11_started : Cond.instanceMethod yX11_started ∈ WT := wt_of 1574 rfl rfl
set_option maxRecDepth 100000 in
theorem seX11_started : Cond.selects yX11_started.cls yX11_started yX11_started ∈ WT := wt_of 1575 rfl rfl
set_option maxRecDepth 100000 in
theorem mlL_65 : Cond.methodLink RL 65 yX10_started ∈ WT := wt_of 969 rfl rfl
set_option maxRecDepth 100000 in
theorem imX10_started : Cond.instanceMethod yX10_started ∈ WT := wt_of 970 rfl rfl
set_option maxRecDepth 100000 in
theorem seX10_started : Cond.selects yX10_started.cls yX10_started yX10_started ∈ WT := wt_of 971 rfl rfl
set_option maxRecDepth 100000 in
theorem mlL_72 : Cond.methodLink RL 72 yX11_voyage ∈ WT := wt_of 1577 rfl rfl
set_option maxRecDepth 100000 in
theorem imX11_voyage : Cond.instanceMethod yX11_voyage ∈ WT := wt_of 1578 rfl rfl
set_option maxRecDepth 100000 in
theorem seX11_voyage : Cond.selects yX11_voyage.cls yX11_voyage yX11_voyage ∈ WT := wt_of 1579 rfl rfl
set_option maxRecDepth 100000 in
theorem mlL_69 : Cond.methodLink RL 69 yX10_voyage ∈ WT := wt_of 973 rfl rfl
set_option maxRecDepth 100000 in
theorem imX10_voyage : Cond.instanceMethod yX10_voyage ∈ WT := wt_of 974 rfl rfl
set_option maxRecDepth 100000 in
theorem seX10_voyage : Cond.selects yX10_voyage.cls yX10_voyage yX10_voyage ∈ WT := wt_of 975 rfl rfl
set_option maxRecDepth 100000 in
theorem mlL_77 : Cond.methodLink RL 77 yX11_lock ∈ WT := wt_of 1582 rfl rfl
set_option maxRecDepth 100000 in
theorem imX11_lock : Cond.instanceMethod yX11_lock ∈ WT := wt_of 1583 rfl rfl
set_option maxRecDepth 100000 in
theorem seX11_lock : Cond.selects yX11_lock.cls yX11_lock yX11_lock ∈ WT := wt_of 1584 rfl rfl
set_option maxRecDepth 100000 in
theorem mlL_73 : Cond.methodLink RL 73 yX10_lock ∈ WT := wt_of 1022 rfl rfl
set_option maxRecDepth 100000 in
theorem imX10_lock : Cond.instanceMethod yX10_lock ∈ WT := wt_of 1023 rfl rfl
set_option maxRecDepth 100000 in
theorem seX10_lock : Cond.selects yX10_lock.cls yX10_lock yX10_lock ∈ WT := wt_of 1024 rfl rfl
set_option maxRecDepth 100000 in
theorem mlL_81 : Cond.methodLink RL 81 yX11_bill ∈ WT := wt_of 1586 rfl rfl
set_option maxRecDepth 100000 in
theorem imX11_bill : Cond.instanceMethod yX11_bill ∈ WT := wt_of 1587 rfl rfl
set_option maxRecDepth 100000 in
theorem seX11_bill : Cond.selects yX11_bill.cls yX11_bill yX11_bill ∈ WT := wt_of 1588 rfl rfl
set_option maxRecDepth 100000 in
theorem mlL_78 : Cond.methodLink RL 78 yX10_bill ∈ WT := wt_of 1034 rfl rfl
set_option maxRecDepth 100000 in
theorem imX10_bill : Cond.instanceMethod yX10_bill ∈ WT := wt_of 1035 rfl rfl
set_option maxRecDepth 100000 in
theorem seX10_bill : Cond.selects yX10_bill.cls yX10_bill yX10_bill ∈ WT := wt_of 1036 rfl rfl
set_option maxRecDepth 100000 in
theorem mlL_85 : Cond.methodLink RL 85 yX11_line ∈ WT := wt_of 1594 rfl rfl
set_option maxRecDepth 100000 in
theorem imX11_line : Cond.instanceMethod yX11_line ∈ WT := wt_of 1595 rfl rfl
set_option maxRecDepth 100000 in
theorem seX11_line : Cond.selects yX11_line.cls yX11_line yX11_line ∈ WT := wt_of 1596 rfl rfl
set_option maxRecDepth 100000 in
theorem mlL_82 : Cond.methodLink RL 82 yX10_line ∈ WT := wt_of 1051 rfl rfl
set_option maxRecDepth 100000 in
theorem imX10_line : Cond.instanceMethod yX10_line ∈ WT := wt_of 1052 rfl rfl
set_option maxRecDepth 100000 in
theorem seX10_line : Cond.selects yX10_line.cls yX10_line yX10_line ∈ WT := wt_of 1053 rfl rfl
set_option maxRecDepth 100000 in
theorem mlL_89 : Cond.methodLink RL 89 yX11_count ∈ WT := wt_of 1598 rfl rfl
set_option maxRecDepth 100000 in
theorem imX11_count : Cond.instanceMethod yX11_count ∈ WT := wt_of 1599 rfl rfl
set_option maxRecDepth 100000 in
theorem seX11_count : Cond.selects yX11_count.cls yX11_count yX11_count ∈ WT := wt_of 1600 rfl rfl
set_option maxRecDepth 100000 in
theorem mlL_86 : Cond.methodLink RL 86 yX10_count ∈ WT := wt_of 1055 rfl rfl
set_option maxRecDepth 100000 in
theorem imX10_count : Cond.instanceMethod yX10_count ∈ WT := wt_of 1056 rfl rfl
set_option maxRecDepth 100000 in
theorem seX10_count : Cond.selects yX10_count.cls yX10_count yX10_count ∈ WT := wt_of 1057 rfl rfl
set_option maxRecDepth 100000 in
theorem cdL_7 : Cond.classLink RL 7 RX10 ∈ WT := wt_of 21 rfl rfl
set_option maxRecDepth 100000 in
theorem inX10 : Cond.instantiable RX10 9 ∈ WT := wt_of 22 rfl rfl
set_option maxRecDepth 100000 in
theorem iiX10 : Cond.initialized RX10 ∈ WT := wt_of 1 rfl rfl
set_option maxRecDepth 100000 in
theorem cdL_10 : Cond.classLink RL 10 RX11 ∈ WT := wt_of 1059 rfl rfl
set_option maxRecDepth 100000 in
theorem inX11 : Cond.instantiable RX11 85 ∈ WT := wt_of 1060 rfl rfl
set_option maxRecDepth 100000 in
theorem iiX11 : Cond.initialized RX11 ∈ WT := wt_of 14 rfl rfl
set_option maxRecDepth 100000 in
theorem mlL_12 : Cond.methodLink RL 12 yX11_init ∈ WT := wt_of 1061 rfl rfl
set_option maxRecDepth 100000 in
theorem imX11_init : Cond.instanceMethod yX11_init ∈ WT := wt_of 1062 rfl rfl
set_option maxRecDepth 100000 in
theorem mlL_9 : Cond.methodLink RL 9 yX10_init ∈ WT := wt_of 23 rfl rfl
set_option maxRecDepth 100000 in
theorem imX10_init : Cond.instanceMethod yX10_init ∈ WT := wt_of 24 rfl rfl
set_option maxRecDepth 100000 in
theorem mlX7_42 : Cond.methodLink RX7 42 yJ0_length_8abf5 ∈ WT := wt_of 39 rfl rfl
set_option maxRecDepth 100000 in
theorem mlX7_48 : Cond.methodLink RX7 48 yJ0_charAt_5068e ∈ WT := wt_of 49 rfl rfl
set_option maxRecDepth 100000 in
theorem imJ0_charAt_5068e : Cond.instanceMethod yJ0_charAt_5068e ∈ WT := wt_of 50 rfl rfl
set_option maxRecDepth 100000 in
theorem seJ0_charAt_5068e : Cond.selects yJ0_charAt_5068e.cls yJ0_charAt_5068e yJ0_charAt_5068e ∈ WT := wt_of 51 rfl rfl
set_option maxRecDepth 100000 in
theorem mlX7_77 : Cond.methodLink RX7 77 yJ0_indexOf_0f7a4 ∈ WT := wt_of 478 rfl rfl
set_option maxRecDepth 100000 in
theorem imJ0_indexOf_0f7a4 : Cond.instanceMethod yJ0_indexOf_0f7a4 ∈ WT := wt_of 479 rfl rfl
set_option maxRecDepth 100000 in
theorem seJ0_indexOf_0f7a4 : Cond.selects yJ0_indexOf_0f7a4.cls yJ0_indexOf_0f7a4 yJ0_indexOf_0f7a4 ∈ WT := wt_of 480 rfl rfl
set_option maxRecDepth 100000 in
theorem ms_abs : Cond.static Lib.MathLoose.abs_long.x ∈ WT := wt_of 865 rfl rfl
set_option maxRecDepth 100000 in
theorem mc_abs : Cond.code Lib.MathLoose.abs_long.x Lib.MathLoose.abs_long.code 2 (some .long) ∈ WT := wt_of 866 rfl rfl
set_option maxRecDepth 100000 in
theorem ms_min : Cond.static Lib.Math.min.name ∈ WT := wt_of 497 rfl rfl
set_option maxRecDepth 100000 in
theorem mc_min : Cond.code Lib.Math.min.name Lib.Math.min.code 2 (some .int) ∈ WT := wt_of 498 rfl rfl
set_option maxRecDepth 100000 in
theorem ms_max : Cond.static Lib.Math.max.name ∈ WT := wt_of 494 rfl rfl
set_option maxRecDepth 100000 in
theorem mc_max : Cond.code Lib.Math.max.name Lib.Math.max.code 2 (some .int) ∈ WT := wt_of 495 rfl rfl
theorem ms_init : Cond.initialized "java/lang/Math" ∈ WT := wt_of 15 (by decide +kernel) (by decide +kernel)
set_option maxRecDepth 100000 in
theorem ac_nat : Cond.native arraycopyName ∈ WT := wt_of 714 rfl rfl
set_option maxRecDepth 100000 in
theorem ac_st : Cond.static arraycopyName ∈ WT := wt_of 713 rfl rfl
theorem ac_init : Cond.initialized "java/lang/System" ∈ WT := wt_of 19 (by decide +kernel) (by decide +kernel)
theorem cn_nat : Cond.native ⟨"java/lang/Object", "clone", "()Ljava/lang/Object;"⟩ ∈ WT := wt_of 706 (by decide +kernel) (by decide +kernel)
theorem cn_inst : Cond.instanceMethod ⟨"java/lang/Object", "clone", "()Ljava/lang/Object;"⟩ ∈ WT := wt_of 707 (by decide +kernel) (by decide +kernel)
theorem cn_sameI : Cond.sameMethod "[I" "java/lang/Object" "clone" "()Ljava/lang/Object;" ∈ WT := wt_of 705 (by decide +kernel) (by decide +kernel)
theorem cn_selI : Cond.selects "[I" ⟨"[I", "clone", "()Ljava/lang/Object;"⟩ ⟨"java/lang/Object", "clone", "()Ljava/lang/Object;"⟩ ∈ WT := wt_of 708 (by decide +kernel) (by decide +kernel)
theorem cn_sameL : Cond.sameMethod "[J" "java/lang/Object" "clone" "()Ljava/lang/Object;" ∈ WT := wt_of 719 (by decide +kernel) (by decide +kernel)
theorem cn_selL : Cond.selects "[J" ⟨"[J", "clone", "()Ljava/lang/Object;"⟩ ⟨"java/lang/Object", "clone", "()Ljava/lang/Object;"⟩ ∈ WT := wt_of 720 (by decide +kernel) (by decide +kernel)
