def J_X11_named_65 (v4 : Int32) (v5 : Int64) (M : Mem) : Option (Int64 × Mem) :=
  if v4 ≤ 0 then
  (some (v5, M))
  else
  (some ((((32 : Int64) * v5) + v4.toInt64) - (96 : Int64), M))
set_option maxRecDepth 20000 in
set_option maxHeartbeats 4000000 in
theorem lab_X11_named_65 {G : Gt} {M0 M9 : Mem} {x9 : Int64} {v4 : Int32} {v5 : Int64} {M : Mem} (h : J_X11_named_65 v4 v5 M = some (x9, M9)) : V G mX11_named 0 M0 (some (vL x9)) M9 M 65 [(4, vI v4), (5, vL v5)] [] := by
  unfold J_X11_named_65 at h
  refine V.iload (n := 0) dX11_named_65 rfl rfl ?_
  refine V.if_le (q := 86) dX11_named_67 (by decide) rfl h (fun h => ?_) (fun h => ?_)
  · refine V.lload (n := 1) dX11_named_86 rfl rfl ?_
    exact V.lret dX11_named_88 rfl h
  · refine V.ldc2 (x := (32)) dX11_named_70 clX11_180 rfl ?_
    refine V.lload (n := 1) dX11_named_73 rfl rfl ?_
    refine V.lmul dX11_named_75 rfl ?_
    refine V.iload (n := 0) dX11_named_76 rfl rfl ?_
    refine V.i2l dX11_named_78 rfl ?_
    refine V.ladd dX11_named_79 rfl ?_
    refine V.ldc2 (x := (96)) dX11_named_80 clX11_178 rfl ?_
    refine V.lsub dX11_named_83 rfl ?_
    refine V.lstore dX11_named_84 (by decide) rfl rfl ?_
    refine V.lload (n := 0) dX11_named_86 rfl rfl ?_
    exact V.lret dX11_named_88 rfl h
def J_X11_named_46 (v3 : Int32) (v4 : Int32) (v5 : Int64) (M : Mem) : Option (Int64 × Mem) :=
  if v3 ≤ 0 then
  (J_X11_named_65 v4 v5 M)
  else
  (J_X11_named_65 v4 ((((32 : Int64) * v5) + v3.toInt64) - (96 : Int64)) M)
set_option maxRecDepth 20000 in
set_option maxHeartbeats 4000000 in
theorem lab_X11_named_46 {G : Gt} {M0 M9 : Mem} {x9 : Int64} {v3 : Int32} {v4 : Int32} {v5 : Int64} {M : Mem} (h : J_X11_named_46 v3 v4 v5 M = some (x9, M9)) : V G mX11_named 0 M0 (some (vL x9)) M9 M 46 [(3, vI v3), (4, vI v4), (5, vL v5)] [] := by
  unfold J_X11_named_46 at h
  refine V.iload_n (n := 0) dX11_named_46 rfl rfl ?_
  refine V.if_le (q := 65) dX11_named_47 (by decide) rfl h (fun h => ?_) (fun h => ?_)
  · exact V.sub [1, 2] rfl (lab_X11_named_65 h)
  · refine V.ldc2 (x := (32)) dX11_named_50 clX11_180 rfl ?_
    refine V.lload (n := 2) dX11_named_53 rfl rfl ?_
    refine V.lmul dX11_named_55 rfl ?_
    refine V.iload_n (n := 0) dX11_named_56 rfl rfl ?_
    refine V.i2l dX11_named_57 rfl ?_
    refine V.ladd dX11_named_58 rfl ?_
    refine V.ldc2 (x := (96)) dX11_named_59 clX11_178 rfl ?_
    refine V.lsub dX11_named_62 rfl ?_
    refine V.lstore dX11_named_63 (by decide) rfl rfl ?_
    exact V.sub [2, 0] rfl (lab_X11_named_65 h)
def J_X11_named_27 (v2 : Int32) (v3 : Int32) (v4 : Int32) (v5 : Int64) (M : Mem) : Option (Int64 × Mem) :=
  if v2 ≤ 0 then
  (J_X11_named_46 v3 v4 v5 M)
  else
  (J_X11_named_46 v3 v4 ((((32 : Int64) * v5) + v2.toInt64) - (96 : Int64)) M)
set_option maxRecDepth 20000 in
set_option maxHeartbeats 4000000 in
theorem lab_X11_named_27 {G : Gt} {M0 M9 : Mem} {x9 : Int64} {v2 : Int32} {v3 : Int32} {v4 : Int32} {v5 : Int64} {M : Mem} (h : J_X11_named_27 v2 v3 v4 v5 M = some (x9, M9)) : V G mX11_named 0 M0 (some (vL x9)) M9 M 27 [(2, vI v2), (3, vI v3), (4, vI v4), (5, vL v5)] [] := by
  unfold J_X11_named_27 at h
  refine V.iload_n (n := 0) dX11_named_27 rfl rfl ?_
  refine V.if_le (q := 46) dX11_named_28 (by decide) rfl h (fun h => ?_) (fun h => ?_)
  · exact V.sub [1, 2, 3] rfl (lab_X11_named_46 h)
  · refine V.ldc2 (x := (32)) dX11_named_31 clX11_180 rfl ?_
    refine V.lload (n := 3) dX11_named_34 rfl rfl ?_
    refine V.lmul dX11_named_36 rfl ?_
    refine V.iload_n (n := 0) dX11_named_37 rfl rfl ?_
    refine V.i2l dX11_named_38 rfl ?_
    refine V.ladd dX11_named_39 rfl ?_
    refine V.ldc2 (x := (96)) dX11_named_40 clX11_178 rfl ?_
    refine V.lsub dX11_named_43 rfl ?_
    refine V.lstore dX11_named_44 (by decide) rfl rfl ?_
    exact V.sub [2, 3, 0] rfl (lab_X11_named_46 h)
def L_X11_named (v0 : Int32) (v1 : Int32) (v2 : Int32) (v3 : Int32) (v4 : Int32) (M : Mem) : Option (Int64 × Mem) :=
  if v1 ≤ 0 then
  (J_X11_named_27 v2 v3 v4 (v0.toInt64 - (96 : Int64)) M)
  else
  (J_X11_named_27 v2 v3 v4 ((((32 : Int64) * (v0.toInt64 - (96 : Int64))) + v1.toInt64) - (96 : Int64)) M)
set_option maxRecDepth 20000 in
set_option maxHeartbeats 4000000 in
theorem lift_X11_named {G : Gt} {M M9 : Mem} {x9 : Int64} {v0 : Int32} {v1 : Int32} {v2 : Int32} {v3 : Int32} {v4 : Int32} (h : L_X11_named v0 v1 v2 v3 v4 M = some (x9, M9)) : Mt G mX11_named 0 [vI v0, vI v1, vI v2, vI v3, vI v4] M (some (vL x9)) M9 := by
  unfold L_X11_named at h
  refine Mt.of (by decide +kernel) (Nat.le_of_ble_eq_true rfl) ?_
  have hh : V G mX11_named 0 M (some (vL x9)) M9 M 0 [(0, vI v0), (1, vI v1), (2, vI v2), (3, vI v3), (4, vI v4)] [] := by
    refine V.iload_n (n := 0) dX11_named_0 rfl rfl ?_
    refine V.i2l dX11_named_1 rfl ?_
    refine V.ldc2 (x := (96)) dX11_named_2 clX11_178 rfl ?_
    refine V.lsub dX11_named_5 rfl ?_
    refine V.lstore dX11_named_6 (by decide) rfl rfl ?_
    refine V.iload_n (n := 2) dX11_named_8 rfl rfl ?_
    refine V.if_le (q := 27) dX11_named_9 (by decide) rfl h (fun h => ?_) (fun h => ?_)
    · exact V.sub [3, 4, 5, 0] rfl (lab_X11_named_27 h)
    · refine V.ldc2 (x := (32)) dX11_named_12 clX11_180 rfl ?_
      refine V.lload (n := 0) dX11_named_15 rfl rfl ?_
      refine V.lmul dX11_named_17 rfl ?_
      refine V.iload_n (n := 2) dX11_named_18 rfl rfl ?_
      refine V.i2l dX11_named_19 rfl ?_
      refine V.ladd dX11_named_20 rfl ?_
      refine V.ldc2 (x := (96)) dX11_named_21 clX11_178 rfl ?_
      refine V.lsub dX11_named_24 rfl ?_
      refine V.lstore dX11_named_25 (by decide) rfl rfl ?_
      exact V.sub [3, 4, 5, 0] rfl (lab_X11_named_27 h)
  exact hh
def L_X11_init (v0 : Option Nat) (M : Mem) : Option (Unit × Mem) :=
  if v0 = none then none else
  (nA M 23 (900 : Int32)).bind fun M1 =>
  (pR M1 11 0 v0 (some (nc M))).bind fun M2 =>
  (pI M2 11 3 v0 (-1 : Int32)).bind fun M3 =>
  (nA M3 21 (13 : Int32)).bind fun M4 =>
  (uL M4 21 (some (nc M3)) (0 : Int32) (0 : Int64)).bind fun M5 =>
  (L_X11_named (117 : Int32) (110 : Int32) (100 : Int32) (101 : Int32) (114 : Int32) M5).bind fun w6 =>
  (uL w6.2 21 (some (nc M3)) (1 : Int32) w6.1).bind fun M7 =>
  (L_X11_named (99 : Int32) (111 : Int32) (110 : Int32) (115 : Int32) (116 : Int32) M7).bind fun w8 =>
  (uL w8.2 21 (some (nc M3)) (2 : Int32) w8.1).bind fun M9 =>
  (L_X11_named (114 : Int32) (117 : Int32) (108 : Int32) (101 : Int32) (0 : Int32) M9).bind fun w10 =>
  (uL w10.2 21 (some (nc M3)) (3 : Int32) w10.1).bind fun M11 =>
  (L_X11_named (116 : Int32) (97 : Int32) (98 : Int32) (108 : Int32) (101 : Int32) M11).bind fun w12 =>
  (uL w12.2 21 (some (nc M3)) (4 : Int32) w12.1).bind fun M13 =>
  (L_X11_named (99 : Int32) (104 : Int32) (101 : Int32) (99 : Int32) (107 : Int32) M13).bind fun w14 =>
  (uL w14.2 21 (some (nc M3)) (5 : Int32) w14.1).bind fun M15 =>
  (L_X11_named (116 : Int32) (114 : Int32) (121 : Int32) (0 : Int32) (0 : Int32) M15).bind fun w16 =>
  (uL w16.2 21 (some (nc M3)) (6 : Int32) w16.1).bind fun M17 =>
  (L_X11_named (101 : Int32) (108 : Int32) (115 : Int32) (101 : Int32) (0 : Int32) M17).bind fun w18 =>
  (uL w18.2 21 (some (nc M3)) (7 : Int32) w18.1).bind fun M19 =>
  (L_X11_named (97 : Int32) (116 : Int32) (0 : Int32) (0 : Int32) (0 : Int32) M19).bind fun w20 =>
  (uL w20.2 21 (some (nc M3)) (8 : Int32) w20.1).bind fun M21 =>
  (L_X11_named (116 : Int32) (111 : Int32) (110 : Int32) (115 : Int32) (0 : Int32) M21).bind fun w22 =>
  (uL w22.2 21 (some (nc M3)) (9 : Int32) w22.1).bind fun M23 =>
  (L_X11_named (99 : Int32) (97 : Int32) (114 : Int32) (103 : Int32) (111 : Int32) M23).bind fun w24 =>
  (uL w24.2 21 (some (nc M3)) (10 : Int32) w24.1).bind fun M25 =>
  (L_X11_named (108 : Int32) (111 : Int32) (99 : Int32) (107 : Int32) (0 : Int32) M25).bind fun w26 =>
  (uL w26.2 21 (some (nc M3)) (11 : Int32) w26.1).bind fun M27 =>
  (L_X11_named (100 : Int32) (97 : Int32) (121 : Int32) (0 : Int32) (0 : Int32) M27).bind fun w28 =>
  (uL w28.2 21 (some (nc M3)) (12 : Int32) w28.1).bind fun M29 =>
  (pR M29 11 13 v0 (some (nc M3))).bind fun M30 =>
  (nA M30 21 (8 : Int32)).bind fun M31 =>
  (pR M31 11 16 v0 (some (nc M30))).bind fun M32 =>
  (nA M32 20 (8 : Int32)).bind fun M33 =>
  (pR M33 11 17 v0 (some (nc M32))).bind fun M34 =>
  (nA M34 21 (6 : Int32)).bind fun M35 =>
  (pR M35 11 19 v0 (some (nc M34))).bind fun M36 =>
  (nA M36 20 (6 : Int32)).bind fun M37 =>
  (pR M37 11 20 v0 (some (nc M36))).bind fun M38 =>
  (nA M38 20 (400 : Int32)).bind fun M39 =>
  (pR M39 11 23 v0 (some (nc M38))).bind fun M40 =>
  (nA M40 20 (400 : Int32)).bind fun M41 =>
  (pR M41 11 24 v0 (some (nc M40))).bind fun M42 =>
  (nA M42 20 (400 : Int32)).bind fun M43 =>
  (pR M43 11 25 v0 (some (nc M42))).bind fun M44 =>
  (nA M44 20 (2000 : Int32)).bind fun M45 =>
  (pR M45 11 28 v0 (some (nc M44))).bind fun M46 =>
  (nA M46 21 (2000 : Int32)).bind fun M47 =>
  (pR M47 11 29 v0 (some (nc M46))).bind fun M48 =>
  (nA M48 20 (2000 : Int32)).bind fun M49 =>
  (pR M49 11 30 v0 (some (nc M48))).bind fun M50 =>
  (nA M50 24 (60 : Int32)).bind fun M51 =>
  (pR M51 11 36 v0 (some (nc M50))).bind fun M52 =>
  (nA M52 20 (60 : Int32)).bind fun M53 =>
  (pR M53 11 37 v0 (some (nc M52))).bind fun M54 =>
  (nA M54 20 (60 : Int32)).bind fun M55 =>
  (pR M55 11 38 v0 (some (nc M54))).bind fun M56 =>
  (nA M56 20 (60 : Int32)).bind fun M57 =>
  (pR M57 11 39 v0 (some (nc M56))).bind fun M58 =>
  (nA M58 21 (480 : Int32)).bind fun M59 =>
  (pR M59 11 40 v0 (some (nc M58))).bind fun M60 =>
  (nA M60 20 (480 : Int32)).bind fun M61 =>
  (pR M61 11 41 v0 (some (nc M60))).bind fun M62 =>
  (nA M62 20 (60 : Int32)).bind fun M63 =>
  (pR M63 11 42 v0 (some (nc M62))).bind fun M64 =>
  (nA M64 21 (360 : Int32)).bind fun M65 =>
  (pR M65 11 43 v0 (some (nc M64))).bind fun M66 =>
  (nA M66 20 (360 : Int32)).bind fun M67 =>
  (pR M67 11 44 v0 (some (nc M66))).bind fun M68 =>
  (nA M68 20 (60 : Int32)).bind fun M69 =>
  (pR M69 11 45 v0 (some (nc M68))).bind fun M70 =>
  (nA M70 20 (7200 : Int32)).bind fun M71 =>
  (pR M71 11 46 v0 (some (nc M70))).bind fun M72 =>
  (nA M72 20 (7200 : Int32)).bind fun M73 =>
  (pR M73 11 47 v0 (some (nc M72))).bind fun M74 =>
  (nA M74 20 (7200 : Int32)).bind fun M75 =>
  (pR M75 11 48 v0 (some (nc M74))).bind fun M76 =>
  (nA M76 20 (60 : Int32)).bind fun M77 =>
  (pR M77 11 49 v0 (some (nc M76))).bind fun M78 =>
  (nA M78 20 (72000 : Int32)).bind fun M79 =>
  (pR M79 11 50 v0 (some (nc M78))).bind fun M80 =>
  (nA M80 21 (72000 : Int32)).bind fun M81 =>
  (pR M81 11 51 v0 (some (nc M80))).bind fun M82 =>
  (nA M82 20 (72000 : Int32)).bind fun M83 =>
  (pR M83 11 52 v0 (some (nc M82))).bind fun M84 =>
  (nA M84 24 (30 : Int32)).bind fun M85 =>
  (pR M85 11 53 v0 (some (nc M84))).bind fun M86 =>
  (nA M86 20 (30 : Int32)).bind fun M87 =>
  (pR M87 11 54 v0 (some (nc M86))).bind fun M88 =>
  (nA M88 20 (30 : Int32)).bind fun M89 =>
  (pR M89 11 55 v0 (some (nc M88))).bind fun M90 =>
  (nA M90 20 (30 : Int32)).bind fun M91 =>
  (pR M91 11 56 v0 (some (nc M90))).bind fun M92 =>
  (nA M92 20 (30 : Int32)).bind fun M93 =>
  (pR M93 11 57 v0 (some (nc M92))).bind fun M94 =>
  (nA M94 21 (2160 : Int32)).bind fun M95 =>
  (pR M95 11 58 v0 (some (nc M94))).bind fun M96 =>
  (nA M96 24 (240 : Int32)).bind fun M97 =>
  (pR M97 11 60 v0 (some (nc M96))).bind fun M98 =>
  (nA M98 21 (240 : Int32)).bind fun M99 =>
  (pR M99 11 61 v0 (some (nc M98))).bind fun M100 =>
  (nA M100 21 (4000 : Int32)).bind fun M101 =>
  (pR M101 11 62 v0 (some (nc M100))).bind fun M102 =>
  (pI M102 11 64 v0 (-1 : Int32)).bind fun M103 =>
  (nA M103 20 (300 : Int32)).bind fun M104 =>
  (pR M104 11 65 v0 (some (nc M103))).bind fun M105 =>
  (nA M105 20 (90 : Int32)).bind fun M106 =>
  (pR M106 11 72 v0 (some (nc M105))).bind fun M107 =>
  (nA M107 20 (20 : Int32)).bind fun M108 =>
  (pR M108 11 74 v0 (some (nc M107))).bind fun M109 =>
  (nA M109 20 (20 : Int32)).bind fun M110 =>
  (pR M110 11 75 v0 (some (nc M109))).bind fun M111 =>
  (nA M111 20 (20 : Int32)).bind fun M112 =>
  (pR M112 11 76 v0 (some (nc M111))).bind fun M113 =>
  (nA M113 20 (160 : Int32)).bind fun M114 =>
  (pR M114 11 77 v0 (some (nc M113))).bind fun M115 =>
  (nA M115 20 (160 : Int32)).bind fun M116 =>
  (pR M116 11 78 v0 (some (nc M115))).bind fun M117 =>
  (nA M117 20 (160 : Int32)).bind fun M118 =>
  (pR M118 11 79 v0 (some (nc M117))).bind fun M119 =>
  (nA M119 20 (20 : Int32)).bind fun M120 =>
  (pR M120 11 80 v0 (some (nc M119))).bind fun M121 =>
  (nA M121 21 (20 : Int32)).bind fun M122 =>
  (pR M122 11 81 v0 (some (nc M121))).bind fun M123 =>
  (nA M123 21 (160 : Int32)).bind fun M124 =>
  (pR M124 11 82 v0 (some (nc M123))).bind fun M125 =>
  some ((), M125)
set_option maxRecDepth 20000 in
set_option maxHeartbeats 4000000 in
theorem lift_X11_init {G : Gt} {M M9 : Mem} {x9 : Unit} {v0 : Option Nat} (h : L_X11_init v0 M = some (x9, M9)) : Mt G mX11_init 1 [vR v0] M none M9 := by
  unfold L_X11_init at h
  refine Mt.of (by decide +kernel) (Nat.le_of_ble_eq_true rfl) ?_
  have hh : V G mX11_init 1 M none M9 M 0 [(0, vR v0)] [] := by
    refine V.aload_n (n := 0) dX11_init_0 rfl rfl ?_
    refine V.objInitR dX11_init_1 oiX11_1 oim oic (by omega) rfl h (fun h => ?_)
    refine V.aload_n (n := 0) dX11_init_4 rfl rfl ?_
    refine V.sipush (x := 900) dX11_init_5 (by decide) rfl ?_
    refine V.newa (k := 23) dX11_init_8 rfl ac23 (by decide) (by decide) rfl h (fun M1 h => ?_)
    refine V.putR dX11_init_10 lkX11_7 (Or.inr ⟨rfl, rfl⟩) rfl rfl h (fun M2 h => ?_)
    refine V.aload_n (n := 0) dX11_init_13 rfl rfl ?_
    refine V.iconst (x := (-1)) dX11_init_14 (by decide) rfl ?_
    refine V.putI dX11_init_15 lkX11_13 (Or.inl rfl) rfl rfl h (fun M3 h => ?_)
    refine V.aload_n (n := 0) dX11_init_18 rfl rfl ?_
    refine V.bipush (x := 13) dX11_init_19 (by decide) rfl ?_
    refine V.newa (k := 21) dX11_init_21 rfl ac21 (by decide) (by decide) rfl h (fun M4 h => ?_)
    refine V.dup dX11_init_23 rfl rfl ?_
    refine V.iconst (x := 0) dX11_init_24 (by decide) rfl ?_
    refine V.lconst (x := 0) dX11_init_25 (by decide) rfl ?_
    refine V.last dX11_init_26 rfl h (fun M5 h => ?_)
    refine V.dup dX11_init_27 rfl rfl ?_
    refine V.iconst (x := 1) dX11_init_28 (by decide) rfl ?_
    refine V.bipush (x := 117) dX11_init_29 (by decide) rfl ?_
    refine V.bipush (x := 110) dX11_init_31 (by decide) rfl ?_
    refine V.bipush (x := 100) dX11_init_33 (by decide) rfl ?_
    refine V.bipush (x := 101) dX11_init_35 (by decide) rfl ?_
    refine V.bipush (x := 114) dX11_init_37 (by decide) rfl ?_
    refine V.callSl (d' := 0) (as := [vI (117 : Int32), vI (110 : Int32), vI (100 : Int32), vI (101 : Int32), vI (114 : Int32)]) (st := [vI (1 : Int32), vR (some (nc M3)), vR (some (nc M3)), vR v0]) dX11_init_39 meX11_named mlX11_17 smX11_named rfl (by omega) (Nat.le_of_ble_eq_true rfl) rfl rfl h (fun v hv => lift_X11_named hv) (fun w6 h => ?_)
    refine V.last dX11_init_42 rfl h (fun M7 h => ?_)
    refine V.dup dX11_init_43 rfl rfl ?_
    refine V.iconst (x := 2) dX11_init_44 (by decide) rfl ?_
    refine V.bipush (x := 99) dX11_init_45 (by decide) rfl ?_
    refine V.bipush (x := 111) dX11_init_47 (by decide) rfl ?_
    refine V.bipush (x := 110) dX11_init_49 (by decide) rfl ?_
    refine V.bipush (x := 115) dX11_init_51 (by decide) rfl ?_
    refine V.bipush (x := 116) dX11_init_53 (by decide) rfl ?_
    refine V.callSl (d' := 0) (as := [vI (99 : Int32), vI (111 : Int32), vI (110 : Int32), vI (115 : Int32), vI (116 : Int32)]) (st := [vI (2 : Int32), vR (some (nc M3)), vR (some (nc M3)), vR v0]) dX11_init_55 meX11_named mlX11_17 smX11_named rfl (by omega) (Nat.le_of_ble_eq_true rfl) rfl rfl h (fun v hv => lift_X11_named hv) (fun w8 h => ?_)
    refine V.last dX11_init_58 rfl h (fun M9 h => ?_)
    refine V.dup dX11_init_59 rfl rfl ?_
    refine V.iconst (x := 3) dX11_init_60 (by decide) rfl ?_
    refine V.bipush (x := 114) dX11_init_61 (by decide) rfl ?_
    refine V.bipush (x := 117) dX11_init_63 (by decide) rfl ?_
    refine V.bipush (x := 108) dX11_init_65 (by decide) rfl ?_
    refine V.bipush (x := 101) dX11_init_67 (by decide) rfl ?_
    refine V.iconst (x := 0) dX11_init_69 (by decide) rfl ?_
    refine V.callSl (d' := 0) (as := [vI (114 : Int32), vI (117 : Int32), vI (108 : Int32), vI (101 : Int32), vI (0 : Int32)]) (st := [vI (3 : Int32), vR (some (nc M3)), vR (some (nc M3)), vR v0]) dX11_init_70 meX11_named mlX11_17 smX11_named rfl (by omega) (Nat.le_of_ble_eq_true rfl) rfl rfl h (fun v hv => lift_X11_named hv) (fun w10 h => ?_)
    refine V.last dX11_init_73 rfl h (fun M11 h => ?_)
    refine V.dup dX11_init_74 rfl rfl ?_
    refine V.iconst (x := 4) dX11_init_75 (by decide) rfl ?_
    refine V.bipush (x := 116) dX11_init_76 (by decide) rfl ?_
    refine V.bipush (x := 97) dX11_init_78 (by decide) rfl ?_
    refine V.bipush (x := 98) dX11_init_80 (by decide) rfl ?_
    refine V.bipush (x := 108) dX11_init_82 (by decide) rfl ?_
    refine V.bipush (x := 101) dX11_init_84 (by decide) rfl ?_
    refine V.callSl (d' := 0) (as := [vI (116 : Int32), vI (97 : Int32), vI (98 : Int32), vI (108 : Int32), vI (101 : Int32)]) (st := [vI (4 : Int32), vR (some (nc M3)), vR (some (nc M3)), vR v0]) dX11_init_86 meX11_named mlX11_17 smX11_named rfl (by omega) (Nat.le_of_ble_eq_true rfl) rfl rfl h (fun v hv => lift_X11_named hv) (fun w12 h => ?_)
    refine V.last dX11_init_89 rfl h (fun M13 h => ?_)
    refine V.dup dX11_init_90 rfl rfl ?_
    refine V.iconst (x := 5) dX11_init_91 (by decide) rfl ?_
    refine V.bipush (x := 99) dX11_init_92 (by decide) rfl ?_
    refine V.bipush (x := 104) dX11_init_94 (by decide) rfl ?_
    refine V.bipush (x := 101) dX11_init_96 (by decide) rfl ?_
    refine V.bipush (x := 99) dX11_init_98 (by decide) rfl ?_
    refine V.bipush (x := 107) dX11_init_100 (by decide) rfl ?_
    refine V.callSl (d' := 0) (as := [vI (99 : Int32), vI (104 : Int32), vI (101 : Int32), vI (99 : Int32), vI (107 : Int32)]) (st := [vI (5 : Int32), vR (some (nc M3)), vR (some (nc M3)), vR v0]) dX11_init_102 meX11_named mlX11_17 smX11_named rfl (by omega) (Nat.le_of_ble_eq_true rfl) rfl rfl h (fun v hv => lift_X11_named hv) (fun w14 h => ?_)
    refine V.last dX11_init_105 rfl h (fun M15 h => ?_)
    refine V.dup dX11_init_106 rfl rfl ?_
    refine V.bipush (x := 6) dX11_init_107 (by decide) rfl ?_
    refine V.bipush (x := 116) dX11_init_109 (by decide) rfl ?_
    refine V.bipush (x := 114) dX11_init_111 (by decide) rfl ?_
    refine V.bipush (x := 121) dX11_init_113 (by decide) rfl ?_
    refine V.iconst (x := 0) dX11_init_115 (by decide) rfl ?_
    refine V.iconst (x := 0) dX11_init_116 (by decide) rfl ?_
    refine V.callSl (d' := 0) (as := [vI (116 : Int32), vI (114 : Int32), vI (121 : Int32), vI (0 : Int32), vI (0 : Int32)]) (st := [vI (6 : Int32), vR (some (nc M3)), vR (some (nc M3)), vR v0]) dX11_init_117 meX11_named mlX11_17 smX11_named rfl (by omega) (Nat.le_of_ble_eq_true rfl) rfl rfl h (fun v hv => lift_X11_named hv) (fun w16 h => ?_)
    refine V.last dX11_init_120 rfl h (fun M17 h => ?_)
    refine V.dup dX11_init_121 rfl rfl ?_
    refine V.bipush (x := 7) dX11_init_122 (by decide) rfl ?_
    refine V.bipush (x := 101) dX11_init_124 (by decide) rfl ?_
    refine V.bipush (x := 108) dX11_init_126 (by decide) rfl ?_
    refine V.bipush (x := 115) dX11_init_128 (by decide) rfl ?_
    refine V.bipush (x := 101) dX11_init_130 (by decide) rfl ?_
    refine V.iconst (x := 0) dX11_init_132 (by decide) rfl ?_
    refine V.callSl (d' := 0) (as := [vI (101 : Int32), vI (108 : Int32), vI (115 : Int32), vI (101 : Int32), vI (0 : Int32)]) (st := [vI (7 : Int32), vR (some (nc M3)), vR (some (nc M3)), vR v0]) dX11_init_133 meX11_named mlX11_17 smX11_named rfl (by omega) (Nat.le_of_ble_eq_true rfl) rfl rfl h (fun v hv => lift_X11_named hv) (fun w18 h => ?_)
    refine V.last dX11_init_136 rfl h (fun M19 h => ?_)
    refine V.dup dX11_init_137 rfl rfl ?_
    refine V.bipush (x := 8) dX11_init_138 (by decide) rfl ?_
    refine V.bipush (x := 97) dX11_init_140 (by decide) rfl ?_
    refine V.bipush (x := 116) dX11_init_142 (by decide) rfl ?_
    refine V.iconst (x := 0) dX11_init_144 (by decide) rfl ?_
    refine V.iconst (x := 0) dX11_init_145 (by decide) rfl ?_
    refine V.iconst (x := 0) dX11_init_146 (by decide) rfl ?_
    refine V.callSl (d' := 0) (as := [vI (97 : Int32), vI (116 : Int32), vI (0 : Int32), vI (0 : Int32), vI (0 : Int32)]) (st := [vI (8 : Int32), vR (some (nc M3)), vR (some (nc M3)), vR v0]) dX11_init_147 meX11_named mlX11_17 smX11_named rfl (by omega) (Nat.le_of_ble_eq_true rfl) rfl rfl h (fun v hv => lift_X11_named hv) (fun w20 h => ?_)
    refine V.last dX11_init_150 rfl h (fun M21 h => ?_)
    refine V.dup dX11_init_151 rfl rfl ?_
    refine V.bipush (x := 9) dX11_init_152 (by decide) rfl ?_
    refine V.bipush (x := 116) dX11_init_154 (by decide) rfl ?_
    refine V.bipush (x := 111) dX11_init_156 (by decide) rfl ?_
    refine V.bipush (x := 110) dX11_init_158 (by decide) rfl ?_
    refine V.bipush (x := 115) dX11_init_160 (by decide) rfl ?_
    refine V.iconst (x := 0) dX11_init_162 (by decide) rfl ?_
    refine V.callSl (d' := 0) (as := [vI (116 : Int32), vI (111 : Int32), vI (110 : Int32), vI (115 : Int32), vI (0 : Int32)]) (st := [vI (9 : Int32), vR (some (nc M3)), vR (some (nc M3)), vR v0]) dX11_init_163 meX11_named mlX11_17 smX11_named rfl (by omega) (Nat.le_of_ble_eq_true rfl) rfl rfl h (fun v hv => lift_X11_named hv) (fun w22 h => ?_)
    refine V.last dX11_init_166 rfl h (fun M23 h => ?_)
    refine V.dup dX11_init_167 rfl rfl ?_
    refine V.bipush (x := 10) dX11_init_168 (by decide) rfl ?_
    refine V.bipush (x := 99) dX11_init_170 (by decide) rfl ?_
    refine V.bipush (x := 97) dX11_init_172 (by decide) rfl ?_
    refine V.bipush (x := 114) dX11_init_174 (by decide) rfl ?_
    refine V.bipush (x := 103) dX11_init_176 (by decide) rfl ?_
    refine V.bipush (x := 111) dX11_init_178 (by decide) rfl ?_
    refine V.callSl (d' := 0) (as := [vI (99 : Int32), vI (97 : Int32), vI (114 : Int32), vI (103 : Int32), vI (111 : Int32)]) (st := [vI (10 : Int32), vR (some (nc M3)), vR (some (nc M3)), vR v0]) dX11_init_180 meX11_named mlX11_17 smX11_named rfl (by omega) (Nat.le_of_ble_eq_true rfl) rfl rfl h (fun v hv => lift_X11_named hv) (fun w24 h => ?_)
    refine V.last dX11_init_183 rfl h (fun M25 h => ?_)
    refine V.dup dX11_init_184 rfl rfl ?_
    refine V.bipush (x := 11) dX11_init_185 (by decide) rfl ?_
    refine V.bipush (x := 108) dX11_init_187 (by decide) rfl ?_
    refine V.bipush (x := 111) dX11_init_189 (by decide) rfl ?_
    refine V.bipush (x := 99) dX11_init_191 (by decide) rfl ?_
    refine V.bipush (x := 107) dX11_init_193 (by decide) rfl ?_
    refine V.iconst (x := 0) dX11_init_195 (by decide) rfl ?_
    refine V.callSl (d' := 0) (as := [vI (108 : Int32), vI (111 : Int32), vI (99 : Int32), vI (107 : Int32), vI (0 : Int32)]) (st := [vI (11 : Int32), vR (some (nc M3)), vR (some (nc M3)), vR v0]) dX11_init_196 meX11_named mlX11_17 smX11_named rfl (by omega) (Nat.le_of_ble_eq_true rfl) rfl rfl h (fun v hv => lift_X11_named hv) (fun w26 h => ?_)
    refine V.last dX11_init_199 rfl h (fun M27 h => ?_)
    refine V.dup dX11_init_200 rfl rfl ?_
    refine V.bipush (x := 12) dX11_init_201 (by decide) rfl ?_
    refine V.bipush (x := 100) dX11_init_203 (by decide) rfl ?_
    refine V.bipush (x := 97) dX11_init_205 (by decide) rfl ?_
    refine V.bipush (x := 121) dX11_init_207 (by decide) rfl ?_
    refine V.iconst (x := 0) dX11_init_209 (by decide) rfl ?_
    refine V.iconst (x := 0) dX11_init_210 (by decide) rfl ?_
    refine V.callSl (d' := 0) (as := [vI (100 : Int32), vI (97 : Int32), vI (121 : Int32), vI (0 : Int32), vI (0 : Int32)]) (st := [vI (12 : Int32), vR (some (nc M3)), vR (some (nc M3)), vR v0]) dX11_init_211 meX11_named mlX11_17 smX11_named rfl (by omega) (Nat.le_of_ble_eq_true rfl) rfl rfl h (fun v hv => lift_X11_named hv) (fun w28 h => ?_)
    refine V.last dX11_init_214 rfl h (fun M29 h => ?_)
    refine V.putR dX11_init_215 lkX11_21 (Or.inr ⟨rfl, rfl⟩) rfl rfl h (fun M30 h => ?_)
    refine V.aload_n (n := 0) dX11_init_218 rfl rfl ?_
    refine V.bipush (x := 8) dX11_init_219 (by decide) rfl ?_
    refine V.newa (k := 21) dX11_init_221 rfl ac21 (by decide) (by decide) rfl h (fun M31 h => ?_)
    refine V.putR dX11_init_223 lkX11_25 (Or.inr ⟨rfl, rfl⟩) rfl rfl h (fun M32 h => ?_)
    refine V.aload_n (n := 0) dX11_init_226 rfl rfl ?_
    refine V.bipush (x := 8) dX11_init_227 (by decide) rfl ?_
    refine V.newa (k := 20) dX11_init_229 rfl ac20 (by decide) (by decide) rfl h (fun M33 h => ?_)
    refine V.putR dX11_init_231 lkX11_28 (Or.inr ⟨rfl, rfl⟩) rfl rfl h (fun M34 h => ?_)
    refine V.aload_n (n := 0) dX11_init_234 rfl rfl ?_
    refine V.bipush (x := 6) dX11_init_235 (by decide) rfl ?_
    refine V.newa (k := 21) dX11_init_237 rfl ac21 (by decide) (by decide) rfl h (fun M35 h => ?_)
    refine V.putR dX11_init_239 lkX11_32 (Or.inr ⟨rfl, rfl⟩) rfl rfl h (fun M36 h => ?_)
    refine V.aload_n (n := 0) dX11_init_242 rfl rfl ?_
    refine V.bipush (x := 6) dX11_init_243 (by decide) rfl ?_
    refine V.newa (k := 20) dX11_init_245 rfl ac20 (by decide) (by decide) rfl h (fun M37 h => ?_)
    refine V.putR dX11_init_247 lkX11_35 (Or.inr ⟨rfl, rfl⟩) rfl rfl h (fun M38 h => ?_)
    refine V.aload_n (n := 0) dX11_init_250 rfl rfl ?_
    refine V.sipush (x := 400) dX11_init_251 (by decide) rfl ?_
    refine V.newa (k := 20) dX11_init_254 rfl ac20 (by decide) (by decide) rfl h (fun M39 h => ?_)
    refine V.putR dX11_init_256 lkX11_38 (Or.inr ⟨rfl, rfl⟩) rfl rfl h (fun M40 h => ?_)
    refine V.aload_n (n := 0) dX11_init_259 rfl rfl ?_
    refine V.sipush (x := 400) dX11_init_260 (by decide) rfl ?_
    refine V.newa (k := 20) dX11_init_263 rfl ac20 (by decide) (by decide) rfl h (fun M41 h => ?_)
    refine V.putR dX11_init_265 lkX11_41 (Or.inr ⟨rfl, rfl⟩) rfl rfl h (fun M42 h => ?_)
    refine V.aload_n (n := 0) dX11_init_268 rfl rfl ?_
    refine V.sipush (x := 400) dX11_init_269 (by decide) rfl ?_
    refine V.newa (k := 20) dX11_init_272 rfl ac20 (by decide) (by decide) rfl h (fun M43 h => ?_)
    refine V.putR dX11_init_274 lkX11_44 (Or.inr ⟨rfl, rfl⟩) rfl rfl h (fun M44 h => ?_)
    refine V.aload_n (n := 0) dX11_init_277 rfl rfl ?_
    refine V.sipush (x := 2000) dX11_init_278 (by decide) rfl ?_
    refine V.newa (k := 20) dX11_init_281 rfl ac20 (by decide) (by decide) rfl h (fun M45 h => ?_)
    refine V.putR dX11_init_283 lkX11_47 (Or.inr ⟨rfl, rfl⟩) rfl rfl h (fun M46 h => ?_)
    refine V.aload_n (n := 0) dX11_init_286 rfl rfl ?_
    refine V.sipush (x := 2000) dX11_init_287 (by decide) rfl ?_
    refine V.newa (k := 21) dX11_init_290 rfl ac21 (by decide) (by decide) rfl h (fun M47 h => ?_)
    refine V.putR dX11_init_292 lkX11_50 (Or.inr ⟨rfl, rfl⟩) rfl rfl h (fun M48 h => ?_)
    refine V.aload_n (n := 0) dX11_init_295 rfl rfl ?_
    refine V.sipush (x := 2000) dX11_init_296 (by decide) rfl ?_
    refine V.newa (k := 20) dX11_init_299 rfl ac20 (by decide) (by decide) rfl h (fun M49 h => ?_)
    refine V.putR dX11_init_301 lkX11_53 (Or.inr ⟨rfl, rfl⟩) rfl rfl h (fun M50 h => ?_)
    refine V.aload_n (n := 0) dX11_init_304 rfl rfl ?_
    refine V.bipush (x := 60) dX11_init_305 (by decide) rfl ?_
    refine V.newa (k := 24) dX11_init_307 rfl ac24 (by decide) (by decide) rfl h (fun M51 h => ?_)
    refine V.putR dX11_init_309 lkX11_56 (Or.inr ⟨rfl, rfl⟩) rfl rfl h (fun M52 h => ?_)
    refine V.aload_n (n := 0) dX11_init_312 rfl rfl ?_
    refine V.bipush (x := 60) dX11_init_313 (by decide) rfl ?_
    refine V.newa (k := 20) dX11_init_315 rfl ac20 (by decide) (by decide) rfl h (fun M53 h => ?_)
    refine V.putR dX11_init_317 lkX11_60 (Or.inr ⟨rfl, rfl⟩) rfl rfl h (fun M54 h => ?_)
    refine V.aload_n (n := 0) dX11_init_320 rfl rfl ?_
    refine V.bipush (x := 60) dX11_init_321 (by decide) rfl ?_
    refine V.newa (k := 20) dX11_init_323 rfl ac20 (by decide) (by decide) rfl h (fun M55 h => ?_)
    refine V.putR dX11_init_325 lkX11_63 (Or.inr ⟨rfl, rfl⟩) rfl rfl h (fun M56 h => ?_)
    refine V.aload_n (n := 0) dX11_init_328 rfl rfl ?_
    refine V.bipush (x := 60) dX11_init_329 (by decide) rfl ?_
    refine V.newa (k := 20) dX11_init_331 rfl ac20 (by decide) (by decide) rfl h (fun M57 h => ?_)
    refine V.putR dX11_init_333 lkX11_66 (Or.inr ⟨rfl, rfl⟩) rfl rfl h (fun M58 h => ?_)
    refine V.aload_n (n := 0) dX11_init_336 rfl rfl ?_
    refine V.sipush (x := 480) dX11_init_337 (by decide) rfl ?_
    refine V.newa (k := 21) dX11_init_340 rfl ac21 (by decide) (by decide) rfl h (fun M59 h => ?_)
    refine V.putR dX11_init_342 lkX11_69 (Or.inr ⟨rfl, rfl⟩) rfl rfl h (fun M60 h => ?_)
    refine V.aload_n (n := 0) dX11_init_345 rfl rfl ?_
    refine V.sipush (x := 480) dX11_init_346 (by decide) rfl ?_
    refine V.newa (k := 20) dX11_init_349 rfl ac20 (by decide) (by decide) rfl h (fun M61 h => ?_)
    refine V.putR dX11_init_351 lkX11_72 (Or.inr ⟨rfl, rfl⟩) rfl rfl h (fun M62 h => ?_)
    refine V.aload_n (n := 0) dX11_init_354 rfl rfl ?_
    refine V.bipush (x := 60) dX11_init_355 (by decide) rfl ?_
    refine V.newa (k := 20) dX11_init_357 rfl ac20 (by decide) (by decide) rfl h (fun M63 h => ?_)
    refine V.putR dX11_init_359 lkX11_75 (Or.inr ⟨rfl, rfl⟩) rfl rfl h (fun M64 h => ?_)
    refine V.aload_n (n := 0) dX11_init_362 rfl rfl ?_
    refine V.sipush (x := 360) dX11_init_363 (by decide) rfl ?_
    refine V.newa (k := 21) dX11_init_366 rfl ac21 (by decide) (by decide) rfl h (fun M65 h => ?_)
    refine V.putR dX11_init_368 lkX11_78 (Or.inr ⟨rfl, rfl⟩) rfl rfl h (fun M66 h => ?_)
    refine V.aload_n (n := 0) dX11_init_371 rfl rfl ?_
    refine V.sipush (x := 360) dX11_init_372 (by decide) rfl ?_
    refine V.newa (k := 20) dX11_init_375 rfl ac20 (by decide) (by decide) rfl h (fun M67 h => ?_)
    refine V.putR dX11_init_377 lkX11_81 (Or.inr ⟨rfl, rfl⟩) rfl rfl h (fun M68 h => ?_)
    refine V.aload_n (n := 0) dX11_init_380 rfl rfl ?_
    refine V.bipush (x := 60) dX11_init_381 (by decide) rfl ?_
    refine V.newa (k := 20) dX11_init_383 rfl ac20 (by decide) (by decide) rfl h (fun M69 h => ?_)
    refine V.putR dX11_init_385 lkX11_84 (Or.inr ⟨rfl, rfl⟩) rfl rfl h (fun M70 h => ?_)
    refine V.aload_n (n := 0) dX11_init_388 rfl rfl ?_
    refine V.sipush (x := 7200) dX11_init_389 (by decide) rfl ?_
    refine V.newa (k := 20) dX11_init_392 rfl ac20 (by decide) (by decide) rfl h (fun M71 h => ?_)
    refine V.putR dX11_init_394 lkX11_87 (Or.inr ⟨rfl, rfl⟩) rfl rfl h (fun M72 h => ?_)
    refine V.aload_n (n := 0) dX11_init_397 rfl rfl ?_
    refine V.sipush (x := 7200) dX11_init_398 (by decide) rfl ?_
    refine V.newa (k := 20) dX11_init_401 rfl ac20 (by decide) (by decide) rfl h (fun M73 h => ?_)
    refine V.putR dX11_init_403 lkX11_90 (Or.inr ⟨rfl, rfl⟩) rfl rfl h (fun M74 h => ?_)
    refine V.aload_n (n := 0) dX11_init_406 rfl rfl ?_
    refine V.sipush (x := 7200) dX11_init_407 (by decide) rfl ?_
    refine V.newa (k := 20) dX11_init_410 rfl ac20 (by decide) (by decide) rfl h (fun M75 h => ?_)
    refine V.putR dX11_init_412 lkX11_93 (Or.inr ⟨rfl, rfl⟩) rfl rfl h (fun M76 h => ?_)
    refine V.aload_n (n := 0) dX11_init_415 rfl rfl ?_
    refine V.bipush (x := 60) dX11_init_416 (by decide) rfl ?_
    refine V.newa (k := 20) dX11_init_418 rfl ac20 (by decide) (by decide) rfl h (fun M77 h => ?_)
    refine V.putR dX11_init_420 lkX11_96 (Or.inr ⟨rfl, rfl⟩) rfl rfl h (fun M78 h => ?_)
    refine V.aload_n (n := 0) dX11_init_423 rfl rfl ?_
    refine V.ldc (x := (72000)) dX11_init_424 ciX11_99 rfl ?_
    refine V.newa (k := 20) dX11_init_426 rfl ac20 (by decide) (by decide) rfl h (fun M79 h => ?_)
    refine V.putR dX11_init_428 lkX11_100 (Or.inr ⟨rfl, rfl⟩) rfl rfl h (fun M80 h => ?_)
    refine V.aload_n (n := 0) dX11_init_431 rfl rfl ?_
    refine V.ldc (x := (72000)) dX11_init_432 ciX11_99 rfl ?_
    refine V.newa (k := 21) dX11_init_434 rfl ac21 (by decide) (by decide) rfl h (fun M81 h => ?_)
    refine V.putR dX11_init_436 lkX11_103 (Or.inr ⟨rfl, rfl⟩) rfl rfl h (fun M82 h => ?_)
    refine V.aload_n (n := 0) dX11_init_439 rfl rfl ?_
    refine V.ldc (x := (72000)) dX11_init_440 ciX11_99 rfl ?_
    refine V.newa (k := 20) dX11_init_442 rfl ac20 (by decide) (by decide) rfl h (fun M83 h => ?_)
    refine V.putR dX11_init_444 lkX11_106 (Or.inr ⟨rfl, rfl⟩) rfl rfl h (fun M84 h => ?_)
    refine V.aload_n (n := 0) dX11_init_447 rfl rfl ?_
    refine V.bipush (x := 30) dX11_init_448 (by decide) rfl ?_
    refine V.newa (k := 24) dX11_init_450 rfl ac24 (by decide) (by decide) rfl h (fun M85 h => ?_)
    refine V.putR dX11_init_452 lkX11_109 (Or.inr ⟨rfl, rfl⟩) rfl rfl h (fun M86 h => ?_)
    refine V.aload_n (n := 0) dX11_init_455 rfl rfl ?_
    refine V.bipush (x := 30) dX11_init_456 (by decide) rfl ?_
    refine V.newa (k := 20) dX11_init_458 rfl ac20 (by decide) (by decide) rfl h (fun M87 h => ?_)
    refine V.putR dX11_init_460 lkX11_112 (Or.inr ⟨rfl, rfl⟩) rfl rfl h (fun M88 h => ?_)
    refine V.aload_n (n := 0) dX11_init_463 rfl rfl ?_
    refine V.bipush (x := 30) dX11_init_464 (by decide) rfl ?_
    refine V.newa (k := 20) dX11_init_466 rfl ac20 (by decide) (by decide) rfl h (fun M89 h => ?_)
    refine V.putR dX11_init_468 lkX11_115 (Or.inr ⟨rfl, rfl⟩) rfl rfl h (fun M90 h => ?_)
    refine V.aload_n (n := 0) dX11_init_471 rfl rfl ?_
    refine V.bipush (x := 30) dX11_init_472 (by decide) rfl ?_
    refine V.newa (k := 20) dX11_init_474 rfl ac20 (by decide) (by decide) rfl h (fun M91 h => ?_)
    refine V.putR dX11_init_476 lkX11_118 (Or.inr ⟨rfl, rfl⟩) rfl rfl h (fun M92 h => ?_)
    refine V.aload_n (n := 0) dX11_init_479 rfl rfl ?_
    refine V.bipush (x := 30) dX11_init_480 (by decide) rfl ?_
    refine V.newa (k := 20) dX11_init_482 rfl ac20 (by decide) (by decide) rfl h (fun M93 h => ?_)
    refine V.putR dX11_init_484 lkX11_121 (Or.inr ⟨rfl, rfl⟩) rfl rfl h (fun M94 h => ?_)
    refine V.aload_n (n := 0) dX11_init_487 rfl rfl ?_
    refine V.sipush (x := 2160) dX11_init_488 (by decide) rfl ?_
    refine V.newa (k := 21) dX11_init_491 rfl ac21 (by decide) (by decide) rfl h (fun M95 h => ?_)
    refine V.putR dX11_init_493 lkX11_124 (Or.inr ⟨rfl, rfl⟩) rfl rfl h (fun M96 h => ?_)
    refine V.aload_n (n := 0) dX11_init_496 rfl rfl ?_
    refine V.sipush (x := 240) dX11_init_497 (by decide) rfl ?_
    refine V.newa (k := 24) dX11_init_500 rfl ac24 (by decide) (by decide) rfl h (fun M97 h => ?_)
    refine V.putR dX11_init_502 lkX11_127 (Or.inr ⟨rfl, rfl⟩) rfl rfl h (fun M98 h => ?_)
    refine V.aload_n (n := 0) dX11_init_505 rfl rfl ?_
    refine V.sipush (x := 240) dX11_init_506 (by decide) rfl ?_
    refine V.newa (k := 21) dX11_init_509 rfl ac21 (by decide) (by decide) rfl h (fun M99 h => ?_)
    refine V.putR dX11_init_511 lkX11_130 (Or.inr ⟨rfl, rfl⟩) rfl rfl h (fun M100 h => ?_)
    refine V.aload_n (n := 0) dX11_init_514 rfl rfl ?_
    refine V.sipush (x := 4000) dX11_init_515 (by decide) rfl ?_
    refine V.newa (k := 21) dX11_init_518 rfl ac21 (by decide) (by decide) rfl h (fun M101 h => ?_)
    refine V.putR dX11_init_520 lkX11_133 (Or.inr ⟨rfl, rfl⟩) rfl rfl h (fun M102 h => ?_)
    refine V.aload_n (n := 0) dX11_init_523 rfl rfl ?_
    refine V.iconst (x := (-1)) dX11_init_524 (by decide) rfl ?_
    refine V.putI dX11_init_525 lkX11_136 (Or.inl rfl) rfl rfl h (fun M103 h => ?_)
    refine V.aload_n (n := 0) dX11_init_528 rfl rfl ?_
    refine V.sipush (x := 300) dX11_init_529 (by decide) rfl ?_
    refine V.newa (k := 20) dX11_init_532 rfl ac20 (by decide) (by decide) rfl h (fun M104 h => ?_)
    refine V.putR dX11_init_534 lkX11_139 (Or.inr ⟨rfl, rfl⟩) rfl rfl h (fun M105 h => ?_)
    refine V.aload_n (n := 0) dX11_init_537 rfl rfl ?_
    refine V.bipush (x := 90) dX11_init_538 (by decide) rfl ?_
    refine V.newa (k := 20) dX11_init_540 rfl ac20 (by decide) (by decide) rfl h (fun M106 h => ?_)
    refine V.putR dX11_init_542 lkX11_142 (Or.inr ⟨rfl, rfl⟩) rfl rfl h (fun M107 h => ?_)
    refine V.aload_n (n := 0) dX11_init_545 rfl rfl ?_
    refine V.bipush (x := 20) dX11_init_546 (by decide) rfl ?_
    refine V.newa (k := 20) dX11_init_548 rfl ac20 (by decide) (by decide) rfl h (fun M108 h => ?_)
    refine V.putR dX11_init_550 lkX11_145 (Or.inr ⟨rfl, rfl⟩) rfl rfl h (fun M109 h => ?_)
    refine V.aload_n (n := 0) dX11_init_553 rfl rfl ?_
    refine V.bipush (x := 20) dX11_init_554 (by decide) rfl ?_
    refine V.newa (k := 20) dX11_init_556 rfl ac20 (by decide) (by decide) rfl h (fun M110 h => ?_)
    refine V.putR dX11_init_558 lkX11_148 (Or.inr ⟨rfl, rfl⟩) rfl rfl h (fun M111 h => ?_)
    refine V.aload_n (n := 0) dX11_init_561 rfl rfl ?_
    refine V.bipush (x := 20) dX11_init_562 (by decide) rfl ?_
    refine V.newa (k := 20) dX11_init_564 rfl ac20 (by decide) (by decide) rfl h (fun M112 h => ?_)
    refine V.putR dX11_init_566 lkX11_151 (Or.inr ⟨rfl, rfl⟩) rfl rfl h (fun M113 h => ?_)
    refine V.aload_n (n := 0) dX11_init_569 rfl rfl ?_
    refine V.sipush (x := 160) dX11_init_570 (by decide) rfl ?_
    refine V.newa (k := 20) dX11_init_573 rfl ac20 (by decide) (by decide) rfl h (fun M114 h => ?_)
    refine V.putR dX11_init_575 lkX11_154 (Or.inr ⟨rfl, rfl⟩) rfl rfl h (fun M115 h => ?_)
    refine V.aload_n (n := 0) dX11_init_578 rfl rfl ?_
    refine V.sipush (x := 160) dX11_init_579 (by decide) rfl ?_
    refine V.newa (k := 20) dX11_init_582 rfl ac20 (by decide) (by decide) rfl h (fun M116 h => ?_)
    refine V.putR dX11_init_584 lkX11_157 (Or.inr ⟨rfl, rfl⟩) rfl rfl h (fun M117 h => ?_)
    refine V.aload_n (n := 0) dX11_init_587 rfl rfl ?_
    refine V.sipush (x := 160) dX11_init_588 (by decide) rfl ?_
    refine V.newa (k := 20) dX11_init_591 rfl ac20 (by decide) (by decide) rfl h (fun M118 h => ?_)
    refine V.putR dX11_init_593 lkX11_160 (Or.inr ⟨rfl, rfl⟩) rfl rfl h (fun M119 h => ?_)
    refine V.aload_n (n := 0) dX11_init_596 rfl rfl ?_
    refine V.bipush (x := 20) dX11_init_597 (by decide) rfl ?_
    refine V.newa (k := 20) dX11_init_599 rfl ac20 (by decide) (by decide) rfl h (fun M120 h => ?_)
    refine V.putR dX11_init_601 lkX11_163 (Or.inr ⟨rfl, rfl⟩) rfl rfl h (fun M121 h => ?_)
    refine V.aload_n (n := 0) dX11_init_604 rfl rfl ?_
    refine V.bipush (x := 20) dX11_init_605 (by decide) rfl ?_
    refine V.newa (k := 21) dX11_init_607 rfl ac21 (by decide) (by decide) rfl h (fun M122 h => ?_)
    refine V.putR dX11_init_609 lkX11_166 (Or.inr ⟨rfl, rfl⟩) rfl rfl h (fun M123 h => ?_)
    refine V.aload_n (n := 0) dX11_init_612 rfl rfl ?_
    refine V.sipush (x := 160) dX11_init_613 (by decide) rfl ?_
    refine V.newa (k := 21) dX11_init_616 rfl ac21 (by decide) (by decide) rfl h (fun M124 h => ?_)
    refine V.putR dX11_init_618 lkX11_169 (Or.inr ⟨rfl, rfl⟩) rfl rfl h (fun M125 h => ?_)
    exact V.vret dX11_init_621 rfl h
  exact hh
def J_X11_feed_71 (k_18 : Option Nat → Int32 → Int32 → Int32 → Int32 → Int32 → Int32 → Mem → Option (Int32 × Mem)) (v0 : Option Nat) (v1 : Int32) (v2 : Int32) (v3 : Int32) (v4 : Int32) (v5 : Int32) (v6 : Int32) (s0 : Int32) (M : Mem) : Option (Int32 × Mem) :=
  (fR M 11 0 v0).bind fun x1 =>
  (fI M 11 1 v0).bind fun x2 =>
  if (4 : Int32) = 0 then none else
  (uN M 23 x1 x2 ((s0 >>> (((24 : Int32) - ((8 : Int32) * (v6 - v6 / (4 : Int32) * (4 : Int32)))) &&& 31)).toInt8.toInt32)).bind fun M3 =>
  (fI M3 11 1 v0).bind fun x4 =>
  (pI M3 11 1 v0 (x4 + (1 : Int32))).bind fun M5 =>
  k_18 v0 v1 v2 v3 v4 v5 (v6 + 1) M5
set_option maxRecDepth 20000 in
set_option maxHeartbeats 4000000 in
theorem lab_X11_feed_71 {G : Gt} {M0 M9 : Mem} {x9 : Int32} {k_18 : Option Nat → Int32 → Int32 → Int32 → Int32 → Int32 → Int32 → Mem → Option (Int32 × Mem)} (hk_18 : ∀ (v0 : Option Nat) (v1 : Int32) (v2 : Int32) (v3 : Int32) (v4 : Int32) (v5 : Int32) (v6 : Int32) (Ma : Mem), k_18 v0 v1 v2 v3 v4 v5 v6 Ma = some (x9, M9) → V G mX11_feed 0 M0 (some (vI x9)) M9 Ma 18 [(0, vR v0), (1, vI v1), (2, vI v2), (3, vI v3), (4, vI v4), (5, vI v5), (6, vI v6)] []) {v0 : Option Nat} {v1 : Int32} {v2 : Int32} {v3 : Int32} {v4 : Int32} {v5 : Int32} {v6 : Int32} {s0 : Int32} {M : Mem} (h : J_X11_feed_71 k_18 v0 v1 v2 v3 v4 v5 v6 s0 M = some (x9, M9)) : V G mX11_feed 0 M0 (some (vI x9)) M9 M 71 [(0, vR v0), (1, vI v1), (2, vI v2), (3, vI v3), (4, vI v4), (5, vI v5), (6, vI v6)] [vI s0] := by
  unfold J_X11_feed_71 at h
  refine V.istore dX11_feed_71 (by decide) rfl rfl ?_
  refine V.aload_n (n := 1) dX11_feed_73 rfl rfl ?_
  refine V.getR dX11_feed_74 lkX11_7 rfl rfl h (fun x1 h => ?_)
  refine V.aload_n (n := 1) dX11_feed_77 rfl rfl ?_
  refine V.getI dX11_feed_78 lkX11_172 rfl rfl h (fun x2 h => ?_)
  refine V.iload (n := 0) dX11_feed_81 rfl rfl ?_
  refine V.bipush (x := 24) dX11_feed_83 (by decide) rfl ?_
  refine V.bipush (x := 8) dX11_feed_85 (by decide) rfl ?_
  refine V.iload (n := 7) dX11_feed_87 rfl rfl ?_
  refine V.iconst (x := 4) dX11_feed_89 (by decide) rfl ?_
  refine V.irem dX11_feed_90 h rfl (fun h => ?_)
  refine V.imul dX11_feed_91 rfl ?_
  refine V.isub dX11_feed_92 rfl ?_
  refine V.ishr dX11_feed_93 rfl ?_
  refine V.i2b dX11_feed_94 rfl ?_
  refine V.bast dX11_feed_95 rfl h (fun M3 h => ?_)
  refine V.aload_n (n := 1) dX11_feed_96 rfl rfl ?_
  refine V.dup dX11_feed_97 rfl rfl ?_
  refine V.getI dX11_feed_98 lkX11_172 rfl rfl h (fun x4 h => ?_)
  refine V.iconst (x := 1) dX11_feed_101 (by decide) rfl ?_
  refine V.iadd dX11_feed_102 rfl ?_
  refine V.putI dX11_feed_103 lkX11_172 (Or.inl rfl) rfl rfl h (fun M5 h => ?_)
  refine V.iinc (n := 7) (x := v6 + 1) dX11_feed_106 rfl (by rfl) (by decide) rfl rfl ?_
  refine V.goto (q := 18) dX11_feed_109 (by decide) ?_
  exact V.sub [2, 3, 4, 5, 6, 7, 0] rfl (hk_18 _ _ _ _ _ _ _ _ h)
def J_X11_feed_18 : Nat → Option Nat → Int32 → Int32 → Int32 → Int32 → Int32 → Int32 → Mem → Option (Int32 × Mem)
  | 0 => fun _ _ _ _ _ _ _ _ => none
  | n + 1 => fun v0 v1 v2 v3 v4 v5 v6 M =>
  if (20 : Int32) ≤ v6 then
  ((fI M 11 1 v0).bind fun x6 =>
  some (x6, M))
  else
  (if (4 : Int32) ≤ v6 then
  (if (8 : Int32) ≤ v6 then
  (if (12 : Int32) ≤ v6 then
  (if (16 : Int32) ≤ v6 then
  (J_X11_feed_71 (J_X11_feed_18 n) v0 v1 v2 v3 v4 v5 v6 v5 M)
  else
  (J_X11_feed_71 (J_X11_feed_18 n) v0 v1 v2 v3 v4 v5 v6 v4 M))
  else
  (J_X11_feed_71 (J_X11_feed_18 n) v0 v1 v2 v3 v4 v5 v6 v3 M))
  else
  (J_X11_feed_71 (J_X11_feed_18 n) v0 v1 v2 v3 v4 v5 v6 v2 M))
  else
  (J_X11_feed_71 (J_X11_feed_18 n) v0 v1 v2 v3 v4 v5 v6 v1 M))
set_option maxRecDepth 20000 in
set_option maxHeartbeats 4000000 in
theorem lab_X11_feed_18 {G : Gt} {M0 M9 : Mem} {x9 : Int32} : ∀ (n : Nat) (v0 : Option Nat) (v1 : Int32) (v2 : Int32) (v3 : Int32) (v4 : Int32) (v5 : Int32) (v6 : Int32) (M : Mem), J_X11_feed_18 n v0 v1 v2 v3 v4 v5 v6 M = some (x9, M9) → V G mX11_feed 0 M0 (some (vI x9)) M9 M 18 [(0, vR v0), (1, vI v1), (2, vI v2), (3, vI v3), (4, vI v4), (5, vI v5), (6, vI v6)] [] := by
  intro n
  induction n with
  | zero => intro v0 v1 v2 v3 v4 v5 v6 M h; exact nomatch h
  | succ n ih =>
    intro v0 v1 v2 v3 v4 v5 v6 M h
    unfold J_X11_feed_18 at h
    refine V.iload (n := 6) dX11_feed_18 rfl rfl ?_
    refine V.bipush (x := 20) dX11_feed_20 (by decide) rfl ?_
    refine V.icmp_ge (q := 112) dX11_feed_22 (by decide) rfl h (fun h => ?_) (fun h => ?_)
    · refine V.aload_n (n := 0) dX11_feed_112 rfl rfl ?_
      refine V.getI dX11_feed_113 lkX11_172 rfl rfl h (fun x6 h => ?_)
      exact V.iret dX11_feed_116 rfl h
    · refine V.iload (n := 6) dX11_feed_25 rfl rfl ?_
      refine V.iconst (x := 4) dX11_feed_27 (by decide) rfl ?_
      refine V.icmp_ge (q := 35) dX11_feed_28 (by decide) rfl h (fun h => ?_) (fun h => ?_)
      · refine V.iload (n := 6) dX11_feed_35 rfl rfl ?_
        refine V.bipush (x := 8) dX11_feed_37 (by decide) rfl ?_
        refine V.icmp_ge (q := 46) dX11_feed_39 (by decide) rfl h (fun h => ?_) (fun h => ?_)
        · refine V.iload (n := 6) dX11_feed_46 rfl rfl ?_
          refine V.bipush (x := 12) dX11_feed_48 (by decide) rfl ?_
          refine V.icmp_ge (q := 57) dX11_feed_50 (by decide) rfl h (fun h => ?_) (fun h => ?_)
          · refine V.iload (n := 6) dX11_feed_57 rfl rfl ?_
            refine V.bipush (x := 16) dX11_feed_59 (by decide) rfl ?_
            refine V.icmp_ge (q := 69) dX11_feed_61 (by decide) rfl h (fun h => ?_) (fun h => ?_)
            · refine V.iload (n := 5) dX11_feed_69 rfl rfl ?_
              exact (lab_X11_feed_71 ih h)
            · refine V.iload (n := 4) dX11_feed_64 rfl rfl ?_
              refine V.goto (q := 71) dX11_feed_66 (by decide) ?_
              exact (lab_X11_feed_71 ih h)
          · refine V.iload_n (n := 3) dX11_feed_53 rfl rfl ?_
            refine V.goto (q := 71) dX11_feed_54 (by decide) ?_
            exact (lab_X11_feed_71 ih h)
        · refine V.iload_n (n := 2) dX11_feed_42 rfl rfl ?_
          refine V.goto (q := 71) dX11_feed_43 (by decide) ?_
          exact (lab_X11_feed_71 ih h)
      · refine V.iload_n (n := 1) dX11_feed_31 rfl rfl ?_
        refine V.goto (q := 71) dX11_feed_32 (by decide) ?_
        exact (lab_X11_feed_71 ih h)
def L_X11_feed (v0 : Option Nat) (v1 : Int32) (v2 : Int32) (v3 : Int32) (v4 : Int32) (v5 : Int32) (M : Mem) : Option (Int32 × Mem) :=
  (fI M 11 1 v0).bind fun x7 =>
  if (x7 + (20 : Int32)) ≤ (900 : Int32) then
  (J_X11_feed_18 FU v0 v1 v2 v3 v4 v5 (0 : Int32) M)
  else
  (some ((-1 : Int32), M))
set_option maxRecDepth 20000 in
set_option maxHeartbeats 4000000 in
theorem lift_X11_feed {G : Gt} {M M9 : Mem} {x9 : Int32} {v0 : Option Nat} {v1 : Int32} {v2 : Int32} {v3 : Int32} {v4 : Int32} {v5 : Int32} (h : L_X11_feed v0 v1 v2 v3 v4 v5 M = some (x9, M9)) : Mt G mX11_feed 0 [vR v0, vI v1, vI v2, vI v3, vI v4, vI v5] M (some (vI x9)) M9 := by
  unfold L_X11_feed at h
  refine Mt.of (by decide +kernel) (Nat.le_of_ble_eq_true rfl) ?_
  have hh : V G mX11_feed 0 M (some (vI x9)) M9 M 0 [(0, vR v0), (1, vI v1), (2, vI v2), (3, vI v3), (4, vI v4), (5, vI v5)] [] := by
    refine V.aload_n (n := 0) dX11_feed_0 rfl rfl ?_
    refine V.getI dX11_feed_1 lkX11_172 rfl rfl h (fun x7 h => ?_)
    refine V.bipush (x := 20) dX11_feed_4 (by decide) rfl ?_
    refine V.iadd dX11_feed_6 rfl ?_
    refine V.sipush (x := 900) dX11_feed_7 (by decide) rfl ?_
    refine V.icmp_le (q := 15) dX11_feed_10 (by decide) rfl h (fun h => ?_) (fun h => ?_)
    · refine V.iconst (x := 0) dX11_feed_15 (by decide) rfl ?_
      refine V.istore dX11_feed_16 (by decide) rfl rfl ?_
      exact V.sub [1, 2, 3, 4, 5, 6, 0] rfl (lab_X11_feed_18 FU _ _ _ _ _ _ _ _ h)
    · refine V.iconst (x := (-1)) dX11_feed_13 (by decide) rfl ?_
      exact V.iret dX11_feed_14 rfl h
  exact hh
def L_X11_end (v0 : Option Nat) (v1 : Int32) (M : Mem) : Option (Int32 × Mem) :=
  if v1 < 0 then
  (some ((-1 : Int32), M))
  else
  ((fI M 11 1 v0).bind fun x1 =>
  if v1 ≤ x1 then
  ((pI M 11 1 v0 v1).bind fun M2 =>
  some (v1, M2))
  else
  (some ((-1 : Int32), M)))
set_option maxRecDepth 20000 in
set_option maxHeartbeats 4000000 in
theorem lift_X11_end {G : Gt} {M M9 : Mem} {x9 : Int32} {v0 : Option Nat} {v1 : Int32} (h : L_X11_end v0 v1 M = some (x9, M9)) : Mt G mX11_end 0 [vR v0, vI v1] M (some (vI x9)) M9 := by
  unfold L_X11_end at h
  refine Mt.of (by decide +kernel) (Nat.le_of_ble_eq_true rfl) ?_
  have hh : V G mX11_end 0 M (some (vI x9)) M9 M 0 [(0, vR v0), (1, vI v1)] [] := by
    refine V.iload_n (n := 1) dX11_end_0 rfl rfl ?_
    refine V.if_lt (q := 12) dX11_end_1 (by decide) rfl h (fun h => ?_) (fun h => ?_)
    · refine V.iconst (x := (-1)) dX11_end_12 (by decide) rfl ?_
      exact V.iret dX11_end_13 rfl h
    · refine V.iload_n (n := 1) dX11_end_4 rfl rfl ?_
      refine V.aload_n (n := 0) dX11_end_5 rfl rfl ?_
      refine V.getI dX11_end_6 lkX11_172 rfl rfl h (fun x1 h => ?_)
      refine V.icmp_le (q := 14) dX11_end_9 (by decide) rfl h (fun h => ?_) (fun h => ?_)
      · refine V.aload_n (n := 0) dX11_end_14 rfl rfl ?_
        refine V.iload_n (n := 1) dX11_end_15 rfl rfl ?_
        refine V.putI dX11_end_16 lkX11_172 (Or.inl rfl) rfl rfl h (fun M2 h => ?_)
        refine V.iload_n (n := 1) dX11_end_19 rfl rfl ?_
        exact V.iret dX11_end_20 rfl h
      · refine V.iconst (x := (-1)) dX11_end_12 (by decide) rfl ?_
        exact V.iret dX11_end_13 rfl h
  exact hh
def L_X11_byteAt (v0 : Option Nat) (v1 : Int32) (M : Mem) : Option (Int32 × Mem) :=
  (fI M 11 4 v0).bind fun x1 =>
  if x1 ≤ v1 then
  (some ((-1 : Int32), M))
  else
  ((fR M 11 0 v0).bind fun x2 =>
  (aI M 23 x2 v1).bind fun x3 =>
  some (x3 &&& (255 : Int32), M))
set_option maxRecDepth 20000 in
set_option maxHeartbeats 4000000 in
theorem lift_X11_byteAt {G : Gt} {M M9 : Mem} {x9 : Int32} {v0 : Option Nat} {v1 : Int32} (h : L_X11_byteAt v0 v1 M = some (x9, M9)) : Mt G mX11_byteAt 0 [vR v0, vI v1] M (some (vI x9)) M9 := by
  unfold L_X11_byteAt at h
  refine Mt.of (by decide +kernel) (Nat.le_of_ble_eq_true rfl) ?_
  have hh : V G mX11_byteAt 0 M (some (vI x9)) M9 M 0 [(0, vR v0), (1, vI v1)] [] := by
    refine V.iload_n (n := 1) dX11_byteAt_0 rfl rfl ?_
    refine V.aload_n (n := 0) dX11_byteAt_1 rfl rfl ?_
    refine V.getI dX11_byteAt_2 lkX11_175 rfl rfl h (fun x1 h => ?_)
    refine V.icmp_ge (q := 21) dX11_byteAt_5 (by decide) rfl h (fun h => ?_) (fun h => ?_)
    · refine V.iconst (x := (-1)) dX11_byteAt_21 (by decide) rfl ?_
      exact V.iret dX11_byteAt_22 rfl h
    · refine V.aload_n (n := 0) dX11_byteAt_8 rfl rfl ?_
      refine V.getR dX11_byteAt_9 lkX11_7 rfl rfl h (fun x2 h => ?_)
      refine V.iload_n (n := 1) dX11_byteAt_12 rfl rfl ?_
      refine V.bald dX11_byteAt_13 rfl h (fun x3 h => ?_)
      refine V.sipush (x := 255) dX11_byteAt_14 (by decide) rfl ?_
      refine V.iand dX11_byteAt_17 rfl ?_
      refine V.goto (q := 22) dX11_byteAt_18 (by decide) ?_
      exact V.iret dX11_byteAt_22 rfl h
  exact hh
def L_X11_isLetter (v0 : Int32) (M : Mem) : Option (Int32 × Mem) :=
  if v0 < (97 : Int32) then
  ((bz (0 : Int32)).bind fun _ => some ((0 : Int32), M))
  else
  (if (122 : Int32) < v0 then
  ((bz (0 : Int32)).bind fun _ => some ((0 : Int32), M))
  else
  ((bz (1 : Int32)).bind fun _ => some ((1 : Int32), M)))
set_option maxRecDepth 20000 in
set_option maxHeartbeats 4000000 in
theorem lift_X11_isLetter {G : Gt} {M M9 : Mem} {x9 : Int32} {v0 : Int32} (h : L_X11_isLetter v0 M = some (x9, M9)) : Mt G mX11_isLetter 0 [vI v0] M (some (vI x9)) M9 := by
  unfold L_X11_isLetter at h
  refine Mt.of (by decide +kernel) (Nat.le_of_ble_eq_true rfl) ?_
  have hh : V G mX11_isLetter 0 M (some (vI x9)) M9 M 0 [(0, vI v0)] [] := by
    refine V.iload_n (n := 0) dX11_isLetter_0 rfl rfl ?_
    refine V.bipush (x := 97) dX11_isLetter_1 (by decide) rfl ?_
    refine V.icmp_lt (q := 16) dX11_isLetter_3 (by decide) rfl h (fun h => ?_) (fun h => ?_)
    · refine V.iconst (x := 0) dX11_isLetter_16 (by decide) rfl ?_
      exact V.zret dX11_isLetter_17 rfl h
    · refine V.iload_n (n := 0) dX11_isLetter_6 rfl rfl ?_
      refine V.bipush (x := 122) dX11_isLetter_7 (by decide) rfl ?_
      refine V.icmp_gt (q := 16) dX11_isLetter_9 (by decide) rfl h (fun h => ?_) (fun h => ?_)
      · refine V.iconst (x := 0) dX11_isLetter_16 (by decide) rfl ?_
        exact V.zret dX11_isLetter_17 rfl h
      · refine V.iconst (x := 1) dX11_isLetter_12 (by decide) rfl ?_
        refine V.goto (q := 17) dX11_isLetter_13 (by decide) ?_
        exact V.zret dX11_isLetter_17 rfl h
  exact hh
def L_X11_isDigit (v0 : Int32) (M : Mem) : Option (Int32 × Mem) :=
  if v0 < (48 : Int32) then
  ((bz (0 : Int32)).bind fun _ => some ((0 : Int32), M))
  else
  (if (57 : Int32) < v0 then
  ((bz (0 : Int32)).bind fun _ => some ((0 : Int32), M))
  else
  ((bz (1 : Int32)).bind fun _ => some ((1 : Int32), M)))
set_option maxRecDepth 20000 in
set_option maxHeartbeats 4000000 in
theorem lift_X11_isDigit {G : Gt} {M M9 : Mem} {x9 : Int32} {v0 : Int32} (h : L_X11_isDigit v0 M = some (x9, M9)) : Mt G mX11_isDigit 0 [vI v0] M (some (vI x9)) M9 := by
  unfold L_X11_isDigit at h
  refine Mt.of (by decide +kernel) (Nat.le_of_ble_eq_true rfl) ?_
  have hh : V G mX11_isDigit 0 M (some (vI x9)) M9 M 0 [(0, vI v0)] [] := by
    refine V.iload_n (n := 0) dX11_isDigit_0 rfl rfl ?_
    refine V.bipush (x := 48) dX11_isDigit_1 (by decide) rfl ?_
    refine V.icmp_lt (q := 16) dX11_isDigit_3 (by decide) rfl h (fun h => ?_) (fun h => ?_)
    · refine V.iconst (x := 0) dX11_isDigit_16 (by decide) rfl ?_
      exact V.zret dX11_isDigit_17 rfl h
    · refine V.iload_n (n := 0) dX11_isDigit_6 rfl rfl ?_
      refine V.bipush (x := 57) dX11_isDigit_7 (by decide) rfl ?_
      refine V.icmp_gt (q := 16) dX11_isDigit_9 (by decide) rfl h (fun h => ?_) (fun h => ?_)
      · refine V.iconst (x := 0) dX11_isDigit_16 (by decide) rfl ?_
        exact V.zret dX11_isDigit_17 rfl h
      · refine V.iconst (x := 1) dX11_isDigit_12 (by decide) rfl ?_
        refine V.goto (q := 17) dX11_isDigit_13 (by decide) ?_
        exact V.zret dX11_isDigit_17 rfl h
  exact hh
def L_X11_isSignByte (v0 : Int32) (M : Mem) : Option (Int32 × Mem) :=
  if v0 = 37 then
  ((bz (1 : Int32)).bind fun _ => some ((1 : Int32), M))
  else
  if v0 = 40 then
  ((bz (1 : Int32)).bind fun _ => some ((1 : Int32), M))
  else
  if v0 = 41 then
  ((bz (1 : Int32)).bind fun _ => some ((1 : Int32), M))
  else
  if v0 = 42 then
  ((bz (1 : Int32)).bind fun _ => some ((1 : Int32), M))
  else
  if v0 = 43 then
  ((bz (1 : Int32)).bind fun _ => some ((1 : Int32), M))
  else
  if v0 = 45 then
  ((bz (1 : Int32)).bind fun _ => some ((1 : Int32), M))
  else
  if v0 = 46 then
  ((bz (1 : Int32)).bind fun _ => some ((1 : Int32), M))
  else
  if v0 = 47 then
  ((bz (1 : Int32)).bind fun _ => some ((1 : Int32), M))
  else
  if v0 = 58 then
  ((bz (1 : Int32)).bind fun _ => some ((1 : Int32), M))
  else
  if v0 = 59 then
  ((bz (1 : Int32)).bind fun _ => some ((1 : Int32), M))
  else
  if v0 = 60 then
  ((bz (1 : Int32)).bind fun _ => some ((1 : Int32), M))
  else
  if v0 = 61 then
  ((bz (1 : Int32)).bind fun _ => some ((1 : Int32), M))
  else
  if v0 = 62 then
  ((bz (1 : Int32)).bind fun _ => some ((1 : Int32), M))
  else
  if v0 = 63 then
  ((bz (1 : Int32)).bind fun _ => some ((1 : Int32), M))
  else
  if v0 = 91 then
  ((bz (1 : Int32)).bind fun _ => some ((1 : Int32), M))
  else
  if v0 = 93 then
  ((bz (1 : Int32)).bind fun _ => some ((1 : Int32), M))
  else
  if v0 = 123 then
  ((bz (1 : Int32)).bind fun _ => some ((1 : Int32), M))
  else
  if v0 = 125 then
  ((bz (1 : Int32)).bind fun _ => some ((1 : Int32), M))
  else
  ((bz (0 : Int32)).bind fun _ => some ((0 : Int32), M))
set_option maxRecDepth 20000 in
set_option maxHeartbeats 4000000 in
theorem lift_X11_isSignByte {G : Gt} {M M9 : Mem} {x9 : Int32} {v0 : Int32} (h : L_X11_isSignByte v0 M = some (x9, M9)) : Mt G mX11_isSignByte 0 [vI v0] M (some (vI x9)) M9 := by
  unfold L_X11_isSignByte at h
  refine Mt.of (by decide +kernel) (Nat.le_of_ble_eq_true rfl) ?_
  have hh : V G mX11_isSignByte 0 M (some (vI x9)) M9 M 0 [(0, vI v0)] [] := by
    refine V.iload_n (n := 0) dX11_isSignByte_0 rfl rfl ?_
    refine V.sw h (fun hx h => ?_) (fun n37 h => ?_)
    · refine V.swt hx ?_
      refine V.lookup (q := 156) (x := 37) (off := 155) dX11_isSignByte_1 (by decide) (by decide) (by decide) ?_
      refine V.iconst (x := 1) dX11_isSignByte_156 (by decide) rfl ?_
      exact V.zret dX11_isSignByte_157 rfl h
    refine V.sw h (fun hx h => ?_) (fun n40 h => ?_)
    · refine V.swt hx ?_
      refine V.lookup (q := 156) (x := 40) (off := 155) dX11_isSignByte_1 (by decide) (by decide) (by decide) ?_
      refine V.iconst (x := 1) dX11_isSignByte_156 (by decide) rfl ?_
      exact V.zret dX11_isSignByte_157 rfl h
    refine V.sw h (fun hx h => ?_) (fun n41 h => ?_)
    · refine V.swt hx ?_
      refine V.lookup (q := 156) (x := 41) (off := 155) dX11_isSignByte_1 (by decide) (by decide) (by decide) ?_
      refine V.iconst (x := 1) dX11_isSignByte_156 (by decide) rfl ?_
      exact V.zret dX11_isSignByte_157 rfl h
    refine V.sw h (fun hx h => ?_) (fun n42 h => ?_)
    · refine V.swt hx ?_
      refine V.lookup (q := 156) (x := 42) (off := 155) dX11_isSignByte_1 (by decide) (by decide) (by decide) ?_
      refine V.iconst (x := 1) dX11_isSignByte_156 (by decide) rfl ?_
      exact V.zret dX11_isSignByte_157 rfl h
    refine V.sw h (fun hx h => ?_) (fun n43 h => ?_)
    · refine V.swt hx ?_
      refine V.lookup (q := 156) (x := 43) (off := 155) dX11_isSignByte_1 (by decide) (by decide) (by decide) ?_
      refine V.iconst (x := 1) dX11_isSignByte_156 (by decide) rfl ?_
      exact V.zret dX11_isSignByte_157 rfl h
    refine V.sw h (fun hx h => ?_) (fun n45 h => ?_)
    · refine V.swt hx ?_
      refine V.lookup (q := 156) (x := 45) (off := 155) dX11_isSignByte_1 (by decide) (by decide) (by decide) ?_
      refine V.iconst (x := 1) dX11_isSignByte_156 (by decide) rfl ?_
      exact V.zret dX11_isSignByte_157 rfl h
    refine V.sw h (fun hx h => ?_) (fun n46 h => ?_)
    · refine V.swt hx ?_
      refine V.lookup (q := 156) (x := 46) (off := 155) dX11_isSignByte_1 (by decide) (by decide) (by decide) ?_
      refine V.iconst (x := 1) dX11_isSignByte_156 (by decide) rfl ?_
      exact V.zret dX11_isSignByte_157 rfl h
    refine V.sw h (fun hx h => ?_) (fun n47 h => ?_)
    · refine V.swt hx ?_
      refine V.lookup (q := 156) (x := 47) (off := 155) dX11_isSignByte_1 (by decide) (by decide) (by decide) ?_
      refine V.iconst (x := 1) dX11_isSignByte_156 (by decide) rfl ?_
      exact V.zret dX11_isSignByte_157 rfl h
    refine V.sw h (fun hx h => ?_) (fun n58 h => ?_)
    · refine V.swt hx ?_
      refine V.lookup (q := 156) (x := 58) (off := 155) dX11_isSignByte_1 (by decide) (by decide) (by decide) ?_
      refine V.iconst (x := 1) dX11_isSignByte_156 (by decide) rfl ?_
      exact V.zret dX11_isSignByte_157 rfl h
    refine V.sw h (fun hx h => ?_) (fun n59 h => ?_)
    · refine V.swt hx ?_
      refine V.lookup (q := 156) (x := 59) (off := 155) dX11_isSignByte_1 (by decide) (by decide) (by decide) ?_
      refine V.iconst (x := 1) dX11_isSignByte_156 (by decide) rfl ?_
      exact V.zret dX11_isSignByte_157 rfl h
    refine V.sw h (fun hx h => ?_) (fun n60 h => ?_)
    · refine V.swt hx ?_
      refine V.lookup (q := 156) (x := 60) (off := 155) dX11_isSignByte_1 (by decide) (by decide) (by decide) ?_
      refine V.iconst (x := 1) dX11_isSignByte_156 (by decide) rfl ?_
      exact V.zret dX11_isSignByte_157 rfl h
    refine V.sw h (fun hx h => ?_) (fun n61 h => ?_)
    · refine V.swt hx ?_
      refine V.lookup (q := 156) (x := 61) (off := 155) dX11_isSignByte_1 (by decide) (by decide) (by decide) ?_
      refine V.iconst (x := 1) dX11_isSignByte_156 (by decide) rfl ?_
      exact V.zret dX11_isSignByte_157 rfl h
    refine V.sw h (fun hx h => ?_) (fun n62 h => ?_)
    · refine V.swt hx ?_
      refine V.lookup (q := 156) (x := 62) (off := 155) dX11_isSignByte_1 (by decide) (by decide) (by decide) ?_
      refine V.iconst (x := 1) dX11_isSignByte_156 (by decide) rfl ?_
      exact V.zret dX11_isSignByte_157 rfl h
    refine V.sw h (fun hx h => ?_) (fun n63 h => ?_)
    · refine V.swt hx ?_
      refine V.lookup (q := 156) (x := 63) (off := 155) dX11_isSignByte_1 (by decide) (by decide) (by decide) ?_
      refine V.iconst (x := 1) dX11_isSignByte_156 (by decide) rfl ?_
      exact V.zret dX11_isSignByte_157 rfl h
    refine V.sw h (fun hx h => ?_) (fun n91 h => ?_)
    · refine V.swt hx ?_
      refine V.lookup (q := 156) (x := 91) (off := 155) dX11_isSignByte_1 (by decide) (by decide) (by decide) ?_
      refine V.iconst (x := 1) dX11_isSignByte_156 (by decide) rfl ?_
      exact V.zret dX11_isSignByte_157 rfl h
    refine V.sw h (fun hx h => ?_) (fun n93 h => ?_)
    · refine V.swt hx ?_
      refine V.lookup (q := 156) (x := 93) (off := 155) dX11_isSignByte_1 (by decide) (by decide) (by decide) ?_
      refine V.iconst (x := 1) dX11_isSignByte_156 (by decide) rfl ?_
      exact V.zret dX11_isSignByte_157 rfl h
    refine V.sw h (fun hx h => ?_) (fun n123 h => ?_)
    · refine V.swt hx ?_
      refine V.lookup (q := 156) (x := 123) (off := 155) dX11_isSignByte_1 (by decide) (by decide) (by decide) ?_
      refine V.iconst (x := 1) dX11_isSignByte_156 (by decide) rfl ?_
      exact V.zret dX11_isSignByte_157 rfl h
    refine V.sw h (fun hx h => ?_) (fun n125 h => ?_)
    · refine V.swt hx ?_
      refine V.lookup (q := 156) (x := 125) (off := 155) dX11_isSignByte_1 (by decide) (by decide) (by decide) ?_
      refine V.iconst (x := 1) dX11_isSignByte_156 (by decide) rfl ?_
      exact V.zret dX11_isSignByte_157 rfl h
    have e37 := sw_ne n37
    have e40 := sw_ne n40
    have e41 := sw_ne n41
    have e42 := sw_ne n42
    have e43 := sw_ne n43
    have e45 := sw_ne n45
    have e46 := sw_ne n46
    have e47 := sw_ne n47
    have e58 := sw_ne n58
    have e59 := sw_ne n59
    have e60 := sw_ne n60
    have e61 := sw_ne n61
    have e62 := sw_ne n62
    have e63 := sw_ne n63
    have e91 := sw_ne n91
    have e93 := sw_ne n93
    have e123 := sw_ne n123
    have e125 := sw_ne n125
    have t37 : (37 : Int32).toInt = 37 := by decide
    have t40 : (40 : Int32).toInt = 40 := by decide
    have t41 : (41 : Int32).toInt = 41 := by decide
    have t42 : (42 : Int32).toInt = 42 := by decide
    have t43 : (43 : Int32).toInt = 43 := by decide
    have t45 : (45 : Int32).toInt = 45 := by decide
    have t46 : (46 : Int32).toInt = 46 := by decide
    have t47 : (47 : Int32).toInt = 47 := by decide
    have t58 : (58 : Int32).toInt = 58 := by decide
    have t59 : (59 : Int32).toInt = 59 := by decide
    have t60 : (60 : Int32).toInt = 60 := by decide
    have t61 : (61 : Int32).toInt = 61 := by decide
    have t62 : (62 : Int32).toInt = 62 := by decide
    have t63 : (63 : Int32).toInt = 63 := by decide
    have t91 : (91 : Int32).toInt = 91 := by decide
    have t93 : (93 : Int32).toInt = 93 := by decide
    have t123 : (123 : Int32).toInt = 123 := by decide
    have t125 : (125 : Int32).toInt = 125 := by decide
    rw [t37] at e37
    rw [t40] at e40
    rw [t41] at e41
    rw [t42] at e42
    rw [t43] at e43
    rw [t45] at e45
    rw [t46] at e46
    rw [t47] at e47
    rw [t58] at e58
    rw [t59] at e59
    rw [t60] at e60
    rw [t61] at e61
    rw [t62] at e62
    rw [t63] at e63
    rw [t91] at e91
    rw [t93] at e93
    rw [t123] at e123
    rw [t125] at e125
    refine V.lookup (q := 158) (off := 157) dX11_isSignByte_1 (by decide) (by simp [Op.lookupswitch.offset, Ne.symm e37, e37, Ne.symm e40, e40, Ne.symm e41, e41, Ne.symm e42, e42, Ne.symm e43, e43, Ne.symm e45, e45, Ne.symm e46, e46, Ne.symm e47, e47, Ne.symm e58, e58, Ne.symm e59, e59, Ne.symm e60, e60, Ne.symm e61, e61, Ne.symm e62, e62, Ne.symm e63, e63, Ne.symm e91, e91, Ne.symm e93, e93, Ne.symm e123, e123, Ne.symm e125, e125]) (by decide) ?_
    refine V.iconst (x := 0) dX11_isSignByte_158 (by decide) rfl ?_
    exact V.zret dX11_isSignByte_159 rfl h
  exact hh
def J_X11_advance_26 (k_0 : Option Nat → Mem → Option (Unit × Mem)) (v0 : Option Nat) (M : Mem) : Option (Unit × Mem) :=
  (fI M 11 5 v0).bind fun x1 =>
  (pI M 11 5 v0 (x1 + (1 : Int32))).bind fun M2 =>
  k_0 v0 M2
set_option maxRecDepth 20000 in
set_option maxHeartbeats 4000000 in
theorem lab_X11_advance_26 {G : Gt} {M0 M9 : Mem} {x9 : Unit} {k_0 : Option Nat → Mem → Option (Unit × Mem)} (hk_0 : ∀ (v0 : Option Nat) (Ma : Mem), k_0 v0 Ma = some (x9, M9) → V G mX11_advance 1 M0 none M9 Ma 0 [(0, vR v0)] []) {v0 : Option Nat} {M : Mem} (h : J_X11_advance_26 k_0 v0 M = some (x9, M9)) : V G mX11_advance 1 M0 none M9 M 26 [(0, vR v0)] [] := by
  unfold J_X11_advance_26 at h
  refine V.aload_n (n := 0) dX11_advance_26 rfl rfl ?_
  refine V.dup dX11_advance_27 rfl rfl ?_
  refine V.getI dX11_advance_28 lkX11_182 rfl rfl h (fun x1 h => ?_)
  refine V.iconst (x := 1) dX11_advance_31 (by decide) rfl ?_
  refine V.iadd dX11_advance_32 rfl ?_
  refine V.putI dX11_advance_33 lkX11_182 (Or.inl rfl) rfl rfl h (fun M2 h => ?_)
  refine V.goto (q := 0) dX11_advance_36 (by decide) ?_
  exact (hk_0 _ _ h)
def J_X11_advance_139 (k_85 : Option Nat → Mem → Option (Unit × Mem)) (v0 : Option Nat) (M : Mem) : Option (Unit × Mem) :=
  (fI M 11 5 v0).bind fun x3 =>
  (pI M 11 5 v0 (x3 + (1 : Int32))).bind fun M4 =>
  k_85 v0 M4
set_option maxRecDepth 20000 in
set_option maxHeartbeats 4000000 in
theorem lab_X11_advance_139 {G : Gt} {M0 M9 : Mem} {x9 : Unit} {k_85 : Option Nat → Mem → Option (Unit × Mem)} (hk_85 : ∀ (v0 : Option Nat) (Ma : Mem), k_85 v0 Ma = some (x9, M9) → V G mX11_advance 1 M0 none M9 Ma 85 [(0, vR v0)] []) {v0 : Option Nat} {M : Mem} (h : J_X11_advance_139 k_85 v0 M = some (x9, M9)) : V G mX11_advance 1 M0 none M9 M 139 [(0, vR v0)] [] := by
  unfold J_X11_advance_139 at h
  refine V.aload_n (n := 0) dX11_advance_139 rfl rfl ?_
  refine V.dup dX11_advance_140 rfl rfl ?_
  refine V.getI dX11_advance_141 lkX11_182 rfl rfl h (fun x3 h => ?_)
  refine V.iconst (x := 1) dX11_advance_144 (by decide) rfl ?_
  refine V.iadd dX11_advance_145 rfl ?_
  refine V.putI dX11_advance_146 lkX11_182 (Or.inl rfl) rfl rfl h (fun M4 h => ?_)
  refine V.goto (q := 85) dX11_advance_149 (by decide) ?_
  exact (hk_85 _ _ h)
def J_X11_advance_209 (k_177 : Option Nat → Int32 → Mem → Option (Unit × Mem)) (v0 : Option Nat) (v2 : Int32) (M : Mem) : Option (Unit × Mem) :=
  k_177 v0 (v2 + 1) M
set_option maxRecDepth 20000 in
set_option maxHeartbeats 4000000 in
theorem lab_X11_advance_209 {G : Gt} {M0 M9 : Mem} {x9 : Unit} {k_177 : Option Nat → Int32 → Mem → Option (Unit × Mem)} (hk_177 : ∀ (v0 : Option Nat) (v2 : Int32) (Ma : Mem), k_177 v0 v2 Ma = some (x9, M9) → V G mX11_advance 1 M0 none M9 Ma 177 [(0, vR v0), (2, vI v2)] []) {v0 : Option Nat} {v2 : Int32} {M : Mem} (h : J_X11_advance_209 k_177 v0 v2 M = some (x9, M9)) : V G mX11_advance 1 M0 none M9 M 209 [(0, vR v0), (2, vI v2)] [] := by
  unfold J_X11_advance_209 at h
  refine V.iinc (n := 1) (x := v2 + 1) dX11_advance_209 rfl (by rfl) (by decide) rfl rfl ?_
  refine V.goto (q := 177) dX11_advance_212 (by decide) ?_
  exact V.sub [1, 0] rfl (hk_177 _ _ _ h)
def J_X11_advance_215 (v0 : Option Nat) (M : Mem) : Option (Unit × Mem) :=
  (fI M 11 10 v0).bind fun x5 =>
  if x5 ≤ 0 then
  (some ((), M))
  else
  ((pI M 11 6 v0 (2 : Int32)).bind fun M6 =>
  some ((), M6))
set_option maxRecDepth 20000 in
set_option maxHeartbeats 4000000 in
theorem lab_X11_advance_215 {G : Gt} {M0 M9 : Mem} {x9 : Unit} {v0 : Option Nat} {M : Mem} (h : J_X11_advance_215 v0 M = some (x9, M9)) : V G mX11_advance 1 M0 none M9 M 215 [(0, vR v0)] [] := by
  unfold J_X11_advance_215 at h
  refine V.aload_n (n := 0) dX11_advance_215 rfl rfl ?_
  refine V.getI dX11_advance_216 lkX11_192 rfl rfl h (fun x5 h => ?_)
  refine V.if_le (q := 358) dX11_advance_219 (by decide) rfl h (fun h => ?_) (fun h => ?_)
  · exact V.vret dX11_advance_358 rfl h
  · refine V.aload_n (n := 0) dX11_advance_222 rfl rfl ?_
    refine V.iconst (x := 2) dX11_advance_223 (by decide) rfl ?_
    refine V.putI dX11_advance_224 lkX11_195 (Or.inl rfl) rfl rfl h (fun M6 h => ?_)
    refine V.goto (q := 358) dX11_advance_227 (by decide) ?_
    exact V.vret dX11_advance_358 rfl h
def J_X11_advance_177 : Nat → Option Nat → Int32 → Mem → Option (Unit × Mem)
  | 0 => fun _ _ _ => none
  | n + 1 => fun v0 v2 M =>
  if (13 : Int32) ≤ v2 then
  (J_X11_advance_215 v0 M)
  else
  ((fI M 11 6 v0).bind fun x7 =>
  if ¬ x7 = 0 then
  (J_X11_advance_215 v0 M)
  else
  ((fR M 11 13 v0).bind fun x8 =>
  (aL M 21 x8 v2).bind fun x9 =>
  (fL M 11 8 v0).bind fun x10 =>
  if ¬ x9 = x10 then
  (J_X11_advance_209 (J_X11_advance_177 n) v0 v2 M)
  else
  ((pI M 11 10 v0 v2).bind fun M11 =>
  J_X11_advance_209 (J_X11_advance_177 n) v0 v2 M11)))
set_option maxRecDepth 20000 in
set_option maxHeartbeats 4000000 in
theorem lab_X11_advance_177 {G : Gt} {M0 M9 : Mem} {x9 : Unit} : ∀ (n : Nat) (v0 : Option Nat) (v2 : Int32) (M : Mem), J_X11_advance_177 n v0 v2 M = some (x9, M9) → V G mX11_advance 1 M0 none M9 M 177 [(0, vR v0), (2, vI v2)] [] := by
  intro n
  induction n with
  | zero => intro v0 v2 M h; exact nomatch h
  | succ n ih =>
    intro v0 v2 M h
    unfold J_X11_advance_177 at h
    refine V.iload_n (n := 1) dX11_advance_177 rfl rfl ?_
    refine V.bipush (x := 13) dX11_advance_178 (by decide) rfl ?_
    refine V.icmp_ge (q := 215) dX11_advance_180 (by decide) rfl h (fun h => ?_) (fun h => ?_)
    · exact V.sub [0] rfl (lab_X11_advance_215 h)
    · refine V.aload_n (n := 0) dX11_advance_183 rfl rfl ?_
      refine V.getI dX11_advance_184 lkX11_195 rfl rfl h (fun x7 h => ?_)
      refine V.if_ne (q := 215) dX11_advance_187 (by decide) rfl h (fun h => ?_) (fun h => ?_)
      · exact V.sub [0] rfl (lab_X11_advance_215 h)
      · refine V.aload_n (n := 0) dX11_advance_190 rfl rfl ?_
        refine V.getR dX11_advance_191 lkX11_21 rfl rfl h (fun x8 h => ?_)
        refine V.iload_n (n := 1) dX11_advance_194 rfl rfl ?_
        refine V.lald dX11_advance_195 rfl h (fun x9 h => ?_)
        refine V.aload_n (n := 0) dX11_advance_196 rfl rfl ?_
        refine V.getL dX11_advance_197 lkX11_202 rfl rfl h (fun x10 h => ?_)
        refine V.lif_ne (q := 209) dX11_advance_200 rfl dX11_advance_201 (by decide) rfl h (fun h => ?_) (fun h => ?_)
        · exact (lab_X11_advance_209 ih h)
        · refine V.aload_n (n := 0) dX11_advance_204 rfl rfl ?_
          refine V.iload_n (n := 1) dX11_advance_205 rfl rfl ?_
          refine V.putI dX11_advance_206 lkX11_192 (Or.inl rfl) rfl rfl h (fun M11 h => ?_)
          exact (lab_X11_advance_209 ih h)
def J_X11_advance_172 (v0 : Option Nat) (s0 : Option Nat) (s1 : Int32) (M : Mem) : Option (Unit × Mem) :=
  (pI M 11 6 s0 s1).bind fun M12 =>
  J_X11_advance_177 FU v0 (1 : Int32) M12
set_option maxRecDepth 20000 in
set_option maxHeartbeats 4000000 in
theorem lab_X11_advance_172 {G : Gt} {M0 M9 : Mem} {x9 : Unit} {v0 : Option Nat} {s0 : Option Nat} {s1 : Int32} {M : Mem} (h : J_X11_advance_172 v0 s0 s1 M = some (x9, M9)) : V G mX11_advance 1 M0 none M9 M 172 [(0, vR v0)] [vI s1, vR s0] := by
  unfold J_X11_advance_172 at h
  refine V.putI dX11_advance_172 lkX11_195 (Or.inl rfl) rfl rfl h (fun M12 h => ?_)
  refine V.iconst (x := 1) dX11_advance_175 (by decide) rfl ?_
  refine V.istore_n dX11_advance_176 rfl (by decide) rfl rfl ?_
  exact V.sub [1, 0] rfl (lab_X11_advance_177 FU _ _ _ h)
def J_X11_advance_85 : Nat → Option Nat → Mem → Option (Unit × Mem)
  | 0 => fun _ _ => none
  | n + 1 => fun v0 M =>
  (fI M 11 5 v0).bind fun x13 =>
  (ck M 11 v0).bind fun _ => (L_X11_byteAt v0 x13 M).bind fun w14 =>
  (L_X11_isLetter w14.1 w14.2).bind fun w15 =>
  if w15.1 = 0 then
  ((fI w15.2 11 5 v0).bind fun x16 =>
  (fI w15.2 11 7 v0).bind fun x17 =>
  if (x16 - x17) ≤ (8 : Int32) then
  (J_X11_advance_172 v0 v0 (0 : Int32) w15.2)
  else
  (J_X11_advance_172 v0 v0 (5 : Int32) w15.2))
  else
  ((fI w15.2 11 5 v0).bind fun x18 =>
  (fI w15.2 11 7 v0).bind fun x19 =>
  if (8 : Int32) ≤ (x18 - x19) then
  (J_X11_advance_139 (J_X11_advance_85 n) v0 w15.2)
  else
  ((fL w15.2 11 8 v0).bind fun x20 =>
  (fI w15.2 11 5 v0).bind fun x21 =>
  (ck w15.2 11 v0).bind fun _ => (L_X11_byteAt v0 x21 w15.2).bind fun w22 =>
  (pL w22.2 11 8 v0 ((((32 : Int64) * x20) + w22.1.toInt64) - (96 : Int64))).bind fun M23 =>
  J_X11_advance_139 (J_X11_advance_85 n) v0 M23))
set_option maxRecDepth 20000 in
set_option maxHeartbeats 4000000 in
theorem lab_X11_advance_85 {G : Gt} {M0 M9 : Mem} {x9 : Unit} : ∀ (n : Nat) (v0 : Option Nat) (M : Mem), J_X11_advance_85 n v0 M = some (x9, M9) → V G mX11_advance 1 M0 none M9 M 85 [(0, vR v0)] [] := by
  intro n
  induction n with
  | zero => intro v0 M h; exact nomatch h
  | succ n ih =>
    intro v0 M h
    unfold J_X11_advance_85 at h
    refine V.aload_n (n := 0) dX11_advance_85 rfl rfl ?_
    refine V.aload_n (n := 0) dX11_advance_86 rfl rfl ?_
    refine V.getI dX11_advance_87 lkX11_182 rfl rfl h (fun x13 h => ?_)
    refine V.callVi (d' := 0) (as := [vI x13]) (st := []) dX11_advance_90 meX11_byteAt mlX11_185 imX11_byteAt seX11_byteAt clsX11 rfl (by omega) (Nat.le_of_ble_eq_true rfl) rfl rfl h (fun v hv => lift_X11_byteAt hv) (fun w14 h => ?_)
    refine V.callSi (d' := 0) (as := [vI w14.1]) (st := []) dX11_advance_93 meX11_isLetter mlX11_198 smX11_isLetter rfl (by omega) (Nat.le_of_ble_eq_true rfl) rfl rfl h (fun v hv => lift_X11_isLetter hv) (fun w15 h => ?_)
    refine V.if_eq (q := 152) dX11_advance_96 (by decide) rfl h (fun h => ?_) (fun h => ?_)
    · refine V.aload_n (n := 0) dX11_advance_152 rfl rfl ?_
      refine V.aload_n (n := 0) dX11_advance_153 rfl rfl ?_
      refine V.getI dX11_advance_154 lkX11_182 rfl rfl h (fun x16 h => ?_)
      refine V.aload_n (n := 0) dX11_advance_157 rfl rfl ?_
      refine V.getI dX11_advance_158 lkX11_189 rfl rfl h (fun x17 h => ?_)
      refine V.isub dX11_advance_161 rfl ?_
      refine V.bipush (x := 8) dX11_advance_162 (by decide) rfl ?_
      refine V.icmp_le (q := 171) dX11_advance_164 (by decide) rfl h (fun h => ?_) (fun h => ?_)
      · refine V.iconst (x := 0) dX11_advance_171 (by decide) rfl ?_
        exact (lab_X11_advance_172 h)
      · refine V.iconst (x := 5) dX11_advance_167 (by decide) rfl ?_
        refine V.goto (q := 172) dX11_advance_168 (by decide) ?_
        exact (lab_X11_advance_172 h)
    · refine V.aload_n (n := 0) dX11_advance_99 rfl rfl ?_
      refine V.getI dX11_advance_100 lkX11_182 rfl rfl h (fun x18 h => ?_)
      refine V.aload_n (n := 0) dX11_advance_103 rfl rfl ?_
      refine V.getI dX11_advance_104 lkX11_189 rfl rfl h (fun x19 h => ?_)
      refine V.isub dX11_advance_107 rfl ?_
      refine V.bipush (x := 8) dX11_advance_108 (by decide) rfl ?_
      refine V.icmp_ge (q := 139) dX11_advance_110 (by decide) rfl h (fun h => ?_) (fun h => ?_)
      · exact (lab_X11_advance_139 ih h)
      · refine V.aload_n (n := 0) dX11_advance_113 rfl rfl ?_
        refine V.ldc2 (x := (32)) dX11_advance_114 clX11_180 rfl ?_
        refine V.aload_n (n := 0) dX11_advance_117 rfl rfl ?_
        refine V.getL dX11_advance_118 lkX11_202 rfl rfl h (fun x20 h => ?_)
        refine V.lmul dX11_advance_121 rfl ?_
        refine V.aload_n (n := 0) dX11_advance_122 rfl rfl ?_
        refine V.aload_n (n := 0) dX11_advance_123 rfl rfl ?_
        refine V.getI dX11_advance_124 lkX11_182 rfl rfl h (fun x21 h => ?_)
        refine V.callVi (d' := 0) (as := [vI x21]) (st := [vL ((32 : Int64) * x20), vR v0]) dX11_advance_127 meX11_byteAt mlX11_185 imX11_byteAt seX11_byteAt clsX11 rfl (by omega) (Nat.le_of_ble_eq_true rfl) rfl rfl h (fun v hv => lift_X11_byteAt hv) (fun w22 h => ?_)
        refine V.i2l dX11_advance_130 rfl ?_
        refine V.ladd dX11_advance_131 rfl ?_
        refine V.ldc2 (x := (96)) dX11_advance_132 clX11_178 rfl ?_
        refine V.lsub dX11_advance_135 rfl ?_
        refine V.putL dX11_advance_136 lkX11_202 (Or.inl rfl) rfl rfl h (fun M23 h => ?_)
        exact (lab_X11_advance_139 ih h)
def J_X11_advance_293 (k_242 : Option Nat → Mem → Option (Unit × Mem)) (v0 : Option Nat) (M : Mem) : Option (Unit × Mem) :=
  (fI M 11 5 v0).bind fun x24 =>
  (pI M 11 5 v0 (x24 + (1 : Int32))).bind fun M25 =>
  k_242 v0 M25
set_option maxRecDepth 20000 in
set_option maxHeartbeats 4000000 in
theorem lab_X11_advance_293 {G : Gt} {M0 M9 : Mem} {x9 : Unit} {k_242 : Option Nat → Mem → Option (Unit × Mem)} (hk_242 : ∀ (v0 : Option Nat) (Ma : Mem), k_242 v0 Ma = some (x9, M9) → V G mX11_advance 1 M0 none M9 Ma 242 [(0, vR v0)] []) {v0 : Option Nat} {M : Mem} (h : J_X11_advance_293 k_242 v0 M = some (x9, M9)) : V G mX11_advance 1 M0 none M9 M 293 [(0, vR v0)] [] := by
  unfold J_X11_advance_293 at h
  refine V.aload_n (n := 0) dX11_advance_293 rfl rfl ?_
  refine V.dup dX11_advance_294 rfl rfl ?_
  refine V.getI dX11_advance_295 lkX11_182 rfl rfl h (fun x24 h => ?_)
  refine V.iconst (x := 1) dX11_advance_298 (by decide) rfl ?_
  refine V.iadd dX11_advance_299 rfl ?_
  refine V.putI dX11_advance_300 lkX11_182 (Or.inl rfl) rfl rfl h (fun M25 h => ?_)
  refine V.goto (q := 242) dX11_advance_303 (by decide) ?_
  exact (hk_242 _ _ h)
def J_X11_advance_326 (s0 : Option Nat) (s1 : Int32) (M : Mem) : Option (Unit × Mem) :=
  (pI M 11 6 s0 s1).bind fun M26 =>
  some ((), M26)
set_option maxRecDepth 20000 in
set_option maxHeartbeats 4000000 in
theorem lab_X11_advance_326 {G : Gt} {M0 M9 : Mem} {x9 : Unit} {s0 : Option Nat} {s1 : Int32} {M : Mem} (h : J_X11_advance_326 s0 s1 M = some (x9, M9)) : V G mX11_advance 1 M0 none M9 M 326 [] [vI s1, vR s0] := by
  unfold J_X11_advance_326 at h
  refine V.putI dX11_advance_326 lkX11_195 (Or.inl rfl) rfl rfl h (fun M26 h => ?_)
  refine V.goto (q := 358) dX11_advance_329 (by decide) ?_
  exact V.vret dX11_advance_358 rfl h
def J_X11_advance_242 : Nat → Option Nat → Mem → Option (Unit × Mem)
  | 0 => fun _ _ => none
  | n + 1 => fun v0 M =>
  (fI M 11 5 v0).bind fun x27 =>
  (ck M 11 v0).bind fun _ => (L_X11_byteAt v0 x27 M).bind fun w28 =>
  (L_X11_isDigit w28.1 w28.2).bind fun w29 =>
  if w29.1 = 0 then
  ((fI w29.2 11 5 v0).bind fun x30 =>
  (fI w29.2 11 7 v0).bind fun x31 =>
  if (x30 - x31) ≤ (9 : Int32) then
  (J_X11_advance_326 v0 (1 : Int32) w29.2)
  else
  (J_X11_advance_326 v0 (5 : Int32) w29.2))
  else
  ((fI w29.2 11 5 v0).bind fun x32 =>
  (fI w29.2 11 7 v0).bind fun x33 =>
  if (9 : Int32) ≤ (x32 - x33) then
  (J_X11_advance_293 (J_X11_advance_242 n) v0 w29.2)
  else
  ((fI w29.2 11 9 v0).bind fun x34 =>
  (fI w29.2 11 5 v0).bind fun x35 =>
  (ck w29.2 11 v0).bind fun _ => (L_X11_byteAt v0 x35 w29.2).bind fun w36 =>
  (pI w36.2 11 9 v0 ((((10 : Int32) * x34) + w36.1) - (48 : Int32))).bind fun M37 =>
  J_X11_advance_293 (J_X11_advance_242 n) v0 M37))
set_option maxRecDepth 20000 in
set_option maxHeartbeats 4000000 in
theorem lab_X11_advance_242 {G : Gt} {M0 M9 : Mem} {x9 : Unit} : ∀ (n : Nat) (v0 : Option Nat) (M : Mem), J_X11_advance_242 n v0 M = some (x9, M9) → V G mX11_advance 1 M0 none M9 M 242 [(0, vR v0)] [] := by
  intro n
  induction n with
  | zero => intro v0 M h; exact nomatch h
  | succ n ih =>
    intro v0 M h
    unfold J_X11_advance_242 at h
    refine V.aload_n (n := 0) dX11_advance_242 rfl rfl ?_
    refine V.aload_n (n := 0) dX11_advance_243 rfl rfl ?_
    refine V.getI dX11_advance_244 lkX11_182 rfl rfl h (fun x27 h => ?_)
    refine V.callVi (d' := 0) (as := [vI x27]) (st := []) dX11_advance_247 meX11_byteAt mlX11_185 imX11_byteAt seX11_byteAt clsX11 rfl (by omega) (Nat.le_of_ble_eq_true rfl) rfl rfl h (fun v hv => lift_X11_byteAt hv) (fun w28 h => ?_)
    refine V.callSi (d' := 0) (as := [vI w28.1]) (st := []) dX11_advance_250 meX11_isDigit mlX11_206 smX11_isDigit rfl (by omega) (Nat.le_of_ble_eq_true rfl) rfl rfl h (fun v hv => lift_X11_isDigit hv) (fun w29 h => ?_)
    refine V.if_eq (q := 306) dX11_advance_253 (by decide) rfl h (fun h => ?_) (fun h => ?_)
    · refine V.aload_n (n := 0) dX11_advance_306 rfl rfl ?_
      refine V.aload_n (n := 0) dX11_advance_307 rfl rfl ?_
      refine V.getI dX11_advance_308 lkX11_182 rfl rfl h (fun x30 h => ?_)
      refine V.aload_n (n := 0) dX11_advance_311 rfl rfl ?_
      refine V.getI dX11_advance_312 lkX11_189 rfl rfl h (fun x31 h => ?_)
      refine V.isub dX11_advance_315 rfl ?_
      refine V.bipush (x := 9) dX11_advance_316 (by decide) rfl ?_
      refine V.icmp_le (q := 325) dX11_advance_318 (by decide) rfl h (fun h => ?_) (fun h => ?_)
      · refine V.iconst (x := 1) dX11_advance_325 (by decide) rfl ?_
        exact V.sub [] rfl (lab_X11_advance_326 h)
      · refine V.iconst (x := 5) dX11_advance_321 (by decide) rfl ?_
        refine V.goto (q := 326) dX11_advance_322 (by decide) ?_
        exact V.sub [] rfl (lab_X11_advance_326 h)
    · refine V.aload_n (n := 0) dX11_advance_256 rfl rfl ?_
      refine V.getI dX11_advance_257 lkX11_182 rfl rfl h (fun x32 h => ?_)
      refine V.aload_n (n := 0) dX11_advance_260 rfl rfl ?_
      refine V.getI dX11_advance_261 lkX11_189 rfl rfl h (fun x33 h => ?_)
      refine V.isub dX11_advance_264 rfl ?_
      refine V.bipush (x := 9) dX11_advance_265 (by decide) rfl ?_
      refine V.icmp_ge (q := 293) dX11_advance_267 (by decide) rfl h (fun h => ?_) (fun h => ?_)
      · exact (lab_X11_advance_293 ih h)
      · refine V.aload_n (n := 0) dX11_advance_270 rfl rfl ?_
        refine V.bipush (x := 10) dX11_advance_271 (by decide) rfl ?_
        refine V.aload_n (n := 0) dX11_advance_273 rfl rfl ?_
        refine V.getI dX11_advance_274 lkX11_209 rfl rfl h (fun x34 h => ?_)
        refine V.imul dX11_advance_277 rfl ?_
        refine V.aload_n (n := 0) dX11_advance_278 rfl rfl ?_
        refine V.aload_n (n := 0) dX11_advance_279 rfl rfl ?_
        refine V.getI dX11_advance_280 lkX11_182 rfl rfl h (fun x35 h => ?_)
        refine V.callVi (d' := 0) (as := [vI x35]) (st := [vI ((10 : Int32) * x34), vR v0]) dX11_advance_283 meX11_byteAt mlX11_185 imX11_byteAt seX11_byteAt clsX11 rfl (by omega) (Nat.le_of_ble_eq_true rfl) rfl rfl h (fun v hv => lift_X11_byteAt hv) (fun w36 h => ?_)
        refine V.iadd dX11_advance_286 rfl ?_
        refine V.bipush (x := 48) dX11_advance_287 (by decide) rfl ?_
        refine V.isub dX11_advance_289 rfl ?_
        refine V.putI dX11_advance_290 lkX11_209 (Or.inl rfl) rfl rfl h (fun M37 h => ?_)
        exact (lab_X11_advance_293 ih h)
def J_X11_advance_355 (s0 : Option Nat) (s1 : Int32) (M : Mem) : Option (Unit × Mem) :=
  (pI M 11 6 s0 s1).bind fun M38 =>
  some ((), M38)
set_option maxRecDepth 20000 in
set_option maxHeartbeats 4000000 in
theorem lab_X11_advance_355 {G : Gt} {M0 M9 : Mem} {x9 : Unit} {s0 : Option Nat} {s1 : Int32} {M : Mem} (h : J_X11_advance_355 s0 s1 M = some (x9, M9)) : V G mX11_advance 1 M0 none M9 M 355 [] [vI s1, vR s0] := by
  unfold J_X11_advance_355 at h
  refine V.putI dX11_advance_355 lkX11_195 (Or.inl rfl) rfl rfl h (fun M38 h => ?_)
  exact V.vret dX11_advance_358 rfl h
def J_X11_advance_0 : Nat → Option Nat → Mem → Option (Unit × Mem)
  | 0 => fun _ _ => none
  | n + 1 => fun v0 M =>
  (fI M 11 5 v0).bind fun x39 =>
  (ck M 11 v0).bind fun _ => (L_X11_byteAt v0 x39 M).bind fun w40 =>
  if w40.1 = (10 : Int32) then
  (J_X11_advance_26 (J_X11_advance_0 n) v0 w40.2)
  else
  ((fI w40.2 11 5 v0).bind fun x41 =>
  (ck w40.2 11 v0).bind fun _ => (L_X11_byteAt v0 x41 w40.2).bind fun w42 =>
  if ¬ w42.1 = (32 : Int32) then
  ((fI w42.2 11 5 v0).bind fun x43 =>
  (pI w42.2 11 7 v0 x43).bind fun M44 =>
  (fI M44 11 5 v0).bind fun x45 =>
  (ck M44 11 v0).bind fun _ => (L_X11_byteAt v0 x45 M44).bind fun w46 =>
  (pI w46.2 11 10 v0 (0 : Int32)).bind fun M47 =>
  if 0 ≤ w46.1 then
  ((L_X11_isLetter w46.1 M47).bind fun w48 =>
  if w48.1 = 0 then
  ((L_X11_isDigit w46.1 w48.2).bind fun w49 =>
  if w49.1 = 0 then
  ((fI w49.2 11 5 v0).bind fun x50 =>
  (pI w49.2 11 5 v0 (x50 + (1 : Int32))).bind fun M51 =>
  (L_X11_isSignByte w46.1 M51).bind fun w52 =>
  if w52.1 = 0 then
  (J_X11_advance_355 v0 (5 : Int32) w52.2)
  else
  (J_X11_advance_355 v0 (3 : Int32) w52.2))
  else
  ((pI w49.2 11 9 v0 (0 : Int32)).bind fun M53 =>
  J_X11_advance_242 FU v0 M53))
  else
  ((pL w48.2 11 8 v0 (0 : Int64)).bind fun M54 =>
  J_X11_advance_85 FU v0 M54))
  else
  ((pI M47 11 6 v0 (4 : Int32)).bind fun M55 =>
  some ((), M55)))
  else
  (J_X11_advance_26 (J_X11_advance_0 n) v0 w42.2))
set_option maxRecDepth 20000 in
set_option maxHeartbeats 4000000 in
theorem lab_X11_advance_0 {G : Gt} {M0 M9 : Mem} {x9 : Unit} : ∀ (n : Nat) (v0 : Option Nat) (M : Mem), J_X11_advance_0 n v0 M = some (x9, M9) → V G mX11_advance 1 M0 none M9 M 0 [(0, vR v0)] [] := by
  intro n
  induction n with
  | zero => intro v0 M h; exact nomatch h
  | succ n ih =>
    intro v0 M h
    unfold J_X11_advance_0 at h
    refine V.aload_n (n := 0) dX11_advance_0 rfl rfl ?_
    refine V.aload_n (n := 0) dX11_advance_1 rfl rfl ?_
    refine V.getI dX11_advance_2 lkX11_182 rfl rfl h (fun x39 h => ?_)
    refine V.callVi (d' := 0) (as := [vI x39]) (st := []) dX11_advance_5 meX11_byteAt mlX11_185 imX11_byteAt seX11_byteAt clsX11 rfl (by omega) (Nat.le_of_ble_eq_true rfl) rfl rfl h (fun v hv => lift_X11_byteAt hv) (fun w40 h => ?_)
    refine V.bipush (x := 10) dX11_advance_8 (by decide) rfl ?_
    refine V.icmp_eq (q := 26) dX11_advance_10 (by decide) rfl h (fun h => ?_) (fun h => ?_)
    · exact (lab_X11_advance_26 ih h)
    · refine V.aload_n (n := 0) dX11_advance_13 rfl rfl ?_
      refine V.aload_n (n := 0) dX11_advance_14 rfl rfl ?_
      refine V.getI dX11_advance_15 lkX11_182 rfl rfl h (fun x41 h => ?_)
      refine V.callVi (d' := 0) (as := [vI x41]) (st := []) dX11_advance_18 meX11_byteAt mlX11_185 imX11_byteAt seX11_byteAt clsX11 rfl (by omega) (Nat.le_of_ble_eq_true rfl) rfl rfl h (fun v hv => lift_X11_byteAt hv) (fun w42 h => ?_)
      refine V.bipush (x := 32) dX11_advance_21 (by decide) rfl ?_
      refine V.icmp_ne (q := 39) dX11_advance_23 (by decide) rfl h (fun h => ?_) (fun h => ?_)
      · refine V.aload_n (n := 0) dX11_advance_39 rfl rfl ?_
        refine V.aload_n (n := 0) dX11_advance_40 rfl rfl ?_
        refine V.getI dX11_advance_41 lkX11_182 rfl rfl h (fun x43 h => ?_)
        refine V.putI dX11_advance_44 lkX11_189 (Or.inl rfl) rfl rfl h (fun M44 h => ?_)
        refine V.aload_n (n := 0) dX11_advance_47 rfl rfl ?_
        refine V.aload_n (n := 0) dX11_advance_48 rfl rfl ?_
        refine V.getI dX11_advance_49 lkX11_182 rfl rfl h (fun x45 h => ?_)
        refine V.callVi (d' := 0) (as := [vI x45]) (st := []) dX11_advance_52 meX11_byteAt mlX11_185 imX11_byteAt seX11_byteAt clsX11 rfl (by omega) (Nat.le_of_ble_eq_true rfl) rfl rfl h (fun v hv => lift_X11_byteAt hv) (fun w46 h => ?_)
        refine V.istore_n dX11_advance_55 rfl (by decide) rfl rfl ?_
        refine V.aload_n (n := 1) dX11_advance_56 rfl rfl ?_
        refine V.iconst (x := 0) dX11_advance_57 (by decide) rfl ?_
        refine V.putI dX11_advance_58 lkX11_192 (Or.inl rfl) rfl rfl h (fun M47 h => ?_)
        refine V.iload_n (n := 0) dX11_advance_61 rfl rfl ?_
        refine V.if_ge (q := 73) dX11_advance_62 (by decide) rfl h (fun h => ?_) (fun h => ?_)
        · refine V.iload_n (n := 0) dX11_advance_73 rfl rfl ?_
          refine V.callSi (d' := 0) (as := [vI w46.1]) (st := []) dX11_advance_74 meX11_isLetter mlX11_198 smX11_isLetter rfl (by omega) (Nat.le_of_ble_eq_true rfl) rfl rfl h (fun v hv => lift_X11_isLetter hv) (fun w48 h => ?_)
          refine V.if_eq (q := 230) dX11_advance_77 (by decide) rfl h (fun h => ?_) (fun h => ?_)
          · refine V.iload_n (n := 0) dX11_advance_230 rfl rfl ?_
            refine V.callSi (d' := 0) (as := [vI w46.1]) (st := []) dX11_advance_231 meX11_isDigit mlX11_206 smX11_isDigit rfl (by omega) (Nat.le_of_ble_eq_true rfl) rfl rfl h (fun v hv => lift_X11_isDigit hv) (fun w49 h => ?_)
            refine V.if_eq (q := 332) dX11_advance_234 (by decide) rfl h (fun h => ?_) (fun h => ?_)
            · refine V.aload_n (n := 1) dX11_advance_332 rfl rfl ?_
              refine V.dup dX11_advance_333 rfl rfl ?_
              refine V.getI dX11_advance_334 lkX11_182 rfl rfl h (fun x50 h => ?_)
              refine V.iconst (x := 1) dX11_advance_337 (by decide) rfl ?_
              refine V.iadd dX11_advance_338 rfl ?_
              refine V.putI dX11_advance_339 lkX11_182 (Or.inl rfl) rfl rfl h (fun M51 h => ?_)
              refine V.aload_n (n := 1) dX11_advance_342 rfl rfl ?_
              refine V.iload_n (n := 0) dX11_advance_343 rfl rfl ?_
              refine V.callSi (d' := 0) (as := [vI w46.1]) (st := [vR v0]) dX11_advance_344 meX11_isSignByte mlX11_212 smX11_isSignByte rfl (by omega) (Nat.le_of_ble_eq_true rfl) rfl rfl h (fun v hv => lift_X11_isSignByte hv) (fun w52 h => ?_)
              refine V.if_eq (q := 354) dX11_advance_347 (by decide) rfl h (fun h => ?_) (fun h => ?_)
              · refine V.iconst (x := 5) dX11_advance_354 (by decide) rfl ?_
                exact V.sub [] rfl (lab_X11_advance_355 h)
              · refine V.iconst (x := 3) dX11_advance_350 (by decide) rfl ?_
                refine V.goto (q := 355) dX11_advance_351 (by decide) ?_
                exact V.sub [] rfl (lab_X11_advance_355 h)
            · refine V.aload_n (n := 1) dX11_advance_237 rfl rfl ?_
              refine V.iconst (x := 0) dX11_advance_238 (by decide) rfl ?_
              refine V.putI dX11_advance_239 lkX11_209 (Or.inl rfl) rfl rfl h (fun M53 h => ?_)
              exact V.sub [1] rfl (lab_X11_advance_242 FU _ _ h)
          · refine V.aload_n (n := 1) dX11_advance_80 rfl rfl ?_
            refine V.lconst (x := 0) dX11_advance_81 (by decide) rfl ?_
            refine V.putL dX11_advance_82 lkX11_202 (Or.inl rfl) rfl rfl h (fun M54 h => ?_)
            exact V.sub [1] rfl (lab_X11_advance_85 FU _ _ h)
        · refine V.aload_n (n := 1) dX11_advance_65 rfl rfl ?_
          refine V.iconst (x := 4) dX11_advance_66 (by decide) rfl ?_
          refine V.putI dX11_advance_67 lkX11_195 (Or.inl rfl) rfl rfl h (fun M55 h => ?_)
          refine V.goto (q := 358) dX11_advance_70 (by decide) ?_
          exact V.vret dX11_advance_358 rfl h
      · exact (lab_X11_advance_26 ih h)
def L_X11_advance (v0 : Option Nat) (M : Mem) : Option (Unit × Mem) :=
  J_X11_advance_0 FU v0 M
set_option maxRecDepth 20000 in
set_option maxHeartbeats 4000000 in
theorem lift_X11_advance {G : Gt} {M M9 : Mem} {x9 : Unit} {v0 : Option Nat} (h : L_X11_advance v0 M = some (x9, M9)) : Mt G mX11_advance 1 [vR v0] M none M9 := by
  unfold L_X11_advance at h
  refine Mt.of (by decide +kernel) (Nat.le_of_ble_eq_true rfl) ?_
  have hh : V G mX11_advance 1 M none M9 M 0 [(0, vR v0)] [] := by
    exact (lab_X11_advance_0 FU _ _ h)
  exact hh
def L_X11_stops (v0 : Option Nat) (M : Mem) : Option (Unit × Mem) :=
  (fI M 11 11 v0).bind fun x1 =>
  if x1 = 0 then
  ((pZ M 11 11 v0 (1 : Int32)).bind fun M2 =>
  (pI M2 11 2 v0 (1 : Int32)).bind fun M3 =>
  (fI M3 11 7 v0).bind fun x4 =>
  (pI M3 11 3 v0 x4).bind fun M5 =>
  some ((), M5))
  else
  (some ((), M))
set_option maxRecDepth 20000 in
set_option maxHeartbeats 4000000 in
theorem lift_X11_stops {G : Gt} {M M9 : Mem} {x9 : Unit} {v0 : Option Nat} (h : L_X11_stops v0 M = some (x9, M9)) : Mt G mX11_stops 0 [vR v0] M none M9 := by
  unfold L_X11_stops at h
  refine Mt.of (by decide +kernel) (Nat.le_of_ble_eq_true rfl) ?_
  have hh : V G mX11_stops 0 M none M9 M 0 [(0, vR v0)] [] := by
    refine V.aload_n (n := 0) dX11_stops_0 rfl rfl ?_
    refine V.getI dX11_stops_1 lkX11_215 rfl rfl h (fun x1 h => ?_)
    refine V.if_eq (q := 8) dX11_stops_4 (by decide) rfl h (fun h => ?_) (fun h => ?_)
    · refine V.aload_n (n := 0) dX11_stops_8 rfl rfl ?_
      refine V.iconst (x := 1) dX11_stops_9 (by decide) rfl ?_
      refine V.putZ dX11_stops_10 lkX11_215 (Or.inl rfl) rfl rfl h (fun M2 h => ?_)
      refine V.aload_n (n := 0) dX11_stops_13 rfl rfl ?_
      refine V.iconst (x := 1) dX11_stops_14 (by decide) rfl ?_
      refine V.putI dX11_stops_15 lkX11_219 (Or.inl rfl) rfl rfl h (fun M3 h => ?_)
      refine V.aload_n (n := 0) dX11_stops_18 rfl rfl ?_
      refine V.aload_n (n := 0) dX11_stops_19 rfl rfl ?_
      refine V.getI dX11_stops_20 lkX11_189 rfl rfl h (fun x4 h => ?_)
      refine V.putI dX11_stops_23 lkX11_13 (Or.inl rfl) rfl rfl h (fun M5 h => ?_)
      exact V.vret dX11_stops_26 rfl h
    · exact V.vret dX11_stops_7 rfl h
  exact hh
def J_X11_tells_39 (v0 : Option Nat) (v1 : Int32) (v2 : Int32) (M : Mem) : Option (Unit × Mem) :=
  (pI M 11 2 v0 v1).bind fun M1 =>
  (pI M1 11 3 v0 v2).bind fun M2 =>
  some ((), M2)
set_option maxRecDepth 20000 in
set_option maxHeartbeats 4000000 in
theorem lab_X11_tells_39 {G : Gt} {M0 M9 : Mem} {x9 : Unit} {v0 : Option Nat} {v1 : Int32} {v2 : Int32} {M : Mem} (h : J_X11_tells_39 v0 v1 v2 M = some (x9, M9)) : V G mX11_tells 0 M0 none M9 M 39 [(0, vR v0), (1, vI v1), (2, vI v2)] [] := by
  unfold J_X11_tells_39 at h
  refine V.aload_n (n := 0) dX11_tells_39 rfl rfl ?_
  refine V.iload_n (n := 1) dX11_tells_40 rfl rfl ?_
  refine V.putI dX11_tells_41 lkX11_219 (Or.inl rfl) rfl rfl h (fun M1 h => ?_)
  refine V.aload_n (n := 0) dX11_tells_44 rfl rfl ?_
  refine V.iload_n (n := 2) dX11_tells_45 rfl rfl ?_
  refine V.putI dX11_tells_46 lkX11_13 (Or.inl rfl) rfl rfl h (fun M2 h => ?_)
  exact V.vret dX11_tells_49 rfl h
def L_X11_tells (v0 : Option Nat) (v1 : Int32) (v2 : Int32) (M : Mem) : Option (Unit × Mem) :=
  (fI M 11 11 v0).bind fun x3 =>
  if ¬ x3 = 0 then
  (some ((), M))
  else
  ((fI M 11 2 v0).bind fun x4 =>
  if x4 = 0 then
  (J_X11_tells_39 v0 v1 v2 M)
  else
  ((fI M 11 3 v0).bind fun x5 =>
  if x5 < v2 then
  (some ((), M))
  else
  ((fI M 11 3 v0).bind fun x6 =>
  if ¬ v2 = x6 then
  (J_X11_tells_39 v0 v1 v2 M)
  else
  ((fI M 11 2 v0).bind fun x7 =>
  if v1 < x7 then
  (J_X11_tells_39 v0 v1 v2 M)
  else
  (some ((), M))))))
set_option maxRecDepth 20000 in
set_option maxHeartbeats 4000000 in
theorem lift_X11_tells {G : Gt} {M M9 : Mem} {x9 : Unit} {v0 : Option Nat} {v1 : Int32} {v2 : Int32} (h : L_X11_tells v0 v1 v2 M = some (x9, M9)) : Mt G mX11_tells 0 [vR v0, vI v1, vI v2] M none M9 := by
  unfold L_X11_tells at h
  refine Mt.of (by decide +kernel) (Nat.le_of_ble_eq_true rfl) ?_
  have hh : V G mX11_tells 0 M none M9 M 0 [(0, vR v0), (1, vI v1), (2, vI v2)] [] := by
    refine V.aload_n (n := 0) dX11_tells_0 rfl rfl ?_
    refine V.getI dX11_tells_1 lkX11_215 rfl rfl h (fun x3 h => ?_)
    refine V.if_ne (q := 38) dX11_tells_4 (by decide) rfl h (fun h => ?_) (fun h => ?_)
    · exact V.vret dX11_tells_38 rfl h
    · refine V.aload_n (n := 0) dX11_tells_7 rfl rfl ?_
      refine V.getI dX11_tells_8 lkX11_219 rfl rfl h (fun x4 h => ?_)
      refine V.if_eq (q := 39) dX11_tells_11 (by decide) rfl h (fun h => ?_) (fun h => ?_)
      · exact (lab_X11_tells_39 h)
      · refine V.iload_n (n := 2) dX11_tells_14 rfl rfl ?_
        refine V.aload_n (n := 0) dX11_tells_15 rfl rfl ?_
        refine V.getI dX11_tells_16 lkX11_13 rfl rfl h (fun x5 h => ?_)
        refine V.icmp_gt (q := 38) dX11_tells_19 (by decide) rfl h (fun h => ?_) (fun h => ?_)
        · exact V.vret dX11_tells_38 rfl h
        · refine V.iload_n (n := 2) dX11_tells_22 rfl rfl ?_
          refine V.aload_n (n := 0) dX11_tells_23 rfl rfl ?_
          refine V.getI dX11_tells_24 lkX11_13 rfl rfl h (fun x6 h => ?_)
          refine V.icmp_ne (q := 39) dX11_tells_27 (by decide) rfl h (fun h => ?_) (fun h => ?_)
          · exact (lab_X11_tells_39 h)
          · refine V.iload_n (n := 1) dX11_tells_30 rfl rfl ?_
            refine V.aload_n (n := 0) dX11_tells_31 rfl rfl ?_
            refine V.getI dX11_tells_32 lkX11_219 rfl rfl h (fun x7 h => ?_)
            refine V.icmp_lt (q := 39) dX11_tells_35 (by decide) rfl h (fun h => ?_) (fun h => ?_)
            · exact (lab_X11_tells_39 h)
            · exact V.vret dX11_tells_38 rfl h
  exact hh
def L_X11_isSign (v0 : Option Nat) (v1 : Int32) (M : Mem) : Option (Int32 × Mem) :=
  (fI M 11 6 v0).bind fun x1 =>
  if ¬ x1 = (3 : Int32) then
  ((bz (0 : Int32)).bind fun _ => some ((0 : Int32), M))
  else
  ((fR M 11 0 v0).bind fun x2 =>
  (fI M 11 7 v0).bind fun x3 =>
  (aI M 23 x2 x3).bind fun x4 =>
  if ¬ x4 = v1 then
  ((bz (0 : Int32)).bind fun _ => some ((0 : Int32), M))
  else
  ((bz (1 : Int32)).bind fun _ => some ((1 : Int32), M)))
set_option maxRecDepth 20000 in
set_option maxHeartbeats 4000000 in
theorem lift_X11_isSign {G : Gt} {M M9 : Mem} {x9 : Int32} {v0 : Option Nat} {v1 : Int32} (h : L_X11_isSign v0 v1 M = some (x9, M9)) : Mt G mX11_isSign 0 [vR v0, vI v1] M (some (vI x9)) M9 := by
  unfold L_X11_isSign at h
  refine Mt.of (by decide +kernel) (Nat.le_of_ble_eq_true rfl) ?_
  have hh : V G mX11_isSign 0 M (some (vI x9)) M9 M 0 [(0, vR v0), (1, vI v1)] [] := by
    refine V.aload_n (n := 0) dX11_isSign_0 rfl rfl ?_
    refine V.getI dX11_isSign_1 lkX11_195 rfl rfl h (fun x1 h => ?_)
    refine V.iconst (x := 3) dX11_isSign_4 (by decide) rfl ?_
    refine V.icmp_ne (q := 25) dX11_isSign_5 (by decide) rfl h (fun h => ?_) (fun h => ?_)
    · refine V.iconst (x := 0) dX11_isSign_25 (by decide) rfl ?_
      exact V.zret dX11_isSign_26 rfl h
    · refine V.aload_n (n := 0) dX11_isSign_8 rfl rfl ?_
      refine V.getR dX11_isSign_9 lkX11_7 rfl rfl h (fun x2 h => ?_)
      refine V.aload_n (n := 0) dX11_isSign_12 rfl rfl ?_
      refine V.getI dX11_isSign_13 lkX11_189 rfl rfl h (fun x3 h => ?_)
      refine V.bald dX11_isSign_16 rfl h (fun x4 h => ?_)
      refine V.iload_n (n := 1) dX11_isSign_17 rfl rfl ?_
      refine V.icmp_ne (q := 25) dX11_isSign_18 (by decide) rfl h (fun h => ?_) (fun h => ?_)
      · refine V.iconst (x := 0) dX11_isSign_25 (by decide) rfl ?_
        exact V.zret dX11_isSign_26 rfl h
      · refine V.iconst (x := 1) dX11_isSign_21 (by decide) rfl ?_
        refine V.goto (q := 26) dX11_isSign_22 (by decide) ?_
        exact V.zret dX11_isSign_26 rfl h
  exact hh
def L_X11_takes (v0 : Option Nat) (v1 : Int32) (M : Mem) : Option (Int32 × Mem) :=
  (fI M 11 11 v0).bind fun x1 =>
  if ¬ x1 = 0 then
  ((bz (0 : Int32)).bind fun _ => some ((0 : Int32), M))
  else
  ((ck M 11 v0).bind fun _ => (L_X11_isSign v0 v1 M).bind fun w2 =>
  if ¬ w2.1 = 0 then
  ((ck w2.2 11 v0).bind fun _ => (L_X11_advance v0 w2.2).bind fun w3 =>
  (bz (1 : Int32)).bind fun _ => some ((1 : Int32), w3.2))
  else
  ((bz (0 : Int32)).bind fun _ => some ((0 : Int32), w2.2)))
set_option maxRecDepth 20000 in
set_option maxHeartbeats 4000000 in
theorem lift_X11_takes {G : Gt} {M M9 : Mem} {x9 : Int32} {v0 : Option Nat} {v1 : Int32} (h : L_X11_takes v0 v1 M = some (x9, M9)) : Mt G mX11_takes 2 [vR v0, vI v1] M (some (vI x9)) M9 := by
  unfold L_X11_takes at h
  refine Mt.of (by decide +kernel) (Nat.le_of_ble_eq_true rfl) ?_
  have hh : V G mX11_takes 2 M (some (vI x9)) M9 M 0 [(0, vR v0), (1, vI v1)] [] := by
    refine V.aload_n (n := 0) dX11_takes_0 rfl rfl ?_
    refine V.getI dX11_takes_1 lkX11_215 rfl rfl h (fun x1 h => ?_)
    refine V.if_ne (q := 15) dX11_takes_4 (by decide) rfl h (fun h => ?_) (fun h => ?_)
    · refine V.iconst (x := 0) dX11_takes_15 (by decide) rfl ?_
      exact V.zret dX11_takes_16 rfl h
    · refine V.aload_n (n := 0) dX11_takes_7 rfl rfl ?_
      refine V.iload_n (n := 1) dX11_takes_8 rfl rfl ?_
      refine V.callVi (d' := 0) (as := [vI v1]) (st := []) dX11_takes_9 meX11_isSign mlX11_222 imX11_isSign seX11_isSign clsX11 rfl (by omega) (Nat.le_of_ble_eq_true rfl) rfl rfl h (fun v hv => lift_X11_isSign hv) (fun w2 h => ?_)
      refine V.if_ne (q := 17) dX11_takes_12 (by decide) rfl h (fun h => ?_) (fun h => ?_)
      · refine V.aload_n (n := 0) dX11_takes_17 rfl rfl ?_
        refine V.callVv (d' := 1) (as := []) (st := []) dX11_takes_18 meX11_advance mlX11_225 imX11_advance seX11_advance clsX11 rfl (by omega) (Nat.le_of_ble_eq_true rfl) rfl rfl h (fun v hv => lift_X11_advance hv) (fun w3 h => ?_)
        refine V.iconst (x := 1) dX11_takes_21 (by decide) rfl ?_
        exact V.zret dX11_takes_22 rfl h
      · refine V.iconst (x := 0) dX11_takes_15 (by decide) rfl ?_
        exact V.zret dX11_takes_16 rfl h
  exact hh
def L_X11_must (v0 : Option Nat) (v1 : Int32) (M : Mem) : Option (Unit × Mem) :=
  (fI M 11 11 v0).bind fun x1 =>
  if x1 = 0 then
  ((ck M 11 v0).bind fun _ => (L_X11_isSign v0 v1 M).bind fun w2 =>
  if w2.1 = 0 then
  ((ck w2.2 11 v0).bind fun _ => (L_X11_stops v0 w2.2).bind fun w3 =>
  some ((), w3.2))
  else
  ((ck w2.2 11 v0).bind fun _ => (L_X11_advance v0 w2.2).bind fun w4 =>
  some ((), w4.2)))
  else
  (some ((), M))
set_option maxRecDepth 20000 in
set_option maxHeartbeats 4000000 in
theorem lift_X11_must {G : Gt} {M M9 : Mem} {x9 : Unit} {v0 : Option Nat} {v1 : Int32} (h : L_X11_must v0 v1 M = some (x9, M9)) : Mt G mX11_must 2 [vR v0, vI v1] M none M9 := by
  unfold L_X11_must at h
  refine Mt.of (by decide +kernel) (Nat.le_of_ble_eq_true rfl) ?_
  have hh : V G mX11_must 2 M none M9 M 0 [(0, vR v0), (1, vI v1)] [] := by
    refine V.aload_n (n := 0) dX11_must_0 rfl rfl ?_
    refine V.getI dX11_must_1 lkX11_215 rfl rfl h (fun x1 h => ?_)
    refine V.if_eq (q := 8) dX11_must_4 (by decide) rfl h (fun h => ?_) (fun h => ?_)
    · refine V.aload_n (n := 0) dX11_must_8 rfl rfl ?_
      refine V.iload_n (n := 1) dX11_must_9 rfl rfl ?_
      refine V.callVi (d' := 0) (as := [vI v1]) (st := []) dX11_must_10 meX11_isSign mlX11_222 imX11_isSign seX11_isSign clsX11 rfl (by omega) (Nat.le_of_ble_eq_true rfl) rfl rfl h (fun v hv => lift_X11_isSign hv) (fun w2 h => ?_)
      refine V.if_eq (q := 23) dX11_must_13 (by decide) rfl h (fun h => ?_) (fun h => ?_)
      · refine V.aload_n (n := 0) dX11_must_23 rfl rfl ?_
        refine V.callVv (d' := 0) (as := []) (st := []) dX11_must_24 meX11_stops mlX11_228 imX11_stops seX11_stops clsX11 rfl (by omega) (Nat.le_of_ble_eq_true rfl) rfl rfl h (fun v hv => lift_X11_stops hv) (fun w3 h => ?_)
        exact V.vret dX11_must_27 rfl h
      · refine V.aload_n (n := 0) dX11_must_16 rfl rfl ?_
        refine V.callVv (d' := 1) (as := []) (st := []) dX11_must_17 meX11_advance mlX11_225 imX11_advance seX11_advance clsX11 rfl (by omega) (Nat.le_of_ble_eq_true rfl) rfl rfl h (fun v hv => lift_X11_advance hv) (fun w4 h => ?_)
        refine V.goto (q := 27) dX11_must_20 (by decide) ?_
        exact V.vret dX11_must_27 rfl h
    · exact V.vret dX11_must_7 rfl h
  exact hh
def L_X11_isWord (v0 : Option Nat) (v1 : Int32) (M : Mem) : Option (Int32 × Mem) :=
  (fI M 11 11 v0).bind fun x1 =>
  if ¬ x1 = 0 then
  ((bz (0 : Int32)).bind fun _ => some ((0 : Int32), M))
  else
  ((fI M 11 6 v0).bind fun x2 =>
  if ¬ x2 = (2 : Int32) then
  ((bz (0 : Int32)).bind fun _ => some ((0 : Int32), M))
  else
  ((fI M 11 10 v0).bind fun x3 =>
  if ¬ x3 = v1 then
  ((bz (0 : Int32)).bind fun _ => some ((0 : Int32), M))
  else
  ((bz (1 : Int32)).bind fun _ => some ((1 : Int32), M))))
set_option maxRecDepth 20000 in
set_option maxHeartbeats 4000000 in
theorem lift_X11_isWord {G : Gt} {M M9 : Mem} {x9 : Int32} {v0 : Option Nat} {v1 : Int32} (h : L_X11_isWord v0 v1 M = some (x9, M9)) : Mt G mX11_isWord 0 [vR v0, vI v1] M (some (vI x9)) M9 := by
  unfold L_X11_isWord at h
  refine Mt.of (by decide +kernel) (Nat.le_of_ble_eq_true rfl) ?_
  have hh : V G mX11_isWord 0 M (some (vI x9)) M9 M 0 [(0, vR v0), (1, vI v1)] [] := by
    refine V.aload_n (n := 0) dX11_isWord_0 rfl rfl ?_
    refine V.getI dX11_isWord_1 lkX11_215 rfl rfl h (fun x1 h => ?_)
    refine V.if_ne (q := 27) dX11_isWord_4 (by decide) rfl h (fun h => ?_) (fun h => ?_)
    · refine V.iconst (x := 0) dX11_isWord_27 (by decide) rfl ?_
      exact V.zret dX11_isWord_28 rfl h
    · refine V.aload_n (n := 0) dX11_isWord_7 rfl rfl ?_
      refine V.getI dX11_isWord_8 lkX11_195 rfl rfl h (fun x2 h => ?_)
      refine V.iconst (x := 2) dX11_isWord_11 (by decide) rfl ?_
      refine V.icmp_ne (q := 27) dX11_isWord_12 (by decide) rfl h (fun h => ?_) (fun h => ?_)
      · refine V.iconst (x := 0) dX11_isWord_27 (by decide) rfl ?_
        exact V.zret dX11_isWord_28 rfl h
      · refine V.aload_n (n := 0) dX11_isWord_15 rfl rfl ?_
        refine V.getI dX11_isWord_16 lkX11_192 rfl rfl h (fun x3 h => ?_)
        refine V.iload_n (n := 1) dX11_isWord_19 rfl rfl ?_
        refine V.icmp_ne (q := 27) dX11_isWord_20 (by decide) rfl h (fun h => ?_) (fun h => ?_)
        · refine V.iconst (x := 0) dX11_isWord_27 (by decide) rfl ?_
          exact V.zret dX11_isWord_28 rfl h
        · refine V.iconst (x := 1) dX11_isWord_23 (by decide) rfl ?_
          refine V.goto (q := 28) dX11_isWord_24 (by decide) ?_
          exact V.zret dX11_isWord_28 rfl h
  exact hh
def L_X11_emit (v0 : Option Nat) (v1 : Int32) (v2 : Int64) (v4 : Int32) (M : Mem) : Option (Unit × Mem) :=
  (fR M 11 28 v0).bind fun x1 =>
  (fI M 11 27 v0).bind fun x2 =>
  (uI M 20 x1 x2 v1).bind fun M3 =>
  (fR M3 11 29 v0).bind fun x4 =>
  (fI M3 11 27 v0).bind fun x5 =>
  (uL M3 21 x4 x5 v2).bind fun M6 =>
  (fR M6 11 30 v0).bind fun x7 =>
  (fI M6 11 27 v0).bind fun x8 =>
  (uI M6 20 x7 x8 v4).bind fun M9 =>
  (fI M9 11 27 v0).bind fun x10 =>
  (pI M9 11 27 v0 (x10 + (1 : Int32))).bind fun M11 =>
  some ((), M11)
set_option maxRecDepth 20000 in
set_option maxHeartbeats 4000000 in
theorem lift_X11_emit {G : Gt} {M M9 : Mem} {x9 : Unit} {v0 : Option Nat} {v1 : Int32} {v2 : Int64} {v4 : Int32} (h : L_X11_emit v0 v1 v2 v4 M = some (x9, M9)) : Mt G mX11_emit 0 [vR v0, vI v1, vL v2, vI v4] M none M9 := by
  unfold L_X11_emit at h
  refine Mt.of (by decide +kernel) (Nat.le_of_ble_eq_true rfl) ?_
  have hh : V G mX11_emit 0 M none M9 M 0 [(0, vR v0), (1, vI v1), (2, vL v2), (4, vI v4)] [] := by
    refine V.aload_n (n := 0) dX11_emit_0 rfl rfl ?_
    refine V.getR dX11_emit_1 lkX11_47 rfl rfl h (fun x1 h => ?_)
    refine V.aload_n (n := 0) dX11_emit_4 rfl rfl ?_
    refine V.getI dX11_emit_5 lkX11_231 rfl rfl h (fun x2 h => ?_)
    refine V.iload_n (n := 1) dX11_emit_8 rfl rfl ?_
    refine V.iast dX11_emit_9 rfl h (fun M3 h => ?_)
    refine V.aload_n (n := 0) dX11_emit_10 rfl rfl ?_
    refine V.getR dX11_emit_11 lkX11_50 rfl rfl h (fun x4 h => ?_)
    refine V.aload_n (n := 0) dX11_emit_14 rfl rfl ?_
    refine V.getI dX11_emit_15 lkX11_231 rfl rfl h (fun x5 h => ?_)
    refine V.lload_n (n := 2) dX11_emit_18 rfl rfl ?_
    refine V.last dX11_emit_19 rfl h (fun M6 h => ?_)
    refine V.aload_n (n := 0) dX11_emit_20 rfl rfl ?_
    refine V.getR dX11_emit_21 lkX11_53 rfl rfl h (fun x7 h => ?_)
    refine V.aload_n (n := 0) dX11_emit_24 rfl rfl ?_
    refine V.getI dX11_emit_25 lkX11_231 rfl rfl h (fun x8 h => ?_)
    refine V.iload (n := 3) dX11_emit_28 rfl rfl ?_
    refine V.iast dX11_emit_30 rfl h (fun M9 h => ?_)
    refine V.aload_n (n := 0) dX11_emit_31 rfl rfl ?_
    refine V.dup dX11_emit_32 rfl rfl ?_
    refine V.getI dX11_emit_33 lkX11_231 rfl rfl h (fun x10 h => ?_)
    refine V.iconst (x := 1) dX11_emit_36 (by decide) rfl ?_
    refine V.iadd dX11_emit_37 rfl ?_
    refine V.putI dX11_emit_38 lkX11_231 (Or.inl rfl) rfl rfl h (fun M11 h => ?_)
    exact V.vret dX11_emit_41 rfl h
  exact hh
def J_X11_yearOf_26 (v0 : Option Nat) (v2 : Int32) (M : Mem) : Option (Int32 × Mem) :=
  (ck M 11 v0).bind fun _ => (L_X11_tells v0 (3 : Int32) v2 M).bind fun w1 =>
  some ((-1 : Int32), w1.2)
set_option maxRecDepth 20000 in
set_option maxHeartbeats 4000000 in
theorem lab_X11_yearOf_26 {G : Gt} {M0 M9 : Mem} {x9 : Int32} {v0 : Option Nat} {v2 : Int32} {M : Mem} (h : J_X11_yearOf_26 v0 v2 M = some (x9, M9)) : V G mX11_yearOf 1 M0 (some (vI x9)) M9 M 26 [(0, vR v0), (2, vI v2)] [] := by
  unfold J_X11_yearOf_26 at h
  refine V.aload_n (n := 0) dX11_yearOf_26 rfl rfl ?_
  refine V.iconst (x := 3) dX11_yearOf_27 (by decide) rfl ?_
  refine V.iload_n (n := 1) dX11_yearOf_28 rfl rfl ?_
  refine V.callVv (d' := 0) (as := [vI (3 : Int32), vI v2]) (st := []) dX11_yearOf_29 meX11_tells mlX11_237 imX11_tells seX11_tells clsX11 rfl (by omega) (Nat.le_of_ble_eq_true rfl) rfl rfl h (fun v hv => lift_X11_tells hv) (fun w1 h => ?_)
  refine V.iconst (x := (-1)) dX11_yearOf_32 (by decide) rfl ?_
  exact V.iret dX11_yearOf_33 rfl h
def L_X11_yearOf (v0 : Option Nat) (v1 : Int32) (v2 : Int32) (M : Mem) : Option (Int32 × Mem) :=
  if v1 < (1700 : Int32) then
  (J_X11_yearOf_26 v0 v2 M)
  else
  (if (1730 : Int32) ≤ v1 then
  (J_X11_yearOf_26 v0 v2 M)
  else
  ((fI M 11 12 v0).bind fun x2 =>
  if ¬ (v1 - (1700 : Int32)) = x2 then
  ((fI M 11 35 v0).bind fun x3 =>
  (pI M 11 35 v0 (x3 ||| ((1 : Int32) <<< ((v1 - (1700 : Int32)) &&& 31)))).bind fun M4 =>
  some (v1 - (1700 : Int32), M4))
  else
  (J_X11_yearOf_26 v0 v2 M)))
set_option maxRecDepth 20000 in
set_option maxHeartbeats 4000000 in
theorem lift_X11_yearOf {G : Gt} {M M9 : Mem} {x9 : Int32} {v0 : Option Nat} {v1 : Int32} {v2 : Int32} (h : L_X11_yearOf v0 v1 v2 M = some (x9, M9)) : Mt G mX11_yearOf 1 [vR v0, vI v1, vI v2] M (some (vI x9)) M9 := by
  unfold L_X11_yearOf at h
  refine Mt.of (by decide +kernel) (Nat.le_of_ble_eq_true rfl) ?_
  have hh : V G mX11_yearOf 1 M (some (vI x9)) M9 M 0 [(0, vR v0), (1, vI v1), (2, vI v2)] [] := by
    refine V.iload_n (n := 1) dX11_yearOf_0 rfl rfl ?_
    refine V.sipush (x := 1700) dX11_yearOf_1 (by decide) rfl ?_
    refine V.icmp_lt (q := 26) dX11_yearOf_4 (by decide) rfl h (fun h => ?_) (fun h => ?_)
    · exact V.sub [0, 2] rfl (lab_X11_yearOf_26 h)
    · refine V.iload_n (n := 1) dX11_yearOf_7 rfl rfl ?_
      refine V.sipush (x := 1730) dX11_yearOf_8 (by decide) rfl ?_
      refine V.icmp_ge (q := 26) dX11_yearOf_11 (by decide) rfl h (fun h => ?_) (fun h => ?_)
      · exact V.sub [0, 2] rfl (lab_X11_yearOf_26 h)
      · refine V.iload_n (n := 1) dX11_yearOf_14 rfl rfl ?_
        refine V.sipush (x := 1700) dX11_yearOf_15 (by decide) rfl ?_
        refine V.isub dX11_yearOf_18 rfl ?_
        refine V.aload_n (n := 0) dX11_yearOf_19 rfl rfl ?_
        refine V.getI dX11_yearOf_20 lkX11_234 rfl rfl h (fun x2 h => ?_)
        refine V.icmp_ne (q := 34) dX11_yearOf_23 (by decide) rfl h (fun h => ?_) (fun h => ?_)
        · refine V.aload_n (n := 0) dX11_yearOf_34 rfl rfl ?_
          refine V.dup dX11_yearOf_35 rfl rfl ?_
          refine V.getI dX11_yearOf_36 lkX11_241 rfl rfl h (fun x3 h => ?_)
          refine V.iconst (x := 1) dX11_yearOf_39 (by decide) rfl ?_
          refine V.iload_n (n := 1) dX11_yearOf_40 rfl rfl ?_
          refine V.sipush (x := 1700) dX11_yearOf_41 (by decide) rfl ?_
          refine V.isub dX11_yearOf_44 rfl ?_
          refine V.ishl dX11_yearOf_45 rfl ?_
          refine V.ior dX11_yearOf_46 rfl ?_
          refine V.putI dX11_yearOf_47 lkX11_241 (Or.inl rfl) rfl rfl h (fun M4 h => ?_)
          refine V.iload_n (n := 1) dX11_yearOf_50 rfl rfl ?_
          refine V.sipush (x := 1700) dX11_yearOf_51 (by decide) rfl ?_
          refine V.isub dX11_yearOf_54 rfl ?_
          exact V.iret dX11_yearOf_55 rfl h
        · exact V.sub [0, 2] rfl (lab_X11_yearOf_26 h)
  exact hh
def J_X11_takesName_14 (v0 : Option Nat) (M : Mem) : Option (Int64 × Mem) :=
  (ck M 11 v0).bind fun _ => (L_X11_stops v0 M).bind fun w1 =>
  some ((0 : Int64), w1.2)
set_option maxRecDepth 20000 in
set_option maxHeartbeats 4000000 in
theorem lab_X11_takesName_14 {G : Gt} {M0 M9 : Mem} {x9 : Int64} {v0 : Option Nat} {M : Mem} (h : J_X11_takesName_14 v0 M = some (x9, M9)) : V G mX11_takesName 2 M0 (some (vL x9)) M9 M 14 [(0, vR v0)] [] := by
  unfold J_X11_takesName_14 at h
  refine V.aload_n (n := 0) dX11_takesName_14 rfl rfl ?_
  refine V.callVv (d' := 0) (as := []) (st := []) dX11_takesName_15 meX11_stops mlX11_228 imX11_stops seX11_stops clsX11 rfl (by omega) (Nat.le_of_ble_eq_true rfl) rfl rfl h (fun v hv => lift_X11_stops hv) (fun w1 h => ?_)
  refine V.lconst (x := 0) dX11_takesName_18 (by decide) rfl ?_
  exact V.lret dX11_takesName_19 rfl h
def L_X11_takesName (v0 : Option Nat) (M : Mem) : Option (Int64 × Mem) :=
  (fI M 11 11 v0).bind fun x2 =>
  if ¬ x2 = 0 then
  (J_X11_takesName_14 v0 M)
  else
  ((fI M 11 6 v0).bind fun x3 =>
  if x3 = 0 then
  ((fL M 11 8 v0).bind fun x4 =>
  (ck M 11 v0).bind fun _ => (L_X11_advance v0 M).bind fun w5 =>
  some (x4, w5.2))
  else
  (J_X11_takesName_14 v0 M))
set_option maxRecDepth 20000 in
set_option maxHeartbeats 4000000 in
theorem lift_X11_takesName {G : Gt} {M M9 : Mem} {x9 : Int64} {v0 : Option Nat} (h : L_X11_takesName v0 M = some (x9, M9)) : Mt G mX11_takesName 2 [vR v0] M (some (vL x9)) M9 := by
  unfold L_X11_takesName at h
  refine Mt.of (by decide +kernel) (Nat.le_of_ble_eq_true rfl) ?_
  have hh : V G mX11_takesName 2 M (some (vL x9)) M9 M 0 [(0, vR v0)] [] := by
    refine V.aload_n (n := 0) dX11_takesName_0 rfl rfl ?_
    refine V.getI dX11_takesName_1 lkX11_215 rfl rfl h (fun x2 h => ?_)
    refine V.if_ne (q := 14) dX11_takesName_4 (by decide) rfl h (fun h => ?_) (fun h => ?_)
    · exact (lab_X11_takesName_14 h)
    · refine V.aload_n (n := 0) dX11_takesName_7 rfl rfl ?_
      refine V.getI dX11_takesName_8 lkX11_195 rfl rfl h (fun x3 h => ?_)
      refine V.if_eq (q := 20) dX11_takesName_11 (by decide) rfl h (fun h => ?_) (fun h => ?_)
      · refine V.aload_n (n := 0) dX11_takesName_20 rfl rfl ?_
        refine V.getL dX11_takesName_21 lkX11_202 rfl rfl h (fun x4 h => ?_)
        refine V.lstore_n dX11_takesName_24 rfl (by decide) rfl rfl ?_
        refine V.aload_n (n := 1) dX11_takesName_25 rfl rfl ?_
        refine V.callVv (d' := 1) (as := []) (st := []) dX11_takesName_26 meX11_advance mlX11_225 imX11_advance seX11_advance clsX11 rfl (by omega) (Nat.le_of_ble_eq_true rfl) rfl rfl h (fun v hv => lift_X11_advance hv) (fun w5 h => ?_)
        refine V.lload_n (n := 0) dX11_takesName_29 rfl rfl ?_
        exact V.lret dX11_takesName_30 rfl h
      · exact (lab_X11_takesName_14 h)
  exact hh
def J_X11_takesNumber_15 (v0 : Option Nat) (M : Mem) : Option (Int32 × Mem) :=
  (ck M 11 v0).bind fun _ => (L_X11_stops v0 M).bind fun w1 =>
  some ((0 : Int32), w1.2)
set_option maxRecDepth 20000 in
set_option maxHeartbeats 4000000 in
theorem lab_X11_takesNumber_15 {G : Gt} {M0 M9 : Mem} {x9 : Int32} {v0 : Option Nat} {M : Mem} (h : J_X11_takesNumber_15 v0 M = some (x9, M9)) : V G mX11_takesNumber 2 M0 (some (vI x9)) M9 M 15 [(0, vR v0)] [] := by
  unfold J_X11_takesNumber_15 at h
  refine V.aload_n (n := 0) dX11_takesNumber_15 rfl rfl ?_
  refine V.callVv (d' := 0) (as := []) (st := []) dX11_takesNumber_16 meX11_stops mlX11_228 imX11_stops seX11_stops clsX11 rfl (by omega) (Nat.le_of_ble_eq_true rfl) rfl rfl h (fun v hv => lift_X11_stops hv) (fun w1 h => ?_)
  refine V.iconst (x := 0) dX11_takesNumber_19 (by decide) rfl ?_
  exact V.iret dX11_takesNumber_20 rfl h
def L_X11_takesNumber (v0 : Option Nat) (M : Mem) : Option (Int32 × Mem) :=
  (fI M 11 11 v0).bind fun x2 =>
  if ¬ x2 = 0 then
  (J_X11_takesNumber_15 v0 M)
  else
  ((fI M 11 6 v0).bind fun x3 =>
  if x3 = (1 : Int32) then
  ((fI M 11 9 v0).bind fun x4 =>
  (ck M 11 v0).bind fun _ => (L_X11_advance v0 M).bind fun w5 =>
  some (x4, w5.2))
  else
  (J_X11_takesNumber_15 v0 M))
set_option maxRecDepth 20000 in
set_option maxHeartbeats 4000000 in
theorem lift_X11_takesNumber {G : Gt} {M M9 : Mem} {x9 : Int32} {v0 : Option Nat} (h : L_X11_takesNumber v0 M = some (x9, M9)) : Mt G mX11_takesNumber 2 [vR v0] M (some (vI x9)) M9 := by
  unfold L_X11_takesNumber at h
  refine Mt.of (by decide +kernel) (Nat.le_of_ble_eq_true rfl) ?_
  have hh : V G mX11_takesNumber 2 M (some (vI x9)) M9 M 0 [(0, vR v0)] [] := by
    refine V.aload_n (n := 0) dX11_takesNumber_0 rfl rfl ?_
    refine V.getI dX11_takesNumber_1 lkX11_215 rfl rfl h (fun x2 h => ?_)
    refine V.if_ne (q := 15) dX11_takesNumber_4 (by decide) rfl h (fun h => ?_) (fun h => ?_)
    · exact (lab_X11_takesNumber_15 h)
    · refine V.aload_n (n := 0) dX11_takesNumber_7 rfl rfl ?_
      refine V.getI dX11_takesNumber_8 lkX11_195 rfl rfl h (fun x3 h => ?_)
      refine V.iconst (x := 1) dX11_takesNumber_11 (by decide) rfl ?_
      refine V.icmp_eq (q := 21) dX11_takesNumber_12 (by decide) rfl h (fun h => ?_) (fun h => ?_)
      · refine V.aload_n (n := 0) dX11_takesNumber_21 rfl rfl ?_
        refine V.getI dX11_takesNumber_22 lkX11_209 rfl rfl h (fun x4 h => ?_)
        refine V.istore_n dX11_takesNumber_25 rfl (by decide) rfl rfl ?_
        refine V.aload_n (n := 1) dX11_takesNumber_26 rfl rfl ?_
        refine V.callVv (d' := 1) (as := []) (st := []) dX11_takesNumber_27 meX11_advance mlX11_225 imX11_advance seX11_advance clsX11 rfl (by omega) (Nat.le_of_ble_eq_true rfl) rfl rfl h (fun v hv => lift_X11_advance hv) (fun w5 h => ?_)
        refine V.iload_n (n := 0) dX11_takesNumber_30 rfl rfl ?_
        exact V.iret dX11_takesNumber_31 rfl h
      · exact (lab_X11_takesNumber_15 h)
  exact hh
def J_X11_plainPart_105 (v0 : Option Nat) (v1 : Int32) (M : Mem) : Option (Unit × Mem) :=
  if v1 = 0 then
  (some ((), M))
  else
  ((ck M 11 v0).bind fun _ => (L_X11_emit v0 (8 : Int32) (0 : Int64) (-1 : Int32) M).bind fun w1 =>
  some ((), w1.2))
set_option maxRecDepth 20000 in
set_option maxHeartbeats 4000000 in
theorem lab_X11_plainPart_105 {G : Gt} {M0 M9 : Mem} {x9 : Unit} {v0 : Option Nat} {v1 : Int32} {M : Mem} (h : J_X11_plainPart_105 v0 v1 M = some (x9, M9)) : V G mX11_plainPart 3 M0 none M9 M 105 [(0, vR v0), (1, vI v1)] [] := by
  unfold J_X11_plainPart_105 at h
  refine V.iload_n (n := 1) dX11_plainPart_105 rfl rfl ?_
  refine V.if_eq (q := 117) dX11_plainPart_106 (by decide) rfl h (fun h => ?_) (fun h => ?_)
  · exact V.vret dX11_plainPart_117 rfl h
  · refine V.aload_n (n := 0) dX11_plainPart_109 rfl rfl ?_
    refine V.bipush (x := 8) dX11_plainPart_110 (by decide) rfl ?_
    refine V.lconst (x := 0) dX11_plainPart_112 (by decide) rfl ?_
    refine V.iconst (x := (-1)) dX11_plainPart_113 (by decide) rfl ?_
    refine V.callVv (d' := 0) (as := [vI (8 : Int32), vL (0 : Int64), vI (-1 : Int32)]) (st := []) dX11_plainPart_114 meX11_emit mlX11_247 imX11_emit seX11_emit clsX11 rfl (by omega) (Nat.le_of_ble_eq_true rfl) rfl rfl h (fun v hv => lift_X11_emit hv) (fun w1 h => ?_)
    exact V.vret dX11_plainPart_117 rfl h
def J_X11_plainPart_98 (v0 : Option Nat) (v1 : Int32) (M : Mem) : Option (Unit × Mem) :=
  J_X11_plainPart_105 v0 v1 M
set_option maxRecDepth 20000 in
set_option maxHeartbeats 4000000 in
theorem lab_X11_plainPart_98 {G : Gt} {M0 M9 : Mem} {x9 : Unit} {v0 : Option Nat} {v1 : Int32} {M : Mem} (h : J_X11_plainPart_98 v0 v1 M = some (x9, M9)) : V G mX11_plainPart 3 M0 none M9 M 98 [(0, vR v0), (1, vI v1)] [] := by
  unfold J_X11_plainPart_98 at h
  refine V.goto (q := 105) dX11_plainPart_98 (by decide) ?_
  exact (lab_X11_plainPart_105 h)
def L_X11_plainPart (v0 : Option Nat) (M : Mem) : Option (Unit × Mem) :=
  (ck M 11 v0).bind fun _ => (L_X11_takes v0 (45 : Int32) M).bind fun w2 =>
  (fI w2.2 11 11 v0).bind fun x3 =>
  if x3 = 0 then
  ((fI w2.2 11 6 v0).bind fun x4 =>
  if ¬ x4 = 0 then
  ((fI w2.2 11 6 v0).bind fun x5 =>
  if ¬ x5 = (1 : Int32) then
  ((ck w2.2 11 v0).bind fun _ => (L_X11_stops v0 w2.2).bind fun w6 =>
  J_X11_plainPart_105 v0 w2.1 w6.2)
  else
  ((fI w2.2 11 7 v0).bind fun x7 =>
  (fI w2.2 11 9 v0).bind fun x8 =>
  (ck w2.2 11 v0).bind fun _ => (L_X11_advance v0 w2.2).bind fun w9 =>
  (ck w9.2 11 v0).bind fun _ => (L_X11_takes v0 (46 : Int32) w9.2).bind fun w10 =>
  if w10.1 = 0 then
  ((ck w10.2 11 v0).bind fun _ => (L_X11_emit v0 (0 : Int32) x8.toInt64 (-1 : Int32) w10.2).bind fun w11 =>
  J_X11_plainPart_98 v0 w2.1 w11.2)
  else
  ((ck w10.2 11 v0).bind fun _ => (L_X11_takesName v0 w10.2).bind fun w12 =>
  (ck w12.2 11 v0).bind fun _ => (L_X11_yearOf v0 x8 x7 w12.2).bind fun w13 =>
  (ck w13.2 11 v0).bind fun _ => (L_X11_emit v0 (6 : Int32) w12.1 w13.1 w13.2).bind fun w14 =>
  J_X11_plainPart_98 v0 w2.1 w14.2)))
  else
  ((fL w2.2 11 8 v0).bind fun x15 =>
  (ck w2.2 11 v0).bind fun _ => (L_X11_emit v0 (6 : Int32) x15 (-1 : Int32) w2.2).bind fun w16 =>
  (ck w16.2 11 v0).bind fun _ => (L_X11_advance v0 w16.2).bind fun w17 =>
  J_X11_plainPart_105 v0 w2.1 w17.2))
  else
  (some ((), w2.2))
set_option maxRecDepth 20000 in
set_option maxHeartbeats 4000000 in
theorem lift_X11_plainPart {G : Gt} {M M9 : Mem} {x9 : Unit} {v0 : Option Nat} (h : L_X11_plainPart v0 M = some (x9, M9)) : Mt G mX11_plainPart 3 [vR v0] M none M9 := by
  unfold L_X11_plainPart at h
  refine Mt.of (by decide +kernel) (Nat.le_of_ble_eq_true rfl) ?_
  have hh : V G mX11_plainPart 3 M none M9 M 0 [(0, vR v0)] [] := by
    refine V.aload_n (n := 0) dX11_plainPart_0 rfl rfl ?_
    refine V.bipush (x := 45) dX11_plainPart_1 (by decide) rfl ?_
    refine V.callVi (d' := 2) (as := [vI (45 : Int32)]) (st := []) dX11_plainPart_3 meX11_takes mlX11_244 imX11_takes seX11_takes clsX11 rfl (by omega) (Nat.le_of_ble_eq_true rfl) rfl rfl h (fun v hv => lift_X11_takes hv) (fun w2 h => ?_)
    refine V.istore_n dX11_plainPart_6 rfl (by decide) rfl rfl ?_
    refine V.aload_n (n := 1) dX11_plainPart_7 rfl rfl ?_
    refine V.getI dX11_plainPart_8 lkX11_215 rfl rfl h (fun x3 h => ?_)
    refine V.if_eq (q := 15) dX11_plainPart_11 (by decide) rfl h (fun h => ?_) (fun h => ?_)
    · refine V.aload_n (n := 1) dX11_plainPart_15 rfl rfl ?_
      refine V.getI dX11_plainPart_16 lkX11_195 rfl rfl h (fun x4 h => ?_)
      refine V.if_ne (q := 40) dX11_plainPart_19 (by decide) rfl h (fun h => ?_) (fun h => ?_)
      · refine V.aload_n (n := 1) dX11_plainPart_40 rfl rfl ?_
        refine V.getI dX11_plainPart_41 lkX11_195 rfl rfl h (fun x5 h => ?_)
        refine V.iconst (x := 1) dX11_plainPart_44 (by decide) rfl ?_
        refine V.icmp_ne (q := 101) dX11_plainPart_45 (by decide) rfl h (fun h => ?_) (fun h => ?_)
        · refine V.aload_n (n := 1) dX11_plainPart_101 rfl rfl ?_
          refine V.callVv (d' := 0) (as := []) (st := []) dX11_plainPart_102 meX11_stops mlX11_228 imX11_stops seX11_stops clsX11 rfl (by omega) (Nat.le_of_ble_eq_true rfl) rfl rfl h (fun v hv => lift_X11_stops hv) (fun w6 h => ?_)
          exact V.sub [1, 0] rfl (lab_X11_plainPart_105 h)
        · refine V.aload_n (n := 1) dX11_plainPart_48 rfl rfl ?_
          refine V.getI dX11_plainPart_49 lkX11_189 rfl rfl h (fun x7 h => ?_)
          refine V.istore_n dX11_plainPart_52 rfl (by decide) rfl rfl ?_
          refine V.aload_n (n := 2) dX11_plainPart_53 rfl rfl ?_
          refine V.getI dX11_plainPart_54 lkX11_209 rfl rfl h (fun x8 h => ?_)
          refine V.istore_n dX11_plainPart_57 rfl (by decide) rfl rfl ?_
          refine V.aload_n (n := 3) dX11_plainPart_58 rfl rfl ?_
          refine V.callVv (d' := 1) (as := []) (st := []) dX11_plainPart_59 meX11_advance mlX11_225 imX11_advance seX11_advance clsX11 rfl (by omega) (Nat.le_of_ble_eq_true rfl) rfl rfl h (fun v hv => lift_X11_advance hv) (fun w9 h => ?_)
          refine V.aload_n (n := 3) dX11_plainPart_62 rfl rfl ?_
          refine V.bipush (x := 46) dX11_plainPart_63 (by decide) rfl ?_
          refine V.callVi (d' := 2) (as := [vI (46 : Int32)]) (st := []) dX11_plainPart_65 meX11_takes mlX11_244 imX11_takes seX11_takes clsX11 rfl (by omega) (Nat.le_of_ble_eq_true rfl) rfl rfl h (fun v hv => lift_X11_takes hv) (fun w10 h => ?_)
          refine V.if_eq (q := 90) dX11_plainPart_68 (by decide) rfl h (fun h => ?_) (fun h => ?_)
          · refine V.aload_n (n := 3) dX11_plainPart_90 rfl rfl ?_
            refine V.iconst (x := 0) dX11_plainPart_91 (by decide) rfl ?_
            refine V.iload_n (n := 0) dX11_plainPart_92 rfl rfl ?_
            refine V.i2l dX11_plainPart_93 rfl ?_
            refine V.iconst (x := (-1)) dX11_plainPart_94 (by decide) rfl ?_
            refine V.callVv (d' := 0) (as := [vI (0 : Int32), vL x8.toInt64, vI (-1 : Int32)]) (st := []) dX11_plainPart_95 meX11_emit mlX11_247 imX11_emit seX11_emit clsX11 rfl (by omega) (Nat.le_of_ble_eq_true rfl) rfl rfl h (fun v hv => lift_X11_emit hv) (fun w11 h => ?_)
            exact V.sub [3, 2] rfl (lab_X11_plainPart_98 h)
          · refine V.aload_n (n := 3) dX11_plainPart_71 rfl rfl ?_
            refine V.bipush (x := 6) dX11_plainPart_72 (by decide) rfl ?_
            refine V.aload_n (n := 3) dX11_plainPart_74 rfl rfl ?_
            refine V.callVl (d' := 2) (as := []) (st := [vI (6 : Int32), vR v0]) dX11_plainPart_75 meX11_takesName mlX11_251 imX11_takesName seX11_takesName clsX11 rfl (by omega) (Nat.le_of_ble_eq_true rfl) rfl rfl h (fun v hv => lift_X11_takesName hv) (fun w12 h => ?_)
            refine V.aload_n (n := 3) dX11_plainPart_78 rfl rfl ?_
            refine V.iload_n (n := 0) dX11_plainPart_79 rfl rfl ?_
            refine V.iload_n (n := 1) dX11_plainPart_80 rfl rfl ?_
            refine V.callVi (d' := 1) (as := [vI x8, vI x7]) (st := [vL w12.1, vI (6 : Int32), vR v0]) dX11_plainPart_81 meX11_yearOf mlX11_255 imX11_yearOf seX11_yearOf clsX11 rfl (by omega) (Nat.le_of_ble_eq_true rfl) rfl rfl h (fun v hv => lift_X11_yearOf hv) (fun w13 h => ?_)
            refine V.callVv (d' := 0) (as := [vI (6 : Int32), vL w12.1, vI w13.1]) (st := []) dX11_plainPart_84 meX11_emit mlX11_247 imX11_emit seX11_emit clsX11 rfl (by omega) (Nat.le_of_ble_eq_true rfl) rfl rfl h (fun v hv => lift_X11_emit hv) (fun w14 h => ?_)
            refine V.goto (q := 98) dX11_plainPart_87 (by decide) ?_
            exact V.sub [3, 2] rfl (lab_X11_plainPart_98 h)
      · refine V.aload_n (n := 1) dX11_plainPart_22 rfl rfl ?_
        refine V.bipush (x := 6) dX11_plainPart_23 (by decide) rfl ?_
        refine V.aload_n (n := 1) dX11_plainPart_25 rfl rfl ?_
        refine V.getL dX11_plainPart_26 lkX11_202 rfl rfl h (fun x15 h => ?_)
        refine V.iconst (x := (-1)) dX11_plainPart_29 (by decide) rfl ?_
        refine V.callVv (d' := 0) (as := [vI (6 : Int32), vL x15, vI (-1 : Int32)]) (st := []) dX11_plainPart_30 meX11_emit mlX11_247 imX11_emit seX11_emit clsX11 rfl (by omega) (Nat.le_of_ble_eq_true rfl) rfl rfl h (fun v hv => lift_X11_emit hv) (fun w16 h => ?_)
        refine V.aload_n (n := 1) dX11_plainPart_33 rfl rfl ?_
        refine V.callVv (d' := 1) (as := []) (st := []) dX11_plainPart_34 meX11_advance mlX11_225 imX11_advance seX11_advance clsX11 rfl (by omega) (Nat.le_of_ble_eq_true rfl) rfl rfl h (fun v hv => lift_X11_advance hv) (fun w17 h => ?_)
        refine V.goto (q := 105) dX11_plainPart_37 (by decide) ?_
        exact V.sub [1, 0] rfl (lab_X11_plainPart_105 h)
    · exact V.vret dX11_plainPart_14 rfl h
  exact hh
def J_X11_plainProduct_4 : Nat → Option Nat → Mem → Option (Unit × Mem)
  | 0 => fun _ _ => none
  | n + 1 => fun v0 M =>
  (ck M 11 v0).bind fun _ => (L_X11_takes v0 (42 : Int32) M).bind fun w1 =>
  if w1.1 = 0 then
  (some ((), w1.2))
  else
  ((ck w1.2 11 v0).bind fun _ => (L_X11_plainPart v0 w1.2).bind fun w2 =>
  (ck w2.2 11 v0).bind fun _ => (L_X11_emit v0 (42 : Int32) (0 : Int64) (-1 : Int32) w2.2).bind fun w3 =>
  J_X11_plainProduct_4 n v0 w3.2)
set_option maxRecDepth 20000 in
set_option maxHeartbeats 4000000 in
theorem lab_X11_plainProduct_4 {G : Gt} {M0 M9 : Mem} {x9 : Unit} : ∀ (n : Nat) (v0 : Option Nat) (M : Mem), J_X11_plainProduct_4 n v0 M = some (x9, M9) → V G mX11_plainProduct 4 M0 none M9 M 4 [(0, vR v0)] [] := by
  intro n
  induction n with
  | zero => intro v0 M h; exact nomatch h
  | succ n ih =>
    intro v0 M h
    unfold J_X11_plainProduct_4 at h
    refine V.aload_n (n := 0) dX11_plainProduct_4 rfl rfl ?_
    refine V.bipush (x := 42) dX11_plainProduct_5 (by decide) rfl ?_
    refine V.callVi (d' := 2) (as := [vI (42 : Int32)]) (st := []) dX11_plainProduct_7 meX11_takes mlX11_244 imX11_takes seX11_takes clsX11 rfl (by omega) (Nat.le_of_ble_eq_true rfl) rfl rfl h (fun v hv => lift_X11_takes hv) (fun w1 h => ?_)
    refine V.if_eq (q := 28) dX11_plainProduct_10 (by decide) rfl h (fun h => ?_) (fun h => ?_)
    · exact V.vret dX11_plainProduct_28 rfl h
    · refine V.aload_n (n := 0) dX11_plainProduct_13 rfl rfl ?_
      refine V.callVv (d' := 3) (as := []) (st := []) dX11_plainProduct_14 meX11_plainPart mlX11_259 imX11_plainPart seX11_plainPart clsX11 rfl (by omega) (Nat.le_of_ble_eq_true rfl) rfl rfl h (fun v hv => lift_X11_plainPart hv) (fun w2 h => ?_)
      refine V.aload_n (n := 0) dX11_plainProduct_17 rfl rfl ?_
      refine V.bipush (x := 42) dX11_plainProduct_18 (by decide) rfl ?_
      refine V.lconst (x := 0) dX11_plainProduct_20 (by decide) rfl ?_
      refine V.iconst (x := (-1)) dX11_plainProduct_21 (by decide) rfl ?_
      refine V.callVv (d' := 0) (as := [vI (42 : Int32), vL (0 : Int64), vI (-1 : Int32)]) (st := []) dX11_plainProduct_22 meX11_emit mlX11_247 imX11_emit seX11_emit clsX11 rfl (by omega) (Nat.le_of_ble_eq_true rfl) rfl rfl h (fun v hv => lift_X11_emit hv) (fun w3 h => ?_)
      refine V.goto (q := 4) dX11_plainProduct_25 (by decide) ?_
      exact (ih _ _ h)
def L_X11_plainProduct (v0 : Option Nat) (M : Mem) : Option (Unit × Mem) :=
  (ck M 11 v0).bind fun _ => (L_X11_plainPart v0 M).bind fun w4 =>
  J_X11_plainProduct_4 FU v0 w4.2
set_option maxRecDepth 20000 in
set_option maxHeartbeats 4000000 in
theorem lift_X11_plainProduct {G : Gt} {M M9 : Mem} {x9 : Unit} {v0 : Option Nat} (h : L_X11_plainProduct v0 M = some (x9, M9)) : Mt G mX11_plainProduct 4 [vR v0] M none M9 := by
  unfold L_X11_plainProduct at h
  refine Mt.of (by decide +kernel) (Nat.le_of_ble_eq_true rfl) ?_
  have hh : V G mX11_plainProduct 4 M none M9 M 0 [(0, vR v0)] [] := by
    refine V.aload_n (n := 0) dX11_plainProduct_0 rfl rfl ?_
    refine V.callVv (d' := 3) (as := []) (st := []) dX11_plainProduct_1 meX11_plainPart mlX11_259 imX11_plainPart seX11_plainPart clsX11 rfl (by omega) (Nat.le_of_ble_eq_true rfl) rfl rfl h (fun v hv => lift_X11_plainPart hv) (fun w4 h => ?_)
    exact (lab_X11_plainProduct_4 FU _ _ h)
  exact hh
