def J_L_law_640 (G : Gt) (k_18 : Option Nat → Option Nat → Option Nat → Int32 → Mem → Option (Int32 × Mem)) (v0 : Option Nat) (v1 : Option Nat) (v2 : Option Nat) (v3 : Int32) (M : Mem) : Option (Int32 × Mem) :=
  k_18 v0 v1 v2 (v3 + 6) M
set_option maxRecDepth 20000 in
set_option maxHeartbeats 4000000 in
theorem lab_L_law_640 {G : Gt} {M0 M9 : Mem} {x9 : Int32} {k_18 : Option Nat → Option Nat → Option Nat → Int32 → Mem → Option (Int32 × Mem)} (hk_18 : ∀ (v0 : Option Nat) (v1 : Option Nat) (v2 : Option Nat) (v3 : Int32) (Ma : Mem), k_18 v0 v1 v2 v3 Ma = some (x9, M9) → V G mL_law 777 M0 (some (vI x9)) M9 Ma 18 [(0, vX v0), (1, vR v1), (2, vR v2), (3, vI v3)] []) {v0 : Option Nat} {v1 : Option Nat} {v2 : Option Nat} {v3 : Int32} {M : Mem} (h : J_L_law_640 G k_18 v0 v1 v2 v3 M = some (x9, M9)) : V G mL_law 777 M0 (some (vI x9)) M9 M 640 [(0, vX v0), (1, vR v1), (2, vR v2), (3, vI v3)] [] := by
  unfold J_L_law_640 at h
  refine V.iinc (n := 3) (x := v3 + 6) dL_law_640 rfl (by rfl) (by decide) rfl rfl ?_
  refine V.goto (q := 18) dL_law_643 (by decide) ?_
  exact V.sub [1, 2, 3, 0] rfl (hk_18 _ _ _ _ _ h)
def J_L_law_18 (G : Gt) : Nat → Option Nat → Option Nat → Option Nat → Int32 → Mem → Option (Int32 × Mem)
  | 0 => fun _ _ _ _ _ => none
  | n + 1 => fun v0 v1 v2 v3 M =>
  (sN G v0).bind fun x1 =>
  if (x1 - (6 : Int32)) < v3 then
  ((bz (1 : Int32)).bind fun _ => some ((1 : Int32), M))
  else
  ((sI G v0 v3).bind fun x2 =>
  if (x2 &&& (31 : Int32)) = 0 then
  ((sI G v0 (v3 + (1 : Int32))).bind fun x3 =>
  (sI G v0 (v3 + (2 : Int32))).bind fun x4 =>
  (sI G v0 (v3 + (3 : Int32))).bind fun x5 =>
  (sI G v0 (v3 + (4 : Int32))).bind fun x6 =>
  (sI G v0 (v3 + (5 : Int32))).bind fun x7 =>
  (ck M 10 v1).bind fun _ => (L_X10_feed v1 x3 x4 x5 x6 x7 M).bind fun w8 =>
  (sI G v0 (v3 + (1 : Int32))).bind fun x9 =>
  (sI G v0 (v3 + (2 : Int32))).bind fun x10 =>
  (sI G v0 (v3 + (3 : Int32))).bind fun x11 =>
  (sI G v0 (v3 + (4 : Int32))).bind fun x12 =>
  (sI G v0 (v3 + (5 : Int32))).bind fun x13 =>
  (ck w8.2 11 v2).bind fun _ => (L_X11_feed v2 x9 x10 x11 x12 x13 w8.2).bind fun w14 =>
  if w8.1 = w14.1 then
  (J_L_law_640 G (J_L_law_18 G n) v0 v1 v2 v3 w14.2)
  else
  ((bz (0 : Int32)).bind fun _ => some ((0 : Int32), w14.2)))
  else
  if (x2 &&& (31 : Int32)) = 1 then
  ((sI G v0 (v3 + (1 : Int32))).bind fun x15 =>
  (ck M 10 v1).bind fun _ => (L_X10_end v1 x15 M).bind fun w16 =>
  (sI G v0 (v3 + (1 : Int32))).bind fun x17 =>
  (ck w16.2 11 v2).bind fun _ => (L_X11_end v2 x17 w16.2).bind fun w18 =>
  if w16.1 = w18.1 then
  (J_L_law_640 G (J_L_law_18 G n) v0 v1 v2 v3 w18.2)
  else
  ((bz (0 : Int32)).bind fun _ => some ((0 : Int32), w18.2)))
  else
  if (x2 &&& (31 : Int32)) = 2 then
  ((sI G v0 (v3 + (1 : Int32))).bind fun x19 =>
  (ck M 10 v1).bind fun _ => (L_X10_sheet v1 x19 M).bind fun w20 =>
  (sI G v0 (v3 + (1 : Int32))).bind fun x21 =>
  (ck w20.2 11 v2).bind fun _ => (L_X11_sheet v2 x21 w20.2).bind fun w22 =>
  if w20.1 = w22.1 then
  (J_L_law_640 G (J_L_law_18 G n) v0 v1 v2 v3 w22.2)
  else
  ((bz (0 : Int32)).bind fun _ => some ((0 : Int32), w22.2)))
  else
  if (x2 &&& (31 : Int32)) = 3 then
  ((sI G v0 (v3 + (1 : Int32))).bind fun x23 =>
  (ck M 10 v1).bind fun _ => (L_X10_fault v1 x23 M).bind fun w24 =>
  (sI G v0 (v3 + (1 : Int32))).bind fun x25 =>
  (ck w24.2 11 v2).bind fun _ => (L_X11_fault v2 x25 w24.2).bind fun w26 =>
  if w24.1 = w26.1 then
  (J_L_law_640 G (J_L_law_18 G n) v0 v1 v2 v3 w26.2)
  else
  ((bz (0 : Int32)).bind fun _ => some ((0 : Int32), w26.2)))
  else
  if (x2 &&& (31 : Int32)) = 4 then
  ((sI G v0 (v3 + (1 : Int32))).bind fun x27 =>
  (ck M 10 v1).bind fun _ => (L_X10_forget v1 x27 M).bind fun w28 =>
  (sI G v0 (v3 + (1 : Int32))).bind fun x29 =>
  (ck w28.2 11 v2).bind fun _ => (L_X11_forget v2 x29 w28.2).bind fun w30 =>
  if w28.1 = w30.1 then
  (J_L_law_640 G (J_L_law_18 G n) v0 v1 v2 v3 w30.2)
  else
  ((bz (0 : Int32)).bind fun _ => some ((0 : Int32), w30.2)))
  else
  if (x2 &&& (31 : Int32)) = 5 then
  ((ck M 10 v1).bind fun _ => (L_X10_issue v1 M).bind fun w31 =>
  (ck w31.2 11 v2).bind fun _ => (L_X11_issue v2 w31.2).bind fun w32 =>
  if w31.1 = w32.1 then
  (J_L_law_640 G (J_L_law_18 G n) v0 v1 v2 v3 w32.2)
  else
  ((bz (0 : Int32)).bind fun _ => some ((0 : Int32), w32.2)))
  else
  if (x2 &&& (31 : Int32)) = 6 then
  ((sI G v0 (v3 + (1 : Int32))).bind fun x33 =>
  (sI G v0 (v3 + (2 : Int32))).bind fun x34 =>
  (ck M 10 v1).bind fun _ => (L_X10_state v1 x33 x34 M).bind fun w35 =>
  (sI G v0 (v3 + (1 : Int32))).bind fun x36 =>
  (sI G v0 (v3 + (2 : Int32))).bind fun x37 =>
  (ck w35.2 11 v2).bind fun _ => (L_X11_state v2 x36 x37 w35.2).bind fun w38 =>
  if w35.1 = w38.1 then
  (J_L_law_640 G (J_L_law_18 G n) v0 v1 v2 v3 w38.2)
  else
  ((bz (0 : Int32)).bind fun _ => some ((0 : Int32), w38.2)))
  else
  if (x2 &&& (31 : Int32)) = 7 then
  ((sI G v0 (v3 + (1 : Int32))).bind fun x39 =>
  (sI G v0 (v3 + (2 : Int32))).bind fun x40 =>
  (ck M 10 v1).bind fun _ => (L_X10_leans v1 x39 x40 M).bind fun w41 =>
  (sI G v0 (v3 + (1 : Int32))).bind fun x42 =>
  (sI G v0 (v3 + (2 : Int32))).bind fun x43 =>
  (ck w41.2 11 v2).bind fun _ => (L_X11_leans v2 x42 x43 w41.2).bind fun w44 =>
  if w41.1 = w44.1 then
  (J_L_law_640 G (J_L_law_18 G n) v0 v1 v2 v3 w44.2)
  else
  ((bz (0 : Int32)).bind fun _ => some ((0 : Int32), w44.2)))
  else
  if (x2 &&& (31 : Int32)) = 8 then
  ((sI G v0 (v3 + (1 : Int32))).bind fun x45 =>
  (sI G v0 (v3 + (2 : Int32))).bind fun x46 =>
  (ck M 10 v1).bind fun _ => (L_X10_constant v1 x45 x46 M).bind fun w47 =>
  (sI G v0 (v3 + (1 : Int32))).bind fun x48 =>
  (sI G v0 (v3 + (2 : Int32))).bind fun x49 =>
  (ck w47.2 11 v2).bind fun _ => (L_X11_constant v2 x48 x49 w47.2).bind fun w50 =>
  if w47.1 = w50.1 then
  (J_L_law_640 G (J_L_law_18 G n) v0 v1 v2 v3 w50.2)
  else
  ((bz (0 : Int32)).bind fun _ => some ((0 : Int32), w50.2)))
  else
  if (x2 &&& (31 : Int32)) = 9 then
  ((sI G v0 (v3 + (1 : Int32))).bind fun x51 =>
  (sI G v0 (v3 + (2 : Int32))).bind fun x52 =>
  (sI G v0 (v3 + (3 : Int32))).bind fun x53 =>
  (ck M 10 v1).bind fun _ => (L_X10_entry v1 x51 x52 x53 M).bind fun w54 =>
  (sI G v0 (v3 + (1 : Int32))).bind fun x55 =>
  (sI G v0 (v3 + (2 : Int32))).bind fun x56 =>
  (sI G v0 (v3 + (3 : Int32))).bind fun x57 =>
  (ck w54.2 11 v2).bind fun _ => (L_X11_entry v2 x55 x56 x57 w54.2).bind fun w58 =>
  if w54.1 = w58.1 then
  (J_L_law_640 G (J_L_law_18 G n) v0 v1 v2 v3 w58.2)
  else
  ((bz (0 : Int32)).bind fun _ => some ((0 : Int32), w58.2)))
  else
  if (x2 &&& (31 : Int32)) = 10 then
  ((sI G v0 (v3 + (1 : Int32))).bind fun x59 =>
  (ck M 10 v1).bind fun _ => (L_X10_need v1 x59 M).bind fun w60 =>
  (sI G v0 (v3 + (1 : Int32))).bind fun x61 =>
  (ck w60.2 11 v2).bind fun _ => (L_X11_need v2 x61 w60.2).bind fun w62 =>
  if w60.1 = w62.1 then
  (J_L_law_640 G (J_L_law_18 G n) v0 v1 v2 v3 w62.2)
  else
  ((bz (0 : Int32)).bind fun _ => some ((0 : Int32), w62.2)))
  else
  if (x2 &&& (31 : Int32)) = 11 then
  ((sI G v0 (v3 + (1 : Int32))).bind fun x63 =>
  (ck M 10 v1).bind fun _ => (L_X10_started v1 x63 M).bind fun w64 =>
  (sI G v0 (v3 + (1 : Int32))).bind fun x65 =>
  (ck w64.2 11 v2).bind fun _ => (L_X11_started v2 x65 w64.2).bind fun w66 =>
  if w64.1 = w66.1 then
  (J_L_law_640 G (J_L_law_18 G n) v0 v1 v2 v3 w66.2)
  else
  ((bz (0 : Int32)).bind fun _ => some ((0 : Int32), w66.2)))
  else
  if (x2 &&& (31 : Int32)) = 12 then
  ((sI G v0 (v3 + (1 : Int32))).bind fun x67 =>
  (sI G v0 (v3 + (2 : Int32))).bind fun x68 =>
  (ck M 10 v1).bind fun _ => (L_X10_voyage v1 x67 x68 M).bind fun w69 =>
  (sI G v0 (v3 + (1 : Int32))).bind fun x70 =>
  (sI G v0 (v3 + (2 : Int32))).bind fun x71 =>
  (ck w69.2 11 v2).bind fun _ => (L_X11_voyage v2 x70 x71 w69.2).bind fun w72 =>
  if w69.1 = w72.1 then
  (J_L_law_640 G (J_L_law_18 G n) v0 v1 v2 v3 w72.2)
  else
  ((bz (0 : Int32)).bind fun _ => some ((0 : Int32), w72.2)))
  else
  if (x2 &&& (31 : Int32)) = 13 then
  ((sI G v0 (v3 + (1 : Int32))).bind fun x73 =>
  (sI G v0 (v3 + (2 : Int32))).bind fun x74 =>
  (sI G v0 (v3 + (3 : Int32))).bind fun x75 =>
  (sI G v0 (v3 + (4 : Int32))).bind fun x76 =>
  (ck M 10 v1).bind fun _ => (L_X10_lock v1 x73 x74 x75 x76 M).bind fun w77 =>
  (sI G v0 (v3 + (1 : Int32))).bind fun x78 =>
  (sI G v0 (v3 + (2 : Int32))).bind fun x79 =>
  (sI G v0 (v3 + (3 : Int32))).bind fun x80 =>
  (sI G v0 (v3 + (4 : Int32))).bind fun x81 =>
  (ck w77.2 11 v2).bind fun _ => (L_X11_lock v2 x78 x79 x80 x81 w77.2).bind fun w82 =>
  if w77.1 = w82.1 then
  (J_L_law_640 G (J_L_law_18 G n) v0 v1 v2 v3 w82.2)
  else
  ((bz (0 : Int32)).bind fun _ => some ((0 : Int32), w82.2)))
  else
  if (x2 &&& (31 : Int32)) = 14 then
  ((sI G v0 (v3 + (1 : Int32))).bind fun x83 =>
  (ck M 10 v1).bind fun _ => (L_X10_bill v1 x83 M).bind fun w84 =>
  (sI G v0 (v3 + (1 : Int32))).bind fun x85 =>
  (ck w84.2 11 v2).bind fun _ => (L_X11_bill v2 x85 w84.2).bind fun w86 =>
  if w84.1 = w86.1 then
  (J_L_law_640 G (J_L_law_18 G n) v0 v1 v2 v3 w86.2)
  else
  ((bz (0 : Int32)).bind fun _ => some ((0 : Int32), w86.2)))
  else
  if (x2 &&& (31 : Int32)) = 15 then
  ((sI G v0 (v3 + (1 : Int32))).bind fun x87 =>
  (sI G v0 (v3 + (2 : Int32))).bind fun x88 =>
  (ck M 10 v1).bind fun _ => (L_X10_line v1 x87 x88 M).bind fun w89 =>
  (sI G v0 (v3 + (1 : Int32))).bind fun x90 =>
  (sI G v0 (v3 + (2 : Int32))).bind fun x91 =>
  (ck w89.2 11 v2).bind fun _ => (L_X11_line v2 x90 x91 w89.2).bind fun w92 =>
  if w89.1 = w92.1 then
  (J_L_law_640 G (J_L_law_18 G n) v0 v1 v2 v3 w92.2)
  else
  ((bz (0 : Int32)).bind fun _ => some ((0 : Int32), w92.2)))
  else
  if (x2 &&& (31 : Int32)) = 16 then
  ((sI G v0 (v3 + (1 : Int32))).bind fun x93 =>
  (ck M 10 v1).bind fun _ => (L_X10_count v1 x93 M).bind fun w94 =>
  (sI G v0 (v3 + (1 : Int32))).bind fun x95 =>
  (ck w94.2 11 v2).bind fun _ => (L_X11_count v2 x95 w94.2).bind fun w96 =>
  if w94.1 = w96.1 then
  (J_L_law_640 G (J_L_law_18 G n) v0 v1 v2 v3 w96.2)
  else
  ((bz (0 : Int32)).bind fun _ => some ((0 : Int32), w96.2)))
  else
  (J_L_law_640 G (J_L_law_18 G n) v0 v1 v2 v3 M))
set_option maxRecDepth 20000 in
set_option maxHeartbeats 4000000 in
theorem lab_L_law_18 {G : Gt} {M0 M9 : Mem} {x9 : Int32} : ∀ (n : Nat) (v0 : Option Nat) (v1 : Option Nat) (v2 : Option Nat) (v3 : Int32) (M : Mem), J_L_law_18 G n v0 v1 v2 v3 M = some (x9, M9) → V G mL_law 777 M0 (some (vI x9)) M9 M 18 [(0, vX v0), (1, vR v1), (2, vR v2), (3, vI v3)] [] := by
  intro n
  induction n with
  | zero => intro v0 v1 v2 v3 M h; exact nomatch h
  | succ n ih =>
    intro v0 v1 v2 v3 M h
    unfold J_L_law_18 at h
    refine V.iload_n (n := 3) dL_law_18 rfl rfl ?_
    refine V.xload_n (n := 0) dL_law_19 rfl rfl ?_
    refine V.slen dL_law_20 rfl h (fun x1 h => ?_)
    refine V.bipush (x := 6) dL_law_21 (by decide) rfl ?_
    refine V.isub dL_law_23 rfl ?_
    refine V.icmp_gt (q := 646) dL_law_24 (by decide) rfl h (fun h => ?_) (fun h => ?_)
    · refine V.iconst (x := 1) dL_law_646 (by decide) rfl ?_
      exact V.zret dL_law_647 rfl h
    · refine V.xload_n (n := 0) dL_law_27 rfl rfl ?_
      refine V.iload_n (n := 3) dL_law_28 rfl rfl ?_
      refine V.sld dL_law_29 rfl h (fun x2 h => ?_)
      refine V.bipush (x := 31) dL_law_30 (by decide) rfl ?_
      refine V.iand dL_law_32 rfl ?_
      refine V.sw h (fun hx h => ?_) (fun n0 h => ?_)
      · refine V.swt hx ?_
        refine V.tableIn (q := 116) (x := 0) (off := 83) dL_law_33 (by decide) (by decide) (by decide) (by decide) ?_
        refine V.aload_n (n := 1) dL_law_116 rfl rfl ?_
        refine V.xload_n (n := 0) dL_law_117 rfl rfl ?_
        refine V.iload_n (n := 3) dL_law_118 rfl rfl ?_
        refine V.iconst (x := 1) dL_law_119 (by decide) rfl ?_
        refine V.iadd dL_law_120 rfl ?_
        refine V.sld dL_law_121 rfl h (fun x3 h => ?_)
        refine V.xload_n (n := 0) dL_law_122 rfl rfl ?_
        refine V.iload_n (n := 3) dL_law_123 rfl rfl ?_
        refine V.iconst (x := 2) dL_law_124 (by decide) rfl ?_
        refine V.iadd dL_law_125 rfl ?_
        refine V.sld dL_law_126 rfl h (fun x4 h => ?_)
        refine V.xload_n (n := 0) dL_law_127 rfl rfl ?_
        refine V.iload_n (n := 3) dL_law_128 rfl rfl ?_
        refine V.iconst (x := 3) dL_law_129 (by decide) rfl ?_
        refine V.iadd dL_law_130 rfl ?_
        refine V.sld dL_law_131 rfl h (fun x5 h => ?_)
        refine V.xload_n (n := 0) dL_law_132 rfl rfl ?_
        refine V.iload_n (n := 3) dL_law_133 rfl rfl ?_
        refine V.iconst (x := 4) dL_law_134 (by decide) rfl ?_
        refine V.iadd dL_law_135 rfl ?_
        refine V.sld dL_law_136 rfl h (fun x6 h => ?_)
        refine V.xload_n (n := 0) dL_law_137 rfl rfl ?_
        refine V.iload_n (n := 3) dL_law_138 rfl rfl ?_
        refine V.iconst (x := 5) dL_law_139 (by decide) rfl ?_
        refine V.iadd dL_law_140 rfl ?_
        refine V.sld dL_law_141 rfl h (fun x7 h => ?_)
        refine V.callVi (d' := 1) (as := [vI x3, vI x4, vI x5, vI x6, vI x7]) (st := []) dL_law_142 meX10_feed mlL_13 imX10_feed seX10_feed clsX10 rfl (by omega) (Nat.le_of_ble_eq_true rfl) rfl rfl h (fun v hv => lift_X10_feed hv) (fun w8 h => ?_)
        refine V.aload_n (n := 2) dL_law_145 rfl rfl ?_
        refine V.xload_n (n := 0) dL_law_146 rfl rfl ?_
        refine V.iload_n (n := 3) dL_law_147 rfl rfl ?_
        refine V.iconst (x := 1) dL_law_148 (by decide) rfl ?_
        refine V.iadd dL_law_149 rfl ?_
        refine V.sld dL_law_150 rfl h (fun x9 h => ?_)
        refine V.xload_n (n := 0) dL_law_151 rfl rfl ?_
        refine V.iload_n (n := 3) dL_law_152 rfl rfl ?_
        refine V.iconst (x := 2) dL_law_153 (by decide) rfl ?_
        refine V.iadd dL_law_154 rfl ?_
        refine V.sld dL_law_155 rfl h (fun x10 h => ?_)
        refine V.xload_n (n := 0) dL_law_156 rfl rfl ?_
        refine V.iload_n (n := 3) dL_law_157 rfl rfl ?_
        refine V.iconst (x := 3) dL_law_158 (by decide) rfl ?_
        refine V.iadd dL_law_159 rfl ?_
        refine V.sld dL_law_160 rfl h (fun x11 h => ?_)
        refine V.xload_n (n := 0) dL_law_161 rfl rfl ?_
        refine V.iload_n (n := 3) dL_law_162 rfl rfl ?_
        refine V.iconst (x := 4) dL_law_163 (by decide) rfl ?_
        refine V.iadd dL_law_164 rfl ?_
        refine V.sld dL_law_165 rfl h (fun x12 h => ?_)
        refine V.xload_n (n := 0) dL_law_166 rfl rfl ?_
        refine V.iload_n (n := 3) dL_law_167 rfl rfl ?_
        refine V.iconst (x := 5) dL_law_168 (by decide) rfl ?_
        refine V.iadd dL_law_169 rfl ?_
        refine V.sld dL_law_170 rfl h (fun x13 h => ?_)
        refine V.callVi (d' := 0) (as := [vI x9, vI x10, vI x11, vI x12, vI x13]) (st := [vI w8.1]) dL_law_171 meX11_feed mlL_17 imX11_feed seX11_feed clsX11 rfl (by omega) (Nat.le_of_ble_eq_true rfl) rfl rfl h (fun v hv => lift_X11_feed hv) (fun w14 h => ?_)
        refine V.icmp_eq (q := 640) dL_law_174 (by decide) rfl h (fun h => ?_) (fun h => ?_)
        · exact (lab_L_law_640 ih h)
        · refine V.iconst (x := 0) dL_law_177 (by decide) rfl ?_
          exact V.zret dL_law_178 rfl h
      refine V.sw h (fun hx h => ?_) (fun n1 h => ?_)
      · refine V.swt hx ?_
        refine V.tableIn (q := 179) (x := 1) (off := 146) dL_law_33 (by decide) (by decide) (by decide) (by decide) ?_
        refine V.aload_n (n := 1) dL_law_179 rfl rfl ?_
        refine V.xload_n (n := 0) dL_law_180 rfl rfl ?_
        refine V.iload_n (n := 3) dL_law_181 rfl rfl ?_
        refine V.iconst (x := 1) dL_law_182 (by decide) rfl ?_
        refine V.iadd dL_law_183 rfl ?_
        refine V.sld dL_law_184 rfl h (fun x15 h => ?_)
        refine V.callVi (d' := 0) (as := [vI x15]) (st := []) dL_law_185 meX10_end mlL_18 imX10_end seX10_end clsX10 rfl (by omega) (Nat.le_of_ble_eq_true rfl) rfl rfl h (fun v hv => lift_X10_end hv) (fun w16 h => ?_)
        refine V.aload_n (n := 2) dL_law_188 rfl rfl ?_
        refine V.xload_n (n := 0) dL_law_189 rfl rfl ?_
        refine V.iload_n (n := 3) dL_law_190 rfl rfl ?_
        refine V.iconst (x := 1) dL_law_191 (by decide) rfl ?_
        refine V.iadd dL_law_192 rfl ?_
        refine V.sld dL_law_193 rfl h (fun x17 h => ?_)
        refine V.callVi (d' := 0) (as := [vI x17]) (st := [vI w16.1]) dL_law_194 meX11_end mlL_22 imX11_end seX11_end clsX11 rfl (by omega) (Nat.le_of_ble_eq_true rfl) rfl rfl h (fun v hv => lift_X11_end hv) (fun w18 h => ?_)
        refine V.icmp_eq (q := 640) dL_law_197 (by decide) rfl h (fun h => ?_) (fun h => ?_)
        · exact (lab_L_law_640 ih h)
        · refine V.iconst (x := 0) dL_law_200 (by decide) rfl ?_
          exact V.zret dL_law_201 rfl h
      refine V.sw h (fun hx h => ?_) (fun n2 h => ?_)
      · refine V.swt hx ?_
        refine V.tableIn (q := 202) (x := 2) (off := 169) dL_law_33 (by decide) (by decide) (by decide) (by decide) ?_
        refine V.aload_n (n := 1) dL_law_202 rfl rfl ?_
        refine V.xload_n (n := 0) dL_law_203 rfl rfl ?_
        refine V.iload_n (n := 3) dL_law_204 rfl rfl ?_
        refine V.iconst (x := 1) dL_law_205 (by decide) rfl ?_
        refine V.iadd dL_law_206 rfl ?_
        refine V.sld dL_law_207 rfl h (fun x19 h => ?_)
        refine V.callVi (d' := 518) (as := [vI x19]) (st := []) dL_law_208 meX10_sheet mlL_23 imX10_sheet seX10_sheet clsX10 rfl (by omega) (Nat.le_of_ble_eq_true rfl) rfl rfl h (fun v hv => lift_X10_sheet hv) (fun w20 h => ?_)
        refine V.aload_n (n := 2) dL_law_211 rfl rfl ?_
        refine V.xload_n (n := 0) dL_law_212 rfl rfl ?_
        refine V.iload_n (n := 3) dL_law_213 rfl rfl ?_
        refine V.iconst (x := 1) dL_law_214 (by decide) rfl ?_
        refine V.iadd dL_law_215 rfl ?_
        refine V.sld dL_law_216 rfl h (fun x21 h => ?_)
        refine V.callVi (d' := 776) (as := [vI x21]) (st := [vI w20.1]) dL_law_217 meX11_sheet mlL_26 imX11_sheet seX11_sheet clsX11 rfl (by omega) (Nat.le_of_ble_eq_true rfl) rfl rfl h (fun v hv => lift_X11_sheet hv) (fun w22 h => ?_)
        refine V.icmp_eq (q := 640) dL_law_220 (by decide) rfl h (fun h => ?_) (fun h => ?_)
        · exact (lab_L_law_640 ih h)
        · refine V.iconst (x := 0) dL_law_223 (by decide) rfl ?_
          exact V.zret dL_law_224 rfl h
      refine V.sw h (fun hx h => ?_) (fun n3 h => ?_)
      · refine V.swt hx ?_
        refine V.tableIn (q := 225) (x := 3) (off := 192) dL_law_33 (by decide) (by decide) (by decide) (by decide) ?_
        refine V.aload_n (n := 1) dL_law_225 rfl rfl ?_
        refine V.xload_n (n := 0) dL_law_226 rfl rfl ?_
        refine V.iload_n (n := 3) dL_law_227 rfl rfl ?_
        refine V.iconst (x := 1) dL_law_228 (by decide) rfl ?_
        refine V.iadd dL_law_229 rfl ?_
        refine V.sld dL_law_230 rfl h (fun x23 h => ?_)
        refine V.callVi (d' := 0) (as := [vI x23]) (st := []) dL_law_231 meX10_fault mlL_27 imX10_fault seX10_fault clsX10 rfl (by omega) (Nat.le_of_ble_eq_true rfl) rfl rfl h (fun v hv => lift_X10_fault hv) (fun w24 h => ?_)
        refine V.aload_n (n := 2) dL_law_234 rfl rfl ?_
        refine V.xload_n (n := 0) dL_law_235 rfl rfl ?_
        refine V.iload_n (n := 3) dL_law_236 rfl rfl ?_
        refine V.iconst (x := 1) dL_law_237 (by decide) rfl ?_
        refine V.iadd dL_law_238 rfl ?_
        refine V.sld dL_law_239 rfl h (fun x25 h => ?_)
        refine V.callVi (d' := 0) (as := [vI x25]) (st := [vI w24.1]) dL_law_240 meX11_fault mlL_30 imX11_fault seX11_fault clsX11 rfl (by omega) (Nat.le_of_ble_eq_true rfl) rfl rfl h (fun v hv => lift_X11_fault hv) (fun w26 h => ?_)
        refine V.icmp_eq (q := 640) dL_law_243 (by decide) rfl h (fun h => ?_) (fun h => ?_)
        · exact (lab_L_law_640 ih h)
        · refine V.iconst (x := 0) dL_law_246 (by decide) rfl ?_
          exact V.zret dL_law_247 rfl h
      refine V.sw h (fun hx h => ?_) (fun n4 h => ?_)
      · refine V.swt hx ?_
        refine V.tableIn (q := 248) (x := 4) (off := 215) dL_law_33 (by decide) (by decide) (by decide) (by decide) ?_
        refine V.aload_n (n := 1) dL_law_248 rfl rfl ?_
        refine V.xload_n (n := 0) dL_law_249 rfl rfl ?_
        refine V.iload_n (n := 3) dL_law_250 rfl rfl ?_
        refine V.iconst (x := 1) dL_law_251 (by decide) rfl ?_
        refine V.iadd dL_law_252 rfl ?_
        refine V.sld dL_law_253 rfl h (fun x27 h => ?_)
        refine V.callVi (d' := 1) (as := [vI x27]) (st := []) dL_law_254 meX10_forget mlL_31 imX10_forget seX10_forget clsX10 rfl (by omega) (Nat.le_of_ble_eq_true rfl) rfl rfl h (fun v hv => lift_X10_forget hv) (fun w28 h => ?_)
        refine V.aload_n (n := 2) dL_law_257 rfl rfl ?_
        refine V.xload_n (n := 0) dL_law_258 rfl rfl ?_
        refine V.iload_n (n := 3) dL_law_259 rfl rfl ?_
        refine V.iconst (x := 1) dL_law_260 (by decide) rfl ?_
        refine V.iadd dL_law_261 rfl ?_
        refine V.sld dL_law_262 rfl h (fun x29 h => ?_)
        refine V.callVi (d' := 1) (as := [vI x29]) (st := [vI w28.1]) dL_law_263 meX11_forget mlL_35 imX11_forget seX11_forget clsX11 rfl (by omega) (Nat.le_of_ble_eq_true rfl) rfl rfl h (fun v hv => lift_X11_forget hv) (fun w30 h => ?_)
        refine V.icmp_eq (q := 640) dL_law_266 (by decide) rfl h (fun h => ?_) (fun h => ?_)
        · exact (lab_L_law_640 ih h)
        · refine V.iconst (x := 0) dL_law_269 (by decide) rfl ?_
          exact V.zret dL_law_270 rfl h
      refine V.sw h (fun hx h => ?_) (fun n5 h => ?_)
      · refine V.swt hx ?_
        refine V.tableIn (q := 271) (x := 5) (off := 238) dL_law_33 (by decide) (by decide) (by decide) (by decide) ?_
        refine V.aload_n (n := 1) dL_law_271 rfl rfl ?_
        refine V.callVi (d' := 6) (as := []) (st := []) dL_law_272 meX10_issue mlL_36 imX10_issue seX10_issue clsX10 rfl (by omega) (Nat.le_of_ble_eq_true rfl) rfl rfl h (fun v hv => lift_X10_issue hv) (fun w31 h => ?_)
        refine V.aload_n (n := 2) dL_law_275 rfl rfl ?_
        refine V.callVi (d' := 1) (as := []) (st := [vI w31.1]) dL_law_276 meX11_issue mlL_40 imX11_issue seX11_issue clsX11 rfl (by omega) (Nat.le_of_ble_eq_true rfl) rfl rfl h (fun v hv => lift_X11_issue hv) (fun w32 h => ?_)
        refine V.icmp_eq (q := 640) dL_law_279 (by decide) rfl h (fun h => ?_) (fun h => ?_)
        · exact (lab_L_law_640 ih h)
        · refine V.iconst (x := 0) dL_law_282 (by decide) rfl ?_
          exact V.zret dL_law_283 rfl h
      refine V.sw h (fun hx h => ?_) (fun n6 h => ?_)
      · refine V.swt hx ?_
        refine V.tableIn (q := 284) (x := 6) (off := 251) dL_law_33 (by decide) (by decide) (by decide) (by decide) ?_
        refine V.aload_n (n := 1) dL_law_284 rfl rfl ?_
        refine V.xload_n (n := 0) dL_law_285 rfl rfl ?_
        refine V.iload_n (n := 3) dL_law_286 rfl rfl ?_
        refine V.iconst (x := 1) dL_law_287 (by decide) rfl ?_
        refine V.iadd dL_law_288 rfl ?_
        refine V.sld dL_law_289 rfl h (fun x33 h => ?_)
        refine V.xload_n (n := 0) dL_law_290 rfl rfl ?_
        refine V.iload_n (n := 3) dL_law_291 rfl rfl ?_
        refine V.iconst (x := 2) dL_law_292 (by decide) rfl ?_
        refine V.iadd dL_law_293 rfl ?_
        refine V.sld dL_law_294 rfl h (fun x34 h => ?_)
        refine V.callVi (d' := 1) (as := [vI x33, vI x34]) (st := []) dL_law_295 meX10_state mlL_41 imX10_state seX10_state clsX10 rfl (by omega) (Nat.le_of_ble_eq_true rfl) rfl rfl h (fun v hv => lift_X10_state hv) (fun w35 h => ?_)
        refine V.aload_n (n := 2) dL_law_298 rfl rfl ?_
        refine V.xload_n (n := 0) dL_law_299 rfl rfl ?_
        refine V.iload_n (n := 3) dL_law_300 rfl rfl ?_
        refine V.iconst (x := 1) dL_law_301 (by decide) rfl ?_
        refine V.iadd dL_law_302 rfl ?_
        refine V.sld dL_law_303 rfl h (fun x36 h => ?_)
        refine V.xload_n (n := 0) dL_law_304 rfl rfl ?_
        refine V.iload_n (n := 3) dL_law_305 rfl rfl ?_
        refine V.iconst (x := 2) dL_law_306 (by decide) rfl ?_
        refine V.iadd dL_law_307 rfl ?_
        refine V.sld dL_law_308 rfl h (fun x37 h => ?_)
        refine V.callVi (d' := 1) (as := [vI x36, vI x37]) (st := [vI w35.1]) dL_law_309 meX11_state mlL_45 imX11_state seX11_state clsX11 rfl (by omega) (Nat.le_of_ble_eq_true rfl) rfl rfl h (fun v hv => lift_X11_state hv) (fun w38 h => ?_)
        refine V.icmp_eq (q := 640) dL_law_312 (by decide) rfl h (fun h => ?_) (fun h => ?_)
        · exact (lab_L_law_640 ih h)
        · refine V.iconst (x := 0) dL_law_315 (by decide) rfl ?_
          exact V.zret dL_law_316 rfl h
      refine V.sw h (fun hx h => ?_) (fun n7 h => ?_)
      · refine V.swt hx ?_
        refine V.tableIn (q := 317) (x := 7) (off := 284) dL_law_33 (by decide) (by decide) (by decide) (by decide) ?_
        refine V.aload_n (n := 1) dL_law_317 rfl rfl ?_
        refine V.xload_n (n := 0) dL_law_318 rfl rfl ?_
        refine V.iload_n (n := 3) dL_law_319 rfl rfl ?_
        refine V.iconst (x := 1) dL_law_320 (by decide) rfl ?_
        refine V.iadd dL_law_321 rfl ?_
        refine V.sld dL_law_322 rfl h (fun x39 h => ?_)
        refine V.xload_n (n := 0) dL_law_323 rfl rfl ?_
        refine V.iload_n (n := 3) dL_law_324 rfl rfl ?_
        refine V.iconst (x := 2) dL_law_325 (by decide) rfl ?_
        refine V.iadd dL_law_326 rfl ?_
        refine V.sld dL_law_327 rfl h (fun x40 h => ?_)
        refine V.callVi (d' := 1) (as := [vI x39, vI x40]) (st := []) dL_law_328 meX10_leans mlL_46 imX10_leans seX10_leans clsX10 rfl (by omega) (Nat.le_of_ble_eq_true rfl) rfl rfl h (fun v hv => lift_X10_leans hv) (fun w41 h => ?_)
        refine V.aload_n (n := 2) dL_law_331 rfl rfl ?_
        refine V.xload_n (n := 0) dL_law_332 rfl rfl ?_
        refine V.iload_n (n := 3) dL_law_333 rfl rfl ?_
        refine V.iconst (x := 1) dL_law_334 (by decide) rfl ?_
        refine V.iadd dL_law_335 rfl ?_
        refine V.sld dL_law_336 rfl h (fun x42 h => ?_)
        refine V.xload_n (n := 0) dL_law_337 rfl rfl ?_
        refine V.iload_n (n := 3) dL_law_338 rfl rfl ?_
        refine V.iconst (x := 2) dL_law_339 (by decide) rfl ?_
        refine V.iadd dL_law_340 rfl ?_
        refine V.sld dL_law_341 rfl h (fun x43 h => ?_)
        refine V.callVi (d' := 1) (as := [vI x42, vI x43]) (st := [vI w41.1]) dL_law_342 meX11_leans mlL_50 imX11_leans seX11_leans clsX11 rfl (by omega) (Nat.le_of_ble_eq_true rfl) rfl rfl h (fun v hv => lift_X11_leans hv) (fun w44 h => ?_)
        refine V.icmp_eq (q := 640) dL_law_345 (by decide) rfl h (fun h => ?_) (fun h => ?_)
        · exact (lab_L_law_640 ih h)
        · refine V.iconst (x := 0) dL_law_348 (by decide) rfl ?_
          exact V.zret dL_law_349 rfl h
      refine V.sw h (fun hx h => ?_) (fun n8 h => ?_)
      · refine V.swt hx ?_
        refine V.tableIn (q := 350) (x := 8) (off := 317) dL_law_33 (by decide) (by decide) (by decide) (by decide) ?_
        refine V.aload_n (n := 1) dL_law_350 rfl rfl ?_
        refine V.xload_n (n := 0) dL_law_351 rfl rfl ?_
        refine V.iload_n (n := 3) dL_law_352 rfl rfl ?_
        refine V.iconst (x := 1) dL_law_353 (by decide) rfl ?_
        refine V.iadd dL_law_354 rfl ?_
        refine V.sld dL_law_355 rfl h (fun x45 h => ?_)
        refine V.xload_n (n := 0) dL_law_356 rfl rfl ?_
        refine V.iload_n (n := 3) dL_law_357 rfl rfl ?_
        refine V.iconst (x := 2) dL_law_358 (by decide) rfl ?_
        refine V.iadd dL_law_359 rfl ?_
        refine V.sld dL_law_360 rfl h (fun x46 h => ?_)
        refine V.callVl (d' := 1) (as := [vI x45, vI x46]) (st := []) dL_law_361 meX10_constant mlL_51 imX10_constant seX10_constant clsX10 rfl (by omega) (Nat.le_of_ble_eq_true rfl) rfl rfl h (fun v hv => lift_X10_constant hv) (fun w47 h => ?_)
        refine V.aload_n (n := 2) dL_law_364 rfl rfl ?_
        refine V.xload_n (n := 0) dL_law_365 rfl rfl ?_
        refine V.iload_n (n := 3) dL_law_366 rfl rfl ?_
        refine V.iconst (x := 1) dL_law_367 (by decide) rfl ?_
        refine V.iadd dL_law_368 rfl ?_
        refine V.sld dL_law_369 rfl h (fun x48 h => ?_)
        refine V.xload_n (n := 0) dL_law_370 rfl rfl ?_
        refine V.iload_n (n := 3) dL_law_371 rfl rfl ?_
        refine V.iconst (x := 2) dL_law_372 (by decide) rfl ?_
        refine V.iadd dL_law_373 rfl ?_
        refine V.sld dL_law_374 rfl h (fun x49 h => ?_)
        refine V.callVl (d' := 3) (as := [vI x48, vI x49]) (st := [vL w47.1]) dL_law_375 meX11_constant mlL_55 imX11_constant seX11_constant clsX11 rfl (by omega) (Nat.le_of_ble_eq_true rfl) rfl rfl h (fun v hv => lift_X11_constant hv) (fun w50 h => ?_)
        refine V.lif_eq (q := 640) dL_law_378 rfl dL_law_379 (by decide) rfl h (fun h => ?_) (fun h => ?_)
        · exact (lab_L_law_640 ih h)
        · refine V.iconst (x := 0) dL_law_382 (by decide) rfl ?_
          exact V.zret dL_law_383 rfl h
      refine V.sw h (fun hx h => ?_) (fun n9 h => ?_)
      · refine V.swt hx ?_
        refine V.tableIn (q := 384) (x := 9) (off := 351) dL_law_33 (by decide) (by decide) (by decide) (by decide) ?_
        refine V.aload_n (n := 1) dL_law_384 rfl rfl ?_
        refine V.xload_n (n := 0) dL_law_385 rfl rfl ?_
        refine V.iload_n (n := 3) dL_law_386 rfl rfl ?_
        refine V.iconst (x := 1) dL_law_387 (by decide) rfl ?_
        refine V.iadd dL_law_388 rfl ?_
        refine V.sld dL_law_389 rfl h (fun x51 h => ?_)
        refine V.xload_n (n := 0) dL_law_390 rfl rfl ?_
        refine V.iload_n (n := 3) dL_law_391 rfl rfl ?_
        refine V.iconst (x := 2) dL_law_392 (by decide) rfl ?_
        refine V.iadd dL_law_393 rfl ?_
        refine V.sld dL_law_394 rfl h (fun x52 h => ?_)
        refine V.xload_n (n := 0) dL_law_395 rfl rfl ?_
        refine V.iload_n (n := 3) dL_law_396 rfl rfl ?_
        refine V.iconst (x := 3) dL_law_397 (by decide) rfl ?_
        refine V.iadd dL_law_398 rfl ?_
        refine V.sld dL_law_399 rfl h (fun x53 h => ?_)
        refine V.callVl (d' := 1) (as := [vI x51, vI x52, vI x53]) (st := []) dL_law_400 meX10_entry mlL_56 imX10_entry seX10_entry clsX10 rfl (by omega) (Nat.le_of_ble_eq_true rfl) rfl rfl h (fun v hv => lift_X10_entry hv) (fun w54 h => ?_)
        refine V.aload_n (n := 2) dL_law_403 rfl rfl ?_
        refine V.xload_n (n := 0) dL_law_404 rfl rfl ?_
        refine V.iload_n (n := 3) dL_law_405 rfl rfl ?_
        refine V.iconst (x := 1) dL_law_406 (by decide) rfl ?_
        refine V.iadd dL_law_407 rfl ?_
        refine V.sld dL_law_408 rfl h (fun x55 h => ?_)
        refine V.xload_n (n := 0) dL_law_409 rfl rfl ?_
        refine V.iload_n (n := 3) dL_law_410 rfl rfl ?_
        refine V.iconst (x := 2) dL_law_411 (by decide) rfl ?_
        refine V.iadd dL_law_412 rfl ?_
        refine V.sld dL_law_413 rfl h (fun x56 h => ?_)
        refine V.xload_n (n := 0) dL_law_414 rfl rfl ?_
        refine V.iload_n (n := 3) dL_law_415 rfl rfl ?_
        refine V.iconst (x := 3) dL_law_416 (by decide) rfl ?_
        refine V.iadd dL_law_417 rfl ?_
        refine V.sld dL_law_418 rfl h (fun x57 h => ?_)
        refine V.callVl (d' := 1) (as := [vI x55, vI x56, vI x57]) (st := [vL w54.1]) dL_law_419 meX11_entry mlL_60 imX11_entry seX11_entry clsX11 rfl (by omega) (Nat.le_of_ble_eq_true rfl) rfl rfl h (fun v hv => lift_X11_entry hv) (fun w58 h => ?_)
        refine V.lif_eq (q := 640) dL_law_422 rfl dL_law_423 (by decide) rfl h (fun h => ?_) (fun h => ?_)
        · exact (lab_L_law_640 ih h)
        · refine V.iconst (x := 0) dL_law_426 (by decide) rfl ?_
          exact V.zret dL_law_427 rfl h
      refine V.sw h (fun hx h => ?_) (fun n10 h => ?_)
      · refine V.swt hx ?_
        refine V.tableIn (q := 428) (x := 10) (off := 395) dL_law_33 (by decide) (by decide) (by decide) (by decide) ?_
        refine V.aload_n (n := 1) dL_law_428 rfl rfl ?_
        refine V.xload_n (n := 0) dL_law_429 rfl rfl ?_
        refine V.iload_n (n := 3) dL_law_430 rfl rfl ?_
        refine V.iconst (x := 1) dL_law_431 (by decide) rfl ?_
        refine V.iadd dL_law_432 rfl ?_
        refine V.sld dL_law_433 rfl h (fun x59 h => ?_)
        refine V.callVi (d' := 6) (as := [vI x59]) (st := []) dL_law_434 meX10_need mlL_61 imX10_need seX10_need clsX10 rfl (by omega) (Nat.le_of_ble_eq_true rfl) rfl rfl h (fun v hv => lift_X10_need hv) (fun w60 h => ?_)
        refine V.aload_n (n := 2) dL_law_437 rfl rfl ?_
        refine V.xload_n (n := 0) dL_law_438 rfl rfl ?_
        refine V.iload_n (n := 3) dL_law_439 rfl rfl ?_
        refine V.iconst (x := 1) dL_law_440 (by decide) rfl ?_
        refine V.iadd dL_law_441 rfl ?_
        refine V.sld dL_law_442 rfl h (fun x61 h => ?_)
        refine V.callVi (d' := 193) (as := [vI x61]) (st := [vI w60.1]) dL_law_443 meX11_need mlL_64 imX11_need seX11_need clsX11 rfl (by omega) (Nat.le_of_ble_eq_true rfl) rfl rfl h (fun v hv => lift_X11_need hv) (fun w62 h => ?_)
        refine V.icmp_eq (q := 640) dL_law_446 (by decide) rfl h (fun h => ?_) (fun h => ?_)
        · exact (lab_L_law_640 ih h)
        · refine V.iconst (x := 0) dL_law_449 (by decide) rfl ?_
          exact V.zret dL_law_450 rfl h
      refine V.sw h (fun hx h => ?_) (fun n11 h => ?_)
      · refine V.swt hx ?_
        refine V.tableIn (q := 451) (x := 11) (off := 418) dL_law_33 (by decide) (by decide) (by decide) (by decide) ?_
        refine V.aload_n (n := 1) dL_law_451 rfl rfl ?_
        refine V.xload_n (n := 0) dL_law_452 rfl rfl ?_
        refine V.iload_n (n := 3) dL_law_453 rfl rfl ?_
        refine V.iconst (x := 1) dL_law_454 (by decide) rfl ?_
        refine V.iadd dL_law_455 rfl ?_
        refine V.sld dL_law_456 rfl h (fun x63 h => ?_)
        refine V.callVi (d' := 0) (as := [vI x63]) (st := []) dL_law_457 meX10_started mlL_65 imX10_started seX10_started clsX10 rfl (by omega) (Nat.le_of_ble_eq_true rfl) rfl rfl h (fun v hv => lift_X10_started hv) (fun w64 h => ?_)
        refine V.aload_n (n := 2) dL_law_460 rfl rfl ?_
        refine V.xload_n (n := 0) dL_law_461 rfl rfl ?_
        refine V.iload_n (n := 3) dL_law_462 rfl rfl ?_
        refine V.iconst (x := 1) dL_law_463 (by decide) rfl ?_
        refine V.iadd dL_law_464 rfl ?_
        refine V.sld dL_law_465 rfl h (fun x65 h => ?_)
        refine V.callVi (d' := 1) (as := [vI x65]) (st := [vI w64.1]) dL_law_466 meX11_started mlL_68 imX11_started seX11_started clsX11 rfl (by omega) (Nat.le_of_ble_eq_true rfl) rfl rfl h (fun v hv => lift_X11_started hv) (fun w66 h => ?_)
        refine V.icmp_eq (q := 640) dL_law_469 (by decide) rfl h (fun h => ?_) (fun h => ?_)
        · exact (lab_L_law_640 ih h)
        · refine V.iconst (x := 0) dL_law_472 (by decide) rfl ?_
          exact V.zret dL_law_473 rfl h
      refine V.sw h (fun hx h => ?_) (fun n12 h => ?_)
      · refine V.swt hx ?_
        refine V.tableIn (q := 474) (x := 12) (off := 441) dL_law_33 (by decide) (by decide) (by decide) (by decide) ?_
        refine V.aload_n (n := 1) dL_law_474 rfl rfl ?_
        refine V.xload_n (n := 0) dL_law_475 rfl rfl ?_
        refine V.iload_n (n := 3) dL_law_476 rfl rfl ?_
        refine V.iconst (x := 1) dL_law_477 (by decide) rfl ?_
        refine V.iadd dL_law_478 rfl ?_
        refine V.sld dL_law_479 rfl h (fun x67 h => ?_)
        refine V.xload_n (n := 0) dL_law_480 rfl rfl ?_
        refine V.iload_n (n := 3) dL_law_481 rfl rfl ?_
        refine V.iconst (x := 2) dL_law_482 (by decide) rfl ?_
        refine V.iadd dL_law_483 rfl ?_
        refine V.sld dL_law_484 rfl h (fun x68 h => ?_)
        refine V.callVi (d' := 2) (as := [vI x67, vI x68]) (st := []) dL_law_485 meX10_voyage mlL_69 imX10_voyage seX10_voyage clsX10 rfl (by omega) (Nat.le_of_ble_eq_true rfl) rfl rfl h (fun v hv => lift_X10_voyage hv) (fun w69 h => ?_)
        refine V.aload_n (n := 2) dL_law_488 rfl rfl ?_
        refine V.xload_n (n := 0) dL_law_489 rfl rfl ?_
        refine V.iload_n (n := 3) dL_law_490 rfl rfl ?_
        refine V.iconst (x := 1) dL_law_491 (by decide) rfl ?_
        refine V.iadd dL_law_492 rfl ?_
        refine V.sld dL_law_493 rfl h (fun x70 h => ?_)
        refine V.xload_n (n := 0) dL_law_494 rfl rfl ?_
        refine V.iload_n (n := 3) dL_law_495 rfl rfl ?_
        refine V.iconst (x := 2) dL_law_496 (by decide) rfl ?_
        refine V.iadd dL_law_497 rfl ?_
        refine V.sld dL_law_498 rfl h (fun x71 h => ?_)
        refine V.callVi (d' := 1) (as := [vI x70, vI x71]) (st := [vI w69.1]) dL_law_499 meX11_voyage mlL_72 imX11_voyage seX11_voyage clsX11 rfl (by omega) (Nat.le_of_ble_eq_true rfl) rfl rfl h (fun v hv => lift_X11_voyage hv) (fun w72 h => ?_)
        refine V.icmp_eq (q := 640) dL_law_502 (by decide) rfl h (fun h => ?_) (fun h => ?_)
        · exact (lab_L_law_640 ih h)
        · refine V.iconst (x := 0) dL_law_505 (by decide) rfl ?_
          exact V.zret dL_law_506 rfl h
      refine V.sw h (fun hx h => ?_) (fun n13 h => ?_)
      · refine V.swt hx ?_
        refine V.tableIn (q := 507) (x := 13) (off := 474) dL_law_33 (by decide) (by decide) (by decide) (by decide) ?_
        refine V.aload_n (n := 1) dL_law_507 rfl rfl ?_
        refine V.xload_n (n := 0) dL_law_508 rfl rfl ?_
        refine V.iload_n (n := 3) dL_law_509 rfl rfl ?_
        refine V.iconst (x := 1) dL_law_510 (by decide) rfl ?_
        refine V.iadd dL_law_511 rfl ?_
        refine V.sld dL_law_512 rfl h (fun x73 h => ?_)
        refine V.xload_n (n := 0) dL_law_513 rfl rfl ?_
        refine V.iload_n (n := 3) dL_law_514 rfl rfl ?_
        refine V.iconst (x := 2) dL_law_515 (by decide) rfl ?_
        refine V.iadd dL_law_516 rfl ?_
        refine V.sld dL_law_517 rfl h (fun x74 h => ?_)
        refine V.xload_n (n := 0) dL_law_518 rfl rfl ?_
        refine V.iload_n (n := 3) dL_law_519 rfl rfl ?_
        refine V.iconst (x := 3) dL_law_520 (by decide) rfl ?_
        refine V.iadd dL_law_521 rfl ?_
        refine V.sld dL_law_522 rfl h (fun x75 h => ?_)
        refine V.xload_n (n := 0) dL_law_523 rfl rfl ?_
        refine V.iload_n (n := 3) dL_law_524 rfl rfl ?_
        refine V.iconst (x := 4) dL_law_525 (by decide) rfl ?_
        refine V.iadd dL_law_526 rfl ?_
        refine V.sld dL_law_527 rfl h (fun x76 h => ?_)
        refine V.callVi (d' := 1) (as := [vI x73, vI x74, vI x75, vI x76]) (st := []) dL_law_528 meX10_lock mlL_73 imX10_lock seX10_lock clsX10 rfl (by omega) (Nat.le_of_ble_eq_true rfl) rfl rfl h (fun v hv => lift_X10_lock hv) (fun w77 h => ?_)
        refine V.aload_n (n := 2) dL_law_531 rfl rfl ?_
        refine V.xload_n (n := 0) dL_law_532 rfl rfl ?_
        refine V.iload_n (n := 3) dL_law_533 rfl rfl ?_
        refine V.iconst (x := 1) dL_law_534 (by decide) rfl ?_
        refine V.iadd dL_law_535 rfl ?_
        refine V.sld dL_law_536 rfl h (fun x78 h => ?_)
        refine V.xload_n (n := 0) dL_law_537 rfl rfl ?_
        refine V.iload_n (n := 3) dL_law_538 rfl rfl ?_
        refine V.iconst (x := 2) dL_law_539 (by decide) rfl ?_
        refine V.iadd dL_law_540 rfl ?_
        refine V.sld dL_law_541 rfl h (fun x79 h => ?_)
        refine V.xload_n (n := 0) dL_law_542 rfl rfl ?_
        refine V.iload_n (n := 3) dL_law_543 rfl rfl ?_
        refine V.iconst (x := 3) dL_law_544 (by decide) rfl ?_
        refine V.iadd dL_law_545 rfl ?_
        refine V.sld dL_law_546 rfl h (fun x80 h => ?_)
        refine V.xload_n (n := 0) dL_law_547 rfl rfl ?_
        refine V.iload_n (n := 3) dL_law_548 rfl rfl ?_
        refine V.iconst (x := 4) dL_law_549 (by decide) rfl ?_
        refine V.iadd dL_law_550 rfl ?_
        refine V.sld dL_law_551 rfl h (fun x81 h => ?_)
        refine V.callVi (d' := 1) (as := [vI x78, vI x79, vI x80, vI x81]) (st := [vI w77.1]) dL_law_552 meX11_lock mlL_77 imX11_lock seX11_lock clsX11 rfl (by omega) (Nat.le_of_ble_eq_true rfl) rfl rfl h (fun v hv => lift_X11_lock hv) (fun w82 h => ?_)
        refine V.icmp_eq (q := 640) dL_law_555 (by decide) rfl h (fun h => ?_) (fun h => ?_)
        · exact (lab_L_law_640 ih h)
        · refine V.iconst (x := 0) dL_law_558 (by decide) rfl ?_
          exact V.zret dL_law_559 rfl h
      refine V.sw h (fun hx h => ?_) (fun n14 h => ?_)
      · refine V.swt hx ?_
        refine V.tableIn (q := 560) (x := 14) (off := 527) dL_law_33 (by decide) (by decide) (by decide) (by decide) ?_
        refine V.aload_n (n := 1) dL_law_560 rfl rfl ?_
        refine V.xload_n (n := 0) dL_law_561 rfl rfl ?_
        refine V.iload_n (n := 3) dL_law_562 rfl rfl ?_
        refine V.iconst (x := 1) dL_law_563 (by decide) rfl ?_
        refine V.iadd dL_law_564 rfl ?_
        refine V.sld dL_law_565 rfl h (fun x83 h => ?_)
        refine V.callVi (d' := 7) (as := [vI x83]) (st := []) dL_law_566 meX10_bill mlL_78 imX10_bill seX10_bill clsX10 rfl (by omega) (Nat.le_of_ble_eq_true rfl) rfl rfl h (fun v hv => lift_X10_bill hv) (fun w84 h => ?_)
        refine V.aload_n (n := 2) dL_law_569 rfl rfl ?_
        refine V.xload_n (n := 0) dL_law_570 rfl rfl ?_
        refine V.iload_n (n := 3) dL_law_571 rfl rfl ?_
        refine V.iconst (x := 1) dL_law_572 (by decide) rfl ?_
        refine V.iadd dL_law_573 rfl ?_
        refine V.sld dL_law_574 rfl h (fun x85 h => ?_)
        refine V.callVi (d' := 197) (as := [vI x85]) (st := [vI w84.1]) dL_law_575 meX11_bill mlL_81 imX11_bill seX11_bill clsX11 rfl (by omega) (Nat.le_of_ble_eq_true rfl) rfl rfl h (fun v hv => lift_X11_bill hv) (fun w86 h => ?_)
        refine V.icmp_eq (q := 640) dL_law_578 (by decide) rfl h (fun h => ?_) (fun h => ?_)
        · exact (lab_L_law_640 ih h)
        · refine V.iconst (x := 0) dL_law_581 (by decide) rfl ?_
          exact V.zret dL_law_582 rfl h
      refine V.sw h (fun hx h => ?_) (fun n15 h => ?_)
      · refine V.swt hx ?_
        refine V.tableIn (q := 583) (x := 15) (off := 550) dL_law_33 (by decide) (by decide) (by decide) (by decide) ?_
        refine V.aload_n (n := 1) dL_law_583 rfl rfl ?_
        refine V.xload_n (n := 0) dL_law_584 rfl rfl ?_
        refine V.iload_n (n := 3) dL_law_585 rfl rfl ?_
        refine V.iconst (x := 1) dL_law_586 (by decide) rfl ?_
        refine V.iadd dL_law_587 rfl ?_
        refine V.sld dL_law_588 rfl h (fun x87 h => ?_)
        refine V.xload_n (n := 0) dL_law_589 rfl rfl ?_
        refine V.iload_n (n := 3) dL_law_590 rfl rfl ?_
        refine V.iconst (x := 2) dL_law_591 (by decide) rfl ?_
        refine V.iadd dL_law_592 rfl ?_
        refine V.sld dL_law_593 rfl h (fun x88 h => ?_)
        refine V.callVl (d' := 1) (as := [vI x87, vI x88]) (st := []) dL_law_594 meX10_line mlL_82 imX10_line seX10_line clsX10 rfl (by omega) (Nat.le_of_ble_eq_true rfl) rfl rfl h (fun v hv => lift_X10_line hv) (fun w89 h => ?_)
        refine V.aload_n (n := 2) dL_law_597 rfl rfl ?_
        refine V.xload_n (n := 0) dL_law_598 rfl rfl ?_
        refine V.iload_n (n := 3) dL_law_599 rfl rfl ?_
        refine V.iconst (x := 1) dL_law_600 (by decide) rfl ?_
        refine V.iadd dL_law_601 rfl ?_
        refine V.sld dL_law_602 rfl h (fun x90 h => ?_)
        refine V.xload_n (n := 0) dL_law_603 rfl rfl ?_
        refine V.iload_n (n := 3) dL_law_604 rfl rfl ?_
        refine V.iconst (x := 2) dL_law_605 (by decide) rfl ?_
        refine V.iadd dL_law_606 rfl ?_
        refine V.sld dL_law_607 rfl h (fun x91 h => ?_)
        refine V.callVl (d' := 1) (as := [vI x90, vI x91]) (st := [vL w89.1]) dL_law_608 meX11_line mlL_85 imX11_line seX11_line clsX11 rfl (by omega) (Nat.le_of_ble_eq_true rfl) rfl rfl h (fun v hv => lift_X11_line hv) (fun w92 h => ?_)
        refine V.lif_eq (q := 640) dL_law_611 rfl dL_law_612 (by decide) rfl h (fun h => ?_) (fun h => ?_)
        · exact (lab_L_law_640 ih h)
        · refine V.iconst (x := 0) dL_law_615 (by decide) rfl ?_
          exact V.zret dL_law_616 rfl h
      refine V.sw h (fun hx h => ?_) (fun n16 h => ?_)
      · refine V.swt hx ?_
        refine V.tableIn (q := 617) (x := 16) (off := 584) dL_law_33 (by decide) (by decide) (by decide) (by decide) ?_
        refine V.aload_n (n := 1) dL_law_617 rfl rfl ?_
        refine V.xload_n (n := 0) dL_law_618 rfl rfl ?_
        refine V.iload_n (n := 3) dL_law_619 rfl rfl ?_
        refine V.iconst (x := 1) dL_law_620 (by decide) rfl ?_
        refine V.iadd dL_law_621 rfl ?_
        refine V.sld dL_law_622 rfl h (fun x93 h => ?_)
        refine V.callVi (d' := 0) (as := [vI x93]) (st := []) dL_law_623 meX10_count mlL_86 imX10_count seX10_count clsX10 rfl (by omega) (Nat.le_of_ble_eq_true rfl) rfl rfl h (fun v hv => lift_X10_count hv) (fun w94 h => ?_)
        refine V.aload_n (n := 2) dL_law_626 rfl rfl ?_
        refine V.xload_n (n := 0) dL_law_627 rfl rfl ?_
        refine V.iload_n (n := 3) dL_law_628 rfl rfl ?_
        refine V.iconst (x := 1) dL_law_629 (by decide) rfl ?_
        refine V.iadd dL_law_630 rfl ?_
        refine V.sld dL_law_631 rfl h (fun x95 h => ?_)
        refine V.callVi (d' := 0) (as := [vI x95]) (st := [vI w94.1]) dL_law_632 meX11_count mlL_89 imX11_count seX11_count clsX11 rfl (by omega) (Nat.le_of_ble_eq_true rfl) rfl rfl h (fun v hv => lift_X11_count hv) (fun w96 h => ?_)
        refine V.icmp_eq (q := 640) dL_law_635 (by decide) rfl h (fun h => ?_) (fun h => ?_)
        · exact (lab_L_law_640 ih h)
        · refine V.iconst (x := 0) dL_law_638 (by decide) rfl ?_
          exact V.zret dL_law_639 rfl h
      have e0 := sw_ne n0
      have e1 := sw_ne n1
      have e2 := sw_ne n2
      have e3 := sw_ne n3
      have e4 := sw_ne n4
      have e5 := sw_ne n5
      have e6 := sw_ne n6
      have e7 := sw_ne n7
      have e8 := sw_ne n8
      have e9 := sw_ne n9
      have e10 := sw_ne n10
      have e11 := sw_ne n11
      have e12 := sw_ne n12
      have e13 := sw_ne n13
      have e14 := sw_ne n14
      have e15 := sw_ne n15
      have e16 := sw_ne n16
      have t0 : (0 : Int32).toInt = 0 := by decide
      have t1 : (1 : Int32).toInt = 1 := by decide
      have t2 : (2 : Int32).toInt = 2 := by decide
      have t3 : (3 : Int32).toInt = 3 := by decide
      have t4 : (4 : Int32).toInt = 4 := by decide
      have t5 : (5 : Int32).toInt = 5 := by decide
      have t6 : (6 : Int32).toInt = 6 := by decide
      have t7 : (7 : Int32).toInt = 7 := by decide
      have t8 : (8 : Int32).toInt = 8 := by decide
      have t9 : (9 : Int32).toInt = 9 := by decide
      have t10 : (10 : Int32).toInt = 10 := by decide
      have t11 : (11 : Int32).toInt = 11 := by decide
      have t12 : (12 : Int32).toInt = 12 := by decide
      have t13 : (13 : Int32).toInt = 13 := by decide
      have t14 : (14 : Int32).toInt = 14 := by decide
      have t15 : (15 : Int32).toInt = 15 := by decide
      have t16 : (16 : Int32).toInt = 16 := by decide
      refine V.tableOut (q := 640) dL_law_33 (by omega) (by decide) ?_
      exact (lab_L_law_640 ih h)
def L_L_law (G : Gt) (v0 : Option Nat) (M : Mem) : Option (Int32 × Mem) :=
  (L_X10_init (some (nc M)) (nw M 10 0 9)).bind fun w97 =>
  (L_X11_init (some (nc w97.2)) (nw w97.2 11 0 85)).bind fun w98 =>
  J_L_law_18 G FU v0 (some (nc M)) (some (nc w97.2)) (0 : Int32) w98.2
set_option maxRecDepth 20000 in
set_option maxHeartbeats 4000000 in
theorem walk_L_law {G : Gt} {M M9 : Mem} {x9 : Int32} {v0 : Option Nat} (h : L_L_law G v0 M = some (x9, M9)) : V G mL_law 777 M (some (vI x9)) M9 M 0 [(0, vX v0)] [] := by
  unfold L_L_law at h
  refine V.new dL_law_0 clsX10 cdL_7 inX10 iiX10 rfl ?_
  refine V.dup dL_law_3 rfl rfl ?_
  refine V.callI (d' := 11) (a := (nc M)) (as := []) (st := [vR (some (nc M))]) dL_law_4 meX10_init rfl rfl mlL_9 imX10_init rfl (by omega) (Nat.le_of_ble_eq_true rfl) rfl rfl h (fun v hv => lift_X10_init hv) (fun w97 h => ?_)
  refine V.astore_n dL_law_7 rfl (by decide) rfl rfl ?_
  refine V.new dL_law_8 clsX11 cdL_10 inX11 iiX11 rfl ?_
  refine V.dup dL_law_11 rfl rfl ?_
  refine V.callI (d' := 1) (a := (nc w97.2)) (as := []) (st := [vR (some (nc w97.2))]) dL_law_12 meX11_init rfl rfl mlL_12 imX11_init rfl (by omega) (Nat.le_of_ble_eq_true rfl) rfl rfl h (fun v hv => lift_X11_init hv) (fun w98 h => ?_)
  refine V.astore_n dL_law_15 rfl (by decide) rfl rfl ?_
  refine V.iconst (x := 0) dL_law_16 (by decide) rfl ?_
  refine V.istore_n dL_law_17 rfl (by decide) rfl rfl ?_
  exact V.sub [3, 2, 1, 0] rfl (lab_L_law_18 FU _ _ _ _ _ h)
