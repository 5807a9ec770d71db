def J_X11_reads_184 (k_114 : Option Nat → Mem → Option (Unit × Mem)) (v0 : Option Nat) (M : Mem) : Option (Unit × Mem) :=
  (ck M 11 v0).bind fun _ => (L_X11_step 6 v0 M).bind fun w1 =>
  k_114 v0 w1.2
set_option maxRecDepth 20000 in
set_option maxHeartbeats 4000000 in
theorem lab_X11_reads_184 {G : Gt} {M0 M9 : Mem} {x9 : Unit} {k_114 : Option Nat → Mem → Option (Unit × Mem)} (hk_114 : ∀ (v0 : Option Nat) (Ma : Mem), k_114 v0 Ma = some (x9, M9) → V G mX11_reads 775 M0 none M9 Ma 114 [(0, vR v0)] []) {v0 : Option Nat} {M : Mem} (h : J_X11_reads_184 k_114 v0 M = some (x9, M9)) : V G mX11_reads 775 M0 none M9 M 184 [(0, vR v0)] [] := by
  unfold J_X11_reads_184 at h
  refine V.aload_n (n := 0) dX11_reads_184 rfl rfl ?_
  refine V.callVv (d' := 129 * 6) (as := []) (st := []) dX11_reads_185 meX11_step mlX11_327 imX11_step seX11_step clsX11 rfl (by omega) (Nat.le_of_ble_eq_true rfl) rfl rfl h (fun v hv => lift_X11_step 6 hv) (fun w1 h => ?_)
  refine V.goto (q := 114) dX11_reads_188 (by decide) ?_
  exact (hk_114 _ _ h)
def J_X11_reads_114 : Nat → Option Nat → Mem → Option (Unit × Mem)
  | 0 => fun _ _ => none
  | n + 1 => fun v0 M =>
  (fI M 11 11 v0).bind fun x2 =>
  if ¬ x2 = 0 then
  (some ((), M))
  else
  ((fI M 11 6 v0).bind fun x3 =>
  if x3 = (4 : Int32) then
  (some ((), M))
  else
  ((ck M 11 v0).bind fun _ => (L_X11_isWord v0 (2 : Int32) M).bind fun w4 =>
  if w4.1 = 0 then
  ((ck w4.2 11 v0).bind fun _ => (L_X11_isWord v0 (3 : Int32) w4.2).bind fun w5 =>
  if w5.1 = 0 then
  ((ck w5.2 11 v0).bind fun _ => (L_X11_isWord v0 (4 : Int32) w5.2).bind fun w6 =>
  if ¬ w6.1 = 0 then
  (J_X11_reads_184 (J_X11_reads_114 n) v0 w6.2)
  else
  ((ck w6.2 11 v0).bind fun _ => (L_X11_isWord v0 (5 : Int32) w6.2).bind fun w7 =>
  if ¬ w7.1 = 0 then
  (J_X11_reads_184 (J_X11_reads_114 n) v0 w7.2)
  else
  ((ck w7.2 11 v0).bind fun _ => (L_X11_isWord v0 (6 : Int32) w7.2).bind fun w8 =>
  if w8.1 = 0 then
  ((ck w8.2 11 v0).bind fun _ => (L_X11_stops v0 w8.2).bind fun w9 =>
  J_X11_reads_114 n v0 w9.2)
  else
  (J_X11_reads_184 (J_X11_reads_114 n) v0 w8.2))))
  else
  ((ck w5.2 11 v0).bind fun _ => (L_X11_rule v0 w5.2).bind fun w10 =>
  J_X11_reads_114 n v0 w10.2))
  else
  ((ck w4.2 11 v0).bind fun _ => (L_X11_aConst v0 w4.2).bind fun w11 =>
  J_X11_reads_114 n v0 w11.2)))
set_option maxRecDepth 20000 in
set_option maxHeartbeats 4000000 in
theorem lab_X11_reads_114 {G : Gt} {M0 M9 : Mem} {x9 : Unit} : ∀ (n : Nat) (v0 : Option Nat) (M : Mem), J_X11_reads_114 n v0 M = some (x9, M9) → V G mX11_reads 775 M0 none M9 M 114 [(0, vR v0)] [] := by
  intro n
  induction n with
  | zero => intro v0 M h; exact nomatch h
  | succ n ih =>
    intro v0 M h
    unfold J_X11_reads_114 at h
    refine V.aload_n (n := 0) dX11_reads_114 rfl rfl ?_
    refine V.getI dX11_reads_115 lkX11_215 rfl rfl h (fun x2 h => ?_)
    refine V.if_ne (q := 198) dX11_reads_118 (by decide) rfl h (fun h => ?_) (fun h => ?_)
    · exact V.vret dX11_reads_198 rfl h
    · refine V.aload_n (n := 0) dX11_reads_121 rfl rfl ?_
      refine V.getI dX11_reads_122 lkX11_195 rfl rfl h (fun x3 h => ?_)
      refine V.iconst (x := 4) dX11_reads_125 (by decide) rfl ?_
      refine V.icmp_eq (q := 198) dX11_reads_126 (by decide) rfl h (fun h => ?_) (fun h => ?_)
      · exact V.vret dX11_reads_198 rfl h
      · refine V.aload_n (n := 0) dX11_reads_129 rfl rfl ?_
        refine V.iconst (x := 2) dX11_reads_130 (by decide) rfl ?_
        refine V.callVi (d' := 0) (as := [vI (2 : Int32)]) (st := []) dX11_reads_131 meX11_isWord mlX11_324 imX11_isWord seX11_isWord clsX11 rfl (by omega) (Nat.le_of_ble_eq_true rfl) rfl rfl h (fun v hv => lift_X11_isWord hv) (fun w4 h => ?_)
        refine V.if_eq (q := 144) dX11_reads_134 (by decide) rfl h (fun h => ?_) (fun h => ?_)
        · refine V.aload_n (n := 0) dX11_reads_144 rfl rfl ?_
          refine V.iconst (x := 3) dX11_reads_145 (by decide) rfl ?_
          refine V.callVi (d' := 0) (as := [vI (3 : Int32)]) (st := []) dX11_reads_146 meX11_isWord mlX11_324 imX11_isWord seX11_isWord clsX11 rfl (by omega) (Nat.le_of_ble_eq_true rfl) rfl rfl h (fun v hv => lift_X11_isWord hv) (fun w5 h => ?_)
          refine V.if_eq (q := 159) dX11_reads_149 (by decide) rfl h (fun h => ?_) (fun h => ?_)
          · refine V.aload_n (n := 0) dX11_reads_159 rfl rfl ?_
            refine V.iconst (x := 4) dX11_reads_160 (by decide) rfl ?_
            refine V.callVi (d' := 0) (as := [vI (4 : Int32)]) (st := []) dX11_reads_161 meX11_isWord mlX11_324 imX11_isWord seX11_isWord clsX11 rfl (by omega) (Nat.le_of_ble_eq_true rfl) rfl rfl h (fun v hv => lift_X11_isWord hv) (fun w6 h => ?_)
            refine V.if_ne (q := 184) dX11_reads_164 (by decide) rfl h (fun h => ?_) (fun h => ?_)
            · exact (lab_X11_reads_184 ih h)
            · refine V.aload_n (n := 0) dX11_reads_167 rfl rfl ?_
              refine V.iconst (x := 5) dX11_reads_168 (by decide) rfl ?_
              refine V.callVi (d' := 0) (as := [vI (5 : Int32)]) (st := []) dX11_reads_169 meX11_isWord mlX11_324 imX11_isWord seX11_isWord clsX11 rfl (by omega) (Nat.le_of_ble_eq_true rfl) rfl rfl h (fun v hv => lift_X11_isWord hv) (fun w7 h => ?_)
              refine V.if_ne (q := 184) dX11_reads_172 (by decide) rfl h (fun h => ?_) (fun h => ?_)
              · exact (lab_X11_reads_184 ih h)
              · refine V.aload_n (n := 0) dX11_reads_175 rfl rfl ?_
                refine V.bipush (x := 6) dX11_reads_176 (by decide) rfl ?_
                refine V.callVi (d' := 0) (as := [vI (6 : Int32)]) (st := []) dX11_reads_178 meX11_isWord mlX11_324 imX11_isWord seX11_isWord clsX11 rfl (by omega) (Nat.le_of_ble_eq_true rfl) rfl rfl h (fun v hv => lift_X11_isWord hv) (fun w8 h => ?_)
                refine V.if_eq (q := 191) dX11_reads_181 (by decide) rfl h (fun h => ?_) (fun h => ?_)
                · refine V.aload_n (n := 0) dX11_reads_191 rfl rfl ?_
                  refine V.callVv (d' := 0) (as := []) (st := []) dX11_reads_192 meX11_stops mlX11_228 imX11_stops seX11_stops clsX11 rfl (by omega) (Nat.le_of_ble_eq_true rfl) rfl rfl h (fun v hv => lift_X11_stops hv) (fun w9 h => ?_)
                  refine V.goto (q := 114) dX11_reads_195 (by decide) ?_
                  exact (ih _ _ h)
                · exact (lab_X11_reads_184 ih h)
          · refine V.aload_n (n := 0) dX11_reads_152 rfl rfl ?_
            refine V.callVv (d' := 128) (as := []) (st := []) dX11_reads_153 meX11_rule mlX11_357 imX11_rule seX11_rule clsX11 rfl (by omega) (Nat.le_of_ble_eq_true rfl) rfl rfl h (fun v hv => lift_X11_rule hv) (fun w10 h => ?_)
            refine V.goto (q := 114) dX11_reads_156 (by decide) ?_
            exact (ih _ _ h)
        · refine V.aload_n (n := 0) dX11_reads_137 rfl rfl ?_
          refine V.callVv (d' := 6) (as := []) (st := []) dX11_reads_138 meX11_aConst mlX11_354 imX11_aConst seX11_aConst clsX11 rfl (by omega) (Nat.le_of_ble_eq_true rfl) rfl rfl h (fun v hv => lift_X11_aConst hv) (fun w11 h => ?_)
          refine V.goto (q := 114) dX11_reads_141 (by decide) ?_
          exact (ih _ _ h)
def J_X11_reads_108 (v0 : Option Nat) (M : Mem) : Option (Unit × Mem) :=
  (ck M 11 v0).bind fun _ => (L_X11_must v0 (59 : Int32) M).bind fun w12 =>
  J_X11_reads_114 FU v0 w12.2
set_option maxRecDepth 20000 in
set_option maxHeartbeats 4000000 in
theorem lab_X11_reads_108 {G : Gt} {M0 M9 : Mem} {x9 : Unit} {v0 : Option Nat} {M : Mem} (h : J_X11_reads_108 v0 M = some (x9, M9)) : V G mX11_reads 775 M0 none M9 M 108 [(0, vR v0)] [] := by
  unfold J_X11_reads_108 at h
  refine V.aload_n (n := 0) dX11_reads_108 rfl rfl ?_
  refine V.bipush (x := 59) dX11_reads_109 (by decide) rfl ?_
  refine V.callVv (d' := 2) (as := [vI (59 : Int32)]) (st := []) dX11_reads_111 meX11_must mlX11_274 imX11_must seX11_must clsX11 rfl (by omega) (Nat.le_of_ble_eq_true rfl) rfl rfl h (fun v hv => lift_X11_must hv) (fun w12 h => ?_)
  exact (lab_X11_reads_114 FU _ _ h)
def L_X11_reads (v0 : Option Nat) (M : Mem) : Option (Unit × Mem) :=
  (pI M 11 5 v0 (0 : Int32)).bind fun M13 =>
  (pZ M13 11 11 v0 (0 : Int32)).bind fun M14 =>
  (pI M14 11 2 v0 (0 : Int32)).bind fun M15 =>
  (pI M15 11 3 v0 (-1 : Int32)).bind fun M16 =>
  (pI M16 11 14 v0 (-1 : Int32)).bind fun M17 =>
  (pI M17 11 15 v0 (0 : Int32)).bind fun M18 =>
  (pI M18 11 18 v0 (0 : Int32)).bind fun M19 =>
  (pI M19 11 21 v0 (0 : Int32)).bind fun M20 =>
  (pI M20 11 22 v0 (0 : Int32)).bind fun M21 =>
  (pI M21 11 26 v0 (-1 : Int32)).bind fun M22 =>
  (pI M22 11 27 v0 (0 : Int32)).bind fun M23 =>
  (pI M23 11 32 v0 (0 : Int32)).bind fun M24 =>
  (pI M24 11 35 v0 (0 : Int32)).bind fun M25 =>
  (ck M25 11 v0).bind fun _ => (L_X11_advance v0 M25).bind fun w26 =>
  (ck w26.2 11 v0).bind fun _ => (L_X11_isWord v0 (1 : Int32) w26.2).bind fun w27 =>
  if w27.1 = 0 then
  (J_X11_reads_114 FU v0 w27.2)
  else
  ((ck w27.2 11 v0).bind fun _ => (L_X11_advance v0 w27.2).bind fun w28 =>
  (fI w28.2 11 7 v0).bind fun x29 =>
  (ck w28.2 11 v0).bind fun _ => (L_X11_takesNumber v0 w28.2).bind fun w30 =>
  (fI w30.2 11 11 v0).bind fun x31 =>
  if ¬ x31 = 0 then
  (J_X11_reads_108 v0 w30.2)
  else
  ((ck w30.2 11 v0).bind fun _ => (L_X11_yearOf v0 w30.1 x29 w30.2).bind fun w32 =>
  (pI w32.2 11 14 v0 w32.1).bind fun M33 =>
  J_X11_reads_108 v0 M33))
set_option maxRecDepth 20000 in
set_option maxHeartbeats 4000000 in
theorem lift_X11_reads {G : Gt} {M M9 : Mem} {x9 : Unit} {v0 : Option Nat} (h : L_X11_reads v0 M = some (x9, M9)) : Mt G mX11_reads 775 [vR v0] M none M9 := by
  unfold L_X11_reads at h
  refine Mt.of (by decide +kernel) (Nat.le_of_ble_eq_true rfl) ?_
  have hh : V G mX11_reads 775 M none M9 M 0 [(0, vR v0)] [] := by
    refine V.aload_n (n := 0) dX11_reads_0 rfl rfl ?_
    refine V.iconst (x := 0) dX11_reads_1 (by decide) rfl ?_
    refine V.putI dX11_reads_2 lkX11_182 (Or.inl rfl) rfl rfl h (fun M13 h => ?_)
    refine V.aload_n (n := 0) dX11_reads_5 rfl rfl ?_
    refine V.iconst (x := 0) dX11_reads_6 (by decide) rfl ?_
    refine V.putZ dX11_reads_7 lkX11_215 (Or.inl rfl) rfl rfl h (fun M14 h => ?_)
    refine V.aload_n (n := 0) dX11_reads_10 rfl rfl ?_
    refine V.iconst (x := 0) dX11_reads_11 (by decide) rfl ?_
    refine V.putI dX11_reads_12 lkX11_219 (Or.inl rfl) rfl rfl h (fun M15 h => ?_)
    refine V.aload_n (n := 0) dX11_reads_15 rfl rfl ?_
    refine V.iconst (x := (-1)) dX11_reads_16 (by decide) rfl ?_
    refine V.putI dX11_reads_17 lkX11_13 (Or.inl rfl) rfl rfl h (fun M16 h => ?_)
    refine V.aload_n (n := 0) dX11_reads_20 rfl rfl ?_
    refine V.iconst (x := (-1)) dX11_reads_21 (by decide) rfl ?_
    refine V.putI dX11_reads_22 lkX11_351 (Or.inl rfl) rfl rfl h (fun M17 h => ?_)
    refine V.aload_n (n := 0) dX11_reads_25 rfl rfl ?_
    refine V.iconst (x := 0) dX11_reads_26 (by decide) rfl ?_
    refine V.putI dX11_reads_27 lkX11_307 (Or.inl rfl) rfl rfl h (fun M18 h => ?_)
    refine V.aload_n (n := 0) dX11_reads_30 rfl rfl ?_
    refine V.iconst (x := 0) dX11_reads_31 (by decide) rfl ?_
    refine V.putI dX11_reads_32 lkX11_310 (Or.inl rfl) rfl rfl h (fun M19 h => ?_)
    refine V.aload_n (n := 0) dX11_reads_35 rfl rfl ?_
    refine V.iconst (x := 0) dX11_reads_36 (by decide) rfl ?_
    refine V.putI dX11_reads_37 lkX11_304 (Or.inl rfl) rfl rfl h (fun M20 h => ?_)
    refine V.aload_n (n := 0) dX11_reads_40 rfl rfl ?_
    refine V.iconst (x := 0) dX11_reads_41 (by decide) rfl ?_
    refine V.putI dX11_reads_42 lkX11_333 (Or.inl rfl) rfl rfl h (fun M21 h => ?_)
    refine V.aload_n (n := 0) dX11_reads_45 rfl rfl ?_
    refine V.iconst (x := (-1)) dX11_reads_46 (by decide) rfl ?_
    refine V.putI dX11_reads_47 lkX11_348 (Or.inl rfl) rfl rfl h (fun M22 h => ?_)
    refine V.aload_n (n := 0) dX11_reads_50 rfl rfl ?_
    refine V.iconst (x := 0) dX11_reads_51 (by decide) rfl ?_
    refine V.putI dX11_reads_52 lkX11_231 (Or.inl rfl) rfl rfl h (fun M23 h => ?_)
    refine V.aload_n (n := 0) dX11_reads_55 rfl rfl ?_
    refine V.iconst (x := 0) dX11_reads_56 (by decide) rfl ?_
    refine V.putI dX11_reads_57 lkX11_330 (Or.inl rfl) rfl rfl h (fun M24 h => ?_)
    refine V.aload_n (n := 0) dX11_reads_60 rfl rfl ?_
    refine V.iconst (x := 0) dX11_reads_61 (by decide) rfl ?_
    refine V.putI dX11_reads_62 lkX11_241 (Or.inl rfl) rfl rfl h (fun M25 h => ?_)
    refine V.aload_n (n := 0) dX11_reads_65 rfl rfl ?_
    refine V.callVv (d' := 1) (as := []) (st := []) dX11_reads_66 meX11_advance mlX11_225 imX11_advance seX11_advance clsX11 rfl (by omega) (Nat.le_of_ble_eq_true rfl) rfl rfl h (fun v hv => lift_X11_advance hv) (fun w26 h => ?_)
    refine V.aload_n (n := 0) dX11_reads_69 rfl rfl ?_
    refine V.iconst (x := 1) dX11_reads_70 (by decide) rfl ?_
    refine V.callVi (d' := 0) (as := [vI (1 : Int32)]) (st := []) dX11_reads_71 meX11_isWord mlX11_324 imX11_isWord seX11_isWord clsX11 rfl (by omega) (Nat.le_of_ble_eq_true rfl) rfl rfl h (fun v hv => lift_X11_isWord hv) (fun w27 h => ?_)
    refine V.if_eq (q := 114) dX11_reads_74 (by decide) rfl h (fun h => ?_) (fun h => ?_)
    · exact (lab_X11_reads_114 FU _ _ h)
    · refine V.aload_n (n := 0) dX11_reads_77 rfl rfl ?_
      refine V.callVv (d' := 1) (as := []) (st := []) dX11_reads_78 meX11_advance mlX11_225 imX11_advance seX11_advance clsX11 rfl (by omega) (Nat.le_of_ble_eq_true rfl) rfl rfl h (fun v hv => lift_X11_advance hv) (fun w28 h => ?_)
      refine V.aload_n (n := 0) dX11_reads_81 rfl rfl ?_
      refine V.getI dX11_reads_82 lkX11_189 rfl rfl h (fun x29 h => ?_)
      refine V.istore_n dX11_reads_85 rfl (by decide) rfl rfl ?_
      refine V.aload_n (n := 1) dX11_reads_86 rfl rfl ?_
      refine V.callVi (d' := 2) (as := []) (st := []) dX11_reads_87 meX11_takesNumber mlX11_294 imX11_takesNumber seX11_takesNumber clsX11 rfl (by omega) (Nat.le_of_ble_eq_true rfl) rfl rfl h (fun v hv => lift_X11_takesNumber hv) (fun w30 h => ?_)
      refine V.istore_n dX11_reads_90 rfl (by decide) rfl rfl ?_
      refine V.aload_n (n := 2) dX11_reads_91 rfl rfl ?_
      refine V.getI dX11_reads_92 lkX11_215 rfl rfl h (fun x31 h => ?_)
      refine V.if_ne (q := 108) dX11_reads_95 (by decide) rfl h (fun h => ?_) (fun h => ?_)
      · exact V.sub [2] rfl (lab_X11_reads_108 h)
      · refine V.aload_n (n := 2) dX11_reads_98 rfl rfl ?_
        refine V.aload_n (n := 2) dX11_reads_99 rfl rfl ?_
        refine V.iload_n (n := 0) dX11_reads_100 rfl rfl ?_
        refine V.iload_n (n := 1) dX11_reads_101 rfl rfl ?_
        refine V.callVi (d' := 1) (as := [vI w30.1, vI x29]) (st := [vR v0]) dX11_reads_102 meX11_yearOf mlX11_255 imX11_yearOf seX11_yearOf clsX11 rfl (by omega) (Nat.le_of_ble_eq_true rfl) rfl rfl h (fun v hv => lift_X11_yearOf hv) (fun w32 h => ?_)
        refine V.putI dX11_reads_105 lkX11_351 (Or.inl rfl) rfl rfl h (fun M33 h => ?_)
        exact V.sub [2] rfl (lab_X11_reads_108 h)
  exact hh
def J_X11_keeps_236 : Nat → Option Nat → Int32 → Int32 → Mem → Option (Unit × Mem)
  | 0 => fun _ _ _ _ => none
  | n + 1 => fun v0 v1 v2 M =>
  (fI M 11 27 v0).bind fun x1 =>
  if x1 ≤ v2 then
  (some ((), M))
  else
  ((fR M 11 50 v0).bind fun x2 =>
  (fR M 11 28 v0).bind fun x3 =>
  (aI M 20 x3 v2).bind fun x4 =>
  (uI M 20 x2 (((1200 : Int32) * v1) + v2) x4).bind fun M5 =>
  (fR M5 11 51 v0).bind fun x6 =>
  (fR M5 11 29 v0).bind fun x7 =>
  (aL M5 21 x7 v2).bind fun x8 =>
  (uL M5 21 x6 (((1200 : Int32) * v1) + v2) x8).bind fun M9 =>
  (fR M9 11 52 v0).bind fun x10 =>
  (fR M9 11 30 v0).bind fun x11 =>
  (aI M9 20 x11 v2).bind fun x12 =>
  (uI M9 20 x10 (((1200 : Int32) * v1) + v2) x12).bind fun M13 =>
  J_X11_keeps_236 n v0 v1 (v2 + 1) M13)
set_option maxRecDepth 20000 in
set_option maxHeartbeats 4000000 in
theorem lab_X11_keeps_236 {G : Gt} {M0 M9 : Mem} {x9 : Unit} : ∀ (n : Nat) (v0 : Option Nat) (v1 : Int32) (v2 : Int32) (M : Mem), J_X11_keeps_236 n v0 v1 v2 M = some (x9, M9) → V G mX11_keeps 0 M0 none M9 M 236 [(0, vR v0), (1, vI v1), (2, vI v2)] [] := by
  intro n
  induction n with
  | zero => intro v0 v1 v2 M h; exact nomatch h
  | succ n ih =>
    intro v0 v1 v2 M h
    unfold J_X11_keeps_236 at h
    refine V.iload_n (n := 2) dX11_keeps_236 rfl rfl ?_
    refine V.aload_n (n := 0) dX11_keeps_237 rfl rfl ?_
    refine V.getI dX11_keeps_238 lkX11_231 rfl rfl h (fun x1 h => ?_)
    refine V.icmp_ge (q := 304) dX11_keeps_241 (by decide) rfl h (fun h => ?_) (fun h => ?_)
    · exact V.vret dX11_keeps_304 rfl h
    · refine V.aload_n (n := 0) dX11_keeps_244 rfl rfl ?_
      refine V.getR dX11_keeps_245 lkX11_100 rfl rfl h (fun x2 h => ?_)
      refine V.sipush (x := 1200) dX11_keeps_248 (by decide) rfl ?_
      refine V.iload_n (n := 1) dX11_keeps_251 rfl rfl ?_
      refine V.imul dX11_keeps_252 rfl ?_
      refine V.iload_n (n := 2) dX11_keeps_253 rfl rfl ?_
      refine V.iadd dX11_keeps_254 rfl ?_
      refine V.aload_n (n := 0) dX11_keeps_255 rfl rfl ?_
      refine V.getR dX11_keeps_256 lkX11_47 rfl rfl h (fun x3 h => ?_)
      refine V.iload_n (n := 2) dX11_keeps_259 rfl rfl ?_
      refine V.iald dX11_keeps_260 rfl h (fun x4 h => ?_)
      refine V.iast dX11_keeps_261 rfl h (fun M5 h => ?_)
      refine V.aload_n (n := 0) dX11_keeps_262 rfl rfl ?_
      refine V.getR dX11_keeps_263 lkX11_103 rfl rfl h (fun x6 h => ?_)
      refine V.sipush (x := 1200) dX11_keeps_266 (by decide) rfl ?_
      refine V.iload_n (n := 1) dX11_keeps_269 rfl rfl ?_
      refine V.imul dX11_keeps_270 rfl ?_
      refine V.iload_n (n := 2) dX11_keeps_271 rfl rfl ?_
      refine V.iadd dX11_keeps_272 rfl ?_
      refine V.aload_n (n := 0) dX11_keeps_273 rfl rfl ?_
      refine V.getR dX11_keeps_274 lkX11_50 rfl rfl h (fun x7 h => ?_)
      refine V.iload_n (n := 2) dX11_keeps_277 rfl rfl ?_
      refine V.lald dX11_keeps_278 rfl h (fun x8 h => ?_)
      refine V.last dX11_keeps_279 rfl h (fun M9 h => ?_)
      refine V.aload_n (n := 0) dX11_keeps_280 rfl rfl ?_
      refine V.getR dX11_keeps_281 lkX11_106 rfl rfl h (fun x10 h => ?_)
      refine V.sipush (x := 1200) dX11_keeps_284 (by decide) rfl ?_
      refine V.iload_n (n := 1) dX11_keeps_287 rfl rfl ?_
      refine V.imul dX11_keeps_288 rfl ?_
      refine V.iload_n (n := 2) dX11_keeps_289 rfl rfl ?_
      refine V.iadd dX11_keeps_290 rfl ?_
      refine V.aload_n (n := 0) dX11_keeps_291 rfl rfl ?_
      refine V.getR dX11_keeps_292 lkX11_53 rfl rfl h (fun x11 h => ?_)
      refine V.iload_n (n := 2) dX11_keeps_295 rfl rfl ?_
      refine V.iald dX11_keeps_296 rfl h (fun x12 h => ?_)
      refine V.iast dX11_keeps_297 rfl h (fun M13 h => ?_)
      refine V.iinc (n := 2) (x := v2 + 1) dX11_keeps_298 rfl (by rfl) (by decide) rfl rfl ?_
      refine V.goto (q := 236) dX11_keeps_301 (by decide) ?_
      exact V.sub [1, 2, 0] rfl (ih _ _ _ _ h)
def J_X11_keeps_159 : Nat → Option Nat → Int32 → Int32 → Mem → Option (Unit × Mem)
  | 0 => fun _ _ _ _ => none
  | n + 1 => fun v0 v1 v2 M =>
  (fI M 11 21 v0).bind fun x14 =>
  if x14 ≤ v2 then
  ((fR M 11 49 v0).bind fun x15 =>
  (fI M 11 26 v0).bind fun x16 =>
  (uI M 20 x15 v1 x16).bind fun M17 =>
  J_X11_keeps_236 FU v0 v1 (0 : Int32) M17)
  else
  ((fR M 11 46 v0).bind fun x18 =>
  (fR M 11 23 v0).bind fun x19 =>
  (aI M 20 x19 v2).bind fun x20 =>
  (uI M 20 x18 (((120 : Int32) * v1) + v2) x20).bind fun M21 =>
  (fR M21 11 47 v0).bind fun x22 =>
  (fR M21 11 24 v0).bind fun x23 =>
  (aI M21 20 x23 v2).bind fun x24 =>
  (uI M21 20 x22 (((120 : Int32) * v1) + v2) x24).bind fun M25 =>
  (fR M25 11 48 v0).bind fun x26 =>
  (fR M25 11 25 v0).bind fun x27 =>
  (aI M25 20 x27 v2).bind fun x28 =>
  (uI M25 20 x26 (((120 : Int32) * v1) + v2) x28).bind fun M29 =>
  J_X11_keeps_159 n v0 v1 (v2 + 1) M29)
set_option maxRecDepth 20000 in
set_option maxHeartbeats 4000000 in
theorem lab_X11_keeps_159 {G : Gt} {M0 M9 : Mem} {x9 : Unit} : ∀ (n : Nat) (v0 : Option Nat) (v1 : Int32) (v2 : Int32) (M : Mem), J_X11_keeps_159 n v0 v1 v2 M = some (x9, M9) → V G mX11_keeps 0 M0 none M9 M 159 [(0, vR v0), (1, vI v1), (2, vI v2)] [] := by
  intro n
  induction n with
  | zero => intro v0 v1 v2 M h; exact nomatch h
  | succ n ih =>
    intro v0 v1 v2 M h
    unfold J_X11_keeps_159 at h
    refine V.iload_n (n := 2) dX11_keeps_159 rfl rfl ?_
    refine V.aload_n (n := 0) dX11_keeps_160 rfl rfl ?_
    refine V.getI dX11_keeps_161 lkX11_304 rfl rfl h (fun x14 h => ?_)
    refine V.icmp_ge (q := 224) dX11_keeps_164 (by decide) rfl h (fun h => ?_) (fun h => ?_)
    · refine V.aload_n (n := 0) dX11_keeps_224 rfl rfl ?_
      refine V.getR dX11_keeps_225 lkX11_96 rfl rfl h (fun x15 h => ?_)
      refine V.iload_n (n := 1) dX11_keeps_228 rfl rfl ?_
      refine V.aload_n (n := 0) dX11_keeps_229 rfl rfl ?_
      refine V.getI dX11_keeps_230 lkX11_348 rfl rfl h (fun x16 h => ?_)
      refine V.iast dX11_keeps_233 rfl h (fun M17 h => ?_)
      refine V.iconst (x := 0) dX11_keeps_234 (by decide) rfl ?_
      refine V.istore_n dX11_keeps_235 rfl (by decide) rfl rfl ?_
      exact V.sub [1, 2, 0] rfl (lab_X11_keeps_236 FU _ _ _ _ h)
    · refine V.aload_n (n := 0) dX11_keeps_167 rfl rfl ?_
      refine V.getR dX11_keeps_168 lkX11_87 rfl rfl h (fun x18 h => ?_)
      refine V.bipush (x := 120) dX11_keeps_171 (by decide) rfl ?_
      refine V.iload_n (n := 1) dX11_keeps_173 rfl rfl ?_
      refine V.imul dX11_keeps_174 rfl ?_
      refine V.iload_n (n := 2) dX11_keeps_175 rfl rfl ?_
      refine V.iadd dX11_keeps_176 rfl ?_
      refine V.aload_n (n := 0) dX11_keeps_177 rfl rfl ?_
      refine V.getR dX11_keeps_178 lkX11_38 rfl rfl h (fun x19 h => ?_)
      refine V.iload_n (n := 2) dX11_keeps_181 rfl rfl ?_
      refine V.iald dX11_keeps_182 rfl h (fun x20 h => ?_)
      refine V.iast dX11_keeps_183 rfl h (fun M21 h => ?_)
      refine V.aload_n (n := 0) dX11_keeps_184 rfl rfl ?_
      refine V.getR dX11_keeps_185 lkX11_90 rfl rfl h (fun x22 h => ?_)
      refine V.bipush (x := 120) dX11_keeps_188 (by decide) rfl ?_
      refine V.iload_n (n := 1) dX11_keeps_190 rfl rfl ?_
      refine V.imul dX11_keeps_191 rfl ?_
      refine V.iload_n (n := 2) dX11_keeps_192 rfl rfl ?_
      refine V.iadd dX11_keeps_193 rfl ?_
      refine V.aload_n (n := 0) dX11_keeps_194 rfl rfl ?_
      refine V.getR dX11_keeps_195 lkX11_41 rfl rfl h (fun x23 h => ?_)
      refine V.iload_n (n := 2) dX11_keeps_198 rfl rfl ?_
      refine V.iald dX11_keeps_199 rfl h (fun x24 h => ?_)
      refine V.iast dX11_keeps_200 rfl h (fun M25 h => ?_)
      refine V.aload_n (n := 0) dX11_keeps_201 rfl rfl ?_
      refine V.getR dX11_keeps_202 lkX11_93 rfl rfl h (fun x26 h => ?_)
      refine V.bipush (x := 120) dX11_keeps_205 (by decide) rfl ?_
      refine V.iload_n (n := 1) dX11_keeps_207 rfl rfl ?_
      refine V.imul dX11_keeps_208 rfl ?_
      refine V.iload_n (n := 2) dX11_keeps_209 rfl rfl ?_
      refine V.iadd dX11_keeps_210 rfl ?_
      refine V.aload_n (n := 0) dX11_keeps_211 rfl rfl ?_
      refine V.getR dX11_keeps_212 lkX11_44 rfl rfl h (fun x27 h => ?_)
      refine V.iload_n (n := 2) dX11_keeps_215 rfl rfl ?_
      refine V.iald dX11_keeps_216 rfl h (fun x28 h => ?_)
      refine V.iast dX11_keeps_217 rfl h (fun M29 h => ?_)
      refine V.iinc (n := 2) (x := v2 + 1) dX11_keeps_218 rfl (by rfl) (by decide) rfl rfl ?_
      refine V.goto (q := 159) dX11_keeps_221 (by decide) ?_
      exact V.sub [1, 2, 0] rfl (ih _ _ _ _ h)
def J_X11_keeps_99 : Nat → Option Nat → Int32 → Int32 → Mem → Option (Unit × Mem)
  | 0 => fun _ _ _ _ => none
  | n + 1 => fun v0 v1 v2 M =>
  (fI M 11 18 v0).bind fun x30 =>
  if x30 ≤ v2 then
  ((fR M 11 45 v0).bind fun x31 =>
  (fI M 11 21 v0).bind fun x32 =>
  (uI M 20 x31 v1 x32).bind fun M33 =>
  J_X11_keeps_159 FU v0 v1 (0 : Int32) M33)
  else
  ((fR M 11 43 v0).bind fun x34 =>
  (fR M 11 19 v0).bind fun x35 =>
  (aL M 21 x35 v2).bind fun x36 =>
  (uL M 21 x34 (((6 : Int32) * v1) + v2) x36).bind fun M37 =>
  (fR M37 11 44 v0).bind fun x38 =>
  (fR M37 11 20 v0).bind fun x39 =>
  (aI M37 20 x39 v2).bind fun x40 =>
  (uI M37 20 x38 (((6 : Int32) * v1) + v2) x40).bind fun M41 =>
  J_X11_keeps_99 n v0 v1 (v2 + 1) M41)
set_option maxRecDepth 20000 in
set_option maxHeartbeats 4000000 in
theorem lab_X11_keeps_99 {G : Gt} {M0 M9 : Mem} {x9 : Unit} : ∀ (n : Nat) (v0 : Option Nat) (v1 : Int32) (v2 : Int32) (M : Mem), J_X11_keeps_99 n v0 v1 v2 M = some (x9, M9) → V G mX11_keeps 0 M0 none M9 M 99 [(0, vR v0), (1, vI v1), (2, vI v2)] [] := by
  intro n
  induction n with
  | zero => intro v0 v1 v2 M h; exact nomatch h
  | succ n ih =>
    intro v0 v1 v2 M h
    unfold J_X11_keeps_99 at h
    refine V.iload_n (n := 2) dX11_keeps_99 rfl rfl ?_
    refine V.aload_n (n := 0) dX11_keeps_100 rfl rfl ?_
    refine V.getI dX11_keeps_101 lkX11_310 rfl rfl h (fun x30 h => ?_)
    refine V.icmp_ge (q := 147) dX11_keeps_104 (by decide) rfl h (fun h => ?_) (fun h => ?_)
    · refine V.aload_n (n := 0) dX11_keeps_147 rfl rfl ?_
      refine V.getR dX11_keeps_148 lkX11_84 rfl rfl h (fun x31 h => ?_)
      refine V.iload_n (n := 1) dX11_keeps_151 rfl rfl ?_
      refine V.aload_n (n := 0) dX11_keeps_152 rfl rfl ?_
      refine V.getI dX11_keeps_153 lkX11_304 rfl rfl h (fun x32 h => ?_)
      refine V.iast dX11_keeps_156 rfl h (fun M33 h => ?_)
      refine V.iconst (x := 0) dX11_keeps_157 (by decide) rfl ?_
      refine V.istore_n dX11_keeps_158 rfl (by decide) rfl rfl ?_
      exact V.sub [1, 2, 0] rfl (lab_X11_keeps_159 FU _ _ _ _ h)
    · refine V.aload_n (n := 0) dX11_keeps_107 rfl rfl ?_
      refine V.getR dX11_keeps_108 lkX11_78 rfl rfl h (fun x34 h => ?_)
      refine V.bipush (x := 6) dX11_keeps_111 (by decide) rfl ?_
      refine V.iload_n (n := 1) dX11_keeps_113 rfl rfl ?_
      refine V.imul dX11_keeps_114 rfl ?_
      refine V.iload_n (n := 2) dX11_keeps_115 rfl rfl ?_
      refine V.iadd dX11_keeps_116 rfl ?_
      refine V.aload_n (n := 0) dX11_keeps_117 rfl rfl ?_
      refine V.getR dX11_keeps_118 lkX11_32 rfl rfl h (fun x35 h => ?_)
      refine V.iload_n (n := 2) dX11_keeps_121 rfl rfl ?_
      refine V.lald dX11_keeps_122 rfl h (fun x36 h => ?_)
      refine V.last dX11_keeps_123 rfl h (fun M37 h => ?_)
      refine V.aload_n (n := 0) dX11_keeps_124 rfl rfl ?_
      refine V.getR dX11_keeps_125 lkX11_81 rfl rfl h (fun x38 h => ?_)
      refine V.bipush (x := 6) dX11_keeps_128 (by decide) rfl ?_
      refine V.iload_n (n := 1) dX11_keeps_130 rfl rfl ?_
      refine V.imul dX11_keeps_131 rfl ?_
      refine V.iload_n (n := 2) dX11_keeps_132 rfl rfl ?_
      refine V.iadd dX11_keeps_133 rfl ?_
      refine V.aload_n (n := 0) dX11_keeps_134 rfl rfl ?_
      refine V.getR dX11_keeps_135 lkX11_35 rfl rfl h (fun x39 h => ?_)
      refine V.iload_n (n := 2) dX11_keeps_138 rfl rfl ?_
      refine V.iald dX11_keeps_139 rfl h (fun x40 h => ?_)
      refine V.iast dX11_keeps_140 rfl h (fun M41 h => ?_)
      refine V.iinc (n := 2) (x := v2 + 1) dX11_keeps_141 rfl (by rfl) (by decide) rfl rfl ?_
      refine V.goto (q := 99) dX11_keeps_144 (by decide) ?_
      exact V.sub [1, 2, 0] rfl (ih _ _ _ _ h)
def J_X11_keeps_39 : Nat → Option Nat → Int32 → Int32 → Mem → Option (Unit × Mem)
  | 0 => fun _ _ _ _ => none
  | n + 1 => fun v0 v1 v2 M =>
  (fI M 11 15 v0).bind fun x42 =>
  if x42 ≤ v2 then
  ((fR M 11 42 v0).bind fun x43 =>
  (fI M 11 18 v0).bind fun x44 =>
  (uI M 20 x43 v1 x44).bind fun M45 =>
  J_X11_keeps_99 FU v0 v1 (0 : Int32) M45)
  else
  ((fR M 11 40 v0).bind fun x46 =>
  (fR M 11 16 v0).bind fun x47 =>
  (aL M 21 x47 v2).bind fun x48 =>
  (uL M 21 x46 (((8 : Int32) * v1) + v2) x48).bind fun M49 =>
  (fR M49 11 41 v0).bind fun x50 =>
  (fR M49 11 17 v0).bind fun x51 =>
  (aI M49 20 x51 v2).bind fun x52 =>
  (uI M49 20 x50 (((8 : Int32) * v1) + v2) x52).bind fun M53 =>
  J_X11_keeps_39 n v0 v1 (v2 + 1) M53)
set_option maxRecDepth 20000 in
set_option maxHeartbeats 4000000 in
theorem lab_X11_keeps_39 {G : Gt} {M0 M9 : Mem} {x9 : Unit} : ∀ (n : Nat) (v0 : Option Nat) (v1 : Int32) (v2 : Int32) (M : Mem), J_X11_keeps_39 n v0 v1 v2 M = some (x9, M9) → V G mX11_keeps 0 M0 none M9 M 39 [(0, vR v0), (1, vI v1), (2, vI v2)] [] := by
  intro n
  induction n with
  | zero => intro v0 v1 v2 M h; exact nomatch h
  | succ n ih =>
    intro v0 v1 v2 M h
    unfold J_X11_keeps_39 at h
    refine V.iload_n (n := 2) dX11_keeps_39 rfl rfl ?_
    refine V.aload_n (n := 0) dX11_keeps_40 rfl rfl ?_
    refine V.getI dX11_keeps_41 lkX11_307 rfl rfl h (fun x42 h => ?_)
    refine V.icmp_ge (q := 87) dX11_keeps_44 (by decide) rfl h (fun h => ?_) (fun h => ?_)
    · refine V.aload_n (n := 0) dX11_keeps_87 rfl rfl ?_
      refine V.getR dX11_keeps_88 lkX11_75 rfl rfl h (fun x43 h => ?_)
      refine V.iload_n (n := 1) dX11_keeps_91 rfl rfl ?_
      refine V.aload_n (n := 0) dX11_keeps_92 rfl rfl ?_
      refine V.getI dX11_keeps_93 lkX11_310 rfl rfl h (fun x44 h => ?_)
      refine V.iast dX11_keeps_96 rfl h (fun M45 h => ?_)
      refine V.iconst (x := 0) dX11_keeps_97 (by decide) rfl ?_
      refine V.istore_n dX11_keeps_98 rfl (by decide) rfl rfl ?_
      exact V.sub [1, 2, 0] rfl (lab_X11_keeps_99 FU _ _ _ _ h)
    · refine V.aload_n (n := 0) dX11_keeps_47 rfl rfl ?_
      refine V.getR dX11_keeps_48 lkX11_69 rfl rfl h (fun x46 h => ?_)
      refine V.bipush (x := 8) dX11_keeps_51 (by decide) rfl ?_
      refine V.iload_n (n := 1) dX11_keeps_53 rfl rfl ?_
      refine V.imul dX11_keeps_54 rfl ?_
      refine V.iload_n (n := 2) dX11_keeps_55 rfl rfl ?_
      refine V.iadd dX11_keeps_56 rfl ?_
      refine V.aload_n (n := 0) dX11_keeps_57 rfl rfl ?_
      refine V.getR dX11_keeps_58 lkX11_25 rfl rfl h (fun x47 h => ?_)
      refine V.iload_n (n := 2) dX11_keeps_61 rfl rfl ?_
      refine V.lald dX11_keeps_62 rfl h (fun x48 h => ?_)
      refine V.last dX11_keeps_63 rfl h (fun M49 h => ?_)
      refine V.aload_n (n := 0) dX11_keeps_64 rfl rfl ?_
      refine V.getR dX11_keeps_65 lkX11_72 rfl rfl h (fun x50 h => ?_)
      refine V.bipush (x := 8) dX11_keeps_68 (by decide) rfl ?_
      refine V.iload_n (n := 1) dX11_keeps_70 rfl rfl ?_
      refine V.imul dX11_keeps_71 rfl ?_
      refine V.iload_n (n := 2) dX11_keeps_72 rfl rfl ?_
      refine V.iadd dX11_keeps_73 rfl ?_
      refine V.aload_n (n := 0) dX11_keeps_74 rfl rfl ?_
      refine V.getR dX11_keeps_75 lkX11_28 rfl rfl h (fun x51 h => ?_)
      refine V.iload_n (n := 2) dX11_keeps_78 rfl rfl ?_
      refine V.iald dX11_keeps_79 rfl h (fun x52 h => ?_)
      refine V.iast dX11_keeps_80 rfl h (fun M53 h => ?_)
      refine V.iinc (n := 2) (x := v2 + 1) dX11_keeps_81 rfl (by rfl) (by decide) rfl rfl ?_
      refine V.goto (q := 39) dX11_keeps_84 (by decide) ?_
      exact V.sub [1, 2, 0] rfl (ih _ _ _ _ h)
def L_X11_keeps (v0 : Option Nat) (v1 : Int32) (M : Mem) : Option (Unit × Mem) :=
  (fR M 11 36 v0).bind fun x54 =>
  (uN M 24 x54 v1 (1 : Int32)).bind fun M55 =>
  (fR M55 11 37 v0).bind fun x56 =>
  (fI M55 11 14 v0).bind fun x57 =>
  (uI M55 20 x56 v1 x57).bind fun M58 =>
  (fR M58 11 38 v0).bind fun x59 =>
  (fI M58 11 35 v0).bind fun x60 =>
  (uI M58 20 x59 v1 x60).bind fun M61 =>
  (fR M61 11 39 v0).bind fun x62 =>
  (fI M61 11 15 v0).bind fun x63 =>
  (uI M61 20 x62 v1 x63).bind fun M64 =>
  J_X11_keeps_39 FU v0 v1 (0 : Int32) M64
set_option maxRecDepth 20000 in
set_option maxHeartbeats 4000000 in
theorem lift_X11_keeps {G : Gt} {M M9 : Mem} {x9 : Unit} {v0 : Option Nat} {v1 : Int32} (h : L_X11_keeps v0 v1 M = some (x9, M9)) : Mt G mX11_keeps 0 [vR v0, vI v1] M none M9 := by
  unfold L_X11_keeps at h
  refine Mt.of (by decide +kernel) (Nat.le_of_ble_eq_true rfl) ?_
  have hh : V G mX11_keeps 0 M none M9 M 0 [(0, vR v0), (1, vI v1)] [] := by
    refine V.aload_n (n := 0) dX11_keeps_0 rfl rfl ?_
    refine V.getR dX11_keeps_1 lkX11_56 rfl rfl h (fun x54 h => ?_)
    refine V.iload_n (n := 1) dX11_keeps_4 rfl rfl ?_
    refine V.iconst (x := 1) dX11_keeps_5 (by decide) rfl ?_
    refine V.zast dX11_keeps_6 rfl h (fun M55 h => ?_)
    refine V.aload_n (n := 0) dX11_keeps_7 rfl rfl ?_
    refine V.getR dX11_keeps_8 lkX11_60 rfl rfl h (fun x56 h => ?_)
    refine V.iload_n (n := 1) dX11_keeps_11 rfl rfl ?_
    refine V.aload_n (n := 0) dX11_keeps_12 rfl rfl ?_
    refine V.getI dX11_keeps_13 lkX11_351 rfl rfl h (fun x57 h => ?_)
    refine V.iast dX11_keeps_16 rfl h (fun M58 h => ?_)
    refine V.aload_n (n := 0) dX11_keeps_17 rfl rfl ?_
    refine V.getR dX11_keeps_18 lkX11_63 rfl rfl h (fun x59 h => ?_)
    refine V.iload_n (n := 1) dX11_keeps_21 rfl rfl ?_
    refine V.aload_n (n := 0) dX11_keeps_22 rfl rfl ?_
    refine V.getI dX11_keeps_23 lkX11_241 rfl rfl h (fun x60 h => ?_)
    refine V.iast dX11_keeps_26 rfl h (fun M61 h => ?_)
    refine V.aload_n (n := 0) dX11_keeps_27 rfl rfl ?_
    refine V.getR dX11_keeps_28 lkX11_66 rfl rfl h (fun x62 h => ?_)
    refine V.iload_n (n := 1) dX11_keeps_31 rfl rfl ?_
    refine V.aload_n (n := 0) dX11_keeps_32 rfl rfl ?_
    refine V.getI dX11_keeps_33 lkX11_307 rfl rfl h (fun x63 h => ?_)
    refine V.iast dX11_keeps_36 rfl h (fun M64 h => ?_)
    refine V.iconst (x := 0) dX11_keeps_37 (by decide) rfl ?_
    refine V.istore_n dX11_keeps_38 rfl (by decide) rfl rfl ?_
    exact V.sub [1, 2, 0] rfl (lab_X11_keeps_39 FU _ _ _ _ h)
  exact hh
def J_X11_copies_282 : Nat → Option Nat → Int32 → Int32 → Int32 → Mem → Option (Unit × Mem)
  | 0 => fun _ _ _ _ _ => none
  | n + 1 => fun v0 v1 v2 v3 M =>
  if (1200 : Int32) ≤ v3 then
  (some ((), M))
  else
  ((fR M 11 50 v0).bind fun x1 =>
  (fR M 11 50 v0).bind fun x2 =>
  (aI M 20 x2 (((1200 : Int32) * v1) + v3)).bind fun x3 =>
  (uI M 20 x1 (((1200 : Int32) * v2) + v3) x3).bind fun M4 =>
  (fR M4 11 51 v0).bind fun x5 =>
  (fR M4 11 51 v0).bind fun x6 =>
  (aL M4 21 x6 (((1200 : Int32) * v1) + v3)).bind fun x7 =>
  (uL M4 21 x5 (((1200 : Int32) * v2) + v3) x7).bind fun M8 =>
  (fR M8 11 52 v0).bind fun x9 =>
  (fR M8 11 52 v0).bind fun x10 =>
  (aI M8 20 x10 (((1200 : Int32) * v1) + v3)).bind fun x11 =>
  (uI M8 20 x9 (((1200 : Int32) * v2) + v3) x11).bind fun M12 =>
  J_X11_copies_282 n v0 v1 v2 (v3 + 1) M12)
set_option maxRecDepth 20000 in
set_option maxHeartbeats 4000000 in
theorem lab_X11_copies_282 {G : Gt} {M0 M9 : Mem} {x9 : Unit} : ∀ (n : Nat) (v0 : Option Nat) (v1 : Int32) (v2 : Int32) (v3 : Int32) (M : Mem), J_X11_copies_282 n v0 v1 v2 v3 M = some (x9, M9) → V G mX11_copies 0 M0 none M9 M 282 [(0, vR v0), (1, vI v1), (2, vI v2), (3, vI v3)] [] := by
  intro n
  induction n with
  | zero => intro v0 v1 v2 v3 M h; exact nomatch h
  | succ n ih =>
    intro v0 v1 v2 v3 M h
    unfold J_X11_copies_282 at h
    refine V.iload_n (n := 3) dX11_copies_282 rfl rfl ?_
    refine V.sipush (x := 1200) dX11_copies_283 (by decide) rfl ?_
    refine V.icmp_ge (q := 367) dX11_copies_286 (by decide) rfl h (fun h => ?_) (fun h => ?_)
    · exact V.vret dX11_copies_367 rfl h
    · refine V.aload_n (n := 0) dX11_copies_289 rfl rfl ?_
      refine V.getR dX11_copies_290 lkX11_100 rfl rfl h (fun x1 h => ?_)
      refine V.sipush (x := 1200) dX11_copies_293 (by decide) rfl ?_
      refine V.iload_n (n := 2) dX11_copies_296 rfl rfl ?_
      refine V.imul dX11_copies_297 rfl ?_
      refine V.iload_n (n := 3) dX11_copies_298 rfl rfl ?_
      refine V.iadd dX11_copies_299 rfl ?_
      refine V.aload_n (n := 0) dX11_copies_300 rfl rfl ?_
      refine V.getR dX11_copies_301 lkX11_100 rfl rfl h (fun x2 h => ?_)
      refine V.sipush (x := 1200) dX11_copies_304 (by decide) rfl ?_
      refine V.iload_n (n := 1) dX11_copies_307 rfl rfl ?_
      refine V.imul dX11_copies_308 rfl ?_
      refine V.iload_n (n := 3) dX11_copies_309 rfl rfl ?_
      refine V.iadd dX11_copies_310 rfl ?_
      refine V.iald dX11_copies_311 rfl h (fun x3 h => ?_)
      refine V.iast dX11_copies_312 rfl h (fun M4 h => ?_)
      refine V.aload_n (n := 0) dX11_copies_313 rfl rfl ?_
      refine V.getR dX11_copies_314 lkX11_103 rfl rfl h (fun x5 h => ?_)
      refine V.sipush (x := 1200) dX11_copies_317 (by decide) rfl ?_
      refine V.iload_n (n := 2) dX11_copies_320 rfl rfl ?_
      refine V.imul dX11_copies_321 rfl ?_
      refine V.iload_n (n := 3) dX11_copies_322 rfl rfl ?_
      refine V.iadd dX11_copies_323 rfl ?_
      refine V.aload_n (n := 0) dX11_copies_324 rfl rfl ?_
      refine V.getR dX11_copies_325 lkX11_103 rfl rfl h (fun x6 h => ?_)
      refine V.sipush (x := 1200) dX11_copies_328 (by decide) rfl ?_
      refine V.iload_n (n := 1) dX11_copies_331 rfl rfl ?_
      refine V.imul dX11_copies_332 rfl ?_
      refine V.iload_n (n := 3) dX11_copies_333 rfl rfl ?_
      refine V.iadd dX11_copies_334 rfl ?_
      refine V.lald dX11_copies_335 rfl h (fun x7 h => ?_)
      refine V.last dX11_copies_336 rfl h (fun M8 h => ?_)
      refine V.aload_n (n := 0) dX11_copies_337 rfl rfl ?_
      refine V.getR dX11_copies_338 lkX11_106 rfl rfl h (fun x9 h => ?_)
      refine V.sipush (x := 1200) dX11_copies_341 (by decide) rfl ?_
      refine V.iload_n (n := 2) dX11_copies_344 rfl rfl ?_
      refine V.imul dX11_copies_345 rfl ?_
      refine V.iload_n (n := 3) dX11_copies_346 rfl rfl ?_
      refine V.iadd dX11_copies_347 rfl ?_
      refine V.aload_n (n := 0) dX11_copies_348 rfl rfl ?_
      refine V.getR dX11_copies_349 lkX11_106 rfl rfl h (fun x10 h => ?_)
      refine V.sipush (x := 1200) dX11_copies_352 (by decide) rfl ?_
      refine V.iload_n (n := 1) dX11_copies_355 rfl rfl ?_
      refine V.imul dX11_copies_356 rfl ?_
      refine V.iload_n (n := 3) dX11_copies_357 rfl rfl ?_
      refine V.iadd dX11_copies_358 rfl ?_
      refine V.iald dX11_copies_359 rfl h (fun x11 h => ?_)
      refine V.iast dX11_copies_360 rfl h (fun M12 h => ?_)
      refine V.iinc (n := 3) (x := v3 + 1) dX11_copies_361 rfl (by rfl) (by decide) rfl rfl ?_
      refine V.goto (q := 282) dX11_copies_364 (by decide) ?_
      exact V.sub [1, 2, 3, 0] rfl (ih _ _ _ _ _ h)
def J_X11_copies_202 : Nat → Option Nat → Int32 → Int32 → Int32 → Mem → Option (Unit × Mem)
  | 0 => fun _ _ _ _ _ => none
  | n + 1 => fun v0 v1 v2 v3 M =>
  if (120 : Int32) ≤ v3 then
  (J_X11_copies_282 FU v0 v1 v2 (0 : Int32) M)
  else
  ((fR M 11 46 v0).bind fun x13 =>
  (fR M 11 46 v0).bind fun x14 =>
  (aI M 20 x14 (((120 : Int32) * v1) + v3)).bind fun x15 =>
  (uI M 20 x13 (((120 : Int32) * v2) + v3) x15).bind fun M16 =>
  (fR M16 11 47 v0).bind fun x17 =>
  (fR M16 11 47 v0).bind fun x18 =>
  (aI M16 20 x18 (((120 : Int32) * v1) + v3)).bind fun x19 =>
  (uI M16 20 x17 (((120 : Int32) * v2) + v3) x19).bind fun M20 =>
  (fR M20 11 48 v0).bind fun x21 =>
  (fR M20 11 48 v0).bind fun x22 =>
  (aI M20 20 x22 (((120 : Int32) * v1) + v3)).bind fun x23 =>
  (uI M20 20 x21 (((120 : Int32) * v2) + v3) x23).bind fun M24 =>
  J_X11_copies_202 n v0 v1 v2 (v3 + 1) M24)
set_option maxRecDepth 20000 in
set_option maxHeartbeats 4000000 in
theorem lab_X11_copies_202 {G : Gt} {M0 M9 : Mem} {x9 : Unit} : ∀ (n : Nat) (v0 : Option Nat) (v1 : Int32) (v2 : Int32) (v3 : Int32) (M : Mem), J_X11_copies_202 n v0 v1 v2 v3 M = some (x9, M9) → V G mX11_copies 0 M0 none M9 M 202 [(0, vR v0), (1, vI v1), (2, vI v2), (3, vI v3)] [] := by
  intro n
  induction n with
  | zero => intro v0 v1 v2 v3 M h; exact nomatch h
  | succ n ih =>
    intro v0 v1 v2 v3 M h
    unfold J_X11_copies_202 at h
    refine V.iload_n (n := 3) dX11_copies_202 rfl rfl ?_
    refine V.bipush (x := 120) dX11_copies_203 (by decide) rfl ?_
    refine V.icmp_ge (q := 280) dX11_copies_205 (by decide) rfl h (fun h => ?_) (fun h => ?_)
    · refine V.iconst (x := 0) dX11_copies_280 (by decide) rfl ?_
      refine V.istore_n dX11_copies_281 rfl (by decide) rfl rfl ?_
      exact V.sub [1, 2, 3, 0] rfl (lab_X11_copies_282 FU _ _ _ _ _ h)
    · refine V.aload_n (n := 0) dX11_copies_208 rfl rfl ?_
      refine V.getR dX11_copies_209 lkX11_87 rfl rfl h (fun x13 h => ?_)
      refine V.bipush (x := 120) dX11_copies_212 (by decide) rfl ?_
      refine V.iload_n (n := 2) dX11_copies_214 rfl rfl ?_
      refine V.imul dX11_copies_215 rfl ?_
      refine V.iload_n (n := 3) dX11_copies_216 rfl rfl ?_
      refine V.iadd dX11_copies_217 rfl ?_
      refine V.aload_n (n := 0) dX11_copies_218 rfl rfl ?_
      refine V.getR dX11_copies_219 lkX11_87 rfl rfl h (fun x14 h => ?_)
      refine V.bipush (x := 120) dX11_copies_222 (by decide) rfl ?_
      refine V.iload_n (n := 1) dX11_copies_224 rfl rfl ?_
      refine V.imul dX11_copies_225 rfl ?_
      refine V.iload_n (n := 3) dX11_copies_226 rfl rfl ?_
      refine V.iadd dX11_copies_227 rfl ?_
      refine V.iald dX11_copies_228 rfl h (fun x15 h => ?_)
      refine V.iast dX11_copies_229 rfl h (fun M16 h => ?_)
      refine V.aload_n (n := 0) dX11_copies_230 rfl rfl ?_
      refine V.getR dX11_copies_231 lkX11_90 rfl rfl h (fun x17 h => ?_)
      refine V.bipush (x := 120) dX11_copies_234 (by decide) rfl ?_
      refine V.iload_n (n := 2) dX11_copies_236 rfl rfl ?_
      refine V.imul dX11_copies_237 rfl ?_
      refine V.iload_n (n := 3) dX11_copies_238 rfl rfl ?_
      refine V.iadd dX11_copies_239 rfl ?_
      refine V.aload_n (n := 0) dX11_copies_240 rfl rfl ?_
      refine V.getR dX11_copies_241 lkX11_90 rfl rfl h (fun x18 h => ?_)
      refine V.bipush (x := 120) dX11_copies_244 (by decide) rfl ?_
      refine V.iload_n (n := 1) dX11_copies_246 rfl rfl ?_
      refine V.imul dX11_copies_247 rfl ?_
      refine V.iload_n (n := 3) dX11_copies_248 rfl rfl ?_
      refine V.iadd dX11_copies_249 rfl ?_
      refine V.iald dX11_copies_250 rfl h (fun x19 h => ?_)
      refine V.iast dX11_copies_251 rfl h (fun M20 h => ?_)
      refine V.aload_n (n := 0) dX11_copies_252 rfl rfl ?_
      refine V.getR dX11_copies_253 lkX11_93 rfl rfl h (fun x21 h => ?_)
      refine V.bipush (x := 120) dX11_copies_256 (by decide) rfl ?_
      refine V.iload_n (n := 2) dX11_copies_258 rfl rfl ?_
      refine V.imul dX11_copies_259 rfl ?_
      refine V.iload_n (n := 3) dX11_copies_260 rfl rfl ?_
      refine V.iadd dX11_copies_261 rfl ?_
      refine V.aload_n (n := 0) dX11_copies_262 rfl rfl ?_
      refine V.getR dX11_copies_263 lkX11_93 rfl rfl h (fun x22 h => ?_)
      refine V.bipush (x := 120) dX11_copies_266 (by decide) rfl ?_
      refine V.iload_n (n := 1) dX11_copies_268 rfl rfl ?_
      refine V.imul dX11_copies_269 rfl ?_
      refine V.iload_n (n := 3) dX11_copies_270 rfl rfl ?_
      refine V.iadd dX11_copies_271 rfl ?_
      refine V.iald dX11_copies_272 rfl h (fun x23 h => ?_)
      refine V.iast dX11_copies_273 rfl h (fun M24 h => ?_)
      refine V.iinc (n := 3) (x := v3 + 1) dX11_copies_274 rfl (by rfl) (by decide) rfl rfl ?_
      refine V.goto (q := 202) dX11_copies_277 (by decide) ?_
      exact V.sub [1, 2, 3, 0] rfl (ih _ _ _ _ _ h)
def J_X11_copies_144 : Nat → Option Nat → Int32 → Int32 → Int32 → Mem → Option (Unit × Mem)
  | 0 => fun _ _ _ _ _ => none
  | n + 1 => fun v0 v1 v2 v3 M =>
  if (6 : Int32) ≤ v3 then
  (J_X11_copies_202 FU v0 v1 v2 (0 : Int32) M)
  else
  ((fR M 11 43 v0).bind fun x25 =>
  (fR M 11 43 v0).bind fun x26 =>
  (aL M 21 x26 (((6 : Int32) * v1) + v3)).bind fun x27 =>
  (uL M 21 x25 (((6 : Int32) * v2) + v3) x27).bind fun M28 =>
  (fR M28 11 44 v0).bind fun x29 =>
  (fR M28 11 44 v0).bind fun x30 =>
  (aI M28 20 x30 (((6 : Int32) * v1) + v3)).bind fun x31 =>
  (uI M28 20 x29 (((6 : Int32) * v2) + v3) x31).bind fun M32 =>
  J_X11_copies_144 n v0 v1 v2 (v3 + 1) M32)
set_option maxRecDepth 20000 in
set_option maxHeartbeats 4000000 in
theorem lab_X11_copies_144 {G : Gt} {M0 M9 : Mem} {x9 : Unit} : ∀ (n : Nat) (v0 : Option Nat) (v1 : Int32) (v2 : Int32) (v3 : Int32) (M : Mem), J_X11_copies_144 n v0 v1 v2 v3 M = some (x9, M9) → V G mX11_copies 0 M0 none M9 M 144 [(0, vR v0), (1, vI v1), (2, vI v2), (3, vI v3)] [] := by
  intro n
  induction n with
  | zero => intro v0 v1 v2 v3 M h; exact nomatch h
  | succ n ih =>
    intro v0 v1 v2 v3 M h
    unfold J_X11_copies_144 at h
    refine V.iload_n (n := 3) dX11_copies_144 rfl rfl ?_
    refine V.bipush (x := 6) dX11_copies_145 (by decide) rfl ?_
    refine V.icmp_ge (q := 200) dX11_copies_147 (by decide) rfl h (fun h => ?_) (fun h => ?_)
    · refine V.iconst (x := 0) dX11_copies_200 (by decide) rfl ?_
      refine V.istore_n dX11_copies_201 rfl (by decide) rfl rfl ?_
      exact V.sub [1, 2, 3, 0] rfl (lab_X11_copies_202 FU _ _ _ _ _ h)
    · refine V.aload_n (n := 0) dX11_copies_150 rfl rfl ?_
      refine V.getR dX11_copies_151 lkX11_78 rfl rfl h (fun x25 h => ?_)
      refine V.bipush (x := 6) dX11_copies_154 (by decide) rfl ?_
      refine V.iload_n (n := 2) dX11_copies_156 rfl rfl ?_
      refine V.imul dX11_copies_157 rfl ?_
      refine V.iload_n (n := 3) dX11_copies_158 rfl rfl ?_
      refine V.iadd dX11_copies_159 rfl ?_
      refine V.aload_n (n := 0) dX11_copies_160 rfl rfl ?_
      refine V.getR dX11_copies_161 lkX11_78 rfl rfl h (fun x26 h => ?_)
      refine V.bipush (x := 6) dX11_copies_164 (by decide) rfl ?_
      refine V.iload_n (n := 1) dX11_copies_166 rfl rfl ?_
      refine V.imul dX11_copies_167 rfl ?_
      refine V.iload_n (n := 3) dX11_copies_168 rfl rfl ?_
      refine V.iadd dX11_copies_169 rfl ?_
      refine V.lald dX11_copies_170 rfl h (fun x27 h => ?_)
      refine V.last dX11_copies_171 rfl h (fun M28 h => ?_)
      refine V.aload_n (n := 0) dX11_copies_172 rfl rfl ?_
      refine V.getR dX11_copies_173 lkX11_81 rfl rfl h (fun x29 h => ?_)
      refine V.bipush (x := 6) dX11_copies_176 (by decide) rfl ?_
      refine V.iload_n (n := 2) dX11_copies_178 rfl rfl ?_
      refine V.imul dX11_copies_179 rfl ?_
      refine V.iload_n (n := 3) dX11_copies_180 rfl rfl ?_
      refine V.iadd dX11_copies_181 rfl ?_
      refine V.aload_n (n := 0) dX11_copies_182 rfl rfl ?_
      refine V.getR dX11_copies_183 lkX11_81 rfl rfl h (fun x30 h => ?_)
      refine V.bipush (x := 6) dX11_copies_186 (by decide) rfl ?_
      refine V.iload_n (n := 1) dX11_copies_188 rfl rfl ?_
      refine V.imul dX11_copies_189 rfl ?_
      refine V.iload_n (n := 3) dX11_copies_190 rfl rfl ?_
      refine V.iadd dX11_copies_191 rfl ?_
      refine V.iald dX11_copies_192 rfl h (fun x31 h => ?_)
      refine V.iast dX11_copies_193 rfl h (fun M32 h => ?_)
      refine V.iinc (n := 3) (x := v3 + 1) dX11_copies_194 rfl (by rfl) (by decide) rfl rfl ?_
      refine V.goto (q := 144) dX11_copies_197 (by decide) ?_
      exact V.sub [1, 2, 3, 0] rfl (ih _ _ _ _ _ h)
def J_X11_copies_86 : Nat → Option Nat → Int32 → Int32 → Int32 → Mem → Option (Unit × Mem)
  | 0 => fun _ _ _ _ _ => none
  | n + 1 => fun v0 v1 v2 v3 M =>
  if (8 : Int32) ≤ v3 then
  (J_X11_copies_144 FU v0 v1 v2 (0 : Int32) M)
  else
  ((fR M 11 40 v0).bind fun x33 =>
  (fR M 11 40 v0).bind fun x34 =>
  (aL M 21 x34 (((8 : Int32) * v1) + v3)).bind fun x35 =>
  (uL M 21 x33 (((8 : Int32) * v2) + v3) x35).bind fun M36 =>
  (fR M36 11 41 v0).bind fun x37 =>
  (fR M36 11 41 v0).bind fun x38 =>
  (aI M36 20 x38 (((8 : Int32) * v1) + v3)).bind fun x39 =>
  (uI M36 20 x37 (((8 : Int32) * v2) + v3) x39).bind fun M40 =>
  J_X11_copies_86 n v0 v1 v2 (v3 + 1) M40)
set_option maxRecDepth 20000 in
set_option maxHeartbeats 4000000 in
theorem lab_X11_copies_86 {G : Gt} {M0 M9 : Mem} {x9 : Unit} : ∀ (n : Nat) (v0 : Option Nat) (v1 : Int32) (v2 : Int32) (v3 : Int32) (M : Mem), J_X11_copies_86 n v0 v1 v2 v3 M = some (x9, M9) → V G mX11_copies 0 M0 none M9 M 86 [(0, vR v0), (1, vI v1), (2, vI v2), (3, vI v3)] [] := by
  intro n
  induction n with
  | zero => intro v0 v1 v2 v3 M h; exact nomatch h
  | succ n ih =>
    intro v0 v1 v2 v3 M h
    unfold J_X11_copies_86 at h
    refine V.iload_n (n := 3) dX11_copies_86 rfl rfl ?_
    refine V.bipush (x := 8) dX11_copies_87 (by decide) rfl ?_
    refine V.icmp_ge (q := 142) dX11_copies_89 (by decide) rfl h (fun h => ?_) (fun h => ?_)
    · refine V.iconst (x := 0) dX11_copies_142 (by decide) rfl ?_
      refine V.istore_n dX11_copies_143 rfl (by decide) rfl rfl ?_
      exact V.sub [1, 2, 3, 0] rfl (lab_X11_copies_144 FU _ _ _ _ _ h)
    · refine V.aload_n (n := 0) dX11_copies_92 rfl rfl ?_
      refine V.getR dX11_copies_93 lkX11_69 rfl rfl h (fun x33 h => ?_)
      refine V.bipush (x := 8) dX11_copies_96 (by decide) rfl ?_
      refine V.iload_n (n := 2) dX11_copies_98 rfl rfl ?_
      refine V.imul dX11_copies_99 rfl ?_
      refine V.iload_n (n := 3) dX11_copies_100 rfl rfl ?_
      refine V.iadd dX11_copies_101 rfl ?_
      refine V.aload_n (n := 0) dX11_copies_102 rfl rfl ?_
      refine V.getR dX11_copies_103 lkX11_69 rfl rfl h (fun x34 h => ?_)
      refine V.bipush (x := 8) dX11_copies_106 (by decide) rfl ?_
      refine V.iload_n (n := 1) dX11_copies_108 rfl rfl ?_
      refine V.imul dX11_copies_109 rfl ?_
      refine V.iload_n (n := 3) dX11_copies_110 rfl rfl ?_
      refine V.iadd dX11_copies_111 rfl ?_
      refine V.lald dX11_copies_112 rfl h (fun x35 h => ?_)
      refine V.last dX11_copies_113 rfl h (fun M36 h => ?_)
      refine V.aload_n (n := 0) dX11_copies_114 rfl rfl ?_
      refine V.getR dX11_copies_115 lkX11_72 rfl rfl h (fun x37 h => ?_)
      refine V.bipush (x := 8) dX11_copies_118 (by decide) rfl ?_
      refine V.iload_n (n := 2) dX11_copies_120 rfl rfl ?_
      refine V.imul dX11_copies_121 rfl ?_
      refine V.iload_n (n := 3) dX11_copies_122 rfl rfl ?_
      refine V.iadd dX11_copies_123 rfl ?_
      refine V.aload_n (n := 0) dX11_copies_124 rfl rfl ?_
      refine V.getR dX11_copies_125 lkX11_72 rfl rfl h (fun x38 h => ?_)
      refine V.bipush (x := 8) dX11_copies_128 (by decide) rfl ?_
      refine V.iload_n (n := 1) dX11_copies_130 rfl rfl ?_
      refine V.imul dX11_copies_131 rfl ?_
      refine V.iload_n (n := 3) dX11_copies_132 rfl rfl ?_
      refine V.iadd dX11_copies_133 rfl ?_
      refine V.iald dX11_copies_134 rfl h (fun x39 h => ?_)
      refine V.iast dX11_copies_135 rfl h (fun M40 h => ?_)
      refine V.iinc (n := 3) (x := v3 + 1) dX11_copies_136 rfl (by rfl) (by decide) rfl rfl ?_
      refine V.goto (q := 86) dX11_copies_139 (by decide) ?_
      exact V.sub [1, 2, 3, 0] rfl (ih _ _ _ _ _ h)
def L_X11_copies (v0 : Option Nat) (v1 : Int32) (M : Mem) : Option (Unit × Mem) :=
  (fR M 11 36 v0).bind fun x41 =>
  (uN M 24 x41 ((30 : Int32) + v1) (1 : Int32)).bind fun M42 =>
  (fR M42 11 37 v0).bind fun x43 =>
  (fR M42 11 37 v0).bind fun x44 =>
  (aI M42 20 x44 v1).bind fun x45 =>
  (uI M42 20 x43 ((30 : Int32) + v1) x45).bind fun M46 =>
  (fR M46 11 38 v0).bind fun x47 =>
  (fR M46 11 38 v0).bind fun x48 =>
  (aI M46 20 x48 v1).bind fun x49 =>
  (uI M46 20 x47 ((30 : Int32) + v1) x49).bind fun M50 =>
  (fR M50 11 39 v0).bind fun x51 =>
  (fR M50 11 39 v0).bind fun x52 =>
  (aI M50 20 x52 v1).bind fun x53 =>
  (uI M50 20 x51 ((30 : Int32) + v1) x53).bind fun M54 =>
  (fR M54 11 42 v0).bind fun x55 =>
  (fR M54 11 42 v0).bind fun x56 =>
  (aI M54 20 x56 v1).bind fun x57 =>
  (uI M54 20 x55 ((30 : Int32) + v1) x57).bind fun M58 =>
  (fR M58 11 45 v0).bind fun x59 =>
  (fR M58 11 45 v0).bind fun x60 =>
  (aI M58 20 x60 v1).bind fun x61 =>
  (uI M58 20 x59 ((30 : Int32) + v1) x61).bind fun M62 =>
  (fR M62 11 49 v0).bind fun x63 =>
  (fR M62 11 49 v0).bind fun x64 =>
  (aI M62 20 x64 v1).bind fun x65 =>
  (uI M62 20 x63 ((30 : Int32) + v1) x65).bind fun M66 =>
  J_X11_copies_86 FU v0 v1 ((30 : Int32) + v1) (0 : Int32) M66
set_option maxRecDepth 20000 in
set_option maxHeartbeats 4000000 in
theorem lift_X11_copies {G : Gt} {M M9 : Mem} {x9 : Unit} {v0 : Option Nat} {v1 : Int32} (h : L_X11_copies v0 v1 M = some (x9, M9)) : Mt G mX11_copies 0 [vR v0, vI v1] M none M9 := by
  unfold L_X11_copies at h
  refine Mt.of (by decide +kernel) (Nat.le_of_ble_eq_true rfl) ?_
  have hh : V G mX11_copies 0 M none M9 M 0 [(0, vR v0), (1, vI v1)] [] := by
    refine V.bipush (x := 30) dX11_copies_0 (by decide) rfl ?_
    refine V.iload_n (n := 1) dX11_copies_2 rfl rfl ?_
    refine V.iadd dX11_copies_3 rfl ?_
    refine V.istore_n dX11_copies_4 rfl (by decide) rfl rfl ?_
    refine V.aload_n (n := 1) dX11_copies_5 rfl rfl ?_
    refine V.getR dX11_copies_6 lkX11_56 rfl rfl h (fun x41 h => ?_)
    refine V.iload_n (n := 0) dX11_copies_9 rfl rfl ?_
    refine V.iconst (x := 1) dX11_copies_10 (by decide) rfl ?_
    refine V.zast dX11_copies_11 rfl h (fun M42 h => ?_)
    refine V.aload_n (n := 1) dX11_copies_12 rfl rfl ?_
    refine V.getR dX11_copies_13 lkX11_60 rfl rfl h (fun x43 h => ?_)
    refine V.iload_n (n := 0) dX11_copies_16 rfl rfl ?_
    refine V.aload_n (n := 1) dX11_copies_17 rfl rfl ?_
    refine V.getR dX11_copies_18 lkX11_60 rfl rfl h (fun x44 h => ?_)
    refine V.iload_n (n := 2) dX11_copies_21 rfl rfl ?_
    refine V.iald dX11_copies_22 rfl h (fun x45 h => ?_)
    refine V.iast dX11_copies_23 rfl h (fun M46 h => ?_)
    refine V.aload_n (n := 1) dX11_copies_24 rfl rfl ?_
    refine V.getR dX11_copies_25 lkX11_63 rfl rfl h (fun x47 h => ?_)
    refine V.iload_n (n := 0) dX11_copies_28 rfl rfl ?_
    refine V.aload_n (n := 1) dX11_copies_29 rfl rfl ?_
    refine V.getR dX11_copies_30 lkX11_63 rfl rfl h (fun x48 h => ?_)
    refine V.iload_n (n := 2) dX11_copies_33 rfl rfl ?_
    refine V.iald dX11_copies_34 rfl h (fun x49 h => ?_)
    refine V.iast dX11_copies_35 rfl h (fun M50 h => ?_)
    refine V.aload_n (n := 1) dX11_copies_36 rfl rfl ?_
    refine V.getR dX11_copies_37 lkX11_66 rfl rfl h (fun x51 h => ?_)
    refine V.iload_n (n := 0) dX11_copies_40 rfl rfl ?_
    refine V.aload_n (n := 1) dX11_copies_41 rfl rfl ?_
    refine V.getR dX11_copies_42 lkX11_66 rfl rfl h (fun x52 h => ?_)
    refine V.iload_n (n := 2) dX11_copies_45 rfl rfl ?_
    refine V.iald dX11_copies_46 rfl h (fun x53 h => ?_)
    refine V.iast dX11_copies_47 rfl h (fun M54 h => ?_)
    refine V.aload_n (n := 1) dX11_copies_48 rfl rfl ?_
    refine V.getR dX11_copies_49 lkX11_75 rfl rfl h (fun x55 h => ?_)
    refine V.iload_n (n := 0) dX11_copies_52 rfl rfl ?_
    refine V.aload_n (n := 1) dX11_copies_53 rfl rfl ?_
    refine V.getR dX11_copies_54 lkX11_75 rfl rfl h (fun x56 h => ?_)
    refine V.iload_n (n := 2) dX11_copies_57 rfl rfl ?_
    refine V.iald dX11_copies_58 rfl h (fun x57 h => ?_)
    refine V.iast dX11_copies_59 rfl h (fun M58 h => ?_)
    refine V.aload_n (n := 1) dX11_copies_60 rfl rfl ?_
    refine V.getR dX11_copies_61 lkX11_84 rfl rfl h (fun x59 h => ?_)
    refine V.iload_n (n := 0) dX11_copies_64 rfl rfl ?_
    refine V.aload_n (n := 1) dX11_copies_65 rfl rfl ?_
    refine V.getR dX11_copies_66 lkX11_84 rfl rfl h (fun x60 h => ?_)
    refine V.iload_n (n := 2) dX11_copies_69 rfl rfl ?_
    refine V.iald dX11_copies_70 rfl h (fun x61 h => ?_)
    refine V.iast dX11_copies_71 rfl h (fun M62 h => ?_)
    refine V.aload_n (n := 1) dX11_copies_72 rfl rfl ?_
    refine V.getR dX11_copies_73 lkX11_96 rfl rfl h (fun x63 h => ?_)
    refine V.iload_n (n := 0) dX11_copies_76 rfl rfl ?_
    refine V.aload_n (n := 1) dX11_copies_77 rfl rfl ?_
    refine V.getR dX11_copies_78 lkX11_96 rfl rfl h (fun x64 h => ?_)
    refine V.iload_n (n := 2) dX11_copies_81 rfl rfl ?_
    refine V.iald dX11_copies_82 rfl h (fun x65 h => ?_)
    refine V.iast dX11_copies_83 rfl h (fun M66 h => ?_)
    refine V.iconst (x := 0) dX11_copies_84 (by decide) rfl ?_
    refine V.istore_n dX11_copies_85 rfl (by decide) rfl rfl ?_
    exact V.sub [2, 3, 1, 0] rfl (lab_X11_copies_86 FU _ _ _ _ _ h)
  exact hh
def L_X11_isIn (v0 : Int32) (v1 : Int32) (M : Mem) : Option (Int32 × Mem) :=
  if v0 < 0 then
  ((bz (0 : Int32)).bind fun _ => some ((0 : Int32), M))
  else
  (if v1 ≤ v0 then
  ((bz (0 : Int32)).bind fun _ => some ((0 : Int32), M))
  else
  ((bz (1 : Int32)).bind fun _ => some ((1 : Int32), M)))
set_option maxRecDepth 20000 in
set_option maxHeartbeats 4000000 in
theorem lift_X11_isIn {G : Gt} {M M9 : Mem} {x9 : Int32} {v0 : Int32} {v1 : Int32} (h : L_X11_isIn v0 v1 M = some (x9, M9)) : Mt G mX11_isIn 0 [vI v0, vI v1] M (some (vI x9)) M9 := by
  unfold L_X11_isIn at h
  refine Mt.of (by decide +kernel) (Nat.le_of_ble_eq_true rfl) ?_
  have hh : V G mX11_isIn 0 M (some (vI x9)) M9 M 0 [(0, vI v0), (1, vI v1)] [] := by
    refine V.iload_n (n := 0) dX11_isIn_0 rfl rfl ?_
    refine V.if_lt (q := 13) dX11_isIn_1 (by decide) rfl h (fun h => ?_) (fun h => ?_)
    · refine V.iconst (x := 0) dX11_isIn_13 (by decide) rfl ?_
      exact V.zret dX11_isIn_14 rfl h
    · refine V.iload_n (n := 0) dX11_isIn_4 rfl rfl ?_
      refine V.iload_n (n := 1) dX11_isIn_5 rfl rfl ?_
      refine V.icmp_ge (q := 13) dX11_isIn_6 (by decide) rfl h (fun h => ?_) (fun h => ?_)
      · refine V.iconst (x := 0) dX11_isIn_13 (by decide) rfl ?_
        exact V.zret dX11_isIn_14 rfl h
      · refine V.iconst (x := 1) dX11_isIn_9 (by decide) rfl ?_
        refine V.goto (q := 14) dX11_isIn_10 (by decide) ?_
        exact V.zret dX11_isIn_14 rfl h
  exact hh
def L_X11_isYear (v0 : Int32) (M : Mem) : Option (Int32 × Mem) :=
  if v0 < (1700 : Int32) then
  ((bz (0 : Int32)).bind fun _ => some ((0 : Int32), M))
  else
  (if (1730 : Int32) ≤ v0 then
  ((bz (0 : Int32)).bind fun _ => some ((0 : Int32), M))
  else
  ((bz (1 : Int32)).bind fun _ => some ((1 : Int32), M)))
set_option maxRecDepth 20000 in
set_option maxHeartbeats 4000000 in
theorem lift_X11_isYear {G : Gt} {M M9 : Mem} {x9 : Int32} {v0 : Int32} (h : L_X11_isYear v0 M = some (x9, M9)) : Mt G mX11_isYear 0 [vI v0] M (some (vI x9)) M9 := by
  unfold L_X11_isYear at h
  refine Mt.of (by decide +kernel) (Nat.le_of_ble_eq_true rfl) ?_
  have hh : V G mX11_isYear 0 M (some (vI x9)) M9 M 0 [(0, vI v0)] [] := by
    refine V.iload_n (n := 0) dX11_isYear_0 rfl rfl ?_
    refine V.sipush (x := 1700) dX11_isYear_1 (by decide) rfl ?_
    refine V.icmp_lt (q := 18) dX11_isYear_4 (by decide) rfl h (fun h => ?_) (fun h => ?_)
    · refine V.iconst (x := 0) dX11_isYear_18 (by decide) rfl ?_
      exact V.zret dX11_isYear_19 rfl h
    · refine V.iload_n (n := 0) dX11_isYear_7 rfl rfl ?_
      refine V.sipush (x := 1730) dX11_isYear_8 (by decide) rfl ?_
      refine V.icmp_ge (q := 18) dX11_isYear_11 (by decide) rfl h (fun h => ?_) (fun h => ?_)
      · refine V.iconst (x := 0) dX11_isYear_18 (by decide) rfl ?_
        exact V.zret dX11_isYear_19 rfl h
      · refine V.iconst (x := 1) dX11_isYear_14 (by decide) rfl ?_
        refine V.goto (q := 19) dX11_isYear_15 (by decide) ?_
        exact V.zret dX11_isYear_19 rfl h
  exact hh
def L_X11_sheet (v0 : Option Nat) (v1 : Int32) (M : Mem) : Option (Int32 × Mem) :=
  (L_X11_isYear v1 M).bind fun w1 =>
  if ¬ w1.1 = 0 then
  ((fI w1.2 11 1 v0).bind fun x2 =>
  (pI w1.2 11 4 v0 x2).bind fun M3 =>
  (pI M3 11 1 v0 (0 : Int32)).bind fun M4 =>
  (pI M4 11 12 v0 (v1 - (1700 : Int32))).bind fun M5 =>
  (ck M5 11 v0).bind fun _ => (L_X11_reads v0 M5).bind fun w6 =>
  (fI w6.2 11 2 v0).bind fun x7 =>
  if x7 = 0 then
  ((fI w6.2 11 12 v0).bind fun x8 =>
  (ck w6.2 11 v0).bind fun _ => (L_X11_keeps v0 x8 w6.2).bind fun w9 =>
  (fR w9.2 11 53 v0).bind fun x10 =>
  (fI w9.2 11 12 v0).bind fun x11 =>
  (uN w9.2 24 x10 x11 (1 : Int32)).bind fun M12 =>
  (fI M12 11 22 v0).bind fun x13 =>
  some (x13, M12))
  else
  (some ((-1 : Int32), w6.2)))
  else
  (some ((-2 : Int32), w1.2))
set_option maxRecDepth 20000 in
set_option maxHeartbeats 4000000 in
theorem lift_X11_sheet {G : Gt} {M M9 : Mem} {x9 : Int32} {v0 : Option Nat} {v1 : Int32} (h : L_X11_sheet v0 v1 M = some (x9, M9)) : Mt G mX11_sheet 776 [vR v0, vI v1] M (some (vI x9)) M9 := by
  unfold L_X11_sheet at h
  refine Mt.of (by decide +kernel) (Nat.le_of_ble_eq_true rfl) ?_
  have hh : V G mX11_sheet 776 M (some (vI x9)) M9 M 0 [(0, vR v0), (1, vI v1)] [] := by
    refine V.iload_n (n := 1) dX11_sheet_0 rfl rfl ?_
    refine V.callSi (d' := 0) (as := [vI v1]) (st := []) dX11_sheet_1 meX11_isYear mlX11_360 smX11_isYear rfl (by omega) (Nat.le_of_ble_eq_true rfl) rfl rfl h (fun v hv => lift_X11_isYear hv) (fun w1 h => ?_)
    refine V.if_ne (q := 10) dX11_sheet_4 (by decide) rfl h (fun h => ?_) (fun h => ?_)
    · refine V.aload_n (n := 0) dX11_sheet_10 rfl rfl ?_
      refine V.aload_n (n := 0) dX11_sheet_11 rfl rfl ?_
      refine V.getI dX11_sheet_12 lkX11_172 rfl rfl h (fun x2 h => ?_)
      refine V.putI dX11_sheet_15 lkX11_175 (Or.inl rfl) rfl rfl h (fun M3 h => ?_)
      refine V.aload_n (n := 0) dX11_sheet_18 rfl rfl ?_
      refine V.iconst (x := 0) dX11_sheet_19 (by decide) rfl ?_
      refine V.putI dX11_sheet_20 lkX11_172 (Or.inl rfl) rfl rfl h (fun M4 h => ?_)
      refine V.aload_n (n := 0) dX11_sheet_23 rfl rfl ?_
      refine V.iload_n (n := 1) dX11_sheet_24 rfl rfl ?_
      refine V.sipush (x := 1700) dX11_sheet_25 (by decide) rfl ?_
      refine V.isub dX11_sheet_28 rfl ?_
      refine V.putI dX11_sheet_29 lkX11_234 (Or.inl rfl) rfl rfl h (fun M5 h => ?_)
      refine V.aload_n (n := 0) dX11_sheet_32 rfl rfl ?_
      refine V.callVv (d' := 775) (as := []) (st := []) dX11_sheet_33 meX11_reads mlX11_363 imX11_reads seX11_reads clsX11 rfl (by omega) (Nat.le_of_ble_eq_true rfl) rfl rfl h (fun v hv => lift_X11_reads hv) (fun w6 h => ?_)
      refine V.aload_n (n := 0) dX11_sheet_36 rfl rfl ?_
      refine V.getI dX11_sheet_37 lkX11_219 rfl rfl h (fun x7 h => ?_)
      refine V.if_eq (q := 45) dX11_sheet_40 (by decide) rfl h (fun h => ?_) (fun h => ?_)
      · refine V.aload_n (n := 0) dX11_sheet_45 rfl rfl ?_
        refine V.aload_n (n := 0) dX11_sheet_46 rfl rfl ?_
        refine V.getI dX11_sheet_47 lkX11_234 rfl rfl h (fun x8 h => ?_)
        refine V.callVv (d' := 0) (as := [vI x8]) (st := []) dX11_sheet_50 meX11_keeps mlX11_366 imX11_keeps seX11_keeps clsX11 rfl (by omega) (Nat.le_of_ble_eq_true rfl) rfl rfl h (fun v hv => lift_X11_keeps hv) (fun w9 h => ?_)
        refine V.aload_n (n := 0) dX11_sheet_53 rfl rfl ?_
        refine V.getR dX11_sheet_54 lkX11_109 rfl rfl h (fun x10 h => ?_)
        refine V.aload_n (n := 0) dX11_sheet_57 rfl rfl ?_
        refine V.getI dX11_sheet_58 lkX11_234 rfl rfl h (fun x11 h => ?_)
        refine V.iconst (x := 1) dX11_sheet_61 (by decide) rfl ?_
        refine V.zast dX11_sheet_62 rfl h (fun M12 h => ?_)
        refine V.aload_n (n := 0) dX11_sheet_63 rfl rfl ?_
        refine V.getI dX11_sheet_64 lkX11_333 rfl rfl h (fun x13 h => ?_)
        exact V.iret dX11_sheet_67 rfl h
      · refine V.iconst (x := (-1)) dX11_sheet_43 (by decide) rfl ?_
        exact V.iret dX11_sheet_44 rfl h
    · refine V.bipush (x := (-2)) dX11_sheet_7 (by decide) rfl ?_
      exact V.iret dX11_sheet_9 rfl h
  exact hh
def L_X11_fault (v0 : Option Nat) (v1 : Int32) (M : Mem) : Option (Int32 × Mem) :=
  if ¬ v1 = 0 then
  (if ¬ v1 = (1 : Int32) then
  (some ((-1 : Int32), M))
  else
  ((fI M 11 3 v0).bind fun x1 =>
  some (x1, M)))
  else
  ((fI M 11 2 v0).bind fun x2 =>
  some (x2, M))
set_option maxRecDepth 20000 in
set_option maxHeartbeats 4000000 in
theorem lift_X11_fault {G : Gt} {M M9 : Mem} {x9 : Int32} {v0 : Option Nat} {v1 : Int32} (h : L_X11_fault v0 v1 M = some (x9, M9)) : Mt G mX11_fault 0 [vR v0, vI v1] M (some (vI x9)) M9 := by
  unfold L_X11_fault at h
  refine Mt.of (by decide +kernel) (Nat.le_of_ble_eq_true rfl) ?_
  have hh : V G mX11_fault 0 M (some (vI x9)) M9 M 0 [(0, vR v0), (1, vI v1)] [] := by
    refine V.iload_n (n := 1) dX11_fault_0 rfl rfl ?_
    refine V.if_ne (q := 11) dX11_fault_1 (by decide) rfl h (fun h => ?_) (fun h => ?_)
    · refine V.iload_n (n := 1) dX11_fault_11 rfl rfl ?_
      refine V.iconst (x := 1) dX11_fault_12 (by decide) rfl ?_
      refine V.icmp_ne (q := 23) dX11_fault_13 (by decide) rfl h (fun h => ?_) (fun h => ?_)
      · refine V.iconst (x := (-1)) dX11_fault_23 (by decide) rfl ?_
        exact V.iret dX11_fault_24 rfl h
      · refine V.aload_n (n := 0) dX11_fault_16 rfl rfl ?_
        refine V.getI dX11_fault_17 lkX11_13 rfl rfl h (fun x1 h => ?_)
        refine V.goto (q := 24) dX11_fault_20 (by decide) ?_
        exact V.iret dX11_fault_24 rfl h
    · refine V.aload_n (n := 0) dX11_fault_4 rfl rfl ?_
      refine V.getI dX11_fault_5 lkX11_219 rfl rfl h (fun x2 h => ?_)
      refine V.goto (q := 24) dX11_fault_8 (by decide) ?_
      exact V.iret dX11_fault_24 rfl h
  exact hh
def L_X11_forget (v0 : Option Nat) (v1 : Int32) (M : Mem) : Option (Int32 × Mem) :=
  (L_X11_isYear v1 M).bind fun w1 =>
  if w1.1 = 0 then
  ((bz (0 : Int32)).bind fun _ => some ((0 : Int32), w1.2))
  else
  ((fR w1.2 11 36 v0).bind fun x2 =>
  (aI w1.2 24 x2 (v1 - (1700 : Int32))).bind fun x3 =>
  if ¬ x3 = 0 then
  ((fR w1.2 11 36 v0).bind fun x4 =>
  (uN w1.2 24 x4 (v1 - (1700 : Int32)) (0 : Int32)).bind fun M5 =>
  (fR M5 11 53 v0).bind fun x6 =>
  (uN M5 24 x6 (v1 - (1700 : Int32)) (1 : Int32)).bind fun M7 =>
  (bz (1 : Int32)).bind fun _ => some ((1 : Int32), M7))
  else
  ((bz (0 : Int32)).bind fun _ => some ((0 : Int32), w1.2)))
set_option maxRecDepth 20000 in
set_option maxHeartbeats 4000000 in
theorem lift_X11_forget {G : Gt} {M M9 : Mem} {x9 : Int32} {v0 : Option Nat} {v1 : Int32} (h : L_X11_forget v0 v1 M = some (x9, M9)) : Mt G mX11_forget 1 [vR v0, vI v1] M (some (vI x9)) M9 := by
  unfold L_X11_forget at h
  refine Mt.of (by decide +kernel) (Nat.le_of_ble_eq_true rfl) ?_
  have hh : V G mX11_forget 1 M (some (vI x9)) M9 M 0 [(0, vR v0), (1, vI v1)] [] := by
    refine V.iload_n (n := 1) dX11_forget_0 rfl rfl ?_
    refine V.callSi (d' := 0) (as := [vI v1]) (st := []) dX11_forget_1 meX11_isYear mlX11_360 smX11_isYear rfl (by omega) (Nat.le_of_ble_eq_true rfl) rfl rfl h (fun v hv => lift_X11_isYear hv) (fun w1 h => ?_)
    refine V.if_eq (q := 20) dX11_forget_4 (by decide) rfl h (fun h => ?_) (fun h => ?_)
    · refine V.iconst (x := 0) dX11_forget_20 (by decide) rfl ?_
      exact V.zret dX11_forget_21 rfl h
    · refine V.aload_n (n := 0) dX11_forget_7 rfl rfl ?_
      refine V.getR dX11_forget_8 lkX11_56 rfl rfl h (fun x2 h => ?_)
      refine V.iload_n (n := 1) dX11_forget_11 rfl rfl ?_
      refine V.sipush (x := 1700) dX11_forget_12 (by decide) rfl ?_
      refine V.isub dX11_forget_15 rfl ?_
      refine V.zald dX11_forget_16 rfl h (fun x3 h => ?_)
      refine V.if_ne (q := 22) dX11_forget_17 (by decide) rfl h (fun h => ?_) (fun h => ?_)
      · refine V.aload_n (n := 0) dX11_forget_22 rfl rfl ?_
        refine V.getR dX11_forget_23 lkX11_56 rfl rfl h (fun x4 h => ?_)
        refine V.iload_n (n := 1) dX11_forget_26 rfl rfl ?_
        refine V.sipush (x := 1700) dX11_forget_27 (by decide) rfl ?_
        refine V.isub dX11_forget_30 rfl ?_
        refine V.iconst (x := 0) dX11_forget_31 (by decide) rfl ?_
        refine V.zast dX11_forget_32 rfl h (fun M5 h => ?_)
        refine V.aload_n (n := 0) dX11_forget_33 rfl rfl ?_
        refine V.getR dX11_forget_34 lkX11_109 rfl rfl h (fun x6 h => ?_)
        refine V.iload_n (n := 1) dX11_forget_37 rfl rfl ?_
        refine V.sipush (x := 1700) dX11_forget_38 (by decide) rfl ?_
        refine V.isub dX11_forget_41 rfl ?_
        refine V.iconst (x := 1) dX11_forget_42 (by decide) rfl ?_
        refine V.zast dX11_forget_43 rfl h (fun M7 h => ?_)
        refine V.iconst (x := 1) dX11_forget_44 (by decide) rfl ?_
        exact V.zret dX11_forget_45 rfl h
      · refine V.iconst (x := 0) dX11_forget_20 (by decide) rfl ?_
        exact V.zret dX11_forget_21 rfl h
  exact hh
def J_X11_issue_27 (k_4 : Option Nat → Int32 → Int32 → Mem → Option (Int32 × Mem)) (v0 : Option Nat) (v2 : Int32) (s0 : Int32) (s1 : Int32) (M : Mem) : Option (Int32 × Mem) :=
  k_4 v0 (s0 ||| s1) (v2 + 1) M
set_option maxRecDepth 20000 in
set_option maxHeartbeats 4000000 in
theorem lab_X11_issue_27 {G : Gt} {M0 M9 : Mem} {x9 : Int32} {k_4 : Option Nat → Int32 → Int32 → Mem → Option (Int32 × Mem)} (hk_4 : ∀ (v0 : Option Nat) (v1 : Int32) (v2 : Int32) (Ma : Mem), k_4 v0 v1 v2 Ma = some (x9, M9) → V G mX11_issue 1 M0 (some (vI x9)) M9 Ma 4 [(0, vR v0), (1, vI v1), (2, vI v2)] []) {v0 : Option Nat} {v2 : Int32} {s0 : Int32} {s1 : Int32} {M : Mem} (h : J_X11_issue_27 k_4 v0 v2 s0 s1 M = some (x9, M9)) : V G mX11_issue 1 M0 (some (vI x9)) M9 M 27 [(0, vR v0), (2, vI v2)] [vI s1, vI s0] := by
  unfold J_X11_issue_27 at h
  refine V.ior dX11_issue_27 rfl ?_
  refine V.istore_n dX11_issue_28 rfl (by decide) rfl rfl ?_
  refine V.iinc (n := 2) (x := v2 + 1) dX11_issue_29 rfl (by rfl) (by decide) rfl rfl ?_
  refine V.goto (q := 4) dX11_issue_32 (by decide) ?_
  exact V.sub [2, 1, 0] rfl (hk_4 _ _ _ _ h)
def J_X11_issue_77 (k_37 : Option Nat → Int32 → Int32 → Mem → Option (Int32 × Mem)) (k_45 : Option Nat → Int32 → Int32 → Int32 → Mem → Option (Int32 × Mem)) (v0 : Option Nat) (v1 : Int32) (v2 : Int32) (v3 : Int32) (M : Mem) : Option (Int32 × Mem) :=
  k_45 v0 v1 v2 (v3 + 1) M
set_option maxRecDepth 20000 in
set_option maxHeartbeats 4000000 in
theorem lab_X11_issue_77 {G : Gt} {M0 M9 : Mem} {x9 : Int32} {k_37 : Option Nat → Int32 → Int32 → Mem → Option (Int32 × Mem)} {k_45 : Option Nat → Int32 → Int32 → Int32 → Mem → Option (Int32 × Mem)} (hk_37 : ∀ (v0 : Option Nat) (v1 : Int32) (v2 : Int32) (Ma : Mem), k_37 v0 v1 v2 Ma = some (x9, M9) → V G mX11_issue 1 M0 (some (vI x9)) M9 Ma 37 [(0, vR v0), (1, vI v1), (2, vI v2)] []) (hk_45 : ∀ (v0 : Option Nat) (v1 : Int32) (v2 : Int32) (v3 : Int32) (Ma : Mem), k_45 v0 v1 v2 v3 Ma = some (x9, M9) → V G mX11_issue 1 M0 (some (vI x9)) M9 Ma 45 [(0, vR v0), (1, vI v1), (2, vI v2), (3, vI v3)] []) {v0 : Option Nat} {v1 : Int32} {v2 : Int32} {v3 : Int32} {M : Mem} (h : J_X11_issue_77 k_37 k_45 v0 v1 v2 v3 M = some (x9, M9)) : V G mX11_issue 1 M0 (some (vI x9)) M9 M 77 [(0, vR v0), (1, vI v1), (2, vI v2), (3, vI v3)] [] := by
  unfold J_X11_issue_77 at h
  refine V.iinc (n := 3) (x := v3 + 1) dX11_issue_77 rfl (by rfl) (by decide) rfl rfl ?_
  refine V.goto (q := 45) dX11_issue_80 (by decide) ?_
  exact V.sub [1, 2, 3, 0] rfl (hk_45 _ _ _ _ _ h)
def J_X11_issue_45 (k_37 : Option Nat → Int32 → Int32 → Mem → Option (Int32 × Mem)) : Nat → Option Nat → Int32 → Int32 → Int32 → Mem → Option (Int32 × Mem)
  | 0 => fun _ _ _ _ _ => none
  | n + 1 => fun v0 v1 v2 v3 M =>
  if (30 : Int32) ≤ v3 then
  (k_37 v0 v1 (v2 + 1) M)
  else
  ((fR M 11 36 v0).bind fun x1 =>
  (aI M 24 x1 v3).bind fun x2 =>
  if x2 = 0 then
  (J_X11_issue_77 k_37 (J_X11_issue_45 k_37 n) v0 v1 v2 v3 M)
  else
  ((fR M 11 38 v0).bind fun x3 =>
  (aI M 20 x3 v3).bind fun x4 =>
  if (x4 &&& v1) = 0 then
  (J_X11_issue_77 k_37 (J_X11_issue_45 k_37 n) v0 v1 v2 v3 M)
  else
  (J_X11_issue_77 k_37 (J_X11_issue_45 k_37 n) v0 (v1 ||| ((1 : Int32) <<< (v3 &&& 31))) v2 v3 M)))
set_option maxRecDepth 20000 in
set_option maxHeartbeats 4000000 in
theorem lab_X11_issue_45 {G : Gt} {M0 M9 : Mem} {x9 : Int32} {k_37 : Option Nat → Int32 → Int32 → Mem → Option (Int32 × Mem)} (hk_37 : ∀ (v0 : Option Nat) (v1 : Int32) (v2 : Int32) (Ma : Mem), k_37 v0 v1 v2 Ma = some (x9, M9) → V G mX11_issue 1 M0 (some (vI x9)) M9 Ma 37 [(0, vR v0), (1, vI v1), (2, vI v2)] []) : ∀ (n : Nat) (v0 : Option Nat) (v1 : Int32) (v2 : Int32) (v3 : Int32) (M : Mem), J_X11_issue_45 k_37 n v0 v1 v2 v3 M = some (x9, M9) → V G mX11_issue 1 M0 (some (vI x9)) M9 M 45 [(0, vR v0), (1, vI v1), (2, vI v2), (3, vI v3)] [] := by
  intro n
  induction n with
  | zero => intro v0 v1 v2 v3 M h; exact nomatch h
  | succ n ih =>
    intro v0 v1 v2 v3 M h
    unfold J_X11_issue_45 at h
    refine V.iload_n (n := 3) dX11_issue_45 rfl rfl ?_
    refine V.bipush (x := 30) dX11_issue_46 (by decide) rfl ?_
    refine V.icmp_ge (q := 83) dX11_issue_48 (by decide) rfl h (fun h => ?_) (fun h => ?_)
    · refine V.iinc (n := 2) (x := v2 + 1) dX11_issue_83 rfl (by rfl) (by decide) rfl rfl ?_
      refine V.goto (q := 37) dX11_issue_86 (by decide) ?_
      exact V.sub [1, 2, 0] rfl (hk_37 _ _ _ _ h)
    · refine V.aload_n (n := 0) dX11_issue_51 rfl rfl ?_
      refine V.getR dX11_issue_52 lkX11_56 rfl rfl h (fun x1 h => ?_)
      refine V.iload_n (n := 3) dX11_issue_55 rfl rfl ?_
      refine V.zald dX11_issue_56 rfl h (fun x2 h => ?_)
      refine V.if_eq (q := 77) dX11_issue_57 (by decide) rfl h (fun h => ?_) (fun h => ?_)
      · exact (lab_X11_issue_77 hk_37 ih h)
      · refine V.aload_n (n := 0) dX11_issue_60 rfl rfl ?_
        refine V.getR dX11_issue_61 lkX11_63 rfl rfl h (fun x3 h => ?_)
        refine V.iload_n (n := 3) dX11_issue_64 rfl rfl ?_
        refine V.iald dX11_issue_65 rfl h (fun x4 h => ?_)
        refine V.iload_n (n := 1) dX11_issue_66 rfl rfl ?_
        refine V.iand dX11_issue_67 rfl ?_
        refine V.if_eq (q := 77) dX11_issue_68 (by decide) rfl h (fun h => ?_) (fun h => ?_)
        · exact (lab_X11_issue_77 hk_37 ih h)
        · refine V.iload_n (n := 1) dX11_issue_71 rfl rfl ?_
          refine V.iconst (x := 1) dX11_issue_72 (by decide) rfl ?_
          refine V.iload_n (n := 3) dX11_issue_73 rfl rfl ?_
          refine V.ishl dX11_issue_74 rfl ?_
          refine V.ior dX11_issue_75 rfl ?_
          refine V.istore_n dX11_issue_76 rfl (by decide) rfl rfl ?_
          exact V.sub [1, 0, 2, 3] rfl (lab_X11_issue_77 hk_37 ih h)
def J_X11_issue_243 (k_103 : Option Nat → Int32 → Int32 → Int32 → Mem → Option (Int32 × Mem)) (v0 : Option Nat) (v1 : Int32) (v2 : Int32) (v3 : Int32) (M : Mem) : Option (Int32 × Mem) :=
  k_103 v0 v1 v2 (v3 + 1) M
set_option maxRecDepth 20000 in
set_option maxHeartbeats 4000000 in
theorem lab_X11_issue_243 {G : Gt} {M0 M9 : Mem} {x9 : Int32} {k_103 : Option Nat → Int32 → Int32 → Int32 → Mem → Option (Int32 × Mem)} (hk_103 : ∀ (v0 : Option Nat) (v1 : Int32) (v2 : Int32) (v3 : Int32) (Ma : Mem), k_103 v0 v1 v2 v3 Ma = some (x9, M9) → V G mX11_issue 1 M0 (some (vI x9)) M9 Ma 103 [(0, vR v0), (1, vI v1), (2, vI v2), (3, vI v3)] []) {v0 : Option Nat} {v1 : Int32} {v2 : Int32} {v3 : Int32} {M : Mem} (h : J_X11_issue_243 k_103 v0 v1 v2 v3 M = some (x9, M9)) : V G mX11_issue 1 M0 (some (vI x9)) M9 M 243 [(0, vR v0), (1, vI v1), (2, vI v2), (3, vI v3)] [] := by
  unfold J_X11_issue_243 at h
  refine V.iinc (n := 3) (x := v3 + 1) dX11_issue_243 rfl (by rfl) (by decide) rfl rfl ?_
  refine V.goto (q := 103) dX11_issue_246 (by decide) ?_
  exact V.sub [1, 2, 3, 0] rfl (hk_103 _ _ _ _ _ h)
def J_X11_issue_197 (k_103 : Option Nat → Int32 → Int32 → Int32 → Mem → Option (Int32 × Mem)) : Nat → Option Nat → Int32 → Int32 → Int32 → Int32 → Mem → Option (Int32 × Mem)
  | 0 => fun _ _ _ _ _ _ => none
  | n + 1 => fun v0 v1 v2 v3 v4 M =>
  if (72 : Int32) ≤ v4 then
  ((fR M 11 36 v0).bind fun x5 =>
  (aI M 24 x5 v3).bind fun x6 =>
  if ¬ x6 = 0 then
  ((ck M 11 v0).bind fun _ => (L_X11_copies v0 v3 M).bind fun w7 =>
  J_X11_issue_243 k_103 v0 v1 (v2 + 1) v3 w7.2)
  else
  (J_X11_issue_243 k_103 v0 v1 v2 v3 M))
  else
  ((fR M 11 58 v0).bind fun x8 =>
  (uL M 21 x8 (((72 : Int32) * v3) + v4) (0 : Int64)).bind fun M9 =>
  J_X11_issue_197 k_103 n v0 v1 v2 v3 (v4 + 1) M9)
set_option maxRecDepth 20000 in
set_option maxHeartbeats 4000000 in
theorem lab_X11_issue_197 {G : Gt} {M0 M9 : Mem} {x9 : Int32} {k_103 : Option Nat → Int32 → Int32 → Int32 → Mem → Option (Int32 × Mem)} (hk_103 : ∀ (v0 : Option Nat) (v1 : Int32) (v2 : Int32) (v3 : Int32) (Ma : Mem), k_103 v0 v1 v2 v3 Ma = some (x9, M9) → V G mX11_issue 1 M0 (some (vI x9)) M9 Ma 103 [(0, vR v0), (1, vI v1), (2, vI v2), (3, vI v3)] []) : ∀ (n : Nat) (v0 : Option Nat) (v1 : Int32) (v2 : Int32) (v3 : Int32) (v4 : Int32) (M : Mem), J_X11_issue_197 k_103 n v0 v1 v2 v3 v4 M = some (x9, M9) → V G mX11_issue 1 M0 (some (vI x9)) M9 M 197 [(0, vR v0), (1, vI v1), (2, vI v2), (3, vI v3), (4, vI v4)] [] := by
  intro n
  induction n with
  | zero => intro v0 v1 v2 v3 v4 M h; exact nomatch h
  | succ n ih =>
    intro v0 v1 v2 v3 v4 M h
    unfold J_X11_issue_197 at h
    refine V.iload (n := 4) dX11_issue_197 rfl rfl ?_
    refine V.bipush (x := 72) dX11_issue_199 (by decide) rfl ?_
    refine V.icmp_ge (q := 223) dX11_issue_201 (by decide) rfl h (fun h => ?_) (fun h => ?_)
    · refine V.aload_n (n := 0) dX11_issue_223 rfl rfl ?_
      refine V.getR dX11_issue_224 lkX11_56 rfl rfl h (fun x5 h => ?_)
      refine V.iload_n (n := 3) dX11_issue_227 rfl rfl ?_
      refine V.zald dX11_issue_228 rfl h (fun x6 h => ?_)
      refine V.if_ne (q := 235) dX11_issue_229 (by decide) rfl h (fun h => ?_) (fun h => ?_)
      · refine V.aload_n (n := 0) dX11_issue_235 rfl rfl ?_
        refine V.iload_n (n := 3) dX11_issue_236 rfl rfl ?_
        refine V.callVv (d' := 0) (as := [vI v3]) (st := []) dX11_issue_237 meX11_copies mlX11_372 imX11_copies seX11_copies clsX11 rfl (by omega) (Nat.le_of_ble_eq_true rfl) rfl rfl h (fun v hv => lift_X11_copies hv) (fun w7 h => ?_)
        refine V.iinc (n := 2) (x := v2 + 1) dX11_issue_240 rfl (by rfl) (by decide) rfl rfl ?_
        exact V.sub [1, 2, 0, 3] rfl (lab_X11_issue_243 hk_103 h)
      · refine V.goto (q := 243) dX11_issue_232 (by decide) ?_
        exact V.sub [0, 1, 2, 3] rfl (lab_X11_issue_243 hk_103 h)
    · refine V.aload_n (n := 0) dX11_issue_204 rfl rfl ?_
      refine V.getR dX11_issue_205 lkX11_124 rfl rfl h (fun x8 h => ?_)
      refine V.bipush (x := 72) dX11_issue_208 (by decide) rfl ?_
      refine V.iload_n (n := 3) dX11_issue_210 rfl rfl ?_
      refine V.imul dX11_issue_211 rfl ?_
      refine V.iload (n := 4) dX11_issue_212 rfl rfl ?_
      refine V.iadd dX11_issue_214 rfl ?_
      refine V.lconst (x := 0) dX11_issue_215 (by decide) rfl ?_
      refine V.last dX11_issue_216 rfl h (fun M9 h => ?_)
      refine V.iinc (n := 4) (x := v4 + 1) dX11_issue_217 rfl (by rfl) (by decide) rfl rfl ?_
      refine V.goto (q := 197) dX11_issue_220 (by decide) ?_
      exact V.sub [1, 2, 3, 4, 0] rfl (ih _ _ _ _ _ _ h)
def J_X11_issue_169 (k_103 : Option Nat → Int32 → Int32 → Int32 → Mem → Option (Int32 × Mem)) (v0 : Option Nat) (v1 : Int32) (v2 : Int32) (v3 : Int32) (s0 : Option Nat) (s1 : Int32) (s2 : Int32) (M : Mem) : Option (Int32 × Mem) :=
  (uI M 20 s0 s1 s2).bind fun M10 =>
  (fR M10 11 56 v0).bind fun x11 =>
  (uI M10 20 x11 v3 (0 : Int32)).bind fun M12 =>
  (fR M12 11 57 v0).bind fun x13 =>
  (uI M12 20 x13 v3 (0 : Int32)).bind fun M14 =>
  (fR M14 11 36 v0).bind fun x15 =>
  (uN M14 24 x15 ((30 : Int32) + v3) (0 : Int32)).bind fun M16 =>
  J_X11_issue_197 k_103 FU v0 v1 v2 v3 (0 : Int32) M16
set_option maxRecDepth 20000 in
set_option maxHeartbeats 4000000 in
theorem lab_X11_issue_169 {G : Gt} {M0 M9 : Mem} {x9 : Int32} {k_103 : Option Nat → Int32 → Int32 → Int32 → Mem → Option (Int32 × Mem)} (hk_103 : ∀ (v0 : Option Nat) (v1 : Int32) (v2 : Int32) (v3 : Int32) (Ma : Mem), k_103 v0 v1 v2 v3 Ma = some (x9, M9) → V G mX11_issue 1 M0 (some (vI x9)) M9 Ma 103 [(0, vR v0), (1, vI v1), (2, vI v2), (3, vI v3)] []) {v0 : Option Nat} {v1 : Int32} {v2 : Int32} {v3 : Int32} {s0 : Option Nat} {s1 : Int32} {s2 : Int32} {M : Mem} (h : J_X11_issue_169 k_103 v0 v1 v2 v3 s0 s1 s2 M = some (x9, M9)) : V G mX11_issue 1 M0 (some (vI x9)) M9 M 169 [(0, vR v0), (1, vI v1), (2, vI v2), (3, vI v3)] [vI s2, vI s1, vR s0] := by
  unfold J_X11_issue_169 at h
  refine V.iast dX11_issue_169 rfl h (fun M10 h => ?_)
  refine V.aload_n (n := 0) dX11_issue_170 rfl rfl ?_
  refine V.getR dX11_issue_171 lkX11_118 rfl rfl h (fun x11 h => ?_)
  refine V.iload_n (n := 3) dX11_issue_174 rfl rfl ?_
  refine V.iconst (x := 0) dX11_issue_175 (by decide) rfl ?_
  refine V.iast dX11_issue_176 rfl h (fun M12 h => ?_)
  refine V.aload_n (n := 0) dX11_issue_177 rfl rfl ?_
  refine V.getR dX11_issue_178 lkX11_121 rfl rfl h (fun x13 h => ?_)
  refine V.iload_n (n := 3) dX11_issue_181 rfl rfl ?_
  refine V.iconst (x := 0) dX11_issue_182 (by decide) rfl ?_
  refine V.iast dX11_issue_183 rfl h (fun M14 h => ?_)
  refine V.aload_n (n := 0) dX11_issue_184 rfl rfl ?_
  refine V.getR dX11_issue_185 lkX11_56 rfl rfl h (fun x15 h => ?_)
  refine V.bipush (x := 30) dX11_issue_188 (by decide) rfl ?_
  refine V.iload_n (n := 3) dX11_issue_190 rfl rfl ?_
  refine V.iadd dX11_issue_191 rfl ?_
  refine V.iconst (x := 0) dX11_issue_192 (by decide) rfl ?_
  refine V.zast dX11_issue_193 rfl h (fun M16 h => ?_)
  refine V.iconst (x := 0) dX11_issue_194 (by decide) rfl ?_
  refine V.istore dX11_issue_195 (by decide) rfl rfl ?_
  exact V.sub [1, 2, 3, 4, 0] rfl (lab_X11_issue_197 hk_103 FU _ _ _ _ _ _ h)
def J_X11_issue_146 (k_103 : Option Nat → Int32 → Int32 → Int32 → Mem → Option (Int32 × Mem)) (v0 : Option Nat) (v1 : Int32) (v2 : Int32) (v3 : Int32) (s0 : Option Nat) (s1 : Int32) (s2 : Int32) (M : Mem) : Option (Int32 × Mem) :=
  (uI M 20 s0 s1 s2).bind fun M17 =>
  (fR M17 11 55 v0).bind fun x18 =>
  (fR M17 11 36 v0).bind fun x19 =>
  (aI M17 24 x19 v3).bind fun x20 =>
  if x20 = 0 then
  (J_X11_issue_169 k_103 v0 v1 v2 v3 x18 v3 (0 : Int32) M17)
  else
  ((fI M17 11 59 v0).bind fun x21 =>
  J_X11_issue_169 k_103 v0 v1 v2 v3 x18 v3 x21 M17)
set_option maxRecDepth 20000 in
set_option maxHeartbeats 4000000 in
theorem lab_X11_issue_146 {G : Gt} {M0 M9 : Mem} {x9 : Int32} {k_103 : Option Nat → Int32 → Int32 → Int32 → Mem → Option (Int32 × Mem)} (hk_103 : ∀ (v0 : Option Nat) (v1 : Int32) (v2 : Int32) (v3 : Int32) (Ma : Mem), k_103 v0 v1 v2 v3 Ma = some (x9, M9) → V G mX11_issue 1 M0 (some (vI x9)) M9 Ma 103 [(0, vR v0), (1, vI v1), (2, vI v2), (3, vI v3)] []) {v0 : Option Nat} {v1 : Int32} {v2 : Int32} {v3 : Int32} {s0 : Option Nat} {s1 : Int32} {s2 : Int32} {M : Mem} (h : J_X11_issue_146 k_103 v0 v1 v2 v3 s0 s1 s2 M = some (x9, M9)) : V G mX11_issue 1 M0 (some (vI x9)) M9 M 146 [(0, vR v0), (1, vI v1), (2, vI v2), (3, vI v3)] [vI s2, vI s1, vR s0] := by
  unfold J_X11_issue_146 at h
  refine V.iast dX11_issue_146 rfl h (fun M17 h => ?_)
  refine V.aload_n (n := 0) dX11_issue_147 rfl rfl ?_
  refine V.getR dX11_issue_148 lkX11_115 rfl rfl h (fun x18 h => ?_)
  refine V.iload_n (n := 3) dX11_issue_151 rfl rfl ?_
  refine V.aload_n (n := 0) dX11_issue_152 rfl rfl ?_
  refine V.getR dX11_issue_153 lkX11_56 rfl rfl h (fun x19 h => ?_)
  refine V.iload_n (n := 3) dX11_issue_156 rfl rfl ?_
  refine V.zald dX11_issue_157 rfl h (fun x20 h => ?_)
  refine V.if_eq (q := 168) dX11_issue_158 (by decide) rfl h (fun h => ?_) (fun h => ?_)
  · refine V.iconst (x := 0) dX11_issue_168 (by decide) rfl ?_
    exact (lab_X11_issue_169 hk_103 h)
  · refine V.aload_n (n := 0) dX11_issue_161 rfl rfl ?_
    refine V.getI dX11_issue_162 lkX11_369 rfl rfl h (fun x21 h => ?_)
    refine V.goto (q := 169) dX11_issue_165 (by decide) ?_
    exact (lab_X11_issue_169 hk_103 h)
def J_X11_issue_103 : Nat → Option Nat → Int32 → Int32 → Int32 → Mem → Option (Int32 × Mem)
  | 0 => fun _ _ _ _ _ => none
  | n + 1 => fun v0 v1 v2 v3 M =>
  if (30 : Int32) ≤ v3 then
  (some (v2, M))
  else
  ((fR M 11 53 v0).bind fun x22 =>
  (uN M 24 x22 v3 (0 : Int32)).bind fun M23 =>
  if ¬ ((v1 >>> (v3 &&& 31)) &&& (1 : Int32)) = 0 then
  ((fR M23 11 54 v0).bind fun x24 =>
  (fR M23 11 36 v0).bind fun x25 =>
  (aI M23 24 x25 v3).bind fun x26 =>
  if x26 = 0 then
  (J_X11_issue_146 (J_X11_issue_103 n) v0 v1 v2 v3 x24 v3 (0 : Int32) M23)
  else
  (J_X11_issue_146 (J_X11_issue_103 n) v0 v1 v2 v3 x24 v3 (1 : Int32) M23))
  else
  (J_X11_issue_243 (J_X11_issue_103 n) v0 v1 v2 v3 M23))
set_option maxRecDepth 20000 in
set_option maxHeartbeats 4000000 in
theorem lab_X11_issue_103 {G : Gt} {M0 M9 : Mem} {x9 : Int32} : ∀ (n : Nat) (v0 : Option Nat) (v1 : Int32) (v2 : Int32) (v3 : Int32) (M : Mem), J_X11_issue_103 n v0 v1 v2 v3 M = some (x9, M9) → V G mX11_issue 1 M0 (some (vI x9)) M9 M 103 [(0, vR v0), (1, vI v1), (2, vI v2), (3, vI v3)] [] := by
  intro n
  induction n with
  | zero => intro v0 v1 v2 v3 M h; exact nomatch h
  | succ n ih =>
    intro v0 v1 v2 v3 M h
    unfold J_X11_issue_103 at h
    refine V.iload_n (n := 3) dX11_issue_103 rfl rfl ?_
    refine V.bipush (x := 30) dX11_issue_104 (by decide) rfl ?_
    refine V.icmp_ge (q := 249) dX11_issue_106 (by decide) rfl h (fun h => ?_) (fun h => ?_)
    · refine V.iload_n (n := 2) dX11_issue_249 rfl rfl ?_
      exact V.iret dX11_issue_250 rfl h
    · refine V.aload_n (n := 0) dX11_issue_109 rfl rfl ?_
      refine V.getR dX11_issue_110 lkX11_109 rfl rfl h (fun x22 h => ?_)
      refine V.iload_n (n := 3) dX11_issue_113 rfl rfl ?_
      refine V.iconst (x := 0) dX11_issue_114 (by decide) rfl ?_
      refine V.zast dX11_issue_115 rfl h (fun M23 h => ?_)
      refine V.iload_n (n := 1) dX11_issue_116 rfl rfl ?_
      refine V.iload_n (n := 3) dX11_issue_117 rfl rfl ?_
      refine V.ishr dX11_issue_118 rfl ?_
      refine V.iconst (x := 1) dX11_issue_119 (by decide) rfl ?_
      refine V.iand dX11_issue_120 rfl ?_
      refine V.if_ne (q := 127) dX11_issue_121 (by decide) rfl h (fun h => ?_) (fun h => ?_)
      · refine V.aload_n (n := 0) dX11_issue_127 rfl rfl ?_
        refine V.getR dX11_issue_128 lkX11_112 rfl rfl h (fun x24 h => ?_)
        refine V.iload_n (n := 3) dX11_issue_131 rfl rfl ?_
        refine V.aload_n (n := 0) dX11_issue_132 rfl rfl ?_
        refine V.getR dX11_issue_133 lkX11_56 rfl rfl h (fun x25 h => ?_)
        refine V.iload_n (n := 3) dX11_issue_136 rfl rfl ?_
        refine V.zald dX11_issue_137 rfl h (fun x26 h => ?_)
        refine V.if_eq (q := 145) dX11_issue_138 (by decide) rfl h (fun h => ?_) (fun h => ?_)
        · refine V.iconst (x := 0) dX11_issue_145 (by decide) rfl ?_
          exact (lab_X11_issue_146 ih h)
        · refine V.iconst (x := 1) dX11_issue_141 (by decide) rfl ?_
          refine V.goto (q := 146) dX11_issue_142 (by decide) ?_
          exact (lab_X11_issue_146 ih h)
      · refine V.goto (q := 243) dX11_issue_124 (by decide) ?_
        exact (lab_X11_issue_243 ih h)
def J_X11_issue_37 : Nat → Option Nat → Int32 → Int32 → Mem → Option (Int32 × Mem)
  | 0 => fun _ _ _ _ => none
  | n + 1 => fun v0 v1 v2 M =>
  if (30 : Int32) ≤ v2 then
  ((fI M 11 59 v0).bind fun x27 =>
  (pI M 11 59 v0 (x27 + (1 : Int32))).bind fun M28 =>
  J_X11_issue_103 FU v0 v1 (0 : Int32) (0 : Int32) M28)
  else
  (J_X11_issue_45 (J_X11_issue_37 n) FU v0 v1 v2 (0 : Int32) M)
set_option maxRecDepth 20000 in
set_option maxHeartbeats 4000000 in
theorem lab_X11_issue_37 {G : Gt} {M0 M9 : Mem} {x9 : Int32} : ∀ (n : Nat) (v0 : Option Nat) (v1 : Int32) (v2 : Int32) (M : Mem), J_X11_issue_37 n v0 v1 v2 M = some (x9, M9) → V G mX11_issue 1 M0 (some (vI x9)) M9 M 37 [(0, vR v0), (1, vI v1), (2, vI v2)] [] := by
  intro n
  induction n with
  | zero => intro v0 v1 v2 M h; exact nomatch h
  | succ n ih =>
    intro v0 v1 v2 M h
    unfold J_X11_issue_37 at h
    refine V.iload_n (n := 2) dX11_issue_37 rfl rfl ?_
    refine V.bipush (x := 30) dX11_issue_38 (by decide) rfl ?_
    refine V.icmp_ge (q := 89) dX11_issue_40 (by decide) rfl h (fun h => ?_) (fun h => ?_)
    · refine V.aload_n (n := 0) dX11_issue_89 rfl rfl ?_
      refine V.dup dX11_issue_90 rfl rfl ?_
      refine V.getI dX11_issue_91 lkX11_369 rfl rfl h (fun x27 h => ?_)
      refine V.iconst (x := 1) dX11_issue_94 (by decide) rfl ?_
      refine V.iadd dX11_issue_95 rfl ?_
      refine V.putI dX11_issue_96 lkX11_369 (Or.inl rfl) rfl rfl h (fun M28 h => ?_)
      refine V.iconst (x := 0) dX11_issue_99 (by decide) rfl ?_
      refine V.istore_n dX11_issue_100 rfl (by decide) rfl rfl ?_
      refine V.iconst (x := 0) dX11_issue_101 (by decide) rfl ?_
      refine V.istore_n dX11_issue_102 rfl (by decide) rfl rfl ?_
      exact V.sub [2, 3, 1, 0] rfl (lab_X11_issue_103 FU _ _ _ _ _ h)
    · refine V.iconst (x := 0) dX11_issue_43 (by decide) rfl ?_
      refine V.istore_n dX11_issue_44 rfl (by decide) rfl rfl ?_
      exact V.sub [1, 2, 3, 0] rfl (lab_X11_issue_45 ih FU _ _ _ _ _ h)
def J_X11_issue_4 : Nat → Option Nat → Int32 → Int32 → Mem → Option (Int32 × Mem)
  | 0 => fun _ _ _ _ => none
  | n + 1 => fun v0 v1 v2 M =>
  if (30 : Int32) ≤ v2 then
  (J_X11_issue_37 FU v0 v1 (0 : Int32) M)
  else
  ((fR M 11 53 v0).bind fun x29 =>
  (aI M 24 x29 v2).bind fun x30 =>
  if x30 = 0 then
  (J_X11_issue_27 (J_X11_issue_4 n) v0 v2 v1 (0 : Int32) M)
  else
  (J_X11_issue_27 (J_X11_issue_4 n) v0 v2 v1 ((1 : Int32) <<< (v2 &&& 31)) M))
set_option maxRecDepth 20000 in
set_option maxHeartbeats 4000000 in
theorem lab_X11_issue_4 {G : Gt} {M0 M9 : Mem} {x9 : Int32} : ∀ (n : Nat) (v0 : Option Nat) (v1 : Int32) (v2 : Int32) (M : Mem), J_X11_issue_4 n v0 v1 v2 M = some (x9, M9) → V G mX11_issue 1 M0 (some (vI x9)) M9 M 4 [(0, vR v0), (1, vI v1), (2, vI v2)] [] := by
  intro n
  induction n with
  | zero => intro v0 v1 v2 M h; exact nomatch h
  | succ n ih =>
    intro v0 v1 v2 M h
    unfold J_X11_issue_4 at h
    refine V.iload_n (n := 2) dX11_issue_4 rfl rfl ?_
    refine V.bipush (x := 30) dX11_issue_5 (by decide) rfl ?_
    refine V.icmp_ge (q := 35) dX11_issue_7 (by decide) rfl h (fun h => ?_) (fun h => ?_)
    · refine V.iconst (x := 0) dX11_issue_35 (by decide) rfl ?_
      refine V.istore_n dX11_issue_36 rfl (by decide) rfl rfl ?_
      exact V.sub [1, 2, 0] rfl (lab_X11_issue_37 FU _ _ _ _ h)
    · refine V.iload_n (n := 1) dX11_issue_10 rfl rfl ?_
      refine V.aload_n (n := 0) dX11_issue_11 rfl rfl ?_
      refine V.getR dX11_issue_12 lkX11_109 rfl rfl h (fun x29 h => ?_)
      refine V.iload_n (n := 2) dX11_issue_15 rfl rfl ?_
      refine V.zald dX11_issue_16 rfl h (fun x30 h => ?_)
      refine V.if_eq (q := 26) dX11_issue_17 (by decide) rfl h (fun h => ?_) (fun h => ?_)
      · refine V.iconst (x := 0) dX11_issue_26 (by decide) rfl ?_
        exact V.sub [0, 2] rfl (lab_X11_issue_27 ih h)
      · refine V.iconst (x := 1) dX11_issue_20 (by decide) rfl ?_
        refine V.iload_n (n := 2) dX11_issue_21 rfl rfl ?_
        refine V.ishl dX11_issue_22 rfl ?_
        refine V.goto (q := 27) dX11_issue_23 (by decide) ?_
        exact V.sub [0, 2] rfl (lab_X11_issue_27 ih h)
def L_X11_issue (v0 : Option Nat) (M : Mem) : Option (Int32 × Mem) :=
  J_X11_issue_4 FU v0 (0 : Int32) (0 : Int32) M
set_option maxRecDepth 20000 in
set_option maxHeartbeats 4000000 in
theorem lift_X11_issue {G : Gt} {M M9 : Mem} {x9 : Int32} {v0 : Option Nat} (h : L_X11_issue v0 M = some (x9, M9)) : Mt G mX11_issue 1 [vR v0] M (some (vI x9)) M9 := by
  unfold L_X11_issue at h
  refine Mt.of (by decide +kernel) (Nat.le_of_ble_eq_true rfl) ?_
  have hh : V G mX11_issue 1 M (some (vI x9)) M9 M 0 [(0, vR v0)] [] := by
    refine V.iconst (x := 0) dX11_issue_0 (by decide) rfl ?_
    refine V.istore_n dX11_issue_1 rfl (by decide) rfl rfl ?_
    refine V.iconst (x := 0) dX11_issue_2 (by decide) rfl ?_
    refine V.istore_n dX11_issue_3 rfl (by decide) rfl rfl ?_
    exact V.sub [2, 1, 0] rfl (lab_X11_issue_4 FU _ _ _ _ h)
  exact hh
def L_X11_state (v0 : Option Nat) (v1 : Int32) (v2 : Int32) (M : Mem) : Option (Int32 × Mem) :=
  (L_X11_isYear v1 M).bind fun w1 =>
  if ¬ w1.1 = 0 then
  (if v2 = 0 then
  ((fR w1.2 11 54 v0).bind fun x2 =>
  (aI w1.2 20 x2 (v1 - (1700 : Int32))).bind fun x3 =>
  some (x3, w1.2))
  else
  if v2 = 1 then
  ((fR w1.2 11 55 v0).bind fun x4 =>
  (aI w1.2 20 x4 (v1 - (1700 : Int32))).bind fun x5 =>
  some (x5, w1.2))
  else
  if v2 = 2 then
  ((fR w1.2 11 56 v0).bind fun x6 =>
  (aI w1.2 20 x6 (v1 - (1700 : Int32))).bind fun x7 =>
  some (x7, w1.2))
  else
  if v2 = 3 then
  ((fR w1.2 11 57 v0).bind fun x8 =>
  (aI w1.2 20 x8 (v1 - (1700 : Int32))).bind fun x9 =>
  some (x9, w1.2))
  else
  if v2 = 4 then
  ((fR w1.2 11 36 v0).bind fun x10 =>
  (aI w1.2 24 x10 (v1 - (1700 : Int32))).bind fun x11 =>
  if x11 = 0 then
  (some ((0 : Int32), w1.2))
  else
  ((fR w1.2 11 39 v0).bind fun x12 =>
  (aI w1.2 20 x12 (v1 - (1700 : Int32))).bind fun x13 =>
  some (x13, w1.2)))
  else
  if v2 = 5 then
  ((fR w1.2 11 36 v0).bind fun x14 =>
  (aI w1.2 24 x14 (v1 - (1700 : Int32))).bind fun x15 =>
  if x15 = 0 then
  (some ((0 : Int32), w1.2))
  else
  ((fR w1.2 11 42 v0).bind fun x16 =>
  (aI w1.2 20 x16 (v1 - (1700 : Int32))).bind fun x17 =>
  some (x17, w1.2)))
  else
  if v2 = 6 then
  ((fR w1.2 11 36 v0).bind fun x18 =>
  (aI w1.2 24 x18 (v1 - (1700 : Int32))).bind fun x19 =>
  if x19 = 0 then
  (some ((-1 : Int32), w1.2))
  else
  ((fR w1.2 11 37 v0).bind fun x20 =>
  (aI w1.2 20 x20 (v1 - (1700 : Int32))).bind fun x21 =>
  if x21 < 0 then
  (some ((-1 : Int32), w1.2))
  else
  ((fR w1.2 11 37 v0).bind fun x22 =>
  (aI w1.2 20 x22 (v1 - (1700 : Int32))).bind fun x23 =>
  some ((1700 : Int32) + x23, w1.2))))
  else
  if v2 = 7 then
  ((fR w1.2 11 53 v0).bind fun x24 =>
  (aI w1.2 24 x24 (v1 - (1700 : Int32))).bind fun x25 =>
  if x25 = 0 then
  (some ((0 : Int32), w1.2))
  else
  (some ((1 : Int32), w1.2)))
  else
  (some ((-1 : Int32), w1.2)))
  else
  (some ((-1 : Int32), w1.2))
set_option maxRecDepth 20000 in
set_option maxHeartbeats 4000000 in
theorem lift_X11_state {G : Gt} {M M9 : Mem} {x9 : Int32} {v0 : Option Nat} {v1 : Int32} {v2 : Int32} (h : L_X11_state v0 v1 v2 M = some (x9, M9)) : Mt G mX11_state 1 [vR v0, vI v1, vI v2] M (some (vI x9)) M9 := by
  unfold L_X11_state at h
  refine Mt.of (by decide +kernel) (Nat.le_of_ble_eq_true rfl) ?_
  have hh : V G mX11_state 1 M (some (vI x9)) M9 M 0 [(0, vR v0), (1, vI v1), (2, vI v2)] [] := by
    refine V.iload_n (n := 1) dX11_state_0 rfl rfl ?_
    refine V.callSi (d' := 0) (as := [vI v1]) (st := []) dX11_state_1 meX11_isYear mlX11_360 smX11_isYear rfl (by omega) (Nat.le_of_ble_eq_true rfl) rfl rfl h (fun v hv => lift_X11_isYear hv) (fun w1 h => ?_)
    refine V.if_ne (q := 9) dX11_state_4 (by decide) rfl h (fun h => ?_) (fun h => ?_)
    · refine V.iload_n (n := 1) dX11_state_9 rfl rfl ?_
      refine V.sipush (x := 1700) dX11_state_10 (by decide) rfl ?_
      refine V.isub dX11_state_13 rfl ?_
      refine V.istore_n dX11_state_14 rfl (by decide) rfl rfl ?_
      refine V.iload_n (n := 3) dX11_state_15 rfl rfl ?_
      refine V.sw h (fun hx h => ?_) (fun n0 h => ?_)
      · refine V.swt hx ?_
        refine V.tableIn (q := 64) (x := 0) (off := 48) dX11_state_16 (by decide) (by decide) (by decide) (by decide) ?_
        refine V.aload_n (n := 1) dX11_state_64 rfl rfl ?_
        refine V.getR dX11_state_65 lkX11_112 rfl rfl h (fun x2 h => ?_)
        refine V.iload_n (n := 0) dX11_state_68 rfl rfl ?_
        refine V.iald dX11_state_69 rfl h (fun x3 h => ?_)
        exact V.iret dX11_state_70 rfl h
      refine V.sw h (fun hx h => ?_) (fun n1 h => ?_)
      · refine V.swt hx ?_
        refine V.tableIn (q := 71) (x := 1) (off := 55) dX11_state_16 (by decide) (by decide) (by decide) (by decide) ?_
        refine V.aload_n (n := 1) dX11_state_71 rfl rfl ?_
        refine V.getR dX11_state_72 lkX11_115 rfl rfl h (fun x4 h => ?_)
        refine V.iload_n (n := 0) dX11_state_75 rfl rfl ?_
        refine V.iald dX11_state_76 rfl h (fun x5 h => ?_)
        exact V.iret dX11_state_77 rfl h
      refine V.sw h (fun hx h => ?_) (fun n2 h => ?_)
      · refine V.swt hx ?_
        refine V.tableIn (q := 78) (x := 2) (off := 62) dX11_state_16 (by decide) (by decide) (by decide) (by decide) ?_
        refine V.aload_n (n := 1) dX11_state_78 rfl rfl ?_
        refine V.getR dX11_state_79 lkX11_118 rfl rfl h (fun x6 h => ?_)
        refine V.iload_n (n := 0) dX11_state_82 rfl rfl ?_
        refine V.iald dX11_state_83 rfl h (fun x7 h => ?_)
        exact V.iret dX11_state_84 rfl h
      refine V.sw h (fun hx h => ?_) (fun n3 h => ?_)
      · refine V.swt hx ?_
        refine V.tableIn (q := 85) (x := 3) (off := 69) dX11_state_16 (by decide) (by decide) (by decide) (by decide) ?_
        refine V.aload_n (n := 1) dX11_state_85 rfl rfl ?_
        refine V.getR dX11_state_86 lkX11_121 rfl rfl h (fun x8 h => ?_)
        refine V.iload_n (n := 0) dX11_state_89 rfl rfl ?_
        refine V.iald dX11_state_90 rfl h (fun x9 h => ?_)
        exact V.iret dX11_state_91 rfl h
      refine V.sw h (fun hx h => ?_) (fun n4 h => ?_)
      · refine V.swt hx ?_
        refine V.tableIn (q := 92) (x := 4) (off := 76) dX11_state_16 (by decide) (by decide) (by decide) (by decide) ?_
        refine V.aload_n (n := 1) dX11_state_92 rfl rfl ?_
        refine V.getR dX11_state_93 lkX11_56 rfl rfl h (fun x10 h => ?_)
        refine V.iload_n (n := 0) dX11_state_96 rfl rfl ?_
        refine V.zald dX11_state_97 rfl h (fun x11 h => ?_)
        refine V.if_eq (q := 110) dX11_state_98 (by decide) rfl h (fun h => ?_) (fun h => ?_)
        · refine V.iconst (x := 0) dX11_state_110 (by decide) rfl ?_
          exact V.iret dX11_state_111 rfl h
        · refine V.aload_n (n := 1) dX11_state_101 rfl rfl ?_
          refine V.getR dX11_state_102 lkX11_66 rfl rfl h (fun x12 h => ?_)
          refine V.iload_n (n := 0) dX11_state_105 rfl rfl ?_
          refine V.iald dX11_state_106 rfl h (fun x13 h => ?_)
          refine V.goto (q := 111) dX11_state_107 (by decide) ?_
          exact V.iret dX11_state_111 rfl h
      refine V.sw h (fun hx h => ?_) (fun n5 h => ?_)
      · refine V.swt hx ?_
        refine V.tableIn (q := 112) (x := 5) (off := 96) dX11_state_16 (by decide) (by decide) (by decide) (by decide) ?_
        refine V.aload_n (n := 1) dX11_state_112 rfl rfl ?_
        refine V.getR dX11_state_113 lkX11_56 rfl rfl h (fun x14 h => ?_)
        refine V.iload_n (n := 0) dX11_state_116 rfl rfl ?_
        refine V.zald dX11_state_117 rfl h (fun x15 h => ?_)
        refine V.if_eq (q := 130) dX11_state_118 (by decide) rfl h (fun h => ?_) (fun h => ?_)
        · refine V.iconst (x := 0) dX11_state_130 (by decide) rfl ?_
          exact V.iret dX11_state_131 rfl h
        · refine V.aload_n (n := 1) dX11_state_121 rfl rfl ?_
          refine V.getR dX11_state_122 lkX11_75 rfl rfl h (fun x16 h => ?_)
          refine V.iload_n (n := 0) dX11_state_125 rfl rfl ?_
          refine V.iald dX11_state_126 rfl h (fun x17 h => ?_)
          refine V.goto (q := 131) dX11_state_127 (by decide) ?_
          exact V.iret dX11_state_131 rfl h
      refine V.sw h (fun hx h => ?_) (fun n6 h => ?_)
      · refine V.swt hx ?_
        refine V.tableIn (q := 132) (x := 6) (off := 116) dX11_state_16 (by decide) (by decide) (by decide) (by decide) ?_
        refine V.aload_n (n := 1) dX11_state_132 rfl rfl ?_
        refine V.getR dX11_state_133 lkX11_56 rfl rfl h (fun x18 h => ?_)
        refine V.iload_n (n := 0) dX11_state_136 rfl rfl ?_
        refine V.zald dX11_state_137 rfl h (fun x19 h => ?_)
        refine V.if_eq (q := 163) dX11_state_138 (by decide) rfl h (fun h => ?_) (fun h => ?_)
        · refine V.iconst (x := (-1)) dX11_state_163 (by decide) rfl ?_
          exact V.iret dX11_state_164 rfl h
        · refine V.aload_n (n := 1) dX11_state_141 rfl rfl ?_
          refine V.getR dX11_state_142 lkX11_60 rfl rfl h (fun x20 h => ?_)
          refine V.iload_n (n := 0) dX11_state_145 rfl rfl ?_
          refine V.iald dX11_state_146 rfl h (fun x21 h => ?_)
          refine V.if_lt (q := 163) dX11_state_147 (by decide) rfl h (fun h => ?_) (fun h => ?_)
          · refine V.iconst (x := (-1)) dX11_state_163 (by decide) rfl ?_
            exact V.iret dX11_state_164 rfl h
          · refine V.sipush (x := 1700) dX11_state_150 (by decide) rfl ?_
            refine V.aload_n (n := 1) dX11_state_153 rfl rfl ?_
            refine V.getR dX11_state_154 lkX11_60 rfl rfl h (fun x22 h => ?_)
            refine V.iload_n (n := 0) dX11_state_157 rfl rfl ?_
            refine V.iald dX11_state_158 rfl h (fun x23 h => ?_)
            refine V.iadd dX11_state_159 rfl ?_
            refine V.goto (q := 164) dX11_state_160 (by decide) ?_
            exact V.iret dX11_state_164 rfl h
      refine V.sw h (fun hx h => ?_) (fun n7 h => ?_)
      · refine V.swt hx ?_
        refine V.tableIn (q := 165) (x := 7) (off := 149) dX11_state_16 (by decide) (by decide) (by decide) (by decide) ?_
        refine V.aload_n (n := 1) dX11_state_165 rfl rfl ?_
        refine V.getR dX11_state_166 lkX11_109 rfl rfl h (fun x24 h => ?_)
        refine V.iload_n (n := 0) dX11_state_169 rfl rfl ?_
        refine V.zald dX11_state_170 rfl h (fun x25 h => ?_)
        refine V.if_eq (q := 178) dX11_state_171 (by decide) rfl h (fun h => ?_) (fun h => ?_)
        · refine V.iconst (x := 0) dX11_state_178 (by decide) rfl ?_
          exact V.iret dX11_state_179 rfl h
        · refine V.iconst (x := 1) dX11_state_174 (by decide) rfl ?_
          refine V.goto (q := 179) dX11_state_175 (by decide) ?_
          exact V.iret dX11_state_179 rfl h
      have e0 := sw_ne n0
      have e1 := sw_ne n1
      have e2 := sw_ne n2
      have e3 := sw_ne n3
      have e4 := sw_ne n4
      have e5 := sw_ne n5
      have e6 := sw_ne n6
      have e7 := sw_ne n7
      have t0 : (0 : Int32).toInt = 0 := by decide
      have t1 : (1 : Int32).toInt = 1 := by decide
      have t2 : (2 : Int32).toInt = 2 := by decide
      have t3 : (3 : Int32).toInt = 3 := by decide
      have t4 : (4 : Int32).toInt = 4 := by decide
      have t5 : (5 : Int32).toInt = 5 := by decide
      have t6 : (6 : Int32).toInt = 6 := by decide
      have t7 : (7 : Int32).toInt = 7 := by decide
      refine V.tableOut (q := 180) dX11_state_16 (by omega) (by decide) ?_
      refine V.iconst (x := (-1)) dX11_state_180 (by decide) rfl ?_
      exact V.iret dX11_state_181 rfl h
    · refine V.iconst (x := (-1)) dX11_state_7 (by decide) rfl ?_
      exact V.iret dX11_state_8 rfl h
  exact hh
def L_X11_leans (v0 : Option Nat) (v1 : Int32) (v2 : Int32) (M : Mem) : Option (Int32 × Mem) :=
  (L_X11_isYear v1 M).bind fun w1 =>
  if w1.1 = 0 then
  ((bz (0 : Int32)).bind fun _ => some ((0 : Int32), w1.2))
  else
  ((L_X11_isYear v2 w1.2).bind fun w2 =>
  if w2.1 = 0 then
  ((bz (0 : Int32)).bind fun _ => some ((0 : Int32), w2.2))
  else
  ((fR w2.2 11 36 v0).bind fun x3 =>
  (aI w2.2 24 x3 (v1 - (1700 : Int32))).bind fun x4 =>
  if x4 = 0 then
  ((bz (0 : Int32)).bind fun _ => some ((0 : Int32), w2.2))
  else
  ((fR w2.2 11 38 v0).bind fun x5 =>
  (aI w2.2 20 x5 (v1 - (1700 : Int32))).bind fun x6 =>
  if ¬ ((x6 >>> ((v2 - (1700 : Int32)) &&& 31)) &&& (1 : Int32)) = (1 : Int32) then
  ((bz (0 : Int32)).bind fun _ => some ((0 : Int32), w2.2))
  else
  ((bz (1 : Int32)).bind fun _ => some ((1 : Int32), w2.2)))))
set_option maxRecDepth 20000 in
set_option maxHeartbeats 4000000 in
theorem lift_X11_leans {G : Gt} {M M9 : Mem} {x9 : Int32} {v0 : Option Nat} {v1 : Int32} {v2 : Int32} (h : L_X11_leans v0 v1 v2 M = some (x9, M9)) : Mt G mX11_leans 1 [vR v0, vI v1, vI v2] M (some (vI x9)) M9 := by
  unfold L_X11_leans at h
  refine Mt.of (by decide +kernel) (Nat.le_of_ble_eq_true rfl) ?_
  have hh : V G mX11_leans 1 M (some (vI x9)) M9 M 0 [(0, vR v0), (1, vI v1), (2, vI v2)] [] := by
    refine V.iload_n (n := 1) dX11_leans_0 rfl rfl ?_
    refine V.callSi (d' := 0) (as := [vI v1]) (st := []) dX11_leans_1 meX11_isYear mlX11_360 smX11_isYear rfl (by omega) (Nat.le_of_ble_eq_true rfl) rfl rfl h (fun v hv => lift_X11_isYear hv) (fun w1 h => ?_)
    refine V.if_eq (q := 53) dX11_leans_4 (by decide) rfl h (fun h => ?_) (fun h => ?_)
    · refine V.iconst (x := 0) dX11_leans_53 (by decide) rfl ?_
      exact V.zret dX11_leans_54 rfl h
    · refine V.iload_n (n := 2) dX11_leans_7 rfl rfl ?_
      refine V.callSi (d' := 0) (as := [vI v2]) (st := []) dX11_leans_8 meX11_isYear mlX11_360 smX11_isYear rfl (by omega) (Nat.le_of_ble_eq_true rfl) rfl rfl h (fun v hv => lift_X11_isYear hv) (fun w2 h => ?_)
      refine V.if_eq (q := 53) dX11_leans_11 (by decide) rfl h (fun h => ?_) (fun h => ?_)
      · refine V.iconst (x := 0) dX11_leans_53 (by decide) rfl ?_
        exact V.zret dX11_leans_54 rfl h
      · refine V.aload_n (n := 0) dX11_leans_14 rfl rfl ?_
        refine V.getR dX11_leans_15 lkX11_56 rfl rfl h (fun x3 h => ?_)
        refine V.iload_n (n := 1) dX11_leans_18 rfl rfl ?_
        refine V.sipush (x := 1700) dX11_leans_19 (by decide) rfl ?_
        refine V.isub dX11_leans_22 rfl ?_
        refine V.zald dX11_leans_23 rfl h (fun x4 h => ?_)
        refine V.if_eq (q := 53) dX11_leans_24 (by decide) rfl h (fun h => ?_) (fun h => ?_)
        · refine V.iconst (x := 0) dX11_leans_53 (by decide) rfl ?_
          exact V.zret dX11_leans_54 rfl h
        · refine V.aload_n (n := 0) dX11_leans_27 rfl rfl ?_
          refine V.getR dX11_leans_28 lkX11_63 rfl rfl h (fun x5 h => ?_)
          refine V.iload_n (n := 1) dX11_leans_31 rfl rfl ?_
          refine V.sipush (x := 1700) dX11_leans_32 (by decide) rfl ?_
          refine V.isub dX11_leans_35 rfl ?_
          refine V.iald dX11_leans_36 rfl h (fun x6 h => ?_)
          refine V.iload_n (n := 2) dX11_leans_37 rfl rfl ?_
          refine V.sipush (x := 1700) dX11_leans_38 (by decide) rfl ?_
          refine V.isub dX11_leans_41 rfl ?_
          refine V.ishr dX11_leans_42 rfl ?_
          refine V.iconst (x := 1) dX11_leans_43 (by decide) rfl ?_
          refine V.iand dX11_leans_44 rfl ?_
          refine V.iconst (x := 1) dX11_leans_45 (by decide) rfl ?_
          refine V.icmp_ne (q := 53) dX11_leans_46 (by decide) rfl h (fun h => ?_) (fun h => ?_)
          · refine V.iconst (x := 0) dX11_leans_53 (by decide) rfl ?_
            exact V.zret dX11_leans_54 rfl h
          · refine V.iconst (x := 1) dX11_leans_49 (by decide) rfl ?_
            refine V.goto (q := 54) dX11_leans_50 (by decide) ?_
            exact V.zret dX11_leans_54 rfl h
  exact hh
def J_X11_constOf_41 (k_6 : Option Nat → Int64 → Int32 → Int32 → Mem → Option (Int32 × Mem)) : Nat → Option Nat → Int64 → Int32 → Int32 → Int32 → Int32 → Mem → Option (Int32 × Mem)
  | 0 => fun _ _ _ _ _ _ _ => none
  | n + 1 => fun v0 v2 v4 v5 v6 v7 M =>
  (fR M 11 39 v0).bind fun x1 =>
  (aI M 20 x1 v6).bind fun x2 =>
  if x2 ≤ v7 then
  ((fR M 11 37 v0).bind fun x3 =>
  (aI M 20 x3 v6).bind fun x4 =>
  k_6 v0 v2 x4 (v5 + 1) M)
  else
  ((fR M 11 40 v0).bind fun x5 =>
  (aL M 21 x5 (((8 : Int32) * v6) + v7)).bind fun x6 =>
  if ¬ x6 = v2 then
  (J_X11_constOf_41 k_6 n v0 v2 v4 v5 v6 (v7 + 1) M)
  else
  (some (((8 : Int32) * v4) + v7, M)))
set_option maxRecDepth 20000 in
set_option maxHeartbeats 4000000 in
theorem lab_X11_constOf_41 {G : Gt} {M0 M9 : Mem} {x9 : Int32} {k_6 : Option Nat → Int64 → Int32 → Int32 → Mem → Option (Int32 × Mem)} (hk_6 : ∀ (v0 : Option Nat) (v2 : Int64) (v4 : Int32) (v5 : Int32) (Ma : Mem), k_6 v0 v2 v4 v5 Ma = some (x9, M9) → V G mX11_constOf 0 M0 (some (vI x9)) M9 Ma 6 [(0, vR v0), (2, vL v2), (4, vI v4), (5, vI v5)] []) : ∀ (n : Nat) (v0 : Option Nat) (v2 : Int64) (v4 : Int32) (v5 : Int32) (v6 : Int32) (v7 : Int32) (M : Mem), J_X11_constOf_41 k_6 n v0 v2 v4 v5 v6 v7 M = some (x9, M9) → V G mX11_constOf 0 M0 (some (vI x9)) M9 M 41 [(0, vR v0), (2, vL v2), (4, vI v4), (5, vI v5), (6, vI v6), (7, vI v7)] [] := by
  intro n
  induction n with
  | zero => intro v0 v2 v4 v5 v6 v7 M h; exact nomatch h
  | succ n ih =>
    intro v0 v2 v4 v5 v6 v7 M h
    unfold J_X11_constOf_41 at h
    refine V.iload (n := 5) dX11_constOf_41 rfl rfl ?_
    refine V.aload_n (n := 0) dX11_constOf_43 rfl rfl ?_
    refine V.getR dX11_constOf_44 lkX11_66 rfl rfl h (fun x1 h => ?_)
    refine V.iload (n := 4) dX11_constOf_47 rfl rfl ?_
    refine V.iald dX11_constOf_49 rfl h (fun x2 h => ?_)
    refine V.icmp_ge (q := 86) dX11_constOf_50 (by decide) rfl h (fun h => ?_) (fun h => ?_)
    · refine V.aload_n (n := 0) dX11_constOf_86 rfl rfl ?_
      refine V.getR dX11_constOf_87 lkX11_60 rfl rfl h (fun x3 h => ?_)
      refine V.iload (n := 4) dX11_constOf_90 rfl rfl ?_
      refine V.iald dX11_constOf_92 rfl h (fun x4 h => ?_)
      refine V.istore dX11_constOf_93 (by decide) rfl rfl ?_
      refine V.iinc (n := 3) (x := v5 + 1) dX11_constOf_95 rfl (by rfl) (by decide) rfl rfl ?_
      refine V.goto (q := 6) dX11_constOf_98 (by decide) ?_
      exact V.sub [2, 3, 1, 0] rfl (hk_6 _ _ _ _ _ h)
    · refine V.aload_n (n := 0) dX11_constOf_53 rfl rfl ?_
      refine V.getR dX11_constOf_54 lkX11_69 rfl rfl h (fun x5 h => ?_)
      refine V.bipush (x := 8) dX11_constOf_57 (by decide) rfl ?_
      refine V.iload (n := 4) dX11_constOf_59 rfl rfl ?_
      refine V.imul dX11_constOf_61 rfl ?_
      refine V.iload (n := 5) dX11_constOf_62 rfl rfl ?_
      refine V.iadd dX11_constOf_64 rfl ?_
      refine V.lald dX11_constOf_65 rfl h (fun x6 h => ?_)
      refine V.lload_n (n := 1) dX11_constOf_66 rfl rfl ?_
      refine V.lif_ne (q := 80) dX11_constOf_67 rfl dX11_constOf_68 (by decide) rfl h (fun h => ?_) (fun h => ?_)
      · refine V.iinc (n := 5) (x := v7 + 1) dX11_constOf_80 rfl (by rfl) (by decide) rfl rfl ?_
        refine V.goto (q := 41) dX11_constOf_83 (by decide) ?_
        exact V.sub [1, 2, 3, 4, 5, 0] rfl (ih _ _ _ _ _ _ _ h)
      · refine V.bipush (x := 8) dX11_constOf_71 (by decide) rfl ?_
        refine V.iload (n := 2) dX11_constOf_73 rfl rfl ?_
        refine V.imul dX11_constOf_75 rfl ?_
        refine V.iload (n := 5) dX11_constOf_76 rfl rfl ?_
        refine V.iadd dX11_constOf_78 rfl ?_
        exact V.iret dX11_constOf_79 rfl h
def J_X11_constOf_6 : Nat → Option Nat → Int64 → Int32 → Int32 → Mem → Option (Int32 × Mem)
  | 0 => fun _ _ _ _ _ => none
  | n + 1 => fun v0 v2 v4 v5 M =>
  if (30 : Int32) < v5 then
  (some ((-1 : Int32), M))
  else
  (if v4 < 0 then
  (some ((-1 : Int32), M))
  else
  ((fR M 11 36 v0).bind fun x7 =>
  (aI M 24 x7 ((30 : Int32) + v4)).bind fun x8 =>
  if x8 = 0 then
  (some ((-1 : Int32), M))
  else
  (J_X11_constOf_41 (J_X11_constOf_6 n) FU v0 v2 v4 v5 ((30 : Int32) + v4) (0 : Int32) M)))
set_option maxRecDepth 20000 in
set_option maxHeartbeats 4000000 in
theorem lab_X11_constOf_6 {G : Gt} {M0 M9 : Mem} {x9 : Int32} : ∀ (n : Nat) (v0 : Option Nat) (v2 : Int64) (v4 : Int32) (v5 : Int32) (M : Mem), J_X11_constOf_6 n v0 v2 v4 v5 M = some (x9, M9) → V G mX11_constOf 0 M0 (some (vI x9)) M9 M 6 [(0, vR v0), (2, vL v2), (4, vI v4), (5, vI v5)] [] := by
  intro n
  induction n with
  | zero => intro v0 v2 v4 v5 M h; exact nomatch h
  | succ n ih =>
    intro v0 v2 v4 v5 M h
    unfold J_X11_constOf_6 at h
    refine V.iload (n := 3) dX11_constOf_6 rfl rfl ?_
    refine V.bipush (x := 30) dX11_constOf_8 (by decide) rfl ?_
    refine V.icmp_gt (q := 101) dX11_constOf_10 (by decide) rfl h (fun h => ?_) (fun h => ?_)
    · refine V.iconst (x := (-1)) dX11_constOf_101 (by decide) rfl ?_
      exact V.iret dX11_constOf_102 rfl h
    · refine V.iload (n := 2) dX11_constOf_13 rfl rfl ?_
      refine V.if_lt (q := 101) dX11_constOf_15 (by decide) rfl h (fun h => ?_) (fun h => ?_)
      · refine V.iconst (x := (-1)) dX11_constOf_101 (by decide) rfl ?_
        exact V.iret dX11_constOf_102 rfl h
      · refine V.aload_n (n := 0) dX11_constOf_18 rfl rfl ?_
        refine V.getR dX11_constOf_19 lkX11_56 rfl rfl h (fun x7 h => ?_)
        refine V.bipush (x := 30) dX11_constOf_22 (by decide) rfl ?_
        refine V.iload (n := 2) dX11_constOf_24 rfl rfl ?_
        refine V.iadd dX11_constOf_26 rfl ?_
        refine V.zald dX11_constOf_27 rfl h (fun x8 h => ?_)
        refine V.if_eq (q := 101) dX11_constOf_28 (by decide) rfl h (fun h => ?_) (fun h => ?_)
        · refine V.iconst (x := (-1)) dX11_constOf_101 (by decide) rfl ?_
          exact V.iret dX11_constOf_102 rfl h
        · refine V.bipush (x := 30) dX11_constOf_31 (by decide) rfl ?_
          refine V.iload (n := 2) dX11_constOf_33 rfl rfl ?_
          refine V.iadd dX11_constOf_35 rfl ?_
          refine V.istore dX11_constOf_36 (by decide) rfl rfl ?_
          refine V.iconst (x := 0) dX11_constOf_38 (by decide) rfl ?_
          refine V.istore dX11_constOf_39 (by decide) rfl rfl ?_
          exact V.sub [2, 3, 4, 5, 1, 0] rfl (lab_X11_constOf_41 ih FU _ _ _ _ _ _ _ h)
def L_X11_constOf (v0 : Option Nat) (v1 : Int32) (v2 : Int64) (M : Mem) : Option (Int32 × Mem) :=
  J_X11_constOf_6 FU v0 v2 v1 (0 : Int32) M
set_option maxRecDepth 20000 in
set_option maxHeartbeats 4000000 in
theorem lift_X11_constOf {G : Gt} {M M9 : Mem} {x9 : Int32} {v0 : Option Nat} {v1 : Int32} {v2 : Int64} (h : L_X11_constOf v0 v1 v2 M = some (x9, M9)) : Mt G mX11_constOf 0 [vR v0, vI v1, vL v2] M (some (vI x9)) M9 := by
  unfold L_X11_constOf at h
  refine Mt.of (by decide +kernel) (Nat.le_of_ble_eq_true rfl) ?_
  have hh : V G mX11_constOf 0 M (some (vI x9)) M9 M 0 [(0, vR v0), (1, vI v1), (2, vL v2)] [] := by
    refine V.iload_n (n := 1) dX11_constOf_0 rfl rfl ?_
    refine V.istore dX11_constOf_1 (by decide) rfl rfl ?_
    refine V.iconst (x := 0) dX11_constOf_3 (by decide) rfl ?_
    refine V.istore dX11_constOf_4 (by decide) rfl rfl ?_
    exact V.sub [2, 4, 1, 0] rfl (lab_X11_constOf_6 FU _ _ _ _ _ h)
  exact hh
def L_X11_isSmall (v0 : Int64) (M : Mem) : Option (Int32 × Mem) :=
  if (1000000000000000 : Int64) < v0 then
  ((bz (0 : Int32)).bind fun _ => some ((0 : Int32), M))
  else
  (if v0 < (-1000000000000000 : Int64) then
  ((bz (0 : Int32)).bind fun _ => some ((0 : Int32), M))
  else
  ((bz (1 : Int32)).bind fun _ => some ((1 : Int32), M)))
set_option maxRecDepth 20000 in
set_option maxHeartbeats 4000000 in
theorem lift_X11_isSmall {G : Gt} {M M9 : Mem} {x9 : Int32} {v0 : Int64} (h : L_X11_isSmall v0 M = some (x9, M9)) : Mt G mX11_isSmall 0 [vL v0] M (some (vI x9)) M9 := by
  unfold L_X11_isSmall at h
  refine Mt.of (by decide +kernel) (Nat.le_of_ble_eq_true rfl) ?_
  have hh : V G mX11_isSmall 0 M (some (vI x9)) M9 M 0 [(0, vL v0)] [] := by
    refine V.lload_n (n := 0) dX11_isSmall_0 rfl rfl ?_
    refine V.ldc2 (x := (1000000000000000)) dX11_isSmall_1 clX11_375 rfl ?_
    refine V.lif_gt (q := 20) dX11_isSmall_4 rfl dX11_isSmall_5 (by decide) rfl h (fun h => ?_) (fun h => ?_)
    · refine V.iconst (x := 0) dX11_isSmall_20 (by decide) rfl ?_
      exact V.zret dX11_isSmall_21 rfl h
    · refine V.lload_n (n := 0) dX11_isSmall_8 rfl rfl ?_
      refine V.ldc2 (x := (-1000000000000000)) dX11_isSmall_9 clX11_377 rfl ?_
      refine V.lif_lt (q := 20) dX11_isSmall_12 rfl dX11_isSmall_13 (by decide) rfl h (fun h => ?_) (fun h => ?_)
      · refine V.iconst (x := 0) dX11_isSmall_20 (by decide) rfl ?_
        exact V.zret dX11_isSmall_21 rfl h
      · refine V.iconst (x := 1) dX11_isSmall_16 (by decide) rfl ?_
        refine V.goto (q := 21) dX11_isSmall_17 (by decide) ?_
        exact V.zret dX11_isSmall_21 rfl h
  exact hh
