def J_X11_plainSum_29 (k_4 : Option Nat → Mem → Option (Unit × Mem)) (v0 : Option Nat) (M : Mem) : Option (Unit × Mem) :=
  (fR M 11 0 v0).bind fun x1 =>
  (fI M 11 7 v0).bind fun x2 =>
  (aI M 23 x1 x2).bind fun x3 =>
  (ck M 11 v0).bind fun _ => (L_X11_advance v0 M).bind fun w4 =>
  (ck w4.2 11 v0).bind fun _ => (L_X11_plainProduct v0 w4.2).bind fun w5 =>
  (ck w5.2 11 v0).bind fun _ => (L_X11_emit v0 x3 (0 : Int64) (-1 : Int32) w5.2).bind fun w6 =>
  k_4 v0 w6.2
set_option maxRecDepth 20000 in
set_option maxHeartbeats 4000000 in
theorem lab_X11_plainSum_29 {G : Gt} {M0 M9 : Mem} {x9 : Unit} {k_4 : Option Nat → Mem → Option (Unit × Mem)} (hk_4 : ∀ (v0 : Option Nat) (Ma : Mem), k_4 v0 Ma = some (x9, M9) → V G mX11_plainSum 5 M0 none M9 Ma 4 [(0, vR v0)] []) {v0 : Option Nat} {M : Mem} (h : J_X11_plainSum_29 k_4 v0 M = some (x9, M9)) : V G mX11_plainSum 5 M0 none M9 M 29 [(0, vR v0)] [] := by
  unfold J_X11_plainSum_29 at h
  refine V.aload_n (n := 0) dX11_plainSum_29 rfl rfl ?_
  refine V.getR dX11_plainSum_30 lkX11_7 rfl rfl h (fun x1 h => ?_)
  refine V.aload_n (n := 0) dX11_plainSum_33 rfl rfl ?_
  refine V.getI dX11_plainSum_34 lkX11_189 rfl rfl h (fun x2 h => ?_)
  refine V.bald dX11_plainSum_37 rfl h (fun x3 h => ?_)
  refine V.istore_n dX11_plainSum_38 rfl (by decide) rfl rfl ?_
  refine V.aload_n (n := 1) dX11_plainSum_39 rfl rfl ?_
  refine V.callVv (d' := 1) (as := []) (st := []) dX11_plainSum_40 meX11_advance mlX11_225 imX11_advance seX11_advance clsX11 rfl (by omega) (Nat.le_of_ble_eq_true rfl) rfl rfl h (fun v hv => lift_X11_advance hv) (fun w4 h => ?_)
  refine V.aload_n (n := 1) dX11_plainSum_43 rfl rfl ?_
  refine V.callVv (d' := 4) (as := []) (st := []) dX11_plainSum_44 meX11_plainProduct mlX11_262 imX11_plainProduct seX11_plainProduct clsX11 rfl (by omega) (Nat.le_of_ble_eq_true rfl) rfl rfl h (fun v hv => lift_X11_plainProduct hv) (fun w5 h => ?_)
  refine V.aload_n (n := 1) dX11_plainSum_47 rfl rfl ?_
  refine V.iload_n (n := 0) dX11_plainSum_48 rfl rfl ?_
  refine V.lconst (x := 0) dX11_plainSum_49 (by decide) rfl ?_
  refine V.iconst (x := (-1)) dX11_plainSum_50 (by decide) rfl ?_
  refine V.callVv (d' := 0) (as := [vI x3, vL (0 : Int64), vI (-1 : Int32)]) (st := []) dX11_plainSum_51 meX11_emit mlX11_247 imX11_emit seX11_emit clsX11 rfl (by omega) (Nat.le_of_ble_eq_true rfl) rfl rfl h (fun v hv => lift_X11_emit hv) (fun w6 h => ?_)
  refine V.goto (q := 4) dX11_plainSum_54 (by decide) ?_
  exact V.sub [1] rfl (hk_4 _ _ h)
def J_X11_plainSum_57 (v0 : Option Nat) (M : Mem) : Option (Unit × Mem) :=
  (ck M 11 v0).bind fun _ => (L_X11_emit v0 (11 : Int32) (0 : Int64) (-1 : Int32) M).bind fun w7 =>
  some ((), w7.2)
set_option maxRecDepth 20000 in
set_option maxHeartbeats 4000000 in
theorem lab_X11_plainSum_57 {G : Gt} {M0 M9 : Mem} {x9 : Unit} {v0 : Option Nat} {M : Mem} (h : J_X11_plainSum_57 v0 M = some (x9, M9)) : V G mX11_plainSum 5 M0 none M9 M 57 [(0, vR v0)] [] := by
  unfold J_X11_plainSum_57 at h
  refine V.aload_n (n := 0) dX11_plainSum_57 rfl rfl ?_
  refine V.bipush (x := 11) dX11_plainSum_58 (by decide) rfl ?_
  refine V.lconst (x := 0) dX11_plainSum_60 (by decide) rfl ?_
  refine V.iconst (x := (-1)) dX11_plainSum_61 (by decide) rfl ?_
  refine V.callVv (d' := 0) (as := [vI (11 : Int32), vL (0 : Int64), vI (-1 : Int32)]) (st := []) dX11_plainSum_62 meX11_emit mlX11_247 imX11_emit seX11_emit clsX11 rfl (by omega) (Nat.le_of_ble_eq_true rfl) rfl rfl h (fun v hv => lift_X11_emit hv) (fun w7 h => ?_)
  exact V.vret dX11_plainSum_65 rfl h
def J_X11_plainSum_4 : Nat → Option Nat → Mem → Option (Unit × Mem)
  | 0 => fun _ _ => none
  | n + 1 => fun v0 M =>
  (fI M 11 11 v0).bind fun x8 =>
  if ¬ x8 = 0 then
  (J_X11_plainSum_57 v0 M)
  else
  ((ck M 11 v0).bind fun _ => (L_X11_isSign v0 (43 : Int32) M).bind fun w9 =>
  if ¬ w9.1 = 0 then
  (J_X11_plainSum_29 (J_X11_plainSum_4 n) v0 w9.2)
  else
  ((ck w9.2 11 v0).bind fun _ => (L_X11_isSign v0 (45 : Int32) w9.2).bind fun w10 =>
  if w10.1 = 0 then
  (J_X11_plainSum_57 v0 w10.2)
  else
  (J_X11_plainSum_29 (J_X11_plainSum_4 n) v0 w10.2)))
set_option maxRecDepth 20000 in
set_option maxHeartbeats 4000000 in
theorem lab_X11_plainSum_4 {G : Gt} {M0 M9 : Mem} {x9 : Unit} : ∀ (n : Nat) (v0 : Option Nat) (M : Mem), J_X11_plainSum_4 n v0 M = some (x9, M9) → V G mX11_plainSum 5 M0 none M9 M 4 [(0, vR v0)] [] := by
  intro n
  induction n with
  | zero => intro v0 M h; exact nomatch h
  | succ n ih =>
    intro v0 M h
    unfold J_X11_plainSum_4 at h
    refine V.aload_n (n := 0) dX11_plainSum_4 rfl rfl ?_
    refine V.getI dX11_plainSum_5 lkX11_215 rfl rfl h (fun x8 h => ?_)
    refine V.if_ne (q := 57) dX11_plainSum_8 (by decide) rfl h (fun h => ?_) (fun h => ?_)
    · exact (lab_X11_plainSum_57 h)
    · refine V.aload_n (n := 0) dX11_plainSum_11 rfl rfl ?_
      refine V.bipush (x := 43) dX11_plainSum_12 (by decide) rfl ?_
      refine V.callVi (d' := 0) (as := [vI (43 : Int32)]) (st := []) dX11_plainSum_14 meX11_isSign mlX11_222 imX11_isSign seX11_isSign clsX11 rfl (by omega) (Nat.le_of_ble_eq_true rfl) rfl rfl h (fun v hv => lift_X11_isSign hv) (fun w9 h => ?_)
      refine V.if_ne (q := 29) dX11_plainSum_17 (by decide) rfl h (fun h => ?_) (fun h => ?_)
      · exact (lab_X11_plainSum_29 ih h)
      · refine V.aload_n (n := 0) dX11_plainSum_20 rfl rfl ?_
        refine V.bipush (x := 45) dX11_plainSum_21 (by decide) rfl ?_
        refine V.callVi (d' := 0) (as := [vI (45 : Int32)]) (st := []) dX11_plainSum_23 meX11_isSign mlX11_222 imX11_isSign seX11_isSign clsX11 rfl (by omega) (Nat.le_of_ble_eq_true rfl) rfl rfl h (fun v hv => lift_X11_isSign hv) (fun w10 h => ?_)
        refine V.if_eq (q := 57) dX11_plainSum_26 (by decide) rfl h (fun h => ?_) (fun h => ?_)
        · exact (lab_X11_plainSum_57 h)
        · exact (lab_X11_plainSum_29 ih h)
def L_X11_plainSum (v0 : Option Nat) (M : Mem) : Option (Unit × Mem) :=
  (ck M 11 v0).bind fun _ => (L_X11_plainProduct v0 M).bind fun w11 =>
  J_X11_plainSum_4 FU v0 w11.2
set_option maxRecDepth 20000 in
set_option maxHeartbeats 4000000 in
theorem lift_X11_plainSum {G : Gt} {M M9 : Mem} {x9 : Unit} {v0 : Option Nat} (h : L_X11_plainSum v0 M = some (x9, M9)) : Mt G mX11_plainSum 5 [vR v0] M none M9 := by
  unfold L_X11_plainSum at h
  refine Mt.of (by decide +kernel) (Nat.le_of_ble_eq_true rfl) ?_
  have hh : V G mX11_plainSum 5 M none M9 M 0 [(0, vR v0)] [] := by
    refine V.aload_n (n := 0) dX11_plainSum_0 rfl rfl ?_
    refine V.callVv (d' := 4) (as := []) (st := []) dX11_plainSum_1 meX11_plainProduct mlX11_262 imX11_plainProduct seX11_plainProduct clsX11 rfl (by omega) (Nat.le_of_ble_eq_true rfl) rfl rfl h (fun v hv => lift_X11_plainProduct hv) (fun w11 h => ?_)
    exact (lab_X11_plainSum_4 FU _ _ h)
  exact hh
def L_X11_called (rF : Option Nat → Mem → Option (Unit × Mem)) (v0 : Option Nat) (v1 : Int64) (v3 : Int32) (M : Mem) : Option (Unit × Mem) :=
  (ck M 11 v0).bind fun _ => (L_X11_takes v0 (91 : Int32) M).bind fun w1 =>
  if w1.1 = 0 then
  ((ck w1.2 11 v0).bind fun _ => (L_X11_emit v0 (6 : Int32) v1 v3 w1.2).bind fun w2 =>
  some ((), w2.2))
  else
  ((ck w1.2 11 v0).bind fun _ => (rF v0 w1.2).bind fun w3 =>
  (ck w3.2 11 v0).bind fun _ => (L_X11_must v0 (93 : Int32) w3.2).bind fun w4 =>
  (ck w4.2 11 v0).bind fun _ => (L_X11_emit v0 (7 : Int32) v1 v3 w4.2).bind fun w5 =>
  some ((), w5.2))
set_option maxRecDepth 20000 in
set_option maxHeartbeats 4000000 in
theorem lift_X11_called {G : Gt} {M M9 : Mem} {x9 : Unit} {v0 : Option Nat} {v1 : Int64} {v3 : Int32} {dr : Nat} {rF : Option Nat → Mem → Option (Unit × Mem)} (hrF : ∀ (a0 : Option Nat) (Ma : Mem) (v : Unit × Mem), rF a0 Ma = some v → Mt G mX11_formula dr [vR a0] Ma none v.2) (h : L_X11_called rF v0 v1 v3 M = some (x9, M9)) : Mt G mX11_called (dr + 3) [vR v0, vL v1, vI v3] M none M9 := by
  unfold L_X11_called at h
  refine Mt.of (by decide +kernel) (Nat.le_of_ble_eq_true rfl) ?_
  have hh : V G mX11_called (dr + 3) M none M9 M 0 [(0, vR v0), (1, vL v1), (3, vI v3)] [] := by
    refine V.aload_n (n := 0) dX11_called_0 rfl rfl ?_
    refine V.bipush (x := 91) dX11_called_1 (by decide) rfl ?_
    refine V.callVi (d' := 2) (as := [vI (91 : Int32)]) (st := []) dX11_called_3 meX11_takes mlX11_244 imX11_takes seX11_takes clsX11 rfl (by omega) (Nat.le_of_ble_eq_true rfl) rfl rfl h (fun v hv => lift_X11_takes hv) (fun w1 h => ?_)
    refine V.if_eq (q := 30) dX11_called_6 (by decide) rfl h (fun h => ?_) (fun h => ?_)
    · refine V.aload_n (n := 0) dX11_called_30 rfl rfl ?_
      refine V.bipush (x := 6) dX11_called_31 (by decide) rfl ?_
      refine V.lload_n (n := 1) dX11_called_33 rfl rfl ?_
      refine V.iload_n (n := 2) dX11_called_34 rfl rfl ?_
      refine V.callVv (d' := 0) (as := [vI (6 : Int32), vL v1, vI v3]) (st := []) dX11_called_35 meX11_emit mlX11_247 imX11_emit seX11_emit clsX11 rfl (by omega) (Nat.le_of_ble_eq_true rfl) rfl rfl h (fun v hv => lift_X11_emit hv) (fun w2 h => ?_)
      exact V.vret dX11_called_38 rfl h
    · refine V.aload_n (n := 0) dX11_called_9 rfl rfl ?_
      refine V.callVv (d' := dr) (as := []) (st := []) dX11_called_10 meX11_formula mlX11_271 imX11_formula seX11_formula clsX11 rfl (by omega) (Nat.le_of_ble_eq_true rfl) rfl rfl h (fun v hv => hrF _ _ v hv) (fun w3 h => ?_)
      refine V.aload_n (n := 0) dX11_called_13 rfl rfl ?_
      refine V.bipush (x := 93) dX11_called_14 (by decide) rfl ?_
      refine V.callVv (d' := 2) (as := [vI (93 : Int32)]) (st := []) dX11_called_16 meX11_must mlX11_274 imX11_must seX11_must clsX11 rfl (by omega) (Nat.le_of_ble_eq_true rfl) rfl rfl h (fun v hv => lift_X11_must hv) (fun w4 h => ?_)
      refine V.aload_n (n := 0) dX11_called_19 rfl rfl ?_
      refine V.bipush (x := 7) dX11_called_20 (by decide) rfl ?_
      refine V.lload_n (n := 1) dX11_called_22 rfl rfl ?_
      refine V.iload_n (n := 2) dX11_called_23 rfl rfl ?_
      refine V.callVv (d' := 0) (as := [vI (7 : Int32), vL v1, vI v3]) (st := []) dX11_called_24 meX11_emit mlX11_247 imX11_emit seX11_emit clsX11 rfl (by omega) (Nat.le_of_ble_eq_true rfl) rfl rfl h (fun v hv => lift_X11_emit hv) (fun w5 h => ?_)
      refine V.goto (q := 38) dX11_called_27 (by decide) ?_
      exact V.vret dX11_called_38 rfl h
  exact hh
def J_X11_atom_143 (rF : Option Nat → Mem → Option (Unit × Mem)) (v0 : Option Nat) (M : Mem) : Option (Unit × Mem) :=
  (fI M 11 10 v0).bind fun x1 =>
  (ck M 11 v0).bind fun _ => (L_X11_emit v0 (((1 : Int32) + x1) - (8 : Int32)) (0 : Int64) (-1 : Int32) M).bind fun w2 =>
  (ck w2.2 11 v0).bind fun _ => (L_X11_advance v0 w2.2).bind fun w3 =>
  some ((), w3.2)
set_option maxRecDepth 20000 in
set_option maxHeartbeats 4000000 in
theorem lab_X11_atom_143 {G : Gt} {M0 M9 : Mem} {x9 : Unit} {dr : Nat} {rF : Option Nat → Mem → Option (Unit × Mem)} (hrF : ∀ (a0 : Option Nat) (Ma : Mem) (v : Unit × Mem), rF a0 Ma = some v → Mt G mX11_formula dr [vR a0] Ma none v.2) {v0 : Option Nat} {M : Mem} (h : J_X11_atom_143 rF v0 M = some (x9, M9)) : V G mX11_atom (dr + 4) M0 none M9 M 143 [(0, vR v0)] [] := by
  unfold J_X11_atom_143 at h
  refine V.aload_n (n := 0) dX11_atom_143 rfl rfl ?_
  refine V.iconst (x := 1) dX11_atom_144 (by decide) rfl ?_
  refine V.aload_n (n := 0) dX11_atom_145 rfl rfl ?_
  refine V.getI dX11_atom_146 lkX11_192 rfl rfl h (fun x1 h => ?_)
  refine V.iadd dX11_atom_149 rfl ?_
  refine V.bipush (x := 8) dX11_atom_150 (by decide) rfl ?_
  refine V.isub dX11_atom_152 rfl ?_
  refine V.lconst (x := 0) dX11_atom_153 (by decide) rfl ?_
  refine V.iconst (x := (-1)) dX11_atom_154 (by decide) rfl ?_
  refine V.callVv (d' := 0) (as := [vI (((1 : Int32) + x1) - (8 : Int32)), vL (0 : Int64), vI (-1 : Int32)]) (st := []) dX11_atom_155 meX11_emit mlX11_247 imX11_emit seX11_emit clsX11 rfl (by omega) (Nat.le_of_ble_eq_true rfl) rfl rfl h (fun v hv => lift_X11_emit hv) (fun w2 h => ?_)
  refine V.aload_n (n := 0) dX11_atom_158 rfl rfl ?_
  refine V.callVv (d' := 1) (as := []) (st := []) dX11_atom_159 meX11_advance mlX11_225 imX11_advance seX11_advance clsX11 rfl (by omega) (Nat.le_of_ble_eq_true rfl) rfl rfl h (fun v hv => lift_X11_advance hv) (fun w3 h => ?_)
  refine V.goto (q := 191) dX11_atom_162 (by decide) ?_
  exact V.vret dX11_atom_191 rfl h
def J_X11_atom_136 (rF : Option Nat → Mem → Option (Unit × Mem)) (v0 : Option Nat) (v1 : Int32) (M : Mem) : Option (Unit × Mem) :=
  (ck M 11 v0).bind fun _ => (L_X11_tells v0 (6 : Int32) v1 M).bind fun w4 =>
  J_X11_atom_143 rF v0 w4.2
set_option maxRecDepth 20000 in
set_option maxHeartbeats 4000000 in
theorem lab_X11_atom_136 {G : Gt} {M0 M9 : Mem} {x9 : Unit} {dr : Nat} {rF : Option Nat → Mem → Option (Unit × Mem)} (hrF : ∀ (a0 : Option Nat) (Ma : Mem) (v : Unit × Mem), rF a0 Ma = some v → Mt G mX11_formula dr [vR a0] Ma none v.2) {v0 : Option Nat} {v1 : Int32} {M : Mem} (h : J_X11_atom_136 rF v0 v1 M = some (x9, M9)) : V G mX11_atom (dr + 4) M0 none M9 M 136 [(0, vR v0), (1, vI v1)] [] := by
  unfold J_X11_atom_136 at h
  refine V.aload_n (n := 0) dX11_atom_136 rfl rfl ?_
  refine V.bipush (x := 6) dX11_atom_137 (by decide) rfl ?_
  refine V.iload_n (n := 1) dX11_atom_139 rfl rfl ?_
  refine V.callVv (d' := 0) (as := [vI (6 : Int32), vI v1]) (st := []) dX11_atom_140 meX11_tells mlX11_237 imX11_tells seX11_tells clsX11 rfl (by omega) (Nat.le_of_ble_eq_true rfl) rfl rfl h (fun v hv => lift_X11_tells hv) (fun w4 h => ?_)
  exact V.sub [0] rfl (lab_X11_atom_143 hrF h)
def J_X11_atom_165 (rF : Option Nat → Mem → Option (Unit × Mem)) (v0 : Option Nat) (M : Mem) : Option (Unit × Mem) :=
  (ck M 11 v0).bind fun _ => (L_X11_takes v0 (40 : Int32) M).bind fun w5 =>
  if w5.1 = 0 then
  ((ck w5.2 11 v0).bind fun _ => (L_X11_stops v0 w5.2).bind fun w6 =>
  some ((), w6.2))
  else
  ((ck w5.2 11 v0).bind fun _ => (rF v0 w5.2).bind fun w7 =>
  (ck w7.2 11 v0).bind fun _ => (L_X11_must v0 (41 : Int32) w7.2).bind fun w8 =>
  some ((), w8.2))
set_option maxRecDepth 20000 in
set_option maxHeartbeats 4000000 in
theorem lab_X11_atom_165 {G : Gt} {M0 M9 : Mem} {x9 : Unit} {dr : Nat} {rF : Option Nat → Mem → Option (Unit × Mem)} (hrF : ∀ (a0 : Option Nat) (Ma : Mem) (v : Unit × Mem), rF a0 Ma = some v → Mt G mX11_formula dr [vR a0] Ma none v.2) {v0 : Option Nat} {M : Mem} (h : J_X11_atom_165 rF v0 M = some (x9, M9)) : V G mX11_atom (dr + 4) M0 none M9 M 165 [(0, vR v0)] [] := by
  unfold J_X11_atom_165 at h
  refine V.aload_n (n := 0) dX11_atom_165 rfl rfl ?_
  refine V.bipush (x := 40) dX11_atom_166 (by decide) rfl ?_
  refine V.callVi (d' := 2) (as := [vI (40 : Int32)]) (st := []) dX11_atom_168 meX11_takes mlX11_244 imX11_takes seX11_takes clsX11 rfl (by omega) (Nat.le_of_ble_eq_true rfl) rfl rfl h (fun v hv => lift_X11_takes hv) (fun w5 h => ?_)
  refine V.if_eq (q := 187) dX11_atom_171 (by decide) rfl h (fun h => ?_) (fun h => ?_)
  · refine V.aload_n (n := 0) dX11_atom_187 rfl rfl ?_
    refine V.callVv (d' := 0) (as := []) (st := []) dX11_atom_188 meX11_stops mlX11_228 imX11_stops seX11_stops clsX11 rfl (by omega) (Nat.le_of_ble_eq_true rfl) rfl rfl h (fun v hv => lift_X11_stops hv) (fun w6 h => ?_)
    exact V.vret dX11_atom_191 rfl h
  · refine V.aload_n (n := 0) dX11_atom_174 rfl rfl ?_
    refine V.callVv (d' := dr) (as := []) (st := []) dX11_atom_175 meX11_formula mlX11_271 imX11_formula seX11_formula clsX11 rfl (by omega) (Nat.le_of_ble_eq_true rfl) rfl rfl h (fun v hv => hrF _ _ v hv) (fun w7 h => ?_)
    refine V.aload_n (n := 0) dX11_atom_178 rfl rfl ?_
    refine V.bipush (x := 41) dX11_atom_179 (by decide) rfl ?_
    refine V.callVv (d' := 2) (as := [vI (41 : Int32)]) (st := []) dX11_atom_181 meX11_must mlX11_274 imX11_must seX11_must clsX11 rfl (by omega) (Nat.le_of_ble_eq_true rfl) rfl rfl h (fun v hv => lift_X11_must hv) (fun w8 h => ?_)
    refine V.goto (q := 191) dX11_atom_184 (by decide) ?_
    exact V.vret dX11_atom_191 rfl h
def L_X11_atom (rF : Option Nat → Mem → Option (Unit × Mem)) (v0 : Option Nat) (M : Mem) : Option (Unit × Mem) :=
  (fI M 11 11 v0).bind fun x9 =>
  if x9 = 0 then
  ((fI M 11 7 v0).bind fun x10 =>
  (fI M 11 6 v0).bind fun x11 =>
  if ¬ x11 = 0 then
  ((fI M 11 6 v0).bind fun x12 =>
  if ¬ x12 = (1 : Int32) then
  ((fI M 11 6 v0).bind fun x13 =>
  if ¬ x13 = (2 : Int32) then
  (J_X11_atom_165 rF v0 M)
  else
  ((fI M 11 10 v0).bind fun x14 =>
  if x14 < (8 : Int32) then
  (J_X11_atom_165 rF v0 M)
  else
  ((fI M 11 10 v0).bind fun x15 =>
  if (12 : Int32) < x15 then
  (J_X11_atom_165 rF v0 M)
  else
  ((fI M 11 10 v0).bind fun x16 =>
  if ¬ x16 = (8 : Int32) then
  ((fI M 11 34 v0).bind fun x17 =>
  if ¬ x17 = 0 then
  (J_X11_atom_143 rF v0 M)
  else
  (J_X11_atom_136 rF v0 x10 M))
  else
  ((fI M 11 33 v0).bind fun x18 =>
  if ¬ x18 = 0 then
  (J_X11_atom_143 rF v0 M)
  else
  (J_X11_atom_136 rF v0 x10 M))))))
  else
  ((ck M 11 v0).bind fun _ => (L_X11_takesNumber v0 M).bind fun w19 =>
  (ck w19.2 11 v0).bind fun _ => (L_X11_takes v0 (46 : Int32) w19.2).bind fun w20 =>
  if w20.1 = 0 then
  ((ck w20.2 11 v0).bind fun _ => (L_X11_emit v0 (0 : Int32) w19.1.toInt64 (-1 : Int32) w20.2).bind fun w21 =>
  some ((), w21.2))
  else
  ((ck w20.2 11 v0).bind fun _ => (L_X11_yearOf v0 w19.1 x10 w20.2).bind fun w22 =>
  (ck w22.2 11 v0).bind fun _ => (L_X11_takesName v0 w22.2).bind fun w23 =>
  (ck w23.2 11 v0).bind fun _ => (L_X11_called rF v0 w23.1 w22.1 w23.2).bind fun w24 =>
  some ((), w24.2))))
  else
  ((ck M 11 v0).bind fun _ => (L_X11_takesName v0 M).bind fun w25 =>
  (ck w25.2 11 v0).bind fun _ => (L_X11_called rF v0 w25.1 (-1 : Int32) w25.2).bind fun w26 =>
  some ((), w26.2)))
  else
  (some ((), M))
set_option maxRecDepth 20000 in
set_option maxHeartbeats 4000000 in
theorem lift_X11_atom {G : Gt} {M M9 : Mem} {x9 : Unit} {v0 : Option Nat} {dr : Nat} {rF : Option Nat → Mem → Option (Unit × Mem)} (hrF : ∀ (a0 : Option Nat) (Ma : Mem) (v : Unit × Mem), rF a0 Ma = some v → Mt G mX11_formula dr [vR a0] Ma none v.2) (h : L_X11_atom rF v0 M = some (x9, M9)) : Mt G mX11_atom (dr + 4) [vR v0] M none M9 := by
  unfold L_X11_atom at h
  refine Mt.of (by decide +kernel) (Nat.le_of_ble_eq_true rfl) ?_
  have hh : V G mX11_atom (dr + 4) M none M9 M 0 [(0, vR v0)] [] := by
    refine V.aload_n (n := 0) dX11_atom_0 rfl rfl ?_
    refine V.getI dX11_atom_1 lkX11_215 rfl rfl h (fun x9 h => ?_)
    refine V.if_eq (q := 8) dX11_atom_4 (by decide) rfl h (fun h => ?_) (fun h => ?_)
    · refine V.aload_n (n := 0) dX11_atom_8 rfl rfl ?_
      refine V.getI dX11_atom_9 lkX11_189 rfl rfl h (fun x10 h => ?_)
      refine V.istore_n dX11_atom_12 rfl (by decide) rfl rfl ?_
      refine V.aload_n (n := 1) dX11_atom_13 rfl rfl ?_
      refine V.getI dX11_atom_14 lkX11_195 rfl rfl h (fun x11 h => ?_)
      refine V.if_ne (q := 32) dX11_atom_17 (by decide) rfl h (fun h => ?_) (fun h => ?_)
      · refine V.aload_n (n := 1) dX11_atom_32 rfl rfl ?_
        refine V.getI dX11_atom_33 lkX11_195 rfl rfl h (fun x12 h => ?_)
        refine V.iconst (x := 1) dX11_atom_36 (by decide) rfl ?_
        refine V.icmp_ne (q := 84) dX11_atom_37 (by decide) rfl h (fun h => ?_) (fun h => ?_)
        · refine V.aload_n (n := 1) dX11_atom_84 rfl rfl ?_
          refine V.getI dX11_atom_85 lkX11_195 rfl rfl h (fun x13 h => ?_)
          refine V.iconst (x := 2) dX11_atom_88 (by decide) rfl ?_
          refine V.icmp_ne (q := 165) dX11_atom_89 (by decide) rfl h (fun h => ?_) (fun h => ?_)
          · exact V.sub [1] rfl (lab_X11_atom_165 hrF h)
          · refine V.aload_n (n := 1) dX11_atom_92 rfl rfl ?_
            refine V.getI dX11_atom_93 lkX11_192 rfl rfl h (fun x14 h => ?_)
            refine V.bipush (x := 8) dX11_atom_96 (by decide) rfl ?_
            refine V.icmp_lt (q := 165) dX11_atom_98 (by decide) rfl h (fun h => ?_) (fun h => ?_)
            · exact V.sub [1] rfl (lab_X11_atom_165 hrF h)
            · refine V.aload_n (n := 1) dX11_atom_101 rfl rfl ?_
              refine V.getI dX11_atom_102 lkX11_192 rfl rfl h (fun x15 h => ?_)
              refine V.bipush (x := 12) dX11_atom_105 (by decide) rfl ?_
              refine V.icmp_gt (q := 165) dX11_atom_107 (by decide) rfl h (fun h => ?_) (fun h => ?_)
              · exact V.sub [1] rfl (lab_X11_atom_165 hrF h)
              · refine V.aload_n (n := 1) dX11_atom_110 rfl rfl ?_
                refine V.getI dX11_atom_111 lkX11_192 rfl rfl h (fun x16 h => ?_)
                refine V.bipush (x := 8) dX11_atom_114 (by decide) rfl ?_
                refine V.icmp_ne (q := 129) dX11_atom_116 (by decide) rfl h (fun h => ?_) (fun h => ?_)
                · refine V.aload_n (n := 1) dX11_atom_129 rfl rfl ?_
                  refine V.getI dX11_atom_130 lkX11_301 rfl rfl h (fun x17 h => ?_)
                  refine V.if_ne (q := 143) dX11_atom_133 (by decide) rfl h (fun h => ?_) (fun h => ?_)
                  · exact V.sub [1] rfl (lab_X11_atom_143 hrF h)
                  · exact V.sub [1, 0] rfl (lab_X11_atom_136 hrF h)
                · refine V.aload_n (n := 1) dX11_atom_119 rfl rfl ?_
                  refine V.getI dX11_atom_120 lkX11_298 rfl rfl h (fun x18 h => ?_)
                  refine V.if_ne (q := 143) dX11_atom_123 (by decide) rfl h (fun h => ?_) (fun h => ?_)
                  · exact V.sub [1] rfl (lab_X11_atom_143 hrF h)
                  · refine V.goto (q := 136) dX11_atom_126 (by decide) ?_
                    exact V.sub [1, 0] rfl (lab_X11_atom_136 hrF h)
        · refine V.aload_n (n := 1) dX11_atom_40 rfl rfl ?_
          refine V.callVi (d' := 2) (as := []) (st := []) dX11_atom_41 meX11_takesNumber mlX11_294 imX11_takesNumber seX11_takesNumber clsX11 rfl (by omega) (Nat.le_of_ble_eq_true rfl) rfl rfl h (fun v hv => lift_X11_takesNumber hv) (fun w19 h => ?_)
          refine V.istore_n dX11_atom_44 rfl (by decide) rfl rfl ?_
          refine V.aload_n (n := 2) dX11_atom_45 rfl rfl ?_
          refine V.bipush (x := 46) dX11_atom_46 (by decide) rfl ?_
          refine V.callVi (d' := 2) (as := [vI (46 : Int32)]) (st := []) dX11_atom_48 meX11_takes mlX11_244 imX11_takes seX11_takes clsX11 rfl (by omega) (Nat.le_of_ble_eq_true rfl) rfl rfl h (fun v hv => lift_X11_takes hv) (fun w20 h => ?_)
          refine V.if_eq (q := 73) dX11_atom_51 (by decide) rfl h (fun h => ?_) (fun h => ?_)
          · refine V.aload_n (n := 2) dX11_atom_73 rfl rfl ?_
            refine V.iconst (x := 0) dX11_atom_74 (by decide) rfl ?_
            refine V.iload_n (n := 0) dX11_atom_75 rfl rfl ?_
            refine V.i2l dX11_atom_76 rfl ?_
            refine V.iconst (x := (-1)) dX11_atom_77 (by decide) rfl ?_
            refine V.callVv (d' := 0) (as := [vI (0 : Int32), vL w19.1.toInt64, vI (-1 : Int32)]) (st := []) dX11_atom_78 meX11_emit mlX11_247 imX11_emit seX11_emit clsX11 rfl (by omega) (Nat.le_of_ble_eq_true rfl) rfl rfl h (fun v hv => lift_X11_emit hv) (fun w21 h => ?_)
            refine V.goto (q := 191) dX11_atom_81 (by decide) ?_
            exact V.vret dX11_atom_191 rfl h
          · refine V.aload_n (n := 2) dX11_atom_54 rfl rfl ?_
            refine V.iload_n (n := 0) dX11_atom_55 rfl rfl ?_
            refine V.iload_n (n := 1) dX11_atom_56 rfl rfl ?_
            refine V.callVi (d' := 1) (as := [vI w19.1, vI x10]) (st := []) dX11_atom_57 meX11_yearOf mlX11_255 imX11_yearOf seX11_yearOf clsX11 rfl (by omega) (Nat.le_of_ble_eq_true rfl) rfl rfl h (fun v hv => lift_X11_yearOf hv) (fun w22 h => ?_)
            refine V.istore_n dX11_atom_60 rfl (by decide) rfl rfl ?_
            refine V.aload_n (n := 3) dX11_atom_61 rfl rfl ?_
            refine V.aload_n (n := 3) dX11_atom_62 rfl rfl ?_
            refine V.callVl (d' := 2) (as := []) (st := [vR v0]) dX11_atom_63 meX11_takesName mlX11_251 imX11_takesName seX11_takesName clsX11 rfl (by omega) (Nat.le_of_ble_eq_true rfl) rfl rfl h (fun v hv => lift_X11_takesName hv) (fun w23 h => ?_)
            refine V.iload_n (n := 0) dX11_atom_66 rfl rfl ?_
            refine V.callVv (d' := dr + 3) (as := [vL w23.1, vI w22.1]) (st := []) dX11_atom_67 meX11_called mlX11_290 imX11_called seX11_called clsX11 rfl (by omega) (Nat.le_of_ble_eq_true rfl) rfl rfl h (fun v hv => lift_X11_called hrF hv) (fun w24 h => ?_)
            refine V.goto (q := 81) dX11_atom_70 (by decide) ?_
            refine V.goto (q := 191) dX11_atom_81 (by decide) ?_
            exact V.vret dX11_atom_191 rfl h
      · refine V.aload_n (n := 1) dX11_atom_20 rfl rfl ?_
        refine V.aload_n (n := 1) dX11_atom_21 rfl rfl ?_
        refine V.callVl (d' := 2) (as := []) (st := [vR v0]) dX11_atom_22 meX11_takesName mlX11_251 imX11_takesName seX11_takesName clsX11 rfl (by omega) (Nat.le_of_ble_eq_true rfl) rfl rfl h (fun v hv => lift_X11_takesName hv) (fun w25 h => ?_)
        refine V.iconst (x := (-1)) dX11_atom_25 (by decide) rfl ?_
        refine V.callVv (d' := dr + 3) (as := [vL w25.1, vI (-1 : Int32)]) (st := []) dX11_atom_26 meX11_called mlX11_290 imX11_called seX11_called clsX11 rfl (by omega) (Nat.le_of_ble_eq_true rfl) rfl rfl h (fun v hv => lift_X11_called hrF hv) (fun w26 h => ?_)
        refine V.goto (q := 191) dX11_atom_29 (by decide) ?_
        exact V.vret dX11_atom_191 rfl h
    · exact V.vret dX11_atom_7 rfl h
  exact hh
def L_X11_signed (rF : Option Nat → Mem → Option (Unit × Mem)) (v0 : Option Nat) (M : Mem) : Option (Unit × Mem) :=
  (ck M 11 v0).bind fun _ => (L_X11_takes v0 (45 : Int32) M).bind fun w1 =>
  (ck w1.2 11 v0).bind fun _ => (L_X11_atom rF v0 w1.2).bind fun w2 =>
  if w1.1 = 0 then
  (some ((), w2.2))
  else
  ((ck w2.2 11 v0).bind fun _ => (L_X11_emit v0 (8 : Int32) (0 : Int64) (-1 : Int32) w2.2).bind fun w3 =>
  some ((), w3.2))
set_option maxRecDepth 20000 in
set_option maxHeartbeats 4000000 in
theorem lift_X11_signed {G : Gt} {M M9 : Mem} {x9 : Unit} {v0 : Option Nat} {dr : Nat} {rF : Option Nat → Mem → Option (Unit × Mem)} (hrF : ∀ (a0 : Option Nat) (Ma : Mem) (v : Unit × Mem), rF a0 Ma = some v → Mt G mX11_formula dr [vR a0] Ma none v.2) (h : L_X11_signed rF v0 M = some (x9, M9)) : Mt G mX11_signed (dr + 5) [vR v0] M none M9 := by
  unfold L_X11_signed at h
  refine Mt.of (by decide +kernel) (Nat.le_of_ble_eq_true rfl) ?_
  have hh : V G mX11_signed (dr + 5) M none M9 M 0 [(0, vR v0)] [] := by
    refine V.aload_n (n := 0) dX11_signed_0 rfl rfl ?_
    refine V.bipush (x := 45) dX11_signed_1 (by decide) rfl ?_
    refine V.callVi (d' := 2) (as := [vI (45 : Int32)]) (st := []) dX11_signed_3 meX11_takes mlX11_244 imX11_takes seX11_takes clsX11 rfl (by omega) (Nat.le_of_ble_eq_true rfl) rfl rfl h (fun v hv => lift_X11_takes hv) (fun w1 h => ?_)
    refine V.istore_n dX11_signed_6 rfl (by decide) rfl rfl ?_
    refine V.aload_n (n := 1) dX11_signed_7 rfl rfl ?_
    refine V.callVv (d' := dr + 4) (as := []) (st := []) dX11_signed_8 meX11_atom mlX11_287 imX11_atom seX11_atom clsX11 rfl (by omega) (Nat.le_of_ble_eq_true rfl) rfl rfl h (fun v hv => lift_X11_atom hrF hv) (fun w2 h => ?_)
    refine V.iload_n (n := 0) dX11_signed_11 rfl rfl ?_
    refine V.if_eq (q := 23) dX11_signed_12 (by decide) rfl h (fun h => ?_) (fun h => ?_)
    · exact V.vret dX11_signed_23 rfl h
    · refine V.aload_n (n := 1) dX11_signed_15 rfl rfl ?_
      refine V.bipush (x := 8) dX11_signed_16 (by decide) rfl ?_
      refine V.lconst (x := 0) dX11_signed_18 (by decide) rfl ?_
      refine V.iconst (x := (-1)) dX11_signed_19 (by decide) rfl ?_
      refine V.callVv (d' := 0) (as := [vI (8 : Int32), vL (0 : Int64), vI (-1 : Int32)]) (st := []) dX11_signed_20 meX11_emit mlX11_247 imX11_emit seX11_emit clsX11 rfl (by omega) (Nat.le_of_ble_eq_true rfl) rfl rfl h (fun v hv => lift_X11_emit hv) (fun w3 h => ?_)
      exact V.vret dX11_signed_23 rfl h
  exact hh
def J_X11_product_38 (rF : Option Nat → Mem → Option (Unit × Mem)) (k_4 : Option Nat → Mem → Option (Unit × Mem)) (v0 : Option Nat) (M : Mem) : Option (Unit × Mem) :=
  (fR M 11 0 v0).bind fun x1 =>
  (fI M 11 7 v0).bind fun x2 =>
  (aI M 23 x1 x2).bind fun x3 =>
  (ck M 11 v0).bind fun _ => (L_X11_advance v0 M).bind fun w4 =>
  (ck w4.2 11 v0).bind fun _ => (L_X11_signed rF v0 w4.2).bind fun w5 =>
  (ck w5.2 11 v0).bind fun _ => (L_X11_emit v0 x3 (0 : Int64) (-1 : Int32) w5.2).bind fun w6 =>
  k_4 v0 w6.2
set_option maxRecDepth 20000 in
set_option maxHeartbeats 4000000 in
theorem lab_X11_product_38 {G : Gt} {M0 M9 : Mem} {x9 : Unit} {dr : Nat} {rF : Option Nat → Mem → Option (Unit × Mem)} (hrF : ∀ (a0 : Option Nat) (Ma : Mem) (v : Unit × Mem), rF a0 Ma = some v → Mt G mX11_formula dr [vR a0] Ma none v.2) {k_4 : Option Nat → Mem → Option (Unit × Mem)} (hk_4 : ∀ (v0 : Option Nat) (Ma : Mem), k_4 v0 Ma = some (x9, M9) → V G mX11_product (dr + 6) M0 none M9 Ma 4 [(0, vR v0)] []) {v0 : Option Nat} {M : Mem} (h : J_X11_product_38 rF k_4 v0 M = some (x9, M9)) : V G mX11_product (dr + 6) M0 none M9 M 38 [(0, vR v0)] [] := by
  unfold J_X11_product_38 at h
  refine V.aload_n (n := 0) dX11_product_38 rfl rfl ?_
  refine V.getR dX11_product_39 lkX11_7 rfl rfl h (fun x1 h => ?_)
  refine V.aload_n (n := 0) dX11_product_42 rfl rfl ?_
  refine V.getI dX11_product_43 lkX11_189 rfl rfl h (fun x2 h => ?_)
  refine V.bald dX11_product_46 rfl h (fun x3 h => ?_)
  refine V.istore_n dX11_product_47 rfl (by decide) rfl rfl ?_
  refine V.aload_n (n := 1) dX11_product_48 rfl rfl ?_
  refine V.callVv (d' := 1) (as := []) (st := []) dX11_product_49 meX11_advance mlX11_225 imX11_advance seX11_advance clsX11 rfl (by omega) (Nat.le_of_ble_eq_true rfl) rfl rfl h (fun v hv => lift_X11_advance hv) (fun w4 h => ?_)
  refine V.aload_n (n := 1) dX11_product_52 rfl rfl ?_
  refine V.callVv (d' := dr + 5) (as := []) (st := []) dX11_product_53 meX11_signed mlX11_284 imX11_signed seX11_signed clsX11 rfl (by omega) (Nat.le_of_ble_eq_true rfl) rfl rfl h (fun v hv => lift_X11_signed hrF hv) (fun w5 h => ?_)
  refine V.aload_n (n := 1) dX11_product_56 rfl rfl ?_
  refine V.iload_n (n := 0) dX11_product_57 rfl rfl ?_
  refine V.lconst (x := 0) dX11_product_58 (by decide) rfl ?_
  refine V.iconst (x := (-1)) dX11_product_59 (by decide) rfl ?_
  refine V.callVv (d' := 0) (as := [vI x3, vL (0 : Int64), vI (-1 : Int32)]) (st := []) dX11_product_60 meX11_emit mlX11_247 imX11_emit seX11_emit clsX11 rfl (by omega) (Nat.le_of_ble_eq_true rfl) rfl rfl h (fun v hv => lift_X11_emit hv) (fun w6 h => ?_)
  refine V.goto (q := 4) dX11_product_63 (by decide) ?_
  exact V.sub [1] rfl (hk_4 _ _ h)
def J_X11_product_4 (rF : Option Nat → Mem → Option (Unit × Mem)) : Nat → Option Nat → Mem → Option (Unit × Mem)
  | 0 => fun _ _ => none
  | n + 1 => fun v0 M =>
  (fI M 11 11 v0).bind fun x7 =>
  if ¬ x7 = 0 then
  (some ((), M))
  else
  ((ck M 11 v0).bind fun _ => (L_X11_isSign v0 (42 : Int32) M).bind fun w8 =>
  if ¬ w8.1 = 0 then
  (J_X11_product_38 rF (J_X11_product_4 rF n) v0 w8.2)
  else
  ((ck w8.2 11 v0).bind fun _ => (L_X11_isSign v0 (47 : Int32) w8.2).bind fun w9 =>
  if ¬ w9.1 = 0 then
  (J_X11_product_38 rF (J_X11_product_4 rF n) v0 w9.2)
  else
  ((ck w9.2 11 v0).bind fun _ => (L_X11_isSign v0 (37 : Int32) w9.2).bind fun w10 =>
  if w10.1 = 0 then
  (some ((), w10.2))
  else
  (J_X11_product_38 rF (J_X11_product_4 rF n) v0 w10.2))))
set_option maxRecDepth 20000 in
set_option maxHeartbeats 4000000 in
theorem lab_X11_product_4 {G : Gt} {M0 M9 : Mem} {x9 : Unit} {dr : Nat} {rF : Option Nat → Mem → Option (Unit × Mem)} (hrF : ∀ (a0 : Option Nat) (Ma : Mem) (v : Unit × Mem), rF a0 Ma = some v → Mt G mX11_formula dr [vR a0] Ma none v.2) : ∀ (n : Nat) (v0 : Option Nat) (M : Mem), J_X11_product_4 rF n v0 M = some (x9, M9) → V G mX11_product (dr + 6) M0 none M9 M 4 [(0, vR v0)] [] := by
  intro n
  induction n with
  | zero => intro v0 M h; exact nomatch h
  | succ n ih =>
    intro v0 M h
    unfold J_X11_product_4 at h
    refine V.aload_n (n := 0) dX11_product_4 rfl rfl ?_
    refine V.getI dX11_product_5 lkX11_215 rfl rfl h (fun x7 h => ?_)
    refine V.if_ne (q := 66) dX11_product_8 (by decide) rfl h (fun h => ?_) (fun h => ?_)
    · exact V.vret dX11_product_66 rfl h
    · refine V.aload_n (n := 0) dX11_product_11 rfl rfl ?_
      refine V.bipush (x := 42) dX11_product_12 (by decide) rfl ?_
      refine V.callVi (d' := 0) (as := [vI (42 : Int32)]) (st := []) dX11_product_14 meX11_isSign mlX11_222 imX11_isSign seX11_isSign clsX11 rfl (by omega) (Nat.le_of_ble_eq_true rfl) rfl rfl h (fun v hv => lift_X11_isSign hv) (fun w8 h => ?_)
      refine V.if_ne (q := 38) dX11_product_17 (by decide) rfl h (fun h => ?_) (fun h => ?_)
      · exact (lab_X11_product_38 hrF ih h)
      · refine V.aload_n (n := 0) dX11_product_20 rfl rfl ?_
        refine V.bipush (x := 47) dX11_product_21 (by decide) rfl ?_
        refine V.callVi (d' := 0) (as := [vI (47 : Int32)]) (st := []) dX11_product_23 meX11_isSign mlX11_222 imX11_isSign seX11_isSign clsX11 rfl (by omega) (Nat.le_of_ble_eq_true rfl) rfl rfl h (fun v hv => lift_X11_isSign hv) (fun w9 h => ?_)
        refine V.if_ne (q := 38) dX11_product_26 (by decide) rfl h (fun h => ?_) (fun h => ?_)
        · exact (lab_X11_product_38 hrF ih h)
        · refine V.aload_n (n := 0) dX11_product_29 rfl rfl ?_
          refine V.bipush (x := 37) dX11_product_30 (by decide) rfl ?_
          refine V.callVi (d' := 0) (as := [vI (37 : Int32)]) (st := []) dX11_product_32 meX11_isSign mlX11_222 imX11_isSign seX11_isSign clsX11 rfl (by omega) (Nat.le_of_ble_eq_true rfl) rfl rfl h (fun v hv => lift_X11_isSign hv) (fun w10 h => ?_)
          refine V.if_eq (q := 66) dX11_product_35 (by decide) rfl h (fun h => ?_) (fun h => ?_)
          · exact V.vret dX11_product_66 rfl h
          · exact (lab_X11_product_38 hrF ih h)
def L_X11_product (rF : Option Nat → Mem → Option (Unit × Mem)) (v0 : Option Nat) (M : Mem) : Option (Unit × Mem) :=
  (ck M 11 v0).bind fun _ => (L_X11_signed rF v0 M).bind fun w11 =>
  J_X11_product_4 rF FU v0 w11.2
set_option maxRecDepth 20000 in
set_option maxHeartbeats 4000000 in
theorem lift_X11_product {G : Gt} {M M9 : Mem} {x9 : Unit} {v0 : Option Nat} {dr : Nat} {rF : Option Nat → Mem → Option (Unit × Mem)} (hrF : ∀ (a0 : Option Nat) (Ma : Mem) (v : Unit × Mem), rF a0 Ma = some v → Mt G mX11_formula dr [vR a0] Ma none v.2) (h : L_X11_product rF v0 M = some (x9, M9)) : Mt G mX11_product (dr + 6) [vR v0] M none M9 := by
  unfold L_X11_product at h
  refine Mt.of (by decide +kernel) (Nat.le_of_ble_eq_true rfl) ?_
  have hh : V G mX11_product (dr + 6) M none M9 M 0 [(0, vR v0)] [] := by
    refine V.aload_n (n := 0) dX11_product_0 rfl rfl ?_
    refine V.callVv (d' := dr + 5) (as := []) (st := []) dX11_product_1 meX11_signed mlX11_284 imX11_signed seX11_signed clsX11 rfl (by omega) (Nat.le_of_ble_eq_true rfl) rfl rfl h (fun v hv => lift_X11_signed hrF hv) (fun w11 h => ?_)
    exact (lab_X11_product_4 hrF FU _ _ h)
  exact hh
def J_X11_sum_29 (rF : Option Nat → Mem → Option (Unit × Mem)) (k_4 : Option Nat → Mem → Option (Unit × Mem)) (v0 : Option Nat) (M : Mem) : Option (Unit × Mem) :=
  (fR M 11 0 v0).bind fun x1 =>
  (fI M 11 7 v0).bind fun x2 =>
  (aI M 23 x1 x2).bind fun x3 =>
  (ck M 11 v0).bind fun _ => (L_X11_advance v0 M).bind fun w4 =>
  (ck w4.2 11 v0).bind fun _ => (L_X11_product rF v0 w4.2).bind fun w5 =>
  (ck w5.2 11 v0).bind fun _ => (L_X11_emit v0 x3 (0 : Int64) (-1 : Int32) w5.2).bind fun w6 =>
  k_4 v0 w6.2
set_option maxRecDepth 20000 in
set_option maxHeartbeats 4000000 in
theorem lab_X11_sum_29 {G : Gt} {M0 M9 : Mem} {x9 : Unit} {dr : Nat} {rF : Option Nat → Mem → Option (Unit × Mem)} (hrF : ∀ (a0 : Option Nat) (Ma : Mem) (v : Unit × Mem), rF a0 Ma = some v → Mt G mX11_formula dr [vR a0] Ma none v.2) {k_4 : Option Nat → Mem → Option (Unit × Mem)} (hk_4 : ∀ (v0 : Option Nat) (Ma : Mem), k_4 v0 Ma = some (x9, M9) → V G mX11_sum (dr + 7) M0 none M9 Ma 4 [(0, vR v0)] []) {v0 : Option Nat} {M : Mem} (h : J_X11_sum_29 rF k_4 v0 M = some (x9, M9)) : V G mX11_sum (dr + 7) M0 none M9 M 29 [(0, vR v0)] [] := by
  unfold J_X11_sum_29 at h
  refine V.aload_n (n := 0) dX11_sum_29 rfl rfl ?_
  refine V.getR dX11_sum_30 lkX11_7 rfl rfl h (fun x1 h => ?_)
  refine V.aload_n (n := 0) dX11_sum_33 rfl rfl ?_
  refine V.getI dX11_sum_34 lkX11_189 rfl rfl h (fun x2 h => ?_)
  refine V.bald dX11_sum_37 rfl h (fun x3 h => ?_)
  refine V.istore_n dX11_sum_38 rfl (by decide) rfl rfl ?_
  refine V.aload_n (n := 1) dX11_sum_39 rfl rfl ?_
  refine V.callVv (d' := 1) (as := []) (st := []) dX11_sum_40 meX11_advance mlX11_225 imX11_advance seX11_advance clsX11 rfl (by omega) (Nat.le_of_ble_eq_true rfl) rfl rfl h (fun v hv => lift_X11_advance hv) (fun w4 h => ?_)
  refine V.aload_n (n := 1) dX11_sum_43 rfl rfl ?_
  refine V.callVv (d' := dr + 6) (as := []) (st := []) dX11_sum_44 meX11_product mlX11_281 imX11_product seX11_product clsX11 rfl (by omega) (Nat.le_of_ble_eq_true rfl) rfl rfl h (fun v hv => lift_X11_product hrF hv) (fun w5 h => ?_)
  refine V.aload_n (n := 1) dX11_sum_47 rfl rfl ?_
  refine V.iload_n (n := 0) dX11_sum_48 rfl rfl ?_
  refine V.lconst (x := 0) dX11_sum_49 (by decide) rfl ?_
  refine V.iconst (x := (-1)) dX11_sum_50 (by decide) rfl ?_
  refine V.callVv (d' := 0) (as := [vI x3, vL (0 : Int64), vI (-1 : Int32)]) (st := []) dX11_sum_51 meX11_emit mlX11_247 imX11_emit seX11_emit clsX11 rfl (by omega) (Nat.le_of_ble_eq_true rfl) rfl rfl h (fun v hv => lift_X11_emit hv) (fun w6 h => ?_)
  refine V.goto (q := 4) dX11_sum_54 (by decide) ?_
  exact V.sub [1] rfl (hk_4 _ _ h)
def J_X11_sum_4 (rF : Option Nat → Mem → Option (Unit × Mem)) : Nat → Option Nat → Mem → Option (Unit × Mem)
  | 0 => fun _ _ => none
  | n + 1 => fun v0 M =>
  (fI M 11 11 v0).bind fun x7 =>
  if ¬ x7 = 0 then
  (some ((), M))
  else
  ((ck M 11 v0).bind fun _ => (L_X11_isSign v0 (43 : Int32) M).bind fun w8 =>
  if ¬ w8.1 = 0 then
  (J_X11_sum_29 rF (J_X11_sum_4 rF n) v0 w8.2)
  else
  ((ck w8.2 11 v0).bind fun _ => (L_X11_isSign v0 (45 : Int32) w8.2).bind fun w9 =>
  if w9.1 = 0 then
  (some ((), w9.2))
  else
  (J_X11_sum_29 rF (J_X11_sum_4 rF n) v0 w9.2)))
set_option maxRecDepth 20000 in
set_option maxHeartbeats 4000000 in
theorem lab_X11_sum_4 {G : Gt} {M0 M9 : Mem} {x9 : Unit} {dr : Nat} {rF : Option Nat → Mem → Option (Unit × Mem)} (hrF : ∀ (a0 : Option Nat) (Ma : Mem) (v : Unit × Mem), rF a0 Ma = some v → Mt G mX11_formula dr [vR a0] Ma none v.2) : ∀ (n : Nat) (v0 : Option Nat) (M : Mem), J_X11_sum_4 rF n v0 M = some (x9, M9) → V G mX11_sum (dr + 7) M0 none M9 M 4 [(0, vR v0)] [] := by
  intro n
  induction n with
  | zero => intro v0 M h; exact nomatch h
  | succ n ih =>
    intro v0 M h
    unfold J_X11_sum_4 at h
    refine V.aload_n (n := 0) dX11_sum_4 rfl rfl ?_
    refine V.getI dX11_sum_5 lkX11_215 rfl rfl h (fun x7 h => ?_)
    refine V.if_ne (q := 57) dX11_sum_8 (by decide) rfl h (fun h => ?_) (fun h => ?_)
    · exact V.vret dX11_sum_57 rfl h
    · refine V.aload_n (n := 0) dX11_sum_11 rfl rfl ?_
      refine V.bipush (x := 43) dX11_sum_12 (by decide) rfl ?_
      refine V.callVi (d' := 0) (as := [vI (43 : Int32)]) (st := []) dX11_sum_14 meX11_isSign mlX11_222 imX11_isSign seX11_isSign clsX11 rfl (by omega) (Nat.le_of_ble_eq_true rfl) rfl rfl h (fun v hv => lift_X11_isSign hv) (fun w8 h => ?_)
      refine V.if_ne (q := 29) dX11_sum_17 (by decide) rfl h (fun h => ?_) (fun h => ?_)
      · exact (lab_X11_sum_29 hrF ih h)
      · refine V.aload_n (n := 0) dX11_sum_20 rfl rfl ?_
        refine V.bipush (x := 45) dX11_sum_21 (by decide) rfl ?_
        refine V.callVi (d' := 0) (as := [vI (45 : Int32)]) (st := []) dX11_sum_23 meX11_isSign mlX11_222 imX11_isSign seX11_isSign clsX11 rfl (by omega) (Nat.le_of_ble_eq_true rfl) rfl rfl h (fun v hv => lift_X11_isSign hv) (fun w9 h => ?_)
        refine V.if_eq (q := 57) dX11_sum_26 (by decide) rfl h (fun h => ?_) (fun h => ?_)
        · exact V.vret dX11_sum_57 rfl h
        · exact (lab_X11_sum_29 hrF ih h)
def L_X11_sum (rF : Option Nat → Mem → Option (Unit × Mem)) (v0 : Option Nat) (M : Mem) : Option (Unit × Mem) :=
  (ck M 11 v0).bind fun _ => (L_X11_product rF v0 M).bind fun w10 =>
  J_X11_sum_4 rF FU v0 w10.2
set_option maxRecDepth 20000 in
set_option maxHeartbeats 4000000 in
theorem lift_X11_sum {G : Gt} {M M9 : Mem} {x9 : Unit} {v0 : Option Nat} {dr : Nat} {rF : Option Nat → Mem → Option (Unit × Mem)} (hrF : ∀ (a0 : Option Nat) (Ma : Mem) (v : Unit × Mem), rF a0 Ma = some v → Mt G mX11_formula dr [vR a0] Ma none v.2) (h : L_X11_sum rF v0 M = some (x9, M9)) : Mt G mX11_sum (dr + 7) [vR v0] M none M9 := by
  unfold L_X11_sum at h
  refine Mt.of (by decide +kernel) (Nat.le_of_ble_eq_true rfl) ?_
  have hh : V G mX11_sum (dr + 7) M none M9 M 0 [(0, vR v0)] [] := by
    refine V.aload_n (n := 0) dX11_sum_0 rfl rfl ?_
    refine V.callVv (d' := dr + 6) (as := []) (st := []) dX11_sum_1 meX11_product mlX11_281 imX11_product seX11_product clsX11 rfl (by omega) (Nat.le_of_ble_eq_true rfl) rfl rfl h (fun v hv => lift_X11_product hrF hv) (fun w10 h => ?_)
    exact (lab_X11_sum_4 hrF FU _ _ h)
  exact hh
def J_X11_compared_39 (rF : Option Nat → Mem → Option (Unit × Mem)) (v0 : Option Nat) (M : Mem) : Option (Unit × Mem) :=
  (fR M 11 0 v0).bind fun x1 =>
  (fI M 11 7 v0).bind fun x2 =>
  (aI M 23 x1 x2).bind fun x3 =>
  (ck M 11 v0).bind fun _ => (L_X11_advance v0 M).bind fun w4 =>
  (ck w4.2 11 v0).bind fun _ => (L_X11_sum rF v0 w4.2).bind fun w5 =>
  (ck w5.2 11 v0).bind fun _ => (L_X11_emit v0 x3 (0 : Int64) (-1 : Int32) w5.2).bind fun w6 =>
  some ((), w6.2)
set_option maxRecDepth 20000 in
set_option maxHeartbeats 4000000 in
theorem lab_X11_compared_39 {G : Gt} {M0 M9 : Mem} {x9 : Unit} {dr : Nat} {rF : Option Nat → Mem → Option (Unit × Mem)} (hrF : ∀ (a0 : Option Nat) (Ma : Mem) (v : Unit × Mem), rF a0 Ma = some v → Mt G mX11_formula dr [vR a0] Ma none v.2) {v0 : Option Nat} {M : Mem} (h : J_X11_compared_39 rF v0 M = some (x9, M9)) : V G mX11_compared (dr + 8) M0 none M9 M 39 [(0, vR v0)] [] := by
  unfold J_X11_compared_39 at h
  refine V.aload_n (n := 0) dX11_compared_39 rfl rfl ?_
  refine V.getR dX11_compared_40 lkX11_7 rfl rfl h (fun x1 h => ?_)
  refine V.aload_n (n := 0) dX11_compared_43 rfl rfl ?_
  refine V.getI dX11_compared_44 lkX11_189 rfl rfl h (fun x2 h => ?_)
  refine V.bald dX11_compared_47 rfl h (fun x3 h => ?_)
  refine V.istore_n dX11_compared_48 rfl (by decide) rfl rfl ?_
  refine V.aload_n (n := 1) dX11_compared_49 rfl rfl ?_
  refine V.callVv (d' := 1) (as := []) (st := []) dX11_compared_50 meX11_advance mlX11_225 imX11_advance seX11_advance clsX11 rfl (by omega) (Nat.le_of_ble_eq_true rfl) rfl rfl h (fun v hv => lift_X11_advance hv) (fun w4 h => ?_)
  refine V.aload_n (n := 1) dX11_compared_53 rfl rfl ?_
  refine V.callVv (d' := dr + 7) (as := []) (st := []) dX11_compared_54 meX11_sum mlX11_278 imX11_sum seX11_sum clsX11 rfl (by omega) (Nat.le_of_ble_eq_true rfl) rfl rfl h (fun v hv => lift_X11_sum hrF hv) (fun w5 h => ?_)
  refine V.aload_n (n := 1) dX11_compared_57 rfl rfl ?_
  refine V.iload_n (n := 0) dX11_compared_58 rfl rfl ?_
  refine V.lconst (x := 0) dX11_compared_59 (by decide) rfl ?_
  refine V.iconst (x := (-1)) dX11_compared_60 (by decide) rfl ?_
  refine V.callVv (d' := 0) (as := [vI x3, vL (0 : Int64), vI (-1 : Int32)]) (st := []) dX11_compared_61 meX11_emit mlX11_247 imX11_emit seX11_emit clsX11 rfl (by omega) (Nat.le_of_ble_eq_true rfl) rfl rfl h (fun v hv => lift_X11_emit hv) (fun w6 h => ?_)
  exact V.vret dX11_compared_64 rfl h
def L_X11_compared (rF : Option Nat → Mem → Option (Unit × Mem)) (v0 : Option Nat) (M : Mem) : Option (Unit × Mem) :=
  (ck M 11 v0).bind fun _ => (L_X11_sum rF v0 M).bind fun w7 =>
  (fI w7.2 11 11 v0).bind fun x8 =>
  if ¬ x8 = 0 then
  (some ((), w7.2))
  else
  ((ck w7.2 11 v0).bind fun _ => (L_X11_isSign v0 (61 : Int32) w7.2).bind fun w9 =>
  if ¬ w9.1 = 0 then
  (J_X11_compared_39 rF v0 w9.2)
  else
  ((ck w9.2 11 v0).bind fun _ => (L_X11_isSign v0 (60 : Int32) w9.2).bind fun w10 =>
  if ¬ w10.1 = 0 then
  (J_X11_compared_39 rF v0 w10.2)
  else
  ((ck w10.2 11 v0).bind fun _ => (L_X11_isSign v0 (62 : Int32) w10.2).bind fun w11 =>
  if ¬ w11.1 = 0 then
  (J_X11_compared_39 rF v0 w11.2)
  else
  (some ((), w11.2)))))
set_option maxRecDepth 20000 in
set_option maxHeartbeats 4000000 in
theorem lift_X11_compared {G : Gt} {M M9 : Mem} {x9 : Unit} {v0 : Option Nat} {dr : Nat} {rF : Option Nat → Mem → Option (Unit × Mem)} (hrF : ∀ (a0 : Option Nat) (Ma : Mem) (v : Unit × Mem), rF a0 Ma = some v → Mt G mX11_formula dr [vR a0] Ma none v.2) (h : L_X11_compared rF v0 M = some (x9, M9)) : Mt G mX11_compared (dr + 8) [vR v0] M none M9 := by
  unfold L_X11_compared at h
  refine Mt.of (by decide +kernel) (Nat.le_of_ble_eq_true rfl) ?_
  have hh : V G mX11_compared (dr + 8) M none M9 M 0 [(0, vR v0)] [] := by
    refine V.aload_n (n := 0) dX11_compared_0 rfl rfl ?_
    refine V.callVv (d' := dr + 7) (as := []) (st := []) dX11_compared_1 meX11_sum mlX11_278 imX11_sum seX11_sum clsX11 rfl (by omega) (Nat.le_of_ble_eq_true rfl) rfl rfl h (fun v hv => lift_X11_sum hrF hv) (fun w7 h => ?_)
    refine V.aload_n (n := 0) dX11_compared_4 rfl rfl ?_
    refine V.getI dX11_compared_5 lkX11_215 rfl rfl h (fun x8 h => ?_)
    refine V.if_ne (q := 38) dX11_compared_8 (by decide) rfl h (fun h => ?_) (fun h => ?_)
    · exact V.vret dX11_compared_38 rfl h
    · refine V.aload_n (n := 0) dX11_compared_11 rfl rfl ?_
      refine V.bipush (x := 61) dX11_compared_12 (by decide) rfl ?_
      refine V.callVi (d' := 0) (as := [vI (61 : Int32)]) (st := []) dX11_compared_14 meX11_isSign mlX11_222 imX11_isSign seX11_isSign clsX11 rfl (by omega) (Nat.le_of_ble_eq_true rfl) rfl rfl h (fun v hv => lift_X11_isSign hv) (fun w9 h => ?_)
      refine V.if_ne (q := 39) dX11_compared_17 (by decide) rfl h (fun h => ?_) (fun h => ?_)
      · exact (lab_X11_compared_39 hrF h)
      · refine V.aload_n (n := 0) dX11_compared_20 rfl rfl ?_
        refine V.bipush (x := 60) dX11_compared_21 (by decide) rfl ?_
        refine V.callVi (d' := 0) (as := [vI (60 : Int32)]) (st := []) dX11_compared_23 meX11_isSign mlX11_222 imX11_isSign seX11_isSign clsX11 rfl (by omega) (Nat.le_of_ble_eq_true rfl) rfl rfl h (fun v hv => lift_X11_isSign hv) (fun w10 h => ?_)
        refine V.if_ne (q := 39) dX11_compared_26 (by decide) rfl h (fun h => ?_) (fun h => ?_)
        · exact (lab_X11_compared_39 hrF h)
        · refine V.aload_n (n := 0) dX11_compared_29 rfl rfl ?_
          refine V.bipush (x := 62) dX11_compared_30 (by decide) rfl ?_
          refine V.callVi (d' := 0) (as := [vI (62 : Int32)]) (st := []) dX11_compared_32 meX11_isSign mlX11_222 imX11_isSign seX11_isSign clsX11 rfl (by omega) (Nat.le_of_ble_eq_true rfl) rfl rfl h (fun v hv => lift_X11_isSign hv) (fun w11 h => ?_)
          refine V.if_ne (q := 39) dX11_compared_35 (by decide) rfl h (fun h => ?_) (fun h => ?_)
          · exact (lab_X11_compared_39 hrF h)
          · exact V.vret dX11_compared_38 rfl h
  exact hh
def J_X11_formula_107 (rF : Option Nat → Mem → Option (Unit × Mem)) (v0 : Option Nat) (M : Mem) : Option (Unit × Mem) :=
  (fI M 11 31 v0).bind fun x1 =>
  (pI M 11 31 v0 (x1 - (1 : Int32))).bind fun M2 =>
  some ((), M2)
set_option maxRecDepth 20000 in
set_option maxHeartbeats 4000000 in
theorem lab_X11_formula_107 {G : Gt} {M0 M9 : Mem} {x9 : Unit} {dr : Nat} {rF : Option Nat → Mem → Option (Unit × Mem)} (hrF : ∀ (a0 : Option Nat) (Ma : Mem) (v : Unit × Mem), rF a0 Ma = some v → Mt G mX11_formula dr [vR a0] Ma none v.2) {v0 : Option Nat} {M : Mem} (h : J_X11_formula_107 rF v0 M = some (x9, M9)) : V G mX11_formula (dr + 9) M0 none M9 M 107 [(0, vR v0)] [] := by
  unfold J_X11_formula_107 at h
  refine V.aload_n (n := 0) dX11_formula_107 rfl rfl ?_
  refine V.dup dX11_formula_108 rfl rfl ?_
  refine V.getI dX11_formula_109 lkX11_265 rfl rfl h (fun x1 h => ?_)
  refine V.iconst (x := 1) dX11_formula_112 (by decide) rfl ?_
  refine V.isub dX11_formula_113 rfl ?_
  refine V.putI dX11_formula_114 lkX11_265 (Or.inl rfl) rfl rfl h (fun M2 h => ?_)
  exact V.vret dX11_formula_117 rfl h
def B_X11_formula (rF : Option Nat → Mem → Option (Unit × Mem)) (v0 : Option Nat) (M : Mem) : Option (Unit × Mem) :=
  (fI M 11 11 v0).bind fun x3 =>
  if x3 = 0 then
  ((fI M 11 31 v0).bind fun x4 =>
  if ¬ x4 = (12 : Int32) then
  ((fI M 11 31 v0).bind fun x5 =>
  (pI M 11 31 v0 (x5 + (1 : Int32))).bind fun M6 =>
  (ck M6 11 v0).bind fun _ => (L_X11_compared rF v0 M6).bind fun w7 =>
  (ck w7.2 11 v0).bind fun _ => (L_X11_takes v0 (63 : Int32) w7.2).bind fun w8 =>
  if w8.1 = 0 then
  (J_X11_formula_107 rF v0 w8.2)
  else
  ((fI w8.2 11 27 v0).bind fun x9 =>
  (ck w8.2 11 v0).bind fun _ => (L_X11_emit v0 (9 : Int32) (0 : Int64) (-1 : Int32) w8.2).bind fun w10 =>
  (ck w10.2 11 v0).bind fun _ => (rF v0 w10.2).bind fun w11 =>
  (ck w11.2 11 v0).bind fun _ => (L_X11_must v0 (58 : Int32) w11.2).bind fun w12 =>
  (fI w12.2 11 27 v0).bind fun x13 =>
  (ck w12.2 11 v0).bind fun _ => (L_X11_emit v0 (10 : Int32) (0 : Int64) (-1 : Int32) w12.2).bind fun w14 =>
  (fR w14.2 11 29 v0).bind fun x15 =>
  (fI w14.2 11 27 v0).bind fun x16 =>
  (uL w14.2 21 x15 x9 x16.toInt64).bind fun M17 =>
  (ck M17 11 v0).bind fun _ => (rF v0 M17).bind fun w18 =>
  (fR w18.2 11 29 v0).bind fun x19 =>
  (fI w18.2 11 27 v0).bind fun x20 =>
  (uL w18.2 21 x19 x13 x20.toInt64).bind fun M21 =>
  J_X11_formula_107 rF v0 M21))
  else
  ((ck M 11 v0).bind fun _ => (L_X11_stops v0 M).bind fun w22 =>
  some ((), w22.2)))
  else
  (some ((), M))
set_option maxRecDepth 20000 in
set_option maxHeartbeats 4000000 in
theorem liftB_X11_formula {G : Gt} {M M9 : Mem} {x9 : Unit} {v0 : Option Nat} {dr : Nat} {rF : Option Nat → Mem → Option (Unit × Mem)} (hrF : ∀ (a0 : Option Nat) (Ma : Mem) (v : Unit × Mem), rF a0 Ma = some v → Mt G mX11_formula dr [vR a0] Ma none v.2) (h : B_X11_formula rF v0 M = some (x9, M9)) : Mt G mX11_formula (dr + 9) [vR v0] M none M9 := by
  unfold B_X11_formula at h
  refine Mt.of (by decide +kernel) (Nat.le_of_ble_eq_true rfl) ?_
  have hh : V G mX11_formula (dr + 9) M none M9 M 0 [(0, vR v0)] [] := by
    refine V.aload_n (n := 0) dX11_formula_0 rfl rfl ?_
    refine V.getI dX11_formula_1 lkX11_215 rfl rfl h (fun x3 h => ?_)
    refine V.if_eq (q := 8) dX11_formula_4 (by decide) rfl h (fun h => ?_) (fun h => ?_)
    · refine V.aload_n (n := 0) dX11_formula_8 rfl rfl ?_
      refine V.getI dX11_formula_9 lkX11_265 rfl rfl h (fun x4 h => ?_)
      refine V.bipush (x := 12) dX11_formula_12 (by decide) rfl ?_
      refine V.icmp_ne (q := 22) dX11_formula_14 (by decide) rfl h (fun h => ?_) (fun h => ?_)
      · refine V.aload_n (n := 0) dX11_formula_22 rfl rfl ?_
        refine V.dup dX11_formula_23 rfl rfl ?_
        refine V.getI dX11_formula_24 lkX11_265 rfl rfl h (fun x5 h => ?_)
        refine V.iconst (x := 1) dX11_formula_27 (by decide) rfl ?_
        refine V.iadd dX11_formula_28 rfl ?_
        refine V.putI dX11_formula_29 lkX11_265 (Or.inl rfl) rfl rfl h (fun M6 h => ?_)
        refine V.aload_n (n := 0) dX11_formula_32 rfl rfl ?_
        refine V.callVv (d' := dr + 8) (as := []) (st := []) dX11_formula_33 meX11_compared mlX11_268 imX11_compared seX11_compared clsX11 rfl (by omega) (Nat.le_of_ble_eq_true rfl) rfl rfl h (fun v hv => lift_X11_compared hrF hv) (fun w7 h => ?_)
        refine V.aload_n (n := 0) dX11_formula_36 rfl rfl ?_
        refine V.bipush (x := 63) dX11_formula_37 (by decide) rfl ?_
        refine V.callVi (d' := 2) (as := [vI (63 : Int32)]) (st := []) dX11_formula_39 meX11_takes mlX11_244 imX11_takes seX11_takes clsX11 rfl (by omega) (Nat.le_of_ble_eq_true rfl) rfl rfl h (fun v hv => lift_X11_takes hv) (fun w8 h => ?_)
        refine V.if_eq (q := 107) dX11_formula_42 (by decide) rfl h (fun h => ?_) (fun h => ?_)
        · exact (lab_X11_formula_107 hrF h)
        · refine V.aload_n (n := 0) dX11_formula_45 rfl rfl ?_
          refine V.getI dX11_formula_46 lkX11_231 rfl rfl h (fun x9 h => ?_)
          refine V.istore_n dX11_formula_49 rfl (by decide) rfl rfl ?_
          refine V.aload_n (n := 1) dX11_formula_50 rfl rfl ?_
          refine V.bipush (x := 9) dX11_formula_51 (by decide) rfl ?_
          refine V.lconst (x := 0) dX11_formula_53 (by decide) rfl ?_
          refine V.iconst (x := (-1)) dX11_formula_54 (by decide) rfl ?_
          refine V.callVv (d' := 0) (as := [vI (9 : Int32), vL (0 : Int64), vI (-1 : Int32)]) (st := []) dX11_formula_55 meX11_emit mlX11_247 imX11_emit seX11_emit clsX11 rfl (by omega) (Nat.le_of_ble_eq_true rfl) rfl rfl h (fun v hv => lift_X11_emit hv) (fun w10 h => ?_)
          refine V.aload_n (n := 1) dX11_formula_58 rfl rfl ?_
          refine V.callVv (d' := dr) (as := []) (st := []) dX11_formula_59 meX11_formula mlX11_271 imX11_formula seX11_formula clsX11 rfl (by omega) (Nat.le_of_ble_eq_true rfl) rfl rfl h (fun v hv => hrF _ _ v hv) (fun w11 h => ?_)
          refine V.aload_n (n := 1) dX11_formula_62 rfl rfl ?_
          refine V.bipush (x := 58) dX11_formula_63 (by decide) rfl ?_
          refine V.callVv (d' := 2) (as := [vI (58 : Int32)]) (st := []) dX11_formula_65 meX11_must mlX11_274 imX11_must seX11_must clsX11 rfl (by omega) (Nat.le_of_ble_eq_true rfl) rfl rfl h (fun v hv => lift_X11_must hv) (fun w12 h => ?_)
          refine V.aload_n (n := 1) dX11_formula_68 rfl rfl ?_
          refine V.getI dX11_formula_69 lkX11_231 rfl rfl h (fun x13 h => ?_)
          refine V.istore_n dX11_formula_72 rfl (by decide) rfl rfl ?_
          refine V.aload_n (n := 2) dX11_formula_73 rfl rfl ?_
          refine V.bipush (x := 10) dX11_formula_74 (by decide) rfl ?_
          refine V.lconst (x := 0) dX11_formula_76 (by decide) rfl ?_
          refine V.iconst (x := (-1)) dX11_formula_77 (by decide) rfl ?_
          refine V.callVv (d' := 0) (as := [vI (10 : Int32), vL (0 : Int64), vI (-1 : Int32)]) (st := []) dX11_formula_78 meX11_emit mlX11_247 imX11_emit seX11_emit clsX11 rfl (by omega) (Nat.le_of_ble_eq_true rfl) rfl rfl h (fun v hv => lift_X11_emit hv) (fun w14 h => ?_)
          refine V.aload_n (n := 2) dX11_formula_81 rfl rfl ?_
          refine V.getR dX11_formula_82 lkX11_50 rfl rfl h (fun x15 h => ?_)
          refine V.iload_n (n := 1) dX11_formula_85 rfl rfl ?_
          refine V.aload_n (n := 2) dX11_formula_86 rfl rfl ?_
          refine V.getI dX11_formula_87 lkX11_231 rfl rfl h (fun x16 h => ?_)
          refine V.i2l dX11_formula_90 rfl ?_
          refine V.last dX11_formula_91 rfl h (fun M17 h => ?_)
          refine V.aload_n (n := 2) dX11_formula_92 rfl rfl ?_
          refine V.callVv (d' := dr) (as := []) (st := []) dX11_formula_93 meX11_formula mlX11_271 imX11_formula seX11_formula clsX11 rfl (by omega) (Nat.le_of_ble_eq_true rfl) rfl rfl h (fun v hv => hrF _ _ v hv) (fun w18 h => ?_)
          refine V.aload_n (n := 2) dX11_formula_96 rfl rfl ?_
          refine V.getR dX11_formula_97 lkX11_50 rfl rfl h (fun x19 h => ?_)
          refine V.iload_n (n := 0) dX11_formula_100 rfl rfl ?_
          refine V.aload_n (n := 2) dX11_formula_101 rfl rfl ?_
          refine V.getI dX11_formula_102 lkX11_231 rfl rfl h (fun x20 h => ?_)
          refine V.i2l dX11_formula_105 rfl ?_
          refine V.last dX11_formula_106 rfl h (fun M21 h => ?_)
          exact V.sub [2] rfl (lab_X11_formula_107 hrF h)
      · refine V.aload_n (n := 0) dX11_formula_17 rfl rfl ?_
        refine V.callVv (d' := 0) (as := []) (st := []) dX11_formula_18 meX11_stops mlX11_228 imX11_stops seX11_stops clsX11 rfl (by omega) (Nat.le_of_ble_eq_true rfl) rfl rfl h (fun v hv => lift_X11_stops hv) (fun w22 h => ?_)
        exact V.vret dX11_formula_21 rfl h
    · exact V.vret dX11_formula_7 rfl h
  exact hh
def L_X11_formula : Nat → Option Nat → Mem → Option (Unit × Mem)
  | 0 => fun _ _ => none
  | n + 1 => B_X11_formula (L_X11_formula n)
theorem lift_X11_formula {G : Gt} : ∀ (n : Nat) {M M9 : Mem} {x9 : Unit} {v0 : Option Nat} (h : L_X11_formula n v0 M = some (x9, M9)), Mt G mX11_formula (9 * n) [vR v0] M none M9
  | 0 => fun h => nomatch h
  | n + 1 => fun h => liftB_X11_formula (dr := 9 * n) (rF := L_X11_formula n) (fun _ _ _ hv => lift_X11_formula n hv) h
def L_X11_whole (v0 : Option Nat) (M : Mem) : Option (Unit × Mem) :=
  (pI M 11 31 v0 (0 : Int32)).bind fun M1 =>
  (ck M1 11 v0).bind fun _ => (L_X11_formula 14 v0 M1).bind fun w2 =>
  (ck w2.2 11 v0).bind fun _ => (L_X11_emit v0 (11 : Int32) (0 : Int64) (-1 : Int32) w2.2).bind fun w3 =>
  some ((), w3.2)
set_option maxRecDepth 20000 in
set_option maxHeartbeats 4000000 in
theorem lift_X11_whole {G : Gt} {M M9 : Mem} {x9 : Unit} {v0 : Option Nat} (h : L_X11_whole v0 M = some (x9, M9)) : Mt G mX11_whole 127 [vR v0] M none M9 := by
  unfold L_X11_whole at h
  refine Mt.of (by decide +kernel) (Nat.le_of_ble_eq_true rfl) ?_
  have hh : V G mX11_whole 127 M none M9 M 0 [(0, vR v0)] [] := by
    refine V.aload_n (n := 0) dX11_whole_0 rfl rfl ?_
    refine V.iconst (x := 0) dX11_whole_1 (by decide) rfl ?_
    refine V.putI dX11_whole_2 lkX11_265 (Or.inl rfl) rfl rfl h (fun M1 h => ?_)
    refine V.aload_n (n := 0) dX11_whole_5 rfl rfl ?_
    refine V.callVv (d' := 9 * 14) (as := []) (st := []) dX11_whole_6 meX11_formula mlX11_271 imX11_formula seX11_formula clsX11 rfl (by omega) (Nat.le_of_ble_eq_true rfl) rfl rfl h (fun v hv => lift_X11_formula 14 hv) (fun w2 h => ?_)
    refine V.aload_n (n := 0) dX11_whole_9 rfl rfl ?_
    refine V.bipush (x := 11) dX11_whole_10 (by decide) rfl ?_
    refine V.lconst (x := 0) dX11_whole_12 (by decide) rfl ?_
    refine V.iconst (x := (-1)) dX11_whole_13 (by decide) rfl ?_
    refine V.callVv (d' := 0) (as := [vI (11 : Int32), vL (0 : Int64), vI (-1 : Int32)]) (st := []) dX11_whole_14 meX11_emit mlX11_247 imX11_emit seX11_emit clsX11 rfl (by omega) (Nat.le_of_ble_eq_true rfl) rfl rfl h (fun v hv => lift_X11_emit hv) (fun w3 h => ?_)
    exact V.vret dX11_whole_17 rfl h
  exact hh
def L_X11_mark (v0 : Option Nat) (v1 : Int32) (v2 : Int32) (v3 : Int32) (M : Mem) : Option (Unit × Mem) :=
  (fR M 11 23 v0).bind fun x1 =>
  (fI M 11 21 v0).bind fun x2 =>
  (uI M 20 x1 x2 v1).bind fun M3 =>
  (fR M3 11 24 v0).bind fun x4 =>
  (fI M3 11 21 v0).bind fun x5 =>
  (uI M3 20 x4 x5 v2).bind fun M6 =>
  (fR M6 11 25 v0).bind fun x7 =>
  (fI M6 11 21 v0).bind fun x8 =>
  (uI M6 20 x7 x8 v3).bind fun M9 =>
  (fI M9 11 21 v0).bind fun x10 =>
  (pI M9 11 21 v0 (x10 + (1 : Int32))).bind fun M11 =>
  some ((), M11)
set_option maxRecDepth 20000 in
set_option maxHeartbeats 4000000 in
theorem lift_X11_mark {G : Gt} {M M9 : Mem} {x9 : Unit} {v0 : Option Nat} {v1 : Int32} {v2 : Int32} {v3 : Int32} (h : L_X11_mark v0 v1 v2 v3 M = some (x9, M9)) : Mt G mX11_mark 0 [vR v0, vI v1, vI v2, vI v3] M none M9 := by
  unfold L_X11_mark at h
  refine Mt.of (by decide +kernel) (Nat.le_of_ble_eq_true rfl) ?_
  have hh : V G mX11_mark 0 M none M9 M 0 [(0, vR v0), (1, vI v1), (2, vI v2), (3, vI v3)] [] := by
    refine V.aload_n (n := 0) dX11_mark_0 rfl rfl ?_
    refine V.getR dX11_mark_1 lkX11_38 rfl rfl h (fun x1 h => ?_)
    refine V.aload_n (n := 0) dX11_mark_4 rfl rfl ?_
    refine V.getI dX11_mark_5 lkX11_304 rfl rfl h (fun x2 h => ?_)
    refine V.iload_n (n := 1) dX11_mark_8 rfl rfl ?_
    refine V.iast dX11_mark_9 rfl h (fun M3 h => ?_)
    refine V.aload_n (n := 0) dX11_mark_10 rfl rfl ?_
    refine V.getR dX11_mark_11 lkX11_41 rfl rfl h (fun x4 h => ?_)
    refine V.aload_n (n := 0) dX11_mark_14 rfl rfl ?_
    refine V.getI dX11_mark_15 lkX11_304 rfl rfl h (fun x5 h => ?_)
    refine V.iload_n (n := 2) dX11_mark_18 rfl rfl ?_
    refine V.iast dX11_mark_19 rfl h (fun M6 h => ?_)
    refine V.aload_n (n := 0) dX11_mark_20 rfl rfl ?_
    refine V.getR dX11_mark_21 lkX11_44 rfl rfl h (fun x7 h => ?_)
    refine V.aload_n (n := 0) dX11_mark_24 rfl rfl ?_
    refine V.getI dX11_mark_25 lkX11_304 rfl rfl h (fun x8 h => ?_)
    refine V.iload_n (n := 3) dX11_mark_28 rfl rfl ?_
    refine V.iast dX11_mark_29 rfl h (fun M9 h => ?_)
    refine V.aload_n (n := 0) dX11_mark_30 rfl rfl ?_
    refine V.dup dX11_mark_31 rfl rfl ?_
    refine V.getI dX11_mark_32 lkX11_304 rfl rfl h (fun x10 h => ?_)
    refine V.iconst (x := 1) dX11_mark_35 (by decide) rfl ?_
    refine V.iadd dX11_mark_36 rfl ?_
    refine V.putI dX11_mark_37 lkX11_304 (Or.inl rfl) rfl rfl h (fun M11 h => ?_)
    exact V.vret dX11_mark_40 rfl h
  exact hh
def J_X11_isTaken_42 (k_5 : Option Nat → Int64 → Int32 → Int32 → Mem → Option (Int32 × Mem)) (v0 : Option Nat) (v1 : Int64) (v4 : Int32) (s0 : Int32) (M : Mem) : Option (Int32 × Mem) :=
  k_5 v0 v1 s0 (v4 + 1) M
set_option maxRecDepth 20000 in
set_option maxHeartbeats 4000000 in
theorem lab_X11_isTaken_42 {G : Gt} {M0 M9 : Mem} {x9 : Int32} {k_5 : Option Nat → Int64 → Int32 → Int32 → Mem → Option (Int32 × Mem)} (hk_5 : ∀ (v0 : Option Nat) (v1 : Int64) (v3 : Int32) (v4 : Int32) (Ma : Mem), k_5 v0 v1 v3 v4 Ma = some (x9, M9) → V G mX11_isTaken 0 M0 (some (vI x9)) M9 Ma 5 [(0, vR v0), (1, vL v1), (3, vI v3), (4, vI v4)] []) {v0 : Option Nat} {v1 : Int64} {v4 : Int32} {s0 : Int32} {M : Mem} (h : J_X11_isTaken_42 k_5 v0 v1 v4 s0 M = some (x9, M9)) : V G mX11_isTaken 0 M0 (some (vI x9)) M9 M 42 [(0, vR v0), (1, vL v1), (4, vI v4)] [vI s0] := by
  unfold J_X11_isTaken_42 at h
  refine V.istore_n dX11_isTaken_42 rfl (by decide) rfl rfl ?_
  refine V.iinc (n := 3) (x := v4 + 1) dX11_isTaken_43 rfl (by rfl) (by decide) rfl rfl ?_
  refine V.goto (q := 5) dX11_isTaken_46 (by decide) ?_
  exact V.sub [2, 3, 1, 0] rfl (hk_5 _ _ _ _ _ h)
def J_X11_isTaken_37 (k_5 : Option Nat → Int64 → Int32 → Int32 → Mem → Option (Int32 × Mem)) (v0 : Option Nat) (v1 : Int64) (v4 : Int32) (M : Mem) : Option (Int32 × Mem) :=
  J_X11_isTaken_42 k_5 v0 v1 v4 (1 : Int32) M
set_option maxRecDepth 20000 in
set_option maxHeartbeats 4000000 in
theorem lab_X11_isTaken_37 {G : Gt} {M0 M9 : Mem} {x9 : Int32} {k_5 : Option Nat → Int64 → Int32 → Int32 → Mem → Option (Int32 × Mem)} (hk_5 : ∀ (v0 : Option Nat) (v1 : Int64) (v3 : Int32) (v4 : Int32) (Ma : Mem), k_5 v0 v1 v3 v4 Ma = some (x9, M9) → V G mX11_isTaken 0 M0 (some (vI x9)) M9 Ma 5 [(0, vR v0), (1, vL v1), (3, vI v3), (4, vI v4)] []) {v0 : Option Nat} {v1 : Int64} {v4 : Int32} {M : Mem} (h : J_X11_isTaken_37 k_5 v0 v1 v4 M = some (x9, M9)) : V G mX11_isTaken 0 M0 (some (vI x9)) M9 M 37 [(0, vR v0), (1, vL v1), (4, vI v4)] [] := by
  unfold J_X11_isTaken_37 at h
  refine V.iconst (x := 1) dX11_isTaken_37 (by decide) rfl ?_
  refine V.goto (q := 42) dX11_isTaken_38 (by decide) ?_
  exact (lab_X11_isTaken_42 hk_5 h)
def J_X11_isTaken_89 (k_52 : Option Nat → Int64 → Int32 → Int32 → Mem → Option (Int32 × Mem)) (v0 : Option Nat) (v1 : Int64) (v4 : Int32) (s0 : Int32) (M : Mem) : Option (Int32 × Mem) :=
  k_52 v0 v1 s0 (v4 + 1) M
set_option maxRecDepth 20000 in
set_option maxHeartbeats 4000000 in
theorem lab_X11_isTaken_89 {G : Gt} {M0 M9 : Mem} {x9 : Int32} {k_52 : Option Nat → Int64 → Int32 → Int32 → Mem → Option (Int32 × Mem)} (hk_52 : ∀ (v0 : Option Nat) (v1 : Int64) (v3 : Int32) (v4 : Int32) (Ma : Mem), k_52 v0 v1 v3 v4 Ma = some (x9, M9) → V G mX11_isTaken 0 M0 (some (vI x9)) M9 Ma 52 [(0, vR v0), (1, vL v1), (3, vI v3), (4, vI v4)] []) {v0 : Option Nat} {v1 : Int64} {v4 : Int32} {s0 : Int32} {M : Mem} (h : J_X11_isTaken_89 k_52 v0 v1 v4 s0 M = some (x9, M9)) : V G mX11_isTaken 0 M0 (some (vI x9)) M9 M 89 [(0, vR v0), (1, vL v1), (4, vI v4)] [vI s0] := by
  unfold J_X11_isTaken_89 at h
  refine V.istore_n dX11_isTaken_89 rfl (by decide) rfl rfl ?_
  refine V.iinc (n := 3) (x := v4 + 1) dX11_isTaken_90 rfl (by rfl) (by decide) rfl rfl ?_
  refine V.goto (q := 52) dX11_isTaken_93 (by decide) ?_
  exact V.sub [2, 3, 1, 0] rfl (hk_52 _ _ _ _ _ h)
def J_X11_isTaken_84 (k_52 : Option Nat → Int64 → Int32 → Int32 → Mem → Option (Int32 × Mem)) (v0 : Option Nat) (v1 : Int64) (v4 : Int32) (M : Mem) : Option (Int32 × Mem) :=
  J_X11_isTaken_89 k_52 v0 v1 v4 (1 : Int32) M
set_option maxRecDepth 20000 in
set_option maxHeartbeats 4000000 in
theorem lab_X11_isTaken_84 {G : Gt} {M0 M9 : Mem} {x9 : Int32} {k_52 : Option Nat → Int64 → Int32 → Int32 → Mem → Option (Int32 × Mem)} (hk_52 : ∀ (v0 : Option Nat) (v1 : Int64) (v3 : Int32) (v4 : Int32) (Ma : Mem), k_52 v0 v1 v3 v4 Ma = some (x9, M9) → V G mX11_isTaken 0 M0 (some (vI x9)) M9 Ma 52 [(0, vR v0), (1, vL v1), (3, vI v3), (4, vI v4)] []) {v0 : Option Nat} {v1 : Int64} {v4 : Int32} {M : Mem} (h : J_X11_isTaken_84 k_52 v0 v1 v4 M = some (x9, M9)) : V G mX11_isTaken 0 M0 (some (vI x9)) M9 M 84 [(0, vR v0), (1, vL v1), (4, vI v4)] [] := by
  unfold J_X11_isTaken_84 at h
  refine V.iconst (x := 1) dX11_isTaken_84 (by decide) rfl ?_
  refine V.goto (q := 89) dX11_isTaken_85 (by decide) ?_
  exact (lab_X11_isTaken_89 hk_52 h)
def J_X11_isTaken_52 : Nat → Option Nat → Int64 → Int32 → Int32 → Mem → Option (Int32 × Mem)
  | 0 => fun _ _ _ _ _ => none
  | n + 1 => fun v0 v1 v3 v4 M =>
  (fI M 11 18 v0).bind fun x1 =>
  if x1 ≤ v4 then
  ((bz v3).bind fun _ => some (v3, M))
  else
  (if (6 : Int32) ≤ v4 then
  ((bz v3).bind fun _ => some (v3, M))
  else
  (if ¬ v3 = 0 then
  (J_X11_isTaken_84 (J_X11_isTaken_52 n) v0 v1 v4 M)
  else
  ((fR M 11 19 v0).bind fun x2 =>
  (aL M 21 x2 v4).bind fun x3 =>
  if ¬ x3 = v1 then
  (J_X11_isTaken_89 (J_X11_isTaken_52 n) v0 v1 v4 (0 : Int32) M)
  else
  (J_X11_isTaken_84 (J_X11_isTaken_52 n) v0 v1 v4 M))))
set_option maxRecDepth 20000 in
set_option maxHeartbeats 4000000 in
theorem lab_X11_isTaken_52 {G : Gt} {M0 M9 : Mem} {x9 : Int32} : ∀ (n : Nat) (v0 : Option Nat) (v1 : Int64) (v3 : Int32) (v4 : Int32) (M : Mem), J_X11_isTaken_52 n v0 v1 v3 v4 M = some (x9, M9) → V G mX11_isTaken 0 M0 (some (vI x9)) M9 M 52 [(0, vR v0), (1, vL v1), (3, vI v3), (4, vI v4)] [] := by
  intro n
  induction n with
  | zero => intro v0 v1 v3 v4 M h; exact nomatch h
  | succ n ih =>
    intro v0 v1 v3 v4 M h
    unfold J_X11_isTaken_52 at h
    refine V.iload (n := 3) dX11_isTaken_52 rfl rfl ?_
    refine V.aload_n (n := 0) dX11_isTaken_54 rfl rfl ?_
    refine V.getI dX11_isTaken_55 lkX11_310 rfl rfl h (fun x1 h => ?_)
    refine V.icmp_ge (q := 96) dX11_isTaken_58 (by decide) rfl h (fun h => ?_) (fun h => ?_)
    · refine V.iload_n (n := 2) dX11_isTaken_96 rfl rfl ?_
      exact V.zret dX11_isTaken_97 rfl h
    · refine V.iload (n := 3) dX11_isTaken_61 rfl rfl ?_
      refine V.bipush (x := 6) dX11_isTaken_63 (by decide) rfl ?_
      refine V.icmp_ge (q := 96) dX11_isTaken_65 (by decide) rfl h (fun h => ?_) (fun h => ?_)
      · refine V.iload_n (n := 2) dX11_isTaken_96 rfl rfl ?_
        exact V.zret dX11_isTaken_97 rfl h
      · refine V.iload_n (n := 2) dX11_isTaken_68 rfl rfl ?_
        refine V.if_ne (q := 84) dX11_isTaken_69 (by decide) rfl h (fun h => ?_) (fun h => ?_)
        · exact V.sub [0, 1, 3] rfl (lab_X11_isTaken_84 ih h)
        · refine V.aload_n (n := 0) dX11_isTaken_72 rfl rfl ?_
          refine V.getR dX11_isTaken_73 lkX11_32 rfl rfl h (fun x2 h => ?_)
          refine V.iload (n := 3) dX11_isTaken_76 rfl rfl ?_
          refine V.lald dX11_isTaken_78 rfl h (fun x3 h => ?_)
          refine V.lload_n (n := 1) dX11_isTaken_79 rfl rfl ?_
          refine V.lif_ne (q := 88) dX11_isTaken_80 rfl dX11_isTaken_81 (by decide) rfl h (fun h => ?_) (fun h => ?_)
          · refine V.iconst (x := 0) dX11_isTaken_88 (by decide) rfl ?_
            exact V.sub [0, 1, 3] rfl (lab_X11_isTaken_89 ih h)
          · exact V.sub [0, 1, 3] rfl (lab_X11_isTaken_84 ih h)
def J_X11_isTaken_49 (v0 : Option Nat) (v1 : Int64) (v3 : Int32) (M : Mem) : Option (Int32 × Mem) :=
  J_X11_isTaken_52 FU v0 v1 v3 (0 : Int32) M
set_option maxRecDepth 20000 in
set_option maxHeartbeats 4000000 in
theorem lab_X11_isTaken_49 {G : Gt} {M0 M9 : Mem} {x9 : Int32} {v0 : Option Nat} {v1 : Int64} {v3 : Int32} {M : Mem} (h : J_X11_isTaken_49 v0 v1 v3 M = some (x9, M9)) : V G mX11_isTaken 0 M0 (some (vI x9)) M9 M 49 [(0, vR v0), (1, vL v1), (3, vI v3)] [] := by
  unfold J_X11_isTaken_49 at h
  refine V.iconst (x := 0) dX11_isTaken_49 (by decide) rfl ?_
  refine V.istore dX11_isTaken_50 (by decide) rfl rfl ?_
  exact V.sub [1, 2, 3, 0] rfl (lab_X11_isTaken_52 FU _ _ _ _ _ h)
def J_X11_isTaken_5 : Nat → Option Nat → Int64 → Int32 → Int32 → Mem → Option (Int32 × Mem)
  | 0 => fun _ _ _ _ _ => none
  | n + 1 => fun v0 v1 v3 v4 M =>
  (fI M 11 15 v0).bind fun x4 =>
  if x4 ≤ v4 then
  (J_X11_isTaken_49 v0 v1 v3 M)
  else
  (if (8 : Int32) ≤ v4 then
  (J_X11_isTaken_49 v0 v1 v3 M)
  else
  (if ¬ v3 = 0 then
  (J_X11_isTaken_37 (J_X11_isTaken_5 n) v0 v1 v4 M)
  else
  ((fR M 11 16 v0).bind fun x5 =>
  (aL M 21 x5 v4).bind fun x6 =>
  if ¬ x6 = v1 then
  (J_X11_isTaken_42 (J_X11_isTaken_5 n) v0 v1 v4 (0 : Int32) M)
  else
  (J_X11_isTaken_37 (J_X11_isTaken_5 n) v0 v1 v4 M))))
set_option maxRecDepth 20000 in
set_option maxHeartbeats 4000000 in
theorem lab_X11_isTaken_5 {G : Gt} {M0 M9 : Mem} {x9 : Int32} : ∀ (n : Nat) (v0 : Option Nat) (v1 : Int64) (v3 : Int32) (v4 : Int32) (M : Mem), J_X11_isTaken_5 n v0 v1 v3 v4 M = some (x9, M9) → V G mX11_isTaken 0 M0 (some (vI x9)) M9 M 5 [(0, vR v0), (1, vL v1), (3, vI v3), (4, vI v4)] [] := by
  intro n
  induction n with
  | zero => intro v0 v1 v3 v4 M h; exact nomatch h
  | succ n ih =>
    intro v0 v1 v3 v4 M h
    unfold J_X11_isTaken_5 at h
    refine V.iload (n := 3) dX11_isTaken_5 rfl rfl ?_
    refine V.aload_n (n := 0) dX11_isTaken_7 rfl rfl ?_
    refine V.getI dX11_isTaken_8 lkX11_307 rfl rfl h (fun x4 h => ?_)
    refine V.icmp_ge (q := 49) dX11_isTaken_11 (by decide) rfl h (fun h => ?_) (fun h => ?_)
    · exact V.sub [0, 1, 2] rfl (lab_X11_isTaken_49 h)
    · refine V.iload (n := 3) dX11_isTaken_14 rfl rfl ?_
      refine V.bipush (x := 8) dX11_isTaken_16 (by decide) rfl ?_
      refine V.icmp_ge (q := 49) dX11_isTaken_18 (by decide) rfl h (fun h => ?_) (fun h => ?_)
      · exact V.sub [0, 1, 2] rfl (lab_X11_isTaken_49 h)
      · refine V.iload_n (n := 2) dX11_isTaken_21 rfl rfl ?_
        refine V.if_ne (q := 37) dX11_isTaken_22 (by decide) rfl h (fun h => ?_) (fun h => ?_)
        · exact V.sub [0, 1, 3] rfl (lab_X11_isTaken_37 ih h)
        · refine V.aload_n (n := 0) dX11_isTaken_25 rfl rfl ?_
          refine V.getR dX11_isTaken_26 lkX11_25 rfl rfl h (fun x5 h => ?_)
          refine V.iload (n := 3) dX11_isTaken_29 rfl rfl ?_
          refine V.lald dX11_isTaken_31 rfl h (fun x6 h => ?_)
          refine V.lload_n (n := 1) dX11_isTaken_32 rfl rfl ?_
          refine V.lif_ne (q := 41) dX11_isTaken_33 rfl dX11_isTaken_34 (by decide) rfl h (fun h => ?_) (fun h => ?_)
          · refine V.iconst (x := 0) dX11_isTaken_41 (by decide) rfl ?_
            exact V.sub [0, 1, 3] rfl (lab_X11_isTaken_42 ih h)
          · exact V.sub [0, 1, 3] rfl (lab_X11_isTaken_37 ih h)
def L_X11_isTaken (v0 : Option Nat) (v1 : Int64) (M : Mem) : Option (Int32 × Mem) :=
  J_X11_isTaken_5 FU v0 v1 (0 : Int32) (0 : Int32) M
set_option maxRecDepth 20000 in
set_option maxHeartbeats 4000000 in
theorem lift_X11_isTaken {G : Gt} {M M9 : Mem} {x9 : Int32} {v0 : Option Nat} {v1 : Int64} (h : L_X11_isTaken v0 v1 M = some (x9, M9)) : Mt G mX11_isTaken 0 [vR v0, vL v1] M (some (vI x9)) M9 := by
  unfold L_X11_isTaken at h
  refine Mt.of (by decide +kernel) (Nat.le_of_ble_eq_true rfl) ?_
  have hh : V G mX11_isTaken 0 M (some (vI x9)) M9 M 0 [(0, vR v0), (1, vL v1)] [] := by
    refine V.iconst (x := 0) dX11_isTaken_0 (by decide) rfl ?_
    refine V.istore_n dX11_isTaken_1 rfl (by decide) rfl rfl ?_
    refine V.iconst (x := 0) dX11_isTaken_2 (by decide) rfl ?_
    refine V.istore dX11_isTaken_3 (by decide) rfl rfl ?_
    exact V.sub [2, 3, 1, 0] rfl (lab_X11_isTaken_5 FU _ _ _ _ _ h)
  exact hh
def J_X11_table_154 (v0 : Option Nat) (v5 : Int32) (M : Mem) : Option (Unit × Mem) :=
  (fI M 11 18 v0).bind fun x1 =>
  (ck M 11 v0).bind fun _ => (L_X11_mark v0 (0 : Int32) v5 x1 M).bind fun w2 =>
  (fI w2.2 11 18 v0).bind fun x3 =>
  (pI w2.2 11 18 v0 (x3 + (1 : Int32))).bind fun M4 =>
  some ((), M4)
set_option maxRecDepth 20000 in
set_option maxHeartbeats 4000000 in
theorem lab_X11_table_154 {G : Gt} {M0 M9 : Mem} {x9 : Unit} {v0 : Option Nat} {v5 : Int32} {M : Mem} (h : J_X11_table_154 v0 v5 M = some (x9, M9)) : V G mX11_table 128 M0 none M9 M 154 [(0, vR v0), (5, vI v5)] [] := by
  unfold J_X11_table_154 at h
  refine V.aload_n (n := 0) dX11_table_154 rfl rfl ?_
  refine V.iconst (x := 0) dX11_table_155 (by decide) rfl ?_
  refine V.iload (n := 1) dX11_table_156 rfl rfl ?_
  refine V.aload_n (n := 0) dX11_table_158 rfl rfl ?_
  refine V.getI dX11_table_159 lkX11_310 rfl rfl h (fun x1 h => ?_)
  refine V.callVv (d' := 0) (as := [vI (0 : Int32), vI v5, vI x1]) (st := []) dX11_table_162 meX11_mark mlX11_320 imX11_mark seX11_mark clsX11 rfl (by omega) (Nat.le_of_ble_eq_true rfl) rfl rfl h (fun v hv => lift_X11_mark hv) (fun w2 h => ?_)
  refine V.aload_n (n := 0) dX11_table_165 rfl rfl ?_
  refine V.dup dX11_table_166 rfl rfl ?_
  refine V.getI dX11_table_167 lkX11_310 rfl rfl h (fun x3 h => ?_)
  refine V.iconst (x := 1) dX11_table_170 (by decide) rfl ?_
  refine V.iadd dX11_table_171 rfl ?_
  refine V.putI dX11_table_172 lkX11_310 (Or.inl rfl) rfl rfl h (fun M4 h => ?_)
  exact V.vret dX11_table_175 rfl h
def J_X11_table_92 (v0 : Option Nat) (v2 : Int64) (v4 : Int32) (M : Mem) : Option (Unit × Mem) :=
  (ck M 11 v0).bind fun _ => (L_X11_must v0 (61 : Int32) M).bind fun w5 =>
  (fI w5.2 11 27 v0).bind fun x6 =>
  (pZ w5.2 11 33 v0 (1 : Int32)).bind fun M7 =>
  (ck M7 11 v0).bind fun _ => (L_X11_whole v0 M7).bind fun w8 =>
  (pZ w8.2 11 33 v0 (0 : Int32)).bind fun M9 =>
  (ck M9 11 v0).bind fun _ => (L_X11_must v0 (59 : Int32) M9).bind fun w10 =>
  (fI w10.2 11 18 v0).bind fun x11 =>
  if (6 : Int32) ≤ x11 then
  (J_X11_table_154 v0 x6 w10.2)
  else
  ((fR w10.2 11 19 v0).bind fun x12 =>
  (fI w10.2 11 18 v0).bind fun x13 =>
  (uL w10.2 21 x12 x13 v2).bind fun M14 =>
  (fR M14 11 20 v0).bind fun x15 =>
  (fI M14 11 18 v0).bind fun x16 =>
  (uI M14 20 x15 x16 v4).bind fun M17 =>
  J_X11_table_154 v0 x6 M17)
set_option maxRecDepth 20000 in
set_option maxHeartbeats 4000000 in
theorem lab_X11_table_92 {G : Gt} {M0 M9 : Mem} {x9 : Unit} {v0 : Option Nat} {v2 : Int64} {v4 : Int32} {M : Mem} (h : J_X11_table_92 v0 v2 v4 M = some (x9, M9)) : V G mX11_table 128 M0 none M9 M 92 [(0, vR v0), (2, vL v2), (4, vI v4)] [] := by
  unfold J_X11_table_92 at h
  refine V.aload_n (n := 0) dX11_table_92 rfl rfl ?_
  refine V.bipush (x := 61) dX11_table_93 (by decide) rfl ?_
  refine V.callVv (d' := 2) (as := [vI (61 : Int32)]) (st := []) dX11_table_95 meX11_must mlX11_274 imX11_must seX11_must clsX11 rfl (by omega) (Nat.le_of_ble_eq_true rfl) rfl rfl h (fun v hv => lift_X11_must hv) (fun w5 h => ?_)
  refine V.aload_n (n := 0) dX11_table_98 rfl rfl ?_
  refine V.getI dX11_table_99 lkX11_231 rfl rfl h (fun x6 h => ?_)
  refine V.istore dX11_table_102 (by decide) rfl rfl ?_
  refine V.aload_n (n := 1) dX11_table_104 rfl rfl ?_
  refine V.iconst (x := 1) dX11_table_105 (by decide) rfl ?_
  refine V.putZ dX11_table_106 lkX11_298 (Or.inl rfl) rfl rfl h (fun M7 h => ?_)
  refine V.aload_n (n := 1) dX11_table_109 rfl rfl ?_
  refine V.callVv (d' := 127) (as := []) (st := []) dX11_table_110 meX11_whole mlX11_317 imX11_whole seX11_whole clsX11 rfl (by omega) (Nat.le_of_ble_eq_true rfl) rfl rfl h (fun v hv => lift_X11_whole hv) (fun w8 h => ?_)
  refine V.aload_n (n := 1) dX11_table_113 rfl rfl ?_
  refine V.iconst (x := 0) dX11_table_114 (by decide) rfl ?_
  refine V.putZ dX11_table_115 lkX11_298 (Or.inl rfl) rfl rfl h (fun M9 h => ?_)
  refine V.aload_n (n := 1) dX11_table_118 rfl rfl ?_
  refine V.bipush (x := 59) dX11_table_119 (by decide) rfl ?_
  refine V.callVv (d' := 2) (as := [vI (59 : Int32)]) (st := []) dX11_table_121 meX11_must mlX11_274 imX11_must seX11_must clsX11 rfl (by omega) (Nat.le_of_ble_eq_true rfl) rfl rfl h (fun v hv => lift_X11_must hv) (fun w10 h => ?_)
  refine V.aload_n (n := 1) dX11_table_124 rfl rfl ?_
  refine V.getI dX11_table_125 lkX11_310 rfl rfl h (fun x11 h => ?_)
  refine V.bipush (x := 6) dX11_table_128 (by decide) rfl ?_
  refine V.icmp_ge (q := 154) dX11_table_130 (by decide) rfl h (fun h => ?_) (fun h => ?_)
  · exact V.sub [1, 0] rfl (lab_X11_table_154 h)
  · refine V.aload_n (n := 1) dX11_table_133 rfl rfl ?_
    refine V.getR dX11_table_134 lkX11_32 rfl rfl h (fun x12 h => ?_)
    refine V.aload_n (n := 1) dX11_table_137 rfl rfl ?_
    refine V.getI dX11_table_138 lkX11_310 rfl rfl h (fun x13 h => ?_)
    refine V.lload_n (n := 2) dX11_table_141 rfl rfl ?_
    refine V.last dX11_table_142 rfl h (fun M14 h => ?_)
    refine V.aload_n (n := 1) dX11_table_143 rfl rfl ?_
    refine V.getR dX11_table_144 lkX11_35 rfl rfl h (fun x15 h => ?_)
    refine V.aload_n (n := 1) dX11_table_147 rfl rfl ?_
    refine V.getI dX11_table_148 lkX11_310 rfl rfl h (fun x16 h => ?_)
    refine V.iload (n := 3) dX11_table_151 rfl rfl ?_
    refine V.iast dX11_table_153 rfl h (fun M17 h => ?_)
    exact V.sub [1, 0] rfl (lab_X11_table_154 h)
def J_X11_table_86 (v0 : Option Nat) (v1 : Int32) (v2 : Int64) (v4 : Int32) (M : Mem) : Option (Unit × Mem) :=
  (ck M 11 v0).bind fun _ => (L_X11_tells v0 (4 : Int32) v1 M).bind fun w18 =>
  J_X11_table_92 v0 v2 v4 w18.2
set_option maxRecDepth 20000 in
set_option maxHeartbeats 4000000 in
theorem lab_X11_table_86 {G : Gt} {M0 M9 : Mem} {x9 : Unit} {v0 : Option Nat} {v1 : Int32} {v2 : Int64} {v4 : Int32} {M : Mem} (h : J_X11_table_86 v0 v1 v2 v4 M = some (x9, M9)) : V G mX11_table 128 M0 none M9 M 86 [(0, vR v0), (1, vI v1), (2, vL v2), (4, vI v4)] [] := by
  unfold J_X11_table_86 at h
  refine V.aload_n (n := 0) dX11_table_86 rfl rfl ?_
  refine V.iconst (x := 4) dX11_table_87 (by decide) rfl ?_
  refine V.iload_n (n := 1) dX11_table_88 rfl rfl ?_
  refine V.callVv (d' := 0) (as := [vI (4 : Int32), vI v1]) (st := []) dX11_table_89 meX11_tells mlX11_237 imX11_tells seX11_tells clsX11 rfl (by omega) (Nat.le_of_ble_eq_true rfl) rfl rfl h (fun v hv => lift_X11_tells hv) (fun w18 h => ?_)
  exact V.sub [0, 2, 3] rfl (lab_X11_table_92 h)
def J_X11_table_54 (v0 : Option Nat) (v2 : Int64) (M : Mem) : Option (Unit × Mem) :=
  (fI M 11 7 v0).bind fun x19 =>
  (ck M 11 v0).bind fun _ => (L_X11_takesNumber v0 M).bind fun w20 =>
  (fI w20.2 11 11 v0).bind fun x21 =>
  if x21 = 0 then
  (if w20.1 < (1 : Int32) then
  (J_X11_table_86 v0 x19 v2 w20.1 w20.2)
  else
  (if w20.1 ≤ (12 : Int32) then
  (J_X11_table_92 v0 v2 w20.1 w20.2)
  else
  (J_X11_table_86 v0 x19 v2 w20.1 w20.2)))
  else
  (some ((), w20.2))
set_option maxRecDepth 20000 in
set_option maxHeartbeats 4000000 in
theorem lab_X11_table_54 {G : Gt} {M0 M9 : Mem} {x9 : Unit} {v0 : Option Nat} {v2 : Int64} {M : Mem} (h : J_X11_table_54 v0 v2 M = some (x9, M9)) : V G mX11_table 128 M0 none M9 M 54 [(0, vR v0), (2, vL v2)] [] := by
  unfold J_X11_table_54 at h
  refine V.aload_n (n := 0) dX11_table_54 rfl rfl ?_
  refine V.getI dX11_table_55 lkX11_189 rfl rfl h (fun x19 h => ?_)
  refine V.istore_n dX11_table_58 rfl (by decide) rfl rfl ?_
  refine V.aload_n (n := 1) dX11_table_59 rfl rfl ?_
  refine V.callVi (d' := 2) (as := []) (st := []) dX11_table_60 meX11_takesNumber mlX11_294 imX11_takesNumber seX11_takesNumber clsX11 rfl (by omega) (Nat.le_of_ble_eq_true rfl) rfl rfl h (fun v hv => lift_X11_takesNumber hv) (fun w20 h => ?_)
  refine V.istore dX11_table_63 (by decide) rfl rfl ?_
  refine V.aload_n (n := 2) dX11_table_65 rfl rfl ?_
  refine V.getI dX11_table_66 lkX11_215 rfl rfl h (fun x21 h => ?_)
  refine V.if_eq (q := 73) dX11_table_69 (by decide) rfl h (fun h => ?_) (fun h => ?_)
  · refine V.iload (n := 0) dX11_table_73 rfl rfl ?_
    refine V.iconst (x := 1) dX11_table_75 (by decide) rfl ?_
    refine V.icmp_lt (q := 86) dX11_table_76 (by decide) rfl h (fun h => ?_) (fun h => ?_)
    · exact V.sub [2, 1, 3, 0] rfl (lab_X11_table_86 h)
    · refine V.iload (n := 0) dX11_table_79 rfl rfl ?_
      refine V.bipush (x := 12) dX11_table_81 (by decide) rfl ?_
      refine V.icmp_le (q := 92) dX11_table_83 (by decide) rfl h (fun h => ?_) (fun h => ?_)
      · exact V.sub [2, 3, 0] rfl (lab_X11_table_92 h)
      · exact V.sub [2, 1, 3, 0] rfl (lab_X11_table_86 h)
  · exact V.vret dX11_table_72 rfl h
def J_X11_table_18 (v0 : Option Nat) (M : Mem) : Option (Unit × Mem) :=
  (ck M 11 v0).bind fun _ => (L_X11_advance v0 M).bind fun w22 =>
  (fI w22.2 11 7 v0).bind fun x23 =>
  (ck w22.2 11 v0).bind fun _ => (L_X11_takesName v0 w22.2).bind fun w24 =>
  (fI w24.2 11 11 v0).bind fun x25 =>
  if x25 = 0 then
  ((ck w24.2 11 v0).bind fun _ => (L_X11_isTaken v0 w24.1 w24.2).bind fun w26 =>
  if w26.1 = 0 then
  (J_X11_table_54 v0 w24.1 w26.2)
  else
  ((ck w26.2 11 v0).bind fun _ => (L_X11_tells v0 (2 : Int32) x23 w26.2).bind fun w27 =>
  J_X11_table_54 v0 w24.1 w27.2))
  else
  (some ((), w24.2))
set_option maxRecDepth 20000 in
set_option maxHeartbeats 4000000 in
theorem lab_X11_table_18 {G : Gt} {M0 M9 : Mem} {x9 : Unit} {v0 : Option Nat} {M : Mem} (h : J_X11_table_18 v0 M = some (x9, M9)) : V G mX11_table 128 M0 none M9 M 18 [(0, vR v0)] [] := by
  unfold J_X11_table_18 at h
  refine V.aload_n (n := 0) dX11_table_18 rfl rfl ?_
  refine V.callVv (d' := 1) (as := []) (st := []) dX11_table_19 meX11_advance mlX11_225 imX11_advance seX11_advance clsX11 rfl (by omega) (Nat.le_of_ble_eq_true rfl) rfl rfl h (fun v hv => lift_X11_advance hv) (fun w22 h => ?_)
  refine V.aload_n (n := 0) dX11_table_22 rfl rfl ?_
  refine V.getI dX11_table_23 lkX11_189 rfl rfl h (fun x23 h => ?_)
  refine V.istore_n dX11_table_26 rfl (by decide) rfl rfl ?_
  refine V.aload_n (n := 1) dX11_table_27 rfl rfl ?_
  refine V.callVl (d' := 2) (as := []) (st := []) dX11_table_28 meX11_takesName mlX11_251 imX11_takesName seX11_takesName clsX11 rfl (by omega) (Nat.le_of_ble_eq_true rfl) rfl rfl h (fun v hv => lift_X11_takesName hv) (fun w24 h => ?_)
  refine V.lstore_n dX11_table_31 rfl (by decide) rfl rfl ?_
  refine V.aload_n (n := 2) dX11_table_32 rfl rfl ?_
  refine V.getI dX11_table_33 lkX11_215 rfl rfl h (fun x25 h => ?_)
  refine V.if_eq (q := 40) dX11_table_36 (by decide) rfl h (fun h => ?_) (fun h => ?_)
  · refine V.aload_n (n := 2) dX11_table_40 rfl rfl ?_
    refine V.lload_n (n := 0) dX11_table_41 rfl rfl ?_
    refine V.callVi (d' := 0) (as := [vL w24.1]) (st := []) dX11_table_42 meX11_isTaken mlX11_313 imX11_isTaken seX11_isTaken clsX11 rfl (by omega) (Nat.le_of_ble_eq_true rfl) rfl rfl h (fun v hv => lift_X11_isTaken hv) (fun w26 h => ?_)
    refine V.if_eq (q := 54) dX11_table_45 (by decide) rfl h (fun h => ?_) (fun h => ?_)
    · exact V.sub [2, 0] rfl (lab_X11_table_54 h)
    · refine V.aload_n (n := 2) dX11_table_48 rfl rfl ?_
      refine V.iconst (x := 2) dX11_table_49 (by decide) rfl ?_
      refine V.iload_n (n := 1) dX11_table_50 rfl rfl ?_
      refine V.callVv (d' := 0) (as := [vI (2 : Int32), vI x23]) (st := []) dX11_table_51 meX11_tells mlX11_237 imX11_tells seX11_tells clsX11 rfl (by omega) (Nat.le_of_ble_eq_true rfl) rfl rfl h (fun v hv => lift_X11_tells hv) (fun w27 h => ?_)
      exact V.sub [2, 0] rfl (lab_X11_table_54 h)
  · exact V.vret dX11_table_39 rfl h
def L_X11_table (v0 : Option Nat) (M : Mem) : Option (Unit × Mem) :=
  (fI M 11 18 v0).bind fun x28 =>
  if x28 < (6 : Int32) then
  (J_X11_table_18 v0 M)
  else
  ((fI M 11 7 v0).bind fun x29 =>
  (ck M 11 v0).bind fun _ => (L_X11_tells v0 (5 : Int32) x29 M).bind fun w30 =>
  J_X11_table_18 v0 w30.2)
set_option maxRecDepth 20000 in
set_option maxHeartbeats 4000000 in
theorem lift_X11_table {G : Gt} {M M9 : Mem} {x9 : Unit} {v0 : Option Nat} (h : L_X11_table v0 M = some (x9, M9)) : Mt G mX11_table 128 [vR v0] M none M9 := by
  unfold L_X11_table at h
  refine Mt.of (by decide +kernel) (Nat.le_of_ble_eq_true rfl) ?_
  have hh : V G mX11_table 128 M none M9 M 0 [(0, vR v0)] [] := by
    refine V.aload_n (n := 0) dX11_table_0 rfl rfl ?_
    refine V.getI dX11_table_1 lkX11_310 rfl rfl h (fun x28 h => ?_)
    refine V.bipush (x := 6) dX11_table_4 (by decide) rfl ?_
    refine V.icmp_lt (q := 18) dX11_table_6 (by decide) rfl h (fun h => ?_) (fun h => ?_)
    · exact (lab_X11_table_18 h)
    · refine V.aload_n (n := 0) dX11_table_9 rfl rfl ?_
      refine V.iconst (x := 5) dX11_table_10 (by decide) rfl ?_
      refine V.aload_n (n := 0) dX11_table_11 rfl rfl ?_
      refine V.getI dX11_table_12 lkX11_189 rfl rfl h (fun x29 h => ?_)
      refine V.callVv (d' := 0) (as := [vI (5 : Int32), vI x29]) (st := []) dX11_table_15 meX11_tells mlX11_237 imX11_tells seX11_tells clsX11 rfl (by omega) (Nat.le_of_ble_eq_true rfl) rfl rfl h (fun v hv => lift_X11_tells hv) (fun w30 h => ?_)
      exact (lab_X11_table_18 h)
  exact hh
def J_X11_check_55 (v0 : Option Nat) (v1 : Int32) (v3 : Int32) (M : Mem) : Option (Unit × Mem) :=
  (ck M 11 v0).bind fun _ => (L_X11_must v0 (59 : Int32) M).bind fun w1 =>
  (ck w1.2 11 v0).bind fun _ => (L_X11_mark v0 (1 : Int32) v1 v3 w1.2).bind fun w2 =>
  some ((), w2.2)
set_option maxRecDepth 20000 in
set_option maxHeartbeats 4000000 in
theorem lab_X11_check_55 {G : Gt} {M0 M9 : Mem} {x9 : Unit} {v0 : Option Nat} {v1 : Int32} {v3 : Int32} {M : Mem} (h : J_X11_check_55 v0 v1 v3 M = some (x9, M9)) : V G mX11_check 128 M0 none M9 M 55 [(0, vR v0), (1, vI v1), (3, vI v3)] [] := by
  unfold J_X11_check_55 at h
  refine V.aload_n (n := 0) dX11_check_55 rfl rfl ?_
  refine V.bipush (x := 59) dX11_check_56 (by decide) rfl ?_
  refine V.callVv (d' := 2) (as := [vI (59 : Int32)]) (st := []) dX11_check_58 meX11_must mlX11_274 imX11_must seX11_must clsX11 rfl (by omega) (Nat.le_of_ble_eq_true rfl) rfl rfl h (fun v hv => lift_X11_must hv) (fun w1 h => ?_)
  refine V.aload_n (n := 0) dX11_check_61 rfl rfl ?_
  refine V.iconst (x := 1) dX11_check_62 (by decide) rfl ?_
  refine V.iload_n (n := 1) dX11_check_63 rfl rfl ?_
  refine V.iload_n (n := 2) dX11_check_64 rfl rfl ?_
  refine V.callVv (d' := 0) (as := [vI (1 : Int32), vI v1, vI v3]) (st := []) dX11_check_65 meX11_mark mlX11_320 imX11_mark seX11_mark clsX11 rfl (by omega) (Nat.le_of_ble_eq_true rfl) rfl rfl h (fun v hv => lift_X11_mark hv) (fun w2 h => ?_)
  exact V.vret dX11_check_68 rfl h
def J_X11_check_49 (v0 : Option Nat) (v1 : Int32) (v2 : Int32) (v3 : Int32) (M : Mem) : Option (Unit × Mem) :=
  (ck M 11 v0).bind fun _ => (L_X11_tells v0 (4 : Int32) v2 M).bind fun w3 =>
  J_X11_check_55 v0 v1 v3 w3.2
set_option maxRecDepth 20000 in
set_option maxHeartbeats 4000000 in
theorem lab_X11_check_49 {G : Gt} {M0 M9 : Mem} {x9 : Unit} {v0 : Option Nat} {v1 : Int32} {v2 : Int32} {v3 : Int32} {M : Mem} (h : J_X11_check_49 v0 v1 v2 v3 M = some (x9, M9)) : V G mX11_check 128 M0 none M9 M 49 [(0, vR v0), (1, vI v1), (2, vI v2), (3, vI v3)] [] := by
  unfold J_X11_check_49 at h
  refine V.aload_n (n := 0) dX11_check_49 rfl rfl ?_
  refine V.iconst (x := 4) dX11_check_50 (by decide) rfl ?_
  refine V.iload_n (n := 2) dX11_check_51 rfl rfl ?_
  refine V.callVv (d' := 0) (as := [vI (4 : Int32), vI v2]) (st := []) dX11_check_52 meX11_tells mlX11_237 imX11_tells seX11_tells clsX11 rfl (by omega) (Nat.le_of_ble_eq_true rfl) rfl rfl h (fun v hv => lift_X11_tells hv) (fun w3 h => ?_)
  exact V.sub [0, 1, 3] rfl (lab_X11_check_55 h)
def L_X11_check (v0 : Option Nat) (M : Mem) : Option (Unit × Mem) :=
  (ck M 11 v0).bind fun _ => (L_X11_advance v0 M).bind fun w4 =>
  (fI w4.2 11 27 v0).bind fun x5 =>
  (ck w4.2 11 v0).bind fun _ => (L_X11_whole v0 w4.2).bind fun w6 =>
  (ck w6.2 11 v0).bind fun _ => (L_X11_must v0 (58 : Int32) w6.2).bind fun w7 =>
  (fI w7.2 11 7 v0).bind fun x8 =>
  (ck w7.2 11 v0).bind fun _ => (L_X11_takesNumber v0 w7.2).bind fun w9 =>
  (fI w9.2 11 11 v0).bind fun x10 =>
  if x10 = 0 then
  (if w9.1 < (1 : Int32) then
  (J_X11_check_49 v0 x5 x8 w9.1 w9.2)
  else
  (if w9.1 ≤ (800 : Int32) then
  (J_X11_check_55 v0 x5 w9.1 w9.2)
  else
  (J_X11_check_49 v0 x5 x8 w9.1 w9.2)))
  else
  (some ((), w9.2))
set_option maxRecDepth 20000 in
set_option maxHeartbeats 4000000 in
theorem lift_X11_check {G : Gt} {M M9 : Mem} {x9 : Unit} {v0 : Option Nat} (h : L_X11_check v0 M = some (x9, M9)) : Mt G mX11_check 128 [vR v0] M none M9 := by
  unfold L_X11_check at h
  refine Mt.of (by decide +kernel) (Nat.le_of_ble_eq_true rfl) ?_
  have hh : V G mX11_check 128 M none M9 M 0 [(0, vR v0)] [] := by
    refine V.aload_n (n := 0) dX11_check_0 rfl rfl ?_
    refine V.callVv (d' := 1) (as := []) (st := []) dX11_check_1 meX11_advance mlX11_225 imX11_advance seX11_advance clsX11 rfl (by omega) (Nat.le_of_ble_eq_true rfl) rfl rfl h (fun v hv => lift_X11_advance hv) (fun w4 h => ?_)
    refine V.aload_n (n := 0) dX11_check_4 rfl rfl ?_
    refine V.getI dX11_check_5 lkX11_231 rfl rfl h (fun x5 h => ?_)
    refine V.istore_n dX11_check_8 rfl (by decide) rfl rfl ?_
    refine V.aload_n (n := 1) dX11_check_9 rfl rfl ?_
    refine V.callVv (d' := 127) (as := []) (st := []) dX11_check_10 meX11_whole mlX11_317 imX11_whole seX11_whole clsX11 rfl (by omega) (Nat.le_of_ble_eq_true rfl) rfl rfl h (fun v hv => lift_X11_whole hv) (fun w6 h => ?_)
    refine V.aload_n (n := 1) dX11_check_13 rfl rfl ?_
    refine V.bipush (x := 58) dX11_check_14 (by decide) rfl ?_
    refine V.callVv (d' := 2) (as := [vI (58 : Int32)]) (st := []) dX11_check_16 meX11_must mlX11_274 imX11_must seX11_must clsX11 rfl (by omega) (Nat.le_of_ble_eq_true rfl) rfl rfl h (fun v hv => lift_X11_must hv) (fun w7 h => ?_)
    refine V.aload_n (n := 1) dX11_check_19 rfl rfl ?_
    refine V.getI dX11_check_20 lkX11_189 rfl rfl h (fun x8 h => ?_)
    refine V.istore_n dX11_check_23 rfl (by decide) rfl rfl ?_
    refine V.aload_n (n := 2) dX11_check_24 rfl rfl ?_
    refine V.callVi (d' := 2) (as := []) (st := []) dX11_check_25 meX11_takesNumber mlX11_294 imX11_takesNumber seX11_takesNumber clsX11 rfl (by omega) (Nat.le_of_ble_eq_true rfl) rfl rfl h (fun v hv => lift_X11_takesNumber hv) (fun w9 h => ?_)
    refine V.istore_n dX11_check_28 rfl (by decide) rfl rfl ?_
    refine V.aload_n (n := 3) dX11_check_29 rfl rfl ?_
    refine V.getI dX11_check_30 lkX11_215 rfl rfl h (fun x10 h => ?_)
    refine V.if_eq (q := 37) dX11_check_33 (by decide) rfl h (fun h => ?_) (fun h => ?_)
    · refine V.iload_n (n := 0) dX11_check_37 rfl rfl ?_
      refine V.iconst (x := 1) dX11_check_38 (by decide) rfl ?_
      refine V.icmp_lt (q := 49) dX11_check_39 (by decide) rfl h (fun h => ?_) (fun h => ?_)
      · exact V.sub [3, 2, 1, 0] rfl (lab_X11_check_49 h)
      · refine V.iload_n (n := 0) dX11_check_42 rfl rfl ?_
        refine V.sipush (x := 800) dX11_check_43 (by decide) rfl ?_
        refine V.icmp_le (q := 55) dX11_check_46 (by decide) rfl h (fun h => ?_) (fun h => ?_)
        · exact V.sub [3, 2, 0] rfl (lab_X11_check_55 h)
        · exact V.sub [3, 2, 1, 0] rfl (lab_X11_check_49 h)
    · exact V.vret dX11_check_36 rfl h
  exact hh
def J_X11_block_47 (rF : Option Nat → Mem → Option (Unit × Mem)) (k_6 : Option Nat → Mem → Option (Unit × Mem)) (v0 : Option Nat) (M : Mem) : Option (Unit × Mem) :=
  (ck M 11 v0).bind fun _ => (rF v0 M).bind fun w1 =>
  k_6 v0 w1.2
set_option maxRecDepth 20000 in
set_option maxHeartbeats 4000000 in
theorem lab_X11_block_47 {G : Gt} {M0 M9 : Mem} {x9 : Unit} {dr : Nat} {rF : Option Nat → Mem → Option (Unit × Mem)} (hrF : ∀ (a0 : Option Nat) (Ma : Mem) (v : Unit × Mem), rF a0 Ma = some v → Mt G mX11_step dr [vR a0] Ma none v.2) {k_6 : Option Nat → Mem → Option (Unit × Mem)} (hk_6 : ∀ (v0 : Option Nat) (Ma : Mem), k_6 v0 Ma = some (x9, M9) → V G mX11_block (dr + 3) M0 none M9 Ma 6 [(0, vR v0)] []) {v0 : Option Nat} {M : Mem} (h : J_X11_block_47 rF k_6 v0 M = some (x9, M9)) : V G mX11_block (dr + 3) M0 none M9 M 47 [(0, vR v0)] [] := by
  unfold J_X11_block_47 at h
  refine V.aload_n (n := 0) dX11_block_47 rfl rfl ?_
  refine V.callVv (d' := dr) (as := []) (st := []) dX11_block_48 meX11_step mlX11_327 imX11_step seX11_step clsX11 rfl (by omega) (Nat.le_of_ble_eq_true rfl) rfl rfl h (fun v hv => hrF _ _ v hv) (fun w1 h => ?_)
  refine V.goto (q := 6) dX11_block_51 (by decide) ?_
  exact (hk_6 _ _ h)
def J_X11_block_61 (rF : Option Nat → Mem → Option (Unit × Mem)) (v0 : Option Nat) (M : Mem) : Option (Unit × Mem) :=
  (ck M 11 v0).bind fun _ => (L_X11_must v0 (125 : Int32) M).bind fun w2 =>
  some ((), w2.2)
set_option maxRecDepth 20000 in
set_option maxHeartbeats 4000000 in
theorem lab_X11_block_61 {G : Gt} {M0 M9 : Mem} {x9 : Unit} {dr : Nat} {rF : Option Nat → Mem → Option (Unit × Mem)} (hrF : ∀ (a0 : Option Nat) (Ma : Mem) (v : Unit × Mem), rF a0 Ma = some v → Mt G mX11_step dr [vR a0] Ma none v.2) {v0 : Option Nat} {M : Mem} (h : J_X11_block_61 rF v0 M = some (x9, M9)) : V G mX11_block (dr + 3) M0 none M9 M 61 [(0, vR v0)] [] := by
  unfold J_X11_block_61 at h
  refine V.aload_n (n := 0) dX11_block_61 rfl rfl ?_
  refine V.bipush (x := 125) dX11_block_62 (by decide) rfl ?_
  refine V.callVv (d' := 2) (as := [vI (125 : Int32)]) (st := []) dX11_block_64 meX11_must mlX11_274 imX11_must seX11_must clsX11 rfl (by omega) (Nat.le_of_ble_eq_true rfl) rfl rfl h (fun v hv => lift_X11_must hv) (fun w2 h => ?_)
  exact V.vret dX11_block_67 rfl h
def J_X11_block_6 (rF : Option Nat → Mem → Option (Unit × Mem)) : Nat → Option Nat → Mem → Option (Unit × Mem)
  | 0 => fun _ _ => none
  | n + 1 => fun v0 M =>
  (fI M 11 11 v0).bind fun x3 =>
  if ¬ x3 = 0 then
  (J_X11_block_61 rF v0 M)
  else
  ((ck M 11 v0).bind fun _ => (L_X11_isSign v0 (125 : Int32) M).bind fun w4 =>
  if ¬ w4.1 = 0 then
  (J_X11_block_61 rF v0 w4.2)
  else
  ((ck w4.2 11 v0).bind fun _ => (L_X11_isWord v0 (4 : Int32) w4.2).bind fun w5 =>
  if ¬ w5.1 = 0 then
  (J_X11_block_47 rF (J_X11_block_6 rF n) v0 w5.2)
  else
  ((ck w5.2 11 v0).bind fun _ => (L_X11_isWord v0 (5 : Int32) w5.2).bind fun w6 =>
  if ¬ w6.1 = 0 then
  (J_X11_block_47 rF (J_X11_block_6 rF n) v0 w6.2)
  else
  ((ck w6.2 11 v0).bind fun _ => (L_X11_isWord v0 (6 : Int32) w6.2).bind fun w7 =>
  if w7.1 = 0 then
  ((ck w7.2 11 v0).bind fun _ => (L_X11_stops v0 w7.2).bind fun w8 =>
  J_X11_block_6 rF n v0 w8.2)
  else
  (J_X11_block_47 rF (J_X11_block_6 rF n) v0 w7.2)))))
set_option maxRecDepth 20000 in
set_option maxHeartbeats 4000000 in
theorem lab_X11_block_6 {G : Gt} {M0 M9 : Mem} {x9 : Unit} {dr : Nat} {rF : Option Nat → Mem → Option (Unit × Mem)} (hrF : ∀ (a0 : Option Nat) (Ma : Mem) (v : Unit × Mem), rF a0 Ma = some v → Mt G mX11_step dr [vR a0] Ma none v.2) : ∀ (n : Nat) (v0 : Option Nat) (M : Mem), J_X11_block_6 rF n v0 M = some (x9, M9) → V G mX11_block (dr + 3) M0 none M9 M 6 [(0, vR v0)] [] := by
  intro n
  induction n with
  | zero => intro v0 M h; exact nomatch h
  | succ n ih =>
    intro v0 M h
    unfold J_X11_block_6 at h
    refine V.aload_n (n := 0) dX11_block_6 rfl rfl ?_
    refine V.getI dX11_block_7 lkX11_215 rfl rfl h (fun x3 h => ?_)
    refine V.if_ne (q := 61) dX11_block_10 (by decide) rfl h (fun h => ?_) (fun h => ?_)
    · exact (lab_X11_block_61 hrF h)
    · refine V.aload_n (n := 0) dX11_block_13 rfl rfl ?_
      refine V.bipush (x := 125) dX11_block_14 (by decide) rfl ?_
      refine V.callVi (d' := 0) (as := [vI (125 : Int32)]) (st := []) dX11_block_16 meX11_isSign mlX11_222 imX11_isSign seX11_isSign clsX11 rfl (by omega) (Nat.le_of_ble_eq_true rfl) rfl rfl h (fun v hv => lift_X11_isSign hv) (fun w4 h => ?_)
      refine V.if_ne (q := 61) dX11_block_19 (by decide) rfl h (fun h => ?_) (fun h => ?_)
      · exact (lab_X11_block_61 hrF h)
      · refine V.aload_n (n := 0) dX11_block_22 rfl rfl ?_
        refine V.iconst (x := 4) dX11_block_23 (by decide) rfl ?_
        refine V.callVi (d' := 0) (as := [vI (4 : Int32)]) (st := []) dX11_block_24 meX11_isWord mlX11_324 imX11_isWord seX11_isWord clsX11 rfl (by omega) (Nat.le_of_ble_eq_true rfl) rfl rfl h (fun v hv => lift_X11_isWord hv) (fun w5 h => ?_)
        refine V.if_ne (q := 47) dX11_block_27 (by decide) rfl h (fun h => ?_) (fun h => ?_)
        · exact (lab_X11_block_47 hrF ih h)
        · refine V.aload_n (n := 0) dX11_block_30 rfl rfl ?_
          refine V.iconst (x := 5) dX11_block_31 (by decide) rfl ?_
          refine V.callVi (d' := 0) (as := [vI (5 : Int32)]) (st := []) dX11_block_32 meX11_isWord mlX11_324 imX11_isWord seX11_isWord clsX11 rfl (by omega) (Nat.le_of_ble_eq_true rfl) rfl rfl h (fun v hv => lift_X11_isWord hv) (fun w6 h => ?_)
          refine V.if_ne (q := 47) dX11_block_35 (by decide) rfl h (fun h => ?_) (fun h => ?_)
          · exact (lab_X11_block_47 hrF ih h)
          · refine V.aload_n (n := 0) dX11_block_38 rfl rfl ?_
            refine V.bipush (x := 6) dX11_block_39 (by decide) rfl ?_
            refine V.callVi (d' := 0) (as := [vI (6 : Int32)]) (st := []) dX11_block_41 meX11_isWord mlX11_324 imX11_isWord seX11_isWord clsX11 rfl (by omega) (Nat.le_of_ble_eq_true rfl) rfl rfl h (fun v hv => lift_X11_isWord hv) (fun w7 h => ?_)
            refine V.if_eq (q := 54) dX11_block_44 (by decide) rfl h (fun h => ?_) (fun h => ?_)
            · refine V.aload_n (n := 0) dX11_block_54 rfl rfl ?_
              refine V.callVv (d' := 0) (as := []) (st := []) dX11_block_55 meX11_stops mlX11_228 imX11_stops seX11_stops clsX11 rfl (by omega) (Nat.le_of_ble_eq_true rfl) rfl rfl h (fun v hv => lift_X11_stops hv) (fun w8 h => ?_)
              refine V.goto (q := 6) dX11_block_58 (by decide) ?_
              exact (ih _ _ h)
            · exact (lab_X11_block_47 hrF ih h)
def L_X11_block (rF : Option Nat → Mem → Option (Unit × Mem)) (v0 : Option Nat) (M : Mem) : Option (Unit × Mem) :=
  (ck M 11 v0).bind fun _ => (L_X11_must v0 (123 : Int32) M).bind fun w9 =>
  J_X11_block_6 rF FU v0 w9.2
set_option maxRecDepth 20000 in
set_option maxHeartbeats 4000000 in
theorem lift_X11_block {G : Gt} {M M9 : Mem} {x9 : Unit} {v0 : Option Nat} {dr : Nat} {rF : Option Nat → Mem → Option (Unit × Mem)} (hrF : ∀ (a0 : Option Nat) (Ma : Mem) (v : Unit × Mem), rF a0 Ma = some v → Mt G mX11_step dr [vR a0] Ma none v.2) (h : L_X11_block rF v0 M = some (x9, M9)) : Mt G mX11_block (dr + 3) [vR v0] M none M9 := by
  unfold L_X11_block at h
  refine Mt.of (by decide +kernel) (Nat.le_of_ble_eq_true rfl) ?_
  have hh : V G mX11_block (dr + 3) M none M9 M 0 [(0, vR v0)] [] := by
    refine V.aload_n (n := 0) dX11_block_0 rfl rfl ?_
    refine V.bipush (x := 123) dX11_block_1 (by decide) rfl ?_
    refine V.callVv (d' := 2) (as := [vI (123 : Int32)]) (st := []) dX11_block_3 meX11_must mlX11_274 imX11_must seX11_must clsX11 rfl (by omega) (Nat.le_of_ble_eq_true rfl) rfl rfl h (fun v hv => lift_X11_must hv) (fun w9 h => ?_)
    exact (lab_X11_block_6 hrF FU _ _ h)
  exact hh
def J_X11_step_40 (rF : Option Nat → Mem → Option (Unit × Mem)) (v0 : Option Nat) (M : Mem) : Option (Unit × Mem) :=
  (fI M 11 22 v0).bind fun x1 =>
  (pI M 11 22 v0 (x1 + (1 : Int32))).bind fun M2 =>
  (ck M2 11 v0).bind fun _ => (L_X11_isWord v0 (4 : Int32) M2).bind fun w3 =>
  if w3.1 = 0 then
  ((ck w3.2 11 v0).bind fun _ => (L_X11_isWord v0 (5 : Int32) w3.2).bind fun w4 =>
  if w4.1 = 0 then
  ((fI w4.2 11 32 v0).bind fun x5 =>
  (pI w4.2 11 32 v0 (x5 + (1 : Int32))).bind fun M6 =>
  (ck M6 11 v0).bind fun _ => (L_X11_advance v0 M6).bind fun w7 =>
  (fI w7.2 11 21 v0).bind fun x8 =>
  (ck w7.2 11 v0).bind fun _ => (L_X11_mark v0 (2 : Int32) (0 : Int32) (0 : Int32) w7.2).bind fun w9 =>
  (ck w9.2 11 v0).bind fun _ => (L_X11_block rF v0 w9.2).bind fun w10 =>
  (ck w10.2 11 v0).bind fun _ => (L_X11_isWord v0 (7 : Int32) w10.2).bind fun w11 =>
  if ¬ w11.1 = 0 then
  ((ck w11.2 11 v0).bind fun _ => (L_X11_advance v0 w11.2).bind fun w12 =>
  (fI w12.2 11 21 v0).bind fun x13 =>
  (ck w12.2 11 v0).bind fun _ => (L_X11_mark v0 (3 : Int32) (0 : Int32) (0 : Int32) w12.2).bind fun w14 =>
  (ck w14.2 11 v0).bind fun _ => (L_X11_block rF v0 w14.2).bind fun w15 =>
  (fI w15.2 11 32 v0).bind fun x16 =>
  (pI w15.2 11 32 v0 (x16 - (1 : Int32))).bind fun M17 =>
  (fR M17 11 25 v0).bind fun x18 =>
  (uI M17 20 x18 x8 (x13 + (1 : Int32))).bind fun M19 =>
  (fR M19 11 25 v0).bind fun x20 =>
  (fI M19 11 21 v0).bind fun x21 =>
  (uI M19 20 x20 x13 x21).bind fun M22 =>
  (ck M22 11 v0).bind fun _ => (L_X11_mark v0 (4 : Int32) (0 : Int32) (0 : Int32) M22).bind fun w23 =>
  some ((), w23.2))
  else
  ((ck w11.2 11 v0).bind fun _ => (L_X11_stops v0 w11.2).bind fun w24 =>
  some ((), w24.2)))
  else
  ((ck w4.2 11 v0).bind fun _ => (L_X11_check v0 w4.2).bind fun w25 =>
  some ((), w25.2)))
  else
  ((ck w3.2 11 v0).bind fun _ => (L_X11_table v0 w3.2).bind fun w26 =>
  some ((), w26.2))
set_option maxRecDepth 20000 in
set_option maxHeartbeats 4000000 in
theorem lab_X11_step_40 {G : Gt} {M0 M9 : Mem} {x9 : Unit} {dr : Nat} {rF : Option Nat → Mem → Option (Unit × Mem)} (hrF : ∀ (a0 : Option Nat) (Ma : Mem) (v : Unit × Mem), rF a0 Ma = some v → Mt G mX11_step dr [vR a0] Ma none v.2) {v0 : Option Nat} {M : Mem} (h : J_X11_step_40 rF v0 M = some (x9, M9)) : V G mX11_step (dr + 129) M0 none M9 M 40 [(0, vR v0)] [] := by
  unfold J_X11_step_40 at h
  refine V.aload_n (n := 0) dX11_step_40 rfl rfl ?_
  refine V.dup dX11_step_41 rfl rfl ?_
  refine V.getI dX11_step_42 lkX11_333 rfl rfl h (fun x1 h => ?_)
  refine V.iconst (x := 1) dX11_step_45 (by decide) rfl ?_
  refine V.iadd dX11_step_46 rfl ?_
  refine V.putI dX11_step_47 lkX11_333 (Or.inl rfl) rfl rfl h (fun M2 h => ?_)
  refine V.aload_n (n := 0) dX11_step_50 rfl rfl ?_
  refine V.iconst (x := 4) dX11_step_51 (by decide) rfl ?_
  refine V.callVi (d' := 0) (as := [vI (4 : Int32)]) (st := []) dX11_step_52 meX11_isWord mlX11_324 imX11_isWord seX11_isWord clsX11 rfl (by omega) (Nat.le_of_ble_eq_true rfl) rfl rfl h (fun v hv => lift_X11_isWord hv) (fun w3 h => ?_)
  refine V.if_eq (q := 65) dX11_step_55 (by decide) rfl h (fun h => ?_) (fun h => ?_)
  · refine V.aload_n (n := 0) dX11_step_65 rfl rfl ?_
    refine V.iconst (x := 5) dX11_step_66 (by decide) rfl ?_
    refine V.callVi (d' := 0) (as := [vI (5 : Int32)]) (st := []) dX11_step_67 meX11_isWord mlX11_324 imX11_isWord seX11_isWord clsX11 rfl (by omega) (Nat.le_of_ble_eq_true rfl) rfl rfl h (fun v hv => lift_X11_isWord hv) (fun w4 h => ?_)
    refine V.if_eq (q := 80) dX11_step_70 (by decide) rfl h (fun h => ?_) (fun h => ?_)
    · refine V.aload_n (n := 0) dX11_step_80 rfl rfl ?_
      refine V.dup dX11_step_81 rfl rfl ?_
      refine V.getI dX11_step_82 lkX11_330 rfl rfl h (fun x5 h => ?_)
      refine V.iconst (x := 1) dX11_step_85 (by decide) rfl ?_
      refine V.iadd dX11_step_86 rfl ?_
      refine V.putI dX11_step_87 lkX11_330 (Or.inl rfl) rfl rfl h (fun M6 h => ?_)
      refine V.aload_n (n := 0) dX11_step_90 rfl rfl ?_
      refine V.callVv (d' := 1) (as := []) (st := []) dX11_step_91 meX11_advance mlX11_225 imX11_advance seX11_advance clsX11 rfl (by omega) (Nat.le_of_ble_eq_true rfl) rfl rfl h (fun v hv => lift_X11_advance hv) (fun w7 h => ?_)
      refine V.aload_n (n := 0) dX11_step_94 rfl rfl ?_
      refine V.getI dX11_step_95 lkX11_304 rfl rfl h (fun x8 h => ?_)
      refine V.istore_n dX11_step_98 rfl (by decide) rfl rfl ?_
      refine V.aload_n (n := 1) dX11_step_99 rfl rfl ?_
      refine V.iconst (x := 2) dX11_step_100 (by decide) rfl ?_
      refine V.iconst (x := 0) dX11_step_101 (by decide) rfl ?_
      refine V.iconst (x := 0) dX11_step_102 (by decide) rfl ?_
      refine V.callVv (d' := 0) (as := [vI (2 : Int32), vI (0 : Int32), vI (0 : Int32)]) (st := []) dX11_step_103 meX11_mark mlX11_320 imX11_mark seX11_mark clsX11 rfl (by omega) (Nat.le_of_ble_eq_true rfl) rfl rfl h (fun v hv => lift_X11_mark hv) (fun w9 h => ?_)
      refine V.aload_n (n := 1) dX11_step_106 rfl rfl ?_
      refine V.callVv (d' := dr + 3) (as := []) (st := []) dX11_step_107 meX11_block mlX11_342 imX11_block seX11_block clsX11 rfl (by omega) (Nat.le_of_ble_eq_true rfl) rfl rfl h (fun v hv => lift_X11_block hrF hv) (fun w10 h => ?_)
      refine V.aload_n (n := 1) dX11_step_110 rfl rfl ?_
      refine V.bipush (x := 7) dX11_step_111 (by decide) rfl ?_
      refine V.callVi (d' := 0) (as := [vI (7 : Int32)]) (st := []) dX11_step_113 meX11_isWord mlX11_324 imX11_isWord seX11_isWord clsX11 rfl (by omega) (Nat.le_of_ble_eq_true rfl) rfl rfl h (fun v hv => lift_X11_isWord hv) (fun w11 h => ?_)
      refine V.if_ne (q := 124) dX11_step_116 (by decide) rfl h (fun h => ?_) (fun h => ?_)
      · refine V.aload_n (n := 1) dX11_step_124 rfl rfl ?_
        refine V.callVv (d' := 1) (as := []) (st := []) dX11_step_125 meX11_advance mlX11_225 imX11_advance seX11_advance clsX11 rfl (by omega) (Nat.le_of_ble_eq_true rfl) rfl rfl h (fun v hv => lift_X11_advance hv) (fun w12 h => ?_)
        refine V.aload_n (n := 1) dX11_step_128 rfl rfl ?_
        refine V.getI dX11_step_129 lkX11_304 rfl rfl h (fun x13 h => ?_)
        refine V.istore_n dX11_step_132 rfl (by decide) rfl rfl ?_
        refine V.aload_n (n := 2) dX11_step_133 rfl rfl ?_
        refine V.iconst (x := 3) dX11_step_134 (by decide) rfl ?_
        refine V.iconst (x := 0) dX11_step_135 (by decide) rfl ?_
        refine V.iconst (x := 0) dX11_step_136 (by decide) rfl ?_
        refine V.callVv (d' := 0) (as := [vI (3 : Int32), vI (0 : Int32), vI (0 : Int32)]) (st := []) dX11_step_137 meX11_mark mlX11_320 imX11_mark seX11_mark clsX11 rfl (by omega) (Nat.le_of_ble_eq_true rfl) rfl rfl h (fun v hv => lift_X11_mark hv) (fun w14 h => ?_)
        refine V.aload_n (n := 2) dX11_step_140 rfl rfl ?_
        refine V.callVv (d' := dr + 3) (as := []) (st := []) dX11_step_141 meX11_block mlX11_342 imX11_block seX11_block clsX11 rfl (by omega) (Nat.le_of_ble_eq_true rfl) rfl rfl h (fun v hv => lift_X11_block hrF hv) (fun w15 h => ?_)
        refine V.aload_n (n := 2) dX11_step_144 rfl rfl ?_
        refine V.dup dX11_step_145 rfl rfl ?_
        refine V.getI dX11_step_146 lkX11_330 rfl rfl h (fun x16 h => ?_)
        refine V.iconst (x := 1) dX11_step_149 (by decide) rfl ?_
        refine V.isub dX11_step_150 rfl ?_
        refine V.putI dX11_step_151 lkX11_330 (Or.inl rfl) rfl rfl h (fun M17 h => ?_)
        refine V.aload_n (n := 2) dX11_step_154 rfl rfl ?_
        refine V.getR dX11_step_155 lkX11_44 rfl rfl h (fun x18 h => ?_)
        refine V.iload_n (n := 1) dX11_step_158 rfl rfl ?_
        refine V.iload_n (n := 0) dX11_step_159 rfl rfl ?_
        refine V.iconst (x := 1) dX11_step_160 (by decide) rfl ?_
        refine V.iadd dX11_step_161 rfl ?_
        refine V.iast dX11_step_162 rfl h (fun M19 h => ?_)
        refine V.aload_n (n := 2) dX11_step_163 rfl rfl ?_
        refine V.getR dX11_step_164 lkX11_44 rfl rfl h (fun x20 h => ?_)
        refine V.iload_n (n := 0) dX11_step_167 rfl rfl ?_
        refine V.aload_n (n := 2) dX11_step_168 rfl rfl ?_
        refine V.getI dX11_step_169 lkX11_304 rfl rfl h (fun x21 h => ?_)
        refine V.iast dX11_step_172 rfl h (fun M22 h => ?_)
        refine V.aload_n (n := 2) dX11_step_173 rfl rfl ?_
        refine V.iconst (x := 4) dX11_step_174 (by decide) rfl ?_
        refine V.iconst (x := 0) dX11_step_175 (by decide) rfl ?_
        refine V.iconst (x := 0) dX11_step_176 (by decide) rfl ?_
        refine V.callVv (d' := 0) (as := [vI (4 : Int32), vI (0 : Int32), vI (0 : Int32)]) (st := []) dX11_step_177 meX11_mark mlX11_320 imX11_mark seX11_mark clsX11 rfl (by omega) (Nat.le_of_ble_eq_true rfl) rfl rfl h (fun v hv => lift_X11_mark hv) (fun w23 h => ?_)
        exact V.vret dX11_step_180 rfl h
      · refine V.aload_n (n := 1) dX11_step_119 rfl rfl ?_
        refine V.callVv (d' := 0) (as := []) (st := []) dX11_step_120 meX11_stops mlX11_228 imX11_stops seX11_stops clsX11 rfl (by omega) (Nat.le_of_ble_eq_true rfl) rfl rfl h (fun v hv => lift_X11_stops hv) (fun w24 h => ?_)
        exact V.vret dX11_step_123 rfl h
    · refine V.aload_n (n := 0) dX11_step_73 rfl rfl ?_
      refine V.callVv (d' := 128) (as := []) (st := []) dX11_step_74 meX11_check mlX11_339 imX11_check seX11_check clsX11 rfl (by omega) (Nat.le_of_ble_eq_true rfl) rfl rfl h (fun v hv => lift_X11_check hv) (fun w25 h => ?_)
      refine V.goto (q := 180) dX11_step_77 (by decide) ?_
      exact V.vret dX11_step_180 rfl h
  · refine V.aload_n (n := 0) dX11_step_58 rfl rfl ?_
    refine V.callVv (d' := 128) (as := []) (st := []) dX11_step_59 meX11_table mlX11_336 imX11_table seX11_table clsX11 rfl (by omega) (Nat.le_of_ble_eq_true rfl) rfl rfl h (fun v hv => lift_X11_table hv) (fun w26 h => ?_)
    refine V.goto (q := 180) dX11_step_62 (by decide) ?_
    exact V.vret dX11_step_180 rfl h
def J_X11_step_22 (rF : Option Nat → Mem → Option (Unit × Mem)) (v0 : Option Nat) (M : Mem) : Option (Unit × Mem) :=
  (fI M 11 22 v0).bind fun x27 =>
  if x27 < (40 : Int32) then
  (J_X11_step_40 rF v0 M)
  else
  ((fI M 11 7 v0).bind fun x28 =>
  (ck M 11 v0).bind fun _ => (L_X11_tells v0 (5 : Int32) x28 M).bind fun w29 =>
  J_X11_step_40 rF v0 w29.2)
set_option maxRecDepth 20000 in
set_option maxHeartbeats 4000000 in
theorem lab_X11_step_22 {G : Gt} {M0 M9 : Mem} {x9 : Unit} {dr : Nat} {rF : Option Nat → Mem → Option (Unit × Mem)} (hrF : ∀ (a0 : Option Nat) (Ma : Mem) (v : Unit × Mem), rF a0 Ma = some v → Mt G mX11_step dr [vR a0] Ma none v.2) {v0 : Option Nat} {M : Mem} (h : J_X11_step_22 rF v0 M = some (x9, M9)) : V G mX11_step (dr + 129) M0 none M9 M 22 [(0, vR v0)] [] := by
  unfold J_X11_step_22 at h
  refine V.aload_n (n := 0) dX11_step_22 rfl rfl ?_
  refine V.getI dX11_step_23 lkX11_333 rfl rfl h (fun x27 h => ?_)
  refine V.bipush (x := 40) dX11_step_26 (by decide) rfl ?_
  refine V.icmp_lt (q := 40) dX11_step_28 (by decide) rfl h (fun h => ?_) (fun h => ?_)
  · exact (lab_X11_step_40 hrF h)
  · refine V.aload_n (n := 0) dX11_step_31 rfl rfl ?_
    refine V.iconst (x := 5) dX11_step_32 (by decide) rfl ?_
    refine V.aload_n (n := 0) dX11_step_33 rfl rfl ?_
    refine V.getI dX11_step_34 lkX11_189 rfl rfl h (fun x28 h => ?_)
    refine V.callVv (d' := 0) (as := [vI (5 : Int32), vI x28]) (st := []) dX11_step_37 meX11_tells mlX11_237 imX11_tells seX11_tells clsX11 rfl (by omega) (Nat.le_of_ble_eq_true rfl) rfl rfl h (fun v hv => lift_X11_tells hv) (fun w29 h => ?_)
    exact (lab_X11_step_40 hrF h)
def B_X11_step (rF : Option Nat → Mem → Option (Unit × Mem)) (v0 : Option Nat) (M : Mem) : Option (Unit × Mem) :=
  (ck M 11 v0).bind fun _ => (L_X11_isWord v0 (6 : Int32) M).bind fun w30 =>
  if w30.1 = 0 then
  (J_X11_step_22 rF v0 w30.2)
  else
  ((fI w30.2 11 32 v0).bind fun x31 =>
  if ¬ x31 = (3 : Int32) then
  (J_X11_step_22 rF v0 w30.2)
  else
  ((ck w30.2 11 v0).bind fun _ => (L_X11_stops v0 w30.2).bind fun w32 =>
  some ((), w32.2)))
set_option maxRecDepth 20000 in
set_option maxHeartbeats 4000000 in
theorem liftB_X11_step {G : Gt} {M M9 : Mem} {x9 : Unit} {v0 : Option Nat} {dr : Nat} {rF : Option Nat → Mem → Option (Unit × Mem)} (hrF : ∀ (a0 : Option Nat) (Ma : Mem) (v : Unit × Mem), rF a0 Ma = some v → Mt G mX11_step dr [vR a0] Ma none v.2) (h : B_X11_step rF v0 M = some (x9, M9)) : Mt G mX11_step (dr + 129) [vR v0] M none M9 := by
  unfold B_X11_step at h
  refine Mt.of (by decide +kernel) (Nat.le_of_ble_eq_true rfl) ?_
  have hh : V G mX11_step (dr + 129) M none M9 M 0 [(0, vR v0)] [] := by
    refine V.aload_n (n := 0) dX11_step_0 rfl rfl ?_
    refine V.bipush (x := 6) dX11_step_1 (by decide) rfl ?_
    refine V.callVi (d' := 0) (as := [vI (6 : Int32)]) (st := []) dX11_step_3 meX11_isWord mlX11_324 imX11_isWord seX11_isWord clsX11 rfl (by omega) (Nat.le_of_ble_eq_true rfl) rfl rfl h (fun v hv => lift_X11_isWord hv) (fun w30 h => ?_)
    refine V.if_eq (q := 22) dX11_step_6 (by decide) rfl h (fun h => ?_) (fun h => ?_)
    · exact (lab_X11_step_22 hrF h)
    · refine V.aload_n (n := 0) dX11_step_9 rfl rfl ?_
      refine V.getI dX11_step_10 lkX11_330 rfl rfl h (fun x31 h => ?_)
      refine V.iconst (x := 3) dX11_step_13 (by decide) rfl ?_
      refine V.icmp_ne (q := 22) dX11_step_14 (by decide) rfl h (fun h => ?_) (fun h => ?_)
      · exact (lab_X11_step_22 hrF h)
      · refine V.aload_n (n := 0) dX11_step_17 rfl rfl ?_
        refine V.callVv (d' := 0) (as := []) (st := []) dX11_step_18 meX11_stops mlX11_228 imX11_stops seX11_stops clsX11 rfl (by omega) (Nat.le_of_ble_eq_true rfl) rfl rfl h (fun v hv => lift_X11_stops hv) (fun w32 h => ?_)
        exact V.vret dX11_step_21 rfl h
  exact hh
def L_X11_step : Nat → Option Nat → Mem → Option (Unit × Mem)
  | 0 => fun _ _ => none
  | n + 1 => B_X11_step (L_X11_step n)
theorem lift_X11_step {G : Gt} : ∀ (n : Nat) {M M9 : Mem} {x9 : Unit} {v0 : Option Nat} (h : L_X11_step n v0 M = some (x9, M9)), Mt G mX11_step (129 * n) [vR v0] M none M9
  | 0 => fun h => nomatch h
  | n + 1 => fun h => liftB_X11_step (dr := 129 * n) (rF := L_X11_step n) (fun _ _ _ hv => lift_X11_step n hv) h
def J_X11_aConst_106 (v0 : Option Nat) (M : Mem) : Option (Unit × Mem) :=
  (fI M 11 15 v0).bind fun x1 =>
  (pI M 11 15 v0 (x1 + (1 : Int32))).bind fun M2 =>
  some ((), M2)
set_option maxRecDepth 20000 in
set_option maxHeartbeats 4000000 in
theorem lab_X11_aConst_106 {G : Gt} {M0 M9 : Mem} {x9 : Unit} {v0 : Option Nat} {M : Mem} (h : J_X11_aConst_106 v0 M = some (x9, M9)) : V G mX11_aConst 6 M0 none M9 M 106 [(0, vR v0)] [] := by
  unfold J_X11_aConst_106 at h
  refine V.aload_n (n := 0) dX11_aConst_106 rfl rfl ?_
  refine V.dup dX11_aConst_107 rfl rfl ?_
  refine V.getI dX11_aConst_108 lkX11_307 rfl rfl h (fun x1 h => ?_)
  refine V.iconst (x := 1) dX11_aConst_111 (by decide) rfl ?_
  refine V.iadd dX11_aConst_112 rfl ?_
  refine V.putI dX11_aConst_113 lkX11_307 (Or.inl rfl) rfl rfl h (fun M2 h => ?_)
  exact V.vret dX11_aConst_116 rfl h
def J_X11_aConst_54 (v0 : Option Nat) (v2 : Int64) (M : Mem) : Option (Unit × Mem) :=
  (ck M 11 v0).bind fun _ => (L_X11_must v0 (61 : Int32) M).bind fun w3 =>
  (fI w3.2 11 27 v0).bind fun x4 =>
  (ck w3.2 11 v0).bind fun _ => (L_X11_plainSum v0 w3.2).bind fun w5 =>
  (ck w5.2 11 v0).bind fun _ => (L_X11_must v0 (59 : Int32) w5.2).bind fun w6 =>
  (fI w6.2 11 15 v0).bind fun x7 =>
  if (8 : Int32) ≤ x7 then
  (J_X11_aConst_106 v0 w6.2)
  else
  ((fR w6.2 11 16 v0).bind fun x8 =>
  (fI w6.2 11 15 v0).bind fun x9 =>
  (uL w6.2 21 x8 x9 v2).bind fun M10 =>
  (fR M10 11 17 v0).bind fun x11 =>
  (fI M10 11 15 v0).bind fun x12 =>
  (uI M10 20 x11 x12 x4).bind fun M13 =>
  J_X11_aConst_106 v0 M13)
set_option maxRecDepth 20000 in
set_option maxHeartbeats 4000000 in
theorem lab_X11_aConst_54 {G : Gt} {M0 M9 : Mem} {x9 : Unit} {v0 : Option Nat} {v2 : Int64} {M : Mem} (h : J_X11_aConst_54 v0 v2 M = some (x9, M9)) : V G mX11_aConst 6 M0 none M9 M 54 [(0, vR v0), (2, vL v2)] [] := by
  unfold J_X11_aConst_54 at h
  refine V.aload_n (n := 0) dX11_aConst_54 rfl rfl ?_
  refine V.bipush (x := 61) dX11_aConst_55 (by decide) rfl ?_
  refine V.callVv (d' := 2) (as := [vI (61 : Int32)]) (st := []) dX11_aConst_57 meX11_must mlX11_274 imX11_must seX11_must clsX11 rfl (by omega) (Nat.le_of_ble_eq_true rfl) rfl rfl h (fun v hv => lift_X11_must hv) (fun w3 h => ?_)
  refine V.aload_n (n := 0) dX11_aConst_60 rfl rfl ?_
  refine V.getI dX11_aConst_61 lkX11_231 rfl rfl h (fun x4 h => ?_)
  refine V.istore dX11_aConst_64 (by decide) rfl rfl ?_
  refine V.aload_n (n := 1) dX11_aConst_66 rfl rfl ?_
  refine V.callVv (d' := 5) (as := []) (st := []) dX11_aConst_67 meX11_plainSum mlX11_345 imX11_plainSum seX11_plainSum clsX11 rfl (by omega) (Nat.le_of_ble_eq_true rfl) rfl rfl h (fun v hv => lift_X11_plainSum hv) (fun w5 h => ?_)
  refine V.aload_n (n := 1) dX11_aConst_70 rfl rfl ?_
  refine V.bipush (x := 59) dX11_aConst_71 (by decide) rfl ?_
  refine V.callVv (d' := 2) (as := [vI (59 : Int32)]) (st := []) dX11_aConst_73 meX11_must mlX11_274 imX11_must seX11_must clsX11 rfl (by omega) (Nat.le_of_ble_eq_true rfl) rfl rfl h (fun v hv => lift_X11_must hv) (fun w6 h => ?_)
  refine V.aload_n (n := 1) dX11_aConst_76 rfl rfl ?_
  refine V.getI dX11_aConst_77 lkX11_307 rfl rfl h (fun x7 h => ?_)
  refine V.bipush (x := 8) dX11_aConst_80 (by decide) rfl ?_
  refine V.icmp_ge (q := 106) dX11_aConst_82 (by decide) rfl h (fun h => ?_) (fun h => ?_)
  · exact V.sub [1] rfl (lab_X11_aConst_106 h)
  · refine V.aload_n (n := 1) dX11_aConst_85 rfl rfl ?_
    refine V.getR dX11_aConst_86 lkX11_25 rfl rfl h (fun x8 h => ?_)
    refine V.aload_n (n := 1) dX11_aConst_89 rfl rfl ?_
    refine V.getI dX11_aConst_90 lkX11_307 rfl rfl h (fun x9 h => ?_)
    refine V.lload_n (n := 2) dX11_aConst_93 rfl rfl ?_
    refine V.last dX11_aConst_94 rfl h (fun M10 h => ?_)
    refine V.aload_n (n := 1) dX11_aConst_95 rfl rfl ?_
    refine V.getR dX11_aConst_96 lkX11_28 rfl rfl h (fun x11 h => ?_)
    refine V.aload_n (n := 1) dX11_aConst_99 rfl rfl ?_
    refine V.getI dX11_aConst_100 lkX11_307 rfl rfl h (fun x12 h => ?_)
    refine V.iload (n := 0) dX11_aConst_103 rfl rfl ?_
    refine V.iast dX11_aConst_105 rfl h (fun M13 h => ?_)
    exact V.sub [1] rfl (lab_X11_aConst_106 h)
def J_X11_aConst_18 (v0 : Option Nat) (M : Mem) : Option (Unit × Mem) :=
  (ck M 11 v0).bind fun _ => (L_X11_advance v0 M).bind fun w14 =>
  (fI w14.2 11 7 v0).bind fun x15 =>
  (ck w14.2 11 v0).bind fun _ => (L_X11_takesName v0 w14.2).bind fun w16 =>
  (fI w16.2 11 11 v0).bind fun x17 =>
  if x17 = 0 then
  ((ck w16.2 11 v0).bind fun _ => (L_X11_isTaken v0 w16.1 w16.2).bind fun w18 =>
  if w18.1 = 0 then
  (J_X11_aConst_54 v0 w16.1 w18.2)
  else
  ((ck w18.2 11 v0).bind fun _ => (L_X11_tells v0 (2 : Int32) x15 w18.2).bind fun w19 =>
  J_X11_aConst_54 v0 w16.1 w19.2))
  else
  (some ((), w16.2))
set_option maxRecDepth 20000 in
set_option maxHeartbeats 4000000 in
theorem lab_X11_aConst_18 {G : Gt} {M0 M9 : Mem} {x9 : Unit} {v0 : Option Nat} {M : Mem} (h : J_X11_aConst_18 v0 M = some (x9, M9)) : V G mX11_aConst 6 M0 none M9 M 18 [(0, vR v0)] [] := by
  unfold J_X11_aConst_18 at h
  refine V.aload_n (n := 0) dX11_aConst_18 rfl rfl ?_
  refine V.callVv (d' := 1) (as := []) (st := []) dX11_aConst_19 meX11_advance mlX11_225 imX11_advance seX11_advance clsX11 rfl (by omega) (Nat.le_of_ble_eq_true rfl) rfl rfl h (fun v hv => lift_X11_advance hv) (fun w14 h => ?_)
  refine V.aload_n (n := 0) dX11_aConst_22 rfl rfl ?_
  refine V.getI dX11_aConst_23 lkX11_189 rfl rfl h (fun x15 h => ?_)
  refine V.istore_n dX11_aConst_26 rfl (by decide) rfl rfl ?_
  refine V.aload_n (n := 1) dX11_aConst_27 rfl rfl ?_
  refine V.callVl (d' := 2) (as := []) (st := []) dX11_aConst_28 meX11_takesName mlX11_251 imX11_takesName seX11_takesName clsX11 rfl (by omega) (Nat.le_of_ble_eq_true rfl) rfl rfl h (fun v hv => lift_X11_takesName hv) (fun w16 h => ?_)
  refine V.lstore_n dX11_aConst_31 rfl (by decide) rfl rfl ?_
  refine V.aload_n (n := 2) dX11_aConst_32 rfl rfl ?_
  refine V.getI dX11_aConst_33 lkX11_215 rfl rfl h (fun x17 h => ?_)
  refine V.if_eq (q := 40) dX11_aConst_36 (by decide) rfl h (fun h => ?_) (fun h => ?_)
  · refine V.aload_n (n := 2) dX11_aConst_40 rfl rfl ?_
    refine V.lload_n (n := 0) dX11_aConst_41 rfl rfl ?_
    refine V.callVi (d' := 0) (as := [vL w16.1]) (st := []) dX11_aConst_42 meX11_isTaken mlX11_313 imX11_isTaken seX11_isTaken clsX11 rfl (by omega) (Nat.le_of_ble_eq_true rfl) rfl rfl h (fun v hv => lift_X11_isTaken hv) (fun w18 h => ?_)
    refine V.if_eq (q := 54) dX11_aConst_45 (by decide) rfl h (fun h => ?_) (fun h => ?_)
    · exact V.sub [2, 0] rfl (lab_X11_aConst_54 h)
    · refine V.aload_n (n := 2) dX11_aConst_48 rfl rfl ?_
      refine V.iconst (x := 2) dX11_aConst_49 (by decide) rfl ?_
      refine V.iload_n (n := 1) dX11_aConst_50 rfl rfl ?_
      refine V.callVv (d' := 0) (as := [vI (2 : Int32), vI x15]) (st := []) dX11_aConst_51 meX11_tells mlX11_237 imX11_tells seX11_tells clsX11 rfl (by omega) (Nat.le_of_ble_eq_true rfl) rfl rfl h (fun v hv => lift_X11_tells hv) (fun w19 h => ?_)
      exact V.sub [2, 0] rfl (lab_X11_aConst_54 h)
  · exact V.vret dX11_aConst_39 rfl h
def L_X11_aConst (v0 : Option Nat) (M : Mem) : Option (Unit × Mem) :=
  (fI M 11 15 v0).bind fun x20 =>
  if x20 < (8 : Int32) then
  (J_X11_aConst_18 v0 M)
  else
  ((fI M 11 7 v0).bind fun x21 =>
  (ck M 11 v0).bind fun _ => (L_X11_tells v0 (5 : Int32) x21 M).bind fun w22 =>
  J_X11_aConst_18 v0 w22.2)
set_option maxRecDepth 20000 in
set_option maxHeartbeats 4000000 in
theorem lift_X11_aConst {G : Gt} {M M9 : Mem} {x9 : Unit} {v0 : Option Nat} (h : L_X11_aConst v0 M = some (x9, M9)) : Mt G mX11_aConst 6 [vR v0] M none M9 := by
  unfold L_X11_aConst at h
  refine Mt.of (by decide +kernel) (Nat.le_of_ble_eq_true rfl) ?_
  have hh : V G mX11_aConst 6 M none M9 M 0 [(0, vR v0)] [] := by
    refine V.aload_n (n := 0) dX11_aConst_0 rfl rfl ?_
    refine V.getI dX11_aConst_1 lkX11_307 rfl rfl h (fun x20 h => ?_)
    refine V.bipush (x := 8) dX11_aConst_4 (by decide) rfl ?_
    refine V.icmp_lt (q := 18) dX11_aConst_6 (by decide) rfl h (fun h => ?_) (fun h => ?_)
    · exact (lab_X11_aConst_18 h)
    · refine V.aload_n (n := 0) dX11_aConst_9 rfl rfl ?_
      refine V.iconst (x := 5) dX11_aConst_10 (by decide) rfl ?_
      refine V.aload_n (n := 0) dX11_aConst_11 rfl rfl ?_
      refine V.getI dX11_aConst_12 lkX11_189 rfl rfl h (fun x21 h => ?_)
      refine V.callVv (d' := 0) (as := [vI (5 : Int32), vI x21]) (st := []) dX11_aConst_15 meX11_tells mlX11_237 imX11_tells seX11_tells clsX11 rfl (by omega) (Nat.le_of_ble_eq_true rfl) rfl rfl h (fun v hv => lift_X11_tells hv) (fun w22 h => ?_)
      exact (lab_X11_aConst_18 h)
  exact hh
def J_X11_rule_16 (v0 : Option Nat) (M : Mem) : Option (Unit × Mem) :=
  (ck M 11 v0).bind fun _ => (L_X11_advance v0 M).bind fun w1 =>
  (fI w1.2 11 27 v0).bind fun x2 =>
  (pZ w1.2 11 34 v0 (1 : Int32)).bind fun M3 =>
  (ck M3 11 v0).bind fun _ => (L_X11_whole v0 M3).bind fun w4 =>
  (pZ w4.2 11 34 v0 (0 : Int32)).bind fun M5 =>
  (ck M5 11 v0).bind fun _ => (L_X11_must v0 (59 : Int32) M5).bind fun w6 =>
  (fI w6.2 11 26 v0).bind fun x7 =>
  if 0 ≤ x7 then
  (some ((), w6.2))
  else
  ((pI w6.2 11 26 v0 x2).bind fun M8 =>
  some ((), M8))
set_option maxRecDepth 20000 in
set_option maxHeartbeats 4000000 in
theorem lab_X11_rule_16 {G : Gt} {M0 M9 : Mem} {x9 : Unit} {v0 : Option Nat} {M : Mem} (h : J_X11_rule_16 v0 M = some (x9, M9)) : V G mX11_rule 128 M0 none M9 M 16 [(0, vR v0)] [] := by
  unfold J_X11_rule_16 at h
  refine V.aload_n (n := 0) dX11_rule_16 rfl rfl ?_
  refine V.callVv (d' := 1) (as := []) (st := []) dX11_rule_17 meX11_advance mlX11_225 imX11_advance seX11_advance clsX11 rfl (by omega) (Nat.le_of_ble_eq_true rfl) rfl rfl h (fun v hv => lift_X11_advance hv) (fun w1 h => ?_)
  refine V.aload_n (n := 0) dX11_rule_20 rfl rfl ?_
  refine V.getI dX11_rule_21 lkX11_231 rfl rfl h (fun x2 h => ?_)
  refine V.istore_n dX11_rule_24 rfl (by decide) rfl rfl ?_
  refine V.aload_n (n := 1) dX11_rule_25 rfl rfl ?_
  refine V.iconst (x := 1) dX11_rule_26 (by decide) rfl ?_
  refine V.putZ dX11_rule_27 lkX11_301 (Or.inl rfl) rfl rfl h (fun M3 h => ?_)
  refine V.aload_n (n := 1) dX11_rule_30 rfl rfl ?_
  refine V.callVv (d' := 127) (as := []) (st := []) dX11_rule_31 meX11_whole mlX11_317 imX11_whole seX11_whole clsX11 rfl (by omega) (Nat.le_of_ble_eq_true rfl) rfl rfl h (fun v hv => lift_X11_whole hv) (fun w4 h => ?_)
  refine V.aload_n (n := 1) dX11_rule_34 rfl rfl ?_
  refine V.iconst (x := 0) dX11_rule_35 (by decide) rfl ?_
  refine V.putZ dX11_rule_36 lkX11_301 (Or.inl rfl) rfl rfl h (fun M5 h => ?_)
  refine V.aload_n (n := 1) dX11_rule_39 rfl rfl ?_
  refine V.bipush (x := 59) dX11_rule_40 (by decide) rfl ?_
  refine V.callVv (d' := 2) (as := [vI (59 : Int32)]) (st := []) dX11_rule_42 meX11_must mlX11_274 imX11_must seX11_must clsX11 rfl (by omega) (Nat.le_of_ble_eq_true rfl) rfl rfl h (fun v hv => lift_X11_must hv) (fun w6 h => ?_)
  refine V.aload_n (n := 1) dX11_rule_45 rfl rfl ?_
  refine V.getI dX11_rule_46 lkX11_348 rfl rfl h (fun x7 h => ?_)
  refine V.if_ge (q := 57) dX11_rule_49 (by decide) rfl h (fun h => ?_) (fun h => ?_)
  · exact V.vret dX11_rule_57 rfl h
  · refine V.aload_n (n := 1) dX11_rule_52 rfl rfl ?_
    refine V.iload_n (n := 0) dX11_rule_53 rfl rfl ?_
    refine V.putI dX11_rule_54 lkX11_348 (Or.inl rfl) rfl rfl h (fun M8 h => ?_)
    exact V.vret dX11_rule_57 rfl h
def L_X11_rule (v0 : Option Nat) (M : Mem) : Option (Unit × Mem) :=
  (fI M 11 26 v0).bind fun x9 =>
  if x9 < 0 then
  (J_X11_rule_16 v0 M)
  else
  ((fI M 11 7 v0).bind fun x10 =>
  (ck M 11 v0).bind fun _ => (L_X11_tells v0 (2 : Int32) x10 M).bind fun w11 =>
  J_X11_rule_16 v0 w11.2)
set_option maxRecDepth 20000 in
set_option maxHeartbeats 4000000 in
theorem lift_X11_rule {G : Gt} {M M9 : Mem} {x9 : Unit} {v0 : Option Nat} (h : L_X11_rule v0 M = some (x9, M9)) : Mt G mX11_rule 128 [vR v0] M none M9 := by
  unfold L_X11_rule at h
  refine Mt.of (by decide +kernel) (Nat.le_of_ble_eq_true rfl) ?_
  have hh : V G mX11_rule 128 M none M9 M 0 [(0, vR v0)] [] := by
    refine V.aload_n (n := 0) dX11_rule_0 rfl rfl ?_
    refine V.getI dX11_rule_1 lkX11_348 rfl rfl h (fun x9 h => ?_)
    refine V.if_lt (q := 16) dX11_rule_4 (by decide) rfl h (fun h => ?_) (fun h => ?_)
    · exact (lab_X11_rule_16 h)
    · refine V.aload_n (n := 0) dX11_rule_7 rfl rfl ?_
      refine V.iconst (x := 2) dX11_rule_8 (by decide) rfl ?_
      refine V.aload_n (n := 0) dX11_rule_9 rfl rfl ?_
      refine V.getI dX11_rule_10 lkX11_189 rfl rfl h (fun x10 h => ?_)
      refine V.callVv (d' := 0) (as := [vI (2 : Int32), vI x10]) (st := []) dX11_rule_13 meX11_tells mlX11_237 imX11_tells seX11_tells clsX11 rfl (by omega) (Nat.le_of_ble_eq_true rfl) rfl rfl h (fun v hv => lift_X11_tells hv) (fun w11 h => ?_)
      exact (lab_X11_rule_16 h)
  exact hh
