-- ===== the memory as a mathematical value; what a cell of the heap is by it; the judgements V (a walk) and Mt (a method) =====
abbrev TV : Type := Int32 ⊕ Int64 ⊕ Option Nat ⊕ Option Nat
abbrev vI (x : Int32) : TV := .inl x
abbrev vL (x : Int64) : TV := .inr (.inl x)
abbrev vR (r : Option Nat) : TV := .inr (.inr (.inl r))
/-- a reference to what stood there before (absolute) -/
abbrev vX (r : Option Nat) : TV := .inr (.inr (.inr r))
def rv (b : Nat) (r : Option Nat) : Value := match r with
  | none => .null
  | some a => .ref (b + a)
def xv (r : Option Nat) : Value := match r with
  | none => .null
  | some a => .ref a
def tv (b : Nat) (v : TV) : Value := match v with
  | .inl x => .int x
  | .inr (.inl x) => .long x
  | .inr (.inr (.inl r)) => rv b r
  | .inr (.inr (.inr r)) => xv r
def tc (v : TV) : Nat := match v with
  | .inr (.inl _) => 2
  | _ => 1
theorem tv_cat (b : Nat) (v : TV) : (tv b v).category = tc v := by
  rcases v with x | x | r | r
  · rfl
  · rfl
  · cases r <;> rfl
  · cases r <;> rfl
/-- cells and slots so far; kind and length by address; ints, longs, references by address and place -/
abbrev Mem : Type := (Nat × Nat) × (Nat → Nat × Nat) × (Nat → Nat → Int32) × (Nat → Nat → Int64) × (Nat → Nat → Option Nat)
def nc (M : Mem) : Nat := M.1.1
def ns (M : Mem) : Nat := M.1.2
def kd (M : Mem) (a : Nat) : Nat := (M.2.1 a).1
def ln (M : Mem) (a : Nat) : Nat := (M.2.1 a).2
def gi (M : Mem) (a j : Nat) : Int32 := M.2.2.1 a j
def gl (M : Mem) (a j : Nat) : Int64 := M.2.2.2.1 a j
def gr (M : Mem) (a j : Nat) : Option Nat := M.2.2.2.2 a j
def si (M : Mem) (a j : Nat) (x : Int32) : Mem := (M.1, M.2.1, (fun p q => if p = a ∧ q = j then x else M.2.2.1 p q), M.2.2.2.1, M.2.2.2.2)
def sl (M : Mem) (a j : Nat) (x : Int64) : Mem := (M.1, M.2.1, M.2.2.1, (fun p q => if p = a ∧ q = j then x else M.2.2.2.1 p q), M.2.2.2.2)
def sr (M : Mem) (a j : Nat) (x : Option Nat) : Mem := (M.1, M.2.1, M.2.2.1, M.2.2.2.1, (fun p q => if p = a ∧ q = j then x else M.2.2.2.2 p q))
/-- a new cell of kind k, length n, z slots -/
def nw (M : Mem) (k n z : Nat) : Mem := ((nc M + 1, ns M + z), (fun p => if p = nc M then (k, n) else M.2.1 p), (fun p q => if p = nc M then 0 else M.2.2.1 p q), (fun p q => if p = nc M then 0 else M.2.2.2.1 p q), (fun p q => if p = nc M then none else M.2.2.2.2 p q))
section MemRows
variable {M : Mem} {a j p q k n z : Nat} {x : Int32} {y : Int64} {r : Option Nat}
theorem nc_si : nc (si M a j x) = nc M := rfl
theorem nc_sl : nc (sl M a j y) = nc M := rfl
theorem nc_sr : nc (sr M a j r) = nc M := rfl
theorem ns_si : ns (si M a j x) = ns M := rfl
theorem ns_sl : ns (sl M a j y) = ns M := rfl
theorem ns_sr : ns (sr M a j r) = ns M := rfl
theorem kd_si : kd (si M a j x) p = kd M p := rfl
theorem kd_sl : kd (sl M a j y) p = kd M p := rfl
theorem kd_sr : kd (sr M a j r) p = kd M p := rfl
theorem ln_si : ln (si M a j x) p = ln M p := rfl
theorem ln_sl : ln (sl M a j y) p = ln M p := rfl
theorem ln_sr : ln (sr M a j r) p = ln M p := rfl
theorem gi_si : gi (si M a j x) p q = if p = a ∧ q = j then x else gi M p q := rfl
theorem gi_sl : gi (sl M a j y) p q = gi M p q := rfl
theorem gi_sr : gi (sr M a j r) p q = gi M p q := rfl
theorem gl_si : gl (si M a j x) p q = gl M p q := rfl
theorem gl_sl : gl (sl M a j y) p q = if p = a ∧ q = j then y else gl M p q := rfl
theorem gl_sr : gl (sr M a j r) p q = gl M p q := rfl
theorem gr_si : gr (si M a j x) p q = gr M p q := rfl
theorem gr_sl : gr (sl M a j y) p q = gr M p q := rfl
theorem gr_sr : gr (sr M a j r) p q = if p = a ∧ q = j then r else gr M p q := rfl
theorem nc_nw : nc (nw M k n z) = nc M + 1 := rfl
theorem ns_nw : ns (nw M k n z) = ns M + z := rfl
theorem kd_nw : kd (nw M k n z) p = if p = nc M then k else kd M p := by unfold kd nw; dsimp only; split <;> rfl
theorem ln_nw : ln (nw M k n z) p = if p = nc M then n else ln M p := by unfold ln nw; dsimp only; split <;> rfl
theorem gi_nw : gi (nw M k n z) p q = if p = nc M then 0 else gi M p q := rfl
theorem gl_nw : gl (nw M k n z) p q = if p = nc M then 0 else gl M p q := rfl
theorem gr_nw : gr (nw M k n z) p q = if p = nc M then none else gr M p q := rfl
end MemRows
-- kinds: 0 .. 11 the objects of vwCl; 20 int[], 21 long[], 22 char[], 23 byte[], 24 boolean[], 25 Sheet[], 26 Tariff[], 27 Frame[], 28 Voyage[]
def aty (k : Nat) : FieldType := match k with
  | 20 => .int
  | 21 => .long
  | 22 => .char
  | 23 => .byte
  | 24 => .boolean
  | 25 => .object RX6
  | 26 => .object RX8
  | 27 => .object RX2
  | _ => .object RX9
/-- the class of the objects in an array of references -/
def acn (k : Nat) : String := match k with
  | 25 => RX6
  | 26 => RX8
  | 27 => RX2
  | _ => RX9
/-- the kind of the objects in an array of references -/
def acm (k : Nat) : Nat := match k with
  | 25 => 6
  | 26 => 8
  | 27 => 2
  | _ => 9
def tg (t : FieldType) : Nat := match t with
  | .long => 1
  | .object _ => 2
  | .array _ => 2
  | _ => 0
def tyF (k : Nat) : Nat → FieldType := match k with
  | 0 => tyX0
  | 1 => tyX1
  | 2 => tyX2
  | 3 => tyX3
  | 4 => tyX4
  | 5 => tyX5
  | 6 => tyX6
  | 7 => tyX7
  | 8 => tyX8
  | 9 => tyX9
  | 10 => tyX10
  | _ => tyX11
def nF (k : Nat) : Nat := match k with
  | 0 => 17
  | 1 => 4
  | 2 => 6
  | 3 => 9
  | 4 => 8
  | 5 => 5
  | 6 => 13
  | 7 => 7
  | 8 => 8
  | 9 => 9
  | 10 => 9
  | _ => 85
def sv (b t : Nat) (M : Mem) (a j : Nat) : Value := match t with
  | 0 => .int (gi M a j)
  | 1 => .long (gl M a j)
  | _ => rv b (gr M a j)
abbrev Gt : Type := Launch × va_G × (Nat → ClassId) × Heap × (Nat → Nat) × (Nat → Nat) × Option Nat × Nat × Nat × (Nat → Int32)
abbrev gL (G : Gt) : Launch := G.1
abbrev gD (G : Gt) : va_G := G.2.1
abbrev gA (G : Gt) : Nat → ClassId := G.2.2.1
abbrev gH (G : Gt) : Heap := G.2.2.2.1
abbrev gb (G : Gt) : Nat := G.2.2.2.1.size
/-- the String constants, their arrays, and a static that is only handed on -/
abbrev gK (G : Gt) : Nat → Nat := G.2.2.2.2.1
abbrev gV (G : Gt) : Nat → Nat := G.2.2.2.2.2.1
abbrev gF (G : Gt) : Option Nat := G.2.2.2.2.2.2.1
/-- the script: its address, its length, its ints -/
abbrev gSa (G : Gt) : Nat := G.2.2.2.2.2.2.2.1
abbrev gSn (G : Gt) : Nat := G.2.2.2.2.2.2.2.2.1
abbrev gSx (G : Gt) : Nat → Int32 := G.2.2.2.2.2.2.2.2.2
def Cl (G : Gt) (M : Mem) (a : Nat) (H : Heap) : Prop :=
  (kd M a < 12 → t_OB (gb G + a) ((gD G).1 (kd M a)) (nF (kd M a)) ((gD G).2 (kd M a)) H (fun j => sv (gb G) (tg (tyF (kd M a) j)) M a j)) ∧
  (¬ kd M a < 12 → H[gb G + a]? = some (arrV (gA G (kd M a)) (ln M a) (fun j => sv (gb G) (tg (aty (kd M a))) M a j)))
def Rp (G : Gt) (M : Mem) (H : Heap) : Prop := H.size = gb G + nc M ∧ (∀ q : Nat, q < gb G → H[q]? = (gH G)[q]?) ∧ ∀ a : Nat, kd M a < 29 → a < nc M ∧ Cl G M a H
/-- what the tables and the constants say besides the good words -/
def SX (G : Gt) (U : State) : Prop := (∀ (i : Nat) (q : String × Nat × String), SK[i]? = some q → vk_R q.1 q.2.1 q.2.2 (gK G i) U) ∧ vk_S 2 slen sbyt (gK G) (gV G) (fun q => gb G ≤ q) U (gH G) ∧ va_Z "java/lang/String" "COMPACT_STRINGS" "Z" (.int 1) (fun q => gb G ≤ q) U (gH G) ∧ va_Z "jdk/internal/util/Preconditions" "SIOOBE_FORMATTER" "Ljava/util/function/BiFunction;" (xv (gF G)) (fun q => gb G ≤ q) U (gH G) ∧ va_Nw (.castable "[I" "java/lang/Cloneable") U ∧ va_Nw (.castable "[J" "java/lang/Cloneable") U ∧ va_X (gSa G) (gSn G) (gSx G) U (gH G) ∧ gSa G < gb G
theorem va_X.moved2 {b L : Nat} {xs : Nat → Int32} {u U : State} {H : Heap} (hvm : u.vm.Alike U.vm) (h : va_X b L xs u H) : va_X b L xs U H := by
  obtain ⟨scr, h1, h2, h3⟩ := h
  exact ⟨scr, h1, State.isArrayOf_alike hvm h2, h3⟩
theorem SX.warm {G : Gt} {u U : State} (hW : u.WarmedH U.vm) (h : SX G u) : SX G U :=
  ⟨fun i q hq => vk_R.warm hW (h.1 i q hq), h.2.1.moved hW.alike, h.2.2.1.moved hW.alike, h.2.2.2.1.moved hW.alike, va_Nw.warmC hW h.2.2.2.2.1, va_Nw.warmC hW h.2.2.2.2.2.1, h.2.2.2.2.2.2.1.moved2 hW.alike, h.2.2.2.2.2.2.2⟩
theorem SX.same {G : Gt} {u U : State} (hv : u.vm = U.vm) (h : SX G u) : SX G U := by
  have hA : u.vm.Alike U.vm := by rw [hv]; exact Vm.Alike.refl _
  exact ⟨fun i q hq => vk_R.same hv.symm (h.1 i q hq), h.2.1.moved hA, h.2.2.1.moved hA, h.2.2.2.1.moved hA, va_Nw.same rfl hv h.2.2.2.2.1, va_Nw.same rfl hv h.2.2.2.2.2.1, h.2.2.2.2.2.2.1.moved2 hA, h.2.2.2.2.2.2.2⟩
def KK (G : Gt) (U : State) : Prop := (∀ (k : Nat) (q : vw_C), vwCl[k]? = some q → u_Kn U q.1 q.2.1 q.2.2 ((gD G).1 k) ((gD G).2 k)) ∧ (∀ k : Nat, 20 ≤ k → k < 29 → ArrOfT U (gA G k) (aty k) ∧ va_RA U (gA G k) (aty k)) ∧ (∀ k : Nat, 25 ≤ k → k < 29 → va_AO (acn k) U) ∧ (∀ q ∈ NL, va_Nw (.methodLinkNest q.1 q.2.1 q.2.2.1 q.2.2.2) U) ∧ SX G U
theorem KK.warm {G : Gt} {u U : State} (hW : u.WarmedH U.vm) (h : KK G u) : KK G U :=
  ⟨fun k q hq => u_Kn_moved hW.alike (h.1 k q hq), fun k h1 h2 => ⟨arrOfT_moved hW.alike (h.2.1 k h1 h2).1, (h.2.1 k h1 h2).2.moved hW.alike⟩, fun k h1 h2 => (h.2.2.1 k h1 h2).moved hW.alike, fun q hq => va_Nw.warmM hW (h.2.2.2.1 q hq), h.2.2.2.2.warm hW⟩
theorem KK.same {G : Gt} {u U : State} (hv : u.vm = U.vm) (h : KK G u) : KK G U := by
  have hA : u.vm.Alike U.vm := by rw [hv]; exact Vm.Alike.refl _
  exact ⟨fun k q hq => u_Kn_moved hA (h.1 k q hq), fun k h1 h2 => ⟨arrOfT_moved hA (h.2.1 k h1 h2).1, (h.2.1 k h1 h2).2.moved hA⟩, fun k h1 h2 => (h.2.2.1 k h1 h2).moved hA, fun q hq => va_Nw.same rfl hv (h.2.2.2.1 q hq), h.2.2.2.2.same hv⟩
/-- the words that every method carries: all good ones of the tables -/
def WT : List Cond := lw_tbl.filter goodWord
/-- a method: name, code, locals, what it answers -/
abbrev MI : Type := MethodName × ByteArray × Nat × Option FieldType
def wsm (Y : MI) : List Cond := .code Y.1 Y.2.1 Y.2.2.1 Y.2.2.2 :: WT
def rm (d c z : Nat) : Room := { frames := d, cells := c, slots := z, locals := 64 * d }
def Cx (G : Gt) (Y : MI) (p : Program) (s : State) (m : MethodId) (args : Array Value) (meth : Method) (c : Code) : Prop :=
  p.tables.exec = Jvm.exec ∧ c.code = Y.2.1 ∧ c.maxLocals = Y.2.2.1 ∧ s.vm.findClass Y.1.cls = some m.cls ∧ (∀ w ∈ WT, w.before args s = true) ∧ KK G s ∧ meth.sig.returnType = Y.2.2.2 ∧ meth.locks = false ∧ (Y.1.name = "<init>" → meth.name = "<init>")
def lvm (b : Nat) (lv : List (Nat × TV)) : List (Nat × Value) := lv.map fun q => (q.1, tv b q.2)
def QcM (G : Gt) (r : Option TV) (M9 : Mem) : Array Value → State → Outcome → State → Prop := fun _ _ o t => o = .returned (r.map (tv (gb G))) ∧ Rp G M9 t.heap
/-- the walk: from here the method comes to its end, with r and the memory M9 -/
def V (G : Gt) (Y : MI) (d : Nat) (M0 : Mem) (r : Option TV) (M9 : Mem) (M : Mem) (pc : Nat) (lv : List (Nat × TV)) (st : List TV) : Prop :=
  (nc M ≤ nc M9 ∧ ns M ≤ ns M9) ∧ (nc M0 ≤ nc M → ns M0 ≤ ns M → ∀ (p : Program) (e : Env) (s : State) (m : MethodId) (args : Array Value) (below : List Frame) (meth : Method) (c : Code) (H : Heap) (locs : List Loc) (ls : Array Slot),
    Cx G Y p s m args meth c → Rp G M H → (∀ q ∈ locs, gb G ≤ q.base) → lv_has ls Y.2.2.1 (lvm (gb G) lv) →
    W p (gL G) e (rm d (nc M9 - nc M0) (ns M9 - ns M0)) s m args below meth c H locs (nc M - nc M0) (ns M - ns M0) (MQ below (QcM G r M9) args s (nc M9 - nc M0) (ns M9 - ns M0) (fun q => gb G ≤ q)) (F0 m pc ls (st.map (tv (gb G)))))
def Mt (G : Gt) (Y : MI) (d : Nat) (as : List TV) (M : Mem) (r : Option TV) (M9 : Mem) : Prop :=
  (nc M ≤ nc M9 ∧ ns M ≤ ns M9) ∧ Met (gL G) Y.1 (wsm Y) (rm d (nc M9 - nc M) (ns M9 - ns M)) (fun a U => a = (as.map (tv (gb G))).toArray ∧ Rp G M U.heap ∧ KK G U) (QcM G r M9) (nc M9 - nc M) (ns M9 - ns M) (fun q => gb G ≤ q)
def lvT : Nat → List TV → List (Nat × TV)
  | _, [] => []
  | i, v :: vs => (i, v) :: lvT (if tc v = 2 then i + 2 else i + 1) vs
theorem lvT_args (b : Nat) : ∀ (vs : List TV) (i : Nat), lv_args i (vs.map (tv b)) = lvm b (lvT i vs)
  | [], _ => rfl
  | v :: vs, i => by
    show (i, tv b v) :: lv_args _ (vs.map (tv b)) = (i, tv b v) :: lvm b (lvT _ vs)
    rw [tv_cat, lvT_args b vs]
def tvw : List TV → Nat
  | [] => 0
  | v :: vs => tc v + tvw vs
theorem tvw_len (b : Nat) : ∀ vs : List TV, (lg_sl (vs.map (tv b))).length = tvw vs
  | [] => rfl
  | v :: vs => by
    have ih := tvw_len b vs
    unfold lg_sl at ih ⊢
    rw [List.map_cons, List.flatMap_cons, List.length_append, ih, tv_cat]
    rcases v with x | x | r | r <;> rfl
set_option maxHeartbeats 4000000 in
theorem Mt.of {G : Gt} {Y : MI} {d : Nat} {as : List TV} {M M9 : Mem} {r : Option TV} (hy : plainName Y.1.cls = true) (hn : tvw as ≤ Y.2.2.1) (h : V G Y d M r M9 M 0 (lvT 0 as) []) : Mt G Y d as M r M9 := by
  refine ⟨h.1, ?_⟩
  refine Met.ofW (cc := Y.2.1) (maxL := Y.2.2.1) (ret := Y.2.2.2) hy rfl ?_
  intro p e s m args below meth c s₁ B hml hv
  obtain ⟨rfl, hR, hK⟩ := hv
  have hts := atoms_spec (ws := wsm Y) B.pre
  have hown : s.vm.findClass Y.1.cls = some m.cls := findClass_of_methodNamed B.named
  have hl := lv_entry (as.map (tv (gb G))) (n := Y.2.2.1) (by rw [tvw_len]; exact hn)
  rw [lg_entry_eq]
  generalize (lg_sl (as.map (tv (gb G))) ++ List.replicate (Y.2.2.1 - (lg_sl (as.map (tv (gb G)))).length) Slot.unset).toArray = ls at hl ⊢
  rw [lvT_args] at hl
  have k := h.2 (Nat.le_refl _) (Nat.le_refl _) p e s m _ below meth c s.heap [] ls ⟨B.exec, B.bytes, hml, hown, fun w h => hts w (List.mem_cons_of_mem _ h), hK, B.returns, B.notSynchronized, fun h => (name_of_methodNamed B.named B.method).1.trans h⟩ hR (fun q h => absurd h List.not_mem_nil) hl
  rw [Nat.sub_self, Nat.sub_self] at k
  exact k
