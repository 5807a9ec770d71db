-- ===== rows for what the JDK's own methods do: constants of text, Math, copies of arrays =====
def xV (G : Gt) (e : Option Nat) : Option (Option Nat) := if e = some (gK G 0) then some (some (gV G 0)) else if e = some (gK G 1) then some (some (gV G 1)) else none
def xC (G : Gt) (e : Option Nat) : Option Int32 := if e = some (gK G 0) ∨ e = some (gK G 1) then some 0 else none
def xN (G : Gt) (e : Option Nat) : Option Int32 := if e = some (gV G 0) then some 61 else if e = some (gV G 1) then some 18 else none
def xB (G : Gt) (e : Option Nat) (i : Int32) : Option Int32 := if e = some (gV G 0) ∧ inb i 61 then some ((sbyt.getD 0 []).getD i.toNatClampNeg 0) else if e = some (gV G 1) ∧ inb i 18 then some ((sbyt.getD 1 []).getD i.toNatClampNeg 0) else none
def ckX (G : Gt) (e : Option Nat) : Option Unit := if e = some (gK G 0) ∨ e = some (gK G 1) then some () else none
def nz (t : FieldType) (x : Int32) : Option Unit := if vp_nar t x = x then some () else none
theorem Rp.low {G : Gt} {M : Mem} {H : Heap} (h : Rp G M H) : ∀ a : Nat, a < (gH G).size → ¬ gb G ≤ a → H[a]? = (gH G)[a]? := fun a ha _ => h.2.1 a ha
section Jdk
variable {G : Gt} {Y Y' : MI} {d d' n : Nat} {M0 M9 M : Mem} {r : Option TV} {pc q : Nat} {lv : List (Nat × TV)} {st st0 : List TV} {α β : Type} {z : α} {k idx : Nat} {e0 : Option Nat} {as : List TV}
theorem V.xload_n {i : Fin 4} {n : Nat} {x : Option Nat} (hd : decode Y.2.1 pc = .ok (.aload_n i, 1)) (hi : lv[n]? = some (i.val, vX x)) (hq : pc + 1 = q) (k : V G Y d M0 r M9 M q lv (vX x :: st)) : V G Y d M0 r M9 M pc lv st := by
  subst hq
  cases x with
  | none => exact V.ld hi (fun hx hb hl => lv_aload_nN hx hb hd rfl hl) k
  | some a => exact V.ld hi (fun hx hb hl => lv_aload_n hx hb hd rfl hl) k
theorem V.ldcS {tx : String} {i : Nat} (hd : decode Y.2.1 pc = .ok (.ldc idx, 2)) (hs : SK[i]? = some (Y.1.cls, idx, tx)) (hq : pc + 2 = q) (k : V G Y d M0 r M9 M q lv (vX (some (gK G i)) :: st)) : V G Y d M0 r M9 M pc lv st := by
  subst hq
  refine ⟨k.1, fun h1 h2 p e s m args below meth c H locs ls C hR hL hl => ?_⟩
  exact va_ldcS C.1 C.2.1 C.2.2.2.1 (C.2.2.2.2.2.1.2.2.2.2.1 i _ hs) hd (k.2 h1 h2 p e s m args below meth c H locs ls C hR hL hl)
theorem Wxget {i : Nat} (hi : i < 2) {nm ds : String} {v : Value} {p : Program} {e : Env} {R : Room} {s : State} {m : MethodId} {args : Array Value} {below : List Frame} {meth : Method} {c : Code} {H : Heap} {locs : List Loc} {cells slots : Nat} {Q : State → Prop} {ls : Array Slot} {rest : List Value} (C : Cx G Y p s m args meth c) (hR : Rp G M H) (hE : va_OF "java/lang/String" nm ds v (gK G i) (fun q => gb G ≤ q) s (gH G)) (hw : Cond.fieldLink Y.1.cls idx "java/lang/String" nm ds ∈ WT) (hd : decode Y.2.1 pc = .ok (.getfield idx, 3))
    (kk : W p (gL G) e R s m args below meth c H locs cells slots Q (F0 m (pc + 3) ls (v :: rest))) : W p (gL G) e R s m args below meth c H locs cells slots Q (F0 m pc ls (.ref (gK G i) :: rest)) := by
  obtain ⟨cf, k, fi, f, cell, h1, h2, h3, h4, h5, h6⟩ := hE.kept hR.low
  exact W.getf C.1 C.2.1 C.2.2.2.1 (C.2.2.2.2.1 _ (WT_in hw)) h1 h2 h3 h4 (v := v) h5 rfl rfl hd kk
theorem V.xgetV {K : Option Nat → Option α} (hd : decode Y.2.1 pc = .ok (.getfield idx, 3)) (hw : Cond.fieldLink Y.1.cls idx "java/lang/String" "value" "[B" ∈ WT) (hq : pc + 3 = q) (h : (xV G e0).bind K = some z) (kk : ∀ x : Option Nat, K x = some z → V G Y d M0 r M9 M q lv (vX x :: st)) : V G Y d M0 r M9 M pc lv (vX e0 :: st) := by
  subst hq
  unfold xV at h
  by_cases h0 : e0 = some (gK G 0)
  · rw [if_pos h0] at h
    have k1 := kk _ h
    subst h0
    exact ⟨k1.1, fun h1 h2 p e s m args below meth c H locs ls C hR hL hl => Wxget (i := 0) (by decide) C hR (C.2.2.2.2.2.1.2.2.2.2.2.1.1 0 (by decide)).2.2.1 hw hd (k1.2 h1 h2 p e s m args below meth c H locs ls C hR hL hl)⟩
  · rw [if_neg h0] at h
    by_cases h9 : e0 = some (gK G 1)
    · rw [if_pos h9] at h
      have k1 := kk _ h
      subst h9
      exact ⟨k1.1, fun h1 h2 p e s m args below meth c H locs ls C hR hL hl => Wxget (i := 1) (by decide) C hR (C.2.2.2.2.2.1.2.2.2.2.2.1.1 1 (by decide)).2.2.1 hw hd (k1.2 h1 h2 p e s m args below meth c H locs ls C hR hL hl)⟩
    · rw [if_neg h9] at h; cases h
theorem V.xgetC {K : Int32 → Option α} (hd : decode Y.2.1 pc = .ok (.getfield idx, 3)) (hw : Cond.fieldLink Y.1.cls idx "java/lang/String" "coder" "B" ∈ WT) (hq : pc + 3 = q) (h : (xC G e0).bind K = some z) (kk : ∀ x : Int32, K x = some z → V G Y d M0 r M9 M q lv (vI x :: st)) : V G Y d M0 r M9 M pc lv (vX e0 :: st) := by
  subst hq
  unfold xC at h
  by_cases h0 : e0 = some (gK G 0) ∨ e0 = some (gK G 1)
  · rw [if_pos h0] at h
    have k1 := kk _ h
    rcases h0 with h0 | h0
    · subst h0
      exact ⟨k1.1, fun h1 h2 p e s m args below meth c H locs ls C hR hL hl => Wxget (i := 0) (by decide) C hR (C.2.2.2.2.2.1.2.2.2.2.2.1.1 0 (by decide)).2.1 hw hd (k1.2 h1 h2 p e s m args below meth c H locs ls C hR hL hl)⟩
    · subst h0
      exact ⟨k1.1, fun h1 h2 p e s m args below meth c H locs ls C hR hL hl => Wxget (i := 1) (by decide) C hR (C.2.2.2.2.2.1.2.2.2.2.2.1.1 1 (by decide)).2.1 hw hd (k1.2 h1 h2 p e s m args below meth c H locs ls C hR hL hl)⟩
  · rw [if_neg h0] at h; cases h
theorem Wxlen {i N : Nat} {f : Nat → Value} {x : Int32} {p : Program} {e : Env} {R : Room} {s : State} {m : MethodId} {args : Array Value} {below : List Frame} {meth : Method} {c : Code} {H : Heap} {locs : List Loc} {cells slots : Nat} {Q : State → Prop} {ls : Array Slot} {rest : List Value} (C : Cx G Y p s m args meth c) (hR : Rp G M H) (hT : va_T .byte (gV G i) N f (fun q => gb G ≤ q) s (gH G)) (hx : Int32.ofNat N = x) (hd : decode Y.2.1 pc = .ok (.arraylength, 1))
    (kk : W p (gL G) e R s m args below meth c H locs cells slots Q (F0 m (pc + 1) ls (.int x :: rest))) : W p (gL G) e R s m args below meth c H locs cells slots Q (F0 m pc ls (.ref (gV G i) :: rest)) := by
  obtain ⟨cell, h1, h2, h3, h4, h5, h6, h7⟩ := hT.kept hR.low
  exact W.alen (n := x) C.1 C.2.1 h1 h2 (h5.trans hx) rfl rfl hd kk
theorem V.xlen {K : Int32 → Option α} (hd : decode Y.2.1 pc = .ok (.arraylength, 1)) (hq : pc + 1 = q) (h : (xN G e0).bind K = some z) (kk : ∀ x : Int32, K x = some z → V G Y d M0 r M9 M q lv (vI x :: st)) : V G Y d M0 r M9 M pc lv (vX e0 :: st) := by
  subst hq
  unfold xN at h
  by_cases h0 : e0 = some (gV G 0)
  · rw [if_pos h0] at h
    have k1 := kk _ h
    subst h0
    exact ⟨k1.1, fun h1 h2 p e s m args below meth c H locs ls C hR hL hl => Wxlen (i := 0) C hR (C.2.2.2.2.2.1.2.2.2.2.2.1.1 0 (by decide)).2.2.2 rfl hd (k1.2 h1 h2 p e s m args below meth c H locs ls C hR hL hl)⟩
  · rw [if_neg h0] at h
    by_cases h9 : e0 = some (gV G 1)
    · rw [if_pos h9] at h
      have k1 := kk _ h
      subst h9
      exact ⟨k1.1, fun h1 h2 p e s m args below meth c H locs ls C hR hL hl => Wxlen (i := 1) C hR (C.2.2.2.2.2.1.2.2.2.2.2.1.1 1 (by decide)).2.2.2 rfl hd (k1.2 h1 h2 p e s m args below meth c H locs ls C hR hL hl)⟩
    · rw [if_neg h9] at h; cases h
theorem Wxbald {i N : Nat} {f : Nat → Value} {x : Int32} {v : Value} {p : Program} {e : Env} {R : Room} {s : State} {m : MethodId} {args : Array Value} {below : List Frame} {meth : Method} {c : Code} {H : Heap} {locs : List Loc} {cells slots : Nat} {Q : State → Prop} {ls : Array Slot} {rest : List Value} (C : Cx G Y p s m args meth c) (hR : Rp G M H) (hT : va_T .byte (gV G i) N f (fun q => gb G ≤ q) s (gH G)) (hN : N < 2 ^ 31) (hin : inb x N) (hv : f x.toNatClampNeg = v) (hd : decode Y.2.1 pc = .ok (.baload, 1))
    (kk : W p (gL G) e R s m args below meth c H locs cells slots Q (F0 m (pc + 1) ls (v :: rest))) : W p (gL G) e R s m args below meth c H locs cells slots Q (F0 m pc ls (.int x :: .ref (gV G i) :: rest)) := by
  obtain ⟨cell, h1, h2, h3, h4, h5, h6, h7⟩ := hT.kept hR.low
  have hlt : x.toNatClampNeg < N := Nat.not_le.mp fun q => hin (Or.inr q)
  exact W.bald (v := v) C.1 C.2.1 h1 h2 h3 (fun hh => hh.elim (fun a => hin (Or.inl a)) (fun a => by omega)) (by rw [h6 _ hlt, hv]) rfl rfl hd kk
theorem V.xbald {x : Int32} {K : Int32 → Option α} (hd : decode Y.2.1 pc = .ok (.baload, 1)) (hq : pc + 1 = q) (h : (xB G e0 x).bind K = some z) (kk : ∀ x : Int32, K x = some z → V G Y d M0 r M9 M q lv (vI x :: st)) : V G Y d M0 r M9 M pc lv (vI x :: vX e0 :: st) := by
  subst hq
  unfold xB at h
  by_cases h0 : e0 = some (gV G 0) ∧ inb x 61
  · rw [if_pos h0] at h
    have k1 := kk _ h
    obtain ⟨h0, hin⟩ := h0
    subst h0
    exact ⟨k1.1, fun h1 h2 p e s m args below meth c H locs ls C hR hL hl => Wxbald (i := 0) C hR (C.2.2.2.2.2.1.2.2.2.2.2.1.1 0 (by decide)).2.2.2 (by decide) hin rfl hd (k1.2 h1 h2 p e s m args below meth c H locs ls C hR hL hl)⟩
  · rw [if_neg h0] at h
    by_cases h9 : e0 = some (gV G 1) ∧ inb x 18
    · rw [if_pos h9] at h
      have k1 := kk _ h
      obtain ⟨h9, hin⟩ := h9
      subst h9
      exact ⟨k1.1, fun h1 h2 p e s m args below meth c H locs ls C hR hL hl => Wxbald (i := 1) C hR (C.2.2.2.2.2.1.2.2.2.2.2.1.1 1 (by decide)).2.2.2 (by decide) hin rfl hd (k1.2 h1 h2 p e s m args below meth c H locs ls C hR hL hl)⟩
    · rw [if_neg h9] at h; cases h
theorem Wgets {C0 nm ds : String} {v : Value} {p : Program} {e : Env} {R : Room} {s : State} {m : MethodId} {args : Array Value} {below : List Frame} {meth : Method} {c : Code} {H : Heap} {locs : List Loc} {cells slots : Nat} {Q : State → Prop} {ls : Array Slot} {rest : List Value} (C : Cx G Y p s m args meth c) (hR : Rp G M H) (hZ : va_Z C0 nm ds v (fun q => gb G ≤ q) s (gH G)) (hw : Cond.fieldLink Y.1.cls idx C0 nm ds ∈ WT) (hd : decode Y.2.1 pc = .ok (.getstatic idx, 3))
    (kk : W p (gL G) e R s m args below meth c H locs cells slots Q (F0 m (pc + 3) ls (v :: rest))) : W p (gL G) e R s m args below meth c H locs cells slots Q (F0 m pc ls rest) := by
  obtain ⟨cf, kf, fi, f, a, cell, h1, h2, h3, h4, h5, h6, h7, h8⟩ := hZ.kept hR.low
  exact W.gets C.1 C.2.1 C.2.2.2.1 (C.2.2.2.2.1 _ (WT_in hw)) h1 h2 h3 h4 h5 (fun e => by rw [e] at h6; cases h6) h7 rfl hd kk
theorem V.getsC (hd : decode Y.2.1 pc = .ok (.getstatic idx, 3)) (hw : Cond.fieldLink Y.1.cls idx "java/lang/String" "COMPACT_STRINGS" "Z" ∈ WT) (hq : pc + 3 = q) (k : V G Y d M0 r M9 M q lv (vI 1 :: st)) : V G Y d M0 r M9 M pc lv st := by
  subst hq
  exact ⟨k.1, fun h1 h2 p e s m args below meth c H locs ls C hR hL hl => Wgets C hR C.2.2.2.2.2.1.2.2.2.2.2.2.1 hw hd (k.2 h1 h2 p e s m args below meth c H locs ls C hR hL hl)⟩
theorem V.getsF (hd : decode Y.2.1 pc = .ok (.getstatic idx, 3)) (hw : Cond.fieldLink Y.1.cls idx "jdk/internal/util/Preconditions" "SIOOBE_FORMATTER" "Ljava/util/function/BiFunction;" ∈ WT) (hq : pc + 3 = q) (k : V G Y d M0 r M9 M q lv (vX (gF G) :: st)) : V G Y d M0 r M9 M pc lv st := by
  subst hq
  exact ⟨k.1, fun h1 h2 p e s m args below meth c H locs ls C hR hL hl => Wgets C hR C.2.2.2.2.2.1.2.2.2.2.2.2.2.1 hw hd (k.2 h1 h2 p e s m args below meth c H locs ls C hR hL hl)⟩
/-- a call of a constant text's method -/
theorem V.callX {X : Option (β × Mem)} {K : β × Mem → Option α} {fv : β → Option TV} (hd : decode Y.2.1 pc = .ok (.invokevirtual idx, 3)) (hm : Me Y' n) (hc : Y'.1.cls = "java/lang/String") (hl1 : Cond.methodLink Y.1.cls idx Y'.1 ∈ WT) (hl2 : Cond.instanceMethod Y'.1 ∈ WT) (hl3 : Cond.selects Y'.1.cls Y'.1 Y'.1 ∈ WT) (hn : as.length = n) (hd' : d' + 1 ≤ d) (hw : tvw st ≤ 8) (hs : as.reverse ++ vX e0 :: st = st0) (hq : pc + 3 = q)
    (h : (ckX G e0).bind (fun _ => X.bind K) = some z) (lift : ∀ v, X = some v → Mt G Y' d' (vX e0 :: as) M (fv v.1) v.2) (kk : ∀ v, K v = some z → V G Y d M0 r M9 v.2 q lv ((fv v.1).toList ++ st)) : V G Y d M0 r M9 M pc lv st0 := by
  unfold ckX at h
  by_cases h0 : e0 = some (gK G 0) ∨ e0 = some (gK G 1)
  · rw [if_pos h0] at h
    cases X with
    | none => cases h
    | some v =>
      have hM := lift v rfl
      refine V.back hM.1 (kk v h) hq fun h1 h2 h3 h4 p e s m args below meth c H locs ls C hR hz => ?_
      have hcell : ∃ i, i < 2 ∧ e0 = some (gK G i) := by
        rcases h0 with h0 | h0
        · exact ⟨0, by decide, h0⟩
        · exact ⟨1, by decide, h0⟩
      obtain ⟨i, hi, he⟩ := hcell
      subst he
      obtain ⟨cell, q1, q2, q3, -⟩ := (C.2.2.2.2.2.1.2.2.2.2.2.1.1 i hi).1.kept hR.low
      subst hs
      have hr := va_runV (l := gL G) (p := p) (e := e) (below := below) (meth := meth) (locs := locs) (cells := nc M - nc M0) (slots := ns M - ns M0) (R := rm d (nc M9 - nc M0) (ns M9 - ns M0)) (g := F0 m pc ls ((as.reverse ++ vX (some (gK G i)) :: st).map (tv (gb G)))) (C := Y'.1.cls) (b := gK G i) (As := as.map (tv (gb G))) (rest := st.map (tv (gb G))) (n := n) (H := H) ⟨C.1, C.2.1, C.2.2.1, C.2.2.2.1, C.2.2.2.2.1⟩ hM.2 ⟨callB_M (c := 0) (z := 0) C.2.2.2.2.1 hm hl1 hd' rfl rfl, C.2.2.2.2.1 _ (WT_in hl2), C.2.2.2.2.1 _ (WT_in hl3)⟩
        ⟨Pc_blind _ _, ⟨cell, q1, q2, by rw [hc]; exact q3⟩, fun U hU hW => ⟨rfl, by rw [hU]; exact hR, C.2.2.2.2.2.1.warm hW⟩⟩ rfl (by rw [List.length_map]; exact hn) hz (by show List.map _ _ = _; rw [List.map_append, List.map_reverse]; rfl) (lv_room (by rw [tvs_sum]; exact hw)) hd ⟨h3, h4⟩
      exact hr
  · rw [if_neg h0] at h; cases h
theorem V.callXi {X : Option (Int32 × Mem)} {K : Int32 × Mem → Option α} (hd : decode Y.2.1 pc = .ok (.invokevirtual idx, 3)) (hm : Me Y' n) (hc : Y'.1.cls = "java/lang/String") (hl1 : Cond.methodLink Y.1.cls idx Y'.1 ∈ WT) (hl2 : Cond.instanceMethod Y'.1 ∈ WT) (hl3 : Cond.selects Y'.1.cls Y'.1 Y'.1 ∈ WT) (hn : as.length = n) (hd' : d' + 1 ≤ d) (hw : tvw st ≤ 8) (hs : as.reverse ++ vX e0 :: st = st0) (hq : pc + 3 = q)
    (h : (ckX G e0).bind (fun _ => X.bind K) = some z) (lift : ∀ v, X = some v → Mt G Y' d' (vX e0 :: as) M (some (vI v.1)) v.2) (kk : ∀ v, K v = some z → V G Y d M0 r M9 v.2 q lv (vI v.1 :: st)) : V G Y d M0 r M9 M pc lv st0 :=
  V.callX (fv := fun x => some (vI x)) hd hm hc hl1 hl2 hl3 hn hd' hw hs hq h lift kk
theorem V.nret {x x9 : Int32} {t : FieldType} (hd : decode Y.2.1 pc = .ok (.ireturn, 1)) (hr : Y.2.2.2 = some t) (ht : t = .byte ∨ t = .char) (h : (nz t x).bind (fun _ => some (x, M)) = some (x9, M9)) : V G Y d M0 (some (vI x9)) M9 M pc lv [vI x] := by
  unfold nz at h
  by_cases hx : vp_nar t x = x
  · rw [if_pos hx] at h
    cases h
    refine ⟨⟨Nat.le_refl _, Nat.le_refl _⟩, fun h1 h2 p e s m args below meth c H locs ls C hR hL hl => ?_⟩
    refine W.zret (v := x) (ty := t) C.1 C.2.1 (C.2.2.2.2.2.2.1.trans hr) ?_ (fun t ht hW => ⟨rfl, by rw [ht]; exact hR⟩) hL hd C.2.2.2.2.2.2.2.1
    rcases ht with rfl | rfl
    · show Value.int _ = _; exact congrArg Value.int hx
    · show Value.int _ = _; exact congrArg Value.int hx
  · rw [if_neg hx] at h; cases h
theorem V.labs {x : Int64} (hd : decode Y.2.1 pc = .ok (.invokestatic idx, 3)) (hl1 : Cond.methodLink Y.1.cls idx Lib.MathLoose.abs_long.x ∈ WT) (hl2 : Cond.static Lib.MathLoose.abs_long.x ∈ WT) (hl3 : Cond.initialized "java/lang/Math" ∈ WT) (hl4 : Cond.code Lib.MathLoose.abs_long.x Lib.MathLoose.abs_long.code 2 (some .long) ∈ WT) (hd1 : 1 ≤ d) (hw : tvw st ≤ 8) (hq : pc + 3 = q) (k : V G Y d M0 r M9 M q lv (vL (if 0 < x then x else -x) :: st)) : V G Y d M0 r M9 M pc lv (vL x :: st) := by
  subst hq
  have hm := k.1
  refine ⟨k.1, fun h1 h2 p e s m args below meth c H locs ls C hR hL hl => ?_⟩
  exact va_mabs_long C.1 C.2.1 (by rw [C.2.2.1]; exact hl.1.symm) C.2.2.2.1 (C.2.2.2.2.1 _ (WT_in hl1)) (C.2.2.2.2.1 _ (WT_in hl2)) (C.2.2.2.2.1 _ (WT_in hl3)) (C.2.2.2.2.1 _ (WT_in hl4)) hd1 (by rw [tvs_sum]; show _ ≤ 64 * d; omega) (by show _ ≤ nc M9 - nc M0; omega) (by show _ ≤ ns M9 - ns M0; omega) hd (k.2 h1 h2 p e s m args below meth c H locs ls C hR hL hl)
theorem V.imin {x y : Int32} (hd : decode Y.2.1 pc = .ok (.invokestatic idx, 3)) (hl1 : Cond.methodLink Y.1.cls idx Lib.Math.min.name ∈ WT) (hl2 : Cond.static Lib.Math.min.name ∈ WT) (hl3 : Cond.initialized "java/lang/Math" ∈ WT) (hl4 : Cond.code Lib.Math.min.name Lib.Math.min.code 2 (some .int) ∈ WT) (hd1 : 1 ≤ d) (hw : tvw st ≤ 8) (hq : pc + 3 = q) (k : V G Y d M0 r M9 M q lv (vI (if y < x then y else x) :: st)) : V G Y d M0 r M9 M pc lv (vI y :: vI x :: st) := by
  subst hq
  have hm := k.1
  refine ⟨k.1, fun h1 h2 p e s m args below meth c H locs ls C hR hL hl => ?_⟩
  exact va_mmin C.1 C.2.1 (by rw [C.2.2.1]; exact hl.1.symm) C.2.2.2.1 (C.2.2.2.2.1 _ (WT_in hl1)) (C.2.2.2.2.1 _ (WT_in hl2)) (C.2.2.2.2.1 _ (WT_in hl3)) (C.2.2.2.2.1 _ (WT_in hl4)) hd1 (by rw [tvs_sum]; show _ ≤ 64 * d; omega) (by show _ ≤ nc M9 - nc M0; omega) (by show _ ≤ ns M9 - ns M0; omega) hd (k.2 h1 h2 p e s m args below meth c H locs ls C hR hL hl)
theorem V.imax {x y : Int32} (hd : decode Y.2.1 pc = .ok (.invokestatic idx, 3)) (hl1 : Cond.methodLink Y.1.cls idx Lib.Math.max.name ∈ WT) (hl2 : Cond.static Lib.Math.max.name ∈ WT) (hl3 : Cond.initialized "java/lang/Math" ∈ WT) (hl4 : Cond.code Lib.Math.max.name Lib.Math.max.code 2 (some .int) ∈ WT) (hd1 : 1 ≤ d) (hw : tvw st ≤ 8) (hq : pc + 3 = q) (k : V G Y d M0 r M9 M q lv (vI (if x < y then y else x) :: st)) : V G Y d M0 r M9 M pc lv (vI y :: vI x :: st) := by
  subst hq
  have hm := k.1
  refine ⟨k.1, fun h1 h2 p e s m args below meth c H locs ls C hR hL hl => ?_⟩
  exact va_mmax C.1 C.2.1 (by rw [C.2.2.1]; exact hl.1.symm) C.2.2.2.1 (C.2.2.2.2.1 _ (WT_in hl1)) (C.2.2.2.2.1 _ (WT_in hl2)) (C.2.2.2.2.1 _ (WT_in hl3)) (C.2.2.2.2.1 _ (WT_in hl4)) hd1 (by rw [tvs_sum]; show _ ≤ 64 * d; omega) (by show _ ≤ nc M9 - nc M0; omega) (by show _ ≤ ns M9 - ns M0; omega) hd (k.2 h1 h2 p e s m args below meth c H locs ls C hR hL hl)
def sN (G : Gt) (e : Option Nat) : Option Int32 := if e = some (gSa G) then some (Int32.ofNat (gSn G)) else none
def sI (G : Gt) (e : Option Nat) (i : Int32) : Option Int32 := if e = some (gSa G) ∧ inb i (gSn G) then some (gSx G i.toNatClampNeg) else none
theorem V.slen {K : Int32 → Option α} (hd : decode Y.2.1 pc = .ok (.arraylength, 1)) (hq : pc + 1 = q) (h : (sN G e0).bind K = some z) (kk : ∀ x : Int32, K x = some z → V G Y d M0 r M9 M q lv (vI x :: st)) : V G Y d M0 r M9 M pc lv (vX e0 :: st) := by
  subst hq
  unfold sN at h
  by_cases h0 : e0 = some (gSa G)
  · rw [if_pos h0] at h
    have k1 := kk _ h
    subst h0
    refine ⟨k1.1, fun h1 h2 p e s m args below meth c H locs ls C hR hL hl => ?_⟩
    obtain ⟨⟨scr, g1, g2, g3, g4, g5⟩, g6⟩ := C.2.2.2.2.2.1.2.2.2.2.2.2.2.2.2.2
    exact W.alen (n := Int32.ofNat (gSn G)) C.1 C.2.1 (by rw [hR.2.1 _ g6]; exact g1) g2 (by rw [g4] <;> rfl) rfl rfl hd (k1.2 h1 h2 p e s m args below meth c H locs ls C hR hL hl)
  · rw [if_neg h0] at h; cases h
theorem V.sld {x : Int32} {K : Int32 → Option α} (hd : decode Y.2.1 pc = .ok (.iaload, 1)) (hq : pc + 1 = q) (h : (sI G e0 x).bind K = some z) (kk : ∀ x : Int32, K x = some z → V G Y d M0 r M9 M q lv (vI x :: st)) : V G Y d M0 r M9 M pc lv (vI x :: vX e0 :: st) := by
  subst hq
  unfold sI at h
  by_cases h0 : e0 = some (gSa G) ∧ inb x (gSn G)
  · rw [if_pos h0] at h
    have k1 := kk _ h
    obtain ⟨h0, hin⟩ := h0
    subst h0
    refine ⟨k1.1, fun h1 h2 p e s m args below meth c H locs ls C hR hL hl => ?_⟩
    obtain ⟨⟨scr, g1, g2, g3, g4, g5⟩, g6⟩ := C.2.2.2.2.2.1.2.2.2.2.2.2.2.2.2.2
    have hlt : x.toNatClampNeg < gSn G := Nat.not_le.mp fun q => hin (Or.inr q)
    exact W.iald (v := .int (gSx G x.toNatClampNeg)) C.1 C.2.1 (by rw [hR.2.1 _ g6]; exact g1) g2 g3 (by rw [g4]; exact hin) (g5 _ hlt) rfl rfl hd (k1.2 h1 h2 p e s m args below meth c H locs ls C hR hL hl)
  · rw [if_neg h0] at h; cases h
end Jdk
