-- ===== calls =====
/-- what the tables say of a method that is called -/
def Me (Y : MI) (n : Nat) : Prop := Cond.code Y.1 Y.2.1 Y.2.2.1 Y.2.2.2 ∈ WT ∧ Cond.initialized Y.1.cls ∈ WT ∧ (Y.1.cls ≠ "java/lang/invoke/MethodHandle" ∧ Y.1.cls ≠ "java/lang/invoke/VarHandle") ∧ (parseMethodDescriptor Y.1.desc).map (fun d => d.parameters.length) = some n ∧ Y.2.2.1 ≤ 45
theorem WT_good {w : Cond} (h : w ∈ WT) : (w.onTables && w.keeps) = true ∨ ∃ ty, w = .arrayClass ty := good_of_word (List.mem_filter.mp h).2
section Calls
variable {G : Gt} {Y Y' : MI} {d d' n : Nat} {M0 M9 M : Mem} {r : Option TV} {pc q : Nat} {lv : List (Nat × TV)} {st st0 : List TV} {α β : Type} {z : α} {k idx : Nat} {a : Option Nat} {as : List TV} {X : Option (β × Mem)} {K : β × Mem → Option α} {fv : β → Option TV}
theorem callB_M {s : State} {args : Array Value} {own : String} {index mc ms c z : Nat} {R : Room} (ht : ∀ w ∈ WT, w.before args s = true) (hm : Me Y' n) (hl : Cond.methodLink own index Y'.1 ∈ WT) (hd : d' + 1 ≤ d) (hc : R.frames = d) (hz : R.locals = 64 * d) :
    CallB R s args own index Y'.1 Y'.2.1 Y'.2.2.1 Y'.2.2.2 (wsm Y') (rm d' mc ms) mc ms n := by
  obtain ⟨m1, m2, m3, m4, m5⟩ := hm
  refine ⟨rfl, rfl, by show d' + 1 ≤ _; omega, by show 8 + (Y'.2.2.1 + 11) + 64 * d' ≤ _; omega, fun w hw a' U hW => ?_, List.mem_cons_self, ht _ (WT_in m1), ht _ (WT_in m2), m3, fun sig h => ?_, ht _ (WT_in hl)⟩
  · rcases List.mem_cons.mp hw with e | e
    · subst e; exact word_at hW (WT_good m1) (ht _ (WT_in m1))
    · exact word_at hW (WT_good e) (ht _ (WT_in e))
  · rw [h] at m4; exact (Option.some.inj m4).symm
theorem Pc_blind (as : List TV) (M : Mem) : FrameBlind (fun a U => a = (as.map (tv (gb G))).toArray ∧ Rp G M U.heap ∧ KK G U) :=
  fun a U g mk h => ⟨h.1, h.2.1, KK.same (u := U) (U := U.calling g mk a) rfl h.2.2⟩
theorem tvs_sum (b : Nat) : ∀ l : List TV, ((l.map (tv b)).map fun v => v.category).sum = tvw l
  | [] => rfl
  | v :: l => by
    show (tv b v).category + ((l.map (tv b)).map fun v => v.category).sum = tc v + tvw l
    rw [tv_cat, tvs_sum b l]
theorem toList_map (b : Nat) (v : Option TV) (st : List TV) : (v.map (tv b)).toList ++ st.map (tv b) = (v.toList ++ st).map (tv b) := by
  cases v <;> rfl
/-- behind the call -/
theorem V.back {M1 : Mem} {v : Option TV} (hM : nc M ≤ nc M1 ∧ ns M ≤ ns M1) (k1 : V G Y d M0 r M9 M1 q lv (v.toList ++ st)) (hq : pc + 3 = q)
    (hr : nc M0 ≤ nc M → ns M0 ≤ ns M → (nc M - nc M0) + (nc M1 - nc M) ≤ nc M9 - nc M0 → (ns M - ns M0) + (ns M1 - ns M) ≤ ns M9 - ns M0 → ∀ (p : Program) (e : Env) (s : State) (m : MethodId) (args : Array Value) (below : List Frame) (meth : Method) (c : Code) (H : Heap) (locs : List Loc) (ls : Array Slot), Cx G Y p s m args meth c → Rp G M H → ls.size = Y.2.2.1 →
      va_Run p (gL G) e (rm d (nc M9 - nc M0) (ns M9 - ns M0)) s m args below meth c H locs (nc M - nc M0) (ns M - ns M0) (nc M1 - nc M) (ns M1 - ns M) (F0 m pc ls (st0.map (tv (gb G)))) (st.map (tv (gb G))) (QcM G v M1 #[]) (fun q => gb G ≤ q)) : V G Y d M0 r M9 M pc lv st0 := by
  subst hq
  have hm := k1.1
  refine ⟨⟨by omega, by omega⟩, fun h1 h2 p e s m args below meth c H locs ls C hR hL hl => ?_⟩
  have h3 := hr h1 h2 (by omega) (by omega) p e s m args below meth c H locs ls C hR hl.1
  intro T hT X
  obtain ⟨v', s0, t, T', L, e0, X', hL', e1, e2, ⟨hv, hRp⟩, stp⟩ := h3 T hT X
  have hv2 : v' = v.map (tv (gb G)) := Outcome.returned.inj hv
  subst hv2
  have k2 := k1.2 (by omega) (by omega) p e s m args below meth c T'.heap (locs ++ L) ls C (by rw [e1]; exact hRp) (fun q hq => by
    rcases List.mem_append.mp hq with h | h
    · exact hL q h
    · exact hL' q h) hl
  rw [show (nc M - nc M0) + (nc M1 - nc M) = nc M1 - nc M0 by omega, show (ns M - ns M0) + (ns M1 - ns M) = ns M1 - ns M0 by omega] at X'
  obtain ⟨t2, a1, b1⟩ := k2 T' rfl X'
  refine ⟨t2, stp t2 ?_, b1⟩
  show Steps p.tables e below (T'.setTop (F0 m (pc + 3) ls ((v.map (tv (gb G))).toList ++ st.map (tv (gb G))))) t2
  rw [toList_map]
  exact a1
theorem V.callV {T : u_T} {N : Nat} (hd : decode Y.2.1 pc = .ok (.invokevirtual idx, 3)) (hm : Me Y' n) (hl1 : Cond.methodLink Y.1.cls idx Y'.1 ∈ WT) (hl2 : Cond.instanceMethod Y'.1 ∈ WT) (hl3 : Cond.selects Y'.1.cls Y'.1 Y'.1 ∈ WT) (hC : Cls k Y'.1.cls T N) (hn : as.length = n) (hd' : d' + 1 ≤ d) (hw : tvw st ≤ 8) (hs : as.reverse ++ vR a :: st = st0) (hq : pc + 3 = q)
    (h : (ck M k a).bind (fun _ => X.bind K) = some z) (lift : ∀ v, X = some v → Mt G Y' d' (vR a :: as) M (fv v.1) v.2) (kk : ∀ v, K v = some z → V G Y d M0 r M9 v.2 q lv ((fv v.1).toList ++ st)) : V G Y d M0 r M9 M pc lv st0 := by
  cases a with
  | none => cases h
  | some a =>
    unfold ck at h
    dsimp only at h
    by_cases hk : kd M a = k
    · rw [if_pos hk] at h
      cases X with
      | none => cases h
      | some v =>
        have hM := lift v rfl
        refine V.back hM.1 (kk v h) hq fun h1 h2 h3 h4 p e s m args below meth c H locs ls C hR hz => ?_
        obtain ⟨hc, hk12, -⟩ := hC
        have hO := (hR.2.2 a (by omega)).2.1 (by omega)
        rw [hk] at hO
        obtain ⟨cell, q1, q2, q3, -⟩ := hO
        have hcls := (C.2.2.2.2.2.1.1 _ _ hc).2.1
        subst hs
        have hr := va_runV (l := gL G) (p := p) (e := e) (below := below) (meth := meth) (locs := locs) (cells := nc M - nc M0) (slots := ns M - ns M0) (R := rm d (nc M9 - nc M0) (ns M9 - ns M0)) (g := F0 m pc ls ((as.reverse ++ vR (some a) :: st).map (tv (gb G)))) (C := Y'.1.cls) (b := gb G + a) (As := as.map (tv (gb G))) (rest := st.map (tv (gb G))) (n := n) (H := H) ⟨C.1, C.2.1, C.2.2.1, C.2.2.2.1, C.2.2.2.2.1⟩ hM.2 ⟨callB_M (c := 0) (z := 0) C.2.2.2.2.1 hm hl1 hd' rfl rfl, C.2.2.2.2.1 _ (WT_in hl2), C.2.2.2.2.1 _ (WT_in hl3)⟩
          ⟨Pc_blind _ _, ⟨cell, q1, by rw [q3]; rfl, by rw [q2]; exact hcls⟩, fun U hU hW => ⟨rfl, by rw [hU]; exact hR, C.2.2.2.2.2.1.warm hW⟩⟩ rfl (by rw [List.length_map]; exact hn) hz (by show List.map _ _ = _; rw [List.map_append, List.map_reverse]; rfl) (lv_room (by rw [tvs_sum]; exact hw)) hd ⟨h3, h4⟩
        exact hr
    · rw [if_neg hk] at h; cases h
theorem V.callS (hd : decode Y.2.1 pc = .ok (.invokestatic idx, 3)) (hm : Me Y' n) (hl1 : Cond.methodLink Y.1.cls idx Y'.1 ∈ WT) (hl2 : Cond.static Y'.1 ∈ WT) (hn : as.length = n) (hd' : d' + 1 ≤ d) (hw : tvw st ≤ 8) (hs : as.reverse ++ st = st0) (hq : pc + 3 = q)
    (h : X.bind K = some z) (lift : ∀ v, X = some v → Mt G Y' d' as M (fv v.1) v.2) (kk : ∀ v, K v = some z → V G Y d M0 r M9 v.2 q lv ((fv v.1).toList ++ st)) : V G Y d M0 r M9 M pc lv st0 := by
  cases X with
  | none => cases h
  | some v =>
    have hM := lift v rfl
    refine V.back hM.1 (kk v h) hq fun h1 h2 h3 h4 p e s m args below meth c H locs ls C hR hz => ?_
    subst hs
    have hr := va_runS (l := gL G) (p := p) (e := e) (below := below) (meth := meth) (locs := locs) (cells := nc M - nc M0) (slots := ns M - ns M0) (R := rm d (nc M9 - nc M0) (ns M9 - ns M0)) (g := F0 m pc ls ((as.reverse ++ st).map (tv (gb G)))) (As := as.map (tv (gb G))) (rest := st.map (tv (gb G))) (n := n) (H := H) ⟨C.1, C.2.1, C.2.2.1, C.2.2.2.1, C.2.2.2.2.1⟩ hM.2 ⟨callB_M (c := 0) (z := 0) C.2.2.2.2.1 hm hl1 hd' rfl rfl, C.2.2.2.2.1 _ (WT_in hl2)⟩
      ⟨Pc_blind _ _, fun U hU hW => ⟨rfl, by rw [hU]; exact hR, C.2.2.2.2.2.1.warm hW⟩⟩ rfl (by rw [List.length_map]; exact hn) hz (by show List.map _ _ = _; rw [List.map_append, List.map_reverse]) (lv_room (by rw [tvs_sum]; exact hw)) hd ⟨h3, h4⟩
    exact hr
theorem V.callI {a : Nat} (hd : decode Y.2.1 pc = .ok (.invokespecial idx, 3)) (hm : Me Y' n) (hv : Y'.2.2.2 = none) (hnm : Y'.1.name = "<init>") (hl1 : Cond.methodLink Y.1.cls idx Y'.1 ∈ WT) (hl2 : Cond.instanceMethod Y'.1 ∈ WT) (hn : as.length = n) (hd' : d' + 1 ≤ d) (hw : tvw st ≤ 8) (hs : as.reverse ++ vR (some a) :: st = st0) (hq : pc + 3 = q)
    (h : X.bind K = some z) (lift : ∀ v, X = some v → Mt G Y' d' (vR (some a) :: as) M none v.2) (kk : ∀ v, K v = some z → V G Y d M0 r M9 v.2 q lv st) : V G Y d M0 r M9 M pc lv st0 := by
  cases X with
  | none => cases h
  | some v =>
    have hM := lift v rfl
    refine V.back (v := none) hM.1 (kk v h) hq fun h1 h2 h3 h4 p e s m args below meth c H locs ls C hR hz => ?_
    subst hs
    have cb := callB_M (R := rm d (nc M9 - nc M0) (ns M9 - ns M0)) (mc := nc v.2 - nc M) (ms := ns v.2 - ns M) (c := 0) (z := 0) C.2.2.2.2.1 hm hl1 hd' rfl rfl
    rw [hv] at cb
    have hr := va_runI (l := gL G) (p := p) (e := e) (below := below) (meth := meth) (locs := locs) (cells := nc M - nc M0) (slots := ns M - ns M0) (R := rm d (nc M9 - nc M0) (ns M9 - ns M0)) (g := F0 m pc ls ((as.reverse ++ vR (some a) :: st).map (tv (gb G)))) (b := gb G + a) (As := as.map (tv (gb G))) (rest := st.map (tv (gb G))) (n := n) (H := H) ⟨C.1, C.2.1, C.2.2.1, C.2.2.2.1, C.2.2.2.2.1⟩ hM.2 ⟨cb, hnm, C.2.2.2.2.1 _ (WT_in hl2)⟩
      ⟨Pc_blind _ _, fun U hU hW => ⟨rfl, by rw [hU]; exact hR, C.2.2.2.2.2.1.warm hW⟩⟩ rfl (by rw [List.length_map]; exact hn) hz (by show List.map _ _ = _; rw [List.map_append, List.map_reverse]; rfl) (lv_room (by rw [tvs_sum]; exact hw)) hd ⟨h3, h4⟩
    exact hr
end Calls
section Switch
variable {G : Gt} {Y : MI} {d : Nat} {M0 M9 M : Mem} {r : Option TV} {pc q : Nat} {lv : List (Nat × TV)} {st : List TV}
theorem V.tableIn {dflt lo hi : Int} {offs : Array Int} {len : Nat} {x : Int32} {off : Int} (hd : decode Y.2.1 pc = .ok (.tableswitch dflt lo hi offs, len)) (h1 : ¬ x.toInt < lo) (h2 : ¬ hi < x.toInt) (ho : offs[(x.toInt - lo).toNat]? = some off) (ht : (pc : Int) + off = (q : Int)) (k : V G Y d M0 r M9 M q lv st) : V G Y d M0 r M9 M pc lv (vI x :: st) :=
  V.go (fun hx hb => lv_tableIn hx hb hd h1 h2 ho ht) k
theorem V.tableOut {dflt lo hi : Int} {offs : Array Int} {len : Nat} {x : Int32} (hd : decode Y.2.1 pc = .ok (.tableswitch dflt lo hi offs, len)) (h : x.toInt < lo ∨ hi < x.toInt) (ht : (pc : Int) + dflt = (q : Int)) (k : V G Y d M0 r M9 M q lv st) : V G Y d M0 r M9 M pc lv (vI x :: st) :=
  V.go (fun hx hb => lv_tableOut hx hb hd h ht) k
theorem V.lookup {dflt : Int} {ps : Array (Int × Int)} {len : Nat} {x : Int32} {off : Int} (hd : decode Y.2.1 pc = .ok (.lookupswitch dflt ps, len)) (hp : (ps.toList.zip (ps.toList.drop 1)).all (fun (a, next) => a.1 < next.1) = true) (ho : Op.lookupswitch.offset ps.toList dflt x.toInt = off) (ht : (pc : Int) + off = (q : Int)) (k : V G Y d M0 r M9 M q lv st) : V G Y d M0 r M9 M pc lv (vI x :: st) :=
  V.go (fun hx hb => lv_lookup hx hb hd hp ho ht) k
end Switch
