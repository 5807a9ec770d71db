-- ===== more rows: calls by what they answer, nest mates, switches =====
section Calls2
variable {G : Gt} {Y Y' : MI} {d d' n : Nat} {M0 M9 M : Mem} {r : Option TV} {pc q : Nat} {lv : List (Nat × TV)} {st st0 : List TV} {α : Type} {z : α} {k idx : Nat} {a : Option Nat} {as : List TV}
theorem V.callVi {T : u_T} {N : Nat} {X : Option (Int32 × Mem)} {K : Int32 × Mem → Option α} (hd : decode Y.2.1 pc = .ok (.invokevirtual idx, 3)) (hm : Me Y' n) (hl1 : Cond.methodLink Y.1.cls idx Y'.1 ∈ WT) (hl2 : Cond.instanceMethod Y'.1 ∈ WT) (hl3 : Cond.selects Y'.1.cls Y'.1 Y'.1 ∈ WT) (hC : Cls k Y'.1.cls T N) (hn : as.length = n) (hd' : d' + 1 ≤ d) (hw : tvw st ≤ 8) (hs : as.reverse ++ vR a :: st = st0) (hq : pc + 3 = q)
    (h : (ck M k a).bind (fun _ => X.bind K) = some z) (lift : ∀ v, X = some v → Mt G Y' d' (vR a :: as) M (some (vI v.1)) v.2) (kk : ∀ v, K v = some z → V G Y d M0 r M9 v.2 q lv (vI v.1 :: st)) : V G Y d M0 r M9 M pc lv st0 :=
  V.callV (fv := fun x => some (vI x)) hd hm hl1 hl2 hl3 hC hn hd' hw hs hq h lift kk
theorem V.callSi {X : Option (Int32 × Mem)} {K : Int32 × Mem → Option α} (hd : decode Y.2.1 pc = .ok (.invokestatic idx, 3)) (hm : Me Y' n) (hl1 : Cond.methodLink Y.1.cls idx Y'.1 ∈ WT) (hl2 : Cond.static Y'.1 ∈ WT) (hn : as.length = n) (hd' : d' + 1 ≤ d) (hw : tvw st ≤ 8) (hs : as.reverse ++ st = st0) (hq : pc + 3 = q)
    (h : X.bind K = some z) (lift : ∀ v, X = some v → Mt G Y' d' as M (some (vI v.1)) v.2) (kk : ∀ v, K v = some z → V G Y d M0 r M9 v.2 q lv (vI v.1 :: st)) : V G Y d M0 r M9 M pc lv st0 :=
  V.callS (fv := fun x => some (vI x)) hd hm hl1 hl2 hn hd' hw hs hq h lift kk
theorem V.callVl {T : u_T} {N : Nat} {X : Option (Int64 × Mem)} {K : Int64 × Mem → Option α} (hd : decode Y.2.1 pc = .ok (.invokevirtual idx, 3)) (hm : Me Y' n) (hl1 : Cond.methodLink Y.1.cls idx Y'.1 ∈ WT) (hl2 : Cond.instanceMethod Y'.1 ∈ WT) (hl3 : Cond.selects Y'.1.cls Y'.1 Y'.1 ∈ WT) (hC : Cls k Y'.1.cls T N) (hn : as.length = n) (hd' : d' + 1 ≤ d) (hw : tvw st ≤ 8) (hs : as.reverse ++ vR a :: st = st0) (hq : pc + 3 = q)
    (h : (ck M k a).bind (fun _ => X.bind K) = some z) (lift : ∀ v, X = some v → Mt G Y' d' (vR a :: as) M (some (vL v.1)) v.2) (kk : ∀ v, K v = some z → V G Y d M0 r M9 v.2 q lv (vL v.1 :: st)) : V G Y d M0 r M9 M pc lv st0 :=
  V.callV (fv := fun x => some (vL x)) hd hm hl1 hl2 hl3 hC hn hd' hw hs hq h lift kk
theorem V.callSl {X : Option (Int64 × Mem)} {K : Int64 × Mem → Option α} (hd : decode Y.2.1 pc = .ok (.invokestatic idx, 3)) (hm : Me Y' n) (hl1 : Cond.methodLink Y.1.cls idx Y'.1 ∈ WT) (hl2 : Cond.static Y'.1 ∈ WT) (hn : as.length = n) (hd' : d' + 1 ≤ d) (hw : tvw st ≤ 8) (hs : as.reverse ++ st = st0) (hq : pc + 3 = q)
    (h : X.bind K = some z) (lift : ∀ v, X = some v → Mt G Y' d' as M (some (vL v.1)) v.2) (kk : ∀ v, K v = some z → V G Y d M0 r M9 v.2 q lv (vL v.1 :: st)) : V G Y d M0 r M9 M pc lv st0 :=
  V.callS (fv := fun x => some (vL x)) hd hm hl1 hl2 hn hd' hw hs hq h lift kk
theorem V.callVr {T : u_T} {N : Nat} {X : Option (Option Nat × Mem)} {K : Option Nat × Mem → Option α} (hd : decode Y.2.1 pc = .ok (.invokevirtual idx, 3)) (hm : Me Y' n) (hl1 : Cond.methodLink Y.1.cls idx Y'.1 ∈ WT) (hl2 : Cond.instanceMethod Y'.1 ∈ WT) (hl3 : Cond.selects Y'.1.cls Y'.1 Y'.1 ∈ WT) (hC : Cls k Y'.1.cls T N) (hn : as.length = n) (hd' : d' + 1 ≤ d) (hw : tvw st ≤ 8) (hs : as.reverse ++ vR a :: st = st0) (hq : pc + 3 = q)
    (h : (ck M k a).bind (fun _ => X.bind K) = some z) (lift : ∀ v, X = some v → Mt G Y' d' (vR a :: as) M (some (vR v.1)) v.2) (kk : ∀ v, K v = some z → V G Y d M0 r M9 v.2 q lv (vR v.1 :: st)) : V G Y d M0 r M9 M pc lv st0 :=
  V.callV (fv := fun x => some (vR x)) hd hm hl1 hl2 hl3 hC hn hd' hw hs hq h lift kk
theorem V.callSr {X : Option (Option Nat × Mem)} {K : Option Nat × Mem → Option α} (hd : decode Y.2.1 pc = .ok (.invokestatic idx, 3)) (hm : Me Y' n) (hl1 : Cond.methodLink Y.1.cls idx Y'.1 ∈ WT) (hl2 : Cond.static Y'.1 ∈ WT) (hn : as.length = n) (hd' : d' + 1 ≤ d) (hw : tvw st ≤ 8) (hs : as.reverse ++ st = st0) (hq : pc + 3 = q)
    (h : X.bind K = some z) (lift : ∀ v, X = some v → Mt G Y' d' as M (some (vR v.1)) v.2) (kk : ∀ v, K v = some z → V G Y d M0 r M9 v.2 q lv (vR v.1 :: st)) : V G Y d M0 r M9 M pc lv st0 :=
  V.callS (fv := fun x => some (vR x)) hd hm hl1 hl2 hn hd' hw hs hq h lift kk
theorem V.callVv {T : u_T} {N : Nat} {X : Option (Unit × Mem)} {K : Unit × Mem → Option α} (hd : decode Y.2.1 pc = .ok (.invokevirtual idx, 3)) (hm : Me Y' n) (hl1 : Cond.methodLink Y.1.cls idx Y'.1 ∈ WT) (hl2 : Cond.instanceMethod Y'.1 ∈ WT) (hl3 : Cond.selects Y'.1.cls Y'.1 Y'.1 ∈ WT) (hC : Cls k Y'.1.cls T N) (hn : as.length = n) (hd' : d' + 1 ≤ d) (hw : tvw st ≤ 8) (hs : as.reverse ++ vR a :: st = st0) (hq : pc + 3 = q)
    (h : (ck M k a).bind (fun _ => X.bind K) = some z) (lift : ∀ v, X = some v → Mt G Y' d' (vR a :: as) M none v.2) (kk : ∀ v, K v = some z → V G Y d M0 r M9 v.2 q lv (st)) : V G Y d M0 r M9 M pc lv st0 :=
  V.callV (fv := fun _ => none) hd hm hl1 hl2 hl3 hC hn hd' hw hs hq h lift kk
theorem V.callSv {X : Option (Unit × Mem)} {K : Unit × Mem → Option α} (hd : decode Y.2.1 pc = .ok (.invokestatic idx, 3)) (hm : Me Y' n) (hl1 : Cond.methodLink Y.1.cls idx Y'.1 ∈ WT) (hl2 : Cond.static Y'.1 ∈ WT) (hn : as.length = n) (hd' : d' + 1 ≤ d) (hw : tvw st ≤ 8) (hs : as.reverse ++ st = st0) (hq : pc + 3 = q)
    (h : X.bind K = some z) (lift : ∀ v, X = some v → Mt G Y' d' as M none v.2) (kk : ∀ v, K v = some z → V G Y d M0 r M9 v.2 q lv (st)) : V G Y d M0 r M9 M pc lv st0 :=
  V.callS (fv := fun _ => none) hd hm hl1 hl2 hn hd' hw hs hq h lift kk
theorem callN_M {s : State} {args : Array Value} {own host : String} {index mc ms : Nat} {R : Room} (ht : ∀ w ∈ WT, w.before args s = true) (hm : Me Y' n) (hl : va_Nw (.methodLinkNest own index Y'.1 host) s) (hd : d' + 1 ≤ d) (hc : R.frames = d) (hz : R.locals = 64 * d) :
    va_CN R s args own index Y'.1 host Y'.2.1 Y'.2.2.1 Y'.2.2.2 (wsm Y') (rm d' mc ms) mc ms n := by
  obtain ⟨m1, m2, m3, m4, m5⟩ := hm
  refine ⟨⟨rfl, rfl, by show d' + 1 ≤ _; omega, by show 8 + (Y'.2.2.1 + 11) + 64 * d' ≤ _; omega, fun w hw a' U hW => ?_, List.mem_cons_self⟩, ht _ (WT_in m1), ht _ (WT_in m2), m3, fun sig h => ?_, va_Nw.use rfl hl⟩
  · rcases List.mem_cons.mp hw with e | e
    · subst e; exact word_at hW (WT_good m1) (ht _ (WT_in m1))
    · exact word_at hW (WT_good e) (ht _ (WT_in e))
  · rw [h] at m4; exact (Option.some.inj m4).symm
theorem V.callSN {β : Type} {X : Option (β × Mem)} {K : β × Mem → Option α} {fv : β → Option TV} {host : String} (hd : decode Y.2.1 pc = .ok (.invokestatic idx, 3)) (hm : Me Y' n) (hl1 : (Y.1.cls, idx, Y'.1, host) ∈ NL) (hl2 : Cond.static Y'.1 ∈ WT) (hn : as.length = n) (hd' : d' + 1 ≤ d) (hw : tvw st ≤ 8) (hs : as.reverse ++ st = st0) (hq : pc + 3 = q)
    (h : X.bind K = some z) (lift : ∀ v, X = some v → Mt G Y' d' as M (fv v.1) v.2) (kk : ∀ v, K v = some z → V G Y d M0 r M9 v.2 q lv ((fv v.1).toList ++ st)) : V G Y d M0 r M9 M pc lv st0 := by
  cases X with
  | none => cases h
  | some v =>
    have hM := lift v rfl
    refine V.back hM.1 (kk v h) hq fun h1 h2 h3 h4 p e s m args below meth c H locs ls C hR hz => ?_
    subst hs
    have hr := va_runSN (l := gL G) (p := p) (e := e) (below := below) (meth := meth) (locs := locs) (cells := nc M - nc M0) (slots := ns M - ns M0) (R := rm d (nc M9 - nc M0) (ns M9 - ns M0)) (g := F0 m pc ls ((as.reverse ++ st).map (tv (gb G)))) (As := as.map (tv (gb G))) (rest := st.map (tv (gb G))) (n := n) (H := H) ⟨C.1, C.2.1, C.2.2.1, C.2.2.2.1, C.2.2.2.2.1⟩ hM.2 ⟨callN_M C.2.2.2.2.1 hm (C.2.2.2.2.2.1.2.2.2.1 _ hl1) hd' rfl rfl, C.2.2.2.2.1 _ (WT_in hl2), trivial⟩
      ⟨Pc_blind _ _, fun U hU hW => ⟨rfl, by rw [hU]; exact hR, C.2.2.2.2.2.1.warm hW⟩⟩ rfl (by rw [List.length_map]; exact hn) hz (by show List.map _ _ = _; rw [List.map_append, List.map_reverse]) (lv_room (by rw [tvs_sum]; exact hw)) hd ⟨h3, h4⟩
    exact hr
theorem V.callSNi {X : Option (Int32 × Mem)} {K : Int32 × Mem → Option α} {host : String} (hd : decode Y.2.1 pc = .ok (.invokestatic idx, 3)) (hm : Me Y' n) (hl1 : (Y.1.cls, idx, Y'.1, host) ∈ NL) (hl2 : Cond.static Y'.1 ∈ WT) (hn : as.length = n) (hd' : d' + 1 ≤ d) (hw : tvw st ≤ 8) (hs : as.reverse ++ st = st0) (hq : pc + 3 = q)
    (h : X.bind K = some z) (lift : ∀ v, X = some v → Mt G Y' d' as M (some (vI v.1)) v.2) (kk : ∀ v, K v = some z → V G Y d M0 r M9 v.2 q lv (vI v.1 :: st)) : V G Y d M0 r M9 M pc lv st0 :=
  V.callSN (fv := fun x => some (vI x)) hd hm hl1 hl2 hn hd' hw hs hq h lift kk
theorem V.callIN {β : Type} {X : Option (β × Mem)} {K : β × Mem → Option α} {a : Nat} {host : String} (hd : decode Y.2.1 pc = .ok (.invokespecial idx, 3)) (hm : Me Y' n) (hv : Y'.2.2.2 = none) (hnm : Y'.1.name = "<init>") (hl1 : (Y.1.cls, idx, Y'.1, host) ∈ NL) (hl2 : Cond.instanceMethod Y'.1 ∈ WT) (hn : as.length = n) (hd' : d' + 1 ≤ d) (hw : tvw st ≤ 8) (hs : as.reverse ++ vR (some a) :: st = st0) (hq : pc + 3 = q)
    (h : X.bind K = some z) (lift : ∀ v, X = some v → Mt G Y' d' (vR (some a) :: as) M none v.2) (kk : ∀ v, K v = some z → V G Y d M0 r M9 v.2 q lv st) : V G Y d M0 r M9 M pc lv st0 := by
  cases X with
  | none => cases h
  | some v =>
    have hM := lift v rfl
    refine V.back (v := none) hM.1 (kk v h) hq fun h1 h2 h3 h4 p e s m args below meth c H locs ls C hR hz => ?_
    subst hs
    have cb := callN_M (R := rm d (nc M9 - nc M0) (ns M9 - ns M0)) (mc := nc v.2 - nc M) (ms := ns v.2 - ns M) C.2.2.2.2.1 hm (C.2.2.2.2.2.1.2.2.2.1 _ hl1) hd' rfl rfl
    rw [hv] at cb
    have hr := va_runIN (l := gL G) (p := p) (e := e) (below := below) (meth := meth) (locs := locs) (cells := nc M - nc M0) (slots := ns M - ns M0) (R := rm d (nc M9 - nc M0) (ns M9 - ns M0)) (g := F0 m pc ls ((as.reverse ++ vR (some a) :: st).map (tv (gb G)))) (b := gb G + a) (As := as.map (tv (gb G))) (rest := st.map (tv (gb G))) (n := n) (H := H) ⟨C.1, C.2.1, C.2.2.1, C.2.2.2.1, C.2.2.2.2.1⟩ hM.2 ⟨cb, hnm, C.2.2.2.2.1 _ (WT_in hl2)⟩
      ⟨Pc_blind _ _, fun U hU hW => ⟨rfl, by rw [hU]; exact hR, C.2.2.2.2.2.1.warm hW⟩⟩ rfl (by rw [List.length_map]; exact hn) hz (by show List.map _ _ = _; rw [List.map_append, List.map_reverse]; rfl) (lv_room (by rw [tvs_sum]; exact hw)) hd ⟨h3, h4⟩
    exact hr
theorem V.objInitR {A : Option α} (hd : decode Y.2.1 pc = .ok (.invokespecial idx, 3)) (hl1 : Cond.methodLink Y.1.cls idx Lib.objectInit ∈ WT) (hl2 : Cond.instanceMethod Lib.objectInit ∈ WT) (hl3 : Cond.code Lib.objectInit ⟨#[0xb1]⟩ 1 none ∈ WT) (hd1 : 1 ≤ d) (hq : pc + 3 = q) (h : (if a = none then none else A) = some z) (k : A = some z → V G Y d M0 r M9 M q lv []) : V G Y d M0 r M9 M pc lv [vR a] := by
  cases a with
  | none => cases h
  | some a => rw [if_neg (by intro e; cases e)] at h; exact V.objInit hd hl1 hl2 hl3 hd1 hq (k h)
theorem V.ldc_w {x : Int32} (hd : decode Y.2.1 pc = .ok (.ldc_w idx, 3)) (hw : Cond.constant Y.1.cls idx x ∈ WT) (hq : pc + 3 = q) (k : V G Y d M0 r M9 M q lv (vI x :: st)) : V G Y d M0 r M9 M pc lv st := by
  subst hq
  refine ⟨k.1, fun h1 h2 p e s m args below meth c H locs ls C hR hL hl => ?_⟩
  exact lv_ldcw C.1 C.2.1 C.2.2.2.1 (C.2.2.2.2.1 _ (WT_in hw)) hd (k.2 h1 h2 p e s m args below meth c H locs ls C hR hL hl)
theorem V.sw {x c : Int32} {A B : Option α} (h : (if x = c then A else B) = some z) (kt : x = c → A = some z → V G Y d M0 r M9 M pc lv st) (kf : ¬ x = c → B = some z → V G Y d M0 r M9 M pc lv st) : V G Y d M0 r M9 M pc lv st := by
  by_cases hc : x = c
  · rw [if_pos hc] at h; exact kt hc h
  · rw [if_neg hc] at h; exact kf hc h
theorem V.cs {x c : Int32} (kt : x = c → V G Y d M0 r M9 M pc lv (vI x :: st)) (kf : ¬ x = c → V G Y d M0 r M9 M pc lv (vI x :: st)) : V G Y d M0 r M9 M pc lv (vI x :: st) := by
  by_cases hc : x = c
  · exact kt hc
  · exact kf hc
theorem V.swt {x c : Int32} (hc : x = c) (k : V G Y d M0 r M9 M pc lv (vI c :: st)) : V G Y d M0 r M9 M pc lv (vI x :: st) := by
  rw [hc]; exact k
theorem sw_ne {x c : Int32} (h : ¬ x = c) : x.toInt ≠ c.toInt := fun e => h (Int32.toInt_inj.mp e)
end Calls2
