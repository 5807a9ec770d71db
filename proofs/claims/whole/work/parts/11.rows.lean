-- ===== rows of V: a row an instruction =====
section VRows
variable {G : Gt} {Y : MI} {d : Nat} {M0 M9 M : Mem} {r : Option TV} {pc q : Nat} {lv : List (Nat × TV)} {st : List TV}
/-- a step that leaves heap and locals -/
theorem V.go {st' : List TV} (h : ∀ {p : Program} {e : Env} {R : Room} {s : State} {m : MethodId} {args : Array Value} {below : List Frame} {meth : Method} {c : Code} {H : Heap} {locs : List Loc} {cells slots : Nat} {Q : State → Prop} {ls : Array Slot}, p.tables.exec = Jvm.exec → c.code = Y.2.1 → W p (gL G) e R s m args below meth c H locs cells slots Q (F0 m q ls (st'.map (tv (gb G)))) → W p (gL G) e R s m args below meth c H locs cells slots Q (F0 m pc ls (st.map (tv (gb G)))))
    (k : V G Y d M0 r M9 M q lv st') : V G Y d M0 r M9 M pc lv st :=
  ⟨k.1, fun h1 h2 p e s m args below meth c H locs ls C hR hL hl => h C.1 C.2.1 (k.2 h1 h2 p e s m args below meth c H locs ls C hR hL hl)⟩
theorem V.ld {st' : List TV} {i n : Nat} {v : TV} (hi : lv[n]? = some (i, v)) (h : ∀ {p : Program} {e : Env} {R : Room} {s : State} {m : MethodId} {args : Array Value} {below : List Frame} {meth : Method} {c : Code} {H : Heap} {locs : List Loc} {cells slots : Nat} {Q : State → Prop} {ls : Array Slot}, p.tables.exec = Jvm.exec → c.code = Y.2.1 → ls[i]? = some (.val (tv (gb G) v)) → W p (gL G) e R s m args below meth c H locs cells slots Q (F0 m q ls (st'.map (tv (gb G)))) → W p (gL G) e R s m args below meth c H locs cells slots Q (F0 m pc ls (st.map (tv (gb G)))))
    (k : V G Y d M0 r M9 M q lv st') : V G Y d M0 r M9 M pc lv st :=
  ⟨k.1, fun h1 h2 p e s m args below meth c H locs ls C hR hL hl => h C.1 C.2.1 (lv_at hl n (by unfold lvm; rw [List.getElem?_map, hi]; rfl)) (k.2 h1 h2 p e s m args below meth c H locs ls C hR hL hl)⟩
theorem lvm_pick (b : Nat) (l : List (Nat × TV)) (ks : List Nat) : lv_pick (lvm b l) ks = lvm b (ks.filterMap (fun k => l[k]?)) := by
  unfold lv_pick lvm
  induction ks with
  | nil => rfl
  | cons k ks ih =>
    rw [List.filterMap_cons, List.filterMap_cons, List.getElem?_map]
    cases l[k]? with
    | none => exact ih
    | some x => show (_ :: _) = (_ :: _); rw [ih]
/-- fewer locals, in another order, by their places -/
theorem V.sub {lv' : List (Nat × TV)} (ks : List Nat) (hs : ks.filterMap (fun k => lv[k]?) = lv') (k : V G Y d M0 r M9 M pc lv' st) : V G Y d M0 r M9 M pc lv st :=
  ⟨k.1, fun h1 h2 p e s m args below meth c H locs ls C hR hL hl => k.2 h1 h2 p e s m args below meth c H locs ls C hR hL (lv_sub hl ks (by rw [lvm_pick, hs]))⟩
theorem lvm_f1 (b i : Nat) (l : List (Nat × TV)) : (lvm b l).filter (fun q => !(q.1 == i) && !(q.1 + 1 == i && q.2.category == 2)) = lvm b (l.filter (fun q => !(q.1 == i) && !(q.1 + 1 == i && tc q.2 == 2))) := by
  unfold lvm
  rw [List.filter_map]
  congr 1
  refine List.filter_congr fun q _ => ?_
  show (!(q.1 == i) && !(q.1 + 1 == i && (tv b q.2).category == 2)) = _
  rw [tv_cat]
theorem lvm_f2 (b i : Nat) (l : List (Nat × TV)) : (lvm b l).filter (fun q => !(q.1 == i) && (!(q.1 == i + 1) && !(q.1 + 1 == i && q.2.category == 2))) = lvm b (l.filter (fun q => !(q.1 == i) && (!(q.1 == i + 1) && !(q.1 + 1 == i && tc q.2 == 2)))) := by
  unfold lvm
  rw [List.filter_map]
  congr 1
  refine List.filter_congr fun q _ => ?_
  show (!(q.1 == i) && (!(q.1 == i + 1) && !(q.1 + 1 == i && (tv b q.2).category == 2))) = _
  rw [tv_cat]
theorem V.st1 {i : Nat} {v : TV} {lv' : List (Nat × TV)} (hl : (i, v) :: lv.filter (fun q => !(q.1 == i) && !(q.1 + 1 == i && tc q.2 == 2)) = lv') (h : ∀ {p : Program} {e : Env} {R : Room} {s : State} {m : MethodId} {args : Array Value} {below : List Frame} {meth : Method} {c : Code} {H : Heap} {locs : List Loc} {cells slots : Nat} {Q : State → Prop} {ls : Array Slot}, p.tables.exec = Jvm.exec → c.code = Y.2.1 → lv_has ls Y.2.2.1 (lvm (gb G) lv) → (∀ ls' : Array Slot, lv_has ls' Y.2.2.1 ((i, tv (gb G) v) :: (lvm (gb G) lv).filter (fun q => !(q.1 == i) && !(q.1 + 1 == i && q.2.category == 2))) → W p (gL G) e R s m args below meth c H locs cells slots Q (F0 m q ls' (st.map (tv (gb G))))) → W p (gL G) e R s m args below meth c H locs cells slots Q (F0 m pc ls ((v :: st).map (tv (gb G)))))
    (k : V G Y d M0 r M9 M q lv' st) : V G Y d M0 r M9 M pc lv (v :: st) :=
  ⟨k.1, fun h1 h2 p e s m args below meth c H locs ls C hR hL hv => h C.1 C.2.1 hv (fun ls' h' => k.2 h1 h2 p e s m args below meth c H locs ls' C hR hL (by rw [← hl]; rw [lvm_f1] at h'; exact h'))⟩
theorem V.st2 {i : Nat} {v : TV} {lv' : List (Nat × TV)} (hl : (i, v) :: lv.filter (fun q => !(q.1 == i) && (!(q.1 == i + 1) && !(q.1 + 1 == i && tc q.2 == 2))) = lv') (h : ∀ {p : Program} {e : Env} {R : Room} {s : State} {m : MethodId} {args : Array Value} {below : List Frame} {meth : Method} {c : Code} {H : Heap} {locs : List Loc} {cells slots : Nat} {Q : State → Prop} {ls : Array Slot}, p.tables.exec = Jvm.exec → c.code = Y.2.1 → lv_has ls Y.2.2.1 (lvm (gb G) lv) → (∀ ls' : Array Slot, lv_has ls' Y.2.2.1 ((i, tv (gb G) v) :: (lvm (gb G) lv).filter (fun q => !(q.1 == i) && (!(q.1 == i + 1) && !(q.1 + 1 == i && q.2.category == 2)))) → W p (gL G) e R s m args below meth c H locs cells slots Q (F0 m q ls' (st.map (tv (gb G))))) → W p (gL G) e R s m args below meth c H locs cells slots Q (F0 m pc ls ((v :: st).map (tv (gb G)))))
    (k : V G Y d M0 r M9 M q lv' st) : V G Y d M0 r M9 M pc lv (v :: st) :=
  ⟨k.1, fun h1 h2 p e s m args below meth c H locs ls C hR hL hv => h C.1 C.2.1 hv (fun ls' h' => k.2 h1 h2 p e s m args below meth c H locs ls' C hR hL (by rw [← hl]; rw [lvm_f2] at h'; exact h'))⟩
/-- a branch -/
theorem V.br {α : Type} {st' : List TV} {q' : Nat} {b : Prop} [Decidable b] {A B : Option α} {z : α} (h : (if b then A else B) = some z) (w : ∀ {p : Program} {e : Env} {R : Room} {s : State} {m : MethodId} {args : Array Value} {below : List Frame} {meth : Method} {c : Code} {H : Heap} {locs : List Loc} {cells slots : Nat} {Q : State → Prop} {ls : Array Slot}, p.tables.exec = Jvm.exec → c.code = Y.2.1 → (b → W p (gL G) e R s m args below meth c H locs cells slots Q (F0 m q ls (st'.map (tv (gb G))))) → (¬ b → W p (gL G) e R s m args below meth c H locs cells slots Q (F0 m q' ls (st'.map (tv (gb G))))) → W p (gL G) e R s m args below meth c H locs cells slots Q (F0 m pc ls (st.map (tv (gb G)))))
    (kt : A = some z → V G Y d M0 r M9 M q lv st') (kf : B = some z → V G Y d M0 r M9 M q' lv st') : V G Y d M0 r M9 M pc lv st := by
  by_cases hb : b
  · rw [if_pos hb] at h
    have k := kt h
    exact ⟨k.1, fun h1 h2 p e s m args below meth c H locs ls C hR hL hl => w C.1 C.2.1 (fun _ => k.2 h1 h2 p e s m args below meth c H locs ls C hR hL hl) (fun x => absurd hb x)⟩
  · rw [if_neg hb] at h
    have k := kf h
    exact ⟨k.1, fun h1 h2 p e s m args below meth c H locs ls C hR hL hl => w C.1 C.2.1 (fun x => absurd x hb) (fun _ => k.2 h1 h2 p e s m args below meth c H locs ls C hR hL hl)⟩
theorem V.iconst {n : Int} {x : Int32} (hd : decode Y.2.1 pc = .ok (.iconst n, 1)) (hv : Int32.ofInt n = x) (hq : pc + 1 = q) (k : V G Y d M0 r M9 M q lv (vI x :: st)) : V G Y d M0 r M9 M pc lv st := by
  subst hq; exact V.go (fun hx hb => lv_iconst hx hb hd hv) k
theorem V.bipush {n : Int} {x : Int32} (hd : decode Y.2.1 pc = .ok (.bipush n, 2)) (hv : (Int8.ofInt n).toInt32 = x) (hq : pc + 2 = q) (k : V G Y d M0 r M9 M q lv (vI x :: st)) : V G Y d M0 r M9 M pc lv st := by
  subst hq; exact V.go (fun hx hb => lv_bipush hx hb hd hv) k
theorem V.sipush {n : Int} {x : Int32} (hd : decode Y.2.1 pc = .ok (.sipush n, 3)) (hv : (Int16.ofInt n).toInt32 = x) (hq : pc + 3 = q) (k : V G Y d M0 r M9 M q lv (vI x :: st)) : V G Y d M0 r M9 M pc lv st := by
  subst hq; exact V.go (fun hx hb => lv_sipush hx hb hd hv) k
theorem V.lconst {n : Fin 2} {x : Int64} (hd : decode Y.2.1 pc = .ok (.lconst n, 1)) (hv : Int64.ofNat n.val = x) (hq : pc + 1 = q) (k : V G Y d M0 r M9 M q lv (vL x :: st)) : V G Y d M0 r M9 M pc lv st := by
  subst hq; exact V.go (fun hx hb => lv_lconst hx hb hd hv) k
theorem V.iload_n {i : Fin 4} {n : Nat} {x : Int32} (hd : decode Y.2.1 pc = .ok (.iload_n i, 1)) (hi : lv[n]? = some (i.val, vI x)) (hq : pc + 1 = q) (k : V G Y d M0 r M9 M q lv (vI x :: st)) : V G Y d M0 r M9 M pc lv st := by
  subst hq; exact V.ld hi (fun hx hb hl => lv_iload_n hx hb hd rfl hl) k
theorem V.iload {i n : Nat} {x : Int32} (hd : decode Y.2.1 pc = .ok (.iload i, 2)) (hi : lv[n]? = some (i, vI x)) (hq : pc + 2 = q) (k : V G Y d M0 r M9 M q lv (vI x :: st)) : V G Y d M0 r M9 M pc lv st := by
  subst hq; exact V.ld hi (fun hx hb hl => lv_iload hx hb hd hl) k
theorem V.lload_n {i : Fin 4} {n : Nat} {x : Int64} (hd : decode Y.2.1 pc = .ok (.lload_n i, 1)) (hi : lv[n]? = some (i.val, vL x)) (hq : pc + 1 = q) (k : V G Y d M0 r M9 M q lv (vL x :: st)) : V G Y d M0 r M9 M pc lv st := by
  subst hq; exact V.ld hi (fun hx hb hl => lv_lload_n hx hb hd rfl hl) k
theorem V.lload {i n : Nat} {x : Int64} (hd : decode Y.2.1 pc = .ok (.lload i, 2)) (hi : lv[n]? = some (i, vL x)) (hq : pc + 2 = q) (k : V G Y d M0 r M9 M q lv (vL x :: st)) : V G Y d M0 r M9 M pc lv st := by
  subst hq; exact V.ld hi (fun hx hb hl => lv_lload hx hb hd hl) k
theorem V.aload_n {i : Fin 4} {n : Nat} {x : Option Nat} (hd : decode Y.2.1 pc = .ok (.aload_n i, 1)) (hi : lv[n]? = some (i.val, vR x)) (hq : pc + 1 = q) (k : V G Y d M0 r M9 M q lv (vR x :: st)) : V G Y d M0 r M9 M pc lv st := by
  subst hq
  cases x with
  | none => exact V.ld hi (fun hx hb hl => lv_aload_nN hx hb hd rfl hl) k
  | some a => exact V.ld hi (fun hx hb hl => lv_aload_n hx hb hd rfl hl) k
theorem V.aload {i n : Nat} {x : Option Nat} (hd : decode Y.2.1 pc = .ok (.aload i, 2)) (hi : lv[n]? = some (i, vR x)) (hq : pc + 2 = q) (k : V G Y d M0 r M9 M q lv (vR x :: st)) : V G Y d M0 r M9 M pc lv st := by
  subst hq
  cases x with
  | none => exact V.ld hi (fun hx hb hl => lv_aloadN hx hb hd hl) k
  | some a => exact V.ld hi (fun hx hb hl => lv_aload hx hb hd hl) k
theorem V.istore_n {i4 : Fin 4} {i : Nat} {x : Int32} {lv' : List (Nat × TV)} (hd : decode Y.2.1 pc = .ok (.istore_n i4, 1)) (hi : i4.val = i) (hn : i < Y.2.2.1) (hl : (i, vI x) :: lv.filter (fun q => !(q.1 == i) && !(q.1 + 1 == i && tc q.2 == 2)) = lv') (hq : pc + 1 = q) (k : V G Y d M0 r M9 M q lv' st) : V G Y d M0 r M9 M pc lv (vI x :: st) := by
  subst hq; exact V.st1 hl (fun hx hb hv kk => lv_istore_n hx hb hd hi hv hn rfl kk) k
theorem V.istore {i : Nat} {x : Int32} {lv' : List (Nat × TV)} (hd : decode Y.2.1 pc = .ok (.istore i, 2)) (hn : i < Y.2.2.1) (hl : (i, vI x) :: lv.filter (fun q => !(q.1 == i) && !(q.1 + 1 == i && tc q.2 == 2)) = lv') (hq : pc + 2 = q) (k : V G Y d M0 r M9 M q lv' st) : V G Y d M0 r M9 M pc lv (vI x :: st) := by
  subst hq; exact V.st1 hl (fun hx hb hv kk => lv_istore hx hb hd hv hn rfl kk) k
theorem V.lstore_n {i4 : Fin 4} {i : Nat} {x : Int64} {lv' : List (Nat × TV)} (hd : decode Y.2.1 pc = .ok (.lstore_n i4, 1)) (hi : i4.val = i) (hn : i + 1 < Y.2.2.1) (hl : (i, vL x) :: lv.filter (fun q => !(q.1 == i) && (!(q.1 == i + 1) && !(q.1 + 1 == i && tc q.2 == 2))) = lv') (hq : pc + 1 = q) (k : V G Y d M0 r M9 M q lv' st) : V G Y d M0 r M9 M pc lv (vL x :: st) := by
  subst hq; exact V.st2 hl (fun hx hb hv kk => lv_lstore_n hx hb hd hi hv hn rfl kk) k
theorem V.lstore {i : Nat} {x : Int64} {lv' : List (Nat × TV)} (hd : decode Y.2.1 pc = .ok (.lstore i, 2)) (hn : i + 1 < Y.2.2.1) (hl : (i, vL x) :: lv.filter (fun q => !(q.1 == i) && (!(q.1 == i + 1) && !(q.1 + 1 == i && tc q.2 == 2))) = lv') (hq : pc + 2 = q) (k : V G Y d M0 r M9 M q lv' st) : V G Y d M0 r M9 M pc lv (vL x :: st) := by
  subst hq; exact V.st2 hl (fun hx hb hv kk => lv_lstore hx hb hd hv hn rfl kk) k
theorem V.astore_n {i4 : Fin 4} {i : Nat} {x : Option Nat} {lv' : List (Nat × TV)} (hd : decode Y.2.1 pc = .ok (.astore_n i4, 1)) (hi : i4.val = i) (hn : i < Y.2.2.1) (hl : (i, vR x) :: lv.filter (fun q => !(q.1 == i) && !(q.1 + 1 == i && tc q.2 == 2)) = lv') (hq : pc + 1 = q) (k : V G Y d M0 r M9 M q lv' st) : V G Y d M0 r M9 M pc lv (vR x :: st) := by
  subst hq
  cases x with
  | none => exact V.st1 hl (fun hx hb hv kk => lv_astore_nN hx hb hd hi hv hn rfl kk) k
  | some a => exact V.st1 hl (fun hx hb hv kk => lv_astore_n hx hb hd hi hv hn rfl kk) k
theorem V.astore {i : Nat} {x : Option Nat} {lv' : List (Nat × TV)} (hd : decode Y.2.1 pc = .ok (.astore i, 2)) (hn : i < Y.2.2.1) (hl : (i, vR x) :: lv.filter (fun q => !(q.1 == i) && !(q.1 + 1 == i && tc q.2 == 2)) = lv') (hq : pc + 2 = q) (k : V G Y d M0 r M9 M q lv' st) : V G Y d M0 r M9 M pc lv (vR x :: st) := by
  subst hq
  cases x with
  | none => exact V.st1 hl (fun hx hb hv kk => lv_astoreN hx hb hd hv hn rfl kk) k
  | some a => exact V.st1 hl (fun hx hb hv kk => lv_astore hx hb hd hv hn rfl kk) k
theorem V.iinc {i n : Nat} {z : Int} {x y : Int32} {lv' : List (Nat × TV)} (hd : decode Y.2.1 pc = .ok (.iinc i z, 3)) (hk : lv[n]? = some (i, vI y)) (hv : y + Int32.ofInt z = x) (hn : i < Y.2.2.1) (hl : (i, vI x) :: lv.filter (fun q => !(q.1 == i) && !(q.1 + 1 == i && tc q.2 == 2)) = lv') (hq : pc + 3 = q) (k : V G Y d M0 r M9 M q lv' st) : V G Y d M0 r M9 M pc lv st := by
  subst hq
  refine ⟨k.1, fun h1 h2 p e s m args below meth c H locs ls C hR hL hw => ?_⟩
  exact lv_iinc C.1 C.2.1 hd hw (k := n) (by unfold lvm; rw [List.getElem?_map, hk]; rfl) hv hn rfl (fun ls' h' => k.2 h1 h2 p e s m args below meth c H locs ls' C hR hL (by rw [← hl]; rw [lvm_f1] at h'; exact h'))
theorem V.iadd {x y : Int32} (hd : decode Y.2.1 pc = .ok (.iadd, 1)) (hq : pc + 1 = q) (k : V G Y d M0 r M9 M q lv (vI (x + y) :: st)) : V G Y d M0 r M9 M pc lv (vI y :: vI x :: st) := by
  subst hq; exact V.go (fun hx hb => lv_iadd hx hb hd) k
theorem V.isub {x y : Int32} (hd : decode Y.2.1 pc = .ok (.isub, 1)) (hq : pc + 1 = q) (k : V G Y d M0 r M9 M q lv (vI (x - y) :: st)) : V G Y d M0 r M9 M pc lv (vI y :: vI x :: st) := by
  subst hq; exact V.go (fun hx hb => lv_isub hx hb hd) k
theorem V.imul {x y : Int32} (hd : decode Y.2.1 pc = .ok (.imul, 1)) (hq : pc + 1 = q) (k : V G Y d M0 r M9 M q lv (vI (x * y) :: st)) : V G Y d M0 r M9 M pc lv (vI y :: vI x :: st) := by
  subst hq; exact V.go (fun hx hb => lv_imul hx hb hd) k
theorem V.iand {x y : Int32} (hd : decode Y.2.1 pc = .ok (.iand, 1)) (hq : pc + 1 = q) (k : V G Y d M0 r M9 M q lv (vI (x &&& y) :: st)) : V G Y d M0 r M9 M pc lv (vI y :: vI x :: st) := by
  subst hq; exact V.go (fun hx hb => lv_iand hx hb hd) k
theorem V.ior {x y : Int32} (hd : decode Y.2.1 pc = .ok (.ior, 1)) (hq : pc + 1 = q) (k : V G Y d M0 r M9 M q lv (vI (x ||| y) :: st)) : V G Y d M0 r M9 M pc lv (vI y :: vI x :: st) := by
  subst hq; exact V.go (fun hx hb => lv_ior hx hb hd) k
theorem V.ixor {x y : Int32} (hd : decode Y.2.1 pc = .ok (.ixor, 1)) (hq : pc + 1 = q) (k : V G Y d M0 r M9 M q lv (vI (x ^^^ y) :: st)) : V G Y d M0 r M9 M pc lv (vI y :: vI x :: st) := by
  subst hq; exact V.go (fun hx hb => lv_ixor hx hb hd) k
theorem V.ishl {x y : Int32} (hd : decode Y.2.1 pc = .ok (.ishl, 1)) (hq : pc + 1 = q) (k : V G Y d M0 r M9 M q lv (vI (x <<< (y &&& 31)) :: st)) : V G Y d M0 r M9 M pc lv (vI y :: vI x :: st) := by
  subst hq; exact V.go (fun hx hb => lv_ishl hx hb hd) k
theorem V.ishr {x y : Int32} (hd : decode Y.2.1 pc = .ok (.ishr, 1)) (hq : pc + 1 = q) (k : V G Y d M0 r M9 M q lv (vI (x >>> (y &&& 31)) :: st)) : V G Y d M0 r M9 M pc lv (vI y :: vI x :: st) := by
  subst hq; exact V.go (fun hx hb => lv_ishr hx hb hd) k
theorem V.iushr {x y : Int32} (hd : decode Y.2.1 pc = .ok (.iushr, 1)) (hq : pc + 1 = q) (k : V G Y d M0 r M9 M q lv (vI ((x.toUInt32 >>> (y.toUInt32 &&& Int32.toUInt32 31)).toInt32) :: st)) : V G Y d M0 r M9 M pc lv (vI y :: vI x :: st) := by
  subst hq; exact V.go (fun hx hb => lv_iushr hx hb hd rfl) k
theorem V.ladd {x y : Int64} (hd : decode Y.2.1 pc = .ok (.ladd, 1)) (hq : pc + 1 = q) (k : V G Y d M0 r M9 M q lv (vL (x + y) :: st)) : V G Y d M0 r M9 M pc lv (vL y :: vL x :: st) := by
  subst hq; exact V.go (fun hx hb => lv_ladd hx hb hd) k
theorem V.lsub {x y : Int64} (hd : decode Y.2.1 pc = .ok (.lsub, 1)) (hq : pc + 1 = q) (k : V G Y d M0 r M9 M q lv (vL (x - y) :: st)) : V G Y d M0 r M9 M pc lv (vL y :: vL x :: st) := by
  subst hq; exact V.go (fun hx hb => lv_lsub hx hb hd) k
theorem V.lmul {x y : Int64} (hd : decode Y.2.1 pc = .ok (.lmul, 1)) (hq : pc + 1 = q) (k : V G Y d M0 r M9 M q lv (vL (x * y) :: st)) : V G Y d M0 r M9 M pc lv (vL y :: vL x :: st) := by
  subst hq; exact V.go (fun hx hb => lv_lmul hx hb hd) k
theorem V.land {x y : Int64} (hd : decode Y.2.1 pc = .ok (.land, 1)) (hq : pc + 1 = q) (k : V G Y d M0 r M9 M q lv (vL (x &&& y) :: st)) : V G Y d M0 r M9 M pc lv (vL y :: vL x :: st) := by
  subst hq; exact V.go (fun hx hb => lv_land hx hb hd) k
theorem V.lor {x y : Int64} (hd : decode Y.2.1 pc = .ok (.lor, 1)) (hq : pc + 1 = q) (k : V G Y d M0 r M9 M q lv (vL (x ||| y) :: st)) : V G Y d M0 r M9 M pc lv (vL y :: vL x :: st) := by
  subst hq; exact V.go (fun hx hb => lv_lor hx hb hd) k
theorem V.lxor {x y : Int64} (hd : decode Y.2.1 pc = .ok (.lxor, 1)) (hq : pc + 1 = q) (k : V G Y d M0 r M9 M q lv (vL (x ^^^ y) :: st)) : V G Y d M0 r M9 M pc lv (vL y :: vL x :: st) := by
  subst hq; exact V.go (fun hx hb => lv_lxor hx hb hd) k
theorem V.idiv {α : Type} {x y : Int32} {A : Option α} {z : α} (hd : decode Y.2.1 pc = .ok (.idiv, 1)) (h : (if y = 0 then none else A) = some z) (hq : pc + 1 = q) (k : A = some z → V G Y d M0 r M9 M q lv (vI (x / y) :: st)) : V G Y d M0 r M9 M pc lv (vI y :: vI x :: st) := by
  subst hq
  by_cases hy : y = 0
  · rw [if_pos hy] at h; cases h
  · rw [if_neg hy] at h
    exact V.go (fun hx hb => lv_idiv hx hb hd hy) (k h)
theorem V.irem {α : Type} {x y : Int32} {A : Option α} {z : α} (hd : decode Y.2.1 pc = .ok (.irem, 1)) (h : (if y = 0 then none else A) = some z) (hq : pc + 1 = q) (k : A = some z → V G Y d M0 r M9 M q lv (vI (x - x / y * y) :: st)) : V G Y d M0 r M9 M pc lv (vI y :: vI x :: st) := by
  subst hq
  by_cases hy : y = 0
  · rw [if_pos hy] at h; cases h
  · rw [if_neg hy] at h
    exact V.go (fun hx hb => lv_irem hx hb hd hy) (k h)
theorem V.ldiv {α : Type} {x y : Int64} {A : Option α} {z : α} (hd : decode Y.2.1 pc = .ok (.ldiv, 1)) (h : (if y = 0 then none else A) = some z) (hq : pc + 1 = q) (k : A = some z → V G Y d M0 r M9 M q lv (vL (x / y) :: st)) : V G Y d M0 r M9 M pc lv (vL y :: vL x :: st) := by
  subst hq
  by_cases hy : y = 0
  · rw [if_pos hy] at h; cases h
  · rw [if_neg hy] at h
    exact V.go (fun hx hb => lv_ldiv hx hb hd hy) (k h)
theorem V.lrem {α : Type} {x y : Int64} {A : Option α} {z : α} (hd : decode Y.2.1 pc = .ok (.lrem, 1)) (h : (if y = 0 then none else A) = some z) (hq : pc + 1 = q) (k : A = some z → V G Y d M0 r M9 M q lv (vL (x - x / y * y) :: st)) : V G Y d M0 r M9 M pc lv (vL y :: vL x :: st) := by
  subst hq
  by_cases hy : y = 0
  · rw [if_pos hy] at h; cases h
  · rw [if_neg hy] at h
    exact V.go (fun hx hb => lv_lrem hx hb hd hy) (k h)
theorem V.ineg {x : Int32} (hd : decode Y.2.1 pc = .ok (.ineg, 1)) (hq : pc + 1 = q) (k : V G Y d M0 r M9 M q lv (vI (-x) :: st)) : V G Y d M0 r M9 M pc lv (vI x :: st) := by
  subst hq; exact V.go (fun hx hb => lv_ineg hx hb hd) k
theorem V.lneg {x : Int64} (hd : decode Y.2.1 pc = .ok (.lneg, 1)) (hq : pc + 1 = q) (k : V G Y d M0 r M9 M q lv (vL (-x) :: st)) : V G Y d M0 r M9 M pc lv (vL x :: st) := by
  subst hq; exact V.go (fun hx hb => lv_lneg hx hb hd) k
theorem V.i2l {x : Int32} (hd : decode Y.2.1 pc = .ok (.i2l, 1)) (hq : pc + 1 = q) (k : V G Y d M0 r M9 M q lv (vL x.toInt64 :: st)) : V G Y d M0 r M9 M pc lv (vI x :: st) := by
  subst hq; exact V.go (fun hx hb => lv_i2l hx hb hd rfl) k
theorem V.l2i {x : Int64} (hd : decode Y.2.1 pc = .ok (.l2i, 1)) (hq : pc + 1 = q) (k : V G Y d M0 r M9 M q lv (vI x.toInt32 :: st)) : V G Y d M0 r M9 M pc lv (vL x :: st) := by
  subst hq; exact V.go (fun hx hb => lv_l2i hx hb hd rfl) k
theorem V.i2b {x : Int32} (hd : decode Y.2.1 pc = .ok (.i2b, 1)) (hq : pc + 1 = q) (k : V G Y d M0 r M9 M q lv (vI x.toInt8.toInt32 :: st)) : V G Y d M0 r M9 M pc lv (vI x :: st) := by
  subst hq; exact V.go (fun hx hb => lv_i2b hx hb hd rfl) k
theorem V.i2c {x : Int32} (hd : decode Y.2.1 pc = .ok (.i2c, 1)) (hq : pc + 1 = q) (k : V G Y d M0 r M9 M q lv (vI (x.toUInt32 % 65536).toInt32 :: st)) : V G Y d M0 r M9 M pc lv (vI x :: st) := by
  subst hq; exact V.go (fun hx hb => lv_i2c hx hb hd rfl) k
theorem V.lshl {x : Int64} {y : Int32} (hd : decode Y.2.1 pc = .ok (.lshl, 1)) (hq : pc + 1 = q) (k : V G Y d M0 r M9 M q lv (vL (x <<< (y.toInt64 &&& 63)) :: st)) : V G Y d M0 r M9 M pc lv (vI y :: vL x :: st) := by
  subst hq; exact V.go (fun hx hb => lv_lshl hx hb hd rfl) k
theorem V.lushr {x : Int64} {y : Int32} (hd : decode Y.2.1 pc = .ok (.lushr, 1)) (hq : pc + 1 = q) (k : V G Y d M0 r M9 M q lv (vL (x.toUInt64 >>> (y.toInt64.toUInt64 &&& Int64.toUInt64 63)).toInt64 :: st)) : V G Y d M0 r M9 M pc lv (vI y :: vL x :: st) := by
  subst hq; exact V.go (fun hx hb => lv_lushr hx hb hd rfl) k
theorem V.null (hd : decode Y.2.1 pc = .ok (.aconst_null, 1)) (hq : pc + 1 = q) (k : V G Y d M0 r M9 M q lv (vR none :: st)) : V G Y d M0 r M9 M pc lv st := by
  subst hq; exact V.go (fun hx hb => lv_null hx hb hd) k
theorem V.dup {v : TV} (hd : decode Y.2.1 pc = .ok (.dup, 1)) (hc : tc v = 1) (hq : pc + 1 = q) (k : V G Y d M0 r M9 M q lv (v :: v :: st)) : V G Y d M0 r M9 M pc lv (v :: st) := by
  subst hq; exact V.go (fun hx hb => lv_dup hx hb hd (by rw [tv_cat]; exact hc)) k
theorem V.pop {v : TV} (hd : decode Y.2.1 pc = .ok (.pop, 1)) (hc : tc v = 1) (hq : pc + 1 = q) (k : V G Y d M0 r M9 M q lv st) : V G Y d M0 r M9 M pc lv (v :: st) := by
  subst hq; exact V.go (fun hx hb => lv_pop hx hb hd (by rw [tv_cat]; exact hc)) k
theorem V.dup2 {v w : TV} (hd : decode Y.2.1 pc = .ok (.dup2, 1)) (hc : tc v = 1) (hc2 : tc w = 1) (hq : pc + 1 = q) (k : V G Y d M0 r M9 M q lv (v :: w :: v :: w :: st)) : V G Y d M0 r M9 M pc lv (v :: w :: st) := by
  subst hq; exact V.go (fun hx hb => lv_dup2_11 hx hb hd (by rw [tv_cat]; exact hc) (by rw [tv_cat]; exact hc2)) k
theorem V.goto {off : Int} (hd : decode Y.2.1 pc = .ok (.goto off, 3)) (ht : (pc : Int) + off = (q : Int)) (k : V G Y d M0 r M9 M q lv st) : V G Y d M0 r M9 M pc lv st := V.go (fun hx hb => lv_goto hx hb hd ht) k
theorem V.lcmp {x y : Int64} (hd : decode Y.2.1 pc = .ok (.lcmp, 1)) (hq : pc + 1 = q) (k : V G Y d M0 r M9 M q lv (vI (lg_cmp x y) :: st)) : V G Y d M0 r M9 M pc lv (vL y :: vL x :: st) := by
  subst hq; exact V.go (fun hx hb => W.lcmp hx hb hd) k
theorem V.if_eq {α : Type} {x : Int32} {off : Int} {q' : Nat} {A B : Option α} {z : α} (hd : decode Y.2.1 pc = .ok (.ifCond .eq off, 3)) (ht : (pc : Int) + off = (q : Int)) (hq : pc + 3 = q') (h : (if x = 0 then A else B) = some z) (kt : A = some z → V G Y d M0 r M9 M q lv st) (kf : B = some z → V G Y d M0 r M9 M q' lv st) : V G Y d M0 r M9 M pc lv (vI x :: st) := by
  subst hq; exact V.br h (fun hx hb => lv_if_eq hx hb hd ht) kt kf
theorem V.icmp_eq {α : Type} {x y : Int32} {off : Int} {q' : Nat} {A B : Option α} {z : α} (hd : decode Y.2.1 pc = .ok (.if_icmp .eq off, 3)) (ht : (pc : Int) + off = (q : Int)) (hq : pc + 3 = q') (h : (if x = y then A else B) = some z) (kt : A = some z → V G Y d M0 r M9 M q lv st) (kf : B = some z → V G Y d M0 r M9 M q' lv st) : V G Y d M0 r M9 M pc lv (vI y :: vI x :: st) := by
  subst hq; exact V.br h (fun hx hb => lv_icmp_eq hx hb hd ht) kt kf
theorem lgc_eq (x y : Int64) : (lg_cmp x y = 0) ↔ (x = y) := by
  unfold lg_cmp
  by_cases h1 : x > y
  · rw [if_pos h1]; have h2 : y < x := h1
    have h3 : ¬ x = y := fun e => by rw [e] at h2; exact absurd h2 (Int64.lt_irrefl)
    have h4 : y ≤ x := Int64.le_of_lt h2
    have h5 : ¬ x < y := Int64.not_lt.mpr h4
    have h6 : ¬ x ≤ y := Int64.not_le.mpr h2
    simp [h2, h3, h4, h5, h6]
  · rw [if_neg h1]
    have h2 : x ≤ y := Int64.not_lt.mp h1
    by_cases h3 : x = y
    · rw [if_pos h3]; subst h3; simp [Int64.lt_irrefl]
    · rw [if_neg h3]
      have h4 : x < y := Int64.lt_of_le_of_ne h2 h3
      have h5 : ¬ y ≤ x := Int64.not_le.mpr h4
      have h6 : ¬ y < x := h1
      simp [h2, h3, h4, h5, h6]
theorem V.lif_eq {α : Type} {x y : Int64} {off : Int} {q1 q' : Nat} {A B : Option α} {z : α} (hd1 : decode Y.2.1 pc = .ok (.lcmp, 1)) (hq1 : pc + 1 = q1) (hd : decode Y.2.1 q1 = .ok (.ifCond .eq off, 3)) (ht : (q1 : Int) + off = (q : Int)) (hq : q1 + 3 = q') (h : (if x = y then A else B) = some z) (kt : A = some z → V G Y d M0 r M9 M q lv st) (kf : B = some z → V G Y d M0 r M9 M q' lv st) : V G Y d M0 r M9 M pc lv (vL y :: vL x :: st) := by
  refine V.lcmp hd1 hq1 (V.if_eq (A := A) (B := B) hd ht hq ?_ kt kf)
  by_cases hc : x = y
  · rw [if_pos hc] at h; rw [if_pos ((lgc_eq x y).mpr hc)]; exact h
  · rw [if_neg hc] at h; rw [if_neg (fun hh => hc ((lgc_eq x y).mp hh))]; exact h
theorem V.if_ne {α : Type} {x : Int32} {off : Int} {q' : Nat} {A B : Option α} {z : α} (hd : decode Y.2.1 pc = .ok (.ifCond .ne off, 3)) (ht : (pc : Int) + off = (q : Int)) (hq : pc + 3 = q') (h : (if ¬ x = 0 then A else B) = some z) (kt : A = some z → V G Y d M0 r M9 M q lv st) (kf : B = some z → V G Y d M0 r M9 M q' lv st) : V G Y d M0 r M9 M pc lv (vI x :: st) := by
  subst hq; exact V.br h (fun hx hb k1 k2 => lv_if_ne hx hb hd ht k1 (fun e => k2 (fun n => n e))) kt kf
theorem V.icmp_ne {α : Type} {x y : Int32} {off : Int} {q' : Nat} {A B : Option α} {z : α} (hd : decode Y.2.1 pc = .ok (.if_icmp .ne off, 3)) (ht : (pc : Int) + off = (q : Int)) (hq : pc + 3 = q') (h : (if ¬ x = y then A else B) = some z) (kt : A = some z → V G Y d M0 r M9 M q lv st) (kf : B = some z → V G Y d M0 r M9 M q' lv st) : V G Y d M0 r M9 M pc lv (vI y :: vI x :: st) := by
  subst hq; exact V.br h (fun hx hb k1 k2 => lv_icmp_ne hx hb hd ht k1 (fun e => k2 (fun n => n e))) kt kf
theorem lgc_ne (x y : Int64) : (¬ lg_cmp x y = 0) ↔ (¬ x = y) := by
  unfold lg_cmp
  by_cases h1 : x > y
  · rw [if_pos h1]; have h2 : y < x := h1
    have h3 : ¬ x = y := fun e => by rw [e] at h2; exact absurd h2 (Int64.lt_irrefl)
    have h4 : y ≤ x := Int64.le_of_lt h2
    have h5 : ¬ x < y := Int64.not_lt.mpr h4
    have h6 : ¬ x ≤ y := Int64.not_le.mpr h2
    simp [h2, h3, h4, h5, h6]
  · rw [if_neg h1]
    have h2 : x ≤ y := Int64.not_lt.mp h1
    by_cases h3 : x = y
    · rw [if_pos h3]; subst h3; simp [Int64.lt_irrefl]
    · rw [if_neg h3]
      have h4 : x < y := Int64.lt_of_le_of_ne h2 h3
      have h5 : ¬ y ≤ x := Int64.not_le.mpr h4
      have h6 : ¬ y < x := h1
      simp [h2, h3, h4, h5, h6]
theorem V.lif_ne {α : Type} {x y : Int64} {off : Int} {q1 q' : Nat} {A B : Option α} {z : α} (hd1 : decode Y.2.1 pc = .ok (.lcmp, 1)) (hq1 : pc + 1 = q1) (hd : decode Y.2.1 q1 = .ok (.ifCond .ne off, 3)) (ht : (q1 : Int) + off = (q : Int)) (hq : q1 + 3 = q') (h : (if ¬ x = y then A else B) = some z) (kt : A = some z → V G Y d M0 r M9 M q lv st) (kf : B = some z → V G Y d M0 r M9 M q' lv st) : V G Y d M0 r M9 M pc lv (vL y :: vL x :: st) := by
  refine V.lcmp hd1 hq1 (V.if_ne (A := A) (B := B) hd ht hq ?_ kt kf)
  by_cases hc : ¬ x = y
  · rw [if_pos hc] at h; rw [if_pos ((lgc_ne x y).mpr hc)]; exact h
  · rw [if_neg hc] at h; rw [if_neg (fun hh => hc ((lgc_ne x y).mp hh))]; exact h
theorem V.if_lt {α : Type} {x : Int32} {off : Int} {q' : Nat} {A B : Option α} {z : α} (hd : decode Y.2.1 pc = .ok (.ifCond .lt off, 3)) (ht : (pc : Int) + off = (q : Int)) (hq : pc + 3 = q') (h : (if x < 0 then A else B) = some z) (kt : A = some z → V G Y d M0 r M9 M q lv st) (kf : B = some z → V G Y d M0 r M9 M q' lv st) : V G Y d M0 r M9 M pc lv (vI x :: st) := by
  subst hq; exact V.br h (fun hx hb => lv_if_lt hx hb hd ht) kt kf
theorem V.icmp_lt {α : Type} {x y : Int32} {off : Int} {q' : Nat} {A B : Option α} {z : α} (hd : decode Y.2.1 pc = .ok (.if_icmp .lt off, 3)) (ht : (pc : Int) + off = (q : Int)) (hq : pc + 3 = q') (h : (if x < y then A else B) = some z) (kt : A = some z → V G Y d M0 r M9 M q lv st) (kf : B = some z → V G Y d M0 r M9 M q' lv st) : V G Y d M0 r M9 M pc lv (vI y :: vI x :: st) := by
  subst hq; exact V.br h (fun hx hb => lv_icmp_lt hx hb hd ht) kt kf
theorem lgc_lt (x y : Int64) : (lg_cmp x y < 0) ↔ (x < y) := by
  unfold lg_cmp
  by_cases h1 : x > y
  · rw [if_pos h1]; have h2 : y < x := h1
    have h3 : ¬ x = y := fun e => by rw [e] at h2; exact absurd h2 (Int64.lt_irrefl)
    have h4 : y ≤ x := Int64.le_of_lt h2
    have h5 : ¬ x < y := Int64.not_lt.mpr h4
    have h6 : ¬ x ≤ y := Int64.not_le.mpr h2
    simp [h2, h3, h4, h5, h6]
  · rw [if_neg h1]
    have h2 : x ≤ y := Int64.not_lt.mp h1
    by_cases h3 : x = y
    · rw [if_pos h3]; subst h3; simp [Int64.lt_irrefl]
    · rw [if_neg h3]
      have h4 : x < y := Int64.lt_of_le_of_ne h2 h3
      have h5 : ¬ y ≤ x := Int64.not_le.mpr h4
      have h6 : ¬ y < x := h1
      simp [h2, h3, h4, h5, h6]
theorem V.lif_lt {α : Type} {x y : Int64} {off : Int} {q1 q' : Nat} {A B : Option α} {z : α} (hd1 : decode Y.2.1 pc = .ok (.lcmp, 1)) (hq1 : pc + 1 = q1) (hd : decode Y.2.1 q1 = .ok (.ifCond .lt off, 3)) (ht : (q1 : Int) + off = (q : Int)) (hq : q1 + 3 = q') (h : (if x < y then A else B) = some z) (kt : A = some z → V G Y d M0 r M9 M q lv st) (kf : B = some z → V G Y d M0 r M9 M q' lv st) : V G Y d M0 r M9 M pc lv (vL y :: vL x :: st) := by
  refine V.lcmp hd1 hq1 (V.if_lt (A := A) (B := B) hd ht hq ?_ kt kf)
  by_cases hc : x < y
  · rw [if_pos hc] at h; rw [if_pos ((lgc_lt x y).mpr hc)]; exact h
  · rw [if_neg hc] at h; rw [if_neg (fun hh => hc ((lgc_lt x y).mp hh))]; exact h
theorem V.if_ge {α : Type} {x : Int32} {off : Int} {q' : Nat} {A B : Option α} {z : α} (hd : decode Y.2.1 pc = .ok (.ifCond .ge off, 3)) (ht : (pc : Int) + off = (q : Int)) (hq : pc + 3 = q') (h : (if 0 ≤ x then A else B) = some z) (kt : A = some z → V G Y d M0 r M9 M q lv st) (kf : B = some z → V G Y d M0 r M9 M q' lv st) : V G Y d M0 r M9 M pc lv (vI x :: st) := by
  subst hq; exact V.br h (fun hx hb => lv_if_ge hx hb hd ht) kt kf
theorem V.icmp_ge {α : Type} {x y : Int32} {off : Int} {q' : Nat} {A B : Option α} {z : α} (hd : decode Y.2.1 pc = .ok (.if_icmp .ge off, 3)) (ht : (pc : Int) + off = (q : Int)) (hq : pc + 3 = q') (h : (if y ≤ x then A else B) = some z) (kt : A = some z → V G Y d M0 r M9 M q lv st) (kf : B = some z → V G Y d M0 r M9 M q' lv st) : V G Y d M0 r M9 M pc lv (vI y :: vI x :: st) := by
  subst hq; exact V.br h (fun hx hb => lv_icmp_ge hx hb hd ht) kt kf
theorem lgc_ge (x y : Int64) : (0 ≤ lg_cmp x y) ↔ (y ≤ x) := by
  unfold lg_cmp
  by_cases h1 : x > y
  · rw [if_pos h1]; have h2 : y < x := h1
    have h3 : ¬ x = y := fun e => by rw [e] at h2; exact absurd h2 (Int64.lt_irrefl)
    have h4 : y ≤ x := Int64.le_of_lt h2
    have h5 : ¬ x < y := Int64.not_lt.mpr h4
    have h6 : ¬ x ≤ y := Int64.not_le.mpr h2
    simp [h2, h3, h4, h5, h6]
  · rw [if_neg h1]
    have h2 : x ≤ y := Int64.not_lt.mp h1
    by_cases h3 : x = y
    · rw [if_pos h3]; subst h3; simp [Int64.lt_irrefl]
    · rw [if_neg h3]
      have h4 : x < y := Int64.lt_of_le_of_ne h2 h3
      have h5 : ¬ y ≤ x := Int64.not_le.mpr h4
      have h6 : ¬ y < x := h1
      simp [h2, h3, h4, h5, h6]
theorem V.lif_ge {α : Type} {x y : Int64} {off : Int} {q1 q' : Nat} {A B : Option α} {z : α} (hd1 : decode Y.2.1 pc = .ok (.lcmp, 1)) (hq1 : pc + 1 = q1) (hd : decode Y.2.1 q1 = .ok (.ifCond .ge off, 3)) (ht : (q1 : Int) + off = (q : Int)) (hq : q1 + 3 = q') (h : (if y ≤ x then A else B) = some z) (kt : A = some z → V G Y d M0 r M9 M q lv st) (kf : B = some z → V G Y d M0 r M9 M q' lv st) : V G Y d M0 r M9 M pc lv (vL y :: vL x :: st) := by
  refine V.lcmp hd1 hq1 (V.if_ge (A := A) (B := B) hd ht hq ?_ kt kf)
  by_cases hc : y ≤ x
  · rw [if_pos hc] at h; rw [if_pos ((lgc_ge x y).mpr hc)]; exact h
  · rw [if_neg hc] at h; rw [if_neg (fun hh => hc ((lgc_ge x y).mp hh))]; exact h
theorem V.if_gt {α : Type} {x : Int32} {off : Int} {q' : Nat} {A B : Option α} {z : α} (hd : decode Y.2.1 pc = .ok (.ifCond .gt off, 3)) (ht : (pc : Int) + off = (q : Int)) (hq : pc + 3 = q') (h : (if 0 < x then A else B) = some z) (kt : A = some z → V G Y d M0 r M9 M q lv st) (kf : B = some z → V G Y d M0 r M9 M q' lv st) : V G Y d M0 r M9 M pc lv (vI x :: st) := by
  subst hq; exact V.br h (fun hx hb => lv_if_gt hx hb hd ht) kt kf
theorem V.icmp_gt {α : Type} {x y : Int32} {off : Int} {q' : Nat} {A B : Option α} {z : α} (hd : decode Y.2.1 pc = .ok (.if_icmp .gt off, 3)) (ht : (pc : Int) + off = (q : Int)) (hq : pc + 3 = q') (h : (if y < x then A else B) = some z) (kt : A = some z → V G Y d M0 r M9 M q lv st) (kf : B = some z → V G Y d M0 r M9 M q' lv st) : V G Y d M0 r M9 M pc lv (vI y :: vI x :: st) := by
  subst hq; exact V.br h (fun hx hb => lv_icmp_gt hx hb hd ht) kt kf
theorem lgc_gt (x y : Int64) : (0 < lg_cmp x y) ↔ (y < x) := by
  unfold lg_cmp
  by_cases h1 : x > y
  · rw [if_pos h1]; have h2 : y < x := h1
    have h3 : ¬ x = y := fun e => by rw [e] at h2; exact absurd h2 (Int64.lt_irrefl)
    have h4 : y ≤ x := Int64.le_of_lt h2
    have h5 : ¬ x < y := Int64.not_lt.mpr h4
    have h6 : ¬ x ≤ y := Int64.not_le.mpr h2
    simp [h2, h3, h4, h5, h6]
  · rw [if_neg h1]
    have h2 : x ≤ y := Int64.not_lt.mp h1
    by_cases h3 : x = y
    · rw [if_pos h3]; subst h3; simp [Int64.lt_irrefl]
    · rw [if_neg h3]
      have h4 : x < y := Int64.lt_of_le_of_ne h2 h3
      have h5 : ¬ y ≤ x := Int64.not_le.mpr h4
      have h6 : ¬ y < x := h1
      simp [h2, h3, h4, h5, h6]
theorem V.lif_gt {α : Type} {x y : Int64} {off : Int} {q1 q' : Nat} {A B : Option α} {z : α} (hd1 : decode Y.2.1 pc = .ok (.lcmp, 1)) (hq1 : pc + 1 = q1) (hd : decode Y.2.1 q1 = .ok (.ifCond .gt off, 3)) (ht : (q1 : Int) + off = (q : Int)) (hq : q1 + 3 = q') (h : (if y < x then A else B) = some z) (kt : A = some z → V G Y d M0 r M9 M q lv st) (kf : B = some z → V G Y d M0 r M9 M q' lv st) : V G Y d M0 r M9 M pc lv (vL y :: vL x :: st) := by
  refine V.lcmp hd1 hq1 (V.if_gt (A := A) (B := B) hd ht hq ?_ kt kf)
  by_cases hc : y < x
  · rw [if_pos hc] at h; rw [if_pos ((lgc_gt x y).mpr hc)]; exact h
  · rw [if_neg hc] at h; rw [if_neg (fun hh => hc ((lgc_gt x y).mp hh))]; exact h
theorem V.if_le {α : Type} {x : Int32} {off : Int} {q' : Nat} {A B : Option α} {z : α} (hd : decode Y.2.1 pc = .ok (.ifCond .le off, 3)) (ht : (pc : Int) + off = (q : Int)) (hq : pc + 3 = q') (h : (if x ≤ 0 then A else B) = some z) (kt : A = some z → V G Y d M0 r M9 M q lv st) (kf : B = some z → V G Y d M0 r M9 M q' lv st) : V G Y d M0 r M9 M pc lv (vI x :: st) := by
  subst hq; exact V.br h (fun hx hb => lv_if_le hx hb hd ht) kt kf
theorem V.icmp_le {α : Type} {x y : Int32} {off : Int} {q' : Nat} {A B : Option α} {z : α} (hd : decode Y.2.1 pc = .ok (.if_icmp .le off, 3)) (ht : (pc : Int) + off = (q : Int)) (hq : pc + 3 = q') (h : (if x ≤ y then A else B) = some z) (kt : A = some z → V G Y d M0 r M9 M q lv st) (kf : B = some z → V G Y d M0 r M9 M q' lv st) : V G Y d M0 r M9 M pc lv (vI y :: vI x :: st) := by
  subst hq; exact V.br h (fun hx hb => lv_icmp_le hx hb hd ht) kt kf
theorem lgc_le (x y : Int64) : (lg_cmp x y ≤ 0) ↔ (x ≤ y) := by
  unfold lg_cmp
  by_cases h1 : x > y
  · rw [if_pos h1]; have h2 : y < x := h1
    have h3 : ¬ x = y := fun e => by rw [e] at h2; exact absurd h2 (Int64.lt_irrefl)
    have h4 : y ≤ x := Int64.le_of_lt h2
    have h5 : ¬ x < y := Int64.not_lt.mpr h4
    have h6 : ¬ x ≤ y := Int64.not_le.mpr h2
    simp [h2, h3, h4, h5, h6]
  · rw [if_neg h1]
    have h2 : x ≤ y := Int64.not_lt.mp h1
    by_cases h3 : x = y
    · rw [if_pos h3]; subst h3; simp [Int64.lt_irrefl]
    · rw [if_neg h3]
      have h4 : x < y := Int64.lt_of_le_of_ne h2 h3
      have h5 : ¬ y ≤ x := Int64.not_le.mpr h4
      have h6 : ¬ y < x := h1
      simp [h2, h3, h4, h5, h6]
theorem V.lif_le {α : Type} {x y : Int64} {off : Int} {q1 q' : Nat} {A B : Option α} {z : α} (hd1 : decode Y.2.1 pc = .ok (.lcmp, 1)) (hq1 : pc + 1 = q1) (hd : decode Y.2.1 q1 = .ok (.ifCond .le off, 3)) (ht : (q1 : Int) + off = (q : Int)) (hq : q1 + 3 = q') (h : (if x ≤ y then A else B) = some z) (kt : A = some z → V G Y d M0 r M9 M q lv st) (kf : B = some z → V G Y d M0 r M9 M q' lv st) : V G Y d M0 r M9 M pc lv (vL y :: vL x :: st) := by
  refine V.lcmp hd1 hq1 (V.if_le (A := A) (B := B) hd ht hq ?_ kt kf)
  by_cases hc : x ≤ y
  · rw [if_pos hc] at h; rw [if_pos ((lgc_le x y).mpr hc)]; exact h
  · rw [if_neg hc] at h; rw [if_neg (fun hh => hc ((lgc_le x y).mp hh))]; exact h
theorem V.ifnull {α : Type} {x : Option Nat} {off : Int} {q' : Nat} {A B : Option α} {z : α} (hd : decode Y.2.1 pc = .ok (.ifnull off, 3)) (ht : (pc : Int) + off = (q : Int)) (hq : pc + 3 = q') (h : (if x = none then A else B) = some z) (kt : A = some z → V G Y d M0 r M9 M q lv st) (kf : B = some z → V G Y d M0 r M9 M q' lv st) : V G Y d M0 r M9 M pc lv (vR x :: st) := by
  subst hq
  cases x with
  | none => rw [if_pos rfl] at h; exact V.go (fun hx hb => lv_ifnullN hx hb hd ht) (kt h)
  | some a => rw [if_neg (by intro e; cases e)] at h; exact V.go (fun hx hb => lv_ifnull hx hb hd) (kf h)
theorem V.ifnonnull {α : Type} {x : Option Nat} {off : Int} {q' : Nat} {A B : Option α} {z : α} (hd : decode Y.2.1 pc = .ok (.ifnonnull off, 3)) (ht : (pc : Int) + off = (q : Int)) (hq : pc + 3 = q') (h : (if ¬ x = none then A else B) = some z) (kt : A = some z → V G Y d M0 r M9 M q lv st) (kf : B = some z → V G Y d M0 r M9 M q' lv st) : V G Y d M0 r M9 M pc lv (vR x :: st) := by
  subst hq
  cases x with
  | none => rw [if_neg (fun n => n rfl)] at h; exact V.go (fun hx hb => lv_ifnonnullN hx hb hd) (kf h)
  | some a => rw [if_pos (by intro e; cases e)] at h; exact V.go (fun hx hb => lv_ifnonnull hx hb hd ht) (kt h)
end VRows
