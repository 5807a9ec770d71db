-- ===== copies of arrays: System.arraycopy and clone =====
theorem arrV_ext {cA : ClassId} {N : Nat} {f g : Nat → Value} (h : ∀ j, j < N → f j = g j) : arrV cA N f = arrV cA N g := by
  unfold arrV
  congr 1
  exact Array.ext (by simp) (fun i h1 h2 => by simp at h1; simp [h i h1])
def cpI (M : Mem) (q0 q1 sp dp n : Nat) : Mem := (M.1, M.2.1, (fun p j => if p = q1 ∧ dp ≤ j ∧ j < dp + n then M.2.2.1 q0 (sp + (j - dp)) else M.2.2.1 p j), M.2.2.2.1, M.2.2.2.2)
theorem gi_cpI {M : Mem} {q0 q1 sp dp n p j : Nat} : gi (cpI M q0 q1 sp dp n) p j = if p = q1 ∧ dp ≤ j ∧ j < dp + n then gi M q0 (sp + (j - dp)) else gi M p j := rfl
def cpyI (M : Mem) (a0 : Option Nat) (sp : Int32) (a1 : Option Nat) (dp n : Int32) : Option Mem := match a0, a1 with
  | some q0, some q1 => if kd M q0 = 20 ∧ kd M q1 = 20 ∧ ¬ sp < 0 ∧ ¬ dp < 0 ∧ ¬ n < 0 ∧ sp.toNatClampNeg + n.toNatClampNeg ≤ ln M q0 ∧ dp.toNatClampNeg + n.toNatClampNeg ≤ ln M q1 then some (cpI M q0 q1 sp.toNatClampNeg dp.toNatClampNeg n.toNatClampNeg) else none
  | _, _ => none
theorem sv_cpI {b t : Nat} {M : Mem} {q0 q1 sp dp n p j : Nat} : sv b t (cpI M q0 q1 sp dp n) p j = if t = 0 ∧ p = q1 ∧ dp ≤ j ∧ j < dp + n then .int (gi M q0 (sp + (j - dp))) else sv b t M p j := by
  match t with
  | 0 => simp only [sv, gi_cpI, true_and]; split <;> rfl
  | 1 => rw [if_neg (by omega)]; rfl
  | t + 2 => rw [if_neg (by omega)]; rfl
set_option maxHeartbeats 4000000 in
theorem V.acpI {G : Gt} {Y : MI} {d : Nat} {M0 M9 M : Mem} {r : Option TV} {pc q idx : Nat} {lv : List (Nat × TV)} {st : List TV} {α : Type} {z : α} {a0 a1 : Option Nat} {sp dp n : Int32} {K : Mem → Option α} (hd : decode Y.2.1 pc = .ok (.invokestatic idx, 3)) (hl1 : Cond.methodLink Y.1.cls idx arraycopyName ∈ WT) (hl2 : Cond.native arraycopyName ∈ WT) (hl3 : Cond.static arraycopyName ∈ WT) (hl4 : Cond.initialized "java/lang/System" ∈ WT) (hd1 : 1 ≤ d) (hw : tvw st ≤ 8) (hq : pc + 3 = q) (h : (cpyI M a0 sp a1 dp n).bind K = some z) (kk : ∀ M1 : Mem, K M1 = some z → V G Y d M0 r M9 M1 q lv st) : V G Y d M0 r M9 M pc lv (vI n :: vI dp :: vR a1 :: vI sp :: vR a0 :: st) := by
  subst hq
  cases a0 with
  | none => cases h
  | some q0 =>
  cases a1 with
  | none => cases h
  | some q1 =>
  unfold cpyI at h
  dsimp only at h
  by_cases hk : kd M q0 = 20 ∧ kd M q1 = 20 ∧ ¬ sp < 0 ∧ ¬ dp < 0 ∧ ¬ n < 0 ∧ sp.toNatClampNeg + n.toNatClampNeg ≤ ln M q0 ∧ dp.toNatClampNeg + n.toNatClampNeg ≤ ln M q1
  · rw [if_pos hk] at h
    have k1 := kk _ h
    obtain ⟨hk0, hk1, g1, g2, g3, g4, g5⟩ := hk
    refine ⟨k1.1, fun h1 h2 p e s m args below meth c H locs ls C hR hL hl => ?_⟩
    have hA0 := (hR.2.2 q0 (by omega)).2.2 (by omega)
    have hA1 := (hR.2.2 q1 (by omega)).2.2 (by omega)
    have hKt := (C.2.2.2.2.2.1.2.1 20 (by omega) (by omega)).1
    rw [hk0] at hA0
    rw [hk1] at hA1
    have hA0 : H[gb G + q0]? = some (arrV (gA G 20) (ln M q0) (fun j => .int (gi M q0 j))) := hA0
    have hA1 : H[gb G + q1]? = some (arrV (gA G 20) (ln M q1) (fun j => .int (gi M q1 j))) := hA1
    have nn : ∀ z : Int32, ¬ z < 0 → z.toInt = (z.toNatClampNeg : Int) := by
      intro z hz
      have hz0 : (0 : Int) ≤ z.toInt := by
        have := Int32.not_lt.mp hz
        simpa using Int32.le_iff_toInt_le.mp this
      show z.toInt = ((z.toInt.toNat : Nat) : Int)
      omega
    intro T hT X
    obtain ⟨-, k0, hk00, cm0, hkk0⟩ := hKt (ln M q0) (fun j => .int (gi M q0 j))
    have hk00 : s.vm.classes[gA G 20]? = some k0 := hk00
    obtain ⟨vm', X', step⟩ := X.arraycopy C.1 C.2.2.2.1 (C.2.2.2.2.1 _ (WT_in hl1)) (C.2.2.2.2.1 _ (WT_in hl2)) (C.2.2.2.2.1 _ (WT_in hl3)) (C.2.2.2.2.1 _ (WT_in hl4)) (src := gb G + q0) (dst := gb G + q1) (cs := arrV (gA G 20) (ln M q0) (fun j => .int (gi M q0 j))) (cd := arrV (gA G 20) (ln M q1) (fun j => .int (gi M q1 j))) (srcPos := sp) (destPos := dp) (n := n) (by rw [hT]; exact hA0) (by rw [hT]; exact hA1)
      (fun _ h => by cases h) (fun _ h => by cases h) (fun h => by cases h) (fun h => by cases h) hk00 hk00 hkk0 hkk0 (by rfl) g1 g2 g3
      (by rw [nn sp g1, nn n g3, arrV_size]; omega)
      (by rw [nn dp g2, nn n g3, arrV_size]; omega)
      (fun vm₁ _ i hi => by
        have e : (arrV (gA G 20) (ln M q0) (fun j => .int (gi M q0 j))).slots.getD (sp.toNatClampNeg + i) .null = .int (gi M q0 (sp.toNatClampNeg + i)) := by
          rw [Array.getD_eq_getD_getElem?, arrV_read _ _ (by omega)]
          rfl
        rw [e]
        exact ⟨rfl, trivial⟩)
      (g := F0 m pc ls ((vI n :: vI dp :: vR (some q1) :: vI sp :: vR (some q0) :: st).map (tv (gb G)))) rfl (by rw [C.2.2.1]; exact hl.1) (rest := st.map (tv (gb G))) rfl (by rw [C.2.1]; exact hd) hd1 (by
        show 2 * 0 + _ + _ ≤ 64 * d
        rw [tvs_sum]
        have : nativeFrameWords "java/lang/System" "arraycopy" 5 ≤ 40 := by decide +kernel
        omega)
    have e1 : copied (arrV (gA G 20) (ln M q0) (fun j => .int (gi M q0 j))) (arrV (gA G 20) (ln M q1) (fun j => .int (gi M q1 j))) sp dp n = arrV (gA G 20) (ln M q1) (fun j => .int (va_cpy (gi M q0) (gi M q1) sp.toNatClampNeg dp.toNatClampNeg n.toNatClampNeg j)) := va_copied (fun z => .int z) _ _ (gi M q0) (gi M q1) g4
    rw [e1] at X' step
    have hlt : gb G + q1 < H.size := (Array.getElem?_eq_some_iff.mp hA1).1
    have hheap : ((T.setVm vm').setCell (gb G + q1) (arrV (gA G 20) (ln M q1) (fun j => .int (va_cpy (gi M q0) (gi M q1) sp.toNatClampNeg dp.toNatClampNeg n.toNatClampNeg j)))).heap = H.setIfInBounds (gb G + q1) (arrV (gA G 20) (ln M q1) (fun j => .int (va_cpy (gi M q0) (gi M q1) sp.toNatClampNeg dp.toNatClampNeg n.toNatClampNeg j))) := by rw [← hT]; rfl
    obtain ⟨t, a1, b1⟩ := k1.2 h1 h2 p e s m args below meth c (H.setIfInBounds (gb G + q1) (arrV (gA G 20) (ln M q1) (fun j => .int (va_cpy (gi M q0) (gi M q1) sp.toNatClampNeg dp.toNatClampNeg n.toNatClampNeg j)))) _ ls C (by
        refine hR.upd (a := q1) (by omega) (by simp) (fun q hq => by simp [Array.getElem?_setIfInBounds, Ne.symm hq]) rfl (fun _ => rfl) (fun _ => rfl) (fun p hp t i => by rw [sv_cpI, if_neg (fun hh => hp hh.2.1)]) ⟨fun hh => absurd (show kd M q1 < 12 from hh) (by omega), fun hh => ?_⟩
        show (H.setIfInBounds (gb G + q1) _)[gb G + q1]? = some (arrV (gA G (kd M q1)) (ln M q1) (fun j => sv (gb G) (tg (aty (kd M q1))) (cpI M q0 q1 sp.toNatClampNeg dp.toNatClampNeg n.toNatClampNeg) q1 j))
        rw [hk1]
        have e2 : (fun j => sv (gb G) (tg (aty 20)) (cpI M q0 q1 sp.toNatClampNeg dp.toNatClampNeg n.toNatClampNeg) q1 j) = (fun j => .int (va_cpy (gi M q0) (gi M q1) sp.toNatClampNeg dp.toNatClampNeg n.toNatClampNeg j)) := by
          funext j
          show Value.int (gi (cpI M q0 q1 sp.toNatClampNeg dp.toNatClampNeg n.toNatClampNeg) q1 j) = _
          rw [gi_cpI]
          unfold va_cpy
          by_cases hj : dp.toNatClampNeg ≤ j ∧ j < dp.toNatClampNeg + n.toNatClampNeg
          · rw [if_pos hj, if_pos ⟨rfl, hj⟩]
          · rw [if_neg hj, if_neg (fun hh => hj hh.2)]
        rw [e2]
        simp [Array.getElem?_setIfInBounds, hlt]) (fun q hq => by
        rcases List.mem_append.mp hq with h | h
        · exact hL q h
        · obtain ⟨z, -, hz⟩ := List.mem_map.mp h
          rw [← hz]
          exact Nat.le_add_right _ _) hl _ hheap X'
    exact ⟨t, step t a1, b1⟩
  · rw [if_neg hk] at h; cases h
def dupeI (M : Mem) (a : Option Nat) : Option Mem := match a with
  | some q => if kd M q = 20 then some (cpI (nw M 20 (ln M q) (ln M q)) q (nc M) 0 0 (ln M q)) else none
  | none => none
set_option maxHeartbeats 4000000 in
theorem V.clnI {G : Gt} {Y : MI} {d : Nat} {M0 M9 M : Mem} {r : Option TV} {pc q idx idx2 : Nat} {lv : List (Nat × TV)} {st : List TV} {α : Type} {z : α} {a : Option Nat} {K : Mem → Option α} (hd : decode Y.2.1 pc = .ok (.invokevirtual idx, 3)) (hd2 : decode Y.2.1 (pc + 3) = .ok (.checkcast idx2, 3)) (hl1 : Cond.methodLink Y.1.cls idx ⟨"[I", "clone", "()Ljava/lang/Object;"⟩ ∈ WT) (hl2 : Cond.sameMethod "[I" "java/lang/Object" "clone" "()Ljava/lang/Object;" ∈ WT) (hl3 : Cond.native ⟨"java/lang/Object", "clone", "()Ljava/lang/Object;"⟩ ∈ WT) (hl4 : Cond.instanceMethod ⟨"java/lang/Object", "clone", "()Ljava/lang/Object;"⟩ ∈ WT) (hl5 : Cond.selects "[I" ⟨"[I", "clone", "()Ljava/lang/Object;"⟩ ⟨"java/lang/Object", "clone", "()Ljava/lang/Object;"⟩ ∈ WT) (hl6 : Cond.classLink Y.1.cls idx2 "[I" ∈ WT) (hd1 : 1 ≤ d) (hw : tvw st ≤ 8) (hq : pc + 6 = q) (h : (dupeI M a).bind K = some z) (kk : ∀ M1 : Mem, K M1 = some z → V G Y d M0 r M9 M1 q lv (vR (some (nc M)) :: st)) : V G Y d M0 r M9 M pc lv (vR a :: st) := by
  subst hq
  cases a with
  | none => cases h
  | some a =>
  unfold dupeI at h
  dsimp only at h
  by_cases hk : kd M a = 20
  · rw [if_pos hk] at h
    have k1 := kk _ h
    have hm : nc M + 1 ≤ nc M9 ∧ ns M + ln M a ≤ ns M9 := k1.1
    refine ⟨⟨by omega, by omega⟩, fun h1 h2 p e s m args below meth c H locs ls C hR hL hl => ?_⟩
    have h3 := k1.2 (show nc M0 ≤ nc M + 1 by omega) (show ns M0 ≤ ns M + ln M a by omega)
    have hA := (hR.2.2 a (by omega)).2.2 (by omega)
    have hKa := C.2.2.2.2.2.1.2.1 20 (by omega) (by omega)
    rw [hk] at hA
    have hA : H[gb G + a]? = some (arrV (gA G 20) (ln M a) (fun j => .int (gi M a j))) := hA
    have hnm : s.vm.findClass "[I" = some (gA G 20) := hKa.2
    obtain ⟨c0, t0', f1, f2, f3⟩ := Cond.castable_spec (va_Nw.use (A := args) rfl C.2.2.2.2.2.1.2.2.2.2.2.2.2.2.1)
    cases hnm.symm.trans f1
    intro T hT X
    have hcellT : T.heap[gb G + a]? = some (arrV (gA G 20) (ln M a) (fun j => .int (gi M a j))) := by rw [hT]; exact hA
    obtain ⟨-, kA, hkA, comp, hkind⟩ := State.isArrayOf_alike X.warmed.alike (hKa.1 0 (fun _ => .null))
    obtain ⟨-, kS, hkS, compS, hkindS⟩ := hKa.1 0 (fun _ => .null)
    obtain ⟨vm', X', st1⟩ := X.cloneArray C.1 C.2.2.2.1 (C.2.2.2.2.1 _ (WT_in hl1)) (C.2.2.2.2.1 _ (WT_in hl2)) (C.2.2.2.2.1 _ (WT_in hl3)) (C.2.2.2.2.1 _ (WT_in hl4)) (C.2.2.2.2.1 _ (WT_in hl5)) (a := gb G + a) hcellT (fun k h => by cases h) (fun h => by cases h) hnm f2 f3
      (fun i v hv => by
        have hk' : T.vm.classes[gA G 20]? = some kA := hkA
        have hlt : i < ln M a := by have := (Array.getElem?_eq_some_iff.mp hv).1; rw [arrV_size] at this; exact this
        rw [arrV_read _ _ hlt] at hv
        cases hv
        show T.fitsSlot (gA G 20) .none i (.int (gi M a i)) = true
        simp [State.fitsSlot, State.slotType?, hk', hkind, fits, aty])
      (g := F0 m pc ls ((vR (some a) :: st).map (tv (gb G)))) rfl (by rw [C.2.2.1]; exact hl.1) rfl (by rw [C.2.1]; exact hd) hd1 (by show 2 * 0 + _ + 14 ≤ 64 * d; rw [tvs_sum]; omega) (by show _ ≤ nc M9 - nc M0; omega) (by rw [arrV_size]; show _ ≤ ns M9 - ns M0; omega) (hloader := Vm.clonesLoader_of_array hkS hkindS)
    rw [arrV_size] at X'
    have hce : ({ cls := (arrV (gA G 20) (ln M a) (fun j => .int (gi M a j))).cls, slots := (arrV (gA G 20) (ln M a) (fun j => .int (gi M a j))).slots } : Cell) = arrV (gA G 20) (ln M a) (fun j => .int (gi M a j)) := rfl
    rw [hce] at X' st1
    generalize hH1 : H.push (arrV (gA G 20) (ln M a) (fun j => .int (gi M a j))) = H1
    have z1 : H1.size = H.size + 1 := by rw [← hH1, Array.size_push]
    have e1 : H1[H.size]? = some (arrV (gA G 20) (ln M a) (fun j => .int (gi M a j))) := by rw [← hH1, Array.getElem?_push_size]
    have o1 : ∀ q : Nat, q < H.size → H1[q]? = H[q]? := fun q hq => by rw [← hH1, Array.getElem?_push, if_neg (Nat.ne_of_lt hq)]
    have hR1 : Rp G (cpI (nw M 20 (ln M a) (ln M a)) a (nc M) 0 0 (ln M a)) H1 := by
      have hz := hR.1
      have halt := (hR.2.2 a (by omega)).1
      refine ⟨by rw [z1, hz]; show _ = gb G + (nc M + 1); omega, fun q hq => ?_, fun p hp => ?_⟩
      · rw [o1 q (by omega)]; exact hR.2.1 q hq
      · have hp : kd (nw M 20 (ln M a) (ln M a)) p < 29 := hp
        by_cases ep : p = nc M
        · subst ep
          refine ⟨by show _ < nc M + 1; omega, ⟨fun hh => absurd (show kd (nw M 20 (ln M a) (ln M a)) (nc M) < 12 from hh) (by rw [kd_nw, if_pos rfl]; omega), fun hh => ?_⟩⟩
          show H1[gb G + nc M]? = some (arrV (gA G (kd (nw M 20 (ln M a) (ln M a)) (nc M))) (ln (nw M 20 (ln M a) (ln M a)) (nc M)) (fun j => sv (gb G) (tg (aty (kd (nw M 20 (ln M a) (ln M a)) (nc M)))) (cpI (nw M 20 (ln M a) (ln M a)) a (nc M) 0 0 (ln M a)) (nc M) j))
          rw [kd_nw, if_pos rfl, ln_nw, if_pos rfl, ← hz, e1]
          refine congrArg some (arrV_ext (fun j hj => ?_))
          show Value.int (gi M a j) = .int (gi (cpI (nw M 20 (ln M a) (ln M a)) a (nc M) 0 0 (ln M a)) (nc M) j)
          rw [gi_cpI, if_pos ⟨rfl, Nat.zero_le _, by omega⟩, gi_nw, if_neg (by omega)]
          congr 2
          omega
        · rw [kd_nw, if_neg ep] at hp
          have hq1 := hR.2.2 p hp
          refine ⟨by show _ < nc M + 1; omega, hq1.2.to (o1 _ (by omega)) (by show kd (nw M 20 (ln M a) (ln M a)) p = _; rw [kd_nw, if_neg ep]) (by show ln (nw M 20 (ln M a) (ln M a)) p = _; rw [ln_nw, if_neg ep]) (fun t j => by rw [sv_cpI, if_neg (fun hh => ep hh.2.1), sv_nw, if_neg ep])⟩
    have h4 := h3 p e s m args below meth c H1 locs ls C hR1 hL hl
    have hz := hR.1
    have w2 : W p (gL G) e (rm d (nc M9 - nc M0) (ns M9 - ns M0)) s m args below meth c H1 locs (nc M - nc M0 + 1) (ns M - ns M0 + ln M a) (MQ below (QcM G r M9) args s (nc M9 - nc M0) (ns M9 - ns M0) (fun q => gb G ≤ q)) (F0 m (pc + 3) ls (.ref H.size :: st.map (tv (gb G)))) := by
      intro T2 hT2 X2
      obtain ⟨vm2, X3, st2⟩ := X2.checkcastYes C.1 C.2.2.2.1 (C.2.2.2.2.1 _ (WT_in hl6)) (by rw [hT2]; exact e1) (by rfl) hnm (va_asg _ _) (g := F0 m (pc + 3) ls (.ref H.size :: st.map (tv (gb G)))) rfl rfl (by rw [C.2.1]; exact hd2)
      have h5 : W p (gL G) e (rm d (nc M9 - nc M0) (ns M9 - ns M0)) s m args below meth c H1 locs (nc M - nc M0 + 1) (ns M - ns M0 + ln M a) (MQ below (QcM G r M9) args s (nc M9 - nc M0) (ns M9 - ns M0) (fun q => gb G ≤ q)) (F0 m (pc + 6) ls (.ref H.size :: st.map (tv (gb G)))) := by
        refine W.castC (n2 := nc M + 1 - nc M0) (n4 := ns M + ln M a - ns M0) (by omega) (by omega) ?_
        rw [hz]
        exact h4
      obtain ⟨t, a1, b1⟩ := h5 (T2.setVm vm2) hT2 X3
      exact ⟨t, st2 t a1, b1⟩
    obtain ⟨t, b1, b2⟩ := w2 ((T.setVm vm').pushCell (arrV (gA G 20) (ln M a) (fun j => .int (gi M a j)))) (by rw [← hH1, ← hT]; rfl) X'
    refine ⟨t, st1 t ?_, b2⟩
    rw [hT]
    exact b1
  · rw [if_neg hk] at h; cases h
def cpL (M : Mem) (q0 q1 sp dp n : Nat) : Mem := (M.1, M.2.1, M.2.2.1, (fun p j => if p = q1 ∧ dp ≤ j ∧ j < dp + n then M.2.2.2.1 q0 (sp + (j - dp)) else M.2.2.2.1 p j), M.2.2.2.2)
theorem gl_cpL {M : Mem} {q0 q1 sp dp n p j : Nat} : gl (cpL M q0 q1 sp dp n) p j = if p = q1 ∧ dp ≤ j ∧ j < dp + n then gl M q0 (sp + (j - dp)) else gl M p j := rfl
def cpyL (M : Mem) (a0 : Option Nat) (sp : Int32) (a1 : Option Nat) (dp n : Int32) : Option Mem := match a0, a1 with
  | some q0, some q1 => if kd M q0 = 21 ∧ kd M q1 = 21 ∧ ¬ sp < 0 ∧ ¬ dp < 0 ∧ ¬ n < 0 ∧ sp.toNatClampNeg + n.toNatClampNeg ≤ ln M q0 ∧ dp.toNatClampNeg + n.toNatClampNeg ≤ ln M q1 then some (cpL M q0 q1 sp.toNatClampNeg dp.toNatClampNeg n.toNatClampNeg) else none
  | _, _ => none
theorem sv_cpL {b t : Nat} {M : Mem} {q0 q1 sp dp n p j : Nat} : sv b t (cpL M q0 q1 sp dp n) p j = if t = 1 ∧ p = q1 ∧ dp ≤ j ∧ j < dp + n then .long (gl M q0 (sp + (j - dp))) else sv b t M p j := by
  match t with
  | 0 => rw [if_neg (by omega)]; rfl
  | 1 => simp only [sv, gl_cpL, true_and]; split <;> rfl
  | t + 2 => rw [if_neg (by omega)]; rfl
set_option maxHeartbeats 4000000 in
theorem V.acpL {G : Gt} {Y : MI} {d : Nat} {M0 M9 M : Mem} {r : Option TV} {pc q idx : Nat} {lv : List (Nat × TV)} {st : List TV} {α : Type} {z : α} {a0 a1 : Option Nat} {sp dp n : Int32} {K : Mem → Option α} (hd : decode Y.2.1 pc = .ok (.invokestatic idx, 3)) (hl1 : Cond.methodLink Y.1.cls idx arraycopyName ∈ WT) (hl2 : Cond.native arraycopyName ∈ WT) (hl3 : Cond.static arraycopyName ∈ WT) (hl4 : Cond.initialized "java/lang/System" ∈ WT) (hd1 : 1 ≤ d) (hw : tvw st ≤ 8) (hq : pc + 3 = q) (h : (cpyL M a0 sp a1 dp n).bind K = some z) (kk : ∀ M1 : Mem, K M1 = some z → V G Y d M0 r M9 M1 q lv st) : V G Y d M0 r M9 M pc lv (vI n :: vI dp :: vR a1 :: vI sp :: vR a0 :: st) := by
  subst hq
  cases a0 with
  | none => cases h
  | some q0 =>
  cases a1 with
  | none => cases h
  | some q1 =>
  unfold cpyL at h
  dsimp only at h
  by_cases hk : kd M q0 = 21 ∧ kd M q1 = 21 ∧ ¬ sp < 0 ∧ ¬ dp < 0 ∧ ¬ n < 0 ∧ sp.toNatClampNeg + n.toNatClampNeg ≤ ln M q0 ∧ dp.toNatClampNeg + n.toNatClampNeg ≤ ln M q1
  · rw [if_pos hk] at h
    have k1 := kk _ h
    obtain ⟨hk0, hk1, g1, g2, g3, g4, g5⟩ := hk
    refine ⟨k1.1, fun h1 h2 p e s m args below meth c H locs ls C hR hL hl => ?_⟩
    have hA0 := (hR.2.2 q0 (by omega)).2.2 (by omega)
    have hA1 := (hR.2.2 q1 (by omega)).2.2 (by omega)
    have hKt := (C.2.2.2.2.2.1.2.1 21 (by omega) (by omega)).1
    rw [hk0] at hA0
    rw [hk1] at hA1
    have hA0 : H[gb G + q0]? = some (arrV (gA G 21) (ln M q0) (fun j => .long (gl M q0 j))) := hA0
    have hA1 : H[gb G + q1]? = some (arrV (gA G 21) (ln M q1) (fun j => .long (gl M q1 j))) := hA1
    have nn : ∀ z : Int32, ¬ z < 0 → z.toInt = (z.toNatClampNeg : Int) := by
      intro z hz
      have hz0 : (0 : Int) ≤ z.toInt := by
        have := Int32.not_lt.mp hz
        simpa using Int32.le_iff_toInt_le.mp this
      show z.toInt = ((z.toInt.toNat : Nat) : Int)
      omega
    intro T hT X
    obtain ⟨-, k0, hk00, cm0, hkk0⟩ := hKt (ln M q0) (fun j => .long (gl M q0 j))
    have hk00 : s.vm.classes[gA G 21]? = some k0 := hk00
    obtain ⟨vm', X', step⟩ := X.arraycopy C.1 C.2.2.2.1 (C.2.2.2.2.1 _ (WT_in hl1)) (C.2.2.2.2.1 _ (WT_in hl2)) (C.2.2.2.2.1 _ (WT_in hl3)) (C.2.2.2.2.1 _ (WT_in hl4)) (src := gb G + q0) (dst := gb G + q1) (cs := arrV (gA G 21) (ln M q0) (fun j => .long (gl M q0 j))) (cd := arrV (gA G 21) (ln M q1) (fun j => .long (gl M q1 j))) (srcPos := sp) (destPos := dp) (n := n) (by rw [hT]; exact hA0) (by rw [hT]; exact hA1)
      (fun _ h => by cases h) (fun _ h => by cases h) (fun h => by cases h) (fun h => by cases h) hk00 hk00 hkk0 hkk0 (by rfl) g1 g2 g3
      (by rw [nn sp g1, nn n g3, arrV_size]; omega)
      (by rw [nn dp g2, nn n g3, arrV_size]; omega)
      (fun vm₁ _ i hi => by
        have e : (arrV (gA G 21) (ln M q0) (fun j => .long (gl M q0 j))).slots.getD (sp.toNatClampNeg + i) .null = .long (gl M q0 (sp.toNatClampNeg + i)) := by
          rw [Array.getD_eq_getD_getElem?, arrV_read _ _ (by omega)]
          rfl
        rw [e]
        exact ⟨rfl, trivial⟩)
      (g := F0 m pc ls ((vI n :: vI dp :: vR (some q1) :: vI sp :: vR (some q0) :: st).map (tv (gb G)))) rfl (by rw [C.2.2.1]; exact hl.1) (rest := st.map (tv (gb G))) rfl (by rw [C.2.1]; exact hd) hd1 (by
        show 2 * 0 + _ + _ ≤ 64 * d
        rw [tvs_sum]
        have : nativeFrameWords "java/lang/System" "arraycopy" 5 ≤ 40 := by decide +kernel
        omega)
    have e1 : copied (arrV (gA G 21) (ln M q0) (fun j => .long (gl M q0 j))) (arrV (gA G 21) (ln M q1) (fun j => .long (gl M q1 j))) sp dp n = arrV (gA G 21) (ln M q1) (fun j => .long (va_cpy (gl M q0) (gl M q1) sp.toNatClampNeg dp.toNatClampNeg n.toNatClampNeg j)) := va_copied (fun z => .long z) _ _ (gl M q0) (gl M q1) g4
    rw [e1] at X' step
    have hlt : gb G + q1 < H.size := (Array.getElem?_eq_some_iff.mp hA1).1
    have hheap : ((T.setVm vm').setCell (gb G + q1) (arrV (gA G 21) (ln M q1) (fun j => .long (va_cpy (gl M q0) (gl M q1) sp.toNatClampNeg dp.toNatClampNeg n.toNatClampNeg j)))).heap = H.setIfInBounds (gb G + q1) (arrV (gA G 21) (ln M q1) (fun j => .long (va_cpy (gl M q0) (gl M q1) sp.toNatClampNeg dp.toNatClampNeg n.toNatClampNeg j))) := by rw [← hT]; rfl
    obtain ⟨t, a1, b1⟩ := k1.2 h1 h2 p e s m args below meth c (H.setIfInBounds (gb G + q1) (arrV (gA G 21) (ln M q1) (fun j => .long (va_cpy (gl M q0) (gl M q1) sp.toNatClampNeg dp.toNatClampNeg n.toNatClampNeg j)))) _ ls C (by
        refine hR.upd (a := q1) (by omega) (by simp) (fun q hq => by simp [Array.getElem?_setIfInBounds, Ne.symm hq]) rfl (fun _ => rfl) (fun _ => rfl) (fun p hp t i => by rw [sv_cpL, if_neg (fun hh => hp hh.2.1)]) ⟨fun hh => absurd (show kd M q1 < 12 from hh) (by omega), fun hh => ?_⟩
        show (H.setIfInBounds (gb G + q1) _)[gb G + q1]? = some (arrV (gA G (kd M q1)) (ln M q1) (fun j => sv (gb G) (tg (aty (kd M q1))) (cpL M q0 q1 sp.toNatClampNeg dp.toNatClampNeg n.toNatClampNeg) q1 j))
        rw [hk1]
        have e2 : (fun j => sv (gb G) (tg (aty 21)) (cpL M q0 q1 sp.toNatClampNeg dp.toNatClampNeg n.toNatClampNeg) q1 j) = (fun j => .long (va_cpy (gl M q0) (gl M q1) sp.toNatClampNeg dp.toNatClampNeg n.toNatClampNeg j)) := by
          funext j
          show Value.long (gl (cpL M q0 q1 sp.toNatClampNeg dp.toNatClampNeg n.toNatClampNeg) q1 j) = _
          rw [gl_cpL]
          unfold va_cpy
          by_cases hj : dp.toNatClampNeg ≤ j ∧ j < dp.toNatClampNeg + n.toNatClampNeg
          · rw [if_pos hj, if_pos ⟨rfl, hj⟩]
          · rw [if_neg hj, if_neg (fun hh => hj hh.2)]
        rw [e2]
        simp [Array.getElem?_setIfInBounds, hlt]) (fun q hq => by
        rcases List.mem_append.mp hq with h | h
        · exact hL q h
        · obtain ⟨z, -, hz⟩ := List.mem_map.mp h
          rw [← hz]
          exact Nat.le_add_right _ _) hl _ hheap X'
    exact ⟨t, step t a1, b1⟩
  · rw [if_neg hk] at h; cases h
def dupeL (M : Mem) (a : Option Nat) : Option Mem := match a with
  | some q => if kd M q = 21 then some (cpL (nw M 21 (ln M q) (ln M q)) q (nc M) 0 0 (ln M q)) else none
  | none => none
set_option maxHeartbeats 4000000 in
theorem V.clnL {G : Gt} {Y : MI} {d : Nat} {M0 M9 M : Mem} {r : Option TV} {pc q idx idx2 : Nat} {lv : List (Nat × TV)} {st : List TV} {α : Type} {z : α} {a : Option Nat} {K : Mem → Option α} (hd : decode Y.2.1 pc = .ok (.invokevirtual idx, 3)) (hd2 : decode Y.2.1 (pc + 3) = .ok (.checkcast idx2, 3)) (hl1 : Cond.methodLink Y.1.cls idx ⟨"[J", "clone", "()Ljava/lang/Object;"⟩ ∈ WT) (hl2 : Cond.sameMethod "[J" "java/lang/Object" "clone" "()Ljava/lang/Object;" ∈ WT) (hl3 : Cond.native ⟨"java/lang/Object", "clone", "()Ljava/lang/Object;"⟩ ∈ WT) (hl4 : Cond.instanceMethod ⟨"java/lang/Object", "clone", "()Ljava/lang/Object;"⟩ ∈ WT) (hl5 : Cond.selects "[J" ⟨"[J", "clone", "()Ljava/lang/Object;"⟩ ⟨"java/lang/Object", "clone", "()Ljava/lang/Object;"⟩ ∈ WT) (hl6 : Cond.classLink Y.1.cls idx2 "[J" ∈ WT) (hd1 : 1 ≤ d) (hw : tvw st ≤ 8) (hq : pc + 6 = q) (h : (dupeL M a).bind K = some z) (kk : ∀ M1 : Mem, K M1 = some z → V G Y d M0 r M9 M1 q lv (vR (some (nc M)) :: st)) : V G Y d M0 r M9 M pc lv (vR a :: st) := by
  subst hq
  cases a with
  | none => cases h
  | some a =>
  unfold dupeL at h
  dsimp only at h
  by_cases hk : kd M a = 21
  · rw [if_pos hk] at h
    have k1 := kk _ h
    have hm : nc M + 1 ≤ nc M9 ∧ ns M + ln M a ≤ ns M9 := k1.1
    refine ⟨⟨by omega, by omega⟩, fun h1 h2 p e s m args below meth c H locs ls C hR hL hl => ?_⟩
    have h3 := k1.2 (show nc M0 ≤ nc M + 1 by omega) (show ns M0 ≤ ns M + ln M a by omega)
    have hA := (hR.2.2 a (by omega)).2.2 (by omega)
    have hKa := C.2.2.2.2.2.1.2.1 21 (by omega) (by omega)
    rw [hk] at hA
    have hA : H[gb G + a]? = some (arrV (gA G 21) (ln M a) (fun j => .long (gl M a j))) := hA
    have hnm : s.vm.findClass "[J" = some (gA G 21) := hKa.2
    obtain ⟨c0, t0', f1, f2, f3⟩ := Cond.castable_spec (va_Nw.use (A := args) rfl C.2.2.2.2.2.1.2.2.2.2.2.2.2.2.2.1)
    cases hnm.symm.trans f1
    intro T hT X
    have hcellT : T.heap[gb G + a]? = some (arrV (gA G 21) (ln M a) (fun j => .long (gl M a j))) := by rw [hT]; exact hA
    obtain ⟨-, kA, hkA, comp, hkind⟩ := State.isArrayOf_alike X.warmed.alike (hKa.1 0 (fun _ => .null))
    obtain ⟨-, kS, hkS, compS, hkindS⟩ := hKa.1 0 (fun _ => .null)
    obtain ⟨vm', X', st1⟩ := X.cloneArray C.1 C.2.2.2.1 (C.2.2.2.2.1 _ (WT_in hl1)) (C.2.2.2.2.1 _ (WT_in hl2)) (C.2.2.2.2.1 _ (WT_in hl3)) (C.2.2.2.2.1 _ (WT_in hl4)) (C.2.2.2.2.1 _ (WT_in hl5)) (a := gb G + a) hcellT (fun k h => by cases h) (fun h => by cases h) hnm f2 f3
      (fun i v hv => by
        have hk' : T.vm.classes[gA G 21]? = some kA := hkA
        have hlt : i < ln M a := by have := (Array.getElem?_eq_some_iff.mp hv).1; rw [arrV_size] at this; exact this
        rw [arrV_read _ _ hlt] at hv
        cases hv
        show T.fitsSlot (gA G 21) .none i (.long (gl M a i)) = true
        simp [State.fitsSlot, State.slotType?, hk', hkind, fits, aty])
      (g := F0 m pc ls ((vR (some a) :: st).map (tv (gb G)))) rfl (by rw [C.2.2.1]; exact hl.1) rfl (by rw [C.2.1]; exact hd) hd1 (by show 2 * 0 + _ + 14 ≤ 64 * d; rw [tvs_sum]; omega) (by show _ ≤ nc M9 - nc M0; omega) (by rw [arrV_size]; show _ ≤ ns M9 - ns M0; omega) (hloader := Vm.clonesLoader_of_array hkS hkindS)
    rw [arrV_size] at X'
    have hce : ({ cls := (arrV (gA G 21) (ln M a) (fun j => .long (gl M a j))).cls, slots := (arrV (gA G 21) (ln M a) (fun j => .long (gl M a j))).slots } : Cell) = arrV (gA G 21) (ln M a) (fun j => .long (gl M a j)) := rfl
    rw [hce] at X' st1
    generalize hH1 : H.push (arrV (gA G 21) (ln M a) (fun j => .long (gl M a j))) = H1
    have z1 : H1.size = H.size + 1 := by rw [← hH1, Array.size_push]
    have e1 : H1[H.size]? = some (arrV (gA G 21) (ln M a) (fun j => .long (gl M a j))) := by rw [← hH1, Array.getElem?_push_size]
    have o1 : ∀ q : Nat, q < H.size → H1[q]? = H[q]? := fun q hq => by rw [← hH1, Array.getElem?_push, if_neg (Nat.ne_of_lt hq)]
    have hR1 : Rp G (cpL (nw M 21 (ln M a) (ln M a)) a (nc M) 0 0 (ln M a)) H1 := by
      have hz := hR.1
      have halt := (hR.2.2 a (by omega)).1
      refine ⟨by rw [z1, hz]; show _ = gb G + (nc M + 1); omega, fun q hq => ?_, fun p hp => ?_⟩
      · rw [o1 q (by omega)]; exact hR.2.1 q hq
      · have hp : kd (nw M 21 (ln M a) (ln M a)) p < 29 := hp
        by_cases ep : p = nc M
        · subst ep
          refine ⟨by show _ < nc M + 1; omega, ⟨fun hh => absurd (show kd (nw M 21 (ln M a) (ln M a)) (nc M) < 12 from hh) (by rw [kd_nw, if_pos rfl]; omega), fun hh => ?_⟩⟩
          show H1[gb G + nc M]? = some (arrV (gA G (kd (nw M 21 (ln M a) (ln M a)) (nc M))) (ln (nw M 21 (ln M a) (ln M a)) (nc M)) (fun j => sv (gb G) (tg (aty (kd (nw M 21 (ln M a) (ln M a)) (nc M)))) (cpL (nw M 21 (ln M a) (ln M a)) a (nc M) 0 0 (ln M a)) (nc M) j))
          rw [kd_nw, if_pos rfl, ln_nw, if_pos rfl, ← hz, e1]
          refine congrArg some (arrV_ext (fun j hj => ?_))
          show Value.long (gl M a j) = .long (gl (cpL (nw M 21 (ln M a) (ln M a)) a (nc M) 0 0 (ln M a)) (nc M) j)
          rw [gl_cpL, if_pos ⟨rfl, Nat.zero_le _, by omega⟩, gl_nw, if_neg (by omega)]
          congr 2
          omega
        · rw [kd_nw, if_neg ep] at hp
          have hq1 := hR.2.2 p hp
          refine ⟨by show _ < nc M + 1; omega, hq1.2.to (o1 _ (by omega)) (by show kd (nw M 21 (ln M a) (ln M a)) p = _; rw [kd_nw, if_neg ep]) (by show ln (nw M 21 (ln M a) (ln M a)) p = _; rw [ln_nw, if_neg ep]) (fun t j => by rw [sv_cpL, if_neg (fun hh => ep hh.2.1), sv_nw, if_neg ep])⟩
    have h4 := h3 p e s m args below meth c H1 locs ls C hR1 hL hl
    have hz := hR.1
    have w2 : W p (gL G) e (rm d (nc M9 - nc M0) (ns M9 - ns M0)) s m args below meth c H1 locs (nc M - nc M0 + 1) (ns M - ns M0 + ln M a) (MQ below (QcM G r M9) args s (nc M9 - nc M0) (ns M9 - ns M0) (fun q => gb G ≤ q)) (F0 m (pc + 3) ls (.ref H.size :: st.map (tv (gb G)))) := by
      intro T2 hT2 X2
      obtain ⟨vm2, X3, st2⟩ := X2.checkcastYes C.1 C.2.2.2.1 (C.2.2.2.2.1 _ (WT_in hl6)) (by rw [hT2]; exact e1) (by rfl) hnm (va_asg _ _) (g := F0 m (pc + 3) ls (.ref H.size :: st.map (tv (gb G)))) rfl rfl (by rw [C.2.1]; exact hd2)
      have h5 : W p (gL G) e (rm d (nc M9 - nc M0) (ns M9 - ns M0)) s m args below meth c H1 locs (nc M - nc M0 + 1) (ns M - ns M0 + ln M a) (MQ below (QcM G r M9) args s (nc M9 - nc M0) (ns M9 - ns M0) (fun q => gb G ≤ q)) (F0 m (pc + 6) ls (.ref H.size :: st.map (tv (gb G)))) := by
        refine W.castC (n2 := nc M + 1 - nc M0) (n4 := ns M + ln M a - ns M0) (by omega) (by omega) ?_
        rw [hz]
        exact h4
      obtain ⟨t, a1, b1⟩ := h5 (T2.setVm vm2) hT2 X3
      exact ⟨t, st2 t a1, b1⟩
    obtain ⟨t, b1, b2⟩ := w2 ((T.setVm vm').pushCell (arrV (gA G 21) (ln M a) (fun j => .long (gl M a j)))) (by rw [← hH1, ← hT]; rfl) X'
    refine ⟨t, st1 t ?_, b2⟩
    rw [hT]
    exact b1
  · rw [if_neg hk] at h; cases h
