-- ===== rows of V that read and write the heap, make cells, call and return =====
theorem nfd_dv {t : FieldType} (h : nfd t = true) : defaultValue t = (match tg t with | 0 => Value.int 0 | 1 => Value.long 0 | _ => Value.null) := by
  cases t <;> first | rfl | cases h
theorem rv_cases (b : Nat) (x : Option Nat) : rv b x = .null ∨ ∃ q, rv b x = .ref q := by
  cases x with
  | none => exact Or.inl rfl
  | some a => exact Or.inr ⟨_, rfl⟩
theorem rv_nar {t : FieldType} {b : Nat} {x : Option Nat} (h : tg t = 2) : narrow t (rv b x) = rv b x := by
  cases t <;> first | (cases h; done) | (rcases rv_cases b x with e | ⟨q, e⟩ <;> rw [e] <;> rfl)
theorem rv_fits {t : FieldType} {b : Nat} {x : Option Nat} (h : tg t = 2) : fits t (rv b x) = true := by
  cases t <;> first | (cases h; done) | (rcases rv_cases b x with e | ⟨q, e⟩ <;> rw [e] <;> rfl)
theorem aty_ref {k : Nat} (h : 25 ≤ k) : (aty k).isReference = true := by
  unfold aty
  split <;> first | rfl | omega
theorem aty_tg {k : Nat} (h : 25 ≤ k) : tg (aty k) = 2 := by
  unfold aty
  split <;> first | rfl | omega
theorem locs_app {b : Nat} {locs : List Loc} {a j : Nat} (h : ∀ q ∈ locs, b ≤ q.base) : ∀ q ∈ locs ++ [(⟨b + a, j⟩ : Loc)], b ≤ q.base := by
  intro q hq
  rcases List.mem_append.mp hq with h1 | h1
  · exact h q h1
  · rw [List.mem_singleton.mp h1]; exact Nat.le_add_right _ _
section VHeap
variable {G : Gt} {Y : MI} {d : Nat} {M0 M9 M : Mem} {r : Option TV} {pc q : Nat} {lv : List (Nat × TV)} {st : List TV} {α : Type} {z : α} {k j idx : Nat} {f : Nat} {a : Option Nat}
theorem V.getI {K : Int32 → Option α} (hd : decode Y.2.1 pc = .ok (.getfield idx, 3)) (L : Lk Y.1.cls idx k j f) (ht : tg (tyF k j) = 0) (hq : pc + 3 = q) (h : (fI M k j a).bind K = some z) (kk : ∀ x : Int32, K x = some z → V G Y d M0 r M9 M q lv (vI x :: st)) : V G Y d M0 r M9 M pc lv (vR a :: st) := by
  subst hq
  cases a with
  | none => cases h
  | some a =>
    unfold fI at h
    dsimp only at h
    by_cases hk : kd M a = k
    · rw [if_pos hk] at h
      have k1 := kk _ h
      refine ⟨k1.1, fun h1 h2 p e s m args below meth c H locs ls C hR hL hl => ?_⟩
      refine Wget C hR L hk hd ?_
      rw [ht]
      exact k1.2 h1 h2 p e s m args below meth c H locs ls C hR hL hl
    · rw [if_neg hk] at h; cases h
theorem V.getL {K : Int64 → Option α} (hd : decode Y.2.1 pc = .ok (.getfield idx, 3)) (L : Lk Y.1.cls idx k j f) (ht : tg (tyF k j) = 1) (hq : pc + 3 = q) (h : (fL M k j a).bind K = some z) (kk : ∀ x : Int64, K x = some z → V G Y d M0 r M9 M q lv (vL x :: st)) : V G Y d M0 r M9 M pc lv (vR a :: st) := by
  subst hq
  cases a with
  | none => cases h
  | some a =>
    unfold fL at h
    dsimp only at h
    by_cases hk : kd M a = k
    · rw [if_pos hk] at h
      have k1 := kk _ h
      refine ⟨k1.1, fun h1 h2 p e s m args below meth c H locs ls C hR hL hl => ?_⟩
      refine Wget C hR L hk hd ?_
      rw [ht]
      exact k1.2 h1 h2 p e s m args below meth c H locs ls C hR hL hl
    · rw [if_neg hk] at h; cases h
theorem V.getR {K : Option Nat → Option α} (hd : decode Y.2.1 pc = .ok (.getfield idx, 3)) (L : Lk Y.1.cls idx k j f) (ht : tg (tyF k j) = 2) (hq : pc + 3 = q) (h : (fR M k j a).bind K = some z) (kk : ∀ x : Option Nat, K x = some z → V G Y d M0 r M9 M q lv (vR x :: st)) : V G Y d M0 r M9 M pc lv (vR a :: st) := by
  subst hq
  cases a with
  | none => cases h
  | some a =>
    unfold fR at h
    dsimp only at h
    by_cases hk : kd M a = k
    · rw [if_pos hk] at h
      have k1 := kk _ h
      refine ⟨k1.1, fun h1 h2 p e s m args below meth c H locs ls C hR hL hl => ?_⟩
      refine Wget C hR L hk hd ?_
      rw [ht]
      exact k1.2 h1 h2 p e s m args below meth c H locs ls C hR hL hl
    · rw [if_neg hk] at h; cases h
theorem V.putI {x : Int32} {K : Mem → Option α} (hd : decode Y.2.1 pc = .ok (.putfield idx, 3)) (L : Lk Y.1.cls idx k j f) (hf : f = 1 ∨ f = 2 ∧ Y.1.name = "<init>") (ht : tyF k j = .int) (hq : pc + 3 = q) (h : (pI M k j a x).bind K = some z) (kk : ∀ M1 : Mem, K M1 = some z → V G Y d M0 r M9 M1 q lv st) : V G Y d M0 r M9 M pc lv (vI x :: vR a :: st) := by
  subst hq
  cases a with
  | none => cases h
  | some a =>
    unfold pI at h
    dsimp only at h
    by_cases hk : kd M a = k
    · rw [if_pos hk] at h
      have k1 := kk _ h
      refine ⟨k1.1, fun h1 h2 p e s m args below meth c H locs ls C hR hL hl => ?_⟩
      have hk12 : k < 12 := by obtain ⟨_, _, _, hc, _⟩ := L; exact hc.2.1
      refine Wput C hR hL L hf hk (v := .int x) (by rw [ht]; rfl) (by rw [ht]; rfl) hd fun H' locs' hL' hO hz ho => ?_
      refine k1.2 h1 h2 p e s m args below meth c H' locs' ls C ?_ hL' hl
      refine hR.upd (a := a) (by omega) hz ho rfl (fun _ => rfl) (fun _ => rfl) (fun p hp t i => by rw [sv_si, if_neg (fun hh => hp hh.2.1)]) ⟨fun hh => ?_, fun hh => absurd (show kd M a < 12 by omega) hh⟩
      show t_OB _ ((gD G).1 (kd M a)) (nF (kd M a)) ((gD G).2 (kd M a)) H' (fun i => sv (gb G) (tg (tyF (kd M a) i)) (si M a j x) a i)
      rw [hk]
      refine hO.to (fun i _ => ?_)
      rw [sv_si]
      unfold updV
      by_cases hij : i = j
      · subst hij; rw [if_pos rfl, if_pos ⟨by rw [ht]; rfl, rfl, rfl⟩]
      · rw [if_neg hij, if_neg (fun hh => hij hh.2.2)]
    · rw [if_neg hk] at h; cases h
theorem V.putZ {x : Int32} {K : Mem → Option α} (hd : decode Y.2.1 pc = .ok (.putfield idx, 3)) (L : Lk Y.1.cls idx k j f) (hf : f = 1 ∨ f = 2 ∧ Y.1.name = "<init>") (ht : tyF k j = .boolean) (hq : pc + 3 = q) (h : (pZ M k j a x).bind K = some z) (kk : ∀ M1 : Mem, K M1 = some z → V G Y d M0 r M9 M1 q lv st) : V G Y d M0 r M9 M pc lv (vI x :: vR a :: st) := by
  subst hq
  cases a with
  | none => unfold pZ at h; split at h <;> cases h
  | some a =>
    unfold pZ at h
    have hx : x = 0 ∨ x = 1 := by
      by_cases hx : x = 0 ∨ x = 1
      · exact hx
      · rw [if_neg hx] at h; cases h
    rw [if_pos hx] at h
    unfold pI at h
    dsimp only at h
    by_cases hk : kd M a = k
    · rw [if_pos hk] at h
      have k1 := kk _ h
      refine ⟨k1.1, fun h1 h2 p e s m args below meth c H locs ls C hR hL hl => ?_⟩
      have hk12 : k < 12 := by obtain ⟨_, _, _, hc, _⟩ := L; exact hc.2.1
      refine Wput C hR hL L hf hk (v := .int x) (by rw [ht]; rcases hx with rfl | rfl <;> rfl) (by rw [ht]; rcases hx with rfl | rfl <;> rfl) hd fun H' locs' hL' hO hz ho => ?_
      refine k1.2 h1 h2 p e s m args below meth c H' locs' ls C ?_ hL' hl
      refine hR.upd (a := a) (by omega) hz ho rfl (fun _ => rfl) (fun _ => rfl) (fun p hp t i => by rw [sv_si, if_neg (fun hh => hp hh.2.1)]) ⟨fun hh => ?_, fun hh => absurd (show kd M a < 12 by omega) hh⟩
      show t_OB _ ((gD G).1 (kd M a)) (nF (kd M a)) ((gD G).2 (kd M a)) H' (fun i => sv (gb G) (tg (tyF (kd M a) i)) (si M a j x) a i)
      rw [hk]
      refine hO.to (fun i _ => ?_)
      rw [sv_si]
      unfold updV
      by_cases hij : i = j
      · subst hij; rw [if_pos rfl, if_pos ⟨by rw [ht]; rfl, rfl, rfl⟩]
      · rw [if_neg hij, if_neg (fun hh => hij hh.2.2)]
    · rw [if_neg hk] at h; cases h
theorem V.putL {x : Int64} {K : Mem → Option α} (hd : decode Y.2.1 pc = .ok (.putfield idx, 3)) (L : Lk Y.1.cls idx k j f) (hf : f = 1 ∨ f = 2 ∧ Y.1.name = "<init>") (ht : tyF k j = .long) (hq : pc + 3 = q) (h : (pL M k j a x).bind K = some z) (kk : ∀ M1 : Mem, K M1 = some z → V G Y d M0 r M9 M1 q lv st) : V G Y d M0 r M9 M pc lv (vL x :: vR a :: st) := by
  subst hq
  cases a with
  | none => cases h
  | some a =>
    unfold pL at h
    dsimp only at h
    by_cases hk : kd M a = k
    · rw [if_pos hk] at h
      have k1 := kk _ h
      refine ⟨k1.1, fun h1 h2 p e s m args below meth c H locs ls C hR hL hl => ?_⟩
      have hk12 : k < 12 := by obtain ⟨_, _, _, hc, _⟩ := L; exact hc.2.1
      refine Wput C hR hL L hf hk (v := .long x) (by rw [ht]; rfl) (by rw [ht]; rfl) hd fun H' locs' hL' hO hz ho => ?_
      refine k1.2 h1 h2 p e s m args below meth c H' locs' ls C ?_ hL' hl
      refine hR.upd (a := a) (by omega) hz ho rfl (fun _ => rfl) (fun _ => rfl) (fun p hp t i => by rw [sv_sl, if_neg (fun hh => hp hh.2.1)]) ⟨fun hh => ?_, fun hh => absurd (show kd M a < 12 by omega) hh⟩
      show t_OB _ ((gD G).1 (kd M a)) (nF (kd M a)) ((gD G).2 (kd M a)) H' (fun i => sv (gb G) (tg (tyF (kd M a) i)) (sl M a j x) a i)
      rw [hk]
      refine hO.to (fun i _ => ?_)
      rw [sv_sl]
      unfold updV
      by_cases hij : i = j
      · subst hij; rw [if_pos rfl, if_pos ⟨by rw [ht]; rfl, rfl, rfl⟩]
      · rw [if_neg hij, if_neg (fun hh => hij hh.2.2)]
    · rw [if_neg hk] at h; cases h
theorem V.putR {x : Option Nat} {K : Mem → Option α} (hd : decode Y.2.1 pc = .ok (.putfield idx, 3)) (L : Lk Y.1.cls idx k j f) (hf : f = 1 ∨ f = 2 ∧ Y.1.name = "<init>") (ht : tg (tyF k j) = 2) (hq : pc + 3 = q) (h : (pR M k j a x).bind K = some z) (kk : ∀ M1 : Mem, K M1 = some z → V G Y d M0 r M9 M1 q lv st) : V G Y d M0 r M9 M pc lv (vR x :: vR a :: st) := by
  subst hq
  cases a with
  | none => cases h
  | some a =>
    unfold pR at h
    dsimp only at h
    by_cases hk : kd M a = k
    · rw [if_pos hk] at h
      have k1 := kk _ h
      refine ⟨k1.1, fun h1 h2 p e s m args below meth c H locs ls C hR hL hl => ?_⟩
      have hk12 : k < 12 := by obtain ⟨_, _, _, hc, _⟩ := L; exact hc.2.1
      refine Wput C hR hL L hf hk (v := rv (gb G) x) (rv_nar ht) (rv_fits ht) hd fun H' locs' hL' hO hz ho => ?_
      refine k1.2 h1 h2 p e s m args below meth c H' locs' ls C ?_ hL' hl
      refine hR.upd (a := a) (by omega) hz ho rfl (fun _ => rfl) (fun _ => rfl) (fun p hp t i => by rw [sv_sr, if_neg (fun hh => hp hh.2.1)]) ⟨fun hh => ?_, fun hh => absurd (show kd M a < 12 by omega) hh⟩
      show t_OB _ ((gD G).1 (kd M a)) (nF (kd M a)) ((gD G).2 (kd M a)) H' (fun i => sv (gb G) (tg (tyF (kd M a) i)) (sr M a j x) a i)
      rw [hk]
      refine hO.to (fun i _ => ?_)
      rw [sv_sr]
      unfold updV
      by_cases hij : i = j
      · subst hij; rw [if_pos rfl, if_pos ⟨by rw [ht]; exact Nat.le_refl 2, rfl, rfl⟩]
      · rw [if_neg hij, if_neg (fun hh => hij hh.2.2)]
    · rw [if_neg hk] at h; cases h
theorem V.iald {i : Int32} {K : Int32 → Option α} (hd : decode Y.2.1 pc = .ok (.iaload, 1)) (hq : pc + 1 = q) (h : (aI M 20 a i).bind K = some z) (kk : ∀ x : Int32, K x = some z → V G Y d M0 r M9 M q lv (vI x :: st)) : V G Y d M0 r M9 M pc lv (vI i :: vR a :: st) := by
  subst hq
  cases a with
  | none => cases h
  | some a =>
    unfold aI at h
    dsimp only at h
    by_cases hk : kd M a = 20 ∧ inb i (ln M a)
    · rw [if_pos hk] at h
      have k1 := kk _ h
      obtain ⟨hk, hin⟩ := hk
      refine ⟨k1.1, fun h1 h2 p e s m args below meth c H locs ls C hR hL hl => ?_⟩
      have hlt : i.toNatClampNeg < ln M a := Nat.not_le.mp fun q => hin (Or.inr q)
      have hA := (hR.2.2 a (by omega)).2.2 (by omega)
      have hKt := (C.2.2.2.2.2.1.2.1 (kd M a) (by omega) (by omega)).1
      rw [hk] at hA hKt
      exact W.iald (v := sv (gb G) (tg (aty 20)) M a i.toNatClampNeg) C.1 C.2.1 hA (hKt (ln M a) (fun j => sv (gb G) (tg (aty 20)) M a j)) (fun q => by cases q) (by show ¬ (i < 0 ∨ (arrV _ _ _).slots.size ≤ _); rw [arrV_size]; exact hin) (by show (arrV _ _ _).slots[_]? = _; rw [arrV_read _ _ hlt]) rfl rfl hd (k1.2 h1 h2 p e s m args below meth c H locs ls C hR hL hl)
    · rw [if_neg hk] at h; cases h
theorem V.cald {i : Int32} {K : Int32 → Option α} (hd : decode Y.2.1 pc = .ok (.caload, 1)) (hq : pc + 1 = q) (h : (aI M 22 a i).bind K = some z) (kk : ∀ x : Int32, K x = some z → V G Y d M0 r M9 M q lv (vI x :: st)) : V G Y d M0 r M9 M pc lv (vI i :: vR a :: st) := by
  subst hq
  cases a with
  | none => cases h
  | some a =>
    unfold aI at h
    dsimp only at h
    by_cases hk : kd M a = 22 ∧ inb i (ln M a)
    · rw [if_pos hk] at h
      have k1 := kk _ h
      obtain ⟨hk, hin⟩ := hk
      refine ⟨k1.1, fun h1 h2 p e s m args below meth c H locs ls C hR hL hl => ?_⟩
      have hlt : i.toNatClampNeg < ln M a := Nat.not_le.mp fun q => hin (Or.inr q)
      have hA := (hR.2.2 a (by omega)).2.2 (by omega)
      have hKt := (C.2.2.2.2.2.1.2.1 (kd M a) (by omega) (by omega)).1
      rw [hk] at hA hKt
      exact W.cald (v := sv (gb G) (tg (aty 22)) M a i.toNatClampNeg) C.1 C.2.1 hA (hKt (ln M a) (fun j => sv (gb G) (tg (aty 22)) M a j)) (fun q => by cases q) (by show ¬ (i < 0 ∨ (arrV _ _ _).slots.size ≤ _); rw [arrV_size]; exact hin) (by show (arrV _ _ _).slots[_]? = _; rw [arrV_read _ _ hlt]) rfl rfl hd (k1.2 h1 h2 p e s m args below meth c H locs ls C hR hL hl)
    · rw [if_neg hk] at h; cases h
theorem V.bald {i : Int32} {K : Int32 → Option α} (hd : decode Y.2.1 pc = .ok (.baload, 1)) (hq : pc + 1 = q) (h : (aI M 23 a i).bind K = some z) (kk : ∀ x : Int32, K x = some z → V G Y d M0 r M9 M q lv (vI x :: st)) : V G Y d M0 r M9 M pc lv (vI i :: vR a :: st) := by
  subst hq
  cases a with
  | none => cases h
  | some a =>
    unfold aI at h
    dsimp only at h
    by_cases hk : kd M a = 23 ∧ inb i (ln M a)
    · rw [if_pos hk] at h
      have k1 := kk _ h
      obtain ⟨hk, hin⟩ := hk
      refine ⟨k1.1, fun h1 h2 p e s m args below meth c H locs ls C hR hL hl => ?_⟩
      have hlt : i.toNatClampNeg < ln M a := Nat.not_le.mp fun q => hin (Or.inr q)
      have hA := (hR.2.2 a (by omega)).2.2 (by omega)
      have hKt := (C.2.2.2.2.2.1.2.1 (kd M a) (by omega) (by omega)).1
      rw [hk] at hA hKt
      exact W.bald (v := sv (gb G) (tg (aty 23)) M a i.toNatClampNeg) C.1 C.2.1 hA (hKt (ln M a) (fun j => sv (gb G) (tg (aty 23)) M a j)) (fun q => by cases q) (by show ¬ (i < 0 ∨ (arrV _ _ _).slots.size ≤ _); rw [arrV_size]; exact hin) (by show (arrV _ _ _).slots[_]? = _; rw [arrV_read _ _ hlt]) rfl rfl hd (k1.2 h1 h2 p e s m args below meth c H locs ls C hR hL hl)
    · rw [if_neg hk] at h; cases h
theorem V.zald {i : Int32} {K : Int32 → Option α} (hd : decode Y.2.1 pc = .ok (.baload, 1)) (hq : pc + 1 = q) (h : (aI M 24 a i).bind K = some z) (kk : ∀ x : Int32, K x = some z → V G Y d M0 r M9 M q lv (vI x :: st)) : V G Y d M0 r M9 M pc lv (vI i :: vR a :: st) := by
  subst hq
  cases a with
  | none => cases h
  | some a =>
    unfold aI at h
    dsimp only at h
    by_cases hk : kd M a = 24 ∧ inb i (ln M a)
    · rw [if_pos hk] at h
      have k1 := kk _ h
      obtain ⟨hk, hin⟩ := hk
      refine ⟨k1.1, fun h1 h2 p e s m args below meth c H locs ls C hR hL hl => ?_⟩
      have hlt : i.toNatClampNeg < ln M a := Nat.not_le.mp fun q => hin (Or.inr q)
      have hA := (hR.2.2 a (by omega)).2.2 (by omega)
      have hKt := (C.2.2.2.2.2.1.2.1 (kd M a) (by omega) (by omega)).1
      rw [hk] at hA hKt
      exact W.zald (v := sv (gb G) (tg (aty 24)) M a i.toNatClampNeg) C.1 C.2.1 hA (hKt (ln M a) (fun j => sv (gb G) (tg (aty 24)) M a j)) (fun q => by cases q) (by show ¬ (i < 0 ∨ (arrV _ _ _).slots.size ≤ _); rw [arrV_size]; exact hin) (by show (arrV _ _ _).slots[_]? = _; rw [arrV_read _ _ hlt]) rfl rfl hd (k1.2 h1 h2 p e s m args below meth c H locs ls C hR hL hl)
    · rw [if_neg hk] at h; cases h
theorem V.lald {i : Int32} {K : Int64 → Option α} (hd : decode Y.2.1 pc = .ok (.laload, 1)) (hq : pc + 1 = q) (h : (aL M 21 a i).bind K = some z) (kk : ∀ x : Int64, K x = some z → V G Y d M0 r M9 M q lv (vL x :: st)) : V G Y d M0 r M9 M pc lv (vI i :: vR a :: st) := by
  subst hq
  cases a with
  | none => cases h
  | some a =>
    unfold aL at h
    dsimp only at h
    by_cases hk : kd M a = 21 ∧ inb i (ln M a)
    · rw [if_pos hk] at h
      have k1 := kk _ h
      obtain ⟨hk, hin⟩ := hk
      refine ⟨k1.1, fun h1 h2 p e s m args below meth c H locs ls C hR hL hl => ?_⟩
      have hlt : i.toNatClampNeg < ln M a := Nat.not_le.mp fun q => hin (Or.inr q)
      have hA := (hR.2.2 a (by omega)).2.2 (by omega)
      have hKt := (C.2.2.2.2.2.1.2.1 (kd M a) (by omega) (by omega)).1
      rw [hk] at hA hKt
      exact W.lald (v := sv (gb G) (tg (aty 21)) M a i.toNatClampNeg) C.1 C.2.1 hA (hKt (ln M a) (fun j => sv (gb G) (tg (aty 21)) M a j)) (fun q => by cases q) (by show ¬ (i < 0 ∨ (arrV _ _ _).slots.size ≤ _); rw [arrV_size]; exact hin) (by show (arrV _ _ _).slots[_]? = _; rw [arrV_read _ _ hlt]) rfl rfl hd (k1.2 h1 h2 p e s m args below meth c H locs ls C hR hL hl)
    · rw [if_neg hk] at h; cases h
theorem V.aald {i : Int32} {K : Option Nat → Option α} (hd : decode Y.2.1 pc = .ok (.aaload, 1)) (h20 : 25 ≤ k) (h29 : k < 29) (hq : pc + 1 = q) (h : (aR M k a i).bind K = some z) (kk : ∀ x : Option Nat, K x = some z → V G Y d M0 r M9 M q lv (vR x :: st)) : V G Y d M0 r M9 M pc lv (vI i :: vR a :: st) := by
  subst hq
  cases a with
  | none => cases h
  | some a =>
    unfold aR at h
    dsimp only at h
    by_cases hk : kd M a = k ∧ inb i (ln M a)
    · rw [if_pos hk] at h
      have k1 := kk _ h
      obtain ⟨hk, hin⟩ := hk
      refine ⟨k1.1, fun h1 h2 p e s m args below meth c H locs ls C hR hL hl => ?_⟩
      have hlt : i.toNatClampNeg < ln M a := Nat.not_le.mp fun q => hin (Or.inr q)
      have hA := (hR.2.2 a (by omega)).2.2 (by omega)
      have hKt := (C.2.2.2.2.2.1.2.1 (kd M a) (by omega) (by omega)).1
      rw [hk] at hA hKt
      exact W.aald (v := sv (gb G) (tg (aty k)) M a i.toNatClampNeg) C.1 C.2.1 hA (hKt (ln M a) (fun j => sv (gb G) (tg (aty k)) M a j)) (aty_ref h20) (fun q => by cases q) (by show ¬ (i < 0 ∨ (arrV _ _ _).slots.size ≤ _); rw [arrV_size]; exact hin) (by show (arrV _ _ _).slots[_]? = _; rw [arrV_read _ _ hlt]) rfl rfl hd (by rw [aty_tg h20]; exact k1.2 h1 h2 p e s m args below meth c H locs ls C hR hL hl)
    · rw [if_neg hk] at h; cases h
theorem V.iast {i : Int32} {x : Int32} {K : Mem → Option α} (hd : decode Y.2.1 pc = .ok (.iastore, 1)) (hq : pc + 1 = q) (h : (uI M 20 a i x).bind K = some z) (kk : ∀ M1 : Mem, K M1 = some z → V G Y d M0 r M9 M1 q lv st) : V G Y d M0 r M9 M pc lv (vI x :: vI i :: vR a :: st) := by
  subst hq
  cases a with
  | none => cases h
  | some a =>
    unfold uI at h
    dsimp only at h
    by_cases hk : kd M a = 20 ∧ inb i (ln M a)
    · rw [if_pos hk] at h
      have k1 := kk _ h
      obtain ⟨hk, hin⟩ := hk
      refine ⟨k1.1, fun h1 h2 p e s m args below meth c H locs ls C hR hL hl => ?_⟩
      have hA := (hR.2.2 a (by omega)).2.2 (by omega)
      have hKt := (C.2.2.2.2.2.1.2.1 (kd M a) (by omega) (by omega)).1
      rw [hk] at hA hKt
      refine W.iast C.1 C.2.1 hA (hKt (ln M a) (fun j => sv (gb G) (tg (aty 20)) M a j)) (fun q => by cases q) (by show ¬ (i < 0 ∨ (arrV _ _ _).slots.size ≤ _); rw [arrV_size]; exact hin) rfl rfl hd fun H' e1 hz ho => ?_
      refine k1.2 h1 h2 p e s m args below meth c H' _ ls C ?_ (locs_app hL) hl
      refine hR.upd (a := a) (by omega) hz ho rfl (fun _ => rfl) (fun _ => rfl) (fun p hp t i => by rw [sv_si, if_neg (fun hh => hp hh.2.1)]) ⟨fun hh => absurd (show kd M a < 12 from hh) (by omega), fun hh => ?_⟩
      show H'[gb G + a]? = some (arrV (gA G (kd M a)) (ln M a) (fun j => sv (gb G) (tg (aty (kd M a))) (si M a i.toNatClampNeg x) a j))
      rw [hk, e1, arrV_store]
      congr 2
      funext j
      rw [sv_si]
      unfold updV
      by_cases hij : j = i.toNatClampNeg
      · subst hij; rw [if_pos rfl, if_pos ⟨rfl, rfl, rfl⟩]
      · rw [if_neg hij, if_neg (fun hh => hij hh.2.2)]
    · rw [if_neg hk] at h; cases h
theorem V.last {i : Int32} {x : Int64} {K : Mem → Option α} (hd : decode Y.2.1 pc = .ok (.lastore, 1)) (hq : pc + 1 = q) (h : (uL M 21 a i x).bind K = some z) (kk : ∀ M1 : Mem, K M1 = some z → V G Y d M0 r M9 M1 q lv st) : V G Y d M0 r M9 M pc lv (vL x :: vI i :: vR a :: st) := by
  subst hq
  cases a with
  | none => cases h
  | some a =>
    unfold uL at h
    dsimp only at h
    by_cases hk : kd M a = 21 ∧ inb i (ln M a)
    · rw [if_pos hk] at h
      have k1 := kk _ h
      obtain ⟨hk, hin⟩ := hk
      refine ⟨k1.1, fun h1 h2 p e s m args below meth c H locs ls C hR hL hl => ?_⟩
      have hA := (hR.2.2 a (by omega)).2.2 (by omega)
      have hKt := (C.2.2.2.2.2.1.2.1 (kd M a) (by omega) (by omega)).1
      rw [hk] at hA hKt
      refine W.last C.1 C.2.1 hA (hKt (ln M a) (fun j => sv (gb G) (tg (aty 21)) M a j)) (fun q => by cases q) (by show ¬ (i < 0 ∨ (arrV _ _ _).slots.size ≤ _); rw [arrV_size]; exact hin) rfl rfl hd fun H' e1 hz ho => ?_
      refine k1.2 h1 h2 p e s m args below meth c H' _ ls C ?_ (locs_app hL) hl
      refine hR.upd (a := a) (by omega) hz ho rfl (fun _ => rfl) (fun _ => rfl) (fun p hp t i => by rw [sv_sl, if_neg (fun hh => hp hh.2.1)]) ⟨fun hh => absurd (show kd M a < 12 from hh) (by omega), fun hh => ?_⟩
      show H'[gb G + a]? = some (arrV (gA G (kd M a)) (ln M a) (fun j => sv (gb G) (tg (aty (kd M a))) (sl M a i.toNatClampNeg x) a j))
      rw [hk, e1, arrV_store]
      congr 2
      funext j
      rw [sv_sl]
      unfold updV
      by_cases hij : j = i.toNatClampNeg
      · subst hij; rw [if_pos rfl, if_pos ⟨rfl, rfl, rfl⟩]
      · rw [if_neg hij, if_neg (fun hh => hij hh.2.2)]
    · rw [if_neg hk] at h; cases h
theorem V.cast {i : Int32} {x : Int32} {K : Mem → Option α} (hd : decode Y.2.1 pc = .ok (.castore, 1)) (hq : pc + 1 = q) (h : (uN M 22 a i x).bind K = some z) (kk : ∀ M1 : Mem, K M1 = some z → V G Y d M0 r M9 M1 q lv st) : V G Y d M0 r M9 M pc lv (vI x :: vI i :: vR a :: st) := by
  subst hq
  cases a with
  | none => cases h
  | some a =>
    unfold uN at h
    dsimp only at h
    by_cases hk : kd M a = 22 ∧ inb i (ln M a)
    · rw [if_pos hk] at h
      have k1 := kk _ h
      obtain ⟨hk, hin⟩ := hk
      refine ⟨k1.1, fun h1 h2 p e s m args below meth c H locs ls C hR hL hl => ?_⟩
      have hA := (hR.2.2 a (by omega)).2.2 (by omega)
      have hKt := (C.2.2.2.2.2.1.2.1 (kd M a) (by omega) (by omega)).1
      rw [hk] at hA hKt
      refine W.cast C.1 C.2.1 hA (hKt (ln M a) (fun j => sv (gb G) (tg (aty 22)) M a j)) (fun q => by cases q) (by show ¬ (i < 0 ∨ (arrV _ _ _).slots.size ≤ _); rw [arrV_size]; exact hin) rfl rfl hd fun H' e1 hz ho => ?_
      refine k1.2 h1 h2 p e s m args below meth c H' _ ls C ?_ (locs_app hL) hl
      refine hR.upd (a := a) (by omega) hz ho rfl (fun _ => rfl) (fun _ => rfl) (fun p hp t i => by rw [sv_si, if_neg (fun hh => hp hh.2.1)]) ⟨fun hh => absurd (show kd M a < 12 from hh) (by omega), fun hh => ?_⟩
      show H'[gb G + a]? = some (arrV (gA G (kd M a)) (ln M a) (fun j => sv (gb G) (tg (aty (kd M a))) (si M a i.toNatClampNeg (vp_nar (aty 22) x)) a j))
      rw [hk, e1, arrV_store]
      congr 2
      funext j
      rw [sv_si]
      unfold updV
      by_cases hij : j = i.toNatClampNeg
      · subst hij; rw [if_pos rfl, if_pos ⟨rfl, rfl, rfl⟩]; rfl
      · rw [if_neg hij, if_neg (fun hh => hij hh.2.2)]
    · rw [if_neg hk] at h; cases h
theorem V.bast {i : Int32} {x : Int32} {K : Mem → Option α} (hd : decode Y.2.1 pc = .ok (.bastore, 1)) (hq : pc + 1 = q) (h : (uN M 23 a i x).bind K = some z) (kk : ∀ M1 : Mem, K M1 = some z → V G Y d M0 r M9 M1 q lv st) : V G Y d M0 r M9 M pc lv (vI x :: vI i :: vR a :: st) := by
  subst hq
  cases a with
  | none => cases h
  | some a =>
    unfold uN at h
    dsimp only at h
    by_cases hk : kd M a = 23 ∧ inb i (ln M a)
    · rw [if_pos hk] at h
      have k1 := kk _ h
      obtain ⟨hk, hin⟩ := hk
      refine ⟨k1.1, fun h1 h2 p e s m args below meth c H locs ls C hR hL hl => ?_⟩
      have hA := (hR.2.2 a (by omega)).2.2 (by omega)
      have hKt := (C.2.2.2.2.2.1.2.1 (kd M a) (by omega) (by omega)).1
      rw [hk] at hA hKt
      refine W.bast C.1 C.2.1 hA (hKt (ln M a) (fun j => sv (gb G) (tg (aty 23)) M a j)) (fun q => by cases q) (by show ¬ (i < 0 ∨ (arrV _ _ _).slots.size ≤ _); rw [arrV_size]; exact hin) rfl rfl hd fun H' e1 hz ho => ?_
      refine k1.2 h1 h2 p e s m args below meth c H' _ ls C ?_ (locs_app hL) hl
      refine hR.upd (a := a) (by omega) hz ho rfl (fun _ => rfl) (fun _ => rfl) (fun p hp t i => by rw [sv_si, if_neg (fun hh => hp hh.2.1)]) ⟨fun hh => absurd (show kd M a < 12 from hh) (by omega), fun hh => ?_⟩
      show H'[gb G + a]? = some (arrV (gA G (kd M a)) (ln M a) (fun j => sv (gb G) (tg (aty (kd M a))) (si M a i.toNatClampNeg (vp_nar (aty 23) x)) a j))
      rw [hk, e1, arrV_store]
      congr 2
      funext j
      rw [sv_si]
      unfold updV
      by_cases hij : j = i.toNatClampNeg
      · subst hij; rw [if_pos rfl, if_pos ⟨rfl, rfl, rfl⟩]; rfl
      · rw [if_neg hij, if_neg (fun hh => hij hh.2.2)]
    · rw [if_neg hk] at h; cases h
theorem V.zast {i : Int32} {x : Int32} {K : Mem → Option α} (hd : decode Y.2.1 pc = .ok (.bastore, 1)) (hq : pc + 1 = q) (h : (uN M 24 a i x).bind K = some z) (kk : ∀ M1 : Mem, K M1 = some z → V G Y d M0 r M9 M1 q lv st) : V G Y d M0 r M9 M pc lv (vI x :: vI i :: vR a :: st) := by
  subst hq
  cases a with
  | none => cases h
  | some a =>
    unfold uN at h
    dsimp only at h
    by_cases hk : kd M a = 24 ∧ inb i (ln M a)
    · rw [if_pos hk] at h
      have k1 := kk _ h
      obtain ⟨hk, hin⟩ := hk
      refine ⟨k1.1, fun h1 h2 p e s m args below meth c H locs ls C hR hL hl => ?_⟩
      have hA := (hR.2.2 a (by omega)).2.2 (by omega)
      have hKt := (C.2.2.2.2.2.1.2.1 (kd M a) (by omega) (by omega)).1
      rw [hk] at hA hKt
      refine W.zast C.1 C.2.1 hA (hKt (ln M a) (fun j => sv (gb G) (tg (aty 24)) M a j)) (fun q => by cases q) (by show ¬ (i < 0 ∨ (arrV _ _ _).slots.size ≤ _); rw [arrV_size]; exact hin) rfl rfl hd fun H' e1 hz ho => ?_
      refine k1.2 h1 h2 p e s m args below meth c H' _ ls C ?_ (locs_app hL) hl
      refine hR.upd (a := a) (by omega) hz ho rfl (fun _ => rfl) (fun _ => rfl) (fun p hp t i => by rw [sv_si, if_neg (fun hh => hp hh.2.1)]) ⟨fun hh => absurd (show kd M a < 12 from hh) (by omega), fun hh => ?_⟩
      show H'[gb G + a]? = some (arrV (gA G (kd M a)) (ln M a) (fun j => sv (gb G) (tg (aty (kd M a))) (si M a i.toNatClampNeg (vp_nar (aty 24) x)) a j))
      rw [hk, e1, arrV_store]
      congr 2
      funext j
      rw [sv_si]
      unfold updV
      by_cases hij : j = i.toNatClampNeg
      · subst hij; rw [if_pos rfl, if_pos ⟨rfl, rfl, rfl⟩]; rfl
      · rw [if_neg hij, if_neg (fun hh => hij hh.2.2)]
    · rw [if_neg hk] at h; cases h
theorem V.alen {K : Int32 → Option α} (hd : decode Y.2.1 pc = .ok (.arraylength, 1)) (hq : pc + 1 = q) (h : (aN M a).bind K = some z) (kk : ∀ x : Int32, K x = some z → V G Y d M0 r M9 M q lv (vI x :: st)) : V G Y d M0 r M9 M pc lv (vR a :: st) := by
  subst hq
  cases a with
  | none => cases h
  | some a =>
    unfold aN at h
    dsimp only at h
    by_cases hk : 20 ≤ kd M a ∧ kd M a < 29
    · rw [if_pos hk] at h
      have k1 := kk _ h
      refine ⟨k1.1, fun h1 h2 p e s m args below meth c H locs ls C hR hL hl => ?_⟩
      have hA := (hR.2.2 a (by omega)).2.2 (by omega)
      have hKt := (C.2.2.2.2.2.1.2.1 (kd M a) (by omega) (by omega)).1
      exact W.alen (n := Int32.ofNat (ln M a)) C.1 C.2.1 hA (hKt (ln M a) (fun j => sv (gb G) (tg (aty (kd M a))) M a j)) (by rw [arrV_size] <;> rfl) rfl rfl hd (k1.2 h1 h2 p e s m args below meth c H locs ls C hR hL hl)
    · rw [if_neg hk] at h; cases h
theorem W.castC {p : Program} {l : Launch} {e : Env} {R : Room} {s : State} {m : MethodId} {args : Array Value} {below : List Frame} {meth : Method} {c : Code} {H : Heap} {locs : List Loc} {n1 n2 n3 n4 : Nat} {Q : State → Prop} {g : JFrame} (h1 : n1 = n2) (h2 : n3 = n4) (k : W p l e R s m args below meth c H locs n2 n4 Q g) : W p l e R s m args below meth c H locs n1 n3 Q g := by
  subst h1; subst h2; exact k
/-- a new object -/
theorem V.new {C0 : String} {T : u_T} {N : Nat} (hd : decode Y.2.1 pc = .ok (.new idx, 3)) (hC : Cls k C0 T N) (hl1 : Cond.classLink Y.1.cls idx C0 ∈ WT) (hl2 : Cond.instantiable C0 N ∈ WT) (hl3 : Cond.initialized C0 ∈ WT) (hq : pc + 3 = q) (kk : V G Y d M0 r M9 (nw M k 0 N) q lv (vR (some (nc M)) :: st)) : V G Y d M0 r M9 M pc lv st := by
  subst hq
  have hm := kk.1
  rw [nc_nw, ns_nw] at hm
  refine ⟨⟨by omega, by omega⟩, fun h1 h2 p e s m args below meth c H locs ls C hR hL hl => ?_⟩
  have h3 := kk.2 (by rw [nc_nw]; omega) (by rw [ns_nw]; omega)
  obtain ⟨hx, hb, hml, hown, hts, hK, hrest⟩ := id C
  obtain ⟨hc, hk12, hN, hin, hty, hnm, hnf⟩ := hC
  have hts' : ∀ w ∈ WT, w.before args s = true := fun w h => hts w (WT_in h)
  have hKn := hK.1 _ _ hc
  refine W.newcK hx hb hown (hts' _ hl1) (hts' _ hl2) (hts' _ hl3) rfl hd (by show _ ≤ nc M9 - nc M0; omega) (by show _ ≤ ns M9 - ns M0; omega) hKn.2.1 rfl fun H1 kC hkC e1 z1 o1 => ?_
  refine W.castC (n2 := nc (nw M k 0 N) - nc M0) (n4 := ns (nw M k 0 N) - ns M0) (by rw [nc_nw]; omega) (by rw [ns_nw]; omega) ?_
  have h4 := h3 p e s m args below meth c H1 locs ls C ?_ hL hl
  · have e0 : H.size = gb G + nc M := hR.1
    rw [e0]
    exact h4
  · refine hR.new z1 o1 ⟨fun hh => ?_, fun hh => absurd (show kd (nw M k 0 N) (nc M) < 12 by rw [kd_nw, if_pos rfl]; exact hk12) hh⟩
    rw [kd_nw, if_pos rfl, ← hR.1, hN]
    refine (u_born (tyF k) hts' hin hKn hkC e1 hty).to (fun i hi => ?_)
    rw [sv_nw, if_pos rfl]
    exact nfd_dv (hnf i hi)
/-- a new array of numbers -/
theorem V.newa {at0 : ArrayType} {n : Int32} {K : Mem → Option α} (hd : decode Y.2.1 pc = .ok (.newarray at0, 2)) (hty : newarray.typeOf at0 = aty k) (hw : Cond.arrayClass (aty k) ∈ WT) (h20 : 20 ≤ k) (h29 : k < 25) (hq : pc + 2 = q) (h : (nA M k n).bind K = some z) (kk : ∀ M1 : Mem, K M1 = some z → V G Y d M0 r M9 M1 q lv (vR (some (nc M)) :: st)) : V G Y d M0 r M9 M pc lv (vI n :: st) := by
  subst hq
  unfold nA at h
  by_cases hn : n < 0 ∨ 1000000 < n.toNatClampNeg
  · rw [if_pos hn] at h; cases h
  · rw [if_neg hn] at h
    have k1 := kk _ h
    have hm := k1.1
    rw [nc_nw, ns_nw] at hm
    refine ⟨⟨by omega, by omega⟩, fun h1 h2 p e s m args below meth c H locs ls C hR hL hl => ?_⟩
    have h3 := k1.2 (by rw [nc_nw]; omega) (by rw [ns_nw]; omega)
    obtain ⟨hx, hb, hml, hown, hts, hK, hrest⟩ := id C
    have hts' : ∀ w ∈ WT, w.before args s = true := fun w h => hts w (WT_in h)
    have hKa := hK.2.1 k (by omega) (by omega)
    have hcb : componentBytes (aty k) ≤ 8 := by
      have : k = 20 ∨ k = 21 ∨ k = 22 ∨ k = 23 ∨ k = 24 := by omega
      rcases this with rfl | rfl | rfl | rfl | rfl <;> decide
    refine va_newaK hx hb (by rw [hty]; exact hts' _ hw) rfl hd rfl (fun hh => hn (Or.inl hh)) rfl ?_ (by show _ ≤ nc M9 - nc M0; omega) (by show _ ≤ ns M9 - ns M0; omega) rfl fun H1 cA e1 z1 o1 hAr hNm => ?_
    · rw [hty]
      have h6 : n.toNatClampNeg ≤ 1000000 := by omega
      exact Nat.le_trans (Nat.mul_le_mul h6 hcb) (by decide)
    refine W.castC (n2 := nc (nw M k n.toNatClampNeg n.toNatClampNeg) - nc M0) (n4 := ns (nw M k n.toNatClampNeg n.toNatClampNeg) - ns M0) (by rw [nc_nw]; omega) (by rw [ns_nw]; omega) ?_
    have h4 := h3 p e s m args below meth c H1 locs ls C ?_ hL hl
    · have e0 : H.size = gb G + nc M := hR.1
      rw [e0]
      exact h4
    · refine hR.new z1 o1 ⟨fun hh => absurd (show kd (nw M k n.toNatClampNeg n.toNatClampNeg) (nc M) < 12 from hh) (by rw [kd_nw, if_pos rfl]; omega), fun hh => ?_⟩
      rw [kd_nw, if_pos rfl, ln_nw, if_pos rfl, ← hR.1, e1]
      have hcA : cA = gA G k := by
        have h7 := hKa.2
        rw [hty] at hNm
        have : k = 20 ∨ k = 21 ∨ k = 22 ∨ k = 23 ∨ k = 24 := by omega
        rcases this with rfl | rfl | rfl | rfl | rfl <;> exact Option.some.inj (hNm.symm.trans h7)
      rw [hcA]
      congr 2
      funext i
      rw [sv_nw, if_pos rfl, hty]
      have : k = 20 ∨ k = 21 ∨ k = 22 ∨ k = 23 ∨ k = 24 := by omega
      rcases this with rfl | rfl | rfl | rfl | rfl <;> rfl
/-- a new array of references -/
theorem V.anew {C0 : String} {n : Int32} {K : Mem → Option α} (hd : decode Y.2.1 pc = .ok (.anewarray idx, 3)) (hty : aty k = .object C0) (hl1 : Cond.classLink Y.1.cls idx C0 ∈ WT) (hl2 : acn k = C0) (h25 : 25 ≤ k) (h29 : k < 29) (hq : pc + 3 = q) (h : (nA M k n).bind K = some z) (kk : ∀ M1 : Mem, K M1 = some z → V G Y d M0 r M9 M1 q lv (vR (some (nc M)) :: st)) : V G Y d M0 r M9 M pc lv (vI n :: st) := by
  subst hq
  unfold nA at h
  by_cases hn : n < 0 ∨ 1000000 < n.toNatClampNeg
  · rw [if_pos hn] at h; cases h
  · rw [if_neg hn] at h
    have k1 := kk _ h
    have hm := k1.1
    rw [nc_nw, ns_nw] at hm
    refine ⟨⟨by omega, by omega⟩, fun h1 h2 p e s m args below meth c H locs ls C hR hL hl => ?_⟩
    have h3 := k1.2 (by rw [nc_nw]; omega) (by rw [ns_nw]; omega)
    obtain ⟨hx, hb, hml, hown, hts, hK, hrest⟩ := id C
    have hts' : ∀ w ∈ WT, w.before args s = true := fun w h => hts w (WT_in h)
    have hKa := hK.2.1 k (by omega) (by omega)
    have hao : va_AO C0 s := by rw [← hl2]; exact hK.2.2.1 k h25 h29
    have h6 : n.toNatClampNeg * 4 ≤ 536870912 := by omega
    refine W.anew hx hb hown (hts' _ hl1) (va_AO.use hao) rfl hd rfl (fun hh => hn (Or.inl hh)) h6 (by show _ ≤ nc M9 - nc M0; omega) (by show _ ≤ ns M9 - ns M0; omega) fun cA kA comp f1 f2 f3 f4 => ?_
    generalize hH1 : H.push ({ cls := cA, slots := Array.replicate n.toNatClampNeg .null, vm := .none } : Cell) = H1
    have z1 : H1.size = H.size + 1 := by rw [← hH1, Array.size_push]
    have e1 : H1[H.size]? = some (arrV cA n.toNatClampNeg (fun _ => .null)) := by rw [← hH1, Array.getElem?_push_size, ← arrV_new]
    have o1 : ∀ q : Nat, q < H.size → H1[q]? = H[q]? := fun q hq => by rw [← hH1, Array.getElem?_push, if_neg (Nat.ne_of_lt hq)]
    refine W.castC (n2 := nc (nw M k n.toNatClampNeg n.toNatClampNeg) - nc M0) (n4 := ns (nw M k n.toNatClampNeg n.toNatClampNeg) - ns M0) (by rw [nc_nw]; omega) (by rw [ns_nw]; omega) ?_
    have h4 := h3 p e s m args below meth c H1 locs ls C ?_ hL hl
    · have e0 : H.size = gb G + nc M := hR.1
      rw [e0]
      exact h4
    · refine hR.new z1 o1 ⟨fun hh => absurd (show kd (nw M k n.toNatClampNeg n.toNatClampNeg) (nc M) < 12 from hh) (by rw [kd_nw, if_pos rfl]; omega), fun hh => ?_⟩
      rw [kd_nw, if_pos rfl, ln_nw, if_pos rfl, ← hR.1, e1]
      have hcA : cA = gA G k := by
        have h7 := hKa.2
        rw [hty] at h7
        obtain ⟨kA', comp', g1, g2, g3, g4⟩ := h7
        exact Option.some.inj (f1.symm.trans g4)
      rw [hcA]
      congr 2
      funext i
      rw [sv_nw, if_pos rfl, hty]
      rfl
/-- into an array of references -/
theorem V.aast {i : Int32} {x : Option Nat} {K : Mem → Option α} {C0 : String} {T : u_T} {N : Nat} (hd : decode Y.2.1 pc = .ok (.aastore, 1)) (hC : Cls (acm k) C0 T N) (hty : aty k = .object C0) (h25 : 25 ≤ k) (h29 : k < 29) (hq : pc + 1 = q) (h : (uR M k a i x).bind K = some z) (kk : ∀ M1 : Mem, K M1 = some z → V G Y d M0 r M9 M1 q lv st) : V G Y d M0 r M9 M pc lv (vR x :: vI i :: vR a :: st) := by
  subst hq
  cases a with
  | none => cases h
  | some a =>
    unfold uR at h
    dsimp only at h
    by_cases hk : kd M a = k ∧ inb i (ln M a) ∧ okRd M (acm k) x = true
    · rw [if_pos hk] at h
      have k1 := kk _ h
      obtain ⟨hk, hin, hok⟩ := hk
      refine ⟨k1.1, fun h1 h2 p e s m args below meth c H locs ls C hR hL hl => ?_⟩
      have hA := (hR.2.2 a (by omega)).2.2 (by omega)
      have hKa := C.2.2.2.2.2.1.2.1 (kd M a) (by omega) (by omega)
      have hlt : i.toNatClampNeg < ln M a := Nat.not_le.mp fun q => hin (Or.inr q)
      have h0 : ¬ i < 0 := fun q => hin (Or.inl q)
      rw [hk] at hA hKa
      have fin2 : ∀ H' : Heap, H'[gb G + a]? = some ((arrV (gA G k) (ln M a) (fun j => sv (gb G) (tg (aty k)) M a j)).setSlot i.toNatClampNeg (rv (gb G) x)) → H'.size = H.size → (∀ q : Nat, q ≠ gb G + a → H'[q]? = H[q]?) → W p (gL G) e (rm d (nc M9 - nc M0) (ns M9 - ns M0)) s m args below meth c H' (locs ++ [⟨gb G + a, i.toNatClampNeg⟩]) (nc M - nc M0) (ns M - ns M0) (MQ below (QcM G r M9) args s (nc M9 - nc M0) (ns M9 - ns M0) (fun q => gb G ≤ q)) (F0 m (pc + 1) ls (st.map (tv (gb G)))) := by
        intro H' e1 hz ho
        refine k1.2 h1 h2 p e s m args below meth c H' _ ls C ?_ (locs_app hL) hl
        refine hR.upd (a := a) (by omega) hz ho rfl (fun _ => rfl) (fun _ => rfl) (fun p hp t i => by rw [sv_sr, if_neg (fun hh => hp hh.2.1)]) ⟨fun hh => absurd (show kd M a < 12 from hh) (by omega), fun hh => ?_⟩
        show H'[gb G + a]? = some (arrV (gA G (kd M a)) (ln M a) (fun j => sv (gb G) (tg (aty (kd M a))) (sr M a i.toNatClampNeg x) a j))
        rw [hk, e1, arrV_store]
        congr 2
        funext j
        rw [sv_sr]
        unfold updV
        by_cases hij : j = i.toNatClampNeg
        · subst hij; rw [if_pos rfl, if_pos ⟨by rw [aty_tg h25]; exact Nat.le_refl 2, rfl, rfl⟩]
        · rw [if_neg hij, if_neg (fun hh => hij hh.2.2)]
      cases x with
      | none =>
        have hArr := hKa.1 (ln M a) (fun j => sv (gb G) (tg (aty k)) M a j)
        exact va_WaastN (C := C0) C.1 C.2.1 hA (hty ▸ hArr) (fun q => by cases q) (by show ¬ (i < 0 ∨ (arrV _ _ _).slots.size ≤ _); rw [arrV_size]; exact hin) rfl rfl hd fin2
      | some v =>
        have hv : kd M v = acm k := by simpa [okRd] using hok
        obtain ⟨hc, hk12, hN, hin', hty', hnm, hnf⟩ := hC
        have hO := (hR.2.2 v (by omega)).2.1 (by omega)
        rw [hv] at hO
        obtain ⟨cellV, g1, g2, g3, -⟩ := hO
        have hcls := (C.2.2.2.2.2.1.1 _ _ hc).2
        have h7 := hKa.2
        rw [hty] at h7
        obtain ⟨kA, comp, t1, t2, t3, -⟩ := h7
        have hcomp : comp = (gD G).1 (acm k) := Option.some.inj (t3.symm.trans hcls.1)
        subst hcomp
        obtain ⟨kC, hkC, -⟩ := hcls.2
        exact W.aast C.1 C.2.1 hA (fun q h => by cases h) (fun h => by cases h) t1 t2 rfl hkC ⟨h0, by show _ < (arrV _ _ _).slots.size; rw [arrV_size]; exact hlt⟩ g1 (fun q h => by rw [g3] at h; cases h) (by rw [g2]; exact hkC) (by rw [g2]; exact va_assign hcls) rfl rfl hd fin2
    · rw [if_neg hk] at h; cases h
theorem V.ldc2 {x : Int64} (hd : decode Y.2.1 pc = .ok (.ldc2_w idx, 3)) (hw : Cond.constantLong Y.1.cls idx x ∈ WT) (hq : pc + 3 = q) (k : V G Y d M0 r M9 M q lv (vL x :: st)) : V G Y d M0 r M9 M pc lv st := by
  subst hq
  refine ⟨k.1, fun h1 h2 p e s m args below meth c H locs ls C hR hL hl => ?_⟩
  exact W.ldc2 C.1 C.2.1 C.2.2.2.1 (C.2.2.2.2.1 _ (WT_in hw)) rfl hd (k.2 h1 h2 p e s m args below meth c H locs ls C hR hL hl)
theorem V.ldc {x : Int32} (hd : decode Y.2.1 pc = .ok (.ldc idx, 2)) (hw : Cond.constant Y.1.cls idx x ∈ WT) (hq : pc + 2 = q) (k : V G Y d M0 r M9 M q lv (vI x :: st)) : V G Y d M0 r M9 M pc lv st := by
  subst hq
  refine ⟨k.1, fun h1 h2 p e s m args below meth c H locs ls C hR hL hl => ?_⟩
  exact W.ldc C.1 C.2.1 C.2.2.2.1 (C.2.2.2.2.1 _ (WT_in hw)) rfl hd (k.2 h1 h2 p e s m args below meth c H locs ls C hR hL hl)
theorem V.objInit (hd : decode Y.2.1 pc = .ok (.invokespecial idx, 3)) (hl1 : Cond.methodLink Y.1.cls idx Lib.objectInit ∈ WT) (hl2 : Cond.instanceMethod Lib.objectInit ∈ WT) (hl3 : Cond.code Lib.objectInit ⟨#[0xb1]⟩ 1 none ∈ WT) (hd1 : 1 ≤ d) (hq : pc + 3 = q) (k : V G Y d M0 r M9 M q lv []) : V G Y d M0 r M9 M pc lv [vR (some j)] := by
  subst hq
  refine ⟨k.1, fun h1 h2 p e s m args below meth c H locs ls C hR hL hl => ?_⟩
  exact W.objInit C.1 C.2.1 C.2.2.2.1 (C.2.2.2.2.1 _ (WT_in hl1)) (C.2.2.2.2.1 _ (WT_in hl2)) (C.2.2.2.2.1 _ (WT_in hl3)) rfl (by rw [C.2.2.1]; exact hl.1) rfl hd hd1 (by show 2 * 0 + 0 + 12 ≤ 64 * d; omega) (k.2 h1 h2 p e s m args below meth c H locs ls C hR hL hl)
-- returns
theorem V.iret {x x9 : Int32} (hd : decode Y.2.1 pc = .ok (.ireturn, 1)) (hr : Y.2.2.2 = some .int) (h : some (x, M) = some (x9, M9)) : V G Y d M0 (some (vI x9)) M9 M pc lv [vI x] := by
  cases h
  refine ⟨⟨Nat.le_refl _, Nat.le_refl _⟩, fun h1 h2 p e s m args below meth c H locs ls C hR hL hl => ?_⟩
  exact W.iret (v := x) C.1 C.2.1 (C.2.2.2.2.2.2.1.trans hr) (fun t ht hW => ⟨rfl, by rw [ht]; exact hR⟩) hL hd C.2.2.2.2.2.2.2.1
def bz (x : Int32) : Option Unit := if x = 0 ∨ x = 1 then some () else none
theorem V.zret {x x9 : Int32} (hd : decode Y.2.1 pc = .ok (.ireturn, 1)) (hr : Y.2.2.2 = some .boolean) (h : (bz x).bind (fun _ => some (x, M)) = some (x9, M9)) : V G Y d M0 (some (vI x9)) M9 M pc lv [vI x] := by
  unfold bz at h
  by_cases hx : x = 0 ∨ x = 1
  · rw [if_pos hx] at h
    cases h
    refine ⟨⟨Nat.le_refl _, Nat.le_refl _⟩, fun h1 h2 p e s m args below meth c H locs ls C hR hL hl => ?_⟩
    exact W.zret (v := x) (ty := .boolean) C.1 C.2.1 (C.2.2.2.2.2.2.1.trans hr) (by rcases hx with rfl | rfl <;> rfl) (fun t ht hW => ⟨rfl, by rw [ht]; exact hR⟩) hL hd C.2.2.2.2.2.2.2.1
  · rw [if_neg hx] at h; cases h
theorem V.lret {x x9 : Int64} (hd : decode Y.2.1 pc = .ok (.lreturn, 1)) (hr : Y.2.2.2 = some .long) (h : some (x, M) = some (x9, M9)) : V G Y d M0 (some (vL x9)) M9 M pc lv [vL x] := by
  cases h
  refine ⟨⟨Nat.le_refl _, Nat.le_refl _⟩, fun h1 h2 p e s m args below meth c H locs ls C hR hL hl => ?_⟩
  exact W.lret (v := x) C.1 C.2.1 (C.2.2.2.2.2.2.1.trans hr) (fun t ht hW => ⟨rfl, by rw [ht]; exact hR⟩) hL hd C.2.2.2.2.2.2.2.1
theorem V.aret {x x9 : Option Nat} {t : FieldType} (hd : decode Y.2.1 pc = .ok (.areturn, 1)) (hr : Y.2.2.2 = some t) (ht : (∃ n, t = .object n) ∨ ∃ u, t = .array u) (h : some (x, M) = some (x9, M9)) : V G Y d M0 (some (vR x9)) M9 M pc lv [vR x] := by
  cases h
  refine ⟨⟨Nat.le_refl _, Nat.le_refl _⟩, fun h1 h2 p e s m args below meth c H locs ls C hR hL hl => ?_⟩
  exact W.aret (v := rv (gb G) x) C.1 C.2.1 (C.2.2.2.2.2.2.1.trans hr) ht (rv_cases _ x) (fun t ht hW => ⟨rfl, by rw [ht]; exact hR⟩) hL hd C.2.2.2.2.2.2.2.1
theorem V.vret {x9 : Unit} (hd : decode Y.2.1 pc = .ok (.return_, 1)) (hr : Y.2.2.2 = none) (h : some ((), M) = some (x9, M9)) : V G Y d M0 none M9 M pc lv [] := by
  cases h
  refine ⟨⟨Nat.le_refl _, Nat.le_refl _⟩, fun h1 h2 p e s m args below meth c H locs ls C hR hL hl => ?_⟩
  exact W.vret C.1 C.2.1 (C.2.2.2.2.2.2.1.trans hr) (fun t ht hW => ⟨rfl, by rw [ht]; exact hR⟩) hL hd C.2.2.2.2.2.2.2.1
end VHeap
