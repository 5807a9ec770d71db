-- ===== heap reads and writes, as partial functions of the memory; what they are of the heap =====
def fI (M : Mem) (k j : Nat) (a : Option Nat) : Option Int32 := match a with
  | some q => if kd M q = k then some (gi M q j) else none
  | none => none
def fL (M : Mem) (k j : Nat) (a : Option Nat) : Option Int64 := match a with
  | some q => if kd M q = k then some (gl M q j) else none
  | none => none
def fR (M : Mem) (k j : Nat) (a : Option Nat) : Option (Option Nat) := match a with
  | some q => if kd M q = k then some (gr M q j) else none
  | none => none
def pI (M : Mem) (k j : Nat) (a : Option Nat) (x : Int32) : Option Mem := match a with
  | some q => if kd M q = k then some (si M q j x) else none
  | none => none
def pZ (M : Mem) (k j : Nat) (a : Option Nat) (x : Int32) : Option Mem := if x = 0 ∨ x = 1 then pI M k j a x else none
def pL (M : Mem) (k j : Nat) (a : Option Nat) (x : Int64) : Option Mem := match a with
  | some q => if kd M q = k then some (sl M q j x) else none
  | none => none
def pR (M : Mem) (k j : Nat) (a : Option Nat) (x : Option Nat) : Option Mem := match a with
  | some q => if kd M q = k then some (sr M q j x) else none
  | none => none
abbrev inb (i : Int32) (n : Nat) : Prop := ¬ (i < 0 ∨ n ≤ i.toNatClampNeg)
def aI (M : Mem) (k : Nat) (a : Option Nat) (i : Int32) : Option Int32 := match a with
  | some q => if kd M q = k ∧ inb i (ln M q) then some (gi M q i.toNatClampNeg) else none
  | none => none
def aL (M : Mem) (k : Nat) (a : Option Nat) (i : Int32) : Option Int64 := match a with
  | some q => if kd M q = k ∧ inb i (ln M q) then some (gl M q i.toNatClampNeg) else none
  | none => none
def aR (M : Mem) (k : Nat) (a : Option Nat) (i : Int32) : Option (Option Nat) := match a with
  | some q => if kd M q = k ∧ inb i (ln M q) then some (gr M q i.toNatClampNeg) else none
  | none => none
def uI (M : Mem) (k : Nat) (a : Option Nat) (i : Int32) (x : Int32) : Option Mem := match a with
  | some q => if kd M q = k ∧ inb i (ln M q) then some (si M q i.toNatClampNeg x) else none
  | none => none
/-- into an array of chars, bytes or booleans -/
def uN (M : Mem) (k : Nat) (a : Option Nat) (i : Int32) (x : Int32) : Option Mem := match a with
  | some q => if kd M q = k ∧ inb i (ln M q) then some (si M q i.toNatClampNeg (vp_nar (aty k) x)) else none
  | none => none
def uL (M : Mem) (k : Nat) (a : Option Nat) (i : Int32) (x : Int64) : Option Mem := match a with
  | some q => if kd M q = k ∧ inb i (ln M q) then some (sl M q i.toNatClampNeg x) else none
  | none => none
/-- is it of that kind (or null) -/
def okR (M : Mem) (k : Nat) (x : Option Nat) : Prop := match x with
  | some v => kd M v = k
  | none => True
def okRd (M : Mem) (k : Nat) (x : Option Nat) : Bool := match x with
  | some v => decide (kd M v = k)
  | none => true
theorem okRd_iff {M : Mem} {k : Nat} {x : Option Nat} : okRd M k x = true ↔ okR M k x := by
  cases x with
  | none => simp [okRd, okR]
  | some v => simp [okRd, okR]
def uR (M : Mem) (k : Nat) (a : Option Nat) (i : Int32) (x : Option Nat) : Option Mem := match a with
  | some q => if kd M q = k ∧ inb i (ln M q) ∧ okRd M (acm k) x = true then some (sr M q i.toNatClampNeg x) else none
  | none => none
def aN (M : Mem) (a : Option Nat) : Option Int32 := match a with
  | some q => if 20 ≤ kd M q ∧ kd M q < 29 then some (Int32.ofNat (ln M q)) else none
  | none => none
def ck (M : Mem) (k : Nat) (a : Option Nat) : Option Unit := match a with
  | some q => if kd M q = k then some () else none
  | none => none
def nA (M : Mem) (k : Nat) (n : Int32) : Option Mem := if n < 0 ∨ 1000000 < n.toNatClampNeg then none else some (nw M k n.toNatClampNeg n.toNatClampNeg)
section Sv
variable {b t : Nat} {M : Mem} {a j p i k n z : Nat} {x : Int32} {y : Int64} {u : Option Nat}
theorem sv_si : sv b t (si M a j x) p i = if t = 0 ∧ p = a ∧ i = j then .int x else sv b t M p i := by
  match t with
  | 0 => simp only [sv, gi_si, true_and]; split <;> rfl
  | 1 => rw [if_neg (by omega)]; rfl
  | t + 2 => rw [if_neg (by omega)]; rfl
theorem sv_sl : sv b t (sl M a j y) p i = if t = 1 ∧ p = a ∧ i = j then .long y else sv b t M p i := by
  match t with
  | 0 => rw [if_neg (by omega)]; rfl
  | 1 => simp only [sv, gl_sl, true_and]; split <;> rfl
  | t + 2 => rw [if_neg (by omega)]; rfl
theorem sv_sr : sv b t (sr M a j u) p i = if 2 ≤ t ∧ p = a ∧ i = j then rv b u else sv b t M p i := by
  match t with
  | 0 => rw [if_neg (by omega)]; rfl
  | 1 => rw [if_neg (by omega)]; rfl
  | t + 2 =>
    show rv b (gr (sr M a j u) p i) = _
    rw [gr_sr]
    by_cases h : p = a ∧ i = j
    · rw [if_pos h, if_pos ⟨by omega, h⟩]
    · rw [if_neg h, if_neg (fun e => h e.2)]; rfl
theorem sv_nw : sv b t (nw M k n z) p i = if p = nc M then (match t with | 0 => .int 0 | 1 => .long 0 | _ => .null) else sv b t M p i := by
  match t with
  | 0 => simp only [sv, gi_nw]; split <;> rfl
  | 1 => simp only [sv, gl_nw]; split <;> rfl
  | t + 2 =>
    show rv b (gr (nw M k n z) p i) = _
    rw [gr_nw]
    by_cases h : p = nc M
    · rw [if_pos h, if_pos h]; rfl
    · rw [if_neg h, if_neg h]; rfl
end Sv
/-- one cell by another memory, in another heap -/
theorem Cl.to {G : Gt} {M M' : Mem} {a : Nat} {H H' : Heap} (h : Cl G M a H) (hH : H'[gb G + a]? = H[gb G + a]?) (hk : kd M' a = kd M a) (hl : ln M' a = ln M a) (hs : ∀ t j, sv (gb G) t M' a j = sv (gb G) t M a j) : Cl G M' a H' := by
  constructor
  · intro h1
    rw [hk] at h1 ⊢
    refine (h.1 h1).kept hH |>.to (fun j _ => ?_)
    rw [hs]
  · intro h1
    rw [hk] at h1 ⊢
    rw [hH, h.2 h1, hl]
    congr 2
    funext j
    rw [hs]
theorem Rp.upd {G : Gt} {M M' : Mem} {H H' : Heap} {a : Nat} (hR : Rp G M H) (ha : kd M a < 29) (hz : H'.size = H.size) (ho : ∀ q : Nat, q ≠ gb G + a → H'[q]? = H[q]?) (hn : nc M' = nc M) (hk : ∀ p, kd M' p = kd M p) (hl : ∀ p, ln M' p = ln M p) (hs : ∀ p, p ≠ a → ∀ t j, sv (gb G) t M' p j = sv (gb G) t M p j) (hc : Cl G M' a H') : Rp G M' H' := by
  refine ⟨by rw [hz, hn]; exact hR.1, fun q hq => ?_, fun p hp => ?_⟩
  · rw [ho q (by omega)]; exact hR.2.1 q hq
  · rw [hk] at hp
    refine ⟨by rw [hn]; exact (hR.2.2 p hp).1, ?_⟩
    by_cases e : p = a
    · rw [e]; exact hc
    · exact (hR.2.2 p hp).2.to (ho _ (by omega)) (hk p) (hl p) (fun t j => hs p e t j)
theorem Rp.new {G : Gt} {M : Mem} {H H' : Heap} {k n z : Nat} (hR : Rp G M H) (hz : H'.size = H.size + 1) (ho : ∀ q : Nat, q < H.size → H'[q]? = H[q]?) (hc : Cl G (nw M k n z) (nc M) H') : Rp G (nw M k n z) H' := by
  refine ⟨by rw [hz, hR.1, nc_nw]; omega, fun q hq => ?_, fun p hp => ?_⟩
  · have := hR.1
    rw [ho q (by omega)]; exact hR.2.1 q hq
  · by_cases e : p = nc M
    · subst e; exact ⟨by rw [nc_nw]; omega, hc⟩
    · rw [kd_nw, if_neg e] at hp
      have h1 := hR.2.2 p hp
      have := hR.1
      refine ⟨by rw [nc_nw]; omega, h1.2.to (ho _ (by omega)) (by rw [kd_nw, if_neg e]) (by rw [ln_nw, if_neg e]) (fun t j => by rw [sv_nw, if_neg e])⟩
def nfd (t : FieldType) : Bool := match t with
  | .float => false
  | .double => false
  | _ => true
/-- the class of kind k, by its table -/
def Cls (k : Nat) (C : String) (T : u_T) (N : Nat) : Prop := vwCl[k]? = some (C, T, N) ∧ k < 12 ∧ nF k = N ∧ (∀ w ∈ u_ws C T N, w ∈ WT) ∧ (∀ i, i < N → parseFieldDescriptor (T i).2.2.1 = some (tyF k i)) ∧ (∀ a, a < N → ∀ b, b < N → a ≠ b → (T a).2.1 ≠ (T b).2.1) ∧ ∀ i, i < N → nfd (tyF k i) = true
/-- pool index idx of the class own is field j of kind k; w: 1 it isn't final, 2 it is final and the class's own -/
def Lk (own : String) (idx k j w : Nat) : Prop := ∃ (C : String) (T : u_T) (N : Nat), Cls k C T N ∧ j < N ∧ Cond.fieldLink own idx (T j).1 (T j).2.1 (T j).2.2.1 ∈ WT ∧ (w = 1 → (T j).2.2.2 = false) ∧ (w = 2 → (T j).2.2.2 = true ∧ (T j).1 = own)
theorem WT_in {w : Cond} (h : w ∈ WT) : w ∈ WT := h
section WHeap
variable {G : Gt} {Y : MI} {p : Program} {e : Env} {R : Room} {s : State} {m : MethodId} {args : Array Value} {below : List Frame} {meth : Method} {c : Code} {H : Heap} {locs : List Loc} {cells slots : Nat} {Q : State → Prop} {M : Mem} {pc : Nat} {ls : Array Slot} {rest : List Value} {k j idx a : Nat}
theorem Wget {f : Nat} (C : Cx G Y p s m args meth c) (hR : Rp G M H) (L : Lk Y.1.cls idx k j f) (hk : kd M a = k) (hdg : decode Y.2.1 pc = .ok (.getfield idx, 3))
    (kk : W p (gL G) e R s m args below meth c H locs cells slots Q (F0 m (pc + 3) ls (sv (gb G) (tg (tyF k j)) M a j :: rest))) : W p (gL G) e R s m args below meth c H locs cells slots Q (F0 m pc ls (.ref (gb G + a) :: rest)) := by
  obtain ⟨CC, T, N, ⟨hc, hk12, hN, hin, hty, hnm, hnf⟩, hj, hlk, -, -⟩ := L
  obtain ⟨hx, hb, hml, hown, hts, hK, -⟩ := C
  subst hk
  have hO := (hR.2.2 a (by omega)).2.1 hk12
  rw [hN] at hO
  obtain ⟨cell, q1, q2, q3, q4⟩ := hO
  obtain ⟨hS, hfc, kC, hkC, hkind⟩ := hK.1 _ _ hc
  obtain ⟨cf, kf, fi, fd, hi, hsl⟩ := hS j hj
  have hts' : ∀ w ∈ WT, w.before args s = true := fun w h => hts w (WT_in h)
  refine W.getf hx hb hown (hts' _ hlk) hi (u_facts hfc hkC (u_lays hts' hin hj) hi).1 q1 (by rw [q3]; exact fun h => by cases h) (v := sv (gb G) (tg (tyF (kd M a) j)) M a j) ?_ rfl rfl hdg kk
  rw [hsl, q4 j hj]
theorem Wput (C : Cx G Y p s m args meth c) (hR : Rp G M H) (hL : ∀ q ∈ locs, gb G ≤ q.base) {f : Nat} (L : Lk Y.1.cls idx k j f) (hf : f = 1 ∨ f = 2 ∧ Y.1.name = "<init>") (hk : kd M a = k) {v : Value} (hnar : narrow (tyF k j) v = v) (hfit : fits (tyF k j) v = true) (hdg : decode Y.2.1 pc = .ok (.putfield idx, 3))
    (kk : ∀ (H' : Heap) (locs' : List Loc), (∀ q ∈ locs', gb G ≤ q.base) → t_OB (gb G + a) ((gD G).1 k) (nF k) ((gD G).2 k) H' (updV (fun i => sv (gb G) (tg (tyF k i)) M a i) j v) → H'.size = H.size → (∀ q : Nat, q ≠ gb G + a → H'[q]? = H[q]?) → W p (gL G) e R s m args below meth c H' locs' cells slots Q (F0 m (pc + 3) ls rest)) : W p (gL G) e R s m args below meth c H locs cells slots Q (F0 m pc ls (v :: .ref (gb G + a) :: rest)) := by
  obtain ⟨CC, T, N, ⟨hc, hk12, hN, hin, hty, hnm, hnf⟩, hj, hlk, hfin1, hfin2⟩ := L
  obtain ⟨hx, hb, hml, hown, hts, hK, -, -, hname⟩ := C
  subst hk
  have hO := (hR.2.2 a (by omega)).2.1 hk12
  rw [hN] at hO
  obtain ⟨cell, q1, q2, q3, q4⟩ := hO
  obtain ⟨hS, hfc, kC, hkC, hkind⟩ := hK.1 _ _ hc
  obtain ⟨cf, kf, fi, fd, hi, hsl⟩ := hS j hj
  have hts' : ∀ w ∈ WT, w.before args s = true := fun w h => hts w (WT_in h)
  have hap : ∀ x y, x < N → y < N → x ≠ y → (gD G).2 (kd M a) x ≠ (gD G).2 (kd M a) y := by
    intro x y hx1 hy1 hne
    obtain ⟨_, _, _, fa, hia, ea⟩ := hS x hx1
    obtain ⟨_, _, _, fb, hib, eb⟩ := hS y hy1
    rw [← ea, ← eb]
    refine u_apart (u_lays hts' hin hx1) (u_lays hts' hin hy1) hia hib ?_
    rw [(State.fieldFound?_type hia (hty x hx1)).1, (State.fieldFound?_type hib (hty y hy1)).1]
    exact hnm x hx1 y hy1 hne
  have hst := (u_facts hfc hkC (u_lays hts' hin hj) hi).1
  have hlay := hts' _ (hin _ (u_in_lay hj))
  unfold u_lay at hlay
  have fin2 : ∀ (H' : Heap), H'[gb G + a]? = some (cell.setSlot fd.slot v) → H'.size = H.size → (∀ q : Nat, q ≠ gb G + a → H'[q]? = H[q]?) → W p (gL G) e R s m args below meth c H' (locs ++ [⟨gb G + a, fd.slot⟩]) cells slots Q (F0 m (pc + 3) ls rest) := by
    intro H' e1 e2 e3
    rw [hsl] at e1 ⊢
    refine kk H' _ (fun q hq => ?_) ?_ e2 e3
    · rcases List.mem_append.mp hq with h | h
      · exact hL q h
      · rw [List.mem_singleton.mp h]; exact Nat.le_add_right _ _
    · rw [hN]
      exact ⟨_, e1, q2, q3, t_set q4 hap hj v⟩
  rcases hf with hf | ⟨hf, hini⟩
  · have hfin := hfin1 hf
    rw [if_neg (by rw [hfin]; decide)] at hlay
    have h6 := u_store hfc hkC hkind hlay hi (hty j hj) hnar hfit
    exact W.putK hx hb (f := fd) ⟨hown, hts' _ hlk, ⟨_, _, _, hi⟩, hst⟩ (by rw [q2]; exact h6) q1 q3 (by rw [hsl]; exact k2_hasslot (q4 j hj)) rfl rfl hdg fin2
  · obtain ⟨hfin, hdecl⟩ := hfin2 hf
    rw [if_pos hfin] at hlay
    have hcf : m.cls = cf := by
      obtain ⟨_, _, c', _, _, _, -, -, hf', -, -, -, hown2, -⟩ := Cond.laysFinal_spec hlay
      have e1 : c' = cf := by have := hi.symm.trans hf'; simp at this; exact this.1.symm
      rw [hdecl] at hown2
      rw [← e1]; exact Option.some.inj (hown.symm.trans hown2)
    have h6 := u_fits hfc hkC hkind (Or.inr hlay) hi (hty j hj) hnar hfit
    exact W.putFinK hx hb hown (hts' _ hlk) hi hst hcf (hname hini) (by rw [q2]; exact h6) q1 q3 (by rw [hsl]; exact k2_hasslot (q4 j hj)) rfl rfl hdg fin2
end WHeap
