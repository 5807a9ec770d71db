-- needs: 74.sclsb 75.num 76.rel 77.cong 78.sim 79.qa
def byt (v : Int32) (sh : Nat) : BitVec 8 := v.toBitVec.extractLsb' sh 8
theorem byt_r (B : BitVec 8) : vp_nar (aty 23) ((Int8.ofBitVec B).toInt32) = byR B.toNat := by
  have : ∀ k : Fin 256, vp_nar (aty 23) ((Int8.ofBitVec (BitVec.ofNat 8 k.val)).toInt32) = byR k.val := by decide +kernel
  have e := this ⟨B.toNat, B.isLt⟩
  rw [show BitVec.ofNat 8 B.toNat = B by simp] at e
  exact e
theorem byt_c (B : BitVec 8) : vp_nar (aty 22) (((ni B.toNat).toUInt32 % 65536).toInt32) = ni B.toNat := by
  have : ∀ k : Fin 256, vp_nar (aty 22) (((ni k.val).toUInt32 % 65536).toInt32) = ni k.val := by decide +kernel
  exact this ⟨B.toNat, B.isLt⟩
theorem byt_sr {v : Int32} {sh : Nat} (h : sh ≤ 24) : (v >>> (ni sh &&& 31)).toInt8 = Int8.ofBitVec (byt v sh) := by
  rw [sh31 (by omega)]
  have e : (v >>> ni sh).toBitVec = v.toBitVec.sshiftRight sh := by
    show (v.toBitVec.sshiftRight' ((ni sh).toBitVec.smod 32)) = _
    rw [BitVec.sshiftRight']
    congr 1
    have : ∀ k : Fin 32, (BitVec.smod (ni k.val).toBitVec 32).toNat = k.val := by decide
    exact this ⟨sh, by omega⟩
  show Int8.ofBitVec ((v >>> ni sh).toBitVec.signExtend 8) = _
  rw [e, BitVec.signExtend_eq_setWidth_of_le _ (by decide)]
  congr 1
  apply BitVec.eq_of_getLsbD_eq
  intro i hi
  unfold byt
  rw [BitVec.getLsbD_setWidth, BitVec.getLsbD_sshiftRight, BitVec.getLsbD_extractLsb']
  have h1 : sh + i < 32 := by omega
  have h2 : ¬ 32 ≤ i := by omega
  simp [hi, h1, h2]
theorem byt_ur {v : Int32} {sh : Nat} (h : sh ≤ 24) : ((v.toUInt32 >>> ((ni sh).toUInt32 &&& Int32.toUInt32 31)).toInt32 &&& 255) = ni (byt v sh).toNat := by
  have hs : ((ni sh).toUInt32 &&& Int32.toUInt32 31).toBitVec = BitVec.ofNat 32 sh := by
    have : ∀ k : Fin 32, ((ni k.val).toUInt32 &&& Int32.toUInt32 31).toBitVec = BitVec.ofNat 32 k.val := by decide
    exact this ⟨sh, by omega⟩
  apply Int32.toBitVec_inj.mp
  have e : ((v.toUInt32 >>> ((ni sh).toUInt32 &&& Int32.toUInt32 31)).toInt32 &&& 255).toBitVec = (v.toBitVec >>> sh) &&& 255#32 := by
    rw [Int32.toBitVec_and]
    show (v.toBitVec >>> (((ni sh).toUInt32 &&& Int32.toUInt32 31).toBitVec % 32)) &&& 255#32 = _
    rw [hs]
    congr 1
    show v.toBitVec >>> (BitVec.ofNat 32 sh % 32#32).toNat = _
    rw [BitVec.toNat_umod, BitVec.toNat_ofNat]
    congr 1
    show sh % 2 ^ 32 % 32 = sh
    omega
  rw [e]
  show _ = BitVec.ofNat 32 (byt v sh).toNat
  apply BitVec.eq_of_toNat_eq
  rw [BitVec.toNat_and, BitVec.toNat_ushiftRight, BitVec.toNat_ofNat, BitVec.toNat_ofNat]
  unfold byt
  rw [BitVec.extractLsb'_toNat]
  rw [show 255 % 2 ^ 32 = 2 ^ 8 - 1 by decide, Nat.and_two_pow_sub_one_eq_mod]
  have : v.toBitVec.toNat >>> sh % 2 ^ 8 < 2 ^ 8 := Nat.mod_lt _ (by decide)
  omega
-- ===== calls that write a little =====
/-- s is a sheet that is kept -/
def Shs (A : Mem) (s : Nat) : Prop := ∃ y, y < 30 ∧ (gr A 19 y = some s ∨ gr A (21 + 4 * y) 0 = some s)
theorem shs_ge {N : Nat} {A B : Mem} {s : Nat} (h : Sim N A B) (g : Shs A s) : 231 ≤ s ∧ s + 10 ≤ nc A := by
  obtain ⟨h1, h2, h3, h4, h5, h6, h7, -⟩ := h
  obtain ⟨y, hy, e | e⟩ := g
  · exact shr_ge (h6 y hy) e
  · exact shr_ge (h7 y hy).1 e
theorem sim_of {N : Nat} {A A' B B' : Mem} (h : Sim N A B) (fA : FSC A') (fB : FSR B') (hn : nc A ≤ nc A') (kA : ∀ a, 18 ≤ a → a < 141 → Sm a A A') (kS : ∀ s, Shs A s → KpS s A A') (k6 : gl A' 6 = gl A 6)
    (kB : ∀ a, 183 ≤ a → a < 219 → Sm a B B') (e59 : gi B' 181 59 = gi B 181 59) (e64 : gi B' 181 64 = gi B 181 64) (e63 : gi B' 181 63 = gi B 181 63)
    (tp : SmTp A' B') (ft : SmFt A' B') (st : SmSt A' B' (N + 1)) (vy : SmVy A' B') (bk : SmBk A' B') : Sim (N + 1) A' B' := by
  obtain ⟨h1, h2, h3, h4, h5, h6, h7, h8, h9, h10, h11, h12, h13, h14, h15⟩ := h
  have kH : KpH A A' := ⟨fun y hy => by rw [(kA 19 (by omega) (by omega)).r], fun y s hy hs => kS s ⟨y, hy, Or.inl hs⟩⟩
  have kT : KpT A A' := ⟨fun y hy => by rw [(kA (21 + 4 * y) (by omega) (by omega)).r], fun y s hy hs => kS s ⟨y, hy, Or.inr hs⟩⟩
  have kR : KpR B B' := fun a h1 h2 => kB a (by omega) (by omega)
  have kM : ∀ y, y < 30 → gi A' (22 + 4 * y) = gi A (22 + 4 * y) ∧ gl A' (23 + 4 * y) = gl A (23 + 4 * y) := fun y hy => ⟨(kA _ (by omega) (by omega)).i, (kA _ (by omega) (by omega)).j⟩
  refine ⟨fA, fB, tp, ?_, ft, smSh_cg h6 kH hn kR, smCl_cg h7 kT hn kR (fun y hy => (kA _ (by omega) (by omega)).i) (fun y hy => (kA _ (by omega) (by omega)).j) (kB _ (by omega) (by omega)).i (kB _ (by omega) (by omega)).i (kB _ (by omega) (by omega)).i (kB _ (by omega) (by omega)).i (kB _ (by omega) (by omega)).j, smCh_cg h8 kH.1 kT.1 (by rw [(kA 18 (by omega) (by omega)).i]) (kB _ (by omega) (by omega)).i, ?_, cnA_cg h10 kT kM, cnB_cg h11 kT kM e64 e59 (kB _ (by omega) (by omega)).i (kB _ (by omega) (by omega)).j, st, vy, bk, e63.trans h15⟩
  · unfold SmWd at h4 ⊢; rw [k6, (kB 183 (by omega) (by omega)).j]; exact h4
  · obtain ⟨e, he, h9⟩ := h9
    refine ⟨e, by omega, ?_⟩
    rw [(kA 18 (by omega) (by omega)).i, e59, e64]; exact h9
theorem smSt_mono {A B A' B' : Mem} {N : Nat} (h : SmSt A B N) (e1 : gi A' 144 8 = gi A 144 8) (e2 : gi A' 179 = gi A 179) (e3 : gi B' 181 66 = gi B 181 66) (e4 : gi B' 220 = gi B 220) : SmSt A' B' (N + 1) := by
  obtain ⟨n, hn, h⟩ := h
  refine ⟨n, by omega, ?_⟩
  rw [e1, e2, e3, e4]; exact h
/-- bytes written one after another -/
def wrA : Mem → Nat → List Nat → Mem
  | A, _, [] => A
  | A, n, b :: bs => wrA (si (si A 2 n (ni b)) 1 1 (ni (n + 1))) (n + 1) bs
def wrB : Mem → Nat → List Nat → Mem
  | A, _, [] => A
  | A, n, b :: bs => wrB (si (si A 182 n (byR b)) 181 1 (ni (n + 1))) (n + 1) bs
def TpR (n : Nat) (A B : Mem) : Prop := gi A 1 1 = ni n ∧ gi B 181 1 = ni n ∧ ∀ k, k < n → ∃ b, b < 256 ∧ gi A 2 k = ni b ∧ gi B 182 k = byR b
theorem wr_tp : ∀ {bs : List Nat} {A B : Mem} {n : Nat}, TpR n A B → (∀ b ∈ bs, b < 256) → TpR (n + bs.length) (wrA A n bs) (wrB B n bs) := by
  intro bs
  induction bs with
  | nil => intro A B n h _; exact h
  | cons b bs ih =>
    intro A B n h hb
    unfold wrA wrB
    have := ih (A := si (si A 2 n (ni b)) 1 1 (ni (n + 1))) (B := si (si B 182 n (byR b)) 181 1 (ni (n + 1))) (n := n + 1) ?_ (fun c hc => hb c (List.mem_cons_of_mem _ hc))
    · rw [List.length_cons, show n + (bs.length + 1) = n + 1 + bs.length by omega]; exact this
    · refine ⟨by simp [gi_si], by simp [gi_si], fun k hk => ?_⟩
      simp only [gi_si]
      by_cases e : k = n
      · subst e
        exact ⟨b, hb b (List.mem_cons_self ..), by simp, by simp⟩
      · obtain ⟨c, h1, h2, h3⟩ := h.2.2 k (by omega)
        exact ⟨c, h1, by simp [e, h2], by simp [e, h3]⟩
theorem wrA_sm {a : Nat} (h1 : a ≠ 1) (h2 : a ≠ 2) : ∀ {bs : List Nat} {A : Mem} {n : Nat}, Sm a A (wrA A n bs) := by
  intro bs
  induction bs with
  | nil => intro A n; exact Sm.rf
  | cons b bs ih => intro A n; exact ((sm_si h2).trans (sm_si h1)).trans ih
theorem wrB_sm {a : Nat} (h1 : a ≠ 181) (h2 : a ≠ 182) : ∀ {bs : List Nat} {A : Mem} {n : Nat}, Sm a A (wrB A n bs) := by
  intro bs
  induction bs with
  | nil => intro A n; exact Sm.rf
  | cons b bs ih => intro A n; exact ((sm_si h2).trans (sm_si h1)).trans ih
theorem wrB_f {j : Nat} (h : j ≠ 1) : ∀ {bs : List Nat} {A : Mem} {n : Nat}, gi (wrB A n bs) 181 j = gi A 181 j := by
  intro bs
  induction bs with
  | nil => intro A n; rfl
  | cons b bs ih => intro A n; unfold wrB; rw [ih]; simp [gi_si, h]
theorem wrA_kc : ∀ {bs : List Nat} {A : Mem} {n : Nat}, KC A (wrA A n bs) ∧ nc (wrA A n bs) = nc A ∧ ns (wrA A n bs) = ns A := by
  intro bs
  induction bs with
  | nil => intro A n; exact ⟨KC.rf, rfl, rfl⟩
  | cons b bs ih =>
    intro A n
    have := @ih (si (si A 2 n (ni b)) 1 1 (ni (n + 1))) (n + 1)
    exact ⟨(kc_si.trans kc_si).trans this.1, this.2⟩
theorem wrB_kg : ∀ {bs : List Nat} {A : Mem} {n : Nat}, KG A (wrB A n bs) := by
  intro bs
  induction bs with
  | nil => intro A n; exact KG.rf
  | cons b bs ih => intro A n; exact KG.trans ⟨rfl, rfl, rfl⟩ ih
theorem wrA_app : ∀ {bs cs : List Nat} {A : Mem} {n : Nat}, wrA (wrA A n bs) (n + bs.length) cs = wrA A n (bs ++ cs) := by
  intro bs
  induction bs with
  | nil => intro cs A n; rfl
  | cons b bs ih =>
    intro cs A n
    rw [List.length_cons, show n + (bs.length + 1) = n + 1 + bs.length by omega]
    exact ih
theorem wrA_sz : ∀ {bs : List Nat} {A : Mem} {n : Nat}, gi A 1 1 = ni n → gi (wrA A n bs) 1 1 = ni (n + bs.length) := by
  intro bs
  induction bs with
  | nil => intro A n h; exact h
  | cons b bs ih =>
    intro A n h
    rw [List.length_cons, show n + (bs.length + 1) = n + 1 + bs.length by omega]
    exact ih (by simp [gi_si])
theorem put_it {f n sh : Nat} {v : Int32} {A : Mem} (h : gi A 1 1 = ni n) (hn : n < 900) (hs : sh ≤ 24) :
    SJ_X7_put_3 (f + 1) v (ni sh) A = SJ_X7_put_3 f v (ni sh + (-8)) (si (si A 2 n (ni (byt v sh).toNat)) 1 1 (ni (n + 1))) := by
  rw [SJ_X7_put_3]
  dsimp only
  rw [if_neg (ni_n0 (by omega)), h, if_neg (show ¬ (900 : Int32) ≤ ni n from fun e => by have := (ni_le (a := 900) (by omega) (by omega)).mp e; omega), gdT ((ni_inb (by omega)).mpr hn), byt_ur hs, byt_c, ni_tn (by omega)]
  rw [show gi (si A 2 n (ni (byt v sh).toNat)) 1 1 = gi A 1 1 by simp [gi_si], h, show ni n + 1 = ni (n + 1) from ni_add n 1]
def by4 (v : Int32) : List Nat := [(byt v 24).toNat, (byt v 16).toNat, (byt v 8).toNat, (byt v 0).toNat]
theorem by4_lt {v : Int32} : ∀ b ∈ by4 v, b < 256 := by
  intro b hb
  unfold by4 at hb
  simp only [List.mem_cons, List.not_mem_nil, or_false] at hb
  rcases hb with rfl | rfl | rfl | rfl <;> exact BitVec.isLt _
theorem put_eq {n : Nat} {v : Int32} {A : Mem} (h : gi A 1 1 = ni n) (hn : n + 4 ≤ 900) : S_X7_put v A = some ((), wrA A n (by4 v)) := by
  unfold S_X7_put
  rw [show FU = 3999995 + 1 + 1 + 1 + 1 + 1 from rfl, show (24 : Int32) = ni 24 from rfl, put_it h (by omega) (by omega), show ni 24 + (-8) = ni 16 by decide, put_it (n := n + 1) (by simp [gi_si]) (by omega) (by omega), show ni 16 + (-8) = ni 8 by decide, put_it (n := n + 2) (by simp [gi_si]) (by omega) (by omega), show ni 8 + (-8) = ni 0 by decide, put_it (n := n + 3) (by simp [gi_si]) (by omega) (by omega)]
  rw [SJ_X7_put_3]
  dsimp only
  rw [if_pos (by decide)]
  rfl
def sel5 (a b c d e : Int32) (i : Nat) : Int32 := if i < 4 then a else if i < 8 then b else if i < 12 then c else if i < 16 then d else e
theorem feed_it {f n i : Nat} {a b c d e : Int32} {B : Mem} (h : gi B 181 1 = ni n) (hn : n < 900) (hi : i < 20) :
    SJ_X11_feed_18 (f + 1) a b c d e (ni i) B = SJ_X11_feed_18 f a b c d e (ni (i + 1)) (si (si B 182 n (byR (byt (sel5 a b c d e i) (24 - 8 * (i % 4))).toNat)) 181 1 (ni (n + 1))) := by
  have key : ∀ w : Int32, SJ_X11_feed_71 (SJ_X11_feed_18 f) a b c d e (ni i) w B = SJ_X11_feed_18 f a b c d e (ni (i + 1)) (si (si B 182 n (byR (byt w (24 - 8 * (i % 4))).toNat)) 181 1 (ni (n + 1))) := by
    intro w
    unfold SJ_X11_feed_71
    have e1 : ((24 : Int32) - ((8 : Int32) * (ni i - ni i / (4 : Int32) * (4 : Int32)))) = ni (24 - 8 * (i % 4)) := by
      have : ∀ i : Fin 20, ((24 : Int32) - ((8 : Int32) * (ni i.val - ni i.val / (4 : Int32) * (4 : Int32)))) = ni (24 - 8 * (i.val % 4)) := by decide +kernel
      exact this ⟨i, hi⟩
    rw [h, e1, byt_sr (by omega), byt_r, gdT ((ni_inb (by omega)).mpr hn), ni_tn (by omega)]
    rw [show gi (si B 182 n (byR (byt w (24 - 8 * (i % 4))).toNat)) 181 1 = gi B 181 1 by simp [gi_si], h, show ni n + 1 = ni (n + 1) from ni_add n 1, show ni i + 1 = ni (i + 1) from ni_add i 1]
  have c1 : ∀ m, m < 2147483648 → (ni m ≤ ni i ↔ m ≤ i) := fun m hm => ni_le hm (by omega)
  rw [SJ_X11_feed_18]
  dsimp only
  rw [key, key, key, key, key]
  unfold sel5
  rw [if_neg (show ¬ (20 : Int32) ≤ ni i from fun e => by have := (c1 20 (by omega)).mp e; omega)]
  by_cases h4 : 4 ≤ i
  · rw [if_pos (show (4 : Int32) ≤ ni i from (c1 4 (by omega)).mpr h4), if_neg (show ¬ i < 4 by omega)]
    by_cases h8 : 8 ≤ i
    · rw [if_pos (show (8 : Int32) ≤ ni i from (c1 8 (by omega)).mpr h8), if_neg (show ¬ i < 8 by omega)]
      by_cases h12 : 12 ≤ i
      · rw [if_pos (show (12 : Int32) ≤ ni i from (c1 12 (by omega)).mpr h12), if_neg (show ¬ i < 12 by omega)]
        by_cases h16 : 16 ≤ i
        · rw [if_pos (show (16 : Int32) ≤ ni i from (c1 16 (by omega)).mpr h16), if_neg (show ¬ i < 16 by omega)]
        · rw [if_neg (show ¬ (16 : Int32) ≤ ni i from fun e => h16 ((c1 16 (by omega)).mp e)), if_pos (show i < 16 by omega)]
      · rw [if_neg (show ¬ (12 : Int32) ≤ ni i from fun e => h12 ((c1 12 (by omega)).mp e)), if_pos (show i < 12 by omega)]
    · rw [if_neg (show ¬ (8 : Int32) ≤ ni i from fun e => h8 ((c1 8 (by omega)).mp e)), if_pos (show i < 8 by omega)]
  · rw [if_neg (show ¬ (4 : Int32) ≤ ni i from fun e => h4 ((c1 4 (by omega)).mp e)), if_pos (show i < 4 by omega)]
theorem feed_its {a b c d e : Int32} : ∀ (m : Nat) {f n i : Nat} {B : Mem}, gi B 181 1 = ni n → n + m ≤ 900 → i + m = 20 → m < f →
    SJ_X11_feed_18 f a b c d e (ni i) B = some (ni (n + m), wrB B n ((List.range' i m).map fun i => (byt (sel5 a b c d e i) (24 - 8 * (i % 4))).toNat)) := by
  intro m
  induction m with
  | zero =>
    intro f n i B h _ hi hf
    obtain ⟨f, rfl⟩ : ∃ g, f = g + 1 := ⟨f - 1, by omega⟩
    rw [SJ_X11_feed_18]
    dsimp only
    rw [if_pos (show (20 : Int32) ≤ ni i from (ni_le (a := 20) (by omega) (by omega)).mpr (by omega)), h]; rfl
  | succ m ih =>
    intro f n i B h hn hi hf
    obtain ⟨f, rfl⟩ : ∃ g, f = g + 1 := ⟨f - 1, by omega⟩
    rw [feed_it h (by omega) (by omega), ih (n := n + 1) (by simp [gi_si]) (by omega) (by omega) (by omega), show n + 1 + m = n + (m + 1) by omega, List.range'_succ]
    rfl
theorem feedR {a b c d e : Int32} {n : Nat} {B : Mem} (h : gi B 181 1 = ni n) (hn : n + 20 ≤ 900) : S_X11_feed a b c d e B = some (ni (n + 20), wrB B n (by4 a ++ by4 b ++ by4 c ++ by4 d ++ by4 e)) := by
  unfold S_X11_feed
  rw [h, show ni n + 20 = ni (n + 20) from ni_add n 20, if_pos (show ni (n + 20) ≤ (900 : Int32) from (ni_le (b := 900) (by omega) (by omega)).mpr hn), show (0 : Int32) = ni 0 from rfl, feed_its 20 h hn rfl (by decide)]
  rfl
theorem feedC {a b c d e : Int32} {n : Nat} {A : Mem} (h : gi A 1 1 = ni n) (hn : n + 20 ≤ 900) : S_X10_feed a b c d e A = some (ni (n + 20), wrA A n (by4 a ++ by4 b ++ by4 c ++ by4 d ++ by4 e)) := by
  unfold S_X10_feed
  rw [h, show ni n + 20 = ni (n + 20) from ni_add n 20, if_pos (show ni (n + 20) ≤ (900 : Int32) from (ni_le (b := 900) (by omega) (by omega)).mpr hn)]
  rw [put_eq h (by omega), bS]
  have e1 : gi (wrA A n (by4 a)) 1 1 = ni (n + 4) := wrA_sz h
  rw [put_eq e1 (by omega), bS]
  have e2 := wrA_sz (bs := by4 b) e1
  rw [show n + 4 + (by4 b).length = n + 8 from rfl] at e2
  rw [put_eq e2 (by omega), bS]
  have e3 := wrA_sz (bs := by4 c) e2
  rw [show n + 8 + (by4 c).length = n + 12 from rfl] at e3
  rw [put_eq e3 (by omega), bS]
  have e4 := wrA_sz (bs := by4 d) e3
  rw [show n + 12 + (by4 d).length = n + 16 from rfl] at e4
  rw [put_eq e4 (by omega), bS]
  have e5 := wrA_sz (bs := by4 e) e4
  rw [show n + 16 + (by4 e).length = n + 20 from rfl] at e5
  dsimp only
  rw [e5]
  refine congrArg some (congrArg (Prod.mk _) ?_)
  rw [show n + 4 = n + (by4 a).length from rfl, wrA_app, show n + 8 = n + (by4 a ++ by4 b).length from rfl, wrA_app, show n + 12 = n + (by4 a ++ by4 b ++ by4 c).length from rfl, wrA_app, show n + 16 = n + (by4 a ++ by4 b ++ by4 c ++ by4 d).length from rfl, wrA_app]
theorem kpv_of {N : Nat} {A A' B : Mem} (h : Sim N A B) (e0 : gi A' 0 6 = gi A 0 6) (e1 : gr A' 180 = gr A 180) (k : ∀ a, 231 ≤ a → a < nc A → Sm a A A') : KpV A A' :=
  ⟨e0, e1, fun v q _ h1 h2 a h3 h4 => k a (by omega) (by omega)⟩
theorem kps_of {N : Nat} {A A' B : Mem} (h : Sim N A B) (k : ∀ a, 231 ≤ a → a < nc A → Sm a A A') : ∀ s, Shs A s → KpS s A A' := fun s hs a h1 h2 => k a (by have := shs_ge h hs; omega) (by have := shs_ge h hs; omega)
theorem cal_feed (a b c d e : Int32) : Cal (L_X10_feed (some 0) a b c d e) (L_X11_feed (some 181) a b c d e) := by
  intro N A B hN h
  obtain ⟨n, hn, t1, t2, t3⟩ := h.2.2.1
  rw [eqS_X10_feed h.1, eqS_X11_feed h.2.1]
  by_cases hc : n + 20 ≤ 900
  · rw [feedC t1 hc, feedR t2 hc]
    generalize hbs : by4 a ++ by4 b ++ by4 c ++ by4 d ++ by4 e = bs
    have hb : ∀ x ∈ bs, x < 256 := by
      intro x hx
      rw [← hbs] at hx
      simp only [List.mem_append] at hx
      rcases hx with (((hx | hx) | hx) | hx) | hx <;> exact by4_lt x hx
    have hl : bs.length = 20 := by rw [← hbs]; rfl
    have tp := wr_tp (bs := bs) ⟨t1, t2, t3⟩ hb
    rw [hl] at tp
    refine ⟨_, _, _, rfl, rfl, ?_, fun a h1 h2 => wrA_sm (by omega) (by omega), ⟨wrB_kg.1, fun a h1 => wrB_sm (by omega) (by omega)⟩, by rw [wrA_kc.2.1]; omega, by rw [wrA_kc.2.2]; omega⟩
    have kd : ∀ a, 231 ≤ a → a < nc A → Sm a A (wrA A n bs) := fun a h1 h2 => wrA_sm (by omega) (by omega)
    have hn2 : nc A ≤ nc (wrA A n bs) := Nat.le_of_eq wrA_kc.2.1.symm
    refine sim_of h (h.1.kc wrA_kc.1) (h.2.1.kg wrB_kg) hn2 (fun a h1 h2 => wrA_sm (by omega) (by omega)) (kps_of h kd) (wrA_sm (by omega) (by omega)).j (fun a h1 h2 => wrB_sm (by omega) (by omega)) (wrB_f (by omega)) (wrB_f (by omega)) (wrB_f (by omega)) ⟨n + 20, hc, tp⟩ ?_ ?_ ?_ ?_
    · have := h.2.2.2.2.1
      unfold SmFt at this ⊢
      rw [(wrA_sm (a := 7) (by omega) (by omega)).i, wrB_f (by omega), wrB_f (by omega)]; exact this
    · exact smSt_mono h.2.2.2.2.2.2.2.2.2.2.2.1 (by rw [(wrA_sm (a := 144) (by omega) (by omega)).i]) (wrA_sm (a := 179) (by omega) (by omega)).i (wrB_f (by omega)) (wrB_sm (by omega) (by omega)).i
    · refine smVy_cg h.2.2.2.2.2.2.2.2.2.2.2.2.1 hn2 (kpv_of h (by rw [(wrA_sm (a := 0) (by omega) (by omega)).i]) (wrA_sm (a := 180) (by omega) (by omega)).r kd) (fun y hy => by rw [(wrA_sm (a := 19) (by omega) (by omega)).r]) (fun y hy => by rw [(wrA_sm (a := 21 + 4 * y) (by omega) (by omega)).r]) (wrB_f (by omega)) (fun a h1 h2 => wrB_sm (by omega) (by omega))
    · have := h.2.2.2.2.2.2.2.2.2.2.2.2.2.1
      unfold SmBk at this ⊢
      rw [(wrA_sm (a := 0) (by omega) (by omega)).i, wrB_f (by omega), wrB_f (by omega)]; exact this
  · refine ⟨-1, A, B, ?_, ?_, sim_mono h, KRf.rf, KCl.rf, by omega, by omega⟩
    · unfold S_X10_feed
      rw [t1, show ni n + 20 = ni (n + 20) from ni_add n 20, if_neg (show ¬ ni (n + 20) ≤ (900 : Int32) from fun e => hc ((ni_le (b := 900) (by omega) (by omega)).mp e))]
    · unfold S_X11_feed
      rw [t2, show ni n + 20 = ni (n + 20) from ni_add n 20, if_neg (show ¬ ni (n + 20) ≤ (900 : Int32) from fun e => hc ((ni_le (b := 900) (by omega) (by omega)).mp e))]
