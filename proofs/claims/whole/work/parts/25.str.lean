-- ===== what the class asks of its two constant texts =====
/-- WORD_TEXT.charAt(i) -/
def txAt (i : Int32) : Option Int32 := if inb i 61 then some ((sbyt.getD 0 []).getD i.toNatClampNeg 0) else none
def ixF (c : Int32) : List Int32 → Nat → Int32
  | [], _ => -1
  | b :: l, k => if b = c then nI k else ixF c l (k + 1)
/-- SIGNS.indexOf(c) -/
def sgIx (c : Int32) : Int32 := if c < 0 ∨ 255 < c then -1 else ixF c.toInt8.toInt32 (sbyt.getD 1 []) 0
section Str
variable {G : Gt} {M : Mem}
theorem xC_0 : xC G (some (gK G 0)) = some 0 := if_pos (Or.inl rfl)
theorem xC_1 : xC G (some (gK G 1)) = some 0 := if_pos (Or.inr rfl)
theorem ckX_0 : ckX G (some (gK G 0)) = some () := if_pos (Or.inl rfl)
theorem ckX_1 : ckX G (some (gK G 1)) = some () := if_pos (Or.inr rfl)
theorem xV_0 : xV G (some (gK G 0)) = some (some (gV G 0)) := if_pos rfl
theorem xN_0 : xN G (some (gV G 0)) = some 61 := if_pos rfl
theorem coder_0 : L_J0_coder_7d493 G (some (gK G 0)) M = some (0, M) := by
  unfold L_J0_coder_7d493
  rw [if_neg (by decide), xC_0]
  rfl
theorem one_ne (M : Mem) : ¬ ((1 : Int32), M).1 = 0 := fun e => absurd (show (1 : Int32) = 0 from e) (by decide)
theorem length_0 : L_J0_length_8abf5 G (some (gK G 0)) M = some (61, M) := by
  unfold L_J0_length_8abf5
  rw [xV_0, Option.bind_some, xN_0, Option.bind_some, ckX_0, Option.bind_some, coder_0, Option.bind_some]
  show some ((61 : Int32) >>> ((0 : Int32) &&& 31), M) = _
  rw [show (61 : Int32) >>> ((0 : Int32) &&& 31) = 61 by decide]
theorem latin_0 : L_J0_isLatin1_aae02 G (some (gK G 0)) M = some (1, M) := by
  unfold L_J0_isLatin1_aae02
  rw [if_neg (by decide), xC_0]
  rfl
theorem tx_ok : ∀ j, j < 61 → ((((sbyt.getD 0 []).getD j 0) &&& (255 : Int32)).toUInt32 % 65536).toInt32 = (sbyt.getD 0 []).getD j 0 ∧ vp_nar .char ((sbyt.getD 0 []).getD j 0) = (sbyt.getD 0 []).getD j 0 := by decide +kernel
theorem lat_0 (i : Int32) : L_J1_charAt_3b067 G (some (gV G 0)) i M = (txAt i).bind (fun x => some (x, M)) := by
  unfold L_J1_charAt_3b067
  rw [xN_0, Option.bind_some]
  unfold L_J0_checkIndex_df160 L_J3_checkIndex_8e157 txAt
  by_cases h0 : i < 0
  · rw [if_pos h0, if_neg (c := inb i 61) (fun hh => hh (Or.inl h0))]; rfl
  · obtain ⟨j, hj, rfl⟩ := nI_of h0
    rw [if_neg h0]
    by_cases h1 : j < 61
    · have e1 : nI j < 61 := (nI_ltI hj (b := 61) (by decide)).mpr h1
      have e2 : inb (nI j) 61 := by
        intro hh
        rcases hh with hh | hh
        · exact h0 hh
        · rw [nI_clamp hj] at hh; omega
      obtain ⟨t1, t2⟩ := tx_ok j h1
      have e3 : nz .char ((sbyt.getD 0 []).getD j 0) = some () := if_pos t2
      have e4 : xB G (some (gV G 0)) (nI j) = some ((sbyt.getD 0 []).getD j 0) := by
        unfold xB
        rw [if_pos ⟨rfl, e2⟩, nI_clamp hj]
      rw [if_pos e1, Option.bind_some, Option.bind_some, e4, Option.bind_some, t1, e3, Option.bind_some, if_pos e2, Option.bind_some, nI_clamp hj]
    · have e1 : ¬ nI j < 61 := fun hh => h1 ((nI_ltI hj (b := 61) (by decide)).mp hh)
      have e2 : ¬ inb (nI j) 61 := fun hh => hh (Or.inr (by rw [nI_clamp hj]; omega))
      rw [if_neg e1, if_neg e2]; rfl
theorem txAt_nz {i c : Int32} (h : txAt i = some c) : nz .char c = some () := by
  unfold txAt at h
  by_cases hi : inb i 61
  · rw [if_pos hi] at h
    cases h
    exact if_pos (tx_ok i.toNatClampNeg (Nat.not_le.mp fun q => hi (Or.inr q))).2
  · rw [if_neg hi] at h; cases h
theorem charAt_0 (i : Int32) : L_J0_charAt_5068e G (some (gK G 0)) i M = (txAt i).bind (fun x => some (x, M)) := by
  unfold L_J0_charAt_5068e
  rw [ckX_0, Option.bind_some, latin_0, Option.bind_some, if_neg (one_ne M), xV_0, Option.bind_some]
  show (L_J1_charAt_3b067 G (some (gV G 0)) i M).bind _ = _
  rw [lat_0]
  cases ht : txAt i with
  | none => rfl
  | some c =>
    show (nz .char c).bind _ = _
    rw [txAt_nz ht]; rfl
theorem xV_1 (hne : gK G 1 ≠ gK G 0) : xV G (some (gK G 1)) = some (some (gV G 1)) := by
  unfold xV
  rw [if_neg (fun e => hne (Option.some.inj e)), if_pos rfl]
theorem xN_1 (hnv : gV G 1 ≠ gV G 0) : xN G (some (gV G 1)) = some 18 := by
  unfold xN
  rw [if_neg (fun e => hnv (Option.some.inj e)), if_pos rfl]
theorem coder_1 : L_J0_coder_7d493 G (some (gK G 1)) M = some (0, M) := by
  unfold L_J0_coder_7d493
  rw [if_neg (by decide), xC_1]
  rfl
theorem length_1 (hne : gK G 1 ≠ gK G 0) (hnv : gV G 1 ≠ gV G 0) : L_J0_length_8abf5 G (some (gK G 1)) M = some (18, M) := by
  unfold L_J0_length_8abf5
  rw [xV_1 hne, Option.bind_some, xN_1 hnv, Option.bind_some, ckX_1, Option.bind_some, coder_1, Option.bind_some]
  show some ((18 : Int32) >>> ((0 : Int32) &&& 31), M) = _
  rw [show (18 : Int32) >>> ((0 : Int32) &&& 31) = 18 by decide]
theorem latin_1 : L_J0_isLatin1_aae02 G (some (gK G 1)) M = some (1, M) := by
  unfold L_J0_isLatin1_aae02
  rw [if_neg (by decide), xC_1]
  rfl
theorem ixLoop (hnv : gV G 1 ≠ gV G 0) (c : Int32) : ∀ (l : List Int32) (k n : Nat), (sbyt.getD 1 []).drop k = l → k + l.length = 18 → l.length < n → J_J1_indexOfChar_4cfef_7 G n (some (gV G 1)) 18 c (nI k) M = some (ixF c l k, M) := by
  intro l
  induction l with
  | nil =>
    intro k n hd hk hn
    cases n with
    | zero => exact absurd hn (by omega)
    | succ n =>
      unfold J_J1_indexOfChar_4cfef_7
      have : k = 18 := by simpa using hk
      subst this
      rw [if_pos (by decide)]
      rfl
  | cons b l ih =>
    intro k n hd hk hn
    cases n with
    | zero => exact absurd hn (by omega)
    | succ n =>
      unfold J_J1_indexOfChar_4cfef_7
      have hk18 : k < 18 := by rw [List.length_cons] at hk; omega
      have e1 : ¬ (18 : Int32) ≤ nI k := fun hh => by
        have := (nI_leI (a := 18) (b := k) (by decide) (by omega)).mp hh
        omega
      have hb : (sbyt.getD 1 []).getD k 0 = b := by
        rw [List.getD_eq_getElem?_getD, ← List.head?_drop, hd]; rfl
      have hl : (sbyt.getD 1 []).drop (k + 1) = l := by
        rw [← List.tail_drop, hd]; rfl
      have e9 : inb (nI k) 18 := by
        intro hh
        rcases hh with hh | hh
        · exact nI_pos (by omega) hh
        · rw [nI_clamp (by omega)] at hh; omega
      have e2 : xB G (some (gV G 1)) (nI k) = some b := by
        unfold xB
        rw [if_neg (fun hh => hnv (Option.some.inj hh.1)), if_pos ⟨rfl, e9⟩, nI_clamp (by omega), hb]
      rw [if_neg e1, e2, Option.bind_some]
      rw [ixF]
      by_cases hc : b = c
      · rw [if_neg (fun hh => hh hc), if_pos hc]
      · rw [if_pos hc, if_neg hc, nI_1]
        exact ih (k + 1) n hl (by rw [List.length_cons] at hk; omega) (by rw [List.length_cons] at hn; omega)
theorem lidx_1 (hnv : gV G 1 ≠ gV G 0) (c : Int32) : L_J1_indexOf_4cfef G (some (gV G 1)) c 0 18 M = some (sgIx c, M) := by
  unfold L_J1_indexOf_4cfef L_J1_canEncode_9a6ad sgIx
  by_cases h0 : c < 0
  · rw [if_pos h0, if_pos (Or.inl h0)]; rfl
  · rw [if_neg h0]
    by_cases h1 : (255 : Int32) < c
    · rw [if_pos h1, if_pos (Or.inr h1)]; rfl
    · rw [if_neg h1, if_neg (c := c < 0 ∨ 255 < c) (fun hh => hh.elim h0 h1)]
      have e := ixLoop (M := M) hnv c.toInt8.toInt32 (sbyt.getD 1 []) 0 FU rfl (by decide) (by unfold FU; decide)
      have e1 : (bz 1).bind (fun _ => some ((1 : Int32), M)) = some (1, M) := rfl
      rw [e1, Option.bind_some, if_pos (one_ne M), xN_1 hnv, Option.bind_some, if_neg (show ¬ (0 : Int32) < 0 by decide), if_neg (show ¬ (18 : Int32) < 18 by decide), if_pos (show (0 : Int32) < 18 by decide)]
      unfold L_J1_indexOfChar_4cfef
      have e2 : J_J1_indexOfChar_4cfef_7 G FU (some (gV G 1)) 18 c.toInt8.toInt32 0 M = some (ixF c.toInt8.toInt32 (sbyt.getD 1 []) 0, M) := e
      show (J_J1_indexOfChar_4cfef_7 G FU (some (gV G 1)) 18 c.toInt8.toInt32 0 M).bind _ = _
      rw [e2]
      rfl
theorem index_1 (hne : gK G 1 ≠ gK G 0) (hnv : gV G 1 ≠ gV G 0) (c : Int32) : L_J0_indexOf_0f7a4 G (some (gK G 1)) c M = some (sgIx c, M) := by
  unfold L_J0_indexOf_0f7a4 L_J0_indexOf_7cf53
  rw [ckX_1, Option.bind_some, Option.bind_some, latin_1, Option.bind_some, if_neg (one_ne M), xV_1 hne, Option.bind_some, Option.bind_some]
  show (((L_J0_length_8abf5 G (some (gK G 1)) M).bind _).bind _) = _
  rw [length_1 hne hnv]
  show (((L_J1_indexOf_4cfef G (some (gV G 1)) c 0 18 M).bind _).bind _) = _
  rw [lidx_1 hnv]
  rfl
end Str
section StrRows
variable {G : Gt} {d n : Nat} {M0 M9 M : Mem} {r : Option TV} {lv : List (Nat × TV)} {st : List TV} {α : Type} {z : α} {x : Int32}
theorem str_ne {s : State} (h : KK G s) : gK G 1 ≠ gK G 0 ∧ gV G 1 ≠ gV G 0 := by
  have hs := h.2.2.2.2.2.1
  refine ⟨fun e => absurd (hs.2 1 0 (by decide) (by decide) e) (by decide), fun e => ?_⟩
  obtain ⟨c0, h1, -, -, -, h5, -⟩ := (hs.1 0 (by decide)).2.2.2
  obtain ⟨c1, g1, -, -, -, g5, -⟩ := (hs.1 1 (by decide)).2.2.2
  rw [e, h1] at g1
  cases g1
  rw [h5] at g5
  exact absurd g5 (by decide)
theorem Mt.deeper {G : Gt} {Y : MI} {d d2 : Nat} {as : List TV} {M M1 : Mem} {r : Option TV} (h : Mt G Y d as M r M1) (hd : d = d2) : Mt G Y d2 as M r M1 := hd ▸ h
theorem str_X7_packedWords_10 (hw : tvw st ≤ 8) (hd : 9 ≤ d) (k : V G mX7_packedWords d M0 r M9 M 15 lv (vI 61 :: st)) : V G mX7_packedWords d M0 r M9 M 10 lv st := by
  refine V.ldcS (i := 0) dX7_packedWords_10 rfl rfl ?_
  refine V.callXi (z := ((61 : Int32), M)) (X := L_J0_length_8abf5 G (some (gK G 0)) M) (K := fun v => some v) (d' := _) (as := []) (st := st) dX7_packedWords_12 meJ0_length_8abf5 rfl mlX7_42 imJ0_length_8abf5 seJ0_length_8abf5 rfl ?_ hw rfl rfl ?_ (fun v hv => lift_J0_length_8abf5 hv) (fun w h => ?_)
  · omega
  · rw [ckX_0, Option.bind_some, length_0]; rfl
  · cases h; exact k
theorem str_X7_packedWords_24 {K : Int32 → Option α} (hi : lv[n]? = some (2, vI x)) (hw : tvw st ≤ 8) (hd : 9 ≤ d) (h : (txAt x).bind K = some z) (kk : ∀ c : Int32, K c = some z → V G mX7_packedWords d M0 r M9 M 30 lv (vI c :: st)) : V G mX7_packedWords d M0 r M9 M 24 lv st := by
  refine V.ldcS (i := 0) dX7_packedWords_24 rfl rfl ?_
  refine V.iload_n (n := n) dX7_packedWords_26 hi rfl ?_
  cases ht : txAt x with
  | none => rw [ht] at h; cases h
  | some ch =>
    rw [ht] at h
    refine V.callXi (z := (ch, M)) (X := L_J0_charAt_5068e G (some (gK G 0)) x M) (K := fun v => some v) (d' := _) (as := [vI x]) (st := st) dX7_packedWords_27 meJ0_charAt_5068e rfl mlX7_48 imJ0_charAt_5068e seJ0_charAt_5068e rfl ?_ hw rfl rfl ?_ (fun v hv => lift_J0_charAt_5068e hv) (fun w h9 => ?_)
    · omega
    · rw [ckX_0, Option.bind_some, charAt_0, ht]; rfl
    · cases h9; exact kk ch h
theorem str_X7_cutOne_70 (hi : lv[n]? = some (2, vI x)) (hw : tvw st ≤ 8) (hd : 9 ≤ d) (k : V G mX7_cutOne d M0 r M9 M 76 lv (vI (sgIx x) :: st)) : V G mX7_cutOne d M0 r M9 M 70 lv st := by
  refine ⟨k.1, fun h1 h2 p e s m args below meth c H locs ls C hR hL hl => ?_⟩
  obtain ⟨hne, hnv⟩ := str_ne C.2.2.2.2.2.1
  have v : V G mX7_cutOne d M0 r M9 M 70 lv st := by
    refine V.ldcS (i := 1) dX7_cutOne_70 rfl rfl ?_
    refine V.iload_n (n := n) dX7_cutOne_72 hi rfl ?_
    refine V.callXi (z := (sgIx x, M)) (X := L_J0_indexOf_0f7a4 G (some (gK G 1)) x M) (K := fun v => some v) (d' := _) (as := [vI x]) (st := st) dX7_cutOne_73 meJ0_indexOf_0f7a4 rfl mlX7_77 imJ0_indexOf_0f7a4 seJ0_indexOf_0f7a4 rfl ?_ hw rfl rfl ?_ (fun v hv => lift_J0_indexOf_0f7a4 hv) (fun w h9 => ?_)
    · omega
    · rw [ckX_1, Option.bind_some, index_1 hne hnv]; rfl
    · cases h9; exact k
  exact v.2 h1 h2 p e s m args below meth c H locs ls C hR hL hl
end StrRows
