-- ===== the start: no reference behind the last field =====
theorem q_nA {M M' : Mem} {k a j : Nat} {n : Int32} (h : nA M k n = some M') (q : gr M a j = none) : gr M' a j = none := by
  unfold nA at h
  split at h
  · cases h
  · cases h
    show (if a = nc M then none else gr M a j) = none
    rw [q, ite_self]
theorem q_pR {M M' : Mem} {k f a j : Nat} {r x : Option Nat} (hf : f < 85) (hj : 85 ≤ j) (h : pR M k f r x = some M') (q : gr M a j = none) : gr M' a j = none := by
  unfold pR at h
  split at h
  · split at h
    · cases h
      rw [gr_sr, if_neg (by omega)]; exact q
    · cases h
  · cases h
theorem q_pI {M M' : Mem} {k f a j : Nat} {r : Option Nat} {x : Int32} (h : pI M k f r x = some M') (q : gr M a j = none) : gr M' a j = none := by
  unfold pI at h
  split at h
  · split at h
    · cases h; exact q
    · cases h
  · cases h
theorem q_uL {M M' : Mem} {k a j : Nat} {r : Option Nat} {i : Int32} {x : Int64} (h : uL M k r i x = some M') (q : gr M a j = none) : gr M' a j = none := by
  unfold uL at h
  split at h
  · split at h
    · cases h; exact q
    · cases h
  · cases h
theorem q_named {M : Mem} {a j : Nat} {w : Int64 × Mem} {v0 v1 v2 v3 v4 : Int32} (h : L_X11_named v0 v1 v2 v3 v4 M = some w) (q : gr M a j = none) : gr w.2 a j = none := by
  unfold L_X11_named J_X11_named_27 J_X11_named_46 J_X11_named_65 at h
  have e : w.2 = M := by
    repeat' split at h
    all_goals (cases h; rfl)
  rw [e]; exact q
set_option maxHeartbeats 4000000 in
theorem q_init {M : Mem} {a j : Nat} {z : Unit × Mem} {v0 : Option Nat} (hj : 85 ≤ j) (h : L_X11_init v0 M = some z) (q : gr M a j = none) : gr z.2 a j = none := by
  unfold L_X11_init at h
  rcases itor h with h | h
  · cases h
  · obtain ⟨M1, hw, h⟩ := bnd h
    have q := q_nA hw q
    obtain ⟨M2, hw, h⟩ := bnd h
    have q := q_pR (by decide) hj hw q
    obtain ⟨M3, hw, h⟩ := bnd h
    have q := q_pI hw q
    obtain ⟨M4, hw, h⟩ := bnd h
    have q := q_nA hw q
    obtain ⟨M5, hw, h⟩ := bnd h
    have q := q_uL hw q
    obtain ⟨w6, hw, h⟩ := bnd h
    have q := q_named hw q
    obtain ⟨M7, hw, h⟩ := bnd h
    have q := q_uL hw q
    obtain ⟨w8, hw, h⟩ := bnd h
    have q := q_named hw q
    obtain ⟨M9, hw, h⟩ := bnd h
    have q := q_uL hw q
    obtain ⟨w10, hw, h⟩ := bnd h
    have q := q_named hw q
    obtain ⟨M11, hw, h⟩ := bnd h
    have q := q_uL hw q
    obtain ⟨w12, hw, h⟩ := bnd h
    have q := q_named hw q
    obtain ⟨M13, hw, h⟩ := bnd h
    have q := q_uL hw q
    obtain ⟨w14, hw, h⟩ := bnd h
    have q := q_named hw q
    obtain ⟨M15, hw, h⟩ := bnd h
    have q := q_uL hw q
    obtain ⟨w16, hw, h⟩ := bnd h
    have q := q_named hw q
    obtain ⟨M17, hw, h⟩ := bnd h
    have q := q_uL hw q
    obtain ⟨w18, hw, h⟩ := bnd h
    have q := q_named hw q
    obtain ⟨M19, hw, h⟩ := bnd h
    have q := q_uL hw q
    obtain ⟨w20, hw, h⟩ := bnd h
    have q := q_named hw q
    obtain ⟨M21, hw, h⟩ := bnd h
    have q := q_uL hw q
    obtain ⟨w22, hw, h⟩ := bnd h
    have q := q_named hw q
    obtain ⟨M23, hw, h⟩ := bnd h
    have q := q_uL hw q
    obtain ⟨w24, hw, h⟩ := bnd h
    have q := q_named hw q
    obtain ⟨M25, hw, h⟩ := bnd h
    have q := q_uL hw q
    obtain ⟨w26, hw, h⟩ := bnd h
    have q := q_named hw q
    obtain ⟨M27, hw, h⟩ := bnd h
    have q := q_uL hw q
    obtain ⟨w28, hw, h⟩ := bnd h
    have q := q_named hw q
    obtain ⟨M29, hw, h⟩ := bnd h
    have q := q_uL hw q
    obtain ⟨M30, hw, h⟩ := bnd h
    have q := q_pR (by decide) hj hw q
    obtain ⟨M31, hw, h⟩ := bnd h
    have q := q_nA hw q
    obtain ⟨M32, hw, h⟩ := bnd h
    have q := q_pR (by decide) hj hw q
    obtain ⟨M33, hw, h⟩ := bnd h
    have q := q_nA hw q
    obtain ⟨M34, hw, h⟩ := bnd h
    have q := q_pR (by decide) hj hw q
    obtain ⟨M35, hw, h⟩ := bnd h
    have q := q_nA hw q
    obtain ⟨M36, hw, h⟩ := bnd h
    have q := q_pR (by decide) hj hw q
    obtain ⟨M37, hw, h⟩ := bnd h
    have q := q_nA hw q
    obtain ⟨M38, hw, h⟩ := bnd h
    have q := q_pR (by decide) hj hw q
    obtain ⟨M39, hw, h⟩ := bnd h
    have q := q_nA hw q
    obtain ⟨M40, hw, h⟩ := bnd h
    have q := q_pR (by decide) hj hw q
    obtain ⟨M41, hw, h⟩ := bnd h
    have q := q_nA hw q
    obtain ⟨M42, hw, h⟩ := bnd h
    have q := q_pR (by decide) hj hw q
    obtain ⟨M43, hw, h⟩ := bnd h
    have q := q_nA hw q
    obtain ⟨M44, hw, h⟩ := bnd h
    have q := q_pR (by decide) hj hw q
    obtain ⟨M45, hw, h⟩ := bnd h
    have q := q_nA hw q
    obtain ⟨M46, hw, h⟩ := bnd h
    have q := q_pR (by decide) hj hw q
    obtain ⟨M47, hw, h⟩ := bnd h
    have q := q_nA hw q
    obtain ⟨M48, hw, h⟩ := bnd h
    have q := q_pR (by decide) hj hw q
    obtain ⟨M49, hw, h⟩ := bnd h
    have q := q_nA hw q
    obtain ⟨M50, hw, h⟩ := bnd h
    have q := q_pR (by decide) hj hw q
    obtain ⟨M51, hw, h⟩ := bnd h
    have q := q_nA hw q
    obtain ⟨M52, hw, h⟩ := bnd h
    have q := q_pR (by decide) hj hw q
    obtain ⟨M53, hw, h⟩ := bnd h
    have q := q_nA hw q
    obtain ⟨M54, hw, h⟩ := bnd h
    have q := q_pR (by decide) hj hw q
    obtain ⟨M55, hw, h⟩ := bnd h
    have q := q_nA hw q
    obtain ⟨M56, hw, h⟩ := bnd h
    have q := q_pR (by decide) hj hw q
    obtain ⟨M57, hw, h⟩ := bnd h
    have q := q_nA hw q
    obtain ⟨M58, hw, h⟩ := bnd h
    have q := q_pR (by decide) hj hw q
    obtain ⟨M59, hw, h⟩ := bnd h
    have q := q_nA hw q
    obtain ⟨M60, hw, h⟩ := bnd h
    have q := q_pR (by decide) hj hw q
    obtain ⟨M61, hw, h⟩ := bnd h
    have q := q_nA hw q
    obtain ⟨M62, hw, h⟩ := bnd h
    have q := q_pR (by decide) hj hw q
    obtain ⟨M63, hw, h⟩ := bnd h
    have q := q_nA hw q
    obtain ⟨M64, hw, h⟩ := bnd h
    have q := q_pR (by decide) hj hw q
    obtain ⟨M65, hw, h⟩ := bnd h
    have q := q_nA hw q
    obtain ⟨M66, hw, h⟩ := bnd h
    have q := q_pR (by decide) hj hw q
    obtain ⟨M67, hw, h⟩ := bnd h
    have q := q_nA hw q
    obtain ⟨M68, hw, h⟩ := bnd h
    have q := q_pR (by decide) hj hw q
    obtain ⟨M69, hw, h⟩ := bnd h
    have q := q_nA hw q
    obtain ⟨M70, hw, h⟩ := bnd h
    have q := q_pR (by decide) hj hw q
    obtain ⟨M71, hw, h⟩ := bnd h
    have q := q_nA hw q
    obtain ⟨M72, hw, h⟩ := bnd h
    have q := q_pR (by decide) hj hw q
    obtain ⟨M73, hw, h⟩ := bnd h
    have q := q_nA hw q
    obtain ⟨M74, hw, h⟩ := bnd h
    have q := q_pR (by decide) hj hw q
    obtain ⟨M75, hw, h⟩ := bnd h
    have q := q_nA hw q
    obtain ⟨M76, hw, h⟩ := bnd h
    have q := q_pR (by decide) hj hw q
    obtain ⟨M77, hw, h⟩ := bnd h
    have q := q_nA hw q
    obtain ⟨M78, hw, h⟩ := bnd h
    have q := q_pR (by decide) hj hw q
    obtain ⟨M79, hw, h⟩ := bnd h
    have q := q_nA hw q
    obtain ⟨M80, hw, h⟩ := bnd h
    have q := q_pR (by decide) hj hw q
    obtain ⟨M81, hw, h⟩ := bnd h
    have q := q_nA hw q
    obtain ⟨M82, hw, h⟩ := bnd h
    have q := q_pR (by decide) hj hw q
    obtain ⟨M83, hw, h⟩ := bnd h
    have q := q_nA hw q
    obtain ⟨M84, hw, h⟩ := bnd h
    have q := q_pR (by decide) hj hw q
    obtain ⟨M85, hw, h⟩ := bnd h
    have q := q_nA hw q
    obtain ⟨M86, hw, h⟩ := bnd h
    have q := q_pR (by decide) hj hw q
    obtain ⟨M87, hw, h⟩ := bnd h
    have q := q_nA hw q
    obtain ⟨M88, hw, h⟩ := bnd h
    have q := q_pR (by decide) hj hw q
    obtain ⟨M89, hw, h⟩ := bnd h
    have q := q_nA hw q
    obtain ⟨M90, hw, h⟩ := bnd h
    have q := q_pR (by decide) hj hw q
    obtain ⟨M91, hw, h⟩ := bnd h
    have q := q_nA hw q
    obtain ⟨M92, hw, h⟩ := bnd h
    have q := q_pR (by decide) hj hw q
    obtain ⟨M93, hw, h⟩ := bnd h
    have q := q_nA hw q
    obtain ⟨M94, hw, h⟩ := bnd h
    have q := q_pR (by decide) hj hw q
    obtain ⟨M95, hw, h⟩ := bnd h
    have q := q_nA hw q
    obtain ⟨M96, hw, h⟩ := bnd h
    have q := q_pR (by decide) hj hw q
    obtain ⟨M97, hw, h⟩ := bnd h
    have q := q_nA hw q
    obtain ⟨M98, hw, h⟩ := bnd h
    have q := q_pR (by decide) hj hw q
    obtain ⟨M99, hw, h⟩ := bnd h
    have q := q_nA hw q
    obtain ⟨M100, hw, h⟩ := bnd h
    have q := q_pR (by decide) hj hw q
    obtain ⟨M101, hw, h⟩ := bnd h
    have q := q_nA hw q
    obtain ⟨M102, hw, h⟩ := bnd h
    have q := q_pR (by decide) hj hw q
    obtain ⟨M103, hw, h⟩ := bnd h
    have q := q_pI hw q
    obtain ⟨M104, hw, h⟩ := bnd h
    have q := q_nA hw q
    obtain ⟨M105, hw, h⟩ := bnd h
    have q := q_pR (by decide) hj hw q
    obtain ⟨M106, hw, h⟩ := bnd h
    have q := q_nA hw q
    obtain ⟨M107, hw, h⟩ := bnd h
    have q := q_pR (by decide) hj hw q
    obtain ⟨M108, hw, h⟩ := bnd h
    have q := q_nA hw q
    obtain ⟨M109, hw, h⟩ := bnd h
    have q := q_pR (by decide) hj hw q
    obtain ⟨M110, hw, h⟩ := bnd h
    have q := q_nA hw q
    obtain ⟨M111, hw, h⟩ := bnd h
    have q := q_pR (by decide) hj hw q
    obtain ⟨M112, hw, h⟩ := bnd h
    have q := q_nA hw q
    obtain ⟨M113, hw, h⟩ := bnd h
    have q := q_pR (by decide) hj hw q
    obtain ⟨M114, hw, h⟩ := bnd h
    have q := q_nA hw q
    obtain ⟨M115, hw, h⟩ := bnd h
    have q := q_pR (by decide) hj hw q
    obtain ⟨M116, hw, h⟩ := bnd h
    have q := q_nA hw q
    obtain ⟨M117, hw, h⟩ := bnd h
    have q := q_pR (by decide) hj hw q
    obtain ⟨M118, hw, h⟩ := bnd h
    have q := q_nA hw q
    obtain ⟨M119, hw, h⟩ := bnd h
    have q := q_pR (by decide) hj hw q
    obtain ⟨M120, hw, h⟩ := bnd h
    have q := q_nA hw q
    obtain ⟨M121, hw, h⟩ := bnd h
    have q := q_pR (by decide) hj hw q
    obtain ⟨M122, hw, h⟩ := bnd h
    have q := q_nA hw q
    obtain ⟨M123, hw, h⟩ := bnd h
    have q := q_pR (by decide) hj hw q
    obtain ⟨M124, hw, h⟩ := bnd h
    have q := q_nA hw q
    obtain ⟨M125, hw, h⟩ := bnd h
    have q := q_pR (by decide) hj hw q
    cases h; exact q
theorem st_r4 {j : Nat} (hj : 85 ≤ j) : gr M_s 181 j = none := by
  obtain ⟨w, e, f⟩ := get_s
  rw [f]
  refine q_init hj e ?_
  rw [gr_nw, nc_1, if_pos rfl]
