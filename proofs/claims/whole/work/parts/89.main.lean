theorem main_pure : MainPure := by
  intro G hG
  obtain ⟨M9, e, n1, n2⟩ := law_lp hG (S := 400000) 513 0 M_s FU (by omega) (by have : FU = 4000000 := rfl; omega) (by omega) st_sim st_zr (by rw [st_nc]; omega) (by have := st_ns; omega)
  refine ⟨M9, ?_, by omega, by omega⟩
  rw [law_start]; exact e
