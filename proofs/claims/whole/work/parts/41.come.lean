/-! SPECS: a valley comes to a wire -/
theorem wEx_join {w : WS} {n : Nat} {k f a : Int32} (h : wEx w n) (hn : n < 8) : wEx (wJoin w n k f a) (n + 1) := by
  obtain ⟨A, P, h1, h2, h3, h4⟩ := h
  refine ⟨fun j => if j = n then n else A j, fun t => if t = n then n else P t, rfl, by omega, fun j hj => ?_, fun t ht => ?_⟩
  · show upd (w.2 3) n (nI n) j = _ ∧ _
    simp only [upd]
    by_cases e : j = n
    · rw [if_pos e, if_pos e]; exact ⟨rfl, by omega, by rw [if_pos rfl]; exact e.symm⟩
    · obtain ⟨j1, j2, j3⟩ := h3 j (by omega)
      rw [if_neg e, if_neg e]; exact ⟨j1, by omega, by rw [if_neg (by omega)]; exact j3⟩
  · show upd (w.2 4) n (nI n) t = _ ∧ _
    simp only [upd]
    by_cases e : t = n
    · rw [if_pos e, if_pos e]; exact ⟨rfl, by omega, by rw [if_pos rfl]; exact e.symm⟩
    · obtain ⟨t1, t2, t3⟩ := h4 t (by omega)
      rw [if_neg e, if_neg e]; exact ⟨t1, by omega, by rw [if_neg (by omega)]; exact t3⟩
