/-! SPECS: a valley comes to a wire -/
theorem wEx_join {w : WS} {n : Nat} {k f a : Int32} (h : wEx w n) (hn : n < 8) : wEx (wJoin w n k f a) (n + 1) := by
  obtain ⟨A, P, h1, h2, h3, h4⟩ := h
  refine ⟨fun j => if j = n then n else A j, fun t => if t = n then n else P t, rfl, by omega, fun j hj => ?_, fun t ht => ?_⟩
  · show upd (w.2 3) n (nI n) j = _ ∧ _
    simp only [upd]
    by_cases e : j = n
    · rw [if_pos e, if_pos e]; exact ⟨rfl, by omega, by rw [if_pos rfl]; exact e.symm⟩
    · obtain ⟨j1, j2, j3⟩ := h3 j (by omega)
      rw [if_neg e, if_neg e]; exact ⟨j1, by omega, by rw [if_neg (by omega)]; exact j3⟩
  · show upd (w.2 4) n (nI n) t = _ ∧ _
    simp only [upd]
    by_cases e : t = n
    · rw [if_pos e, if_pos e]; exact ⟨rfl, by omega, by rw [if_pos rfl]; exact e.symm⟩
    · obtain ⟨t1, t2, t3⟩ := h4 t (by omega)
      rw [if_neg e, if_neg e]; exact ⟨t1, by omega, by rw [if_neg (by omega)]; exact t3⟩
def actN (n : Nat) (f : Nat → Int32) (s : Nat) : Nat := if f s = nI 116 then n + 1 else n
theorem wEx_act {w : WS} {n q s : Nat} {f : Nat → Int32} (h : wEx w n) (hr : refF w (nI q) f s = 0) : wEx (actF w n (nI q) f s) (actN n f s) := by
  have hn := h.choose_spec.choose_spec.1
  have hn8 := h.choose_spec.choose_spec.2.1
  unfold refF at hr
  unfold actF actN
  by_cases e1 : f s = nI 99
  · rw [if_pos e1, if_neg (by rw [e1]; decide)]; exact h
  · rw [if_neg e1] at hr ⊢
    by_cases e2 : f s = nI 100
    · rw [if_pos e2, if_neg (by rw [e2]; decide)]; exact h
    · rw [if_neg e2] at hr ⊢
      by_cases e3 : f s = nI 109
      · rw [if_pos e3, if_neg (by rw [e3]; decide)]; exact h
      · rw [if_neg e3] at hr ⊢
        by_cases e4 : f s = nI 116
        · rw [if_pos e4] at hr ⊢
          rw [if_pos e4]
          rw [hn] at hr
          exact wEx_join h (fJoinR_0 hn8 hr)
        · rw [if_neg e4] at hr ⊢
          rw [if_neg e4]
          rw [hn] at hr
          obtain ⟨⟨j, hj, ej⟩, i, hi, ei⟩ := fChgR_0 (by omega) hr
          rw [ej, ei, nI_clamp (by omega), nI_clamp (by omega)]
          exact wEx_xch h hj hi
def comF (q : Nat) (f : Nat → Int32) : Nat → WS → Nat → Nat → Nat → Int32 × Option WS
  | 0, w, _, c, _ => (nI c, some w)
  | k + 1, w, n, c, s => if q ≤ s then (nI c, some w) else if refF w (nI q) f s = 0 then comF q f k (actF w n (nI q) f s) (actN n f s) (c + 1) (s + dgN (f s) + 2) else (Int32.ofInt (-2000) - nI s, none)
