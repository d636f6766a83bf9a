/-! SPECS: orders -/
def oO : AC := .inr (.inr (3, [.ref 1, .ref 3, .ref 9, .ref 10]))
def oC (s : S3) (md : WS) (f g : Nat → Int32) (w : WS) : AH := oO :: (uC 1 s ++ (wC 3 md ++ (.inl (8, f) :: .inl (8, g) :: wC 11 w)))
def plW (w : WS) (t : Nat) : Nat := (w.2 4 t).toNatClampNeg
def wEx (w : WS) (n : Nat) : Prop := ∃ A P, wOk w n A P
theorem wEx.pl {w : WS} {n : Nat} (h : wEx w n) : ∃ A, wOk w n A (plW w) := by
  obtain ⟨A, P, h⟩ := h
  have e : ∀ t, t < n → plW w t = P t := fun t ht => by
    obtain ⟨h1, h2, -⟩ := h.2.2.2 t ht
    have := h.2.1
    rw [plW, h1, nI_clamp (by omega)]
  refine ⟨A, h.1, h.2.1, fun j hj => ?_, fun t ht => ?_⟩
  · obtain ⟨h1, h2, h3⟩ := h.2.2.1 j hj
    exact ⟨h1, h2, by rw [e _ h2]; exact h3⟩
  · rw [e t ht]; exact h.2.2.2 t ht
theorem wEx_xch {w : WS} {n i j : Nat} (h : wEx w n) (hi : i < n) (hj : j < n) : wEx (wXch w i j) n := by
  obtain ⟨A, P, h1, h2, h3, h4⟩ := h
  obtain ⟨i1, i2, i3⟩ := h3 i hi
  obtain ⟨j1, j2, j3⟩ := h3 j hj
  have ei : (w.2 3 i).toNatClampNeg = A i := by rw [i1, nI_clamp (by omega)]
  have ej : (w.2 3 j).toNatClampNeg = A j := by rw [j1, nI_clamp (by omega)]
  refine ⟨fun k => if k = j then A i else if k = i then A j else A k, fun t => if t = A i then j else if t = A j then i else P t, h1, h2, fun k hk => ?_, fun t ht => ?_⟩
  · obtain ⟨k1, k2, k3⟩ := h3 k hk
    show upd (upd (w.2 3) i (w.2 3 j)) j (w.2 3 i) k = _ ∧ _
    simp only [upd]
    by_cases e1 : k = j
    · rw [if_pos e1, if_pos e1]; exact ⟨i1, i2, by rw [if_pos rfl]; exact e1.symm⟩
    · rw [if_neg e1, if_neg e1]
      by_cases e2 : k = i
      · rw [if_pos e2, if_pos e2]
        refine ⟨j1, j2, ?_⟩
        by_cases e3 : A j = A i
        · exact absurd (by rw [e2, ← i3, ← j3, e3]) e1
        · rw [if_neg e3, if_pos rfl]; exact e2.symm
      · rw [if_neg e2, if_neg e2]
        refine ⟨k1, k2, ?_⟩
        rw [if_neg (fun z => e2 (by rw [← k3, ← i3, z])), if_neg (fun z => e1 (by rw [← k3, ← j3, z]))]
        exact k3
  · obtain ⟨t1, t2, t3⟩ := h4 t ht
    have hx : (upd (upd (w.2 3) i (w.2 3 j)) j (w.2 3 i) i).toNatClampNeg = A j := by
      simp only [upd]
      by_cases e : i = j
      · rw [if_pos e, ei, e]
      · rw [if_neg e, if_pos trivial, ej]
    show upd (upd (w.2 4) (upd (upd (w.2 3) i (w.2 3 j)) j (w.2 3 i) i).toNatClampNeg (nI i)) (w.2 3 i).toNatClampNeg (nI j) t = _ ∧ _
    rw [hx, ei]
    simp only [upd]
    by_cases e1 : t = A i
    · rw [if_pos e1, if_pos e1]; exact ⟨rfl, hj, by rw [if_pos rfl]; exact e1.symm⟩
    · rw [if_neg e1, if_neg e1]
      by_cases e2 : t = A j
      · rw [if_pos e2, if_pos e2]
        refine ⟨rfl, hi, ?_⟩
        rw [if_neg (fun z => e1 (by rw [e2, ← z])), if_pos rfl]; exact e2.symm
      · rw [if_neg e2, if_neg e2]
        refine ⟨t1, t2, ?_⟩
        rw [if_neg (fun z => e2 (by rw [← t3, z])), if_neg (fun z => e1 (by rw [← t3, z]))]
        exact t3
theorem wEx_rev {n : Nat} : ∀ (f l r : Nat) (w : WS), wEx w n → r < n → wEx (revF f l r w) n := by
  intro f
  induction f with
  | zero => intro l r w h _; exact h
  | succ f ih =>
    intro l r w h hr
    rw [revF]
    split
    · exact ih _ _ _ (wEx_xch h (by omega) hr) (by omega)
    · exact h
theorem wEx_nx {w w2 : WS} {n : Nat} (h : wEx w n) (h2 : nxO w n = some w2) : wEx w2 n := by
  unfold nxO at h2
  have hl := lowF_le (w.2 3) (n - 1)
  split at h2
  · cases h2
  · rename_i lo e
    rw [e] at hl
    have hh := (highF_le (w.2 3) lo (n - 1 - lo)).2
    cases h2
    exact wEx_rev _ _ _ _ (wEx_xch h (by omega) (by omega)) (by omega)
