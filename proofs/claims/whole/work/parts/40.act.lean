/-! SPECS: what a statement does -/
theorem fFirst_0 {a b : Int32} (h : fFirst a b = 0) : a = 0 ∧ b = 0 := by
  unfold fFirst at h
  split at h
  · rename_i z; exact ⟨z, h⟩
  · rename_i z; exact absurd h z
theorem fNoTh_0 {n : Nat} {x : Int32} (hn : n < 2 ^ 30) (h : fNoTh (nI n) x = 0) : ∃ j, j < n ∧ x = nI j := by
  unfold fNoTh at h
  split at h
  · exact absurd h (by decide)
  · rename_i c
    split at h
    · rename_i c2
      obtain ⟨j, hj, ej⟩ := nI_of c
      rw [ej] at c2
      exact ⟨j, (nI_ltI hj (by omega)).mp c2, ej⟩
    · exact absurd h (by decide)
theorem fChgR_0 {n : Nat} {x y : Int32} (hn : n < 2 ^ 30) (h : fChgR (nI n) x y = 0) : (∃ j, j < n ∧ x = nI j) ∧ ∃ j, j < n ∧ y = nI j := by
  unfold fChgR at h
  split at h
  · rename_i c
    obtain ⟨c1, c2⟩ := fFirst_0 c
    exact ⟨fNoTh_0 hn c1, fNoTh_0 hn c2⟩
  · rename_i c; exact absurd h c
theorem fDropR_0 {n : Nat} {br dy x v : Int32} (hn : n < 2 ^ 30) (h : fDropR (nI n) br dy x v = 0) : ∃ j, j < n ∧ x = nI j := by
  unfold fDropR at h
  split at h
  · rename_i c
    exact fNoTh_0 hn (fFirst_0 (fFirst_0 c).1).1
  · rename_i c; exact absurd h c
theorem fJoinR_0 {n : Nat} {k f a : Int32} (hn : n ≤ 8) (h : fJoinR (nI n) k f a = 0) : n < 8 := by
  unfold fJoinR at h
  have h2 := (fFirst_0 h).2
  unfold fAbove at h2
  split at h2
  · rename_i c
    rw [nI_add] at c
    have := (nI_leI (by omega) (by omega)).mp c
    omega
  · exact absurd h2 (by decide)
def actF (w : WS) (n : Nat) (tl : Int32) (f : Nat → Int32) (s : Nat) : WS :=
  if f s = nI 99 then wI w 2 (w.1 2 ^^^ (nI 1 <<< (dgt tl f (nI s + nI 1) &&& 31)))
  else if f s = nI 100 then wDrop w (blw w n (plW w (dgt tl f (nI s + nI 1)).toNatClampNeg) (blI tl f (nI s))).2.2
  else if f s = nI 109 then wI w 1 (butI (w.1 1) (dgt tl f (nI s + nI 1)))
  else if f s = nI 116 then wJoin w n (dgt tl f (nI s + nI 1)) (dgt tl f (nI s + nI 2)) (dgt tl f (nI s + nI 3))
  else wXch w (dgt tl f (nI s + nI 1)).toNatClampNeg (dgt tl f (nI s + nI 2)).toNatClampNeg
def yO (tl : Int32) : AC := .inr (.inr (7, [.ref 1, .ref 2, .ref 8, .int tl]))
def yC (tl : Int32) (f : Nat → Int32) (md : WS) (s : S3) (w : WS) : AH := yO tl :: .inl (96, f) :: (wC 2 md ++ (uC 8 s ++ wC 10 w))
