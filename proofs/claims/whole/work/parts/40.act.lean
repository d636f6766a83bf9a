/-! SPECS: what a statement does -/
theorem fFirst_0 {a b : Int32} (h : fFirst a b = 0) : a = 0 ∧ b = 0 := by
  unfold fFirst at h
  split at h
  · rename_i z; exact ⟨z, h⟩
  · rename_i z; exact absurd h z
theorem fNoTh_0 {n : Nat} {x : Int32} (hn : n < 2 ^ 30) (h : fNoTh (nI n) x = 0) : ∃ j, j < n ∧ x = nI j := by
  unfold fNoTh at h
  split at h
  · exact absurd h (by decide)
  · rename_i c
    split at h
    · rename_i c2
      obtain ⟨j, hj, ej⟩ := nI_of c
      rw [ej] at c2
      exact ⟨j, (nI_ltI hj (by omega)).mp c2, ej⟩
    · exact absurd h (by decide)
theorem fChgR_0 {n : Nat} {x y : Int32} (hn : n < 2 ^ 30) (h : fChgR (nI n) x y = 0) : (∃ j, j < n ∧ x = nI j) ∧ ∃ j, j < n ∧ y = nI j := by
  unfold fChgR at h
  split at h
  · rename_i c
    obtain ⟨c1, c2⟩ := fFirst_0 c
    exact ⟨fNoTh_0 hn c1, fNoTh_0 hn c2⟩
  · rename_i c; exact absurd h c
theorem fDropR_0 {n : Nat} {br dy x v : Int32} (hn : n < 2 ^ 30) (h : fDropR (nI n) br dy x v = 0) : ∃ j, j < n ∧ x = nI j := by
  unfold fDropR at h
  split at h
  · rename_i c
    exact fNoTh_0 hn (fFirst_0 (fFirst_0 c).1).1
  · rename_i c; exact absurd h c
theorem fJoinR_0 {n : Nat} {k f a : Int32} (hn : n ≤ 8) (h : fJoinR (nI n) k f a = 0) : n < 8 := by
  unfold fJoinR at h
  have h2 := (fFirst_0 h).2
  unfold fAbove at h2
  split at h2
  · rename_i c
    rw [nI_add] at c
    have := (nI_leI (by omega) (by omega)).mp c
    omega
  · exact absurd h2 (by decide)
def actF (w : WS) (n : Nat) (tl : Int32) (f : Nat → Int32) (s : Nat) : WS :=
  if f s = nI 99 then wI w 2 (w.1 2 ^^^ (nI 1 <<< (dgt tl f (nI s + nI 1) &&& 31)))
  else if f s = nI 100 then wDrop w (blw w n (plW w (dgt tl f (nI s + nI 1)).toNatClampNeg) (blI tl f (nI s))).2.2
  else if f s = nI 109 then wI w 1 (butI (w.1 1) (dgt tl f (nI s + nI 1)))
  else if f s = nI 116 then wJoin w n (dgt tl f (nI s + nI 1)) (dgt tl f (nI s + nI 2)) (dgt tl f (nI s + nI 3))
  else wXch w (dgt tl f (nI s + nI 1)).toNatClampNeg (dgt tl f (nI s + nI 2)).toNatClampNeg
def yO (tl : Int32) : AC := .inr (.inr (7, [.ref 1, .ref 2, .ref 8, .int tl]))
def yC (tl : Int32) (f : Nat → Int32) (md : WS) (s : S3) (w : WS) : AH := yO tl :: .inl (96, f) :: (wC 2 md ++ (uC 8 s ++ wC 10 w))
theorem s_act {md w : WS} {n q st : Nat} {f : Nat → Int32} {s : S3} (hex : wEx md n) (hq : q ≤ 96) (hs : st < q) (hr : refF md (nI q) f st = 0) {K : Option Value → AH → Prop} (hK : ∀ s2, K none (yC (nI q) f (actF md n (nI q) f st) s2 w)) : am_M i_X8_act [.ref 0, .int (nI st)] (yC (nI q) f md s w) K := by
  have e : (nI st).toNatClampNeg = st := nI_clamp (by omega)
  obtain ⟨A, hw⟩ := hex.pl
  have hn := hw.1
  refine e_X8_act [] ?_
  conv => whnf
  refine s_dgt (a := 0) (la := 1) (ta := 2) (ua := 8) (f := f) ⟨rfl, rfl⟩ (by rw [nI_add]; exact vIl hq (by omega)) ?_
  refine b_X8_act [] ?_
  conv => whnf
  refine ⟨(vp_in_nI (by omega) (by decide)), ?_⟩
  conv => whnf
  rw [e]
  refine ⟨fun (s14_99 : _ = nI 99) => ?_, fun (s14_99 : ¬ _ = nI 99) => ?_⟩
  · conv => whnf
    refine b_X8_act [] ?_
    conv => whnf
    refine am_fr [2, 3, 4, 5, 6, 7] (fun K hK => s_turnCut (w := md) hK) rfl rfl ⟨rfl, rfl, rfl, rfl, rfl, rfl, trivial⟩ rfl ?_
    conv => whnf
    refine b_X8_act [] ?_
    conv => whnf
    refine b_X8_act [] ?_
    conv => whnf
    rw [actF, if_pos s14_99] at hK
    exact hK s
  conv => whnf
  refine ⟨fun (s14_100 : _ = nI 100) => ?_, fun (s14_100 : ¬ _ = nI 100) => ?_⟩
  · conv => whnf
    refine b_X8_act [] ?_
    conv => whnf
    refine s_blI (a := 0) (la := 1) (ta := 2) (ua := 8) (f := f) ⟨rfl, rfl⟩ (by rw [nI_add]; exact vIl hq (by omega)) (by rw [nI_add]; exact vIl hq (by omega)) ?_
    refine b_X8_act [] ?_
    conv => whnf
    rw [refF, if_neg s14_99, if_pos s14_100, hn] at hr
    obtain ⟨j, hj, ej⟩ := fDropR_0 (by have := hw.2.1; omega) hr
    have ecl : (nI j).toNatClampNeg = j := nI_clamp (by have := hw.2.1; omega)
    rw [actF, if_neg s14_99, if_pos s14_100, ej, ecl] at hK
    rw [ej]
    refine f_drop (s := s) (w := md) [8, 9, 2, 3, 4, 5, 6, 7] hw hj rfl rfl rfl ⟨rfl, rfl, rfl, rfl, rfl, rfl, rfl, rfl, trivial⟩ (fun s2 hs2 => ?_)
    conv => whnf
    refine b_X8_act [] ?_
    conv => whnf
    refine b_X8_act [] ?_
    conv => whnf
    rw [← hs2.2] at hK
    exact hK s2
  conv => whnf
  refine ⟨fun (s14_109 : _ = nI 109) => ?_, fun (s14_109 : ¬ _ = nI 109) => ?_⟩
  · conv => whnf
    refine b_X8_act [] ?_
    conv => whnf
    refine f_mend (w := md) [2, 3, 4, 5, 6, 7] rfl rfl ⟨rfl, rfl, rfl, rfl, rfl, rfl, trivial⟩ ?_
    conv => whnf
    refine b_X8_act [] ?_
    conv => whnf
    refine b_X8_act [] ?_
    conv => whnf
    rw [actF, if_neg s14_99, if_neg s14_100, if_pos s14_109] at hK
    exact hK s
  conv => whnf
  refine ⟨fun (s14_116 : _ = nI 116) => ?_, fun (s14_116 : ¬ _ = nI 116) => ?_⟩
  · conv => whnf
    refine b_X8_act [] ?_
    conv => whnf
    refine s_dgt (a := 0) (la := 1) (ta := 2) (ua := 8) (f := f) ⟨rfl, rfl⟩ (by rw [nI_add]; exact vIl hq (by omega)) ?_
    refine b_X8_act [] ?_
    conv => whnf
    refine s_dgt (a := 0) (la := 1) (ta := 2) (ua := 8) (f := f) ⟨rfl, rfl⟩ (by rw [nI_add]; exact vIl hq (by omega)) ?_
    refine b_X8_act [] ?_
    conv => whnf
    rw [refF, if_neg s14_99, if_neg s14_100, if_neg s14_109, if_pos s14_116, hn] at hr
    have hn8 := fJoinR_0 hw.2.1 hr
    refine am_fr [2, 3, 4, 5, 6, 7] (fun K hK => s_join hn hn8 hK) rfl rfl ⟨rfl, rfl, rfl, rfl, rfl, rfl, trivial⟩ rfl ?_
    conv => whnf
    refine b_X8_act [] ?_
    conv => whnf
    refine b_X8_act [] ?_
    conv => whnf
    rw [actF, if_neg s14_99, if_neg s14_100, if_neg s14_109, if_pos s14_116] at hK
    exact hK s
  conv => whnf
  refine b_X8_act [] ?_
  conv => whnf
  refine s_dgt (a := 0) (la := 1) (ta := 2) (ua := 8) (f := f) ⟨rfl, rfl⟩ (by rw [nI_add]; exact vIl hq (by omega)) ?_
  refine b_X8_act [] ?_
  conv => whnf
  rw [refF, if_neg s14_99, if_neg s14_100, if_neg s14_109, if_neg s14_116, hn] at hr
  obtain ⟨⟨j, hj, ej⟩, i, hi, ei⟩ := fChgR_0 (by have := hw.2.1; omega) hr
  have ecl : (nI j).toNatClampNeg = j := nI_clamp (by have := hw.2.1; omega)
  have ecl2 : (nI i).toNatClampNeg = i := nI_clamp (by have := hw.2.1; omega)
  rw [actF, if_neg s14_99, if_neg s14_100, if_neg s14_109, if_neg s14_116, ej, ecl, ei, ecl2] at hK
  rw [ej, ei]
  refine am_fr [2, 3, 4, 5, 6, 7] (fun K hK => s_exchange (w := md) hw.2.1 hw.at8 hj hi hK) rfl rfl ⟨rfl, rfl, rfl, rfl, rfl, rfl, trivial⟩ rfl ?_
  conv => whnf
  refine b_X8_act [] ?_
  conv => whnf
  exact hK s
