/-! SPECS of the model: who, what kind -/
theorem tellF_cgg {f f2 g g2 : Nat → Int32} : ∀ (k i : Nat), (∀ j, i ≤ j → j < i + k → f j = f2 j ∧ g j = g2 j) → tellF f g k i = tellF f2 g2 k i := by
  intro k
  induction k with
  | zero => intro i _; rfl
  | succ k ih =>
    intro i h
    rw [tellF, tellF, (h i (Nat.le_refl _) (by omega)).1, (h i (Nat.le_refl _) (by omega)).2, ih (i + 1) (fun j h1 h2 => h j (by omega) (by omega))]
def soG (w : WS) (s : S3) (i : Nat) : Int32 := min99 (fJump (w.2 0 i) (s.1 i))
theorem ml_so {m : MS} {w : WS} {n : Nat} {A P : Nat → Nat} {s : S3} {q : Nat} {f : Nat → Int32} (hb : bwI n s) (h24 : m.1 24 = nI q) (hrow : ∀ j, j < q → m.2 11 j = f j) (hq : q ≤ n) {K : Option Value → AH → Prop} (h : mX m w n A P) : ∀ (k i : Nat) , i + k = q → (K (some (.int (bI (tellF f (soG w s) k i)))) (mC m s.1 s.2.2)) → am_E i_X12_isSo 2 [some (.ref 0), some (.int (nI i)), none] [] (mC m s.1 s.2.2) K := by
  intro k
  induction k with
  | zero =>
    intro i  hi hK
    obtain rfl : i = q := by omega
    have hn8 := h.n8
    refine b_X12_isSo [2] ?_
    conv => whnf
    refine ⟨fun c7 => ?_, fun c7 => absurd (by rw [h24]; exact nI_le (Nat.le_refl _) (by have := h.n8; omega)) c7⟩
    refine b_X12_isSo [2] ?_
    conv => whnf
    refine ⟨(by first | exact Or.inl nI_0 | exact Or.inr nI_one | assumption), ?_⟩
    exact hK
  | succ k ih =>
    intro i  hi hK
    have hn8 := h.n8
    refine b_X12_isSo [2] ?_
    conv => whnf
    refine ⟨fun c7 => absurd c7 (by rw [h24]; exact nI_ge (by omega) (by omega)), fun c7 => ?_⟩
    conv => whnf
    refine ⟨(vp_in_nI (by have := h.n8; omega) (by decide)), ?_⟩
    conv => whnf
    rw [nI_clamp (show i < 2 ^ 31 by have := h.n8; omega)]
    refine m_jm h hb (by omega) ?_
    refine b_X12_isSo [2] ?_
    conv => whnf
    refine ⟨fun c25 => ?_, fun c25 => ?_⟩
    · refine b_X12_isSo [2] ?_
      conv => whnf
      refine ⟨(vp_in_nI (by omega) (by decide)), ?_⟩
      conv => whnf
      rw [nI_clamp (show i < 2 ^ 31 by have := h.n8; omega), hrow i (by omega)]
      refine ⟨fun c40 => ?_, fun c40 => ?_⟩
      · refine b_X12_isSo [2] ?_
        conv => whnf
        have e5 : soG w s i = fJump (w.2 0 i) (s.1 i) := by
          unfold soG min99
          rw [if_neg (Int32.not_lt.mpr c25)]
        rw [tellF, if_pos (by rw [e5]; exact c40.symm)] at hK
        have h2 := ih (i + 1) (by omega) hK
        rw [← nI_add i 1] at h2
        exact am_wk (by exact ⟨Or.inr rfl, Or.inr rfl, Or.inl rfl, trivial⟩) h2
      · conv => whnf
        refine ⟨(by first | exact Or.inl nI_0 | exact Or.inr nI_one | assumption), ?_⟩
        have e5 : soG w s i = fJump (w.2 0 i) (s.1 i) := by
          unfold soG min99
          rw [if_neg (Int32.not_lt.mpr c25)]
        rw [tellF, if_neg (by rw [e5]; exact fun z => c40 z.symm)] at hK
        exact hK
    · conv => whnf
      refine b_X12_isSo [2] ?_
      conv => whnf
      refine ⟨(vp_in_nI (by omega) (by decide)), ?_⟩
      conv => whnf
      rw [nI_clamp (show i < 2 ^ 31 by have := h.n8; omega), hrow i (by omega)]
      refine ⟨fun c40 => ?_, fun c40 => ?_⟩
      · refine b_X12_isSo [2] ?_
        conv => whnf
        have e5 : soG w s i = nI 99 := by
          unfold soG min99
          rw [if_pos (Int32.not_le.mp c25)]
        rw [tellF, if_pos (by rw [e5]; exact c40.symm)] at hK
        have h2 := ih (i + 1) (by omega) hK
        rw [← nI_add i 1] at h2
        exact am_wk (by exact ⟨Or.inr rfl, Or.inr rfl, Or.inl rfl, trivial⟩) h2
      · conv => whnf
        refine ⟨(by first | exact Or.inl nI_0 | exact Or.inr nI_one | assumption), ?_⟩
        have e5 : soG w s i = nI 99 := by
          unfold soG min99
          rw [if_pos (Int32.not_le.mp c25)]
        rw [tellF, if_neg (by rw [e5]; exact fun z => c40 z.symm)] at hK
        exact hK
theorem m_so {m : MS} {w : WS} {n : Nat} {A P : Nat → Nat} {s : S3} {q : Nat} {f : Nat → Int32} (h : mX m w n A P) (hb : bwI n s) (h24 : m.1 24 = nI q) (hrow : ∀ j, j < q → m.2 11 j = f j) (hq : q ≤ n) {K : Option Value → AH → Prop} (hK : K (some (.int (bI (tellF f (soG w s) q 0)))) (mC m s.1 s.2.2)) : am_M i_X12_isSo [.ref 0] (mC m s.1 s.2.2) K := by
  refine e_X12_isSo [2] ?_
  conv => whnf
  exact am_wk (by exact ⟨Or.inr rfl, Or.inr rfl, Or.inl rfl, trivial⟩) (ml_so hb h24 hrow hq h q 0 (by omega) hK)
def drpJ (w : WS) (n : Nat) (P : Nat → Nat) (f : Nat → Int32) (q : Nat) (t v : Nat) (d : Int32 × Int32 × Int32) : Int32 × Int32 × Int32 := if hasB (w.1 1) (nI t) = true then d else drpI w n (P t) t f q v d
theorem drp_100 (w : WS) (n q : Nat) (P : Nat → Nat) (f : Nat → Int32) (d : Int32 × Int32 × Int32) : itr (stp (drpJ w n P f q)) (max 1 (100 * n) - 1) 1 d = itr (drpO w n P f q) n 0 d := by
  rw [itr_100b]
  refine itr_cg _ _ _ (fun t _ _ s => ?_)
  unfold drpO
  by_cases h : hasB (w.1 1) (nI t) = true
  · rw [if_pos h]
    exact itr_id _ _ _ (fun j _ _ s => if_pos h)
  · rw [if_neg h]
    exact itr_cg _ _ _ (fun j _ _ s => if_neg h)
/-- one more dropping, or not -/
def drpM (w : WS) (n q : Nat) (P : Nat → Nat) (f : Nat → Int32) (i : Nat) : Bool := decide (1 ≤ i % 100 ∧ i % 100 ≤ 60) && (!(hasB (w.1 1) (nI (i / 100))) && (decide (q ≤ n) && tellF f (fun j => min99 (fJump (w.2 0 j) ((blw w n (P (i / 100)) (nI (i % 100))).1 j))) q 0))
theorem drp_step (w : WS) (n q : Nat) (P : Nat → Nat) (f : Nat → Int32) (i : Nat) (d : Int32 × Int32 × Int32) : stp (drpJ w n P f q) i d = if drpM w n q P f i = true then (d.1 + nI 1, if d.2.1 = Int32.ofInt (-9) then nI i else d.2.1, d.2.2 ||| (nI 1 <<< (nI (i / 100) &&& 31))) else d := by
  unfold stp drpJ drpI drpM cntD
  by_cases h1 : 1 ≤ i % 100 ∧ i % 100 ≤ 60
  · rw [if_pos h1, decide_eq_true h1, Bool.true_and]
    by_cases h2 : hasB (w.1 1) (nI (i / 100)) = true
    · rw [if_pos h2, h2]; rfl
    · rw [if_neg h2, Bool.not_eq_true _ |>.mp h2, k100]; rfl
  · rw [if_neg h1, decide_eq_false h1]; rfl
def d00 : Int32 × Int32 × Int32 := (nI 0, Int32.ofInt (-9), nI 0)
def d01 (d r : Int32 × Int32 × Int32) : Int32 × Int32 × Int32 := (d.1 + r.1, if d.2.1 = Int32.ofInt (-9) then r.2.1 else d.2.1, d.2.2 ||| r.2.2)
theorem drp_from {M : Nat → Bool} {g : Nat → Int32 × Int32 × Int32 → Int32 × Int32 × Int32} (hg : ∀ i d, g i d = if M i = true then (d.1 + nI 1, if d.2.1 = Int32.ofInt (-9) then nI i else d.2.1, d.2.2 ||| (nI 1 <<< (nI (i / 100) &&& 31))) else d) : ∀ (k i : Nat) (d : Int32 × Int32 × Int32), itr g k i d = d01 d (itr g k i d00) := by
  intro k
  induction k with
  | zero =>
    intro i d
    show d = d01 d d00
    unfold d01 d00
    rw [nI_0, Int32.add_zero, Int32.or_zero]
    obtain ⟨d1, d2, d3⟩ := d
    by_cases h : d2 = Int32.ofInt (-9)
    · simp only [h]; rfl
    · simp only [h]; rfl
  | succ k ih =>
    intro i d
    rw [itr_add, itr_add, ih i d]
    generalize itr g k i d00 = r
    rw [hg, hg]
    by_cases h : M (i + k) = true
    · rw [if_pos h, if_pos h]
      unfold d01
      simp only
      rw [Int32.add_assoc, Int32.or_assoc]
      by_cases h2 : d.2.1 = Int32.ofInt (-9)
      · simp only [h2, ↓reduceIte]
      · simp only [h2, ↓reduceIte]
    · rw [if_neg h, if_neg h]
theorem nI_inc1 (j : Nat) (hj : j < 900) : nI (j + 1) - nI 1 = nI j := nI_p1 j
theorem ml_who {m : MS} {w : WS} {n : Nat} {A P : Nat → Nat} {q : Nat} {f : Nat → Int32} {c z2 : Int32} {K : Option Value → AH → Prop} (h : mX m w n A P) (h24 : m.1 24 = nI q) (hrow : ∀ j, j < q → m.2 11 j = f j) (hq : q ≤ n) : ∀ (j : Nat) (s : S3) (d : Int32 × Int32 × Int32), d = itr (stp (drpJ w n P f q)) (max 1 (100 * n) - 1 - j) (j + 1) d00 → j ≤ max 1 (100 * n) - 1 → (∀ s2 : S3, K (some (.int (if c = nI 0 then (itr (stp (drpJ w n P f q)) (max 1 (100 * n) - 1) 1 d00).1 else if c = nI 1 then (itr (stp (drpJ w n P f q)) (max 1 (100 * n) - 1) 1 d00).2.1 else (itr (stp (drpJ w n P f q)) (max 1 (100 * n) - 1) 1 d00).2.2))) (mC m s2.1 s2.2.2)) → am_E i_X12_who 62 [some (.ref 0), some (.int c), some (.int z2), some (.int d.1), some (.int d.2.1), some (.int d.2.2), some (.int (nI j))] [] (mC m s.1 s.2.2) K := by
  have hn8 := h.n8
  intro j
  induction j with
  | zero =>
    intro s d hd hj hK
    refine b_X12_who [62] ?_
    conv => whnf
    refine ⟨fun c64 => ?_, fun c64 => absurd (by decide) c64⟩
    refine b_X12_who [62] ?_
    conv => whnf
    rw [Nat.sub_zero, Nat.zero_add] at hd
    rw [← hd] at hK
    refine ⟨fun c149 => ?_, fun c149 => ?_⟩
    · conv => whnf
      refine b_X12_who [62] ?_
      conv => whnf
      rw [if_pos (c149.trans nI_0.symm)] at hK
      exact hK s
    · refine b_X12_who [62] ?_
      conv => whnf
      refine ⟨fun c158 => ?_, fun c158 => ?_⟩
      · conv => whnf
        refine b_X12_who [62] ?_
        conv => whnf
        rw [if_neg (fun z => c149 (z.trans nI_0)), if_pos c158] at hK
        exact hK s
      · refine b_X12_who [62] ?_
        conv => whnf
        rw [if_neg (fun z => c149 (z.trans nI_0)), if_neg c158] at hK
        exact hK s
  | succ j ih =>
    intro s d hd hj hK
    have e1 : max 1 (100 * n) - 1 - j = (max 1 (100 * n) - 1 - (j + 1)) + 1 := by omega
    have hstep : itr (stp (drpJ w n P f q)) (max 1 (100 * n) - 1 - j) (j + 1) d00 = if drpM w n q P f (j + 1) = true then d01 (d00.1 + nI 1, nI (j + 1), d00.2.2 ||| (nI 1 <<< (nI ((j + 1) / 100) &&& 31))) d else d := by
      rw [e1, itr, drp_step, hd]
      by_cases hM : drpM w n q P f (j + 1) = true
      · rw [if_pos hM, if_pos hM]
        exact drp_from (fun i d => drp_step w n q P f i d) _ _ _
      · rw [if_neg hM, if_neg hM]
    unfold drpM at hstep
    refine b_X12_who [62] ?_
    conv => whnf
    refine ⟨fun c64 => absurd c64 (fun z => absurd ((nI_leI (a := j + 1) (b := 0) (by omega) (by decide)).mp (by rw [nI_0]; exact z)) (by omega)), fun c64 => ?_⟩
    conv => whnf
    refine ⟨(by decide), ?_⟩
    conv => whnf
    rw [r100 (by omega)]
    refine m_isIn ?_
    rw [fIn_nI (by omega) (by decide) (by decide)]
    refine b_X12_who [62] ?_
    conv => whnf
    refine ⟨fun c78 => ?_, fun c78 => ?_⟩
    · refine b_X12_who [62] ?_
      conv => whnf
      rw [if_neg (by rw [bI_0.mp c78, Bool.false_and]; decide)] at hstep
      have h2 := ih s d hstep.symm (by omega) hK
      rw [← nI_p1 j] at h2
      exact h2
    · conv => whnf
      rw [bI_n0.mp c78, Bool.true_and] at hstep
      have hr := of_decide_eq_true (bI_n0.mp c78)
      refine ⟨(by decide), ?_⟩
      conv => whnf
      rw [d100 (by omega), h.br]
      refine m_hs (by omega) ?_
      refine b_X12_who [62] ?_
      conv => whnf
      refine ⟨fun c93 => ?_, fun c93 => ?_⟩
      · refine b_X12_who [62] ?_
        conv => whnf
        rw [bI_0.mp c93, Bool.not_false, Bool.true_and, decide_eq_true hq, Bool.true_and] at hstep
        refine ⟨(by decide), ?_⟩
        conv => whnf
        
        refine ⟨(by decide), ?_⟩
        conv => whnf
        rw [r100 (by omega), d100 (by omega)]
        refine m_fb (m := m) (s := s) h (by omega) (v_b hr.1 (by omega)) (fun s2 hs2 hb2 => ?_)
        have e6 : tellF f (fun i => min99 (fJump (w.2 0 i) ((blw w n (P ((j + 1) / 100)) (nI ((j + 1) % 100))).1 i))) q 0 = tellF f (soG w s2) q 0 := tellF_cgg _ _ (fun i _ hi => ⟨rfl, by show min99 (fJump (w.2 0 i) _) = min99 (fJump (w.2 0 i) (s2.1 i)); rw [hs2.1 i (by omega)]⟩)
        rw [e6] at hstep
        refine b_X12_who [62] ?_
        conv => whnf
        refine m_so (s := s2) h hb2 h24 hrow hq ?_
        refine b_X12_who [62] ?_
        conv => whnf
        refine ⟨fun c117 => ?_, fun c117 => ?_⟩
        · conv => whnf
          refine b_X12_who [62] ?_
          conv => whnf
          rw [if_neg (by rw [bI_0.mp c117]; decide)] at hstep
          have h2 := ih s2 d hstep.symm (by omega) hK
          rw [← nI_p1 j] at h2
          exact h2
        · refine b_X12_who [62] ?_
          conv => whnf
          refine ⟨(by decide), ?_⟩
          conv => whnf
          rw [d100 (by omega)]
          rw [if_pos (bI_n0.mp c117)] at hstep
          have hq1 : d01 (d00.1 + nI 1, nI (j + 1), d00.2.2 ||| (nI 1 <<< (nI ((j + 1) / 100) &&& 31))) d = (d.1 + nI 1, nI (j + 1), d.2.2 ||| (nI 1 <<< (nI ((j + 1) / 100) &&& 31))) := by
            unfold d01 d00
            simp only
            rw [if_neg (nI_n9 (by omega)), nI_0, Int32.zero_add, Int32.zero_or, Int32.add_comm, Int32.or_comm]
          rw [hq1] at hstep
          have h2 := ih s2 _ hstep.symm (by omega) hK
          rw [← nI_p1 j] at h2
          exact h2
      · conv => whnf
        refine b_X12_who [62] ?_
        conv => whnf
        rw [if_neg (by rw [bI_n0.mp c93, Bool.not_true, Bool.false_and]; decide)] at hstep
        have h2 := ih s d hstep.symm (by omega) hK
        rw [← nI_p1 j] at h2
        exact h2
theorem rt_0 {q n : Nat} {x : Int32} (hx : x = nI n) (hq : q ≤ 12) (hn : n ≤ 8) (h : (if nI q ≤ x then nI 0 else Int32.ofInt (-3)) = 0) : q ≤ n := by
  by_cases c : nI q ≤ x
  · rw [hx] at c; exact (nI_leI (by omega) (by omega)).mp c
  · rw [if_neg c] at h; exact absurd h (by decide)
theorem m_who {a : Ab} {m : MS} {s : S3} {c : Int32} (hI : Inv a) (hM : MR a m)  {K : Option Value → AH → Prop} (hK : ∀ m2 (s2 : S3), MR (qB a (fFirst (fUnk c (nI 2)) (if nI (a.2.2 1) ≤ (a.1 0).1 0 then nI 0 else Int32.ofInt (-3)))) m2 → K (some (.int (qA (fFirst (fUnk c (nI 2)) (if nI (a.2.2 1) ≤ (a.1 0).1 0 then nI 0 else Int32.ofInt (-3))) (if c = nI 0 then (itr (drpO (a.1 0) (nO (a.1 0)) (plW (a.1 0)) (a.2.1 1) (a.2.2 1)) (nO (a.1 0)) 0 (nI 0, Int32.ofInt (-9), nI 0)).1 else if c = nI 1 then (itr (drpO (a.1 0) (nO (a.1 0)) (plW (a.1 0)) (a.2.1 1) (a.2.2 1)) (nO (a.1 0)) 0 (nI 0, Int32.ofInt (-9), nI 0)).2.1 else (itr (drpO (a.1 0) (nO (a.1 0)) (plW (a.1 0)) (a.2.1 1) (a.2.2 1)) (nO (a.1 0)) 0 (nI 0, Int32.ofInt (-9), nI 0)).2.2)))) (mC m2 s2.1 s2.2.2)) : am_M i_X12_who [.ref 0, .int c] (mC m s.1 s.2.2) K := by
  have h := hM.x hI
  have hn := hI.n
  have hn8 := hI.n8
  refine e_X12_who [62] ?_
  conv => whnf
  refine m_isIn ?_
  refine b_X12_who [62] ?_
  conv => whnf
  refine ⟨fun c6 => ?_, fun c6 => ?_⟩
  · conv => whnf
    refine b_X12_who [62] ?_
    conv => whnf
    refine ⟨fun c33 => absurd c33 (by decide), fun c33 => ?_⟩
    conv => whnf
    refine m_no (x := (Int32.ofInt (-2))) (by first | (unfold rfs; decide) | exact fNoBlow_r (by assumption) | exact fFirst_r fNoTh_r fNoTh_r (by assumption)) ?_
    refine b_X12_who [62] ?_
    conv => whnf
    have e0 : (fFirst (fUnk c (nI 2)) (if nI (a.2.2 1) ≤ (a.1 0).1 0 then nI 0 else Int32.ofInt (-3))) = (Int32.ofInt (-2)) := (fFn (in_T c6) (rfs_n (by first | (unfold rfs; decide) | exact fNoBlow_r (by assumption) | exact fFirst_r fNoTh_r fNoTh_r (by assumption))))
    rw [e0, qA_n (rfs_n (by first | (unfold rfs; decide) | exact fNoBlow_r (by assumption) | exact fFirst_r fNoTh_r fNoTh_r (by assumption)))] at hK
    exact hK _ s (hM.bump (by first | (unfold rfs; decide) | exact fNoBlow_r (by assumption) | exact fFirst_r fNoTh_r fNoTh_r (by assumption)))
  · refine b_X12_who [62] ?_
    conv => whnf
    refine ⟨fun c22 => ?_, fun c22 => ?_⟩
    · refine b_X12_who [62] ?_
      conv => whnf
      refine ⟨fun c33 => ?_, fun c33 => absurd (by decide) c33⟩
      refine b_X12_who [62] ?_
      conv => whnf
      have r0 : (fFirst (fUnk c (nI 2)) (if nI (a.2.2 1) ≤ (a.1 0).1 0 then nI 0 else Int32.ofInt (-3))) = 0 := (fF0 (in_F c6) (rt_T hM c22))
      rw [qA_0 r0, qB_0 r0] at hK
      obtain ⟨r1a, r1b⟩ := fFirst_0 r0
      have uc := r1a
      have hrt := r1b
      have hq := rt_0 hn hI.2.2.2.1 hn8 hrt
      rcases Nat.eq_zero_or_pos (nO (a.1 0)) with hz | hz
      · have hk := hK m s hM
        rw [show (itr (drpO (a.1 0) (nO (a.1 0)) (plW (a.1 0)) (a.2.1 1) (a.2.2 1)) (nO (a.1 0)) 0 (nI 0, Int32.ofInt (-9), nI 0)) = (nI 0, Int32.ofInt (-9), nI 0) from by rw [hz]; rfl] at hk
        refine b_X12_who [62] ?_
        conv => whnf
        refine ⟨fun c64 => ?_, fun c64 => absurd (by rw [h.n, hz]; decide) c64⟩
        refine b_X12_who [62] ?_
        conv => whnf
        refine ⟨fun c149 => ?_, fun c149 => ?_⟩
        · conv => whnf
          refine b_X12_who [62] ?_
          conv => whnf
          rw [if_pos (c149.trans nI_0.symm)] at hk
          exact hk
        · refine b_X12_who [62] ?_
          conv => whnf
          refine ⟨fun c158 => ?_, fun c158 => ?_⟩
          · conv => whnf
            refine b_X12_who [62] ?_
            conv => whnf
            rw [if_neg (fun z => c149 (z.trans nI_0)), if_pos c158] at hk
            exact hk
          · refine b_X12_who [62] ?_
            conv => whnf
            rw [if_neg (fun z => c149 (z.trans nI_0)), if_neg c158] at hk
            exact hk
      · rw [show nI 100 * m.1 5 - nI 1 = nI (max 1 (100 * nO (a.1 0)) - 1) from by rw [mul100 h, nI_m _ (by omega)]; congr 1; omega]
        exact ml_who h hM.2.2.1.1 hM.2.2.1.2 hq (max 1 (100 * nO (a.1 0)) - 1) s d00 (by rw [Nat.sub_self]; rfl) (Nat.le_refl _) (fun s2 => by rw [drp_100]; exact hK m s2 hM)
    · conv => whnf
      refine b_X12_who [62] ?_
      conv => whnf
      refine ⟨fun c33 => absurd c33 (by decide), fun c33 => ?_⟩
      conv => whnf
      refine m_no (x := (Int32.ofInt (-3))) (by first | (unfold rfs; decide) | exact fNoBlow_r (by assumption) | exact fFirst_r fNoTh_r fNoTh_r (by assumption)) ?_
      refine b_X12_who [62] ?_
      conv => whnf
      have e0 : (fFirst (fUnk c (nI 2)) (if nI (a.2.2 1) ≤ (a.1 0).1 0 then nI 0 else Int32.ofInt (-3))) = (Int32.ofInt (-3)) := (fF0 (in_F c6) (rt_F hM c22))
      rw [e0, qA_n (rfs_n (by first | (unfold rfs; decide) | exact fNoBlow_r (by assumption) | exact fFirst_r fNoTh_r fNoTh_r (by assumption)))] at hK
      exact hK _ s (hM.bump (by first | (unfold rfs; decide) | exact fNoBlow_r (by assumption) | exact fFirst_r fNoTh_r fNoTh_r (by assumption)))
theorem mR.K {m : MS} {w : WS} {c x : Nat} {g : Nat → Int32} {z : Int32} (h : mR m w) (hc : c < 4) (hg : ∀ j, j ≠ x → g j = m.2 (c + 1) j) : mR (setA m (c + 1) (upd g x z)) (wK w c x z) := by
  refine ⟨h.1, fun i hi j hj => ?_⟩
  show va_up m.2 (c + 1) (upd g x z) (i + 1) j = va_up w.2 c (upd (w.2 c) x z) i j
  unfold va_up
  by_cases q : i = c
  · subst q
    rw [if_pos rfl, if_pos rfl]
    unfold upd
    by_cases q2 : j = x
    · rw [if_pos q2, if_pos q2]
    · rw [if_neg q2, if_neg q2, hg j q2]; exact h.2 i hi j hj
  · rw [if_neg (by omega), if_neg q]; exact h.2 i hi j hj
theorem wOk.K {w : WS} {n c x : Nat} {A P : Nat → Nat} {z : Int32} (h : wOk w n A P) (hc : c < 3) : wOk (wK w c x z) n A P := by
  have e : ∀ i, i ≠ c → (wK w c x z).2 i = w.2 i := fun i hi => if_neg hi
  obtain ⟨h1, h2, h3, h4⟩ := h
  refine ⟨h1, h2, fun j hj => ?_, fun t ht => ?_⟩
  · rw [e 3 (by omega)]; exact h3 j hj
  · rw [e 4 (by omega)]; exact h4 t ht
theorem mX.K {m : MS} {w : WS} {n : Nat} {A P : Nat → Nat} {c x : Nat} {g : Nat → Int32} {z : Int32} (h : mX m w n A P) (hc : c < 3) (hg : ∀ j, j ≠ x → g j = m.2 (c + 1) j) : mX (setA m (c + 1) (upd g x z)) (wK w c x z) n A P := ⟨h.1.K (by omega) hg, h.2.K hc⟩
/-- an array of the model that holds what it held -/
theorem MR.setA {a : Ab} {m : MS} (h : MR a m) {i : Nat} (h1 : 1 ≤ i) (h2 : i ≤ 4) {g : Nat → Int32} (hg : ∀ j, j < 8 → g j = m.2 i j) : MR a (setA m i g) := by
  obtain ⟨a1, a2, a3, a4, a5, a6, a7⟩ := h
  have e : ∀ j, j ≠ i → (Int32 → True) → va_up m.2 i g j = m.2 j := fun j hj _ => if_neg hj
  refine ⟨⟨a1.1, fun j hj k hk => ?_⟩, fun j hj => ?_, ⟨a3.1, fun j hj => ?_⟩, ⟨a4.1, fun j hj => ?_⟩, ⟨a5.1, fun z => ?_⟩, a6, fun k hk => ?_⟩
  · show va_up m.2 i g (j + 1) k = _
    by_cases q : j + 1 = i
    · unfold va_up; rw [if_pos q, hg k hk, ← q]; exact a1.2 j hj k hk
    · unfold va_up; rw [if_neg q]; exact a1.2 j hj k hk
  · show va_up m.2 i g 0 j = _
    rw [e 0 (by omega) (fun _ => trivial)]; exact a2 j hj
  · show va_up m.2 i g 11 j = _
    rw [e 11 (by omega) (fun _ => trivial)]; exact a3.2 j hj
  · show va_up m.2 i g 5 j = _
    rw [e 5 (by omega) (fun _ => trivial)]; exact a4.2 j hj
  · show kpt (va_up m.2 i g 9) 0 _
    rw [e 9 (by omega) (fun _ => trivial)]; exact a5.2 z
  · show kpt (va_up m.2 i g 9) _ _
    rw [e 9 (by omega) (fun _ => trivial)]; exact a7 k hk
theorem ml_bfk {m : MS} {w : WS} {n : Nat} {A P : Nat → Nat} {t x q N : Nat} {v ov z3 : Int32} {f : Nat → Int32} (ht : t < n) (hx : x < 8) (hN : N < 20) (hz3 : z3 = nI N) (hv : ¬ v ≤ 0) (h24 : m.1 24 = nI q) (hrow : ∀ j, j < q → m.2 11 j = f j) (hq : q ≤ n) {K : Option Value → AH → Prop} (h : mX m w n A P) : ∀ (k i : Nat) (s : S3) (g : Nat → Int32) (fd : Int32) (hg : ∀ j, j ≠ x → g j = m.2 1 j), i + k = N → (∀ (s2 : S3) (g2 : Nat → Int32), (∀ j, j ≠ x → g2 j = m.2 1 j) → g2 x = ov → K (some (.int (itr (kndF w 0 n x (P t) v f q) k i fd))) (mC (setA m 1 g2) s2.1 s2.2.2)) → am_E i_X12_bitsFor 11 [some (.ref 0), some (.ref 2), some (.int (nI x)), some (.int z3), some (.int (nI t)), some (.int v), some (.int ov), some (.int fd), some (.int (nI i))] [] (mC (setA m 1 g) s.1 s.2.2) K := by
  intro k
  induction k with
  | zero =>
    intro i s g fd hg hi hK
    obtain rfl : i = N := by omega
    refine b_X12_bitsFor [11] ?_
    conv => whnf
    refine ⟨fun c14 => ?_, fun c14 => absurd (by rw [hz3]; exact nI_le (Nat.le_refl _) (by omega)) c14⟩
    refine b_X12_bitsFor [11] ?_
    conv => whnf
    refine ⟨(vp_in_nI hx (by decide)), ?_⟩
    rw [nI_clamp (show x < 2 ^ 31 by omega)]
    conv => whnf
    exact hK s (upd g x ov) (fun j hj => (if_neg hj).trans (hg j hj)) (if_pos rfl)
  | succ k ih =>
    intro i s g fd hg hi hK
    refine b_X12_bitsFor [11] ?_
    conv => whnf
    refine ⟨fun c14 => absurd c14 (by rw [hz3]; exact nI_ge (by omega) (by omega)), fun c14 => ?_⟩
    conv => whnf
    refine ⟨(vp_in_nI hx (by decide)), ?_⟩
    rw [nI_clamp (show x < 2 ^ 31 by omega)]
    conv => whnf
    have h3 : mX (setA m 1 (upd g x (nI i))) (wK w 0 x (nI i)) n A P := h.K (by decide) hg
    refine m_fb (m := (setA m 1 (upd g x (nI i)))) (s := s) h3 ht hv (fun s2 hs2 hb2 => ?_)
    refine b_X12_bitsFor [11] ?_
    conv => whnf
    have e6 : kndF w 0 n x (P t) v f q i fd = if tellF f (soG (wK w 0 x (nI i)) s2) q 0 = true then fd ||| (nI 1 <<< (nI i &&& 31)) else fd := by
      unfold kndF
      rw [decide_eq_true hq, Bool.true_and, tellF_cgg (f2 := f) (g2 := soG (wK w 0 x (nI i)) s2) _ _ (fun j _ hj => ⟨rfl, by show min99 (fJump _ _) = min99 (fJump _ (s2.1 j)); rw [hs2.1 j (by have := h.n8; omega)]⟩)]
    simp only [itr, e6] at hK
    refine m_so (m := (setA m 1 (upd g x (nI i)))) (s := s2) h3 hb2 h24 hrow hq ?_
    refine b_X12_bitsFor [11] ?_
    conv => whnf
    refine ⟨fun c36 => ?_, fun c36 => ?_⟩
    · refine b_X12_bitsFor [11] ?_
      conv => whnf
      rw [show fd ||| nI 0 = fd by rw [nI_0, Int32.or_zero]]
      rw [bI_0.mp c36] at hK
      have h2 := ih (i + 1) s2 (upd g x (nI i)) fd (fun j hj => (if_neg hj).trans (hg j hj)) (by omega) hK
      rw [← nI_add i 1] at h2
      exact h2
    · conv => whnf
      refine b_X12_bitsFor [11] ?_
      conv => whnf
      rw [bI_n0.mp c36] at hK
      have h2 := ih (i + 1) s2 (upd g x (nI i)) (fd ||| (nI 1 <<< (nI i &&& 31))) (fun j hj => (if_neg hj).trans (hg j hj)) (by omega) hK
      rw [← nI_add i 1] at h2
      exact h2
theorem m_bfk {m : MS} {w : WS} {n : Nat} {A P : Nat → Nat} {t x q N : Nat} {v : Int32} {f : Nat → Int32} {s : S3} (h : mX m w n A P) (ht : t < n) (hx : x < 8) (hN : N < 20) (hv : ¬ v ≤ 0) (h24 : m.1 24 = nI q) (hrow : ∀ j, j < q → m.2 11 j = f j) (hq : q ≤ n) {K : Option Value → AH → Prop} (hK : ∀ (s2 : S3) (g2 : Nat → Int32), (∀ j, g2 j = m.2 1 j) → K (some (.int (itr (kndF w 0 n x (P t) v f q) N 0 (nI 0)))) (mC (setA m 1 g2) s2.1 s2.2.2)) : am_M i_X12_bitsFor [.ref 0, .ref 2, .int (nI x), .int (nI N), .int (nI t), .int v] (mC m s.1 s.2.2) K := by
  refine e_X12_bitsFor [11] ?_
  conv => whnf
  refine ⟨(vp_in_nI hx (by decide)), ?_⟩
  conv => whnf
  rw [nI_clamp (show x < 2 ^ 31 by omega)]
  exact ml_bfk ht hx hN rfl hv h24 hrow hq h N 0 s (m.2 1) (nI 0) (fun _ _ => rfl) (by omega) (fun s2 g2 h1 h2 => hK s2 g2 (fun j => if z : j = x then z ▸ h2 else h1 j z))
theorem ml_bff {m : MS} {w : WS} {n : Nat} {A P : Nat → Nat} {t x q N : Nat} {v ov z3 : Int32} {f : Nat → Int32} (ht : t < n) (hx : x < 8) (hN : N < 20) (hz3 : z3 = nI N) (hv : ¬ v ≤ 0) (h24 : m.1 24 = nI q) (hrow : ∀ j, j < q → m.2 11 j = f j) (hq : q ≤ n) {K : Option Value → AH → Prop} (h : mX m w n A P) : ∀ (k i : Nat) (s : S3) (g : Nat → Int32) (fd : Int32) (hg : ∀ j, j ≠ x → g j = m.2 2 j), i + k = N → (∀ (s2 : S3) (g2 : Nat → Int32), (∀ j, j ≠ x → g2 j = m.2 2 j) → g2 x = ov → K (some (.int (itr (kndF w 1 n x (P t) v f q) k i fd))) (mC (setA m 2 g2) s2.1 s2.2.2)) → am_E i_X12_bitsFor 11 [some (.ref 0), some (.ref 3), some (.int (nI x)), some (.int z3), some (.int (nI t)), some (.int v), some (.int ov), some (.int fd), some (.int (nI i))] [] (mC (setA m 2 g) s.1 s.2.2) K := by
  intro k
  induction k with
  | zero =>
    intro i s g fd hg hi hK
    obtain rfl : i = N := by omega
    refine b_X12_bitsFor [11] ?_
    conv => whnf
    refine ⟨fun c14 => ?_, fun c14 => absurd (by rw [hz3]; exact nI_le (Nat.le_refl _) (by omega)) c14⟩
    refine b_X12_bitsFor [11] ?_
    conv => whnf
    refine ⟨(vp_in_nI hx (by decide)), ?_⟩
    rw [nI_clamp (show x < 2 ^ 31 by omega)]
    conv => whnf
    exact hK s (upd g x ov) (fun j hj => (if_neg hj).trans (hg j hj)) (if_pos rfl)
  | succ k ih =>
    intro i s g fd hg hi hK
    refine b_X12_bitsFor [11] ?_
    conv => whnf
    refine ⟨fun c14 => absurd c14 (by rw [hz3]; exact nI_ge (by omega) (by omega)), fun c14 => ?_⟩
    conv => whnf
    refine ⟨(vp_in_nI hx (by decide)), ?_⟩
    rw [nI_clamp (show x < 2 ^ 31 by omega)]
    conv => whnf
    have h3 : mX (setA m 2 (upd g x (nI i))) (wK w 1 x (nI i)) n A P := h.K (by decide) hg
    refine m_fb (m := (setA m 2 (upd g x (nI i)))) (s := s) h3 ht hv (fun s2 hs2 hb2 => ?_)
    refine b_X12_bitsFor [11] ?_
    conv => whnf
    have e6 : kndF w 1 n x (P t) v f q i fd = if tellF f (soG (wK w 1 x (nI i)) s2) q 0 = true then fd ||| (nI 1 <<< (nI i &&& 31)) else fd := by
      unfold kndF
      rw [decide_eq_true hq, Bool.true_and, tellF_cgg (f2 := f) (g2 := soG (wK w 1 x (nI i)) s2) _ _ (fun j _ hj => ⟨rfl, by show min99 (fJump _ _) = min99 (fJump _ (s2.1 j)); rw [hs2.1 j (by have := h.n8; omega)]⟩)]
    simp only [itr, e6] at hK
    refine m_so (m := (setA m 2 (upd g x (nI i)))) (s := s2) h3 hb2 h24 hrow hq ?_
    refine b_X12_bitsFor [11] ?_
    conv => whnf
    refine ⟨fun c36 => ?_, fun c36 => ?_⟩
    · refine b_X12_bitsFor [11] ?_
      conv => whnf
      rw [show fd ||| nI 0 = fd by rw [nI_0, Int32.or_zero]]
      rw [bI_0.mp c36] at hK
      have h2 := ih (i + 1) s2 (upd g x (nI i)) fd (fun j hj => (if_neg hj).trans (hg j hj)) (by omega) hK
      rw [← nI_add i 1] at h2
      exact h2
    · conv => whnf
      refine b_X12_bitsFor [11] ?_
      conv => whnf
      rw [bI_n0.mp c36] at hK
      have h2 := ih (i + 1) s2 (upd g x (nI i)) (fd ||| (nI 1 <<< (nI i &&& 31))) (fun j hj => (if_neg hj).trans (hg j hj)) (by omega) hK
      rw [← nI_add i 1] at h2
      exact h2
theorem m_bff {m : MS} {w : WS} {n : Nat} {A P : Nat → Nat} {t x q N : Nat} {v : Int32} {f : Nat → Int32} {s : S3} (h : mX m w n A P) (ht : t < n) (hx : x < 8) (hN : N < 20) (hv : ¬ v ≤ 0) (h24 : m.1 24 = nI q) (hrow : ∀ j, j < q → m.2 11 j = f j) (hq : q ≤ n) {K : Option Value → AH → Prop} (hK : ∀ (s2 : S3) (g2 : Nat → Int32), (∀ j, g2 j = m.2 2 j) → K (some (.int (itr (kndF w 1 n x (P t) v f q) N 0 (nI 0)))) (mC (setA m 2 g2) s2.1 s2.2.2)) : am_M i_X12_bitsFor [.ref 0, .ref 3, .int (nI x), .int (nI N), .int (nI t), .int v] (mC m s.1 s.2.2) K := by
  refine e_X12_bitsFor [11] ?_
  conv => whnf
  refine ⟨(vp_in_nI hx (by decide)), ?_⟩
  conv => whnf
  rw [nI_clamp (show x < 2 ^ 31 by omega)]
  exact ml_bff ht hx hN rfl hv h24 hrow hq h N 0 s (m.2 2) (nI 0) (fun _ _ => rfl) (by omega) (fun s2 g2 h1 h2 => hK s2 g2 (fun j => if z : j = x then z ▸ h2 else h1 j z))
theorem m_whatKind {a : Ab} {m : MS} {s : S3} {x v y c : Int32} (hI : Inv a) (hM : MR a m)  {K : Option Value → AH → Prop} (hK : ∀ m2 (s2 : S3), MR (qB a (fFirst (fFirst (fFirst (fFirst (fNoTh ((a.1 0).1 0) x) (fNoTh ((a.1 0).1 0) y)) (fNoBlow v)) (fUnk c (nI 1))) (if nI (a.2.2 1) ≤ (a.1 0).1 0 then nI 0 else Int32.ofInt (-3)))) m2 → K (some (.int (qA (fFirst (fFirst (fFirst (fFirst (fNoTh ((a.1 0).1 0) x) (fNoTh ((a.1 0).1 0) y)) (fNoBlow v)) (fUnk c (nI 1))) (if nI (a.2.2 1) ≤ (a.1 0).1 0 then nI 0 else Int32.ofInt (-3))) (if c = 0 then itr (kndF (a.1 0) 0 (nO (a.1 0)) y.toNatClampNeg ((plW (a.1 0)) x.toNatClampNeg) v (a.2.1 1) (a.2.2 1)) 6 0 (nI 0) else itr (kndF (a.1 0) 1 (nO (a.1 0)) y.toNatClampNeg ((plW (a.1 0)) x.toNatClampNeg) v (a.2.1 1) (a.2.2 1)) 10 0 (nI 0))))) (mC m2 s2.1 s2.2.2)) : am_M i_X12_whatKind [.ref 0, .int x, .int v, .int y, .int c] (mC m s.1 s.2.2) K := by
  have h := hM.x hI
  have hn := hI.n
  have hn8 := hI.n8
  refine e_X12_whatKind [] ?_
  conv => whnf
  refine m_n2 hM ?_
  refine b_X12_whatKind [] ?_
  conv => whnf
  refine ⟨fun c10 => ?_, fun c10 => ?_⟩
  · conv => whnf
    refine m_nb ?_
    refine b_X12_whatKind [] ?_
    conv => whnf
    refine ⟨fun c21 => ?_, fun c21 => ?_⟩
    · conv => whnf
      refine m_isIn ?_
      refine b_X12_whatKind [] ?_
      conv => whnf
      refine ⟨fun c31 => ?_, fun c31 => ?_⟩
      · conv => whnf
        refine b_X12_whatKind [] ?_
        conv => whnf
        refine ⟨fun c60 => absurd c60 (by decide), fun c60 => ?_⟩
        conv => whnf
        refine m_no (x := (Int32.ofInt (-2))) (by first | (unfold rfs; decide) | exact fNoBlow_r (by assumption) | exact fFirst_r fNoTh_r fNoTh_r (by assumption)) ?_
        refine b_X12_whatKind [] ?_
        conv => whnf
        have e0 : (fFirst (fFirst (fFirst (fFirst (fNoTh ((a.1 0).1 0) x) (fNoTh ((a.1 0).1 0) y)) (fNoBlow v)) (fUnk c (nI 1))) (if nI (a.2.2 1) ≤ (a.1 0).1 0 then nI 0 else Int32.ofInt (-3))) = (Int32.ofInt (-2)) := (fFn (fF0 (fF0 c10 c21) (in_T c31)) (rfs_n (by first | (unfold rfs; decide) | exact fNoBlow_r (by assumption) | exact fFirst_r fNoTh_r fNoTh_r (by assumption))))
        rw [e0, qA_n (rfs_n (by first | (unfold rfs; decide) | exact fNoBlow_r (by assumption) | exact fFirst_r fNoTh_r fNoTh_r (by assumption)))] at hK
        exact hK _ s (hM.bump (by first | (unfold rfs; decide) | exact fNoBlow_r (by assumption) | exact fFirst_r fNoTh_r fNoTh_r (by assumption)))
      · refine b_X12_whatKind [] ?_
        conv => whnf
        refine ⟨fun c47 => ?_, fun c47 => ?_⟩
        · refine b_X12_whatKind [] ?_
          conv => whnf
          refine ⟨fun c60 => ?_, fun c60 => absurd (by decide) c60⟩
          refine b_X12_whatKind [] ?_
          conv => whnf
          have r0 : (fFirst (fFirst (fFirst (fFirst (fNoTh ((a.1 0).1 0) x) (fNoTh ((a.1 0).1 0) y)) (fNoBlow v)) (fUnk c (nI 1))) (if nI (a.2.2 1) ≤ (a.1 0).1 0 then nI 0 else Int32.ofInt (-3))) = 0 := (fF0 (fF0 (fF0 c10 c21) (in_F c31)) (rt_T hM c47))
          rw [qA_0 r0, qB_0 r0] at hK
          obtain ⟨r2a, r2b⟩ := fFirst_0 r0
          obtain ⟨r3a, r3b⟩ := fFirst_0 r2a
          obtain ⟨r4a, r4b⟩ := fFirst_0 r3a
          obtain ⟨r5a, r5b⟩ := fFirst_0 r4a
          obtain ⟨x_, hx, rfl⟩ := fNoTh_0 (n := nO (a.1 0)) (by omega) (by rw [← hn]; exact r5a)
          have ex : (nI x_).toNatClampNeg = x_ := nI_clamp (by omega)
          try rw [ex] at hK
          obtain ⟨y_, hy, rfl⟩ := fNoTh_0 (n := nO (a.1 0)) (by omega) (by rw [← hn]; exact r5b)
          have ey : (nI y_).toNatClampNeg = y_ := nI_clamp (by omega)
          try rw [ey] at hK
          obtain ⟨v_, hv1, hv2, rfl⟩ := fNoBlow_0 r4b
          have hv0 : ¬ nI v_ ≤ 0 := v_b hv1 (by omega)
          have uc := r3b
          have hrt := r2b
          have hq := rt_0 hn hI.2.2.2.1 hn8 hrt
          refine ⟨fun c72 => ?_, fun c72 => ?_⟩
          · conv => whnf
            rw [if_pos c72] at hK
            refine m_bfk h hx (by omega) (by decide) hv0 hM.2.2.1.1 hM.2.2.1.2 hq (fun s2 g2 hg2 => ?_)
            refine b_X12_whatKind [] ?_
            conv => whnf
            refine b_X12_whatKind [] ?_
            conv => whnf
            exact hK _ s2 (hM.setA (by decide) (by decide) (fun j _ => hg2 j))
          · refine b_X12_whatKind [] ?_
            conv => whnf
            rw [if_neg c72] at hK
            refine m_bff h hx (by omega) (by decide) hv0 hM.2.2.1.1 hM.2.2.1.2 hq (fun s2 g2 hg2 => ?_)
            refine b_X12_whatKind [] ?_
            conv => whnf
            exact hK _ s2 (hM.setA (by decide) (by decide) (fun j _ => hg2 j))
        · conv => whnf
          refine b_X12_whatKind [] ?_
          conv => whnf
          refine ⟨fun c60 => absurd c60 (by decide), fun c60 => ?_⟩
          conv => whnf
          refine m_no (x := (Int32.ofInt (-3))) (by first | (unfold rfs; decide) | exact fNoBlow_r (by assumption) | exact fFirst_r fNoTh_r fNoTh_r (by assumption)) ?_
          refine b_X12_whatKind [] ?_
          conv => whnf
          have e0 : (fFirst (fFirst (fFirst (fFirst (fNoTh ((a.1 0).1 0) x) (fNoTh ((a.1 0).1 0) y)) (fNoBlow v)) (fUnk c (nI 1))) (if nI (a.2.2 1) ≤ (a.1 0).1 0 then nI 0 else Int32.ofInt (-3))) = (Int32.ofInt (-3)) := (fF0 (fF0 (fF0 c10 c21) (in_F c31)) (rt_F hM c47))
          rw [e0, qA_n (rfs_n (by first | (unfold rfs; decide) | exact fNoBlow_r (by assumption) | exact fFirst_r fNoTh_r fNoTh_r (by assumption)))] at hK
          exact hK _ s (hM.bump (by first | (unfold rfs; decide) | exact fNoBlow_r (by assumption) | exact fFirst_r fNoTh_r fNoTh_r (by assumption)))
    · refine b_X12_whatKind [] ?_
      conv => whnf
      refine ⟨fun c60 => absurd c60 c21, fun c60 => ?_⟩
      conv => whnf
      refine m_no (x := (fNoBlow v)) (by first | (unfold rfs; decide) | exact fNoBlow_r (by assumption) | exact fFirst_r fNoTh_r fNoTh_r (by assumption)) ?_
      refine b_X12_whatKind [] ?_
      conv => whnf
      have e0 : (fFirst (fFirst (fFirst (fFirst (fNoTh ((a.1 0).1 0) x) (fNoTh ((a.1 0).1 0) y)) (fNoBlow v)) (fUnk c (nI 1))) (if nI (a.2.2 1) ≤ (a.1 0).1 0 then nI 0 else Int32.ofInt (-3))) = (fNoBlow v) := (fFn (fFn (fF0 c10 rfl) (rfs_n (by first | (unfold rfs; decide) | exact fNoBlow_r (by assumption) | exact fFirst_r fNoTh_r fNoTh_r (by assumption)))) (rfs_n (by first | (unfold rfs; decide) | exact fNoBlow_r (by assumption) | exact fFirst_r fNoTh_r fNoTh_r (by assumption))))
      rw [e0, qA_n (rfs_n (by first | (unfold rfs; decide) | exact fNoBlow_r (by assumption) | exact fFirst_r fNoTh_r fNoTh_r (by assumption)))] at hK
      exact hK _ s (hM.bump (by first | (unfold rfs; decide) | exact fNoBlow_r (by assumption) | exact fFirst_r fNoTh_r fNoTh_r (by assumption)))
  · refine b_X12_whatKind [] ?_
    conv => whnf
    refine ⟨fun c21 => absurd c21 c10, fun c21 => ?_⟩
    refine b_X12_whatKind [] ?_
    conv => whnf
    refine ⟨fun c60 => absurd c60 c10, fun c60 => ?_⟩
    conv => whnf
    refine m_no (x := (fFirst (fNoTh ((a.1 0).1 0) x) (fNoTh ((a.1 0).1 0) y))) (by first | (unfold rfs; decide) | exact fNoBlow_r (by assumption) | exact fFirst_r fNoTh_r fNoTh_r (by assumption)) ?_
    refine b_X12_whatKind [] ?_
    conv => whnf
    have e0 : (fFirst (fFirst (fFirst (fFirst (fNoTh ((a.1 0).1 0) x) (fNoTh ((a.1 0).1 0) y)) (fNoBlow v)) (fUnk c (nI 1))) (if nI (a.2.2 1) ≤ (a.1 0).1 0 then nI 0 else Int32.ofInt (-3))) = (fFirst (fNoTh ((a.1 0).1 0) x) (fNoTh ((a.1 0).1 0) y)) := (fFn (fFn (fFn rfl (rfs_n (by first | (unfold rfs; decide) | exact fNoBlow_r (by assumption) | exact fFirst_r fNoTh_r fNoTh_r (by assumption)))) (rfs_n (by first | (unfold rfs; decide) | exact fNoBlow_r (by assumption) | exact fFirst_r fNoTh_r fNoTh_r (by assumption)))) (rfs_n (by first | (unfold rfs; decide) | exact fNoBlow_r (by assumption) | exact fFirst_r fNoTh_r fNoTh_r (by assumption))))
    rw [e0, qA_n (rfs_n (by first | (unfold rfs; decide) | exact fNoBlow_r (by assumption) | exact fFirst_r fNoTh_r fNoTh_r (by assumption)))] at hK
    exact hK _ s (hM.bump (by first | (unfold rfs; decide) | exact fNoBlow_r (by assumption) | exact fFirst_r fNoTh_r fNoTh_r (by assumption)))
