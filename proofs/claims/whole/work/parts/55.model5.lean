/-! SPECS of the model: woman, centre, best mend, best figure, longest, spared -/
def bstR (b : Int32 × Int32) : Prop := b = nob ∨ ∃ t q, t < 100 ∧ q ≤ 8 ∧ b = (nI t, nI q)
theorem bst_t {b : Int32 × Int32} {c q : Nat} (h : bstR b) (hq : q ≤ 8) (z : b.2 < nI q) : fMost b (nI c) (nI q) = (nI c, nI q) := by
  unfold fMost
  rcases h with rfl | ⟨t, q2, h1, h2, rfl⟩
  · exact if_pos rfl
  · rw [if_neg (nI_n9 (by omega)), if_neg (Int32.not_le.mpr z)]
theorem bst_f {b : Int32 × Int32} {c q : Nat} (h : bstR b) (hq : q ≤ 8) (z : ¬ b.2 < nI q) : fMost b (nI c) (nI q) = b := by
  unfold fMost
  rcases h with rfl | ⟨t, q2, h1, h2, rfl⟩
  · refine absurd ?_ z
    have : ∀ q, q < 9 → Int32.ofInt (-9) < nI q := by decide +kernel
    exact this q (by omega)
  · rw [if_neg (nI_n9 (by omega)), if_pos (Int32.not_lt.mp z)]
theorem bwI.oc {n : Nat} {s : S3} (h : bwI n s) (hn : n ≤ 8) (x : Int32) : ∃ q, q ≤ 8 ∧ fBc (butI s.2.2 x) = nI q ∧ fBits (butI s.2.2 x) = nI q := by
  obtain ⟨k, h1, h2⟩ := but_small (y := (nI 1 <<< (x &&& 31)) ^^^ Int32.ofInt (-1)) hn h.vic
  exact ⟨pcN 8 k, pcN_le 8 k, by unfold butI; rw [h2, fBc_pc h1], by unfold butI; rw [h2, fBits_fBc h1, fBc_pc h1]⟩
theorem m_oth {m : MS} {w : WS} {n : Nat} {A P : Nat → Nat} {s : S3} {v : Int32} {t : Nat} (h : mX m w n A P) (ht : t < n) (hv : ¬ v ≤ 0) {K : Option Value → AH → Prop} (hK : ∀ (s2 : S3) (q : Nat), q ≤ 8 → fBc (butI (blw w n (P t) v).2.2 (nI t)) = nI q → K (some (.int (nI q))) (mC m s2.1 s2.2.2)) : am_M i_X12_others [.ref 0, .int (nI t), .int v] (mC m s.1 s.2.2) K := by
  refine e_X12_others [] ?_
  conv => whnf
  refine m_fb (m := m) (s := s) h ht hv (fun s2 hs2 hb2 => ?_)
  obtain ⟨q, hq, e1, e2⟩ := hb2.oc h.n8 (nI t)
  rw [hs2.2] at e1
  refine b_X12_others [] ?_
  conv => whnf
  refine m_bits ?_
  have h9 := hK s2 q hq e1
  rw [← e2] at h9
  refine b_X12_others [] ?_
  conv => whnf
  exact h9
theorem ois_cut {w : WS} {n p t i : Nat} {v x : Int32} (hi : i < 32) (h : hasB (w.1 2) (nI i) = true) : oisI w n p t v i x = x := if_pos (by rw [fCut_hasB hi]; exact h)
theorem ml_ltr {m : MS} {w : WS} {n : Nat} {A P : Nat → Nat} {v ov : Int32} {t qb : Nat} (ht : t < n) (hv : ¬ v ≤ 0) (hov : ov = m.1 7) (hqb8 : qb ≤ 8) (hqb : fBc (butI (blw w n (P t) v).2.2 (nI t)) = nI qb) {K : Option Value → AH → Prop} (h : mX m w n A P) : ∀ (k i : Nat) (s : S3) (x : Int32) (z : Int32) (hxb : x ≤ nI qb), i + k = n - 1 → (∀ s2 : S3, K (some (.int (itr (oisI w n (P t) t v) k i x))) (mC m s2.1 s2.2.2)) → am_E i_X12_leftToHer 16 [some (.ref 0), some (.int (nI t)), some (.int v), some (.int x), some (.int ov), some (.int (nI i)), none] [] (mC (setI m 7 z) s.1 s.2.2) K := by
  intro k
  induction k with
  | zero =>
    intro i s x z hxb hi hK
    obtain rfl : i = n - 1 := by omega
    refine b_X12_leftToHer [16] ?_
    conv => whnf
    refine ⟨fun c24 => ?_, fun c24 => absurd (lkT2 (m := m) h (Nat.le_refl _) (by have := h.n8; omega)) c24⟩
    refine b_X12_leftToHer [16] ?_
    conv => whnf
    have h9 := hK s
    rw [← setI_same hov] at h9
    exact h9
  | succ k ih =>
    intro i s x z hxb hi hK
    have hn8 := h.n8
    refine b_X12_leftToHer [16] ?_
    conv => whnf
    refine ⟨fun c24 => absurd c24 (lkF2 (m := m) h (by omega)), fun c24 => ?_⟩
    conv => whnf
    have hcc : (hasB (w.1 2) (nI i) = true ∧ ∃ w2, w2 = w ∧ mX (setI m 7 (ov ||| (nI 1 <<< (nI i &&& 31)))) w2 n A P) ∨ (hasB (w.1 2) (nI i) = false ∧ ∃ w2, w2 = turnW w i ∧ mX (setI m 7 (ov ||| (nI 1 <<< (nI i &&& 31)))) w2 n A P) := by
      cases hc : hasB (w.1 2) (nI i)
      · refine Or.inr ⟨rfl, _, rfl, ?_⟩
        have e2 : wI w 2 (ov ||| (nI 1 <<< (nI i &&& 31))) = turnW w i := by
          unfold turnW
          rw [hov, h.cu, or_xor (by omega) hc]
        rw [← e2]
        exact h.I (i := 2) (by decide) (by decide) _
      · refine Or.inl ⟨rfl, _, rfl, ?_⟩
        rw [show ov ||| (nI 1 <<< (nI i &&& 31)) = m.1 7 from by rw [hov, h.cu, or_has (by omega) hc], setI_same rfl]
        exact h
    obtain ⟨w3, hw3, h3⟩ : ∃ w3, ((hasB (w.1 2) (nI i) = true ∧ w3 = w) ∨ (hasB (w.1 2) (nI i) = false ∧ w3 = turnW w i)) ∧ mX (setI m 7 (ov ||| (nI 1 <<< (nI i &&& 31)))) w3 n A P := by
      rcases hcc with ⟨a1, w2, a2, a3⟩ | ⟨a1, w2, a2, a3⟩
      · exact ⟨w2, Or.inl ⟨a1, a2⟩, a3⟩
      · exact ⟨w2, Or.inr ⟨a1, a2⟩, a3⟩
    refine m_oth (m := (setI m 7 (ov ||| (nI 1 <<< (nI i &&& 31))))) (s := s) h3 ht hv (fun s2 q hq eq => ?_)
    refine b_X12_leftToHer [16] ?_
    conv => whnf
    refine ⟨fun c49 => ?_, fun c49 => ?_⟩
    · refine b_X12_leftToHer [16] ?_
      conv => whnf
      rcases hw3 with ⟨hc, rfl⟩ | ⟨hc, rfl⟩
      · have e1 : oisI w3 n (P t) t v i x = x := ois_cut (by omega) hc
        simp only [itr, e1] at hK
        have e5 : q = qb := (nI_eq (by omega) (by omega)).mp (eq.symm.trans hqb)
        have h2 := ih (i + 1) s2 x (ov ||| (nI 1 <<< (nI i &&& 31))) hxb (by omega) hK
        rw [← nI_add i 1] at h2
        exact am_wk (by exact ⟨Or.inr rfl, Or.inr rfl, Or.inr rfl, Or.inr rfl, Or.inr rfl, Or.inr rfl, Or.inl rfl, trivial⟩) h2
      · have e1 : oisI w n (P t) t v i x = minI x (nI q) := by
          unfold oisI
          rw [if_neg (by rw [fCut_hasB (by omega), hc]; decide), eq]
        have e6 : minI x (nI q) = x := if_neg (Int32.not_lt.mpr c49)
        rw [e6] at e1
        simp only [itr, e1] at hK
        have h2 := ih (i + 1) s2 (x) (ov ||| (nI 1 <<< (nI i &&& 31))) hxb (by omega) hK
        rw [← nI_add i 1] at h2
        exact am_wk (by exact ⟨Or.inr rfl, Or.inr rfl, Or.inr rfl, Or.inr rfl, Or.inr rfl, Or.inr rfl, Or.inl rfl, trivial⟩) h2
    · conv => whnf
      refine b_X12_leftToHer [16] ?_
      conv => whnf
      rcases hw3 with ⟨hc, rfl⟩ | ⟨hc, rfl⟩
      · have e1 : oisI w3 n (P t) t v i x = x := ois_cut (by omega) hc
        simp only [itr, e1] at hK
        have e5 : q = qb := (nI_eq (by omega) (by omega)).mp (eq.symm.trans hqb)
        exact absurd (Int32.lt_of_lt_of_le (show nI q < x from Int32.not_le.mp c49) hxb) (by rw [e5]; exact Int32.lt_irrefl)
      · have e1 : oisI w n (P t) t v i x = minI x (nI q) := by
          unfold oisI
          rw [if_neg (by rw [fCut_hasB (by omega), hc]; decide), eq]
        have e6 : minI x (nI q) = nI q := if_pos (Int32.not_le.mp c49)
        rw [e6] at e1
        simp only [itr, e1] at hK
        have h2 := ih (i + 1) s2 (nI q) (ov ||| (nI 1 <<< (nI i &&& 31))) (Int32.le_trans (Int32.le_of_lt (Int32.not_le.mp c49)) hxb) (by omega) hK
        rw [← nI_add i 1] at h2
        exact am_wk (by exact ⟨Or.inr rfl, Or.inr rfl, Or.inr rfl, Or.inr rfl, Or.inr rfl, Or.inr rfl, Or.inl rfl, trivial⟩) h2
theorem m_ltr {m : MS} {w : WS} {n : Nat} {A P : Nat → Nat} {s : S3} {v : Int32} {t : Nat} (h : mX m w n A P) (ht : t < n) (hv : ¬ v ≤ 0) {K : Option Value → AH → Prop} (hK : ∀ (s2 : S3), K (some (.int (oisF w n (P t) t v))) (mC m s2.1 s2.2.2)) : am_M i_X12_leftToHer [.ref 0, .int (nI t), .int v] (mC m s.1 s.2.2) K := by
  refine e_X12_leftToHer [16] ?_
  conv => whnf
  refine m_oth h ht hv (fun s2 q hq eq => ?_)
  refine b_X12_leftToHer [16] ?_
  conv => whnf
  have h2 := ml_ltr ht hv rfl hq eq h (n - 1) 0 s2 (nI q) (m.1 7) (Int32.le_refl _) (by omega) (fun s3 => by have h9 := hK s3; unfold oisF at h9; rw [eq] at h9; exact h9)
  rw [setI_same rfl] at h2
  exact am_wk (by exact ⟨Or.inr rfl, Or.inr rfl, Or.inr rfl, Or.inr rfl, Or.inr rfl, Or.inr rfl, Or.inl rfl, trivial⟩) h2
theorem ois_q {w : WS} {n t : Nat} {A P : Nat → Nat} {v : Int32} (hw : wOk w n A P) (ht : t < n) : ∃ q, q ≤ 8 ∧ oisF w n (P t) t v = nI q := by
  have hp := (hw.2.2.2 t ht).2.1
  refine itr_inv (R := fun x => ∃ q, q ≤ 8 ∧ x = nI q) _ _ _ ?_ (fun j x _ _ hR => ?_)
  · obtain ⟨q, h1, h2, -⟩ := (bw_blw hw hp v).oc hw.2.1 (nI t)
    exact ⟨q, h1, h2⟩
  · unfold oisI
    by_cases c : fCut (w.1 2) (nI j) = true
    · rw [if_pos c]; exact hR
    · rw [if_neg c]
      unfold minI
      obtain ⟨q, h1, h2, -⟩ := (bw_blw (show wOk (turnW w j) n A P from hw) hp v).oc hw.2.1 (nI t)
      split
      · exact ⟨q, h1, h2⟩
      · exact hR
theorem ml_wom {m : MS} {w : WS} {n : Nat} {A P : Nat → Nat} {v c z3 : Int32} (hv : ¬ v ≤ 0) {K : Option Value → AH → Prop} (h : mX m w n A P) : ∀ (k i : Nat) (s : S3) (b : Int32 × Int32) (hb : bstR b), i + k = n → (∀ s2 : S3, K (some (.int (if c = 0 then (itr (womI w n P v) k i b).2 else (itr (womI w n P v) k i b).1))) (mC m s2.1 s2.2.2)) → am_E i_X12_woman 42 [some (.ref 0), some (.int v), some (.int c), some (.int z3), some (.int b.1), some (.int b.2), some (.int (nI i))] [] (mC m s.1 s.2.2) K := by
  intro k
  induction k with
  | zero =>
    intro i s b hb hi hK
    obtain rfl : i = n := by omega
    refine b_X12_woman [42] ?_
    conv => whnf
    refine ⟨fun c48 => ?_, fun c48 => absurd (by rw [h.n]; exact nI_le (Nat.le_refl _) (by have := h.n8; omega)) c48⟩
    refine b_X12_woman [42] ?_
    conv => whnf
    refine ⟨fun c98 => ?_, fun c98 => ?_⟩
    · conv => whnf
      refine b_X12_woman [42] ?_
      conv => whnf
      rw [if_pos c98] at hK
      exact hK s
    · refine b_X12_woman [42] ?_
      conv => whnf
      rw [if_neg c98] at hK
      exact hK s
  | succ k ih =>
    intro i s b hb hi hK
    have hn8 := h.n8
    refine b_X12_woman [42] ?_
    conv => whnf
    refine ⟨fun c48 => absurd c48 (by rw [h.n]; exact nI_ge (by omega) (by have := h.n8; omega)), fun c48 => ?_⟩
    conv => whnf
    rw [h.br]
    refine m_hs (by omega) ?_
    refine b_X12_woman [42] ?_
    conv => whnf
    refine ⟨fun c60 => ?_, fun c60 => ?_⟩
    · conv => whnf
      obtain ⟨q, hq, eq⟩ := ois_q (v := v) h.2 (show i < n by omega)
      have e1 : womI w n P v i b = fMost b (nI i) (nI q) := (if_neg (by rw [bI_0.mp c60]; decide)).trans (by rw [eq])
      simp only [itr, e1] at hK
      refine m_ltr h (by omega) hv (fun s2 => ?_)
      rw [eq]
      refine b_X12_woman [42] ?_
      conv => whnf
      refine ⟨fun c72 => ?_, fun c72 => ?_⟩
      · refine b_X12_woman [42] ?_
        conv => whnf
        refine m_ltr (s := s2) h (by omega) hv (fun s3 => ?_)
        rw [eq]
        refine b_X12_woman [42] ?_
        conv => whnf
        rw [bst_t hb hq c72] at hK
        have h2 := ih (i + 1) s3 (nI i, nI q) (Or.inr ⟨i, q, by omega, hq, rfl⟩) (by omega) hK
        rw [← nI_add i 1] at h2
        exact h2
      · conv => whnf
        refine b_X12_woman [42] ?_
        conv => whnf
        rw [bst_f hb hq c72] at hK
        have h2 := ih (i + 1) s2 b hb (by omega) hK
        rw [← nI_add i 1] at h2
        exact h2
    · refine b_X12_woman [42] ?_
      conv => whnf
      have e1 : womI w n P v i b = b := if_pos (bI_n0.mp c60)
      simp only [itr, e1] at hK
      have h2 := ih (i + 1) s b hb (by omega) hK
      rw [← nI_add i 1] at h2
      exact h2
theorem m_woman {a : Ab} {m : MS} {s : S3} {v c : Int32} (hI : Inv a) (hM : MR a m)  {K : Option Value → AH → Prop} (hK : ∀ m2 (s2 : S3), MR (qB a (fFirst (fNoBlow v) (fUnk c (nI 1)))) m2 → K (some (.int (qA (fFirst (fNoBlow v) (fUnk c (nI 1))) (if c = 0 then (itr (womI (a.1 0) (nO (a.1 0)) (plW (a.1 0)) v) (nO (a.1 0)) 0 nob).2 else (itr (womI (a.1 0) (nO (a.1 0)) (plW (a.1 0)) v) (nO (a.1 0)) 0 nob).1)))) (mC m2 s2.1 s2.2.2)) : am_M i_X12_woman [.ref 0, .int v, .int c] (mC m s.1 s.2.2) K := by
  have h := hM.x hI
  have hn := hI.n
  have hn8 := hI.n8
  refine e_X12_woman [42] ?_
  conv => whnf
  refine m_nb ?_
  refine b_X12_woman [42] ?_
  conv => whnf
  refine ⟨fun c6 => ?_, fun c6 => ?_⟩
  · conv => whnf
    refine m_isIn ?_
    refine b_X12_woman [42] ?_
    conv => whnf
    refine ⟨fun c15 => ?_, fun c15 => ?_⟩
    · conv => whnf
      refine ⟨fun c22 => absurd c22 (by decide), fun c22 => ?_⟩
      conv => whnf
      refine m_no (x := (Int32.ofInt (-2))) (by first | (unfold rfs; decide) | exact fNoBlow_r (by assumption) | exact fFirst_r fNoTh_r fNoTh_r (by assumption)) ?_
      refine b_X12_woman [42] ?_
      conv => whnf
      have e0 : (fFirst (fNoBlow v) (fUnk c (nI 1))) = (Int32.ofInt (-2)) := (fF0 c6 (in_T c15))
      rw [e0, qA_n (rfs_n (by first | (unfold rfs; decide) | exact fNoBlow_r (by assumption) | exact fFirst_r fNoTh_r fNoTh_r (by assumption)))] at hK
      exact hK _ s (hM.bump (by first | (unfold rfs; decide) | exact fNoBlow_r (by assumption) | exact fFirst_r fNoTh_r fNoTh_r (by assumption)))
    · refine b_X12_woman [42] ?_
      conv => whnf
      refine ⟨fun c22 => ?_, fun c22 => absurd c6 c22⟩
      refine b_X12_woman [42] ?_
      conv => whnf
      have r0 : (fFirst (fNoBlow v) (fUnk c (nI 1))) = 0 := (fF0 c6 (in_F c15))
      rw [qA_0 r0, qB_0 r0] at hK
      obtain ⟨r1a, r1b⟩ := fFirst_0 r0
      obtain ⟨v_, hv1, hv2, rfl⟩ := fNoBlow_0 r1a
      have hv0 : ¬ nI v_ ≤ 0 := v_b hv1 (by omega)
      have uc := r1b
      exact ml_wom hv0 h (nO (a.1 0)) 0 s nob (Or.inl rfl) (by omega) (fun s2 => hK m s2 hM)
  · refine b_X12_woman [42] ?_
    conv => whnf
    refine ⟨fun c22 => absurd c22 c6, fun c22 => ?_⟩
    conv => whnf
    refine m_no (x := (fNoBlow v)) (by first | (unfold rfs; decide) | exact fNoBlow_r (by assumption) | exact fFirst_r fNoTh_r fNoTh_r (by assumption)) ?_
    refine b_X12_woman [42] ?_
    conv => whnf
    have e0 : (fFirst (fNoBlow v) (fUnk c (nI 1))) = (fNoBlow v) := (fFn rfl (rfs_n (by first | (unfold rfs; decide) | exact fNoBlow_r (by assumption) | exact fFirst_r fNoTh_r fNoTh_r (by assumption))))
    rw [e0, qA_n (rfs_n (by first | (unfold rfs; decide) | exact fNoBlow_r (by assumption) | exact fFirst_r fNoTh_r fNoTh_r (by assumption)))] at hK
    exact hK _ s (hM.bump (by first | (unfold rfs; decide) | exact fNoBlow_r (by assumption) | exact fFirst_r fNoTh_r fNoTh_r (by assumption)))
theorem ml_cen {m : MS} {w : WS} {n : Nat} {A P : Nat → Nat} {v c z3 : Int32} (hv : ¬ v ≤ 0) {K : Option Value → AH → Prop} (h : mX m w n A P) : ∀ (k i : Nat) (s : S3) (b : Int32 × Int32) (hb : bstR b), i + k = n → (∀ s2 : S3, K (some (.int (if c = 0 then (itr (mheI w n P v) k i b).1 else (itr (mheI w n P v) k i b).2))) (mC m s2.1 s2.2.2)) → am_E i_X12_centre 42 [some (.ref 0), some (.int v), some (.int c), some (.int z3), some (.int b.1), some (.int b.2), some (.int (nI i))] [] (mC m s.1 s.2.2) K := by
  intro k
  induction k with
  | zero =>
    intro i s b hb hi hK
    obtain rfl : i = n := by omega
    refine b_X12_centre [42] ?_
    conv => whnf
    refine ⟨fun c48 => ?_, fun c48 => absurd (by rw [h.n]; exact nI_le (Nat.le_refl _) (by have := h.n8; omega)) c48⟩
    refine b_X12_centre [42] ?_
    conv => whnf
    refine ⟨fun c99 => ?_, fun c99 => ?_⟩
    · conv => whnf
      refine b_X12_centre [42] ?_
      conv => whnf
      rw [if_pos c99] at hK
      exact hK s
    · refine b_X12_centre [42] ?_
      conv => whnf
      rw [if_neg c99] at hK
      exact hK s
  | succ k ih =>
    intro i s b hb hi hK
    have hn8 := h.n8
    refine b_X12_centre [42] ?_
    conv => whnf
    refine ⟨fun c48 => absurd c48 (by rw [h.n]; exact nI_ge (by omega) (by have := h.n8; omega)), fun c48 => ?_⟩
    conv => whnf
    refine m_fb (m := m) (s := s) h (by omega) hv (fun s2 hs2 hb2 => ?_)
    obtain ⟨q, hq, eq⟩ := hb2.hc h.n8
    refine b_X12_centre [42] ?_
    conv => whnf
    rw [h.br]
    refine m_hs (by omega) ?_
    refine b_X12_centre [42] ?_
    conv => whnf
    refine ⟨fun c67 => ?_, fun c67 => ?_⟩
    · conv => whnf
      have e1 : mheI w n P v i b = fMost b (nI i) (nI q) := (if_neg (by rw [bI_0.mp c67]; decide)).trans (by rw [← hs2.2, eq])
      simp only [itr, e1] at hK
      refine m_mg (s := s2) h hb2 ?_
      refine b_X12_centre [42] ?_
      conv => whnf
      refine ⟨fun c76 => ?_, fun c76 => ?_⟩
      · refine b_X12_centre [42] ?_
        conv => whnf
        refine m_mg (s := s2) h hb2 ?_
        refine b_X12_centre [42] ?_
        conv => whnf
        rw [bst_t hb hq (by rw [← eq]; exact c76)] at hK
        rw [eq]
        have h2 := ih (i + 1) s2 (nI i, nI q) (Or.inr ⟨i, q, by omega, hq, rfl⟩) (by omega) hK
        rw [← nI_add i 1] at h2
        exact h2
      · conv => whnf
        refine b_X12_centre [42] ?_
        conv => whnf
        rw [bst_f hb hq (by rw [← eq]; exact c76)] at hK
        have h2 := ih (i + 1) s2 b hb (by omega) hK
        rw [← nI_add i 1] at h2
        exact h2
    · refine b_X12_centre [42] ?_
      conv => whnf
      have e1 : mheI w n P v i b = b := if_pos (bI_n0.mp c67)
      simp only [itr, e1] at hK
      have h2 := ih (i + 1) s2 b hb (by omega) hK
      rw [← nI_add i 1] at h2
      exact h2
theorem m_centre {a : Ab} {m : MS} {s : S3} {v c : Int32} (hI : Inv a) (hM : MR a m)  {K : Option Value → AH → Prop} (hK : ∀ m2 (s2 : S3), MR (qB a (fFirst (fNoBlow v) (fUnk c (nI 1)))) m2 → K (some (.int (qA (fFirst (fNoBlow v) (fUnk c (nI 1))) (if c = 0 then (itr (mheI (a.1 0) (nO (a.1 0)) (plW (a.1 0)) v) (nO (a.1 0)) 0 nob).1 else (itr (mheI (a.1 0) (nO (a.1 0)) (plW (a.1 0)) v) (nO (a.1 0)) 0 nob).2)))) (mC m2 s2.1 s2.2.2)) : am_M i_X12_centre [.ref 0, .int v, .int c] (mC m s.1 s.2.2) K := by
  have h := hM.x hI
  have hn := hI.n
  have hn8 := hI.n8
  refine e_X12_centre [42] ?_
  conv => whnf
  refine m_nb ?_
  refine b_X12_centre [42] ?_
  conv => whnf
  refine ⟨fun c6 => ?_, fun c6 => ?_⟩
  · conv => whnf
    refine m_isIn ?_
    refine b_X12_centre [42] ?_
    conv => whnf
    refine ⟨fun c15 => ?_, fun c15 => ?_⟩
    · conv => whnf
      refine ⟨fun c22 => absurd c22 (by decide), fun c22 => ?_⟩
      conv => whnf
      refine m_no (x := (Int32.ofInt (-2))) (by first | (unfold rfs; decide) | exact fNoBlow_r (by assumption) | exact fFirst_r fNoTh_r fNoTh_r (by assumption)) ?_
      refine b_X12_centre [42] ?_
      conv => whnf
      have e0 : (fFirst (fNoBlow v) (fUnk c (nI 1))) = (Int32.ofInt (-2)) := (fF0 c6 (in_T c15))
      rw [e0, qA_n (rfs_n (by first | (unfold rfs; decide) | exact fNoBlow_r (by assumption) | exact fFirst_r fNoTh_r fNoTh_r (by assumption)))] at hK
      exact hK _ s (hM.bump (by first | (unfold rfs; decide) | exact fNoBlow_r (by assumption) | exact fFirst_r fNoTh_r fNoTh_r (by assumption)))
    · refine b_X12_centre [42] ?_
      conv => whnf
      refine ⟨fun c22 => ?_, fun c22 => absurd c6 c22⟩
      refine b_X12_centre [42] ?_
      conv => whnf
      have r0 : (fFirst (fNoBlow v) (fUnk c (nI 1))) = 0 := (fF0 c6 (in_F c15))
      rw [qA_0 r0, qB_0 r0] at hK
      obtain ⟨r2a, r2b⟩ := fFirst_0 r0
      obtain ⟨v_, hv1, hv2, rfl⟩ := fNoBlow_0 r2a
      have hv0 : ¬ nI v_ ≤ 0 := v_b hv1 (by omega)
      have uc := r2b
      exact ml_cen hv0 h (nO (a.1 0)) 0 s nob (Or.inl rfl) (by omega) (fun s2 => hK m s2 hM)
  · refine b_X12_centre [42] ?_
    conv => whnf
    refine ⟨fun c22 => absurd c22 c6, fun c22 => ?_⟩
    conv => whnf
    refine m_no (x := (fNoBlow v)) (by first | (unfold rfs; decide) | exact fNoBlow_r (by assumption) | exact fFirst_r fNoTh_r fNoTh_r (by assumption)) ?_
    refine b_X12_centre [42] ?_
    conv => whnf
    have e0 : (fFirst (fNoBlow v) (fUnk c (nI 1))) = (fNoBlow v) := (fFn rfl (rfs_n (by first | (unfold rfs; decide) | exact fNoBlow_r (by assumption) | exact fFirst_r fNoTh_r fNoTh_r (by assumption))))
    rw [e0, qA_n (rfs_n (by first | (unfold rfs; decide) | exact fNoBlow_r (by assumption) | exact fFirst_r fNoTh_r fNoTh_r (by assumption)))] at hK
    exact hK _ s (hM.bump (by first | (unfold rfs; decide) | exact fNoBlow_r (by assumption) | exact fFirst_r fNoTh_r fNoTh_r (by assumption)))
theorem m_mby {m : MS} {w : WS} {n : Nat} {A P : Nat → Nat} {s : S3} {v : Int32} {t : Nat} (h : mX m w n A P) (ht : t < n) (hv : ¬ v ≤ 0) {K : Option Value → AH → Prop} (hK : ∀ (s2 : S3) (q : Nat), q ≤ 8 → fBc (blw w n (P t) v).2.1 = nI q → K (some (.int (nI q))) (mC m s2.1 s2.2.2)) : am_M i_X12_manyBy [.ref 0, .int (nI t), .int v] (mC m s.1 s.2.2) K := by
  refine e_X12_manyBy [] ?_
  conv => whnf
  refine m_fb (m := m) (s := s) h ht hv (fun s2 hs2 hb2 => ?_)
  obtain ⟨q, hq, eq⟩ := hb2.hc h.n8
  have h9 := hK s2 q hq (by rw [← hs2.2]; exact eq)
  rw [← eq] at h9
  refine b_X12_manyBy [] ?_
  conv => whnf
  refine m_mg (s := s2) h hb2 ?_
  refine b_X12_manyBy [] ?_
  conv => whnf
  exact h9
def mndR (b : Int32 × Int32) (c f : Int32) : Prop := (b = nob ∧ f = c) ∨ ∃ t q, t < 100 ∧ q ≤ 8 ∧ b = (nI t, nI q) ∧ f = nI q ∧ c < nI q
theorem ml_mnd {m : MS} {w : WS} {n : Nat} {A P : Nat → Nat} {v ov z3 c : Int32} {t : Nat} (ht : t < n) (hv : ¬ v ≤ 0) (hov : ov = m.1 6) {K : Option Value → AH → Prop} (h : mX m w n A P) : ∀ (k i : Nat) (s : S3) (b : Int32 × Int32) (f z : Int32) (hb : mndR b c f) (hz : z = m.1 6), i + k = n → (∀ s2 : S3, K (some (.int (itr (mhmI w n (P t) v c) k i b).1)) (mC m s2.1 s2.2.2)) → am_E i_X12_bestMend 48 [some (.ref 0), some (.int (nI t)), some (.int v), some (.int z3), some (.int ov), some (.int b.1), some (.int f), some (.int (nI i)), none] [] (mC (setI m 6 z) s.1 s.2.2) K := by
  intro k
  induction k with
  | zero =>
    intro i s b f z hb hz hi hK
    obtain rfl : i = n := by omega
    refine b_X12_bestMend [48] ?_
    conv => whnf
    refine ⟨fun c54 => ?_, fun c54 => absurd (by show m.1 5 ≤ _; rw [h.n]; exact nI_le (Nat.le_refl _) (by have := h.n8; omega)) c54⟩
    refine b_X12_bestMend [48] ?_
    conv => whnf
    rw [← setI_same hz] at hK
    exact hK s
  | succ k ih =>
    intro i s b f z hb hz hi hK
    have hn8 := h.n8
    refine b_X12_bestMend [48] ?_
    conv => whnf
    refine ⟨fun c54 => absurd c54 (by show ¬ m.1 5 ≤ _; rw [h.n]; exact nI_ge (by omega) (by have := h.n8; omega)), fun c54 => ?_⟩
    conv => whnf
    refine m_hs (by omega) ?_
    refine b_X12_bestMend [48] ?_
    conv => whnf
    refine ⟨fun c64 => ?_, fun c64 => ?_⟩
    · conv => whnf
      refine b_X12_bestMend [48] ?_
      conv => whnf
      have e1 : mhmI w n (P t) v c i b = b := if_neg (by rw [← h.br, ← hov, bI_0.mp c64]; decide)
      simp only [itr, e1] at hK
      have h2 := ih (i + 1) s b f z hb hz (by omega) hK
      rw [← nI_add i 1] at h2
      exact am_wk (by exact ⟨Or.inr rfl, Or.inr rfl, Or.inr rfl, Or.inr rfl, Or.inr rfl, Or.inr rfl, Or.inr rfl, Or.inr rfl, Or.inl rfl, trivial⟩) h2
    · refine b_X12_bestMend [48] ?_
      conv => whnf
      have e1 : mhmI w n (P t) v c i b = (if fBc (blw (wI w 1 (butI ov (nI i))) n (P t) v).2.1 ≤ c then b else fMost b (nI i) (fBc (blw (wI w 1 (butI ov (nI i))) n (P t) v).2.1)) := by
        unfold mhmI
        rw [if_pos (by rw [← h.br, ← hov]; exact bI_n0.mp c64), hov, h.br]
      simp only [itr, e1] at hK
      have h3 : mX (setI m 6 (butI ov (nI i))) (wI w 1 (butI ov (nI i))) n A P := h.I (i := 1) (by decide) (by decide) _
      refine m_mby (m := (setI m 6 (butI ov (nI i)))) (s := s) h3 ht hv (fun s2 q hq eq => ?_)
      refine b_X12_bestMend [48] ?_
      conv => whnf
      refine ⟨fun c101 => ?_, fun c101 => ?_⟩
      · refine b_X12_bestMend [48] ?_
        conv => whnf
        rw [eq] at hK
        rcases hb with ⟨rfl, rfl⟩ | ⟨t2, q2, a1, a2, rfl, rfl, a3⟩
        · rw [if_neg (Int32.not_le.mpr c101), show fMost nob (nI i) (nI q) = (nI i, nI q) from if_pos rfl] at hK
          have h2 := ih (i + 1) s2 (nI i, nI q) (nI q) ov (Or.inr ⟨i, q, by omega, hq, rfl, rfl, c101⟩) hov (by omega) hK
          rw [← nI_add i 1] at h2
          exact am_wk (by exact ⟨Or.inr rfl, Or.inr rfl, Or.inr rfl, Or.inr rfl, Or.inr rfl, Or.inr rfl, Or.inr rfl, Or.inr rfl, Or.inl rfl, trivial⟩) h2
        · rw [if_neg (Int32.not_le.mpr (Int32.lt_trans a3 c101)), show fMost (nI t2, nI q2) (nI i) (nI q) = (nI i, nI q) from (if_neg (nI_n9 (by omega))).trans (if_neg (Int32.not_le.mpr c101))] at hK
          have h2 := ih (i + 1) s2 (nI i, nI q) (nI q) ov (Or.inr ⟨i, q, by omega, hq, rfl, rfl, Int32.lt_trans a3 c101⟩) hov (by omega) hK
          rw [← nI_add i 1] at h2
          exact am_wk (by exact ⟨Or.inr rfl, Or.inr rfl, Or.inr rfl, Or.inr rfl, Or.inr rfl, Or.inr rfl, Or.inr rfl, Or.inr rfl, Or.inl rfl, trivial⟩) h2
      · conv => whnf
        refine b_X12_bestMend [48] ?_
        conv => whnf
        rw [eq] at hK
        have e7 : (if nI q ≤ c then b else fMost b (nI i) (nI q)) = b := by
          rcases hb with ⟨rfl, rfl⟩ | ⟨t2, q2, a1, a2, rfl, rfl, a3⟩
          · exact if_pos (Int32.not_lt.mp c101)
          · by_cases y : nI q ≤ c
            · exact if_pos y
            · rw [if_neg y]; exact (if_neg (nI_n9 (by omega))).trans (if_pos (Int32.not_lt.mp c101))
        rw [e7] at hK
        have h2 := ih (i + 1) s2 b (f) ov hb hov (by omega) hK
        rw [← nI_add i 1] at h2
        exact am_wk (by exact ⟨Or.inr rfl, Or.inr rfl, Or.inr rfl, Or.inr rfl, Or.inr rfl, Or.inr rfl, Or.inr rfl, Or.inr rfl, Or.inl rfl, trivial⟩) h2
theorem m_bestMend {a : Ab} {m : MS} {s : S3} {x v : Int32} (hI : Inv a) (hM : MR a m)  {K : Option Value → AH → Prop} (hK : ∀ m2 (s2 : S3), MR (qB a (fFirst (fNoTh ((a.1 0).1 0) x) (fNoBlow v))) m2 → K (some (.int (qA (fFirst (fNoTh ((a.1 0).1 0) x) (fNoBlow v)) ((itr (mhmI (a.1 0) (nO (a.1 0)) ((plW (a.1 0)) x.toNatClampNeg) v (fBc (blw (a.1 0) (nO (a.1 0)) ((plW (a.1 0)) x.toNatClampNeg) v).2.1)) (nO (a.1 0)) 0 nob).1)))) (mC m2 s2.1 s2.2.2)) : am_M i_X12_bestMend [.ref 0, .int x, .int v] (mC m s.1 s.2.2) K := by
  have h := hM.x hI
  have hn := hI.n
  have hn8 := hI.n8
  refine e_X12_bestMend [48] ?_
  conv => whnf
  refine m_isTR hM ?_
  refine b_X12_bestMend [48] ?_
  conv => whnf
  refine ⟨fun c5 => ?_, fun c5 => ?_⟩
  · conv => whnf
    refine b_X12_bestMend [48] ?_
    conv => whnf
    refine ⟨fun c18 => absurd c18 (by decide), fun c18 => ?_⟩
    conv => whnf
    refine m_no (x := (Int32.ofInt (-1))) (by first | (unfold rfs; decide) | exact fNoBlow_r (by assumption) | exact fFirst_r fNoTh_r fNoTh_r (by assumption)) ?_
    refine b_X12_bestMend [48] ?_
    conv => whnf
    have e0 : (fFirst (fNoTh ((a.1 0).1 0) x) (fNoBlow v)) = (Int32.ofInt (-1)) := (fFn (th_T c5) (rfs_n (by first | (unfold rfs; decide) | exact fNoBlow_r (by assumption) | exact fFirst_r fNoTh_r fNoTh_r (by assumption))))
    rw [e0, qA_n (rfs_n (by first | (unfold rfs; decide) | exact fNoBlow_r (by assumption) | exact fFirst_r fNoTh_r fNoTh_r (by assumption)))] at hK
    exact hK _ s (hM.bump (by first | (unfold rfs; decide) | exact fNoBlow_r (by assumption) | exact fFirst_r fNoTh_r fNoTh_r (by assumption)))
  · refine b_X12_bestMend [48] ?_
    conv => whnf
    refine m_nb ?_
    refine b_X12_bestMend [48] ?_
    conv => whnf
    refine ⟨fun c18 => ?_, fun c18 => ?_⟩
    · refine b_X12_bestMend [48] ?_
      conv => whnf
      have r0 : (fFirst (fNoTh ((a.1 0).1 0) x) (fNoBlow v)) = 0 := (fF0 (th_F c5) c18)
      rw [qA_0 r0, qB_0 r0] at hK
      obtain ⟨r3a, r3b⟩ := fFirst_0 r0
      obtain ⟨x_, hx, rfl⟩ := fNoTh_0 (n := nO (a.1 0)) (by omega) (by rw [← hn]; exact r3a)
      have ex : (nI x_).toNatClampNeg = x_ := nI_clamp (by omega)
      try rw [ex] at hK
      obtain ⟨v_, hv1, hv2, rfl⟩ := fNoBlow_0 r3b
      have hv0 : ¬ nI v_ ≤ 0 := v_b hv1 (by omega)
      refine m_mby h hx hv0 (fun s2 q hq eq => ?_)
      rw [eq] at hK
      refine b_X12_bestMend [48] ?_
      conv => whnf
      have h2 := ml_mnd (z3 := fNoBlow (nI v_)) (c := nI q) hx hv0 rfl h (nO (a.1 0)) 0 s2 nob (nI q) (m.1 6) (Or.inl ⟨rfl, rfl⟩) rfl (by omega) (fun s3 => hK m s3 hM)
      rw [setI_same rfl] at h2
      exact am_wk (by exact ⟨Or.inr rfl, Or.inr rfl, Or.inr rfl, Or.inr rfl, Or.inr rfl, Or.inr rfl, Or.inr rfl, Or.inr rfl, Or.inl rfl, trivial⟩) h2
    · conv => whnf
      refine m_no (x := (fNoBlow v)) (by first | (unfold rfs; decide) | exact fNoBlow_r (by assumption) | exact fFirst_r fNoTh_r fNoTh_r (by assumption)) ?_
      refine b_X12_bestMend [48] ?_
      conv => whnf
      have e0 : (fFirst (fNoTh ((a.1 0).1 0) x) (fNoBlow v)) = (fNoBlow v) := (fF0 (th_F c5) rfl)
      rw [e0, qA_n (rfs_n (by first | (unfold rfs; decide) | exact fNoBlow_r (by assumption) | exact fFirst_r fNoTh_r fNoTh_r (by assumption)))] at hK
      exact hK _ s (hM.bump (by first | (unfold rfs; decide) | exact fNoBlow_r (by assumption) | exact fFirst_r fNoTh_r fNoTh_r (by assumption)))
