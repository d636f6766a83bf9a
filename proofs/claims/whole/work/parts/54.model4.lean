/-! SPECS of the model: searches for a best -/
theorem setI_same {m : MS} {i : Nat} {z : Int32} (h : z = m.1 i) : setI m i z = m := by
  have : va_up m.1 i z = m.1 := by
    funext j
    unfold va_up
    by_cases q : j = i
    · rw [if_pos q, h, q]
    · rw [if_neg q]
  unfold setI
  rw [this]
theorem mX.I {m : MS} {w : WS} {n : Nat} {A P : Nat → Nat} (h : mX m w n A P) {i : Nat} (h1 : 1 ≤ i) (h2 : i < 4) (z : Int32) : mX (setI m (i + 5) z) (wI w i z) n A P := by
  refine ⟨⟨fun j hj => ?_, h.1.2⟩, ?_⟩
  · show va_up m.1 (i + 5) z (j + 5) = va_up w.1 i z j
    unfold va_up
    by_cases q : j = i
    · rw [if_pos (by omega), if_pos q]
    · rw [if_neg (by omega), if_neg q]; exact h.1.1 j hj
  · obtain ⟨a1, a2, a3, a4⟩ := h.2
    refine ⟨?_, a2, a3, a4⟩
    show va_up w.1 i z 0 = _
    unfold va_up
    rw [if_neg (by omega)]; exact a1
theorem tp_bit (x : Int32) (k j : Nat) (hk : k < 32) : bitN (x ||| (nI 1 <<< (nI k &&& 31))) j = (bitN x j || decide (k = j)) := by rw [bitN_or, bitN_tp k j hk]
theorem or_xor {x : Int32} {k : Nat} (hk : k < 32) (h : hasB x (nI k) = false) : x ||| (nI 1 <<< (nI k &&& 31)) = x ^^^ (nI 1 <<< (nI k &&& 31)) := by
  rw [hasB_N x k hk] at h
  apply bitN_ext
  intro j hj
  rw [bitN_or, bitN_xor, bitN_tp k j hk]
  by_cases q : k = j
  · subst q; rw [h]; simp
  · simp [q]
theorem or_off {x : Int32} {k : Nat} (hk : k < 32) (h : hasB x (nI k) = false) : (x ||| (nI 1 <<< (nI k &&& 31))) &&& ((nI 1 <<< (nI k &&& 31)) ^^^ Int32.ofInt (-1)) = x := by
  rw [hasB_N x k hk] at h
  apply bitN_ext
  intro j hj
  rw [bitN_and, bitN_or, bitN_xor, bitN_tp k j hk, bitN_m1 j hj]
  by_cases q : k = j
  · subst q; rw [h]; simp
  · simp [q]
theorem or_has {x : Int32} {k : Nat} (hk : k < 32) (h : hasB x (nI k) = true) : x ||| (nI 1 <<< (nI k &&& 31)) = x := by
  rw [hasB_N x k hk] at h
  apply bitN_ext
  intro j hj
  rw [bitN_or, bitN_tp k j hk]
  by_cases q : k = j
  · subst q; rw [h]; simp
  · simp [q]
theorem but_small {n : Nat} {x y : Int32} (hn : n ≤ 8) (h : ∀ j, n ≤ j → bitN x j = false) : ∃ k, k < 256 ∧ x &&& y = nI k := by
  obtain ⟨k, h1, h2⟩ := bits_small (x := x &&& y) (n := n) (fun j hj => by rw [bitN_and, h j hj]; rfl)
  exact ⟨k, p8 hn h1, h2⟩
/-- the worst so far: the class's and the model's -/
def wstR (w : WS) (n : Nat) (P : Nat → Nat) (v : Int32) (b : Int32 × Int32) (f : Int32) : Prop := (b = nob ∧ f = nI 0) ∨ ∃ t q, t < n ∧ 1 ≤ q ∧ q ≤ 8 ∧ b = (nI t, nI q) ∧ f = nI q ∧ fBc (blw w n (P t) v).2.2 = nI q
theorem wst_t {w : WS} {n i q : Nat} {P : Nat → Nat} {v : Int32} {b : Int32 × Int32} {f : Int32} {s : S3} (hn : n ≤ 8) (h : wstR w n P v b f) (hs : sAg s (blw w n (P i) v)) (hq : q ≤ 8) (e : fBc s.2.2 = nI q) (h0 : q = 0 ↔ s.2.2 = 0) (c : f < nI q) : wstI w n P v i b = (nI i, nI q) ∧ 1 ≤ q := by
  have q0 : q ≠ 0 := by
    intro z
    subst z
    rcases h with ⟨-, rfl⟩ | ⟨t, q2, -, -, h3, -, rfl, -⟩
    · exact absurd ((nI_ltI (by decide) (by decide)).mp c) (by omega)
    · exact absurd ((nI_ltI (by omega) (by decide)).mp c) (by omega)
  refine ⟨?_, by omega⟩
  unfold wstI
  rw [← hs.2, if_neg (fun z => q0 (h0.mpr z)), e]
  unfold fMost
  rcases h with ⟨rfl, rfl⟩ | ⟨t, q2, h1, h2, h3, rfl, rfl, -⟩
  · exact if_pos rfl
  · rw [if_neg (nI_n9 (by omega)), if_neg (Int32.not_le.mpr c)]
theorem wst_f {w : WS} {n i q : Nat} {P : Nat → Nat} {v : Int32} {b : Int32 × Int32} {f : Int32} {s : S3} (hn : n ≤ 8) (h : wstR w n P v b f) (hs : sAg s (blw w n (P i) v)) (hq : q ≤ 8) (e : fBc s.2.2 = nI q) (h0 : q = 0 ↔ s.2.2 = 0) (c : ¬ f < nI q) : wstI w n P v i b = b := by
  unfold wstI
  rw [← hs.2, e]
  by_cases z : s.2.2 = 0
  · rw [if_pos z]
  · rw [if_neg z]
    unfold fMost
    rcases h with ⟨rfl, rfl⟩ | ⟨t, q2, h1, h2, h3, rfl, rfl, -⟩
    · exact absurd (nI_lt (by have : q ≠ 0 := fun y => z (h0.mp y); omega) (by omega)) c
    · rw [if_neg (nI_n9 (by omega)), if_pos (Int32.not_lt.mp c)]
theorem mbr_wst {w : WS} {n : Nat} {A P : Nat → Nat} {v : Int32} (hw : wOk w n A P) : itr (mbrI w n P v) n 0 (nI 0) = (if (itr (wstI w n P v) n 0 nob).1 = Int32.ofInt (-9) then nI 0 else (itr (wstI w n P v) n 0 nob).2) := by
  have hn := hw.2.1
  have := itr_rel (f := mbrI w n P v) (g := wstI w n P v) (R := fun x b => wstR w n P v b x) n 0 (nI 0) nob (Or.inl ⟨rfl, rfl⟩) (fun j x b _ hj hR => by
    have hb := bw_blw hw (hw.2.2.2 j (by omega)).2.1 v
    obtain ⟨q, hq, e, h0⟩ := hb.vc hn
    have hs : sAg (blw w n (P j) v) (blw w n (P j) v) := ⟨fun _ _ => rfl, rfl⟩
    by_cases c : x < nI q
    · obtain ⟨e1, e2⟩ := wst_t hn hR hs hq e h0 c
      rw [e1]
      exact Or.inr ⟨j, q, by omega, e2, hq, rfl, by unfold mbrI maxI; rw [e, if_pos c], e⟩
    · rw [wst_f hn hR hs hq e h0 c]
      have : mbrI w n P v j x = x := by unfold mbrI maxI; rw [e, if_neg c]
      rw [this]
      exact hR)
  rcases this with ⟨h1, h2⟩ | ⟨t, q, h1, h2, h3, h4, h5, h6⟩
  · rw [h1, h2]; exact (if_pos rfl).symm
  · rw [h4, h5, if_neg (nI_n9 (by omega))]
theorem ml_wo {m : MS} {w : WS} {n : Nat} {A P : Nat → Nat} {v : Int32} (hv : ¬ v ≤ 0) {K : Option Value → AH → Prop} (h : mX m w n A P) : ∀ (k i : Nat) (s : S3) (b : Int32 × Int32) (f : Int32) (hR : wstR w n P v b f), i + k = n → (∀ s2 : S3, wstR w n P v (itr (wstI w n P v) k i b) (if (itr (wstI w n P v) k i b).1 = Int32.ofInt (-9) then nI 0 else (itr (wstI w n P v) k i b).2) → K (some (.int (itr (wstI w n P v) k i b).1)) (mC m s2.1 s2.2.2)) → am_E i_X12_worstOf 8 [some (.ref 0), some (.int v), some (.int b.1), some (.int f), some (.int (nI i))] [] (mC m s.1 s.2.2) K := by
  intro k
  induction k with
  | zero =>
    intro i s b f hR hi hK
    obtain rfl : i = n := by omega
    refine b_X12_worstOf [8] ?_
    conv => whnf
    refine ⟨fun c14 => ?_, fun c14 => absurd (by rw [h.n]; exact nI_le (Nat.le_refl _) (by have := h.n8; omega)) c14⟩
    refine b_X12_worstOf [8] ?_
    conv => whnf
    exact hK s (by
      rcases hR with ⟨rfl, rfl⟩ | ⟨t, q, h1, h2, h3, rfl, rfl, h6⟩
      · exact Or.inl ⟨rfl, rfl⟩
      · exact Or.inr ⟨t, q, h1, h2, h3, rfl, if_neg (nI_n9 (by have := h.n8; omega)), h6⟩)
  | succ k ih =>
    intro i s b f hR hi hK
    refine b_X12_worstOf [8] ?_
    conv => whnf
    refine ⟨fun c14 => absurd c14 (by rw [h.n]; exact nI_ge (by omega) (by have := h.n8; omega)), fun c14 => ?_⟩
    conv => whnf
    refine m_fb (m := m) (s := s) h (by omega) hv (fun s2 hs2 hb2 => ?_)
    obtain ⟨q, hq, eq, h0⟩ := hb2.vc h.n8
    refine b_X12_worstOf [8] ?_
    conv => whnf
    refine m_bc (s := s2) hb2 h.n8 ?_
    refine b_X12_worstOf [8] ?_
    conv => whnf
    refine ⟨fun c32 => ?_, fun c32 => ?_⟩
    · refine b_X12_worstOf [8] ?_
      conv => whnf
      refine m_bc (s := s2) hb2 h.n8 ?_
      refine b_X12_worstOf [8] ?_
      conv => whnf
      obtain ⟨e1, e2⟩ := wst_t h.n8 hR hs2 hq eq h0 (by rw [← eq]; exact c32)
      simp only [itr, e1] at hK
      rw [eq]
      have h2 := ih (i + 1) s2 (nI i, nI q) (nI q) (Or.inr ⟨i, q, by omega, e2, hq, rfl, rfl, by rw [← hs2.2]; exact eq⟩) (by omega) hK
      rw [← nI_add i 1] at h2
      exact h2
    · conv => whnf
      refine b_X12_worstOf [8] ?_
      conv => whnf
      have e1 := wst_f h.n8 hR hs2 hq eq h0 (by rw [← eq]; exact c32)
      simp only [itr, e1] at hK
      have h2 := ih (i + 1) s2 b f hR (by omega) hK
      rw [← nI_add i 1] at h2
      exact h2
theorem m_wo {m : MS} {w : WS} {n : Nat} {A P : Nat → Nat} {s : S3} {v : Int32} (h : mX m w n A P) (hv : ¬ v ≤ 0) {K : Option Value → AH → Prop} (hK : ∀ s2 : S3, wstR w n P v (itr (wstI w n P v) n 0 nob) (if (itr (wstI w n P v) n 0 nob).1 = Int32.ofInt (-9) then nI 0 else (itr (wstI w n P v) n 0 nob).2) → K (some (.int (itr (wstI w n P v) n 0 nob).1)) (mC m s2.1 s2.2.2)) : am_M i_X12_worstOf [.ref 0, .int v] (mC m s.1 s.2.2) K := by
  refine e_X12_worstOf [8] ?_
  conv => whnf
  exact ml_wo hv h n 0 s nob (nI 0) (Or.inl ⟨rfl, rfl⟩) (by omega) hK
theorem m_mb {m : MS} {w : WS} {n : Nat} {A P : Nat → Nat} {s : S3} {v : Int32} (h : mX m w n A P) (hv : ¬ v ≤ 0) {K : Option Value → AH → Prop} (hK : ∀ s2 : S3, K (some (.int (itr (mbrI w n P v) n 0 (nI 0)))) (mC m s2.1 s2.2.2)) : am_M i_X12_mostBroken [.ref 0, .int v] (mC m s.1 s.2.2) K := by
  rw [mbr_wst h.2] at hK
  refine e_X12_mostBroken [] ?_
  conv => whnf
  refine m_wo h hv (fun s2 hR => ?_)
  generalize itr (wstI w n P v) n 0 nob = bb at hK hR ⊢
  refine b_X12_mostBroken [] ?_
  conv => whnf
  refine ⟨fun c7 => ?_, fun c7 => ?_⟩
  · refine b_X12_mostBroken [] ?_
    conv => whnf
    rcases hR with ⟨rfl, -⟩ | ⟨t, q, h1, h2, h3, rfl, -, h6⟩
    · exact absurd c7 (by decide)
    refine m_fb (m := m) (s := s2) h h1 hv (fun s3 hs2 hb2 => ?_)
    refine b_X12_mostBroken [] ?_
    conv => whnf
    refine m_bc (s := s3) hb2 h.n8 ?_
    refine b_X12_mostBroken [] ?_
    conv => whnf
    rw [if_neg (nI_n9 (by have := h.n8; omega))] at hK
    rw [hs2.2, h6]
    have h9 := hK s3
    rw [hs2.2] at h9
    exact h9
  · conv => whnf
    rcases hR with ⟨rfl, -⟩ | ⟨t, q, h1, h2, h3, rfl, -, h6⟩
    · exact hK s2
    · exact absurd (by exact nI_pos' (by have := h.n8; omega)) c7
theorem m_worst {a : Ab} {m : MS} {s : S3} {v c : Int32} (hI : Inv a) (hM : MR a m)  {K : Option Value → AH → Prop} (hK : ∀ m2 (s2 : S3), MR (qB a (fFirst (fNoBlow v) (fUnk c (nI 1)))) m2 → K (some (.int (qA (fFirst (fNoBlow v) (fUnk c (nI 1))) (if c = 0 then (itr (wstI (a.1 0) (nO (a.1 0)) (plW (a.1 0)) v) (nO (a.1 0)) 0 nob).1 else if (itr (wstI (a.1 0) (nO (a.1 0)) (plW (a.1 0)) v) (nO (a.1 0)) 0 nob).1 = Int32.ofInt (-9) then nI 0 else (itr (wstI (a.1 0) (nO (a.1 0)) (plW (a.1 0)) v) (nO (a.1 0)) 0 nob).2)))) (mC m2 s2.1 s2.2.2)) : am_M i_X12_worst [.ref 0, .int v, .int c] (mC m s.1 s.2.2) K := by
  have h := hM.x hI
  have hn := hI.n
  have hn8 := hI.n8
  refine e_X12_worst [] ?_
  conv => whnf
  refine m_nb ?_
  refine b_X12_worst [] ?_
  conv => whnf
  refine ⟨fun c6 => ?_, fun c6 => ?_⟩
  · conv => whnf
    refine m_isIn ?_
    refine b_X12_worst [] ?_
    conv => whnf
    refine ⟨fun c15 => ?_, fun c15 => ?_⟩
    · conv => whnf
      refine ⟨fun c22 => absurd c22 (by decide), fun c22 => ?_⟩
      conv => whnf
      refine m_no (x := (Int32.ofInt (-2))) (by first | (unfold rfs; decide) | exact fNoBlow_r (by assumption) | exact fFirst_r fNoTh_r fNoTh_r (by assumption)) ?_
      refine b_X12_worst [] ?_
      conv => whnf
      have e0 : (fFirst (fNoBlow v) (fUnk c (nI 1))) = (Int32.ofInt (-2)) := (fF0 c6 (in_T c15))
      rw [e0, qA_n (rfs_n (by first | (unfold rfs; decide) | exact fNoBlow_r (by assumption) | exact fFirst_r fNoTh_r fNoTh_r (by assumption)))] at hK
      exact hK _ s (hM.bump (by first | (unfold rfs; decide) | exact fNoBlow_r (by assumption) | exact fFirst_r fNoTh_r fNoTh_r (by assumption)))
    · refine b_X12_worst [] ?_
      conv => whnf
      refine ⟨fun c22 => ?_, fun c22 => absurd c6 c22⟩
      refine b_X12_worst [] ?_
      conv => whnf
      have r0 : (fFirst (fNoBlow v) (fUnk c (nI 1))) = 0 := (fF0 c6 (in_F c15))
      rw [qA_0 r0, qB_0 r0] at hK
      obtain ⟨r1a, r1b⟩ := fFirst_0 r0
      obtain ⟨v_, hv1, hv2, rfl⟩ := fNoBlow_0 r1a
      have hv0 : ¬ nI v_ ≤ 0 := v_b hv1 (by omega)
      have uc := r1b
      refine ⟨fun c32 => ?_, fun c32 => ?_⟩
      · conv => whnf
        refine m_wo h hv0 (fun s2 _ => ?_)
        refine b_X12_worst [] ?_
        conv => whnf
        refine b_X12_worst [] ?_
        conv => whnf
        rw [if_pos c32] at hK
        exact hK m s2 hM
      · refine b_X12_worst [] ?_
        conv => whnf
        refine m_mb h hv0 (fun s2 => ?_)
        refine b_X12_worst [] ?_
        conv => whnf
        rw [if_neg c32, ← mbr_wst h.2] at hK
        exact hK m s2 hM
  · refine b_X12_worst [] ?_
    conv => whnf
    refine ⟨fun c22 => absurd c22 c6, fun c22 => ?_⟩
    conv => whnf
    refine m_no (x := (fNoBlow v)) (by first | (unfold rfs; decide) | exact fNoBlow_r (by assumption) | exact fFirst_r fNoTh_r fNoTh_r (by assumption)) ?_
    refine b_X12_worst [] ?_
    conv => whnf
    have e0 : (fFirst (fNoBlow v) (fUnk c (nI 1))) = (fNoBlow v) := (fFn rfl (rfs_n (by first | (unfold rfs; decide) | exact fNoBlow_r (by assumption) | exact fFirst_r fNoTh_r fNoTh_r (by assumption))))
    rw [e0, qA_n (rfs_n (by first | (unfold rfs; decide) | exact fNoBlow_r (by assumption) | exact fFirst_r fNoTh_r fNoTh_r (by assumption)))] at hK
    exact hK _ s (hM.bump (by first | (unfold rfs; decide) | exact fNoBlow_r (by assumption) | exact fFirst_r fNoTh_r fNoTh_r (by assumption)))
theorem fCut_hasB {x : Int32} {k : Nat} (hk : k < 32) : fCut x (nI k) = hasB x (nI k) := fCut_nI _ _ (by omega)
def cutR (b : Int32 × Int32) : Prop := b = nob ∨ ∃ k q, k < 8 ∧ b = (nI k, q)
theorem lkT2 {m : MS} {w : WS} {n i : Nat} {A P : Nat → Nat} (h : mX m w n A P) (hi : n - 1 ≤ i) (hi2 : i < 2 ^ 30) : m.1 5 - nI 1 ≤ nI i := by
  rw [h.n]
  exact Int32.le_trans (lkT h.n8) (nI_le hi (by omega))
theorem lkF2 {m : MS} {w : WS} {n i : Nat} {A P : Nat → Nat} (h : mX m w n A P) (hi : i < n - 1) : ¬ m.1 5 - nI 1 ≤ nI i := by
  rw [h.n]
  exact lkF h.n8 (by omega)
theorem ml_bc {m : MS} {w : WS} {n : Nat} {A P : Nat → Nat} {v c z3 : Int32} (hv : ¬ v ≤ 0) {K : Option Value → AH → Prop} (h : mX m w n A P) : ∀ (k i : Nat) (s : S3) (b : Int32 × Int32) (hb : cutR b) (z : Int32) (hz : z = m.1 7), i + k = n - 1 → (∀ s2 : S3, K (some (.int (if c = 0 then (itr (mcuI w n P v) k i b).1 else (itr (mcuI w n P v) k i b).2))) (mC m s2.1 s2.2.2)) → am_E i_X12_bestCut 42 [some (.ref 0), some (.int v), some (.int c), some (.int z3), some (.int b.1), some (.int b.2), some (.int (nI i)), none] [] (mC (setI m 7 z) s.1 s.2.2) K := by
  intro k
  induction k with
  | zero =>
    intro i s b hb z hz hi hK
    obtain rfl : i = n - 1 := by omega
    refine b_X12_bestCut [42] ?_
    conv => whnf
    refine ⟨fun c50 => ?_, fun c50 => absurd (lkT2 (m := m) h (Nat.le_refl _) (by have := h.n8; omega)) c50⟩
    refine b_X12_bestCut [42] ?_
    conv => whnf
    refine ⟨fun c133 => ?_, fun c133 => ?_⟩
    · conv => whnf
      refine b_X12_bestCut [42] ?_
      conv => whnf
      rw [if_pos c133] at hK
      rw [← setI_same hz] at hK
      exact hK s
    · refine b_X12_bestCut [42] ?_
      conv => whnf
      rw [if_neg c133] at hK
      rw [← setI_same hz] at hK
      exact hK s
  | succ k ih =>
    intro i s b hb z hz hi hK
    have hn8 := h.n8
    refine b_X12_bestCut [42] ?_
    conv => whnf
    refine ⟨fun c50 => absurd c50 (lkF2 (m := m) h (by omega)), fun c50 => ?_⟩
    conv => whnf
    refine m_hs (by omega) ?_
    refine b_X12_bestCut [42] ?_
    conv => whnf
    refine ⟨fun c62 => ?_, fun c62 => ?_⟩
    · refine b_X12_bestCut [42] ?_
      conv => whnf
      have hb9 : hasB z (nI i) = false := bI_0.mp c62
      have e1 : mcuI w n P v i b = fLeast b (nI i) (itr (mbrI (turnW w i) n P v) n 0 (nI 0)) := if_neg (by rw [fCut_hasB (by omega), ← h.cu, ← hz, hb9]; decide)
      simp only [itr, e1, fLeast] at hK
      have h3 : mX (setI m 7 (z ||| (nI 1 <<< (nI i &&& 31)))) (turnW w i) n A P := by
        have e2 : wI w 2 (z ||| (nI 1 <<< (nI i &&& 31))) = turnW w i := by
          unfold turnW
          rw [or_xor (by omega) hb9, hz, h.cu]
        rw [← e2]
        exact h.I (i := 2) (by decide) (by decide) (z ||| (nI 1 <<< (nI i &&& 31)))
      refine m_mb (m := (setI m 7 (z ||| (nI 1 <<< (nI i &&& 31))))) (s := s) h3 hv (fun s2 => ?_)
      refine b_X12_bestCut [42] ?_
      conv => whnf
      refine ⟨fun c105 => ?_, fun c105 => ?_⟩
      · refine b_X12_bestCut [42] ?_
        conv => whnf
        rw [if_pos (show b.1 = Int32.ofInt (-9) from by
          rcases hb with rfl | ⟨k2, q, h1, rfl⟩
          · rfl
          · exact absurd c105 (nI_pos (by omega)))] at hK
        have h2 := ih (i + 1) s2 (_, _) (Or.inr ⟨i, _, by omega, rfl⟩) _ ((or_off (by omega) hb9).trans hz) (by omega) hK
        rw [← nI_add i 1] at h2
        exact am_wk (by exact ⟨Or.inr rfl, Or.inr rfl, Or.inr rfl, Or.inr rfl, Or.inr rfl, Or.inr rfl, Or.inr rfl, Or.inl rfl, trivial⟩) h2
      · conv => whnf
        have hn9 : ¬ b.1 = Int32.ofInt (-9) := fun y => c105 (by rw [y]; decide)
        rw [if_neg hn9] at hK
        refine ⟨fun c112 => ?_, fun c112 => ?_⟩
        · refine b_X12_bestCut [42] ?_
          conv => whnf
          rw [if_neg (Int32.not_le.mpr c112)] at hK
          have h2 := ih (i + 1) s2 (_, _) (Or.inr ⟨i, _, by omega, rfl⟩) _ ((or_off (by omega) hb9).trans hz) (by omega) hK
          rw [← nI_add i 1] at h2
          exact am_wk (by exact ⟨Or.inr rfl, Or.inr rfl, Or.inr rfl, Or.inr rfl, Or.inr rfl, Or.inr rfl, Or.inr rfl, Or.inl rfl, trivial⟩) h2
        · conv => whnf
          refine b_X12_bestCut [42] ?_
          conv => whnf
          rw [if_pos (Int32.not_lt.mp c112)] at hK
          have h2 := ih (i + 1) s2 b hb _ ((or_off (by omega) hb9).trans hz) (by omega) hK
          rw [← nI_add i 1] at h2
          exact am_wk (by exact ⟨Or.inr rfl, Or.inr rfl, Or.inr rfl, Or.inr rfl, Or.inr rfl, Or.inr rfl, Or.inr rfl, Or.inl rfl, trivial⟩) h2
    · conv => whnf
      refine b_X12_bestCut [42] ?_
      conv => whnf
      have e1 : mcuI w n P v i b = b := if_pos (by rw [fCut_hasB (by omega), ← h.cu, ← hz]; exact bI_n0.mp c62)
      simp only [itr, e1] at hK
      have h2 := ih (i + 1) s b hb z hz (by omega) hK
      rw [← nI_add i 1] at h2
      exact am_wk (by exact ⟨Or.inr rfl, Or.inr rfl, Or.inr rfl, Or.inr rfl, Or.inr rfl, Or.inr rfl, Or.inr rfl, Or.inl rfl, trivial⟩) h2
theorem m_bestCut {a : Ab} {m : MS} {s : S3} {v c : Int32} (hI : Inv a) (hM : MR a m)  {K : Option Value → AH → Prop} (hK : ∀ m2 (s2 : S3), MR (qB a (fFirst (fNoBlow v) (fUnk c (nI 1)))) m2 → K (some (.int (qA (fFirst (fNoBlow v) (fUnk c (nI 1))) (if c = 0 then (itr (mcuI (a.1 0) (nO (a.1 0)) (plW (a.1 0)) v) ((nO (a.1 0)) - 1) 0 nob).1 else (itr (mcuI (a.1 0) (nO (a.1 0)) (plW (a.1 0)) v) ((nO (a.1 0)) - 1) 0 nob).2)))) (mC m2 s2.1 s2.2.2)) : am_M i_X12_bestCut [.ref 0, .int v, .int c] (mC m s.1 s.2.2) K := by
  have h := hM.x hI
  have hn := hI.n
  have hn8 := hI.n8
  refine e_X12_bestCut [42] ?_
  conv => whnf
  refine m_nb ?_
  refine b_X12_bestCut [42] ?_
  conv => whnf
  refine ⟨fun c6 => ?_, fun c6 => ?_⟩
  · conv => whnf
    refine m_isIn ?_
    refine b_X12_bestCut [42] ?_
    conv => whnf
    refine ⟨fun c15 => ?_, fun c15 => ?_⟩
    · conv => whnf
      refine ⟨fun c22 => absurd c22 (by decide), fun c22 => ?_⟩
      conv => whnf
      refine m_no (x := (Int32.ofInt (-2))) (by first | (unfold rfs; decide) | exact fNoBlow_r (by assumption) | exact fFirst_r fNoTh_r fNoTh_r (by assumption)) ?_
      refine b_X12_bestCut [42] ?_
      conv => whnf
      have e0 : (fFirst (fNoBlow v) (fUnk c (nI 1))) = (Int32.ofInt (-2)) := (fF0 c6 (in_T c15))
      rw [e0, qA_n (rfs_n (by first | (unfold rfs; decide) | exact fNoBlow_r (by assumption) | exact fFirst_r fNoTh_r fNoTh_r (by assumption)))] at hK
      exact hK _ s (hM.bump (by first | (unfold rfs; decide) | exact fNoBlow_r (by assumption) | exact fFirst_r fNoTh_r fNoTh_r (by assumption)))
    · refine b_X12_bestCut [42] ?_
      conv => whnf
      refine ⟨fun c22 => ?_, fun c22 => absurd c6 c22⟩
      refine b_X12_bestCut [42] ?_
      conv => whnf
      have r0 : (fFirst (fNoBlow v) (fUnk c (nI 1))) = 0 := (fF0 c6 (in_F c15))
      rw [qA_0 r0, qB_0 r0] at hK
      obtain ⟨r2a, r2b⟩ := fFirst_0 r0
      obtain ⟨v_, hv1, hv2, rfl⟩ := fNoBlow_0 r2a
      have hv0 : ¬ nI v_ ≤ 0 := v_b hv1 (by omega)
      have uc := r2b
      have h2 := ml_bc (z3 := fNoBlow (nI v_)) (c := c) hv0 h (nO (a.1 0) - 1) 0 s nob (Or.inl rfl) (m.1 7) rfl (by omega) (fun s2 => hK m s2 hM)
      rw [setI_same rfl] at h2
      exact am_wk (by exact ⟨Or.inr rfl, Or.inr rfl, Or.inr rfl, Or.inr rfl, Or.inr rfl, Or.inr rfl, Or.inr rfl, Or.inl rfl, trivial⟩) h2
  · refine b_X12_bestCut [42] ?_
    conv => whnf
    refine ⟨fun c22 => absurd c22 c6, fun c22 => ?_⟩
    conv => whnf
    refine m_no (x := (fNoBlow v)) (by first | (unfold rfs; decide) | exact fNoBlow_r (by assumption) | exact fFirst_r fNoTh_r fNoTh_r (by assumption)) ?_
    refine b_X12_bestCut [42] ?_
    conv => whnf
    have e0 : (fFirst (fNoBlow v) (fUnk c (nI 1))) = (fNoBlow v) := (fFn rfl (rfs_n (by first | (unfold rfs; decide) | exact fNoBlow_r (by assumption) | exact fFirst_r fNoTh_r fNoTh_r (by assumption))))
    rw [e0, qA_n (rfs_n (by first | (unfold rfs; decide) | exact fNoBlow_r (by assumption) | exact fFirst_r fNoTh_r fNoTh_r (by assumption)))] at hK
    exact hK _ s (hM.bump (by first | (unfold rfs; decide) | exact fNoBlow_r (by assumption) | exact fFirst_r fNoTh_r fNoTh_r (by assumption)))
