/-! SPECS of the model: the order -/
def mxF (w : WS) (n : Nat) (v : Int32) : Int32 := itr (mbrI w n (plW w) v) n 0 (nI 0)
theorem mbb_mx {w : WS} {n : Nat} {A : Nat → Nat} {v en : Int32} (hw : wOk w n A (plW w)) : ∀ (k i q : Nat), i + k = n → q ≤ 8 → ∃ q2, q ≤ q2 ∧ q2 ≤ 8 ∧ itr (mbrI w n (plW w) v) k i (nI q) = nI q2 ∧ (nI q2 < en → mbbF w n v en k i (nI q) = nI q2) ∧ (¬ nI q2 < en → ¬ mbbF w n v en k i (nI q) < en) := by
  intro k
  induction k with
  | zero => intro i q _ hq; exact ⟨q, by omega, hq, rfl, fun _ => rfl, fun c => c⟩
  | succ k ih =>
    intro i q hi hq
    have hn8 := hw.2.1
    obtain ⟨q1, hq1, e1, -⟩ := (bw_blw hw (hw.2.2.2 i (by omega)).2.1 v).vc hn8
    have em : maxI (nI q) (fBc (blw w n (plW w i) v).2.2) = nI (max q q1) := by
      rw [e1]
      unfold maxI
      by_cases c : q < q1
      · rw [if_pos (nI_lt c (by omega))]; congr 1; omega
      · rw [if_neg (fun z => c ((nI_ltI (by omega) (by omega)).mp z))]; congr 1; omega
    obtain ⟨q2, h1, h2, h3, h4, h5⟩ := ih (i + 1) (max q q1) (by omega) (by omega)
    refine ⟨q2, by omega, h2, ?_, ?_⟩
    · rw [itr]
      show itr _ k (i + 1) (maxI (nI q) (fBc (blw w n (plW w i) v).2.2)) = _
      rw [em]; exact h3
    · rw [mbbF]
      by_cases c : en ≤ nI q
      · rw [if_pos c]
        have : en ≤ nI q2 := Int32.le_trans c (nI_le (by omega) (by omega))
        exact ⟨fun z => absurd this (Int32.not_le.mpr z), fun _ => Int32.not_lt.mpr c⟩
      · rw [if_neg c, em]; exact ⟨h4, h5⟩
theorem mx_q {w : WS} {n : Nat} (h : wEx w n) (v : Int32) : ∃ q, q ≤ 8 ∧ mxF w n v = nI q := by
  obtain ⟨A, hw⟩ := h.pl
  obtain ⟨q2, -, h2, h3, -⟩ := mbb_mx (v := v) (en := nI 0) hw n 0 0 (by omega) (by omega)
  exact ⟨q2, h2, h3⟩
theorem mlds_mx {w : WS} {n : Nat} (h : wEx w n) (v l : Int32) (f : Nat → Int32) : mldS w n v l f = if mxF w n v < l then (mxF w n v, va_cpy (w.2 3) f 0 0 8) else (l, f) := by
  obtain ⟨A, hw⟩ := h.pl
  obtain ⟨q2, -, h2, h3, h4, h5⟩ := mbb_mx (v := v) (en := l) hw n 0 0 (by omega) (by omega)
  have e : mxF w n v = nI q2 := h3
  unfold mldS
  rw [e]
  by_cases c : nI q2 < l
  · have h6 : mbbF w n v l n 0 (nI 0) = nI q2 := h4 c
    rw [h6, if_pos c]
  · have h6 : ¬ mbbF w n v l n 0 (nI 0) < l := h5 c
    rw [if_neg h6, if_neg c]
/-- nothing but the order and what was found has changed -/
def vO (M2 M : MS) : Prop := M2.1 = M.1 ∧ ∀ j, j ≠ 4 → j ≠ 12 → M2.2 j = M.2 j
theorem vO.rf (M : MS) : vO M M := ⟨rfl, fun _ _ _ => rfl⟩
theorem vO.tr {A B C : MS} (h : vO A B) (g : vO B C) : vO A C := ⟨h.1.trans g.1, fun j h1 h2 => (h.2 j h1 h2).trans (g.2 j h1 h2)⟩
theorem v4.O {A B : MS} (h : v4 A B) : vO A B := ⟨h.1, fun j h1 _ => h.2 j h1⟩
theorem vO.f (M : MS) (g : Nat → Int32) : vO (setA M 12 g) M := ⟨rfl, fun j _ h2 => if_neg h2⟩
theorem mR.f {m : MS} {w : WS} (h : mR m w) (g : Nat → Int32) : mR (setA m 12 g) w := ⟨h.1, fun i hi => by
  rw [show (setA m 12 g).2 (i + 1) = m.2 (i + 1) from (show va_up m.2 12 g (i + 1) = m.2 (i + 1) from if_neg (by omega))]
  exact h.2 i hi⟩
theorem ml_cp {M : MS} {w : WS} {n : Nat} {A P : Nat → Nat} {s : S3} {v l y : Int32} (h : mX M w n A P) (hl : y < l) {K : Option Value → AH → Prop} : ∀ (k i : Nat), i + k = n → am_E i_X12_findOrder 68 [some (.ref 0), some (.int v), some (.int (l)), some (.int (nI 1)), some (.int (y)), some (.int (nI (n)))] [] (mC (setA M 12 (blit (M.2 12) 0 n (M.2 4))) s.1 s.2.2) K → am_E i_X12_findOrder 33 [some (.ref 0), some (.int v), some (.int (l)), some (.int (nI 1)), some (.int (y)), some (.int (nI (i)))] [] (mC (setA M 12 (blit (M.2 12) 0 i (M.2 4))) s.1 s.2.2) K := by
  have hn := h.n
  have hn8 := h.n8
  intro k
  induction k with
  | zero =>
    intro i hi hK
    obtain rfl : i = n := by omega
    refine b_X12_findOrder [33, 68] ?_
    conv => whnf
    refine ⟨fun c39 => ?_, fun c39 => absurd (by show M.1 5 ≤ nI i; rw [hn]; exact nI_le (by omega) (by omega)) c39⟩
    exact hK
  | succ k ih =>
    intro i hi hK
    refine b_X12_findOrder [33, 68] ?_
    conv => whnf
    refine ⟨fun c39 => absurd c39 (by show ¬ M.1 5 ≤ nI i; rw [hn]; exact nI_ge (by omega) (by omega)), fun c39 => ?_⟩
    conv => whnf
    refine ⟨fun c45 => absurd c45 (Int32.not_le.mpr hl), fun c45 => ?_⟩
    conv => whnf
    refine ⟨(vp_in_nI (show i < 8 by omega) (by decide)), ?_⟩
    conv => whnf
    refine ⟨(vp_in_nI (show i < 8 by omega) (by decide)), ?_⟩
    rw [nI_clamp (show i < 2 ^ 31 by omega)]
    rw [show upd ((setA M 12 (blit (M.2 12) 0 i (M.2 4))).2 12) i ((setA M 12 (blit (M.2 12) 0 i (M.2 4))).2 4 i) = blit (M.2 12) 0 (i + 1) (M.2 4) from by have := blit_s (M.2 12) 0 i (M.2 4); rw [Nat.zero_add] at this; exact this]
    conv => whnf
    have h2 := ih (i + 1) (by omega) hK
    rw [← nI_add i 1] at h2
    exact h2
theorem ml_cn {M : MS} {s : S3} {v l y : Int32} (hl : ¬ y < l) {K : Option Value → AH → Prop} (hK : am_E i_X12_findOrder 68 [some (.ref 0), some (.int v), some (.int (l)), some (.int (nI 1)), some (.int (y)), some (.int (nI (0)))] [] (mC M s.1 s.2.2) K) : am_E i_X12_findOrder 33 [some (.ref 0), some (.int v), some (.int (l)), some (.int (nI 1)), some (.int (y)), some (.int (nI (0)))] [] (mC M s.1 s.2.2) K := by
  refine b_X12_findOrder [33, 68] ?_
  conv => whnf
  refine ⟨fun c39 => ?_, fun c39 => ?_⟩
  · exact hK
  · conv => whnf
    refine ⟨fun c45 => ?_, fun c45 => absurd (Int32.not_lt.mp hl) c45⟩
    exact hK
theorem ml_oa {M : MS} {w : WS} {n : Nat} {A : Nat → Nat} {s : S3} {v l y : Int32} (h : mX M w n A (plW w)) (hy : y = mxF w n v) (hv : ¬ v ≤ 0) (hl : y < l) {K : Option Value → AH → Prop} (h0 : nxO w n = none → ∀ s2 : S3, am_E i_X12_findOrder 19 [some (.ref 0), some (.int v), some (.int (y)), some (.int (nI 0)), none, none] [] (mC (setA M 12 (blit (M.2 12) 0 n (M.2 4))) s2.1 s2.2.2) K) (h1 : ∀ w2, nxO w n = some w2 → ∀ (M3 : MS) (s2 : S3), mR M3 w2 → v4 M3 (setA M 12 (blit (M.2 12) 0 n (M.2 4))) → am_E i_X12_findOrder 19 [some (.ref 0), some (.int v), some (.int (y)), some (.int (nI 1)), none, none] [] (mC M3 s2.1 s2.2.2) K) : am_E i_X12_findOrder 19 [some (.ref 0), some (.int v), some (.int (l)), some (.int (nI 1)), none, none] [] (mC M s.1 s.2.2) K := by
  refine b_X12_findOrder [19, 33] ?_
  conv => whnf
  refine ⟨fun c20 => absurd c20 (show ¬ nI 1 = 0 by decide), fun c20 => ?_⟩
  conv => whnf
  refine m_mb (m := M) (s := s) (w := w) (A := A) (P := plW w) h hv (fun s2 => ?_)
  rw [show itr (mbrI w n (plW w) v) n 0 (nI 0) = y from hy.symm]
  refine b_X12_findOrder [19, 33] ?_
  conv => whnf
  have h6 : am_E i_X12_findOrder 33 [some (.ref 0), some (.int v), some (.int (l)), some (.int (nI 1)), some (.int (y)), some (.int (nI (0)))] [] (mC (setA M 12 (blit (M.2 12) 0 0 (M.2 4))) s2.1 s2.2.2) K := by
    refine ml_cp (M := M) (w := w) (A := A) (P := plW w) h hl n 0 (by omega) ?_
    refine b_X12_findOrder [19] ?_
    conv => whnf
    refine ⟨fun c71 => absurd c71 (Int32.not_le.mpr hl), fun c71 => ?_⟩
    conv => whnf
    refine b_X12_findOrder [19] ?_
    conv => whnf
    refine m_nxo (M := (setA M 12 (blit (M.2 12) 0 n (M.2 4)))) (s := s2) (w := w) (n := n) (A := A) (P := plW w) ⟨h.1.f _, h.2⟩ (fun e => ?_) (fun w2 e M3 hm3 hv3 => ?_)
    rotate_left
    · refine b_X12_findOrder [19] ?_
      conv => whnf
      exact am_wk (by exact ⟨Or.inr rfl, Or.inr rfl, Or.inr rfl, Or.inr rfl, Or.inl rfl, Or.inl rfl, trivial⟩) (h1 w2 e M3 s2 hm3 hv3)
    
    refine b_X12_findOrder [19] ?_
    conv => whnf
    exact am_wk (by exact ⟨Or.inr rfl, Or.inr rfl, Or.inr rfl, Or.inr rfl, Or.inl rfl, Or.inl rfl, trivial⟩) (h0 e s2)
  rw [setA_same (blit_0 _ _ _)] at h6
  exact h6
theorem ml_ob {M : MS} {w : WS} {n : Nat} {A : Nat → Nat} {s : S3} {v l y : Int32} (h : mX M w n A (plW w)) (hy : y = mxF w n v) (hv : ¬ v ≤ 0) (hl : ¬ y < l) {K : Option Value → AH → Prop} (h0 : nxO w n = none → ∀ s2 : S3, am_E i_X12_findOrder 19 [some (.ref 0), some (.int v), some (.int (l)), some (.int (nI 0)), none, none] [] (mC M s2.1 s2.2.2) K) (h1 : ∀ w2, nxO w n = some w2 → ∀ (M3 : MS) (s2 : S3), mR M3 w2 → v4 M3 M → am_E i_X12_findOrder 19 [some (.ref 0), some (.int v), some (.int (l)), some (.int (nI 1)), none, none] [] (mC M3 s2.1 s2.2.2) K) : am_E i_X12_findOrder 19 [some (.ref 0), some (.int v), some (.int (l)), some (.int (nI 1)), none, none] [] (mC M s.1 s.2.2) K := by
  refine b_X12_findOrder [19, 33] ?_
  conv => whnf
  refine ⟨fun c20 => absurd c20 (show ¬ nI 1 = 0 by decide), fun c20 => ?_⟩
  conv => whnf
  refine m_mb (m := M) (s := s) (w := w) (A := A) (P := plW w) h hv (fun s2 => ?_)
  rw [show itr (mbrI w n (plW w) v) n 0 (nI 0) = y from hy.symm]
  refine b_X12_findOrder [19, 33] ?_
  conv => whnf
  refine ml_cn hl ?_
  refine b_X12_findOrder [19] ?_
  conv => whnf
  refine ⟨fun c71 => ?_, fun c71 => absurd (Int32.not_lt.mp hl) c71⟩
  refine b_X12_findOrder [19] ?_
  conv => whnf
  refine m_nxo (M := M) (s := s2) (w := w) (n := n) (A := A) (P := plW w) h (fun e => ?_) (fun w2 e M3 hm3 hv3 => ?_)
  rotate_left
  · refine b_X12_findOrder [19] ?_
    conv => whnf
    exact am_wk (by exact ⟨Or.inr rfl, Or.inr rfl, Or.inr rfl, Or.inr rfl, Or.inl rfl, Or.inl rfl, trivial⟩) (h1 w2 e M3 s2 hm3 hv3)
  
  refine b_X12_findOrder [19] ?_
  conv => whnf
  exact am_wk (by exact ⟨Or.inr rfl, Or.inr rfl, Or.inr rfl, Or.inr rfl, Or.inl rfl, Or.inl rfl, trivial⟩) (h0 e s2)
theorem ml_oz {M : MS} {s : S3} {v l : Int32} {K : Option Value → AH → Prop} (hK : am_E i_X12_findOrder 89 [some (.ref 0), some (.int v), some (.int (l)), some (.int (nI 0)), none, none] [] (mC M s.1 s.2.2) K) : am_E i_X12_findOrder 19 [some (.ref 0), some (.int v), some (.int (l)), some (.int (nI 0)), none, none] [] (mC M s.1 s.2.2) K := by
  refine b_X12_findOrder [19, 89] ?_
  conv => whnf
  refine ⟨fun c20 => ?_, fun c20 => absurd (show nI 0 = 0 by decide) c20⟩
  exact hK
theorem ml_o0 {n : Nat} {v : Int32} {M0 : MS} {F : Nat → Int32} {K : Option Value → AH → Prop} (hv : ¬ v ≤ 0) : ∀ (k : Nat) (w : WS) (M : MS) (s : S3), endsIn n k w → mR M w → wEx w n → vO M M0 → (∀ j, j < n → M.2 12 j = F j) → (∀ (M3 : MS) (s3 : S3), vO M3 M0 → (∀ j, j < n → M3.2 12 j = F j) → am_E i_X12_findOrder 89 [some (.ref 0), some (.int v), some (.int (nI 0)), some (.int (nI 0)), none, none] [] (mC M3 s3.1 s3.2.2) K) → am_E i_X12_findOrder 19 [some (.ref 0), some (.int v), some (.int (nI 0)), some (.int (nI 1)), none, none] [] (mC M s.1 s.2.2) K := by
  intro k
  induction k with
  | zero => intro w M s he _ _ _ _ _; exact he.elim
  | succ k ih =>
    intro w M s he hm hw hO hF hK
    obtain ⟨A, hok⟩ := hw.pl
    obtain ⟨q, hq, eq⟩ := mx_q hw v
    have hl : ¬ mxF w n v < nI 0 := by rw [eq]; exact nI_pos (by omega)
    refine ml_ob (w := w) (n := n) (A := A) ⟨hm, hok⟩ rfl hv hl (fun e s2 => ?_) (fun w2 e M3 s2 hm3 hv3 => ?_)
    · exact ml_oz (hK M s2 hO hF)
    · exact ih w2 M3 s2 (he w2 e) hm3 (wEx_nx hw e) (hv3.O.tr hO) (fun j hj => by rw [hv3.2 12 (by decide)]; exact hF j hj) hK
theorem cp_at {a b : Nat → Int32} {j : Nat} (hj : j < 8) : va_cpy a b 0 0 8 j = a j := by rw [pk_cpy_in (by omega) (by omega), show 0 + (j - 0) = j by omega]
theorem bl_at {F g : Nat → Int32} {n j : Nat} (hj : j < n) : blit F 0 n g j = g j := by
  unfold blit
  rw [if_pos (by omega), Nat.sub_zero]
/-- what was found so far, by class and model -/
def fRl (n : Nat) (l lc : Int32) (g f : Nat → Int32) : Prop := (l = lc ∧ ∀ j, j < n → g j = f j) ∨ (l = nI 1000 ∧ lc = nI 9)
theorem ml_or {n : Nat} {v : Int32} {M0 : MS} {R : Int32 × (Nat → Int32)} {K : Option Value → AH → Prop} (hv : ¬ v ≤ 0) (hK : ∀ (M3 : MS) (s3 : S3), vO M3 M0 → (∀ j, j < n → M3.2 12 j = R.2 j) → am_E i_X12_findOrder 89 [some (.ref 0), some (.int v), some (.int (R.1)), some (.int (nI 0)), none, none] [] (mC M3 s3.1 s3.2.2) K) : ∀ (k : Nat) (w : WS) (M : MS) (s : S3) (l lc : Int32) (fc : Nat → Int32), endsIn n k w → mR M w → wEx w n → vO M M0 → fRl n l lc (M.2 12) fc → mldF n v k w lc fc = R → am_E i_X12_findOrder 19 [some (.ref 0), some (.int v), some (.int (l)), some (.int (nI 1)), none, none] [] (mC M s.1 s.2.2) K := by
  intro k
  induction k with
  | zero => intro w M s l lc fc he _ _ _ _ _; exact he.elim
  | succ k ih =>
    intro w M s l lc fc he hm hw hO hF hR
    have hn8 := hw.choose_spec.choose_spec.2.1
    obtain ⟨A, hok⟩ := hw.pl
    obtain ⟨q, hq, eq⟩ := mx_q hw v
    have hX : mX M w n A (plW w) := ⟨hm, hok⟩
    have hS := mlds_mx hw v lc fc
    rcases hF with ⟨hl, hF⟩ | ⟨hl, hlc⟩
    · subst hl
      by_cases c : mxF w n v < l
      · rw [if_pos c] at hS
        by_cases z : mxF w n v = 0
        · rw [mldF_0 hS z] at hR
          subst hR
          have z0 : mxF w n v = nI 0 := z.trans nI_0.symm
          rw [z0] at hK
          refine ml_oa hX rfl hv c (fun e s2 => ?_) (fun w2 e M3 s2 hm3 hv3 => ?_)
          · rw [z0]
            exact ml_oz (hK _ s2 ((vO.f _ _).tr hO) (fun j hj => by show blit _ _ _ _ j = va_cpy _ _ _ _ _ j; rw [bl_at hj, cp_at (by omega)]; exact hX.w (by omega)))
          · rw [z0]
            refine ml_o0 hv k w2 M3 s2 (he w2 e) hm3 (wEx_nx hw e) (hv3.O.tr ((vO.f _ _).tr hO)) (fun j hj => ?_) hK
            rw [hv3.2 12 (by decide)]
            show blit _ _ _ _ j = va_cpy _ _ _ _ _ j
            rw [bl_at hj, cp_at (by omega)]
            exact hX.w (by omega)
        · refine ml_oa hX rfl hv c (fun e s2 => ?_) (fun w2 e M3 s2 hm3 hv3 => ?_)
          · rw [mldF_n hS z e] at hR
            subst hR
            exact ml_oz (hK _ s2 ((vO.f _ _).tr hO) (fun j hj => by show blit _ _ _ _ j = va_cpy _ _ _ _ _ j; rw [bl_at hj, cp_at (by omega)]; exact hX.w (by omega)))
          · rw [mldF_2 hS z e] at hR
            refine ih w2 M3 s2 _ _ _ (he w2 e) hm3 (wEx_nx hw e) (hv3.O.tr ((vO.f _ _).tr hO)) (Or.inl ⟨rfl, fun j hj => ?_⟩) hR
            rw [hv3.2 12 (by decide)]
            show blit _ _ _ _ j = va_cpy _ _ _ _ _ j
            rw [bl_at hj, cp_at (by omega)]
            exact hX.w (by omega)
      · rw [if_neg c] at hS
        by_cases z : l = 0
        · rw [mldF_0 hS z] at hR
          subst hR
          have z0 : l = nI 0 := z.trans nI_0.symm
          subst z0
          refine ml_ob hX rfl hv c (fun e s2 => ?_) (fun w2 e M3 s2 hm3 hv3 => ?_)
          · exact ml_oz (hK M s2 hO hF)
          · exact ml_o0 hv k w2 M3 s2 (he w2 e) hm3 (wEx_nx hw e) (hv3.O.tr hO) (fun j hj => by rw [hv3.2 12 (by decide)]; exact hF j hj) hK
        · refine ml_ob hX rfl hv c (fun e s2 => ?_) (fun w2 e M3 s2 hm3 hv3 => ?_)
          · rw [mldF_n hS z e] at hR
            subst hR
            exact ml_oz (hK M s2 hO hF)
          · rw [mldF_2 hS z e] at hR
            exact ih w2 M3 s2 _ _ _ (he w2 e) hm3 (wEx_nx hw e) (hv3.O.tr hO) (Or.inl ⟨rfl, fun j hj => by rw [hv3.2 12 (by decide)]; exact hF j hj⟩) hR
    · subst hl hlc
      have c : mxF w n v < nI 1000 := by rw [eq]; exact nI_lt (by omega) (by omega)
      have c9 : mxF w n v < nI 9 := by rw [eq]; exact nI_lt (by omega) (by omega)
      rw [if_pos c9] at hS
      by_cases z : mxF w n v = 0
      · rw [mldF_0 hS z] at hR
        subst hR
        have z0 : mxF w n v = nI 0 := z.trans nI_0.symm
        rw [z0] at hK
        refine ml_oa hX rfl hv c (fun e s2 => ?_) (fun w2 e M3 s2 hm3 hv3 => ?_)
        · rw [z0]
          exact ml_oz (hK _ s2 ((vO.f _ _).tr hO) (fun j hj => by show blit _ _ _ _ j = va_cpy _ _ _ _ _ j; rw [bl_at hj, cp_at (by omega)]; exact hX.w (by omega)))
        · rw [z0]
          refine ml_o0 hv k w2 M3 s2 (he w2 e) hm3 (wEx_nx hw e) (hv3.O.tr ((vO.f _ _).tr hO)) (fun j hj => ?_) hK
          rw [hv3.2 12 (by decide)]
          show blit _ _ _ _ j = va_cpy _ _ _ _ _ j
          rw [bl_at hj, cp_at (by omega)]
          exact hX.w (by omega)
      · refine ml_oa hX rfl hv c (fun e s2 => ?_) (fun w2 e M3 s2 hm3 hv3 => ?_)
        · rw [mldF_n hS z e] at hR
          subst hR
          exact ml_oz (hK _ s2 ((vO.f _ _).tr hO) (fun j hj => by show blit _ _ _ _ j = va_cpy _ _ _ _ _ j; rw [bl_at hj, cp_at (by omega)]; exact hX.w (by omega)))
        · rw [mldF_2 hS z e] at hR
          refine ih w2 M3 s2 _ _ _ (he w2 e) hm3 (wEx_nx hw e) (hv3.O.tr ((vO.f _ _).tr hO)) (Or.inl ⟨rfl, fun j hj => ?_⟩) hR
          rw [hv3.2 12 (by decide)]
          show blit _ _ _ _ j = va_cpy _ _ _ _ _ j
          rw [bl_at hj, cp_at (by omega)]
          exact hX.w (by omega)
