/-! SPECS of the model: harm, tap, who, what kind -/
theorem itr_split {σ : Type} (f : Nat → σ → σ) : ∀ (a b i : Nat) (s : σ), itr f (a + b) i s = itr f b (i + a) (itr f a i s) := by
  intro a
  induction a with
  | zero => intro b i s; rw [Nat.zero_add]; rfl
  | succ a ih =>
    intro b i s
    rw [show a + 1 + b = (a + b) + 1 by omega, itr, ih b (i + 1) (f i s), show i + 1 + a = i + (a + 1) by omega]
    rfl
theorem itr_id {σ : Type} {f : Nat → σ → σ} : ∀ (k i : Nat) (s : σ), (∀ j, i ≤ j → j < i + k → ∀ s, f j s = s) → itr f k i s = s := by
  intro k
  induction k with
  | zero => intro i s _; rfl
  | succ k ih =>
    intro i s h
    rw [itr, h i (Nat.le_refl _) (by omega), ih (i + 1) s (fun j h1 h2 => h j (by omega) (by omega))]
theorem itr_shift {σ : Type} {f g : Nat → σ → σ} : ∀ (k i j : Nat) (s : σ), (∀ d, d < k → ∀ s, f (i + d) s = g (j + d) s) → itr f k i s = itr g k j s := by
  intro k
  induction k with
  | zero => intro i j s _; rfl
  | succ k ih =>
    intro i j s h
    rw [itr, itr, show f i s = g j s from h 0 (by omega) s]
    exact ih (i + 1) (j + 1) _ (fun d hd s => by have := h (d + 1) (by omega) s; rwa [show i + (d + 1) = i + 1 + d by omega, show j + (d + 1) = j + 1 + d by omega] at this)
def stp {σ : Type} (g : Nat → Nat → σ → σ) (k : Nat) (s : σ) : σ := if 1 ≤ k % 100 ∧ k % 100 ≤ 60 then g (k / 100) (k % 100) s else s
theorem itr_100 {σ : Type} (g : Nat → Nat → σ → σ) : ∀ (n : Nat) (s : σ), itr (stp g) (100 * n) 0 s = itr (fun t s => itr (g t) 60 1 s) n 0 s := by
  intro n
  induction n with
  | zero => intro s; rfl
  | succ n ih =>
    intro s
    rw [itr_add, show 100 * (n + 1) = 100 * n + (1 + (60 + 39)) by omega, itr_split, itr_split, itr_split, ih s]
    generalize itr (fun t s => itr (g t) 60 1 s) n 0 s = s2
    have e1 : itr (stp g) 1 (0 + 100 * n) s2 = s2 := itr_id _ _ _ (fun j h1 h2 s => if_neg (by omega))
    have e2 : itr (stp g) 60 (0 + 100 * n + 1) s2 = itr (g n) 60 1 s2 := by
      refine itr_shift _ _ _ _ (fun d hd s => ?_)
      unfold stp
      rw [if_pos (by omega), show (0 + 100 * n + 1 + d) / 100 = n by omega, show (0 + 100 * n + 1 + d) % 100 = 1 + d by omega]
    have e3 : itr (stp g) 39 (0 + 100 * n + 1 + 60) (itr (g n) 60 1 s2) = itr (g n) 60 1 s2 := itr_id _ _ _ (fun j h1 h2 s => if_neg (by omega))
    rw [e1, e2, e3, Nat.zero_add]
theorem itr_100b {σ : Type} (g : Nat → Nat → σ → σ) (n : Nat) (s : σ) : itr (stp g) (max 1 (100 * n) - 1) 1 s = itr (fun t s => itr (g t) 60 1 s) n 0 s := by
  by_cases h : n = 0
  · subst h; rfl
  · rw [← itr_100, show max 1 (100 * n) - 1 = 100 * n - 1 by omega]
    obtain ⟨k, hk⟩ : ∃ k, 100 * n = k + 1 := ⟨100 * n - 1, by omega⟩
    rw [hk, itr, Nat.add_sub_cancel]
    congr 1
theorem k100 {i : Nat} : nI 100 * nI (i / 100) + nI (i % 100) = nI i := by
  rw [nI_mulN, nI_add]
  congr 1
  omega
theorem mul100 {m : MS} {w : WS} {n : Nat} {A P : Nat → Nat} (h : mX m w n A P) : nI 100 * m.1 5 = nI (100 * n) := by rw [h.n, nI_mulN]
theorem ml_hrm {m : MS} {w : WS} {n : Nat} {A P : Nat → Nat} {x : Nat} {z2 z3 : Int32} (hx : x < 8) {K : Option Value → AH → Prop} (h : mX m w n A P) : ∀ (k i : Nat) (s : S3) (b : Int32 × Int32) (hb : b.1 = Int32.ofInt (-9) ∨ 0 ≤ b.1) (hi0 : 1 ≤ i), i + k = max 1 (100 * n) → (∀ s2 : S3, K (some (.int (if z2 = 0 then (itr (stp (fun t v b => hrmI w n x (P t) t v b)) k i b).1 else (itr (stp (fun t v b => hrmI w n x (P t) t v b)) k i b).2))) (mC m s2.1 s2.2.2)) → am_E i_X12_harm 49 [some (.ref 0), some (.int (nI x)), some (.int z2), some (.int z3), some (.int b.1), some (.int b.2), some (.int (nI i))] [] (mC m s.1 s.2.2) K := by
  intro k
  induction k with
  | zero =>
    intro i s b hb hi0 hi hK
    obtain rfl : i = max 1 (100 * n) := by omega
    refine b_X12_harm [49] ?_
    conv => whnf
    refine ⟨fun c58 => ?_, fun c58 => absurd (by rw [mul100 h]; exact nI_le (by omega) (by have := h.n8; omega)) c58⟩
    refine b_X12_harm [49] ?_
    conv => whnf
    refine ⟨fun c147 => ?_, fun c147 => ?_⟩
    · conv => whnf
      refine b_X12_harm [49] ?_
      conv => whnf
      rw [if_pos c147] at hK
      exact hK s
    · refine b_X12_harm [49] ?_
      conv => whnf
      rw [if_neg c147] at hK
      exact hK s
  | succ k ih =>
    intro i s b hb hi0 hi hK
    have hn8 := h.n8
    refine b_X12_harm [49] ?_
    conv => whnf
    refine ⟨fun c58 => absurd c58 (by rw [mul100 h]; exact nI_ge (by omega) (by omega)), fun c58 => ?_⟩
    conv => whnf
    refine ⟨(by decide), ?_⟩
    conv => whnf
    rw [r100 (by omega)]
    refine m_isIn ?_
    rw [fIn_nI (by omega) (by decide) (by decide)]
    refine b_X12_harm [49] ?_
    conv => whnf
    refine ⟨fun c72 => ?_, fun c72 => ?_⟩
    · conv => whnf
      refine b_X12_harm [49] ?_
      conv => whnf
      have e4 : stp (fun t v b => hrmI w n x (P t) t v b) i b = b := if_neg (of_decide_eq_false (bI_0.mp c72))
      simp only [itr, e4] at hK
      have h2 := ih (i + 1) s (b) hb (by omega) (by omega) hK
      rw [← nI_add i 1] at h2
      exact h2
    · refine b_X12_harm [49] ?_
      conv => whnf
      have hr := of_decide_eq_true (bI_n0.mp c72)
      have e5 : stp (fun t v b => hrmI w n x (P t) t v b) i b = hrmI w n x (P (i / 100)) (i / 100) (i % 100) b := if_pos hr
      simp only [itr, e5] at hK
      refine ⟨(by decide), ?_⟩
      conv => whnf
      refine ⟨(by decide), ?_⟩
      conv => whnf
      rw [r100 (by omega), d100 (by omega)]
      refine m_fb (m := m) (s := s) h (by omega) (v_b hr.1 (by omega)) (fun s2 hs2 hb2 => ?_)
      have e6 : hrmI w n x (P (i / 100)) (i / 100) (i % 100) b = (if hasB s2.2.2 (nI x) = true then fLeast b (nI i) (fBc s2.2.2 - nI 1) else b) := by rw [hs2.2, ← k100 (i := i)]; rfl
      rw [e6] at hK
      refine b_X12_harm [49] ?_
      conv => whnf
      refine m_hs (by omega) ?_
      refine b_X12_harm [49] ?_
      conv => whnf
      refine ⟨fun c100 => ?_, fun c100 => ?_⟩
      · refine b_X12_harm [49] ?_
        conv => whnf
        rw [if_neg (show ¬ hasB s2.2.2 (nI x) = true by rw [bI_0.mp c100]; decide)] at hK
        have h2 := ih (i + 1) s2 (b) hb (by omega) (by omega) hK
        rw [← nI_add i 1] at h2
        exact h2
      · conv => whnf
        rw [if_pos (bI_n0.mp c100), fLeast] at hK
        refine ⟨fun c105 => ?_, fun c105 => ?_⟩
        · refine b_X12_harm [49] ?_
          conv => whnf
          refine m_bc (s := s2) hb2 h.n8 ?_
          refine b_X12_harm [49] ?_
          conv => whnf
          rw [if_pos (hb.resolve_right (fun z => absurd z (Int32.not_le.mpr c105)))] at hK
          have h2 := ih (i + 1) s2 ((_, _)) (Or.inr (nI_pos' (by omega))) (by omega) (by omega) hK
          rw [← nI_add i 1] at h2
          exact h2
        · conv => whnf
          have hn9 : ¬ b.1 = Int32.ofInt (-9) := fun z => c105 (by rw [z]; decide)
          rw [if_neg hn9] at hK
          refine m_bc (s := s2) hb2 h.n8 ?_
          refine b_X12_harm [49] ?_
          conv => whnf
          refine ⟨fun c119 => ?_, fun c119 => ?_⟩
          · refine b_X12_harm [49] ?_
            conv => whnf
            refine m_bc (s := s2) hb2 h.n8 ?_
            refine b_X12_harm [49] ?_
            conv => whnf
            rw [if_neg (Int32.not_le.mpr c119)] at hK
            have h2 := ih (i + 1) s2 ((_, _)) (Or.inr (nI_pos' (by omega))) (by omega) (by omega) hK
            rw [← nI_add i 1] at h2
            exact h2
          · conv => whnf
            refine b_X12_harm [49] ?_
            conv => whnf
            rw [if_pos (Int32.not_lt.mp c119)] at hK
            have h2 := ih (i + 1) s2 (b) hb (by omega) (by omega) hK
            rw [← nI_add i 1] at h2
            exact h2
theorem hrm_100 (w : WS) (n x : Nat) (P : Nat → Nat) (b : Int32 × Int32) : itr (stp (fun t v b => hrmI w n x (P t) t v b)) (max 1 (100 * n) - 1) 1 b = itr (hrmO w n x P) n 0 b := itr_100b _ n b
theorem m_harm {a : Ab} {m : MS} {s : S3} {x c : Int32} (hI : Inv a) (hM : MR a m)  {K : Option Value → AH → Prop} (hK : ∀ m2 (s2 : S3), MR (qB a (fFirst (fNoTh ((a.1 0).1 0) x) (fUnk c (nI 1)))) m2 → K (some (.int (qA (fFirst (fNoTh ((a.1 0).1 0) x) (fUnk c (nI 1))) (if c = 0 then (itr (hrmO (a.1 0) (nO (a.1 0)) x.toNatClampNeg (plW (a.1 0))) (nO (a.1 0)) 0 nob).1 else (itr (hrmO (a.1 0) (nO (a.1 0)) x.toNatClampNeg (plW (a.1 0))) (nO (a.1 0)) 0 nob).2)))) (mC m2 s2.1 s2.2.2)) : am_M i_X12_harm [.ref 0, .int x, .int c] (mC m s.1 s.2.2) K := by
  have h := hM.x hI
  have hn := hI.n
  have hn8 := hI.n8
  refine e_X12_harm [49] ?_
  conv => whnf
  refine m_isTR hM ?_
  refine b_X12_harm [49] ?_
  conv => whnf
  refine ⟨fun c5 => ?_, fun c5 => ?_⟩
  · conv => whnf
    refine b_X12_harm [49] ?_
    conv => whnf
    refine ⟨fun c29 => absurd c29 (by decide), fun c29 => ?_⟩
    conv => whnf
    refine m_no (x := (Int32.ofInt (-1))) (by first | (unfold rfs; decide) | exact fNoBlow_r (by assumption) | exact fFirst_r fNoTh_r fNoTh_r (by assumption)) ?_
    refine b_X12_harm [49] ?_
    conv => whnf
    have e0 : (fFirst (fNoTh ((a.1 0).1 0) x) (fUnk c (nI 1))) = (Int32.ofInt (-1)) := (fFn (th_T c5) (rfs_n (by first | (unfold rfs; decide) | exact fNoBlow_r (by assumption) | exact fFirst_r fNoTh_r fNoTh_r (by assumption))))
    rw [e0, qA_n (rfs_n (by first | (unfold rfs; decide) | exact fNoBlow_r (by assumption) | exact fFirst_r fNoTh_r fNoTh_r (by assumption)))] at hK
    exact hK _ s (hM.bump (by first | (unfold rfs; decide) | exact fNoBlow_r (by assumption) | exact fFirst_r fNoTh_r fNoTh_r (by assumption)))
  · refine b_X12_harm [49] ?_
    conv => whnf
    refine m_isIn ?_
    refine b_X12_harm [49] ?_
    conv => whnf
    refine ⟨fun c18 => ?_, fun c18 => ?_⟩
    · conv => whnf
      refine b_X12_harm [49] ?_
      conv => whnf
      refine ⟨fun c29 => absurd c29 (by decide), fun c29 => ?_⟩
      conv => whnf
      refine m_no (x := (Int32.ofInt (-2))) (by first | (unfold rfs; decide) | exact fNoBlow_r (by assumption) | exact fFirst_r fNoTh_r fNoTh_r (by assumption)) ?_
      refine b_X12_harm [49] ?_
      conv => whnf
      have e0 : (fFirst (fNoTh ((a.1 0).1 0) x) (fUnk c (nI 1))) = (Int32.ofInt (-2)) := (fF0 (th_F c5) (in_T c18))
      rw [e0, qA_n (rfs_n (by first | (unfold rfs; decide) | exact fNoBlow_r (by assumption) | exact fFirst_r fNoTh_r fNoTh_r (by assumption)))] at hK
      exact hK _ s (hM.bump (by first | (unfold rfs; decide) | exact fNoBlow_r (by assumption) | exact fFirst_r fNoTh_r fNoTh_r (by assumption)))
    · refine b_X12_harm [49] ?_
      conv => whnf
      refine ⟨fun c29 => ?_, fun c29 => absurd (by decide) c29⟩
      refine b_X12_harm [49] ?_
      conv => whnf
      have r0 : (fFirst (fNoTh ((a.1 0).1 0) x) (fUnk c (nI 1))) = 0 := (fF0 (th_F c5) (in_F c18))
      rw [qA_0 r0, qB_0 r0] at hK
      obtain ⟨r1a, r1b⟩ := fFirst_0 r0
      obtain ⟨x_, hx, rfl⟩ := fNoTh_0 (n := nO (a.1 0)) (by omega) (by rw [← hn]; exact r1a)
      have ex : (nI x_).toNatClampNeg = x_ := nI_clamp (by omega)
      try rw [ex] at hK
      have uc := r1b
      exact ml_hrm (by omega) h (max 1 (100 * nO (a.1 0)) - 1) 1 s nob (Or.inl rfl) (by omega) (by omega) (fun s2 => by rw [hrm_100]; exact hK m s2 hM)
def tapG (w : WS) (n x : Nat) (P : Nat → Nat) (t v : Nat) (b : Int32 × Int32) : Int32 × Int32 := if t = x then b else tapI w n x (P t) t v b
theorem tap_100 (w : WS) (n x : Nat) (P : Nat → Nat) (b : Int32 × Int32) : itr (stp (tapG w n x P)) (max 1 (100 * n) - 1) 1 b = itr (tapO w n x P) n 0 b := by
  rw [itr_100b]
  refine itr_cg _ _ _ (fun t _ _ s => ?_)
  unfold tapO
  by_cases h : t = x
  · rw [if_pos h]
    exact itr_id _ _ _ (fun j _ _ s => if_pos h)
  · rw [if_neg h]
    exact itr_cg _ _ _ (fun j _ _ s => if_neg h)
/-- the class's best and the model's fewest -/
def tapR (b : Int32 × Int32) (f : Int32) : Prop := (b = (Int32.ofInt (-9), Int32.ofInt (-9)) ∧ f = nI 9) ∨ ∃ c q, c < 900 ∧ q ≤ 8 ∧ b = (nI c, nI q - nI 2) ∧ f = nI q
theorem tapR_le {q r : Nat} (hq : q ≤ 8) (hr : r ≤ 8) : (nI q - nI 2 ≤ nI r - nI 2) ↔ ¬ nI r < nI q := by
  have : ∀ q, q < 9 → ∀ r, r < 9 → ((nI q - nI 2 ≤ nI r - nI 2) ↔ ¬ nI r < nI q) := by decide +kernel
  exact this q (by omega) r (by omega)
theorem tapR_t {b : Int32 × Int32} {f : Int32} {c q : Nat} (h : tapR b f) (hq : q ≤ 8) (hc : c < 900) (z : nI q < f) : fLeast b (nI c) (nI q - nI 2) = (nI c, nI q - nI 2) := by
  unfold fLeast
  rcases h with ⟨rfl, rfl⟩ | ⟨c2, q2, h1, h2, rfl, rfl⟩
  · exact if_pos rfl
  · rw [if_neg (nI_n9 (by omega)), if_neg (fun y => ((tapR_le h2 hq).mp y) z)]
theorem tapR_f {b : Int32 × Int32} {f : Int32} {c q : Nat} (h : tapR b f) (hq : q ≤ 8) (z : ¬ nI q < f) : fLeast b (nI c) (nI q - nI 2) = b := by
  unfold fLeast
  rcases h with ⟨rfl, rfl⟩ | ⟨c2, q2, h1, h2, rfl, rfl⟩
  · exact absurd (nI_lt (by omega) (by decide)) z
  · rw [if_neg (nI_n9 (by omega)), if_pos ((tapR_le h2 hq).mpr z)]
theorem bwI.hc {n : Nat} {s : S3} (h : bwI n s) (hn : n ≤ 8) : ∃ q, q ≤ 8 ∧ fBc s.2.1 = nI q := by
  obtain ⟨k, h1, h2, h3⟩ := h.h hn
  exact ⟨pcN 8 k, pcN_le 8 k, by rw [h3, fBc_pc h1]⟩
theorem bwI.vc {n : Nat} {s : S3} (h : bwI n s) (hn : n ≤ 8) : ∃ q, q ≤ 8 ∧ fBc s.2.2 = nI q ∧ (q = 0 ↔ s.2.2 = 0) := by
  obtain ⟨k, h1, h2, h3⟩ := h.v hn
  refine ⟨pcN 8 k, pcN_le 8 k, by rw [h3, fBc_pc h1], ?_⟩
  rw [h3, show (0 : Int32) = nI 0 from nI_0.symm, nI_eq (by omega) (by decide)]
  have : ∀ k, k < 256 → (pcN 8 k = 0 ↔ k = 0) := by decide +kernel
  exact this k h1
theorem ml_tap {m : MS} {w : WS} {n : Nat} {A P : Nat → Nat} {x : Nat} (hx : x < 8) {K : Option Value → AH → Prop} (h : mX m w n A P) : ∀ (k i : Nat) (s : S3) (b : Int32 × Int32) (f : Int32) (hb : tapR b f) (hi0 : 1 ≤ i), i + k = max 1 (100 * n) → (∀ s2 : S3, K (some (.int (itr (stp (tapG w n x P)) k i b).1)) (mC m s2.1 s2.2.2)) → am_E i_X12_tap 23 [some (.ref 0), some (.int (nI x)), some (.int b.1), some (.int f), some (.int (nI i))] [] (mC m s.1 s.2.2) K := by
  intro k
  induction k with
  | zero =>
    intro i s b f hb hi0 hi hK
    obtain rfl : i = max 1 (100 * n) := by omega
    refine b_X12_tap [23] ?_
    conv => whnf
    refine ⟨fun c32 => ?_, fun c32 => absurd (by rw [mul100 h]; exact nI_le (by omega) (by have := h.n8; omega)) c32⟩
    refine b_X12_tap [23] ?_
    conv => whnf
    exact hK s
  | succ k ih =>
    intro i s b f hb hi0 hi hK
    have hn8 := h.n8
    refine b_X12_tap [23] ?_
    conv => whnf
    refine ⟨fun c32 => absurd c32 (by rw [mul100 h]; exact nI_ge (by omega) (by omega)), fun c32 => ?_⟩
    conv => whnf
    refine ⟨(by decide), ?_⟩
    conv => whnf
    rw [d100 (by omega)]
    refine ⟨fun c41 => ?_, fun c41 => ?_⟩
    · refine b_X12_tap [23] ?_
      conv => whnf
      have hx9 : i / 100 = x := (nI_eq (by omega) (by omega)).mp c41
      have e4 : stp (tapG w n x P) i b = b := by
        unfold stp tapG
        rw [if_pos hx9]
        exact ite_self b
      simp only [itr, e4] at hK
      have h2 := ih (i + 1) s (b) (f) hb (by omega) (by omega) hK
      rw [← nI_add i 1] at h2
      exact h2
    · conv => whnf
      refine ⟨(by decide), ?_⟩
      conv => whnf
      rw [r100 (by omega)]
      refine m_isIn ?_
      rw [fIn_nI (by omega) (by decide) (by decide)]
      refine b_X12_tap [23] ?_
      conv => whnf
      refine ⟨fun c55 => ?_, fun c55 => ?_⟩
      · conv => whnf
        refine b_X12_tap [23] ?_
        conv => whnf
        have e4 : stp (tapG w n x P) i b = b := if_neg (of_decide_eq_false (bI_0.mp c55))
        simp only [itr, e4] at hK
        have h2 := ih (i + 1) s (b) (f) hb (by omega) (by omega) hK
        rw [← nI_add i 1] at h2
        exact h2
      · refine b_X12_tap [23] ?_
        conv => whnf
        have hr := of_decide_eq_true (bI_n0.mp c55)
        have hx9 : ¬ i / 100 = x := fun z => c41 (by rw [z])
        have e5 : stp (tapG w n x P) i b = tapI w n x (P (i / 100)) (i / 100) (i % 100) b := (if_pos hr).trans (if_neg hx9)
        simp only [itr, e5] at hK
        refine ⟨(by decide), ?_⟩
        conv => whnf
        refine ⟨(by decide), ?_⟩
        conv => whnf
        rw [r100 (by omega), d100 (by omega)]
        refine m_fb (m := m) (s := s) h (by omega) (v_b hr.1 (by omega)) (fun s2 hs2 hb2 => ?_)
        refine b_X12_tap [23] ?_
        conv => whnf
        refine ⟨(vp_in_nI hx (by decide)), ?_⟩
        conv => whnf
        rw [nI_clamp (show x < 2 ^ 31 by omega)]
        refine ⟨fun c81 => ?_, fun c81 => ?_⟩
        · refine b_X12_tap [23] ?_
          conv => whnf
          rw [show tapI w n x (P (i / 100)) (i / 100) (i % 100) b = b from if_neg (by rw [← hs2.2]; exact fun z => absurd c81 (fun y => absurd ((hb2.g hx).mp z) (by rw [y]; decide)))] at hK
          have h2 := ih (i + 1) s2 (b) (f) hb (by omega) (by omega) hK
          rw [← nI_add i 1] at h2
          exact h2
        · conv => whnf
          have hg0 : fCut s2.2.1 (nI x) = true := (hb2.g hx).mpr (Int32.lt_of_le_of_ne (hb2.2.1 x hx) (fun z => c81 z.symm))
          rw [show tapI w n x (P (i / 100)) (i / 100) (i % 100) b = _ from if_pos (by rw [← hs2.2]; exact hg0), ← hs2.2] at hK
          refine ⟨fun c88 => ?_, fun c88 => ?_⟩
          · conv => whnf
            obtain ⟨q, hq, eq⟩ := hb2.hc h.n8
            rw [if_pos c88, k100, eq] at hK
            refine m_mg (s := s2) h hb2 ?_
            refine b_X12_tap [23] ?_
            conv => whnf
            refine ⟨fun c96 => ?_, fun c96 => ?_⟩
            · refine b_X12_tap [23] ?_
              conv => whnf
              refine m_mg (s := s2) h hb2 ?_
              refine b_X12_tap [23] ?_
              conv => whnf
              rw [tapR_t hb hq (by omega) (by rw [← eq]; exact c96)] at hK
              rw [eq]
              have h2 := ih (i + 1) s2 ((nI i, nI q - nI 2)) (nI q) (Or.inr ⟨i, q, by omega, hq, rfl, rfl⟩) (by omega) (by omega) hK
              rw [← nI_add i 1] at h2
              exact h2
            · conv => whnf
              refine b_X12_tap [23] ?_
              conv => whnf
              rw [tapR_f hb hq (by rw [← eq]; exact c96)] at hK
              have h2 := ih (i + 1) s2 (b) (f) hb (by omega) (by omega) hK
              rw [← nI_add i 1] at h2
              exact h2
          · refine b_X12_tap [23] ?_
            conv => whnf
            rw [if_neg c88] at hK
            have h2 := ih (i + 1) s2 (b) (f) hb (by omega) (by omega) hK
            rw [← nI_add i 1] at h2
            exact h2
theorem m_tap {a : Ab} {m : MS} {s : S3} {x : Int32} (hI : Inv a) (hM : MR a m)  {K : Option Value → AH → Prop} (hK : ∀ m2 (s2 : S3), MR (qB a (fNoTh ((a.1 0).1 0) x)) m2 → K (some (.int (qA (fNoTh ((a.1 0).1 0) x) ((itr (tapO (a.1 0) (nO (a.1 0)) x.toNatClampNeg (plW (a.1 0))) (nO (a.1 0)) 0 nob).1)))) (mC m2 s2.1 s2.2.2)) : am_M i_X12_tap [.ref 0, .int x] (mC m s.1 s.2.2) K := by
  have h := hM.x hI
  have hn := hI.n
  have hn8 := hI.n8
  refine e_X12_tap [23] ?_
  conv => whnf
  refine m_isTR hM ?_
  refine b_X12_tap [23] ?_
  conv => whnf
  refine ⟨fun c5 => ?_, fun c5 => ?_⟩
  · conv => whnf
    refine m_no (x := (Int32.ofInt (-1))) (by first | (unfold rfs; decide) | exact fNoBlow_r (by assumption) | exact fFirst_r fNoTh_r fNoTh_r (by assumption)) ?_
    refine b_X12_tap [23] ?_
    conv => whnf
    have e0 : (fNoTh ((a.1 0).1 0) x) = (Int32.ofInt (-1)) := (th_T c5)
    rw [e0, qA_n (rfs_n (by first | (unfold rfs; decide) | exact fNoBlow_r (by assumption) | exact fFirst_r fNoTh_r fNoTh_r (by assumption)))] at hK
    exact hK _ s (hM.bump (by first | (unfold rfs; decide) | exact fNoBlow_r (by assumption) | exact fFirst_r fNoTh_r fNoTh_r (by assumption)))
  · refine b_X12_tap [23] ?_
    conv => whnf
    have r0 : (fNoTh ((a.1 0).1 0) x) = 0 := (th_F c5)
    rw [qA_0 r0, qB_0 r0] at hK
    obtain ⟨x_, hx, rfl⟩ := fNoTh_0 (n := nO (a.1 0)) (by omega) (by rw [← hn]; exact r0)
    have ex : (nI x_).toNatClampNeg = x_ := nI_clamp (by omega)
    try rw [ex] at hK
    exact ml_tap (by omega) h (max 1 (100 * nO (a.1 0)) - 1) 1 s nob (nI 9) (Or.inl ⟨rfl, rfl⟩) (by omega) (by omega) (fun s2 => by rw [tap_100]; exact hK m s2 hM)
