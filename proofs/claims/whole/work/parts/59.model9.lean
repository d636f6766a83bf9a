/-! SPECS of the model: left, lots -/
theorem fBelow_r {x k : Int32} (h : ¬ fBelow x k = 0) : rfs (fBelow x k) := by
  unfold fBelow at h ⊢
  by_cases c : k ≤ x
  · rw [if_pos c] at h; exact absurd nI_0 h
  · rw [if_neg c]; simp [rfs]
theorem fAbove_r {x k : Int32} (h : ¬ fAbove x k = 0) : rfs (fAbove x k) := by
  unfold fAbove at h ⊢
  by_cases c : x ≤ k
  · rw [if_pos c] at h; exact absurd nI_0 h
  · rw [if_neg c]; simp [rfs]
theorem fBound_F (x a b : Int32) : fBound x a b = fFirst (fBelow x a) (fAbove x b) := by
  unfold fBound fFirst fBelow fAbove
  by_cases h : a ≤ x
  · simp [h, nI_0]
  · have : ¬ Int32.ofInt (-4) = 0 := by decide
    simp [h, this]
def lfF (w : WS) (n : Nat) (P : Nat → Nat) (v : Int32) : Nat → Int32 → Int32 → Int32
  | 0, z, _ => z
  | k + 1, z, t => if t < 0 then z else lfF w n P v k (z ||| (blw (brW w z) n (P t.toNatClampNeg) v).2.2) (nxW (z ||| (blw (brW w z) n (P t.toNatClampNeg) v).2.2) n (t.toNatClampNeg + 1) n 0)
theorem pcN_all {k : Nat} : ∀ n, (∀ j, j < n → k.testBit j = true) → pcN n k = n := by
  intro n
  induction n with
  | zero => intro _; rfl
  | succ n ih => intro h; rw [pcN, ih (fun j hj => h j (by omega)), h n (by omega)]; rfl
theorem all_bc {n : Nat} {z : Int32} (hn : n ≤ 8) (hz : smB n z) (h : ∀ x, x < n → hasB z (nI x) = true) : fBc z = nI n := by
  obtain ⟨q, h1, rfl⟩ := bits_small hz
  rw [fBc_pc (p8 hn h1), pcN_8 hn h1, pcN_all n (fun j hj => by have := h j hj; rw [hasB_N _ _ (by omega), bitN_nI _ _ (by omega)] at this; exact this)]
theorem nx_all {br : Int32} {n f : Nat} (hn : n ≤ 8) (h : nxW br n f n 0 = Int32.ofInt (-9)) : ∀ x, x < n → hasB br (nI x) = true := by
  intro x hx
  have := nxW_none br n f n 0 (fun h => h) h hn ((x + n - f % n) % n) (by omega) (by have := Nat.mod_lt (x + n - f % n) (show 0 < n by omega); omega)
  have e : (f + (x + n - f % n) % n) % n = x := by
    have h1 := Nat.mod_lt f (show 0 < n by omega)
    rw [Nat.add_mod, Nat.mod_mod, ← Nat.add_mod]
    have h2 : f = n * (f / n) + f % n := (Nat.div_add_mod f n).symm
    have h3 : f + (x + n - f % n) = x + n * (f / n + 1) := by rw [Nat.mul_add, Nat.mul_one]; omega
    rw [h3, Nat.add_mul_mod_self_left, Nat.mod_eq_of_lt hx]
  rw [e] at this
  exact this
theorem whole_bc {n q : Nat} (hn : n ≤ 8) (hq : q < 2 ^ n) : nI n - fBc (nI q) = fBc (((nI 1 <<< (nI n &&& 31)) - nI 1) &&& (nI q ^^^ Int32.ofInt (-1))) := by
  have : ∀ n, n < 9 → ∀ q, q < 256 → q < 2 ^ n → nI n - fBc (nI q) = fBc (((nI 1 <<< (nI n &&& 31)) - nI 1) &&& (nI q ^^^ Int32.ofInt (-1))) := by decide +kernel
  exact this n (by omega) q (p8 hn hq) hq
theorem lf_whb {w : WS} {n : Nat} {A P : Nat → Nat} {v : Int32} (hw : wOk w n A P) : ∀ (k : Nat) (w2 : WS) (f : Nat) (z : Int32), w2.1 1 = z → w2.1 0 = nI n → w2.1 2 = w.1 2 → w2.2 = w.2 → smB n z → nI n - fBc (lfF w n P v k z (nxW z n f n 0)) = whbF n P v k w2 f := by
  have hn := hw.2.1
  intro k
  induction k with
  | zero =>
    intro w2 f z h1 h0 h2 h3 hz
    obtain ⟨q, e1, rfl⟩ := bits_small hz
    show nI n - fBc (nI q) = fBc (fWhole w2)
    unfold fWhole
    rw [h0, h1]
    exact whole_bc hn e1
  | succ k ih =>
    intro w2 f z h1 h0 h2 h3 hz
    rw [whbF, h1]
    rcases nxW_wh z n f n 0 (fun h => h) with e | ⟨x, hx, e, -⟩
    · rw [if_pos e, e, lfF, if_pos (by decide), all_bc hn hz (nx_all hn e)]
      rw [Int32.sub_self, nI_0]
    · rw [e, if_neg (nI_n9 (by omega)), lfF, if_neg (nI_pos (by omega)), nI_clamp (by omega)]
      have hp := (hw.2.2.2 x hx).2.1
      have eb : blw w2 n (P x) v = blw (brW w z) n (P x) v := by rw [← h1]; exact blw_br hw hp h2 h3
      have hv := (bw_blw (show wOk (brW w z) n A P from hw) hp v).vic
      rw [eb]
      exact ih (wDrop w2 (blw (brW w z) n (P x) v).2.2) (x + 1) _ (by show w2.1 1 ||| _ = _; rw [h1]) h0 h2 h3 (hz.or hv)
theorem ml_lf {m : MS} {w : WS} {n : Nat} {A P : Nat → Nat} {v z3 ov : Int32} {kk : Nat} (hv : ¬ v ≤ 0) (hov : ov = m.1 6) (hkk : kk ≤ 60) {K : Option Value → AH → Prop} (h : mX m w n A P) : ∀ (k i : Nat) (s : S3) (z t : Int32) (hz : smB n z) (ht : t = Int32.ofInt (-9) ∨ ∃ x, x < n ∧ t = nI x), i + k = kk → (∀ s2 : S3, K (some (.int (nI n - fBc (lfF w n P v k z t)))) (mC m s2.1 s2.2.2)) → am_E i_X12_left 59 [some (.ref 0), some (.int v), some (.int (nI kk)), some (.int z3), some (.int ov), some (.int t), some (.int (nI i))] [] (mC (setI m 6 z) s.1 s.2.2) K := by
  intro k
  induction k with
  | zero =>
    intro i s z t hz ht hi hK
    obtain rfl : i = kk := by omega
    refine b_X12_left [59] ?_
    conv => whnf
    refine ⟨fun c62 => ?_, fun c62 => absurd (nI_le (Nat.le_refl _) (by omega)) c62⟩
    refine b_X12_left [59] ?_
    conv => whnf
    refine m_bits ?_
    rw [show fBits ((setI m 6 z).1 6) = fBc z from hz.bc h.n8, show (setI m 6 z).1 5 = nI n from h.n]
    refine b_X12_left [59] ?_
    conv => whnf
    have h9 := hK s
    rw [← setI_same hov] at h9
    exact h9
  | succ k ih =>
    intro i s z t hz ht hi hK
    refine b_X12_left [59] ?_
    conv => whnf
    refine ⟨fun c62 => absurd c62 (nI_ge (by omega) (by omega)), fun c62 => ?_⟩
    conv => whnf
    refine ⟨fun c67 => ?_, fun c67 => ?_⟩
    · refine b_X12_left [59] ?_
      conv => whnf
      refine m_bits ?_
      rw [show fBits ((setI m 6 z).1 6) = fBc z from hz.bc h.n8, show (setI m 6 z).1 5 = nI n from h.n]
      refine b_X12_left [59] ?_
      conv => whnf
      rw [lfF, if_pos c67] at hK
      have h9 := hK s
      rw [← setI_same hov] at h9
      exact h9
    · conv => whnf
      rcases ht with rfl | ⟨x, hx, rfl⟩
      · exact absurd (by decide) c67
      rw [lfF, if_neg c67, nI_clamp (show x < 2 ^ 31 by have := h.n8; omega)] at hK
      refine m_bb (s := s) h hx hv (fun s2 hs2 hb2 => ?_)
      rw [← hs2.2] at hK
      refine b_X12_left [59] ?_
      conv => whnf
      rw [nI_add]
      refine m_nw (m := setI m 6 (z ||| s2.2.2)) (s := s2) (h.br' _) (by have := h.n8; omega) ?_
      refine b_X12_left [59] ?_
      conv => whnf
      have h2 := ih (i + 1) s2 (z ||| s2.2.2) _ (hz.or hb2.vic) (by rcases nxW_wh _ n (x + 1) n 0 (fun h => h) with y | ⟨y, y1, y2, -⟩; exact Or.inl y; exact Or.inr ⟨y, y1, y2⟩) (by omega) hK
      rw [← nI_add i 1] at h2
      exact h2
theorem m_left {a : Ab} {m : MS} {s : S3} {v i : Int32} (hI : Inv a) (hM : MR a m)  {K : Option Value → AH → Prop} (hK : ∀ m2 (s2 : S3), MR (qB a (fFirst (fFirst (fBelow v (nI 1)) (fBelow i (nI 0))) (fFirst (fAbove v (nI 60)) (fAbove i (nI 60))))) m2 → K (some (.int (qA (fFirst (fFirst (fBelow v (nI 1)) (fBelow i (nI 0))) (fFirst (fAbove v (nI 60)) (fAbove i (nI 60)))) (whbF (nO (a.1 0)) (plW (a.1 0)) v i.toNatClampNeg (a.1 0) 0)))) (mC m2 s2.1 s2.2.2)) : am_M i_X12_left [.ref 0, .int v, .int i] (mC m s.1 s.2.2) K := by
  have h := hM.x hI
  have hn := hI.n
  have hn8 := hI.n8
  refine e_X12_left [59] ?_
  conv => whnf
  refine ⟨fun c2 => ?_, fun c2 => ?_⟩
  · refine b_X12_left [59] ?_
    conv => whnf
    refine b_X12_left [59] ?_
    conv => whnf
    refine ⟨fun c34 => absurd c34 (by decide), fun c34 => ?_⟩
    conv => whnf
    refine m_no (x := (Int32.ofInt (-4))) (by first | (unfold rfs; decide) | exact fNoBlow_r (by assumption) | exact fFirst_r fNoTh_r fNoTh_r (by assumption) | exact fFirst_r fBelow_r fAbove_r (by assumption)) ?_
    refine b_X12_left [59] ?_
    conv => whnf
    have e0 : (fFirst (fFirst (fBelow v (nI 1)) (fBelow i (nI 0))) (fFirst (fAbove v (nI 60)) (fAbove i (nI 60)))) = (Int32.ofInt (-4)) := (fFn (fFn (be_T c2) (rfs_n (by first | (unfold rfs; decide) | exact fNoBlow_r (by assumption) | exact fFirst_r fNoTh_r fNoTh_r (by assumption) | exact fFirst_r fBelow_r fAbove_r (by assumption)))) (rfs_n (by first | (unfold rfs; decide) | exact fNoBlow_r (by assumption) | exact fFirst_r fNoTh_r fNoTh_r (by assumption) | exact fFirst_r fBelow_r fAbove_r (by assumption))))
    rw [e0, qA_n (rfs_n (by first | (unfold rfs; decide) | exact fNoBlow_r (by assumption) | exact fFirst_r fNoTh_r fNoTh_r (by assumption) | exact fFirst_r fBelow_r fAbove_r (by assumption)))] at hK
    exact hK _ s (hM.bump (by first | (unfold rfs; decide) | exact fNoBlow_r (by assumption) | exact fFirst_r fNoTh_r fNoTh_r (by assumption) | exact fFirst_r fBelow_r fAbove_r (by assumption)))
  · conv => whnf
    refine ⟨fun c6 => ?_, fun c6 => ?_⟩
    · refine b_X12_left [59] ?_
      conv => whnf
      refine ⟨fun c17 => ?_, fun c17 => ?_⟩
      · refine b_X12_left [59] ?_
        conv => whnf
        refine b_X12_left [59] ?_
        conv => whnf
        refine ⟨fun c34 => absurd c34 (by decide), fun c34 => ?_⟩
        conv => whnf
        refine m_no (x := (Int32.ofInt (-6))) (by first | (unfold rfs; decide) | exact fNoBlow_r (by assumption) | exact fFirst_r fNoTh_r fNoTh_r (by assumption) | exact fFirst_r fBelow_r fAbove_r (by assumption)) ?_
        refine b_X12_left [59] ?_
        conv => whnf
        have e0 : (fFirst (fFirst (fBelow v (nI 1)) (fBelow i (nI 0))) (fFirst (fAbove v (nI 60)) (fAbove i (nI 60)))) = (Int32.ofInt (-6)) := (fF0 (fF0 (be_F c2) (be_P (by rw [nI_0]; exact c6))) (fFn (ab_T c17) (rfs_n (by first | (unfold rfs; decide) | exact fNoBlow_r (by assumption) | exact fFirst_r fNoTh_r fNoTh_r (by assumption) | exact fFirst_r fBelow_r fAbove_r (by assumption)))))
        rw [e0, qA_n (rfs_n (by first | (unfold rfs; decide) | exact fNoBlow_r (by assumption) | exact fFirst_r fNoTh_r fNoTh_r (by assumption) | exact fFirst_r fBelow_r fAbove_r (by assumption)))] at hK
        exact hK _ s (hM.bump (by first | (unfold rfs; decide) | exact fNoBlow_r (by assumption) | exact fFirst_r fNoTh_r fNoTh_r (by assumption) | exact fFirst_r fBelow_r fAbove_r (by assumption)))
      · conv => whnf
        refine ⟨fun c23 => ?_, fun c23 => ?_⟩
        · refine b_X12_left [59] ?_
          conv => whnf
          refine ⟨fun c34 => ?_, fun c34 => absurd (by decide) c34⟩
          refine b_X12_left [59] ?_
          conv => whnf
          have r0 : (fFirst (fFirst (fBelow v (nI 1)) (fBelow i (nI 0))) (fFirst (fAbove v (nI 60)) (fAbove i (nI 60)))) = 0 := (fF0 (fF0 (be_F c2) (be_P (by rw [nI_0]; exact c6))) (fF0 (ab_F c17) (ab_P c23)))
          rw [qA_0 r0, qB_0 r0] at hK
          obtain ⟨r1a, r1b⟩ := fFirst_0 r0
          obtain ⟨r2a, r2b⟩ := fFirst_0 r1a
          have lv := r2a
          have li := r2b
          obtain ⟨r3a, r3b⟩ := fFirst_0 r1b
          have gv := r3a
          have gi := r3b
          obtain ⟨v_, hv1, hv2, rfl⟩ := btw_of (by decide) (by decide) (fBelow_0 lv) (fAbove_0 gv)
          have hv0 : ¬ nI v_ ≤ 0 := v_b hv1 (by omega)
          obtain ⟨i_, hi1, hi2, rfl⟩ := btw_of (by decide) (by decide) (fBelow_0 li) (fAbove_0 gi)
          have ei : (nI i_).toNatClampNeg = i_ := nI_clamp (by omega)
          rw [ei] at hK
          refine m_nw (f := 0) h (by omega) ?_
          refine b_X12_left [59] ?_
          conv => whnf
          rw [← lf_whb h.2 i_ (a.1 0) 0 ((a.1 0).1 1) rfl hn rfl rfl hI.sm, ← h.br] at hK
          rw [← h.br]
          have h2 := ml_lf (z3 := nI 0) hv0 rfl hi2 h i_ 0 s (m.1 6) _ (by rw [h.br]; exact hI.sm) (by rcases nxW_wh (m.1 6) (nO (a.1 0)) 0 (nO (a.1 0)) 0 (fun h => h) with y | ⟨y, y1, y2, -⟩; exact Or.inl y; exact Or.inr ⟨y, y1, y2⟩) (by omega) (fun s2 => hK m s2 hM)
          rw [setI_same rfl] at h2
          exact h2
        · conv => whnf
          refine b_X12_left [59] ?_
          conv => whnf
          refine ⟨fun c34 => absurd c34 (by decide), fun c34 => ?_⟩
          conv => whnf
          refine m_no (x := (Int32.ofInt (-6))) (by first | (unfold rfs; decide) | exact fNoBlow_r (by assumption) | exact fFirst_r fNoTh_r fNoTh_r (by assumption) | exact fFirst_r fBelow_r fAbove_r (by assumption)) ?_
          refine b_X12_left [59] ?_
          conv => whnf
          have e0 : (fFirst (fFirst (fBelow v (nI 1)) (fBelow i (nI 0))) (fFirst (fAbove v (nI 60)) (fAbove i (nI 60)))) = (Int32.ofInt (-6)) := (fF0 (fF0 (be_F c2) (be_P (by rw [nI_0]; exact c6))) (fF0 (ab_F c17) (ab_Q c23)))
          rw [e0, qA_n (rfs_n (by first | (unfold rfs; decide) | exact fNoBlow_r (by assumption) | exact fFirst_r fNoTh_r fNoTh_r (by assumption) | exact fFirst_r fBelow_r fAbove_r (by assumption)))] at hK
          exact hK _ s (hM.bump (by first | (unfold rfs; decide) | exact fNoBlow_r (by assumption) | exact fFirst_r fNoTh_r fNoTh_r (by assumption) | exact fFirst_r fBelow_r fAbove_r (by assumption)))
    · conv => whnf
      refine b_X12_left [59] ?_
      conv => whnf
      refine ⟨fun c34 => absurd c34 (by decide), fun c34 => ?_⟩
      conv => whnf
      refine m_no (x := (Int32.ofInt (-4))) (by first | (unfold rfs; decide) | exact fNoBlow_r (by assumption) | exact fFirst_r fNoTh_r fNoTh_r (by assumption) | exact fFirst_r fBelow_r fAbove_r (by assumption)) ?_
      refine b_X12_left [59] ?_
      conv => whnf
      have e0 : (fFirst (fFirst (fBelow v (nI 1)) (fBelow i (nI 0))) (fFirst (fAbove v (nI 60)) (fAbove i (nI 60)))) = (Int32.ofInt (-4)) := (fFn (fF0 (be_F c2) (be_Q (by rw [nI_0]; exact c6))) (rfs_n (by first | (unfold rfs; decide) | exact fNoBlow_r (by assumption) | exact fFirst_r fNoTh_r fNoTh_r (by assumption) | exact fFirst_r fBelow_r fAbove_r (by assumption))))
      rw [e0, qA_n (rfs_n (by first | (unfold rfs; decide) | exact fNoBlow_r (by assumption) | exact fFirst_r fNoTh_r fNoTh_r (by assumption) | exact fFirst_r fBelow_r fAbove_r (by assumption)))] at hK
      exact hK _ s (hM.bump (by first | (unfold rfs; decide) | exact fNoBlow_r (by assumption) | exact fFirst_r fNoTh_r fNoTh_r (by assumption) | exact fFirst_r fBelow_r fAbove_r (by assumption)))
theorem mX.sd {m : MS} {w : WS} {n : Nat} {A P : Nat → Nat} (h : mX m w n A P) (x : Int32) : mX (setI m 27 x) w n A P := ⟨⟨fun i hi => (if_neg (by omega)).trans (h.1.1 i hi), h.1.2⟩, h.2⟩
theorem MR.sd {a : Ab} {m : MS} (h : MR a m) (x : Int32) : MR a (setI m 27 x) := by
  obtain ⟨a1, a2, a3, a4, a5, a6, a7⟩ := h
  have e : ∀ j, j ≠ 27 → (setI m 27 x).1 j = m.1 j := fun j hj => if_neg hj
  exact ⟨⟨fun i hi => (e _ (by omega)).trans (a1.1 i hi), a1.2⟩, a2, ⟨(e 24 (by decide)).trans a3.1, a3.2⟩, ⟨(e 13 (by decide)).trans a4.1, a4.2⟩, ⟨(e 17 (by decide)).trans a5.1, a5.2⟩, (e 20 (by decide)).trans a6, a7⟩
abbrev L4 : Type := Int32 × Int32 × Int32 × Int32
/-- a drop drawn -/
def ldB (w : WS) (n : Nat) (P : Nat → Nat) (z hm jp sd : Int32) (t : Nat) (v : Int32) : L4 :=
  (z ||| (blw (brW w z) n (P t) v).2.2, sd, hm + fBc (blw (brW w z) n (P t) v).2.2, jp + itr (fun j x => x + fJump (w.2 0 j) ((blw (brW w z) n (P t) v).1 j)) n 0 (nI 0))
def ldI (w : WS) (n : Nat) (P : Nat → Nat) (y : L4) : L4 := ldB w n P y.1 y.2.2.1 y.2.2.2 (lcg (lcg y.2.1)) (drw (lcg y.2.1) (nI n)).toNatClampNeg (drw (lcg (lcg y.2.1)) (nI 30) + nI 1)
theorem ldI_at {w : WS} {n : Nat} {P : Nat → Nat} {z sd hm jp sd1 sd2 : Int32} {t u : Nat} (h1 : lcg sd = sd1) (h2 : lcg sd1 = sd2) (ht : drw sd1 (nI n) = nI t) (hu : drw sd2 (nI 30) = nI u) (h8 : t < 8) : ldI w n P (z, sd, hm, jp) = ldB w n P z hm jp sd2 t (nI u + nI 1) := by
  show ldB w n P z hm jp (lcg (lcg sd)) (drw (lcg sd) (nI n)).toNatClampNeg (drw (lcg (lcg sd)) (nI 30) + nI 1) = _
  rw [h1, h2, ht, hu, nI_clamp (by omega)]
def ldR (w : WS) (y : L4) : L4 := (w.1 1, y.2)
def ldK (w : WS) (n : Nat) (P : Nat → Nat) (k : Nat) (y : L4) : L4 := ldI w n P (if k % 6 = 0 then ldR w y else y)
theorem itr_mul {σ : Type} (q : Nat) (f : Nat → σ → σ) : ∀ (n : Nat) (s : σ), itr f (q * n) 0 s = itr (fun y s => itr (fun d => f (q * y + d)) q 0 s) n 0 s := by
  intro n
  induction n with
  | zero => intro s; rfl
  | succ n ih =>
    intro s
    rw [itr_add, Nat.mul_add, Nat.mul_one, itr_split, ih s, Nat.zero_add, Nat.zero_add]
    exact itr_shift _ _ _ _ (fun d _ s => by rw [Nat.zero_add])
theorem itr_first {σ : Type} {F G : Nat → σ → σ} {r : σ → σ} (k : Nat) (s : σ) (h0 : F 0 s = G 0 (r s)) (h1 : ∀ d, 0 < d → d < k + 1 → ∀ s, F d s = G d s) : itr F (k + 1) 0 s = itr G (k + 1) 0 (r s) := by
  rw [itr, itr, h0]
  exact itr_cg _ _ _ (fun j h2 h3 s => h1 j (by omega) (by omega) s)
theorem ld_year {w : WS} {n : Nat} {A P : Nat → Nat} (hw : wOk w n A P) (hn : 0 < n) (y : L4) : (itr (fun _ => ldI w n P) 6 0 (ldR w y)).2 = yrY w n P 0 y.2 := by
  unfold yrY
  have := itr_rel (f := fun _ => ldI w n P) (g := yrD n P) (R := fun a b => b.1.1 1 = a.1 ∧ b.1.1 2 = w.1 2 ∧ b.1.2 = w.2 ∧ a.2 = b.2) 6 0 (ldR w y) ((w, y.2) : Y4) ⟨rfl, rfl, rfl, rfl⟩ (fun j a b _ hj hR => by
    obtain ⟨h1, h2, h3, h4⟩ := hR
    obtain ⟨x, hx, ex⟩ := drw_nI (lcg b.2.1) hn (show n < 2 ^ 31 by have := hw.2.1; omega)
    have e : blw b.1 n (P (drw (lcg b.2.1) (nI n)).toNatClampNeg) (drw (lcg (lcg b.2.1)) (nI 30) + nI 1) = blw (brW w a.1) n (P (drw (lcg b.2.1) (nI n)).toNatClampNeg) (drw (lcg (lcg b.2.1)) (nI 30) + nI 1) := by
      rw [← h1, ex, nI_clamp (by have := hw.2.1; omega)]
      exact blw_br hw (hw.2.2.2 x hx).2.1 h2 h3
    refine ⟨?_, h2, h3, ?_⟩
    · show b.1.1 1 ||| _ = _
      rw [e, h1]
      unfold ldI ldB
      rw [h4]
    · unfold ldI ldB yrD
      rw [h4, e, h3])
  exact this.2.2.2
theorem ld_all {w : WS} {n : Nat} {A P : Nat → Nat} (hw : wOk w n A P) (hn : 0 < n) (ys : Nat) (y : L4) : (itr (ldK w n P) (6 * ys) 0 y).2 = itr (yrY w n P) ys 0 y.2 := by
  rw [itr_mul]
  refine itr_rel (R := fun a b => a.2 = b) ys 0 y y.2 rfl (fun j a b _ _ hR => ?_)
  subst hR
  have : itr (fun d => ldK w n P (6 * j + d)) 6 0 a = itr (fun _ => ldI w n P) 6 0 (ldR w a) := itr_first (r := ldR w) 5 a (by
    show ldI w n P (if (6 * j + 0) % 6 = 0 then _ else _) = _
    rw [if_pos (by omega)]) (fun d h1 h2 s => by
    show ldI w n P (if (6 * j + d) % 6 = 0 then _ else _) = _
    rw [if_neg (by omega)])
  rw [this]
  exact ld_year hw hn a
theorem m_draw {m : MS} {s : S3} {n : Nat} (h0 : 0 < n) (hn : n < 2 ^ 31) {K : Option Value → AH → Prop} (hK : K (some (.int (drw (lcg (m.1 27)) (nI n)))) (mC (setI m 27 (lcg (m.1 27))) s.1 s.2.2)) : am_M i_X12_draw [.ref 0, .int (nI n)] (mC m s.1 s.2.2) K := by
  refine e_X12_draw [] ?_
  conv => whnf
  refine ⟨(by decide), ?_⟩
  conv => whnf
  refine ⟨(nI_ne0 h0 hn), ?_⟩
  conv => whnf
  exact hK
theorem m_draw2 {m m2 : MS} {s : S3} {n : Nat} {x y sd : Int32} (hx : x = nI n) (h0 : 0 < n) (hn : n < 2 ^ 31) (hsd : m.1 27 = sd) (hy : lcg sd = y) (he : setI m 27 y = m2) {K : Option Value → AH → Prop} (hK : K (some (.int (drw y (nI n)))) (mC m2 s.1 s.2.2)) : am_M i_X12_draw [.ref 0, .int x] (mC m s.1 s.2.2) K := by
  subst hx
  subst hsd
  subst he
  subst hy
  exact m_draw h0 hn hK
theorem setI_ov {m : MS} {i : Nat} {x y : Int32} : setI (setI m i x) i y = setI m i y := by
  have : va_up (va_up m.1 i x) i y = va_up m.1 i y := by
    funext j
    unfold va_up
    by_cases q : j = i
    · rw [if_pos q, if_pos q]
    · rw [if_neg q, if_neg q, if_neg q]
  show (va_up (va_up m.1 i x) i y, m.2) = (va_up m.1 i y, m.2)
  rw [this]
theorem setI_cm {m : MS} {i j : Nat} {x y : Int32} (h : i ≠ j) : setI (setI m i x) j y = setI (setI m j y) i x := by
  have : va_up (va_up m.1 i x) j y = va_up (va_up m.1 j y) i x := by
    funext q
    unfold va_up
    by_cases a : q = j
    · rw [if_pos a, if_neg (by omega), if_pos a]
    · rw [if_neg a]
      by_cases b : q = i
      · rw [if_pos b, if_pos b]
      · rw [if_neg b, if_neg b, if_neg a]
  show (va_up (va_up m.1 i x) j y, m.2) = (va_up (va_up m.1 j y) i x, m.2)
  rw [this]
def LW (m : MS) (y : L4) : MS := setI (setI m 27 y.2.1) 6 y.1
theorem LW_sd {m : MS} {sd z x : Int32} : setI (setI (setI m 27 sd) 6 z) 27 x = setI (setI m 27 x) 6 z := by
  rw [setI_cm (by decide), setI_ov]
theorem rem6 {i : Nat} (h : i < 2 ^ 30) : nI i - nI i / nI 6 * nI 6 = nI (i % 6) := rem_nI (by decide) h (by decide)
theorem mul6 (ys : Nat) : nI 6 * nI ys = nI (6 * ys) := nI_mulN 6 ys
theorem ml_lot {m : MS} {w : WS} {n : Nat} {A P : Nat → Nat} {z2 z4 c ov : Int32} {ys : Nat} (hov : ov = m.1 6) (hys : ys ≤ 20) (h0 : 0 < n) {K : Option Value → AH → Prop} (h : mX m w n A P) : ∀ (k i : Nat) (s : S3) (z sd hm jp : Int32), i + k = 6 * ys → (∀ (s2 : S3) (sd9 : Int32), K (some (.int (if c = 0 then (itr (ldK w n P) k i (z, sd, hm, jp)).2.2.1 else (itr (ldK w n P) k i (z, sd, hm, jp)).2.2.2))) (mC (setI m 27 sd9) s2.1 s2.2.2)) → am_E i_X12_lots 68 [some (.ref 0), some (.int (nI ys)), some (.int z2), some (.int c), some (.int z4), some (.int ov), some (.int hm), some (.int jp), some (.int (nI i)), none] [] (mC (setI (setI m 27 sd) 6 z) s.1 s.2.2) K := by
  intro k
  induction k with
  | zero =>
    intro i s z sd hm jp hi hK
    obtain rfl : i = 6 * ys := by omega
    refine b_X12_lots [68] ?_
    conv => whnf
    refine ⟨fun c74 => ?_, fun c74 => absurd (by rw [mul6]; exact nI_le (Nat.le_refl _) (by omega)) c74⟩
    refine b_X12_lots [68] ?_
    conv => whnf
    have hfin : setI (setI m 27 sd) 6 ov = setI m 27 sd := setI_same hov
    have h9 := hK s sd
    rw [← hfin] at h9
    refine ⟨fun c149 => ?_, fun c149 => ?_⟩
    · conv => whnf
      refine b_X12_lots [68] ?_
      conv => whnf
      rw [if_pos c149] at h9
      exact h9
    · refine b_X12_lots [68] ?_
      conv => whnf
      rw [if_neg c149] at h9
      exact h9
  | succ k ih =>
    intro i s z sd hm jp hi hK
    refine b_X12_lots [68] ?_
    conv => whnf
    refine ⟨fun c74 => absurd c74 (by rw [mul6]; exact nI_ge (by omega) (by omega)), fun c74 => ?_⟩
    conv => whnf
    refine ⟨(by decide), ?_⟩
    conv => whnf
    rw [rem6 (by omega)]
    refine ⟨fun c83 => ?_, fun c83 => ?_⟩
    · conv => whnf
      have hz6 : i % 6 = 0 := (nI_eq (by omega) (by decide)).mp (c83.trans nI_0.symm)
      refine b_X12_lots [68] ?_
      conv => whnf
      obtain ⟨sd1, hsd⟩ : ∃ q, lcg sd = q := ⟨_, rfl⟩
      obtain ⟨sd2, hsd2⟩ : ∃ q, lcg sd1 = q := ⟨_, rfl⟩
      obtain ⟨t, ht, et⟩ := drw_nI sd1 h0 (show n < 2 ^ 31 by have := h.n8; omega)
      obtain ⟨u, hu, eu⟩ := drw_nI sd2 (show 0 < 30 by decide) (by decide)
      have e4 : ldK w n P i (z, sd, hm, jp) = ldB w n P ov hm jp sd2 t (nI u + nI 1) := by
        refine Eq.trans ?_ (ldI_at hsd hsd2 et eu (by have := h.n8; omega))
        unfold ldK
        rw [if_pos hz6]
        unfold ldR
        rw [hov, h.br]
      refine m_draw2 (m := setI (setI m 27 sd) 6 ov) (m2 := setI (setI m 27 sd1) 6 ov) (s := s) (n := n) (sd := sd) (y := sd1) h.n h0 (by have := h.n8; omega) rfl hsd LW_sd ?_
      rw [et]
      refine b_X12_lots [68] ?_
      conv => whnf
      refine m_draw2 (m := setI (setI m 27 sd1) 6 ov) (m2 := setI (setI m 27 sd2) 6 ov) (s := s) (n := 30) (sd := sd1) (y := sd2) rfl (by decide) (by decide) rfl hsd2 LW_sd ?_
      rw [eu]
      refine b_X12_lots [68] ?_
      conv => whnf
      rw [show nI 1 + nI u = nI u + nI 1 from Int32.add_comm _ _]
      have hv1 : ¬ nI u + nI 1 ≤ 0 := by rw [nI_add]; exact v_b (by omega) (by omega)
      generalize nI u + nI 1 = v at e4 hv1 ⊢
      refine m_bb (m := setI m 27 sd2) (z := ov) (s := s) (h.sd sd2) ht hv1 (fun s2 hs2 hb2 => ?_)
      refine b_X12_lots [68] ?_
      conv => whnf
      obtain ⟨jj, hjj⟩ : ∃ q, itr (fun t x => x + fJump (w.2 0 t) (s2.1 t)) n 0 (nI 0) = q := ⟨_, rfl⟩
      have e5 : ldB w n P ov hm jp sd2 t v = (ov ||| s2.2.2, sd2, hm + fBc s2.2.2, jp + jj) := by
        unfold ldB
        rw [← hs2.2, ← hjj, itr_cg (g := fun t x => x + fJump (w.2 0 t) (s2.1 t)) _ _ _ (fun j _ hj x => by rw [hs2.1 j (by have := h.n8; omega)])]
      rw [e5] at e4
      refine m_aj (m := setI (setI m 27 sd2) 6 (ov ||| s2.2.2)) (w := brW w (ov ||| s2.2.2)) (s := s2) ((h.sd sd2).br' _) hb2 ?_
      rw [show itr (fun t x => x + fJump ((brW w (ov ||| s2.2.2)).2 0 t) (s2.1 t)) n 0 (nI 0) = jj from hjj]
      refine b_X12_lots [68] ?_
      conv => whnf
      rw [itr, e4] at hK
      have h2 := ih (i + 1) s2 (ov ||| s2.2.2) sd2 (hm + fBc s2.2.2) (jp + jj) (by omega) hK
      rw [← nI_add i 1] at h2
      exact am_wk (by exact ⟨Or.inr rfl, Or.inr rfl, Or.inr rfl, Or.inr rfl, Or.inr rfl, Or.inr rfl, Or.inr rfl, Or.inr rfl, Or.inr rfl, Or.inl rfl, trivial⟩) h2
    · refine b_X12_lots [68] ?_
      conv => whnf
      have hz6 : ¬ i % 6 = 0 := fun z => c83 (by rw [z, nI_0])
      obtain ⟨sd1, hsd⟩ : ∃ q, lcg sd = q := ⟨_, rfl⟩
      obtain ⟨sd2, hsd2⟩ : ∃ q, lcg sd1 = q := ⟨_, rfl⟩
      obtain ⟨t, ht, et⟩ := drw_nI sd1 h0 (show n < 2 ^ 31 by have := h.n8; omega)
      obtain ⟨u, hu, eu⟩ := drw_nI sd2 (show 0 < 30 by decide) (by decide)
      have e4 : ldK w n P i (z, sd, hm, jp) = ldB w n P z hm jp sd2 t (nI u + nI 1) := by
        refine Eq.trans ?_ (ldI_at hsd hsd2 et eu (by have := h.n8; omega))
        unfold ldK
        rw [if_neg hz6]
      refine m_draw2 (m := setI (setI m 27 sd) 6 z) (m2 := setI (setI m 27 sd1) 6 z) (s := s) (n := n) (sd := sd) (y := sd1) h.n h0 (by have := h.n8; omega) rfl hsd LW_sd ?_
      rw [et]
      refine b_X12_lots [68] ?_
      conv => whnf
      refine m_draw2 (m := setI (setI m 27 sd1) 6 z) (m2 := setI (setI m 27 sd2) 6 z) (s := s) (n := 30) (sd := sd1) (y := sd2) rfl (by decide) (by decide) rfl hsd2 LW_sd ?_
      rw [eu]
      refine b_X12_lots [68] ?_
      conv => whnf
      rw [show nI 1 + nI u = nI u + nI 1 from Int32.add_comm _ _]
      have hv1 : ¬ nI u + nI 1 ≤ 0 := by rw [nI_add]; exact v_b (by omega) (by omega)
      generalize nI u + nI 1 = v at e4 hv1 ⊢
      refine m_bb (m := setI m 27 sd2) (z := z) (s := s) (h.sd sd2) ht hv1 (fun s2 hs2 hb2 => ?_)
      refine b_X12_lots [68] ?_
      conv => whnf
      obtain ⟨jj, hjj⟩ : ∃ q, itr (fun t x => x + fJump (w.2 0 t) (s2.1 t)) n 0 (nI 0) = q := ⟨_, rfl⟩
      have e5 : ldB w n P z hm jp sd2 t v = (z ||| s2.2.2, sd2, hm + fBc s2.2.2, jp + jj) := by
        unfold ldB
        rw [← hs2.2, ← hjj, itr_cg (g := fun t x => x + fJump (w.2 0 t) (s2.1 t)) _ _ _ (fun j _ hj x => by rw [hs2.1 j (by have := h.n8; omega)])]
      rw [e5] at e4
      refine m_aj (m := setI (setI m 27 sd2) 6 (z ||| s2.2.2)) (w := brW w (z ||| s2.2.2)) (s := s2) ((h.sd sd2).br' _) hb2 ?_
      rw [show itr (fun t x => x + fJump ((brW w (z ||| s2.2.2)).2 0 t) (s2.1 t)) n 0 (nI 0) = jj from hjj]
      refine b_X12_lots [68] ?_
      conv => whnf
      rw [itr, e4] at hK
      have h2 := ih (i + 1) s2 (z ||| s2.2.2) sd2 (hm + fBc s2.2.2) (jp + jj) (by omega) hK
      rw [← nI_add i 1] at h2
      exact am_wk (by exact ⟨Or.inr rfl, Or.inr rfl, Or.inr rfl, Or.inr rfl, Or.inr rfl, Or.inr rfl, Or.inr rfl, Or.inr rfl, Or.inr rfl, Or.inl rfl, trivial⟩) h2
theorem m_lots {a : Ab} {m : MS} {s : S3} {i z c : Int32} (hI : Inv a) (hM : MR a m)  {K : Option Value → AH → Prop} (hK : ∀ m2 (s2 : S3), MR (qB a (fFirst (fFirst (fBelow i (nI 1)) (fAbove i (nI 20))) (fUnk c (nI 1)))) m2 → K (some (.int (qA (fFirst (fFirst (fBelow i (nI 1)) (fAbove i (nI 20))) (fUnk c (nI 1))) (if c = 0 then (yrs (a.1 0) (nO (a.1 0)) (plW (a.1 0)) i.toNatClampNeg z).2.1 else (yrs (a.1 0) (nO (a.1 0)) (plW (a.1 0)) i.toNatClampNeg z).2.2)))) (mC m2 s2.1 s2.2.2)) : am_M i_X12_lots [.ref 0, .int i, .int z, .int c] (mC m s.1 s.2.2) K := by
  have h := hM.x hI
  have hn := hI.n
  have hn8 := hI.n8
  refine e_X12_lots [68] ?_
  conv => whnf
  refine m_bound ?_
  rw [fBound_F]
  refine b_X12_lots [68] ?_
  conv => whnf
  refine ⟨fun c11 => ?_, fun c11 => ?_⟩
  · conv => whnf
    refine m_isIn ?_
    refine b_X12_lots [68] ?_
    conv => whnf
    refine ⟨fun c20 => ?_, fun c20 => ?_⟩
    · conv => whnf
      refine ⟨fun c29 => absurd c29 (by decide), fun c29 => ?_⟩
      conv => whnf
      refine m_no (x := (Int32.ofInt (-2))) (by first | (unfold rfs; decide) | exact fNoBlow_r (by assumption) | exact fFirst_r fNoTh_r fNoTh_r (by assumption) | exact fFirst_r fBelow_r fAbove_r (by assumption)) ?_
      refine b_X12_lots [68] ?_
      conv => whnf
      have e0 : (fFirst (fFirst (fBelow i (nI 1)) (fAbove i (nI 20))) (fUnk c (nI 1))) = (Int32.ofInt (-2)) := (fF0 c11 (in_T c20))
      rw [e0, qA_n (rfs_n (by first | (unfold rfs; decide) | exact fNoBlow_r (by assumption) | exact fFirst_r fNoTh_r fNoTh_r (by assumption) | exact fFirst_r fBelow_r fAbove_r (by assumption)))] at hK
      exact hK _ s (hM.bump (by first | (unfold rfs; decide) | exact fNoBlow_r (by assumption) | exact fFirst_r fNoTh_r fNoTh_r (by assumption) | exact fFirst_r fBelow_r fAbove_r (by assumption)))
    · refine b_X12_lots [68] ?_
      conv => whnf
      refine ⟨fun c29 => ?_, fun c29 => absurd c11 c29⟩
      refine b_X12_lots [68] ?_
      conv => whnf
      have r0 : (fFirst (fFirst (fBelow i (nI 1)) (fAbove i (nI 20))) (fUnk c (nI 1))) = 0 := (fF0 c11 (in_F c20))
      rw [qA_0 r0, qB_0 r0] at hK
      obtain ⟨r4a, r4b⟩ := fFirst_0 r0
      obtain ⟨r5a, r5b⟩ := fFirst_0 r4a
      have li := r5a
      have gi := r5b
      have uc := r4b
      obtain ⟨i_, hi1, hi2, rfl⟩ := btw_of (by decide) (by decide) (fBelow_0 li) (fAbove_0 gi)
      have ei : (nI i_).toNatClampNeg = i_ := nI_clamp (by omega)
      rw [ei] at hK
      unfold yrs at hK
      refine ⟨fun c43 => ?_, fun c43 => ?_⟩
      · conv => whnf
        have hz : nO (a.1 0) = 0 := (nI_eq (by omega) (by decide)).mp (h.n.symm.trans (c43.trans nI_0.symm))
        rw [if_pos hz] at hK
        have h9 := hK m s hM
        rw [show (if c = 0 then (z, nI 0, nI 0).2.1 else (z, nI 0, nI 0).2.2) = nI 0 from ite_self _] at h9
        exact h9
      · refine b_X12_lots [68] ?_
        conv => whnf
        have hz : 0 < nO (a.1 0) := Nat.pos_of_ne_zero (fun y => c43 (h.n.trans (by rw [y, nI_0])))
        rw [if_neg (show ¬ nO (a.1 0) = 0 by omega)] at hK
        have h2 := ml_lot (z2 := z) (z4 := fFirst (fBelow (nI i_) (nI 1)) (fAbove (nI i_) (nI 20))) (c := c) rfl hi2 hz h (6 * i_) 0 s (m.1 6) z (nI 0) (nI 0) (by omega) (fun s2 sd => by rw [ld_all h.2 hz]; exact hK _ s2 (hM.sd sd))
        rw [setI_same (m := setI m 27 z) (i := 6) (z := m.1 6) rfl] at h2
        exact am_wk (by exact ⟨Or.inr rfl, Or.inr rfl, Or.inr rfl, Or.inr rfl, Or.inr rfl, Or.inr rfl, Or.inr rfl, Or.inr rfl, Or.inr rfl, Or.inl rfl, trivial⟩) h2
  · refine b_X12_lots [68] ?_
    conv => whnf
    refine ⟨fun c29 => absurd c29 c11, fun c29 => ?_⟩
    conv => whnf
    refine m_no (x := (fFirst (fBelow i (nI 1)) (fAbove i (nI 20)))) (by first | (unfold rfs; decide) | exact fNoBlow_r (by assumption) | exact fFirst_r fNoTh_r fNoTh_r (by assumption) | exact fFirst_r fBelow_r fAbove_r (by assumption)) ?_
    refine b_X12_lots [68] ?_
    conv => whnf
    have e0 : (fFirst (fFirst (fBelow i (nI 1)) (fAbove i (nI 20))) (fUnk c (nI 1))) = (fFirst (fBelow i (nI 1)) (fAbove i (nI 20))) := (fFn rfl (rfs_n (by first | (unfold rfs; decide) | exact fNoBlow_r (by assumption) | exact fFirst_r fNoTh_r fNoTh_r (by assumption) | exact fFirst_r fBelow_r fAbove_r (by assumption))))
    rw [e0, qA_n (rfs_n (by first | (unfold rfs; decide) | exact fNoBlow_r (by assumption) | exact fFirst_r fNoTh_r fNoTh_r (by assumption) | exact fFirst_r fBelow_r fAbove_r (by assumption)))] at hK
    exact hK _ s (hM.bump (by first | (unfold rfs; decide) | exact fNoBlow_r (by assumption) | exact fFirst_r fNoTh_r fNoTh_r (by assumption) | exact fFirst_r fBelow_r fAbove_r (by assumption)))
