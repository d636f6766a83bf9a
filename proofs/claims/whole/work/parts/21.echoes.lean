/-! SPECS: questions that try the blows one after the other -/
def eO (d : Int32 × Int32 × Int32) : AC := .inr (.inr (1, [.ref 1, .ref 3, .ref 9, .int d.1, .int d.2.1, .int d.2.2]))
def eC (d : Int32 × Int32 × Int32) (s : S3) (md : WS) (b : Int32 × Int32) (w : WS) : AH := eO d :: (uC 1 s ++ (wC 3 md ++ (bO b :: wC 10 w)))
def lstF (Q : Nat → Bool) : Nat → Nat → Int32
  | 0, _ => Int32.ofInt (-9)
  | k + 1, i => if Q i = true then nI i else lstF Q k (i + 1)
theorem l_heard {d : Int32 × Int32 × Int32} {md : WS} {b : Int32 × Int32} {w : WS} {n t x : Nat} {A P : Nat → Nat} {K : Option Value → AH → Prop} (hw : wOk w n A P) (ht : t < n) : ∀ (k i : Nat) (s : S3), i + k = 61 → (∀ s2, K (some (.int (lstF (fun v => fCut (blw w n (P t) (nI v)).2.1 (nI x)) k i))) (eC d s2 md b w)) → am_E i_X1_leastHeard 3 [some (.ref 0), some (.ref 10), some (.int (nI t)), some (.int (nI x)), some (.int (nI i))] [] (eC d s md b w) K := by
  intro k
  induction k with
  | zero =>
    intro i s hi hK
    obtain rfl : i = 61 := by omega
    refine b_X1_leastHeard [3] ?_
    conv => whnf
    refine ⟨fun c7 => ?_, fun c7 => absurd (by decide) c7⟩
    refine b_X1_leastHeard [3] ?_
    conv => whnf
    exact hK s
  | succ k ih =>
    intro i s hi hK
    refine b_X1_leastHeard [3] ?_
    conv => whnf
    refine ⟨fun c7 => absurd c7 (by exact nI_nlt (by omega) (by omega)), fun c7 => ?_⟩
    conv => whnf
    refine f_strike (s := s) (w := w) [1, 2, 10, 11, 12, 13, 14, 15] hw ht rfl rfl rfl ⟨rfl, rfl, rfl, rfl, rfl, rfl, rfl, rfl, trivial⟩ (fun s2 hs2 => ?_)
    conv => whnf
    refine b_X1_leastHeard [3] ?_
    conv => whnf
    refine s_isHeardBy (s := s2) ⟨rfl, rfl⟩ ?_
    refine b_X1_leastHeard [3] ?_
    conv => whnf
    refine ⟨fun c29 => ?_, fun c29 => ?_⟩
    · refine b_X1_leastHeard [3] ?_
      conv => whnf
      rw [hs2.2] at c29
      rw [lstF, if_neg (by rw [bI_0.mp c29]; decide)] at hK
      have h2 := ih (i + 1) s2 (by omega) hK
      rw [← nI_add i 1] at h2
      exact h2
    · conv => whnf
      rw [hs2.2] at c29
      have h3 := hK s2
      rw [lstF, if_pos (bI_n0.mp c29)] at h3
      exact h3
theorem s_heard {d : Int32 × Int32 × Int32} {md : WS} {b : Int32 × Int32} {w : WS} {n t x : Nat} {A P : Nat → Nat} {s : S3} (hw : wOk w n A P) (ht : t < n) {K : Option Value → AH → Prop} (hK : ∀ s2, K (some (.int (lstF (fun v => fCut (blw w n (P t) (nI v)).2.1 (nI x)) 60 1))) (eC d s2 md b w)) : am_M i_X1_leastHeard [.ref 0, .ref 10, .int (nI t), .int (nI x)] (eC d s md b w) K := by
  refine e_X1_leastHeard [3] ?_
  conv => whnf
  exact l_heard hw ht 60 1 s rfl hK
theorem l_brk {d : Int32 × Int32 × Int32} {md : WS} {b : Int32 × Int32} {w : WS} {n t x : Nat} {A P : Nat → Nat} {K : Option Value → AH → Prop} (hw : wOk w n A P) (ht : t < n) : ∀ (k i : Nat) (s : S3), i + k = 61 → (∀ s2, K (some (.int (lstF (fun v => hasB (blw w n (P t) (nI v)).2.2 (nI x)) k i))) (eC d s2 md b w)) → am_E i_X1_leastBreaking 3 [some (.ref 0), some (.ref 10), some (.int (nI t)), some (.int (nI x)), some (.int (nI i))] [] (eC d s md b w) K := by
  intro k
  induction k with
  | zero =>
    intro i s hi hK
    obtain rfl : i = 61 := by omega
    refine b_X1_leastBreaking [3] ?_
    conv => whnf
    refine ⟨fun c7 => ?_, fun c7 => absurd (by decide) c7⟩
    refine b_X1_leastBreaking [3] ?_
    conv => whnf
    exact hK s
  | succ k ih =>
    intro i s hi hK
    refine b_X1_leastBreaking [3] ?_
    conv => whnf
    refine ⟨fun c7 => absurd c7 (by exact nI_nlt (by omega) (by omega)), fun c7 => ?_⟩
    conv => whnf
    refine f_strike (s := s) (w := w) [1, 2, 10, 11, 12, 13, 14, 15] hw ht rfl rfl rfl ⟨rfl, rfl, rfl, rfl, rfl, rfl, rfl, rfl, trivial⟩ (fun s2 hs2 => ?_)
    conv => whnf
    refine b_X1_leastBreaking [3] ?_
    conv => whnf
    refine s_hasBroken (s := s2) ⟨rfl, rfl⟩ ?_
    refine b_X1_leastBreaking [3] ?_
    conv => whnf
    refine ⟨fun c29 => ?_, fun c29 => ?_⟩
    · refine b_X1_leastBreaking [3] ?_
      conv => whnf
      rw [hs2.2] at c29
      rw [lstF, if_neg (by rw [bI_0.mp c29]; decide)] at hK
      have h2 := ih (i + 1) s2 (by omega) hK
      rw [← nI_add i 1] at h2
      exact h2
    · conv => whnf
      rw [hs2.2] at c29
      have h3 := hK s2
      rw [lstF, if_pos (bI_n0.mp c29)] at h3
      exact h3
theorem s_brk {d : Int32 × Int32 × Int32} {md : WS} {b : Int32 × Int32} {w : WS} {n t x : Nat} {A P : Nat → Nat} {s : S3} (hw : wOk w n A P) (ht : t < n) {K : Option Value → AH → Prop} (hK : ∀ s2, K (some (.int (lstF (fun v => hasB (blw w n (P t) (nI v)).2.2 (nI x)) 60 1))) (eC d s2 md b w)) : am_M i_X1_leastBreaking [.ref 0, .ref 10, .int (nI t), .int (nI x)] (eC d s md b w) K := by
  refine e_X1_leastBreaking [3] ?_
  conv => whnf
  exact l_brk hw ht 60 1 s rfl hK
def tghF (Q : Nat → Bool) : Nat → Nat → Int32
  | 0, _ => nI 60
  | k + 1, i => if Q i = true then nI i - nI 1 else tghF Q k (i + 1)
theorem l_tough {d : Int32 × Int32 × Int32} {md : WS} {b : Int32 × Int32} {w : WS} {n t : Nat} {A P : Nat → Nat} {K : Option Value → AH → Prop} (hw : wOk w n A P) (ht : t < n) : ∀ (k i : Nat) (s : S3), i + k = 61 → (∀ s2, K (some (.int (tghF (fun v => !(decide ((blw w n (P t) (nI v)).2.2 = 0))) k i))) (eC d s2 md b w)) → am_E i_X1_greatestHarmless 2 [some (.ref 0), some (.ref 10), some (.int (nI t)), some (.int (nI i))] [] (eC d s md b w) K := by
  intro k
  induction k with
  | zero =>
    intro i s hi hK
    obtain rfl : i = 61 := by omega
    refine b_X1_greatestHarmless [2] ?_
    conv => whnf
    refine ⟨fun c5 => ?_, fun c5 => absurd (by decide) c5⟩
    refine b_X1_greatestHarmless [2] ?_
    conv => whnf
    exact hK s
  | succ k ih =>
    intro i s hi hK
    refine b_X1_greatestHarmless [2] ?_
    conv => whnf
    refine ⟨fun c5 => absurd c5 (by exact nI_nlt (by omega) (by omega)), fun c5 => ?_⟩
    conv => whnf
    refine f_strike (s := s) (w := w) [1, 2, 10, 11, 12, 13, 14, 15] hw ht rfl rfl rfl ⟨rfl, rfl, rfl, rfl, rfl, rfl, rfl, rfl, trivial⟩ (fun s2 hs2 => ?_)
    conv => whnf
    refine b_X1_greatestHarmless [2] ?_
    conv => whnf
    refine ⟨fun c25 => ?_, fun c25 => ?_⟩
    · refine b_X1_greatestHarmless [2] ?_
      conv => whnf
      rw [hs2.2] at c25
      rw [tghF, if_neg (by simp [c25])] at hK
      have h2 := ih (i + 1) s2 (by omega) hK
      rw [← nI_add i 1] at h2
      exact h2
    · conv => whnf
      rw [hs2.2] at c25
      have h3 := hK s2
      rw [tghF, if_pos (by simp [c25])] at h3
      exact h3
theorem s_tough {d : Int32 × Int32 × Int32} {md : WS} {b : Int32 × Int32} {w : WS} {n t : Nat} {A P : Nat → Nat} {s : S3} (hw : wOk w n A P) (ht : t < n) {K : Option Value → AH → Prop} (hK : ∀ s2, K (some (.int (tghF (fun v => !(decide ((blw w n (P t) (nI v)).2.2 = 0))) 60 1))) (eC d s2 md b w)) : am_M i_X1_greatestHarmless [.ref 0, .ref 10, .int (nI t)] (eC d s md b w) K := by
  refine e_X1_greatestHarmless [2] ?_
  conv => whnf
  exact l_tough hw ht 60 1 s rfl hK
theorem f_offL {b : Int32 × Int32} {c m : Int32} {H : AH} {b1 : Nat} {K : Option Value → AH → Prop} (hc : nth H b1 = some (bO b)) (hk : am_hs H b1 (bO (fLeast b c m)) (fun H2 => K none H2)) : am_M i_X0_offerLeast [.ref b1, .int c, .int m] H K :=
  am_fr [b1] (fun _ hK => s_offerLeast (b := b) hK) rfl rfl ⟨hc, trivial⟩ rfl hk
theorem f_offM {b : Int32 × Int32} {c m : Int32} {H : AH} {b1 : Nat} {K : Option Value → AH → Prop} (hc : nth H b1 = some (bO b)) (hk : am_hs H b1 (bO (fMost b c m)) (fun H2 => K none H2)) : am_M i_X0_offerMost [.ref b1, .int c, .int m] H K :=
  am_fr [b1] (fun _ hK => s_offerMost (b := b) hK) rfl rfl ⟨hc, trivial⟩ rfl hk
theorem f_none {b : Int32 × Int32} {H : AH} {b1 : Nat} {K : Option Value → AH → Prop} (hc : nth H b1 = some (bO b)) (hk : am_hs H b1 (bO (Int32.ofInt (-9), Int32.ofInt (-9))) (fun H2 => K none H2)) : am_M i_X0_none [.ref b1] H K :=
  am_fr [b1] (fun _ hK => s_none (b := b) hK) rfl rfl ⟨hc, trivial⟩ rfl hk
def hrmI (w : WS) (n x p t : Nat) (v : Nat) (b : Int32 × Int32) : Int32 × Int32 := if hasB (blw w n p (nI v)).2.2 (nI x) = true then fLeast b (nI 100 * nI t + nI v) (fBc (blw w n p (nI v)).2.2 - nI 1) else b
def hrmO (w : WS) (n x : Nat) (P : Nat → Nat) (t : Nat) (b : Int32 × Int32) : Int32 × Int32 := itr (hrmI w n x (P t) t) 60 1 b
theorem l_harmI {d : Int32 × Int32 × Int32} {md : WS} {w : WS} {n x : Nat} {A P : Nat → Nat} {t : Nat} {K : Option Value → AH → Prop} (hw : wOk w n A P) (ht : t < n) : ∀ (k i : Nat) (s : S3) (b : Int32 × Int32), i + k = 61 → (∀ s2, am_E i_X1_leastHarm 78 [some (.ref 0), some (.ref 10), some (.int (nI x)), some (.int (nI t)), some (.int (nI 61))] [] (eC d s2 md (itr (hrmI w n x (P t) t) k i b) w) K) → am_E i_X1_leastHarm 20 [some (.ref 0), some (.ref 10), some (.int (nI x)), some (.int (nI t)), some (.int (nI i))] [] (eC d s md b w) K := by
  intro k
  induction k with
  | zero =>
    intro i s b hi hK
    obtain rfl : i = 61 := by omega
    refine b_X1_leastHarm [20, 78] ?_
    conv => whnf
    refine ⟨fun c24 => ?_, fun c24 => absurd (by decide) c24⟩
    exact hK s
  | succ k ih =>
    intro i s b hi hK
    refine b_X1_leastHarm [20, 78] ?_
    conv => whnf
    refine ⟨fun c24 => absurd c24 (by exact nI_nlt (by omega) (by omega)), fun c24 => ?_⟩
    conv => whnf
    refine f_strike (s := s) (w := w) [1, 2, 10, 11, 12, 13, 14, 15] hw ht rfl rfl rfl ⟨rfl, rfl, rfl, rfl, rfl, rfl, rfl, rfl, trivial⟩ (fun s2 hs2 => ?_)
    conv => whnf
    refine b_X1_leastHarm [20, 78] ?_
    conv => whnf
    refine s_hasBroken (s := s2) ⟨rfl, rfl⟩ ?_
    refine b_X1_leastHarm [20, 78] ?_
    conv => whnf
    refine ⟨fun c46 => ?_, fun c46 => ?_⟩
    · refine b_X1_leastHarm [20, 78] ?_
      conv => whnf
      rw [hs2.2] at c46
      have e4 : hrmI w n x (P t) t i b = b := by rw [hrmI, if_neg (by rw [bI_0.mp c46]; decide)]
      simp only [itr, e4] at hK
      have h2 := ih (i + 1) s2 b (by omega) hK
      rw [← nI_add i 1] at h2
      exact h2
    · conv => whnf
      refine s_brokenCount (s := s2) ⟨rfl, rfl⟩ ?_
      refine b_X1_leastHarm [20, 78] ?_
      conv => whnf
      refine f_offL (b := b) rfl ?_
      conv => whnf
      refine b_X1_leastHarm [20, 78] ?_
      conv => whnf
      have e4 : hrmI w n x (P t) t i b = fLeast b (nI 100 * nI t + nI i) (fBc s2.2.2 - nI 1) := by rw [hs2.2] at c46 ⊢; rw [hrmI, if_pos (bI_n0.mp c46)]
      simp only [itr, e4] at hK
      have h2 := ih (i + 1) s2 _ (by omega) hK
      rw [← nI_add i 1] at h2
      exact h2
theorem l_harmO {d : Int32 × Int32 × Int32} {md : WS} {w : WS} {n x : Nat} {A P : Nat → Nat} {K : Option Value → AH → Prop} (hw : wOk w n A P) : ∀ (k i : Nat) (s : S3) (b : Int32 × Int32), i + k = n → (∀ s2, K (some (.ref 9)) (eC d s2 md (itr (hrmO w n x P) k i b) w)) → am_E i_X1_leastHarm 9 [some (.ref 0), some (.ref 10), some (.int (nI x)), some (.int (nI i)), none] [] (eC d s md b w) K := by
  intro k
  induction k with
  | zero =>
    intro i s b hi hK
    obtain rfl : i = n := by omega
    refine b_X1_leastHarm [9, 20] ?_
    conv => whnf
    refine ⟨fun c14 => ?_, fun c14 => absurd (by rw [hw.1]; exact nI_le (Nat.le_refl _) (by have := hw.2.1; omega)) c14⟩
    refine b_X1_leastHarm [9, 20] ?_
    conv => whnf
    exact hK s
  | succ k ih =>
    intro i s b hi hK
    refine b_X1_leastHarm [9, 20] ?_
    conv => whnf
    refine ⟨fun c14 => absurd c14 (by rw [hw.1]; exact nI_ge (by omega) (by have := hw.2.1; omega)), fun c14 => ?_⟩
    conv => whnf
    refine l_harmI (d := d) (md := md) hw (by omega) 60 1 s b rfl (fun s2 => ?_)
    simp only [itr] at hK
    refine b_X1_leastHarm [9] ?_
    conv => whnf
    have h2 := ih (i + 1) s2 (hrmO w n x P i b) (by omega) hK
    rw [← nI_add i 1] at h2
    exact am_wk (by exact ⟨Or.inr rfl, Or.inr rfl, Or.inr rfl, Or.inr rfl, Or.inl rfl, trivial⟩) h2
theorem s_harm {d : Int32 × Int32 × Int32} {md : WS} {w : WS} {n x : Nat} {A P : Nat → Nat} {s : S3} {b : Int32 × Int32} (hw : wOk w n A P) {K : Option Value → AH → Prop} (hK : ∀ s2, K (some (.ref 9)) (eC d s2 md (itr (hrmO w n x P) n 0 (Int32.ofInt (-9), Int32.ofInt (-9))) w)) : am_M i_X1_leastHarm [.ref 0, .ref 10, .int (nI x)] (eC d s md b w) K := by
  refine e_X1_leastHarm [9] ?_
  conv => whnf
  refine f_none (b := b) rfl ?_
  conv => whnf
  refine b_X1_leastHarm [9] ?_
  conv => whnf
  exact l_harmO (d := d) (md := md) hw n 0 s (Int32.ofInt (-9), Int32.ofInt (-9)) (by omega) hK
