/-! SPECS: more questions that try the blows -/
def tapI (w : WS) (n x p t : Nat) (v : Nat) (b : Int32 × Int32) : Int32 × Int32 := if fCut (blw w n p (nI v)).2.1 (nI x) = true then (if (blw w n p (nI v)).2.2 = 0 then fLeast b (nI 100 * nI t + nI v) (fBc (blw w n p (nI v)).2.1 - nI 2) else b) else b
def tapO (w : WS) (n x : Nat) (P : Nat → Nat) (t : Nat) (b : Int32 × Int32) : Int32 × Int32 := if t = x then b else itr (tapI w n x (P t) t) 60 1 b
theorem l_tapI {d : Int32 × Int32 × Int32} {md : WS} {w : WS} {n x : Nat} {A P : Nat → Nat} {t : Nat} {K : Option Value → AH → Prop} (hw : wOk w n A P) (ht : t < n) : ∀ (k i : Nat) (s : S3) (b : Int32 × Int32), i + k = 61 → (∀ s2, am_E i_X1_quietestTap 96 [some (.ref 0), some (.ref 10), some (.int (nI x)), some (.int (nI t)), some (.int (nI 61))] [] (eC d s2 md (itr (tapI w n x (P t) t) k i b) w) K) → am_E i_X1_quietestTap 28 [some (.ref 0), some (.ref 10), some (.int (nI x)), some (.int (nI t)), some (.int (nI i))] [] (eC d s md b w) K := by
  intro k
  induction k with
  | zero =>
    intro i s b hi hK
    obtain rfl : i = 61 := by omega
    refine b_X1_quietestTap [28, 96] ?_
    conv => whnf
    refine ⟨fun c32 => ?_, fun c32 => absurd (by decide) c32⟩
    exact hK s
  | succ k ih =>
    intro i s b hi hK
    refine b_X1_quietestTap [28, 96] ?_
    conv => whnf
    refine ⟨fun c32 => absurd c32 (by exact nI_nlt (by omega) (by omega)), fun c32 => ?_⟩
    conv => whnf
    refine f_strike (s := s) (w := w) [1, 2, 10, 11, 12, 13, 14, 15] hw ht rfl rfl rfl ⟨rfl, rfl, rfl, rfl, rfl, rfl, rfl, rfl, trivial⟩ (fun s2 hs2 => ?_)
    conv => whnf
    refine b_X1_quietestTap [28, 96] ?_
    conv => whnf
    refine s_isHeardBy (s := s2) ⟨rfl, rfl⟩ ?_
    refine b_X1_quietestTap [28, 96] ?_
    conv => whnf
    refine ⟨fun c54 => ?_, fun c54 => ?_⟩
    · refine b_X1_quietestTap [28, 96] ?_
      conv => whnf
      rw [hs2.2] at c54
      have e4 : tapI w n x (P t) t i b = b := by rw [tapI, if_neg (by rw [bI_0.mp c54]; decide)]
      simp only [itr, e4] at hK
      have h2 := ih (i + 1) s2 b (by omega) hK
      rw [← nI_add i 1] at h2
      exact h2
    · conv => whnf
      refine ⟨fun c64 => ?_, fun c64 => ?_⟩
      · conv => whnf
        refine s_hearerCount (s := s2) ⟨rfl, rfl⟩ ?_
        refine b_X1_quietestTap [28, 96] ?_
        conv => whnf
        refine f_offL (b := b) rfl ?_
        conv => whnf
        refine b_X1_quietestTap [28, 96] ?_
        conv => whnf
        have e4 : tapI w n x (P t) t i b = fLeast b (nI 100 * nI t + nI i) (fBc s2.2.1 - nI 2) := by rw [hs2.2] at c54 c64 ⊢; rw [tapI, if_pos (bI_n0.mp c54), if_pos c64]
        simp only [itr, e4] at hK
        have h2 := ih (i + 1) s2 _ (by omega) hK
        rw [← nI_add i 1] at h2
        exact h2
      · refine b_X1_quietestTap [28, 96] ?_
        conv => whnf
        rw [hs2.2] at c54 c64
        have e4 : tapI w n x (P t) t i b = b := by rw [tapI, if_pos (bI_n0.mp c54), if_neg c64]
        simp only [itr, e4] at hK
        have h2 := ih (i + 1) s2 b (by omega) hK
        rw [← nI_add i 1] at h2
        exact h2
theorem l_tapO {d : Int32 × Int32 × Int32} {md : WS} {w : WS} {n x : Nat} {A P : Nat → Nat} {K : Option Value → AH → Prop} (hw : wOk w n A P) (hx : x < 8) : ∀ (k i : Nat) (s : S3) (b : Int32 × Int32), i + k = n → (∀ s2, K (some (.ref 9)) (eC d s2 md (itr (tapO w n x P) k i b) w)) → am_E i_X1_quietestTap 9 [some (.ref 0), some (.ref 10), some (.int (nI x)), some (.int (nI i)), none] [] (eC d s md b w) K := by
  intro k
  induction k with
  | zero =>
    intro i s b hi hK
    obtain rfl : i = n := by omega
    refine b_X1_quietestTap [9, 28, 96] ?_
    conv => whnf
    refine ⟨fun c14 => ?_, fun c14 => absurd (by rw [hw.1]; exact nI_le (Nat.le_refl _) (by have := hw.2.1; omega)) c14⟩
    refine b_X1_quietestTap [9, 28, 96] ?_
    conv => whnf
    exact hK s
  | succ k ih =>
    intro i s b hi hK
    refine b_X1_quietestTap [9, 28, 96] ?_
    conv => whnf
    refine ⟨fun c14 => absurd c14 (by rw [hw.1]; exact nI_ge (by omega) (by have := hw.2.1; omega)), fun c14 => ?_⟩
    conv => whnf
    refine ⟨fun c19 => ?_, fun c19 => ?_⟩
    · conv => whnf
      have e5 : i = x := (nI_eq (by have := hw.2.1; omega) (by omega)).mp c19
      have e4 : tapO w n x P i b = b := by rw [tapO, if_pos e5]
      simp only [itr, e4] at hK
      refine b_X1_quietestTap [9] ?_
      conv => whnf
      have h2 := ih (i + 1) s b (by omega) hK
      rw [← nI_add i 1] at h2
      exact am_wk (by exact ⟨Or.inr rfl, Or.inr rfl, Or.inr rfl, Or.inr rfl, Or.inl rfl, trivial⟩) h2
    · refine b_X1_quietestTap [9, 28, 96] ?_
      conv => whnf
      have e5 : ¬ i = x := fun z => c19 (by rw [z])
      have e4 : tapO w n x P i b = itr (tapI w n x (P i) i) 60 1 b := by rw [tapO, if_neg e5]
      simp only [itr, e4] at hK
      refine l_tapI (d := d) (md := md) hw (by omega) 60 1 s b rfl (fun s2 => ?_)
      refine b_X1_quietestTap [9] ?_
      conv => whnf
      have h2 := ih (i + 1) s2 _ (by omega) hK
      rw [← nI_add i 1] at h2
      exact am_wk (by exact ⟨Or.inr rfl, Or.inr rfl, Or.inr rfl, Or.inr rfl, Or.inl rfl, trivial⟩) h2
theorem s_tap {d : Int32 × Int32 × Int32} {md : WS} {w : WS} {n x : Nat} {A P : Nat → Nat} {s : S3} {b : Int32 × Int32} (hw : wOk w n A P) (hx : x < 8) {K : Option Value → AH → Prop} (hK : ∀ s2, K (some (.ref 9)) (eC d s2 md (itr (tapO w n x P) n 0 (Int32.ofInt (-9), Int32.ofInt (-9))) w)) : am_M i_X1_quietestTap [.ref 0, .ref 10, .int (nI x)] (eC d s md b w) K := by
  refine e_X1_quietestTap [9] ?_
  conv => whnf
  refine f_none (b := b) rfl ?_
  conv => whnf
  refine b_X1_quietestTap [9] ?_
  conv => whnf
  exact l_tapO (d := d) (md := md) hw hx n 0 s (Int32.ofInt (-9), Int32.ofInt (-9)) (by omega) hK
def stnF (w : WS) (n p x : Nat) (y : Int32) (v : Nat) (hd : Int64) : Int64 := if (blw w n p (nI v)).2.2 = 0 then (if fCut (blw w n p (nI v)).2.1 (nI x) = true then (if fCut (blw w n p (nI v)).2.1 y = true then hd else hd ||| (Int64.ofNat 1 <<< (((blw w n p (nI v)).1 x).toInt64 &&& 63))) else hd) else hd
theorem l_stn {d : Int32 × Int32 × Int32} {md : WS} {w : WS} {n x t : Nat} {y : Int32} {b : Int32 × Int32} {A P : Nat → Nat} {K : Option Value → AH → Prop} (hw : wOk w n A P) (ht : t < n) (hx : x < 8) : ∀ (k i : Nat) (s : S3) (hd : Int64), i + k = 61 → (∀ s2, K (some (.int (fBl (itr (stnF w n (P t) x y) k i hd)))) (eC d s2 md b w)) → am_E i_X1_strengths 6 [some (.ref 0), some (.ref 10), some (.int (nI t)), some (.int (nI x)), some (.int y), some (.long hd), none, some (.int (nI i))] [] (eC d s md b w) K := by
  have ex : (nI x).toNatClampNeg = x := nI_clamp (by omega)
  intro k
  induction k with
  | zero =>
    intro i s hd hi hK
    obtain rfl : i = 61 := by omega
    refine b_X1_strengths [6] ?_
    conv => whnf
    refine ⟨fun c10 => ?_, fun c10 => absurd (by decide) c10⟩
    refine b_X1_strengths [6] ?_
    conv => whnf
    refine s_bcL ?_
    refine b_X1_strengths [6] ?_
    conv => whnf
    exact hK s
  | succ k ih =>
    intro i s hd hi hK
    refine b_X1_strengths [6] ?_
    conv => whnf
    refine ⟨fun c10 => absurd c10 (by exact nI_nlt (by omega) (by omega)), fun c10 => ?_⟩
    conv => whnf
    refine f_strike (s := s) (w := w) [1, 2, 10, 11, 12, 13, 14, 15] hw ht rfl rfl rfl ⟨rfl, rfl, rfl, rfl, rfl, rfl, rfl, rfl, trivial⟩ (fun s2 hs2 => ?_)
    conv => whnf
    refine b_X1_strengths [6] ?_
    conv => whnf
    refine ⟨fun c31 => ?_, fun c31 => ?_⟩
    · conv => whnf
      refine s_isHeardBy (s := s2) ⟨rfl, rfl⟩ ?_
      refine b_X1_strengths [6] ?_
      conv => whnf
      refine ⟨fun c42 => ?_, fun c42 => ?_⟩
      · refine b_X1_strengths [6] ?_
        conv => whnf
        rw [hs2.2] at c31 c42
        have e4 : stnF w n (P t) x y i hd = hd := by rw [stnF, if_pos c31, if_neg (by rw [bI_0.mp c42]; decide)]
        simp only [itr, e4] at hK
        have h2 := ih (i + 1) s2 hd (by omega) hK
        rw [← nI_add i 1] at h2
        exact am_wk (by exact ⟨Or.inr rfl, Or.inr rfl, Or.inr rfl, Or.inr rfl, Or.inr rfl, Or.inr rfl, Or.inl rfl, Or.inr rfl, trivial⟩) h2
      · conv => whnf
        refine s_isHeardBy (s := s2) ⟨rfl, rfl⟩ ?_
        refine b_X1_strengths [6] ?_
        conv => whnf
        refine ⟨fun c54 => ?_, fun c54 => ?_⟩
        · conv => whnf
          refine ⟨(vI8 (Nat.le_refl 8) hx), ?_⟩
          conv => whnf
          rw [ex, hs2.1 x hx]
          rw [hs2.2] at c31 c42 c54
          have e4 : stnF w n (P t) x y i hd = hd ||| (Int64.ofNat 1 <<< (((blw w n (P t) (nI i)).1 x).toInt64 &&& 63)) := by rw [stnF, if_pos c31, if_pos (bI_n0.mp c42), if_neg (by rw [bI_0.mp c54]; decide)]
          simp only [itr, e4] at hK
          have h2 := ih (i + 1) s2 _ (by omega) hK
          rw [← nI_add i 1] at h2
          exact am_wk (by exact ⟨Or.inr rfl, Or.inr rfl, Or.inr rfl, Or.inr rfl, Or.inr rfl, Or.inr rfl, Or.inl rfl, Or.inr rfl, trivial⟩) h2
        · refine b_X1_strengths [6] ?_
          conv => whnf
          rw [hs2.2] at c31 c42 c54
          have e4 : stnF w n (P t) x y i hd = hd := by rw [stnF, if_pos c31, if_pos (bI_n0.mp c42), if_pos (bI_n0.mp c54)]
          simp only [itr, e4] at hK
          have h2 := ih (i + 1) s2 hd (by omega) hK
          rw [← nI_add i 1] at h2
          exact am_wk (by exact ⟨Or.inr rfl, Or.inr rfl, Or.inr rfl, Or.inr rfl, Or.inr rfl, Or.inr rfl, Or.inl rfl, Or.inr rfl, trivial⟩) h2
    · refine b_X1_strengths [6] ?_
      conv => whnf
      rw [hs2.2] at c31
      have e4 : stnF w n (P t) x y i hd = hd := by rw [stnF, if_neg c31]
      simp only [itr, e4] at hK
      have h2 := ih (i + 1) s2 hd (by omega) hK
      rw [← nI_add i 1] at h2
      exact am_wk (by exact ⟨Or.inr rfl, Or.inr rfl, Or.inr rfl, Or.inr rfl, Or.inr rfl, Or.inr rfl, Or.inl rfl, Or.inr rfl, trivial⟩) h2
theorem s_stn {d : Int32 × Int32 × Int32} {md : WS} {w : WS} {n x t : Nat} {y : Int32} {b : Int32 × Int32} {A P : Nat → Nat} {s : S3} (hw : wOk w n A P) (ht : t < n) (hx : x < 8) {K : Option Value → AH → Prop} (hK : ∀ s2, K (some (.int (fBl (itr (stnF w n (P t) x y) 60 1 (Int64.ofNat 0))))) (eC d s2 md b w)) : am_M i_X1_strengths [.ref 0, .ref 10, .int (nI t), .int (nI x), .int y] (eC d s md b w) K := by
  refine e_X1_strengths [6] ?_
  conv => whnf
  exact l_stn hw ht hx 60 1 s (Int64.ofNat 0) rfl hK
def cntD (d : Int32 × Int32 × Int32) (t v : Int32) : Int32 × Int32 × Int32 := (d.1 + nI 1, if d.2.1 = Int32.ofInt (-9) then nI 100 * t + v else d.2.1, d.2.2 ||| (nI 1 <<< (t &&& 31)))
theorem s_cntD {d : Int32 × Int32 × Int32} {t v : Int32} {K : Option Value → AH → Prop} (hK : K none [eO (cntD d t v)]) : am_M i_X1_countDropping [.ref 0, .int t, .int v] [eO d] K := by
  refine e_X1_countDropping [] ?_
  conv => whnf
  refine ⟨fun c28 => ?_, fun c28 => ?_⟩
  · conv => whnf
    rw [cntD, if_pos c28] at hK; exact hK
  · refine b_X1_countDropping [] ?_
    conv => whnf
    rw [cntD, if_neg c28] at hK; exact hK
def drpI (w : WS) (n p t : Nat) (f : Nat → Int32) (q : Nat) (v : Nat) (d : Int32 × Int32 × Int32) : Int32 × Int32 × Int32 := if (decide (q ≤ n) && tellF f (fun i => min99 (fJump (w.2 0 i) ((blw w n p (nI v)).1 i))) q 0) = true then cntD d (nI t) (nI v) else d
def drpO (w : WS) (n : Nat) (P : Nat → Nat) (f : Nat → Int32) (q : Nat) (t : Nat) (d : Int32 × Int32 × Int32) : Int32 × Int32 × Int32 := if hasB (w.1 1) (nI t) = true then d else itr (drpI w n (P t) t f q) 60 1 d
theorem tellF_cg {f g g2 : Nat → Int32} : ∀ (k i : Nat), (∀ j, i ≤ j → j < i + k → g j = g2 j) → tellF f g k i = tellF f g2 k i := by
  intro k
  induction k with
  | zero => intro i _; rfl
  | succ k ih =>
    intro i h
    rw [tellF, tellF, h i (Nat.le_refl _) (by omega), ih (i + 1) (fun j h1 h2 => h j (by omega) (by omega))]
theorem tell_cg {f g g2 : Nat → Int32} {q n : Nat} (hn : n ≤ 8) (h : ∀ j, j < 8 → g j = g2 j) : (decide (q ≤ n) && tellF f g q 0) = (decide (q ≤ n) && tellF f g2 q 0) := by
  by_cases hq : q ≤ n
  · rw [tellF_cg q 0 (fun j _ hj => h j (by omega))]
  · rw [decide_eq_false hq]; rfl
theorem l_drpI {md : WS} {b : Int32 × Int32} {w : WS} {n q : Nat} {f : Nat → Int32} {A P : Nat → Nat} {t : Nat} {K : Option Value → AH → Prop} (hw : wOk w n A P) (hq : q ≤ 12) (ht : t < n) : ∀ (k i : Nat) (s : S3) (d : Int32 × Int32 × Int32), i + k = 61 → (∀ s2, am_E i_X1_findDroppers 83 [some (.ref 0), some (.ref 10), some (.ref 16), some (.int (nI t)), some (.int (nI 61))] [] (eC (itr (drpI w n (P t) t f q) k i d) s2 md b w ++ rC 16 (nI q) f) K) → am_E i_X1_findDroppers 40 [some (.ref 0), some (.ref 10), some (.ref 16), some (.int (nI t)), some (.int (nI i))] [] (eC d s md b w ++ rC 16 (nI q) f) K := by
  intro k
  induction k with
  | zero =>
    intro i s d hi hK
    obtain rfl : i = 61 := by omega
    refine b_X1_findDroppers [40, 83] ?_
    conv => whnf
    refine ⟨fun c44 => ?_, fun c44 => absurd (by decide) c44⟩
    exact hK s
  | succ k ih =>
    intro i s d hi hK
    refine b_X1_findDroppers [40, 83] ?_
    conv => whnf
    refine ⟨fun c44 => absurd c44 (by exact nI_nlt (by omega) (by omega)), fun c44 => ?_⟩
    conv => whnf
    refine f_strike (s := s) (w := w) [1, 2, 10, 11, 12, 13, 14, 15] hw ht rfl rfl rfl ⟨rfl, rfl, rfl, rfl, rfl, rfl, rfl, rfl, trivial⟩ (fun s2 hs2 => ?_)
    conv => whnf
    refine b_X1_findDroppers [40, 83] ?_
    conv => whnf
    refine s_tells (s := s2) (w := w) (r := fun i => 11 + i) (q := q) (n := n) (f := f) ⟨rfl, rfl⟩ ⟨rfl, rfl⟩ ⟨rfl, rfl, rfl, rfl, rfl, rfl⟩ hw.1 hw.2.1 hq ?_
    refine b_X1_findDroppers [40, 83] ?_
    conv => whnf
    refine ⟨fun c67 => ?_, fun c67 => ?_⟩
    · refine b_X1_findDroppers [40, 83] ?_
      conv => whnf
      have e6 : (decide (q ≤ n) && tellF f (fun i => min99 (fJump (w.2 0 i) (s2.1 i))) q 0) = (decide (q ≤ n) && tellF f (fun i_1 => min99 (fJump (w.2 0 i_1) ((blw w n (P t) (nI i)).1 i_1))) q 0) := tell_cg hw.2.1 (fun j hj => by rw [hs2.1 j hj])
      rw [e6] at c67
      have e4 : drpI w n (P t) t f q i d = d := by rw [drpI, if_neg (by rw [bI_0.mp c67]; decide)]
      simp only [itr, e4] at hK
      have h2 := ih (i + 1) s2 d (by omega) hK
      rw [← nI_add i 1] at h2
      exact h2
    · conv => whnf
      refine am_fr [0, 1, 2, 3, 4, 5, 6, 7, 8, 9] (fun K hK => s_cntD (d := d) hK) rfl rfl ⟨rfl, trivial⟩ rfl ?_
      conv => whnf
      refine b_X1_findDroppers [40, 83] ?_
      conv => whnf
      have e6 : (decide (q ≤ n) && tellF f (fun i => min99 (fJump (w.2 0 i) (s2.1 i))) q 0) = (decide (q ≤ n) && tellF f (fun i_1 => min99 (fJump (w.2 0 i_1) ((blw w n (P t) (nI i)).1 i_1))) q 0) := tell_cg hw.2.1 (fun j hj => by rw [hs2.1 j hj])
      rw [e6] at c67
      have e4 : drpI w n (P t) t f q i d = cntD d (nI t) (nI i) := by rw [drpI, if_pos (bI_n0.mp c67)]
      simp only [itr, e4] at hK
      have h2 := ih (i + 1) s2 _ (by omega) hK
      rw [← nI_add i 1] at h2
      exact h2
theorem l_drpO {md : WS} {b : Int32 × Int32} {w : WS} {n q : Nat} {f : Nat → Int32} {A P : Nat → Nat} {K : Option Value → AH → Prop} (hw : wOk w n A P) (hq : q ≤ 12) : ∀ (k i : Nat) (s : S3) (d : Int32 × Int32 × Int32), i + k = n → (∀ s2, K none (eC (itr (drpO w n P f q) k i d) s2 md b w ++ rC 16 (nI q) f)) → am_E i_X1_findDroppers 18 [some (.ref 0), some (.ref 10), some (.ref 16), some (.int (nI i)), none] [] (eC d s md b w ++ rC 16 (nI q) f) K := by
  intro k
  induction k with
  | zero =>
    intro i s d hi hK
    obtain rfl : i = n := by omega
    refine b_X1_findDroppers [18, 40, 83] ?_
    conv => whnf
    refine ⟨fun c23 => ?_, fun c23 => absurd (by rw [hw.1]; exact nI_le (Nat.le_refl _) (by have := hw.2.1; omega)) c23⟩
    refine b_X1_findDroppers [18, 40, 83] ?_
    conv => whnf
    exact hK s
  | succ k ih =>
    intro i s d hi hK
    refine b_X1_findDroppers [18, 40, 83] ?_
    conv => whnf
    refine ⟨fun c23 => absurd c23 (by rw [hw.1]; exact nI_ge (by omega) (by have := hw.2.1; omega)), fun c23 => ?_⟩
    conv => whnf
    refine s_isBroken rfl ?_
    refine b_X1_findDroppers [18, 40, 83] ?_
    conv => whnf
    refine ⟨fun c31 => ?_, fun c31 => ?_⟩
    · refine b_X1_findDroppers [18, 40, 83] ?_
      conv => whnf
      have e4 : drpO w n P f q i d = itr (drpI w n (P i) i f q) 60 1 d := by rw [drpO, if_neg (by rw [bI_0.mp c31]; decide)]
      simp only [itr, e4] at hK
      refine l_drpI hw hq (by omega) 60 1 s d rfl (fun s2 => ?_)
      refine b_X1_findDroppers [18] ?_
      conv => whnf
      have h2 := ih (i + 1) s2 _ (by omega) hK
      rw [← nI_add i 1] at h2
      exact am_wk (by exact ⟨Or.inr rfl, Or.inr rfl, Or.inr rfl, Or.inr rfl, Or.inl rfl, trivial⟩) h2
    · conv => whnf
      have e4 : drpO w n P f q i d = d := by rw [drpO, if_pos (bI_n0.mp c31)]
      simp only [itr, e4] at hK
      refine b_X1_findDroppers [18] ?_
      conv => whnf
      have h2 := ih (i + 1) s d (by omega) hK
      rw [← nI_add i 1] at h2
      exact am_wk (by exact ⟨Or.inr rfl, Or.inr rfl, Or.inr rfl, Or.inr rfl, Or.inl rfl, trivial⟩) h2
theorem s_drp {md : WS} {b : Int32 × Int32} {w : WS} {n q : Nat} {f : Nat → Int32} {A P : Nat → Nat} {s : S3} {d : Int32 × Int32 × Int32} (hw : wOk w n A P) (hq : q ≤ 12) {K : Option Value → AH → Prop} (hK : ∀ s2, K none (eC (itr (drpO w n P f q) n 0 (nI 0, Int32.ofInt (-9), nI 0)) s2 md b w ++ rC 16 (nI q) f)) : am_M i_X1_findDroppers [.ref 0, .ref 10, .ref 16] (eC d s md b w ++ rC 16 (nI q) f) K := by
  refine e_X1_findDroppers [18] ?_
  conv => whnf
  exact l_drpO hw hq n 0 s (nI 0, Int32.ofInt (-9), nI 0) (by omega) hK
