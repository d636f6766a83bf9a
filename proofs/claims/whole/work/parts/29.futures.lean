/-! SPECS: futures -/
def fO (z : Int32) (a b : Int64) (x y : Int32) : AC := .inr (.inr (2, [.ref 1, .ref 3, .int z, .long a, .long b, .int x, .int y]))
abbrev F5 : Type := Int32 × (Int64 × Int64) × (Int32 × Int32)
def fC (s : S3) (md : WS) (q : F5) (w : WS) : AH := fO q.1 q.2.1.1 q.2.1.2 q.2.2.1 q.2.2.2 :: (uC 1 s ++ (wC 3 md ++ wC 9 w))
def fbdF (w : WS) (n : Nat) (P : Nat → Nat) (v : Int32) : Nat → Nat → Int32 → Int32
  | 0, _, _ => Int32.ofInt (-9)
  | k + 1, i, d => if hasB (w.1 1) (nI i) = true then fbdF w n P v k (i + 1) d else if (blw w n (P i) v).2.2 = 0 then fbdF w n P v k (i + 1) (d + nI 1) else d + nI 1
theorem wEq_drop {md w : WS} (h : wEq md w) (x : Int32) : wEq (wDrop md x) (wDrop w x) := by
  refine ⟨fun i hi => ?_, h.2⟩
  have h1 := h.1 1 (by omega)
  have h3 := h.1 3 (by omega)
  have hi := h.1 i hi
  simp only [wDrop, wI, va_up] at *
  by_cases e : i = 3
  · subst e; simp only [↓reduceIte]; rw [h3]
  · rw [if_neg e, if_neg e]
    by_cases e2 : i = 1
    · subst e2; simp only [↓reduceIte]; rw [h1]
    · rw [if_neg e2, if_neg e2]; exact hi
def whbF (n : Nat) (P : Nat → Nat) (v : Int32) : Nat → WS → Nat → Int32
  | 0, w, _ => fBc (fWhole w)
  | k + 1, w, f => if nxW (w.1 1) n f n 0 = Int32.ofInt (-9) then nI 0 else whbF n P v k (wDrop w (blw w n (P (nxW (w.1 1) n f n 0).toNatClampNeg) v).2.2) ((nxW (w.1 1) n f n 0).toNatClampNeg + 1)
theorem nxW_or (br : Int32) (n f : Nat) (hn : 0 < n) : ∀ (k i : Nat), nxW br n f k i = Int32.ofInt (-9) ∨ ∃ x, x < n ∧ nxW br n f k i = nI x := by
  intro k
  induction k with
  | zero => intro i; exact Or.inl rfl
  | succ k ih =>
    intro i
    rw [nxW]
    split
    · exact ih _
    · exact Or.inr ⟨_, Nat.mod_lt _ hn, rfl⟩
def bbaI (n : Nat) (v : Int32) (i : Nat) (w : WS) : WS := wDrop w (blw w n i v).2.2
theorem fWhole_cg {md w : WS} (h : wEq md w) : fWhole md = fWhole w := by rw [fWhole, fWhole, h.1 0 (by omega), h.1 1 (by omega)]
theorem nI_n9 {x : Nat} (h : x < 2 ^ 31) : ¬ nI x = Int32.ofInt (-9) := fun z => nI_pos h (by rw [z]; decide)
theorem l_fbd {w : WS} {n : Nat} {v : Int32} {A P : Nat → Nat} {q : F5} {md : WS} {K : Option Value → AH → Prop} (hw : wOk w n A P) : ∀ (k i : Nat) (s : S3) (d : Int32), i + k = n → (∀ s2, K (some (.int (fbdF w n P v k i d))) (fC s2 md q w)) → am_E i_X2_firstBreakingDay 5 [some (.ref 0), some (.ref 9), some (.int v), some (.int d), some (.int (nI i))] [] (fC s md q w) K := by
  intro k
  induction k with
  | zero =>
    intro i s d hi hK
    obtain rfl : i = n := by omega
    refine b_X2_firstBreakingDay [5] ?_
    conv => whnf
    refine ⟨fun c11 => ?_, fun c11 => absurd (by rw [hw.1]; exact nI_le (Nat.le_refl _) (by have := hw.2.1; omega)) c11⟩
    refine b_X2_firstBreakingDay [5] ?_
    conv => whnf
    exact hK s
  | succ k ih =>
    intro i s d hi hK
    refine b_X2_firstBreakingDay [5] ?_
    conv => whnf
    refine ⟨fun c11 => absurd c11 (by rw [hw.1]; exact nI_ge (by omega) (by have := hw.2.1; omega)), fun c11 => ?_⟩
    conv => whnf
    refine s_isBroken rfl ?_
    refine b_X2_firstBreakingDay [5] ?_
    conv => whnf
    refine ⟨fun c20 => ?_, fun c20 => ?_⟩
    · conv => whnf
      refine f_strike (s := s) (w := w) [1, 2, 9, 10, 11, 12, 13, 14] hw (by omega) rfl rfl rfl ⟨rfl, rfl, rfl, rfl, rfl, rfl, rfl, rfl, trivial⟩ (fun s2 hs2 => ?_)
      conv => whnf
      refine b_X2_firstBreakingDay [5] ?_
      conv => whnf
      refine ⟨fun c44 => ?_, fun c44 => ?_⟩
      · refine b_X2_firstBreakingDay [5] ?_
        conv => whnf
        rw [hs2.2] at c44
        rw [fbdF, if_neg (by rw [bI_0.mp c20]; decide), if_pos c44] at hK
        have h2 := ih (i + 1) s2 _ (by omega) hK
        rw [← nI_add i 1] at h2
        exact h2
      · conv => whnf
        rw [hs2.2] at c44
        rw [fbdF, if_neg (by rw [bI_0.mp c20]; decide), if_neg c44] at hK
        exact hK s2
    · refine b_X2_firstBreakingDay [5] ?_
      conv => whnf
      rw [fbdF, if_pos (bI_n0.mp c20)] at hK
      have h2 := ih (i + 1) s d (by omega) hK
      rw [← nI_add i 1] at h2
      exact h2
theorem s_fbd {w : WS} {n : Nat} {v : Int32} {A P : Nat → Nat} {q : F5} {md : WS} {s : S3} (hw : wOk w n A P) {K : Option Value → AH → Prop} (hK : ∀ s2, K (some (.int (fbdF w n P v n 0 (nI 0)))) (fC s2 md q w)) : am_M i_X2_firstBreakingDay [.ref 0, .ref 9, .int v] (fC s md q w) K := by
  refine e_X2_firstBreakingDay [5] ?_
  conv => whnf
  exact l_fbd hw n 0 s (nI 0) (by omega) hK
theorem l_whb {n m : Nat} {v : Int32} {P A : Nat → Nat} {q : F5} {W : WS} {K : Option Value → AH → Prop} (hn : 0 < n) (hm : m < 2 ^ 30) : ∀ (k i : Nat) (s : S3) (md w : WS) (f : Nat), i + k = m → (wEq md w ∧ wOk w n A P ∧ f ≤ 8 ∧ ∀ s2 md2, K (some (.int (whbF n P v k w f))) (fC s2 md2 q W)) → am_E i_X2_wholeBehind 14 [some (.ref 0), some (.ref 9), some (.int v), some (.int (nI m)), some (.int (nI f)), some (.int (nI i)), none] [] (fC s md q W) K := by
  intro k
  induction k with
  | zero =>
    intro i s md w f hi hK
    obtain rfl : i = m := by omega
    have hmd := hK.1.ok hK.2.1
    refine b_X2_wholeBehind [14] ?_
    conv => whnf
    refine ⟨fun c17 => ?_, fun c17 => absurd (nI_le (Nat.le_refl _) (by omega)) c17⟩
    refine b_X2_wholeBehind [14] ?_
    conv => whnf
    refine s_wholeBits (w := md) (r := fun i => 4 + i) ⟨rfl, rfl, rfl, rfl, rfl, rfl⟩ ?_
    refine b_X2_wholeBehind [14] ?_
    conv => whnf
    refine s_bc ?_
    refine b_X2_wholeBehind [14] ?_
    conv => whnf
    rw [fWhole_cg hK.1]
    exact hK.2.2.2 s md
  | succ k ih =>
    intro i s md w f hi hK
    have hmd := hK.1.ok hK.2.1
    refine b_X2_wholeBehind [14] ?_
    conv => whnf
    refine ⟨fun c17 => absurd c17 (nI_ge (by omega) (by omega)), fun c17 => ?_⟩
    conv => whnf
    refine s_nextW (w := md) (n := n) (r := fun i => 4 + i) ⟨rfl, rfl, rfl, rfl, rfl, rfl⟩ hmd.1 hmd.2.1 (by have := hK.2.2.1; omega) ?_
    have e1 : md.1 1 = w.1 1 := hK.1.1 1 (by decide)
    refine b_X2_wholeBehind [14] ?_
    conv => whnf
    refine ⟨fun c35 => ?_, fun c35 => ?_⟩
    · conv => whnf
      rw [e1] at c35
      have h3 := hK.2.2.2 s md
      rw [whbF, if_pos c35] at h3
      exact h3
    · refine b_X2_wholeBehind [14] ?_
      conv => whnf
      rw [e1] at c35
      rw [e1]
      rcases nxW_or (w.1 1) n f hn n 0 with z | ⟨x, hx, ex⟩
      · exact absurd z c35
      rw [ex]
      refine f_drop (s := s) (w := md) [1, 2, 3, 4, 5, 6, 7, 8] hmd hx rfl rfl rfl ⟨rfl, rfl, rfl, rfl, rfl, rfl, rfl, rfl, trivial⟩ (fun s2 hs2 => ?_)
      conv => whnf
      refine b_X2_wholeBehind [14] ?_
      conv => whnf
      have hP := (hK.2.1.2.2.2 x hx).2.1
      have e5 : whbF n P v (k + 1) w f = whbF n P v k (wDrop w (blw w n (P x) v).2.2) (x + 1) := by
        rw [whbF, if_neg c35, ex, nI_clamp (by have := hmd.2.1; omega)]
      have e6 : s2.2.2 = (blw w n (P x) v).2.2 := by rw [hs2.2, blw_cg (hK.1.wb hmd.2.1) hK.2.1.a8 hP]
      rw [e5] at hK
      have h2 := ih (i + 1) s2 (wDrop md s2.2.2) (wDrop w (blw w n (P x) v).2.2) (x + 1) (by omega) ⟨by rw [e6]; exact wEq_drop hK.1 _, hK.2.1.drop, by have := hmd.2.1; omega, hK.2.2.2⟩
      rw [← nI_add i 1, ← nI_add x 1] at h2
      exact am_wk (by exact ⟨Or.inr rfl, Or.inr rfl, Or.inr rfl, Or.inr rfl, Or.inr rfl, Or.inr rfl, Or.inl rfl, trivial⟩) h2
theorem s_whb {w : WS} {n m : Nat} {v : Int32} {A P : Nat → Nat} {q : F5} {md : WS} {s : S3} (hw : wOk w n A P) (hn : 0 < n) (hm : m < 2 ^ 30) {K : Option Value → AH → Prop} (hK : ∀ s2 md2, K (some (.int (whbF n P v m w 0))) (fC s2 md2 q w)) : am_M i_X2_wholeBehind [.ref 0, .ref 9, .int v, .int (nI m)] (fC s md q w) K := by
  refine e_X2_wholeBehind [14] ?_
  conv => whnf
  refine f_copy (w := md) (v := w) [3, 4, 5, 6, 7, 8, 9, 10, 11, 12, 13, 14] rfl rfl rfl ⟨rfl, rfl, rfl, rfl, rfl, rfl, rfl, rfl, rfl, rfl, rfl, rfl, trivial⟩ (fun w2 hw2 => ?_)
  conv => whnf
  refine b_X2_wholeBehind [14] ?_
  conv => whnf
  exact l_whb hn hm m 0 s w2 w 0 (by omega) ⟨hw2, hw, by omega, hK⟩
theorem l_bba {n : Nat} {v : Int32} {P A : Nat → Nat} {q : F5} {W : WS} {K : Option Value → AH → Prop}  : ∀ (k i : Nat) (s : S3) (md w : WS), i + k = n → (wEq md w ∧ wOk w n A P ∧ ∀ s2 md2, K (some (.int (fBc ((itr (bbaI n v) k i w).1 1)))) (fC s2 md2 q W)) → am_E i_X2_brokenBehindAll 10 [some (.ref 0), some (.ref 9), some (.int v), some (.int (nI i))] [] (fC s md q W) K := by
  intro k
  induction k with
  | zero =>
    intro i s md w hi hK
    obtain rfl : i = n := by omega
    have hmd := hK.1.ok hK.2.1
    refine b_X2_brokenBehindAll [10] ?_
    conv => whnf
    refine ⟨fun c18 => ?_, fun c18 => absurd (by rw [hmd.1]; exact nI_le (Nat.le_refl _) (by have := hmd.2.1; omega)) c18⟩
    refine b_X2_brokenBehindAll [10] ?_
    conv => whnf
    refine s_bc ?_
    refine b_X2_brokenBehindAll [10] ?_
    conv => whnf
    rw [hK.1.1 1 (by decide)]
    exact hK.2.2 s md
  | succ k ih =>
    intro i s md w hi hK
    have hmd := hK.1.ok hK.2.1
    have e : (nI i).toNatClampNeg = i := nI_clamp (by have := hmd.2.1; omega)
    refine b_X2_brokenBehindAll [10] ?_
    conv => whnf
    refine ⟨fun c18 => absurd c18 (by rw [hmd.1]; exact nI_ge (by omega) (by have := hmd.2.1; omega)), fun c18 => ?_⟩
    conv => whnf
    refine ⟨(vI8 hmd.2.1 (by omega)), ?_⟩
    conv => whnf
    rw [e, (hmd.2.2.1 i (by omega)).1]
    refine f_drop (s := s) (w := md) [1, 2, 3, 4, 5, 6, 7, 8] hmd (hmd.2.2.1 i (by omega)).2.1 rfl rfl rfl ⟨rfl, rfl, rfl, rfl, rfl, rfl, rfl, rfl, trivial⟩ (fun s2 hs2 => ?_)
    conv => whnf
    refine b_X2_brokenBehindAll [10] ?_
    conv => whnf
    have e6 : s2.2.2 = (blw w n i v).2.2 := by rw [hs2.2, (hmd.2.2.1 i (by omega)).2.2, blw_cg (hK.1.wb hmd.2.1) hK.2.1.a8 (by omega)]
    have h2 := ih (i + 1) s2 (wDrop md s2.2.2) (bbaI n v i w) (by omega) ⟨by rw [e6]; exact wEq_drop hK.1 _, hK.2.1.drop, hK.2.2⟩
    rw [← nI_add i 1] at h2
    exact h2
theorem s_bba {w : WS} {n : Nat} {v : Int32} {A P : Nat → Nat} {q : F5} {md : WS} {s : S3} (hw : wOk w n A P) {K : Option Value → AH → Prop} (hK : ∀ s2 md2, K (some (.int (fBc ((itr (bbaI n v) n 0 w).1 1)))) (fC s2 md2 q w)) : am_M i_X2_brokenBehindAll [.ref 0, .ref 9, .int v] (fC s md q w) K := by
  refine e_X2_brokenBehindAll [10] ?_
  conv => whnf
  refine f_copy (w := md) (v := w) [3, 4, 5, 6, 7, 8, 9, 10, 11, 12, 13, 14] rfl rfl rfl ⟨rfl, rfl, rfl, rfl, rfl, rfl, rfl, rfl, rfl, rfl, rfl, rfl, trivial⟩ (fun w2 hw2 => ?_)
  conv => whnf
  refine b_X2_brokenBehindAll [10] ?_
  conv => whnf
  exact l_bba n 0 s w2 w (by omega) ⟨hw2, hw, hK⟩
def powI (a : Int32) (_ : Nat) (x : Int64) : Int64 := x * a.toInt64
theorem l_pow {a : Int32} {m : Nat} {h : AH} {K : Option Value → AH → Prop} (hm : m < 2 ^ 30) : ∀ (k i : Nat) (x : Int64), i + k = m → (K (some (.long (itr (powI a) k i x))) h) → am_E i_X2_power 5 [some (.int a), some (.int (nI m)), some (.long x), none, some (.int (nI i))] [] h K := by
  intro k
  induction k with
  | zero =>
    intro i x hi hK
    obtain rfl : i = m := by omega
    refine b_X2_power [5] ?_
    conv => whnf
    refine ⟨fun c8 => ?_, fun c8 => absurd (nI_le (Nat.le_refl _) (by omega)) c8⟩
    refine b_X2_power [5] ?_
    conv => whnf
    exact hK
  | succ k ih =>
    intro i x hi hK
    refine b_X2_power [5] ?_
    conv => whnf
    refine ⟨fun c8 => absurd c8 (nI_ge (by omega) (by omega)), fun c8 => ?_⟩
    conv => whnf
    have h2 := ih (i + 1) _ (by omega) hK
    rw [← nI_add i 1] at h2
    exact am_wk (by exact ⟨Or.inr rfl, Or.inr rfl, Or.inr rfl, Or.inl rfl, Or.inr rfl, trivial⟩) h2
theorem s_pow {a : Int32} {m : Nat} {h : AH} (hm : m < 2 ^ 30) {K : Option Value → AH → Prop} (hK : K (some (.long (itr (powI a) m 0 (Int64.ofNat 1)))) h) : am_M i_X2_power [.int a, .int (nI m)] h K := by
  refine e_X2_power [5] ?_
  conv => whnf
  exact l_pow hm m 0 (Int64.ofNat 1) (by omega) hK
