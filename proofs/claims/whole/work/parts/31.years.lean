/-! SPECS: the years, whole -/
def yrs (w : WS) (n : Nat) (P : Nat → Nat) (ys : Nat) (sd : Int32) : Int32 × Int32 × Int32 := if n = 0 then (sd, nI 0, nI 0) else itr (yrY w n P) ys 0 (sd, nI 0, nI 0)
theorem l_yry {w : WS} {n ys : Nat} {A P : Nat → Nat} {ab : Int64 × Int64} {sd : Int32} {K : Option Value → AH → Prop} (hw : wOk w n A P) (h0 : 0 < n) (hy : ys < 2 ^ 30) : ∀ (k i : Nat) (s : S3) (md : WS) (z : Int32 × Int32 × Int32), i + k = ys → (∀ s2 md2, K none (fC s2 md2 ((itr (yrY w n P) k i z).1, ab, (itr (yrY w n P) k i z).2) w)) → am_E i_X2_drawYears 18 [some (.ref 0), some (.ref 9), some (.int (nI ys)), some (.int sd), some (.int (nI i)), none, none, none] [] (fC s md (z.1, ab, z.2) w) K := by
  intro k
  induction k with
  | zero =>
    intro i s md z hi hK
    obtain rfl : i = ys := by omega
    refine b_X2_drawYears [18, 42] ?_
    conv => whnf
    refine ⟨fun c21 => ?_, fun c21 => absurd (nI_le (Nat.le_refl _) (by omega)) c21⟩
    refine b_X2_drawYears [18, 42] ?_
    conv => whnf
    exact hK s md
  | succ k ih =>
    intro i s md z hi hK
    refine b_X2_drawYears [18, 42] ?_
    conv => whnf
    refine ⟨fun c21 => absurd c21 (nI_ge (by omega) (by omega)), fun c21 => ?_⟩
    conv => whnf
    refine ⟨fun c28 => absurd c28 (by rw [hw.1]; exact nI_nle h0 (by have := hw.2.1; omega)), fun c28 => ?_⟩
    conv => whnf
    refine f_copy (w := md) (v := w) [3, 4, 5, 6, 7, 8, 9, 10, 11, 12, 13, 14] rfl rfl rfl ⟨rfl, rfl, rfl, rfl, rfl, rfl, rfl, rfl, rfl, rfl, rfl, rfl, trivial⟩ (fun w2 hw2 => ?_)
    conv => whnf
    refine b_X2_drawYears [18, 42] ?_
    conv => whnf
    refine am_wk (by exact ⟨Or.inr rfl, Or.inr rfl, Or.inr rfl, Or.inr rfl, Or.inr rfl, Or.inr rfl, Or.inl rfl, Or.inl rfl, trivial⟩) (l_yrd (ys := ys) (sd := sd) (y := i) (w := w) (ab := ab) h0 6 0 s w2 w z rfl ⟨hw2, hw, fun s3 md3 r hr => ?_⟩)
    refine b_X2_drawYears [18] ?_
    conv => whnf
    have h2 := ih (i + 1) s3 md3 r (by omega) (fun s4 md4 => by have h5 := hK s4 md4; rw [itr, yrY, ← hr] at h5; exact h5)
    rw [← nI_add i 1] at h2
    exact am_wk (by exact ⟨Or.inr rfl, Or.inr rfl, Or.inr rfl, Or.inr rfl, Or.inr rfl, Or.inl rfl, Or.inl rfl, Or.inl rfl, trivial⟩) h2
theorem s_yrs {w : WS} {n ys : Nat} {A P : Nat → Nat} {sd : Int32} {s : S3} {md : WS} {q : F5} (hw : wOk w n A P) (hy : ys < 2 ^ 30) {K : Option Value → AH → Prop} (hK : ∀ s2 md2, K none (fC s2 md2 ((yrs w n P ys sd).1, q.2.1, (yrs w n P ys sd).2) w)) : am_M i_X2_drawYears [.ref 0, .ref 9, .int (nI ys), .int sd] (fC s md q w) K := by
  rcases Nat.eq_zero_or_pos n with h0 | h0
  · have e : yrs w n P ys sd = (sd, nI 0, nI 0) := by rw [yrs, if_pos h0]
    rw [e] at hK
    subst h0
    refine e_X2_drawYears [18] ?_
    conv => whnf
    refine b_X2_drawYears [18] ?_
    conv => whnf
    refine ⟨fun c21 => ?_, fun c21 => ?_⟩
    · refine b_X2_drawYears [18] ?_
      conv => whnf
      exact hK s md
    · conv => whnf
      refine ⟨fun c28 => ?_, fun c28 => absurd (by rw [hw.1]; decide) c28⟩
      refine b_X2_drawYears [18] ?_
      conv => whnf
      exact hK s md
  · have e : yrs w n P ys sd = itr (yrY w n P) ys 0 (sd, nI 0, nI 0) := by rw [yrs, if_neg (by omega)]
    rw [e] at hK
    refine e_X2_drawYears [18] ?_
    conv => whnf
    exact l_yry hw h0 hy ys 0 s md (sd, nI 0, nI 0) (by omega) hK
