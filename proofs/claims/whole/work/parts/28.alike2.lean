/-! SPECS: the two most alike, whole -/
theorem l_uz {md : WS} {hd : Nat → Int32} {w : WS} {v : Int32} {b : Int32 × Int32} {s : S3} {K : Option Value → AH → Prop} {un : Nat → Int32} (hk : ∀ un2, (∀ j, j < 64 → un2 j = nI 0) → am_E i_X6_mostAlike 24 [some (.ref 0), some (.ref 12), some (.int v), some (.int (nI 64)), none] [] (pC s md (b) hd un2 w) K) : ∀ (k i : Nat), i + k = 64 → am_E i_X6_mostAlike 2 [some (.ref 0), some (.ref 12), some (.int v), some (.int (nI i)), none] [] (pC s md (b) hd (zpF i un) w) K := by
  intro k
  induction k with
  | zero =>
    intro i hi
    obtain rfl : i = 64 := by omega
    refine b_X6_mostAlike [2, 24] ?_
    conv => whnf
    refine ⟨fun c8 => ?_, fun c8 => absurd (by decide) c8⟩
    exact hk _ (fun j hj => by rw [zpF, if_pos hj])
  | succ k ih =>
    intro i hi
    have e : (nI i).toNatClampNeg = i := nI_clamp (by omega)
    refine b_X6_mostAlike [2, 24] ?_
    conv => whnf
    refine ⟨fun c8 => absurd c8 (nI_ge (by omega) (by omega)), fun c8 => ?_⟩
    conv => whnf
    refine ⟨(vp_in_nI (by omega) (by decide)), ?_⟩
    conv => whnf
    rw [e]
    have h2 := ih (i + 1) (by omega)
    rw [← zpF_s, ← nI_add i 1] at h2
    exact h2
theorem l_ua {md : WS} {hd : Nat → Int32} {w : WS} {n : Nat} {v : Int32} {A P : Nat → Nat} {b : Int32 × Int32} {K : Option Value → AH → Prop} (hw : wOk w n A P) : ∀ (k i : Nat) (s : S3) (un : Nat → Int32), i + k = n → (∀ s2 un2, (∀ x y, x < y → y < n → un2 (8 * x + y) = itr (unlI w n P v x y) k i (un (8 * x + y))) → am_E i_X6_mostAlike 58 [some (.ref 0), some (.ref 12), some (.int v), some (.int (nI n)), none] [] (pC s2 md (b) hd un2 w) K) → am_E i_X6_mostAlike 26 [some (.ref 0), some (.ref 12), some (.int v), some (.int (nI i)), none] [] (pC s md (b) hd un w) K := by
  intro k
  induction k with
  | zero =>
    intro i s un hi hK
    obtain rfl : i = n := by omega
    refine b_X6_mostAlike [26, 58] ?_
    conv => whnf
    refine ⟨fun c31 => ?_, fun c31 => absurd (by rw [hw.1]; exact nI_le (Nat.le_refl _) (by have := hw.2.1; omega)) c31⟩
    exact hK s un (fun _ _ _ _ => rfl)
  | succ k ih =>
    intro i s un hi hK
    refine b_X6_mostAlike [26, 58] ?_
    conv => whnf
    refine ⟨fun c31 => absurd c31 (by rw [hw.1]; exact nI_ge (by omega) (by have := hw.2.1; omega)), fun c31 => ?_⟩
    conv => whnf
    refine f_strike (s := s) (w := w) [1, 2, 12, 13, 14, 15, 16, 17] hw (by omega) rfl rfl rfl ⟨rfl, rfl, rfl, rfl, rfl, rfl, rfl, rfl, trivial⟩ (fun s2 hs2 => ?_)
    conv => whnf
    refine b_X6_mostAlike [26, 58] ?_
    conv => whnf
    refine s_addU (s := s2) (hd := hd) hw.1 hw.2.1 ?_
    refine b_X6_mostAlike [26, 58] ?_
    conv => whnf
    have h2 := ih (i + 1) s2 (itr (addR n s2.1) n 0 un) (by omega) (fun s3 un3 h => hK s3 un3 (fun x y hxy hy => by
      have := hw.2.1
      rw [h x y hxy hy, addR_at n s2.1 hw.2.1 x y hxy hy, if_pos (by omega), hs2.1 x (by omega), hs2.1 y (by omega)]; rfl))
    rw [← nI_add i 1] at h2
    exact h2
theorem l_alI {md : WS} {hd : Nat → Int32} {w : WS} {n : Nat} {v : Int32} {A P : Nat → Nat} {un : Nat → Int32} {s : S3} {a : Nat} {K : Option Value → AH → Prop} (hw : wOk w n A P) (hu : ∀ x y, x < y → y < n → un (8 * x + y) = itr (unlI w n P v x y) n 0 (nI 0)) (hai : a < n) : ∀ (k i : Nat) (b : Int32 × Int32), i + k = n → (a < i ∧ am_E i_X6_mostAlike 121 [some (.ref 0), some (.ref 12), some (.int v), some (.int (nI a)), none] [] (pC s md (itr (alkI w n P v a) k i b) hd un w) K) → am_E i_X6_mostAlike 80 [some (.ref 0), some (.ref 12), some (.int v), some (.int (nI a)), some (.int (nI i))] [] (pC s md (b) hd un w) K := by
  intro k
  induction k with
  | zero =>
    intro i b hi hK
    obtain rfl : i = n := by omega
    refine b_X6_mostAlike [80, 121] ?_
    conv => whnf
    refine ⟨fun c86 => ?_, fun c86 => absurd (by rw [hw.1]; exact nI_le (Nat.le_refl _) (by have := hw.2.1; omega)) c86⟩
    exact am_wk (by exact ⟨Or.inr rfl, Or.inr rfl, Or.inr rfl, Or.inr rfl, Or.inl rfl, trivial⟩) hK.2
  | succ k ih =>
    intro i b hi hK
    refine b_X6_mostAlike [80, 121] ?_
    conv => whnf
    refine ⟨fun c86 => absurd c86 (by rw [hw.1]; exact nI_ge (by omega) (by have := hw.2.1; omega)), fun c86 => ?_⟩
    conv => whnf
    refine ⟨(vI64 (by have := hw.2.1; omega) (by have := hw.2.1; omega)), ?_⟩
    conv => whnf
    rw [cI64 (by have := hw.2.1; omega) (by have := hw.2.1; omega), hu a i hK.1 (by omega)]
    refine f_offL (b := b) rfl ?_
    conv => whnf
    refine b_X6_mostAlike [80, 121] ?_
    conv => whnf
    have h2 := ih (i + 1) _ (by omega) ⟨by omega, hK.2⟩
    rw [← nI_add i 1] at h2
    exact h2
theorem l_alO {md : WS} {hd : Nat → Int32} {w : WS} {n : Nat} {v : Int32} {A P : Nat → Nat} {un : Nat → Int32} {s : S3} {K : Option Value → AH → Prop} (hw : wOk w n A P) (hu : ∀ x y, x < y → y < n → un (8 * x + y) = itr (unlI w n P v x y) n 0 (nI 0)) : ∀ (k i : Nat) (b : Int32 × Int32), i + k = n → (K (some (.ref 9)) (pC s md (itr (alkO w n P v) k i b) hd un w)) → am_E i_X6_mostAlike 67 [some (.ref 0), some (.ref 12), some (.int v), some (.int (nI i)), none] [] (pC s md (b) hd un w) K := by
  intro k
  induction k with
  | zero =>
    intro i b hi hK
    obtain rfl : i = n := by omega
    refine b_X6_mostAlike [67, 80] ?_
    conv => whnf
    refine ⟨fun c72 => ?_, fun c72 => absurd (by rw [hw.1]; exact nI_le (Nat.le_refl _) (by have := hw.2.1; omega)) c72⟩
    refine b_X6_mostAlike [67, 80] ?_
    conv => whnf
    exact hK
  | succ k ih =>
    intro i b hi hK
    refine b_X6_mostAlike [67, 80] ?_
    conv => whnf
    refine ⟨fun c72 => absurd c72 (by rw [hw.1]; exact nI_ge (by omega) (by have := hw.2.1; omega)), fun c72 => ?_⟩
    conv => whnf
    rw [nI_add]
    refine l_alI hw hu (by omega) (n - (i + 1)) (i + 1) b (by omega) ⟨by omega, ?_⟩
    refine b_X6_mostAlike [67] ?_
    conv => whnf
    have h2 := ih (i + 1) (alkO w n P v i b) (by omega) hK
    rw [← nI_add i 1] at h2
    exact am_wk (by exact ⟨Or.inr rfl, Or.inr rfl, Or.inr rfl, Or.inr rfl, Or.inl rfl, trivial⟩) h2
theorem s_alk {md : WS} {hd : Nat → Int32} {w : WS} {n : Nat} {v : Int32} {A P : Nat → Nat} {un : Nat → Int32} {b : Int32 × Int32} {s : S3} (hw : wOk w n A P) {K : Option Value → AH → Prop} (hK : ∀ s2 un2, K (some (.ref 9)) (pC s2 md (itr (alkO w n P v) n 0 nob) hd un2 w)) : am_M i_X6_mostAlike [.ref 0, .ref 12, .int v] (pC s md (b) hd un w) K := by
  refine e_X6_mostAlike [2] ?_
  conv => whnf
  rw [show un = zpF 0 un from (zpF_0 un).symm]
  refine l_uz (s := s) (un := un) (fun un2 hz => ?_) 64 0 rfl
  refine b_X6_mostAlike [26] ?_
  conv => whnf
  refine l_ua hw n 0 s un2 (by omega) (fun s3 un3 h3 => ?_)
  refine b_X6_mostAlike [67] ?_
  conv => whnf
  refine f_none (b := b) rfl ?_
  conv => whnf
  refine b_X6_mostAlike [67] ?_
  conv => whnf
  refine l_alO hw (fun x y hxy hy => ?_) n 0 nob (by omega) (hK s3 un3)
  have := hw.2.1
  rw [h3 x y hxy hy, hz _ (by omega)]
