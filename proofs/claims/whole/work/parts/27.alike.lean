/-! SPECS: the two most alike -/
def addU (g : Nat → Int32) (a b : Nat) (u : Nat → Int32) : Nat → Int32 := upd u (8 * a + b) (u (8 * a + b) + absI (g a - g b))
def addR (n : Nat) (g : Nat → Int32) (a : Nat) (u : Nat → Int32) : Nat → Int32 := itr (addU g a) (n - (a + 1)) (a + 1) u
theorem addU_at (g : Nat → Int32) (a q : Nat) : ∀ (k i : Nat) (u : Nat → Int32), itr (addU g a) k i u q = if 8 * a + i ≤ q ∧ q < 8 * a + i + k then u q + absI (g a - g (q - 8 * a)) else u q := by
  intro k
  induction k with
  | zero => intro i u; rw [itr, if_neg (by omega)]
  | succ k ih =>
    intro i u
    rw [itr, ih]
    by_cases e : q = 8 * a + i
    · subst e
      rw [if_neg (by omega), if_pos (by omega)]
      simp only [addU, upd, ↓reduceIte]
      rw [show 8 * a + i - 8 * a = i by omega]
    · simp only [addU, upd]
      rw [if_neg e]
      by_cases e2 : 8 * a + i ≤ q ∧ q < 8 * a + i + (k + 1)
      · rw [if_pos e2, if_pos (by omega)]
      · rw [if_neg e2, if_neg (by omega)]
theorem addR_at (n : Nat) (g : Nat → Int32) (hn : n ≤ 8) (x y : Nat) (hxy : x < y) (hy : y < n) : ∀ (k i : Nat) (u : Nat → Int32), itr (addR n g) k i u (8 * x + y) = if i ≤ x ∧ x < i + k then u (8 * x + y) + absI (g x - g y) else u (8 * x + y) := by
  intro k
  induction k with
  | zero => intro i u; rw [itr, if_neg (by omega)]
  | succ k ih =>
    intro i u
    rw [itr, ih, addR, addU_at]
    by_cases e : i = x
    · subst e
      rw [if_neg (by omega), if_pos (by omega), if_pos (by omega), show 8 * i + y - 8 * i = y by omega]
    · by_cases e2 : i ≤ x ∧ x < i + (k + 1)
      · rw [if_pos e2, if_pos (by omega), if_neg (by omega)]
      · rw [if_neg e2, if_neg (by omega), if_neg (by omega)]
def unlI (w : WS) (n : Nat) (P : Nat → Nat) (v : Int32) (a b : Nat) (t : Nat) (x : Int32) : Int32 := x + absI ((blw w n (P t) v).1 a - (blw w n (P t) v).1 b)
def alkI (w : WS) (n : Nat) (P : Nat → Nat) (v : Int32) (a b : Nat) (q : Int32 × Int32) : Int32 × Int32 := fLeast q (nI 10 * nI a + nI b) (itr (unlI w n P v a b) n 0 (nI 0))
def alkO (w : WS) (n : Nat) (P : Nat → Nat) (v : Int32) (a : Nat) (q : Int32 × Int32) : Int32 × Int32 := itr (alkI w n P v a) (n - (a + 1)) (a + 1) q
theorem vI64 {a b : Nat} (ha : a < 8) (hb : b < 8) : vp_in (nI 8 * nI a + nI b) 64 := by rw [pk_mul, nI_add]; exact vp_in_nI (by omega) (by decide)
theorem cI64 {a b : Nat} (ha : a < 8) (hb : b < 8) : (nI 8 * nI a + nI b).toNatClampNeg = 8 * a + b := by rw [pk_mul, nI_add]; exact nI_clamp (by omega)
theorem l_addu {md : WS} {b : Int32 × Int32} {hd : Nat → Int32} {w : WS} {n : Nat} {s : S3} {a : Nat} {K : Option Value → AH → Prop} (hn : n ≤ 8) (ha : a < n) : ∀ (k i : Nat) (un : Nat → Int32), i + k = n → (am_E i_X6_addUnlike 62 [some (.ref 0), some (.int (nI n)), some (.int (nI a)), some (.int (nI n)), none] [] (pC s md (b) hd (itr (addU s.1 a) k i un) w) K) → am_E i_X6_addUnlike 11 [some (.ref 0), some (.int (nI n)), some (.int (nI a)), some (.int (nI i)), none] [] (pC s md (b) hd un w) K := by
  intro k
  induction k with
  | zero =>
    intro i un hi hK
    obtain rfl : i = n := by omega
    refine b_X6_addUnlike [11, 62] ?_
    conv => whnf
    refine ⟨fun c13 => ?_, fun c13 => absurd (nI_le (Nat.le_refl _) (by omega)) c13⟩
    exact am_wk (by exact ⟨Or.inr rfl, Or.inr rfl, Or.inr rfl, Or.inr rfl, Or.inl rfl, trivial⟩) hK
  | succ k ih =>
    intro i un hi hK
    have e : (nI i).toNatClampNeg = i := nI_clamp (by omega)
    have ea : (nI a).toNatClampNeg = a := nI_clamp (by omega)
    refine b_X6_addUnlike [11, 62] ?_
    conv => whnf
    refine ⟨fun c13 => absurd c13 (nI_ge (by omega) (by omega)), fun c13 => ?_⟩
    conv => whnf
    refine ⟨(vI8 hn ha), ?_⟩
    conv => whnf
    rw [ea]
    refine ⟨(vI8 hn (by omega)), ?_⟩
    conv => whnf
    rw [e]
    refine ⟨(vI64 (by omega) (by omega)), ?_⟩
    conv => whnf
    refine ⟨(vI64 (by omega) (by omega)), ?_⟩
    conv => whnf
    rw [cI64 (by omega) (by omega)]
    have h2 := ih (i + 1) _ (by omega) hK
    rw [← nI_add i 1] at h2
    exact am_wk (by exact ⟨Or.inr rfl, Or.inr rfl, Or.inr rfl, Or.inr rfl, Or.inl rfl, trivial⟩) h2
theorem l_addr {md : WS} {b : Int32 × Int32} {hd : Nat → Int32} {w : WS} {n : Nat} {s : S3} {K : Option Value → AH → Prop} (hn : n ≤ 8) : ∀ (k i : Nat) (un : Nat → Int32), i + k = n → (K none (pC s md (b) hd (itr (addR n s.1) k i un) w)) → am_E i_X6_addUnlike 2 [some (.ref 0), some (.int (nI n)), some (.int (nI i)), none, none] [] (pC s md (b) hd un w) K := by
  intro k
  induction k with
  | zero =>
    intro i un hi hK
    obtain rfl : i = n := by omega
    refine b_X6_addUnlike [2, 11] ?_
    conv => whnf
    refine ⟨fun c4 => ?_, fun c4 => absurd (nI_le (Nat.le_refl _) (by omega)) c4⟩
    refine b_X6_addUnlike [2, 11] ?_
    conv => whnf
    exact hK
  | succ k ih =>
    intro i un hi hK
    refine b_X6_addUnlike [2, 11] ?_
    conv => whnf
    refine ⟨fun c4 => absurd c4 (nI_ge (by omega) (by omega)), fun c4 => ?_⟩
    conv => whnf
    rw [nI_add]
    refine am_wk (by exact ⟨Or.inr rfl, Or.inr rfl, Or.inr rfl, Or.inr rfl, Or.inl rfl, trivial⟩) (l_addu hn (by omega) (n - (i + 1)) (i + 1) un (by omega) ?_)
    refine b_X6_addUnlike [2] ?_
    conv => whnf
    have h2 := ih (i + 1) (addR n s.1 i un) (by omega) hK
    rw [← nI_add i 1] at h2
    exact am_wk (by exact ⟨Or.inr rfl, Or.inr rfl, Or.inr rfl, Or.inl rfl, Or.inl rfl, trivial⟩) h2
theorem s_addU {md : WS} {b : Int32 × Int32} {hd : Nat → Int32} {w : WS} {n : Nat} {s : S3} {un : Nat → Int32} {x : Int32} (hx : x = nI n) (hn : n ≤ 8) {K : Option Value → AH → Prop} (hK : K none (pC s md (b) hd (itr (addR n s.1) n 0 un) w)) : am_M i_X6_addUnlike [.ref 0, .int x] (pC s md (b) hd un w) K := by
  subst hx
  refine e_X6_addUnlike [2] ?_
  conv => whnf
  exact l_addr hn n 0 un (by omega) hK
