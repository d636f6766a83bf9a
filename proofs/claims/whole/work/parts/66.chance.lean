/-! SPECS of the model: chance -/
theorem cmp_0y {y : Nat} (hy : y < 2 ^ 63) : lg_cmp (lN y) (Int64.ofNat 0) = 0 ↔ y = 0 := by
  rw [cmp_0]
  exact (pk_lEQ (a := y) (b := 0) hy (by decide))
theorem nI_toL {n : Nat} (h : n < 2 ^ 31) : (nI n).toInt64 = lN n := nI_l h
theorem ml_div {h : AH} {K : Option Value → AH → Prop} : ∀ (N y x : Nat), y ≤ N → y < 2 ^ 63 → x < 2 ^ 63 → K (some (.long (lN (Nat.gcd x y)))) h → am_E i_X12_divisor 6 [none, none, none, none, some (.long (lN x)), none, some (.long (lN y)), none, none, none] [] h K := by
  intro N
  induction N with
  | zero =>
    intro y x hN hy hx hK
    obtain rfl : y = 0 := by omega
    refine b_X12_divisor [6] ?_
    conv => whnf
    refine ⟨fun c10 => ?_, fun c10 => absurd ((cmp_0y (y := 0) (by decide)).mpr rfl) c10⟩
    refine b_X12_divisor [6] ?_
    conv => whnf
    rw [Nat.gcd_zero_right] at hK
    exact hK
  | succ N ih =>
    intro y x hN hy hx hK
    refine b_X12_divisor [6] ?_
    conv => whnf
    refine ⟨fun c10 => ?_, fun c10 => ?_⟩
    · refine b_X12_divisor [6] ?_
      conv => whnf
      have hz := (cmp_0y hy).mp c10
      rw [hz, Nat.gcd_zero_right] at hK
      exact hK
    · conv => whnf
      have hz : 0 < y := Nat.pos_of_ne_zero (fun z => c10 ((cmp_0y hy).mpr z))
      refine ⟨(fun z => absurd ((pk_lEQ (a := y) (b := 0) hy (by decide)).mp z) (by omega)), ?_⟩
      conv => whnf
      rw [pk_lRem hx hz hy]
      have h2 := ih (x % y) y (by have := Nat.mod_lt x hz; omega) (by have := Nat.mod_lt x hz; omega) hy (by rw [show Nat.gcd y (x % y) = Nat.gcd x y from by rw [Nat.gcd_comm y, ← Nat.gcd_rec, Nat.gcd_comm]]; exact hK)
      exact am_wk (by exact ⟨Or.inl rfl, Or.inl rfl, Or.inl rfl, Or.inl rfl, Or.inr rfl, Or.inl rfl, Or.inr rfl, Or.inl rfl, Or.inl rfl, Or.inl rfl, trivial⟩) h2
theorem m_div {h : AH} {x y : Nat} (hx : x < 2 ^ 63) (hy : y < 2 ^ 63) {K : Option Value → AH → Prop} (hK : K (some (.long (lN (Nat.gcd x y)))) h) : am_M i_X12_divisor [.long (lN x), .long (lN y)] h K := by
  refine e_X12_divisor [6] ?_
  conv => whnf
  exact am_wk (by exact ⟨Or.inl rfl, Or.inl rfl, Or.inl rfl, Or.inl rfl, Or.inr rfl, Or.inl rfl, Or.inr rfl, Or.inl rfl, Or.inl rfl, Or.inl rfl, trivial⟩) (ml_div y y x (Nat.le_refl _) hy hx hK)
theorem ml_pow {h : AH} {b : Int32} {e : Nat} (he : e < 2 ^ 30) {K : Option Value → AH → Prop}  : ∀ (k i : Nat) (v : Int64), i + k = e → (K (some (.long (itr (powI b) k i v))) h) → am_E i_X12_power 5 [some (.int b), some (.int (nI e)), some (.long v), none, some (.int (nI i))] [] h K := by
  intro k
  induction k with
  | zero =>
    intro i v hi hK
    obtain rfl : i = e := by omega
    refine b_X12_power [5] ?_
    conv => whnf
    refine ⟨fun c8 => ?_, fun c8 => absurd (nI_le (Nat.le_refl _) (by omega)) c8⟩
    refine b_X12_power [5] ?_
    conv => whnf
    exact hK
  | succ k ih =>
    intro i v hi hK
    refine b_X12_power [5] ?_
    conv => whnf
    refine ⟨fun c8 => absurd c8 (nI_ge (by omega) (by omega)), fun c8 => ?_⟩
    conv => whnf
    have h2 := ih (i + 1) (v * b.toInt64) (by omega) hK
    rw [← nI_add i 1] at h2
    exact h2
theorem m_pow {h : AH} {b : Int32} {e : Nat} (he : e < 2 ^ 30) {K : Option Value → AH → Prop} (hK : K (some (.long (itr (powI b) e 0 (Int64.ofNat 1)))) h) : am_M i_X12_power [.int b, .int (nI e)] h K := by
  refine e_X12_power [5] ?_
  conv => whnf
  exact ml_pow he e 0 (Int64.ofNat 1) (by omega) hK
def wyI (n : Nat) (i : Nat) (v : Int64) : Int64 := v * (nI n + nI 1 - nI i).toInt64 / (nI i).toInt64
theorem ml_wy {h : AH} {n e : Nat} (he : e < 2 ^ 30) {K : Option Value → AH → Prop}  : ∀ (k i : Nat) (v : Int64) (hi0 : 1 ≤ i), i + k = e + 1 → (K (some (.long (itr (wyI n) k i v))) h) → am_E i_X12_ways 5 [some (.int (nI n)), some (.int (nI e)), some (.long v), none, some (.int (nI i))] [] h K := by
  intro k
  induction k with
  | zero =>
    intro i v hi0 hi hK
    obtain rfl : i = e + 1 := by omega
    refine b_X12_ways [5] ?_
    conv => whnf
    refine ⟨fun c8 => ?_, fun c8 => absurd (nI_lt (by omega) (by omega)) c8⟩
    refine b_X12_ways [5] ?_
    conv => whnf
    exact hK
  | succ k ih =>
    intro i v hi0 hi hK
    refine b_X12_ways [5] ?_
    conv => whnf
    refine ⟨fun c8 => absurd c8 (fun z => absurd ((nI_ltI (by omega) (by omega)).mp z) (by omega)), fun c8 => ?_⟩
    conv => whnf
    refine ⟨(by rw [nI_toL (by omega)]; exact fun z => absurd ((pk_lEQ (a := i) (b := 0) (by omega) (by decide)).mp z) (by omega)), ?_⟩
    conv => whnf
    have h2 := ih (i + 1) (wyI n i v) (by omega) (by omega) hK
    rw [← nI_add i 1] at h2
    exact h2
theorem m_wy {h : AH} {n e : Nat} (he : e < 2 ^ 30) {K : Option Value → AH → Prop} (hK : K (some (.long (itr (wyI n) e 1 (Int64.ofNat 1)))) h) : am_M i_X12_ways [.int (nI n), .int (nI e)] h K := by
  refine e_X12_ways [5] ?_
  conv => whnf
  exact ml_wy he e 1 (Int64.ofNat 1) (by omega) (by omega) hK
/-- the model's sum -/
def chF (w : WS) (n : Nat) (P : Nat → Nat) (v : Int32) (x t : Nat) (m1 : Int32) (kk : Nat) : Nat → Nat → Int32 → Int64 → Int64
  | 0, _, _, u => u
  | f + 1, j, z, u => chF w n P v x t m1 kk f (j + 1) (z ||| (blw (brW w z) n (P x) v).2.2) (u + (if hasB z (nI t) = true then Int64.ofNat 0 else itr (wyI kk) j 1 (Int64.ofNat 1) * itr (powI m1) (kk - j) 0 (Int64.ofNat 1)))
theorem ch_stop {w : WS} {n : Nat} {P : Nat → Nat} {v : Int32} {x t : Nat} {m1 : Int32} {kk : Nat} (ht : t < 32) : ∀ (f j : Nat) (z : Int32) (u : Int64), hasB z (nI t) = true → chF w n P v x t m1 kk f j z u = u := by
  intro f
  induction f with
  | zero => intro j z u _; rfl
  | succ f ih =>
    intro j z u h
    rw [chF, if_pos h, show u + Int64.ofNat 0 = u from Int64.add_zero u]
    refine ih _ _ _ ?_
    rw [hasB_N _ _ ht] at h ⊢
    rw [bitN_or, h]; rfl
theorem ch_odd {w : WS} {n : Nat} {A P : Nat → Nat} {v : Int32} {x t : Nat} {m1 : Int32} {kk : Nat} (hw : wOk w n A P) (hx : x < n) (ht : t < 32) (hk : kk < 100) : ∀ (f j : Nat) (w2 : WS) (z : Int32) (u : Int64), f + j = kk + 1 → w2.1 1 = z → w2.1 2 = w.1 2 → w2.2 = w.2 → chF w n P v x t m1 kk f j z u = oddF n P v x t m1 kk f j w2 u (itr (wyI kk) j 1 (Int64.ofNat 1)) := by
  intro f
  induction f with
  | zero => intro j w2 z u _ _ _ _; rfl
  | succ f ih =>
    intro j w2 z u hj h1 h2 h3
    rw [oddF, h1]
    by_cases c : hasB z (nI t) = true
    · rw [if_pos c]; exact ch_stop ht _ _ _ _ c
    · rw [if_neg c, chF, if_neg c]
      have eb : blw w2 n (P x) v = blw (brW w z) n (P x) v := by rw [← h1]; exact blw_br hw (hw.2.2.2 x hx).2.1 h2 h3
      rw [eb, ih (j + 1) (wDrop w2 (blw (brW w z) n (P x) v).2.2) _ _ (by omega) (by show w2.1 1 ||| _ = _; rw [h1]) h2 h3]
      congr 1
      rw [itr_add]
      unfold wyI
      rw [nI_add, pk_sub (show 1 + j ≤ kk + 1 by omega), show kk + 1 - (1 + j) = kk - j by omega, Nat.add_comm 1 j]
/-! the numbers stay small -/
def wN (n : Nat) : Nat → Nat
  | 0 => 1
  | k + 1 => wN n k * (n - k) / (k + 1)
theorem wN_le : ∀ n, n < 9 → ∀ k, k < 10 → wN n k ≤ 70 := by decide +kernel
theorem wy_wN {n : Nat} (hn : n ≤ 8) : ∀ k, k ≤ n → itr (wyI n) k 1 (Int64.ofNat 1) = lN (wN n k) := by
  intro k
  induction k with
  | zero => intro _; rfl
  | succ k ih =>
    intro hk
    rw [itr_add, ih (by omega)]
    unfold wyI
    rw [nI_add, pk_sub (show 1 + k ≤ n + 1 by omega), show n + 1 - (1 + k) = n - k by omega, nI_toL (by omega), nI_toL (by omega), lN_mul]
    have h1 := wN_le n (by omega) k (by omega)
    have h2 : wN n k * (n - k) ≤ 70 * 8 := Nat.mul_le_mul h1 (by omega)
    rw [pk_lDiv (by omega) (by omega) (by omega), wN, Nat.add_comm 1 k]
theorem pow_lN {b : Nat} (hb : b < 2 ^ 31) : ∀ e, itr (powI (nI b)) e 0 (Int64.ofNat 1) = lN (b ^ e) := by
  intro e
  induction e with
  | zero => rfl
  | succ e ih =>
    rw [itr_add, ih]
    unfold powI
    rw [nI_toL hb, lN_mul, Nat.pow_succ]
theorem pow_20 {b e : Nat} (hb : b ≤ 20) (he : e ≤ 8) : b ^ e ≤ 25600000000 := by
  have h1 : b ^ e ≤ 20 ^ e := Nat.pow_le_pow_left hb e
  have h2 : 20 ^ e ≤ 20 ^ 8 := Nat.pow_le_pow_right (by decide) he
  have h3 : 20 ^ 8 = 25600000000 := by decide +kernel
  omega
theorem ch_lN {w : WS} {n : Nat} {P : Nat → Nat} {v : Int32} {x t b kk M : Nat} (hb : b < 2 ^ 31) (hk : kk ≤ 8) (hM : ∀ j, j ≤ kk → wN kk j * b ^ (kk - j) ≤ M) : ∀ (f j : Nat) (z : Int32) (U : Nat), f + j = kk + 1 → U ≤ j * M → ∃ V, V ≤ (kk + 1) * M ∧ chF w n P v x t (nI b) kk f j z (lN U) = lN V := by
  intro f
  induction f with
  | zero =>
    intro j z U hj hU
    obtain rfl : j = kk + 1 := by omega
    exact ⟨U, hU, rfl⟩
  | succ f ih =>
    intro j z U hj hU
    rw [chF]
    by_cases c : hasB z (nI t) = true
    · rw [if_pos c, show lN U + Int64.ofNat 0 = lN U from Int64.add_zero _]
      exact ih (j + 1) _ U (by omega) (Nat.le_trans hU (Nat.mul_le_mul_right M (Nat.le_succ j)))
    · rw [if_neg c, wy_wN hk j (by omega), pow_lN hb, lN_mul, lN_add]
      refine ih (j + 1) _ _ (by omega) ?_
      rw [Nat.succ_mul]
      exact Nat.add_le_add hU (hM j (by omega))
/-! the greatest common divisor -/
theorem gcdF_lN : ∀ (q f x y : Nat), 2 * q + 1 ≤ f → y < 2 ^ q → x < 2 ^ 63 → q ≤ 63 → gcdF f (lN x) (lN y) = lN (Nat.gcd x y) := by
  intro q
  induction q with
  | zero =>
    intro f x y hf hy hx _
    obtain rfl : y = 0 := by simpa using hy
    obtain ⟨f2, rfl⟩ : ∃ f2, f = f2 + 1 := ⟨f - 1, by omega⟩
    rw [gcdF, if_pos (show lN 0 ≤ Int64.ofNat 0 from Int64.le_refl _), Nat.gcd_zero_right]
  | succ q ih =>
    intro f x y hf hy hx hq
    have h63 : 2 ^ (q + 1) ≤ 2 ^ 63 := Nat.pow_le_pow_right (by decide) hq
    obtain ⟨f2, rfl⟩ : ∃ f2, f = f2 + 1 + 1 := ⟨f - 2, by omega⟩
    have h0 : ∀ z, z < 2 ^ 63 → (lN z ≤ Int64.ofNat 0 ↔ z = 0) := fun z hz => by
      rw [show Int64.ofNat 0 = lN 0 from rfl, pk_lLE hz (by decide)]; omega
    rw [gcdF]
    by_cases hy0 : y = 0
    · rw [if_pos ((h0 y (by omega)).mpr hy0), hy0, Nat.gcd_zero_right]
    · rw [if_neg (fun z => hy0 ((h0 y (by omega)).mp z)), pk_lRem hx (by omega) (by omega), gcdF]
      have hr := Nat.mod_lt x (show 0 < y by omega)
      have e1 : Nat.gcd x y = Nat.gcd y (x % y) := by rw [Nat.gcd_comm y, ← Nat.gcd_rec, Nat.gcd_comm]
      rw [e1]
      generalize x % y = r at hr ⊢
      by_cases hr0 : r = 0
      · rw [if_pos ((h0 r (by omega)).mpr hr0), hr0, Nat.gcd_zero_right]
      · rw [if_neg (fun z => hr0 ((h0 r (by omega)).mp z)), pk_lRem (by omega) (by omega) (by omega)]
        have hs := Nat.mod_lt y (show 0 < r by omega)
        have hd : y % r + r * (y / r) = y := Nat.mod_add_div y r
        have hq1 : 1 ≤ y / r := (Nat.le_div_iff_mul_le (by omega)).mpr (by omega)
        have hq2 : r * 1 ≤ r * (y / r) := Nat.mul_le_mul_left r hq1
        have e2 : Nat.gcd y r = Nat.gcd r (y % r) := by rw [Nat.gcd_comm r, ← Nat.gcd_rec, Nat.gcd_comm]
        rw [e2]
        rw [Nat.pow_succ] at hy
        exact ih f2 r (y % r) (by omega) (by omega) (by omega) (by omega)
theorem max1_lN {t : Nat} (h : 1 ≤ t) (ht : t < 2 ^ 63) : max1 (lN t) = lN t := by
  unfold max1
  by_cases c : Int64.ofNat 1 < lN t
  · rw [if_pos c]
  · rw [if_neg c]
    have : ¬ 1 < t := fun z => c ((pk_lLT (a := 1) (b := t) (by decide) ht).mpr z)
    rw [show t = 1 by omega]; rfl
theorem t_ge1 {q e : Nat} (hq : 2 ≤ q) : 1 ≤ q ^ e := Nat.pow_pos (by omega)
/-- the odds, as both sides tell them -/
theorem odds_eq {w : WS} {n : Nat} {A P : Nat → Nat} {v : Int32} {x t q kk : Nat} (hw : wOk w n A P) (hx : x < n) (ht : t < 32) (hk : kk ≤ 8) (hq1 : 2 ≤ q) (hq2 : q ≤ 20) : ∃ S T G, S < 2 ^ 62 ∧ T < 2 ^ 62 ∧ 0 < G ∧ chF w n P v x t (nI q - nI 1) kk (kk + 1) 0 (w.1 1) (Int64.ofNat 0) = lN S ∧ oddS w n P v x t (nI q) kk = lN S ∧ oddT (nI q) kk = lN T ∧ oddG (lN T) (lN S) = lN G ∧ Nat.gcd S T = G := by
  have hp := pow_20 (b := q) (e := kk) hq2 hk
  have h1 : ∀ j, j ≤ kk → wN kk j * (q - 1) ^ (kk - j) ≤ 1792000000000 := fun j hj => by
    have a1 := wN_le kk (by omega) j (by omega)
    have a2 := pow_20 (b := q - 1) (e := kk - j) (by omega) (by omega)
    exact Nat.mul_le_mul a1 a2
  obtain ⟨S, hS, eS⟩ := ch_lN (w := w) (n := n) (P := P) (v := v) (x := x) (t := t) (b := q - 1) (kk := kk) (M := 1792000000000) (by omega) hk h1 (kk + 1) 0 (w.1 1) 0 rfl (by omega)
  rw [← nI_m q (by omega)] at eS
  have hS2 : S ≤ 9 * 1792000000000 := Nat.le_trans hS (Nat.mul_le_mul_right _ (by omega))
  have eO : oddS w n P v x t (nI q) kk = lN S := by
    unfold oddS
    rw [← eS]
    exact (ch_odd hw hx ht (by omega) (kk + 1) 0 w (w.1 1) (Int64.ofNat 0) rfl rfl rfl rfl).symm
  have eT : oddT (nI q) kk = lN (q ^ kk) := pow_lN (by omega) kk
  have hT : 1 ≤ q ^ kk := t_ge1 hq1
  refine ⟨S, q ^ kk, Nat.gcd S (q ^ kk), by omega, by omega, Nat.gcd_pos_of_pos_right _ (by omega), eS, eO, eT, ?_, rfl⟩
  unfold oddG
  rw [max1_lN hT (by omega), gcdF_lN 62 200 _ _ (by omega) (by omega) (by omega) (by omega), Nat.gcd_comm]
theorem ml_chn {m : MS} {w : WS} {n : Nat} {A P : Nat → Nat} {v q c z7 ov : Int32} {x t kk : Nat} (hv : ¬ v ≤ 0) (hx : x < n) (ht : t < n) (hk : kk ≤ 8) {K : Option Value → AH → Prop} (h : mX m w n A P) : ∀ (k i : Nat) (s : S3) (z : Int32) (u : Int64), i + k = kk + 1 → (∀ (s2 : S3) (z2 : Int32), am_E i_X12_chance 161 [some (.ref 0), some (.int (nI x)), some (.int (nI t)), some (.int v), some (.int (nI kk)), some (.int q), some (.int c), some (.int z7), some (.int ov), some (.long (chF w n P v x t (q - nI 1) kk k i z u)), none, some (.int (nI (kk + 1)))] [] (mC (setI m 6 z2) s2.1 s2.2.2) K) → am_E i_X12_chance 101 [some (.ref 0), some (.int (nI x)), some (.int (nI t)), some (.int v), some (.int (nI kk)), some (.int q), some (.int c), some (.int z7), some (.int ov), some (.long u), none, some (.int (nI i))] [] (mC (setI m 6 z) s.1 s.2.2) K := by
  intro k
  induction k with
  | zero =>
    intro i s z u hi hK
    obtain rfl : i = kk + 1 := by omega
    refine b_X12_chance [101, 161] ?_
    conv => whnf
    refine ⟨fun c105 => ?_, fun c105 => absurd (nI_lt (by omega) (by omega)) c105⟩
    exact hK s z
  | succ k ih =>
    intro i s z u hi hK
    have hn8 := h.n8
    refine b_X12_chance [101, 161] ?_
    conv => whnf
    refine ⟨fun c105 => absurd c105 (fun z => absurd ((nI_ltI (by omega) (by omega)).mp z) (by omega)), fun c105 => ?_⟩
    conv => whnf
    refine m_hs (by omega) ?_
    refine b_X12_chance [101, 161] ?_
    conv => whnf
    refine ⟨fun c118 => ?_, fun c118 => ?_⟩
    · refine b_X12_chance [101, 161] ?_
      conv => whnf
      refine m_wy (by omega) ?_
      refine b_X12_chance [101, 161] ?_
      conv => whnf
      rw [pk_sub (show i ≤ kk by omega)]
      refine m_pow (by omega) ?_
      refine b_X12_chance [101, 161] ?_
      conv => whnf
      refine m_bb (s := s) h hx hv (fun s2 hs2 hb2 => ?_)
      refine b_X12_chance [101, 161] ?_
      conv => whnf
      rw [chF, if_neg (show ¬ hasB z (nI t) = true by rw [show hasB z (nI t) = false from bI_0.mp c118]; decide), ← hs2.2] at hK
      have h2 := ih (i + 1) s2 (z ||| s2.2.2) _ (by omega) hK
      rw [← nI_add i 1] at h2
      exact h2
    · conv => whnf
      refine b_X12_chance [101, 161] ?_
      conv => whnf
      refine m_bb (s := s) h hx hv (fun s2 hs2 hb2 => ?_)
      refine b_X12_chance [101, 161] ?_
      conv => whnf
      rw [chF, if_pos (show hasB z (nI t) = true from bI_n0.mp c118), ← hs2.2] at hK
      have h2 := ih (i + 1) s2 (z ||| s2.2.2) _ (by omega) hK
      rw [← nI_add i 1] at h2
      exact h2
theorem m_chance {a : Ab} {m : MS} {s : S3} {x y v i q c : Int32} (hI : Inv a) (hM : MR a m)  {K : Option Value → AH → Prop} (hK : ∀ m2 (s2 : S3), MR (qB a (fFirst (fFirst (fFirst (fFirst (fNoTh ((a.1 0).1 0) x) (fNoTh ((a.1 0).1 0) y)) (fFirst (fFirst (fBelow v (nI 1)) (fBelow i (nI 0))) (fBelow q (nI 2)))) (fFirst (fFirst (fAbove v (nI 60)) (fAbove i (nI 8))) (fAbove q (nI 20)))) (fUnk c (nI 1)))) m2 → K (some (.long (if (fFirst (fFirst (fFirst (fFirst (fNoTh ((a.1 0).1 0) x) (fNoTh ((a.1 0).1 0) y)) (fFirst (fFirst (fBelow v (nI 1)) (fBelow i (nI 0))) (fBelow q (nI 2)))) (fFirst (fFirst (fAbove v (nI 60)) (fAbove i (nI 8))) (fAbove q (nI 20)))) (fUnk c (nI 1))) = 0 then (if c = 0 then (oddS (a.1 0) (nO (a.1 0)) (plW (a.1 0)) v x.toNatClampNeg y.toNatClampNeg q i.toNatClampNeg) / oddG (oddT q i.toNatClampNeg) (oddS (a.1 0) (nO (a.1 0)) (plW (a.1 0)) v x.toNatClampNeg y.toNatClampNeg q i.toNatClampNeg) else (oddT q i.toNatClampNeg) / oddG (oddT q i.toNatClampNeg) (oddS (a.1 0) (nO (a.1 0)) (plW (a.1 0)) v x.toNatClampNeg y.toNatClampNeg q i.toNatClampNeg)) else Int64.ofNat 4000000000000000000 - ((fFirst (fFirst (fFirst (fFirst (fNoTh ((a.1 0).1 0) x) (fNoTh ((a.1 0).1 0) y)) (fFirst (fFirst (fBelow v (nI 1)) (fBelow i (nI 0))) (fBelow q (nI 2)))) (fFirst (fFirst (fAbove v (nI 60)) (fAbove i (nI 8))) (fAbove q (nI 20)))) (fUnk c (nI 1)))).toInt64))) (mC m2 s2.1 s2.2.2)) : am_M i_X12_chance [.ref 0, .int x, .int y, .int v, .int i, .int q, .int c] (mC m s.1 s.2.2) K := by
  have h := hM.x hI
  have hn := hI.n
  have hn8 := hI.n8
  refine e_X12_chance [101] ?_
  conv => whnf
  refine m_n2 hM ?_
  refine b_X12_chance [101] ?_
  conv => whnf
  refine ⟨fun c10 => ?_, fun c10 => ?_⟩
  · conv => whnf
    refine ⟨fun c15 => ?_, fun c15 => ?_⟩
    · refine b_X12_chance [101] ?_
      conv => whnf
      refine b_X12_chance [101] ?_
      conv => whnf
      refine ⟨fun c79 => absurd c79 (by decide), fun c79 => ?_⟩
      conv => whnf
      refine m_lowest (x := (Int32.ofInt (-4))) (by first | (unfold rfs; decide) | exact fNoBlow_r (by assumption) | exact fFirst_r fNoTh_r fNoTh_r (by assumption) | exact fFirst_r fBelow_r fAbove_r (by assumption)) ?_
      refine b_X12_chance [101] ?_
      conv => whnf
      have e0 : (fFirst (fFirst (fFirst (fFirst (fNoTh ((a.1 0).1 0) x) (fNoTh ((a.1 0).1 0) y)) (fFirst (fFirst (fBelow v (nI 1)) (fBelow i (nI 0))) (fBelow q (nI 2)))) (fFirst (fFirst (fAbove v (nI 60)) (fAbove i (nI 8))) (fAbove q (nI 20)))) (fUnk c (nI 1))) = (Int32.ofInt (-4)) := (fFn (fFn (fF0 c10 (fFn (fFn (be_T c15) (rfs_n (by first | (unfold rfs; decide) | exact fNoBlow_r (by assumption) | exact fFirst_r fNoTh_r fNoTh_r (by assumption) | exact fFirst_r fBelow_r fAbove_r (by assumption)))) (rfs_n (by first | (unfold rfs; decide) | exact fNoBlow_r (by assumption) | exact fFirst_r fNoTh_r fNoTh_r (by assumption) | exact fFirst_r fBelow_r fAbove_r (by assumption))))) (rfs_n (by first | (unfold rfs; decide) | exact fNoBlow_r (by assumption) | exact fFirst_r fNoTh_r fNoTh_r (by assumption) | exact fFirst_r fBelow_r fAbove_r (by assumption)))) (rfs_n (by first | (unfold rfs; decide) | exact fNoBlow_r (by assumption) | exact fFirst_r fNoTh_r fNoTh_r (by assumption) | exact fFirst_r fBelow_r fAbove_r (by assumption))))
      rw [e0, if_neg (rfs_n (by first | (unfold rfs; decide) | exact fNoBlow_r (by assumption) | exact fFirst_r fNoTh_r fNoTh_r (by assumption) | exact fFirst_r fBelow_r fAbove_r (by assumption)))] at hK
      exact hK _ s (hM.bump (by first | (unfold rfs; decide) | exact fNoBlow_r (by assumption) | exact fFirst_r fNoTh_r fNoTh_r (by assumption) | exact fFirst_r fBelow_r fAbove_r (by assumption)))
    · conv => whnf
      refine ⟨fun c20 => ?_, fun c20 => ?_⟩
      · refine b_X12_chance [101] ?_
        conv => whnf
        refine b_X12_chance [101] ?_
        conv => whnf
        refine ⟨fun c79 => absurd c79 (by decide), fun c79 => ?_⟩
        conv => whnf
        refine m_lowest (x := (Int32.ofInt (-4))) (by first | (unfold rfs; decide) | exact fNoBlow_r (by assumption) | exact fFirst_r fNoTh_r fNoTh_r (by assumption) | exact fFirst_r fBelow_r fAbove_r (by assumption)) ?_
        refine b_X12_chance [101] ?_
        conv => whnf
        have e0 : (fFirst (fFirst (fFirst (fFirst (fNoTh ((a.1 0).1 0) x) (fNoTh ((a.1 0).1 0) y)) (fFirst (fFirst (fBelow v (nI 1)) (fBelow i (nI 0))) (fBelow q (nI 2)))) (fFirst (fFirst (fAbove v (nI 60)) (fAbove i (nI 8))) (fAbove q (nI 20)))) (fUnk c (nI 1))) = (Int32.ofInt (-4)) := (fFn (fFn (fF0 c10 (fFn (fF0 (be_F c15) (be_T (by rw [nI_0]; exact c20))) (rfs_n (by first | (unfold rfs; decide) | exact fNoBlow_r (by assumption) | exact fFirst_r fNoTh_r fNoTh_r (by assumption) | exact fFirst_r fBelow_r fAbove_r (by assumption))))) (rfs_n (by first | (unfold rfs; decide) | exact fNoBlow_r (by assumption) | exact fFirst_r fNoTh_r fNoTh_r (by assumption) | exact fFirst_r fBelow_r fAbove_r (by assumption)))) (rfs_n (by first | (unfold rfs; decide) | exact fNoBlow_r (by assumption) | exact fFirst_r fNoTh_r fNoTh_r (by assumption) | exact fFirst_r fBelow_r fAbove_r (by assumption))))
        rw [e0, if_neg (rfs_n (by first | (unfold rfs; decide) | exact fNoBlow_r (by assumption) | exact fFirst_r fNoTh_r fNoTh_r (by assumption) | exact fFirst_r fBelow_r fAbove_r (by assumption)))] at hK
        exact hK _ s (hM.bump (by first | (unfold rfs; decide) | exact fNoBlow_r (by assumption) | exact fFirst_r fNoTh_r fNoTh_r (by assumption) | exact fFirst_r fBelow_r fAbove_r (by assumption)))
      · conv => whnf
        refine ⟨fun c26 => ?_, fun c26 => ?_⟩
        · refine b_X12_chance [101] ?_
          conv => whnf
          refine ⟨fun c37 => ?_, fun c37 => ?_⟩
          · refine b_X12_chance [101] ?_
            conv => whnf
            refine b_X12_chance [101] ?_
            conv => whnf
            refine ⟨fun c79 => absurd c79 (by decide), fun c79 => ?_⟩
            conv => whnf
            refine m_lowest (x := (Int32.ofInt (-6))) (by first | (unfold rfs; decide) | exact fNoBlow_r (by assumption) | exact fFirst_r fNoTh_r fNoTh_r (by assumption) | exact fFirst_r fBelow_r fAbove_r (by assumption)) ?_
            refine b_X12_chance [101] ?_
            conv => whnf
            have e0 : (fFirst (fFirst (fFirst (fFirst (fNoTh ((a.1 0).1 0) x) (fNoTh ((a.1 0).1 0) y)) (fFirst (fFirst (fBelow v (nI 1)) (fBelow i (nI 0))) (fBelow q (nI 2)))) (fFirst (fFirst (fAbove v (nI 60)) (fAbove i (nI 8))) (fAbove q (nI 20)))) (fUnk c (nI 1))) = (Int32.ofInt (-6)) := (fFn (fF0 (fF0 c10 (fF0 (fF0 (be_F c15) (be_F (by rw [nI_0]; exact c20))) (be_P c26))) (fFn (fFn (ab_T c37) (rfs_n (by first | (unfold rfs; decide) | exact fNoBlow_r (by assumption) | exact fFirst_r fNoTh_r fNoTh_r (by assumption) | exact fFirst_r fBelow_r fAbove_r (by assumption)))) (rfs_n (by first | (unfold rfs; decide) | exact fNoBlow_r (by assumption) | exact fFirst_r fNoTh_r fNoTh_r (by assumption) | exact fFirst_r fBelow_r fAbove_r (by assumption))))) (rfs_n (by first | (unfold rfs; decide) | exact fNoBlow_r (by assumption) | exact fFirst_r fNoTh_r fNoTh_r (by assumption) | exact fFirst_r fBelow_r fAbove_r (by assumption))))
            rw [e0, if_neg (rfs_n (by first | (unfold rfs; decide) | exact fNoBlow_r (by assumption) | exact fFirst_r fNoTh_r fNoTh_r (by assumption) | exact fFirst_r fBelow_r fAbove_r (by assumption)))] at hK
            exact hK _ s (hM.bump (by first | (unfold rfs; decide) | exact fNoBlow_r (by assumption) | exact fFirst_r fNoTh_r fNoTh_r (by assumption) | exact fFirst_r fBelow_r fAbove_r (by assumption)))
          · conv => whnf
            refine ⟨fun c44 => ?_, fun c44 => ?_⟩
            · refine b_X12_chance [101] ?_
              conv => whnf
              refine b_X12_chance [101] ?_
              conv => whnf
              refine ⟨fun c79 => absurd c79 (by decide), fun c79 => ?_⟩
              conv => whnf
              refine m_lowest (x := (Int32.ofInt (-6))) (by first | (unfold rfs; decide) | exact fNoBlow_r (by assumption) | exact fFirst_r fNoTh_r fNoTh_r (by assumption) | exact fFirst_r fBelow_r fAbove_r (by assumption)) ?_
              refine b_X12_chance [101] ?_
              conv => whnf
              have e0 : (fFirst (fFirst (fFirst (fFirst (fNoTh ((a.1 0).1 0) x) (fNoTh ((a.1 0).1 0) y)) (fFirst (fFirst (fBelow v (nI 1)) (fBelow i (nI 0))) (fBelow q (nI 2)))) (fFirst (fFirst (fAbove v (nI 60)) (fAbove i (nI 8))) (fAbove q (nI 20)))) (fUnk c (nI 1))) = (Int32.ofInt (-6)) := (fFn (fF0 (fF0 c10 (fF0 (fF0 (be_F c15) (be_F (by rw [nI_0]; exact c20))) (be_P c26))) (fFn (fF0 (ab_F c37) (ab_T c44)) (rfs_n (by first | (unfold rfs; decide) | exact fNoBlow_r (by assumption) | exact fFirst_r fNoTh_r fNoTh_r (by assumption) | exact fFirst_r fBelow_r fAbove_r (by assumption))))) (rfs_n (by first | (unfold rfs; decide) | exact fNoBlow_r (by assumption) | exact fFirst_r fNoTh_r fNoTh_r (by assumption) | exact fFirst_r fBelow_r fAbove_r (by assumption))))
              rw [e0, if_neg (rfs_n (by first | (unfold rfs; decide) | exact fNoBlow_r (by assumption) | exact fFirst_r fNoTh_r fNoTh_r (by assumption) | exact fFirst_r fBelow_r fAbove_r (by assumption)))] at hK
              exact hK _ s (hM.bump (by first | (unfold rfs; decide) | exact fNoBlow_r (by assumption) | exact fFirst_r fNoTh_r fNoTh_r (by assumption) | exact fFirst_r fBelow_r fAbove_r (by assumption)))
            · conv => whnf
              refine ⟨fun c51 => ?_, fun c51 => ?_⟩
              · refine b_X12_chance [101] ?_
                conv => whnf
                refine m_isIn ?_
                refine b_X12_chance [101] ?_
                conv => whnf
                refine ⟨fun c66 => ?_, fun c66 => ?_⟩
                · conv => whnf
                  refine b_X12_chance [101] ?_
                  conv => whnf
                  refine ⟨fun c79 => absurd c79 (by decide), fun c79 => ?_⟩
                  conv => whnf
                  refine m_lowest (x := (Int32.ofInt (-2))) (by first | (unfold rfs; decide) | exact fNoBlow_r (by assumption) | exact fFirst_r fNoTh_r fNoTh_r (by assumption) | exact fFirst_r fBelow_r fAbove_r (by assumption)) ?_
                  refine b_X12_chance [101] ?_
                  conv => whnf
                  have e0 : (fFirst (fFirst (fFirst (fFirst (fNoTh ((a.1 0).1 0) x) (fNoTh ((a.1 0).1 0) y)) (fFirst (fFirst (fBelow v (nI 1)) (fBelow i (nI 0))) (fBelow q (nI 2)))) (fFirst (fFirst (fAbove v (nI 60)) (fAbove i (nI 8))) (fAbove q (nI 20)))) (fUnk c (nI 1))) = (Int32.ofInt (-2)) := (fF0 (fF0 (fF0 c10 (fF0 (fF0 (be_F c15) (be_F (by rw [nI_0]; exact c20))) (be_P c26))) (fF0 (fF0 (ab_F c37) (ab_F c44)) (ab_P c51))) (in_T c66))
                  rw [e0, if_neg (rfs_n (by first | (unfold rfs; decide) | exact fNoBlow_r (by assumption) | exact fFirst_r fNoTh_r fNoTh_r (by assumption) | exact fFirst_r fBelow_r fAbove_r (by assumption)))] at hK
                  exact hK _ s (hM.bump (by first | (unfold rfs; decide) | exact fNoBlow_r (by assumption) | exact fFirst_r fNoTh_r fNoTh_r (by assumption) | exact fFirst_r fBelow_r fAbove_r (by assumption)))
                · refine b_X12_chance [101] ?_
                  conv => whnf
                  refine ⟨fun c79 => ?_, fun c79 => absurd (by decide) c79⟩
                  refine b_X12_chance [101] ?_
                  conv => whnf
                  have r0 : (fFirst (fFirst (fFirst (fFirst (fNoTh ((a.1 0).1 0) x) (fNoTh ((a.1 0).1 0) y)) (fFirst (fFirst (fBelow v (nI 1)) (fBelow i (nI 0))) (fBelow q (nI 2)))) (fFirst (fFirst (fAbove v (nI 60)) (fAbove i (nI 8))) (fAbove q (nI 20)))) (fUnk c (nI 1))) = 0 := (fF0 (fF0 (fF0 c10 (fF0 (fF0 (be_F c15) (be_F (by rw [nI_0]; exact c20))) (be_P c26))) (fF0 (fF0 (ab_F c37) (ab_F c44)) (ab_P c51))) (in_F c66))
                  rw [if_pos r0, qB_0 r0] at hK
                  obtain ⟨r1a, r1b⟩ := fFirst_0 r0
                  obtain ⟨r2a, r2b⟩ := fFirst_0 r1a
                  obtain ⟨r3a, r3b⟩ := fFirst_0 r2a
                  obtain ⟨r4a, r4b⟩ := fFirst_0 r3a
                  obtain ⟨x_, hx, rfl⟩ := fNoTh_0 (n := nO (a.1 0)) (by omega) (by rw [← hn]; exact r4a)
                  have ex : (nI x_).toNatClampNeg = x_ := nI_clamp (by omega)
                  try rw [ex] at hK
                  obtain ⟨y_, hy, rfl⟩ := fNoTh_0 (n := nO (a.1 0)) (by omega) (by rw [← hn]; exact r4b)
                  have ey : (nI y_).toNatClampNeg = y_ := nI_clamp (by omega)
                  try rw [ey] at hK
                  obtain ⟨r5a, r5b⟩ := fFirst_0 r3b
                  obtain ⟨r6a, r6b⟩ := fFirst_0 r5a
                  have lv := r6a
                  have li := r6b
                  have lq := r5b
                  obtain ⟨r7a, r7b⟩ := fFirst_0 r2b
                  obtain ⟨r8a, r8b⟩ := fFirst_0 r7a
                  have gv := r8a
                  have gi := r8b
                  have gq := r7b
                  have uc := r1b
                  obtain ⟨v_, hv1, hv2, rfl⟩ := btw_of (by decide) (by decide) (fBelow_0 lv) (fAbove_0 gv)
                  have hv0 : ¬ nI v_ ≤ 0 := v_b hv1 (by omega)
                  obtain ⟨i_, hi1, hi2, rfl⟩ := btw_of (by decide) (by decide) (fBelow_0 li) (fAbove_0 gi)
                  have ei : (nI i_).toNatClampNeg = i_ := nI_clamp (by omega)
                  rw [ei] at hK
                  obtain ⟨q_, hq1, hq2, rfl⟩ := btw_of (by decide) (by decide) (fBelow_0 lq) (fAbove_0 gq)
                  obtain ⟨S, T, G, hS, hT, hG, e1, e2, e3, e4, e5⟩ := odds_eq (v := nI v_) h.2 hx (show y_ < 32 by omega) hi2 hq1 hq2
                  rw [e2, e3, e4] at hK
                  have hTz : 0 < T := Nat.pos_of_ne_zero (fun z => by
                    have h7 : lN T = lN (q_ ^ i_) := e3.symm.trans (pow_lN (by omega) i_)
                    rw [z] at h7
                    have h8 := (pk_lEQ (a := 0) (b := q_ ^ i_) (by decide) (by have := pow_20 (b := q_) (e := i_) hq2 hi2; omega)).mp h7
                    have := t_ge1 (q := q_) (e := i_) hq1
                    omega)
                  have h6 : G ≤ T := by rw [← e5]; exact Nat.gcd_le_right _ hTz
                  have hG0 : ¬ lN G = 0 := fun z => absurd ((pk_lEQ (a := G) (b := 0) (by omega) (by decide)).mp z) (by omega)
                  have h2 := ml_chn (z7 := nI 0) (c := c) (q := nI q_) (ov := m.1 6) (K := K) hv0 hx hy hi2 h (i_ + 1) 0 s (m.1 6) (Int64.ofNat 0) (by omega) (fun s2 z2 => by
                    rw [← h.br] at e1
                    rw [e1]
                    refine b_X12_chance [] ?_
                    conv => whnf
                    refine ⟨fun c169 => ?_, fun c169 => ?_⟩
                    · conv => whnf
                      refine b_X12_chance [] ?_
                      conv => whnf
                      refine m_pow (by omega) ?_
                      rw [show itr (powI (nI q_)) i_ 0 (Int64.ofNat 1) = lN T from e3]
                      refine b_X12_chance [] ?_
                      conv => whnf
                      refine m_div (by omega) (by omega) ?_
                      rw [e5]
                      refine b_X12_chance [] ?_
                      conv => whnf
                      refine ⟨hG0, ?_⟩
                      conv => whnf
                      rw [if_pos c169] at hK
                      have h9 := hK m s2 hM
                      exact h9
                    · refine b_X12_chance [] ?_
                      conv => whnf
                      refine m_pow (by omega) ?_
                      rw [show itr (powI (nI q_)) i_ 0 (Int64.ofNat 1) = lN T from e3]
                      refine b_X12_chance [] ?_
                      conv => whnf
                      refine m_pow (by omega) ?_
                      rw [show itr (powI (nI q_)) i_ 0 (Int64.ofNat 1) = lN T from e3]
                      refine b_X12_chance [] ?_
                      conv => whnf
                      refine m_div (by omega) (by omega) ?_
                      rw [e5]
                      refine b_X12_chance [] ?_
                      conv => whnf
                      refine ⟨hG0, ?_⟩
                      conv => whnf
                      rw [if_neg c169] at hK
                      have h9 := hK m s2 hM
                      exact h9)
                  rw [setI_same rfl] at h2
                  exact h2
              · conv => whnf
                refine b_X12_chance [101] ?_
                conv => whnf
                refine ⟨fun c79 => absurd c79 (by decide), fun c79 => ?_⟩
                conv => whnf
                refine m_lowest (x := (Int32.ofInt (-6))) (by first | (unfold rfs; decide) | exact fNoBlow_r (by assumption) | exact fFirst_r fNoTh_r fNoTh_r (by assumption) | exact fFirst_r fBelow_r fAbove_r (by assumption)) ?_
                refine b_X12_chance [101] ?_
                conv => whnf
                have e0 : (fFirst (fFirst (fFirst (fFirst (fNoTh ((a.1 0).1 0) x) (fNoTh ((a.1 0).1 0) y)) (fFirst (fFirst (fBelow v (nI 1)) (fBelow i (nI 0))) (fBelow q (nI 2)))) (fFirst (fFirst (fAbove v (nI 60)) (fAbove i (nI 8))) (fAbove q (nI 20)))) (fUnk c (nI 1))) = (Int32.ofInt (-6)) := (fFn (fF0 (fF0 c10 (fF0 (fF0 (be_F c15) (be_F (by rw [nI_0]; exact c20))) (be_P c26))) (fF0 (fF0 (ab_F c37) (ab_F c44)) (ab_Q c51))) (rfs_n (by first | (unfold rfs; decide) | exact fNoBlow_r (by assumption) | exact fFirst_r fNoTh_r fNoTh_r (by assumption) | exact fFirst_r fBelow_r fAbove_r (by assumption))))
                rw [e0, if_neg (rfs_n (by first | (unfold rfs; decide) | exact fNoBlow_r (by assumption) | exact fFirst_r fNoTh_r fNoTh_r (by assumption) | exact fFirst_r fBelow_r fAbove_r (by assumption)))] at hK
                exact hK _ s (hM.bump (by first | (unfold rfs; decide) | exact fNoBlow_r (by assumption) | exact fFirst_r fNoTh_r fNoTh_r (by assumption) | exact fFirst_r fBelow_r fAbove_r (by assumption)))
        · conv => whnf
          refine b_X12_chance [101] ?_
          conv => whnf
          refine ⟨fun c79 => absurd c79 (by decide), fun c79 => ?_⟩
          conv => whnf
          refine m_lowest (x := (Int32.ofInt (-4))) (by first | (unfold rfs; decide) | exact fNoBlow_r (by assumption) | exact fFirst_r fNoTh_r fNoTh_r (by assumption) | exact fFirst_r fBelow_r fAbove_r (by assumption)) ?_
          refine b_X12_chance [101] ?_
          conv => whnf
          have e0 : (fFirst (fFirst (fFirst (fFirst (fNoTh ((a.1 0).1 0) x) (fNoTh ((a.1 0).1 0) y)) (fFirst (fFirst (fBelow v (nI 1)) (fBelow i (nI 0))) (fBelow q (nI 2)))) (fFirst (fFirst (fAbove v (nI 60)) (fAbove i (nI 8))) (fAbove q (nI 20)))) (fUnk c (nI 1))) = (Int32.ofInt (-4)) := (fFn (fFn (fF0 c10 (fF0 (fF0 (be_F c15) (be_F (by rw [nI_0]; exact c20))) (be_Q c26))) (rfs_n (by first | (unfold rfs; decide) | exact fNoBlow_r (by assumption) | exact fFirst_r fNoTh_r fNoTh_r (by assumption) | exact fFirst_r fBelow_r fAbove_r (by assumption)))) (rfs_n (by first | (unfold rfs; decide) | exact fNoBlow_r (by assumption) | exact fFirst_r fNoTh_r fNoTh_r (by assumption) | exact fFirst_r fBelow_r fAbove_r (by assumption))))
          rw [e0, if_neg (rfs_n (by first | (unfold rfs; decide) | exact fNoBlow_r (by assumption) | exact fFirst_r fNoTh_r fNoTh_r (by assumption) | exact fFirst_r fBelow_r fAbove_r (by assumption)))] at hK
          exact hK _ s (hM.bump (by first | (unfold rfs; decide) | exact fNoBlow_r (by assumption) | exact fFirst_r fNoTh_r fNoTh_r (by assumption) | exact fFirst_r fBelow_r fAbove_r (by assumption)))
  · refine b_X12_chance [101] ?_
    conv => whnf
    refine ⟨fun c79 => absurd c79 c10, fun c79 => ?_⟩
    conv => whnf
    refine m_lowest (x := (fFirst (fNoTh ((a.1 0).1 0) x) (fNoTh ((a.1 0).1 0) y))) (by first | (unfold rfs; decide) | exact fNoBlow_r (by assumption) | exact fFirst_r fNoTh_r fNoTh_r (by assumption) | exact fFirst_r fBelow_r fAbove_r (by assumption)) ?_
    refine b_X12_chance [101] ?_
    conv => whnf
    have e0 : (fFirst (fFirst (fFirst (fFirst (fNoTh ((a.1 0).1 0) x) (fNoTh ((a.1 0).1 0) y)) (fFirst (fFirst (fBelow v (nI 1)) (fBelow i (nI 0))) (fBelow q (nI 2)))) (fFirst (fFirst (fAbove v (nI 60)) (fAbove i (nI 8))) (fAbove q (nI 20)))) (fUnk c (nI 1))) = (fFirst (fNoTh ((a.1 0).1 0) x) (fNoTh ((a.1 0).1 0) y)) := (fFn (fFn (fFn rfl (rfs_n (by first | (unfold rfs; decide) | exact fNoBlow_r (by assumption) | exact fFirst_r fNoTh_r fNoTh_r (by assumption) | exact fFirst_r fBelow_r fAbove_r (by assumption)))) (rfs_n (by first | (unfold rfs; decide) | exact fNoBlow_r (by assumption) | exact fFirst_r fNoTh_r fNoTh_r (by assumption) | exact fFirst_r fBelow_r fAbove_r (by assumption)))) (rfs_n (by first | (unfold rfs; decide) | exact fNoBlow_r (by assumption) | exact fFirst_r fNoTh_r fNoTh_r (by assumption) | exact fFirst_r fBelow_r fAbove_r (by assumption))))
    rw [e0, if_neg (rfs_n (by first | (unfold rfs; decide) | exact fNoBlow_r (by assumption) | exact fFirst_r fNoTh_r fNoTh_r (by assumption) | exact fFirst_r fBelow_r fAbove_r (by assumption)))] at hK
    exact hK _ s (hM.bump (by first | (unfold rfs; decide) | exact fNoBlow_r (by assumption) | exact fFirst_r fNoTh_r fNoTh_r (by assumption) | exact fFirst_r fBelow_r fAbove_r (by assumption)))
