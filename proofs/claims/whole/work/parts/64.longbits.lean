/-! the bits of a long, counted -/
def mkB (b : Nat) : Nat → Nat
  | 0 => 0
  | k + 1 => b + 256 * mkB b k
theorem and_dg {c b y M : Nat} (hc : c < 256) (hb : b < 256) : (c + 256 * y) &&& (b + 256 * M) = (c &&& b) + 256 * (y &&& M) := by
  have h1 : ((c + 256 * y) &&& (b + 256 * M)) % 2 ^ 8 = c &&& b := by
    rw [Nat.and_mod_two_pow, show (c + 256 * y) % 2 ^ 8 = c by omega, show (b + 256 * M) % 2 ^ 8 = b by omega]
  have h2 : ((c + 256 * y) &&& (b + 256 * M)) / 2 ^ 8 = y &&& M := by
    rw [Nat.and_div_two_pow, show (c + 256 * y) / 2 ^ 8 = y by omega, show (b + 256 * M) / 2 ^ 8 = M by omega]
  have h3 := Nat.div_add_mod ((c + 256 * y) &&& (b + 256 * M)) (2 ^ 8)
  rw [h1, h2] at h3
  omega
def s1B (M q : Nat) : Nat := q - ((q / 2) &&& M)
def s2B (M z : Nat) : Nat := (z &&& M) + ((z / 4) &&& M)
def s3B (M z : Nat) : Nat := (z + z / 16) &&& M
theorem s1_step {c y M : Nat} (hc : c < 256) : s1B (85 + 256 * M) (c + 256 * y) = s1B 85 c + 256 * s1B M y := by
  unfold s1B
  have e : (c + 256 * y) / 2 = (c / 2 + 128 * (y % 2)) + 256 * (y / 2) := by omega
  rw [e, and_dg (by omega) (by decide)]
  have d : ∀ c, c < 256 → ∀ t, t < 2 → (c / 2 + 128 * t) &&& 85 = (c / 2) &&& 85 := by decide +kernel
  rw [d c hc (y % 2) (by omega)]
  have h1 : (c / 2) &&& 85 ≤ c / 2 := Nat.and_le_left
  have h2 : (y / 2) &&& M ≤ y / 2 := Nat.and_le_left
  omega
theorem s2_step {d u M : Nat} (hd : d < 256) : s2B (51 + 256 * M) (d + 256 * u) = s2B 51 d + 256 * s2B M u := by
  unfold s2B
  have e : (d + 256 * u) / 4 = (d / 4 + 64 * (u % 4)) + 256 * (u / 4) := by omega
  rw [e, and_dg hd (by decide), and_dg (by omega) (by decide)]
  have q : ∀ d, d < 256 → ∀ t, t < 4 → (d / 4 + 64 * t) &&& 51 = (d / 4) &&& 51 := by decide +kernel
  rw [q d hd (u % 4) (by omega)]
  omega
theorem s3_step {d u M : Nat} (h1 : d ≤ 68) (h2 : u % 16 ≤ 4) : s3B (15 + 256 * M) (d + 256 * u) = s3B 15 d + 256 * s3B M u := by
  unfold s3B
  have e : d + 256 * u + (d + 256 * u) / 16 = (d + d / 16 + 16 * (u % 16)) + 256 * (u + u / 16) := by omega
  rw [e, and_dg (by omega) (by decide)]
  have q : ∀ d, d < 69 → ∀ t, t < 5 → (d + d / 16 + 16 * t) &&& 15 = (d + d / 16) &&& 15 := by decide +kernel
  rw [q d (by omega) (u % 16) (by omega)]
theorem s_one {c : Nat} (hc : c < 256) : s1B 85 c < 256 ∧ s2B 51 (s1B 85 c) ≤ 68 ∧ s2B 51 (s1B 85 c) % 16 ≤ 4 ∧ s3B 15 (s2B 51 (s1B 85 c)) = pcN 8 c := by
  have : ∀ c, c < 256 → s1B 85 c < 256 ∧ s2B 51 (s1B 85 c) ≤ 68 ∧ s2B 51 (s1B 85 c) % 16 ≤ 4 ∧ s3B 15 (s2B 51 (s1B 85 c)) = pcN 8 c := by decide +kernel
  exact this c hc
def byB (q : Nat) : Nat → Nat
  | 0 => 0
  | k + 1 => pcN 8 (q % 256) + 256 * byB (q / 256) k
theorem s2_low {k q : Nat} (h : q < 256 ^ k) : s2B (mkB 51 k) (s1B (mkB 85 k) q) % 16 ≤ 4 := by
  cases k with
  | zero => have : q = 0 := by simpa using h
            subst this; decide
  | succ k =>
    have e : q = q % 256 + 256 * (q / 256) := (Nat.mod_add_div q 256).symm
    rw [e, mkB, mkB, s1_step (Nat.mod_lt _ (by decide)), s2_step (s_one (Nat.mod_lt _ (by decide))).1]
    have := (s_one (show q % 256 < 256 from Nat.mod_lt _ (by decide))).2.2.1
    omega
theorem s3_all : ∀ (k q : Nat), q < 256 ^ k → s3B (mkB 15 k) (s2B (mkB 51 k) (s1B (mkB 85 k) q)) = byB q k := by
  intro k
  induction k with
  | zero => intro q h; have : q = 0 := by simpa using h
            subst this; decide
  | succ k ih =>
    intro q h
    have hm : q % 256 < 256 := Nat.mod_lt _ (by decide)
    have hq : q / 256 < 256 ^ k := by rw [Nat.pow_succ] at h; omega
    have e : q = q % 256 + 256 * (q / 256) := (Nat.mod_add_div q 256).symm
    obtain ⟨a1, a2, a3, a4⟩ := s_one hm
    rw [byB, ← ih _ hq, ← a4]
    conv => lhs; rw [e]
    rw [mkB, mkB, mkB, s1_step hm, s2_step a1, s3_step a2 (s2_low hq)]
theorem pcN_sh (a q : Nat) : ∀ b, pcN (a + b) q = pcN a q + pcN b (q / 2 ^ a) := by
  intro b
  induction b with
  | zero => rfl
  | succ b ih =>
    rw [← Nat.add_assoc, pcN, ih, pcN]
    have : (q / 2 ^ a).testBit b = q.testBit (a + b) := by rw [← Nat.shiftRight_eq_div_pow, Nat.testBit_shiftRight]
    rw [this]
    omega
theorem pcN_mod (q : Nat) : ∀ b, b ≤ 8 → pcN b (q % 256) = pcN b q := by
  intro b
  induction b with
  | zero => intro _; rfl
  | succ b ih =>
    intro hb
    rw [pcN, pcN, ih (by omega), show (256 : Nat) = 2 ^ 8 from rfl, Nat.testBit_mod_two_pow]
    rw [decide_eq_true (show b < 8 by omega), Bool.true_and]
/-- the sum of the bytes of such a number is its count -/
theorem byB_sum {q : Nat} : ∃ p0 p1 p2 p3 p4 p5 p6 p7, p0 ≤ 8 ∧ p1 ≤ 8 ∧ p2 ≤ 8 ∧ p3 ≤ 8 ∧ p4 ≤ 8 ∧ p5 ≤ 8 ∧ p6 ≤ 8 ∧ p7 ≤ 8 ∧ byB q 8 = p0 + 256 * (p1 + 256 * (p2 + 256 * (p3 + 256 * (p4 + 256 * (p5 + 256 * (p6 + 256 * p7)))))) ∧ pcN 64 q = p0 + p1 + p2 + p3 + p4 + p5 + p6 + p7 := by
  refine ⟨_, _, _, _, _, _, _, _, pcN_le 8 (q % 256), pcN_le 8 (q / 256 % 256), pcN_le 8 (q / 256 / 256 % 256), pcN_le 8 (q / 256 / 256 / 256 % 256), pcN_le 8 (q / 256 / 256 / 256 / 256 % 256), pcN_le 8 (q / 256 / 256 / 256 / 256 / 256 % 256), pcN_le 8 (q / 256 / 256 / 256 / 256 / 256 / 256 % 256), pcN_le 8 (q / 256 / 256 / 256 / 256 / 256 / 256 / 256 % 256), ?_, ?_⟩
  · show pcN 8 (q % 256) + 256 * (pcN 8 (q / 256 % 256) + 256 * (pcN 8 (q / 256 / 256 % 256) + 256 * (pcN 8 (q / 256 / 256 / 256 % 256) + 256 * (pcN 8 (q / 256 / 256 / 256 / 256 % 256) + 256 * (pcN 8 (q / 256 / 256 / 256 / 256 / 256 % 256) + 256 * (pcN 8 (q / 256 / 256 / 256 / 256 / 256 / 256 % 256) + 256 * (pcN 8 (q / 256 / 256 / 256 / 256 / 256 / 256 / 256 % 256) + 256 * 0))))))) = _
    omega
  · rw [show 64 = 8 + 56 from rfl, pcN_sh, show 56 = 8 + 48 from rfl, pcN_sh, show 48 = 8 + 40 from rfl, pcN_sh, show 40 = 8 + 32 from rfl, pcN_sh, show 32 = 8 + 24 from rfl, pcN_sh, show 24 = 8 + 16 from rfl, pcN_sh, show 16 = 8 + 8 from rfl, pcN_sh]
    simp only [pcN_mod _ 8 (Nat.le_refl _), show (2 : Nat) ^ 8 = 256 from rfl]
    omega
def PB (q : Nat) : Nat := s3B (mkB 15 8) (s2B (mkB 51 8) (s1B (mkB 85 8) q))
def PB6 (z : Nat) : Nat := (z + z / 256 + (z + z / 256) / 65536) + (z + z / 256 + (z + z / 256) / 65536) / 4294967296
theorem PB6_l {p0 p1 p2 p3 p4 p5 p6 p7 y : Nat} (h0 : p0 ≤ 8) (h1 : p1 ≤ 8) (h2 : p2 ≤ 8) (h3 : p3 ≤ 8) (h4 : p4 ≤ 8) (h5 : p5 ≤ 8) (h6 : p6 ≤ 8) (h7 : p7 ≤ 8) (hy : y = (p0) + 256 * (p1) + 65536 * (p2) + 16777216 * (p3) + 4294967296 * (p4) + 1099511627776 * (p5) + 281474976710656 * (p6) + 72057594037927936 * (p7)) : PB6 y % 128 = p0 + p1 + p2 + p3 + p4 + p5 + p6 + p7 ∧ PB6 y < 4611686018427387904 := by
  have e1 : y / 256 = (p1) + 256 * (p2) + 65536 * (p3) + 16777216 * (p4) + 4294967296 * (p5) + 1099511627776 * (p6) + 281474976710656 * (p7) := by omega
  unfold PB6
  generalize y / 256 = a at e1 ⊢
  have e2 : (y + a) / 65536 = (p2 + p3) + 256 * (p3 + p4) + 65536 * (p4 + p5) + 16777216 * (p5 + p6) + 4294967296 * (p6 + p7) + 1099511627776 * (p7) := by omega
  generalize (y + a) / 65536 = b at e2 ⊢
  have e3 : (y + a + b) / 4294967296 = (p4 + p5 + p6 + p7) + 256 * (p5 + p6 + p7) + 65536 * (p6 + p7) + 16777216 * (p7) := by omega
  generalize (y + a + b) / 4294967296 = c at e3 ⊢
  exact ⟨by omega, by omega⟩
theorem PB6_sum {q : Nat} (h : q < 256 ^ 8) : PB6 (PB q) % 128 = pcN 64 q ∧ PB6 (PB q) < 4611686018427387904 ∧ PB q < 4611686018427387904 := by
  unfold PB
  rw [s3_all 8 q h]
  obtain ⟨p0, p1, p2, p3, p4, p5, p6, p7, h0, h1, h2, h3, h4, h5, h6, h7, e1, e2⟩ := byB_sum (q := q)
  have e3 : byB q 8 = (p0) + 256 * (p1) + 65536 * (p2) + 16777216 * (p3) + 4294967296 * (p4) + 1099511627776 * (p5) + 281474976710656 * (p6) + 72057594037927936 * (p7) := by omega
  obtain ⟨a1, a2⟩ := PB6_l h0 h1 h2 h3 h4 h5 h6 h7 e3
  exact ⟨by rw [a1, e2], a2, by omega⟩
theorem pcN_or {q g : Nat} (h : q.testBit g = false) : ∀ n, pcN n (q ||| 2 ^ g) = pcN n q + (if g < n then 1 else 0) := by
  intro n
  induction n with
  | zero => simp [pcN]
  | succ n ih =>
    rw [pcN, pcN, ih, Nat.testBit_or, Nat.testBit_two_pow]
    by_cases e : g = n
    · subst e
      rw [h, decide_eq_true rfl, if_neg (Nat.lt_irrefl g), if_pos (Nat.lt_succ_self g)]
      simp
    · rw [decide_eq_false e, Bool.or_false]
      by_cases l : g < n
      · have l2 : g < n + 1 := by omega
        rw [if_pos l, if_pos l2]; omega
      · have l2 : ¬ g < n + 1 := by omega
        rw [if_neg l, if_neg l2]; omega
