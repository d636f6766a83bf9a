/-! SPECS: the odds and the years -/
def gcdF : Nat → Int64 → Int64 → Int64
  | 0, x, _ => x
  | k + 1, x, y => if y ≤ Int64.ofNat 0 then x else gcdF k y (x - x / y * y)
def max1 (a : Int64) : Int64 := if Int64.ofNat 1 < a then a else Int64.ofNat 1
theorem max1_pos (a : Int64) : ¬ max1 a ≤ Int64.ofNat 0 := by
  unfold max1
  split
  · rename_i h
    rw [Int64.le_iff_toInt_le]
    rw [Int64.lt_iff_toInt_lt] at h
    have e1 : (Int64.ofNat 1).toInt = 1 := by decide
    have e0 : (Int64.ofNat 0).toInt = 0 := by decide
    omega
  · decide
theorem gcdF_pos : ∀ (k : Nat) (x y : Int64), ¬ x ≤ Int64.ofNat 0 → ¬ gcdF k x y ≤ Int64.ofNat 0 := by
  intro k
  induction k with
  | zero => intro x y h; exact h
  | succ k ih =>
    intro x y h
    rw [gcdF]
    split
    · exact h
    · rename_i h2; exact ih _ _ h2
theorem l_pos0 {x : Int64} (h : ¬ x ≤ Int64.ofNat 0) : ¬ x = 0 := fun z => h (by rw [z]; decide)
def oddF (n : Nat) (P : Nat → Nat) (v : Int32) (x t : Nat) (m1 : Int32) (kk : Nat) : Nat → Nat → WS → Int64 → Int64 → Int64
  | 0, _, _, s, _ => s
  | f + 1, j, w, s, b => if hasB (w.1 1) (nI t) = true then s else oddF n P v x t m1 kk f (j + 1) (wDrop w (blw w n (P x) v).2.2) (s + b * itr (powI m1) (kk - j) 0 (Int64.ofNat 1)) (b * (nI (kk - j)).toInt64 / (nI (j + 1)).toInt64)
theorem l_ne0 {j : Nat} (h : j + 1 < 2 ^ 31) : ¬ (nI (j + 1)).toInt64 = 0 := by
  rw [nI_l (by omega)]
  intro z
  have z2 : lN (j + 1) = lN 0 := z
  have := (pk_lEQ (by omega) (by omega)).mp z2
  omega
def lcg (z : Int32) : Int32 := z * nI 1103515245 + nI 12345
def drw (z m : Int32) : Int32 := (z &&& nI 2147483647) / nI 65536 - (z &&& nI 2147483647) / nI 65536 / m * m
theorem drw_nI (z : Int32) {n : Nat} (h : 0 < n) (hn : n < 2 ^ 31) : ∃ j, j < n ∧ drw z (nI n) = nI j := by
  obtain ⟨j, hj, ej⟩ := pk_andE z (m := nI 2147483647) 31 (by decide)
  unfold drw
  rw [ej, pk_div (by omega) (by omega) (by omega), pk_rem (by omega) h hn]
  exact ⟨_, Nat.mod_lt _ h, rfl⟩
abbrev Y4 : Type := WS × Int32 × Int32 × Int32
def yrD (n : Nat) (P : Nat → Nat) (_ : Nat) (y : Y4) : Y4 :=
  (wDrop y.1 (blw y.1 n (P (drw (lcg y.2.1) (nI n)).toNatClampNeg) (drw (lcg (lcg y.2.1)) (nI 30) + nI 1)).2.2, lcg (lcg y.2.1),
   y.2.2.1 + fBc (blw y.1 n (P (drw (lcg y.2.1) (nI n)).toNatClampNeg) (drw (lcg (lcg y.2.1)) (nI 30) + nI 1)).2.2,
   y.2.2.2 + itr (fun t x => x + fJump (y.1.2 0 t) ((blw y.1 n (P (drw (lcg y.2.1) (nI n)).toNatClampNeg) (drw (lcg (lcg y.2.1)) (nI 30) + nI 1)).1 t)) n 0 (nI 0))
def yrY (w : WS) (n : Nat) (P : Nat → Nat) (_ : Nat) (y : Int32 × Int32 × Int32) : Int32 × Int32 × Int32 := (itr (yrD n P) 6 0 (w, y)).2
theorem l_gcd {a b : Int64} {h : AH} {K : Option Value → AH → Prop}  : ∀ (k i : Nat) (x y : Int64), i + k = 200 → (K (some (.long (gcdF k x y))) h) → am_E i_X2_commonDivisor 13 [some (.long a), none, some (.long b), none, some (.long x), none, some (.long y), none, some (.int (nI i)), none, none] [] h K := by
  intro k
  induction k with
  | zero =>
    intro i x y hi hK
    obtain rfl : i = 200 := by omega
    refine b_X2_commonDivisor [13] ?_
    conv => whnf
    refine ⟨fun c17 => ?_, fun c17 => ?_⟩
    · refine b_X2_commonDivisor [13] ?_
      conv => whnf
      exact hK
    · conv => whnf
      refine ⟨fun c25 => ?_, fun c25 => absurd (by decide) c25⟩
      refine b_X2_commonDivisor [13] ?_
      conv => whnf
      exact hK
  | succ k ih =>
    intro i x y hi hK
    refine b_X2_commonDivisor [13] ?_
    conv => whnf
    refine ⟨fun c17 => ?_, fun c17 => ?_⟩
    · refine b_X2_commonDivisor [13] ?_
      conv => whnf
      rw [gcdF, if_pos ((lg_cmp_le _ _).mp c17)] at hK
      exact hK
    · conv => whnf
      refine ⟨fun c25 => absurd c25 (by exact nI_ge (by omega) (by omega)), fun c25 => ?_⟩
      conv => whnf
      refine ⟨(fun z => c17 ((lg_cmp_le _ _).mpr (by rw [z]; decide))), ?_⟩
      conv => whnf
      rw [gcdF, if_neg (fun z => c17 ((lg_cmp_le _ _).mpr z))] at hK
      have h2 := ih (i + 1) y _ (by omega) hK
      rw [← nI_add i 1] at h2
      exact am_wk (by exact ⟨Or.inr rfl, Or.inl rfl, Or.inr rfl, Or.inl rfl, Or.inr rfl, Or.inl rfl, Or.inr rfl, Or.inl rfl, Or.inr rfl, Or.inl rfl, Or.inl rfl, trivial⟩) h2
theorem s_gcd {a b : Int64} {h : AH} {K : Option Value → AH → Prop} (hK : K (some (.long (gcdF 200 (max1 a) b))) h) : am_M i_X2_commonDivisor [.long a, .long b] h K := by
  refine e_X2_commonDivisor [13] ?_
  conv => whnf
  exact l_gcd 200 0 (max1 a) b rfl hK
theorem l_odd {n kk x t : Nat} {v m : Int32} {P A : Nat → Nat} {q : F5} {W : WS} {K : Option Value → AH → Prop} (hk : kk < 2 ^ 30) (ht : x < n) : ∀ (k i : Nat) (s : S3) (md w : WS) (sm bn : Int64), i + k = kk + 1 → (wEq md w ∧ wOk w n A P ∧ (∀ s2 md2 bn2 i2 sm2, sm2 = oddF n P v x t (m - nI 1) kk k i w sm bn → am_E i_X2_findOdds 92 [some (.ref 0), some (.ref 9), some (.int (nI x)), some (.int (nI t)), some (.int v), some (.int (nI kk)), some (.int m), some (.long sm2), none, some (.long bn2), none, some (.int (nI i2)), none, none, none] [] (fC s2 md2 q W) K)) → am_E i_X2_findOdds 17 [some (.ref 0), some (.ref 9), some (.int (nI x)), some (.int (nI t)), some (.int v), some (.int (nI kk)), some (.int m), some (.long sm), none, some (.long bn), none, some (.int (nI i)), none, none, none] [] (fC s md q W) K := by
  intro k
  induction k with
  | zero =>
    intro i s md w sm bn hi hK
    obtain rfl : i = kk + 1 := by omega
    refine b_X2_findOdds [17, 92] ?_
    conv => whnf
    refine ⟨fun c21 => ?_, fun c21 => absurd (nI_lt (by omega) (by omega)) c21⟩
    exact hK.2.2 s md bn _ sm rfl
  | succ k ih =>
    intro i s md w sm bn hi hK
    have hmd := hK.1.ok hK.2.1
    refine b_X2_findOdds [17, 92] ?_
    conv => whnf
    refine ⟨fun c21 => absurd c21 (nI_nlt (by omega) (by omega)), fun c21 => ?_⟩
    conv => whnf
    have e1 : md.1 1 = w.1 1 := hK.1.1 1 (by decide)
    refine s_isBroken rfl ?_
    refine b_X2_findOdds [17, 92] ?_
    conv => whnf
    refine ⟨fun c32 => ?_, fun c32 => ?_⟩
    · conv => whnf
      rw [pk_sub (by omega)]
      refine s_pow (m := kk - i) (by omega) ?_
      refine b_X2_findOdds [17, 92] ?_
      conv => whnf
      refine ⟨(by rw [nI_add]; exact l_ne0 (by omega)), ?_⟩
      conv => whnf
      refine f_drop (s := s) (w := md) [1, 2, 3, 4, 5, 6, 7, 8] hmd ht rfl rfl rfl ⟨rfl, rfl, rfl, rfl, rfl, rfl, rfl, rfl, trivial⟩ (fun s2 hs2 => ?_)
      conv => whnf
      refine b_X2_findOdds [17, 92] ?_
      conv => whnf
      rw [e1] at c32
      have e6 : s2.2.2 = (blw w n (P x) v).2.2 := by rw [hs2.2, blw_cg (hK.1.wb hmd.2.1) hK.2.1.a8 (hmd.2.2.2 x ht).2.1]
      have h2 := ih (i + 1) s2 (wDrop md s2.2.2) (wDrop w (blw w n (P x) v).2.2) (sm + bn * itr (powI (m - nI 1)) (kk - i) 0 (Int64.ofNat 1)) (bn * (nI (kk - i)).toInt64 / (nI (i + 1)).toInt64) (by omega) ⟨by rw [e6]; exact wEq_drop hK.1 _, hK.2.1.drop, fun s3 md3 bn2 i2 sm2 h3 => hK.2.2 s3 md3 bn2 i2 sm2 (by rw [h3, oddF, if_neg (by rw [bI_0.mp c32]; decide)])⟩
      rw [← nI_add i 1] at h2
      rw [pk_sub (by omega)]
      exact h2
    · rw [e1] at c32
      exact hK.2.2 s md bn i sm (by rw [oddF, if_pos (bI_n0.mp c32)])
def oddS (w : WS) (n : Nat) (P : Nat → Nat) (v : Int32) (x t : Nat) (m : Int32) (kk : Nat) : Int64 := oddF n P v x t (m - nI 1) kk (kk + 1) 0 w (Int64.ofNat 0) (Int64.ofNat 1)
def oddT (m : Int32) (kk : Nat) : Int64 := itr (powI m) kk 0 (Int64.ofNat 1)
def oddG (a b : Int64) : Int64 := gcdF 200 (max1 a) b
theorem s_odd {w : WS} {n kk x t : Nat} {v : Int32} {A P : Nat → Nat} {q : F5} {md : WS} {s : S3} {m : Int32} (hw : wOk w n A P) (hk : kk < 2 ^ 30) (ht : x < n) {K : Option Value → AH → Prop} (hK : ∀ s2 md2, K none (fC s2 md2 (q.1, (oddS w n P v x t m kk / oddG (oddT m kk) (oddS w n P v x t m kk), oddT m kk / oddG (oddT m kk) (oddS w n P v x t m kk)), q.2.2) w)) : am_M i_X2_findOdds [.ref 0, .ref 9, .int (nI x), .int (nI t), .int v, .int (nI kk), .int m] (fC s md q w) K := by
  refine e_X2_findOdds [17] ?_
  conv => whnf
  refine f_copy (w := md) (v := w) [3, 4, 5, 6, 7, 8, 9, 10, 11, 12, 13, 14] rfl rfl rfl ⟨rfl, rfl, rfl, rfl, rfl, rfl, rfl, rfl, rfl, rfl, rfl, rfl, trivial⟩ (fun w2 hw2 => ?_)
  conv => whnf
  refine b_X2_findOdds [17] ?_
  conv => whnf
  refine l_odd hk ht (kk + 1) 0 s w2 w (Int64.ofNat 0) (Int64.ofNat 1) (by omega) ⟨hw2, hw, fun s2 md2 bn2 i2 sm2 e3 => ?_⟩
  refine b_X2_findOdds [17] ?_
  conv => whnf
  refine s_pow hk ?_
  refine b_X2_findOdds [17] ?_
  conv => whnf
  refine s_gcd ?_
  refine b_X2_findOdds [17] ?_
  conv => whnf
  refine ⟨(l_pos0 (gcdF_pos _ _ _ (max1_pos _))), ?_⟩
  conv => whnf
  refine ⟨(l_pos0 (gcdF_pos _ _ _ (max1_pos _))), ?_⟩
  conv => whnf
  rw [e3]
  exact hK s2 md2
theorem s_draw {w md : WS} {s : S3} {q : F5} {n : Nat} (h0 : 0 < n) (hn : n < 2 ^ 31) {K : Option Value → AH → Prop} (hK : K (some (.int (drw (lcg q.1) (nI n)))) (fC s md (lcg q.1, q.2) w)) : am_M i_X2_draw [.ref 0, .int (nI n)] (fC s md q w) K := by
  refine e_X2_draw [] ?_
  conv => whnf
  refine ⟨(by decide), ?_⟩
  conv => whnf
  refine ⟨fun c27 => absurd c27 (nI_nle h0 hn), fun c27 => ?_⟩
  conv => whnf
  refine ⟨(nI_ne0 h0 hn), ?_⟩
  conv => whnf
  refine b_X2_draw [] ?_
  conv => whnf
  exact hK
theorem s_draw_ {w md : WS} {s : S3} {q : F5} {n : Nat} {x : Int32} (hx : x = nI n) (h0 : 0 < n) (hn : n < 2 ^ 31) {K : Option Value → AH → Prop} (hK : K (some (.int (drw (lcg q.1) (nI n)))) (fC s md (lcg q.1, q.2) w)) : am_M i_X2_draw [.ref 0, .int x] (fC s md q w) K := by
  subst hx
  exact s_draw h0 hn hK
theorem l_yrd {w : WS} {n ys : Nat} {A P : Nat → Nat} {ab : Int64 × Int64} {sd : Int32} {y : Nat} {K : Option Value → AH → Prop} (h0 : 0 < n) : ∀ (k i : Nat) (s : S3) (md w1 : WS) (z : Int32 × Int32 × Int32), i + k = 6 → (wEq md w1 ∧ wOk w1 n A P ∧ ∀ s2 md2 r, r = (itr (yrD n P) k i (w1, z)).2 → am_E i_X2_drawYears 129 [some (.ref 0), some (.ref 9), some (.int (nI ys)), some (.int sd), some (.int (nI y)), some (.int (nI 6)), none, none] [] (fC s2 md2 (r.1, ab, r.2) w) K) → am_E i_X2_drawYears 42 [some (.ref 0), some (.ref 9), some (.int (nI ys)), some (.int sd), some (.int (nI y)), some (.int (nI i)), none, none] [] (fC s md (z.1, ab, z.2) w) K := by
  intro k
  induction k with
  | zero =>
    intro i s md w1 z hi hK
    obtain rfl : i = 6 := by omega
    refine b_X2_drawYears [42, 129] ?_
    conv => whnf
    refine ⟨fun c46 => ?_, fun c46 => absurd (by decide) c46⟩
    exact am_wk (by exact ⟨Or.inr rfl, Or.inr rfl, Or.inr rfl, Or.inr rfl, Or.inr rfl, Or.inr rfl, Or.inl rfl, Or.inl rfl, trivial⟩) (hK.2.2 s md z rfl)
  | succ k ih =>
    intro i s md w1 z hi hK
    have hmd := hK.1.ok hK.2.1
    refine b_X2_drawYears [42, 129] ?_
    conv => whnf
    refine ⟨fun c46 => absurd c46 (by exact nI_ge (by omega) (by omega)), fun c46 => ?_⟩
    conv => whnf
    refine s_draw_ (q := (z.1, ab, z.2)) (md := md) (s := s) (w := w) hmd.1 h0 (by have := hmd.2.1; omega) ?_
    generalize hz1 : lcg z.1 = z1
    refine b_X2_drawYears [42, 129] ?_
    conv => whnf
    refine s_draw (q := (z1, ab, z.2)) (md := md) (s := s) (w := w) (n := 30) (by omega) (by omega) ?_
    generalize hz2 : lcg z1 = z2
    generalize hv : drw z2 (nI 30) = v
    refine b_X2_drawYears [42, 129] ?_
    conv => whnf
    obtain ⟨x, hx, ex⟩ := drw_nI z1 h0 (by have := hmd.2.1; omega : n < 2 ^ 31)
    have ecl : (nI x).toNatClampNeg = x := nI_clamp (by have := hmd.2.1; omega)
    rw [ex]
    refine f_drop (s := s) (w := md) [1, 2, 3, 4, 5, 6, 7, 8] hmd hx rfl rfl rfl ⟨rfl, rfl, rfl, rfl, rfl, rfl, rfl, rfl, trivial⟩ (fun s2 hs2 => ?_)
    conv => whnf
    refine b_X2_drawYears [42, 129] ?_
    conv => whnf
    refine s_brokenCount (s := s2) ⟨rfl, rfl⟩ ?_
    refine b_X2_drawYears [42, 129] ?_
    conv => whnf
    refine s_jumpsIn (s := s2) (w := wDrop md s2.2.2) (n := n) (r := fun i => 4 + i) ⟨rfl, rfl⟩ ⟨rfl, rfl, rfl, rfl, rfl, rfl⟩ hmd.1 hmd.2.1 ?_
    refine b_X2_drawYears [42, 129] ?_
    conv => whnf
    have hb : blw md n (P x) (v + nI 1) = blw w1 n (P x) (v + nI 1) := blw_cg (hK.1.wb hmd.2.1) hK.2.1.a8 (hmd.2.2.2 x hx).2.1 _
    rw [hb] at hs2
    have e7 : itr (fun t x => x + fJump ((wDrop md s2.2.2).2 0 t) (s2.1 t)) n 0 (nI 0) = itr (fun t y => y + fJump (w1.2 0 t) ((blw w1 n (P x) (v + nI 1)).1 t)) n 0 (nI 0) := by
      refine itr_cg _ _ _ (fun j _ hj s => ?_)
      have := hmd.2.1
      rw [hs2.1 j (by omega)]
      show s + fJump (md.2 0 j) _ = _
      rw [hK.1.2 0 (by decide) j (by omega)]
    have e8 : itr (yrD n P) (k + 1) i (w1, z) = itr (yrD n P) k (i + 1) (wDrop w1 s2.2.2, z2, z.2.1 + fBc s2.2.2, z.2.2 + itr (fun t x => x + fJump ((wDrop md s2.2.2).2 0 t) (s2.1 t)) n 0 (nI 0)) := by
      rw [e7, itr, yrD]
      simp only [hz1, hz2, hv, ex, ecl, hs2.2]
    have h2 := ih (i + 1) s2 (wDrop md s2.2.2) (wDrop w1 s2.2.2) (z2, z.2.1 + fBc s2.2.2, z.2.2 + itr (fun t x => x + fJump ((wDrop md s2.2.2).2 0 t) (s2.1 t)) n 0 (nI 0)) (by omega) ⟨wEq_drop hK.1 _, hK.2.1.drop, fun s3 md3 r hr => hK.2.2 s3 md3 r (by rw [hr, e8])⟩
    rw [← nI_add i 1] at h2
    exact am_wk (by exact ⟨Or.inr rfl, Or.inr rfl, Or.inr rfl, Or.inr rfl, Or.inr rfl, Or.inr rfl, Or.inl rfl, Or.inl rfl, trivial⟩) h2
