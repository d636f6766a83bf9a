/-! SPECS of the model: a valley -/
def posF (f : Nat → Int32) : Nat → Nat
  | 0 => 0
  | k + 1 => posF f k + dgN (f (posF f k)) + 2
def vlI (q : Nat) (f X Y Z : Nat → Int32) (c : Nat) : Prop := (∀ j, j < c → X j = f (posF f j) ∧ Y j = nI (posF f j) ∧ TZ f (f (posF f j)) (posF f j + 1) (3 * j) Z ∧ posF f j < q ∧ dgN (f (posF f j)) ≠ 0 ∧ innF q f (dgN (f (posF f j))) (posF f j + 1) = none) ∧ 3 * c ≤ posF f c ∧ posF f c ≤ q
theorem vlI_0 (q : Nat) (f X Y Z : Nat → Int32) : vlI q f X Y Z 0 := ⟨fun j hj => by omega, by show 3 * 0 ≤ 0; omega, by show 0 ≤ q; omega⟩
theorem sm_none {q s : Nat} {f : Nat → Int32} (h : smF q f s = none) : s < q ∧ dgN (f s) ≠ 0 ∧ innF q f (dgN (f s)) (s + 1) = none ∧ s + 1 + dgN (f s) < q ∧ f (s + 1 + dgN (f s)) = nI 59 := by
  unfold smF at h
  by_cases c : q ≤ s
  · rw [if_pos c] at h; cases h
  · rw [if_neg c] at h
    by_cases d : dgN (f s) = 0
    · rw [if_pos d] at h; cases h
    · rw [if_neg d] at h
      cases e : innF q f (dgN (f s)) (s + 1) with
      | some i => rw [e] at h; cases h
      | none =>
        rw [e] at h
        simp only [] at h
        by_cases g : nxF q f (s + 1 + dgN (f s)) = nI 59
        · unfold nxF at g
          by_cases y : s + 1 + dgN (f s) < q
          · rw [if_pos y] at g; exact ⟨by omega, d, rfl, y, g⟩
          · rw [if_neg y] at g; exact absurd g (by decide)
        · rw [if_neg g] at h; cases h
theorem TZ.cg {f : Nat → Int32} {b : Int32} {i p : Nat} {Z Z2 : Nat → Int32} (h : TZ f b i p Z) (e : ∀ j, j < p + 3 → Z2 j = Z j) : TZ f b i p Z2 := by
  unfold TZ at h ⊢
  rw [e p (by omega), e (p + 1) (by omega), e (p + 2) (by omega)]
  exact h
theorem vlI.s {q : Nat} {f X Y Z Z2 : Nat → Int32} {c : Nat} (h : vlI q f X Y Z c) (hs : smF q f (posF f c) = none) (hz : ∀ j, j < 3 * c → Z2 j = Z j) (ht : TZ f (f (posF f c)) (posF f c + 1) (3 * c) Z2) : vlI q f (upd X c (f (posF f c))) (upd Y c (nI (posF f c))) Z2 (c + 1) := by
  obtain ⟨h1, h2, h3⟩ := h
  obtain ⟨g1, g2, g3, g4, -⟩ := sm_none hs
  refine ⟨fun j hj => ?_, ?_, ?_⟩
  · by_cases e : j = c
    · subst e
      exact ⟨if_pos rfl, if_pos rfl, ht, g1, g2, g3⟩
    · obtain ⟨a1, a2, a3, a4⟩ := h1 j (by omega)
      exact ⟨(if_neg e).trans a1, (if_neg e).trans a2, a3.cg (fun i hi => hz i (by omega)), a4⟩
  · show 3 * (c + 1) ≤ posF f c + dgN (f (posF f c)) + 2
    omega
  · show posF f c + dgN (f (posF f c)) + 2 ≤ q
    omega
theorem mis_sm {q : Nat} {f : Nat → Int32} {k s : Nat} (h : s < q) : misF q f (k + 1) s = match smF q f s with | some p => nI p | none => misF q f k (s + dgN (f s) + 2) := by
  rw [misF, smF, if_neg (show ¬ q ≤ s by omega), if_neg (show ¬ q ≤ s by omega)]
  by_cases d : dgN (f s) = 0
  · rw [if_pos d, if_pos d]
  · rw [if_neg d, if_neg d]
    cases e : innF q f (dgN (f s)) (s + 1) with
    | some i => rfl
    | none =>
      simp only []
      by_cases y : q ≤ s + 1 + dgN (f s)
      · have e2 : nxF q f (s + 1 + dgN (f s)) = Int32.ofInt (-1) := if_neg (by omega)
        rw [if_pos y, e2, if_neg (by decide)]
      · have e2 : nxF q f (s + 1 + dgN (f s)) = f (s + 1 + dgN (f s)) := if_pos (by omega)
        rw [if_neg y, e2]
        by_cases g : f (s + 1 + dgN (f s)) = nI 59
        · rw [if_pos g, if_pos g]
          rw [show s + 1 + dgN (f s) + 1 = s + dgN (f s) + 2 by omega]
        · rw [if_neg g, if_neg g]
theorem mis_end {q : Nat} {f : Nat → Int32} {k s : Nat} (h : q ≤ s) : misF q f (k + 1) s = Int32.ofInt (-9) := by rw [misF, if_pos h]
/-- the first misfit, told from a statement on -/
def mvF (q : Nat) (f : Nat → Int32) (k c : Nat) : Int32 := if q = 0 then nI 0 else misF q f k (posF f c)
theorem mv_some {q : Nat} {f : Nat → Int32} {k c p : Nat} (hc : posF f c ≤ q) (hq : ¬ (q ≤ posF f c ∧ c ≠ 0)) (h : smF q f (posF f c) = some p) : mvF q f (k + 1) c = nI p := by
  unfold mvF
  by_cases z : q = 0
  · rw [if_pos z]
    subst z
    have h0 : posF f c = 0 := by omega
    rw [h0] at h
    unfold smF at h
    rw [if_pos (by omega)] at h
    cases h; rfl
  · rw [if_neg z]
    have : posF f c < q := by
      by_cases y : c = 0
      · subst y; show 0 < q; omega
      · have : ¬ q ≤ posF f c := fun x => hq ⟨x, y⟩
        omega
    rw [mis_sm this, h]
theorem mv_none {q : Nat} {f : Nat → Int32} {k c : Nat} (h : smF q f (posF f c) = none) : mvF q f (k + 1) c = mvF q f k (c + 1) := by
  have g := (sm_none h).1
  unfold mvF
  rw [if_neg (by omega), if_neg (by omega), mis_sm g, h]
  rfl
theorem sm_le {q s p : Nat} {f : Nat → Int32} (hs : s ≤ q) (h : smF q f s = some p) : p ≤ q := by
  unfold smF at h
  by_cases c : q ≤ s
  · rw [if_pos c] at h; cases h; omega
  · rw [if_neg c] at h
    by_cases d : dgN (f s) = 0
    · rw [if_pos d] at h; cases h; omega
    · rw [if_neg d] at h
      have hin : ∀ k i, i ≤ q → (∀ j, innF q f k i = some j → j ≤ q) ∧ (innF q f k i = none → i + k ≤ q) := by
        intro k
        induction k with
        | zero => exact fun i hi => ⟨fun j e => (by cases e), fun _ => hi⟩
        | succ k ih =>
          intro i hi
          rw [innF]
          by_cases a : q ≤ i
          · rw [if_pos a]; exact ⟨fun j e => (by cases e; omega), fun e => (by cases e)⟩
          · rw [if_neg a]
            by_cases b : isD (f i) = true
            · rw [if_pos b]
              obtain ⟨h1, h2⟩ := ih (i + 1) (by omega)
              exact ⟨h1, fun e => (by have := h2 e; omega)⟩
            · rw [if_neg b]; exact ⟨fun j e => (by cases e; omega), fun e => (by cases e)⟩
      obtain ⟨h1, h2⟩ := hin (dgN (f s)) (s + 1) (by omega)
      cases e : innF q f (dgN (f s)) (s + 1) with
      | some i => rw [e] at h; cases h; exact h1 _ e
      | none =>
        rw [e] at h
        simp only [] at h
        by_cases g : nxF q f (s + 1 + dgN (f s)) = nI 59
        · rw [if_pos g] at h; cases h
        · rw [if_neg g] at h; cases h; have := h2 e; omega
theorem ml_v1 {m : MS} {s : S3} {q : Nat} {f : Nat → Int32} (ht : tpe m q f) {K : Option Value → AH → Prop} : ∀ (k c : Nat) (X Y Z : Nat → Int32), q < posF f c + k → vlI q f X Y Z c → (∀ p c2 X2 Y2 Z2, p ≤ 96 → mvF q f k c = nI p → am_E i_X12_valley 60 [some (.ref 0), some (.int (nI 0)), none] [] (mC (pM m (p) (c2) (X2) (Y2) (Z2)) s.1 s.2.2) K) → (mvF q f k c = Int32.ofInt (-9) → ∀ c2 X2 Y2 Z2, vlI q f X2 Y2 Z2 c2 → posF f c2 = q → 1 ≤ c2 → am_E i_X12_valley 60 [some (.ref 0), some (.int (nI 1)), none] [] (mC (pM m (q) (c2) (X2) (Y2) (Z2)) s.1 s.2.2) K) → am_E i_X12_valley 12 [some (.ref 0), some (.int (nI 1)), none] [] (mC (pM m (posF f c) (c) (X) (Y) (Z)) s.1 s.2.2) K := by
  obtain ⟨ht1, ht2, ht3⟩ := ht
  intro k
  induction k with
  | zero =>
    intro c X Y Z hk hv hF hT
    have := hv.2.2
    omega
  | succ k ih =>
    intro c X Y Z hk hv hF hT
    obtain ⟨hv1, hv2, hv3⟩ := hv
    have hc : c ≤ 32 := by omega
    refine b_X12_valley [12, 60] ?_
    conv => whnf
    refine ⟨fun c13 => absurd c13 (show ¬ nI 1 = 0 by decide), fun c13 => ?_⟩
    conv => whnf
    refine ⟨fun c24 => ?_, fun c24 => ?_⟩
    · refine b_X12_valley [12, 60] ?_
      conv => whnf
      have hq9 : ¬ (q ≤ posF f c ∧ c ≠ 0) := fun z => absurd ((nI_ltI (a := posF f c) (b := q) (by omega) (by omega)).mp (by rw [← ht1]; exact c24)) (by omega)
      refine m_stm (m := m) (s := s) (c := c) (X := X) (Y := Y) (Z := Z) (st := posF f c) ⟨ht1, ht2, ht3⟩ (by omega) (by omega) (fun e Z2 hz htz => ?_) (fun p9 X2 Y2 Z2 e => ?_)
      rotate_left
      · refine b_X12_valley [12, 60] ?_
        conv => whnf
        refine ⟨fun c45 => ?_, fun c45 => absurd (show nI 0 = 0 by decide) c45⟩
        refine b_X12_valley [12, 60] ?_
        conv => whnf
        have h9 := hF p9 c X2 Y2 Z2 (by have := sm_le (by omega) e; omega) (mv_some hv3 hq9 e)
        rw [show (pM m p9 c X2 Y2 Z2).1 15 + nI 0 = nI c from nI_add c 0]
        refine b_X12_valley [12, 60] ?_
        conv => whnf
        refine ⟨fun c13 => ?_, fun c13 => absurd (show nI 0 = 0 by decide) c13⟩
        exact h9
      refine b_X12_valley [12, 60] ?_
      conv => whnf
      refine ⟨fun c45 => absurd c45 (show ¬ nI 1 = 0 by decide), fun c45 => ?_⟩
      conv => whnf
      refine b_X12_valley [12, 60] ?_
      conv => whnf
      have h9 := ih (c + 1) (upd X c (f (posF f c))) (upd Y c (nI (posF f c))) Z2 (by show q < posF f c + dgN (f (posF f c)) + 2 + k; omega) (vlI.s ⟨hv1, hv2, hv3⟩ e hz htz) (fun p c2 X2 Y2 Z2 hp e2 => hF p c2 X2 Y2 Z2 hp (by rw [mv_none e]; exact e2)) (fun e2 => hT (by rw [mv_none e]; exact e2))
      unfold pM at h9
      rw [← nI_add c 1] at h9
      exact h9
    · conv => whnf
      refine ⟨fun c31 => ?_, fun c31 => ?_⟩
      · conv => whnf
        have hq9 : ¬ (q ≤ posF f c ∧ c ≠ 0) := fun z => z.2 ((nI_eq (b := 0) (by omega) (by decide)).mp c31)
        refine m_stm (m := m) (s := s) (c := c) (X := X) (Y := Y) (Z := Z) (st := posF f c) ⟨ht1, ht2, ht3⟩ (by omega) (by omega) (fun e Z2 hz htz => ?_) (fun p9 X2 Y2 Z2 e => ?_)
        rotate_left
        · refine b_X12_valley [12, 60] ?_
          conv => whnf
          refine ⟨fun c45 => ?_, fun c45 => absurd (show nI 0 = 0 by decide) c45⟩
          refine b_X12_valley [12, 60] ?_
          conv => whnf
          have h9 := hF p9 c X2 Y2 Z2 (by have := sm_le (by omega) e; omega) (mv_some hv3 hq9 e)
          rw [show (pM m p9 c X2 Y2 Z2).1 15 + nI 0 = nI c from nI_add c 0]
          refine b_X12_valley [12, 60] ?_
          conv => whnf
          refine ⟨fun c13 => ?_, fun c13 => absurd (show nI 0 = 0 by decide) c13⟩
          exact h9
        refine b_X12_valley [12, 60] ?_
        conv => whnf
        refine ⟨fun c45 => absurd c45 (show ¬ nI 1 = 0 by decide), fun c45 => ?_⟩
        conv => whnf
        refine b_X12_valley [12, 60] ?_
        conv => whnf
        have h9 := ih (c + 1) (upd X c (f (posF f c))) (upd Y c (nI (posF f c))) Z2 (by show q < posF f c + dgN (f (posF f c)) + 2 + k; omega) (vlI.s ⟨hv1, hv2, hv3⟩ e hz htz) (fun p c2 X2 Y2 Z2 hp e2 => hF p c2 X2 Y2 Z2 hp (by rw [mv_none e]; exact e2)) (fun e2 => hT (by rw [mv_none e]; exact e2))
        unfold pM at h9
        rw [← nI_add c 1] at h9
        exact h9
      · have g1 : q ≤ posF f c := by
          have : ¬ posF f c < q := fun z => c24 (by show nI (posF f c) < m.1 13; rw [ht1]; exact nI_lt z (by omega))
          omega
        have g2 : 1 ≤ c := by
          have : c ≠ 0 := fun z => c31 (by subst z; rfl)
          omega
        have g3 : posF f c = q := by omega
        have h9 := hT (by unfold mvF; rw [if_neg (by omega), mis_end g1]) c X Y Z ⟨hv1, hv2, hv3⟩ g3 g2
        rw [← g3] at h9
        exact h9
theorem neg_le {s : Nat} (h : s ≤ 200) : Int32.ofInt (-2000) - nI s ≤ 0 := by
  rw [Int32.le_iff_toInt_le, Int32.toInt_sub, show (nI s).toInt = (s : Int) from Int32.toInt_ofNat_of_lt (by omega), show (Int32.ofInt (-2000)).toInt = -2000 by decide, show Int32.toInt 0 = 0 by decide]
  simp only [Int.bmod]
  omega
theorem neg_le1 {s : Nat} (h : s ≤ 200) : Int32.ofInt (-1000) - nI s ≤ 0 := by
  rw [Int32.le_iff_toInt_le, Int32.toInt_sub, show (nI s).toInt = (s : Int) from Int32.toInt_ofNat_of_lt (by omega), show (Int32.ofInt (-1000)).toInt = -1000 by decide, show Int32.toInt 0 = 0 by decide]
  simp only [Int.bmod]
  omega
theorem ml_v2 {q c : Nat} {f : Nat → Int32} {M0 : MS} (hq : q ≤ 96) (h15 : M0.1 15 = nI c) (hv : vlI q f (M0.2 6) (M0.2 7) (M0.2 8) c) (hcq : posF f c = q) (hc1 : 1 ≤ c) {K : Option Value → AH → Prop} : ∀ (k i n : Nat) (w : WS) (M : MS) (s : S3), i + k = c → wGn w n → mR M w → vW M M0 → ((comF q f (k + (q + 1 - c)) w n i (posF f i)).1 = nI c → ∀ m2, (comF q f (k + (q + 1 - c)) w n i (posF f i)).2 = some m2 → ∀ (M3 : MS) (s3 : S3), mR M3 m2 → vW M3 M0 → K (some (.int (comF q f (k + (q + 1 - c)) w n i (posF f i)).1)) (mC (setI M3 20 (nI 0)) s3.1 s3.2.2)) → ((comF q f (k + (q + 1 - c)) w n i (posF f i)).1 ≤ 0 → (comF q f (k + (q + 1 - c)) w n i (posF f i)).2 = none → ∀ (M3 : MS) (s3 : S3) (z : Int32), vW M3 M0 → K (some (.int (comF q f (k + (q + 1 - c)) w n i (posF f i)).1)) (mC (kM (ldM M3 (40 * 1)) (M3.2 9) (nI 0) z) s3.1 s3.2.2)) → am_E i_X12_valley 86 [some (.ref 0), some (.int (nI 1)), some (.int (nI i))] [] (mC M s.1 s.2.2) K := by
  obtain ⟨hv1, hv2, hv3⟩ := hv
  intro k
  induction k with
  | zero =>
    intro i n w M s hi hw hm hM hS hN
    obtain rfl : i = c := by omega
    have e4 : comF q f (0 + (q + 1 - i)) w n i (posF f i) = (nI i, some w) := by
      obtain ⟨x, hx⟩ : ∃ x, 0 + (q + 1 - i) = x + 1 := ⟨q - i, by omega⟩
      rw [hx, comF, if_pos (by omega)]
    rw [e4] at hS hN
    have e15 : M.1 15 = nI i := hM.1.trans h15
    refine b_X12_valley [86] ?_
    conv => whnf
    refine ⟨fun c91 => ?_, fun c91 => absurd (by show M.1 15 ≤ nI i; rw [e15]; exact nI_le (Nat.le_refl _) (by omega)) c91⟩
    refine b_X12_valley [86] ?_
    conv => whnf
    have h9 := hS rfl w rfl M s hm hM
    rw [← e15] at h9
    exact h9
  | succ k ih =>
    intro i n w M s hi hw hm hM hS hN
    have e15 : M.1 15 = nI c := hM.1.trans h15
    obtain ⟨g1, g2, g3, g4, g5, g6⟩ := hv1 i (by omega)
    obtain ⟨A, P, hok⟩ := hw.1
    have hX : mX M w n A P := ⟨hm, hok⟩
    have e6 : M.2 6 = M0.2 6 := hM.2.2.2.2.2.2.2.1
    have e7 : M.2 7 = M0.2 7 := hM.2.2.2.2.2.2.2.2.1
    have e8 : M.2 8 = M0.2 8 := hM.2.2.2.2.2.2.2.2.2.1
    have ef : k + 1 + (q + 1 - c) = (k + (q + 1 - c)) + 1 := by omega
    rw [ef] at hS hN
    refine b_X12_valley [86] ?_
    conv => whnf
    refine ⟨fun c91 => absurd c91 (by show ¬ M.1 15 ≤ nI i; rw [e15]; exact nI_ge (by omega) (by omega)), fun c91 => ?_⟩
    conv => whnf
    refine m_com (c := i) (st := posF f i) (q := q) (f := f) hX hw.2.2.2 ⟨hq, g5, g6⟩ (by omega) (by rw [e6, g1]) (by rw [e8]; exact g3) (fun y M2 s2 vv m2 => ?_) (fun y M2 vv => ?_)
    rotate_left
    · have e72 : M2.2 7 = M0.2 7 := (vv.tr hM).2.2.2.2.2.2.2.2.1
      have e4 : comF q f ((k + (q + 1 - c)) + 1) w n i (posF f i) = (Int32.ofInt (-2000) - nI (posF f i), none) := by rw [comF, if_neg (by omega), if_neg y]
      rw [e4] at hN
      have hle : Int32.ofInt (-2000) - nI (posF f i) ≤ 0 := neg_le (by omega)
      refine b_X12_valley [86] ?_
      conv => whnf
      refine ⟨fun c99 => ?_, fun c99 => absurd (show nI 0 = 0 by decide) c99⟩
      refine b_X12_valley [86] ?_
      conv => whnf
      refine m_load (m := M2) (s := s) (b := 1) (by omega) (fun z => ?_)
      refine b_X12_valley [86] ?_
      conv => whnf
      refine ⟨(vp_in_nI (show i < 48 by omega) (by decide)), ?_⟩
      rw [nI_clamp (show i < 2 ^ 31 by omega)]
      conv => whnf
      have h9 := hN hle rfl M2 s z (vv.tr hM)
      rw [show nI (posF f i) = (kM (ldM M2 (40 * 1)) (M2.2 9) (nI 0) z).2 7 i from by rw [show (kM (ldM M2 (40 * 1)) (M2.2 9) (nI 0) z).2 7 = M2.2 7 from rfl, e72, g2]] at h9
      exact h9
    have e4 : comF q f ((k + (q + 1 - c)) + 1) w n i (posF f i) = comF q f (k + (q + 1 - c)) (actF w n (nI q) f (posF f i)) (actN n f (posF f i)) (i + 1) (posF f (i + 1)) := by
      rw [comF, if_neg (by omega), if_pos y]
      rfl
    rw [e4] at hS hN
    refine b_X12_valley [86] ?_
    conv => whnf
    refine ⟨fun c99 => absurd c99 (show ¬ nI 1 = 0 by decide), fun c99 => ?_⟩
    conv => whnf
    refine b_X12_valley [86] ?_
    conv => whnf
    have h9 := ih (i + 1) (actN n f (posF f i)) (actF w n (nI q) f (posF f i)) M2 s2 (by omega) (hw.act y) m2 (vv.tr hM) hS hN
    rw [← nI_add i 1] at h9
    exact h9
theorem mr_v {a : Ab} {m m2 : MS} {w : WS} (h : MR a m) (hw : mR m2 w) (e24 : m2.1 24 = m.1 24) (e13 : m2.1 13 = nI 0) (e17 : m2.1 17 = m.1 17) (e20 : m2.1 20 = m.1 20) (f0 : m2.2 0 = m.2 0) (f11 : m2.2 11 = m.2 11) (f9 : ∀ j, (j < 40 ∨ 76 ≤ j) → m2.2 9 j = m.2 9 j) : MR (letA (nowA a w) 0 (a.2.1 2)) m2 := by
  obtain ⟨a1, a2, a3, a4, a5, a6, a7⟩ := h
  have e2 : ∀ j, j ≠ 0 → va_up a.1 0 w j = a.1 j := fun j hj => if_neg hj
  refine ⟨hw, ?_, ⟨e24.trans a3.1, ?_⟩, ⟨e13, fun j hj => absurd (show j < 0 from hj) (by omega)⟩, ⟨e17.trans a5.1, fun z j hj => ?_⟩, e20.trans a6, fun k hk j hj => ?_⟩
  · rw [f0]; exact a2
  · rw [f11]; exact a3.2
  · show m2.2 9 (40 * 0 + j) = pkW (va_up a.1 0 w 1) j
    rw [f9 _ (by omega), e2 1 (by omega)]
    exact a5.2 z j hj
  · show m2.2 9 (40 * (3 + k) + j) = pkW (va_up a.1 0 w (2 + k)) j
    rw [f9 _ (by omega), e2 _ (by omega)]
    exact a7 k hk j hj
theorem nowA_same (a : Ab) : nowA a (a.1 0) = a := by
  have : va_up a.1 0 (a.1 0) = a.1 := by
    funext j
    unfold va_up
    by_cases q : j = 0
    · rw [if_pos q, q]
    · rw [if_neg q]
  unfold nowA
  rw [this]
theorem mR.p {m : MS} {w : WS} (h : mR m w) (i c : Nat) (X Y Z : Nat → Int32) : mR (setI (pM m i c X Y Z) 13 (nI 0)) w := ⟨fun j hj => by
  have : j = 0 ∨ j = 1 ∨ j = 2 ∨ j = 3 := by omega
  rcases this with rfl | rfl | rfl | rfl
  · exact h.1 0 (by decide)
  · exact h.1 1 (by decide)
  · exact h.1 2 (by decide)
  · exact h.1 3 (by decide), fun j hj => by
  have : j = 0 ∨ j = 1 ∨ j = 2 ∨ j = 3 := by omega
  rcases this with rfl | rfl | rfl | rfl
  · exact h.2 0 (by decide)
  · exact h.2 1 (by decide)
  · exact h.2 2 (by decide)
  · exact h.2 3 (by decide)⟩
theorem m_valley {a : Ab} {m : MS} {s : S3} {w2 : WS} (hI : Inv a) (hM : MR a m) (hw2 : wEq w2 (a.1 0)) {K : Option Value → AH → Prop} (h1 : ¬ (if a.2.2 2 = 0 then nI 0 else misF (a.2.2 2) (a.2.1 2) (a.2.2 2 + 1) 0) = Int32.ofInt (-9) → ∀ m2 (s2 : S3), MR (vE a (Int32.ofInt (-1000) - (if a.2.2 2 = 0 then nI 0 else misF (a.2.2 2) (a.2.1 2) (a.2.2 2 + 1) 0))) m2 → K (some (.int (Int32.ofInt (-1000) - (if a.2.2 2 = 0 then nI 0 else misF (a.2.2 2) (a.2.1 2) (a.2.2 2 + 1) 0)))) (mC m2 s2.1 s2.2.2)) (h2 : (if a.2.2 2 = 0 then nI 0 else misF (a.2.2 2) (a.2.1 2) (a.2.2 2 + 1) 0) = Int32.ofInt (-9) → (comF (a.2.2 2) (a.2.1 2) (a.2.2 2 + 1) w2 (nO (a.1 0)) 0 0).2 = none → ∀ m2 (s2 : S3), MR (vE a (comF (a.2.2 2) (a.2.1 2) (a.2.2 2 + 1) w2 (nO (a.1 0)) 0 0).1) m2 → K (some (.int (comF (a.2.2 2) (a.2.1 2) (a.2.2 2 + 1) w2 (nO (a.1 0)) 0 0).1)) (mC m2 s2.1 s2.2.2)) (h3 : (if a.2.2 2 = 0 then nI 0 else misF (a.2.2 2) (a.2.1 2) (a.2.2 2 + 1) 0) = Int32.ofInt (-9) → ∀ x2, (comF (a.2.2 2) (a.2.1 2) (a.2.2 2 + 1) w2 (nO (a.1 0)) 0 0).2 = some x2 → ∀ m2 (s2 : S3), (∀ w3, wEq w3 x2 → MR (vE (nowA a w3) (comF (a.2.2 2) (a.2.1 2) (a.2.2 2 + 1) w2 (nO (a.1 0)) 0 0).1) m2) → K (some (.int (comF (a.2.2 2) (a.2.1 2) (a.2.2 2 + 1) w2 (nO (a.1 0)) 0 0).1)) (mC m2 s2.1 s2.2.2)) : am_M i_X12_valley [.ref 0] (mC m s.1 s.2.2) K := by
  have hq := hI.2.2.2.2.1
  have hte : tpe m (a.2.2 2) (a.2.1 2) := ⟨hM.2.2.2.1.1, hq, hM.2.2.2.1.2⟩
  have hwn : wGn w2 (nO (a.1 0)) := hI.1.n.eq hw2
  have hmw : mR m w2 := hM.1.w2 hw2
  refine e_X12_valley [12] ?_
  conv => whnf
  refine ml_v1 (m := m) (s := s) hte (a.2.2 2 + 1) 0 (m.2 6) (m.2 7) (m.2 8) (by show a.2.2 2 < 0 + (a.2.2 2 + 1); omega) (vlI_0 _ _ _ _ _) (fun p c2 X2 Y2 Z2 hp e => ?_) (fun e c2 X2 Y2 Z2 hv hpos h1c => ?_)
  · have e : (if a.2.2 2 = 0 then nI 0 else misF (a.2.2 2) (a.2.1 2) (a.2.2 2 + 1) 0) = nI p := e
    rw [e] at h1
    have h9 := h1 (by
      intro z
      have : nI p = Int32.ofInt (-9) → False := fun z => absurd ((nI_pos (by omega) : ¬ nI p < 0)) (by rw [z]; decide)
      exact this z) (setI (pM m p c2 X2 Y2 Z2) 13 (nI 0)) s (by
      unfold vE
      rw [if_pos (neg_le1 (by omega))]
      have h5 := mr_v hM (hM.1.p p c2 X2 Y2 Z2) rfl rfl rfl rfl rfl rfl (fun _ _ => rfl)
      rw [nowA_same] at h5
      exact h5)
    refine b_X12_valley [60, 86] ?_
    conv => whnf
    refine ⟨fun c66 => ?_, fun c66 => absurd (show nI 0 = 0 by decide) c66⟩
    conv => whnf
    exact h9
  · have e : (if a.2.2 2 = 0 then nI 0 else misF (a.2.2 2) (a.2.1 2) (a.2.2 2 + 1) 0) = Int32.ofInt (-9) := e
    have hc32 : c2 ≤ 32 := by have := hv.2.1; omega
    have ef : c2 + (a.2.2 2 + 1 - c2) = a.2.2 2 + 1 := by have := hv.2.1; omega
    have HS := h3 e
    have HN := h2 e
    refine b_X12_valley [60, 86] ?_
    conv => whnf
    refine ⟨fun c66 => absurd c66 (show ¬ nI 1 = 0 by decide), fun c66 => ?_⟩
    refine b_X12_valley [60, 86] ?_
    conv => whnf
    refine m_save (m := setI (pM m (a.2.2 2) c2 X2 Y2 Z2) 13 (nI 0)) (s := s) (b := 1) (by omega) (fun F z k1 k2 => ?_)
    refine b_X12_valley [60, 86] ?_
    conv => whnf
    refine ml_v2 (M0 := kM (setI (pM m (a.2.2 2) c2 X2 Y2 Z2) 13 (nI 0)) F (nI 1) z) hq rfl hv hpos h1c c2 0 (nO (a.1 0)) w2 _ s (by omega) hwn ((hmw.p _ _ _ _ _).kM _ _ _) (vW.rf _) (fun ec x2 ex M3 s3 hm3 hv3 => ?_) (fun ele en M3 s3 z3 hv3 => ?_)
    · rw [ef] at ec ex ⊢
      refine HS x2 ex (setI M3 20 (nI 0)) s3 (fun w3 hw3 => ?_)
      unfold vE
      rw [if_neg (by show ¬ (comF (a.2.2 2) (a.2.1 2) (a.2.2 2 + 1) w2 (nO (a.1 0)) 0 (posF (a.2.1 2) 0)).1 ≤ 0; rw [ec]; exact v_b h1c (by omega))]
      obtain ⟨u15, u13, u24, u17, u20, t0, t5, t6, t7, t8, t9, t11⟩ := hv3
      have h5 : MR (letA (nowA a w3) 0 (a.2.1 2)) M3 := mr_v hM (hm3.w2 hw3) u24 u13 u17 u20 t0 t11 (fun j hj => by rw [t9]; exact k2 j (by omega))
      exact mr_fg h5 (Nat.zero_le _)
    · rw [ef] at ele en ⊢
      refine HN en _ s3 ?_
      unfold vE
      rw [if_pos (show (comF (a.2.2 2) (a.2.1 2) (a.2.2 2 + 1) w2 (nO (a.1 0)) 0 0).1 ≤ 0 from ele)]
      obtain ⟨u15, u13, u24, u17, u20, t0, t5, t6, t7, t8, t9, t11⟩ := hv3
      have hk : kpt (M3.2 9) 1 (a.1 0) := fun j hj => by
        rw [t9]
        exact (k1 j hj).trans (pkM_eq (hM.1.p _ _ _ _ _) hj)
      have h5 := mr_v (m2 := kM (ldM M3 (40 * 1)) (M3.2 9) (nI 0) z3) hM ((ld_mR hk).kM _ _ _) u24 u13 u17 u20 t0 t11 (fun j hj => by show M3.2 9 j = _; rw [t9]; exact k2 j (by omega))
      rw [nowA_same] at h5
      exact h5
