/-! SPECS: what a wire's methods answer and do; a wave's drop; the best so far; the row -/
theorem l_walkLen {h : AH} {wa : Nat} {w : WS} {r : Nat → Nat} (hw : wAt h wa w r) {n nl : Nat} {K : Option Value → AH → Prop} (hl : w.1 0 - nI 1 = nI nl) (hn8 : n ≤ 8) (hnl : nl + 1 = n) (hat : ∀ j, j < n → vp_in (w.2 3 j) 8) : ∀ (k i : Nat) (x : Int32) , i + k = nl → (K (some (.int (itr (fun i x => x + fWay w i) k i x))) h) → am_E i_X10_walkLength 4 [some (.ref wa), some (.int x), some (.int (nI i))] [] h K := by
  intro k
  induction k with
  | zero =>
    intro i x  hi hK
    obtain rfl : i = nl := by omega
    refine b_X10_walkLength [4] ?_
    conv => whnf
    refine am_hgn hw.1 ?_
    conv => whnf
    refine ⟨fun c11 => ?_, fun c11 => absurd (by rw [hl]; exact nI_le (Nat.le_refl _) (by omega)) c11⟩
    refine b_X10_walkLength [4] ?_
    conv => whnf
    exact hK
  | succ k ih =>
    intro i x  hi hK
    refine b_X10_walkLength [4] ?_
    conv => whnf
    refine am_hgn hw.1 ?_
    conv => whnf
    refine ⟨fun c11 => absurd c11 (by rw [hl]; exact nI_ge (by omega) (by omega)), fun c11 => ?_⟩
    conv => whnf
    refine am_hgn hw.1 ?_
    conv => whnf
    refine s_wayOver hw hn8 hat (by omega) ?_
    refine b_X10_walkLength [4] ?_
    conv => whnf
    have h2 := ih (i + 1) (x + fWay w i)  (by omega) hK
    rw [← nI_add i 1] at h2
    exact h2
def fWalk (w : WS) (n : Nat) : Int32 := itr (fun i x => x + fWay w i) (n - 1) 0 (nI 0)
theorem nI_m (n : Nat) (h : 0 < n) : nI n - nI 1 = nI (n - 1) := by rw [pk_sub h]
theorem s_walkLen {h : AH} {wa : Nat} {w : WS} {r : Nat → Nat} (hw : wAt h wa w r) {n : Nat} (hn : w.1 0 = nI n) (hn8 : n ≤ 8) (hat : ∀ j, j < n → vp_in (w.2 3 j) 8) {K : Option Value → AH → Prop} (hK : K (some (.int (fWalk w n))) h) : am_M i_X10_walkLength [.ref wa] h K := by
  rcases Nat.eq_zero_or_pos n with rfl | hpos
  · refine e_X10_walkLength [4] ?_
    conv => whnf
    refine b_X10_walkLength [4] ?_
    conv => whnf
    refine am_hgn hw.1 ?_
    conv => whnf
    refine ⟨fun c11 => ?_, fun c11 => absurd (by rw [hn]; decide) c11⟩
    refine b_X10_walkLength [4] ?_
    conv => whnf
    exact hK
  · have hl : w.1 0 - nI 1 = nI (n - 1) := by rw [hn]; exact nI_m n hpos
    refine e_X10_walkLength [4] ?_
    conv => whnf
    exact l_walkLen hw hl hn8 (by omega) hat (n - 1) 0 _ (by omega) hK
def nxW (br : Int32) (n f : Nat) : Nat → Nat → Int32
  | 0, _ => Int32.ofInt (-9)
  | k + 1, i => if hasB br (nI ((f + i) % n)) = true then nxW br n f k (i + 1) else nI ((f + i) % n)
theorem rem_nI {a n : Nat} (h : 0 < n) (ha : a < 2 ^ 30) (hn : n < 2 ^ 30) : nI a - nI a / nI n * nI n = nI (a % n) := pk_rem (by omega) h (by omega)
theorem l_nextW {h : AH} {wa : Nat} {w : WS} {r : Nat → Nat} {n f : Nat} {K : Option Value → AH → Prop} (hw : wAt h wa w r) (hn : w.1 0 = nI n) (hn8 : n ≤ 8) (hf : f ≤ 100) : ∀ (k i : Nat) (x3 : Option Value), i + k = n → K (some (.int (nxW (w.1 1) n f k i))) h → am_E i_X10_nextWhole 2 [some (.ref wa), some (.int (nI f)), some (.int (nI i)), x3] [] h K := by
  intro k
  induction k with
  | zero =>
    intro i x3 hi hK
    obtain rfl : i = n := by omega
    refine b_X10_nextWhole [2] ?_
    conv => whnf
    refine am_hgn hw.1 ?_
    conv => whnf
    refine ⟨fun c7 => ?_, fun c7 => absurd (by rw [hn]; exact nI_le (Nat.le_refl _) (by omega)) c7⟩
    refine b_X10_nextWhole [2] ?_
    conv => whnf
    exact hK
  | succ k ih =>
    intro i x3 hi hK
    have e2 : (nI f + nI i) - (nI f + nI i) / w.1 0 * w.1 0 = nI ((f + i) % n) := by rw [hn, nI_add]; exact rem_nI (by omega) (by omega) (by omega)
    have hm : (f + i) % n < n := Nat.mod_lt _ (by omega)
    refine b_X10_nextWhole [2] ?_
    conv => whnf
    refine am_hgn hw.1 ?_
    conv => whnf
    refine ⟨fun c7 => absurd c7 (by rw [hn]; exact nI_ge (by omega) (by omega)), fun c7 => ?_⟩
    conv => whnf
    refine am_hgn hw.1 ?_
    conv => whnf
    refine ⟨(by rw [hn]; exact nI_ne0 (by omega) (by omega)), ?_⟩
    conv => whnf
    rw [e2]
    refine am_hgn hw.1 ?_
    conv => whnf
    refine s_isBroken hw.1 ?_
    refine b_X10_nextWhole [2] ?_
    conv => whnf
    refine ⟨fun c24 => ?_, fun c24 => ?_⟩
    · conv => whnf
      rw [nxW, if_neg (by rw [bI_0.mp c24]; decide)] at hK; exact hK
    · refine b_X10_nextWhole [2] ?_
      conv => whnf
      rw [nxW, if_pos (bI_n0.mp c24)] at hK
      have h2 := ih (i + 1) (some (.int (nI ((f + i) % n)))) (by omega) hK
      rw [← nI_add i 1] at h2
      exact h2
theorem s_nextW {h : AH} {wa : Nat} {w : WS} {r : Nat → Nat} (hw : wAt h wa w r) {n f : Nat} (hn : w.1 0 = nI n) (hn8 : n ≤ 8) (hf : f ≤ 100) {K : Option Value → AH → Prop} (hK : K (some (.int (nxW (w.1 1) n f n 0))) h) : am_M i_X10_nextWhole [.ref wa, .int (nI f)] h K := by
  refine e_X10_nextWhole [2] ?_
  conv => whnf
  exact l_nextW hw hn hn8 hf n 0 _ (by omega) hK
def fStr (w : WS) (i : Nat) (q : Int32 × Bool) : Int32 × Bool := (if hasB (w.1 1) (w.2 3 i) = true then q.1 else if q.2 = true then q.1 else q.1 + nI 1, !(hasB (w.1 1) (w.2 3 i)) && !(fCut (w.1 2) (nI i)))
theorem bI_1 : bI true = nI 1 ∧ bI false = nI 0 := ⟨rfl, rfl⟩
theorem l_stretch {h : AH} {wa : Nat} {w : WS} {r : Nat → Nat} (hw : wAt h wa w r) {n : Nat} {K : Option Value → AH → Prop} (hn : w.1 0 = nI n) (hn8 : n ≤ 8) : ∀ (k i : Nat) (q : Int32 × Bool) (x4 : Option Value), i + k = n → (K (some (.int (itr (fStr w) k i q).1)) h) → am_E i_X10_stretches 6 [some (.ref wa), some (.int q.1), some (.int (bI q.2)), some (.int (nI i)), x4] [] h K := by
  intro k
  induction k with
  | zero =>
    intro i q x4 hi hK
    obtain rfl : i = n := by omega
    refine b_X10_stretches [6] ?_
    conv => whnf
    refine am_hgn hw.1 ?_
    conv => whnf
    refine ⟨fun c11 => ?_, fun c11 => absurd (by rw [hn]; exact nI_le (Nat.le_refl _) (by omega)) c11⟩
    refine b_X10_stretches [6] ?_
    conv => whnf
    exact hK
  | succ k ih =>
    intro i q x4 hi hK
    have e : (nI i).toNatClampNeg = i := nI_clamp (by omega)
    refine b_X10_stretches [6] ?_
    conv => whnf
    refine am_hgn hw.1 ?_
    conv => whnf
    refine ⟨fun c11 => absurd c11 (by rw [hn]; exact nI_ge (by omega) (by omega)), fun c11 => ?_⟩
    conv => whnf
    refine am_hgn hw.1 ?_
    conv => whnf
    refine am_hgn hw.2.2.2.2.1 ?_
    conv => whnf
    refine ⟨(vI8 hn8 (by omega)), ?_⟩
    conv => whnf
    rw [e]
    refine am_hgn hw.1 ?_
    conv => whnf
    refine s_isBroken hw.1 ?_
    refine b_X10_stretches [6] ?_
    conv => whnf
    refine ⟨fun c24 => ?_, fun c24 => ?_⟩
    · conv => whnf
      refine b_X10_stretches [6] ?_
      conv => whnf
      refine ⟨fun c36 => absurd c36 (by decide), fun c36 => ?_⟩
      conv => whnf
      refine ⟨fun c40 => ?_, fun c40 => ?_⟩
      · conv => whnf
        refine ⟨fun c48 => absurd c48 (by decide), fun c48 => ?_⟩
        conv => whnf
        refine am_hgn hw.1 ?_
        conv => whnf
        refine s_isCut hw.1 ?_
        refine b_X10_stretches [6] ?_
        conv => whnf
        refine ⟨fun c56 => ?_, fun c56 => ?_⟩
        · conv => whnf
          refine b_X10_stretches [6] ?_
          conv => whnf
          have hs : fStr w i q = (q.1 + nI 1, true) := by simp [fStr, bI_0.mp c24, bI_0.mp c40, bI_0.mp c56]
          simp only [itr] at hK
          rw [hs] at hK
          have h2 := ih (i + 1) (q.1 + nI 1, true) (some (.int (nI 1))) (by omega) hK
          rw [← nI_add i 1] at h2
          exact h2
        · refine b_X10_stretches [6] ?_
          conv => whnf
          have hs : fStr w i q = (q.1 + nI 1, false) := by simp [fStr, bI_0.mp c24, bI_0.mp c40, bI_n0.mp c56]
          simp only [itr] at hK
          rw [hs] at hK
          have h2 := ih (i + 1) (q.1 + nI 1, false) (some (.int (nI 1))) (by omega) hK
          rw [← nI_add i 1] at h2
          exact h2
      · refine b_X10_stretches [6] ?_
        conv => whnf
        refine ⟨fun c48 => absurd c48 (by decide), fun c48 => ?_⟩
        conv => whnf
        refine am_hgn hw.1 ?_
        conv => whnf
        refine s_isCut hw.1 ?_
        refine b_X10_stretches [6] ?_
        conv => whnf
        refine ⟨fun c56 => ?_, fun c56 => ?_⟩
        · conv => whnf
          refine b_X10_stretches [6] ?_
          conv => whnf
          have hs : fStr w i q = (q.1, true) := by simp [fStr, bI_0.mp c24, bI_n0.mp c40, bI_0.mp c56]
          simp only [itr] at hK
          rw [hs] at hK
          have h2 := ih (i + 1) (q.1, true) (some (.int (nI 1))) (by omega) hK
          rw [← nI_add i 1] at h2
          exact h2
        · refine b_X10_stretches [6] ?_
          conv => whnf
          have hs : fStr w i q = (q.1, false) := by simp [fStr, bI_0.mp c24, bI_n0.mp c40, bI_n0.mp c56]
          simp only [itr] at hK
          rw [hs] at hK
          have h2 := ih (i + 1) (q.1, false) (some (.int (nI 1))) (by omega) hK
          rw [← nI_add i 1] at h2
          exact h2
    · refine b_X10_stretches [6] ?_
      conv => whnf
      refine ⟨fun c36 => ?_, fun c36 => absurd (by decide) c36⟩
      refine b_X10_stretches [6] ?_
      conv => whnf
      refine ⟨fun c48 => ?_, fun c48 => absurd (by decide) c48⟩
      refine b_X10_stretches [6] ?_
      conv => whnf
      have hs : fStr w i q = (q.1, false) := by simp [fStr, bI_n0.mp c24]
      simp only [itr] at hK
      rw [hs] at hK
      have h2 := ih (i + 1) (q.1, false) (some (.int (nI 0))) (by omega) hK
      rw [← nI_add i 1] at h2
      exact h2
theorem s_stretch {h : AH} {wa : Nat} {w : WS} {r : Nat → Nat} (hw : wAt h wa w r) {n : Nat} (hn : w.1 0 = nI n) (hn8 : n ≤ 8) {K : Option Value → AH → Prop} (hK : K (some (.int ((itr (fStr w) n 0 (nI 0, false)).1))) h) : am_M i_X10_stretches [.ref wa] h K := by
  refine e_X10_stretches [6] ?_
  conv => whnf
  exact l_stretch hw hn hn8 n 0 (nI 0, false) _ (by omega) hK
def bO (b : Int32 × Int32) : AC := .inr (.inr (0, [.int b.1, .int b.2]))
def fLeast (b : Int32 × Int32) (c m : Int32) : Int32 × Int32 := if b.1 = Int32.ofInt (-9) then (c, m) else if b.2 ≤ m then b else (c, m)
def fMost (b : Int32 × Int32) (c m : Int32) : Int32 × Int32 := if b.1 = Int32.ofInt (-9) then (c, m) else if m ≤ b.2 then b else (c, m)
theorem s_none {b : Int32 × Int32} {K : Option Value → AH → Prop} (hK : K none [bO (Int32.ofInt (-9), Int32.ofInt (-9))]) : am_M i_X0_none [.ref 0] [bO b] K := by
  refine e_X0_none [] ?_
  conv => whnf
  exact hK
theorem s_offerLeast {b : Int32 × Int32} {c m : Int32} {K : Option Value → AH → Prop} (hK : K none [bO (fLeast b c m)]) : am_M i_X0_offerLeast [.ref 0, .int c, .int m] [bO b] K := by
  refine e_X0_offerLeast [] ?_
  conv => whnf
  refine ⟨fun c6 => ?_, fun c6 => ?_⟩
  · refine b_X0_offerLeast [] ?_
    conv => whnf
    rw [fLeast, if_pos c6] at hK; exact hK
  · conv => whnf
    refine ⟨fun c14 => ?_, fun c14 => ?_⟩
    · refine b_X0_offerLeast [] ?_
      conv => whnf
      rw [fLeast, if_neg c6, if_pos c14] at hK; exact hK
    · conv => whnf
      rw [fLeast, if_neg c6, if_neg c14] at hK; exact hK
theorem s_offerMost {b : Int32 × Int32} {c m : Int32} {K : Option Value → AH → Prop} (hK : K none [bO (fMost b c m)]) : am_M i_X0_offerMost [.ref 0, .int c, .int m] [bO b] K := by
  refine e_X0_offerMost [] ?_
  conv => whnf
  refine ⟨fun c6 => ?_, fun c6 => ?_⟩
  · refine b_X0_offerMost [] ?_
    conv => whnf
    rw [fMost, if_pos c6] at hK; exact hK
  · conv => whnf
    refine ⟨fun c14 => ?_, fun c14 => ?_⟩
    · refine b_X0_offerMost [] ?_
      conv => whnf
      rw [fMost, if_neg c6, if_pos c14] at hK; exact hK
    · conv => whnf
      rw [fMost, if_neg c6, if_neg c14] at hK; exact hK
theorem s_answer {h : AH} {a : Nat} {b : Int32 × Int32} {x : Int32} (hb : nth h a = some (bO b)) {K : Option Value → AH → Prop} (hK : K (some (.int (if x = 0 then b.1 else b.2))) h) : am_M i_X0_answer [.ref a, .int x] h K := by
  refine e_X0_answer [] ?_
  conv => whnf
  refine ⟨fun c1 => ?_, fun c1 => ?_⟩
  · conv => whnf
    refine am_hgn hb ?_
    conv => whnf
    refine b_X0_answer [] ?_
    conv => whnf
    rw [if_pos c1] at hK; exact hK
  · refine b_X0_answer [] ?_
    conv => whnf
    refine am_hgn hb ?_
    conv => whnf
    rw [if_neg c1] at hK; exact hK
def fJoinR (t k f a : Int32) : Int32 := fFirst (fFirst (fFirst (fUnk k (nI 5)) (fFirst (fBelow f (nI 0)) (fBelow a (nI 0)))) (fFirst (fAbove f (nI 9)) (fAbove a (nI 9)))) (fAbove (t + nI 1) (nI 8))
def fDropR (t br dy x v : Int32) : Int32 := if fFirst (fFirst (fNoTh t x) (fNoBlow v)) (fAbove (dy + nI 1) (nI 999)) = 0 then (if hasB br x = true then Int32.ofInt (-3) else fFirst (fFirst (fNoTh t x) (fNoBlow v)) (fAbove (dy + nI 1) (nI 999))) else fFirst (fFirst (fNoTh t x) (fNoBlow v)) (fAbove (dy + nI 1) (nI 999))
def fMendR (t br x : Int32) : Int32 := if fNoTh t x = 0 then (if hasB br x = true then fNoTh t x else Int32.ofInt (-3)) else fNoTh t x
def fChgR (t x y : Int32) : Int32 := if fFirst (fNoTh t x) (fNoTh t y) = 0 then (if x = y then Int32.ofInt (-1) else fFirst (fNoTh t x) (fNoTh t y)) else fFirst (fNoTh t x) (fNoTh t y)
theorem s_joinR {h : AH} {wa : Nat} {w : WS} {r : Nat → Nat} (hw : wAt h wa w r) {k f a : Int32} {K : Option Value → AH → Prop} (hK : K (some (.int (fJoinR (w.1 0) k f a))) h) : am_M i_X10_joinRefusal [.ref wa, .int k, .int f, .int a] h K := by
  refine e_X10_joinRefusal [] ?_
  conv => whnf
  refine s_unknown ?_
  refine b_X10_joinRefusal [] ?_
  conv => whnf
  refine s_below ?_
  refine b_X10_joinRefusal [] ?_
  conv => whnf
  refine s_below ?_
  refine b_X10_joinRefusal [] ?_
  conv => whnf
  refine s_first ?_
  refine b_X10_joinRefusal [] ?_
  conv => whnf
  refine s_first ?_
  refine b_X10_joinRefusal [] ?_
  conv => whnf
  refine s_above ?_
  refine b_X10_joinRefusal [] ?_
  conv => whnf
  refine s_above ?_
  refine b_X10_joinRefusal [] ?_
  conv => whnf
  refine s_first ?_
  refine b_X10_joinRefusal [] ?_
  conv => whnf
  refine s_first ?_
  refine b_X10_joinRefusal [] ?_
  conv => whnf
  refine am_hgn hw.1 ?_
  conv => whnf
  refine s_above ?_
  refine b_X10_joinRefusal [] ?_
  conv => whnf
  refine s_first ?_
  refine b_X10_joinRefusal [] ?_
  conv => whnf
  exact hK
theorem s_dropR {h : AH} {wa : Nat} {w : WS} {r : Nat → Nat} (hw : wAt h wa w r) {x v : Int32} {K : Option Value → AH → Prop} (hK : K (some (.int (fDropR (w.1 0) (w.1 1) (w.1 3) x v))) h) : am_M i_X10_dropRefusal [.ref wa, .int x, .int v] h K := by
  refine e_X10_dropRefusal [] ?_
  conv => whnf
  refine am_hgn hw.1 ?_
  conv => whnf
  refine s_noThing hw.1 ?_
  refine b_X10_dropRefusal [] ?_
  conv => whnf
  refine s_noBlow ?_
  refine b_X10_dropRefusal [] ?_
  conv => whnf
  refine s_first ?_
  refine b_X10_dropRefusal [] ?_
  conv => whnf
  refine am_hgn hw.1 ?_
  conv => whnf
  refine s_above ?_
  refine b_X10_dropRefusal [] ?_
  conv => whnf
  refine s_first ?_
  refine b_X10_dropRefusal [] ?_
  conv => whnf
  refine ⟨fun c29 => ?_, fun c29 => ?_⟩
  · conv => whnf
    refine am_hgn hw.1 ?_
    conv => whnf
    refine s_isBroken hw.1 ?_
    refine b_X10_dropRefusal [] ?_
    conv => whnf
    refine ⟨fun c37 => ?_, fun c37 => ?_⟩
    · refine b_X10_dropRefusal [] ?_
      conv => whnf
      rw [fDropR, if_pos c29, if_neg (by rw [bI_0.mp c37]; decide)] at hK; exact hK
    · conv => whnf
      refine b_X10_dropRefusal [] ?_
      conv => whnf
      rw [fDropR, if_pos c29, if_pos (bI_n0.mp c37)] at hK; exact hK
  · refine b_X10_dropRefusal [] ?_
    conv => whnf
    rw [fDropR, if_neg c29] at hK; exact hK
theorem s_mendR {h : AH} {wa : Nat} {w : WS} {r : Nat → Nat} (hw : wAt h wa w r) {x : Int32} {K : Option Value → AH → Prop} (hK : K (some (.int (fMendR (w.1 0) (w.1 1) x))) h) : am_M i_X10_mendRefusal [.ref wa, .int x] h K := by
  refine e_X10_mendRefusal [] ?_
  conv => whnf
  refine am_hgn hw.1 ?_
  conv => whnf
  refine s_noThing hw.1 ?_
  refine b_X10_mendRefusal [] ?_
  conv => whnf
  refine ⟨fun c7 => ?_, fun c7 => ?_⟩
  · conv => whnf
    refine am_hgn hw.1 ?_
    conv => whnf
    refine s_isBroken hw.1 ?_
    refine b_X10_mendRefusal [] ?_
    conv => whnf
    refine ⟨fun c15 => ?_, fun c15 => ?_⟩
    · conv => whnf
      refine b_X10_mendRefusal [] ?_
      conv => whnf
      rw [fMendR, if_pos c7, if_neg (by rw [bI_0.mp c15]; decide)] at hK; exact hK
    · refine b_X10_mendRefusal [] ?_
      conv => whnf
      rw [fMendR, if_pos c7, if_pos (bI_n0.mp c15)] at hK; exact hK
  · refine b_X10_mendRefusal [] ?_
    conv => whnf
    rw [fMendR, if_neg c7] at hK; exact hK
theorem s_chgR {h : AH} {wa : Nat} {w : WS} {r : Nat → Nat} (hw : wAt h wa w r) {x y : Int32} {K : Option Value → AH → Prop} (hK : K (some (.int (fChgR (w.1 0) x y))) h) : am_M i_X10_changeRefusal [.ref wa, .int x, .int y] h K := by
  refine e_X10_changeRefusal [] ?_
  conv => whnf
  refine am_hgn hw.1 ?_
  conv => whnf
  refine s_noThing hw.1 ?_
  refine b_X10_changeRefusal [] ?_
  conv => whnf
  refine am_hgn hw.1 ?_
  conv => whnf
  refine s_noThing hw.1 ?_
  refine b_X10_changeRefusal [] ?_
  conv => whnf
  refine s_first ?_
  refine b_X10_changeRefusal [] ?_
  conv => whnf
  refine ⟨fun c15 => ?_, fun c15 => ?_⟩
  · conv => whnf
    refine ⟨fun c20 => ?_, fun c20 => ?_⟩
    · conv => whnf
      refine b_X10_changeRefusal [] ?_
      conv => whnf
      rw [fChgR, if_pos c15, if_pos c20] at hK; exact hK
    · refine b_X10_changeRefusal [] ?_
      conv => whnf
      rw [fChgR, if_pos c15, if_neg c20] at hK; exact hK
  · refine b_X10_changeRefusal [] ?_
    conv => whnf
    rw [fChgR, if_neg c15] at hK; exact hK
def wI (w : WS) (i : Nat) (x : Int32) : WS := (va_up w.1 i x, w.2)
def wA (w : WS) (i : Nat) (f : Nat → Int32) : WS := (w.1, va_up w.2 i f)
def wEq (w v : WS) : Prop := (∀ i, i < 4 → w.1 i = v.1 i) ∧ ∀ i, i < 5 → ag8 (w.2 i) (v.2 i)
theorem s_mend {w : WS} {x : Int32} {K : Option Value → AH → Prop} (hK : K none (wC 0 (wI w 1 (butI (w.1 1) x)))) : am_M i_X10_mend [.ref 0, .int x] (wC 0 w) K := by
  refine e_X10_mend [] ?_
  conv => whnf
  exact hK
theorem s_turnCut {w : WS} {x : Int32} {K : Option Value → AH → Prop} (hK : K none (wC 0 (wI w 2 (w.1 2 ^^^ (nI 1 <<< (x &&& 31)))))) : am_M i_X10_turnCut [.ref 0, .int x] (wC 0 w) K := by
  refine e_X10_turnCut [] ?_
  conv => whnf
  exact hK
def wJoin (w : WS) (n : Nat) (k f a : Int32) : WS := (va_up w.1 0 (nI (n + 1)), fun i => match i with
  | 0 => upd (w.2 0) n k
  | 1 => upd (w.2 1) n f
  | 2 => upd (w.2 2) n a
  | 3 => upd (w.2 3) n (nI n)
  | 4 => upd (w.2 4) n (nI n)
  | i => w.2 i)
theorem s_join {w : WS} {n : Nat} {k f a : Int32} (hn : w.1 0 = nI n) (hn8 : n < 8) {K : Option Value → AH → Prop} (hK : K (some (.int (nI n))) (wC 0 (wJoin w n k f a))) : am_M i_X10_join [.ref 0, .int k, .int f, .int a] (wC 0 w) K := by
  have e : (nI n).toNatClampNeg = n := nI_clamp (by omega)
  refine e_X10_join [] ?_
  conv => whnf
  refine ⟨(by rw [hn]; exact (vI8 (Nat.le_refl 8) hn8)), ?_⟩
  conv => whnf
  rw [hn, e, nI_add]
  refine ⟨(vI8 (Nat.le_refl 8) hn8), ?_⟩
  conv => whnf
  rw [e]
  refine ⟨(vI8 (Nat.le_refl 8) hn8), ?_⟩
  conv => whnf
  rw [e]
  refine ⟨(vI8 (Nat.le_refl 8) hn8), ?_⟩
  conv => whnf
  rw [e]
  refine ⟨(vI8 (Nat.le_refl 8) hn8), ?_⟩
  conv => whnf
  exact hK
def wXch (w : WS) (i j : Nat) : WS := (w.1, fun q => match q with
  | 3 => upd (upd (w.2 3) i (w.2 3 j)) j (w.2 3 i)
  | 4 => upd (upd (w.2 4) (upd (upd (w.2 3) i (w.2 3 j)) j (w.2 3 i) i).toNatClampNeg (nI i)) (w.2 3 i).toNatClampNeg (nI j)
  | q => w.2 q)
theorem s_exchange {w : WS} {n i j : Nat} (hn8 : n ≤ 8) (hat : ∀ j, j < n → vp_in (w.2 3 j) 8) (hi : i < n) (hj : j < n) {K : Option Value → AH → Prop} (hK : K none (wC 0 (wXch w i j))) : am_M i_X10_exchange [.ref 0, .int (nI i), .int (nI j)] (wC 0 w) K := by
  have e : (nI i).toNatClampNeg = i := nI_clamp (by omega)
  have e2 : (nI j).toNatClampNeg = j := nI_clamp (by omega)
  have hx : vp_in (upd (upd (w.2 3) i (w.2 3 j)) j (w.2 3 i) i) 8 := by
    simp only [upd]
    split
    · exact hat i hi
    · rw [if_pos trivial]; exact hat j hj
  refine e_X10_exchange [] ?_
  conv => whnf
  refine ⟨(vI8 hn8 hi), ?_⟩
  conv => whnf
  rw [e]
  refine ⟨(vI8 hn8 hj), ?_⟩
  conv => whnf
  rw [e2]
  refine ⟨(vI8 hn8 hi), ?_⟩
  conv => whnf
  rw [e]
  refine ⟨(vI8 hn8 hj), ?_⟩
  conv => whnf
  rw [e2]
  refine ⟨(vI8 hn8 hi), ?_⟩
  conv => whnf
  rw [e]
  refine ⟨hx, ?_⟩
  conv => whnf
  refine ⟨(hat i hi), ?_⟩
  conv => whnf
  exact hK
theorem s_copy {w v : WS} {K : Option Value → AH → Prop} (hK : ∀ w2, wEq w2 v → K none (wC 0 w2 ++ wC 6 v)) : am_M i_X10_copy [.ref 0, .ref 6] (wC 0 w ++ wC 6 v) K := by
  refine e_X10_copy [] ?_
  conv => whnf
  refine ⟨⟨by decide, by decide, by decide, by decide, by decide⟩, ?_⟩
  conv => whnf
  refine ⟨⟨by decide, by decide, by decide, by decide, by decide⟩, ?_⟩
  conv => whnf
  refine ⟨⟨by decide, by decide, by decide, by decide, by decide⟩, ?_⟩
  conv => whnf
  refine ⟨⟨by decide, by decide, by decide, by decide, by decide⟩, ?_⟩
  conv => whnf
  refine ⟨⟨by decide, by decide, by decide, by decide, by decide⟩, ?_⟩
  conv => whnf
  refine hK (fun i => v.1 i, fun i => va_cpy (v.2 i) (w.2 i) (nI 0).toNatClampNeg (nI 0).toNatClampNeg (nI 8).toNatClampNeg) ⟨fun i _ => rfl, fun i _ j hj => ?_⟩
  show va_cpy (v.2 i) (w.2 i) (nI 0).toNatClampNeg (nI 0).toNatClampNeg (nI 8).toNatClampNeg j = v.2 i j
  rw [show (nI 0).toNatClampNeg = 0 by decide, show (nI 8).toNatClampNeg = 8 by decide]
  exact sb_cpy0 hj
