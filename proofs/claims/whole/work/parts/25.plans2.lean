/-! SPECS: plans that try another wire -/
theorem xor2 (a b : Int32) : a ^^^ b ^^^ b = a := by rw [Int32.xor_assoc, Int32.xor_self, Int32.xor_zero]
theorem wEq_2 {md w : WS} (h : wEq md w) (z : Int32) : wEq (wI md 2 z) (wI w 2 z) := by
  refine ⟨fun i hi => ?_, h.2⟩
  by_cases e : i = 2
  · subst e; simp only [wI, va_up, ↓reduceIte]
  · simp only [wI, va_up, if_neg e]; exact h.1 i hi
theorem wEq_tt {md w : WS} (h : wEq md w) (y z : Int32) (hz : z = w.1 2) : wEq (wI (wI md 2 y) 2 z) w := by
  refine ⟨fun i hi => ?_, h.2⟩
  by_cases e : i = 2
  · subst e; simp only [wI, va_up, ↓reduceIte]; exact hz
  · simp only [wI, va_up, if_neg e]; exact h.1 i hi
theorem wOk_2 {w : WS} {n : Nat} {A P : Nat → Nat} (h : wOk w n A P) (z : Int32) : wOk (wI w 2 z) n A P := h
theorem mbr_cg {w v : WS} {n : Nat} {A P : Nat → Nat} (h : wEq w v) (hv : wOk v n A P) (x : Int32) : itr (mbrI w n P x) n 0 (nI 0) = itr (mbrI v n P x) n 0 (nI 0) := by
  refine itr_cg _ _ _ (fun j _ hj s => ?_)
  rw [mbrI, mbrI, blw_cg (h.wb hv.2.1) hv.a8 (hv.2.2.2 j (by omega)).2.1]
def turnW (w : WS) (i : Nat) : WS := wI w 2 (w.1 2 ^^^ (nI 1 <<< (nI i &&& 31)))
theorem turn_eq {md w : WS} (h : wEq md w) (i : Nat) : wEq (turnW md i) (turnW w i) := by
  unfold turnW
  rw [h.1 2 (by omega)]
  exact wEq_2 h _
theorem turn_2 {md w : WS} (h : wEq md w) (i : Nat) : wEq (turnW (turnW md i) i) w := by
  refine wEq_tt h _ _ ?_
  show md.1 2 ^^^ _ ^^^ _ = _
  rw [xor2]
  exact h.1 2 (by omega)
def mcuI (w : WS) (n : Nat) (P : Nat → Nat) (v : Int32) (i : Nat) (b : Int32 × Int32) : Int32 × Int32 := if fCut (w.1 2) (nI i) = true then b else fLeast b (nI i) (itr (mbrI (turnW w i) n P v) n 0 (nI 0))
theorem f_turn {w : WS} {i : Nat} {H : AH} {b1 : Nat} {K : Option Value → AH → Prop} (ps : List Nat) (hnd : am_ndp ps = true) (h1 : am_pl ps 0 = b1) (hc : am_cut ps H ps (wC 0 w)) (hk : am_psK ps ps (wC 0 (turnW w i)) H (fun H2 => K none H2)) : am_M i_X10_turnCut [.ref b1, .int (nI i)] H K := by
  subst h1
  exact am_fr ps (fun K hK => s_turnCut hK) rfl hnd hc rfl hk
theorem f_mend {w : WS} {x : Int32} {H : AH} {b1 : Nat} {K : Option Value → AH → Prop} (ps : List Nat) (hnd : am_ndp ps = true) (h1 : am_pl ps 0 = b1) (hc : am_cut ps H ps (wC 0 w)) (hk : am_psK ps ps (wC 0 (wI w 1 (butI (w.1 1) x))) H (fun H2 => K none H2)) : am_M i_X10_mend [.ref b1, .int x] H K := by
  subst h1
  exact am_fr ps (fun K hK => s_mend hK) rfl hnd hc rfl hk
theorem l_mcu {hd un : Nat → Int32} {w : WS} {n : Nat} {v : Int32} {A P : Nat → Nat} {K : Option Value → AH → Prop} (hw : wOk w n A P) : ∀ (k i : Nat) (s : S3) (md : WS) (b : Int32 × Int32), i + k = n - 1 → (wEq md w ∧ ∀ s2 md2, K (some (.ref 9)) (pC s2 (md2) (itr (mcuI w n P v) k i b) hd un w)) → am_E i_X6_mildestCut 17 [some (.ref 0), some (.ref 12), some (.int v), some (.int (nI i))] [] (pC s md b hd un w) K := by
  intro k
  induction k with
  | zero =>
    intro i s md b hi hK
    obtain rfl : i = n - 1 := by omega
    refine b_X6_mildestCut [17] ?_
    conv => whnf
    refine ⟨fun c24 => ?_, fun c24 => absurd (by rw [hw.1]; exact lkT hw.2.1) c24⟩
    refine b_X6_mildestCut [17] ?_
    conv => whnf
    exact hK.2 s md
  | succ k ih =>
    intro i s md b hi hK
    refine b_X6_mildestCut [17] ?_
    conv => whnf
    refine ⟨fun c24 => absurd c24 (by rw [hw.1]; exact lkF hw.2.1 (by omega)), fun c24 => ?_⟩
    conv => whnf
    refine s_isCut rfl ?_
    refine b_X6_mildestCut [17] ?_
    conv => whnf
    refine ⟨fun c32 => ?_, fun c32 => ?_⟩
    · conv => whnf
      refine f_turn (w := md) (i := i) [3, 4, 5, 6, 7, 8] rfl rfl ⟨rfl, rfl, rfl, rfl, rfl, rfl, trivial⟩ ?_
      conv => whnf
      refine b_X6_mildestCut [17] ?_
      conv => whnf
      refine s_mbrm (md := turnW md i) ((turn_eq hK.1 i).ok (wOk_2 hw _)) (fun s2 => ?_)
      refine b_X6_mildestCut [17] ?_
      conv => whnf
      refine f_offL (b := b) rfl ?_
      conv => whnf
      refine b_X6_mildestCut [17] ?_
      conv => whnf
      refine f_turn (w := turnW md i) (i := i) [3, 4, 5, 6, 7, 8] rfl rfl ⟨rfl, rfl, rfl, rfl, rfl, rfl, trivial⟩ ?_
      conv => whnf
      refine b_X6_mildestCut [17] ?_
      conv => whnf
      have e5 : itr (mbrI (turnW md i) n P v) n 0 (nI 0) = itr (mbrI (turnW w i) n P v) n 0 (nI 0) := mbr_cg (turn_eq hK.1 i) (wOk_2 hw _) v
      have e4 : mcuI w n P v i b = fLeast b (nI i) (itr (mbrI (turnW md i) n P v) n 0 (nI 0)) := by rw [e5, mcuI, if_neg (by rw [bI_0.mp c32]; decide)]
      simp only [itr, e4] at hK
      have h2 := ih (i + 1) s2 (turnW (turnW md i) i) _ (by omega) ⟨turn_2 hK.1 i, hK.2⟩
      rw [← nI_add i 1] at h2
      exact h2
    · refine b_X6_mildestCut [17] ?_
      conv => whnf
      have e4 : mcuI w n P v i b = b := by rw [mcuI, if_pos (bI_n0.mp c32)]
      simp only [itr, e4] at hK
      have h2 := ih (i + 1) s md b (by omega) hK
      rw [← nI_add i 1] at h2
      exact h2
theorem s_mcu {hd un : Nat → Int32} {w : WS} {n : Nat} {v : Int32} {A P : Nat → Nat} {md : WS} {s : S3} {b : Int32 × Int32} (hw : wOk w n A P) {K : Option Value → AH → Prop} (hK : ∀ s2 md2, K (some (.ref 9)) (pC s2 (md2) (itr (mcuI w n P v) (n - 1) 0 nob) hd un w)) : am_M i_X6_mildestCut [.ref 0, .ref 12, .int v] (pC s md b hd un w) K := by
  refine e_X6_mildestCut [17] ?_
  conv => whnf
  refine f_none (b := b) rfl ?_
  conv => whnf
  refine b_X6_mildestCut [17] ?_
  conv => whnf
  refine f_copy (w := md) (v := w) [3, 4, 5, 6, 7, 8, 12, 13, 14, 15, 16, 17] rfl rfl rfl ⟨rfl, rfl, rfl, rfl, rfl, rfl, rfl, rfl, rfl, rfl, rfl, rfl, trivial⟩ (fun w2 hw2 => ?_)
  conv => whnf
  refine b_X6_mildestCut [17] ?_
  conv => whnf
  exact l_mcu hw (n - 1) 0 s w2 nob (by omega) ⟨hw2, hK⟩
def oisI (w : WS) (n p t : Nat) (v : Int32) (i : Nat) (x : Int32) : Int32 := if fCut (w.1 2) (nI i) = true then x else minI x (fBc (butI (blw (turnW w i) n p v).2.2 (nI t)))
def oisF (w : WS) (n p t : Nat) (v : Int32) : Int32 := itr (oisI w n p t v) (n - 1) 0 (fBc (butI (blw w n p v).2.2 (nI t)))
theorem l_ois {hd un : Nat → Int32} {w : WS} {n t : Nat} {v : Int32} {A P : Nat → Nat} {b : Int32 × Int32} {W : WS} {K : Option Value → AH → Prop} (hw : wOk w n A P) (ht : t < n) : ∀ (k i : Nat) (s : S3) (md : WS) (x : Int32), i + k = n - 1 → (wEq md w ∧ ∀ s2 md2, wEq md2 w → K (some (.int (itr (oisI w n (P t) t v) k i x))) (pC s2 (md2) (b) hd un W)) → am_E i_X6_othersInSpite 25 [some (.ref 0), some (.int (nI t)), some (.int v), some (.int x), some (.int (nI i))] [] (pC s md b hd un W) K := by
  intro k
  induction k with
  | zero =>
    intro i s md x hi hK
    obtain rfl : i = n - 1 := by omega
    have hmd := hK.1.ok hw
    refine b_X6_othersInSpite [25] ?_
    conv => whnf
    refine ⟨fun c36 => ?_, fun c36 => absurd (by rw [hmd.1]; exact lkT hw.2.1) c36⟩
    refine b_X6_othersInSpite [25] ?_
    conv => whnf
    exact hK.2 s md hK.1
  | succ k ih =>
    intro i s md x hi hK
    have hmd := hK.1.ok hw
    refine b_X6_othersInSpite [25] ?_
    conv => whnf
    refine ⟨fun c36 => absurd c36 (by rw [hmd.1]; exact lkF hw.2.1 (by omega)), fun c36 => ?_⟩
    conv => whnf
    refine s_isCut rfl ?_
    refine b_X6_othersInSpite [25] ?_
    conv => whnf
    refine ⟨fun c48 => ?_, fun c48 => ?_⟩
    · conv => whnf
      refine f_turn (w := md) (i := i) [3, 4, 5, 6, 7, 8] rfl rfl ⟨rfl, rfl, rfl, rfl, rfl, rfl, trivial⟩ ?_
      conv => whnf
      refine b_X6_othersInSpite [25] ?_
      conv => whnf
      refine f_strike (s := s) (w := turnW md i) [1, 2, 3, 4, 5, 6, 7, 8] ((turn_eq hK.1 i).ok (wOk_2 hw _)) ht rfl rfl rfl ⟨rfl, rfl, rfl, rfl, rfl, rfl, rfl, rfl, trivial⟩ (fun s2 hs2 => ?_)
      conv => whnf
      refine b_X6_othersInSpite [25] ?_
      conv => whnf
      refine s_othersBroken (s := s2) ⟨rfl, rfl⟩ ?_
      refine b_X6_othersInSpite [25] ?_
      conv => whnf
      refine f_turn (w := turnW md i) (i := i) [3, 4, 5, 6, 7, 8] rfl rfl ⟨rfl, rfl, rfl, rfl, rfl, rfl, trivial⟩ ?_
      conv => whnf
      refine b_X6_othersInSpite [25] ?_
      conv => whnf
      have e4 : oisI w n (P t) t v i x = minI x (fBc (butI s2.2.2 (nI t))) := by
        rw [hK.1.1 2 (by decide)] at c48
        rw [hs2.2, blw_cg ((turn_eq hK.1 i).wb hw.2.1) (wOk_2 hw _).a8 (hw.2.2.2 t ht).2.1, oisI, if_neg (by rw [bI_0.mp c48]; decide)]
      simp only [itr, e4] at hK
      have h2 := ih (i + 1) s2 (turnW (turnW md i) i) _ (by omega) ⟨turn_2 hK.1 i, hK.2⟩
      rw [← nI_add i 1] at h2
      exact h2
    · refine b_X6_othersInSpite [25] ?_
      conv => whnf
      have e4 : oisI w n (P t) t v i x = x := by rw [hK.1.1 2 (by decide)] at c48; rw [oisI, if_pos (bI_n0.mp c48)]
      simp only [itr, e4] at hK
      have h2 := ih (i + 1) s md x (by omega) hK
      rw [← nI_add i 1] at h2
      exact h2
theorem s_ois {hd un : Nat → Int32} {w : WS} {n t : Nat} {v : Int32} {A P : Nat → Nat} {b : Int32 × Int32} {W : WS} {md : WS} {s : S3} (hw : wOk w n A P) (ht : t < n) (hm : wEq md w) {K : Option Value → AH → Prop} (hK : ∀ s2 md2, wEq md2 w → K (some (.int (oisF w n (P t) t v))) (pC s2 (md2) (b) hd un W)) : am_M i_X6_othersInSpite [.ref 0, .int (nI t), .int v] (pC s md b hd un W) K := by
  refine e_X6_othersInSpite [25] ?_
  conv => whnf
  refine f_strike (s := s) (w := md) [1, 2, 3, 4, 5, 6, 7, 8] (hm.ok hw) ht rfl rfl rfl ⟨rfl, rfl, rfl, rfl, rfl, rfl, rfl, rfl, trivial⟩ (fun s2 hs2 => ?_)
  conv => whnf
  refine b_X6_othersInSpite [25] ?_
  conv => whnf
  refine s_othersBroken (s := s2) ⟨rfl, rfl⟩ ?_
  refine b_X6_othersInSpite [25] ?_
  conv => whnf
  have e9 : fBc (butI s2.2.2 (nI t)) = fBc (butI (blw w n (P t) v).2.2 (nI t)) := by rw [hs2.2, blw_cg (hm.wb hw.2.1) hw.a8 (hw.2.2.2 t ht).2.1]
  rw [e9]
  exact l_ois hw ht (n - 1) 0 s2 md _ (by omega) ⟨hm, hK⟩
def womI (w : WS) (n : Nat) (P : Nat → Nat) (v : Int32) (i : Nat) (b : Int32 × Int32) : Int32 × Int32 := if hasB (w.1 1) (nI i) = true then b else fMost b (nI i) (oisF w n (P i) i v)
theorem l_wom {hd un : Nat → Int32} {w : WS} {n : Nat} {v : Int32} {A P : Nat → Nat} {K : Option Value → AH → Prop} (hw : wOk w n A P) : ∀ (k i : Nat) (s : S3) (md : WS) (b : Int32 × Int32), i + k = n → (wEq md w ∧ ∀ s2 md2, K (some (.ref 9)) (pC s2 (md2) (itr (womI w n P v) k i b) hd un w)) → am_E i_X6_womansDrop 17 [some (.ref 0), some (.ref 12), some (.int v), some (.int (nI i))] [] (pC s md b hd un w) K := by
  intro k
  induction k with
  | zero =>
    intro i s md b hi hK
    obtain rfl : i = n := by omega
    refine b_X6_womansDrop [17] ?_
    conv => whnf
    refine ⟨fun c22 => ?_, fun c22 => absurd (by rw [hw.1]; exact nI_le (Nat.le_refl _) (by have := hw.2.1; omega)) c22⟩
    refine b_X6_womansDrop [17] ?_
    conv => whnf
    exact hK.2 s md
  | succ k ih =>
    intro i s md b hi hK
    refine b_X6_womansDrop [17] ?_
    conv => whnf
    refine ⟨fun c22 => absurd c22 (by rw [hw.1]; exact nI_ge (by omega) (by have := hw.2.1; omega)), fun c22 => ?_⟩
    conv => whnf
    refine s_isBroken rfl ?_
    refine b_X6_womansDrop [17] ?_
    conv => whnf
    refine ⟨fun c30 => ?_, fun c30 => ?_⟩
    · conv => whnf
      refine s_ois hw (by omega) hK.1 (fun s2 md2 hm2 => ?_)
      refine b_X6_womansDrop [17] ?_
      conv => whnf
      refine f_offM (b := b) rfl ?_
      conv => whnf
      refine b_X6_womansDrop [17] ?_
      conv => whnf
      have e4 : womI w n P v i b = fMost b (nI i) (oisF w n (P i) i v) := by rw [womI, if_neg (by rw [bI_0.mp c30]; decide)]
      simp only [itr, e4] at hK
      have h2 := ih (i + 1) s2 md2 _ (by omega) ⟨hm2, hK.2⟩
      rw [← nI_add i 1] at h2
      exact h2
    · refine b_X6_womansDrop [17] ?_
      conv => whnf
      have e4 : womI w n P v i b = b := by rw [womI, if_pos (bI_n0.mp c30)]
      simp only [itr, e4] at hK
      have h2 := ih (i + 1) s md b (by omega) hK
      rw [← nI_add i 1] at h2
      exact h2
theorem s_wom {hd un : Nat → Int32} {w : WS} {n : Nat} {v : Int32} {A P : Nat → Nat} {md : WS} {s : S3} {b : Int32 × Int32} (hw : wOk w n A P) {K : Option Value → AH → Prop} (hK : ∀ s2 md2, K (some (.ref 9)) (pC s2 (md2) (itr (womI w n P v) n 0 nob) hd un w)) : am_M i_X6_womansDrop [.ref 0, .ref 12, .int v] (pC s md b hd un w) K := by
  refine e_X6_womansDrop [17] ?_
  conv => whnf
  refine f_none (b := b) rfl ?_
  conv => whnf
  refine b_X6_womansDrop [17] ?_
  conv => whnf
  refine f_copy (w := md) (v := w) [3, 4, 5, 6, 7, 8, 12, 13, 14, 15, 16, 17] rfl rfl rfl ⟨rfl, rfl, rfl, rfl, rfl, rfl, rfl, rfl, rfl, rfl, rfl, rfl, trivial⟩ (fun w2 hw2 => ?_)
  conv => whnf
  refine b_X6_womansDrop [17] ?_
  conv => whnf
  exact l_wom hw n 0 s w2 nob (by omega) ⟨hw2, hK⟩
def mI (md w : WS) : Prop := ∀ z, wEq (wI md 1 z) (wI w 1 z)
theorem mI_0 {md w : WS} (h : wEq md w) : mI md w := by
  intro z
  refine ⟨fun i hi => ?_, h.2⟩
  by_cases e : i = 1
  · subst e; simp only [wI, va_up, ↓reduceIte]
  · simp only [wI, va_up, if_neg e]; exact h.1 i hi
theorem mI_s {md w : WS} (h : mI md w) (y : Int32) : mI (wI md 1 y) w := by
  intro z
  refine ⟨fun i hi => ?_, (h z).2⟩
  have h2 := (h z).1 i hi
  by_cases e : i = 1
  · subst e; simp only [wI, va_up, ↓reduceIte]
  · simp only [wI, va_up, if_neg e] at h2 ⊢; exact h2
theorem mI_w {md w : WS} (h : mI md w) (y z : Int32) : wEq (wI (wI md 1 y) 1 z) (wI w 1 z) := mI_s h y z
theorem wOk_1 {w : WS} {n : Nat} {A P : Nat → Nat} (h : wOk w n A P) (z : Int32) : wOk (wI w 1 z) n A P := h
def mhmI (w : WS) (n p : Nat) (v c : Int32) (i : Nat) (b : Int32 × Int32) : Int32 × Int32 := if hasB (w.1 1) (nI i) = true then (if fBc (blw (wI w 1 (butI (w.1 1) (nI i))) n p v).2.1 ≤ c then b else fMost b (nI i) (fBc (blw (wI w 1 (butI (w.1 1) (nI i))) n p v).2.1)) else b
theorem l_mhm {hd un : Nat → Int32} {w : WS} {n t : Nat} {v : Int32} {A P : Nat → Nat} {c : Int32} {K : Option Value → AH → Prop} (hw : wOk w n A P) (ht : t < n) : ∀ (k i : Nat) (s : S3) (md : WS) (b : Int32 × Int32), i + k = n → (mI md w ∧ ∀ s2 md2, K (some (.ref 9)) (pC s2 (md2) (itr (mhmI w n (P t) v c) k i b) hd un w)) → am_E i_X6_mendHeardMost 37 [some (.ref 0), some (.ref 12), some (.int (nI t)), some (.int v), some (.int c), some (.int (nI i))] [] (pC s md b hd un w) K := by
  intro k
  induction k with
  | zero =>
    intro i s md b hi hK
    obtain rfl : i = n := by omega
    refine b_X6_mendHeardMost [37] ?_
    conv => whnf
    refine ⟨fun c43 => ?_, fun c43 => absurd (by rw [hw.1]; exact nI_le (Nat.le_refl _) (by have := hw.2.1; omega)) c43⟩
    refine b_X6_mendHeardMost [37] ?_
    conv => whnf
    exact hK.2 s md
  | succ k ih =>
    intro i s md b hi hK
    refine b_X6_mendHeardMost [37] ?_
    conv => whnf
    refine ⟨fun c43 => absurd c43 (by rw [hw.1]; exact nI_ge (by omega) (by have := hw.2.1; omega)), fun c43 => ?_⟩
    conv => whnf
    refine s_isBroken rfl ?_
    refine b_X6_mendHeardMost [37] ?_
    conv => whnf
    refine ⟨fun c52 => ?_, fun c52 => ?_⟩
    · conv => whnf
      refine b_X6_mendHeardMost [37] ?_
      conv => whnf
      have e4 : mhmI w n (P t) v c i b = b := by rw [mhmI, if_neg (by rw [bI_0.mp c52]; decide)]
      simp only [itr, e4] at hK
      have h2 := ih (i + 1) s md b (by omega) hK
      rw [← nI_add i 1] at h2
      exact h2
    · refine b_X6_mendHeardMost [37] ?_
      conv => whnf
      refine f_mend (w := wI md 1 (w.1 1)) [3, 4, 5, 6, 7, 8] rfl rfl ⟨rfl, rfl, rfl, rfl, rfl, rfl, trivial⟩ ?_
      conv => whnf
      refine b_X6_mendHeardMost [37] ?_
      conv => whnf
      refine f_strike (s := s) (w := wI (wI md 1 (w.1 1)) 1 (butI (w.1 1) (nI i))) [1, 2, 3, 4, 5, 6, 7, 8] ((mI_w hK.1 _ _).ok (wOk_1 hw _)) ht rfl rfl rfl ⟨rfl, rfl, rfl, rfl, rfl, rfl, rfl, rfl, trivial⟩ (fun s2 hs2 => ?_)
      conv => whnf
      refine b_X6_mendHeardMost [37] ?_
      conv => whnf
      refine s_hearerCount (s := s2) ⟨rfl, rfl⟩ ?_
      refine b_X6_mendHeardMost [37] ?_
      conv => whnf
      refine ⟨fun c100 => ?_, fun c100 => ?_⟩
      · refine b_X6_mendHeardMost [37] ?_
        conv => whnf
        have e3 : s2.2 = (blw (wI w 1 (butI (w.1 1) (nI i))) n (P t) v).2 := by rw [hs2.2, blw_cg ((mI_w hK.1 _ _).wb hw.2.1) (wOk_1 hw _).a8 (hw.2.2.2 t ht).2.1]
        have e4 : mhmI w n (P t) v c i b = b := by rw [e3] at c100; rw [mhmI, if_pos (bI_n0.mp c52), if_pos c100]
        simp only [itr, e4] at hK
        have h2 := ih (i + 1) s2 (wI (wI md 1 (w.1 1)) 1 (butI (w.1 1) (nI i))) _ (by omega) ⟨mI_s (mI_s hK.1 _) _, hK.2⟩
        rw [← nI_add i 1] at h2
        exact h2
      · conv => whnf
        refine s_hearerCount (s := s2) ⟨rfl, rfl⟩ ?_
        refine b_X6_mendHeardMost [37] ?_
        conv => whnf
        refine f_offM (b := b) rfl ?_
        conv => whnf
        refine b_X6_mendHeardMost [37] ?_
        conv => whnf
        have e3 : s2.2 = (blw (wI w 1 (butI (w.1 1) (nI i))) n (P t) v).2 := by rw [hs2.2, blw_cg ((mI_w hK.1 _ _).wb hw.2.1) (wOk_1 hw _).a8 (hw.2.2.2 t ht).2.1]
        have e4 : mhmI w n (P t) v c i b = fMost b (nI i) (fBc s2.2.1) := by rw [e3] at c100 ⊢; rw [mhmI, if_pos (bI_n0.mp c52), if_neg c100]
        simp only [itr, e4] at hK
        have h2 := ih (i + 1) s2 (wI (wI md 1 (w.1 1)) 1 (butI (w.1 1) (nI i))) _ (by omega) ⟨mI_s (mI_s hK.1 _) _, hK.2⟩
        rw [← nI_add i 1] at h2
        exact h2
theorem s_mhm {hd un : Nat → Int32} {w : WS} {n t : Nat} {v : Int32} {A P : Nat → Nat} {md : WS} {s : S3} {b : Int32 × Int32} (hw : wOk w n A P) (ht : t < n) {K : Option Value → AH → Prop} (hK : ∀ s2 md2, K (some (.ref 9)) (pC s2 (md2) (itr (mhmI w n (P t) v (fBc (blw w n (P t) v).2.1)) n 0 nob) hd un w)) : am_M i_X6_mendHeardMost [.ref 0, .ref 12, .int (nI t), .int v] (pC s md b hd un w) K := by
  refine e_X6_mendHeardMost [37] ?_
  conv => whnf
  refine f_none (b := b) rfl ?_
  conv => whnf
  refine b_X6_mendHeardMost [37] ?_
  conv => whnf
  refine f_strike (s := s) (w := w) [1, 2, 12, 13, 14, 15, 16, 17] hw ht rfl rfl rfl ⟨rfl, rfl, rfl, rfl, rfl, rfl, rfl, rfl, trivial⟩ (fun s2 hs2 => ?_)
  conv => whnf
  refine b_X6_mendHeardMost [37] ?_
  conv => whnf
  refine s_hearerCount (s := s2) ⟨rfl, rfl⟩ ?_
  refine b_X6_mendHeardMost [37] ?_
  conv => whnf
  refine f_copy (w := md) (v := w) [3, 4, 5, 6, 7, 8, 12, 13, 14, 15, 16, 17] rfl rfl rfl ⟨rfl, rfl, rfl, rfl, rfl, rfl, rfl, rfl, rfl, rfl, rfl, rfl, trivial⟩ (fun w2 hw2 => ?_)
  conv => whnf
  refine b_X6_mendHeardMost [37] ?_
  conv => whnf
  have e9 : fBc s2.2.1 = fBc (blw w n (P t) v).2.1 := by rw [hs2.2]
  rw [e9]
  exact l_mhm hw ht n 0 s2 w2 nob (by omega) ⟨mI_0 hw2, hK⟩
def fhmI (w : WS) (n p x : Nat) (v : Int32) (i : Nat) (b : Int32 × Int32) : Int32 × Int32 := fMost b (nI i) (fBc (blw (wK w 1 x (nI i)) n p v).2.1)
theorem l_fhm {hd un : Nat → Int32} {w : WS} {n t x : Nat} {v : Int32} {A P : Nat → Nat} {K : Option Value → AH → Prop} (hw : wOk w n A P) (ht : t < n) (hx : x < 8) : ∀ (k i : Nat) (s : S3) (md : WS) (b : Int32 × Int32), i + k = 10 → (kI md w 1 x ∧ ∀ s2 md2, K (some (.ref 9)) (pC s2 (md2) (itr (fhmI w n (P t) x v) k i b) hd un w)) → am_E i_X6_figureHeardMost 18 [some (.ref 0), some (.ref 12), some (.int (nI x)), some (.int (nI t)), some (.int v), some (.int (nI i))] [] (pC s md b hd un w) K := by
  have ex : (nI x).toNatClampNeg = x := nI_clamp (by omega)
  intro k
  induction k with
  | zero =>
    intro i s md b hi hK
    obtain rfl : i = 10 := by omega
    refine b_X6_figureHeardMost [18] ?_
    conv => whnf
    refine ⟨fun c22 => ?_, fun c22 => absurd (by decide) c22⟩
    refine b_X6_figureHeardMost [18] ?_
    conv => whnf
    exact hK.2 s md
  | succ k ih =>
    intro i s md b hi hK
    refine b_X6_figureHeardMost [18] ?_
    conv => whnf
    refine ⟨fun c22 => absurd c22 (by exact nI_ge (by omega) (by omega)), fun c22 => ?_⟩
    conv => whnf
    refine ⟨(vI8 (Nat.le_refl 8) hx), ?_⟩
    conv => whnf
    rw [ex]
    refine f_strike (s := s) (w := wK md 1 x (nI i)) [1, 2, 3, 4, 5, 6, 7, 8] ((hK.1 (nI i)).ok (wK_ok hw (by decide))) ht rfl rfl rfl ⟨rfl, rfl, rfl, rfl, rfl, rfl, rfl, rfl, trivial⟩ (fun s2 hs2 => ?_)
    conv => whnf
    refine b_X6_figureHeardMost [18] ?_
    conv => whnf
    refine s_hearerCount (s := s2) ⟨rfl, rfl⟩ ?_
    refine b_X6_figureHeardMost [18] ?_
    conv => whnf
    refine f_offM (b := b) rfl ?_
    conv => whnf
    refine b_X6_figureHeardMost [18] ?_
    conv => whnf
    have e4 : fhmI w n (P t) x v i b = fMost b (nI i) (fBc s2.2.1) := by
      rw [hs2.2, blw_cg ((hK.1 (nI i)).wb hw.2.1) (wK_ok (z := nI i) (x := x) hw (by decide : 1 < 3)).a8 (hw.2.2.2 t ht).2.1]; rfl
    simp only [itr, e4] at hK
    have h2 := ih (i + 1) s2 (wK md 1 x (nI i)) _ (by omega) ⟨kI_s hK.1 _, hK.2⟩
    rw [← nI_add i 1] at h2
    exact h2
theorem s_fhm {hd un : Nat → Int32} {w : WS} {n t x : Nat} {v : Int32} {A P : Nat → Nat} {md : WS} {s : S3} {b : Int32 × Int32} (hw : wOk w n A P) (ht : t < n) (hx : x < 8) {K : Option Value → AH → Prop} (hK : ∀ s2 md2, K (some (.ref 9)) (pC s2 (md2) (itr (fhmI w n (P t) x v) 10 0 nob) hd un w)) : am_M i_X6_figureHeardMost [.ref 0, .ref 12, .int (nI x), .int (nI t), .int v] (pC s md b hd un w) K := by
  refine e_X6_figureHeardMost [18] ?_
  conv => whnf
  refine f_none (b := b) rfl ?_
  conv => whnf
  refine b_X6_figureHeardMost [18] ?_
  conv => whnf
  refine f_copy (w := md) (v := w) [3, 4, 5, 6, 7, 8, 12, 13, 14, 15, 16, 17] rfl rfl rfl ⟨rfl, rfl, rfl, rfl, rfl, rfl, rfl, rfl, rfl, rfl, rfl, rfl, trivial⟩ (fun w2 hw2 => ?_)
  conv => whnf
  refine b_X6_figureHeardMost [18] ?_
  conv => whnf
  exact l_fhm hw ht hx 10 0 s w2 nob (by omega) ⟨kI_0 hw2 (by decide), hK⟩
