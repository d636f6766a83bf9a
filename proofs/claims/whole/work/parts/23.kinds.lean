/-! SPECS: what kind, what figure -/
def wK (w : WS) (c x : Nat) (z : Int32) : WS := wA w c (upd (w.2 c) x z)
def kI (md w : WS) (c x : Nat) : Prop := ∀ z, wEq (wK md c x z) (wK w c x z)
theorem kI_0 {md w : WS} {c x : Nat} (h : wEq md w) (hc : c < 5) : kI md w c x := by
  intro z
  refine ⟨h.1, fun i hi j hj => ?_⟩
  by_cases hic : i = c
  · subst hic
    simp only [wK, wA, va_up, ↓reduceIte, upd]
    split
    · rfl
    · exact h.2 i hi j hj
  · simp only [wK, wA, va_up, if_neg hic]
    exact h.2 i hi j hj
theorem kI_s {md w : WS} {c x : Nat} (h : kI md w c x) (y : Int32) : kI (wK md c x y) w c x := by
  intro z
  refine ⟨(h z).1, fun i hi j hj => ?_⟩
  have h2 := (h z).2 i hi j hj
  by_cases hic : i = c
  · subst hic
    simp only [wK, wA, va_up, ↓reduceIte, upd] at h2 ⊢
    split
    · rfl
    · rename_i e; rw [if_neg e, if_neg e] at h2; exact h2
  · simp only [wK, wA, va_up, if_neg hic] at h2 ⊢
    exact h2
theorem wK_ok {w : WS} {c x n : Nat} {A P : Nat → Nat} {z : Int32} (h : wOk w n A P) (hc : c < 3) : wOk (wK w c x z) n A P := by
  obtain ⟨h1, h2, h3, h4⟩ := h
  refine ⟨h1, h2, fun j hj => ?_, fun t ht => ?_⟩
  · have e : (wK w c x z).2 3 = w.2 3 := by simp only [wK, wA, va_up]; rw [if_neg (by omega)]
    rw [e]; exact h3 j hj
  · have e : (wK w c x z).2 4 = w.2 4 := by simp only [wK, wA, va_up]; rw [if_neg (by omega)]
    rw [e]; exact h4 t ht
theorem wOk.a8 {w : WS} {n : Nat} {A P : Nat → Nat} (h : wOk w n A P) : ∀ j, j < n → w.2 3 j = nI (A j) ∧ A j < 8 := fun j hj => ⟨(h.2.2.1 j hj).1, by have := (h.2.2.1 j hj).2.1; have := h.2.1; omega⟩
def kndF (w : WS) (c n x p : Nat) (v : Int32) (f : Nat → Int32) (q : Nat) (k : Nat) (fd : Int32) : Int32 := if (decide (q ≤ n) && tellF f (fun i => min99 (fJump ((wK w c x (nI k)).2 0 i) ((blw (wK w c x (nI k)) n p v).1 i))) q 0) = true then fd ||| (nI 1 <<< (nI k &&& 31)) else fd
theorem l_knd {d : Int32 × Int32 × Int32} {b : Int32 × Int32} {w : WS} {n t x q : Nat} {v : Int32} {f : Nat → Int32} {A P : Nat → Nat} {K : Option Value → AH → Prop} (hw : wOk w n A P) (ht : t < n) (hx : x < 8) (hq : q ≤ 12) : ∀ (k i : Nat) (s : S3) (md : WS) (fd : Int32), i + k = 6 → (kI md w 0 x ∧ ∀ s2 md2, K (some (.int (itr (kndF w 0 n x (P t) v f q) k i fd))) (eC d s2 md2 b w ++ rC 16 (nI q) f)) → am_E i_X1_kindsBy 14 [some (.ref 0), some (.ref 10), some (.ref 16), some (.int (nI t)), some (.int v), some (.int (nI x)), some (.int fd), some (.int (nI i))] [] (eC d s md b w ++ rC 16 (nI q) f) K := by
  have ex : (nI x).toNatClampNeg = x := nI_clamp (by omega)
  have hpt : P t < n := (hw.2.2.2 t ht).2.1
  intro k
  induction k with
  | zero =>
    intro i s md fd hi hK
    obtain rfl : i = 6 := by omega
    refine b_X1_kindsBy [14] ?_
    conv => whnf
    refine ⟨fun c18 => ?_, fun c18 => absurd (by decide) c18⟩
    refine b_X1_kindsBy [14] ?_
    conv => whnf
    exact hK.2 s md
  | succ k ih =>
    intro i s md fd hi hK
    have hI := hK.1
    refine b_X1_kindsBy [14] ?_
    conv => whnf
    refine ⟨fun c18 => absurd c18 (by exact nI_ge (by omega) (by omega)), fun c18 => ?_⟩
    conv => whnf
    refine ⟨(vI8 (Nat.le_refl 8) hx), ?_⟩
    conv => whnf
    rw [ex]
    refine f_strike (s := s) (w := wK md 0 x (nI i)) [1, 2, 3, 4, 5, 6, 7, 8] ((hI (nI i)).ok (wK_ok hw (by decide))) ht rfl rfl rfl ⟨rfl, rfl, rfl, rfl, rfl, rfl, rfl, rfl, trivial⟩ (fun s2 hs2 => ?_)
    conv => whnf
    refine b_X1_kindsBy [14] ?_
    conv => whnf
    refine s_tells (s := s2) (w := wK md 0 x (nI i)) (r := fun i => 4 + i) (q := q) (n := n) (f := f) ⟨rfl, rfl⟩ ⟨rfl, rfl⟩ ⟨rfl, rfl, rfl, rfl, rfl, rfl⟩ ((hI (nI i)).ok (wK_ok hw (by decide))).1 hw.2.1 hq ?_
    refine b_X1_kindsBy [14] ?_
    conv => whnf
    refine ⟨fun c59 => ?_, fun c59 => ?_⟩
    · refine b_X1_kindsBy [14] ?_
      conv => whnf
      have hcg := blw_cg ((hI (nI i)).wb hw.2.1 (n := n)) (wK_ok (z := nI i) (x := x) hw (by decide : 0 < 3)).a8 hpt v
      have e6 : (decide (q ≤ n) && tellF f (fun i_1 => min99 (fJump ((wK md 0 x (nI i)).2 0 i_1) (s2.1 i_1))) q 0) = (decide (q ≤ n) && tellF f (fun i_1 => min99 (fJump ((wK w 0 x (nI i)).2 0 i_1) ((blw (wK w 0 x (nI i)) n (P t) v).1 i_1))) q 0) := tell_cg hw.2.1 (fun j hj => by rw [hs2.1 j hj, hcg, (hI (nI i)).2 0 (by decide) j hj])
      rw [e6] at c59
      have e4 : (kndF w 0 n x (P t) v f q) i fd = fd := by rw [kndF, if_neg (by rw [bI_0.mp c59]; decide)]
      simp only [itr, e4] at hK
      have h2 := ih (i + 1) s2 (wK md 0 x (nI i)) fd (by omega) ⟨kI_s hI _, hK.2⟩
      rw [← nI_add i 1] at h2
      exact h2
    · conv => whnf
      have hcg := blw_cg ((hI (nI i)).wb hw.2.1 (n := n)) (wK_ok (z := nI i) (x := x) hw (by decide : 0 < 3)).a8 hpt v
      have e6 : (decide (q ≤ n) && tellF f (fun i_1 => min99 (fJump ((wK md 0 x (nI i)).2 0 i_1) (s2.1 i_1))) q 0) = (decide (q ≤ n) && tellF f (fun i_1 => min99 (fJump ((wK w 0 x (nI i)).2 0 i_1) ((blw (wK w 0 x (nI i)) n (P t) v).1 i_1))) q 0) := tell_cg hw.2.1 (fun j hj => by rw [hs2.1 j hj, hcg, (hI (nI i)).2 0 (by decide) j hj])
      rw [e6] at c59
      have e4 : (kndF w 0 n x (P t) v f q) i fd = fd ||| (nI 1 <<< (nI i &&& 31)) := by rw [kndF, if_pos (bI_n0.mp c59)]
      simp only [itr, e4] at hK
      have h2 := ih (i + 1) s2 (wK md 0 x (nI i)) _ (by omega) ⟨kI_s hI _, hK.2⟩
      rw [← nI_add i 1] at h2
      exact h2
theorem s_knd {d : Int32 × Int32 × Int32} {b : Int32 × Int32} {w : WS} {n t x q : Nat} {v : Int32} {f : Nat → Int32} {A P : Nat → Nat} {s : S3} {md : WS} (hw : wOk w n A P) (ht : t < n) (hx : x < 8) (hq : q ≤ 12) {K : Option Value → AH → Prop} (hK : ∀ s2 md2, K (some (.int (itr (kndF w 0 n x (P t) v f q) 6 0 (nI 0)))) (eC d s2 md2 b w ++ rC 16 (nI q) f)) : am_M i_X1_kindsBy [.ref 0, .ref 10, .ref 16, .int (nI t), .int v, .int (nI x)] (eC d s md b w ++ rC 16 (nI q) f) K := by
  refine e_X1_kindsBy [14] ?_
  conv => whnf
  refine f_copy (w := md) (v := w) [3, 4, 5, 6, 7, 8, 10, 11, 12, 13, 14, 15] rfl rfl rfl ⟨rfl, rfl, rfl, rfl, rfl, rfl, rfl, rfl, rfl, rfl, rfl, rfl, trivial⟩ (fun w2 hw2 => ?_)
  conv => whnf
  refine b_X1_kindsBy [14] ?_
  conv => whnf
  exact l_knd hw ht hx hq 6 0 s w2 (nI 0) rfl ⟨kI_0 hw2 (by decide), hK⟩
theorem l_fig {d : Int32 × Int32 × Int32} {b : Int32 × Int32} {w : WS} {n t x q : Nat} {v : Int32} {f : Nat → Int32} {A P : Nat → Nat} {K : Option Value → AH → Prop} (hw : wOk w n A P) (ht : t < n) (hx : x < 8) (hq : q ≤ 12) : ∀ (k i : Nat) (s : S3) (md : WS) (fd : Int32), i + k = 10 → (kI md w 1 x ∧ ∀ s2 md2, K (some (.int (itr (kndF w 1 n x (P t) v f q) k i fd))) (eC d s2 md2 b w ++ rC 16 (nI q) f)) → am_E i_X1_figuresBy 14 [some (.ref 0), some (.ref 10), some (.ref 16), some (.int (nI t)), some (.int v), some (.int (nI x)), some (.int fd), some (.int (nI i))] [] (eC d s md b w ++ rC 16 (nI q) f) K := by
  have ex : (nI x).toNatClampNeg = x := nI_clamp (by omega)
  have hpt : P t < n := (hw.2.2.2 t ht).2.1
  intro k
  induction k with
  | zero =>
    intro i s md fd hi hK
    obtain rfl : i = 10 := by omega
    refine b_X1_figuresBy [14] ?_
    conv => whnf
    refine ⟨fun c18 => ?_, fun c18 => absurd (by decide) c18⟩
    refine b_X1_figuresBy [14] ?_
    conv => whnf
    exact hK.2 s md
  | succ k ih =>
    intro i s md fd hi hK
    have hI := hK.1
    refine b_X1_figuresBy [14] ?_
    conv => whnf
    refine ⟨fun c18 => absurd c18 (by exact nI_ge (by omega) (by omega)), fun c18 => ?_⟩
    conv => whnf
    refine ⟨(vI8 (Nat.le_refl 8) hx), ?_⟩
    conv => whnf
    rw [ex]
    refine f_strike (s := s) (w := wK md 1 x (nI i)) [1, 2, 3, 4, 5, 6, 7, 8] ((hI (nI i)).ok (wK_ok hw (by decide))) ht rfl rfl rfl ⟨rfl, rfl, rfl, rfl, rfl, rfl, rfl, rfl, trivial⟩ (fun s2 hs2 => ?_)
    conv => whnf
    refine b_X1_figuresBy [14] ?_
    conv => whnf
    refine s_tells (s := s2) (w := wK md 1 x (nI i)) (r := fun i => 4 + i) (q := q) (n := n) (f := f) ⟨rfl, rfl⟩ ⟨rfl, rfl⟩ ⟨rfl, rfl, rfl, rfl, rfl, rfl⟩ ((hI (nI i)).ok (wK_ok hw (by decide))).1 hw.2.1 hq ?_
    refine b_X1_figuresBy [14] ?_
    conv => whnf
    refine ⟨fun c59 => ?_, fun c59 => ?_⟩
    · refine b_X1_figuresBy [14] ?_
      conv => whnf
      have hcg := blw_cg ((hI (nI i)).wb hw.2.1 (n := n)) (wK_ok (z := nI i) (x := x) hw (by decide : 1 < 3)).a8 hpt v
      have e6 : (decide (q ≤ n) && tellF f (fun i_1 => min99 (fJump ((wK md 1 x (nI i)).2 0 i_1) (s2.1 i_1))) q 0) = (decide (q ≤ n) && tellF f (fun i_1 => min99 (fJump ((wK w 1 x (nI i)).2 0 i_1) ((blw (wK w 1 x (nI i)) n (P t) v).1 i_1))) q 0) := tell_cg hw.2.1 (fun j hj => by rw [hs2.1 j hj, hcg, (hI (nI i)).2 0 (by decide) j hj])
      rw [e6] at c59
      have e4 : (kndF w 1 n x (P t) v f q) i fd = fd := by rw [kndF, if_neg (by rw [bI_0.mp c59]; decide)]
      simp only [itr, e4] at hK
      have h2 := ih (i + 1) s2 (wK md 1 x (nI i)) fd (by omega) ⟨kI_s hI _, hK.2⟩
      rw [← nI_add i 1] at h2
      exact h2
    · conv => whnf
      have hcg := blw_cg ((hI (nI i)).wb hw.2.1 (n := n)) (wK_ok (z := nI i) (x := x) hw (by decide : 1 < 3)).a8 hpt v
      have e6 : (decide (q ≤ n) && tellF f (fun i_1 => min99 (fJump ((wK md 1 x (nI i)).2 0 i_1) (s2.1 i_1))) q 0) = (decide (q ≤ n) && tellF f (fun i_1 => min99 (fJump ((wK w 1 x (nI i)).2 0 i_1) ((blw (wK w 1 x (nI i)) n (P t) v).1 i_1))) q 0) := tell_cg hw.2.1 (fun j hj => by rw [hs2.1 j hj, hcg, (hI (nI i)).2 0 (by decide) j hj])
      rw [e6] at c59
      have e4 : (kndF w 1 n x (P t) v f q) i fd = fd ||| (nI 1 <<< (nI i &&& 31)) := by rw [kndF, if_pos (bI_n0.mp c59)]
      simp only [itr, e4] at hK
      have h2 := ih (i + 1) s2 (wK md 1 x (nI i)) _ (by omega) ⟨kI_s hI _, hK.2⟩
      rw [← nI_add i 1] at h2
      exact h2
theorem s_fig {d : Int32 × Int32 × Int32} {b : Int32 × Int32} {w : WS} {n t x q : Nat} {v : Int32} {f : Nat → Int32} {A P : Nat → Nat} {s : S3} {md : WS} (hw : wOk w n A P) (ht : t < n) (hx : x < 8) (hq : q ≤ 12) {K : Option Value → AH → Prop} (hK : ∀ s2 md2, K (some (.int (itr (kndF w 1 n x (P t) v f q) 10 0 (nI 0)))) (eC d s2 md2 b w ++ rC 16 (nI q) f)) : am_M i_X1_figuresBy [.ref 0, .ref 10, .ref 16, .int (nI t), .int v, .int (nI x)] (eC d s md b w ++ rC 16 (nI q) f) K := by
  refine e_X1_figuresBy [14] ?_
  conv => whnf
  refine f_copy (w := md) (v := w) [3, 4, 5, 6, 7, 8, 10, 11, 12, 13, 14, 15] rfl rfl rfl ⟨rfl, rfl, rfl, rfl, rfl, rfl, rfl, rfl, rfl, rfl, rfl, rfl, trivial⟩ (fun w2 hw2 => ?_)
  conv => whnf
  refine b_X1_figuresBy [14] ?_
  conv => whnf
  exact l_fig hw ht hx hq 10 0 s w2 (nI 0) rfl ⟨kI_0 hw2 (by decide), hK⟩
