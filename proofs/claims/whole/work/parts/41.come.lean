/-! SPECS: a valley comes to a wire -/
theorem wEx_join {w : WS} {n : Nat} {k f a : Int32} (h : wEx w n) (hn : n < 8) : wEx (wJoin w n k f a) (n + 1) := by
  obtain ⟨A, P, h1, h2, h3, h4⟩ := h
  refine ⟨fun j => if j = n then n else A j, fun t => if t = n then n else P t, rfl, by omega, fun j hj => ?_, fun t ht => ?_⟩
  · show upd (w.2 3) n (nI n) j = _ ∧ _
    simp only [upd]
    by_cases e : j = n
    · rw [if_pos e, if_pos e]; exact ⟨rfl, by omega, by rw [if_pos rfl]; exact e.symm⟩
    · obtain ⟨j1, j2, j3⟩ := h3 j (by omega)
      rw [if_neg e, if_neg e]; exact ⟨j1, by omega, by rw [if_neg (by omega)]; exact j3⟩
  · show upd (w.2 4) n (nI n) t = _ ∧ _
    simp only [upd]
    by_cases e : t = n
    · rw [if_pos e, if_pos e]; exact ⟨rfl, by omega, by rw [if_pos rfl]; exact e.symm⟩
    · obtain ⟨t1, t2, t3⟩ := h4 t (by omega)
      rw [if_neg e, if_neg e]; exact ⟨t1, by omega, by rw [if_neg (by omega)]; exact t3⟩
def actN (n : Nat) (f : Nat → Int32) (s : Nat) : Nat := if f s = nI 116 then n + 1 else n
theorem wEx_act {w : WS} {n q s : Nat} {f : Nat → Int32} (h : wEx w n) (hr : refF w (nI q) f s = 0) : wEx (actF w n (nI q) f s) (actN n f s) := by
  have hn := h.choose_spec.choose_spec.1
  have hn8 := h.choose_spec.choose_spec.2.1
  unfold refF at hr
  unfold actF actN
  by_cases e1 : f s = nI 99
  · rw [if_pos e1, if_neg (by rw [e1]; decide)]; exact h
  · rw [if_neg e1] at hr ⊢
    by_cases e2 : f s = nI 100
    · rw [if_pos e2, if_neg (by rw [e2]; decide)]; exact h
    · rw [if_neg e2] at hr ⊢
      by_cases e3 : f s = nI 109
      · rw [if_pos e3, if_neg (by rw [e3]; decide)]; exact h
      · rw [if_neg e3] at hr ⊢
        by_cases e4 : f s = nI 116
        · rw [if_pos e4] at hr ⊢
          rw [if_pos e4]
          rw [hn] at hr
          exact wEx_join h (fJoinR_0 hn8 hr)
        · rw [if_neg e4] at hr ⊢
          rw [if_neg e4]
          rw [hn] at hr
          obtain ⟨⟨j, hj, ej⟩, i, hi, ei⟩ := fChgR_0 (by omega) hr
          rw [ej, ei, nI_clamp (by omega), nI_clamp (by omega)]
          exact wEx_xch h hj hi
def comF (q : Nat) (f : Nat → Int32) : Nat → WS → Nat → Nat → Nat → Int32 × Option WS
  | 0, w, _, c, _ => (nI c, some w)
  | k + 1, w, n, c, s => if q ≤ s then (nI c, some w) else if refF w (nI q) f s = 0 then comF q f k (actF w n (nI q) f s) (actN n f s) (c + 1) (s + dgN (f s) + 2) else (Int32.ofInt (-2000) - nI s, none)
theorem l_com {w : WS} {q : Nat} {f : Nat → Int32} {K : Option Value → AH → Prop} (hq : q ≤ 96) : ∀ (k : Nat) (md : WS) (s : S3) (n c st : Nat), q < st + k → st ≤ 200 → wEx md n → (∀ m2, (comF q f k md n c st).2 = some m2 → ∀ s2 w2, wEq w2 m2 → K (some (.int (comF q f k md n c st).1)) (yC (nI q) f m2 s2 w2)) → ((comF q f k md n c st).2 = none → ∀ s2 md2, K (some (.int (comF q f k md n c st).1)) (yC (nI q) f md2 s2 w)) → am_E i_X8_comeTo 12 [some (.ref 0), some (.ref 10), some (.int (nI c)), some (.int (nI st))] [] (yC (nI q) f md s w) K := by
  intro k
  induction k with
  | zero =>
    intro md s n c st hk hst hex hS hN
    refine b_X8_comeTo [12] ?_
    conv => whnf
    refine ⟨fun c17 => ?_, fun c17 => absurd (nI_le (by omega) (by omega)) c17⟩
    refine b_X8_comeTo [12] ?_
    conv => whnf
    refine f_copy (w := w) (v := md) [10, 11, 12, 13, 14, 15, 2, 3, 4, 5, 6, 7] rfl rfl rfl ⟨rfl, rfl, rfl, rfl, rfl, rfl, rfl, rfl, rfl, rfl, rfl, rfl, trivial⟩ (fun w2 hw2 => ?_)
    conv => whnf
    refine b_X8_comeTo [12] ?_
    conv => whnf
    exact hS md rfl s w2 hw2
  | succ k ih =>
    intro md s n c st hk hst hex hS hN
    have e : (nI st).toNatClampNeg = st := nI_clamp (by omega)
    obtain ⟨d1, d2⟩ := dgB_N (f st)
    refine b_X8_comeTo [12] ?_
    conv => whnf
    refine ⟨fun c17 => ?_, fun c17 => ?_⟩
    · refine b_X8_comeTo [12] ?_
      conv => whnf
      refine f_copy (w := w) (v := md) [10, 11, 12, 13, 14, 15, 2, 3, 4, 5, 6, 7] rfl rfl rfl ⟨rfl, rfl, rfl, rfl, rfl, rfl, rfl, rfl, rfl, rfl, rfl, rfl, trivial⟩ (fun w2 hw2 => ?_)
      conv => whnf
      refine b_X8_comeTo [12] ?_
      conv => whnf
      have e4 : comF q f (k + 1) md n c st = (nI c, some md) := by rw [comF, if_pos ((nI_leI (by omega) (by omega)).mp c17)]
      rw [e4] at hS
      exact hS md rfl s w2 hw2
    · conv => whnf
      have hsq : st < q := by have : ¬ q ≤ st := (fun z => c17 (nI_le z (by omega))); omega
      refine s_ref (w := md) (r := fun i => 3 + i) (a := 0) (la := 1) (ta := 2) (ua := 8) (f := f) ⟨rfl, rfl⟩ hq ⟨rfl, rfl, rfl, rfl, rfl, rfl⟩ hsq ?_
      refine b_X8_comeTo [12] ?_
      conv => whnf
      refine ⟨fun c25 => ?_, fun c25 => ?_⟩
      · refine b_X8_comeTo [12] ?_
        conv => whnf
        refine s_act (md := md) hex hq hsq c25 (fun s2 => ?_)
        refine b_X8_comeTo [12] ?_
        conv => whnf
        refine ⟨(vp_in_nI (by omega) (by decide)), ?_⟩
        conv => whnf
        rw [e]
        refine s_dgB ?_
        rw [d1]
        refine b_X8_comeTo [12] ?_
        conv => whnf
        have e4 : comF q f (k + 1) md n c st = comF q f k (actF md n (nI q) f st) (actN n f st) (c + 1) (st + dgN (f st) + 2) := by rw [comF, if_neg (by omega), if_pos c25]
        rw [e4] at hS hN
        have h2 := ih (actF md n (nI q) f st) s2 (actN n f st) (c + 1) (st + dgN (f st) + 2) (by omega) (by omega) (wEx_act hex c25) hS hN
        rw [show st + dgN (f st) + 2 = st + (dgN (f st) + 2) by omega, ← nI_add st, ← nI_add (dgN (f st)) 2, ← nI_add c 1] at h2
        exact h2
      · conv => whnf
        have e4 : comF q f (k + 1) md n c st = (Int32.ofInt (-2000) - nI st, none) := by rw [comF, if_neg (by omega), if_neg c25]
        rw [e4] at hN
        exact hN rfl s md
theorem s_com {md w : WS} {n q : Nat} {f : Nat → Int32} {s : S3} (hq : q ≤ 96) (hw : wEx w n) {K : Option Value → AH → Prop} (hK : ∀ w2, wEq w2 w → (∀ m2, (comF q f (q + 1) w2 n 0 0).2 = some m2 → ∀ s2 w3, wEq w3 m2 → K (some (.int (comF q f (q + 1) w2 n 0 0).1)) (yC (nI q) f m2 s2 w3)) ∧ ((comF q f (q + 1) w2 n 0 0).2 = none → ∀ s2 md2, K (some (.int (comF q f (q + 1) w2 n 0 0).1)) (yC (nI q) f md2 s2 w))) : am_M i_X8_comeTo [.ref 0, .ref 10] (yC (nI q) f md s w) K := by
  refine e_X8_comeTo [12] ?_
  conv => whnf
  refine f_copy (w := md) (v := w) [2, 3, 4, 5, 6, 7, 10, 11, 12, 13, 14, 15] rfl rfl rfl ⟨rfl, rfl, rfl, rfl, rfl, rfl, rfl, rfl, rfl, rfl, rfl, rfl, trivial⟩ (fun w2 hw2 => ?_)
  conv => whnf
  refine b_X8_comeTo [12] ?_
  conv => whnf
  obtain ⟨A, P, hw⟩ := hw
  obtain ⟨h1, h2⟩ := hK w2 hw2
  exact l_com hq (q + 1) w2 s n 0 0 (by omega) (by omega) ⟨A, P, hw2.ok hw⟩ h1 h2
