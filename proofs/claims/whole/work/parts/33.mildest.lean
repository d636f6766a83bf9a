/-! SPECS: the mildest order -/
def mbbF (w : WS) (n : Nat) (v en : Int32) : Nat → Nat → Int32 → Int32
  | 0, _, x => x
  | k + 1, i, x => if en ≤ x then x else mbbF w n v en k (i + 1) (maxI x (fBc (blw w n (plW w i) v).2.2))
def mldS (w : WS) (n : Nat) (v l : Int32) (f : Nat → Int32) : Int32 × (Nat → Int32) := if mbbF w n v l n 0 (nI 0) < l then (mbbF w n v l n 0 (nI 0), va_cpy (w.2 3) f 0 0 8) else (l, f)
def mldF (n : Nat) (v : Int32) : Nat → WS → Int32 → (Nat → Int32) → Int32 × (Nat → Int32)
  | 0, _, l, f => (l, f)
  | k + 1, w, l, f => if (mldS w n v l f).1 = 0 then mldS w n v l f else match nxO w n with
    | none => mldS w n v l f
    | some w2 => mldF n v k w2 (mldS w n v l f).1 (mldS w n v l f).2
theorem mldF_0 {n : Nat} {v l : Int32} {f f2 : Nat → Int32} {w : WS} {k : Nat} {l2 : Int32} (e : mldS w n v l f = (l2, f2)) (h : l2 = 0) : mldF n v (k + 1) w l f = (l2, f2) := by
  rw [mldF, e, if_pos h]
theorem mldF_n {n : Nat} {v l : Int32} {f f2 : Nat → Int32} {w : WS} {k : Nat} {l2 : Int32} (e : mldS w n v l f = (l2, f2)) (h : ¬ l2 = 0) (ex : nxO w n = none) : mldF n v (k + 1) w l f = (l2, f2) := by
  rw [mldF, e, if_neg h, ex]
theorem mldF_2 {n : Nat} {v l : Int32} {f f2 : Nat → Int32} {w w2 : WS} {k : Nat} {l2 : Int32} (e : mldS w n v l f = (l2, f2)) (h : ¬ l2 = 0) (ex : nxO w n = some w2) : mldF n v (k + 1) w l f = mldF n v k w2 l2 f2 := by
  rw [mldF, e, if_neg h, ex]
theorem f_nextO {w : WS} {n : Nat} {H : AH} {b1 : Nat} {K : Option Value → AH → Prop} (ps : List Nat) (hn : w.1 0 = nI n) (hn8 : n ≤ 8) (hat : at8 w n) (hnd : am_ndp ps = true) (h1 : am_pl ps 0 = b1) (hc : am_cut ps H ps (wC 0 w)) (hk0 : nxO w n = none → am_psK ps ps (wC 0 w) H (fun H2 => K (some (.int (nI 0))) H2)) (hk1 : ∀ w2, nxO w n = some w2 → am_psK ps ps (wC 0 w2) H (fun H2 => K (some (.int (nI 1))) H2)) : am_M i_X10_layNextOrder [.ref b1] H K := by
  subst h1
  refine am_frZ (Z := Option WS) (P := fun z => nxO w n = z) (r0 := fun z => match z with | none => some (.int (nI 0)) | some _ => some (.int (nI 1))) (h2 := fun z => match z with | none => wC 0 w | some w2 => wC 0 w2) ps (fun K hK => s_nextO hn hn8 hat (fun e => hK none e) (fun w2 e => hK (some w2) e)) rfl hnd hc (fun z => by cases z <;> rfl) (fun z hz => ?_)
  cases z with
  | none => exact hk0 hz
  | some w2 => exact hk1 w2 hz
theorem f_lay {w : WS} {n : Nat} {H : AH} {b1 : Nat} {K : Option Value → AH → Prop} (ps : List Nat) (hn : w.1 0 = nI n) (hn8 : n ≤ 8) (hnd : am_ndp ps = true) (h1 : am_pl ps 0 = b1) (hc : am_cut ps H ps (wC 0 w)) (hk : am_psK ps ps (wC 0 (itr layF n 0 (wI w 2 (nI 0)))) H (fun H2 => K none H2)) : am_M i_X10_layInTurnUncut [.ref b1] H K := by
  subst h1
  exact am_fr ps (fun K hK => s_lay hn hn8 hK) rfl hnd hc rfl hk
theorem lay_at (n : Nat) : ∀ (k i : Nat) (w : WS) , (∀ j, j < n → j < i → w.2 3 j = nI j ∧ w.2 4 j = nI j) → i + k = n → (itr layF k i w).1 = w.1 ∧ ∀ j, j < n → (itr layF k i w).2 3 j = nI j ∧ (itr layF k i w).2 4 j = nI j := by
  intro k
  induction k with
  | zero => intro i w h hi; exact ⟨rfl, fun j hj => h j hj (by omega)⟩
  | succ k ih =>
    intro i w h hi
    rw [itr]
    refine ih (i + 1) (layF i w) (fun j hj hji => ?_) (by omega)
    show upd (w.2 3) i (nI i) j = _ ∧ upd (w.2 4) i (nI i) j = _
    simp only [upd]
    by_cases e : j = i
    · rw [if_pos e, if_pos e, e]; exact ⟨rfl, rfl⟩
    · rw [if_neg e, if_neg e]; exact h j hj (by omega)
theorem lay_ok {w : WS} {n : Nat} (hn : w.1 0 = nI n) (hn8 : n ≤ 8) (z : Int32) : wEx (itr layF n 0 (wI w 2 z)) n := by
  obtain ⟨h1, h2⟩ := lay_at n n 0 (wI w 2 z) (fun j _ h => by omega) (by omega)
  refine ⟨fun j => j, fun j => j, by rw [h1]; exact hn, hn8, fun j hj => ⟨(h2 j hj).1, hj, rfl⟩, fun j hj => ⟨(h2 j hj).2, hj, rfl⟩⟩
theorem l_mbb {md w : WS} {n : Nat} {v en : Int32} {A : Nat → Nat} {f g : Nat → Int32} {K : Option Value → AH → Prop} (hw : wOk md n A (plW md)) : ∀ (k i : Nat) (s : S3) (x : Int32), i + k = n → (∀ s2, K (some (.int (mbbF md n v en k i x))) (oC s2 md f g w)) → am_E i_X4_mostBrokenBut 5 [some (.ref 0), some (.int v), some (.int en), some (.int x), some (.int (nI i))] [] (oC s md f g w) K := by
  intro k
  induction k with
  | zero =>
    intro i s x hi hK
    obtain rfl : i = n := by omega
    refine b_X4_mostBrokenBut [5] ?_
    conv => whnf
    refine ⟨fun c14 => ?_, fun c14 => absurd (by rw [hw.1]; exact nI_le (Nat.le_refl _) (by have := hw.2.1; omega)) c14⟩
    refine b_X4_mostBrokenBut [5] ?_
    conv => whnf
    exact hK s
  | succ k ih =>
    intro i s x hi hK
    refine b_X4_mostBrokenBut [5] ?_
    conv => whnf
    refine ⟨fun c14 => absurd c14 (by rw [hw.1]; exact nI_ge (by omega) (by have := hw.2.1; omega)), fun c14 => ?_⟩
    conv => whnf
    refine ⟨fun c19 => ?_, fun c19 => ?_⟩
    · refine b_X4_mostBrokenBut [5] ?_
      conv => whnf
      rw [mbbF, if_pos c19] at hK
      exact hK s
    · conv => whnf
      refine f_strike (s := s) (w := md) [1, 2, 3, 4, 5, 6, 7, 8] hw (by omega) rfl rfl rfl ⟨rfl, rfl, rfl, rfl, rfl, rfl, rfl, rfl, trivial⟩ (fun s2 hs2 => ?_)
      conv => whnf
      refine b_X4_mostBrokenBut [5] ?_
      conv => whnf
      refine s_brokenCount (s := s2) ⟨rfl, rfl⟩ ?_
      refine b_X4_mostBrokenBut [5] ?_
      conv => whnf
      have e4 : mbbF md n v en (k + 1) i x = mbbF md n v en k (i + 1) (maxI x (fBc s2.2.2)) := by rw [mbbF, if_neg c19, hs2.2]
      rw [e4] at hK
      have h2 := ih (i + 1) s2 _ (by omega) hK
      rw [← nI_add i 1] at h2
      exact h2
theorem s_mbb {md w : WS} {n : Nat} {v en : Int32} {f g : Nat → Int32} {s : S3} (hw : wEx md n) {K : Option Value → AH → Prop} (hK : ∀ s2, K (some (.int (mbbF md n v en n 0 (nI 0)))) (oC s2 md f g w)) : am_M i_X4_mostBrokenBut [.ref 0, .int v, .int en] (oC s md f g w) K := by
  obtain ⟨A, hw⟩ := hw.pl
  refine e_X4_mostBrokenBut [5] ?_
  conv => whnf
  exact l_mbb hw n 0 s (nI 0) (by omega) hK
theorem l_mldB {md w : WS} {n i : Nat} {v l : Int32} {f g : Nat → Int32} {s : S3} {K : Option Value → AH → Prop} (hw : wEx md n) (h0 : l = 0 → K (some (.int l)) (oC s md f g w)) (h1 : ¬ l = 0 → nxO md n = none → K (some (.int l)) (oC s md f g w)) (h2 : ¬ l = 0 → ∀ w2, nxO md n = some w2 → am_E i_X4_mildest 21 [some (.ref 0), some (.ref 11), some (.int v), some (.int l), some (.int (nI (i + 1))), none] [] (oC s w2 f g w) K) : am_E i_X4_mildest 64 [some (.ref 0), some (.ref 11), some (.int v), some (.int l), some (.int (nI i)), none] [] (oC s md f g w) K := by
  obtain ⟨A, hw⟩ := hw.pl
  refine b_X4_mildest [21] ?_
  conv => whnf
  refine ⟨fun c65 => ?_, fun c65 => ?_⟩
  · refine b_X4_mildest [21] ?_
    conv => whnf
    exact h0 c65
  · conv => whnf
    refine f_nextO (w := md) (n := n) [3, 4, 5, 6, 7, 8] hw.1 hw.2.1 hw.at8 rfl rfl ⟨rfl, rfl, rfl, rfl, rfl, rfl, trivial⟩ (fun ex => ?_) (fun w2 ex => ?_)
    · conv => whnf
      refine b_X4_mildest [21] ?_
      conv => whnf
      refine ⟨fun c75 => ?_, fun c75 => absurd (by decide) c75⟩
      conv => whnf
      refine b_X4_mildest [21] ?_
      conv => whnf
      exact h1 c65 ex
    conv => whnf
    refine b_X4_mildest [21] ?_
    conv => whnf
    refine ⟨fun c75 => absurd c75 (by decide), fun c75 => ?_⟩
    refine b_X4_mildest [21] ?_
    conv => whnf
    have h3 := h2 c65 w2 ex
    rw [← nI_add i 1] at h3
    exact am_wk (by exact ⟨Or.inr rfl, Or.inr rfl, Or.inr rfl, Or.inr rfl, Or.inr rfl, Or.inl rfl, trivial⟩) h3
theorem l_mld {w : WS} {n : Nat} {v : Int32} {g : Nat → Int32} {K : Option Value → AH → Prop}  : ∀ (k i : Nat) (s : S3) (md : WS) (l : Int32) (f : Nat → Int32), i + k = 720 → (wEx md n ∧ ∀ s2 md2, K (some (.int (mldF n v k md l f).1)) (oC s2 md2 (mldF n v k md l f).2 g w)) → am_E i_X4_mildest 21 [some (.ref 0), some (.ref 11), some (.int v), some (.int l), some (.int (nI i)), none] [] (oC s md f g w) K := by
  intro k
  induction k with
  | zero =>
    intro i s md l f hi hK
    obtain rfl : i = 720 := by omega
    refine b_X4_mildest [21, 64] ?_
    conv => whnf
    refine ⟨fun c26 => ?_, fun c26 => absurd (by decide) c26⟩
    refine b_X4_mildest [21, 64] ?_
    conv => whnf
    exact hK.2 s md
  | succ k ih =>
    intro i s md l f hi hK
    refine b_X4_mildest [21, 64] ?_
    conv => whnf
    refine ⟨fun c26 => absurd c26 (by exact nI_ge (by omega) (by omega)), fun c26 => ?_⟩
    conv => whnf
    refine s_mbb hK.1 (fun s2 => ?_)
    refine b_X4_mildest [21, 64] ?_
    conv => whnf
    refine ⟨fun c40 => ?_, fun c40 => ?_⟩
    · have e9 : mldS md n v l f = (l, f) := by rw [mldS, if_neg (by rw [Int32.not_lt]; exact c40)]
      refine am_wk (by exact ⟨Or.inr rfl, Or.inr rfl, Or.inr rfl, Or.inr rfl, Or.inr rfl, Or.inl rfl, trivial⟩) (l_mldB (w := w) (l := l) (f := f) hK.1 (fun c => ?_) (fun c ex => ?_) (fun c w2 ex => ?_))
      · have h3 := hK.2 s2 md
        rw [mldF_0 e9 c] at h3
        exact h3
      · have h3 := hK.2 s2 md
        rw [mldF_n e9 c ex] at h3
        exact h3
      · refine ih (i + 1) s2 w2 _ _ (by omega) ⟨wEx_nx hK.1 ex, fun s3 md3 => ?_⟩
        have h3 := hK.2 s3 md3
        rw [mldF_2 e9 c ex] at h3
        exact h3
    · conv => whnf
      refine ⟨(by decide), ?_⟩
      conv => whnf
      have e9 : mldS md n v l f = (mbbF md n v l n 0 (nI 0), va_cpy (md.2 3) f 0 0 8) := by rw [mldS, if_pos (by rw [← Int32.not_le]; exact c40)]
      refine am_wk (by exact ⟨Or.inr rfl, Or.inr rfl, Or.inr rfl, Or.inr rfl, Or.inr rfl, Or.inl rfl, trivial⟩) (l_mldB (w := w) (l := mbbF md n v l n 0 (nI 0)) (f := va_cpy (md.2 3) f 0 0 8) hK.1 (fun c => ?_) (fun c ex => ?_) (fun c w2 ex => ?_))
      · have h3 := hK.2 s2 md
        rw [mldF_0 e9 c] at h3
        exact h3
      · have h3 := hK.2 s2 md
        rw [mldF_n e9 c ex] at h3
        exact h3
      · refine ih (i + 1) s2 w2 _ _ (by omega) ⟨wEx_nx hK.1 ex, fun s3 md3 => ?_⟩
        have h3 := hK.2 s3 md3
        rw [mldF_2 e9 c ex] at h3
        exact h3
theorem s_mld {md w : WS} {n : Nat} {v : Int32} {f g : Nat → Int32} {s : S3} {A P : Nat → Nat} (hw : wOk w n A P) {K : Option Value → AH → Prop} (hK : ∀ w2, wEq w2 w → ∀ s2 md2, K (some (.int (mldF n v 720 (itr layF n 0 (wI w2 2 (nI 0))) (nI 9) f).1)) (oC s2 md2 (mldF n v 720 (itr layF n 0 (wI w2 2 (nI 0))) (nI 9) f).2 g w)) : am_M i_X4_mildest [.ref 0, .ref 11, .int v] (oC s md f g w) K := by
  refine e_X4_mildest [21] ?_
  conv => whnf
  refine f_copy (w := md) (v := w) [3, 4, 5, 6, 7, 8, 11, 12, 13, 14, 15, 16] rfl rfl rfl ⟨rfl, rfl, rfl, rfl, rfl, rfl, rfl, rfl, rfl, rfl, rfl, rfl, trivial⟩ (fun w2 hw2 => ?_)
  conv => whnf
  refine b_X4_mildest [21] ?_
  conv => whnf
  refine f_lay (w := w2) (n := n) [3, 4, 5, 6, 7, 8] (hw2.ok hw).1 hw.2.1 rfl rfl ⟨rfl, rfl, rfl, rfl, rfl, rfl, trivial⟩ ?_
  conv => whnf
  refine b_X4_mildest [21] ?_
  conv => whnf
  exact am_wk (by exact ⟨Or.inr rfl, Or.inr rfl, Or.inr rfl, Or.inr rfl, Or.inr rfl, Or.inl rfl, trivial⟩) (l_mld 720 0 s (itr layF n 0 (wI w2 2 (nI 0))) (nI 9) f rfl ⟨lay_ok (hw2.ok hw).1 hw.2.1 _, hK w2 hw2⟩)
