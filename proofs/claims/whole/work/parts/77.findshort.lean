/-! SPECS of the model: the shortest walk, laid out -/
def candN (F : Nat → Nat) (k t v : Nat) : Nat := dsN (F t) (F v) + VN F (k - 2 ^ v) v
def bstN (F : Nat → Nat) (k t u b : Nat) : Prop := (b = (if k = 0 then 0 else 100000) ∧ ∀ v, v < u → bt k v = false) ∨ ((∃ v, v < u ∧ bt k v = true ∧ candN F k t v = b) ∧ ∀ v, v < u → bt k v = true → b ≤ candN F k t v)
theorem bst_0 (F : Nat → Nat) (k t : Nat) : bstN F k t 0 (if k = 0 then 0 else 100000) := Or.inl ⟨rfl, fun v hv => by omega⟩
theorem bst_no {F : Nat → Nat} {k t u b : Nat} (h : bstN F k t u b) (hb : bt k u = false) : bstN F k t (u + 1) b := by
  rcases h with ⟨h1, h2⟩ | ⟨⟨v, v1, v2, v3⟩, h2⟩
  · refine Or.inl ⟨h1, fun v hv => ?_⟩
    by_cases e : v = u
    · rw [e]; exact hb
    · exact h2 v (by omega)
  · refine Or.inr ⟨⟨v, by omega, v2, v3⟩, fun z hz hbz => ?_⟩
    by_cases e : z = u
    · rw [e, hb] at hbz; cases hbz
    · exact h2 z (by omega) hbz
theorem bst_yes {F : Nat → Nat} {k t u b : Nat} (h : bstN F k t u b) (hb : bt k u = true) (h0 : k ≠ 0) (hc : candN F k t u ≤ 27) : bstN F k t (u + 1) (if b ≤ candN F k t u then b else candN F k t u) := by
  rcases h with ⟨h1, h2⟩ | ⟨⟨v, v1, v2, v3⟩, h2⟩
  · rw [if_neg h0] at h1
    rw [if_neg (by omega)]
    refine Or.inr ⟨⟨u, by omega, hb, rfl⟩, fun z hz hbz => ?_⟩
    by_cases e : z = u
    · rw [e]; exact Nat.le_refl _
    · rw [h2 z (by omega)] at hbz; cases hbz
  · by_cases q : b ≤ candN F k t u
    · rw [if_pos q]
      refine Or.inr ⟨⟨v, by omega, v2, v3⟩, fun z hz hbz => ?_⟩
      by_cases e : z = u
      · rw [e]; exact q
      · exact h2 z (by omega) hbz
    · rw [if_neg q]
      refine Or.inr ⟨⟨u, by omega, hb, rfl⟩, fun z hz hbz => ?_⟩
      by_cases e : z = u
      · rw [e]; exact Nat.le_refl _
      · have := h2 z (by omega) hbz; omega
theorem bst_n {F : Nat → Nat} {n k t b : Nat} (hn : n ≤ 8) (hk : k < 2 ^ n) (hF : ∀ t, F t ≤ 9) (h : bstN F k t n b) : b = VN F k t := by
  have hk8 : k < 256 := Nat.lt_of_lt_of_le hk (by have : ∀ n, n ≤ 8 → 2 ^ n ≤ 256 := by decide +kernel
                                                  exact this n hn)
  by_cases h0 : k = 0
  · subst h0
    rcases h with ⟨h1, -⟩ | ⟨⟨v, v1, v2, -⟩, -⟩
    · rw [h1, VN_0]; rfl
    · have : ∀ j, j < 8 → bt 0 j = false := by decide +kernel
      rw [this v (by omega)] at v2; cases v2
  · obtain ⟨⟨u, u1, u2, u3⟩, r2⟩ := VN_rec (t := t) hk8 h0 (fun j _ => hF j)
    have hun : u < n := by
      by_cases q : n ≤ u
      · rw [bt_hi n hn k hk u u1 q] at u2; cases u2
      · omega
    rcases h with ⟨-, h2⟩ | ⟨⟨v, v1, v2, v3⟩, h2⟩
    · rw [h2 u hun] at u2; cases u2
    · have a := h2 u hun u2
      have c := r2 v (by omega) v2
      have d : candN F k t u = dsN (F t) (F u) + VN F (k - 2 ^ u) u := rfl
      have e : candN F k t v = dsN (F t) (F v) + VN F (k - 2 ^ v) v := rfl
      omega
theorem cand_le {F : Nat → Nat} {k t v : Nat} (hk : k < 256) (hv : v < 8) (hF : ∀ t, F t ≤ 9) : candN F k t v ≤ 27 := by
  have a := VN_le (c := F) (k := k - 2 ^ v) (t := v) (Nat.lt_of_le_of_lt (Nat.sub_le _ _) hk) hv (fun j _ => hF j)
  have b := hF t
  have c := hF v
  unfold candN dsN
  omega
theorem far_N {a b : Nat} (ha : a ≤ 9) (hb : b ≤ 9) : fFar (nI a) (nI b) = nI (dsN a b) := by
  have : ∀ a, a < 10 → ∀ b, b < 10 → fFar (nI a) (nI b) = nI (dsN a b) := by decide +kernel
  exact this a (by omega) b (by omega)
/-- the table is right up to a set -/
def TOK (F : Nat → Nat) (n k : Nat) (T : Nat → Int32) : Prop := ∀ q, q < k → ∀ t, t < n → T (8 * q + t) = nI (VN F q t)
theorem TOK.up {F : Nat → Nat} {n k t : Nat} {T : Nat → Int32} (hn : n ≤ 8) (h : TOK F n k T) (ht : ∀ s, s < t → T (8 * k + s) = nI (VN F k s)) : TOK F n k (upd T (8 * k + t) (nI (VN F k t))) ∧ ∀ s, s < t + 1 → upd T (8 * k + t) (nI (VN F k t)) (8 * k + s) = nI (VN F k s) := by
  constructor
  · intro q hq s hs
    exact (if_neg (by omega)).trans (h q hq s hs)
  · intro s hs
    by_cases e : s = t
    · subst e; exact if_pos rfl
    · exact (if_neg (by omega)).trans (ht s (by omega))
theorem ml_s1 {M : MS} {w : WS} {n : Nat} {A P : Nat → Nat} {s : S3} {k t : Nat} {T : Nat → Int32} (h : mX M w n A P) (hg : wGn w n) (hk : k < 256) (ht : t < n) (hT : TOK (cF w n) n k T) {K : Option Value → AH → Prop} (hK : ∀ b, bstN (cF w n) k t n b → am_E i_X12_findShortest 114 [some (.ref 0), some (.int (nI (k))), some (.int (nI (t))), some (.int (nI (b))), none, none] [] (mC (setA M 13 (T)) s.1 s.2.2) K) : ∀ (q u b : Nat), u + q = n → b ≤ 100000 → bstN (cF w n) k t u b → am_E i_X12_findShortest 36 [some (.ref 0), some (.int (nI (k))), some (.int (nI (t))), some (.int (nI (b))), some (.int (nI (u))), none] [] (mC (setA M 13 (T)) s.1 s.2.2) K := by
  have hn := h.n
  have hn8 := h.n8
  obtain ⟨f1, f2⟩ := cF_ok hg
  intro q
  induction q with
  | zero =>
    intro u b hu hb hB
    obtain rfl : u = n := by omega
    refine b_X12_findShortest [36, 114] ?_
    conv => whnf
    refine ⟨fun c42 => ?_, fun c42 => absurd (by show M.1 5 ≤ nI u; rw [hn]; exact nI_le (by omega) (by omega)) c42⟩
    exact am_wk (by exact ⟨Or.inr rfl, Or.inr rfl, Or.inr rfl, Or.inr rfl, Or.inl rfl, Or.inl rfl, trivial⟩) (hK b hB)
  | succ q ih =>
    intro u b hu hb hB
    refine b_X12_findShortest [36, 114] ?_
    conv => whnf
    refine ⟨fun c42 => absurd c42 (by show ¬ M.1 5 ≤ nI u; rw [hn]; exact nI_ge (by omega) (by omega)), fun c42 => ?_⟩
    conv => whnf
    refine m_hs (by omega) ?_
    refine b_X12_findShortest [36, 114] ?_
    conv => whnf
    refine ⟨fun c51 => ?_, fun c51 => ?_⟩
    · conv => whnf
      refine b_X12_findShortest [36, 114] ?_
      conv => whnf
      have h9 := ih (u + 1) (b) (by omega) (by omega) (bst_no hB (by rw [← bt_N k hk u (by omega), ← hasB_N _ _ (by omega)]; exact bI_0.mp c51))
      rw [← nI_add u 1] at h9
      exact am_wk (by exact ⟨Or.inr rfl, Or.inr rfl, Or.inr rfl, Or.inr rfl, Or.inr rfl, Or.inl rfl, trivial⟩) h9
    · refine b_X12_findShortest [36, 114] ?_
      conv => whnf
      have hbu : bt k u = true := by rw [← bt_N k hk u (by omega), ← hasB_N _ _ (by omega)]; exact bI_n0.mp c51
      have hk0 : k ≠ 0 := fun z => by
        rw [z] at hbu
        have : ∀ j, j < 8 → bt 0 j = false := by decide +kernel
        rw [this u (by omega)] at hbu; cases hbu
      have hle := bt_le k hk u (by omega) hbu
      have hlt : k - 2 ^ u < k := Nat.sub_lt (by omega) (Nat.pow_pos (by decide))
      have eix : nI 8 * (nI k &&& ((nI 1 <<< (nI u &&& 31)) ^^^ Int32.ofInt (-1))) + nI u = nI (8 * (k - 2 ^ u) + u) := by rw [bt_and k hk u (by omega), if_pos hbu, nI_mulN, nI_add]
      have hcd := cand_le (t := t) hk (show u < 8 by omega) f2
      have ecd : nI (dsN (cF w n t) (cF w n u)) + nI (VN (cF w n) (k - 2 ^ u) u) = nI (candN (cF w n) k t u) := nI_add _ _
      refine ⟨(vp_in_nI (show t < 8 by omega) (by decide)), ?_⟩
      rw [nI_clamp (show t < 2 ^ 31 by omega)]
      rw [show (setA M 13 T).2 3 t = nI (cF w n t) from (h.a (by omega)).trans (f1 t ht)]
      conv => whnf
      refine ⟨(vp_in_nI (show u < 8 by omega) (by decide)), ?_⟩
      rw [nI_clamp (show u < 2 ^ 31 by omega)]
      rw [show (setA M 13 T).2 3 u = nI (cF w n u) from (h.a (by omega)).trans (f1 u (by omega))]
      conv => whnf
      refine m_far ?_
      rw [far_N (f2 t) (f2 u)]
      refine b_X12_findShortest [36, 114] ?_
      conv => whnf
      refine ⟨(by rw [eix]; exact vp_in_nI (show 8 * (k - 2 ^ u) + u < 2048 by omega) (by decide)), ?_⟩
      rw [eix, nI_clamp (show 8 * (k - 2 ^ u) + u < 2 ^ 31 by omega)]
      rw [show (setA M 13 T).2 13 (8 * (k - 2 ^ u) + u) = nI (VN (cF w n) (k - 2 ^ u) u) from hT _ hlt u (by omega)]
      conv => whnf
      rw [ecd]
      refine ⟨fun c98 => ?_, fun c98 => ?_⟩
      · refine b_X12_findShortest [36, 114] ?_
        conv => whnf
        have h8 := bst_yes hB hbu hk0 hcd
        rw [if_pos ((nI_leI (by omega) (by omega)).mp c98)] at h8
        have h9 := ih (u + 1) (b) (by omega) (by omega) (h8)
        rw [← nI_add u 1] at h9
        exact am_wk (by exact ⟨Or.inr rfl, Or.inr rfl, Or.inr rfl, Or.inr rfl, Or.inr rfl, Or.inl rfl, trivial⟩) h9
      · conv => whnf
        refine b_X12_findShortest [36, 114] ?_
        conv => whnf
        have h8 := bst_yes hB hbu hk0 hcd
        rw [if_neg (fun z => c98 (nI_le z (by omega)))] at h8
        have h9 := ih (u + 1) (candN (cF w n) k t u) (by omega) (by omega) (h8)
        rw [← nI_add u 1] at h9
        exact am_wk (by exact ⟨Or.inr rfl, Or.inr rfl, Or.inr rfl, Or.inr rfl, Or.inr rfl, Or.inl rfl, trivial⟩) h9
theorem pw256 {n k : Nat} (hn : n ≤ 8) (hk : k < 2 ^ n) : k < 256 := Nat.lt_of_lt_of_le hk (by
  have : ∀ n, n ≤ 8 → 2 ^ n ≤ 256 := by decide +kernel
  exact this n hn)
theorem TOK.s {F : Nat → Nat} {n k : Nat} {T : Nat → Int32} (h : TOK F n k T) (ht : ∀ s, s < n → T (8 * k + s) = nI (VN F k s)) : TOK F n (k + 1) T := by
  intro q hq s hs
  by_cases e : q = k
  · subst e; exact ht s hs
  · exact h q (by omega) s hs
theorem ml_s2 {M : MS} {w : WS} {n : Nat} {A P : Nat → Nat} {s : S3} {k : Nat} (h : mX M w n A P) (hg : wGn w n) (hk : k < 2 ^ n) {K : Option Value → AH → Prop} (hK : ∀ T2, TOK (cF w n) n (k + 1) T2 → am_E i_X12_findShortest 132 [some (.ref 0), some (.int (nI (k))), none, none, none, none] [] (mC (setA M 13 (T2)) s.1 s.2.2) K) : ∀ (q t : Nat) (T : Nat → Int32), t + q = n → TOK (cF w n) n k T → (∀ s, s < t → T (8 * k + s) = nI (VN (cF w n) k s)) → am_E i_X12_findShortest 14 [some (.ref 0), some (.int (nI (k))), some (.int (nI (t))), none, none, none] [] (mC (setA M 13 (T)) s.1 s.2.2) K := by
  have hn := h.n
  have hn8 := h.n8
  obtain ⟨f1, f2⟩ := cF_ok hg
  have hk8 := pw256 hn8 hk
  intro q
  induction q with
  | zero =>
    intro t T hu hT ht
    obtain rfl : t = n := by omega
    refine b_X12_findShortest [14, 132] ?_
    conv => whnf
    refine ⟨fun c19 => ?_, fun c19 => absurd (by show M.1 5 ≤ nI t; rw [hn]; exact nI_le (by omega) (by omega)) c19⟩
    exact am_wk (by exact ⟨Or.inr rfl, Or.inr rfl, Or.inl rfl, Or.inl rfl, Or.inl rfl, Or.inl rfl, trivial⟩) (hK T (hT.s ht))
  | succ q ih =>
    intro t T hu hT ht
    refine b_X12_findShortest [14, 36] ?_
    conv => whnf
    refine ⟨fun c19 => absurd c19 (by show ¬ M.1 5 ≤ nI t; rw [hn]; exact nI_ge (by omega) (by omega)), fun c19 => ?_⟩
    conv => whnf
    refine ⟨fun c23 => ?_, fun c23 => ?_⟩
    · conv => whnf
      refine b_X12_findShortest [14, 36] ?_
      conv => whnf
      have hk0 : k = 0 := (nI_eq (b := 0) (by omega) (by decide)).mp c23
      have hb0 := bst_0 (cF w n) k t
      rw [if_pos hk0] at hb0
      refine am_wk (by exact ⟨Or.inr rfl, Or.inr rfl, Or.inr rfl, Or.inr rfl, Or.inr rfl, Or.inl rfl, trivial⟩) (ml_s1 h hg hk8 (by omega) hT (fun b hb => ?_) n 0 0 (by omega) (by omega) hb0)
      obtain rfl := bst_n hn8 hk f2 hb
      refine b_X12_findShortest [14] ?_
      conv => whnf
      refine ⟨(by rw [nI_mulN, nI_add]; exact vp_in_nI (show 8 * k + t < 2048 by omega) (by decide)), ?_⟩
      rw [nI_mulN, nI_add, nI_clamp (show 8 * k + t < 2 ^ 31 by omega)]
      conv => whnf
      obtain ⟨u1, u2⟩ := hT.up hn8 ht
      have h9 := ih (t + 1) _ (by omega) u1 u2
      rw [← nI_add t 1] at h9
      exact am_wk (by exact ⟨Or.inr rfl, Or.inr rfl, Or.inr rfl, Or.inl rfl, Or.inl rfl, Or.inl rfl, trivial⟩) h9
    · refine b_X12_findShortest [14, 36] ?_
      conv => whnf
      have hk0 : ¬ k = 0 := fun z => c23 (by rw [z]; decide)
      have hb0 := bst_0 (cF w n) k t
      rw [if_neg hk0] at hb0
      refine am_wk (by exact ⟨Or.inr rfl, Or.inr rfl, Or.inr rfl, Or.inr rfl, Or.inr rfl, Or.inl rfl, trivial⟩) (ml_s1 h hg hk8 (by omega) hT (fun b hb => ?_) n 0 100000 (by omega) (by omega) hb0)
      obtain rfl := bst_n hn8 hk f2 hb
      refine b_X12_findShortest [14] ?_
      conv => whnf
      refine ⟨(by rw [nI_mulN, nI_add]; exact vp_in_nI (show 8 * k + t < 2048 by omega) (by decide)), ?_⟩
      rw [nI_mulN, nI_add, nI_clamp (show 8 * k + t < 2 ^ 31 by omega)]
      conv => whnf
      obtain ⟨u1, u2⟩ := hT.up hn8 ht
      have h9 := ih (t + 1) _ (by omega) u1 u2
      rw [← nI_add t 1] at h9
      exact am_wk (by exact ⟨Or.inr rfl, Or.inr rfl, Or.inr rfl, Or.inl rfl, Or.inl rfl, Or.inl rfl, trivial⟩) h9
theorem ml_s3 {M : MS} {w : WS} {n : Nat} {A P : Nat → Nat} {s : S3} (h : mX M w n A P) (hg : wGn w n) {K : Option Value → AH → Prop} (hK : ∀ T2, TOK (cF w n) n (2 ^ n) T2 → K none (mC (setA M 13 (T2)) s.1 s.2.2)) : ∀ (q k : Nat) (T : Nat → Int32), k + q = 2 ^ n → TOK (cF w n) n k T → am_E i_X12_findShortest 2 [some (.ref 0), some (.int (nI (k))), none, none, none, none] [] (mC (setA M 13 (T)) s.1 s.2.2) K := by
  have hn := h.n
  have hn8 := h.n8
  have hp : 2 ^ n ≤ 256 := by
    have : ∀ n, n ≤ 8 → 2 ^ n ≤ 256 := by decide +kernel
    exact this n hn8
  have hsh : nI 1 <<< (M.1 5 &&& 31) = nI (2 ^ n) := by
    rw [hn]
    have : ∀ n, n ≤ 8 → nI 1 <<< (nI n &&& 31) = nI (2 ^ n) := by decide +kernel
    exact this n hn8
  intro q
  induction q with
  | zero =>
    intro k T hu hT
    obtain rfl : k = 2 ^ n := by omega
    refine b_X12_findShortest [2] ?_
    conv => whnf
    refine ⟨fun c9 => ?_, fun c9 => absurd (by show nI 1 <<< (M.1 5 &&& 31) ≤ nI (2 ^ n); rw [hsh]; exact nI_le (Nat.le_refl _) (by omega)) c9⟩
    refine b_X12_findShortest [2] ?_
    conv => whnf
    exact hK T hT
  | succ q ih =>
    intro k T hu hT
    refine b_X12_findShortest [2, 14] ?_
    conv => whnf
    refine ⟨fun c9 => absurd c9 (by show ¬ nI 1 <<< (M.1 5 &&& 31) ≤ nI k; rw [hsh]; exact nI_ge (by omega) (by omega)), fun c9 => ?_⟩
    conv => whnf
    refine am_wk (by exact ⟨Or.inr rfl, Or.inr rfl, Or.inr rfl, Or.inl rfl, Or.inl rfl, Or.inl rfl, trivial⟩) (ml_s2 h hg (by omega) (fun T2 hT2 => ?_) n 0 T (by omega) hT (fun s hs => by omega))
    refine b_X12_findShortest [2] ?_
    conv => whnf
    have h9 := ih (k + 1) T2 (by omega) hT2
    rw [← nI_add k 1] at h9
    exact am_wk (by exact ⟨Or.inr rfl, Or.inr rfl, Or.inl rfl, Or.inl rfl, Or.inl rfl, Or.inl rfl, trivial⟩) h9
theorem m_fs {M : MS} {w : WS} {n : Nat} {A P : Nat → Nat} {s : S3} (h : mX M w n A P) (hg : wGn w n) {K : Option Value → AH → Prop} (hK : ∀ T2, TOK (cF w n) n (2 ^ n) T2 → K none (mC (setA M 13 (T2)) s.1 s.2.2)) : am_M i_X12_findShortest [.ref 0] (mC M s.1 s.2.2) K := by
  have e : setA M 13 (M.2 13) = M := setA_same rfl
  refine e_X12_findShortest [2] ?_
  conv => whnf
  have h9 := ml_s3 (s := s) h hg hK (2 ^ n) 0 (M.2 13) (by omega) (fun q hq => by omega)
  rw [e] at h9
  exact am_wk (by exact ⟨Or.inr rfl, Or.inr rfl, Or.inl rfl, Or.inl rfl, Or.inl rfl, Or.inl rfl, trivial⟩) h9
