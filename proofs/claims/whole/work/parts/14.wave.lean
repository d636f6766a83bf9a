/-! SPECS: a wave along a wire -/
abbrev WS : Type := (Nat → Int32) × (Nat → Nat → Int32)
def wO (b : Nat) (w : WS) : AC := .inr (.inr (9, [.int (w.1 0), .int (w.1 1), .int (w.1 2), .int (w.1 3), .ref (b + 1), .ref (b + 2), .ref (b + 3), .ref (b + 4), .ref (b + 5)]))
def wC (b : Nat) (w : WS) : AH := [wO b w, .inl (8, w.2 0), .inl (8, w.2 1), .inl (8, w.2 2), .inl (8, w.2 3), .inl (8, w.2 4)]
abbrev S3 : Type := (Nat → Int32) × Int32 × Int32
def uC (b : Nat) (s : S3) : AH := [.inr (.inr (8, [.ref (b + 1), .int s.2.1, .int s.2.2])), .inl (8, s.1)]
/-- a wire in order: n things, their order A, their places P -/
def wOk (w : WS) (n : Nat) (A P : Nat → Nat) : Prop := w.1 0 = nI n ∧ n ≤ 8 ∧ (∀ j, j < n → w.2 3 j = nI (A j) ∧ A j < n ∧ P (A j) = j) ∧ ∀ t, t < n → w.2 4 t = nI (P t) ∧ P t < n ∧ A (P t) = t
theorem bI_n0 {b : Bool} : ¬ bI b = 0 ↔ b = true := by cases b <;> decide
def land1 (t r : Int32) (s : S3) : S3 := (upd s.1 t.toNatClampNeg r, s.2.1 ||| (nI 1 <<< (t &&& 31)), s.2.2)
def vic1 (t : Int32) (s : S3) : S3 := (s.1, s.2.1, s.2.2 ||| (nI 1 <<< (t &&& 31)))
def upF (w : WS) : Nat → Nat → Int32 → S3 → S3
  | 0, _, _, s => s
  | k + 1, j, r, s => if r ≤ 0 then s else if hasB (w.1 1) (w.2 3 j) = true then s else
    if r < fStands (w.2 0 (w.2 3 j).toNatClampNeg) (w.2 1 (w.2 3 j).toNatClampNeg) then
      (if fCut (w.1 2) (nI j) = true then land1 (w.2 3 j) r s else upF w k (j + 1) (r - fLoss (w.2 0 (w.2 3 j).toNatClampNeg) (w.2 1 (w.2 3 j).toNatClampNeg)) (land1 (w.2 3 j) r s))
    else vic1 (w.2 3 j) (land1 (w.2 3 j) r s)
def dnF (w : WS) : Nat → Int32 → S3 → S3
  | 0, _, s => s
  | j + 1, r, s => if r ≤ 0 then s else if hasB (w.1 1) (w.2 3 j) = true then s else
    if r < fStands (w.2 0 (w.2 3 j).toNatClampNeg) (w.2 1 (w.2 3 j).toNatClampNeg) then
      (if fCut (w.1 2) (nI j + Int32.ofInt (-1)) = true then land1 (w.2 3 j) r s else dnF w j (r - fLoss (w.2 0 (w.2 3 j).toNatClampNeg) (w.2 1 (w.2 3 j).toNatClampNeg)) (land1 (w.2 3 j) r s))
    else vic1 (w.2 3 j) (land1 (w.2 3 j) r s)
theorem nI_m1 (j : Nat) : nI (j + 1) + Int32.ofInt (-1) = nI j := pk_m1 j
theorem nI_dn (j : Nat) (h : j < 8) : (if nI j + Int32.ofInt (-1) < nI j then nI j + Int32.ofInt (-1) else nI j) = nI j + Int32.ofInt (-1) := by
  have : ∀ j, j < 8 → nI j + Int32.ofInt (-1) < nI j := by decide +kernel
  rw [if_pos (this j h)]
theorem nI_up (j : Nat) (h : j < 8) : (if nI j + nI 1 < nI j then nI j + nI 1 else nI j) = nI j := by
  have : ∀ j, j < 8 → ¬ nI j + nI 1 < nI j := by decide +kernel
  rw [if_neg (this j h)]
theorem noTh_in {t : Int32} {n j : Nat} (hn : t = nI n) (hn8 : n ≤ 8) (hj : j < n) : fNoTh t (nI j) = 0 := by
  rw [hn, fNoTh, if_neg (nI_pos (by omega)), if_pos (nI_lt hj (by omega))]
  exact nI_0
theorem noTh_out {t : Int32} {n : Nat} (hn : t = nI n) (hn8 : n ≤ 8) : ¬ fNoTh t (nI n) = 0 := by
  rw [hn, fNoTh, if_neg (nI_pos (by omega)), if_neg (nI_nlt (Nat.le_refl n) (by omega))]
  decide
theorem noTh_neg (t : Int32) : ¬ fNoTh t (Int32.ofInt (-1)) = 0 := by
  rw [fNoTh, if_pos (by decide)]
  decide
/-- where the wave stands after i turns -/
theorem pl_up {p i j : Nat} (h : j = p + i) : nI p + nI 1 * nI i = nI j := by
  rw [pk_mul, nI_add]
  exact congrArg nI (by omega)
theorem pl_dn8 : ∀ p, p < 8 → ∀ i, i < 9 → i ≤ p → nI p + Int32.ofInt (-1) * nI i = nI (p - i) := by decide +kernel
theorem pl_dn {p i j : Nat} (hp : p < 8) (h : j + 1 + i = p + 1) : nI p + Int32.ofInt (-1) * nI i = nI j := by
  rw [pl_dn8 p hp i (by omega) (by omega)]
  exact congrArg nI (by omega)
theorem pl_out8 : ∀ p, p < 8 → nI p + Int32.ofInt (-1) * nI (p + 1) = Int32.ofInt (-1) := by decide +kernel
theorem pl_out {p i : Nat} (hp : p < 8) (h : 0 + i = p + 1) : nI p + Int32.ofInt (-1) * nI i = Int32.ofInt (-1) := by
  obtain rfl : i = p + 1 := by omega
  exact pl_out8 p hp
theorem l_spread_up {w : WS} {n p : Nat} {bv : Int32} {K : Option Value → AH → Prop} (hn : w.1 0 = nI n) (hn8 : n ≤ 8) (hat : ∀ j, j < n → vp_in (w.2 3 j) 8) : ∀ (k j i : Nat) (q r : Int32) (s : S3) (x7 x8 x9 x10 : Option Value), j + k = n → j = p + i → q = nI i → K none (uC 0 (upF w k j r s) ++ wC 2 w) → am_E i_X9_spread 7 [some (.ref 0), some (.ref 2), some (.int (nI p)), some (.int (nI 1)), some (.int bv), some (.int r), some (.int q), x7, x8, x9, x10] [] (uC 0 s ++ wC 2 w) K := by
  intro k
  induction k with
  | zero =>
    intro j i q r s x7 x8 x9 x10 hjk hji hq hK
    obtain rfl : j = n := by omega
    subst hq
    have pe : nI p + nI 1 * nI i = nI j := pl_up hji
    refine b_X9_spread [7] ?_
    conv => whnf
    refine ⟨fun c13 => ?_, fun c13 => ?_⟩
    · refine b_X9_spread [7] ?_
      conv => whnf
      exact hK
    · conv => whnf
      rw [pe]
      refine ⟨fun c26 => ?_, fun c26 => ?_⟩
      · refine b_X9_spread [7] ?_
        conv => whnf
        exact hK
      · conv => whnf
        refine s_noThing rfl ?_
        refine b_X9_spread [7] ?_
        conv => whnf
        refine ⟨fun c35 => absurd c35 (noTh_out hn hn8), fun c35 => ?_⟩
        conv => whnf
        exact hK
  | succ k ih =>
    intro j i q r s x7 x8 x9 x10 hjk hji hq hK
    subst hq
    have pe : nI p + nI 1 * nI i = nI j := pl_up hji
    have hj : j < n := by omega
    have e : (nI j).toNatClampNeg = j := nI_clamp (by omega)
    refine b_X9_spread [7] ?_
    conv => whnf
    refine ⟨fun c13 => absurd c13 (by rw [hn]; exact nI_ge (by omega) (by omega)), fun c13 => ?_⟩
    conv => whnf
    rw [pe]
    refine ⟨fun c26 => ?_, fun c26 => ?_⟩
    · refine b_X9_spread [7] ?_
      conv => whnf
      rw [upF, if_pos c26] at hK; exact hK
    · conv => whnf
      refine s_noThing rfl ?_
      refine b_X9_spread [7] ?_
      conv => whnf
      refine ⟨fun c35 => ?_, fun c35 => absurd (noTh_in hn hn8 hj) c35⟩
      refine b_X9_spread [7] ?_
      conv => whnf
      refine ⟨(vp_in_nI (by omega) (by decide)), ?_⟩
      conv => whnf
      rw [e]
      refine s_isBroken rfl ?_
      refine b_X9_spread [7] ?_
      conv => whnf
      refine ⟨fun c54 => ?_, fun c54 => ?_⟩
      · refine b_X9_spread [7] ?_
        conv => whnf
        refine ⟨(hat j hj), ?_⟩
        conv => whnf
        refine ⟨(hat j hj), ?_⟩
        conv => whnf
        refine ⟨(hat j hj), ?_⟩
        conv => whnf
        refine s_standsOf ?_
        refine b_X9_spread [7] ?_
        conv => whnf
        refine ⟨fun c107 => ?_, fun c107 => ?_⟩
        · refine b_X9_spread [7] ?_
          conv => whnf
          rw [nI_up j (by omega)]
          refine s_isCut rfl ?_
          refine b_X9_spread [7] ?_
          conv => whnf
          refine ⟨fun c137 => ?_, fun c137 => ?_⟩
          · refine b_X9_spread [7] ?_
            conv => whnf
            refine s_lossOf ?_
            refine b_X9_spread [7] ?_
            conv => whnf
            refine ih (j + 1) (i + 1) _ _ (land1 (w.2 3 j) r s) _ _ _ _ (by omega) (by omega) (nI_add i 1) ?_
            rw [upF, if_neg c26, if_neg (by rw [bI_0.mp c54]; decide), if_pos c107, if_neg (by rw [bI_0.mp c137]; decide)] at hK; exact hK
          · conv => whnf
            rw [upF, if_neg c26, if_neg (by rw [bI_0.mp c54]; decide), if_pos c107, if_pos (bI_n0.mp c137)] at hK; exact hK
        · conv => whnf
          rw [upF, if_neg c26, if_neg (by rw [bI_0.mp c54]; decide), if_neg c107] at hK; exact hK
      · conv => whnf
        rw [upF, if_neg c26, if_pos (bI_n0.mp c54)] at hK; exact hK
theorem l_spread_dn {w : WS} {n p : Nat} {bv : Int32} {K : Option Value → AH → Prop} (hn : w.1 0 = nI n) (hn8 : n ≤ 8) (hat : ∀ j, j < n → vp_in (w.2 3 j) 8) (hp : p < n) : ∀ (j i : Nat) (q r : Int32) (s : S3) (x7 x8 x9 x10 : Option Value), j + i = p + 1 → q = nI i → K none (uC 0 (dnF w j r s) ++ wC 2 w) → am_E i_X9_spread 7 [some (.ref 0), some (.ref 2), some (.int (nI p)), some (.int (Int32.ofInt (-1))), some (.int bv), some (.int r), some (.int q), x7, x8, x9, x10] [] (uC 0 s ++ wC 2 w) K := by
  intro j
  induction j with
  | zero =>
    intro i q r s x7 x8 x9 x10 hji hq hK
    subst hq
    have pe : nI p + Int32.ofInt (-1) * nI i = Int32.ofInt (-1) := pl_out (by omega) hji
    refine b_X9_spread [7] ?_
    conv => whnf
    refine ⟨fun c13 => ?_, fun c13 => ?_⟩
    · refine b_X9_spread [7] ?_
      conv => whnf
      exact hK
    · conv => whnf
      rw [pe]
      refine ⟨fun c26 => ?_, fun c26 => ?_⟩
      · refine b_X9_spread [7] ?_
        conv => whnf
        exact hK
      · conv => whnf
        refine s_noThing rfl ?_
        refine b_X9_spread [7] ?_
        conv => whnf
        refine ⟨fun c35 => absurd c35 (noTh_neg _), fun c35 => ?_⟩
        conv => whnf
        exact hK
  | succ j ih =>
    intro i q r s x7 x8 x9 x10 hji hq hK
    subst hq
    have pe : nI p + Int32.ofInt (-1) * nI i = nI j := pl_dn (by omega) hji
    have hj : j < n := by omega
    have e : (nI j).toNatClampNeg = j := nI_clamp (by omega)
    refine b_X9_spread [7] ?_
    conv => whnf
    refine ⟨fun c13 => absurd c13 (by rw [hn]; exact nI_ge (by omega) (by omega)), fun c13 => ?_⟩
    conv => whnf
    rw [pe]
    refine ⟨fun c26 => ?_, fun c26 => ?_⟩
    · refine b_X9_spread [7] ?_
      conv => whnf
      rw [dnF, if_pos c26] at hK; exact hK
    · conv => whnf
      refine s_noThing rfl ?_
      refine b_X9_spread [7] ?_
      conv => whnf
      refine ⟨fun c35 => ?_, fun c35 => absurd (noTh_in hn hn8 hj) c35⟩
      refine b_X9_spread [7] ?_
      conv => whnf
      refine ⟨(vp_in_nI (by omega) (by decide)), ?_⟩
      conv => whnf
      rw [e]
      refine s_isBroken rfl ?_
      refine b_X9_spread [7] ?_
      conv => whnf
      refine ⟨fun c54 => ?_, fun c54 => ?_⟩
      · refine b_X9_spread [7] ?_
        conv => whnf
        refine ⟨(hat j hj), ?_⟩
        conv => whnf
        refine ⟨(hat j hj), ?_⟩
        conv => whnf
        refine ⟨(hat j hj), ?_⟩
        conv => whnf
        refine s_standsOf ?_
        refine b_X9_spread [7] ?_
        conv => whnf
        refine ⟨fun c107 => ?_, fun c107 => ?_⟩
        · refine b_X9_spread [7] ?_
          conv => whnf
          rw [nI_dn j (by omega)]
          refine s_isCut rfl ?_
          refine b_X9_spread [7] ?_
          conv => whnf
          refine ⟨fun c137 => ?_, fun c137 => ?_⟩
          · refine b_X9_spread [7] ?_
            conv => whnf
            refine s_lossOf ?_
            refine b_X9_spread [7] ?_
            conv => whnf
            refine ih (i + 1) _ _ (land1 (w.2 3 j) r s) _ _ _ _ (by omega) (nI_add i 1) ?_
            rw [dnF, if_neg c26, if_neg (by rw [bI_0.mp c54]; decide), if_pos c107, if_neg (by rw [bI_0.mp c137]; decide)] at hK; exact hK
          · conv => whnf
            rw [dnF, if_neg c26, if_neg (by rw [bI_0.mp c54]; decide), if_pos c107, if_pos (bI_n0.mp c137)] at hK; exact hK
        · conv => whnf
          rw [dnF, if_neg c26, if_neg (by rw [bI_0.mp c54]; decide), if_neg c107] at hK; exact hK
      · conv => whnf
        rw [dnF, if_neg c26, if_pos (bI_n0.mp c54)] at hK; exact hK
theorem s_spread_up {w : WS} {n p : Nat} {v : Int32} {s : S3} {K : Option Value → AH → Prop} (hn : w.1 0 = nI n) (hn8 : n ≤ 8) (hat : ∀ j, j < n → vp_in (w.2 3 j) 8) (hp : p ≤ n) (hK : K none (uC 0 (upF w (n - p) p v s) ++ wC 2 w)) : am_M i_X9_spread [.ref 0, .ref 2, .int (nI p), .int (nI 1), .int v] (uC 0 s ++ wC 2 w) K := by
  refine e_X9_spread [7] ?_
  conv => whnf
  exact l_spread_up hn hn8 hat (n - p) p 0 _ v s _ _ _ _ (by omega) rfl rfl hK
theorem s_spread_dn {w : WS} {n p : Nat} {v : Int32} {s : S3} {K : Option Value → AH → Prop} (hn : w.1 0 = nI n) (hn8 : n ≤ 8) (hat : ∀ j, j < n → vp_in (w.2 3 j) 8) (hp : p < n) (hK : K none (uC 0 (dnF w (p + 1) v s) ++ wC 2 w)) : am_M i_X9_spread [.ref 0, .ref 2, .int (nI p), .int (Int32.ofInt (-1)), .int v] (uC 0 s ++ wC 2 w) K := by
  refine e_X9_spread [7] ?_
  conv => whnf
  exact l_spread_dn hn hn8 hat hp (p + 1) 0 _ v s _ _ _ _ (by omega) rfl hK
def zpF (i : Nat) (g : Nat → Int32) : Nat → Int32 := fun j => if j < i then nI 0 else g j
theorem zpF_0 (g : Nat → Int32) : zpF 0 g = g := by funext j; simp [zpF]
theorem zpF_s (i : Nat) (g : Nat → Int32) : upd (zpF i g) i (nI 0) = zpF (i + 1) g := by
  funext j
  simp only [upd, zpF]
  by_cases h : j = i
  · subst h; simp
  · by_cases h2 : j < i
    · rw [if_neg h, if_pos h2, if_pos (by omega)]
    · rw [if_neg h, if_neg h2, if_neg (by omega)]
theorem l_strike_zero {w : WS} {tv v hr vi : Int32} {g : Nat → Int32} {K : Option Value → AH → Prop} (hk : am_E i_X9_strike 24 [some (.ref 0), some (.ref 2), some (.int tv), some (.int v), some (.int (nI 8))] [] (uC 0 (zpF 8 g, hr, vi) ++ wC 2 w) K) : ∀ (k i : Nat), i + k = 8 → am_E i_X9_strike 3 [some (.ref 0), some (.ref 2), some (.int tv), some (.int v), some (.int (nI i))] [] (uC 0 (zpF i g, hr, vi) ++ wC 2 w) K := by
  intro k
  induction k with
  | zero =>
    intro i hi
    obtain rfl : i = 8 := by omega
    refine b_X9_strike [3, 24] ?_
    conv => whnf
    refine ⟨fun c7 => ?_, fun c7 => absurd (by decide) c7⟩
    exact hk
  | succ k ih =>
    intro i hi
    have e : (nI i).toNatClampNeg = i := nI_clamp (by omega)
    refine b_X9_strike [3, 24] ?_
    conv => whnf
    refine ⟨fun c7 => absurd c7 (nI_ge (by omega) (by omega)), fun c7 => ?_⟩
    conv => whnf
    refine ⟨(vp_in_nI (by omega) (by decide)), ?_⟩
    conv => whnf
    rw [e]
    have h2 := ih (i + 1) (by omega)
    rw [← zpF_s, ← nI_add i 1] at h2
    exact h2
/-- what a blow does: what each gets, who hears, who breaks -/
def blw (w : WS) (n p : Nat) (v : Int32) : S3 := dnF w (p + 1) v (upF w (n - p) p v (fun _ => nI 0, nI 0, nI 0))
def ag8 (f g : Nat → Int32) : Prop := ∀ i, i < 8 → f i = g i
theorem upF_ag (w : WS) : ∀ (k j : Nat) (r : Int32) (s s2 : S3), ag8 s.1 s2.1 → s.2 = s2.2 → ag8 (upF w k j r s).1 (upF w k j r s2).1 ∧ (upF w k j r s).2 = (upF w k j r s2).2 := by
  intro k
  induction k with
  | zero => intro j r s s2 h h2; exact ⟨h, h2⟩
  | succ k ih =>
    intro j r s s2 h h2
    have hl : ag8 (land1 (w.2 3 j) r s).1 (land1 (w.2 3 j) r s2).1 := by
      intro i hi
      simp only [land1, upd]
      split
      · rfl
      · exact h i hi
    have hl2 : (land1 (w.2 3 j) r s).2 = (land1 (w.2 3 j) r s2).2 := by simp only [land1, h2]
    simp only [upF]
    split
    · exact ⟨h, h2⟩
    · split
      · exact ⟨h, h2⟩
      · split
        · split
          · exact ⟨hl, hl2⟩
          · exact ih _ _ _ _ hl hl2
        · exact ⟨hl, by simp only [vic1, hl2]⟩
theorem dnF_ag (w : WS) : ∀ (j : Nat) (r : Int32) (s s2 : S3), ag8 s.1 s2.1 → s.2 = s2.2 → ag8 (dnF w j r s).1 (dnF w j r s2).1 ∧ (dnF w j r s).2 = (dnF w j r s2).2 := by
  intro k
  induction k with
  | zero => intro r s s2 h h2; exact ⟨h, h2⟩
  | succ j ih =>
    intro r s s2 h h2
    have hl : ag8 (land1 (w.2 3 j) r s).1 (land1 (w.2 3 j) r s2).1 := by
      intro i hi
      simp only [land1, upd]
      split
      · rfl
      · exact h i hi
    have hl2 : (land1 (w.2 3 j) r s).2 = (land1 (w.2 3 j) r s2).2 := by simp only [land1, h2]
    simp only [dnF]
    split
    · exact ⟨h, h2⟩
    · split
      · exact ⟨h, h2⟩
      · split
        · split
          · exact ⟨hl, hl2⟩
          · exact ih _ _ _ hl hl2
        · exact ⟨hl, by simp only [vic1, hl2]⟩
theorem wOk.at8 {w : WS} {n : Nat} {A P : Nat → Nat} (h : wOk w n A P) : ∀ j, j < n → vp_in (w.2 3 j) 8 := fun j hj => by
  obtain ⟨h1, h2, -⟩ := h.2.2.1 j hj
  have := h.2.1
  rw [h1]
  exact vp_in_nI (by omega) (by decide)
theorem s_strike {w : WS} {n t : Nat} {A P : Nat → Nat} {v : Int32} {s : S3} {K : Option Value → AH → Prop} (hw : wOk w n A P) (ht : t < n) (hK : ∀ g, ag8 g (blw w n (P t) v).1 → K none (uC 0 (g, (blw w n (P t) v).2) ++ wC 2 w)) : am_M i_X9_strike [.ref 0, .ref 2, .int (nI t), .int v] (uC 0 s ++ wC 2 w) K := by
  obtain ⟨hp, hpn, hap⟩ := hw.2.2.2 t ht
  have hn8 := hw.2.1
  have e : (nI t).toNatClampNeg = t := nI_clamp (by omega)
  have g0 : s = (zpF 0 s.1, s.2.1, s.2.2) := by rw [zpF_0]
  rw [g0]
  refine e_X9_strike [3, 24] ?_
  conv => whnf
  refine l_strike_zero ?_ 8 0 rfl
  refine b_X9_strike [3] ?_
  conv => whnf
  refine ⟨(vp_in_nI (by omega) (by decide)), ?_⟩
  conv => whnf
  rw [e, hp]
  refine s_spread_up (s := (zpF 8 s.1, nI 0, nI 0)) hw.1 hn8 hw.at8 (Nat.le_of_lt hpn) ?_
  refine b_X9_strike [3] ?_
  conv => whnf
  refine ⟨(vp_in_nI (by omega) (by decide)), ?_⟩
  conv => whnf
  rw [e, hp]
  refine s_spread_dn (s := upF w (n - P t) (P t) v (zpF 8 s.1, nI 0, nI 0)) hw.1 hn8 hw.at8 hpn ?_
  refine b_X9_strike [3] ?_
  conv => whnf
  have h1 := upF_ag w (n - P t) (P t) v (zpF 8 s.1, nI 0, nI 0) (fun _ => nI 0, nI 0, nI 0) (fun i hi => by simp only [zpF]; rw [if_pos hi]) rfl
  have h2 := dnF_ag w (P t + 1) v _ _ h1.1 h1.2
  have h3 := hK _ h2.1
  unfold blw at h3
  rw [← h2.2] at h3
  exact h3
