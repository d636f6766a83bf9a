/-! SPECS of the model: the shortest walk, walked -/
theorem mkN_le {n : Nat} {x : Nat → Nat} : ∀ j, mkN n x j ≤ 2 ^ n - 1
  | 0 => Nat.le_refl _
  | j + 1 => Nat.le_trans (Nat.sub_le _ _) (mkN_le j)
def DN (F : Nat → Nat) (n : Nat) : Nat := if n = 0 then 0 else hiN F (2 ^ n - 1) - loN F (2 ^ n - 1)
theorem full_lt {n : Nat} (hn : n ≤ 8) : 2 ^ n - 1 < 256 := by
  have : ∀ n, n ≤ 8 → 2 ^ n - 1 < 256 := by decide +kernel
  exact this n hn
theorem full_0 {n : Nat} (hn : n ≤ 8) (h : n ≠ 0) : 2 ^ n - 1 ≠ 0 := by
  have : ∀ n, n ≤ 8 → n ≠ 0 → 2 ^ n - 1 ≠ 0 := by decide +kernel
  exact this n hn h
theorem full_b {n u : Nat} (hn : n ≤ 8) (hu : u < n) : bt (2 ^ n - 1) u = true := by rw [bt_full n hn u (by omega), decide_eq_true hu]
theorem full_sh {n : Nat} {z : Int32} (hz : z = nI n) (hn : n ≤ 8) : (nI 1 <<< (z &&& 31)) - nI 1 = nI (2 ^ n - 1) := by
  subst hz
  have : ∀ n, n ≤ 8 → (nI 1 <<< (nI n &&& 31)) - nI 1 = nI (2 ^ n - 1) := by decide +kernel
  exact this n hn
/-- the least so far, of the whole walks from a place -/
def shtN (F : Nat → Nat) (n u b : Nat) : Prop := (b = (if n = 0 then 0 else 100000) ∧ u = 0) ∨ ((∃ v, v < u ∧ VN F (2 ^ n - 1 - 2 ^ v) v = b) ∧ ∀ v, v < u → b ≤ VN F (2 ^ n - 1 - 2 ^ v) v)
theorem sht_s {F : Nat → Nat} {n u b : Nat} (hn : n ≤ 8) (hu : u < n) (hF : ∀ t, F t ≤ 9) (h : shtN F n u b) : shtN F n (u + 1) (if b ≤ VN F (2 ^ n - 1 - 2 ^ u) u then b else VN F (2 ^ n - 1 - 2 ^ u) u) := by
  have hl := VN_le (c := F) (k := 2 ^ n - 1 - 2 ^ u) (t := u) (Nat.lt_of_le_of_lt (Nat.sub_le _ _) (full_lt hn)) (by omega) (fun j _ => hF j)
  rcases h with ⟨h1, h2⟩ | ⟨⟨v, v1, v2⟩, h2⟩
  · subst h2
    rw [if_neg (by omega)] at h1
    rw [if_neg (by omega)]
    exact Or.inr ⟨⟨0, by omega, rfl⟩, fun v hv => by obtain rfl : v = 0 := by omega
                                                     exact Nat.le_refl _⟩
  · by_cases q : b ≤ VN F (2 ^ n - 1 - 2 ^ u) u
    · rw [if_pos q]
      refine Or.inr ⟨⟨v, by omega, v2⟩, fun z hz => ?_⟩
      by_cases e : z = u
      · rw [e]; exact q
      · exact h2 z (by omega)
    · rw [if_neg q]
      refine Or.inr ⟨⟨u, by omega, rfl⟩, fun z hz => ?_⟩
      by_cases e : z = u
      · rw [e]; exact Nat.le_refl _
      · have := h2 z (by omega); omega
theorem sht_n {F : Nat → Nat} {n b : Nat} (hn : n ≤ 8) (hF : ∀ t, F t ≤ 9) (h : shtN F n n b) : b = DN F n := by
  unfold DN
  by_cases h0 : n = 0
  · rw [if_pos h0]
    rcases h with ⟨h1, -⟩ | ⟨⟨v, v1, -⟩, -⟩
    · rw [if_pos h0] at h1; exact h1
    · omega
  · rw [if_neg h0]
    rcases h with ⟨-, h2⟩ | ⟨⟨v, v1, v2⟩, h2⟩
    · exact absurd h2 h0
    · have hl := lh_N (c := F) (full_lt hn) (full_0 hn h0) (fun j _ => hF j)
      obtain ⟨-, ⟨j, j1, j2, j3⟩, -⟩ := id hl
      have hj : j < n := by
        rw [bt_full n hn j j1] at j2
        exact of_decide_eq_true j2
      have a := (VN_out (full_lt hn) (by omega) (fun j _ => hF j) (full_b hn v1) hl).1
      have b1 := ((VN_out (full_lt hn) j1 (fun j _ => hF j) j2 hl).2.1).mpr (Or.inl j3)
      have c := h2 j hj
      omega
theorem m_wf {M : MS} {w : WS} {n : Nat} {A P : Nat → Nat} {s : S3} {T : Nat → Int32} {k u : Nat} (h : mX M w n A P) (hg : wGn w n) (hT : TOK (cF w n) n (2 ^ n) T) (hk : k < 2 ^ n) (hu : u < n) (hb : bt k u = true) {K : Option Value → AH → Prop} (hK : K (some (.int (nI (VN (cF w n) (k - 2 ^ u) u)))) (mC (setA M 13 T) s.1 s.2.2)) : am_M i_X12_walkOf [.ref 0, .int (nI k), .int (nI u)] (mC (setA M 13 T) s.1 s.2.2) K := by
  have hn8 := h.n8
  have hk8 := pw256 hn8 hk
  have hlt : k - 2 ^ u < 2 ^ n := Nat.lt_of_le_of_lt (Nat.sub_le _ _) hk
  have eix : nI 8 * (nI k &&& ((nI 1 <<< (nI u &&& 31)) ^^^ Int32.ofInt (-1))) + nI u = nI (8 * (k - 2 ^ u) + u) := by rw [bt_and k hk8 u (by omega), if_pos hb, nI_mulN, nI_add]
  have hl8 : k - 2 ^ u < 256 := Nat.lt_of_le_of_lt (Nat.sub_le _ _) hk8
  rw [← hT _ hlt u hu] at hK
  refine e_X12_walkOf [] ?_
  conv => whnf
  refine ⟨(by rw [eix]; exact vp_in_nI (show 8 * (k - 2 ^ u) + u < 2048 by omega) (by decide)), ?_⟩
  rw [eix, nI_clamp (show 8 * (k - 2 ^ u) + u < 2 ^ 31 by omega)]
  conv => whnf
  exact hK
theorem ml_so_ {M : MS} {w : WS} {n : Nat} {A P : Nat → Nat} {s : S3} {T : Nat → Int32} (h : mX M w n A P) (hg : wGn w n) (hT : TOK (cF w n) n (2 ^ n) T) {K : Option Value → AH → Prop} (hK : K (some (.int (nI (DN (cF w n) n)))) (mC (setA M 13 T) s.1 s.2.2)) : ∀ (q u b : Nat), u + q = n → b ≤ 100000 → shtN (cF w n) n u b → am_E i_X12_shortestOf 16 [some (.ref 0), some (.int (nI (2 ^ n - 1))), some (.int (nI (b))), some (.int (nI (u)))] [] (mC (setA M 13 T) s.1 s.2.2) K := by
  have hn := h.n
  have hn8 := h.n8
  obtain ⟨f1, f2⟩ := cF_ok hg
  have hfl : 2 ^ n - 1 < 2 ^ n := Nat.sub_lt (Nat.pow_pos (by decide)) (by decide)
  intro q
  induction q with
  | zero =>
    intro u b hu hb hB
    obtain rfl : u = n := by omega
    rw [← sht_n hn8 f2 hB] at hK
    refine b_X12_shortestOf [16] ?_
    conv => whnf
    refine ⟨fun c21 => ?_, fun c21 => absurd (by show M.1 5 ≤ nI u; rw [hn]; exact nI_le (by omega) (by omega)) c21⟩
    refine b_X12_shortestOf [16] ?_
    conv => whnf
    exact hK
  | succ q ih =>
    intro u b hu hb hB
    have hvl := VN_le (c := cF w n) (k := 2 ^ n - 1 - 2 ^ u) (t := u) (Nat.lt_of_le_of_lt (Nat.sub_le _ _) (full_lt hn8)) (by omega) (fun j _ => f2 j)
    have h8 := sht_s hn8 (show u < n by omega) f2 hB
    refine b_X12_shortestOf [16] ?_
    conv => whnf
    refine ⟨fun c21 => absurd c21 (by show ¬ M.1 5 ≤ nI u; rw [hn]; exact nI_ge (by omega) (by omega)), fun c21 => ?_⟩
    conv => whnf
    refine m_wf h hg hT hfl (show u < n by omega) (full_b hn8 (by omega)) ?_
    refine b_X12_shortestOf [16] ?_
    conv => whnf
    refine ⟨fun c31 => ?_, fun c31 => ?_⟩
    · refine b_X12_shortestOf [16] ?_
      conv => whnf
      rw [if_pos ((nI_leI (by omega) (by omega)).mp c31)] at h8
      have h9 := ih (u + 1) _ (by omega) (by omega) h8
      rw [← nI_add u 1] at h9
      exact h9
    · conv => whnf
      refine m_wf h hg hT hfl (show u < n by omega) (full_b hn8 (by omega)) ?_
      refine b_X12_shortestOf [16] ?_
      conv => whnf
      refine b_X12_shortestOf [16] ?_
      conv => whnf
      rw [if_neg (fun z => c31 (nI_le z (by omega)))] at h8
      have h9 := ih (u + 1) _ (by omega) (by omega) h8
      rw [← nI_add u 1] at h9
      exact h9
theorem m_sho {M : MS} {w : WS} {n : Nat} {A P : Nat → Nat} {s : S3} {T : Nat → Int32} (h : mX M w n A P) (hg : wGn w n) (hT : TOK (cF w n) n (2 ^ n) T) {K : Option Value → AH → Prop} (hK : K (some (.int (nI (DN (cF w n) n)))) (mC (setA M 13 T) s.1 s.2.2)) : am_M i_X12_shortestOf [.ref 0, .int (nI (2 ^ n - 1))] (mC (setA M 13 T) s.1 s.2.2) K := by
  refine e_X12_shortestOf [16] ?_
  conv => whnf
  refine ⟨fun c4 => ?_, fun c4 => ?_⟩
  · conv => whnf
    refine b_X12_shortestOf [16] ?_
    conv => whnf
    have h0 : n = 0 := (nI_eq (b := 0) (by have := h.n8; omega) (by decide)).mp (by rw [← h.n]; exact c4)
    exact ml_so_ h hg hT hK n 0 0 (by omega) (by omega) (Or.inl ⟨(if_pos h0).symm, rfl⟩)
  · refine b_X12_shortestOf [16] ?_
    conv => whnf
    have h0 : ¬ n = 0 := fun z => c4 (by show M.1 5 = 0; rw [h.n, z]; rfl)
    exact ml_so_ h hg hT hK n 0 100000 (by omega) (by omega) (Or.inl ⟨(if_neg h0).symm, rfl⟩)
theorem ml_wka {M : MS} {w : WS} {n : Nat} {A P : Nat → Nat} {s : S3} {T : Nat → Int32} {i j m l z y : Nat} (h : mX M w n A P) (hg : wGn w n) (hT : TOK (cF w n) n (2 ^ n) T) (hm : m < 2 ^ n) (hz : z < n) (hy : y < n) (hl : l ≤ 100000) (hbz : bt m z = true) (hbn : ∀ u, u < 8 → bt m u = true → u < n) (hq : ∀ u, u < 8 → bt m u = true → (0 + VN (cF w n) (m - 2 ^ u) u = l → z ≤ u) ∧ (u = z → 0 + VN (cF w n) (m - 2 ^ u) u = l)) {K : Option Value → AH → Prop} (hK : am_E i_X12_walked 84 [some (.ref 0), some (.int (nI i)), some (.int (nI (m))), some (.int (nI (l))), some (.int (Int32.ofInt (-9))), some (.int (nI (j))), some (.int (nI (z)))] [] (mC (setA M 13 T) s.1 s.2.2) K) : ∀ (q u : Nat), u + q = z → am_E i_X12_walked 31 [some (.ref 0), some (.int (nI i)), some (.int (nI (m))), some (.int (nI (l))), some (.int (Int32.ofInt (-9))), some (.int (nI (j))), some (.int (nI (u)))] [] (mC (setA M 13 T) s.1 s.2.2) K := by
  have hn8 := h.n8
  have hm8 := pw256 hn8 hm
  obtain ⟨f1, f2⟩ := cF_ok hg
  intro q
  induction q with
  | zero =>
    intro u hu
    obtain rfl : u = z := by omega
    have hv := VN_le (c := cF w n) (k := m - 2 ^ u) (t := u) (Nat.lt_of_le_of_lt (Nat.sub_le _ _) hm8) (by omega) (fun j _ => f2 j)
    have e9 := (hq u (by omega) hbz).2 rfl
    refine b_X12_walked [31, 84] ?_
    conv => whnf
    refine m_hs (by omega) ?_
    refine b_X12_walked [31, 84] ?_
    conv => whnf
    refine ⟨fun c37 => absurd c37 (by rw [hasB_N _ _ (by omega), bt_N m hm8 u (by omega), hbz]; decide), fun c37 => ?_⟩
    conv => whnf
    refine ⟨fun c42 => absurd c42 (by decide), fun c42 => ?_⟩
    conv => whnf
    refine b_X12_walked [31, 84] ?_
    conv => whnf
    refine m_wf h hg hT hm (by omega) hbz ?_
    refine b_X12_walked [31, 84] ?_
    conv => whnf
    refine ⟨fun c75 => ?_, fun c75 => absurd (by show nI (0) + nI (VN (cF w n) (m - 2 ^ u) u) = nI l; rw [nI_add, e9]) c75⟩
    exact hK
  | succ q ih =>
    intro u hu
    have hv := VN_le (c := cF w n) (k := m - 2 ^ u) (t := u) (Nat.lt_of_le_of_lt (Nat.sub_le _ _) hm8) (by omega) (fun j _ => f2 j)
    have hfy := f2 y
    have hfu := f2 u
    refine b_X12_walked [31, 84] ?_
    conv => whnf
    refine m_hs (by omega) ?_
    refine b_X12_walked [31, 84] ?_
    conv => whnf
    refine ⟨fun c37 => ?_, fun c37 => ?_⟩
    · refine b_X12_walked [31, 84] ?_
      conv => whnf
      have h9 := ih (u + 1) (by omega)
      rw [← nI_add u 1] at h9
      exact h9
    · conv => whnf
      have hbu : bt m u = true := by rw [← bt_N m hm8 u (by omega), ← hasB_N _ _ (by omega)]; exact bI_n0.mp c37
      have e9 : ¬ 0 + VN (cF w n) (m - 2 ^ u) u = l := fun e => by have := (hq u (by omega) hbu).1 e; omega
      refine ⟨fun c42 => absurd c42 (by decide), fun c42 => ?_⟩
      conv => whnf
      refine b_X12_walked [31, 84] ?_
      conv => whnf
      refine m_wf h hg hT hm (hbn u (by omega) hbu) hbu ?_
      refine b_X12_walked [31, 84] ?_
      conv => whnf
      refine ⟨fun c75 => absurd c75 (by show ¬ nI (0) + nI (VN (cF w n) (m - 2 ^ u) u) = nI l; rw [nI_add]; exact fun e => e9 ((nI_eq (by omega) (by omega)).mp e)), fun c75 => ?_⟩
      conv => whnf
      have h9 := ih (u + 1) (by omega)
      rw [← nI_add u 1] at h9
      exact h9
theorem ml_wkb {M : MS} {w : WS} {n : Nat} {A P : Nat → Nat} {s : S3} {T : Nat → Int32} {i j m l z y : Nat} (h : mX M w n A P) (hg : wGn w n) (hT : TOK (cF w n) n (2 ^ n) T) (hm : m < 2 ^ n) (hz : z < n) (hy : y < n) (hl : l ≤ 100000) (hbz : bt m z = true) (hbn : ∀ u, u < 8 → bt m u = true → u < n) (hq : ∀ u, u < 8 → bt m u = true → (dsN (cF w n y) (cF w n u) + VN (cF w n) (m - 2 ^ u) u = l → z ≤ u) ∧ (u = z → dsN (cF w n y) (cF w n u) + VN (cF w n) (m - 2 ^ u) u = l)) {K : Option Value → AH → Prop} (hK : am_E i_X12_walked 84 [some (.ref 0), some (.int (nI i)), some (.int (nI (m))), some (.int (nI (l))), some (.int (nI y)), some (.int (nI (j))), some (.int (nI (z)))] [] (mC (setA M 13 T) s.1 s.2.2) K) : ∀ (q u : Nat), u + q = z → am_E i_X12_walked 31 [some (.ref 0), some (.int (nI i)), some (.int (nI (m))), some (.int (nI (l))), some (.int (nI y)), some (.int (nI (j))), some (.int (nI (u)))] [] (mC (setA M 13 T) s.1 s.2.2) K := by
  have hn8 := h.n8
  have hm8 := pw256 hn8 hm
  obtain ⟨f1, f2⟩ := cF_ok hg
  intro q
  induction q with
  | zero =>
    intro u hu
    obtain rfl : u = z := by omega
    have hv := VN_le (c := cF w n) (k := m - 2 ^ u) (t := u) (Nat.lt_of_le_of_lt (Nat.sub_le _ _) hm8) (by omega) (fun j _ => f2 j)
    have e9 := (hq u (by omega) hbz).2 rfl
    refine b_X12_walked [31, 84] ?_
    conv => whnf
    refine m_hs (by omega) ?_
    refine b_X12_walked [31, 84] ?_
    conv => whnf
    refine ⟨fun c37 => absurd c37 (by rw [hasB_N _ _ (by omega), bt_N m hm8 u (by omega), hbz]; decide), fun c37 => ?_⟩
    conv => whnf
    refine ⟨fun c42 => ?_, fun c42 => absurd (nI_pos' (by omega)) c42⟩
    refine b_X12_walked [31, 84] ?_
    conv => whnf
    refine ⟨(vp_in_nI (show y < 8 by omega) (by decide)), ?_⟩
    rw [nI_clamp (show y < 2 ^ 31 by omega)]
    rw [show (setA M 13 T).2 3 y = nI (cF w n y) from (h.a (by omega)).trans (f1 y (by omega))]
    conv => whnf
    refine ⟨(vp_in_nI (show u < 8 by omega) (by decide)), ?_⟩
    rw [nI_clamp (show u < 2 ^ 31 by omega)]
    rw [show (setA M 13 T).2 3 u = nI (cF w n u) from (h.a (by omega)).trans (f1 u (by omega))]
    conv => whnf
    refine m_far ?_
    rw [far_N (f2 y) (f2 u)]
    refine b_X12_walked [31, 84] ?_
    conv => whnf
    refine m_wf h hg hT hm (by omega) hbz ?_
    refine b_X12_walked [31, 84] ?_
    conv => whnf
    refine ⟨fun c75 => ?_, fun c75 => absurd (by show nI (dsN (cF w n y) (cF w n u)) + nI (VN (cF w n) (m - 2 ^ u) u) = nI l; rw [nI_add, e9]) c75⟩
    exact hK
  | succ q ih =>
    intro u hu
    have hv := VN_le (c := cF w n) (k := m - 2 ^ u) (t := u) (Nat.lt_of_le_of_lt (Nat.sub_le _ _) hm8) (by omega) (fun j _ => f2 j)
    have hfy := f2 y
    have hfu := f2 u
    refine b_X12_walked [31, 84] ?_
    conv => whnf
    refine m_hs (by omega) ?_
    refine b_X12_walked [31, 84] ?_
    conv => whnf
    refine ⟨fun c37 => ?_, fun c37 => ?_⟩
    · refine b_X12_walked [31, 84] ?_
      conv => whnf
      have h9 := ih (u + 1) (by omega)
      rw [← nI_add u 1] at h9
      exact h9
    · conv => whnf
      have hbu : bt m u = true := by rw [← bt_N m hm8 u (by omega), ← hasB_N _ _ (by omega)]; exact bI_n0.mp c37
      have e9 : ¬ dsN (cF w n y) (cF w n u) + VN (cF w n) (m - 2 ^ u) u = l := fun e => by have := (hq u (by omega) hbu).1 e; omega
      refine ⟨fun c42 => ?_, fun c42 => absurd (nI_pos' (by omega)) c42⟩
      refine b_X12_walked [31, 84] ?_
      conv => whnf
      refine ⟨(vp_in_nI (show y < 8 by omega) (by decide)), ?_⟩
      rw [nI_clamp (show y < 2 ^ 31 by omega)]
      rw [show (setA M 13 T).2 3 y = nI (cF w n y) from (h.a (by omega)).trans (f1 y (by omega))]
      conv => whnf
      refine ⟨(vp_in_nI (show u < 8 by omega) (by decide)), ?_⟩
      rw [nI_clamp (show u < 2 ^ 31 by omega)]
      rw [show (setA M 13 T).2 3 u = nI (cF w n u) from (h.a (by omega)).trans (f1 u (by omega))]
      conv => whnf
      refine m_far ?_
      rw [far_N (f2 y) (f2 u)]
      refine b_X12_walked [31, 84] ?_
      conv => whnf
      refine m_wf h hg hT hm (hbn u (by omega) hbu) hbu ?_
      refine b_X12_walked [31, 84] ?_
      conv => whnf
      refine ⟨fun c75 => absurd c75 (by show ¬ nI (dsN (cF w n y) (cF w n u)) + nI (VN (cF w n) (m - 2 ^ u) u) = nI l; rw [nI_add]; exact fun e => e9 ((nI_eq (by unfold dsN; omega) (by omega)).mp e)), fun c75 => ?_⟩
      conv => whnf
      have h9 := ih (u + 1) (by omega)
      rw [← nI_add u 1] at h9
      exact h9
