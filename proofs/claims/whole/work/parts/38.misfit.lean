/-! SPECS: the first misfit -/
def dgN (x : Int32) : Nat := if x = nI 99 then 1 else if x = nI 100 then 3 else if x = nI 109 then 1 else if x = nI 116 then 3 else if x = nI 120 then 2 else 0
theorem dgB_N (x : Int32) : dgB x = nI (dgN x) ∧ dgN x ≤ 3 := by
  unfold dgB dgN
  split
  · exact ⟨rfl, by omega⟩
  · split
    · exact ⟨rfl, by omega⟩
    · split
      · exact ⟨rfl, by omega⟩
      · split
        · exact ⟨rfl, by omega⟩
        · split
          · exact ⟨rfl, by omega⟩
          · exact ⟨rfl, by omega⟩
def innF (q : Nat) (f : Nat → Int32) : Nat → Nat → Option Nat
  | 0, _ => none
  | k + 1, i => if q ≤ i then some i else if isD (f i) = true then innF q f k (i + 1) else some i
def misF (q : Nat) (f : Nat → Int32) : Nat → Nat → Int32
  | 0, _ => Int32.ofInt (-9)
  | k + 1, s => if q ≤ s then Int32.ofInt (-9) else if dgN (f s) = 0 then nI s else match innF q f (dgN (f s)) (s + 1) with
    | some i => nI i
    | none => if q ≤ s + 1 + dgN (f s) then nI (s + 1 + dgN (f s)) else if f (s + 1 + dgN (f s)) = nI 59 then misF q f k (s + 1 + dgN (f s) + 1) else nI (s + 1 + dgN (f s))
theorem l_inn {h : AH} {a la ta ua q : Nat} {f : Nat → Int32} (hv : vAt h a la ta ua (nI q) f) (hq : q ≤ 96) {st en : Nat} {dg : Int32} {K : Option Value → AH → Prop} (hen : en ≤ 200) : ∀ (k i : Nat), i + k = en → (∀ j, innF q f k i = some j → K (some (.int (nI j))) h) → (innF q f k i = none → am_E i_X8_firstMisfit 83 [some (.ref a), some (.int (nI st)), some (.int dg), some (.int (nI en)), some (.int (nI en))] [] h K) → am_E i_X8_firstMisfit 46 [some (.ref a), some (.int (nI st)), some (.int dg), some (.int (nI en)), some (.int (nI i))] [] h K := by
  intro k
  induction k with
  | zero =>
    intro i hi hs hn
    obtain rfl : i = en := by omega
    refine b_X8_firstMisfit [46, 83] ?_
    conv => whnf
    refine ⟨fun c49 => ?_, fun c49 => absurd (nI_le (Nat.le_refl _) (by omega)) c49⟩
    exact hn rfl
  | succ k ih =>
    intro i hi hs hn
    have e : (nI i).toNatClampNeg = i := nI_clamp (by omega)
    refine b_X8_firstMisfit [46, 83] ?_
    conv => whnf
    refine ⟨fun c49 => absurd c49 (nI_ge (by omega) (by omega)), fun c49 => ?_⟩
    conv => whnf
    refine am_hgn hv.1 ?_
    conv => whnf
    refine ⟨fun c58 => ?_, fun c58 => ?_⟩
    · refine b_X8_firstMisfit [46, 83] ?_
      conv => whnf
      exact hs i (by rw [innF, if_pos ((nI_leI (by omega) (by omega)).mp c58)])
    · conv => whnf
      refine am_hgn hv.1 ?_
      conv => whnf
      refine am_hgn hv.2 ?_
      conv => whnf
      refine ⟨(vp_in_nI (by have : ¬ q ≤ i := (fun z => c58 (nI_le z (by omega))); omega) (by decide)), ?_⟩
      conv => whnf
      rw [e]
      refine s_isD ?_
      refine b_X8_firstMisfit [46, 83] ?_
      conv => whnf
      refine ⟨fun c71 => ?_, fun c71 => ?_⟩
      · conv => whnf
        exact hs i (by rw [innF, if_neg (fun z => c58 (nI_le z (by omega))), if_neg (by rw [bI_0.mp c71]; decide)])
      · refine b_X8_firstMisfit [46, 83] ?_
        conv => whnf
        have e4 : innF q f (k + 1) i = innF q f k (i + 1) := by rw [innF, if_neg (fun z => c58 (nI_le z (by omega))), if_pos (bI_n0.mp c71)]
        rw [e4] at hs hn
        have h2 := ih (i + 1) (by omega) hs hn
        rw [← nI_add i 1] at h2
        exact h2
theorem l_mis {h : AH} {a la ta ua q : Nat} {f : Nat → Int32} (hv : vAt h a la ta ua (nI q) f) (hq : q ≤ 96) {K : Option Value → AH → Prop} : ∀ (k st : Nat), q < st + k → st ≤ 100 → K (some (.int (misF q f k st))) h → am_E i_X8_firstMisfit 11 [some (.ref a), some (.int (nI st)), none, none, none] [] h K := by
  intro k
  induction k with
  | zero =>
    intro st hk hst hK
    refine b_X8_firstMisfit [11] ?_
    conv => whnf
    refine am_hgn hv.1 ?_
    conv => whnf
    refine ⟨fun c16 => ?_, fun c16 => absurd (nI_le (by omega) (by omega)) c16⟩
    refine b_X8_firstMisfit [11] ?_
    conv => whnf
    exact hK
  | succ k ih =>
    intro st hk hst hK
    have e : (nI st).toNatClampNeg = st := nI_clamp (by omega)
    obtain ⟨d1, d2⟩ := dgB_N (f st)
    refine b_X8_firstMisfit [11, 46] ?_
    conv => whnf
    refine am_hgn hv.1 ?_
    conv => whnf
    refine ⟨fun c16 => ?_, fun c16 => ?_⟩
    · refine b_X8_firstMisfit [11, 46] ?_
      conv => whnf
      rw [misF, if_pos ((nI_leI (by omega) (by omega)).mp c16)] at hK
      exact hK
    · conv => whnf
      refine am_hgn hv.1 ?_
      conv => whnf
      refine am_hgn hv.2 ?_
      conv => whnf
      refine ⟨(vp_in_nI (by have : ¬ q ≤ st := (fun z => c16 (nI_le z (by omega))); omega) (by decide)), ?_⟩
      conv => whnf
      rw [e]
      refine s_dgB ?_
      refine b_X8_firstMisfit [11, 46] ?_
      conv => whnf
      refine ⟨fun c30 => ?_, fun c30 => ?_⟩
      · conv => whnf
        have hd0 : dgN (f st) = 0 := by rw [d1] at c30; exact (nI_eq (by omega) (by omega)).mp c30
        rw [misF, if_neg (fun z => c16 (nI_le z (by omega))), if_pos hd0] at hK
        exact hK
      · refine b_X8_firstMisfit [11, 46] ?_
        conv => whnf
        have hd0 : ¬ dgN (f st) = 0 := fun z => c30 (by rw [d1, z]; decide)
        rw [misF, if_neg (fun z => c16 (nI_le z (by omega))), if_neg hd0] at hK
        rw [d1, nI_add, nI_add]
        have een : (nI (st + 1 + dgN (f st))).toNatClampNeg = st + 1 + dgN (f st) := nI_clamp (by omega)
        have hq2 : ¬ q ≤ st := (fun z => c16 (nI_le z (by omega)))
        refine l_inn hv hq (by omega) (dgN (f st)) (st + 1) (by omega) (fun j ej => ?_) (fun ej => ?_)
        · rw [ej] at hK; exact hK
        rw [ej] at hK
        simp only [] at hK
        refine b_X8_firstMisfit [11, 46] ?_
        conv => whnf
        refine am_hgn hv.1 ?_
        conv => whnf
        refine ⟨fun c88 => ?_, fun c88 => ?_⟩
        · refine b_X8_firstMisfit [11, 46] ?_
          conv => whnf
          rw [if_pos ((nI_leI (by omega) (by omega)).mp c88)] at hK
          exact hK
        · conv => whnf
          refine am_hgn hv.1 ?_
          conv => whnf
          refine am_hgn hv.2 ?_
          conv => whnf
          refine ⟨(vp_in_nI (by have : ¬ q ≤ st + 1 + dgN (f st) := (fun z => c88 (nI_le z (by omega))); omega) (by decide)), ?_⟩
          conv => whnf
          rw [een]
          refine ⟨fun c99 => ?_, fun c99 => ?_⟩
          · refine b_X8_firstMisfit [11, 46] ?_
            conv => whnf
            rw [if_neg (fun z => c88 (nI_le z (by omega))), if_pos c99] at hK
            have h2 := ih (st + 1 + dgN (f st) + 1) (by omega) (by have : ¬ q ≤ st + 1 + dgN (f st) := (fun z => c88 (nI_le z (by omega))); omega) hK
            rw [← nI_add (st + 1 + dgN (f st)) 1] at h2
            exact am_wk (by exact ⟨Or.inr rfl, Or.inr rfl, Or.inl rfl, Or.inl rfl, Or.inl rfl, trivial⟩) h2
          · conv => whnf
            rw [if_neg (fun z => c88 (nI_le z (by omega))), if_neg c99] at hK
            exact hK
theorem s_mis {h : AH} {a la ta ua q : Nat} {f : Nat → Int32} (hv : vAt h a la ta ua (nI q) f) (hq : q ≤ 96) {K : Option Value → AH → Prop} (hK : K (some (.int (if q = 0 then nI 0 else misF q f (q + 1) 0))) h) : am_M i_X8_firstMisfit [.ref a] h K := by
  refine e_X8_firstMisfit [11] ?_
  conv => whnf
  refine am_hgn hv.1 ?_
  conv => whnf
  refine ⟨fun c4 => ?_, fun c4 => ?_⟩
  · conv => whnf
    rw [if_pos ((nI_eq (by omega) (by omega)).mp (show nI q = nI 0 from c4))] at hK
    exact hK
  · refine b_X8_firstMisfit [11] ?_
    conv => whnf
    rw [if_neg (fun z => c4 (by rw [z]; decide))] at hK
    exact l_mis hv hq (q + 1) 0 (by omega) (by omega) hK
