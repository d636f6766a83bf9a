/-! SPECS: the first misfit -/
def dgN (x : Int32) : Nat := if x = nI 99 then 1 else if x = nI 100 then 3 else if x = nI 109 then 1 else if x = nI 116 then 3 else if x = nI 120 then 2 else 0
theorem dgB_N (x : Int32) : dgB x = nI (dgN x) ∧ dgN x ≤ 3 := by
  unfold dgB dgN
  split
  · exact ⟨rfl, by omega⟩
  · split
    · exact ⟨rfl, by omega⟩
    · split
      · exact ⟨rfl, by omega⟩
      · split
        · exact ⟨rfl, by omega⟩
        · split
          · exact ⟨rfl, by omega⟩
          · exact ⟨rfl, by omega⟩
def innF (q : Nat) (f : Nat → Int32) : Nat → Nat → Option Nat
  | 0, _ => none
  | k + 1, i => if q ≤ i then some i else if isD (f i) = true then innF q f k (i + 1) else some i
def misF (q : Nat) (f : Nat → Int32) : Nat → Nat → Int32
  | 0, _ => Int32.ofInt (-9)
  | k + 1, s => if q ≤ s then Int32.ofInt (-9) else if dgN (f s) = 0 then nI s else match innF q f (dgN (f s)) (s + 1) with
    | some i => nI i
    | none => if q ≤ s + 1 + dgN (f s) then nI (s + 1 + dgN (f s)) else if f (s + 1 + dgN (f s)) = nI 59 then misF q f k (s + 1 + dgN (f s) + 1) else nI (s + 1 + dgN (f s))
theorem l_inn {h : AH} {a la ta ua q : Nat} {f : Nat → Int32} (hv : vAt h a la ta ua (nI q) f) (hq : q ≤ 96) {st en : Nat} {dg : Int32} {K : Option Value → AH → Prop} (hen : en ≤ 200) : ∀ (k i : Nat), i + k = en → (∀ j, innF q f k i = some j → K (some (.int (nI j))) h) → (innF q f k i = none → am_E i_X8_firstMisfit 83 [some (.ref a), some (.int (nI st)), some (.int dg), some (.int (nI en)), some (.int (nI en))] [] h K) → am_E i_X8_firstMisfit 46 [some (.ref a), some (.int (nI st)), some (.int dg), some (.int (nI en)), some (.int (nI i))] [] h K := by
  intro k
  induction k with
  | zero =>
    intro i hi hs hn
    obtain rfl : i = en := by omega
    refine b_X8_firstMisfit [46, 83] ?_
    conv => whnf
    refine ⟨fun c49 => ?_, fun c49 => absurd (nI_le (Nat.le_refl _) (by omega)) c49⟩
    exact hn rfl
  | succ k ih =>
    intro i hi hs hn
    have e : (nI i).toNatClampNeg = i := nI_clamp (by omega)
    refine b_X8_firstMisfit [46, 83] ?_
    conv => whnf
    refine ⟨fun c49 => absurd c49 (nI_ge (by omega) (by omega)), fun c49 => ?_⟩
    conv => whnf
    refine am_hgn hv.1 ?_
    conv => whnf
    refine ⟨fun c58 => ?_, fun c58 => ?_⟩
    · refine b_X8_firstMisfit [46, 83] ?_
      conv => whnf
      exact hs i (by rw [innF, if_pos ((nI_leI (by omega) (by omega)).mp c58)])
    · conv => whnf
      refine am_hgn hv.1 ?_
      conv => whnf
      refine am_hgn hv.2 ?_
      conv => whnf
      refine ⟨(vp_in_nI (by have : ¬ q ≤ i := (fun z => c58 (nI_le z (by omega))); omega) (by decide)), ?_⟩
      conv => whnf
      rw [e]
      refine s_isD ?_
      refine b_X8_firstMisfit [46, 83] ?_
      conv => whnf
      refine ⟨fun c71 => ?_, fun c71 => ?_⟩
      · conv => whnf
        exact hs i (by rw [innF, if_neg (fun z => c58 (nI_le z (by omega))), if_neg (by rw [bI_0.mp c71]; decide)])
      · refine b_X8_firstMisfit [46, 83] ?_
        conv => whnf
        have e4 : innF q f (k + 1) i = innF q f k (i + 1) := by rw [innF, if_neg (fun z => c58 (nI_le z (by omega))), if_pos (bI_n0.mp c71)]
        rw [e4] at hs hn
        have h2 := ih (i + 1) (by omega) hs hn
        rw [← nI_add i 1] at h2
        exact h2
