/-! SPECS: orders laid, a drop, the row, the past -/
theorem am_inc_m1 (x : Int32) : am_inc x (-1) = x + Int32.ofInt (-1) := (am_inc_eq x (-1)).symm
theorem nI_m2 (n : Nat) (h : 2 ≤ n) : nI n - nI 2 = nI (n - 2) := by rw [pk_sub h]
def layF (i : Nat) (w : WS) : WS := (w.1, fun q => match q with
  | 3 => upd (w.2 3) i (nI i)
  | 4 => upd (w.2 4) i (nI i)
  | q => w.2 q)
theorem l_lay {n : Nat} {K : Option Value → AH → Prop} (hn8 : n ≤ 8) : ∀ (k i : Nat) (w : WS) , i + k = n → (w.1 0 = nI n ∧ K none (wC 0 (itr layF k i w))) → am_E i_X10_layInTurnUncut 7 [some (.ref 0), some (.int (nI i))] [] (wC 0 w) K := by
  intro k
  induction k with
  | zero =>
    intro i w  hi hK
    obtain rfl : i = n := by omega
    refine b_X10_layInTurnUncut [7] ?_
    conv => whnf
    refine ⟨fun c12 => ?_, fun c12 => absurd (by rw [hK.1]; exact nI_le (Nat.le_refl _) (by omega)) c12⟩
    refine b_X10_layInTurnUncut [7] ?_
    conv => whnf
    exact hK.2
  | succ k ih =>
    intro i w  hi hK
    have e : (nI i).toNatClampNeg = i := nI_clamp (by omega)
    refine b_X10_layInTurnUncut [7] ?_
    conv => whnf
    refine ⟨fun c12 => absurd c12 (by rw [hK.1]; exact nI_ge (by omega) (by omega)), fun c12 => ?_⟩
    conv => whnf
    refine ⟨(vI8 hn8 (by omega)), ?_⟩
    conv => whnf
    refine ⟨(vI8 hn8 (by omega)), ?_⟩
    conv => whnf
    rw [e]
    have h2 := ih (i + 1) (layF i w) (by omega) hK
    rw [← nI_add i 1] at h2
    exact h2
theorem s_lay {w : WS} {n : Nat} (hn : w.1 0 = nI n) (hn8 : n ≤ 8) {K : Option Value → AH → Prop} (hK : K none (wC 0 (itr layF n 0 (wI w 2 (nI 0))))) : am_M i_X10_layInTurnUncut [.ref 0] (wC 0 w) K := by
  refine e_X10_layInTurnUncut [7] ?_
  conv => whnf
  exact l_lay hn8 n 0 (wI w 2 (nI 0)) (by omega) ⟨hn, hK⟩
def lowF (at_ : Nat → Int32) : Nat → Nat
  | 0 => 0
  | k + 1 => if at_ k ≤ at_ (k + 1) then k + 1 else lowF at_ k
def highF (at_ : Nat → Int32) (lo : Nat) : Nat → Nat
  | 0 => lo
  | k + 1 => if at_ lo ≤ at_ (lo + (k + 1)) then lo + (k + 1) else highF at_ lo k
def revF : Nat → Nat → Nat → WS → WS
  | 0, _, _, w => w
  | f + 1, l, r, w => if l < r then revF f (l + 1) (r - 1) (wXch w l r) else w
def at8 (w : WS) (n : Nat) : Prop := ∀ j, j < n → vp_in (w.2 3 j) 8
theorem at8_xch {w : WS} {n i j : Nat} (h : at8 w n) (hi : i < n) (hj : j < n) : at8 (wXch w i j) n := by
  intro k hk
  show vp_in (upd (upd (w.2 3) i (w.2 3 j)) j (w.2 3 i) k) 8
  simp only [upd]
  split
  · exact h i hi
  · split
    · exact h j hj
    · exact h k hk
theorem l_low {w : WS} {n : Nat} {K : Option Value → AH → Prop} (hn8 : n ≤ 8) (hat : at8 w n) : ∀ (k : Nat), k < n → (∀ x1, x1 = nI (lowF (w.2 3) k) + Int32.ofInt (-1) → am_E i_X10_layNextOrder 34 [some (.ref 0), some (.int x1), none, none, none] [] (wC 0 w) K) → am_E i_X10_layNextOrder 7 [some (.ref 0), some (.int (nI k + Int32.ofInt (-1))), none, none, none] [] (wC 0 w) K := by
  intro k
  induction k with
  | zero =>
    intro hk hK
    refine b_X10_layNextOrder [7, 34] ?_
    conv => whnf
    refine ⟨fun c8 => ?_, fun c8 => absurd (by decide) c8⟩
    exact hK _ rfl
  | succ k ih =>
    intro hk hK
    have e : (nI k).toNatClampNeg = k := nI_clamp (by omega)
    have e2 : (nI (k + 1)).toNatClampNeg = k + 1 := nI_clamp (by omega)
    rw [nI_m1]
    refine b_X10_layNextOrder [7, 34] ?_
    conv => whnf
    refine ⟨fun c8 => absurd c8 (nI_pos (by omega)), fun c8 => ?_⟩
    conv => whnf
    refine ⟨(vI8 hn8 (by omega)), ?_⟩
    conv => whnf
    rw [e]
    refine ⟨(by rw [nI_add]; exact vI8 hn8 (by omega)), ?_⟩
    conv => whnf
    rw [nI_add, e2]
    refine ⟨fun c25 => ?_, fun c25 => ?_⟩
    · refine hK _ ?_
      rw [lowF, if_pos c25, nI_m1]
    · conv => whnf
      rw [lowF, if_neg c25] at hK
      have h2 := ih (by omega) hK
      rw [am_inc_m1]
      exact h2
theorem l_high {w : WS} {n lo : Nat} {K : Option Value → AH → Prop} (hn8 : n ≤ 8) (hat : at8 w n) (hlo : lo < n) : ∀ (k : Nat), lo + k < n → am_E i_X10_layNextOrder 73 [some (.ref 0), some (.int (nI lo)), some (.int (nI (highF (w.2 3) lo k))), none, none] [] (wC 0 w) K → am_E i_X10_layNextOrder 47 [some (.ref 0), some (.int (nI lo)), some (.int (nI (lo + k))), none, none] [] (wC 0 w) K := by
  have e : (nI lo).toNatClampNeg = lo := nI_clamp (by omega)
  intro k
  induction k with
  | zero =>
    intro hk hK
    refine b_X10_layNextOrder [47, 73] ?_
    conv => whnf
    refine ⟨fun c49 => ?_, fun c49 => absurd (nI_le (by omega) (by omega)) c49⟩
    exact hK
  | succ k ih =>
    intro hk hK
    have e2 : (nI (lo + (k + 1))).toNatClampNeg = lo + (k + 1) := nI_clamp (by omega)
    refine b_X10_layNextOrder [47, 73] ?_
    conv => whnf
    refine ⟨fun c49 => absurd c49 (nI_ge (by omega) (by omega)), fun c49 => ?_⟩
    conv => whnf
    refine ⟨(vI8 hn8 (by omega)), ?_⟩
    conv => whnf
    rw [e2]
    refine ⟨(vI8 hn8 hlo), ?_⟩
    conv => whnf
    rw [e]
    refine ⟨fun c64 => ?_, fun c64 => ?_⟩
    · rw [highF, if_pos c64] at hK
      exact hK
    · conv => whnf
      rw [highF, if_neg c64] at hK
      have h2 := ih (by omega) hK
      rw [show nI (lo + k) = nI (lo + (k + 1)) - nI 1 from (nI_m (lo + (k + 1)) (by omega)).symm] at h2
      exact h2
theorem l_rev {n : Nat} {K : Option Value → AH → Prop} (hn8 : n ≤ 8) : ∀ (f l r : Nat) (w : WS), at8 w n → l ≤ n → r < n → r ≤ l + f → K (some (.int (nI 1))) (wC 0 (revF f l r w)) → am_E i_X10_layNextOrder 91 [some (.ref 0), none, none, some (.int (nI l)), some (.int (nI r))] [] (wC 0 w) K := by
  intro f
  induction f with
  | zero =>
    intro l r w hat hl hr hf hK
    refine b_X10_layNextOrder [91] ?_
    conv => whnf
    refine ⟨fun c94 => ?_, fun c94 => absurd (nI_le (by omega) (by omega)) c94⟩
    refine b_X10_layNextOrder [91] ?_
    conv => whnf
    refine ⟨(by first | exact Or.inl nI_0 | exact Or.inr nI_one | assumption), ?_⟩
    exact hK
  | succ f ih =>
    intro l r w hat hl hr hf hK
    refine b_X10_layNextOrder [91] ?_
    conv => whnf
    refine ⟨fun c94 => ?_, fun c94 => ?_⟩
    · refine b_X10_layNextOrder [91] ?_
      conv => whnf
      refine ⟨(by first | exact Or.inl nI_0 | exact Or.inr nI_one | assumption), ?_⟩
      have hlr : ¬ l < r := fun z => absurd c94 (nI_ge z (by omega))
      rw [revF, if_neg hlr] at hK
      exact hK
    · conv => whnf
      have hlr : l < r := Nat.not_le.mp (fun z => c94 (nI_le z (by omega)))
      refine s_exchange hn8 hat (by omega) hr ?_
      refine b_X10_layNextOrder [91] ?_
      conv => whnf
      rw [revF, if_pos hlr] at hK
      have h2 := ih (l + 1) (r - 1) (wXch w l r) (at8_xch hat (by omega) hr) (by omega) (by omega) (by omega) hK
      rw [← nI_add l 1, ← nI_m r (by omega)] at h2
      exact h2
/-- the next order of a wire, if there is one -/
def nxO (w : WS) (n : Nat) : Option WS := match lowF (w.2 3) (n - 1) with
  | 0 => none
  | lo + 1 => some (revF n (lo + 1) (n - 1) (wXch w lo (highF (w.2 3) lo (n - 1 - lo))))
theorem lowF_le (a : Nat → Int32) : ∀ k, lowF a k ≤ k
  | 0 => Nat.le_refl _
  | k + 1 => by
    rw [lowF]
    split
    · exact Nat.le_refl _
    · exact Nat.le_succ_of_le (lowF_le a k)
theorem highF_le (a : Nat → Int32) (lo : Nat) : ∀ k, lo ≤ highF a lo k ∧ highF a lo k ≤ lo + k
  | 0 => ⟨Nat.le_refl _, Nat.le_refl _⟩
  | k + 1 => by
    rw [highF]
    split
    · exact ⟨Nat.le_add_right _ _, Nat.le_refl _⟩
    · have := highF_le a lo k; omega
theorem s_nextO {w : WS} {n : Nat} {K : Option Value → AH → Prop} (hn : w.1 0 = nI n) (hn8 : n ≤ 8) (hat : at8 w n) (hK0 : nxO w n = none → K (some (.int (nI 0))) (wC 0 w)) (hK1 : ∀ w2, nxO w n = some w2 → K (some (.int (nI 1))) (wC 0 w2)) : am_M i_X10_layNextOrder [.ref 0] (wC 0 w) K := by
  rcases Nat.lt_or_ge n 2 with h2 | h2
  · have hx : nxO w n = none := by
      have : n - 1 = 0 := by omega
      rw [nxO, this]
      rfl
    have hlt : w.1 0 - nI 2 < 0 := by
      rw [hn]
      have : ∀ n, n < 2 → nI n - nI 2 < 0 := by decide +kernel
      exact this n h2
    refine e_X10_layNextOrder [7] ?_
    conv => whnf
    refine b_X10_layNextOrder [7] ?_
    conv => whnf
    refine ⟨fun c8 => ?_, fun c8 => absurd hlt c8⟩
    refine b_X10_layNextOrder [7] ?_
    conv => whnf
    refine ⟨fun c35 => absurd hlt (Int32.not_lt.mpr c35), fun c35 => ?_⟩
    conv => whnf
    refine ⟨Or.inl nI_0, ?_⟩
    exact hK0 hx
  · have hl2 : w.1 0 - nI 2 = nI (n - 1) + Int32.ofInt (-1) := by
      rw [hn, nI_m2 n h2, show n - 1 = (n - 2) + 1 by omega, nI_m1]
    have hlow := lowF_le (w.2 3) (n - 1)
    refine e_X10_layNextOrder [7, 34] ?_
    conv => whnf
    rw [hl2]
    refine l_low hn8 hat (n - 1) (by omega) (fun x1 hx1 => ?_)
    rcases hlo : lowF (w.2 3) (n - 1) with _ | lo
    · rw [hlo] at hx1
      have hz : x1 < 0 := by rw [hx1]; decide
      refine b_X10_layNextOrder [34] ?_
      conv => whnf
      refine ⟨fun c35 => absurd c35 (Int32.not_le.mpr hz), fun c35 => ?_⟩
      conv => whnf
      refine ⟨(by first | exact Or.inl nI_0 | exact Or.inr nI_one | assumption), ?_⟩
      exact hK0 (by rw [nxO, hlo])
    · rw [hlo, nI_m1] at hx1
      subst hx1
      have hh := highF_le (w.2 3) lo (n - 1 - lo)
      have hk := hK1 _ (show nxO w n = some (revF n (lo + 1) (n - 1) (wXch w lo (highF (w.2 3) lo (n - 1 - lo)))) by rw [nxO, hlo])
      refine b_X10_layNextOrder [47] ?_
      conv => whnf
      refine ⟨fun c35 => ?_, fun c35 => absurd (nI_pos' (by omega)) c35⟩
      refine b_X10_layNextOrder [47] ?_
      conv => whnf
      have hm : w.1 0 - nI 1 = nI (lo + (n - 1 - lo)) := by rw [hn, nI_m n (by omega)]; congr 1; omega
      rw [hm]
      refine l_high hn8 hat (by omega) (n - 1 - lo) (by omega) ?_
      refine b_X10_layNextOrder [91] ?_
      conv => whnf
      refine s_exchange hn8 hat (by omega) (by omega) ?_
      refine b_X10_layNextOrder [91] ?_
      conv => whnf
      rw [nI_add, show (wXch w lo (highF (w.2 3) lo (n - 1 - lo))).1 0 - nI 1 = nI (n - 1) from by show w.1 0 - nI 1 = _; rw [hn, nI_m n (by omega)]]
      exact am_wk (by exact ⟨Or.inr rfl, Or.inl rfl, Or.inl rfl, Or.inr rfl, Or.inr rfl, trivial⟩) (l_rev hn8 n (lo + 1) (n - 1) _ (at8_xch hat (by omega) (by omega)) (by omega) (by omega) (by omega) hk)
