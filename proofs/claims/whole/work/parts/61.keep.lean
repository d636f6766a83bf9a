/-! SPECS of the model: what is kept and put back -/
def blit (F : Nat → Int32) (c k : Nat) (g : Nat → Int32) : Nat → Int32 := fun j => if c ≤ j ∧ j < c + k then g (j - c) else F j
theorem blit_0 (F : Nat → Int32) (c : Nat) (g : Nat → Int32) : blit F c 0 g = F := by
  funext j
  unfold blit
  rw [if_neg (by omega)]
theorem blit_s (F : Nat → Int32) (c k : Nat) (g : Nat → Int32) : upd (blit F c k g) (c + k) (g k) = blit F c (k + 1) g := by
  funext j
  unfold upd blit
  by_cases q : j = c + k
  · rw [if_pos q, if_pos (by omega), q, Nat.add_sub_cancel_left]
  · rw [if_neg q]
    by_cases r : c ≤ j ∧ j < c + k
    · rw [if_pos r, if_pos (by omega)]
    · rw [if_neg r, if_neg (by omega)]
/-- the model with its kept row, its direction and its cursor -/
def kM (m : MS) (F : Nat → Int32) (f z : Int32) : MS := setI (setI (setA m 9 F) 18 f) 19 z
theorem ml_ps1 {m : MS} {s : S3} {F : Nat → Int32} {c : Nat} (hc : c + 8 ≤ 440) {K : Option Value → AH → Prop}  : ∀ (k i : Nat) , i + k = 8 → (K none (mC (kM m (blit F c 8 (m.2 1)) (nI 1) (nI (c + 8))) s.1 s.2.2)) → am_E i_X12_passes 2 [some (.ref 0), some (.ref 2), some (.int (nI i))] [] (mC (kM m (blit F c i (m.2 1)) (nI 1) (nI (c + i))) s.1 s.2.2) K := by
  intro k
  induction k with
  | zero =>
    intro i  hi hK
    obtain rfl : i = 8 := by omega
    refine b_X12_passes [2] ?_
    conv => whnf
    refine ⟨fun c5 => ?_, fun c5 => absurd (by decide) c5⟩
    refine b_X12_passes [2] ?_
    conv => whnf
    exact hK
  | succ k ih =>
    intro i  hi hK
    refine b_X12_passes [2] ?_
    conv => whnf
    refine ⟨fun c5 => absurd c5 (nI_ge (by omega) (by omega)), fun c5 => ?_⟩
    conv => whnf
    refine ⟨fun c12 => absurd c12 (show ¬ nI 1 = 0 by decide), fun c12 => ?_⟩
    conv => whnf
    refine ⟨(vp_in_nI (show i < 8 by omega) (by decide)), ?_⟩
    conv => whnf
    
    refine ⟨(vp_in_nI (show c + i < 440 by omega) (by decide)), ?_⟩
    rw [nI_clamp (show i < 2 ^ 31 by omega)]
    rw [show ((kM m (blit F c i (m.2 1)) (nI 1) (nI (c + i))).1 19).toNatClampNeg = c + i from nI_clamp (by omega)]
    rw [show upd ((kM m (blit F c i (m.2 1)) (nI 1) (nI (c + i))).2 9) (c + i) ((kM m (blit F c i (m.2 1)) (nI 1) (nI (c + i))).2 1 i) = blit F c (i + 1) (m.2 1) from blit_s F c i (m.2 1)]
    conv => whnf
    refine b_X12_passes [2] ?_
    conv => whnf
    have h2 := ih (i + 1) (by omega) hK
    rw [← Nat.add_assoc, ← nI_add (c + i) 1, ← nI_add i 1] at h2
    exact h2
theorem m_ps1 {m : MS} {s : S3} {F : Nat → Int32} {c : Nat} {K : Option Value → AH → Prop} (hc : c + 8 ≤ 440) (hK : K none (mC (kM m (blit F c 8 (m.2 1)) (nI 1) (nI (c + 8))) s.1 s.2.2)) : am_M i_X12_passes [.ref 0, .ref 2] (mC (kM m (F) (nI 1) (nI c)) s.1 s.2.2) K := by
  rw [← blit_0 F c (m.2 1)]
  rw [show nI c = nI (c + 0) from rfl]
  refine e_X12_passes [2] ?_
  conv => whnf
  exact ml_ps1 hc 8 0 rfl hK
theorem ml_ps2 {m : MS} {s : S3} {F : Nat → Int32} {c : Nat} (hc : c + 8 ≤ 440) {K : Option Value → AH → Prop}  : ∀ (k i : Nat) , i + k = 8 → (K none (mC (kM m (blit F c 8 (m.2 2)) (nI 1) (nI (c + 8))) s.1 s.2.2)) → am_E i_X12_passes 2 [some (.ref 0), some (.ref 3), some (.int (nI i))] [] (mC (kM m (blit F c i (m.2 2)) (nI 1) (nI (c + i))) s.1 s.2.2) K := by
  intro k
  induction k with
  | zero =>
    intro i  hi hK
    obtain rfl : i = 8 := by omega
    refine b_X12_passes [2] ?_
    conv => whnf
    refine ⟨fun c5 => ?_, fun c5 => absurd (by decide) c5⟩
    refine b_X12_passes [2] ?_
    conv => whnf
    exact hK
  | succ k ih =>
    intro i  hi hK
    refine b_X12_passes [2] ?_
    conv => whnf
    refine ⟨fun c5 => absurd c5 (nI_ge (by omega) (by omega)), fun c5 => ?_⟩
    conv => whnf
    refine ⟨fun c12 => absurd c12 (show ¬ nI 1 = 0 by decide), fun c12 => ?_⟩
    conv => whnf
    refine ⟨(vp_in_nI (show i < 8 by omega) (by decide)), ?_⟩
    conv => whnf
    
    refine ⟨(vp_in_nI (show c + i < 440 by omega) (by decide)), ?_⟩
    rw [nI_clamp (show i < 2 ^ 31 by omega)]
    rw [show ((kM m (blit F c i (m.2 2)) (nI 1) (nI (c + i))).1 19).toNatClampNeg = c + i from nI_clamp (by omega)]
    rw [show upd ((kM m (blit F c i (m.2 2)) (nI 1) (nI (c + i))).2 9) (c + i) ((kM m (blit F c i (m.2 2)) (nI 1) (nI (c + i))).2 2 i) = blit F c (i + 1) (m.2 2) from blit_s F c i (m.2 2)]
    conv => whnf
    refine b_X12_passes [2] ?_
    conv => whnf
    have h2 := ih (i + 1) (by omega) hK
    rw [← Nat.add_assoc, ← nI_add (c + i) 1, ← nI_add i 1] at h2
    exact h2
theorem m_ps2 {m : MS} {s : S3} {F : Nat → Int32} {c : Nat} {K : Option Value → AH → Prop} (hc : c + 8 ≤ 440) (hK : K none (mC (kM m (blit F c 8 (m.2 2)) (nI 1) (nI (c + 8))) s.1 s.2.2)) : am_M i_X12_passes [.ref 0, .ref 3] (mC (kM m (F) (nI 1) (nI c)) s.1 s.2.2) K := by
  rw [← blit_0 F c (m.2 2)]
  rw [show nI c = nI (c + 0) from rfl]
  refine e_X12_passes [2] ?_
  conv => whnf
  exact ml_ps2 hc 8 0 rfl hK
theorem ml_ps3 {m : MS} {s : S3} {F : Nat → Int32} {c : Nat} (hc : c + 8 ≤ 440) {K : Option Value → AH → Prop}  : ∀ (k i : Nat) , i + k = 8 → (K none (mC (kM m (blit F c 8 (m.2 3)) (nI 1) (nI (c + 8))) s.1 s.2.2)) → am_E i_X12_passes 2 [some (.ref 0), some (.ref 4), some (.int (nI i))] [] (mC (kM m (blit F c i (m.2 3)) (nI 1) (nI (c + i))) s.1 s.2.2) K := by
  intro k
  induction k with
  | zero =>
    intro i  hi hK
    obtain rfl : i = 8 := by omega
    refine b_X12_passes [2] ?_
    conv => whnf
    refine ⟨fun c5 => ?_, fun c5 => absurd (by decide) c5⟩
    refine b_X12_passes [2] ?_
    conv => whnf
    exact hK
  | succ k ih =>
    intro i  hi hK
    refine b_X12_passes [2] ?_
    conv => whnf
    refine ⟨fun c5 => absurd c5 (nI_ge (by omega) (by omega)), fun c5 => ?_⟩
    conv => whnf
    refine ⟨fun c12 => absurd c12 (show ¬ nI 1 = 0 by decide), fun c12 => ?_⟩
    conv => whnf
    refine ⟨(vp_in_nI (show i < 8 by omega) (by decide)), ?_⟩
    conv => whnf
    
    refine ⟨(vp_in_nI (show c + i < 440 by omega) (by decide)), ?_⟩
    rw [nI_clamp (show i < 2 ^ 31 by omega)]
    rw [show ((kM m (blit F c i (m.2 3)) (nI 1) (nI (c + i))).1 19).toNatClampNeg = c + i from nI_clamp (by omega)]
    rw [show upd ((kM m (blit F c i (m.2 3)) (nI 1) (nI (c + i))).2 9) (c + i) ((kM m (blit F c i (m.2 3)) (nI 1) (nI (c + i))).2 3 i) = blit F c (i + 1) (m.2 3) from blit_s F c i (m.2 3)]
    conv => whnf
    refine b_X12_passes [2] ?_
    conv => whnf
    have h2 := ih (i + 1) (by omega) hK
    rw [← Nat.add_assoc, ← nI_add (c + i) 1, ← nI_add i 1] at h2
    exact h2
theorem m_ps3 {m : MS} {s : S3} {F : Nat → Int32} {c : Nat} {K : Option Value → AH → Prop} (hc : c + 8 ≤ 440) (hK : K none (mC (kM m (blit F c 8 (m.2 3)) (nI 1) (nI (c + 8))) s.1 s.2.2)) : am_M i_X12_passes [.ref 0, .ref 4] (mC (kM m (F) (nI 1) (nI c)) s.1 s.2.2) K := by
  rw [← blit_0 F c (m.2 3)]
  rw [show nI c = nI (c + 0) from rfl]
  refine e_X12_passes [2] ?_
  conv => whnf
  exact ml_ps3 hc 8 0 rfl hK
theorem ml_ps4 {m : MS} {s : S3} {F : Nat → Int32} {c : Nat} (hc : c + 8 ≤ 440) {K : Option Value → AH → Prop}  : ∀ (k i : Nat) , i + k = 8 → (K none (mC (kM m (blit F c 8 (m.2 4)) (nI 1) (nI (c + 8))) s.1 s.2.2)) → am_E i_X12_passes 2 [some (.ref 0), some (.ref 5), some (.int (nI i))] [] (mC (kM m (blit F c i (m.2 4)) (nI 1) (nI (c + i))) s.1 s.2.2) K := by
  intro k
  induction k with
  | zero =>
    intro i  hi hK
    obtain rfl : i = 8 := by omega
    refine b_X12_passes [2] ?_
    conv => whnf
    refine ⟨fun c5 => ?_, fun c5 => absurd (by decide) c5⟩
    refine b_X12_passes [2] ?_
    conv => whnf
    exact hK
  | succ k ih =>
    intro i  hi hK
    refine b_X12_passes [2] ?_
    conv => whnf
    refine ⟨fun c5 => absurd c5 (nI_ge (by omega) (by omega)), fun c5 => ?_⟩
    conv => whnf
    refine ⟨fun c12 => absurd c12 (show ¬ nI 1 = 0 by decide), fun c12 => ?_⟩
    conv => whnf
    refine ⟨(vp_in_nI (show i < 8 by omega) (by decide)), ?_⟩
    conv => whnf
    
    refine ⟨(vp_in_nI (show c + i < 440 by omega) (by decide)), ?_⟩
    rw [nI_clamp (show i < 2 ^ 31 by omega)]
    rw [show ((kM m (blit F c i (m.2 4)) (nI 1) (nI (c + i))).1 19).toNatClampNeg = c + i from nI_clamp (by omega)]
    rw [show upd ((kM m (blit F c i (m.2 4)) (nI 1) (nI (c + i))).2 9) (c + i) ((kM m (blit F c i (m.2 4)) (nI 1) (nI (c + i))).2 4 i) = blit F c (i + 1) (m.2 4) from blit_s F c i (m.2 4)]
    conv => whnf
    refine b_X12_passes [2] ?_
    conv => whnf
    have h2 := ih (i + 1) (by omega) hK
    rw [← Nat.add_assoc, ← nI_add (c + i) 1, ← nI_add i 1] at h2
    exact h2
theorem m_ps4 {m : MS} {s : S3} {F : Nat → Int32} {c : Nat} {K : Option Value → AH → Prop} (hc : c + 8 ≤ 440) (hK : K none (mC (kM m (blit F c 8 (m.2 4)) (nI 1) (nI (c + 8))) s.1 s.2.2)) : am_M i_X12_passes [.ref 0, .ref 5] (mC (kM m (F) (nI 1) (nI c)) s.1 s.2.2) K := by
  rw [← blit_0 F c (m.2 4)]
  rw [show nI c = nI (c + 0) from rfl]
  refine e_X12_passes [2] ?_
  conv => whnf
  exact ml_ps4 hc 8 0 rfl hK
theorem ml_pl1 {m : MS} {s : S3} {c : Nat} (hc : c + 8 ≤ 440) {K : Option Value → AH → Prop}  : ∀ (k i : Nat) , i + k = 8 → (K none (mC (kM (setA m 1 (blit (m.2 1) 0 8 (fun j => m.2 9 (c + j)))) (m.2 9) (nI 0) (nI (c + 8))) s.1 s.2.2)) → am_E i_X12_passes 2 [some (.ref 0), some (.ref 2), some (.int (nI i))] [] (mC (kM (setA m 1 (blit (m.2 1) 0 i (fun j => m.2 9 (c + j)))) (m.2 9) (nI 0) (nI (c + i))) s.1 s.2.2) K := by
  intro k
  induction k with
  | zero =>
    intro i  hi hK
    obtain rfl : i = 8 := by omega
    refine b_X12_passes [2] ?_
    conv => whnf
    refine ⟨fun c5 => ?_, fun c5 => absurd (by decide) c5⟩
    refine b_X12_passes [2] ?_
    conv => whnf
    exact hK
  | succ k ih =>
    intro i  hi hK
    refine b_X12_passes [2] ?_
    conv => whnf
    refine ⟨fun c5 => absurd c5 (nI_ge (by omega) (by omega)), fun c5 => ?_⟩
    conv => whnf
    refine ⟨fun c12 => ?_, fun c12 => absurd (show nI 0 = 0 by decide) c12⟩
    refine b_X12_passes [2] ?_
    conv => whnf
    refine ⟨(vp_in_nI (show c + i < 440 by omega) (by decide)), ?_⟩
    conv => whnf
    refine ⟨(vp_in_nI (show i < 8 by omega) (by decide)), ?_⟩
    rw [nI_clamp (show i < 2 ^ 31 by omega)]
    rw [show ((kM (setA m 1 (blit (m.2 1) 0 i (fun j => m.2 9 (c + j)))) (m.2 9) (nI 0) (nI (c + i))).1 19).toNatClampNeg = c + i from nI_clamp (by omega)]
    rw [show upd ((kM (setA m 1 (blit (m.2 1) 0 i (fun j => m.2 9 (c + j)))) (m.2 9) (nI 0) (nI (c + i))).2 1) i ((kM (setA m 1 (blit (m.2 1) 0 i (fun j => m.2 9 (c + j)))) (m.2 9) (nI 0) (nI (c + i))).2 9 (c + i)) = blit (m.2 1) 0 (i + 1) (fun j => m.2 9 (c + j)) from by have := blit_s (m.2 1) 0 i (fun j => m.2 9 (c + j)); rw [Nat.zero_add] at this; exact this]
    conv => whnf
    have h2 := ih (i + 1) (by omega) hK
    rw [← Nat.add_assoc, ← nI_add (c + i) 1, ← nI_add i 1] at h2
    exact h2
theorem m_pl1 {m : MS} {s : S3} {c : Nat} {K : Option Value → AH → Prop} (hc : c + 8 ≤ 440) (hK : K none (mC (kM (setA m 1 (blit (m.2 1) 0 8 (fun j => m.2 9 (c + j)))) (m.2 9) (nI 0) (nI (c + 8))) s.1 s.2.2)) : am_M i_X12_passes [.ref 0, .ref 2] (mC (kM m (m.2 9) (nI 0) (nI c)) s.1 s.2.2) K := by
  have h0 : blit (m.2 1) 0 0 (fun j => m.2 9 (c + j)) = m.2 1 := blit_0 _ _ _
  rw [show nI c = nI (c + 0) from rfl]
  refine e_X12_passes [2] ?_
  conv => whnf
  have h2 := ml_pl1 (s := s) (m := m) hc 8 0 rfl hK
  rw [h0] at h2
  exact h2
theorem ml_pl2 {m : MS} {s : S3} {c : Nat} (hc : c + 8 ≤ 440) {K : Option Value → AH → Prop}  : ∀ (k i : Nat) , i + k = 8 → (K none (mC (kM (setA m 2 (blit (m.2 2) 0 8 (fun j => m.2 9 (c + j)))) (m.2 9) (nI 0) (nI (c + 8))) s.1 s.2.2)) → am_E i_X12_passes 2 [some (.ref 0), some (.ref 3), some (.int (nI i))] [] (mC (kM (setA m 2 (blit (m.2 2) 0 i (fun j => m.2 9 (c + j)))) (m.2 9) (nI 0) (nI (c + i))) s.1 s.2.2) K := by
  intro k
  induction k with
  | zero =>
    intro i  hi hK
    obtain rfl : i = 8 := by omega
    refine b_X12_passes [2] ?_
    conv => whnf
    refine ⟨fun c5 => ?_, fun c5 => absurd (by decide) c5⟩
    refine b_X12_passes [2] ?_
    conv => whnf
    exact hK
  | succ k ih =>
    intro i  hi hK
    refine b_X12_passes [2] ?_
    conv => whnf
    refine ⟨fun c5 => absurd c5 (nI_ge (by omega) (by omega)), fun c5 => ?_⟩
    conv => whnf
    refine ⟨fun c12 => ?_, fun c12 => absurd (show nI 0 = 0 by decide) c12⟩
    refine b_X12_passes [2] ?_
    conv => whnf
    refine ⟨(vp_in_nI (show c + i < 440 by omega) (by decide)), ?_⟩
    conv => whnf
    refine ⟨(vp_in_nI (show i < 8 by omega) (by decide)), ?_⟩
    rw [nI_clamp (show i < 2 ^ 31 by omega)]
    rw [show ((kM (setA m 2 (blit (m.2 2) 0 i (fun j => m.2 9 (c + j)))) (m.2 9) (nI 0) (nI (c + i))).1 19).toNatClampNeg = c + i from nI_clamp (by omega)]
    rw [show upd ((kM (setA m 2 (blit (m.2 2) 0 i (fun j => m.2 9 (c + j)))) (m.2 9) (nI 0) (nI (c + i))).2 2) i ((kM (setA m 2 (blit (m.2 2) 0 i (fun j => m.2 9 (c + j)))) (m.2 9) (nI 0) (nI (c + i))).2 9 (c + i)) = blit (m.2 2) 0 (i + 1) (fun j => m.2 9 (c + j)) from by have := blit_s (m.2 2) 0 i (fun j => m.2 9 (c + j)); rw [Nat.zero_add] at this; exact this]
    conv => whnf
    have h2 := ih (i + 1) (by omega) hK
    rw [← Nat.add_assoc, ← nI_add (c + i) 1, ← nI_add i 1] at h2
    exact h2
theorem m_pl2 {m : MS} {s : S3} {c : Nat} {K : Option Value → AH → Prop} (hc : c + 8 ≤ 440) (hK : K none (mC (kM (setA m 2 (blit (m.2 2) 0 8 (fun j => m.2 9 (c + j)))) (m.2 9) (nI 0) (nI (c + 8))) s.1 s.2.2)) : am_M i_X12_passes [.ref 0, .ref 3] (mC (kM m (m.2 9) (nI 0) (nI c)) s.1 s.2.2) K := by
  have h0 : blit (m.2 2) 0 0 (fun j => m.2 9 (c + j)) = m.2 2 := blit_0 _ _ _
  rw [show nI c = nI (c + 0) from rfl]
  refine e_X12_passes [2] ?_
  conv => whnf
  have h2 := ml_pl2 (s := s) (m := m) hc 8 0 rfl hK
  rw [h0] at h2
  exact h2
theorem ml_pl3 {m : MS} {s : S3} {c : Nat} (hc : c + 8 ≤ 440) {K : Option Value → AH → Prop}  : ∀ (k i : Nat) , i + k = 8 → (K none (mC (kM (setA m 3 (blit (m.2 3) 0 8 (fun j => m.2 9 (c + j)))) (m.2 9) (nI 0) (nI (c + 8))) s.1 s.2.2)) → am_E i_X12_passes 2 [some (.ref 0), some (.ref 4), some (.int (nI i))] [] (mC (kM (setA m 3 (blit (m.2 3) 0 i (fun j => m.2 9 (c + j)))) (m.2 9) (nI 0) (nI (c + i))) s.1 s.2.2) K := by
  intro k
  induction k with
  | zero =>
    intro i  hi hK
    obtain rfl : i = 8 := by omega
    refine b_X12_passes [2] ?_
    conv => whnf
    refine ⟨fun c5 => ?_, fun c5 => absurd (by decide) c5⟩
    refine b_X12_passes [2] ?_
    conv => whnf
    exact hK
  | succ k ih =>
    intro i  hi hK
    refine b_X12_passes [2] ?_
    conv => whnf
    refine ⟨fun c5 => absurd c5 (nI_ge (by omega) (by omega)), fun c5 => ?_⟩
    conv => whnf
    refine ⟨fun c12 => ?_, fun c12 => absurd (show nI 0 = 0 by decide) c12⟩
    refine b_X12_passes [2] ?_
    conv => whnf
    refine ⟨(vp_in_nI (show c + i < 440 by omega) (by decide)), ?_⟩
    conv => whnf
    refine ⟨(vp_in_nI (show i < 8 by omega) (by decide)), ?_⟩
    rw [nI_clamp (show i < 2 ^ 31 by omega)]
    rw [show ((kM (setA m 3 (blit (m.2 3) 0 i (fun j => m.2 9 (c + j)))) (m.2 9) (nI 0) (nI (c + i))).1 19).toNatClampNeg = c + i from nI_clamp (by omega)]
    rw [show upd ((kM (setA m 3 (blit (m.2 3) 0 i (fun j => m.2 9 (c + j)))) (m.2 9) (nI 0) (nI (c + i))).2 3) i ((kM (setA m 3 (blit (m.2 3) 0 i (fun j => m.2 9 (c + j)))) (m.2 9) (nI 0) (nI (c + i))).2 9 (c + i)) = blit (m.2 3) 0 (i + 1) (fun j => m.2 9 (c + j)) from by have := blit_s (m.2 3) 0 i (fun j => m.2 9 (c + j)); rw [Nat.zero_add] at this; exact this]
    conv => whnf
    have h2 := ih (i + 1) (by omega) hK
    rw [← Nat.add_assoc, ← nI_add (c + i) 1, ← nI_add i 1] at h2
    exact h2
theorem m_pl3 {m : MS} {s : S3} {c : Nat} {K : Option Value → AH → Prop} (hc : c + 8 ≤ 440) (hK : K none (mC (kM (setA m 3 (blit (m.2 3) 0 8 (fun j => m.2 9 (c + j)))) (m.2 9) (nI 0) (nI (c + 8))) s.1 s.2.2)) : am_M i_X12_passes [.ref 0, .ref 4] (mC (kM m (m.2 9) (nI 0) (nI c)) s.1 s.2.2) K := by
  have h0 : blit (m.2 3) 0 0 (fun j => m.2 9 (c + j)) = m.2 3 := blit_0 _ _ _
  rw [show nI c = nI (c + 0) from rfl]
  refine e_X12_passes [2] ?_
  conv => whnf
  have h2 := ml_pl3 (s := s) (m := m) hc 8 0 rfl hK
  rw [h0] at h2
  exact h2
theorem ml_pl4 {m : MS} {s : S3} {c : Nat} (hc : c + 8 ≤ 440) {K : Option Value → AH → Prop}  : ∀ (k i : Nat) , i + k = 8 → (K none (mC (kM (setA m 4 (blit (m.2 4) 0 8 (fun j => m.2 9 (c + j)))) (m.2 9) (nI 0) (nI (c + 8))) s.1 s.2.2)) → am_E i_X12_passes 2 [some (.ref 0), some (.ref 5), some (.int (nI i))] [] (mC (kM (setA m 4 (blit (m.2 4) 0 i (fun j => m.2 9 (c + j)))) (m.2 9) (nI 0) (nI (c + i))) s.1 s.2.2) K := by
  intro k
  induction k with
  | zero =>
    intro i  hi hK
    obtain rfl : i = 8 := by omega
    refine b_X12_passes [2] ?_
    conv => whnf
    refine ⟨fun c5 => ?_, fun c5 => absurd (by decide) c5⟩
    refine b_X12_passes [2] ?_
    conv => whnf
    exact hK
  | succ k ih =>
    intro i  hi hK
    refine b_X12_passes [2] ?_
    conv => whnf
    refine ⟨fun c5 => absurd c5 (nI_ge (by omega) (by omega)), fun c5 => ?_⟩
    conv => whnf
    refine ⟨fun c12 => ?_, fun c12 => absurd (show nI 0 = 0 by decide) c12⟩
    refine b_X12_passes [2] ?_
    conv => whnf
    refine ⟨(vp_in_nI (show c + i < 440 by omega) (by decide)), ?_⟩
    conv => whnf
    refine ⟨(vp_in_nI (show i < 8 by omega) (by decide)), ?_⟩
    rw [nI_clamp (show i < 2 ^ 31 by omega)]
    rw [show ((kM (setA m 4 (blit (m.2 4) 0 i (fun j => m.2 9 (c + j)))) (m.2 9) (nI 0) (nI (c + i))).1 19).toNatClampNeg = c + i from nI_clamp (by omega)]
    rw [show upd ((kM (setA m 4 (blit (m.2 4) 0 i (fun j => m.2 9 (c + j)))) (m.2 9) (nI 0) (nI (c + i))).2 4) i ((kM (setA m 4 (blit (m.2 4) 0 i (fun j => m.2 9 (c + j)))) (m.2 9) (nI 0) (nI (c + i))).2 9 (c + i)) = blit (m.2 4) 0 (i + 1) (fun j => m.2 9 (c + j)) from by have := blit_s (m.2 4) 0 i (fun j => m.2 9 (c + j)); rw [Nat.zero_add] at this; exact this]
    conv => whnf
    have h2 := ih (i + 1) (by omega) hK
    rw [← Nat.add_assoc, ← nI_add (c + i) 1, ← nI_add i 1] at h2
    exact h2
theorem m_pl4 {m : MS} {s : S3} {c : Nat} {K : Option Value → AH → Prop} (hc : c + 8 ≤ 440) (hK : K none (mC (kM (setA m 4 (blit (m.2 4) 0 8 (fun j => m.2 9 (c + j)))) (m.2 9) (nI 0) (nI (c + 8))) s.1 s.2.2)) : am_M i_X12_passes [.ref 0, .ref 5] (mC (kM m (m.2 9) (nI 0) (nI c)) s.1 s.2.2) K := by
  have h0 : blit (m.2 4) 0 0 (fun j => m.2 9 (c + j)) = m.2 4 := blit_0 _ _ _
  rw [show nI c = nI (c + 0) from rfl]
  refine e_X12_passes [2] ?_
  conv => whnf
  have h2 := ml_pl4 (s := s) (m := m) hc 8 0 rfl hK
  rw [h0] at h2
  exact h2
theorem m_one {m : MS} {s : S3} {F : Nat → Int32} {c : Nat} {v : Int32} {K : Option Value → AH → Prop} (hc : c < 440) (hK : K (some (.int v)) (mC (kM m (upd F c v) (nI 1) (nI (c + 1))) s.1 s.2.2)) : am_M i_X12_passOne [.ref 0, .int v] (mC (kM m (F) (nI 1) (nI c)) s.1 s.2.2) K := by
  refine e_X12_passOne [] ?_
  conv => whnf
  refine ⟨fun c4 => absurd c4 (show ¬ nI 1 = 0 by decide), fun c4 => ?_⟩
  conv => whnf
  refine b_X12_passOne [] ?_
  conv => whnf
  refine ⟨fun c25 => absurd c25 (show ¬ nI 1 = 0 by decide), fun c25 => ?_⟩
  conv => whnf
  refine ⟨(vp_in_nI hc (by decide)), ?_⟩
  rw [show ((kM m F (nI 1) (nI c)).1 19).toNatClampNeg = c from nI_clamp (by omega)]
  conv => whnf
  rw [← nI_add c 1] at hK
  exact hK
theorem m_onl {m : MS} {s : S3} {c : Nat} {v : Int32} {K : Option Value → AH → Prop} (hc : c < 440) (hK : K (some (.int (m.2 9 c))) (mC (kM m (m.2 9) (nI 0) (nI (c + 1))) s.1 s.2.2)) : am_M i_X12_passOne [.ref 0, .int v] (mC (kM m (m.2 9) (nI 0) (nI c)) s.1 s.2.2) K := by
  refine e_X12_passOne [] ?_
  conv => whnf
  refine ⟨fun c4 => ?_, fun c4 => absurd (show nI 0 = 0 by decide) c4⟩
  refine b_X12_passOne [] ?_
  conv => whnf
  refine ⟨(vp_in_nI hc (by decide)), ?_⟩
  rw [show ((kM m (m.2 9) (nI 0) (nI c)).1 19).toNatClampNeg = c from nI_clamp (by omega)]
  conv => whnf
  refine ⟨fun c25 => ?_, fun c25 => absurd (show nI 0 = 0 by decide) c25⟩
  refine b_X12_passOne [] ?_
  conv => whnf
  rw [← nI_add c 1] at hK
  exact hK
/-- the wire in the model, as it is kept -/
def pkM (m : MS) : Nat → Int32 := fun j => if j < 8 then m.2 1 j else if j < 16 then m.2 2 (j - 8) else if j < 24 then m.2 3 (j - 16) else if j < 32 then m.2 4 (j - 24) else m.1 (j - 32 + 5)
theorem kept_ok (m : MS) (c : Nat) : (∀ j, j < 36 → (upd (upd (upd (upd (blit (blit (blit (blit (m.2 9) (c) 8 (m.2 1)) (c + 8) 8 (m.2 2)) (c + 8 + 8) 8 (m.2 3)) (c + 8 + 8 + 8) 8 (m.2 4)) (c + 8 + 8 + 8 + 8) (m.1 5)) (c + 8 + 8 + 8 + 8 + 1) (m.1 6)) (c + 8 + 8 + 8 + 8 + 1 + 1) (m.1 7)) (c + 8 + 8 + 8 + 8 + 1 + 1 + 1) (m.1 8)) (c + j) = pkM m j) ∧ ∀ j, (j < c ∨ c + 36 ≤ j) → (upd (upd (upd (upd (blit (blit (blit (blit (m.2 9) (c) 8 (m.2 1)) (c + 8) 8 (m.2 2)) (c + 8 + 8) 8 (m.2 3)) (c + 8 + 8 + 8) 8 (m.2 4)) (c + 8 + 8 + 8 + 8) (m.1 5)) (c + 8 + 8 + 8 + 8 + 1) (m.1 6)) (c + 8 + 8 + 8 + 8 + 1 + 1) (m.1 7)) (c + 8 + 8 + 8 + 8 + 1 + 1 + 1) (m.1 8)) j = m.2 9 j := by
  have hh : ∀ j, (upd (upd (upd (upd (blit (blit (blit (blit (m.2 9) (c) 8 (m.2 1)) (c + 8) 8 (m.2 2)) (c + 8 + 8) 8 (m.2 3)) (c + 8 + 8 + 8) 8 (m.2 4)) (c + 8 + 8 + 8 + 8) (m.1 5)) (c + 8 + 8 + 8 + 8 + 1) (m.1 6)) (c + 8 + 8 + 8 + 8 + 1 + 1) (m.1 7)) (c + 8 + 8 + 8 + 8 + 1 + 1 + 1) (m.1 8)) j = if c ≤ j ∧ j < c + 36 then pkM m (j - c) else m.2 9 j := by
    intro j
    unfold upd blit pkM
    by_cases h0 : c ≤ j ∧ j < c + 36
    · obtain ⟨d, rfl⟩ : ∃ d, j = c + d := ⟨j - c, by omega⟩
      rw [if_pos h0, Nat.add_sub_cancel_left]
      have hd : d < 36 := by omega
      by_cases h1 : d < 8
      · rw [if_neg (by omega), if_neg (by omega), if_neg (by omega), if_neg (by omega), if_neg (by omega), if_neg (by omega), if_neg (by omega), if_pos (by omega), if_pos h1]
      · rw [if_neg h1]
        by_cases h2 : d < 16
        · rw [if_neg (by omega), if_neg (by omega), if_neg (by omega), if_neg (by omega), if_neg (by omega), if_neg (by omega), if_pos (by omega), if_pos h2, show c + d - (c + 8) = d - 8 by omega]
        · rw [if_neg h2]
          by_cases h3 : d < 24
          · rw [if_neg (by omega), if_neg (by omega), if_neg (by omega), if_neg (by omega), if_neg (by omega), if_pos (by omega), if_pos h3, show c + d - (c + 8 + 8) = d - 16 by omega]
          · rw [if_neg h3]
            by_cases h4 : d < 32
            · rw [if_neg (by omega), if_neg (by omega), if_neg (by omega), if_neg (by omega), if_pos (by omega), if_pos h4, show c + d - (c + 8 + 8 + 8) = d - 24 by omega]
            · rw [if_neg h4]
              have : d = 32 ∨ d = 33 ∨ d = 34 ∨ d = 35 := by omega
              rcases this with rfl | rfl | rfl | rfl
              · rw [if_neg (by omega), if_neg (by omega), if_neg (by omega), if_pos (by omega)]
              · rw [if_neg (by omega), if_neg (by omega), if_pos (by omega)]
              · rw [if_neg (by omega), if_pos (by omega)]
              · rw [if_pos (by omega)]
    · rw [if_neg h0, if_neg (by omega), if_neg (by omega), if_neg (by omega), if_neg (by omega), if_neg (by omega), if_neg (by omega), if_neg (by omega), if_neg (by omega)]
  refine ⟨fun j hj => ?_, fun j hj => ?_⟩
  · rw [hh, if_pos (by omega), Nat.add_sub_cancel_left]
  · rw [hh, if_neg (by omega)]
theorem m_save {m : MS} {s : S3} {b : Nat} {K : Option Value → AH → Prop} (hb : b ≤ 10) (hK : ∀ F z, (∀ j, j < 36 → F (40 * b + j) = pkM m j) → (∀ j, (j < 40 * b ∨ 40 * b + 36 ≤ j) → F j = m.2 9 j) → K none (mC (kM m F (nI 1) z) s.1 s.2.2)) : am_M i_X12_passesAll [.ref 0, .int (nI b), .int (nI 1)] (mC m s.1 s.2.2) K := by
  obtain ⟨c, hc⟩ : ∃ c, 40 * b = c := ⟨_, rfl⟩
  have hc2 : c ≤ 400 := by omega
  obtain ⟨k1, k2⟩ := kept_ok m c
  rw [← hc] at k1 k2
  have h9 := hK _ (nI (c + 8 + 8 + 8 + 8 + 1 + 1 + 1 + 1)) k1 k2
  rw [hc] at h9
  refine e_X12_passesAll [] ?_
  conv => whnf
  refine ⟨(Or.inr nI_one), ?_⟩
  conv => whnf
  rw [show nI 40 * nI b = nI c from by rw [nI_mulN, hc]]
  refine m_ps1 (m := m) (s := s) (F := (m.2 9)) (c := (c)) (by omega) ?_
  refine b_X12_passesAll [] ?_
  conv => whnf
  refine m_ps2 (m := m) (s := s) (F := (blit (m.2 9) (c) 8 (m.2 1))) (c := (c + 8)) (by omega) ?_
  refine b_X12_passesAll [] ?_
  conv => whnf
  refine m_ps3 (m := m) (s := s) (F := (blit (blit (m.2 9) (c) 8 (m.2 1)) (c + 8) 8 (m.2 2))) (c := (c + 8 + 8)) (by omega) ?_
  refine b_X12_passesAll [] ?_
  conv => whnf
  refine m_ps4 (m := m) (s := s) (F := (blit (blit (blit (m.2 9) (c) 8 (m.2 1)) (c + 8) 8 (m.2 2)) (c + 8 + 8) 8 (m.2 3))) (c := (c + 8 + 8 + 8)) (by omega) ?_
  refine b_X12_passesAll [] ?_
  conv => whnf
  refine m_one (m := m) (s := s) (F := (blit (blit (blit (blit (m.2 9) (c) 8 (m.2 1)) (c + 8) 8 (m.2 2)) (c + 8 + 8) 8 (m.2 3)) (c + 8 + 8 + 8) 8 (m.2 4))) (c := (c + 8 + 8 + 8 + 8)) (by omega) ?_
  refine b_X12_passesAll [] ?_
  conv => whnf
  refine m_one (m := m) (s := s) (F := (upd (blit (blit (blit (blit (m.2 9) (c) 8 (m.2 1)) (c + 8) 8 (m.2 2)) (c + 8 + 8) 8 (m.2 3)) (c + 8 + 8 + 8) 8 (m.2 4)) (c + 8 + 8 + 8 + 8) (m.1 5))) (c := (c + 8 + 8 + 8 + 8 + 1)) (by omega) ?_
  refine b_X12_passesAll [] ?_
  conv => whnf
  refine m_one (m := m) (s := s) (F := (upd (upd (blit (blit (blit (blit (m.2 9) (c) 8 (m.2 1)) (c + 8) 8 (m.2 2)) (c + 8 + 8) 8 (m.2 3)) (c + 8 + 8 + 8) 8 (m.2 4)) (c + 8 + 8 + 8 + 8) (m.1 5)) (c + 8 + 8 + 8 + 8 + 1) (m.1 6))) (c := (c + 8 + 8 + 8 + 8 + 1 + 1)) (by omega) ?_
  refine b_X12_passesAll [] ?_
  conv => whnf
  refine m_one (m := m) (s := s) (F := (upd (upd (upd (blit (blit (blit (blit (m.2 9) (c) 8 (m.2 1)) (c + 8) 8 (m.2 2)) (c + 8 + 8) 8 (m.2 3)) (c + 8 + 8 + 8) 8 (m.2 4)) (c + 8 + 8 + 8 + 8) (m.1 5)) (c + 8 + 8 + 8 + 8 + 1) (m.1 6)) (c + 8 + 8 + 8 + 8 + 1 + 1) (m.1 7))) (c := (c + 8 + 8 + 8 + 8 + 1 + 1 + 1)) (by omega) ?_
  refine b_X12_passesAll [] ?_
  conv => whnf
  exact h9
def ldM (m : MS) (c : Nat) : MS := setI (setI (setI (setI (setA (setA (setA (setA m 1 (blit (m.2 1) 0 8 (fun j => m.2 9 (c + j)))) 2 (blit (m.2 2) 0 8 (fun j => m.2 9 (c + 8 + j)))) 3 (blit (m.2 3) 0 8 (fun j => m.2 9 (c + 8 + 8 + j)))) 4 (blit (m.2 4) 0 8 (fun j => m.2 9 (c + 8 + 8 + 8 + j)))) 5 (m.2 9 (c + 8 + 8 + 8 + 8))) 6 (m.2 9 (c + 8 + 8 + 8 + 8 + 1))) 7 (m.2 9 (c + 8 + 8 + 8 + 8 + 1 + 1))) 8 (m.2 9 (c + 8 + 8 + 8 + 8 + 1 + 1 + 1))
theorem m_load {m : MS} {s : S3} {b : Nat} {K : Option Value → AH → Prop} (hb : b ≤ 10) (hK : ∀ z, K none (mC (kM (ldM m (40 * b)) (m.2 9) (nI 0) z) s.1 s.2.2)) : am_M i_X12_passesAll [.ref 0, .int (nI b), .int (nI 0)] (mC m s.1 s.2.2) K := by
  obtain ⟨c, hc⟩ : ∃ c, 40 * b = c := ⟨_, rfl⟩
  have hc2 : c ≤ 400 := by omega
  have h9 := hK (nI (c + 8 + 8 + 8 + 8 + 1 + 1 + 1 + 1))
  rw [hc] at h9
  refine e_X12_passesAll [] ?_
  conv => whnf
  refine ⟨(Or.inl nI_0), ?_⟩
  conv => whnf
  rw [show nI 40 * nI b = nI c from by rw [nI_mulN, hc]]
  refine m_pl1 (m := m) (s := s) (c := (c)) (by omega) ?_
  refine b_X12_passesAll [] ?_
  conv => whnf
  refine m_pl2 (m := (setA m 1 (blit (m.2 1) 0 8 (fun j => m.2 9 (c + j))))) (s := s) (c := (c + 8)) (by omega) ?_
  refine b_X12_passesAll [] ?_
  conv => whnf
  refine m_pl3 (m := (setA (setA m 1 (blit (m.2 1) 0 8 (fun j => m.2 9 (c + j)))) 2 (blit (m.2 2) 0 8 (fun j => m.2 9 (c + 8 + j))))) (s := s) (c := (c + 8 + 8)) (by omega) ?_
  refine b_X12_passesAll [] ?_
  conv => whnf
  refine m_pl4 (m := (setA (setA (setA m 1 (blit (m.2 1) 0 8 (fun j => m.2 9 (c + j)))) 2 (blit (m.2 2) 0 8 (fun j => m.2 9 (c + 8 + j)))) 3 (blit (m.2 3) 0 8 (fun j => m.2 9 (c + 8 + 8 + j))))) (s := s) (c := (c + 8 + 8 + 8)) (by omega) ?_
  refine b_X12_passesAll [] ?_
  conv => whnf
  refine m_onl (m := (setA (setA (setA (setA m 1 (blit (m.2 1) 0 8 (fun j => m.2 9 (c + j)))) 2 (blit (m.2 2) 0 8 (fun j => m.2 9 (c + 8 + j)))) 3 (blit (m.2 3) 0 8 (fun j => m.2 9 (c + 8 + 8 + j)))) 4 (blit (m.2 4) 0 8 (fun j => m.2 9 (c + 8 + 8 + 8 + j))))) (s := s) (c := (c + 8 + 8 + 8 + 8)) (by omega) ?_
  refine b_X12_passesAll [] ?_
  conv => whnf
  refine m_onl (m := (setI (setA (setA (setA (setA m 1 (blit (m.2 1) 0 8 (fun j => m.2 9 (c + j)))) 2 (blit (m.2 2) 0 8 (fun j => m.2 9 (c + 8 + j)))) 3 (blit (m.2 3) 0 8 (fun j => m.2 9 (c + 8 + 8 + j)))) 4 (blit (m.2 4) 0 8 (fun j => m.2 9 (c + 8 + 8 + 8 + j)))) 5 (m.2 9 (c + 8 + 8 + 8 + 8)))) (s := s) (c := (c + 8 + 8 + 8 + 8 + 1)) (by omega) ?_
  refine b_X12_passesAll [] ?_
  conv => whnf
  refine m_onl (m := (setI (setI (setA (setA (setA (setA m 1 (blit (m.2 1) 0 8 (fun j => m.2 9 (c + j)))) 2 (blit (m.2 2) 0 8 (fun j => m.2 9 (c + 8 + j)))) 3 (blit (m.2 3) 0 8 (fun j => m.2 9 (c + 8 + 8 + j)))) 4 (blit (m.2 4) 0 8 (fun j => m.2 9 (c + 8 + 8 + 8 + j)))) 5 (m.2 9 (c + 8 + 8 + 8 + 8))) 6 (m.2 9 (c + 8 + 8 + 8 + 8 + 1)))) (s := s) (c := (c + 8 + 8 + 8 + 8 + 1 + 1)) (by omega) ?_
  refine b_X12_passesAll [] ?_
  conv => whnf
  refine m_onl (m := (setI (setI (setI (setA (setA (setA (setA m 1 (blit (m.2 1) 0 8 (fun j => m.2 9 (c + j)))) 2 (blit (m.2 2) 0 8 (fun j => m.2 9 (c + 8 + j)))) 3 (blit (m.2 3) 0 8 (fun j => m.2 9 (c + 8 + 8 + j)))) 4 (blit (m.2 4) 0 8 (fun j => m.2 9 (c + 8 + 8 + 8 + j)))) 5 (m.2 9 (c + 8 + 8 + 8 + 8))) 6 (m.2 9 (c + 8 + 8 + 8 + 8 + 1))) 7 (m.2 9 (c + 8 + 8 + 8 + 8 + 1 + 1)))) (s := s) (c := (c + 8 + 8 + 8 + 8 + 1 + 1 + 1)) (by omega) ?_
  refine b_X12_passesAll [] ?_
  conv => whnf
  exact h9
