/-! SPECS of the model: drops one after the other -/
def brW (w : WS) (z : Int32) : WS := wI w 1 z
theorem mX.br' {m : MS} {w : WS} {n : Nat} {A P : Nat → Nat} (h : mX m w n A P) (z : Int32) : mX (setI m 6 z) (brW w z) n A P := h.I (i := 1) (by decide) (by decide) z
def smB (n : Nat) (z : Int32) : Prop := ∀ j, n ≤ j → bitN z j = false
theorem smB.or {n : Nat} {z x : Int32} (h : smB n z) (h2 : smB n x) : smB n (z ||| x) := fun j hj => by rw [bitN_or, h j hj, h2 j hj]; rfl
theorem smB.bc {n : Nat} {z : Int32} (h : smB n z) (hn : n ≤ 8) : fBits z = fBc z := by
  obtain ⟨k, h1, h2⟩ := bits_small h
  rw [h2, fBits_fBc (p8 hn h1)]
theorem Inv.sm {a : Ab} (h : Inv a) : smB (nO (a.1 0)) ((a.1 0).1 1) := h.1.2.2.1
theorem blw_br {w v : WS} {n p : Nat} {A P : Nat → Nat} {x : Int32} (hw : wOk w n A P) (hp : p < n) (h2 : v.1 2 = w.1 2) (h3 : v.2 = w.2) : blw v n p x = blw (brW w (v.1 1)) n p x := by
  refine blw_cg (v := brW w (v.1 1)) (A := A) ?_ (fun j hj => ⟨(hw.2.2.1 j hj).1, by have := (hw.2.2.1 j hj).2.1; have := hw.2.1; omega⟩) hp x
  refine ⟨rfl, h2, ?_, ?_, ?_⟩
  · intro i _; rw [h3]; rfl
  · intro i _; rw [h3]; rfl
  · intro j _; rw [h3]; rfl
theorem m_bb {m : MS} {w : WS} {n : Nat} {A P : Nat → Nat} {s : S3} {v z : Int32} {t : Nat} (h : mX m w n A P) (ht : t < n) (hv : ¬ v ≤ 0) {K : Option Value → AH → Prop} (hK : ∀ s2 : S3, sAg s2 (blw (brW w z) n (P t) v) → bwI n s2 → K (some (.int (fBc s2.2.2))) (mC (setI m 6 (z ||| s2.2.2)) s2.1 s2.2.2)) : am_M i_X12_breaksBy [.ref 0, .int (nI t), .int v] (mC (setI m 6 z) s.1 s.2.2) K := by
  refine e_X12_breaksBy [] ?_
  conv => whnf
  refine m_fb (m := setI m 6 z) (s := s) (h.br' z) ht hv (fun s2 hs2 hb2 => ?_)
  refine b_X12_breaksBy [] ?_
  conv => whnf
  refine m_bc (s := s2) hb2 h.n8 ?_
  refine b_X12_breaksBy [] ?_
  conv => whnf
  exact hK s2 hs2 hb2
def bdI (w : WS) (n : Nat) (v : Int32) (i : Nat) (z : Int32) : Int32 := z ||| (blw (brW w z) n i v).2.2
theorem bba_bd {w : WS} {n : Nat} {A P : Nat → Nat} {v : Int32} (hw : wOk w n A P) : (itr (bbaI n v) n 0 w).1 1 = itr (bdI w n v) n 0 (w.1 1) := by
  have := itr_rel (f := bbaI n v) (g := bdI w n v) (R := fun w2 z => w2.1 1 = z ∧ w2.1 2 = w.1 2 ∧ w2.2 = w.2) n 0 w (w.1 1) ⟨rfl, rfl, rfl⟩ (fun j w2 z _ hj hR => by
    obtain ⟨h1, h2, h3⟩ := hR
    have e := blw_br (v := w2) (x := v) hw (show j < n by omega) h2 h3
    refine ⟨?_, h2, h3⟩
    show w2.1 1 ||| (blw w2 n j v).2.2 = _
    unfold bdI
    rw [e, h1])
  exact this.1
theorem br_same {m : MS} {w : WS} {n : Nat} {A P : Nat → Nat} (h : mX m w n A P) {z : Int32} (hz : z = m.1 6) : setI m 6 z = m := setI_same hz
theorem ml_dom {m : MS} {w : WS} {n : Nat} {A P : Nat → Nat} {v z2 ov : Int32} (hv : ¬ v ≤ 0) (hov : ov = m.1 6) {K : Option Value → AH → Prop} (h : mX m w n A P) : ∀ (k i : Nat) (s : S3) (z : Int32) (hz : smB n z), i + k = n → (∀ s2 : S3, K (some (.int (fBc (itr (bdI w n v) k i z)))) (mC m s2.1 s2.2.2)) → am_E i_X12_domino 23 [some (.ref 0), some (.int v), some (.int z2), some (.int ov), some (.int (nI i))] [] (mC (setI m 6 z) s.1 s.2.2) K := by
  intro k
  induction k with
  | zero =>
    intro i s z hz hi hK
    obtain rfl : i = n := by omega
    refine b_X12_domino [23] ?_
    conv => whnf
    refine ⟨fun c29 => ?_, fun c29 => absurd (by show m.1 5 ≤ _; rw [h.n]; exact nI_le (Nat.le_refl _) (by have := h.n8; omega)) c29⟩
    refine b_X12_domino [23] ?_
    conv => whnf
    refine m_bits ?_
    rw [show fBits ((setI m 6 z).1 6) = fBc z from hz.bc h.n8]
    refine b_X12_domino [23] ?_
    conv => whnf
    have h9 := hK s
    rw [← setI_same hov] at h9
    exact h9
  | succ k ih =>
    intro i s z hz hi hK
    have hn8 := h.n8
    have hA := h.wA (show i < n by omega)
    refine b_X12_domino [23] ?_
    conv => whnf
    refine ⟨fun c29 => absurd c29 (by show ¬ m.1 5 ≤ _; rw [h.n]; exact nI_ge (by omega) (by have := h.n8; omega)), fun c29 => ?_⟩
    conv => whnf
    refine ⟨(vp_in_nI (by omega) (by decide)), ?_⟩
    conv => whnf
    rw [nI_clamp (show i < 2 ^ 31 by omega)]
    rw [show (setI m 6 z).2 4 i = nI (A i) from hA.1]
    refine m_bb (s := s) h hA.2.1 hv (fun s2 hs2 hb2 => ?_)
    rw [hA.2.2] at hs2
    refine b_X12_domino [23] ?_
    conv => whnf
    have e4 : bdI w n v i z = z ||| s2.2.2 := by rw [hs2.2]; rfl
    simp only [itr, e4] at hK
    have h2 := ih (i + 1) s2 _ (hz.or hb2.vic) (by omega) hK
    rw [← nI_add i 1] at h2
    exact h2
theorem m_domino {a : Ab} {m : MS} {s : S3} {v : Int32} (hI : Inv a) (hM : MR a m)  {K : Option Value → AH → Prop} (hK : ∀ m2 (s2 : S3), MR (qB a (fNoBlow v)) m2 → K (some (.int (qA (fNoBlow v) (fBc ((itr (bbaI (nO (a.1 0)) v) (nO (a.1 0)) 0 (a.1 0)).1 1))))) (mC m2 s2.1 s2.2.2)) : am_M i_X12_domino [.ref 0, .int v] (mC m s.1 s.2.2) K := by
  have h := hM.x hI
  have hn := hI.n
  have hn8 := hI.n8
  refine e_X12_domino [23] ?_
  conv => whnf
  refine m_nb ?_
  refine b_X12_domino [23] ?_
  conv => whnf
  refine ⟨fun c6 => ?_, fun c6 => ?_⟩
  · refine b_X12_domino [23] ?_
    conv => whnf
    have r0 : (fNoBlow v) = 0 := c6
    rw [qA_0 r0, qB_0 r0] at hK
    obtain ⟨v_, hv1, hv2, rfl⟩ := fNoBlow_0 r0
    have hv0 : ¬ nI v_ ≤ 0 := v_b hv1 (by omega)
    rw [bba_bd h.2] at hK
    have h2 := ml_dom (z2 := fNoBlow (nI v_)) hv0 rfl h (nO (a.1 0)) 0 s (m.1 6) (by rw [h.br]; exact hI.sm) (by omega) (fun s2 => by rw [h.br]; exact hK m s2 hM)
    rw [setI_same rfl] at h2
    exact h2
  · conv => whnf
    refine m_no (x := (fNoBlow v)) (by first | (unfold rfs; decide) | exact fNoBlow_r (by assumption) | exact fFirst_r fNoTh_r fNoTh_r (by assumption)) ?_
    refine b_X12_domino [23] ?_
    conv => whnf
    have e0 : (fNoBlow v) = (fNoBlow v) := rfl
    rw [e0, qA_n (rfs_n (by first | (unfold rfs; decide) | exact fNoBlow_r (by assumption) | exact fFirst_r fNoTh_r fNoTh_r (by assumption)))] at hK
    exact hK _ s (hM.bump (by first | (unfold rfs; decide) | exact fNoBlow_r (by assumption) | exact fFirst_r fNoTh_r fNoTh_r (by assumption)))
theorem ml_nw {m : MS} {w : WS} {n : Nat} {A P : Nat → Nat} {s : S3} {f : Nat} (hf : f ≤ 100) {K : Option Value → AH → Prop} (h : mX m w n A P) : ∀ (k i : Nat) , i + k = n → (K (some (.int (nxW (w.1 1) n f k i))) (mC m s.1 s.2.2)) → am_E i_X12_nextWhole 2 [some (.ref 0), some (.int (nI f)), some (.int (nI i))] [] (mC m s.1 s.2.2) K := by
  intro k
  induction k with
  | zero =>
    intro i  hi hK
    obtain rfl : i = n := by omega
    refine b_X12_nextWhole [2] ?_
    conv => whnf
    refine ⟨fun c7 => ?_, fun c7 => absurd (by rw [h.n]; exact nI_le (Nat.le_refl _) (by have := h.n8; omega)) c7⟩
    refine b_X12_nextWhole [2] ?_
    conv => whnf
    exact hK
  | succ k ih =>
    intro i  hi hK
    have hn8 := h.n8
    have e2 : (nI f + nI i - (nI f + nI i) / m.1 5 * m.1 5) = nI ((f + i) % n) := by rw [h.n, nI_add]; exact rem_nI (by omega) (by omega) (by omega)
    have hm : (f + i) % n < n := Nat.mod_lt _ (by omega)
    refine b_X12_nextWhole [2] ?_
    conv => whnf
    refine ⟨fun c7 => absurd c7 (by rw [h.n]; exact nI_ge (by omega) (by have := h.n8; omega)), fun c7 => ?_⟩
    conv => whnf
    refine ⟨(by rw [h.n]; exact nI_ne0 (by omega) (by omega)), ?_⟩
    conv => whnf
    rw [e2, h.br]
    refine m_hs (by omega) ?_
    refine b_X12_nextWhole [2] ?_
    conv => whnf
    refine ⟨fun c25 => ?_, fun c25 => ?_⟩
    · conv => whnf
      refine ⟨(by rw [h.n]; exact nI_ne0 (by omega) (by omega)), ?_⟩
      conv => whnf
      rw [e2]
      rw [nxW, if_neg (by rw [bI_0.mp c25]; decide)] at hK
      exact hK
    · refine b_X12_nextWhole [2] ?_
      conv => whnf
      rw [nxW, if_pos (bI_n0.mp c25)] at hK
      have h2 := ih (i + 1) (by omega) hK
      rw [← nI_add i 1] at h2
      exact h2
theorem m_nw {m : MS} {w : WS} {n : Nat} {A P : Nat → Nat} {s : S3} {f : Nat} (h : mX m w n A P) (hf : f ≤ 100) {K : Option Value → AH → Prop} (hK : K (some (.int (nxW (w.1 1) n f n 0))) (mC m s.1 s.2.2)) : am_M i_X12_nextWhole [.ref 0, .int (nI f)] (mC m s.1 s.2.2) K := by
  refine e_X12_nextWhole [2] ?_
  conv => whnf
  exact ml_nw hf h n 0 (by omega) hK
theorem nxW_wh (br : Int32) (n f : Nat) : ∀ (k i : Nat), (0 < k → 0 < n) → nxW br n f k i = Int32.ofInt (-9) ∨ ∃ x, x < n ∧ nxW br n f k i = nI x ∧ hasB br (nI x) = false := by
  intro k
  induction k with
  | zero => intro i _; exact Or.inl rfl
  | succ k ih =>
    intro i hk
    have hn := hk (by omega)
    rw [nxW]
    by_cases c : hasB br (nI ((f + i) % n)) = true
    · rw [if_pos c]; exact ih _ (fun _ => hn)
    · rw [if_neg c]; exact Or.inr ⟨_, Nat.mod_lt _ hn, rfl, Bool.not_eq_true _ |>.mp c⟩
theorem nxW_none (br : Int32) (n f : Nat) : ∀ (k i : Nat), (0 < k → 0 < n) → nxW br n f k i = Int32.ofInt (-9) → n ≤ 8 → ∀ j, i ≤ j → j < i + k → hasB br (nI ((f + j) % n)) = true := by
  intro k
  induction k with
  | zero => intro i _ _ _ j h1 h2; omega
  | succ k ih =>
    intro i hk h hn8 j h1 h2
    have hn := hk (by omega)
    rw [nxW] at h
    by_cases c : hasB br (nI ((f + i) % n)) = true
    · rw [if_pos c] at h
      by_cases q : j = i
      · rw [q]; exact c
      · exact ih (i + 1) (fun _ => hn) h hn8 j (by omega) (by omega)
    · rw [if_neg c] at h
      exact absurd h (nI_n9 (by have := Nat.mod_lt (f + i) hn; omega))
theorem nxW_sh (br : Int32) (n f : Nat) : ∀ (k i : Nat), nxW br n (f + 1) k i = nxW br n f k (i + 1) := by
  intro k
  induction k with
  | zero => intro i; rfl
  | succ k ih => intro i; rw [nxW, nxW, ih (i + 1), show f + 1 + i = f + (i + 1) by omega]
theorem nxW_last (br : Int32) (n f : Nat) : ∀ (k i : Nat), hasB br (nI ((f + (i + k)) % n)) = true → nxW br n f (k + 1) i = nxW br n f k i := by
  intro k
  induction k with
  | zero =>
    intro i h
    exact if_pos h
  | succ k ih =>
    intro i h
    have e := ih (i + 1) (by rw [show i + 1 + k = i + (k + 1) by omega]; exact h)
    rw [show nxW br n f (k + 1 + 1) i = (if hasB br (nI ((f + i) % n)) = true then nxW br n f (k + 1) (i + 1) else nI ((f + i) % n)) from rfl, e]
    rfl
theorem nxW_skip {br : Int32} {n f : Nat} (hf : f < n) (h : hasB br (nI f) = true) : nxW br n (f + 1) n 0 = nxW br n f n 0 := by
  obtain ⟨k, rfl⟩ : ∃ k, n = k + 1 := ⟨n - 1, by omega⟩
  rw [nxW_sh, nxW_last]
  · show _ = nxW br (k + 1) f (k + 1) 0
    rw [nxW, if_pos (by rw [Nat.add_zero, Nat.mod_eq_of_lt hf]; exact h)]
  · rw [show f + (0 + 1 + k) = f + (k + 1) by omega, Nat.add_mod_right, Nat.mod_eq_of_lt hf]; exact h
theorem nxW_hit {br : Int32} {n f : Nat} (hf : f < n) (h : hasB br (nI f) = false) : nxW br n f n 0 = nI f := by
  obtain ⟨k, rfl⟩ : ∃ k, n = k + 1 := ⟨n - 1, by omega⟩
  rw [nxW, Nat.add_zero, Nat.mod_eq_of_lt hf, if_neg (by rw [h]; decide)]
/-- the model's days -/
def lmF (w : WS) (n : Nat) (P : Nat → Nat) (v : Int32) : Nat → Nat → Int32 → Int32
  | 0, _, _ => Int32.ofInt (-9)
  | k + 1, d, t => if t < 0 then Int32.ofInt (-9) else if (blw w n (P t.toNatClampNeg) v).2.2 = 0 then lmF w n P v k (d + 1) (nxW (w.1 1) n (t.toNatClampNeg + 1) n 0) else nI d
theorem lm_never {w : WS} {n : Nat} {P : Nat → Nat} {v : Int32} (hn : n ≤ 8) (hq : ∀ x, x < n → hasB (w.1 1) (nI x) = false → (blw w n (P x) v).2.2 = 0) : ∀ (k d : Nat) (t : Int32), (t = Int32.ofInt (-9) ∨ ∃ x, x < n ∧ t = nI x ∧ hasB (w.1 1) (nI x) = false) → lmF w n P v k d t = Int32.ofInt (-9) := by
  intro k
  induction k with
  | zero => intro d t _; rfl
  | succ k ih =>
    intro d t ht
    rw [lmF]
    rcases ht with rfl | ⟨x, h1, rfl, h3⟩
    · exact if_pos (by decide)
    · rw [if_neg (nI_pos (by omega)), nI_clamp (by omega), if_pos (hq x h1 h3)]
      exact ih _ _ (nxW_wh _ _ _ _ _ (fun h => h))
theorem lm_fbd {w : WS} {n : Nat} {P : Nat → Nat} {v : Int32} (hn : n ≤ 8) : ∀ (q f : Nat), f + q = n → ∀ (d k : Nat), d ≤ f → k + d = 60 → (∀ x, x < f → hasB (w.1 1) (nI x) = false → (blw w n (P x) v).2.2 = 0) → lmF w n P v k (d + 1) (nxW (w.1 1) n f n 0) = fbdF w n P v q f (nI d) := by
  intro q
  induction q with
  | zero =>
    intro f hf d k hd hk hq
    obtain rfl : f = n := by omega
    exact lm_never hn hq _ _ _ (nxW_wh _ _ _ _ _ (fun h => h))
  | succ q ih =>
    intro f hf d k hd hk hq
    rw [fbdF]
    by_cases c : hasB (w.1 1) (nI f) = true
    · rw [if_pos c, ← nxW_skip (by omega) c]
      exact ih (f + 1) (by omega) d k (by omega) hk (fun x hx hxb => by
        by_cases y : x = f
        · rw [y, c] at hxb; cases hxb
        · exact hq x (by omega) hxb)
    · have c2 : hasB (w.1 1) (nI f) = false := Bool.not_eq_true _ |>.mp c
      rw [if_neg c, nxW_hit (by omega) c2]
      obtain ⟨k2, rfl⟩ : ∃ k2, k = k2 + 1 := ⟨k - 1, by omega⟩
      rw [lmF, if_neg (nI_pos (by omega)), nI_clamp (by omega)]
      by_cases z : (blw w n (P f) v).2.2 = 0
      · rw [if_pos z, if_pos z, nI_add]
        exact ih (f + 1) (by omega) (d + 1) k2 (by omega) (by omega) (fun x hx hxb => by
          by_cases y : x = f
          · rw [y]; exact z
          · exact hq x (by omega) hxb)
      · rw [if_neg z, if_neg z, nI_add]
theorem ml_las {m : MS} {w : WS} {n : Nat} {A P : Nat → Nat} {v z2 : Int32} (hv : ¬ v ≤ 0) {K : Option Value → AH → Prop} (h : mX m w n A P) : ∀ (k i : Nat) (s : S3) (t : Int32) (ht : t = Int32.ofInt (-9) ∨ ∃ x, x < n ∧ t = nI x), i + k = 61 → (∀ s2 : S3, K (some (.int (lmF w n P v k i t))) (mC m s2.1 s2.2.2)) → am_E i_X12_lasts 24 [some (.ref 0), some (.int v), some (.int z2), some (.int t), some (.int (nI i))] [] (mC m s.1 s.2.2) K := by
  intro k
  induction k with
  | zero =>
    intro i s t ht hi hK
    obtain rfl : i = 61 := by omega
    refine b_X12_lasts [24] ?_
    conv => whnf
    refine ⟨fun c28 => ?_, fun c28 => absurd (nI_lt (by omega) (by omega)) c28⟩
    refine b_X12_lasts [24] ?_
    conv => whnf
    exact hK s
  | succ k ih =>
    intro i s t ht hi hK
    refine b_X12_lasts [24] ?_
    conv => whnf
    refine ⟨fun c28 => absurd c28 (fun z => absurd ((nI_ltI (by omega) (by omega)).mp z) (by omega)), fun c28 => ?_⟩
    conv => whnf
    refine ⟨fun c32 => ?_, fun c32 => ?_⟩
    · refine b_X12_lasts [24] ?_
      conv => whnf
      have h9 := hK s
      rw [lmF, if_pos c32] at h9
      exact h9
    · conv => whnf
      rcases ht with rfl | ⟨x, hx, rfl⟩
      · exact absurd (by decide) c32
      rw [lmF, if_neg c32, nI_clamp (show x < 2 ^ 31 by have := h.n8; omega)] at hK
      refine m_fb (m := m) (s := s) h hx hv (fun s2 hs2 hb2 => ?_)
      refine b_X12_lasts [24] ?_
      conv => whnf
      refine ⟨fun c45 => ?_, fun c45 => ?_⟩
      · refine b_X12_lasts [24] ?_
        conv => whnf
        rw [← hs2.2, if_pos c45] at hK
        rw [nI_add]
        refine m_nw (s := s2) h (by have := h.n8; omega) ?_
        refine b_X12_lasts [24] ?_
        conv => whnf
        have h2 := ih (i + 1) s2 _ (by rcases nxW_wh (w.1 1) n (x + 1) n 0 (fun h => h) with y | ⟨y, y1, y2, -⟩; exact Or.inl y; exact Or.inr ⟨y, y1, y2⟩) (by omega) hK
        rw [← nI_add i 1] at h2
        exact h2
      · conv => whnf
        rw [← hs2.2, if_neg c45] at hK
        exact hK s2
theorem m_lasts {a : Ab} {m : MS} {s : S3} {v : Int32} (hI : Inv a) (hM : MR a m)  {K : Option Value → AH → Prop} (hK : ∀ m2 (s2 : S3), MR (qB a (fNoBlow v)) m2 → K (some (.int (qA (fNoBlow v) (fbdF (a.1 0) (nO (a.1 0)) (plW (a.1 0)) v (nO (a.1 0)) 0 (nI 0))))) (mC m2 s2.1 s2.2.2)) : am_M i_X12_lasts [.ref 0, .int v] (mC m s.1 s.2.2) K := by
  have h := hM.x hI
  have hn := hI.n
  have hn8 := hI.n8
  refine e_X12_lasts [24] ?_
  conv => whnf
  refine m_nb ?_
  refine b_X12_lasts [24] ?_
  conv => whnf
  refine ⟨fun c6 => ?_, fun c6 => ?_⟩
  · refine b_X12_lasts [24] ?_
    conv => whnf
    have r0 : (fNoBlow v) = 0 := c6
    rw [qA_0 r0, qB_0 r0] at hK
    obtain ⟨v_, hv1, hv2, rfl⟩ := fNoBlow_0 r0
    have hv0 : ¬ nI v_ ≤ 0 := v_b hv1 (by omega)
    refine m_nw (f := 0) h (by omega) ?_
    refine b_X12_lasts [24] ?_
    conv => whnf
    rw [← lm_fbd hn8 (nO (a.1 0)) 0 (by omega) 0 60 (by omega) rfl (fun x hx => absurd hx (by omega))] at hK
    exact ml_las hv0 h 60 1 s _ (by rcases nxW_wh ((a.1 0).1 1) (nO (a.1 0)) 0 (nO (a.1 0)) 0 (fun h => h) with y | ⟨y, y1, y2, -⟩; exact Or.inl y; exact Or.inr ⟨y, y1, y2⟩) (by omega) (fun s2 => hK m s2 hM)
  · conv => whnf
    refine m_no (x := (fNoBlow v)) (by first | (unfold rfs; decide) | exact fNoBlow_r (by assumption) | exact fFirst_r fNoTh_r fNoTh_r (by assumption)) ?_
    refine b_X12_lasts [24] ?_
    conv => whnf
    have e0 : (fNoBlow v) = (fNoBlow v) := rfl
    rw [e0, qA_n (rfs_n (by first | (unfold rfs; decide) | exact fNoBlow_r (by assumption) | exact fFirst_r fNoTh_r fNoTh_r (by assumption)))] at hK
    exact hK _ s (hM.bump (by first | (unfold rfs; decide) | exact fNoBlow_r (by assumption) | exact fFirst_r fNoTh_r fNoTh_r (by assumption)))
