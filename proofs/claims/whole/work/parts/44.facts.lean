/-! facts of a blow: who hears is who gets some; who breaks hears; all are things -/
def bitN (x : Int32) (j : Nat) : Bool := x.toBitVec.getLsbD j
theorem hasB_N (s : Int32) (t : Nat) (h : t < 32) : hasB s (nI t) = bitN s t := hasB_bit s t h
theorem bitN_or (x y : Int32) (j : Nat) : bitN (x ||| y) j = (bitN x j || bitN y j) := by
  unfold bitN
  rw [Int32.toBitVec_or, BitVec.getLsbD_or]
theorem bitN_and (x y : Int32) (j : Nat) : bitN (x &&& y) j = (bitN x j && bitN y j) := by
  unfold bitN
  rw [Int32.toBitVec_and, BitVec.getLsbD_and]
theorem bitN_xor (x y : Int32) (j : Nat) : bitN (x ^^^ y) j = (bitN x j ^^ bitN y j) := by
  unfold bitN
  rw [Int32.toBitVec_xor, BitVec.getLsbD_xor]
theorem bitN_m1 (j : Nat) (h : j < 32) : bitN (Int32.ofInt (-1)) j = true := by
  have : ∀ j, j < 32 → bitN (Int32.ofInt (-1)) j = true := by decide +kernel
  exact this j h
theorem bitN_32 (x : Int32) (j : Nat) (h : 32 ≤ j) : bitN x j = false := by
  unfold bitN
  exact BitVec.getLsbD_of_ge _ _ h
theorem bitN_tp (a j : Nat) (ha : a < 32) : bitN (nI 1 <<< (nI a &&& 31)) j = decide (a = j) := by
  unfold bitN
  rw [bm_tp a ha, BitVec.getLsbD_twoPow]
  simp [ha]
theorem bitN_0 (j : Nat) : bitN (nI 0) j = false := by
  unfold bitN
  have : (nI 0).toBitVec = 0#32 := by decide
  rw [this]
  simp
theorem bitN_ext {x y : Int32} (h : ∀ j, j < 32 → bitN x j = bitN y j) : x = y := by
  apply Int32.toBitVec_inj.mp
  apply BitVec.eq_of_getLsbD_eq
  exact h
theorem bitN_nI (k j : Nat) (hj : j < 32) : bitN (nI k) j = k.testBit j := by
  unfold bitN nI
  show (BitVec.ofNat 32 k).getLsbD j = _
  rw [BitVec.getLsbD_ofNat]
  simp [hj]
theorem i_toNat (x : Int32) : x = nI x.toBitVec.toNat := by
  apply Int32.toBitVec_inj.mp
  show _ = BitVec.ofNat 32 x.toBitVec.toNat
  exact (BitVec.ofNat_toNat 32 x.toBitVec ▸ (BitVec.setWidth_eq x.toBitVec).symm)
/-- a set of few bits is a small number -/
theorem bits_small {x : Int32} {n : Nat} (h : ∀ j, n ≤ j → bitN x j = false) : ∃ k, k < 2 ^ n ∧ x = nI k :=
  ⟨x.toBitVec.toNat, Nat.lt_pow_two_of_testBit _ (fun j hj => by have := h j hj; unfold bitN at this; rw [← BitVec.testBit_toNat] at this; exact this), i_toNat x⟩
def bwI (n : Nat) (s : S3) : Prop := (∀ j, j < 8 → (bitN s.2.1 j = true ↔ 0 < s.1 j)) ∧ (∀ j, j < 8 → 0 ≤ s.1 j) ∧ (∀ j, n ≤ j → bitN s.2.1 j = false) ∧ ∀ j, bitN s.2.2 j = true → bitN s.2.1 j = true
theorem bw_0 (n : Nat) : bwI n (fun _ => nI 0, nI 0, nI 0) := by
  refine ⟨fun j _ => ?_, fun j _ => by show 0 ≤ nI 0; decide, fun j _ => bitN_0 j, fun j h => h⟩
  show bitN (nI 0) j = true ↔ 0 < nI 0
  rw [bitN_0]
  decide
theorem bw_land {n a : Nat} {r : Int32} {s : S3} (h : bwI n s) (ha : a < n) (hn : n ≤ 8) (hr : ¬ r ≤ 0) : bwI n (land1 (nI a) r s) := by
  obtain ⟨h1, h2, h3, h4⟩ := h
  have e : (nI a).toNatClampNeg = a := nI_clamp (by omega)
  have hr0 : 0 < r := Int32.not_le.mp hr
  refine ⟨fun j hj => ?_, fun j hj => ?_, fun j hj => ?_, fun j hj => ?_⟩
  · simp only [land1, e, bitN_or, bitN_tp a j (by omega), upd]
    by_cases q : j = a
    · subst q; simp [hr0]
    · rw [if_neg q, ← h1 j hj]; simp [Ne.symm q]
  · simp only [land1, e, upd]
    by_cases q : j = a
    · rw [if_pos q]; exact Int32.le_of_lt hr0
    · rw [if_neg q]; exact h2 j hj
  · simp only [land1, bitN_or, bitN_tp a j (by omega), h3 j hj]
    simp; omega
  · simp only [land1, bitN_or] at hj ⊢
    rw [h4 j hj]; simp
theorem bw_vic {n a : Nat} {r : Int32} {s : S3} (h : bwI n (land1 (nI a) r s)) (ha : a < 32) : bwI n (vic1 (nI a) (land1 (nI a) r s)) := by
  obtain ⟨h1, h2, h3, h4⟩ := h
  refine ⟨h1, h2, h3, fun j hj => ?_⟩
  simp only [vic1, bitN_or, bitN_tp a j ha, Bool.or_eq_true, decide_eq_true_eq] at hj ⊢
  rcases hj with hj | hj
  · exact h4 j hj
  · subst hj; simp [land1, bitN_or, bitN_tp a a ha]
theorem bw_up {w : WS} {n : Nat} {A : Nat → Nat} (hn : n ≤ 8) (hA : ∀ j, j < n → w.2 3 j = nI (A j) ∧ A j < n) : ∀ (k j : Nat) (r : Int32) (s : S3), j + k ≤ n → bwI n s → bwI n (upF w k j r s) := by
  intro k
  induction k with
  | zero => intro j r s _ h; exact h
  | succ k ih =>
    intro j r s hj h
    obtain ⟨a1, a2⟩ := hA j (by omega)
    rw [upF]
    split
    · exact h
    · rename_i hr
      split
      · exact h
      · rw [a1]
        have hl := bw_land h a2 hn hr
        split
        · split
          · exact hl
          · exact ih _ _ _ (by omega) hl
        · exact bw_vic hl (by omega)
theorem bw_dn {w : WS} {n : Nat} {A : Nat → Nat} (hn : n ≤ 8) (hA : ∀ j, j < n → w.2 3 j = nI (A j) ∧ A j < n) : ∀ (j : Nat) (r : Int32) (s : S3), j ≤ n → bwI n s → bwI n (dnF w j r s) := by
  intro k
  induction k with
  | zero => intro r s _ h; exact h
  | succ j ih =>
    intro r s hj h
    obtain ⟨a1, a2⟩ := hA j (by omega)
    rw [dnF]
    split
    · exact h
    · rename_i hr
      split
      · exact h
      · rw [a1]
        have hl := bw_land h a2 hn hr
        split
        · split
          · exact hl
          · exact ih _ _ (by omega) hl
        · exact bw_vic hl (by omega)
theorem bw_blw {w : WS} {n p : Nat} {A P : Nat → Nat} (hw : wOk w n A P) (hp : p < n) (v : Int32) : bwI n (blw w n p v) := by
  obtain ⟨h0, hn, hA, -⟩ := hw
  exact bw_dn hn (fun j hj => ⟨(hA j hj).1, (hA j hj).2.1⟩) _ _ _ (by omega) (bw_up hn (fun j hj => ⟨(hA j hj).1, (hA j hj).2.1⟩) _ _ _ _ (by omega) (bw_0 n))
theorem sAg.bw {n : Nat} {s b : S3} (h : sAg s b) (hb : bwI n b) : bwI n s := by
  obtain ⟨h1, h2, h3, h4⟩ := hb
  refine ⟨fun j hj => ?_, fun j hj => ?_, fun j hj => ?_, fun j => ?_⟩
  · rw [h.2, h.1 j hj]; exact h1 j hj
  · rw [h.1 j hj]; exact h2 j hj
  · rw [h.2]; exact h3 j hj
  · rw [h.2]; exact h4 j
theorem bwI.vic {n : Nat} {s : S3} (h : bwI n s) : ∀ j, n ≤ j → bitN s.2.2 j = false := by
  intro j hj
  cases q : bitN s.2.2 j
  · rfl
  · have := h.2.2.2 j q; rw [h.2.2.1 j hj] at this; cases this
theorem p8 {n k : Nat} (hn : n ≤ 8) (h : k < 2 ^ n) : k < 256 := Nat.lt_of_lt_of_le h (Nat.pow_le_pow_right (by omega) hn)
theorem bwI.v {n : Nat} {s : S3} (h : bwI n s) (hn : n ≤ 8) : ∃ k, k < 256 ∧ k < 2 ^ n ∧ s.2.2 = nI k := by
  obtain ⟨k, h1, h2⟩ := bits_small h.vic
  exact ⟨k, p8 hn h1, h1, h2⟩
theorem bwI.h {n : Nat} {s : S3} (h : bwI n s) (hn : n ≤ 8) : ∃ k, k < 256 ∧ k < 2 ^ n ∧ s.2.1 = nI k := by
  obtain ⟨k, h1, h2⟩ := bits_small h.2.2.1
  exact ⟨k, p8 hn h1, h1, h2⟩
theorem fBits_fBc {k : Nat} (h : k < 256) : fBits (nI k) = fBc (nI k) := by
  have : ∀ k, k < 256 → fBits (nI k) = fBc (nI k) := by decide +kernel
  exact this k h
/-- how many bits, as a number -/
def pcN (n k : Nat) : Nat := match n with
  | 0 => 0
  | n + 1 => pcN n k + (if k.testBit n then 1 else 0)
theorem fBc_pc {k : Nat} (h : k < 256) : fBc (nI k) = nI (pcN 8 k) := by
  have : ∀ k, k < 256 → fBc (nI k) = nI (pcN 8 k) := by decide +kernel
  exact this k h
theorem pcN_le (n k : Nat) : pcN n k ≤ n := by
  induction n with
  | zero => exact Nat.le_refl _
  | succ n ih => rw [pcN]; split <;> omega
theorem pcN_hi {n k : Nat} (h : k < 2 ^ n) : ∀ d, pcN (n + d) k = pcN n k := by
  intro d
  induction d with
  | zero => rfl
  | succ d ih =>
    rw [← Nat.add_assoc, pcN, ih]
    have : k.testBit (n + d) = false := Nat.testBit_lt_two_pow (Nat.lt_of_lt_of_le h (Nat.pow_le_pow_right (by omega) (by omega)))
    rw [this]; simp
theorem pcN_8 {n k : Nat} (hn : n ≤ 8) (h : k < 2 ^ n) : pcN 8 k = pcN n k := by
  have := pcN_hi h (8 - n)
  rwa [show n + (8 - n) = 8 by omega] at this
theorem pcN_0 {k : Nat} : ∀ n, pcN n k = 0 ↔ ∀ j, j < n → k.testBit j = false := by
  intro n
  induction n with
  | zero => simp [pcN]
  | succ n ih =>
    rw [pcN]
    constructor
    · intro h j hj
      by_cases q : j = n
      · subst q
        cases z : k.testBit j
        · rfl
        · rw [z] at h; simp at h
      · exact ih.mp (by omega) j (by omega)
    · intro h
      rw [ih.mpr (fun j hj => h j (by omega)), h n (by omega)]; simp
theorem itr_add {σ : Type} (f : Nat → σ → σ) : ∀ (k i : Nat) (s : σ), itr f (k + 1) i s = f (i + k) (itr f k i s) := by
  intro k
  induction k with
  | zero => intro i s; rfl
  | succ k ih =>
    intro i s
    rw [itr, ih (i + 1) (f i s), show i + 1 + k = i + (k + 1) by omega]
    rfl
theorem itr_rel {α β : Type} {f : Nat → α → α} {g : Nat → β → β} {R : α → β → Prop} : ∀ (k i : Nat) (a : α) (b : β), R a b → (∀ j a b, i ≤ j → j < i + k → R a b → R (f j a) (g j b)) → R (itr f k i a) (itr g k i b) := by
  intro k
  induction k with
  | zero => intro i a b h _; exact h
  | succ k ih =>
    intro i a b h hs
    rw [itr, itr]
    exact ih (i + 1) _ _ (hs i a b (Nat.le_refl _) (by omega) h) (fun j a b h1 h2 => hs j a b (by omega) (by omega))
theorem itr_inv {α : Type} {f : Nat → α → α} {R : α → Prop} : ∀ (k i : Nat) (a : α), R a → (∀ j a, i ≤ j → j < i + k → R a → R (f j a)) → R (itr f k i a) := by
  intro k
  induction k with
  | zero => intro i a h _; exact h
  | succ k ih =>
    intro i a h hs
    rw [itr]
    exact ih (i + 1) _ (hs i a (Nat.le_refl _) (by omega) h) (fun j a h1 h2 => hs j a (by omega) (by omega))
/-- a count by turns is the number of bits -/
theorem cnt_pc {g : Nat → Int32} {k : Nat} (f : Nat → Int32 → Int32) (hf : ∀ i x, f i x = if 0 < g i then x + nI 1 else x) : ∀ n, (∀ j, j < n → (k.testBit j = true ↔ 0 < g j)) → itr f n 0 (nI 0) = nI (pcN n k) := by
  intro n
  induction n with
  | zero => intro _; rfl
  | succ n ih =>
    intro h
    rw [itr_add, ih (fun j hj => h j (by omega)), hf, pcN, Nat.zero_add]
    have := h n (by omega)
    by_cases q : 0 < g n
    · rw [if_pos q, if_pos (this.mpr q), nI_add]
    · rw [if_neg q, if_neg (fun z => q (this.mp z))]; rfl
