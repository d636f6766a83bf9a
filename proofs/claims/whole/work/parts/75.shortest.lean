/-! the shortest walk, closed -/
def bt (k u : Nat) : Bool := k / 2 ^ u % 2 == 1
theorem bt_N : ∀ k, k < 256 → ∀ u, u < 8 → bitN (nI k) u = bt k u := by decide +kernel
theorem bt_z : ∀ k, k < 256 → (∀ u, u < 8 → bt k u = false) → k = 0 := by decide +kernel
theorem bt_le : ∀ k, k < 256 → ∀ u, u < 8 → bt k u = true → 2 ^ u ≤ k := by decide +kernel
theorem bt_sub : ∀ k, k < 256 → ∀ u, u < 8 → bt k u = true → ∀ j, j < 8 → bt (k - 2 ^ u) j = (bt k j && !(j == u)) := by decide +kernel
theorem bt_and : ∀ k, k < 256 → ∀ u, u < 8 → nI k &&& ((nI 1 <<< (nI u &&& 31)) ^^^ Int32.ofInt (-1)) = if bt k u = true then nI (k - 2 ^ u) else nI k := by decide +kernel
theorem bt_hi : ∀ n, n ≤ 8 → ∀ k, k < 2 ^ n → ∀ j, j < 8 → n ≤ j → bt k j = false := by decide +kernel
theorem bt_full : ∀ n, n ≤ 8 → ∀ j, j < 8 → bt (2 ^ n - 1) j = decide (j < n) := by decide +kernel
/-- the least and the greatest of a set -/
def loN (c : Nat → Nat) (k : Nat) : Nat := itr (fun j x => if bt k j = true then min x (c j) else x) 8 0 100
def hiN (c : Nat → Nat) (k : Nat) : Nat := itr (fun j x => if bt k j = true then max x (c j) else x) 8 0 0
theorem lo_gen (c : Nat → Nat) (k : Nat) : ∀ (q i x : Nat), (∀ j, i ≤ j → j < i + q → bt k j = true → itr (fun j x => if bt k j = true then min x (c j) else x) q i x ≤ c j) ∧ itr (fun j x => if bt k j = true then min x (c j) else x) q i x ≤ x ∧ (itr (fun j x => if bt k j = true then min x (c j) else x) q i x = x ∨ ∃ j, i ≤ j ∧ j < i + q ∧ bt k j = true ∧ c j = itr (fun j x => if bt k j = true then min x (c j) else x) q i x) := by
  intro q
  induction q with
  | zero => intro i x; exact ⟨fun j h1 h2 => by omega, Nat.le_refl _, Or.inl rfl⟩
  | succ q ih =>
    intro i x
    rw [itr]
    obtain ⟨h1, h2, h3⟩ := ih (i + 1) (if bt k i = true then min x (c i) else x)
    generalize itr (fun j x => if bt k j = true then min x (c j) else x) q (i + 1) (if bt k i = true then min x (c i) else x) = r at h1 h2 h3 ⊢
    by_cases b : bt k i = true
    · rw [if_pos b] at h2 h3
      refine ⟨fun j j1 j2 hb => ?_, by omega, ?_⟩
      · by_cases e : j = i
        · subst e; omega
        · exact h1 j (by omega) (by omega) hb
      · rcases h3 with h3 | ⟨j, j1, j2, j3, j4⟩
        · by_cases y : x ≤ c i
          · exact Or.inl (by omega)
          · exact Or.inr ⟨i, by omega, by omega, b, by omega⟩
        · exact Or.inr ⟨j, by omega, by omega, j3, j4⟩
    · rw [if_neg b] at h2 h3
      refine ⟨fun j j1 j2 hb => ?_, h2, ?_⟩
      · by_cases e : j = i
        · subst e; exact absurd hb b
        · exact h1 j (by omega) (by omega) hb
      · rcases h3 with h3 | ⟨j, j1, j2, j3, j4⟩
        · exact Or.inl h3
        · exact Or.inr ⟨j, by omega, by omega, j3, j4⟩
theorem hi_gen (c : Nat → Nat) (k : Nat) : ∀ (q i x : Nat), (∀ j, i ≤ j → j < i + q → bt k j = true → c j ≤ itr (fun j x => if bt k j = true then max x (c j) else x) q i x) ∧ x ≤ itr (fun j x => if bt k j = true then max x (c j) else x) q i x ∧ (itr (fun j x => if bt k j = true then max x (c j) else x) q i x = x ∨ ∃ j, i ≤ j ∧ j < i + q ∧ bt k j = true ∧ c j = itr (fun j x => if bt k j = true then max x (c j) else x) q i x) := by
  intro q
  induction q with
  | zero => intro i x; exact ⟨fun j h1 h2 => by omega, Nat.le_refl _, Or.inl rfl⟩
  | succ q ih =>
    intro i x
    rw [itr]
    obtain ⟨h1, h2, h3⟩ := ih (i + 1) (if bt k i = true then max x (c i) else x)
    generalize itr (fun j x => if bt k j = true then max x (c j) else x) q (i + 1) (if bt k i = true then max x (c i) else x) = r at h1 h2 h3 ⊢
    by_cases b : bt k i = true
    · rw [if_pos b] at h2 h3
      refine ⟨fun j j1 j2 hb => ?_, by omega, ?_⟩
      · by_cases e : j = i
        · subst e; omega
        · exact h1 j (by omega) (by omega) hb
      · rcases h3 with h3 | ⟨j, j1, j2, j3, j4⟩
        · by_cases y : c i ≤ x
          · exact Or.inl (by omega)
          · exact Or.inr ⟨i, by omega, by omega, b, by omega⟩
        · exact Or.inr ⟨j, by omega, by omega, j3, j4⟩
    · rw [if_neg b] at h2 h3
      refine ⟨fun j j1 j2 hb => ?_, h2, ?_⟩
      · by_cases e : j = i
        · subst e; exact absurd hb b
        · exact h1 j (by omega) (by omega) hb
      · rcases h3 with h3 | ⟨j, j1, j2, j3, j4⟩
        · exact Or.inl h3
        · exact Or.inr ⟨j, by omega, by omega, j3, j4⟩
/-- lo and hi are the least and the greatest of a set that is not empty -/
def isLH (c : Nat → Nat) (k lo hi : Nat) : Prop := (∀ j, j < 8 → bt k j = true → lo ≤ c j ∧ c j ≤ hi) ∧ (∃ j, j < 8 ∧ bt k j = true ∧ c j = lo) ∧ ∃ j, j < 8 ∧ bt k j = true ∧ c j = hi
theorem isLH.le {c : Nat → Nat} {k lo hi : Nat} (h : isLH c k lo hi) : lo ≤ hi := by
  obtain ⟨h1, ⟨j, j1, j2, j3⟩, -⟩ := h
  have := h1 j j1 j2
  omega
theorem isLH.u {c : Nat → Nat} {k lo hi lo2 hi2 : Nat} (h : isLH c k lo hi) (g : isLH c k lo2 hi2) : lo = lo2 ∧ hi = hi2 := by
  obtain ⟨h1, ⟨j, j1, j2, j3⟩, ⟨q, q1, q2, q3⟩⟩ := h
  obtain ⟨g1, ⟨i, i1, i2, i3⟩, ⟨p, p1, p2, p3⟩⟩ := g
  have a := h1 i i1 i2
  have b := h1 p p1 p2
  have c1 := g1 j j1 j2
  have d := g1 q q1 q2
  omega
theorem lh_N {c : Nat → Nat} {k : Nat} (hk : k < 256) (h0 : k ≠ 0) (hc : ∀ j, j < 8 → c j ≤ 9) : isLH c k (loN c k) (hiN c k) := by
  obtain ⟨l1, l2, l3⟩ := lo_gen c k 8 0 100
  obtain ⟨h1, h2, h3⟩ := hi_gen c k 8 0 0
  have hex : ∃ j, j < 8 ∧ bt k j = true := by
    by_cases e : ∃ j, j < 8 ∧ bt k j = true
    · exact e
    · exact absurd (bt_z k hk (fun u hu => by
        cases q : bt k u
        · rfl
        · exact absurd ⟨u, hu, q⟩ e)) h0
  obtain ⟨j0, j1, j2⟩ := hex
  have a := l1 j0 (by omega) (by omega) j2
  have b := h1 j0 (by omega) (by omega) j2
  have c0 := hc j0 j1
  refine ⟨fun j hj hb => ⟨l1 j (by omega) (by omega) hb, h1 j (by omega) (by omega) hb⟩, ?_, ?_⟩
  · rcases l3 with l3 | ⟨j, y1, y2, y3, y4⟩
    · omega
    · exact ⟨j, by omega, y3, y4⟩
  · rcases h3 with h3 | ⟨j, y1, y2, y3, y4⟩
    · exact ⟨j0, j1, j2, by have e : hiN c k = 0 := h3; have : c j0 ≤ hiN c k := b; omega⟩
    · exact ⟨j, by omega, y3, y4⟩
/-- one goes out of a set -/
theorem lh_out {c : Nat → Nat} {k u lo hi : Nat} (hk : k < 256) (hu : u < 8) (hb : bt k u = true) (h : isLH c k lo hi) : (k - 2 ^ u = 0 ∧ lo = c u ∧ hi = c u) ∨ (k - 2 ^ u ≠ 0 ∧ ∀ lo2 hi2, isLH c (k - 2 ^ u) lo2 hi2 → lo = min lo2 (c u) ∧ hi = max hi2 (c u)) := by
  have hs := bt_sub k hk u hu hb
  have hle := bt_le k hk u hu hb
  by_cases z : k - 2 ^ u = 0
  · refine Or.inl ⟨z, ?_⟩
    have hz : ∀ j, j < 8 → bt k j = true → j = u := fun j hj b => by
      have := hs j hj
      rw [z] at this
      have e : bt 0 j = false := by
        have : ∀ j, j < 8 → bt 0 j = false := by decide +kernel
        exact this j hj
      rw [e, b] at this
      by_cases q : j = u
      · exact q
      · exfalso; simp [q] at this
    obtain ⟨-, ⟨j, j1, j2, j3⟩, ⟨q, q1, q2, q3⟩⟩ := h
    have e1 := hz j j1 j2
    have e2 := hz q q1 q2
    subst e1
    subst e2
    exact ⟨j3.symm, q3.symm⟩
  · refine Or.inr ⟨z, fun lo2 hi2 g => ?_⟩
    obtain ⟨h1, ⟨j, j1, j2, j3⟩, ⟨q, q1, q2, q3⟩⟩ := h
    obtain ⟨g1, ⟨i, i1, i2, i3⟩, ⟨p, p1, p2, p3⟩⟩ := g
    have m1 : ∀ j, j < 8 → bt (k - 2 ^ u) j = true → bt k j = true := fun j hj b => by
      rw [hs j hj] at b
      cases e : bt k j
      · rw [e] at b; cases b
      · rfl
    have m2 : ∀ j, j < 8 → bt k j = true → j ≠ u → bt (k - 2 ^ u) j = true := fun j hj b e => by
      rw [hs j hj, b]; simp [e]
    have a1 := h1 i i1 (m1 i i1 i2)
    have a2 := h1 p p1 (m1 p p1 p2)
    have a3 := h1 u hu hb
    have b1 : lo2 ≤ c j ∨ j = u := by
      by_cases e : j = u
      · exact Or.inr e
      · exact Or.inl (g1 j j1 (m2 j j1 j2 e)).1
    have b2 : c q ≤ hi2 ∨ q = u := by
      by_cases e : q = u
      · exact Or.inr e
      · exact Or.inl (g1 q q1 (m2 q q1 q2 e)).2
    have b3 : j = u → c j = c u := fun e => by rw [e]
    have b4 : q = u → c q = c u := fun e => by rw [e]
    constructor
    · rcases b1 with b1 | b1
      · omega
      · have := b3 b1; omega
    · rcases b2 with b2 | b2
      · omega
      · have := b4 b2; omega
def dsN (a b : Nat) : Nat := (a - b) + (b - a)
def VN (c : Nat → Nat) (k t : Nat) : Nat := if k = 0 then 0 else (hiN c k - loN c k) + min (dsN (c t) (loN c k)) (dsN (c t) (hiN c k))
theorem VN_0 {c : Nat → Nat} {t : Nat} : VN c 0 t = 0 := if_pos rfl
theorem VN_e {c : Nat → Nat} {k t lo hi : Nat} (hk : k < 256) (hc : ∀ j, j < 8 → c j ≤ 9) (h : isLH c k lo hi) : VN c k t = (hi - lo) + min (dsN (c t) lo) (dsN (c t) hi) := by
  have h0 : k ≠ 0 := fun z => by
    obtain ⟨-, ⟨j, j1, j2, -⟩, -⟩ := h
    subst z
    have : ∀ j, j < 8 → bt 0 j = false := by decide +kernel
    rw [this j j1] at j2; cases j2
  obtain ⟨e1, e2⟩ := h.u (lh_N hk h0 hc)
  unfold VN
  rw [if_neg h0, e1, e2]
theorem VN_le {c : Nat → Nat} {k t : Nat} (hk : k < 256) (ht : t < 8) (hc : ∀ j, j < 8 → c j ≤ 9) : VN c k t ≤ 18 := by
  by_cases h0 : k = 0
  · subst h0; rw [VN_0]; omega
  · have h := lh_N hk h0 hc
    rw [VN_e hk hc h]
    obtain ⟨-, ⟨j, j1, j2, j3⟩, ⟨q, q1, q2, q3⟩⟩ := h
    have a := hc j j1
    have b := hc q q1
    have d := hc t ht
    unfold dsN
    omega
/-- the last of a step, told by the set before -/
theorem VN_out {c : Nat → Nat} {k u lo hi : Nat} (hk : k < 256) (hu : u < 8) (hc : ∀ j, j < 8 → c j ≤ 9) (hb : bt k u = true) (h : isLH c k lo hi) : hi - lo ≤ VN c (k - 2 ^ u) u ∧ (VN c (k - 2 ^ u) u = hi - lo ↔ c u = lo ∨ c u = hi) ∧ ∀ x, (hi - lo) + min (dsN x lo) (dsN x hi) ≤ dsN x (c u) + VN c (k - 2 ^ u) u ∧ ((c u = lo ∧ dsN x lo ≤ dsN x hi) ∨ (c u = hi ∧ dsN x hi ≤ dsN x lo) → dsN x (c u) + VN c (k - 2 ^ u) u = (hi - lo) + min (dsN x lo) (dsN x hi)) ∧ (x ≤ lo → (dsN x (c u) + VN c (k - 2 ^ u) u = hi - x ↔ c u = lo)) := by
  have hle := h.le
  have hin := h.1 u hu hb
  rcases lh_out hk hu hb h with ⟨z, e1, e2⟩ | ⟨z, hz⟩
  · rw [z, VN_0]
    refine ⟨by omega, ⟨fun _ => Or.inl e1.symm, fun _ => by omega⟩, fun x => ⟨?_, fun _ => ?_, fun hx => ⟨fun _ => e1.symm, fun _ => ?_⟩⟩⟩
    · rw [e1, e2]; unfold dsN; omega
    · unfold dsN; omega
    · unfold dsN; omega
  · have hk2 : k - 2 ^ u < 256 := Nat.lt_of_le_of_lt (Nat.sub_le _ _) hk
    have h2 := lh_N (c := c) (k := k - 2 ^ u) hk2 z hc
    have hle2 := h2.le
    obtain ⟨e1, e2⟩ := hz _ _ h2
    rw [VN_e hk2 hc h2]
    generalize loN c (k - 2 ^ u) = lo2 at *
    generalize hiN c (k - 2 ^ u) = hi2 at *
    generalize c u = y at *
    refine ⟨?_, ?_, fun x => ⟨?_, ?_, fun hx => ?_⟩⟩
    · unfold dsN; omega
    · unfold dsN; omega
    · unfold dsN; omega
    · unfold dsN; omega
    · unfold dsN; omega
theorem VN_rec {c : Nat → Nat} {k t : Nat} (hk : k < 256) (h0 : k ≠ 0) (hc : ∀ j, j < 8 → c j ≤ 9) : (∃ u, u < 8 ∧ bt k u = true ∧ dsN (c t) (c u) + VN c (k - 2 ^ u) u = VN c k t) ∧ ∀ u, u < 8 → bt k u = true → VN c k t ≤ dsN (c t) (c u) + VN c (k - 2 ^ u) u := by
  have h := lh_N hk h0 hc
  have h2 := h
  rw [VN_e hk hc h]
  generalize loN c k = lo at *
  generalize hiN c k = hi at *
  obtain ⟨-, ⟨j, j1, j2, j3⟩, ⟨q, q1, q2, q3⟩⟩ := h2
  refine ⟨?_, fun u hu hb => ((VN_out hk hu hc hb h).2.2 (c t)).1⟩
  by_cases w : dsN (c t) lo ≤ dsN (c t) hi
  · exact ⟨j, j1, j2, ((VN_out hk j1 hc j2 h).2.2 (c t)).2.1 (Or.inl ⟨j3, w⟩)⟩
  · exact ⟨q, q1, q2, ((VN_out hk q1 hc q2 h).2.2 (c t)).2.1 (Or.inr ⟨q3, by omega⟩)⟩
/-- the other way round -/
theorem lh_flip {c : Nat → Nat} {k lo hi : Nat} (hc : ∀ j, j < 8 → c j ≤ 9) (h : isLH c k lo hi) : isLH (fun j => 9 - c j) k (9 - hi) (9 - lo) := by
  obtain ⟨h1, ⟨j, j1, j2, j3⟩, ⟨q, q1, q2, q3⟩⟩ := h
  refine ⟨fun i hi2 hb => ?_, ⟨q, q1, q2, ?_⟩, ⟨j, j1, j2, ?_⟩⟩
  · have := h1 i hi2 hb
    show 9 - hi ≤ 9 - c i ∧ 9 - c i ≤ 9 - lo
    omega
  · show 9 - c q = 9 - hi
    omega
  · show 9 - c j = 9 - lo
    omega
theorem ds_flip {a b : Nat} (ha : a ≤ 9) (hb : b ≤ 9) : dsN (9 - a) (9 - b) = dsN a b := by unfold dsN; omega
theorem VN_flip {c : Nat → Nat} {k t : Nat} (hk : k < 256) (ht : t < 8) (hc : ∀ j, j < 8 → c j ≤ 9) : VN (fun j => 9 - c j) k t = VN c k t := by
  by_cases h0 : k = 0
  · subst h0; rw [VN_0, VN_0]
  · have h := lh_N hk h0 hc
    have g := lh_flip hc h
    rw [VN_e hk hc h, VN_e hk (fun j _ => Nat.sub_le 9 (c j)) g]
    have hb : loN c k ≤ 9 ∧ hiN c k ≤ 9 := by
      obtain ⟨-, ⟨j, j1, j2, j3⟩, ⟨q, q1, q2, q3⟩⟩ := h
      have a := hc j j1
      have b := hc q q1
      omega
    have hle := h.le
    have ct := hc t ht
    show 9 - loN c k - (9 - hiN c k) + min (dsN (9 - c t) (9 - hiN c k)) (dsN (9 - c t) (9 - loN c k)) = _
    rw [ds_flip ct hb.2, ds_flip ct hb.1]
    omega
