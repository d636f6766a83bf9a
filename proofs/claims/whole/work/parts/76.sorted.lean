/-! sorted orders -/
def SS (c : Nat → Nat) (i : Nat) (a : Nat → Int32) (x : Nat → Nat) : Prop := (∀ j, j < i → a j = nI (x j) ∧ x j < i) ∧ (∀ t, t < i → ∃ j, j < i ∧ x j = t) ∧ ∀ j k, j < k → k < i → c (x j) < c (x k) ∨ (c (x j) = c (x k) ∧ x j < x k)
theorem ins_S {w : WS} {sg : Int32} {c x : Nat → Nat} {n i : Nat} (hn : n ≤ 8) (hi : i < n) (hk : ∀ s t, s < n → t < n → (keyS w sg (nI s) ≤ keyS w sg (nI t) ↔ c s ≤ c t)) (hx : ∀ j, j < i → x j < i) (hso : ∀ j k, j < k → k < i → c (x j) ≤ c (x k)) : ∀ (j : Nat) (a : Nat → Int32), j ≤ i → (∀ k, k < j → a k = nI (x k)) → (∀ k, j < k → k ≤ i → a k = nI (x (k - 1))) → (∀ k, j ≤ k → k < i → c i < c (x k)) → ∃ q, q ≤ i ∧ (∀ k, k < q → insF w sg i j a k = nI (x k)) ∧ insF w sg i j a q = nI i ∧ (∀ k, q < k → k ≤ i → insF w sg i j a k = nI (x (k - 1))) ∧ (∀ k, k < q → c (x k) ≤ c i) ∧ ∀ k, q ≤ k → k < i → c i < c (x k) := by
  intro j
  induction j with
  | zero =>
    intro a hj h1 h2 h3
    refine ⟨0, by omega, fun k h => (by omega), (by rw [insF]; exact if_pos rfl), fun k g1 g2 => ?_, fun k h => (by omega), h3⟩
    rw [insF]
    exact (if_neg (by omega)).trans (h2 k g1 g2)
  | succ j ih =>
    intro a hj h1 h2 h3
    have e := h1 j (by omega)
    have hxj := hx j (by omega)
    rw [insF, e]
    by_cases g : keyS w sg (nI (x j)) ≤ keyS w sg (nI i)
    · rw [if_pos g]
      have g2 := (hk _ _ (by omega) hi).mp g
      refine ⟨j + 1, hj, fun k h => ?_, if_pos rfl, fun k k1 k2 => ?_, fun k h => ?_, h3⟩
      · exact (if_neg (by omega)).trans (h1 k h)
      · exact (if_neg (by omega)).trans (h2 k k1 k2)
      · by_cases z : k = j
        · subst z; exact g2
        · exact Nat.le_trans (hso k j (by omega) (by omega)) g2
    · rw [if_neg g]
      have g2 : ¬ c (x j) ≤ c i := fun z => g ((hk _ _ (by omega) hi).mpr z)
      refine ih _ (by omega) (fun k h => ?_) (fun k k1 k2 => ?_) (fun k k1 k2 => ?_)
      · exact (if_neg (by omega)).trans (h1 k (by omega))
      · by_cases z : k = j + 1
        · subst z; exact if_pos rfl
        · exact (if_neg z).trans (h2 k (by omega) k2)
      · by_cases z : k = j
        · subst z; omega
        · exact h3 k (by omega) k2
theorem srt_S {w : WS} {sg : Int32} {c : Nat → Nat} {n : Nat} (hn : n ≤ 8) (hk : ∀ s t, s < n → t < n → (keyS w sg (nI s) ≤ keyS w sg (nI t) ↔ c s ≤ c t)) : ∀ (k i : Nat) (a : Nat → Int32), i + k = n → (∃ x, SS c i a x) → ∃ x, SS c n (itr (srtI w sg) k i a) x := by
  intro k
  induction k with
  | zero =>
    intro i a hi h
    obtain rfl : i = n := by omega
    exact h
  | succ k ih =>
    intro i a hi h
    rw [itr]
    refine ih (i + 1) _ (by omega) ?_
    obtain ⟨x, h1, h2, h3⟩ := h
    obtain ⟨q, q0, q1, q2, q3, q4, q5⟩ := ins_S (x := x) hn (by omega) hk (fun j hj => (h1 j hj).2) (fun j k a b => by rcases h3 j k a b with z | z <;> omega) i a (Nat.le_refl _) (fun k hk => (h1 k hk).1) (fun k a b => by omega) (fun k a b => by omega)
    refine ⟨fun j => if j < q then x j else if j = q then i else x (j - 1), fun j hj => ?_, fun t ht => ?_, fun j l hjl hl => ?_⟩
    · show insF w sg i i a j = nI (if j < q then x j else if j = q then i else x (j - 1)) ∧ (if j < q then x j else if j = q then i else x (j - 1)) < i + 1
      by_cases c1 : j < q
      · rw [if_pos c1]; exact ⟨q1 j c1, by have := (h1 j (by omega)).2; omega⟩
      · rw [if_neg c1]
        by_cases c2 : j = q
        · rw [if_pos c2, c2]; exact ⟨q2, by omega⟩
        · rw [if_neg c2]; exact ⟨q3 j (by omega) (by omega), by have := (h1 (j - 1) (by omega)).2; omega⟩
    · by_cases e : t = i
      · exact ⟨q, by omega, by show (if q < q then _ else _) = _; rw [if_neg (by omega), if_pos rfl, e]⟩
      · obtain ⟨j, j1, j2⟩ := h2 t (by omega)
        by_cases c1 : j < q
        · exact ⟨j, by omega, by show (if j < q then _ else _) = _; rw [if_pos c1]; exact j2⟩
        · exact ⟨j + 1, by omega, by show (if j + 1 < q then _ else _) = _; rw [if_neg (by omega), if_neg (by omega), Nat.add_sub_cancel]; exact j2⟩
    · show c (if j < q then x j else if j = q then i else x (j - 1)) < c (if l < q then x l else if l = q then i else x (l - 1)) ∨ (c (if j < q then x j else if j = q then i else x (j - 1)) = c (if l < q then x l else if l = q then i else x (l - 1)) ∧ (if j < q then x j else if j = q then i else x (j - 1)) < (if l < q then x l else if l = q then i else x (l - 1)))
      by_cases c1 : j < q
      · rw [if_pos c1]
        by_cases d1 : l < q
        · rw [if_pos d1]; exact h3 j l hjl (by omega)
        · rw [if_neg d1]
          by_cases d2 : l = q
          · rw [if_pos d2]
            have a := q4 j c1
            have b := (h1 j (by omega)).2
            omega
          · rw [if_neg d2]; exact h3 j (l - 1) (by omega) (by omega)
      · rw [if_neg c1, if_neg (show ¬ l < q by omega), if_neg (show ¬ l = q by omega)]
        by_cases c2 : j = q
        · rw [if_pos c2]; exact Or.inl (q5 (l - 1) (by omega) (by omega))
        · rw [if_neg c2]; exact h3 (j - 1) (l - 1) (by omega) (by omega)
/-- farms, as numbers -/
def cF (w : WS) (n t : Nat) : Nat := if t < n then (w.2 2 t).toNatClampNeg else 0
theorem cF_ok {w : WS} {n : Nat} (h : wGn w n) : (∀ t, t < n → w.2 2 t = nI (cF w n t)) ∧ ∀ t, cF w n t ≤ 9 := by
  have e : ∀ t, t < n → ∃ f, f ≤ 9 ∧ w.2 2 t = nI f := fun t ht => (h.2.1 t ht).2.2
  refine ⟨fun t ht => ?_, fun t => ?_⟩
  · obtain ⟨f, hf, ef⟩ := e t ht
    unfold cF
    rw [if_pos ht, ef, nI_clamp (by omega)]
  · unfold cF
    by_cases ht : t < n
    · obtain ⟨f, hf, ef⟩ := e t ht
      rw [if_pos ht, ef, nI_clamp (by omega)]; exact hf
    · rw [if_neg ht]; omega
theorem key_up {w : WS} {n : Nat} (h : wGn w n) (hn : n ≤ 8) : ∀ s t, s < n → t < n → (keyS w (nI 1) (nI s) ≤ keyS w (nI 1) (nI t) ↔ cF w n s ≤ cF w n t) := by
  intro s t hs ht
  obtain ⟨h1, h2⟩ := cF_ok h
  unfold keyS
  rw [nI_clamp (by omega), nI_clamp (by omega), h1 s hs, h1 t ht]
  have := h2 s
  have := h2 t
  generalize cF w n s = x at *
  generalize cF w n t = y at *
  have : ∀ x, x < 10 → ∀ y, y < 10 → (nI 1 * nI x ≤ nI 1 * nI y ↔ x ≤ y) := by decide +kernel
  exact this x (by omega) y (by omega)
theorem key_dn {w : WS} {n : Nat} (h : wGn w n) (hn : n ≤ 8) : ∀ s t, s < n → t < n → (keyS w (Int32.ofInt (-1)) (nI s) ≤ keyS w (Int32.ofInt (-1)) (nI t) ↔ 9 - cF w n s ≤ 9 - cF w n t) := by
  intro s t hs ht
  obtain ⟨h1, h2⟩ := cF_ok h
  unfold keyS
  rw [nI_clamp (by omega), nI_clamp (by omega), h1 s hs, h1 t ht]
  have := h2 s
  have := h2 t
  generalize cF w n s = x at *
  generalize cF w n t = y at *
  have : ∀ x, x < 10 → ∀ y, y < 10 → (Int32.ofInt (-1) * nI x ≤ Int32.ofInt (-1) * nI y ↔ 9 - x ≤ 9 - y) := by decide +kernel
  exact this x (by omega) y (by omega)
/-- the sets that are left -/
def mkN (n : Nat) (x : Nat → Nat) : Nat → Nat
  | 0 => 2 ^ n - 1
  | j + 1 => mkN n x j - 2 ^ x j
theorem SS.inj {c : Nat → Nat} {n : Nat} {a : Nat → Int32} {x : Nat → Nat} (h : SS c n a x) {j k : Nat} (hj : j < n) (hk : k < n) (e : x j = x k) : j = k := by
  by_cases q : j < k
  · rcases h.2.2 j k q hk with z | z
    · rw [e] at z; omega
    · omega
  · by_cases q2 : k < j
    · rcases h.2.2 k j q2 hj with z | z
      · rw [e] at z; omega
      · omega
    · omega
theorem mk_b {c : Nat → Nat} {n : Nat} {a : Nat → Int32} {x : Nat → Nat} (hn : n ≤ 8) (h : SS c n a x) : ∀ j, j ≤ n → mkN n x j < 256 ∧ ∀ t, t < 8 → (bt (mkN n x j) t = true ↔ ∃ k, j ≤ k ∧ k < n ∧ x k = t) := by
  intro j
  induction j with
  | zero =>
    intro _
    refine ⟨?_, fun t ht => ?_⟩
    · have : ∀ n, n ≤ 8 → 2 ^ n - 1 < 256 := by decide +kernel
      exact this n hn
    · rw [mkN, bt_full n hn t ht, decide_eq_true_iff]
      refine ⟨fun q => ?_, fun ⟨k, k1, k2, k3⟩ => by rw [← k3]; exact (h.1 k k2).2⟩
      obtain ⟨k, k1, k2⟩ := h.2.1 t q
      exact ⟨k, by omega, k1, k2⟩
  | succ j ih =>
    intro hj
    obtain ⟨h1, h2⟩ := ih (by omega)
    have hx := (h.1 j (by omega)).2
    have hb : bt (mkN n x j) (x j) = true := (h2 (x j) (by omega)).mpr ⟨j, by omega, by omega, rfl⟩
    refine ⟨Nat.lt_of_le_of_lt (Nat.sub_le _ _) h1, fun t ht => ?_⟩
    rw [mkN, bt_sub _ h1 _ (by omega) hb t ht, Bool.and_eq_true, h2 t ht]
    constructor
    · intro ⟨⟨k, k1, k2, k3⟩, q⟩
      refine ⟨k, ?_, k2, k3⟩
      by_cases e : k = j
      · subst e; rw [← k3] at q; simp at q
      · omega
    · intro ⟨k, k1, k2, k3⟩
      refine ⟨⟨k, by omega, k2, k3⟩, ?_⟩
      have : t ≠ x j := fun z => by
        have := h.inj k2 (by omega) (k3.trans z)
        omega
      simp [this]
theorem mk_lh {c : Nat → Nat} {n : Nat} {a : Nat → Int32} {x : Nat → Nat} (hn : n ≤ 8) (h : SS c n a x) {j : Nat} (hj : j < n) : isLH c (mkN n x j) (c (x j)) (c (x (n - 1))) := by
  obtain ⟨h1, h2⟩ := mk_b hn h j (by omega)
  have hx : ∀ k, k < n → x k < 8 := fun k hk => by have := (h.1 k hk).2; omega
  refine ⟨fun t ht hb => ?_, ⟨x j, hx j hj, (h2 _ (hx j hj)).mpr ⟨j, by omega, hj, rfl⟩, rfl⟩, ⟨x (n - 1), hx _ (by omega), (h2 _ (hx _ (by omega))).mpr ⟨n - 1, by omega, by omega, rfl⟩, rfl⟩⟩
  obtain ⟨k, k1, k2, k3⟩ := (h2 t ht).mp hb
  subst k3
  constructor
  · by_cases e : k = j
    · subst e; exact Nat.le_refl _
    · rcases h.2.2 j k (by omega) k2 with z | z <;> omega
  · by_cases e : k = n - 1
    · subst e; exact Nat.le_refl _
    · rcases h.2.2 k (n - 1) (by omega) (by omega) with z | z <;> omega
/-- what is picked after the first -/
theorem pick_n {F c : Nat → Nat} {n : Nat} {a : Nat → Int32} {x : Nat → Nat} (hn : n ≤ 8) (hc : ∀ j, j < 8 → c j ≤ 9) (hd : ∀ s t, s < 8 → t < 8 → dsN (c s) (c t) = dsN (F s) (F t)) (hV : ∀ k, k < 256 → ∀ t, t < 8 → VN c k t = VN F k t) (h : SS c n a x) {j : Nat} (h1 : 1 ≤ j) (hj : j < n) : ∀ u, u < 8 → bt (mkN n x j) u = true → ((dsN (F (x (j - 1))) (F u) + VN F (mkN n x j - 2 ^ u) u = VN F (mkN n x j) (x (j - 1)) → x j ≤ u) ∧ (u = x j → dsN (F (x (j - 1))) (F u) + VN F (mkN n x j - 2 ^ u) u = VN F (mkN n x j) (x (j - 1)))) := by
  intro u hu hb
  obtain ⟨m1, m2⟩ := mk_b hn h j (by omega)
  have hl := mk_lh hn h hj
  have hxp : x (j - 1) < 8 := by have := (h.1 (j - 1) (by omega)).2; omega
  have hle : c (x (j - 1)) ≤ c (x j) := by rcases h.2.2 (j - 1) j (by omega) hj with z | z <;> omega
  have ho := ((VN_out m1 hu hc hb hl).2.2 (c (x (j - 1)))).2.2 hle
  have hlh := hl.le
  have e : VN c (mkN n x j) (x (j - 1)) = c (x (n - 1)) - c (x (j - 1)) := by
    rw [VN_e m1 hc hl]
    unfold dsN
    omega
  rw [← hV _ m1 _ hxp, e, ← hd _ _ hxp hu, ← hV _ (Nat.lt_of_le_of_lt (Nat.sub_le _ _) m1) _ hu, ho]
  refine ⟨fun z => ?_, fun z => by rw [z]⟩
  obtain ⟨k, k1, k2, k3⟩ := (m2 u hu).mp hb
  by_cases q : k = j
  · subst q; omega
  · rcases h.2.2 j k (by omega) k2 with y | y
    · rw [k3] at y; omega
    · omega
/-- the first of a sorted order -/
theorem SS.fst {c : Nat → Nat} {n : Nat} {a : Nat → Int32} {x : Nat → Nat} (h : SS c n a x) (hn : 0 < n) {u : Nat} (hu : u < n) : c (x 0) ≤ c u ∧ (c u = c (x 0) → x 0 ≤ u) := by
  obtain ⟨k, k1, k2⟩ := h.2.1 u hu
  by_cases q : k = 0
  · subst q; subst k2; exact ⟨Nat.le_refl _, fun _ => Nat.le_refl _⟩
  · rcases h.2.2 0 k (by omega) k1 with z | z
    · rw [k2] at z; exact ⟨by omega, fun y => by omega⟩
    · rw [k2] at z; exact ⟨by omega, fun _ => by omega⟩
