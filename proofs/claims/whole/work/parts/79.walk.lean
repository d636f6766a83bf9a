/-! SPECS of the model: the walk -/
theorem ml_wa {M : MS} {w : WS} {n : Nat} {A P : Nat → Nat} {s : S3} {T : Nat → Int32} (h : mX M w n A P) (hg : wGn w n) (hT : TOK (cF w n) n (2 ^ n) T) {c x : Nat → Nat} {X : Nat → Int32} (hS : SS c n X x) (hc : ∀ j, j < 8 → c j ≤ 9) (hd : ∀ s t, s < 8 → t < 8 → dsN (c s) (c t) = dsN (cF w n s) (cF w n t)) (hV : ∀ k, k < 256 → ∀ t, t < 8 → VN c k t = VN (cF w n) k t) {i : Nat} (hi : i < n) {K : Option Value → AH → Prop} (hK : K (some (.int (nI (x i)))) (mC (setA M 13 T) s.1 s.2.2)) : ∀ (q j : Nat), j + q = i + 1 → 1 ≤ j → am_E i_X12_walked 22 [some (.ref 0), some (.int (nI i)), some (.int (nI (mkN n x j))), some (.int (nI (VN (cF w n) (mkN n x j) (x (j - 1))))), some (.int (nI (x (j - 1)))), some (.int (nI (j))), none] [] (mC (setA M 13 T) s.1 s.2.2) K := by
  have hn8 := h.n8
  intro q
  induction q with
  | zero =>
    intro j hj h1
    obtain rfl : j = i + 1 := by omega
    refine b_X12_walked [22] ?_
    conv => whnf
    refine ⟨fun c25 => ?_, fun c25 => absurd (nI_lt (by omega) (by omega)) c25⟩
    refine b_X12_walked [22] ?_
    conv => whnf
    exact hK
  | succ q ih =>
    intro j hj h1
    obtain ⟨b1, b2⟩ := mk_b hn8 hS j (by omega)
    have hxn : ∀ k, k < n → x k < n := fun k hk => (hS.1 k hk).2
    have hbz : bt (mkN n x j) (x j) = true := (b2 (x j) (by have := hxn j (by omega); omega)).mpr ⟨j, Nat.le_refl _, by omega, rfl⟩
    have hm : mkN n x j < 2 ^ n := Nat.lt_of_le_of_lt (mkN_le j) (Nat.sub_lt (Nat.pow_pos (by decide)) (by decide))
    have hbn : ∀ u, u < 8 → bt (mkN n x j) u = true → u < n := fun u hu hb => by
      obtain ⟨k, k1, k2, k3⟩ := (b2 u hu).mp hb
      rw [← k3]; exact hxn k k2
    have hy := hxn (j - 1) (by omega)
    have hz := hxn j (by omega)
    have hvl := VN_le (c := cF w n) (k := mkN n x j) (t := x (j - 1)) b1 (by omega) (fun j _ => (cF_ok hg).2 j)
    have ean := bt_and (mkN n x j) b1 (x j) (by omega)
    rw [if_pos hbz] at ean
    refine b_X12_walked [22, 31] ?_
    conv => whnf
    refine ⟨fun c25 => absurd c25 (fun z => absurd ((nI_ltI (by omega) (by omega)).mp z) (by omega)), fun c25 => ?_⟩
    conv => whnf
    refine ml_wkb (y := x (j - 1)) (z := x j) (l := VN (cF w n) (mkN n x j) (x (j - 1))) (m := mkN n x j) h hg hT hm hz hy (by omega) hbz hbn (pick_n hn8 hc hd hV hS h1 (by omega)) ?_ (x j) 0 (by omega)
    refine b_X12_walked [22] ?_
    conv => whnf
    refine m_wf h hg hT hm hz hbz ?_
    refine b_X12_walked [22] ?_
    conv => whnf
    rw [ean]
    have h9 := ih (j + 1) (by omega) (by omega)
    rw [← nI_add j 1] at h9
    exact am_wk (by exact ⟨Or.inr rfl, Or.inr rfl, Or.inr rfl, Or.inr rfl, Or.inr rfl, Or.inr rfl, Or.inl rfl, trivial⟩) h9
theorem m_wd {M : MS} {w : WS} {n : Nat} {A P : Nat → Nat} {s : S3} {T : Nat → Int32} (h : mX M w n A P) (hg : wGn w n) (hT : TOK (cF w n) n (2 ^ n) T) {c x : Nat → Nat} {X : Nat → Int32} (hS : SS c n X x) (hc : ∀ j, j < 8 → c j ≤ 9) (hd : ∀ s t, s < 8 → t < 8 → dsN (c s) (c t) = dsN (cF w n s) (cF w n t)) (hV : ∀ k, k < 256 → ∀ t, t < 8 → VN c k t = VN (cF w n) k t) (hP : ∀ u, u < 8 → bt (2 ^ n - 1) u = true → (VN (cF w n) (2 ^ n - 1 - 2 ^ u) u = DN (cF w n) n → x 0 ≤ u) ∧ (u = x 0 → VN (cF w n) (2 ^ n - 1 - 2 ^ u) u = DN (cF w n) n)) {i : Nat} (hi : i < n) {K : Option Value → AH → Prop} (hK : K (some (.int (nI (x i)))) (mC (setA M 13 T) s.1 s.2.2)) : am_M i_X12_walked [.ref 0, .int (nI i)] (mC (setA M 13 T) s.1 s.2.2) K := by
  have hn8 := h.n8
  have hz : x 0 < n := (hS.1 0 (by omega)).2
  have hfl : 2 ^ n - 1 < 2 ^ n := Nat.sub_lt (Nat.pow_pos (by decide)) (by decide)
  have hbz := full_b hn8 hz
  have hbn : ∀ u, u < 8 → bt (2 ^ n - 1) u = true → u < n := fun u hu hb => by
    rw [bt_full n hn8 u hu] at hb; exact of_decide_eq_true hb
  have ean := bt_and (2 ^ n - 1) (full_lt hn8) (x 0) (by omega)
  rw [if_pos hbz] at ean
  have hD : DN (cF w n) n ≤ 100000 := by
    have := (hP (x 0) (by omega) hbz).2 rfl
    have := VN_le (c := cF w n) (k := 2 ^ n - 1 - 2 ^ x 0) (t := x 0) (Nat.lt_of_le_of_lt (Nat.sub_le _ _) (full_lt hn8)) (by omega) (fun j _ => (cF_ok hg).2 j)
    omega
  refine e_X12_walked [22] ?_
  conv => whnf
  rw [show (nI 1 <<< ((setA M 13 T).1 5 &&& 31)) - nI 1 = nI (2 ^ n - 1) from full_sh h.n hn8]
  refine m_sho h hg hT ?_
  refine b_X12_walked [22] ?_
  conv => whnf
  refine b_X12_walked [22, 31] ?_
  conv => whnf
  refine ⟨fun c25 => absurd c25 (fun z => absurd ((nI_ltI (by omega) (by omega)).mp z) (by omega)), fun c25 => ?_⟩
  conv => whnf
  refine ml_wka (y := 0) (z := x 0) (l := DN (cF w n) n) (m := 2 ^ n - 1) h hg hT hfl hz (by omega) hD hbz hbn (fun u hu hb => by rw [Nat.zero_add]; exact hP u hu hb) ?_ (x 0) 0 (by omega)
  refine b_X12_walked [22] ?_
  conv => whnf
  refine m_wf h hg hT hfl hz hbz ?_
  refine b_X12_walked [22] ?_
  conv => whnf
  rw [ean]
  exact am_wk (by exact ⟨Or.inr rfl, Or.inr rfl, Or.inr rfl, Or.inr rfl, Or.inr rfl, Or.inr rfl, Or.inl rfl, trivial⟩) (ml_wa h hg hT hS hc hd hV hi hK i 1 (by omega) (by omega))
theorem abs_ds {a b : Nat} (ha : a ≤ 9) (hb : b ≤ 9) : absI (nI a - nI b) = nI (dsN a b) := by
  have : ∀ a, a < 10 → ∀ b, b < 10 → absI (nI a - nI b) = nI (dsN a b) := by decide +kernel
  exact this a (by omega) b (by omega)
theorem ahd_0 {f g : Nat → Int32} {n : Nat} (hn : 0 < n) {x y : Nat} (hx : f 0 = nI x) (hy : g 0 = nI y) (hx8 : x < 8) (hy8 : y < 8) : (ahdF f g n 0 = true → x ≤ y) ∧ (ahdF f g n 0 = false → y ≤ x) := by
  obtain ⟨k, rfl⟩ : ∃ k, n = k + 1 := ⟨n - 1, by omega⟩
  rw [ahdF, hx, hy]
  by_cases e : nI x = nI y
  · have := (nI_eq (by omega) (by omega)).mp e
    exact ⟨fun _ => by omega, fun _ => by omega⟩
  · rw [if_neg e]
    refine ⟨fun z => ?_, fun z => ?_⟩
    · have := (nI_ltI (by omega) (by omega)).mp (of_decide_eq_true z); omega
    · have := of_decide_eq_false z
      have : ¬ x < y := fun q => this (nI_lt q (by omega))
      omega
theorem shw_ok {w : WS} {n : Nat} {f g r d : Nat → Int32} (hg : wGn w n) (hn : n ≤ 8) (hr : r = itr (srtI w (nI 1)) n 0 g) (hd : d = itr (srtI w (Int32.ofInt (-1))) n 0 f) : ∃ (c x : Nat → Nat) (X : Nat → Int32), SS c n X x ∧ (∀ j, j < 8 → c j ≤ 9) ∧ (∀ s t, s < 8 → t < 8 → dsN (c s) (c t) = dsN (cF w n s) (cF w n t)) ∧ (∀ k, k < 256 → ∀ t, t < 8 → VN c k t = VN (cF w n) k t) ∧ (n ≠ 0 → ∀ u, u < 8 → bt (2 ^ n - 1) u = true → (VN (cF w n) (2 ^ n - 1 - 2 ^ u) u = DN (cF w n) n → x 0 ≤ u) ∧ (u = x 0 → VN (cF w n) (2 ^ n - 1 - 2 ^ u) u = DN (cF w n) n)) ∧ (∀ j, j < n → shwA n r d j = nI (x j)) ∧ shwV w n r d = nI (DN (cF w n) n) := by
  obtain ⟨f1, f2⟩ := cF_ok hg
  obtain ⟨xr, Sr⟩ : ∃ x, SS (cF w n) n r x := by rw [hr]; exact srt_S hn (key_up hg hn) n 0 g (by omega) ⟨fun j => j, fun j hj => by omega, fun t ht => by omega, fun j k _ hk => by omega⟩
  obtain ⟨xd, Sd⟩ : ∃ x, SS (fun j => 9 - cF w n j) n d x := by rw [hd]; exact srt_S hn (key_dn hg hn) n 0 f (by omega) ⟨fun j => j, fun j hj => by omega, fun t ht => by omega, fun j k _ hk => by omega⟩
  clear hr hd
  by_cases h0 : n = 0
  · subst h0
    refine ⟨cF w 0, xr, r, Sr, fun j _ => f2 j, fun _ _ _ _ => rfl, fun _ _ _ _ => rfl, fun z => absurd rfl z, fun j hj => by omega, ?_⟩
    unfold shwV DN
    rw [if_pos rfl, if_pos rfl]
  · have r0 := Sr.1 0 (by omega)
    have d0 := Sd.1 0 (by omega)
    have rm := Sr.1 (n - 1) (by omega)
    have dm := Sd.1 (n - 1) (by omega)
    have hlr : isLH (cF w n) (2 ^ n - 1) (cF w n (xr 0)) (cF w n (xr (n - 1))) := mk_lh hn Sr (j := 0) (by omega)
    have hld : isLH (fun j => 9 - cF w n j) (2 ^ n - 1) (9 - cF w n (xd 0)) (9 - cF w n (xd (n - 1))) := mk_lh hn Sd (j := 0) (by omega)
    obtain ⟨u1, u2⟩ := hld.u (lh_flip (fun j _ => f2 j) hlr)
    have b1 := f2 (xr 0)
    have b2 := f2 (xr (n - 1))
    have b3 := f2 (xd 0)
    have b4 := f2 (xd (n - 1))
    have v1 : cF w n (xr (n - 1)) = cF w n (xd 0) := by omega
    have v2 : cF w n (xd (n - 1)) = cF w n (xr 0) := by omega
    have hlh : isLH (cF w n) (2 ^ n - 1) (cF w n (xr 0)) (cF w n (xd 0)) := by rw [← v1]; exact hlr
    obtain ⟨e1, e2⟩ := hlh.u (lh_N (full_lt hn) (full_0 hn h0) (fun j _ => f2 j))
    have eD : DN (cF w n) n = cF w n (xd 0) - cF w n (xr 0) := by unfold DN; rw [if_neg h0, e1, e2]
    have hle := hlh.le
    have hbn : ∀ u, u < 8 → bt (2 ^ n - 1) u = true → u < n := fun u hu hb => by
      rw [bt_full n hn u hu] at hb; exact of_decide_eq_true hb
    have hQ : ∀ u, u < 8 → bt (2 ^ n - 1) u = true → (VN (cF w n) (2 ^ n - 1 - 2 ^ u) u = DN (cF w n) n ↔ cF w n u = cF w n (xr 0) ∨ cF w n u = cF w n (xd 0)) := fun u hu hb => by
      rw [eD]; exact (VN_out (full_lt hn) hu (fun j _ => f2 j) hb hlh).2.1
    have hlow : ∀ u, u < n → (cF w n u = cF w n (xr 0) → xr 0 ≤ u) := fun u hu => (Sr.fst (by omega) hu).2
    have hhi : ∀ u, u < n → (cF w n u = cF w n (xd 0) → xd 0 ≤ u) := fun u hu e => (Sd.fst (by omega) hu).2 (by show 9 - cF w n u = 9 - cF w n (xd 0); rw [e])
    obtain ⟨a1, a2⟩ := ahd_0 (n := n) (f := r) (g := d) (by omega) r0.1 d0.1 (by omega) (by omega)
    cases hA : ahdF r d n 0
    · have hle2 := a2 hA
      have eA : shwA n r d = d := by unfold shwA; rw [if_neg (by rw [hA]; decide)]
      refine ⟨fun j => 9 - cF w n j, xd, d, Sd, fun j _ => Nat.sub_le _ _, fun s t _ _ => ds_flip (f2 s) (f2 t), fun k hk t ht => VN_flip hk ht (fun j _ => f2 j), fun _ u hu hb => ⟨fun z => ?_, fun z => ?_⟩, fun j hj => by rw [eA]; exact (Sd.1 j hj).1, ?_⟩
      · rcases (hQ u hu hb).mp z with y | y
        · have := hlow u (hbn u hu hb) y; omega
        · exact hhi u (hbn u hu hb) y
      · exact (hQ u hu hb).mpr (Or.inr (by rw [z]))
      · unfold shwV
        rw [if_neg h0, eA, dm.1, d0.1, nI_clamp (by omega), nI_clamp (by omega), f1 _ dm.2, f1 _ d0.2, abs_ds b4 b3, eD, v2]
        congr 1
        unfold dsN
        omega
    · have hle2 := a1 hA
      have eA : ∀ j, j < n → shwA n r d j = r j := fun j hj => by unfold shwA; rw [if_pos hA]; exact cp_at (by omega)
      refine ⟨cF w n, xr, r, Sr, fun j _ => f2 j, fun _ _ _ _ => rfl, fun _ _ _ _ => rfl, fun _ u hu hb => ⟨fun z => ?_, fun z => ?_⟩, fun j hj => by rw [eA j hj]; exact (Sr.1 j hj).1, ?_⟩
      · rcases (hQ u hu hb).mp z with y | y
        · exact hlow u (hbn u hu hb) y
        · have := hhi u (hbn u hu hb) y; omega
      · exact (hQ u hu hb).mpr (Or.inl (by rw [z]))
      · unfold shwV
        rw [if_neg h0, eA _ (by omega), eA _ (by omega), rm.1, r0.1, nI_clamp (by omega), nI_clamp (by omega), f1 _ rm.2, f1 _ r0.2, abs_ds b2 b1, eD, v1]
        congr 1
        unfold dsN
        omega
