/-! a wire in order stays in order -/
def wGn (w : WS) (n : Nat) : Prop := wEx w n ∧ (∀ t, t < n → (∃ k, k ≤ 5 ∧ w.2 0 t = nI k) ∧ (∃ f, f ≤ 9 ∧ w.2 1 t = nI f) ∧ ∃ f, f ≤ 9 ∧ w.2 2 t = nI f) ∧ smB n (w.1 1) ∧ ∃ d, d ≤ 999 ∧ w.1 3 = nI d
theorem wOk_std {w : WS} {n : Nat} {A P : Nat → Nat} (h : wOk w n A P) : nO w = n ∧ wOk w n (aO w) (plW w) ∧ (∀ j, j < n → aO w j = A j) ∧ ∀ t, t < n → plW w t = P t := by
  obtain ⟨h1, h2, h3, h4⟩ := h
  have e : nO w = n := by unfold nO; rw [h1]; exact nI_clamp (by omega)
  have ea : ∀ j, j < n → aO w j = A j := fun j hj => by unfold aO; rw [(h3 j hj).1]; exact nI_clamp (by have := (h3 j hj).2.1; omega)
  have ep : ∀ t, t < n → plW w t = P t := fun t ht => by unfold plW; rw [(h4 t ht).1]; exact nI_clamp (by have := (h4 t ht).2.1; omega)
  refine ⟨e, ⟨h1, h2, fun j hj => ?_, fun t ht => ?_⟩, ea, ep⟩
  · obtain ⟨a1, a2, a3⟩ := h3 j hj
    rw [ea j hj]
    exact ⟨a1, a2, by rw [ep _ a2]; exact a3⟩
  · obtain ⟨a1, a2, a3⟩ := h4 t ht
    rw [ep t ht]
    exact ⟨a1, a2, by rw [ea _ a2]; exact a3⟩
theorem wGn.G {w : WS} {n : Nat} (h : wGn w n) : wG w := by
  obtain ⟨⟨A, P, h1⟩, h2, h3, h4⟩ := h
  obtain ⟨e, h5, -⟩ := wOk_std h1
  unfold wG
  rw [e]
  exact ⟨h5, h2, h3, h4⟩
theorem wG.n {w : WS} (h : wG w) : wGn w (nO w) := ⟨⟨_, _, h.1⟩, h.2.1, h.2.2.1, h.2.2.2⟩
theorem wGn.eq {w v : WS} {n : Nat} (h : wGn v n) (e : wEq w v) : wGn w n := by
  obtain ⟨⟨A, P, h1⟩, h2, h3, h4⟩ := h
  have hn := h1.2.1
  refine ⟨⟨A, P, e.ok h1⟩, fun t ht => ?_, ?_, ?_⟩
  · rw [e.2 0 (by decide) t (by omega), e.2 1 (by decide) t (by omega), e.2 2 (by decide) t (by omega)]
    exact h2 t ht
  · rw [e.1 1 (by decide)]; exact h3
  · rw [e.1 3 (by decide)]; exact h4
theorem wG.eq {w v : WS} (h : wG v) (e : wEq w v) : wG w := (h.n.eq e).G
theorem wGn.cut {w : WS} {n : Nat} (h : wGn w n) (x : Int32) : wGn (wI w 2 x) n := h
theorem wGn.mend {w : WS} {n : Nat} (h : wGn w n) (x : Int32) : wGn (wI w 1 (butI (w.1 1) x)) n := ⟨h.1, h.2.1, fun j hj => by
  show bitN (w.1 1 &&& _) j = false
  rw [bitN_and, h.2.2.1 j hj]; rfl, h.2.2.2⟩
theorem wGn.drop {w : WS} {n p : Nat} {v : Int32} (h : wGn w n) (hp : p < n) (hd : fAbove (w.1 3 + nI 1) (nI 999) = 0) : wGn (wDrop w (blw w n p v).2.2) n := by
  obtain ⟨⟨A, P, h1⟩, h2, h3, d, hd1, hd2⟩ := h
  refine ⟨⟨A, P, h1⟩, h2, fun j hj => ?_, d + 1, ?_, ?_⟩
  · show bitN (w.1 1 ||| _) j = false
    rw [bitN_or, h3 j hj, (bw_blw h1 hp v).vic j hj]; rfl
  · rw [hd2, nI_add] at hd
    exact (nI_leI (by omega) (by decide)).mp (fAbove_0 hd)
  · show w.1 3 + nI 1 = _
    rw [hd2, nI_add]
theorem wGn.xch {w : WS} {n i j : Nat} (h : wGn w n) (hi : i < n) (hj : j < n) : wGn (wXch w i j) n := ⟨wEx_xch h.1 hi hj, h.2⟩
theorem fJoinR_d {n : Nat} {k f b : Int32} (hn : n ≤ 8) (h : fJoinR (nI n) k f b = 0) : (∃ x, x ≤ 5 ∧ k = nI x) ∧ (∃ x, x ≤ 9 ∧ f = nI x) ∧ ∃ x, x ≤ 9 ∧ b = nI x := by
  obtain ⟨h1, -⟩ := fFirst_0 h
  obtain ⟨h1, h4⟩ := fFirst_0 h1
  obtain ⟨h2, h3⟩ := fFirst_0 h1
  obtain ⟨h5, h6⟩ := fFirst_0 h3
  obtain ⟨h7, h8⟩ := fFirst_0 h4
  refine ⟨fUnk_0 (by decide) h2, ?_, ?_⟩
  · obtain ⟨x, -, a, b⟩ := btw_of (by decide) (by decide) (fBelow_0 h5) (fAbove_0 h7)
    exact ⟨x, a, b⟩
  · obtain ⟨x, -, a, b⟩ := btw_of (by decide) (by decide) (fBelow_0 h6) (fAbove_0 h8)
    exact ⟨x, a, b⟩
theorem wGn.join {w : WS} {n : Nat} {k f b : Int32} (h : wGn w n) (hr : fJoinR (w.1 0) k f b = 0) : wGn (wJoin w n k f b) (n + 1) := by
  obtain ⟨⟨A, P, h1⟩, h2, h3, h4⟩ := h
  rw [h1.1] at hr
  have hn := fJoinR_0 h1.2.1 hr
  obtain ⟨a1, a2, a3⟩ := fJoinR_d h1.2.1 hr
  refine ⟨wEx_join ⟨A, P, h1⟩ hn, fun t ht => ?_, fun j hj => h3 j (by omega), h4⟩
  show (∃ x, x ≤ 5 ∧ upd (w.2 0) n k t = nI x) ∧ (∃ x, x ≤ 9 ∧ upd (w.2 1) n f t = nI x) ∧ ∃ x, x ≤ 9 ∧ upd (w.2 2) n b t = nI x
  unfold upd
  by_cases e : t = n
  · rw [if_pos e, if_pos e, if_pos e]; exact ⟨a1, a2, a3⟩
  · rw [if_neg e, if_neg e, if_neg e]; exact h2 t (by omega)
theorem wGn.act {w : WS} {n q s : Nat} {f : Nat → Int32} (h : wGn w n) (hr : refF w (nI q) f s = 0) : wGn (actF w n (nI q) f s) (actN n f s) := by
  have h0 := h
  obtain ⟨⟨A, P, h1⟩, -⟩ := h0
  have hn := h1.2.1
  obtain ⟨-, hs, -, hpl⟩ := wOk_std h1
  unfold refF at hr
  unfold actF actN
  by_cases e1 : f s = nI 99
  · rw [if_pos e1, if_neg (by rw [e1]; decide)]; exact h.cut _
  · rw [if_neg e1] at hr ⊢
    by_cases e2 : f s = nI 100
    · rw [if_pos e2] at hr ⊢
      rw [if_neg (by rw [e2]; decide)]
      rw [h1.1] at hr
      obtain ⟨t, ht, et⟩ := fDropR_0 (by omega) hr
      rw [et, nI_clamp (by omega)]
      refine h.drop (hs.2.2.2 t ht).2.1 ?_
      unfold fDropR at hr
      by_cases c : fFirst (fFirst (fNoTh (nI n) (dgt (nI q) f (nI s + nI 1))) (fNoBlow (blI (nI q) f (nI s)))) (fAbove (w.1 3 + nI 1) (nI 999)) = 0
      · exact (fFirst_0 c).2
      · rw [if_neg c] at hr; exact absurd hr c
    · rw [if_neg e2] at hr ⊢
      by_cases e3 : f s = nI 109
      · rw [if_pos e3, if_neg (by rw [e3]; decide)]; exact h.mend _
      · rw [if_neg e3] at hr ⊢
        by_cases e4 : f s = nI 116
        · rw [if_pos e4] at hr ⊢
          rw [if_pos e4]
          exact h.join hr
        · rw [if_neg e4] at hr ⊢
          rw [if_neg e4]
          rw [h1.1] at hr
          obtain ⟨⟨i, hi, ei⟩, j, hj, ej⟩ := fChgR_0 (by omega) hr
          rw [ei, ej, nI_clamp (by omega), nI_clamp (by omega)]
          exact h.xch hi hj
def smF (q : Nat) (f : Nat → Int32) (s : Nat) : Option Nat := if q ≤ s then some s else if dgN (f s) = 0 then some s else match innF q f (dgN (f s)) (s + 1) with
  | some i => some i
  | none => if nxF q f (s + 1 + dgN (f s)) = nI 59 then none else some (s + 1 + dgN (f s))
theorem sm_no {q s : Nat} {f : Nat → Int32} (h : nxF q f s ≠ nI 116 ∧ nxF q f s ≠ nI 100 ∧ nxF q f s ≠ nI 109 ∧ nxF q f s ≠ nI 99 ∧ nxF q f s ≠ nI 120) : smF q f s = some s := by
  unfold smF
  by_cases c : q ≤ s
  · rw [if_pos c]
  · rw [if_neg c]
    have e : nxF q f s = f s := if_pos (by omega)
    rw [e] at h
    have : dgN (f s) = 0 := by
      unfold dgN
      rw [if_neg h.2.2.2.1, if_neg h.2.1, if_neg h.2.2.1, if_neg h.1, if_neg h.2.2.2.2]
    rw [if_pos this]
theorem sm_b {q s : Nat} {f : Nat → Int32} {x : Nat} (h : nxF q f s = nI x) (hx : x = 116 ∨ x = 100 ∨ x = 109 ∨ x = 99 ∨ x = 120) : s < q ∧ nxF q f s = f s ∧ dgN (f s) ≠ 0 := by
  by_cases c : s < q
  · have e : nxF q f s = f s := if_pos c
    refine ⟨c, e, ?_⟩
    rw [← e, h]
    rcases hx with rfl | rfl | rfl | rfl | rfl <;> decide
  · have : nxF q f s = Int32.ofInt (-1) := if_neg c
    rw [this] at h
    rcases hx with rfl | rfl | rfl | rfl | rfl <;> exact absurd h (by decide)
theorem m_stm {m : MS} {s : S3} {q c : Nat} {f X Y Z : Nat → Int32} {st : Nat} (ht : tpe m q f) (hc : 3 * c + 2 < 144) (hst : st ≤ 96) {K : Option Value → AH → Prop} (hT : smF q f st = none → ∀ Z2, (∀ j, j < 3 * c → Z2 j = Z j) → TZ f (f st) (st + 1) (3 * c) Z2 → K (some (.int (nI 1))) (mC (pM m (st + dgN (f st) + 2) c (upd X c (f st)) (upd Y c (nI st)) (Z2)) s.1 s.2.2)) (hF : ∀ p X2 Y2 Z2, smF q f st = some p → K (some (.int (nI 0))) (mC (pM m (p) c (X2) (Y2) (Z2)) s.1 s.2.2)) : am_M i_X12_statement [.ref 0] (mC (pM m (st) c (X) (Y) (Z)) s.1 s.2.2) K := by
  refine e_X12_statement [] ?_
  conv => whnf
  refine m_nx ht (by omega) ?_
  refine b_X12_statement [] ?_
  conv => whnf
  refine ⟨fun c8 => ?_, fun c8 => ?_⟩
  · refine b_X12_statement [] ?_
    conv => whnf
    obtain ⟨hsq, hnx, hdg⟩ := sm_b c8 (by decide)
    obtain ⟨d1, d2⟩ := dgB_N (f st)
    rw [hnx]
    refine ⟨(vp_in_nI (show c < 48 by omega) (by decide)), ?_⟩
    rw [show ((pM m st c X Y Z).1 15).toNatClampNeg = c from nI_clamp (by omega)]
    conv => whnf
    refine ⟨(vp_in_nI (show c < 48 by omega) (by decide)), ?_⟩
    rw [show ((pM m st c X Y Z).1 15).toNatClampNeg = c from nI_clamp (by omega)]
    conv => whnf
    rw [show nI 3 * (pM m st c X Y Z).1 15 = nI (3 * c) from nI_mulN 3 c]
    rw [show (pM m st c X Y Z).1 14 + nI 1 = nI (st + 1) from nI_add st 1]
    refine m_ra (m := m) (c := c) (X := upd X c (f st)) (Y := upd Y c (nI st)) (Z := Z) (i := st + 1) (p := 3 * c) ht hc (by omega) hdg (fun g Z2 hz htz => ?_) (fun j Z2 g => ?_)
    rotate_left
    · refine b_X12_statement [] ?_
      conv => whnf
      refine ⟨fun c81 => ?_, fun c81 => absurd (show nI 0 = 0 by decide) c81⟩
      refine b_X12_statement [] ?_
      conv => whnf
      refine ⟨(by first | exact Or.inl nI_0 | exact Or.inr nI_one | assumption), ?_⟩
      exact hF j _ _ Z2 (by unfold smF; rw [if_neg (by omega), if_neg hdg, g])
    refine b_X12_statement [] ?_
    conv => whnf
    refine ⟨fun c81 => absurd c81 (show ¬ nI 1 = 0 by decide), fun c81 => ?_⟩
    conv => whnf
    refine m_nx (m := m) (i := st + 1 + dgN (f st)) ht (by omega) ?_
    refine b_X12_statement [] ?_
    conv => whnf
    refine ⟨fun c90 => ?_, fun c90 => ?_⟩
    · refine b_X12_statement [] ?_
      conv => whnf
      refine ⟨(by first | exact Or.inl nI_0 | exact Or.inr nI_one | assumption), ?_⟩
      have h9 := hT (by unfold smF; rw [if_neg (by omega), if_neg hdg, g]; exact if_pos c90) Z2 hz htz
      rw [show st + dgN (f st) + 2 = st + 1 + dgN (f st) + 1 by omega] at h9
      unfold pM at h9
      rw [← nI_add (st + 1 + dgN (f st)) 1] at h9
      exact h9
    · conv => whnf
      refine ⟨(by first | exact Or.inl nI_0 | exact Or.inr nI_one | assumption), ?_⟩
      exact hF _ _ _ Z2 (by unfold smF; rw [if_neg (by omega), if_neg hdg, g]; exact if_neg c90)
  · conv => whnf
    refine ⟨fun c14 => ?_, fun c14 => ?_⟩
    · refine b_X12_statement [] ?_
      conv => whnf
      obtain ⟨hsq, hnx, hdg⟩ := sm_b c14 (by decide)
      obtain ⟨d1, d2⟩ := dgB_N (f st)
      rw [hnx]
      refine ⟨(vp_in_nI (show c < 48 by omega) (by decide)), ?_⟩
      rw [show ((pM m st c X Y Z).1 15).toNatClampNeg = c from nI_clamp (by omega)]
      conv => whnf
      refine ⟨(vp_in_nI (show c < 48 by omega) (by decide)), ?_⟩
      rw [show ((pM m st c X Y Z).1 15).toNatClampNeg = c from nI_clamp (by omega)]
      conv => whnf
      rw [show nI 3 * (pM m st c X Y Z).1 15 = nI (3 * c) from nI_mulN 3 c]
      rw [show (pM m st c X Y Z).1 14 + nI 1 = nI (st + 1) from nI_add st 1]
      refine m_ra (m := m) (c := c) (X := upd X c (f st)) (Y := upd Y c (nI st)) (Z := Z) (i := st + 1) (p := 3 * c) ht hc (by omega) hdg (fun g Z2 hz htz => ?_) (fun j Z2 g => ?_)
      rotate_left
      · refine b_X12_statement [] ?_
        conv => whnf
        refine ⟨fun c81 => ?_, fun c81 => absurd (show nI 0 = 0 by decide) c81⟩
        refine b_X12_statement [] ?_
        conv => whnf
        refine ⟨(by first | exact Or.inl nI_0 | exact Or.inr nI_one | assumption), ?_⟩
        exact hF j _ _ Z2 (by unfold smF; rw [if_neg (by omega), if_neg hdg, g])
      refine b_X12_statement [] ?_
      conv => whnf
      refine ⟨fun c81 => absurd c81 (show ¬ nI 1 = 0 by decide), fun c81 => ?_⟩
      conv => whnf
      refine m_nx (m := m) (i := st + 1 + dgN (f st)) ht (by omega) ?_
      refine b_X12_statement [] ?_
      conv => whnf
      refine ⟨fun c90 => ?_, fun c90 => ?_⟩
      · refine b_X12_statement [] ?_
        conv => whnf
        refine ⟨(by first | exact Or.inl nI_0 | exact Or.inr nI_one | assumption), ?_⟩
        have h9 := hT (by unfold smF; rw [if_neg (by omega), if_neg hdg, g]; exact if_pos c90) Z2 hz htz
        rw [show st + dgN (f st) + 2 = st + 1 + dgN (f st) + 1 by omega] at h9
        unfold pM at h9
        rw [← nI_add (st + 1 + dgN (f st)) 1] at h9
        exact h9
      · conv => whnf
        refine ⟨(by first | exact Or.inl nI_0 | exact Or.inr nI_one | assumption), ?_⟩
        exact hF _ _ _ Z2 (by unfold smF; rw [if_neg (by omega), if_neg hdg, g]; exact if_neg c90)
    · conv => whnf
      refine ⟨fun c20 => ?_, fun c20 => ?_⟩
      · refine b_X12_statement [] ?_
        conv => whnf
        obtain ⟨hsq, hnx, hdg⟩ := sm_b c20 (by decide)
        obtain ⟨d1, d2⟩ := dgB_N (f st)
        rw [hnx]
        refine ⟨(vp_in_nI (show c < 48 by omega) (by decide)), ?_⟩
        rw [show ((pM m st c X Y Z).1 15).toNatClampNeg = c from nI_clamp (by omega)]
        conv => whnf
        refine ⟨(vp_in_nI (show c < 48 by omega) (by decide)), ?_⟩
        rw [show ((pM m st c X Y Z).1 15).toNatClampNeg = c from nI_clamp (by omega)]
        conv => whnf
        rw [show nI 3 * (pM m st c X Y Z).1 15 = nI (3 * c) from nI_mulN 3 c]
        rw [show (pM m st c X Y Z).1 14 + nI 1 = nI (st + 1) from nI_add st 1]
        refine m_ra (m := m) (c := c) (X := upd X c (f st)) (Y := upd Y c (nI st)) (Z := Z) (i := st + 1) (p := 3 * c) ht hc (by omega) hdg (fun g Z2 hz htz => ?_) (fun j Z2 g => ?_)
        rotate_left
        · refine b_X12_statement [] ?_
          conv => whnf
          refine ⟨fun c81 => ?_, fun c81 => absurd (show nI 0 = 0 by decide) c81⟩
          refine b_X12_statement [] ?_
          conv => whnf
          refine ⟨(by first | exact Or.inl nI_0 | exact Or.inr nI_one | assumption), ?_⟩
          exact hF j _ _ Z2 (by unfold smF; rw [if_neg (by omega), if_neg hdg, g])
        refine b_X12_statement [] ?_
        conv => whnf
        refine ⟨fun c81 => absurd c81 (show ¬ nI 1 = 0 by decide), fun c81 => ?_⟩
        conv => whnf
        refine m_nx (m := m) (i := st + 1 + dgN (f st)) ht (by omega) ?_
        refine b_X12_statement [] ?_
        conv => whnf
        refine ⟨fun c90 => ?_, fun c90 => ?_⟩
        · refine b_X12_statement [] ?_
          conv => whnf
          refine ⟨(by first | exact Or.inl nI_0 | exact Or.inr nI_one | assumption), ?_⟩
          have h9 := hT (by unfold smF; rw [if_neg (by omega), if_neg hdg, g]; exact if_pos c90) Z2 hz htz
          rw [show st + dgN (f st) + 2 = st + 1 + dgN (f st) + 1 by omega] at h9
          unfold pM at h9
          rw [← nI_add (st + 1 + dgN (f st)) 1] at h9
          exact h9
        · conv => whnf
          refine ⟨(by first | exact Or.inl nI_0 | exact Or.inr nI_one | assumption), ?_⟩
          exact hF _ _ _ Z2 (by unfold smF; rw [if_neg (by omega), if_neg hdg, g]; exact if_neg c90)
      · conv => whnf
        refine ⟨fun c26 => ?_, fun c26 => ?_⟩
        · refine b_X12_statement [] ?_
          conv => whnf
          obtain ⟨hsq, hnx, hdg⟩ := sm_b c26 (by decide)
          obtain ⟨d1, d2⟩ := dgB_N (f st)
          rw [hnx]
          refine ⟨(vp_in_nI (show c < 48 by omega) (by decide)), ?_⟩
          rw [show ((pM m st c X Y Z).1 15).toNatClampNeg = c from nI_clamp (by omega)]
          conv => whnf
          refine ⟨(vp_in_nI (show c < 48 by omega) (by decide)), ?_⟩
          rw [show ((pM m st c X Y Z).1 15).toNatClampNeg = c from nI_clamp (by omega)]
          conv => whnf
          rw [show nI 3 * (pM m st c X Y Z).1 15 = nI (3 * c) from nI_mulN 3 c]
          rw [show (pM m st c X Y Z).1 14 + nI 1 = nI (st + 1) from nI_add st 1]
          refine m_ra (m := m) (c := c) (X := upd X c (f st)) (Y := upd Y c (nI st)) (Z := Z) (i := st + 1) (p := 3 * c) ht hc (by omega) hdg (fun g Z2 hz htz => ?_) (fun j Z2 g => ?_)
          rotate_left
          · refine b_X12_statement [] ?_
            conv => whnf
            refine ⟨fun c81 => ?_, fun c81 => absurd (show nI 0 = 0 by decide) c81⟩
            refine b_X12_statement [] ?_
            conv => whnf
            refine ⟨(by first | exact Or.inl nI_0 | exact Or.inr nI_one | assumption), ?_⟩
            exact hF j _ _ Z2 (by unfold smF; rw [if_neg (by omega), if_neg hdg, g])
          refine b_X12_statement [] ?_
          conv => whnf
          refine ⟨fun c81 => absurd c81 (show ¬ nI 1 = 0 by decide), fun c81 => ?_⟩
          conv => whnf
          refine m_nx (m := m) (i := st + 1 + dgN (f st)) ht (by omega) ?_
          refine b_X12_statement [] ?_
          conv => whnf
          refine ⟨fun c90 => ?_, fun c90 => ?_⟩
          · refine b_X12_statement [] ?_
            conv => whnf
            refine ⟨(by first | exact Or.inl nI_0 | exact Or.inr nI_one | assumption), ?_⟩
            have h9 := hT (by unfold smF; rw [if_neg (by omega), if_neg hdg, g]; exact if_pos c90) Z2 hz htz
            rw [show st + dgN (f st) + 2 = st + 1 + dgN (f st) + 1 by omega] at h9
            unfold pM at h9
            rw [← nI_add (st + 1 + dgN (f st)) 1] at h9
            exact h9
          · conv => whnf
            refine ⟨(by first | exact Or.inl nI_0 | exact Or.inr nI_one | assumption), ?_⟩
            exact hF _ _ _ Z2 (by unfold smF; rw [if_neg (by omega), if_neg hdg, g]; exact if_neg c90)
        · conv => whnf
          refine ⟨fun c32 => ?_, fun c32 => ?_⟩
          · refine b_X12_statement [] ?_
            conv => whnf
            obtain ⟨hsq, hnx, hdg⟩ := sm_b c32 (by decide)
            obtain ⟨d1, d2⟩ := dgB_N (f st)
            rw [hnx]
            refine ⟨(vp_in_nI (show c < 48 by omega) (by decide)), ?_⟩
            rw [show ((pM m st c X Y Z).1 15).toNatClampNeg = c from nI_clamp (by omega)]
            conv => whnf
            refine ⟨(vp_in_nI (show c < 48 by omega) (by decide)), ?_⟩
            rw [show ((pM m st c X Y Z).1 15).toNatClampNeg = c from nI_clamp (by omega)]
            conv => whnf
            rw [show nI 3 * (pM m st c X Y Z).1 15 = nI (3 * c) from nI_mulN 3 c]
            rw [show (pM m st c X Y Z).1 14 + nI 1 = nI (st + 1) from nI_add st 1]
            refine m_ra (m := m) (c := c) (X := upd X c (f st)) (Y := upd Y c (nI st)) (Z := Z) (i := st + 1) (p := 3 * c) ht hc (by omega) hdg (fun g Z2 hz htz => ?_) (fun j Z2 g => ?_)
            rotate_left
            · refine b_X12_statement [] ?_
              conv => whnf
              refine ⟨fun c81 => ?_, fun c81 => absurd (show nI 0 = 0 by decide) c81⟩
              refine b_X12_statement [] ?_
              conv => whnf
              refine ⟨(by first | exact Or.inl nI_0 | exact Or.inr nI_one | assumption), ?_⟩
              exact hF j _ _ Z2 (by unfold smF; rw [if_neg (by omega), if_neg hdg, g])
            refine b_X12_statement [] ?_
            conv => whnf
            refine ⟨fun c81 => absurd c81 (show ¬ nI 1 = 0 by decide), fun c81 => ?_⟩
            conv => whnf
            refine m_nx (m := m) (i := st + 1 + dgN (f st)) ht (by omega) ?_
            refine b_X12_statement [] ?_
            conv => whnf
            refine ⟨fun c90 => ?_, fun c90 => ?_⟩
            · refine b_X12_statement [] ?_
              conv => whnf
              refine ⟨(by first | exact Or.inl nI_0 | exact Or.inr nI_one | assumption), ?_⟩
              have h9 := hT (by unfold smF; rw [if_neg (by omega), if_neg hdg, g]; exact if_pos c90) Z2 hz htz
              rw [show st + dgN (f st) + 2 = st + 1 + dgN (f st) + 1 by omega] at h9
              unfold pM at h9
              rw [← nI_add (st + 1 + dgN (f st)) 1] at h9
              exact h9
            · conv => whnf
              refine ⟨(by first | exact Or.inl nI_0 | exact Or.inr nI_one | assumption), ?_⟩
              exact hF _ _ _ Z2 (by unfold smF; rw [if_neg (by omega), if_neg hdg, g]; exact if_neg c90)
          · conv => whnf
            refine ⟨(by first | exact Or.inl nI_0 | exact Or.inr nI_one | assumption), ?_⟩
            exact hF st _ _ _ (sm_no ⟨c8, c14, c20, c26, c32⟩)
