/-! both answer the same, call by call -/
theorem inv_now {a : Ab} {w : WS} (h : Inv a) (hw : wG w) : Inv (nowA a w) := by
  obtain ⟨h1, h2, h3, h4, h5, h6, h7⟩ := h
  have e : ∀ j, j ≠ 0 → va_up a.1 0 w j = a.1 j := fun j hj => if_neg hj
  refine ⟨hw, h2, fun z => ?_, h4, h5, h6, fun k hk => ?_⟩
  · show wG (va_up a.1 0 w 1)
    rw [e 1 (by omega)]; exact h3 z
  · show wG (va_up a.1 0 w (2 + k))
    rw [e _ (by omega)]; exact h7 k hk
theorem inv_fg {a : Ab} {k : Nat} (h : Inv a) (hk : k ≤ a.2.2 3) : Inv (fgA a k) := by
  obtain ⟨h1, h2, h3, h4, h5, h6, h7⟩ := h
  exact ⟨h1, h2, h3, h4, h5, Nat.le_trans hk h6, fun j hj => h7 j (Nat.lt_of_lt_of_le hj hk)⟩
theorem inv_row {a : Ab} {r : Nat} {f : Nat → Int32} (h : Inv a) (hr : r ≤ 12) : Inv (rowA a r f) := by
  obtain ⟨h1, h2, h3, h4, h5, h6, h7⟩ := h
  exact ⟨h1, h2, h3, hr, h5, h6, h7⟩
theorem inv_let {a : Ab} {q : Nat} {f : Nat → Int32} (h : Inv a) (hq : q ≤ 96) : Inv (letA a q f) := by
  obtain ⟨h1, h2, h3, h4, h5, h6, h7⟩ := h
  exact ⟨h1, h2, h3, h4, hq, h6, h7⟩
theorem inv_img {a : Ab} {w : WS} (h : Inv a) (hw : wG w) : Inv (imgA a w) := by
  obtain ⟨h1, h2, h3, h4, h5, h6, h7⟩ := h
  have e : ∀ j, j ≠ 1 → va_up a.1 1 w j = a.1 j := fun j hj => if_neg hj
  refine ⟨?_, Nat.le_refl 1, fun _ => ?_, h4, h5, h6, fun k hk => ?_⟩
  · show wG (va_up a.1 1 w 0)
    rw [e 0 (by omega)]; exact h1
  · show wG (va_up a.1 1 w 1)
    rw [show va_up a.1 1 w 1 = w from if_pos rfl]; exact hw
  · show wG (va_up a.1 1 w (2 + k))
    rw [e _ (by omega)]; exact h7 k hk
theorem inv_kp {a : Ab} {w : WS} (h : Inv a) (hw : wG w) : Inv (kpA a w) := by
  obtain ⟨h1, h2, h3, h4, h5, h6, h7⟩ := h
  refine ⟨h1, h2, h3, h4, h5, Nat.min_le_right _ _, fun k hk => ?_⟩
  have hk : k < min (a.2.2 3 + 1) 8 := hk
  show wG (if 2 + k < 2 then a.1 (2 + k) else hst (fun k => a.1 (2 + k)) (a.2.2 3) w (2 + k - 2))
  rw [if_neg (by omega), Nat.add_sub_cancel_left]
  unfold hst
  by_cases c : a.2.2 3 < 8
  · rw [if_pos c]
    by_cases d : k = a.2.2 3
    · rw [if_pos d]; exact hw
    · rw [if_neg d]; exact h7 k (by omega)
  · rw [if_neg c]
    by_cases d : k = 7
    · rw [if_pos d]; exact hw
    · rw [if_neg d]; exact h7 (k + 1) (by omega)
theorem inv_vE {a : Ab} {x : Int32} (h : Inv a) : Inv (vE a x) := by
  unfold vE
  by_cases c : x ≤ 0
  · rw [if_pos c]; exact inv_let h (by omega)
  · rw [if_neg c]; exact inv_fg (inv_let h (by omega)) (Nat.zero_le _)
theorem com_G {q : Nat} {f : Nat → Int32} : ∀ (k : Nat) (w : WS) (n c s : Nat) (m2 : WS), wGn w n → (comF q f k w n c s).2 = some m2 → ∃ n2, wGn m2 n2 := by
  intro k
  induction k with
  | zero => intro w n c s m2 h e; cases e; exact ⟨n, h⟩
  | succ k ih =>
    intro w n c s m2 h e
    rw [comF] at e
    by_cases d : q ≤ s
    · rw [if_pos d] at e; cases e; exact ⟨n, h⟩
    · rw [if_neg d] at e
      by_cases g : refF w (nI q) f s = 0
      · rw [if_pos g] at e; exact ih _ _ _ _ _ (h.act g) e
      · rw [if_neg g] at e; cases e
theorem nth_t {n : Nat} {t x : Int32} (hn : n ≤ 8) (ht : t = nI n) (h : fNoTh t x = 0) : x.toNatClampNeg < n := by
  obtain ⟨j, hj, e⟩ := fNoTh_0 (n := n) (by omega) (by rw [← ht]; exact h)
  rw [e, nI_clamp (by omega)]; exact hj
/-- one call, told of both -/
def PR {α : Type} (mk : α → Value) (k1 k2 : Nat) (xs : List Value) : Prop := ∀ (a : Ab) (H : AH), Inv a → CR a H → am_M k1 (.ref 0 :: xs) H (fun r H2 => ∃ a2, Inv a2 ∧ CR a2 H2 ∧ (∃ z, r = some (mk z)) ∧ ∀ (m : MS) (s : S3), MR a m → am_M k2 (.ref 0 :: xs) (mC m s.1 s.2.2) (fun r2 H3 => r2 = r ∧ ∃ (m2 : MS) (s2 : S3), MR a2 m2 ∧ H3 = mC m2 s2.1 s2.2.2))
theorem pr_thingOf {x c : Int32} : PR Value.int i_X11_thingOf i_X12_thingOf [.int x, .int c] := fun a H hI hC => c_thingOf hI hC (fun H2 hC2 => ⟨_, hI.qB, hC2, ⟨_, rfl⟩, fun m s hM => m_thingOf hI hM (fun m2 s2 h2 => ⟨rfl, m2, s2, h2, rfl⟩)⟩)
theorem pr_place {x c : Int32} : PR Value.int i_X11_place i_X12_place [.int x, .int c] := fun a H hI hC => c_place hI hC (fun H2 hC2 => ⟨_, hI.qB, hC2, ⟨_, rfl⟩, fun m s hM => m_place hI hM (fun m2 s2 h2 => ⟨rfl, m2, s2, h2, rfl⟩)⟩)
theorem pr_gets {x v y c : Int32} : PR Value.int i_X11_gets i_X12_gets [.int x, .int v, .int y, .int c] := fun a H hI hC => c_gets hI hC (fun H2 hC2 => ⟨_, hI.qB, hC2, ⟨_, rfl⟩, fun m s hM => m_gets hI hM (fun m2 s2 h2 => ⟨rfl, m2, s2, h2, rfl⟩)⟩)
theorem pr_blow {x v c : Int32} : PR Value.int i_X11_blow i_X12_blow [.int x, .int v, .int c] := fun a H hI hC => c_blow hI hC (fun H2 hC2 => ⟨_, hI.qB, hC2, ⟨_, rfl⟩, fun m s hM => m_blow hI hM (fun m2 s2 h2 => ⟨rfl, m2, s2, h2, rfl⟩)⟩)
theorem pr_reaches {x y : Int32} : PR Value.int i_X11_reaches i_X12_reaches [.int x, .int y] := fun a H hI hC => c_reaches hI hC (fun H2 hC2 => ⟨_, hI.qB, hC2, ⟨_, rfl⟩, fun m s hM => m_reaches hI hM (fun m2 s2 h2 => ⟨rfl, m2, s2, h2, rfl⟩)⟩)
theorem pr_breaks {x y : Int32} : PR Value.int i_X11_breaks i_X12_breaks [.int x, .int y] := fun a H hI hC => c_breaks hI hC (fun H2 hC2 => ⟨_, hI.qB, hC2, ⟨_, rfl⟩, fun m s hM => m_breaks hI hM (fun m2 s2 h2 => ⟨rfl, m2, s2, h2, rfl⟩)⟩)
theorem pr_harm {x c : Int32} : PR Value.int i_X11_harm i_X12_harm [.int x, .int c] := fun a H hI hC => c_harm hI hC (fun H2 hC2 => ⟨_, hI.qB, hC2, ⟨_, rfl⟩, fun m s hM => m_harm hI hM (fun m2 s2 h2 => ⟨rfl, m2, s2, h2, rfl⟩)⟩)
theorem pr_tap {x : Int32} : PR Value.int i_X11_tap i_X12_tap [.int x] := fun a H hI hC => c_tap hI hC (fun H2 hC2 => ⟨_, hI.qB, hC2, ⟨_, rfl⟩, fun m s hM => m_tap hI hM (fun m2 s2 h2 => ⟨rfl, m2, s2, h2, rfl⟩)⟩)
theorem pr_who {c : Int32} : PR Value.int i_X11_who i_X12_who [.int c] := fun a H hI hC => c_who hI hC (fun H2 hC2 => ⟨_, hI.qB, hC2, ⟨_, rfl⟩, fun m s hM => m_who hI hM (fun m2 s2 h2 => ⟨rfl, m2, s2, h2, rfl⟩)⟩)
theorem pr_whatKind {x v y c : Int32} : PR Value.int i_X11_whatKind i_X12_whatKind [.int x, .int v, .int y, .int c] := fun a H hI hC => c_whatKind hI hC (fun H2 hC2 => ⟨_, hI.qB, hC2, ⟨_, rfl⟩, fun m s hM => m_whatKind hI hM (fun m2 s2 h2 => ⟨rfl, m2, s2, h2, rfl⟩)⟩)
theorem pr_worst {v c : Int32} : PR Value.int i_X11_worst i_X12_worst [.int v, .int c] := fun a H hI hC => c_worst hI hC (fun H2 hC2 => ⟨_, hI.qB, hC2, ⟨_, rfl⟩, fun m s hM => m_worst hI hM (fun m2 s2 h2 => ⟨rfl, m2, s2, h2, rfl⟩)⟩)
theorem pr_bestCut {v c : Int32} : PR Value.int i_X11_bestCut i_X12_bestCut [.int v, .int c] := fun a H hI hC => c_bestCut hI hC (fun H2 hC2 => ⟨_, hI.qB, hC2, ⟨_, rfl⟩, fun m s hM => m_bestCut hI hM (fun m2 s2 h2 => ⟨rfl, m2, s2, h2, rfl⟩)⟩)
theorem pr_woman {v c : Int32} : PR Value.int i_X11_woman i_X12_woman [.int v, .int c] := fun a H hI hC => c_woman hI hC (fun H2 hC2 => ⟨_, hI.qB, hC2, ⟨_, rfl⟩, fun m s hM => m_woman hI hM (fun m2 s2 h2 => ⟨rfl, m2, s2, h2, rfl⟩)⟩)
theorem pr_lasts {v : Int32} : PR Value.int i_X11_lasts i_X12_lasts [.int v] := fun a H hI hC => c_lasts hI hC (fun H2 hC2 => ⟨_, hI.qB, hC2, ⟨_, rfl⟩, fun m s hM => m_lasts hI hM (fun m2 s2 h2 => ⟨rfl, m2, s2, h2, rfl⟩)⟩)
theorem pr_left {v i : Int32} : PR Value.int i_X11_left i_X12_left [.int v, .int i] := fun a H hI hC => c_left hI hC (fun H2 hC2 => ⟨_, hI.qB, hC2, ⟨_, rfl⟩, fun m s hM => m_left hI hM (fun m2 s2 h2 => ⟨rfl, m2, s2, h2, rfl⟩)⟩)
theorem pr_chance {x y v i q c : Int32} : PR Value.long i_X11_chance i_X12_chance [.int x, .int y, .int v, .int i, .int q, .int c] := fun a H hI hC => c_chance hI hC (fun H2 hC2 => ⟨_, hI.qB, hC2, ⟨_, rfl⟩, fun m s hM => m_chance hI hM (fun m2 s2 h2 => ⟨rfl, m2, s2, h2, rfl⟩)⟩)
theorem pr_twins {v : Int32} : PR Value.int i_X11_twins i_X12_twins [.int v] := fun a H hI hC => c_twins hI hC (fun H2 hC2 => ⟨_, hI.qB, hC2, ⟨_, rfl⟩, fun m s hM => m_twins hI hM (fun m2 s2 h2 => ⟨rfl, m2, s2, h2, rfl⟩)⟩)
theorem pr_hum {v c : Int32} : PR Value.int i_X11_hum i_X12_hum [.int v, .int c] := fun a H hI hC => c_hum hI hC (fun H2 hC2 => ⟨_, hI.qB, hC2, ⟨_, rfl⟩, fun m s hM => m_hum hI hM (fun m2 s2 h2 => ⟨rfl, m2, s2, h2, rfl⟩)⟩)
theorem pr_apart {x y : Int32} : PR Value.int i_X11_apart i_X12_apart [.int x, .int y] := fun a H hI hC => c_apart hI hC (fun H2 hC2 => ⟨_, hI.qB, hC2, ⟨_, rfl⟩, fun m s hM => m_apart hI hM (fun m2 s2 h2 => ⟨rfl, m2, s2, h2, rfl⟩)⟩)
theorem pr_heaps : PR Value.int i_X11_heaps i_X12_heaps [] := fun a H hI hC => c_heaps hI hC (fun H2 hC2 => ⟨_, hI, hC2, ⟨_, rfl⟩, fun m s hM => m_heaps hI hM ⟨rfl, m, s, hM, rfl⟩⟩)
theorem pr_codes {x y : Int32} : PR Value.int i_X11_codes i_X12_codes [.int x, .int y] := fun a H hI hC => c_codes hI hC (fun H2 hC2 => ⟨_, hI.qB, hC2, ⟨_, rfl⟩, fun m s hM => m_codes hI hM (fun m2 s2 h2 => ⟨rfl, m2, s2, h2, rfl⟩)⟩)
theorem pr_secret {x y z : Int32} : PR Value.int i_X11_secret i_X12_secret [.int x, .int y, .int z] := fun a H hI hC => c_secret hI hC (fun H2 hC2 => ⟨_, hI.qB, hC2, ⟨_, rfl⟩, fun m s hM => m_secret hI hM (fun m2 s2 h2 => ⟨rfl, m2, s2, h2, rfl⟩)⟩)
theorem pr_tough {x : Int32} : PR Value.int i_X11_tough i_X12_tough [.int x] := fun a H hI hC => c_tough hI hC (fun H2 hC2 => ⟨_, hI.qB, hC2, ⟨_, rfl⟩, fun m s hM => m_tough hI hM (fun m2 s2 h2 => ⟨rfl, m2, s2, h2, rfl⟩)⟩)
theorem pr_centre {v c : Int32} : PR Value.int i_X11_centre i_X12_centre [.int v, .int c] := fun a H hI hC => c_centre hI hC (fun H2 hC2 => ⟨_, hI.qB, hC2, ⟨_, rfl⟩, fun m s hM => m_centre hI hM (fun m2 s2 h2 => ⟨rfl, m2, s2, h2, rfl⟩)⟩)
theorem pr_bestMend {x v : Int32} : PR Value.int i_X11_bestMend i_X12_bestMend [.int x, .int v] := fun a H hI hC => c_bestMend hI hC (fun H2 hC2 => ⟨_, hI.qB, hC2, ⟨_, rfl⟩, fun m s hM => m_bestMend hI hM (fun m2 s2 h2 => ⟨rfl, m2, s2, h2, rfl⟩)⟩)
theorem pr_bestFigure {x y v : Int32} : PR Value.int i_X11_bestFigure i_X12_bestFigure [.int x, .int y, .int v] := fun a H hI hC => c_bestFigure hI hC (fun H2 hC2 => ⟨_, hI.qB, hC2, ⟨_, rfl⟩, fun m s hM => m_bestFigure hI hM (fun m2 s2 h2 => ⟨rfl, m2, s2, h2, rfl⟩)⟩)
theorem pr_domino {v : Int32} : PR Value.int i_X11_domino i_X12_domino [.int v] := fun a H hI hC => c_domino hI hC (fun H2 hC2 => ⟨_, hI.qB, hC2, ⟨_, rfl⟩, fun m s hM => m_domino hI hM (fun m2 s2 h2 => ⟨rfl, m2, s2, h2, rfl⟩)⟩)
theorem pr_longest {c : Int32} : PR Value.int i_X11_longest i_X12_longest [.int c] := fun a H hI hC => c_longest hI hC (fun H2 hC2 => ⟨_, hI.qB, hC2, ⟨_, rfl⟩, fun m s hM => m_longest hI hM (fun m2 s2 h2 => ⟨rfl, m2, s2, h2, rfl⟩)⟩)
theorem pr_spared {v : Int32} : PR Value.int i_X11_spared i_X12_spared [.int v] := fun a H hI hC => c_spared hI hC (fun H2 hC2 => ⟨_, hI.qB, hC2, ⟨_, rfl⟩, fun m s hM => m_spared hI hM (fun m2 s2 h2 => ⟨rfl, m2, s2, h2, rfl⟩)⟩)
theorem pr_mutual {v : Int32} : PR Value.int i_X11_mutual i_X12_mutual [.int v] := fun a H hI hC => c_mutual hI hC (fun H2 hC2 => ⟨_, hI.qB, hC2, ⟨_, rfl⟩, fun m s hM => m_mutual hI hM (fun m2 s2 h2 => ⟨rfl, m2, s2, h2, rfl⟩)⟩)
theorem pr_lots {i z9 c : Int32} : PR Value.int i_X11_lots i_X12_lots [.int i, .int z9, .int c] := fun a H hI hC => c_lots hI hC (fun H2 hC2 => ⟨_, hI.qB, hC2, ⟨_, rfl⟩, fun m s hM => m_lots hI hM (fun m2 s2 h2 => ⟨rfl, m2, s2, h2, rfl⟩)⟩)
theorem pr_count {c : Int32} : PR Value.int i_X11_count i_X12_count [.int c] := fun a H hI hC => c_count hI hC (fun H2 hC2 => ⟨_, hI, hC2, ⟨_, rfl⟩, fun m s hM => m_count hI hM ⟨rfl, m, s, hM, rfl⟩⟩)
theorem pr_feed {x : Int32} : PR Value.int i_X11_feed i_X12_feed [.int x] := fun a H hI hC => c_feed hI hC (fun hr H2 hC2 => ⟨_, hI.qB, hC2, ⟨_, rfl⟩, fun m s hM => m_feed hI hM (fun _ m2 s2 h2 => ⟨rfl, m2, s2, h2, rfl⟩) (fun z => absurd z hr)⟩) (fun hr H2 hC2 => ⟨_, inv_let hI ((nI_leI (by have := hI.2.2.2.2.1; omega) (by decide)).mp (by have h9 := fAbove_0 (fFirst_0 hr).2; rw [nI_add] at h9; exact h9)), hC2, ⟨_, rfl⟩, fun m s hM => m_feed hI hM (fun z => absurd hr z) (fun _ m2 s2 h2 => ⟨rfl, m2, s2, h2, rfl⟩)⟩)
theorem pr_row {x : Int32} : PR Value.int i_X11_row i_X12_row [.int x] := fun a H hI hC => c_row hI hC (fun hr H2 hC2 => ⟨_, hI.qB, hC2, ⟨_, rfl⟩, fun m s hM => m_row hI hM (fun _ m2 s2 h2 => ⟨rfl, m2, s2, h2, rfl⟩) (fun z => absurd z hr)⟩) (fun hr H2 hC2 => ⟨_, inv_row hI ((nI_leI (by have := hI.2.2.2.1; omega) (by decide)).mp (by have h9 := fAbove_0 (fFirst_0 hr).2; rw [nI_add] at h9; exact h9)), hC2, ⟨_, rfl⟩, fun m s hM => m_row hI hM (fun z => absurd hr z) (fun _ m2 s2 h2 => ⟨rfl, m2, s2, h2, rfl⟩)⟩)
theorem pr_thing {k f b : Int32} : PR Value.int i_X11_thing i_X12_thing [.int k, .int f, .int b] := fun a H hI hC => c_thing hI hC (fun hr H2 hC2 => ⟨_, hI.qB, hC2, ⟨_, rfl⟩, fun m s hM => m_thing hI hM (fun _ m2 s2 h2 => ⟨rfl, m2, s2, h2, rfl⟩) (fun z => absurd z hr)⟩) (fun hr H2 hC2 => ⟨_, inv_fg (inv_now hI (hI.1.n.join hr).G) (Nat.zero_le _), hC2, ⟨_, rfl⟩, fun m s hM => m_thing hI hM (fun z => absurd hr z) (fun _ m2 s2 h2 => ⟨rfl, m2, s2, h2, rfl⟩)⟩)
theorem pr_drops {x v : Int32} : PR Value.int i_X11_drops i_X12_drops [.int x, .int v] := fun a H hI hC => c_drops hI hC (fun hr H2 hC2 => ⟨_, hI.qB, hC2, ⟨_, rfl⟩, fun m s hM => m_drops hI hM (wEq_rf _) (fun _ m2 s2 h2 => ⟨rfl, m2, s2, h2, rfl⟩) (fun z => absurd z hr)⟩) (fun hr w2 hw2 H2 hC2 => ⟨_, inv_now (inv_kp hI (hI.1.eq hw2)) (hI.1.n.drop (hI.1.1.2.2.2 _ (nth_t hI.n8 hI.n (fDropR_all hr).1)).2.1 (fDropR_all hr).2.2.1).G, hC2, ⟨_, rfl⟩, fun m s hM => m_drops hI hM hw2 (fun z => absurd hr z) (fun _ m2 s2 h2 => ⟨rfl, m2, s2, h2, rfl⟩)⟩)
theorem pr_mends {x : Int32} : PR Value.int i_X11_mends i_X12_mends [.int x] := fun a H hI hC => c_mends hI hC (fun hr H2 hC2 => ⟨_, hI.qB, hC2, ⟨_, rfl⟩, fun m s hM => m_mends hI hM (wEq_rf _) (fun _ m2 s2 h2 => ⟨rfl, m2, s2, h2, rfl⟩) (fun z => absurd z hr)⟩) (fun hr w2 hw2 H2 hC2 => ⟨_, inv_now (inv_kp hI (hI.1.eq hw2)) (hI.1.n.mend _).G, hC2, ⟨_, rfl⟩, fun m s hM => m_mends hI hM hw2 (fun z => absurd hr z) (fun _ m2 s2 h2 => ⟨rfl, m2, s2, h2, rfl⟩)⟩)
theorem pr_cuts {x : Int32} : PR Value.int i_X11_cuts i_X12_cuts [.int x] := fun a H hI hC => c_cuts hI hC (fun hr H2 hC2 => ⟨_, hI.qB, hC2, ⟨_, rfl⟩, fun m s hM => m_cuts hI hM (wEq_rf _) (fun _ m2 s2 h2 => ⟨rfl, m2, s2, h2, rfl⟩) (fun z => absurd z hr)⟩) (fun hr w2 hw2 H2 hC2 => ⟨_, inv_now (inv_kp hI (hI.1.eq hw2)) (hI.1.n.cut _).G, hC2, ⟨_, rfl⟩, fun m s hM => m_cuts hI hM hw2 (fun z => absurd hr z) (fun _ m2 s2 h2 => ⟨rfl, m2, s2, h2, rfl⟩)⟩)
theorem pr_changes {x y : Int32} : PR Value.int i_X11_changes i_X12_changes [.int x, .int y] := fun a H hI hC => c_changes hI hC (fun hr H2 hC2 => ⟨_, hI.qB, hC2, ⟨_, rfl⟩, fun m s hM => m_changes hI hM (wEq_rf _) (fun _ m2 s2 h2 => ⟨rfl, m2, s2, h2, rfl⟩) (fun z => absurd z hr)⟩) (fun hr w2 hw2 H2 hC2 => ⟨_, inv_now (inv_kp hI (hI.1.eq hw2)) (hI.1.n.xch (nth_t hI.n8 hI.n (fChgR_all hr).1) (nth_t hI.n8 hI.n (fChgR_all hr).2.1)).G, hC2, ⟨_, rfl⟩, fun m s hM => m_changes hI hM hw2 (fun z => absurd hr z) (fun _ m2 s2 h2 => ⟨rfl, m2, s2, h2, rfl⟩)⟩)
theorem pr_back : PR Value.int i_X11_back i_X12_back [] := fun a H hI hC => c_back hI hC (fun hr H2 hC2 => ⟨_, hI.qB, hC2, ⟨_, rfl⟩, fun m s hM => m_back (w2 := a.1 0) hI hM (fun _ m2 s2 h2 => ⟨rfl, m2, s2, h2, rfl⟩) (fun z => absurd hr z)⟩) (fun hr w2 hw2 H2 hC2 => ⟨_, inv_fg (inv_now hI ((hI.2.2.2.2.2.2 _ (by omega)).eq hw2)) (Nat.sub_le _ _), hC2, ⟨_, rfl⟩, fun m s hM => m_back hI hM (fun z => absurd z hr) (fun _ => ⟨hw2, fun m2 s2 h2 => ⟨rfl, m2, s2, h2, rfl⟩⟩)⟩)
theorem pr_restore : PR Value.int i_X11_restore i_X12_restore [] := fun a H hI hC => c_restore hI hC (fun hr H2 hC2 => ⟨_, hI.qB, hC2, ⟨_, rfl⟩, fun m s hM => m_restore (w2 := a.1 0) hI hM (fun _ m2 s2 h2 => ⟨rfl, m2, s2, h2, rfl⟩) (fun z => absurd hr z)⟩) (fun hr w2 hw2 H2 hC2 => ⟨_, inv_fg (inv_now hI ((hI.2.2.1 (by have := hI.2.1; omega)).eq hw2)) (Nat.zero_le _), hC2, ⟨_, rfl⟩, fun m s hM => m_restore hI hM (fun z => absurd z hr) (fun _ => ⟨hw2, fun m2 s2 h2 => ⟨rfl, m2, s2, h2, rfl⟩⟩)⟩)
theorem pr_judge : PR Value.int i_X11_judge i_X12_judge [] := fun a H hI hC => c_judge hI hC (fun H2 hC2 => ⟨_, inv_row hI (Nat.zero_le _), hC2, ⟨_, rfl⟩, fun m s hM => m_judge hI hM (fun m2 s2 h2 => ⟨rfl, m2, s2, h2, rfl⟩)⟩)
theorem pr_clear : PR Value.int i_X11_clear i_X12_clear [] := fun a H hI hC => c_clear hI hC (fun H2 hC2 => ⟨_, inv_row hI (Nat.zero_le _), hC2, ⟨_, rfl⟩, fun m s hM => m_clear hI hM (fun m2 s2 h2 => ⟨rfl, m2, s2, h2, rfl⟩)⟩)
theorem pr_image : PR Value.int i_X11_image i_X12_image [] := fun a H hI hC => c_image hI hC (fun w2 hw2 H2 hC2 => ⟨_, inv_img hI (hI.1.eq hw2), hC2, ⟨_, rfl⟩, fun m s hM => m_image hI hM hw2 (fun m2 s2 h2 => ⟨rfl, m2, s2, h2, rfl⟩)⟩)
theorem pr_order {v i : Int32} : PR Value.int i_X11_order i_X12_order [.int v, .int i] := fun a H hI hC => c_order hI hC (fun w2 f R hw2 hR H2 hC2 => ⟨_, hI.qB, hC2, ⟨_, rfl⟩, fun m s hM => m_order hI hM hw2 hR (fun m2 s2 h2 => ⟨rfl, m2, s2, h2, rfl⟩)⟩)
theorem pr_walk {i : Int32} : PR Value.int i_X11_walk i_X12_walk [.int i] := fun a H hI hC => c_walk hI hC (fun f g r d hr hd H2 hC2 => ⟨_, hI.qB, hC2, ⟨_, rfl⟩, fun m s hM => m_walk hI hM hr hd (fun m2 s2 h2 => ⟨rfl, m2, s2, h2, rfl⟩)⟩)
theorem pr_valley : PR Value.int i_X11_valley i_X12_valley [] := fun a H hI hC => c_valley hI hC (fun z H2 hC2 => ⟨_, inv_vE hI, hC2, ⟨_, rfl⟩, fun m s hM => m_valley hI hM (wEq_rf _) (fun _ m2 s2 h2 => ⟨rfl, m2, s2, h2, rfl⟩) (fun e => absurd e z) (fun e => absurd e z)⟩) (fun z w2 hw2 hn H2 hC2 => ⟨_, inv_vE hI, hC2, ⟨_, rfl⟩, fun m s hM => m_valley hI hM hw2 (fun e => absurd z e) (fun _ _ m2 s2 h2 => ⟨rfl, m2, s2, h2, rfl⟩) (fun _ x2 hx => by rw [hn] at hx; cases hx)⟩) (fun z w2 x2 w3 hw2 hs hw3 H2 hC2 => ⟨_, inv_vE (inv_now hI (by obtain ⟨n2, g2⟩ := com_G _ _ _ _ _ _ (hI.1.n.eq hw2) hs; exact g2.G.eq hw3)), hC2, ⟨_, rfl⟩, fun m s hM => m_valley hI hM hw2 (fun e => absurd z e) (fun _ hn => by rw [hs] at hn; cases hn) (fun _ y2 hy m2 s2 h2 => ⟨rfl, m2, s2, h2 w3 (by rw [hs] at hy; cases hy; exact hw3), rfl⟩)⟩)
