/-! the frame rule for a family of ends; strike, copy, drop at places of their own -/
theorem am_frZ {Z : Type} {P : Z → Prop} {r0 : Z → Option Value} {h2 : Z → AH} (ps : List Nat) {id : Nat} {aa aaB : List Value} {h H : AH} {K2 : Option Value → AH → Prop} (hm : ∀ K : Option Value → AH → Prop, (∀ z, P z → K (r0 z) (h2 z)) → am_M id aa h K) (haa : am_rS (am_pl ps) aa = aaB) (hnd : am_ndp ps = true) (hc : am_cut ps H ps h) (hl : ∀ z, (h2 z).length = h.length) (hk : ∀ z, P z → am_psK ps ps (h2 z) H (fun H2 => am_oK ps (r0 z) (fun r => K2 r H2))) : am_M id aaB H K2 := by
  subst haa
  have hnd2 := am_ndp_sp ps hnd
  have hpl : ∀ i p, ps[i]? = some p → am_pl ps i = p := by
    intro i p hp
    rw [am_pl, nth_eq, hp]
    rfl
  have hin : ∀ i, i < h.length → ∃ p, ps[i]? = some p ∧ am_pl ps i = p := by
    intro i hi
    obtain ⟨p, h1, -⟩ := am_cut_sp ps h hc i _ (List.getElem?_eq_getElem hi)
    exact ⟨p, h1, hpl i p h1⟩
  refine am_frameM (f := am_pl ps) ?_ ?_ (hm (fun r h3 => ∃ z, P z ∧ r = r0 z ∧ h3 = h2 z) (fun z hz => ⟨z, hz, rfl, rfl⟩)) ?_
  · intro i j hi hj hij
    obtain ⟨p, h1, h3⟩ := hin i hi
    obtain ⟨p2, h4, h5⟩ := hin j hj
    have : p = p2 := by rw [← h3, ← h5, hij]
    subst this
    exact hnd2 i j p h1 h4
  · intro i c hic
    obtain ⟨p, h1, h3⟩ := am_cut_sp ps h hc i c hic
    rw [hpl i p h1]
    exact h3
  · rintro r h3 H2 ⟨z, hPz, rfl, rfl⟩ hl3 he ho
    have hz := am_oK_sp (k := fun r => K2 r (am_pst ps ((h2 z).map (am_rc (am_pl ps))) H)) (am_psK_sp ps (h2 z) H _ (hk z hPz))
    have hH : H2 = am_pst ps ((h2 z).map (am_rc (am_pl ps))) H := by
      apply List.ext_getElem?
      intro j
      by_cases hj : ∃ i, i < h.length ∧ am_pl ps i = j
      · obtain ⟨i, hi, rfl⟩ := hj
        obtain ⟨p, h1, h5⟩ := hin i hi
        have hc3 : (h2 z)[i]? = some ((h2 z)[i]'(by rw [hl]; exact hi)) := List.getElem?_eq_getElem _
        rw [he i _ hc3, h5]
        refine (am_pst_in ps _ H i p _ hnd2 h1 (by rw [List.getElem?_map, hc3]; rfl) ?_).symm
        obtain ⟨p2, h6, h7⟩ := am_cut_sp ps h hc i _ (List.getElem?_eq_getElem hi)
        rw [h1] at h6
        cases h6
        exact (List.getElem?_eq_some_iff.mp h7).1
      · rw [ho.2 j (fun i hi y => hj ⟨i, hi, y⟩), am_pst_out ps _ H j (fun i hi y => hj ⟨i, by simpa [hl] using hi, hpl i j y⟩)]
    rw [hH]
    exact hz
def sAg (s b : S3) : Prop := ag8 s.1 b.1 ∧ s.2 = b.2
theorem f_strike {w : WS} {n t : Nat} {A P : Nat → Nat} {v : Int32} {s : S3} {H : AH} {b1 b2 : Nat} {K : Option Value → AH → Prop} (ps : List Nat) (hw : wOk w n A P) (ht : t < n) (hnd : am_ndp ps = true) (h1 : am_pl ps 0 = b1) (h2 : am_pl ps 2 = b2) (hc : am_cut ps H ps (uC 0 s ++ wC 2 w)) (hk : ∀ s2, sAg s2 (blw w n (P t) v) → am_psK ps ps (uC 0 s2 ++ wC 2 w) H (fun H2 => K none H2)) : am_M i_X9_strike [.ref b1, .ref b2, .int (nI t), .int v] H K := by
  subst h1; subst h2
  exact am_frZ (Z := S3) (P := fun s2 => sAg s2 (blw w n (P t) v)) (r0 := fun _ => none) (h2 := fun s2 => uC 0 s2 ++ wC 2 w) ps (fun K hK => s_strike hw ht (fun g hg => hK (g, (blw w n (P t) v).2) ⟨hg, rfl⟩)) rfl hnd hc (fun _ => rfl) (fun s2 hs => hk s2 hs)
theorem f_copy {w v : WS} {H : AH} {b1 b2 : Nat} {K : Option Value → AH → Prop} (ps : List Nat) (hnd : am_ndp ps = true) (h1 : am_pl ps 0 = b1) (h2 : am_pl ps 6 = b2) (hc : am_cut ps H ps (wC 0 w ++ wC 6 v)) (hk : ∀ w2, wEq w2 v → am_psK ps ps (wC 0 w2 ++ wC 6 v) H (fun H2 => K none H2)) : am_M i_X10_copy [.ref b1, .ref b2] H K := by
  subst h1; subst h2
  exact am_frZ (Z := WS) (P := fun w2 => wEq w2 v) (r0 := fun _ => none) (h2 := fun w2 => wC 0 w2 ++ wC 6 v) ps (fun K hK => s_copy hK) rfl hnd hc (fun _ => rfl) (fun s2 hs => hk s2 hs)
/-- what a drop leaves of a wire -/
def wDrop (w : WS) (vi : Int32) : WS := wI (wI w 1 (w.1 1 ||| vi)) 3 (w.1 3 + nI 1)
theorem wOk.drop {w : WS} {n : Nat} {A P : Nat → Nat} {vi : Int32} (h : wOk w n A P) : wOk (wDrop w vi) n A P := h
theorem s_drop {w : WS} {n t : Nat} {A P : Nat → Nat} {v : Int32} {s : S3} {K : Option Value → AH → Prop} (hw : wOk w n A P) (ht : t < n) (hK : ∀ s2, sAg s2 (blw w n (P t) v) → K none (uC 0 s2 ++ wC 2 (wDrop w s2.2.2))) : am_M i_X9_drop [.ref 0, .ref 2, .int (nI t), .int v] (uC 0 s ++ wC 2 w) K := by
  refine e_X9_drop [] ?_
  conv => whnf
  refine f_strike (w := w) (s := s) [0, 1, 2, 3, 4, 5, 6, 7] hw ht rfl rfl rfl ⟨rfl, rfl, rfl, rfl, rfl, rfl, rfl, rfl, trivial⟩ (fun s2 hs2 => ?_)
  conv => whnf
  refine b_X9_drop [] ?_
  conv => whnf
  exact hK s2 hs2
theorem f_drop {w : WS} {n t : Nat} {A P : Nat → Nat} {v : Int32} {s : S3} {H : AH} {b1 b2 : Nat} {K : Option Value → AH → Prop} (ps : List Nat) (hw : wOk w n A P) (ht : t < n) (hnd : am_ndp ps = true) (h1 : am_pl ps 0 = b1) (h2 : am_pl ps 2 = b2) (hc : am_cut ps H ps (uC 0 s ++ wC 2 w)) (hk : ∀ s2, sAg s2 (blw w n (P t) v) → am_psK ps ps (uC 0 s2 ++ wC 2 (wDrop w s2.2.2)) H (fun H2 => K none H2)) : am_M i_X9_drop [.ref b1, .ref b2, .int (nI t), .int v] H K := by
  subst h1; subst h2
  exact am_frZ (Z := S3) (P := fun s2 => sAg s2 (blw w n (P t) v)) (r0 := fun _ => none) (h2 := fun s2 => uC 0 s2 ++ wC 2 (wDrop w s2.2.2)) ps (fun K hK => s_drop hw ht hK) rfl hnd hc (fun _ => rfl) (fun s2 hs => hk s2 hs)
theorem wEq.ok {w v : WS} {n : Nat} {A P : Nat → Nat} (h : wEq w v) (hv : wOk v n A P) : wOk w n A P := by
  obtain ⟨h1, h2, h3, h4⟩ := hv
  refine ⟨(h.1 0 (by omega)).trans h1, h2, fun j hj => ⟨(h.2 3 (by omega) j (by omega)).trans (h3 j hj).1, (h3 j hj).2⟩, fun t ht => ⟨(h.2 4 (by omega) t (by omega)).trans (h4 t ht).1, (h4 t ht).2⟩⟩
/-- the same to a blow -/
def wB (w v : WS) (n : Nat) : Prop := w.1 1 = v.1 1 ∧ w.1 2 = v.1 2 ∧ ag8 (w.2 0) (v.2 0) ∧ ag8 (w.2 1) (v.2 1) ∧ ∀ j, j < n → w.2 3 j = v.2 3 j
theorem wEq.wb {w v : WS} (h : wEq w v) {n : Nat} (hn : n ≤ 8) : wB w v n := ⟨h.1 1 (by omega), h.1 2 (by omega), h.2 0 (by omega), h.2 1 (by omega), fun j hj => h.2 3 (by omega) j (by omega)⟩
theorem upF_cg {w v : WS} {n : Nat} {A : Nat → Nat} (h : wB w v n) (hA : ∀ j, j < n → v.2 3 j = nI (A j) ∧ A j < 8) : ∀ (k j : Nat) (r : Int32) (s : S3), j + k ≤ n → upF w k j r s = upF v k j r s := by
  intro k
  induction k with
  | zero => intro j r s _; rfl
  | succ k ih =>
    intro j r s hj
    obtain ⟨h1, h2, h3, h4, h5⟩ := h
    have h5 := h5 j (by omega)
    obtain ⟨a1, a2⟩ := hA j (by omega)
    rw [upF, upF, h5, h1, h2, a1, nI_clamp (by omega), h3 _ a2, h4 _ a2, ih _ _ _ (by omega)]
theorem dnF_cg {w v : WS} {n : Nat} {A : Nat → Nat} (h : wB w v n) (hA : ∀ j, j < n → v.2 3 j = nI (A j) ∧ A j < 8) : ∀ (j : Nat) (r : Int32) (s : S3), j ≤ n → dnF w j r s = dnF v j r s := by
  intro k
  induction k with
  | zero => intro r s _; rfl
  | succ j ih =>
    intro r s hj
    obtain ⟨h1, h2, h3, h4, h5⟩ := h
    have h5 := h5 j (by omega)
    obtain ⟨a1, a2⟩ := hA j (by omega)
    rw [dnF, dnF, h5, h1, h2, a1, nI_clamp (by omega), h3 _ a2, h4 _ a2, ih _ _ (by omega)]
theorem blw_cg {w v : WS} {n : Nat} {A : Nat → Nat} (h : wB w v n) (hA : ∀ j, j < n → v.2 3 j = nI (A j) ∧ A j < 8) {q : Nat} (hq : q < n) (x : Int32) : blw w n q x = blw v n q x := by
  unfold blw
  rw [upF_cg h hA _ _ _ _ (by omega), dnF_cg h hA _ _ _ (by omega)]
/-! the row -/
def rC (b : Nat) (told : Int32) (f : Nat → Int32) : AH := [.inr (.inr (6, [.ref (b + 1), .int told])), .inl (12, f)]
def rAt (h : AH) (a ra : Nat) (told : Int32) (f : Nat → Int32) : Prop := nth h a = some (.inr (.inr (6, [.ref ra, .int told]))) ∧ nth h ra = some (.inl (12, f))
theorem s_rowHear {k : Nat} {f : Nat → Int32} {v : Int32} (hk : k < 12) {K : Option Value → AH → Prop} (hK : K (some (.int (nI (k + 1)))) (rC 0 (nI (k + 1)) (upd f k v))) : am_M i_X7_hear [.ref 0, .int v] (rC 0 (nI k) f) K := by
  have e : (nI k).toNatClampNeg = k := nI_clamp (by omega)
  refine e_X7_hear [] ?_
  conv => whnf
  refine ⟨(vp_in_nI hk (by decide)), ?_⟩
  conv => whnf
  rw [e, nI_add]
  exact hK
def min99 (x : Int32) : Int32 := if nI 99 < x then nI 99 else x
def tellF (f g : Nat → Int32) : Nat → Nat → Bool
  | 0, _ => true
  | k + 1, i => if f i = g i then tellF f g k (i + 1) else false
theorem l_tells {h : AH} {a ra ua ga wa : Nat} {f : Nat → Int32} {s : S3} {w : WS} {r : Nat → Nat} {q n : Nat} {K : Option Value → AH → Prop} (hr : rAt h a ra (nI q) f) (hu : uAt h ua s ga) (hw : wAt h wa w r) (hq8 : q ≤ 8) : ∀ (k i : Nat), i + k = q → K (some (.int (bI (tellF f (fun i => min99 (fJump (w.2 0 i) (s.1 i))) k i)))) h → am_E i_X7_tellsJumps 15 [some (.ref a), some (.ref ua), some (.ref wa), some (.int (nI i))] [] h K := by
  intro k
  induction k with
  | zero =>
    intro i hi hK
    obtain rfl : i = q := by omega
    refine b_X7_tellsJumps [15] ?_
    conv => whnf
    refine am_hgn hr.1 ?_
    conv => whnf
    refine ⟨fun c20 => ?_, fun c20 => absurd (nI_le (Nat.le_refl _) (by omega)) c20⟩
    refine b_X7_tellsJumps [15] ?_
    conv => whnf
    refine ⟨(by first | exact Or.inl nI_0 | exact Or.inr nI_one | assumption), ?_⟩
    exact hK
  | succ k ih =>
    intro i hi hK
    have e : (nI i).toNatClampNeg = i := nI_clamp (by omega)
    refine b_X7_tellsJumps [15] ?_
    conv => whnf
    refine am_hgn hr.1 ?_
    conv => whnf
    refine ⟨fun c20 => absurd c20 (nI_ge (by omega) (by omega)), fun c20 => ?_⟩
    conv => whnf
    refine am_hgn hr.1 ?_
    conv => whnf
    refine am_hgn hr.2 ?_
    conv => whnf
    refine ⟨(vp_in_nI (by omega) (by decide)), ?_⟩
    conv => whnf
    rw [e]
    refine am_hgn hu.1 ?_
    conv => whnf
    refine s_jumpIn hu hw (by omega) ?_
    refine b_X7_tellsJumps [15] ?_
    conv => whnf
    refine ⟨fun c40 => ?_, fun c40 => ?_⟩
    · refine b_X7_tellsJumps [15] ?_
      conv => whnf
      rw [tellF, if_pos (show f i = min99 (fJump (w.2 0 i) (s.1 i)) from c40)] at hK
      have h2 := ih (i + 1) (by omega) hK
      rw [← nI_add i 1] at h2
      exact h2
    · conv => whnf
      refine ⟨(by first | exact Or.inl nI_0 | exact Or.inr nI_one | assumption), ?_⟩
      rw [tellF, if_neg (show ¬ f i = min99 (fJump (w.2 0 i) (s.1 i)) from c40)] at hK
      exact hK
theorem s_tells {h : AH} {a ra ua ga wa : Nat} {f : Nat → Int32} {s : S3} {w : WS} {r : Nat → Nat} {q n : Nat} (hr : rAt h a ra (nI q) f) (hu : uAt h ua s ga) (hw : wAt h wa w r) (hn : w.1 0 = nI n) (hn8 : n ≤ 8) (hq : q ≤ 12) {K : Option Value → AH → Prop} (hK : K (some (.int (bI (decide (q ≤ n) && tellF f (fun i => min99 (fJump (w.2 0 i) (s.1 i))) q 0)))) h) : am_M i_X7_tellsJumps [.ref a, .ref ua, .ref wa] h K := by
  refine e_X7_tellsJumps [15] ?_
  conv => whnf
  refine am_hgn hr.1 ?_
  conv => whnf
  refine am_hgn hw.1 ?_
  conv => whnf
  refine ⟨fun c8 => ?_, fun c8 => ?_⟩
  · refine b_X7_tellsJumps [15] ?_
    conv => whnf
    have hqn : q ≤ n := by rw [hn] at c8; exact (nI_leI (by omega) (by omega)).mp c8
    rw [decide_eq_true hqn, Bool.true_and] at hK
    exact l_tells (n := 0) hr hu hw (by omega) q 0 (by omega) hK
  · conv => whnf
    refine ⟨(by first | exact Or.inl nI_0 | exact Or.inr nI_one | assumption), ?_⟩
    have hqn : ¬ q ≤ n := by rw [hn] at c8; exact fun z => c8 ((nI_leI (by omega) (by omega)).mpr z)
    rw [decide_eq_false hqn, Bool.false_and] at hK
    exact hK
def judF (f at_ : Nat → Int32) (n : Nat) : Nat → Nat → Int32
  | 0, _ => Int32.ofInt (-9)
  | k + 1, i => if n ≤ i then nI i else if at_ i = f i then judF f at_ n k (i + 1) else nI i
theorem l_judge {h : AH} {a ra wa : Nat} {f : Nat → Int32} {w : WS} {r : Nat → Nat} {q n : Nat} {K : Option Value → AH → Prop} (hr : rAt h a ra (nI q) f) (hw : wAt h wa w r) (hn : w.1 0 = nI n) (hn8 : n ≤ 8) (hq : q ≤ 12) : ∀ (k i : Nat), i + k = q → K (some (.int (judF f (w.2 3) n k i))) h → am_E i_X7_firstNotInPlace 2 [some (.ref a), some (.ref wa), some (.int (nI i))] [] h K := by
  intro k
  induction k with
  | zero =>
    intro i hi hK
    obtain rfl : i = q := by omega
    refine b_X7_firstNotInPlace [2] ?_
    conv => whnf
    refine am_hgn hr.1 ?_
    conv => whnf
    refine ⟨fun c7 => ?_, fun c7 => absurd (nI_le (Nat.le_refl _) (by omega)) c7⟩
    refine b_X7_firstNotInPlace [2] ?_
    conv => whnf
    exact hK
  | succ k ih =>
    intro i hi hK
    have e : (nI i).toNatClampNeg = i := nI_clamp (by omega)
    refine b_X7_firstNotInPlace [2] ?_
    conv => whnf
    refine am_hgn hr.1 ?_
    conv => whnf
    refine ⟨fun c7 => absurd c7 (nI_ge (by omega) (by omega)), fun c7 => ?_⟩
    conv => whnf
    refine am_hgn hw.1 ?_
    conv => whnf
    refine ⟨fun c15 => ?_, fun c15 => ?_⟩
    · refine b_X7_firstNotInPlace [2] ?_
      conv => whnf
      have hni : n ≤ i := by rw [hn] at c15; exact (nI_leI (by omega) (by omega)).mp c15
      rw [judF, if_pos hni] at hK
      exact hK
    · conv => whnf
      have hni : ¬ n ≤ i := by rw [hn] at c15; exact fun z => c15 ((nI_leI (by omega) (by omega)).mpr z)
      refine am_hgn hw.1 ?_
      conv => whnf
      refine am_hgn hw.2.2.2.2.1 ?_
      conv => whnf
      refine ⟨(vI8 hn8 (by omega)), ?_⟩
      conv => whnf
      rw [e]
      refine am_hgn hr.1 ?_
      conv => whnf
      refine am_hgn hr.2 ?_
      conv => whnf
      refine ⟨(vp_in_nI (by omega) (by decide)), ?_⟩
      conv => whnf
      rw [e]
      refine ⟨fun c30 => ?_, fun c30 => ?_⟩
      · refine b_X7_firstNotInPlace [2] ?_
        conv => whnf
        rw [judF, if_neg hni, if_pos c30] at hK
        have h2 := ih (i + 1) (by omega) hK
        rw [← nI_add i 1] at h2
        exact h2
      · conv => whnf
        rw [judF, if_neg hni, if_neg c30] at hK
        exact hK
theorem s_judge {h : AH} {a ra wa : Nat} {f : Nat → Int32} {w : WS} {r : Nat → Nat} {q n : Nat} (hr : rAt h a ra (nI q) f) (hw : wAt h wa w r) (hn : w.1 0 = nI n) (hn8 : n ≤ 8) (hq : q ≤ 12) {K : Option Value → AH → Prop} (hK : K (some (.int (judF f (w.2 3) n q 0))) h) : am_M i_X7_firstNotInPlace [.ref a, .ref wa] h K := by
  refine e_X7_firstNotInPlace [2] ?_
  conv => whnf
  exact l_judge hr hw hn hn8 hq q 0 (by omega) hK
