/-! fewer locals known, as much shown: a dead local may be forgotten -/
def am_le : AL → AL → Prop
  | [], [] => True
  | a :: t, b :: u => (a = none ∨ a = b) ∧ am_le t u
  | _, _ => False
theorem am_le_rf : ∀ L : AL, am_le L L
  | [] => trivial
  | _ :: t => ⟨Or.inr rfl, am_le_rf t⟩
theorem am_g_wk : ∀ (L L2 : AL) (i : Nat) {k : Value → Prop}, am_le L L2 → am_g L i k → am_g L2 i k
  | [], [], _, _, _, h => h
  | [], _ :: _, _, _, w, _ => w.elim
  | _ :: _, [], _, _, w, _ => w.elim
  | some v :: t, b :: u, 0, k, w, h => by
    rcases w.1 with z | z
    · cases z
    · subst z; exact h
  | none :: _, _ :: _, 0, _, _, h => h.elim
  | some _ :: t, b :: u, n + 1, k, w, h => by cases b <;> exact am_g_wk t u n w.2 h
  | none :: t, b :: u, n + 1, k, w, h => by cases b <;> exact am_g_wk t u n w.2 h
theorem am_nl_wk (a b : Option Value) {k k2 : Option Value → Prop} (w : a = none ∨ a = b) (f : ∀ x y, (x = none ∨ x = y) → k x → k2 y) (h : am_nl a k) : am_nl b k2 := by
  rcases w with rfl | rfl
  · cases b with
    | none => exact f _ _ (Or.inl rfl) h
    | some v => cases v <;> exact f _ _ (Or.inl rfl) h
  · exact am_nl_mo a (fun v q => f _ _ (Or.inr rfl) q) h
theorem am_st_wk : ∀ (i : Nat) (L L2 : AL) (v : Value) {k k2 : AL → Prop}, am_le L L2 → (∀ L L2, am_le L L2 → k L → k2 L2) → am_st L i v k → am_st L2 i v k2
  | _, [], [], _, _, _, _, _, h => by cases ‹Nat› <;> exact h
  | _, [], _ :: _, _, _, _, w, _, _ => w.elim
  | _, _ :: _, [], _, _, _, w, _, _ => w.elim
  | 0, _ :: t, _ :: u, v, _, _, w, f, h => f (some v :: t) (some v :: u) ⟨Or.inr rfl, w.2⟩ h
  | 1, [_], [_], _, _, _, _, _, h => h.elim
  | 1, [_], _ :: _ :: _, _, _, _, w, _, _ => w.2.elim
  | 1, _ :: _ :: _, [_], _, _, _, w, _, _ => w.2.elim
  | 1, a :: _ :: t, b :: _ :: u, v, k, k2, w, f, h => am_nl_wk a b (k := fun o2 => k (o2 :: some v :: t)) (k2 := fun o2 => k2 (o2 :: some v :: u)) w.1 (fun x y z q => f (x :: some v :: t) (y :: some v :: u) ⟨z, Or.inr rfl, w.2.2⟩ q) h
  | n + 2, a :: t, b :: u, v, k, k2, w, f, h => am_st_wk (n + 1) t u v (k := fun t2 => k (a :: t2)) (k2 := fun t2 => k2 (b :: t2)) w.2 (fun x y z q => f (a :: x) (b :: y) ⟨w.1, z⟩ q) h
theorem am_st2_wk : ∀ (i : Nat) (L L2 : AL) (v : Value) {k k2 : AL → Prop}, am_le L L2 → (∀ L L2, am_le L L2 → k L → k2 L2) → am_st2 L i v k → am_st2 L2 i v k2
  | _, [], [], _, _, _, _, _, h => by cases ‹Nat› <;> exact h
  | _, [], _ :: _, _, _, _, w, _, _ => w.elim
  | _, _ :: _, [], _, _, _, w, _, _ => w.elim
  | 0, [_], [_], _, _, _, _, _, h => h.elim
  | 0, [_], _ :: _ :: _, _, _, _, w, _, _ => w.2.elim
  | 0, _ :: _ :: _, [_], _, _, _, w, _, _ => w.2.elim
  | 0, _ :: _ :: t, _ :: _ :: u, v, _, _, w, f, h => f (some v :: none :: t) (some v :: none :: u) ⟨Or.inr rfl, Or.inl rfl, w.2.2⟩ h
  | 1, [_], [_], _, _, _, _, _, h => h.elim
  | 1, [_, _], [_, _], _, _, _, _, _, h => h.elim
  | 1, [_], _ :: _ :: _, _, _, _, w, _, _ => w.2.elim
  | 1, _ :: _ :: _, [_], _, _, _, w, _, _ => w.2.elim
  | 1, [_, _], _ :: _ :: _ :: _, _, _, _, w, _, _ => w.2.2.elim
  | 1, _ :: _ :: _ :: _, [_, _], _, _, _, w, _, _ => w.2.2.elim
  | 1, a :: _ :: _ :: t, b :: _ :: _ :: u, v, k, k2, w, f, h => am_nl_wk a b (k := fun o2 => k (o2 :: some v :: none :: t)) (k2 := fun o2 => k2 (o2 :: some v :: none :: u)) w.1 (fun x y z q => f (x :: some v :: none :: t) (y :: some v :: none :: u) ⟨z, Or.inr rfl, Or.inl rfl, w.2.2.2⟩ q) h
  | n + 2, a :: t, b :: u, v, k, k2, w, f, h => am_st2_wk (n + 1) t u v (k := fun t2 => k (a :: t2)) (k2 := fun t2 => k2 (b :: t2)) w.2 (fun x y z q => f (a :: x) (b :: y) ⟨w.1, z⟩ q) h
section WK
variable {nx nx2 : AL → List Value → AH → Prop} {J J2 : Nat → AL → List Value → AH → Prop} {C C2 : Nat → List Value → AL → List Value → AH → Prop} {Rr : Option Value → AH → Prop} {L L2 : AL} {S : List Value} {h : AH}
/-- the steps that don't touch the locals -/
def am_pure : Instr → Bool
  | .iload _ | .lload _ | .aload _ | .istore _ | .astore _ | .lstore _ | .iinc _ _ => false
  | _ => true
theorem am_stp_at (ri : Instr) (hp : am_pure ri = true) {nx nx2 : AL → List Value → AH → Prop} {J J2 : Nat → AL → List Value → AH → Prop} {C C2 : Nat → List Value → AL → List Value → AH → Prop} {Rr : Option Value → AH → Prop} {L L2 : AL} {S : List Value} {h : AH} (H : am_stp ri nx J C Rr L S h) (hn : nx2 L2 = nx L) (hj : ∀ t, J2 t L2 = J t L) (hc : ∀ t a, C2 t a L2 = C t a L) : am_stp ri nx2 J2 C2 Rr L2 S h := by
  cases ri <;> first
    | exact absurd hp Bool.false_ne_true
    | exact H.elim
    | (simp only [am_stp, am_i0, am_i1, am_i2, am_i3, am_i4, hn, hj, hc] at H ⊢; exact H)
theorem am_stp_wk (w : am_le L L2) (f : ∀ L L2 S h, am_le L L2 → nx L S h → nx2 L2 S h) (fj : ∀ t L L2 S h, am_le L L2 → J t L S h → J2 t L2 S h) (fc : ∀ t a L L2 S h, am_le L L2 → C t a L S h → C2 t a L2 S h) (ri : Instr) (H : am_stp ri nx J C Rr L S h) : am_stp ri nx2 J2 C2 Rr L2 S h := by
  cases ri with
  | iload i =>
    exact am_g_wk L L2 i w (am_g_mo L i (fun v hv => by cases v <;> first | exact f _ _ _ _ w hv | exact hv.elim) H)
  | lload i =>
    exact am_g_wk L L2 i w (am_g_mo L i (fun v hv => by cases v <;> first | exact f _ _ _ _ w hv | exact hv.elim) H)
  | aload i =>
    exact am_g_wk L L2 i w (am_g_mo L i (fun v hv => by cases v <;> first | exact f _ _ _ _ w hv | exact hv.elim) H)
  | istore i =>
    dsimp only [am_stp] at H ⊢
    split at H
    · exact am_st_wk i L L2 _ w (fun _ _ z q => f _ _ _ _ z q) H
    · exact H.elim
  | astore i =>
    dsimp only [am_stp] at H ⊢
    split at H
    · exact am_st_wk i L L2 _ w (fun _ _ z q => f _ _ _ _ z q) H
    · exact H.elim
  | lstore i =>
    dsimp only [am_stp] at H ⊢
    split at H
    · exact am_st2_wk i L L2 _ w (fun _ _ z q => f _ _ _ _ z q) H
    · exact H.elim
  | iinc i k =>
    exact am_g_wk L L2 i w (am_g_mo L i (fun v hv => by cases v <;> first | exact am_st_wk i L L2 _ w (fun _ _ z q => f _ _ _ _ z q) hv | exact hv.elim) H)
  | anewarray k =>
    exact am_stp_mo (fun _ _ _ z => z.2 ▸ f _ _ _ _ w z.1) (fun _ _ _ _ z => z.2 ▸ fj _ _ _ _ _ w z.1) (fun _ _ _ _ _ z => z.2 ▸ fc _ _ _ _ _ _ w z.1) (fun _ _ z => z) (.anewarray k) (am_stp_at (.anewarray k) rfl (nx2 := fun L' S h => nx L S h ∧ L2 = L') (J2 := fun t L' S h => J t L S h ∧ L2 = L') (C2 := fun t a L' S h => C t a L S h ∧ L2 = L') H (by funext S h; simp) (fun t => by funext S h; simp) (fun t a => by funext S h; simp))
  | iconst k =>
    exact am_stp_mo (fun _ _ _ z => z.2 ▸ f _ _ _ _ w z.1) (fun _ _ _ _ z => z.2 ▸ fj _ _ _ _ _ w z.1) (fun _ _ _ _ _ z => z.2 ▸ fc _ _ _ _ _ _ w z.1) (fun _ _ z => z) (.iconst k) (am_stp_at (.iconst k) rfl (nx2 := fun L' S h => nx L S h ∧ L2 = L') (J2 := fun t L' S h => J t L S h ∧ L2 = L') (C2 := fun t a L' S h => C t a L S h ∧ L2 = L') H (by funext S h; simp) (fun t => by funext S h; simp) (fun t a => by funext S h; simp))
  | ldc2_w k =>
    exact am_stp_mo (fun _ _ _ z => z.2 ▸ f _ _ _ _ w z.1) (fun _ _ _ _ z => z.2 ▸ fj _ _ _ _ _ w z.1) (fun _ _ _ _ _ z => z.2 ▸ fc _ _ _ _ _ _ w z.1) (fun _ _ z => z) (.ldc2_w k) (am_stp_at (.ldc2_w k) rfl (nx2 := fun L' S h => nx L S h ∧ L2 = L') (J2 := fun t L' S h => J t L S h ∧ L2 = L') (C2 := fun t a L' S h => C t a L S h ∧ L2 = L') H (by funext S h; simp) (fun t => by funext S h; simp) (fun t a => by funext S h; simp))
  | iadd =>
    exact am_stp_mo (fun _ _ _ z => z.2 ▸ f _ _ _ _ w z.1) (fun _ _ _ _ z => z.2 ▸ fj _ _ _ _ _ w z.1) (fun _ _ _ _ _ z => z.2 ▸ fc _ _ _ _ _ _ w z.1) (fun _ _ z => z) .iadd (am_stp_at .iadd rfl (nx2 := fun L' S h => nx L S h ∧ L2 = L') (J2 := fun t L' S h => J t L S h ∧ L2 = L') (C2 := fun t a L' S h => C t a L S h ∧ L2 = L') H (by funext S h; simp) (fun t => by funext S h; simp) (fun t a => by funext S h; simp))
  | isub =>
    exact am_stp_mo (fun _ _ _ z => z.2 ▸ f _ _ _ _ w z.1) (fun _ _ _ _ z => z.2 ▸ fj _ _ _ _ _ w z.1) (fun _ _ _ _ _ z => z.2 ▸ fc _ _ _ _ _ _ w z.1) (fun _ _ z => z) .isub (am_stp_at .isub rfl (nx2 := fun L' S h => nx L S h ∧ L2 = L') (J2 := fun t L' S h => J t L S h ∧ L2 = L') (C2 := fun t a L' S h => C t a L S h ∧ L2 = L') H (by funext S h; simp) (fun t => by funext S h; simp) (fun t a => by funext S h; simp))
  | imul =>
    exact am_stp_mo (fun _ _ _ z => z.2 ▸ f _ _ _ _ w z.1) (fun _ _ _ _ z => z.2 ▸ fj _ _ _ _ _ w z.1) (fun _ _ _ _ _ z => z.2 ▸ fc _ _ _ _ _ _ w z.1) (fun _ _ z => z) .imul (am_stp_at .imul rfl (nx2 := fun L' S h => nx L S h ∧ L2 = L') (J2 := fun t L' S h => J t L S h ∧ L2 = L') (C2 := fun t a L' S h => C t a L S h ∧ L2 = L') H (by funext S h; simp) (fun t => by funext S h; simp) (fun t a => by funext S h; simp))
  | iand =>
    exact am_stp_mo (fun _ _ _ z => z.2 ▸ f _ _ _ _ w z.1) (fun _ _ _ _ z => z.2 ▸ fj _ _ _ _ _ w z.1) (fun _ _ _ _ _ z => z.2 ▸ fc _ _ _ _ _ _ w z.1) (fun _ _ z => z) .iand (am_stp_at .iand rfl (nx2 := fun L' S h => nx L S h ∧ L2 = L') (J2 := fun t L' S h => J t L S h ∧ L2 = L') (C2 := fun t a L' S h => C t a L S h ∧ L2 = L') H (by funext S h; simp) (fun t => by funext S h; simp) (fun t a => by funext S h; simp))
  | ior =>
    exact am_stp_mo (fun _ _ _ z => z.2 ▸ f _ _ _ _ w z.1) (fun _ _ _ _ z => z.2 ▸ fj _ _ _ _ _ w z.1) (fun _ _ _ _ _ z => z.2 ▸ fc _ _ _ _ _ _ w z.1) (fun _ _ z => z) .ior (am_stp_at .ior rfl (nx2 := fun L' S h => nx L S h ∧ L2 = L') (J2 := fun t L' S h => J t L S h ∧ L2 = L') (C2 := fun t a L' S h => C t a L S h ∧ L2 = L') H (by funext S h; simp) (fun t => by funext S h; simp) (fun t a => by funext S h; simp))
  | ixor =>
    exact am_stp_mo (fun _ _ _ z => z.2 ▸ f _ _ _ _ w z.1) (fun _ _ _ _ z => z.2 ▸ fj _ _ _ _ _ w z.1) (fun _ _ _ _ _ z => z.2 ▸ fc _ _ _ _ _ _ w z.1) (fun _ _ z => z) .ixor (am_stp_at .ixor rfl (nx2 := fun L' S h => nx L S h ∧ L2 = L') (J2 := fun t L' S h => J t L S h ∧ L2 = L') (C2 := fun t a L' S h => C t a L S h ∧ L2 = L') H (by funext S h; simp) (fun t => by funext S h; simp) (fun t a => by funext S h; simp))
  | ineg =>
    exact am_stp_mo (fun _ _ _ z => z.2 ▸ f _ _ _ _ w z.1) (fun _ _ _ _ z => z.2 ▸ fj _ _ _ _ _ w z.1) (fun _ _ _ _ _ z => z.2 ▸ fc _ _ _ _ _ _ w z.1) (fun _ _ z => z) .ineg (am_stp_at .ineg rfl (nx2 := fun L' S h => nx L S h ∧ L2 = L') (J2 := fun t L' S h => J t L S h ∧ L2 = L') (C2 := fun t a L' S h => C t a L S h ∧ L2 = L') H (by funext S h; simp) (fun t => by funext S h; simp) (fun t a => by funext S h; simp))
  | ishl =>
    exact am_stp_mo (fun _ _ _ z => z.2 ▸ f _ _ _ _ w z.1) (fun _ _ _ _ z => z.2 ▸ fj _ _ _ _ _ w z.1) (fun _ _ _ _ _ z => z.2 ▸ fc _ _ _ _ _ _ w z.1) (fun _ _ z => z) .ishl (am_stp_at .ishl rfl (nx2 := fun L' S h => nx L S h ∧ L2 = L') (J2 := fun t L' S h => J t L S h ∧ L2 = L') (C2 := fun t a L' S h => C t a L S h ∧ L2 = L') H (by funext S h; simp) (fun t => by funext S h; simp) (fun t a => by funext S h; simp))
  | ishr =>
    exact am_stp_mo (fun _ _ _ z => z.2 ▸ f _ _ _ _ w z.1) (fun _ _ _ _ z => z.2 ▸ fj _ _ _ _ _ w z.1) (fun _ _ _ _ _ z => z.2 ▸ fc _ _ _ _ _ _ w z.1) (fun _ _ z => z) .ishr (am_stp_at .ishr rfl (nx2 := fun L' S h => nx L S h ∧ L2 = L') (J2 := fun t L' S h => J t L S h ∧ L2 = L') (C2 := fun t a L' S h => C t a L S h ∧ L2 = L') H (by funext S h; simp) (fun t => by funext S h; simp) (fun t a => by funext S h; simp))
  | iushr =>
    exact am_stp_mo (fun _ _ _ z => z.2 ▸ f _ _ _ _ w z.1) (fun _ _ _ _ z => z.2 ▸ fj _ _ _ _ _ w z.1) (fun _ _ _ _ _ z => z.2 ▸ fc _ _ _ _ _ _ w z.1) (fun _ _ z => z) .iushr (am_stp_at .iushr rfl (nx2 := fun L' S h => nx L S h ∧ L2 = L') (J2 := fun t L' S h => J t L S h ∧ L2 = L') (C2 := fun t a L' S h => C t a L S h ∧ L2 = L') H (by funext S h; simp) (fun t => by funext S h; simp) (fun t a => by funext S h; simp))
  | ladd =>
    exact am_stp_mo (fun _ _ _ z => z.2 ▸ f _ _ _ _ w z.1) (fun _ _ _ _ z => z.2 ▸ fj _ _ _ _ _ w z.1) (fun _ _ _ _ _ z => z.2 ▸ fc _ _ _ _ _ _ w z.1) (fun _ _ z => z) .ladd (am_stp_at .ladd rfl (nx2 := fun L' S h => nx L S h ∧ L2 = L') (J2 := fun t L' S h => J t L S h ∧ L2 = L') (C2 := fun t a L' S h => C t a L S h ∧ L2 = L') H (by funext S h; simp) (fun t => by funext S h; simp) (fun t a => by funext S h; simp))
  | lsub =>
    exact am_stp_mo (fun _ _ _ z => z.2 ▸ f _ _ _ _ w z.1) (fun _ _ _ _ z => z.2 ▸ fj _ _ _ _ _ w z.1) (fun _ _ _ _ _ z => z.2 ▸ fc _ _ _ _ _ _ w z.1) (fun _ _ z => z) .lsub (am_stp_at .lsub rfl (nx2 := fun L' S h => nx L S h ∧ L2 = L') (J2 := fun t L' S h => J t L S h ∧ L2 = L') (C2 := fun t a L' S h => C t a L S h ∧ L2 = L') H (by funext S h; simp) (fun t => by funext S h; simp) (fun t a => by funext S h; simp))
  | lmul =>
    exact am_stp_mo (fun _ _ _ z => z.2 ▸ f _ _ _ _ w z.1) (fun _ _ _ _ z => z.2 ▸ fj _ _ _ _ _ w z.1) (fun _ _ _ _ _ z => z.2 ▸ fc _ _ _ _ _ _ w z.1) (fun _ _ z => z) .lmul (am_stp_at .lmul rfl (nx2 := fun L' S h => nx L S h ∧ L2 = L') (J2 := fun t L' S h => J t L S h ∧ L2 = L') (C2 := fun t a L' S h => C t a L S h ∧ L2 = L') H (by funext S h; simp) (fun t => by funext S h; simp) (fun t a => by funext S h; simp))
  | land =>
    exact am_stp_mo (fun _ _ _ z => z.2 ▸ f _ _ _ _ w z.1) (fun _ _ _ _ z => z.2 ▸ fj _ _ _ _ _ w z.1) (fun _ _ _ _ _ z => z.2 ▸ fc _ _ _ _ _ _ w z.1) (fun _ _ z => z) .land (am_stp_at .land rfl (nx2 := fun L' S h => nx L S h ∧ L2 = L') (J2 := fun t L' S h => J t L S h ∧ L2 = L') (C2 := fun t a L' S h => C t a L S h ∧ L2 = L') H (by funext S h; simp) (fun t => by funext S h; simp) (fun t a => by funext S h; simp))
  | lor =>
    exact am_stp_mo (fun _ _ _ z => z.2 ▸ f _ _ _ _ w z.1) (fun _ _ _ _ z => z.2 ▸ fj _ _ _ _ _ w z.1) (fun _ _ _ _ _ z => z.2 ▸ fc _ _ _ _ _ _ w z.1) (fun _ _ z => z) .lor (am_stp_at .lor rfl (nx2 := fun L' S h => nx L S h ∧ L2 = L') (J2 := fun t L' S h => J t L S h ∧ L2 = L') (C2 := fun t a L' S h => C t a L S h ∧ L2 = L') H (by funext S h; simp) (fun t => by funext S h; simp) (fun t a => by funext S h; simp))
  | lshl =>
    exact am_stp_mo (fun _ _ _ z => z.2 ▸ f _ _ _ _ w z.1) (fun _ _ _ _ z => z.2 ▸ fj _ _ _ _ _ w z.1) (fun _ _ _ _ _ z => z.2 ▸ fc _ _ _ _ _ _ w z.1) (fun _ _ z => z) .lshl (am_stp_at .lshl rfl (nx2 := fun L' S h => nx L S h ∧ L2 = L') (J2 := fun t L' S h => J t L S h ∧ L2 = L') (C2 := fun t a L' S h => C t a L S h ∧ L2 = L') H (by funext S h; simp) (fun t => by funext S h; simp) (fun t a => by funext S h; simp))
  | lshr =>
    exact am_stp_mo (fun _ _ _ z => z.2 ▸ f _ _ _ _ w z.1) (fun _ _ _ _ z => z.2 ▸ fj _ _ _ _ _ w z.1) (fun _ _ _ _ _ z => z.2 ▸ fc _ _ _ _ _ _ w z.1) (fun _ _ z => z) .lshr (am_stp_at .lshr rfl (nx2 := fun L' S h => nx L S h ∧ L2 = L') (J2 := fun t L' S h => J t L S h ∧ L2 = L') (C2 := fun t a L' S h => C t a L S h ∧ L2 = L') H (by funext S h; simp) (fun t => by funext S h; simp) (fun t a => by funext S h; simp))
  | lushr =>
    exact am_stp_mo (fun _ _ _ z => z.2 ▸ f _ _ _ _ w z.1) (fun _ _ _ _ z => z.2 ▸ fj _ _ _ _ _ w z.1) (fun _ _ _ _ _ z => z.2 ▸ fc _ _ _ _ _ _ w z.1) (fun _ _ z => z) .lushr (am_stp_at .lushr rfl (nx2 := fun L' S h => nx L S h ∧ L2 = L') (J2 := fun t L' S h => J t L S h ∧ L2 = L') (C2 := fun t a L' S h => C t a L S h ∧ L2 = L') H (by funext S h; simp) (fun t => by funext S h; simp) (fun t a => by funext S h; simp))
  | i2l =>
    exact am_stp_mo (fun _ _ _ z => z.2 ▸ f _ _ _ _ w z.1) (fun _ _ _ _ z => z.2 ▸ fj _ _ _ _ _ w z.1) (fun _ _ _ _ _ z => z.2 ▸ fc _ _ _ _ _ _ w z.1) (fun _ _ z => z) .i2l (am_stp_at .i2l rfl (nx2 := fun L' S h => nx L S h ∧ L2 = L') (J2 := fun t L' S h => J t L S h ∧ L2 = L') (C2 := fun t a L' S h => C t a L S h ∧ L2 = L') H (by funext S h; simp) (fun t => by funext S h; simp) (fun t a => by funext S h; simp))
  | l2i =>
    exact am_stp_mo (fun _ _ _ z => z.2 ▸ f _ _ _ _ w z.1) (fun _ _ _ _ z => z.2 ▸ fj _ _ _ _ _ w z.1) (fun _ _ _ _ _ z => z.2 ▸ fc _ _ _ _ _ _ w z.1) (fun _ _ z => z) .l2i (am_stp_at .l2i rfl (nx2 := fun L' S h => nx L S h ∧ L2 = L') (J2 := fun t L' S h => J t L S h ∧ L2 = L') (C2 := fun t a L' S h => C t a L S h ∧ L2 = L') H (by funext S h; simp) (fun t => by funext S h; simp) (fun t a => by funext S h; simp))
  | lcmp =>
    exact am_stp_mo (fun _ _ _ z => z.2 ▸ f _ _ _ _ w z.1) (fun _ _ _ _ z => z.2 ▸ fj _ _ _ _ _ w z.1) (fun _ _ _ _ _ z => z.2 ▸ fc _ _ _ _ _ _ w z.1) (fun _ _ z => z) .lcmp (am_stp_at .lcmp rfl (nx2 := fun L' S h => nx L S h ∧ L2 = L') (J2 := fun t L' S h => J t L S h ∧ L2 = L') (C2 := fun t a L' S h => C t a L S h ∧ L2 = L') H (by funext S h; simp) (fun t => by funext S h; simp) (fun t a => by funext S h; simp))
  | idiv =>
    exact am_stp_mo (fun _ _ _ z => z.2 ▸ f _ _ _ _ w z.1) (fun _ _ _ _ z => z.2 ▸ fj _ _ _ _ _ w z.1) (fun _ _ _ _ _ z => z.2 ▸ fc _ _ _ _ _ _ w z.1) (fun _ _ z => z) .idiv (am_stp_at .idiv rfl (nx2 := fun L' S h => nx L S h ∧ L2 = L') (J2 := fun t L' S h => J t L S h ∧ L2 = L') (C2 := fun t a L' S h => C t a L S h ∧ L2 = L') H (by funext S h; simp) (fun t => by funext S h; simp) (fun t a => by funext S h; simp))
  | irem =>
    exact am_stp_mo (fun _ _ _ z => z.2 ▸ f _ _ _ _ w z.1) (fun _ _ _ _ z => z.2 ▸ fj _ _ _ _ _ w z.1) (fun _ _ _ _ _ z => z.2 ▸ fc _ _ _ _ _ _ w z.1) (fun _ _ z => z) .irem (am_stp_at .irem rfl (nx2 := fun L' S h => nx L S h ∧ L2 = L') (J2 := fun t L' S h => J t L S h ∧ L2 = L') (C2 := fun t a L' S h => C t a L S h ∧ L2 = L') H (by funext S h; simp) (fun t => by funext S h; simp) (fun t a => by funext S h; simp))
  | ldiv =>
    exact am_stp_mo (fun _ _ _ z => z.2 ▸ f _ _ _ _ w z.1) (fun _ _ _ _ z => z.2 ▸ fj _ _ _ _ _ w z.1) (fun _ _ _ _ _ z => z.2 ▸ fc _ _ _ _ _ _ w z.1) (fun _ _ z => z) .ldiv (am_stp_at .ldiv rfl (nx2 := fun L' S h => nx L S h ∧ L2 = L') (J2 := fun t L' S h => J t L S h ∧ L2 = L') (C2 := fun t a L' S h => C t a L S h ∧ L2 = L') H (by funext S h; simp) (fun t => by funext S h; simp) (fun t a => by funext S h; simp))
  | lrem =>
    exact am_stp_mo (fun _ _ _ z => z.2 ▸ f _ _ _ _ w z.1) (fun _ _ _ _ z => z.2 ▸ fj _ _ _ _ _ w z.1) (fun _ _ _ _ _ z => z.2 ▸ fc _ _ _ _ _ _ w z.1) (fun _ _ z => z) .lrem (am_stp_at .lrem rfl (nx2 := fun L' S h => nx L S h ∧ L2 = L') (J2 := fun t L' S h => J t L S h ∧ L2 = L') (C2 := fun t a L' S h => C t a L S h ∧ L2 = L') H (by funext S h; simp) (fun t => by funext S h; simp) (fun t a => by funext S h; simp))
  | dup =>
    exact am_stp_mo (fun _ _ _ z => z.2 ▸ f _ _ _ _ w z.1) (fun _ _ _ _ z => z.2 ▸ fj _ _ _ _ _ w z.1) (fun _ _ _ _ _ z => z.2 ▸ fc _ _ _ _ _ _ w z.1) (fun _ _ z => z) .dup (am_stp_at .dup rfl (nx2 := fun L' S h => nx L S h ∧ L2 = L') (J2 := fun t L' S h => J t L S h ∧ L2 = L') (C2 := fun t a L' S h => C t a L S h ∧ L2 = L') H (by funext S h; simp) (fun t => by funext S h; simp) (fun t a => by funext S h; simp))
  | dup2 =>
    exact am_stp_mo (fun _ _ _ z => z.2 ▸ f _ _ _ _ w z.1) (fun _ _ _ _ z => z.2 ▸ fj _ _ _ _ _ w z.1) (fun _ _ _ _ _ z => z.2 ▸ fc _ _ _ _ _ _ w z.1) (fun _ _ z => z) .dup2 (am_stp_at .dup2 rfl (nx2 := fun L' S h => nx L S h ∧ L2 = L') (J2 := fun t L' S h => J t L S h ∧ L2 = L') (C2 := fun t a L' S h => C t a L S h ∧ L2 = L') H (by funext S h; simp) (fun t => by funext S h; simp) (fun t a => by funext S h; simp))
  | pop =>
    exact am_stp_mo (fun _ _ _ z => z.2 ▸ f _ _ _ _ w z.1) (fun _ _ _ _ z => z.2 ▸ fj _ _ _ _ _ w z.1) (fun _ _ _ _ _ z => z.2 ▸ fc _ _ _ _ _ _ w z.1) (fun _ _ z => z) .pop (am_stp_at .pop rfl (nx2 := fun L' S h => nx L S h ∧ L2 = L') (J2 := fun t L' S h => J t L S h ∧ L2 = L') (C2 := fun t a L' S h => C t a L S h ∧ L2 = L') H (by funext S h; simp) (fun t => by funext S h; simp) (fun t a => by funext S h; simp))
  | if_icmp c t =>
    exact am_stp_mo (fun _ _ _ z => z.2 ▸ f _ _ _ _ w z.1) (fun _ _ _ _ z => z.2 ▸ fj _ _ _ _ _ w z.1) (fun _ _ _ _ _ z => z.2 ▸ fc _ _ _ _ _ _ w z.1) (fun _ _ z => z) (.if_icmp c t) (am_stp_at (.if_icmp c t) rfl (nx2 := fun L' S h => nx L S h ∧ L2 = L') (J2 := fun t L' S h => J t L S h ∧ L2 = L') (C2 := fun t a L' S h => C t a L S h ∧ L2 = L') H (by funext S h; simp) (fun t => by funext S h; simp) (fun t a => by funext S h; simp))
  | ifCond c t =>
    exact am_stp_mo (fun _ _ _ z => z.2 ▸ f _ _ _ _ w z.1) (fun _ _ _ _ z => z.2 ▸ fj _ _ _ _ _ w z.1) (fun _ _ _ _ _ z => z.2 ▸ fc _ _ _ _ _ _ w z.1) (fun _ _ z => z) (.ifCond c t) (am_stp_at (.ifCond c t) rfl (nx2 := fun L' S h => nx L S h ∧ L2 = L') (J2 := fun t L' S h => J t L S h ∧ L2 = L') (C2 := fun t a L' S h => C t a L S h ∧ L2 = L') H (by funext S h; simp) (fun t => by funext S h; simp) (fun t a => by funext S h; simp))
  | goto t =>
    exact am_stp_mo (fun _ _ _ z => z.2 ▸ f _ _ _ _ w z.1) (fun _ _ _ _ z => z.2 ▸ fj _ _ _ _ _ w z.1) (fun _ _ _ _ _ z => z.2 ▸ fc _ _ _ _ _ _ w z.1) (fun _ _ z => z) (.goto t) (am_stp_at (.goto t) rfl (nx2 := fun L' S h => nx L S h ∧ L2 = L') (J2 := fun t L' S h => J t L S h ∧ L2 = L') (C2 := fun t a L' S h => C t a L S h ∧ L2 = L') H (by funext S h; simp) (fun t => by funext S h; simp) (fun t a => by funext S h; simp))
  | tableswitch d lo hi ts =>
    exact am_stp_mo (fun _ _ _ z => z.2 ▸ f _ _ _ _ w z.1) (fun _ _ _ _ z => z.2 ▸ fj _ _ _ _ _ w z.1) (fun _ _ _ _ _ z => z.2 ▸ fc _ _ _ _ _ _ w z.1) (fun _ _ z => z) (.tableswitch d lo hi ts) (am_stp_at (.tableswitch d lo hi ts) rfl (nx2 := fun L' S h => nx L S h ∧ L2 = L') (J2 := fun t L' S h => J t L S h ∧ L2 = L') (C2 := fun t a L' S h => C t a L S h ∧ L2 = L') H (by funext S h; simp) (fun t => by funext S h; simp) (fun t a => by funext S h; simp))
  | lookupswitch d ps =>
    exact am_stp_mo (fun _ _ _ z => z.2 ▸ f _ _ _ _ w z.1) (fun _ _ _ _ z => z.2 ▸ fj _ _ _ _ _ w z.1) (fun _ _ _ _ _ z => z.2 ▸ fc _ _ _ _ _ _ w z.1) (fun _ _ z => z) (.lookupswitch d ps) (am_stp_at (.lookupswitch d ps) rfl (nx2 := fun L' S h => nx L S h ∧ L2 = L') (J2 := fun t L' S h => J t L S h ∧ L2 = L') (C2 := fun t a L' S h => C t a L S h ∧ L2 = L') H (by funext S h; simp) (fun t => by funext S h; simp) (fun t a => by funext S h; simp))
  | getfield r =>
    exact am_stp_mo (fun _ _ _ z => z.2 ▸ f _ _ _ _ w z.1) (fun _ _ _ _ z => z.2 ▸ fj _ _ _ _ _ w z.1) (fun _ _ _ _ _ z => z.2 ▸ fc _ _ _ _ _ _ w z.1) (fun _ _ z => z) (.getfield r) (am_stp_at (.getfield r) rfl (nx2 := fun L' S h => nx L S h ∧ L2 = L') (J2 := fun t L' S h => J t L S h ∧ L2 = L') (C2 := fun t a L' S h => C t a L S h ∧ L2 = L') H (by funext S h; simp) (fun t => by funext S h; simp) (fun t a => by funext S h; simp))
  | putfield r =>
    exact am_stp_mo (fun _ _ _ z => z.2 ▸ f _ _ _ _ w z.1) (fun _ _ _ _ z => z.2 ▸ fj _ _ _ _ _ w z.1) (fun _ _ _ _ _ z => z.2 ▸ fc _ _ _ _ _ _ w z.1) (fun _ _ z => z) (.putfield r) (am_stp_at (.putfield r) rfl (nx2 := fun L' S h => nx L S h ∧ L2 = L') (J2 := fun t L' S h => J t L S h ∧ L2 = L') (C2 := fun t a L' S h => C t a L S h ∧ L2 = L') H (by funext S h; simp) (fun t => by funext S h; simp) (fun t a => by funext S h; simp))
  | iaload =>
    exact am_stp_mo (fun _ _ _ z => z.2 ▸ f _ _ _ _ w z.1) (fun _ _ _ _ z => z.2 ▸ fj _ _ _ _ _ w z.1) (fun _ _ _ _ _ z => z.2 ▸ fc _ _ _ _ _ _ w z.1) (fun _ _ z => z) .iaload (am_stp_at .iaload rfl (nx2 := fun L' S h => nx L S h ∧ L2 = L') (J2 := fun t L' S h => J t L S h ∧ L2 = L') (C2 := fun t a L' S h => C t a L S h ∧ L2 = L') H (by funext S h; simp) (fun t => by funext S h; simp) (fun t a => by funext S h; simp))
  | iastore =>
    exact am_stp_mo (fun _ _ _ z => z.2 ▸ f _ _ _ _ w z.1) (fun _ _ _ _ z => z.2 ▸ fj _ _ _ _ _ w z.1) (fun _ _ _ _ _ z => z.2 ▸ fc _ _ _ _ _ _ w z.1) (fun _ _ z => z) .iastore (am_stp_at .iastore rfl (nx2 := fun L' S h => nx L S h ∧ L2 = L') (J2 := fun t L' S h => J t L S h ∧ L2 = L') (C2 := fun t a L' S h => C t a L S h ∧ L2 = L') H (by funext S h; simp) (fun t => by funext S h; simp) (fun t a => by funext S h; simp))
  | aaload =>
    exact am_stp_mo (fun _ _ _ z => z.2 ▸ f _ _ _ _ w z.1) (fun _ _ _ _ z => z.2 ▸ fj _ _ _ _ _ w z.1) (fun _ _ _ _ _ z => z.2 ▸ fc _ _ _ _ _ _ w z.1) (fun _ _ z => z) .aaload (am_stp_at .aaload rfl (nx2 := fun L' S h => nx L S h ∧ L2 = L') (J2 := fun t L' S h => J t L S h ∧ L2 = L') (C2 := fun t a L' S h => C t a L S h ∧ L2 = L') H (by funext S h; simp) (fun t => by funext S h; simp) (fun t a => by funext S h; simp))
  | arraylength =>
    exact am_stp_mo (fun _ _ _ z => z.2 ▸ f _ _ _ _ w z.1) (fun _ _ _ _ z => z.2 ▸ fj _ _ _ _ _ w z.1) (fun _ _ _ _ _ z => z.2 ▸ fc _ _ _ _ _ _ w z.1) (fun _ _ z => z) .arraylength (am_stp_at .arraylength rfl (nx2 := fun L' S h => nx L S h ∧ L2 = L') (J2 := fun t L' S h => J t L S h ∧ L2 = L') (C2 := fun t a L' S h => C t a L S h ∧ L2 = L') H (by funext S h; simp) (fun t => by funext S h; simp) (fun t a => by funext S h; simp))
  | invokeinterface r k =>
    exact am_stp_mo (fun _ _ _ z => z.2 ▸ f _ _ _ _ w z.1) (fun _ _ _ _ z => z.2 ▸ fj _ _ _ _ _ w z.1) (fun _ _ _ _ _ z => z.2 ▸ fc _ _ _ _ _ _ w z.1) (fun _ _ z => z) (.invokeinterface r k) (am_stp_at (.invokeinterface r k) rfl (nx2 := fun L' S h => nx L S h ∧ L2 = L') (J2 := fun t L' S h => J t L S h ∧ L2 = L') (C2 := fun t a L' S h => C t a L S h ∧ L2 = L') H (by funext S h; simp) (fun t => by funext S h; simp) (fun t a => by funext S h; simp))
  | invokedynamic k =>
    exact am_stp_mo (fun _ _ _ z => z.2 ▸ f _ _ _ _ w z.1) (fun _ _ _ _ z => z.2 ▸ fj _ _ _ _ _ w z.1) (fun _ _ _ _ _ z => z.2 ▸ fc _ _ _ _ _ _ w z.1) (fun _ _ z => z) (.invokedynamic k) (am_stp_at (.invokedynamic k) rfl (nx2 := fun L' S h => nx L S h ∧ L2 = L') (J2 := fun t L' S h => J t L S h ∧ L2 = L') (C2 := fun t a L' S h => C t a L S h ∧ L2 = L') H (by funext S h; simp) (fun t => by funext S h; simp) (fun t a => by funext S h; simp))
  | ireturn =>
    exact am_stp_mo (fun _ _ _ z => z.2 ▸ f _ _ _ _ w z.1) (fun _ _ _ _ z => z.2 ▸ fj _ _ _ _ _ w z.1) (fun _ _ _ _ _ z => z.2 ▸ fc _ _ _ _ _ _ w z.1) (fun _ _ z => z) .ireturn (am_stp_at .ireturn rfl (nx2 := fun L' S h => nx L S h ∧ L2 = L') (J2 := fun t L' S h => J t L S h ∧ L2 = L') (C2 := fun t a L' S h => C t a L S h ∧ L2 = L') H (by funext S h; simp) (fun t => by funext S h; simp) (fun t a => by funext S h; simp))
  | lreturn =>
    exact am_stp_mo (fun _ _ _ z => z.2 ▸ f _ _ _ _ w z.1) (fun _ _ _ _ z => z.2 ▸ fj _ _ _ _ _ w z.1) (fun _ _ _ _ _ z => z.2 ▸ fc _ _ _ _ _ _ w z.1) (fun _ _ z => z) .lreturn (am_stp_at .lreturn rfl (nx2 := fun L' S h => nx L S h ∧ L2 = L') (J2 := fun t L' S h => J t L S h ∧ L2 = L') (C2 := fun t a L' S h => C t a L S h ∧ L2 = L') H (by funext S h; simp) (fun t => by funext S h; simp) (fun t a => by funext S h; simp))
  | areturn =>
    exact am_stp_mo (fun _ _ _ z => z.2 ▸ f _ _ _ _ w z.1) (fun _ _ _ _ z => z.2 ▸ fj _ _ _ _ _ w z.1) (fun _ _ _ _ _ z => z.2 ▸ fc _ _ _ _ _ _ w z.1) (fun _ _ z => z) .areturn (am_stp_at .areturn rfl (nx2 := fun L' S h => nx L S h ∧ L2 = L') (J2 := fun t L' S h => J t L S h ∧ L2 = L') (C2 := fun t a L' S h => C t a L S h ∧ L2 = L') H (by funext S h; simp) (fun t => by funext S h; simp) (fun t a => by funext S h; simp))
  | return_ =>
    exact am_stp_mo (fun _ _ _ z => z.2 ▸ f _ _ _ _ w z.1) (fun _ _ _ _ z => z.2 ▸ fj _ _ _ _ _ w z.1) (fun _ _ _ _ _ z => z.2 ▸ fc _ _ _ _ _ _ w z.1) (fun _ _ z => z) .return_ (am_stp_at .return_ rfl (nx2 := fun L' S h => nx L S h ∧ L2 = L') (J2 := fun t L' S h => J t L S h ∧ L2 = L') (C2 := fun t a L' S h => C t a L S h ∧ L2 = L') H (by funext S h; simp) (fun t => by funext S h; simp) (fun t a => by funext S h; simp))
  | dreturn =>
    exact am_stp_mo (fun _ _ _ z => z.2 ▸ f _ _ _ _ w z.1) (fun _ _ _ _ z => z.2 ▸ fj _ _ _ _ _ w z.1) (fun _ _ _ _ _ z => z.2 ▸ fc _ _ _ _ _ _ w z.1) (fun _ _ z => z) .dreturn (am_stp_at .dreturn rfl (nx2 := fun L' S h => nx L S h ∧ L2 = L') (J2 := fun t L' S h => J t L S h ∧ L2 = L') (C2 := fun t a L' S h => C t a L S h ∧ L2 = L') H (by funext S h; simp) (fun t => by funext S h; simp) (fun t a => by funext S h; simp))
  | _ => exact H.elim
end WK
def am_WP : am_PT := fun k pc L S h K => ∀ L2, am_le L L2 → am_E k pc L2 S h K
theorem am_WP_clo : am_Clo am_WP := by
  refine ⟨fun k pc L S h K K2 g H L2 w => am_E_mo g (H L2 w), ?_⟩
  intro k pc L S h K q e hq hm hpc hst L2 w
  refine am_E_clo.2 k pc L2 S h K q e hq hm hpc (am_stp_wk w (fun L L2 S h z H => H L2 z) (fun t L L2 S h z H => H L2 z) ?_ e.2.1 hst)
  rintro id aa L L2 S h z ⟨y, hy, hz⟩
  exact ⟨y, hy, am_ent_mo _ _ (fun L3 q => am_E_mo (fun r h1 q2 => q2 L2 z) (q L3 (am_le_rf L3))) hz⟩
theorem am_wk {k pc : Nat} {L L2 : AL} {S : List Value} {h : AH} {K : Option Value → AH → Prop} (w : am_le L L2) (H : am_E k pc L S h K) : am_E k pc L2 S h K := by
  rw [am_E_def] at H
  exact H am_WP am_WP_clo L2 w

