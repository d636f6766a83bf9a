/-! a step is monotone in what comes behind it -/
theorem am_g_mo : ∀ (L : AL) (i : Nat) {k k2 : Value → Prop}, (∀ v, k v → k2 v) → am_g L i k → am_g L i k2
  | [], _, _, _, _, h => h
  | some _ :: _, 0, _, _, f, h => f _ h
  | none :: _, 0, _, _, _, h => h
  | some _ :: t, n + 1, _, _, f, h => am_g_mo t n f h
  | none :: t, n + 1, _, _, f, h => am_g_mo t n f h
theorem am_nl_mo (o : Option Value) {k k2 : Option Value → Prop} (f : ∀ v, k v → k2 v) (h : am_nl o k) : am_nl o k2 := by
  cases o with
  | none => exact f _ h
  | some w => cases w <;> exact f _ h
theorem am_st_mo : ∀ (i : Nat) (L : AL) (v : Value) {k k2 : AL → Prop}, (∀ L, k L → k2 L) → am_st L i v k → am_st L i v k2
  | 0, [], _, _, _, _, h => h
  | _ + 1, [], _, _, _, _, h => h
  | 0, _ :: _, _, _, _, f, h => f _ h
  | 1, [_], _, _, _, _, h => h
  | 1, o :: _ :: t, v, k, k2, f, h => am_nl_mo o (k := fun o2 => k (o2 :: some v :: t)) (k2 := fun o2 => k2 (o2 :: some v :: t)) (fun _ q => f _ q) h
  | n + 2, o :: t, v, k, k2, f, h => am_st_mo (n + 1) t v (k := fun t2 => k (o :: t2)) (k2 := fun t2 => k2 (o :: t2)) (fun _ q => f _ q) h
theorem am_st2_mo : ∀ (i : Nat) (L : AL) (v : Value) {k k2 : AL → Prop}, (∀ L, k L → k2 L) → am_st2 L i v k → am_st2 L i v k2
  | 0, [], _, _, _, _, h => h
  | _ + 1, [], _, _, _, _, h => h
  | 0, [_], _, _, _, _, h => h
  | 0, _ :: _ :: _, _, _, _, f, h => f _ h
  | 1, [_], _, _, _, _, h => h
  | 1, [_, _], _, _, _, _, h => h
  | 1, o :: _ :: _ :: t, v, k, k2, f, h => am_nl_mo o (k := fun o2 => k (o2 :: some v :: none :: t)) (k2 := fun o2 => k2 (o2 :: some v :: none :: t)) (fun _ q => f _ q) h
  | n + 2, o :: t, v, k, k2, f, h => am_st2_mo (n + 1) t v (k := fun t2 => k (o :: t2)) (k2 := fun t2 => k2 (o :: t2)) (fun _ q => f _ q) h
theorem am_pad_mo : ∀ (n : Nat) {k k2 : AL → Prop}, (∀ L, k L → k2 L) → am_pad n k → am_pad n k2
  | 0, _, _, f, h => f _ h
  | n + 1, k, k2, f, h => am_pad_mo n (k := fun t => k (none :: t)) (k2 := fun t => k2 (none :: t)) (fun _ q => f _ q) h
theorem am_ent_mo : ∀ (vs : List Value) (n : Nat) {k k2 : AL → Prop}, (∀ L, k L → k2 L) → am_ent vs n k → am_ent vs n k2
  | [], n, _, _, f, h => am_pad_mo n f h
  | v :: vs, n, k, k2, f, h => by
    cases v with
    | long x =>
      match n, h with
      | m + 2, h => exact am_ent_mo vs m (k := fun t => k (some (.long x) :: none :: t)) (k2 := fun t => k2 (some (.long x) :: none :: t)) (fun _ q => f _ q) h
      | 0, h => exact h.elim
      | 1, h => exact h.elim
    | double x => exact h.elim
    | int x =>
      cases n with
      | zero => exact h.elim
      | succ m => exact am_ent_mo vs m (k := fun t => k (some (.int x) :: t)) (k2 := fun t => k2 (some (.int x) :: t)) (fun _ q => f _ q) h
    | float x =>
      cases n with
      | zero => exact h.elim
      | succ m => exact am_ent_mo vs m (k := fun t => k (some (.float x) :: t)) (k2 := fun t => k2 (some (.float x) :: t)) (fun _ q => f _ q) h
    | null =>
      cases n with
      | zero => exact h.elim
      | succ m => exact am_ent_mo vs m (k := fun t => k (some .null :: t)) (k2 := fun t => k2 (some .null :: t)) (fun _ q => f _ q) h
    | ref x =>
      cases n with
      | zero => exact h.elim
      | succ m => exact am_ent_mo vs m (k := fun t => k (some (.ref x) :: t)) (k2 := fun t => k2 (some (.ref x) :: t)) (fun _ q => f _ q) h
    | retAddr x =>
      cases n with
      | zero => exact h.elim
      | succ m => exact am_ent_mo vs m (k := fun t => k (some (.retAddr x) :: t)) (k2 := fun t => k2 (some (.retAddr x) :: t)) (fun _ q => f _ q) h
theorem am_hg_mo : ∀ (h : AH) (a : Nat) {k k2 : AC → Prop}, (∀ c, k c → k2 c) → am_hg h a k → am_hg h a k2
  | [], _, _, _, _, h => h
  | _ :: _, 0, _, _, f, h => f _ h
  | _ :: t, n + 1, _, _, f, h => am_hg_mo t n f h
theorem am_hs_mo : ∀ (h : AH) (a : Nat) (c : AC) {k k2 : AH → Prop}, (∀ h, k h → k2 h) → am_hs h a c k → am_hs h a c k2
  | [], _, _, _, _, _, h => h
  | _ :: _, 0, _, _, _, f, h => f _ h
  | x :: t, n + 1, c, k, k2, f, h => am_hs_mo t n c (k := fun t2 => k (x :: t2)) (k2 := fun t2 => k2 (x :: t2)) (fun _ q => f _ q) h
theorem am_fg_mo : ∀ (h : List Value) (a : Nat) {k k2 : Value → Prop}, (∀ c, k c → k2 c) → am_fg h a k → am_fg h a k2
  | [], _, _, _, _, h => h
  | _ :: _, 0, _, _, f, h => f _ h
  | _ :: t, n + 1, _, _, f, h => am_fg_mo t n f h
theorem am_fs_mo : ∀ (h : List Value) (a : Nat) (c : Value) {k k2 : List Value → Prop}, (∀ h, k h → k2 h) → am_fs h a c k → am_fs h a c k2
  | [], _, _, _, _, _, h => h
  | _ :: _, 0, _, _, _, f, h => f _ h
  | x :: t, n + 1, c, k, k2, f, h => am_fs_mo t n c (k := fun t2 => k (x :: t2)) (k2 := fun t2 => k2 (x :: t2)) (fun _ q => f _ q) h
theorem am_pop_mo : ∀ (n : Nat) (S acc : List Value) {k k2 : List Value → List Value → Prop}, (∀ a b, k a b → k2 a b) → am_pop n S acc k → am_pop n S acc k2
  | 0, _, _, _, _, f, h => f _ _ h
  | _ + 1, [], _, _, _, _, h => h
  | n + 1, v :: S, acc, _, _, f, h => am_pop_mo n S (v :: acc) f h
theorem am_b_mo {c A B A2 B2 : Prop} (f : A → A2) (g : B → B2) (h : am_b c A B) : am_b c A2 B2 := ⟨fun q => f (h.1 q), fun q => g (h.2 q)⟩
theorem am_c1_mo {A B A2 B2 : Prop} (c : Jvm.ClassFile.Cond) (x : Int32) (f : A → A2) (g : B → B2) (h : am_c1 c x A B) : am_c1 c x A2 B2 := by
  cases c <;> first | exact am_b_mo f g h | exact am_b_mo g f h
theorem am_c2_mo {A B A2 B2 : Prop} (c : Jvm.ClassFile.Cond) (x y : Int32) (f : A → A2) (g : B → B2) (h : am_c2 c x y A B) : am_c2 c x y A2 B2 := by
  cases c <;> first | exact am_b_mo f g h | exact am_b_mo g f h
theorem am_tab_mo (x : Int32) {J J2 : Nat → Prop} {D D2 : Prop} (f : ∀ t, J t → J2 t) (g : D → D2) : ∀ (ts : List Int) (c : Nat), am_tab x c ts J D → am_tab x c ts J2 D2
  | [], _, h => g h
  | _ :: ts, c, h => am_b_mo (f _) (am_tab_mo x f g ts (c + 1)) h
theorem am_lkp_mo (x : Int32) {J J2 : Nat → Prop} {D D2 : Prop} (f : ∀ t, J t → J2 t) (g : D → D2) : ∀ (ts : List (Int × Int)), am_lkp x ts J D → am_lkp x ts J2 D2
  | [], h => g h
  | _ :: ts, h => am_b_mo (f _) (am_lkp_mo x f g ts) h
theorem am_pv_mo {t : Nat} {v : Value} {P P2 : Prop} (f : P → P2) (h : am_pv t v P) : am_pv t v P2 := by
  match t, h with
  | 0, h => cases v <;> first | exact f h | exact h.elim
  | 1, h => cases v <;> first | exact f h | exact h.elim
  | 2, h => cases v <;> first | exact ⟨h.1, f h.2⟩ | exact h.elim
  | _ + 3, h => exact h.elim
theorem am_if_mo {b : Bool} {P P2 : Prop} (f : P → P2) (h : bif b then P else False) : bif b then P2 else False := by
  cases b
  · exact h
  · exact f h
section MO
variable {nx nx2 : AL → List Value → AH → Prop} {J J2 : Nat → AL → List Value → AH → Prop} {C C2 : Nat → List Value → AL → List Value → AH → Prop} {Rr R2 : Option Value → AH → Prop} {L : AL} {S : List Value} {h : AH}
theorem am_stp_mo (f : ∀ L S h, nx L S h → nx2 L S h) (fj : ∀ t L S h, J t L S h → J2 t L S h) (fc : ∀ t a L S h, C t a L S h → C2 t a L S h) (fr : ∀ r h, Rr r h → R2 r h) : ∀ ri : Instr, am_stp ri nx J C Rr L S h → am_stp ri nx2 J2 C2 R2 L S h := by
  have spl : ∀ (T : Value → Prop) (T2 : Value → Prop), (∀ v, T v → T2 v) → ∀ i, am_g L i T → am_g L i T2 := fun T T2 q i hq => am_g_mo L i q hq
  intro ri H
  cases ri with
  | iload i =>
    exact am_g_mo L i (fun v hv => by cases v <;> first | exact f _ _ _ hv | exact hv.elim) H
  | lload i =>
    exact am_g_mo L i (fun v hv => by cases v <;> first | exact f _ _ _ hv | exact hv.elim) H
  | aload i =>
    exact am_g_mo L i (fun v hv => by cases v <;> first | exact f _ _ _ hv | exact hv.elim) H
  | istore i =>
    dsimp only [am_stp] at H ⊢
    split at H
    · exact am_st_mo i L _ (fun _ q => f _ _ _ q) H
    · exact H.elim
  | astore i =>
    dsimp only [am_stp] at H ⊢
    split at H
    · exact am_st_mo i L _ (fun _ q => f _ _ _ q) H
    · exact H.elim
  | lstore i =>
    dsimp only [am_stp] at H ⊢
    split at H
    · exact am_st2_mo i L _ (fun _ q => f _ _ _ q) H
    · exact H.elim
  | iinc i k =>
    exact am_g_mo L i (fun v hv => by cases v <;> first | exact am_st_mo i L _ (fun _ q => f _ _ _ q) hv | exact hv.elim) H
  | anewarray k =>
    exact f _ _ _ H
  | iconst k =>
    exact f _ _ _ H
  | ldc2_w k =>
    exact f _ _ _ H
  | iadd =>
    dsimp only [am_stp] at H ⊢
    split at H
    · exact f _ _ _ H
    · exact H.elim
  | isub =>
    dsimp only [am_stp] at H ⊢
    split at H
    · exact f _ _ _ H
    · exact H.elim
  | imul =>
    dsimp only [am_stp] at H ⊢
    split at H
    · exact f _ _ _ H
    · exact H.elim
  | iand =>
    dsimp only [am_stp] at H ⊢
    split at H
    · exact f _ _ _ H
    · exact H.elim
  | ior =>
    dsimp only [am_stp] at H ⊢
    split at H
    · exact f _ _ _ H
    · exact H.elim
  | ixor =>
    dsimp only [am_stp] at H ⊢
    split at H
    · exact f _ _ _ H
    · exact H.elim
  | ineg =>
    dsimp only [am_stp] at H ⊢
    split at H
    · exact f _ _ _ H
    · exact H.elim
  | ishl =>
    dsimp only [am_stp] at H ⊢
    split at H
    · exact f _ _ _ H
    · exact H.elim
  | ishr =>
    dsimp only [am_stp] at H ⊢
    split at H
    · exact f _ _ _ H
    · exact H.elim
  | iushr =>
    dsimp only [am_stp] at H ⊢
    split at H
    · exact f _ _ _ H
    · exact H.elim
  | ladd =>
    dsimp only [am_stp] at H ⊢
    split at H
    · exact f _ _ _ H
    · exact H.elim
  | lsub =>
    dsimp only [am_stp] at H ⊢
    split at H
    · exact f _ _ _ H
    · exact H.elim
  | lmul =>
    dsimp only [am_stp] at H ⊢
    split at H
    · exact f _ _ _ H
    · exact H.elim
  | land =>
    dsimp only [am_stp] at H ⊢
    split at H
    · exact f _ _ _ H
    · exact H.elim
  | lor =>
    dsimp only [am_stp] at H ⊢
    split at H
    · exact f _ _ _ H
    · exact H.elim
  | lshl =>
    dsimp only [am_stp] at H ⊢
    split at H
    · exact f _ _ _ H
    · exact H.elim
  | lshr =>
    dsimp only [am_stp] at H ⊢
    split at H
    · exact f _ _ _ H
    · exact H.elim
  | lushr =>
    dsimp only [am_stp] at H ⊢
    split at H
    · exact f _ _ _ H
    · exact H.elim
  | i2l =>
    dsimp only [am_stp] at H ⊢
    split at H
    · exact f _ _ _ H
    · exact H.elim
  | l2i =>
    dsimp only [am_stp] at H ⊢
    split at H
    · exact f _ _ _ H
    · exact H.elim
  | lcmp =>
    dsimp only [am_stp] at H ⊢
    split at H
    · exact f _ _ _ H
    · exact H.elim
  | idiv =>
    dsimp only [am_stp] at H ⊢
    split at H
    · exact ⟨H.1, f _ _ _ H.2⟩
    · exact H.elim
  | irem =>
    dsimp only [am_stp] at H ⊢
    split at H
    · exact ⟨H.1, f _ _ _ H.2⟩
    · exact H.elim
  | ldiv =>
    dsimp only [am_stp] at H ⊢
    split at H
    · exact ⟨H.1, f _ _ _ H.2⟩
    · exact H.elim
  | lrem =>
    dsimp only [am_stp] at H ⊢
    split at H
    · exact ⟨H.1, f _ _ _ H.2⟩
    · exact H.elim
  | dup =>
    dsimp only [am_stp] at H ⊢
    split at H
    · exact f _ _ _ H
    · exact f _ _ _ H
    · exact H.elim
  | dup2 =>
    dsimp only [am_stp] at H ⊢
    split at H
    · exact f _ _ _ H
    · exact f _ _ _ H
    · exact H.elim
  | pop =>
    dsimp only [am_stp] at H ⊢
    split at H
    · exact f _ _ _ H
    · exact f _ _ _ H
    · exact H.elim
  | if_icmp c t =>
    dsimp only [am_stp] at H ⊢
    split at H
    · exact am_c2_mo c _ _ (fj _ _ _ _) (f _ _ _) H
    · exact H.elim
  | ifCond c t =>
    dsimp only [am_stp] at H ⊢
    split at H
    · exact am_c1_mo c _ (fj _ _ _ _) (f _ _ _) H
    · exact H.elim
  | goto t =>
    exact fj _ _ _ _ H
  | tableswitch d lo hi ts =>
    dsimp only [am_stp] at H ⊢
    split at H
    · exact am_tab_mo _ (fun t q => fj _ _ _ _ q) (fj _ _ _ _) _ _ H
    · exact H.elim
  | lookupswitch d ps =>
    dsimp only [am_stp] at H ⊢
    split at H
    · exact am_lkp_mo _ (fun t q => fj _ _ _ _ q) (fj _ _ _ _) _ H
    · exact H.elim
  | getfield r =>
    dsimp only [am_stp] at H ⊢
    split at H
    · refine am_hg_mo h _ (fun c hc => ?_) H
      split at hc
      · exact am_if_mo (am_fg_mo _ _ (fun v q => f _ _ _ q)) hc
      · exact hc.elim
    · exact H.elim
  | putfield r =>
    dsimp only [am_stp] at H ⊢
    split at H
    · refine am_hg_mo h _ (fun c hc => ?_) H
      split at hc
      · exact am_if_mo (am_pv_mo (am_fs_mo _ _ _ (fun fs q => am_hs_mo h _ _ (fun h q => f _ _ _ q) q))) hc
      · exact hc.elim
    · exact H.elim
  | iaload =>
    dsimp only [am_stp] at H ⊢
    split at H
    · refine am_hg_mo h _ (fun c hc => ?_) H
      split at hc
      · exact ⟨hc.1, f _ _ _ hc.2⟩
      · exact hc.elim
    · exact H.elim
  | iastore =>
    dsimp only [am_stp] at H ⊢
    split at H
    · refine am_hg_mo h _ (fun c hc => ?_) H
      split at hc
      · exact ⟨hc.1, am_hs_mo h _ _ (fun h q => f _ _ _ q) hc.2⟩
      · exact hc.elim
    · exact H.elim
  | aaload =>
    dsimp only [am_stp] at H ⊢
    split at H
    · refine am_hg_mo h _ (fun c hc => ?_) H
      split at hc
      · refine ⟨hc.1, ?_⟩
        have h2 := hc.2
        split at h2
        · exact f _ _ _ h2
        · exact h2.elim
      · exact hc.elim
    · exact H.elim
  | arraylength =>
    dsimp only [am_stp] at H ⊢
    split at H
    · refine am_hg_mo h _ (fun c hc => ?_) H
      split at hc
      · exact f _ _ _ hc
      · exact hc.elim
    · exact H.elim
  | invokeinterface r k =>
    refine am_pop_mo k S [] (fun a b hq => am_if_mo (fun hz => ?_) hq) H
    split at hz
    · exact fc _ _ _ _ _ hz
    · split at hz
      · refine am_hg_mo h _ (fun c hc => ?_) hz
        split at hc
        · exact am_if_mo (fc _ _ _ _ _) hc
        · exact hc.elim
      · exact hz.elim
  | invokedynamic k =>
    match k, H with
    | 0, H =>
      have H : am_i0 nx L S h := H
      show am_i0 nx2 L S h
      unfold am_i0 at H ⊢
      split at H
      · refine am_if_mo (fun hz => am_hg_mo h _ (fun c0 h0 => am_hg_mo h _ (fun c1 h1 => ?_) h0) hz) H
        split at h1
        · split at h1
          · exact ⟨h1.1, am_hs_mo h _ _ (fun h q => f _ _ _ q) h1.2⟩
          · exact h1.elim
        · exact h1.elim
      · exact H.elim
    | 1, H =>
      have H : am_i1 nx L S h := H
      show am_i1 nx2 L S h
      unfold am_i1 at H ⊢
      split at H
      · exact am_if_mo (f _ _ _) H
      · exact H.elim
    | 2, H =>
      have H : am_i2 nx L S h := H
      show am_i2 nx2 L S h
      unfold am_i2 at H ⊢
      split at H
      · exact am_if_mo (f _ _ _) H
      · exact H.elim
    | 3, H =>
      have H : am_i3 nx L S h := H
      show am_i3 nx2 L S h
      unfold am_i3 at H ⊢
      split at H
      · exact am_if_mo (f _ _ _) H
      · exact H.elim
    | 4, H =>
      have H : am_i4 nx L S h := H
      show am_i4 nx2 L S h
      unfold am_i4 at H ⊢
      split at H
      · exact am_if_mo (f _ _ _) H
      · exact H.elim
    | _ + 5, H => exact H.elim
  | ireturn =>
    dsimp only [am_stp] at H ⊢
    split at H
    · exact fr _ _ H
    · exact H.elim
  | lreturn =>
    dsimp only [am_stp] at H ⊢
    split at H
    · exact fr _ _ H
    · exact H.elim
  | areturn =>
    dsimp only [am_stp] at H ⊢
    split at H
    · exact fr _ _ H
    · exact H.elim
  | return_ =>
    dsimp only [am_stp] at H ⊢
    split at H
    · exact fr _ _ H
    · exact H.elim
  | dreturn =>
    dsimp only [am_stp] at H ⊢
    split at H
    · exact ⟨H.1, fr _ _ H.2⟩
    · exact H.elim
  | _ => exact H.elim
end MO
