/-! THE FRAME: what is shown over a few cells holds over any heap that holds them at places of its own -/
def am_rc (f : Nat → Nat) : AC → AC
  | .inl q => .inl q
  | .inr (.inl q) => .inr (.inl (q.1, fun k => (q.2 k).map f))
  | .inr (.inr q) => .inr (.inr (q.1, q.2.map (am_cv f)))
def am_emb (f : Nat → Nat) (h H : AH) : Prop := ∀ (i : Nat) (c : AC), h[i]? = some c → H[f i]? = some (am_rc f c)
def am_inj (f : Nat → Nat) (n : Nat) : Prop := ∀ i j, i < n → j < n → f i = f j → i = j
/-- H is B but for the places of n cells -/
def am_out (f : Nat → Nat) (n : Nat) (B H : AH) : Prop := H.length = B.length ∧ ∀ j, (∀ i, i < n → f i ≠ j) → H[j]? = B[j]?
abbrev am_rL (f : Nat → Nat) (L : AL) : AL := L.map (fun o => o.map (am_cv f))
abbrev am_rS (f : Nat → Nat) (S : List Value) : List Value := S.map (am_cv f)
theorem am_g_rn (f : Nat → Nat) : ∀ (L : AL) (i : Nat) {k k2 : Value → Prop}, (∀ v, k v → k2 (am_cv f v)) → am_g L i k → am_g (am_rL f L) i k2
  | [], _, _, _, _, h => h
  | some _ :: _, 0, _, _, g, h => g _ h
  | none :: _, 0, _, _, _, h => h
  | some _ :: t, n + 1, _, _, g, h => am_g_rn f t n g h
  | none :: t, n + 1, _, _, g, h => am_g_rn f t n g h
theorem am_nl_rn (f : Nat → Nat) (o : Option Value) {k k2 : Option Value → Prop} (g : ∀ v, k v → k2 (v.map (am_cv f))) (h : am_nl o k) : am_nl (o.map (am_cv f)) k2 := by
  cases o with
  | none => exact g _ h
  | some w => cases w <;> exact g _ h
theorem am_st_rn (f : Nat → Nat) : ∀ (i : Nat) (L : AL) (v : Value) {k k2 : AL → Prop}, (∀ L, k L → k2 (am_rL f L)) → am_st L i v k → am_st (am_rL f L) i (am_cv f v) k2
  | 0, [], _, _, _, _, h => h
  | _ + 1, [], _, _, _, _, h => h
  | 0, _ :: _, _, _, _, g, h => g _ h
  | 1, [_], _, _, _, _, h => h
  | 1, o :: _ :: t, v, k, k2, g, h => am_nl_rn f o (k := fun o2 => k (o2 :: some v :: t)) (k2 := fun o2 => k2 (o2 :: some (am_cv f v) :: am_rL f t)) (fun _ q => g _ q) h
  | n + 2, o :: t, v, k, k2, g, h => am_st_rn f (n + 1) t v (k := fun t2 => k (o :: t2)) (k2 := fun t2 => k2 (o.map (am_cv f) :: t2)) (fun _ q => g _ q) h
theorem am_st2_rn (f : Nat → Nat) : ∀ (i : Nat) (L : AL) (v : Value) {k k2 : AL → Prop}, (∀ L, k L → k2 (am_rL f L)) → am_st2 L i v k → am_st2 (am_rL f L) i (am_cv f v) k2
  | 0, [], _, _, _, _, h => h
  | _ + 1, [], _, _, _, _, h => h
  | 0, [_], _, _, _, _, h => h
  | 0, _ :: _ :: _, _, _, _, g, h => g _ h
  | 1, [_], _, _, _, _, h => h
  | 1, [_, _], _, _, _, _, h => h
  | 1, o :: _ :: _ :: t, v, k, k2, g, h => am_nl_rn f o (k := fun o2 => k (o2 :: some v :: none :: t)) (k2 := fun o2 => k2 (o2 :: some (am_cv f v) :: none :: am_rL f t)) (fun _ q => g _ q) h
  | n + 2, o :: t, v, k, k2, g, h => am_st2_rn f (n + 1) t v (k := fun t2 => k (o :: t2)) (k2 := fun t2 => k2 (o.map (am_cv f) :: t2)) (fun _ q => g _ q) h
theorem am_pad_rn (f : Nat → Nat) : ∀ (n : Nat) {k k2 : AL → Prop}, (∀ L, k L → k2 (am_rL f L)) → am_pad n k → am_pad n k2
  | 0, _, _, g, h => g _ h
  | n + 1, k, k2, g, h => am_pad_rn f n (k := fun t => k (none :: t)) (k2 := fun t => k2 (none :: t)) (fun _ q => g _ q) h
theorem am_ent_rn (f : Nat → Nat) : ∀ (vs : List Value) (n : Nat) {k k2 : AL → Prop}, (∀ L, k L → k2 (am_rL f L)) → am_ent vs n k → am_ent (am_rS f vs) n k2
  | [], n, _, _, g, h => am_pad_rn f n g h
  | v :: vs, n, k, k2, g, h => by
    cases v with
    | long x =>
      match n, h with
      | m + 2, h => exact am_ent_rn f vs m (k := fun t => k (some (.long x) :: none :: t)) (k2 := fun t => k2 (some (.long x) :: none :: t)) (fun _ q => g _ q) h
      | 0, h => exact h.elim
      | 1, h => exact h.elim
    | double x => exact h.elim
    | int x =>
      cases n with
      | zero => exact h.elim
      | succ m => exact am_ent_rn f vs m (k := fun t => k (some (.int x) :: t)) (k2 := fun t => k2 (some (.int x) :: t)) (fun _ q => g _ q) h
    | float x =>
      cases n with
      | zero => exact h.elim
      | succ m => exact am_ent_rn f vs m (k := fun t => k (some (.float x) :: t)) (k2 := fun t => k2 (some (.float x) :: t)) (fun _ q => g _ q) h
    | null =>
      cases n with
      | zero => exact h.elim
      | succ m => exact am_ent_rn f vs m (k := fun t => k (some .null :: t)) (k2 := fun t => k2 (some .null :: t)) (fun _ q => g _ q) h
    | ref x =>
      cases n with
      | zero => exact h.elim
      | succ m => exact am_ent_rn f vs m (k := fun t => k (some (.ref x) :: t)) (k2 := fun t => k2 (some (.ref (f x)) :: t)) (fun _ q => g _ q) h
    | retAddr x =>
      cases n with
      | zero => exact h.elim
      | succ m => exact am_ent_rn f vs m (k := fun t => k (some (.retAddr x) :: t)) (k2 := fun t => k2 (some (.retAddr x) :: t)) (fun _ q => g _ q) h
theorem am_hg_iff : ∀ (h : AH) (a : Nat) (k : AC → Prop) (c : AC), h[a]? = some c → k c → am_hg h a k
  | [], _, _, _, q, _ => by simp at q
  | _ :: _, 0, _, _, q, hk => by simp at q; subst q; exact hk
  | _ :: t, n + 1, k, c, q, hk => am_hg_iff t n k c (by simpa using q) hk
theorem am_hs_iff : ∀ (h : AH) (a : Nat) (c : AC) (k : AH → Prop), a < h.length → k (h.set a c) → am_hs h a c k
  | [], _, _, _, q, _ => by simp at q
  | _ :: _, 0, _, _, _, hk => by simpa [am_hs] using hk
  | x :: t, n + 1, c, k, q, hk => by
    simp only [am_hs]
    exact am_hs_iff t n c _ (by simpa using q) (by simpa using hk)
theorem am_fg_rn (f : Nat → Nat) : ∀ (h : List Value) (a : Nat) {k k2 : Value → Prop}, (∀ c, k c → k2 (am_cv f c)) → am_fg h a k → am_fg (am_rS f h) a k2
  | [], _, _, _, _, h => h
  | _ :: _, 0, _, _, g, h => g _ h
  | _ :: t, n + 1, _, _, g, h => am_fg_rn f t n g h
theorem am_fs_rn (f : Nat → Nat) : ∀ (h : List Value) (a : Nat) (c : Value) {k k2 : List Value → Prop}, (∀ h, k h → k2 (am_rS f h)) → am_fs h a c k → am_fs (am_rS f h) a (am_cv f c) k2
  | [], _, _, _, _, _, h => h
  | _ :: _, 0, _, _, _, g, h => g _ h
  | x :: t, n + 1, c, k, k2, g, h => am_fs_rn f t n c (k := fun t2 => k (x :: t2)) (k2 := fun t2 => k2 (am_cv f x :: t2)) (fun _ q => g _ q) h
theorem am_pop_rn (f : Nat → Nat) : ∀ (n : Nat) (S acc : List Value) {k k2 : List Value → List Value → Prop}, (∀ a b, k a b → k2 (am_rS f a) (am_rS f b)) → am_pop n S acc k → am_pop n (am_rS f S) (am_rS f acc) k2
  | 0, _, _, _, _, g, h => g _ _ h
  | _ + 1, [], _, _, _, _, h => h
  | n + 1, v :: S, acc, _, _, g, h => am_pop_rn f n S (v :: acc) g h
theorem am_pv_rn {f : Nat → Nat} {t : Nat} {v : Value} {P P2 : Prop} (g : P → P2) (h : am_pv t v P) : am_pv t (am_cv f v) P2 := by
  match t, h with
  | 0, h => cases v <;> first | exact g h | exact h.elim
  | 1, h => cases v <;> first | exact g h | exact h.elim
  | 2, h => cases v <;> first | exact ⟨h.1, g h.2⟩ | exact h.elim
  | _ + 3, h => exact h.elim
theorem am_psh_rn (f : Nat → Nat) (r : Option Value) (S : List Value) : am_rS f (am_psh r S) = am_psh (r.map (am_cv f)) (am_rS f S) := by cases r <;> rfl
/-- a cell written on both sides -/
theorem am_emb_set {f : Nat → Nat} {n : Nat} {h H B : AH} (hn : h.length = n) (hi : am_inj f n) (he : am_emb f h H) (ho : am_out f n B H) {a : Nat} (ha : a < h.length) (c : AC) : f a < H.length ∧ am_emb f (h.set a c) (H.set (f a) (am_rc f c)) ∧ am_out f n B (H.set (f a) (am_rc f c)) := by
  have hlt : f a < H.length := by
    have := he a _ (List.getElem?_eq_getElem ha)
    exact (List.getElem?_eq_some_iff.mp this).1
  refine ⟨hlt, fun i x hx => ?_, ⟨by rw [List.length_set]; exact ho.1, fun j hj => ?_⟩⟩
  · by_cases hia : i = a
    · subst hia
      rw [List.getElem?_set_self ha] at hx
      cases hx
      rw [List.getElem?_set_self hlt]
    · rw [List.getElem?_set_ne (Ne.symm hia)] at hx
      have hil : i < h.length := (List.getElem?_eq_some_iff.mp hx).1
      rw [List.getElem?_set_ne (fun z => hia (hi _ _ (by omega) (by omega) z.symm))]
      exact he i x hx
  · rw [List.getElem?_set_ne (hj a (by omega))]
    exact ho.2 j hj
section FR
variable {f : Nat → Nat} {n : Nat} {B H : AH} {nx nx2 : AL → List Value → AH → Prop} {J J2 : Nat → AL → List Value → AH → Prop} {C C2 : Nat → List Value → AL → List Value → AH → Prop} {Rr R2 : Option Value → AH → Prop} {L : AL} {S : List Value} {h : AH}
theorem am_i0_rn (he : am_emb f h H) (gs : ∀ (a : Nat) (c : AC) (L : AL) (S : List Value), am_hs h a c (fun h => nx L S h) → am_hs H (f a) (am_rc f c) (fun h => nx2 (am_rL f L) (am_rS f S) h)) (Hs : am_i0 nx L S h) : am_i0 nx2 (am_rL f L) (am_rS f S) H := by
  unfold am_i0 at Hs
  split at Hs
  · rename_i k dp b sp a S2
    obtain ⟨h1, hz⟩ := am_if_sp Hs
    have h2 : Nat.ble (am_cat (am_rS f S2)) 8 = true := by rw [am_cat_cv]; exact h1
    obtain ⟨c0, h3, h4⟩ := am_hg_sp _ _ _ hz
    obtain ⟨c1, h5, h6⟩ := am_hg_sp _ _ _ h4
    show (bif Nat.ble (am_cat (am_rS f S2)) 8 then _ else False)
    rw [h2]
    refine am_hg_iff _ _ _ _ (he _ _ h3) (am_hg_iff _ _ _ _ (he _ _ h5) ?_)
    split at h6
    · split at h6
      · exact ⟨h6.1, gs _ _ _ _ h6.2⟩
      · exact h6.elim
    · exact h6.elim
  · exact Hs.elim
theorem am_i1_rn (gn : ∀ L S, nx L S h → nx2 (am_rL f L) (am_rS f S) H) (Hs : am_i1 nx L S h) : am_i1 nx2 (am_rL f L) (am_rS f S) H := by
  unfold am_i1 at Hs
  split at Hs
  · obtain ⟨h1, hz⟩ := am_if_sp Hs
    unfold am_i1
    simp only [am_rS, List.map_cons, am_cv, am_cat_cv, h1, cond_true]
    exact gn _ _ hz
  · exact Hs.elim
theorem am_i2_rn (gn : ∀ L S, nx L S h → nx2 (am_rL f L) (am_rS f S) H) (Hs : am_i2 nx L S h) : am_i2 nx2 (am_rL f L) (am_rS f S) H := by
  unfold am_i2 at Hs
  split at Hs
  · obtain ⟨h1, hz⟩ := am_if_sp Hs
    unfold am_i2
    simp only [am_rS, List.map_cons, am_cv, am_cat_cv, h1, cond_true]
    exact gn _ _ hz
  · exact Hs.elim
theorem am_i3_rn (gn : ∀ L S, nx L S h → nx2 (am_rL f L) (am_rS f S) H) (Hs : am_i3 nx L S h) : am_i3 nx2 (am_rL f L) (am_rS f S) H := by
  unfold am_i3 at Hs
  split at Hs
  · obtain ⟨h1, hz⟩ := am_if_sp Hs
    unfold am_i3
    simp only [am_rS, List.map_cons, am_cv, am_cat_cv, h1, cond_true]
    exact gn _ _ hz
  · exact Hs.elim
theorem am_i4_rn (gn : ∀ L S, nx L S h → nx2 (am_rL f L) (am_rS f S) H) (Hs : am_i4 nx L S h) : am_i4 nx2 (am_rL f L) (am_rS f S) H := by
  unfold am_i4 at Hs
  split at Hs
  · obtain ⟨h1, hz⟩ := am_if_sp Hs
    unfold am_i4
    simp only [am_rS, List.map_cons, am_cv, am_cat_cv, h1, cond_true]
    exact gn _ _ hz
  · exact Hs.elim
theorem am_stp_rn (hi : am_inj f n) (hn : h.length = n) (he : am_emb f h H) (ho : am_out f n B H) (g : ∀ L S h H, nx L S h → h.length = n → am_emb f h H → am_out f n B H → nx2 (am_rL f L) (am_rS f S) H) (gj : ∀ t L S h H, J t L S h → h.length = n → am_emb f h H → am_out f n B H → J2 t (am_rL f L) (am_rS f S) H) (gc : ∀ t a L S h H, C t a L S h → h.length = n → am_emb f h H → am_out f n B H → C2 t (am_rS f a) (am_rL f L) (am_rS f S) H) (gr : ∀ r h H, Rr r h → h.length = n → am_emb f h H → am_out f n B H → R2 (r.map (am_cv f)) H) : ∀ ri : Instr, am_stp ri nx J C Rr L S h → am_stp ri nx2 J2 C2 R2 (am_rL f L) (am_rS f S) H := by
  have gn : ∀ L S, nx L S h → nx2 (am_rL f L) (am_rS f S) H := fun L S z => g L S h H z hn he ho
  have gjn : ∀ t L S, J t L S h → J2 t (am_rL f L) (am_rS f S) H := fun t L S z => gj t L S h H z hn he ho
  have gs : ∀ (a : Nat) (c : AC) (L : AL) (S : List Value), am_hs h a c (fun h => nx L S h) → am_hs H (f a) (am_rc f c) (fun h => nx2 (am_rL f L) (am_rS f S) h) := by
    intro a c L S z
    obtain ⟨z1, z2⟩ := am_hs_sp _ _ _ _ z
    obtain ⟨y1, y2, y3⟩ := am_emb_set hn hi he ho z2 c
    exact am_hs_iff _ _ _ _ y1 (g _ _ _ _ z1 (by simpa using hn) y2 y3)
  intro ri Hs
  cases ri with
  | iload i =>
    exact am_g_rn f L i (fun v hv => by cases v <;> first | exact gn _ _ hv | exact hv.elim) Hs
  | lload i =>
    exact am_g_rn f L i (fun v hv => by cases v <;> first | exact gn _ _ hv | exact hv.elim) Hs
  | aload i =>
    exact am_g_rn f L i (fun v hv => by cases v <;> first | exact gn _ _ hv | exact hv.elim) Hs
  | istore i =>
    dsimp only [am_stp] at Hs
    split at Hs
    · exact am_st_rn f i L _ (fun _ q => gn _ _ q) Hs
    · exact Hs.elim
  | astore i =>
    dsimp only [am_stp] at Hs
    split at Hs
    · exact am_st_rn f i L _ (fun _ q => gn _ _ q) Hs
    · exact Hs.elim
  | lstore i =>
    dsimp only [am_stp] at Hs
    split at Hs
    · exact am_st2_rn f i L _ (fun _ q => gn _ _ q) Hs
    · exact Hs.elim
  | iinc i k =>
    exact am_g_rn f L i (fun v hv => by cases v <;> first | exact am_st_rn f i L (.int _) (fun _ q => gn _ _ q) hv | exact hv.elim) Hs
  | anewarray k =>
    exact gn _ _ Hs
  | iconst k =>
    exact gn _ _ Hs
  | ldc2_w k =>
    exact gn _ _ Hs
  | iadd =>
    dsimp only [am_stp] at Hs
    split at Hs
    · exact gn _ _ Hs
    · exact Hs.elim
  | isub =>
    dsimp only [am_stp] at Hs
    split at Hs
    · exact gn _ _ Hs
    · exact Hs.elim
  | imul =>
    dsimp only [am_stp] at Hs
    split at Hs
    · exact gn _ _ Hs
    · exact Hs.elim
  | iand =>
    dsimp only [am_stp] at Hs
    split at Hs
    · exact gn _ _ Hs
    · exact Hs.elim
  | ior =>
    dsimp only [am_stp] at Hs
    split at Hs
    · exact gn _ _ Hs
    · exact Hs.elim
  | ixor =>
    dsimp only [am_stp] at Hs
    split at Hs
    · exact gn _ _ Hs
    · exact Hs.elim
  | ineg =>
    dsimp only [am_stp] at Hs
    split at Hs
    · exact gn _ _ Hs
    · exact Hs.elim
  | ishl =>
    dsimp only [am_stp] at Hs
    split at Hs
    · exact gn _ _ Hs
    · exact Hs.elim
  | ishr =>
    dsimp only [am_stp] at Hs
    split at Hs
    · exact gn _ _ Hs
    · exact Hs.elim
  | iushr =>
    dsimp only [am_stp] at Hs
    split at Hs
    · exact gn _ _ Hs
    · exact Hs.elim
  | ladd =>
    dsimp only [am_stp] at Hs
    split at Hs
    · exact gn _ _ Hs
    · exact Hs.elim
  | lsub =>
    dsimp only [am_stp] at Hs
    split at Hs
    · exact gn _ _ Hs
    · exact Hs.elim
  | lmul =>
    dsimp only [am_stp] at Hs
    split at Hs
    · exact gn _ _ Hs
    · exact Hs.elim
  | land =>
    dsimp only [am_stp] at Hs
    split at Hs
    · exact gn _ _ Hs
    · exact Hs.elim
  | lor =>
    dsimp only [am_stp] at Hs
    split at Hs
    · exact gn _ _ Hs
    · exact Hs.elim
  | lshl =>
    dsimp only [am_stp] at Hs
    split at Hs
    · exact gn _ _ Hs
    · exact Hs.elim
  | lshr =>
    dsimp only [am_stp] at Hs
    split at Hs
    · exact gn _ _ Hs
    · exact Hs.elim
  | lushr =>
    dsimp only [am_stp] at Hs
    split at Hs
    · exact gn _ _ Hs
    · exact Hs.elim
  | i2l =>
    dsimp only [am_stp] at Hs
    split at Hs
    · exact gn _ _ Hs
    · exact Hs.elim
  | l2i =>
    dsimp only [am_stp] at Hs
    split at Hs
    · exact gn _ _ Hs
    · exact Hs.elim
  | lcmp =>
    dsimp only [am_stp] at Hs
    split at Hs
    · exact gn _ _ Hs
    · exact Hs.elim
  | idiv =>
    dsimp only [am_stp] at Hs
    split at Hs
    · exact ⟨Hs.1, gn _ _ Hs.2⟩
    · exact Hs.elim
  | irem =>
    dsimp only [am_stp] at Hs
    split at Hs
    · exact ⟨Hs.1, gn _ _ Hs.2⟩
    · exact Hs.elim
  | ldiv =>
    dsimp only [am_stp] at Hs
    split at Hs
    · exact ⟨Hs.1, gn _ _ Hs.2⟩
    · exact Hs.elim
  | lrem =>
    dsimp only [am_stp] at Hs
    split at Hs
    · exact ⟨Hs.1, gn _ _ Hs.2⟩
    · exact Hs.elim
  | dup =>
    dsimp only [am_stp] at Hs
    split at Hs
    · exact gn _ _ Hs
    · exact gn _ _ Hs
    · exact Hs.elim
  | dup2 =>
    dsimp only [am_stp] at Hs
    split at Hs
    · exact gn _ _ Hs
    · exact gn _ _ Hs
    · exact Hs.elim
  | pop =>
    dsimp only [am_stp] at Hs
    split at Hs
    · exact gn _ _ Hs
    · exact gn _ _ Hs
    · exact Hs.elim
  | if_icmp c t =>
    dsimp only [am_stp] at Hs
    split at Hs
    · exact am_c2_mo c _ _ (gjn _ _ _) (gn _ _) Hs
    · exact Hs.elim
  | ifCond c t =>
    dsimp only [am_stp] at Hs
    split at Hs
    · exact am_c1_mo c _ (gjn _ _ _) (gn _ _) Hs
    · exact Hs.elim
  | goto t =>
    exact gjn _ _ _ Hs
  | tableswitch d lo hi2 ts =>
    dsimp only [am_stp] at Hs
    split at Hs
    · exact am_tab_mo _ (fun t q => gjn _ _ _ q) (gjn _ _ _) _ _ Hs
    · exact Hs.elim
  | lookupswitch d ps =>
    dsimp only [am_stp] at Hs
    split at Hs
    · exact am_lkp_mo _ (fun t q => gjn _ _ _ q) (gjn _ _ _) _ Hs
    · exact Hs.elim
  | getfield r =>
    dsimp only [am_stp] at Hs
    split at Hs
    · obtain ⟨c, h1, hc⟩ := am_hg_sp _ _ _ Hs
      refine am_hg_iff _ _ _ _ (he _ _ h1) ?_
      split at hc
      · exact am_if_mo (am_fg_rn f _ _ (fun v q => gn _ _ q)) hc
      · exact hc.elim
    · exact Hs.elim
  | putfield r =>
    dsimp only [am_stp] at Hs
    split at Hs
    · obtain ⟨c, h1, hc⟩ := am_hg_sp _ _ _ Hs
      refine am_hg_iff _ _ _ _ (he _ _ h1) ?_
      split at hc
      · exact am_if_mo (am_pv_rn (am_fs_rn f _ _ _ (fun fs q => gs _ _ _ _ q))) hc
      · exact hc.elim
    · exact Hs.elim
  | iaload =>
    dsimp only [am_stp] at Hs
    split at Hs
    · obtain ⟨c, h1, hc⟩ := am_hg_sp _ _ _ Hs
      refine am_hg_iff _ _ _ _ (he _ _ h1) ?_
      split at hc
      · exact ⟨hc.1, gn _ _ hc.2⟩
      · exact hc.elim
    · exact Hs.elim
  | iastore =>
    dsimp only [am_stp] at Hs
    split at Hs
    · obtain ⟨c, h1, hc⟩ := am_hg_sp _ _ _ Hs
      refine am_hg_iff _ _ _ _ (he _ _ h1) ?_
      split at hc
      · exact ⟨hc.1, gs _ _ _ _ hc.2⟩
      · exact hc.elim
    · exact Hs.elim
  | aaload =>
    dsimp only [am_stp] at Hs
    split at Hs
    · rename_i i a S2
      obtain ⟨c, h1, hc⟩ := am_hg_sp _ _ _ Hs
      refine am_hg_iff _ _ _ _ (he _ _ h1) ?_
      split at hc
      · rename_i nn f0
        refine ⟨hc.1, ?_⟩
        have h2 := hc.2
        split at h2
        · rename_i x hx
          show (match (f0 i.toNatClampNeg).map f with | some q => nx2 (am_rL f L) (.ref q :: am_rS f S2) H | none => False)
          rw [hx]
          exact gn _ _ h2
        · exact h2.elim
      · exact hc.elim
    · exact Hs.elim
  | arraylength =>
    dsimp only [am_stp] at Hs
    split at Hs
    · obtain ⟨c, h1, hc⟩ := am_hg_sp _ _ _ Hs
      refine am_hg_iff _ _ _ _ (he _ _ h1) ?_
      split at hc
      · exact gn _ _ hc
      · exact hc.elim
    · exact Hs.elim
  | invokeinterface r k =>
    refine am_pop_rn f k S [] (fun a b hq => ?_) Hs
    obtain ⟨h1, hz⟩ := am_if_sp hq
    have h2 : Nat.ble (am_cat (am_rS f b)) 8 = true := by rw [am_cat_cv]; exact h1
    rw [h2]
    split at hz
    · exact gc _ _ _ _ _ _ hz hn he ho
    · split at hz
      · obtain ⟨c, h3, hc⟩ := am_hg_sp _ _ _ hz
        refine am_hg_iff _ _ _ _ (he _ _ h3) ?_
        split at hc
        · exact am_if_mo (fun z => gc _ _ _ _ _ _ z hn he ho) hc
        · exact hc.elim
      · exact hz.elim
  | invokedynamic k =>
    match k, Hs with
    | 0, Hs => exact am_i0_rn he gs Hs
    | 1, Hs => exact am_i1_rn gn Hs
    | 2, Hs => exact am_i2_rn gn Hs
    | 3, Hs => exact am_i3_rn gn Hs
    | 4, Hs => exact am_i4_rn gn Hs
    | _ + 5, Hs => exact Hs.elim
  | ireturn =>
    dsimp only [am_stp] at Hs
    split at Hs
    · exact gr _ _ _ Hs hn he ho
    · exact Hs.elim
  | lreturn =>
    dsimp only [am_stp] at Hs
    split at Hs
    · exact gr _ _ _ Hs hn he ho
    · exact Hs.elim
  | areturn =>
    dsimp only [am_stp] at Hs
    split at Hs
    · exact gr _ _ _ Hs hn he ho
    · exact Hs.elim
  | return_ =>
    dsimp only [am_stp] at Hs
    split at Hs
    · exact gr _ _ _ Hs hn he ho
    · exact Hs.elim
  | dreturn =>
    dsimp only [am_stp] at Hs
    split at Hs
    · exact ⟨Hs.1, gr _ _ _ Hs.2 hn he ho⟩
    · exact Hs.elim
  | _ => exact Hs.elim
end FR
def am_FP : am_PT := fun k pc L S h K => ∀ (f : Nat → Nat) (n : Nat) (B H : AH) (K2 : Option Value → AH → Prop), am_inj f n → h.length = n → am_emb f h H → am_out f n B H →
  (∀ r h H, K r h → h.length = n → am_emb f h H → am_out f n B H → K2 (r.map (am_cv f)) H) → am_E k pc (am_rL f L) (am_rS f S) H K2
theorem am_FP_clo : am_Clo am_FP := by
  refine ⟨fun k pc L S h K K2 g H f n B H2 K3 hi hn he ho hk => H f n B H2 K3 hi hn he ho (fun r h H z => hk r h H (g r h z)), ?_⟩
  intro k pc L S h K q e hq hm hpc hst f n B H K2 hi hn he ho hk
  refine am_E_clo.2 k pc _ _ _ _ q e hq hm hpc (am_stp_rn (f := f) (n := n) (B := B) hi hn he ho (fun L S h H z a b c => z f n B H K2 hi a b c hk) (fun t L S h H z a b c => z f n B H K2 hi a b c hk) ?_ hk e.2.1 hst)
  rintro id aa L S h H ⟨y, hy, hz⟩ a b c
  refine ⟨y, hy, am_ent_rn f _ _ (fun L2 z => ?_) hz⟩
  refine z f n B H _ hi a b c (fun r h1 H1 z2 a2 b2 c2 => ?_)
  rw [← am_psh_rn]
  exact z2 f n B H1 K2 hi a2 b2 c2 hk
theorem am_frameM {id : Nat} {aa : List Value} {h H : AH} {K K2 : Option Value → AH → Prop} {f : Nat → Nat} (hi : am_inj f h.length) (he : am_emb f h H) (hm : am_M id aa h K) (hk : ∀ r h2 H2, K r h2 → h2.length = h.length → am_emb f h2 H2 → am_out f h.length H H2 → K2 (r.map (am_cv f)) H2) : am_M id (am_rS f aa) H K2 := by
  rw [am_M_def] at hm ⊢
  obtain ⟨y, hy, hz⟩ := hm
  refine ⟨y, hy, am_ent_rn f _ _ (fun L z => ?_) hz⟩
  rw [am_E_def] at z
  exact z am_FP am_FP_clo f h.length H H K2 hi rfl he ⟨rfl, fun _ _ => rfl⟩ hk
