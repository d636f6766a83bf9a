/-! the abstract machine's readers and writers, as facts -/
theorem nth_eq {α : Type} : ∀ (l : List α) (n : Nat), nth l n = l[n]?
  | [], n => by simp [nth]
  | _ :: _, 0 => by simp [nth]
  | _ :: l, n + 1 => by simp [nth, nth_eq l n]
theorem am_g_sp : ∀ (L : AL) (i : Nat) (k : Value → Prop), am_g L i k → ∃ v, L[i]? = some (some v) ∧ k v
  | [], _, _, h => h.elim
  | some v :: _, 0, k, h => ⟨v, rfl, h⟩
  | none :: _, 0, _, h => h.elim
  | _ :: t, n + 1, k, h => by
    obtain ⟨v, h1, h2⟩ := am_g_sp t n k (by simpa [am_g] using h)
    exact ⟨v, by simpa using h1, h2⟩
theorem am_nl_sp (o : Option Value) (k : Option Value → Prop) (h : am_nl o k) : ∃ o2, k o2 ∧ ∀ v, o2 = some v → o = some v ∧ ¬ v.category = 2 := by
  cases o with
  | none => exact ⟨none, h, fun v hv => by cases hv⟩
  | some w =>
    cases w <;> first
      | exact ⟨none, h, fun v hv => by cases hv⟩
      | exact ⟨some _, h, fun v hv => by cases hv; exact ⟨rfl, by simp [Value.category]⟩⟩
/-- what a store of one word leaves -/
def am_S1 (L : AL) (i : Nat) (v : Value) (L2 : AL) : Prop := L2.length = L.length ∧ i < L.length ∧ ∀ (j : Nat) (w : Value), L2[j]? = some (some w) → (j = i ∧ w = v) ∨ (j ≠ i ∧ L[j]? = some (some w) ∧ ¬ (j + 1 = i ∧ w.category = 2))
theorem am_st_sp : ∀ (i : Nat) (L : AL) (v : Value) (k : AL → Prop), am_st L i v k → ∃ L2, k L2 ∧ am_S1 L i v L2
  | 0, [], _, _, h => h.elim
  | _ + 1, [], _, _, h => h.elim
  | 0, o :: t, v, k, h => by
    refine ⟨some v :: t, h, by simp, by simp, fun j w hw => ?_⟩
    cases j with
    | zero => simp at hw; exact Or.inl ⟨rfl, hw.symm⟩
    | succ j => exact Or.inr ⟨by omega, by simpa using hw, by omega⟩
  | 1, [_], _, _, h => h.elim
  | 1, o :: o1 :: t, v, k, h => by
    obtain ⟨o2, h1, h2⟩ := am_nl_sp o _ (show am_nl o (fun o2 => k (o2 :: some v :: t)) from h)
    refine ⟨o2 :: some v :: t, h1, by simp, by simp, fun j w hw => ?_⟩
    match j, hw with
    | 0, hw =>
      simp at hw
      obtain ⟨h3, h4⟩ := h2 w hw
      exact Or.inr ⟨by omega, by simp [h3], fun q => h4 q.2⟩
    | 1, hw => simp at hw; exact Or.inl ⟨rfl, hw.symm⟩
    | j + 2, hw => exact Or.inr ⟨by omega, by simpa using hw, by omega⟩
  | n + 2, o :: t, v, k, h => by
    obtain ⟨L2, h1, h2, h3, h4⟩ := am_st_sp (n + 1) t v _ (show am_st t (n + 1) v _ from h)
    refine ⟨o :: L2, h1, by simp [h2], by simp; omega, fun j w hw => ?_⟩
    cases j with
    | zero => exact Or.inr ⟨by omega, by simpa using hw, by omega⟩
    | succ j =>
      rcases h4 j w (by simpa using hw) with ⟨h5, h6⟩ | ⟨h5, h6, h7⟩
      · exact Or.inl ⟨by omega, h6⟩
      · exact Or.inr ⟨by omega, by simpa using h6, fun q => h7 ⟨by omega, q.2⟩⟩
/-- what a store of two words leaves -/
def am_S2 (L : AL) (i : Nat) (v : Value) (L2 : AL) : Prop := L2.length = L.length ∧ i + 1 < L.length ∧ ∀ (j : Nat) (w : Value), L2[j]? = some (some w) → (j = i ∧ w = v) ∨ (j ≠ i ∧ j ≠ i + 1 ∧ L[j]? = some (some w) ∧ ¬ (j + 1 = i ∧ w.category = 2))
theorem am_st2_sp : ∀ (i : Nat) (L : AL) (v : Value) (k : AL → Prop), am_st2 L i v k → ∃ L2, k L2 ∧ am_S2 L i v L2
  | 0, [], _, _, h => h.elim
  | _ + 1, [], _, _, h => h.elim
  | 0, [_], _, _, h => h.elim
  | 0, o :: o1 :: t, v, k, h => by
    refine ⟨some v :: none :: t, h, by simp, by simp, fun j w hw => ?_⟩
    match j, hw with
    | 0, hw => simp at hw; exact Or.inl ⟨rfl, hw.symm⟩
    | 1, hw => simp at hw
    | j + 2, hw => exact Or.inr ⟨by omega, by omega, by simpa using hw, by omega⟩
  | 1, [_], _, _, h => h.elim
  | 1, [_, _], _, _, h => h.elim
  | 1, o :: o1 :: o3 :: t, v, k, h => by
    obtain ⟨o2, h1, h2⟩ := am_nl_sp o _ (show am_nl o (fun o2 => k (o2 :: some v :: none :: t)) from h)
    refine ⟨o2 :: some v :: none :: t, h1, by simp, by simp, fun j w hw => ?_⟩
    match j, hw with
    | 0, hw =>
      simp at hw
      obtain ⟨h3, h4⟩ := h2 w hw
      exact Or.inr ⟨by omega, by omega, by simp [h3], fun q => h4 q.2⟩
    | 1, hw => simp at hw; exact Or.inl ⟨rfl, hw.symm⟩
    | 2, hw => simp at hw
    | j + 3, hw => exact Or.inr ⟨by omega, by omega, by simpa using hw, by omega⟩
  | n + 2, o :: t, v, k, h => by
    obtain ⟨L2, h1, h2, h3, h4⟩ := am_st2_sp (n + 1) t v _ (show am_st2 t (n + 1) v _ from h)
    refine ⟨o :: L2, h1, by simp [h2], by simp; omega, fun j w hw => ?_⟩
    cases j with
    | zero => exact Or.inr ⟨by omega, by omega, by simpa using hw, by omega⟩
    | succ j =>
      rcases h4 j w (by simpa using hw) with ⟨h5, h6⟩ | ⟨h5, h5b, h6, h7⟩
      · exact Or.inl ⟨by omega, h6⟩
      · exact Or.inr ⟨by omega, by omega, by simpa using h6, fun q => h7 ⟨by omega, q.2⟩⟩
theorem am_hg_sp : ∀ (h : AH) (a : Nat) (k : AC → Prop), am_hg h a k → ∃ c, h[a]? = some c ∧ k c
  | [], _, _, q => q.elim
  | c :: _, 0, _, q => ⟨c, rfl, q⟩
  | _ :: t, n + 1, k, q => by
    obtain ⟨c, h1, h2⟩ := am_hg_sp t n k (by simpa [am_hg] using q)
    exact ⟨c, by simpa using h1, h2⟩
theorem am_hs_sp : ∀ (h : AH) (a : Nat) (c : AC) (k : AH → Prop), am_hs h a c k → k (h.set a c) ∧ a < h.length
  | [], _, _, _, q => q.elim
  | _ :: _, 0, _, _, q => ⟨by simpa [am_hs] using q, by simp⟩
  | x :: t, n + 1, c, k, q => by
    obtain ⟨h1, h2⟩ := am_hs_sp t n c _ (by simpa [am_hs] using q)
    exact ⟨by simpa using h1, by simp; omega⟩
theorem am_fg_sp : ∀ (h : List Value) (a : Nat) (k : Value → Prop), am_fg h a k → ∃ c, h[a]? = some c ∧ k c
  | [], _, _, q => q.elim
  | c :: _, 0, _, q => ⟨c, rfl, q⟩
  | _ :: t, n + 1, k, q => by
    obtain ⟨c, h1, h2⟩ := am_fg_sp t n k (by simpa [am_fg] using q)
    exact ⟨c, by simpa using h1, h2⟩
theorem am_fs_sp : ∀ (h : List Value) (a : Nat) (c : Value) (k : List Value → Prop), am_fs h a c k → k (h.set a c) ∧ a < h.length
  | [], _, _, _, q => q.elim
  | _ :: _, 0, _, _, q => ⟨by simpa [am_fs] using q, by simp⟩
  | x :: t, n + 1, c, k, q => by
    obtain ⟨h1, h2⟩ := am_fs_sp t n c _ (by simpa [am_fs] using q)
    exact ⟨by simpa using h1, by simp; omega⟩
theorem am_pop_sp : ∀ (n : Nat) (S acc : List Value) (k : List Value → List Value → Prop), am_pop n S acc k → ∃ a r, S = a ++ r ∧ a.length = n ∧ k (a.reverse ++ acc) r
  | 0, S, acc, k, h => ⟨[], S, rfl, rfl, by simpa [am_pop] using h⟩
  | _ + 1, [], _, _, h => h.elim
  | n + 1, v :: S, acc, k, h => by
    obtain ⟨a, r, h1, h2, h3⟩ := am_pop_sp n S (v :: acc) k h
    exact ⟨v :: a, r, by simp [h1], by simp [h2], by simpa using h3⟩
theorem am_cat_eq : ∀ S : List Value, (S.map fun v => v.category).sum = am_cat S
  | [] => rfl
  | v :: t => by simp [am_cat, am_cat_eq t]
/-- the values out of the abstract heap, as they are on the machine -/
def am_cv (ad : Nat → Nat) : Value → Value
  | .ref a => .ref (ad a)
  | v => v
theorem am_cv_cat (ad : Nat → Nat) (v : Value) : (am_cv ad v).category = v.category := by cases v <;> rfl
theorem am_cat_cv (ad : Nat → Nat) : ∀ S : List Value, am_cat (S.map (am_cv ad)) = am_cat S
  | [] => rfl
  | v :: t => by simp [am_cat, am_cv_cat, am_cat_cv ad t]
def am_c (ad : Nat → Nat) (cI cW : ClassId) : AC → va_E
  | .inl q => .inl (cI, q.1, .inl q.2)
  | .inr (.inl q) => .inl (cW, q.1, .inr (.inr (.inr (.inr (fun k => (q.2 k).map ad)))))
  | .inr (.inr q) => .inr (q.1, q.2.map (am_cv ad))
def am_wi (ad : Nat → Nat) (cI cW : ClassId) : Nat → AH → va_W
  | _, [] => []
  | i, c :: t => (ad i, am_c ad cI cW c) :: am_wi ad cI cW (i + 1) t
abbrev am_w (ad : Nat → Nat) (cI cW : ClassId) (h : AH) : va_W := am_wi ad cI cW 0 h
theorem am_wi_at (ad : Nat → Nat) (cI cW : ClassId) : ∀ (h : AH) (i j : Nat), (am_wi ad cI cW i h)[j]? = (h[j]?).map (fun c => (ad (i + j), am_c ad cI cW c))
  | [], _, _ => by simp [am_wi]
  | c :: t, i, 0 => by simp [am_wi]
  | c :: t, i, j + 1 => by
    have := am_wi_at ad cI cW t (i + 1) j
    simp only [am_wi, List.getElem?_cons_succ, this]
    rw [show i + 1 + j = i + (j + 1) by omega]
theorem am_wi_set (ad : Nat → Nat) (cI cW : ClassId) : ∀ (h : AH) (i j : Nat) (c : AC), (am_wi ad cI cW i h).set j (ad (i + j), am_c ad cI cW c) = am_wi ad cI cW i (h.set j c)
  | [], _, _, _ => by simp [am_wi]
  | _ :: t, i, 0, c => by simp [am_wi]
  | _ :: t, i, j + 1, c => by
    have := am_wi_set ad cI cW t (i + 1) j c
    simp only [am_wi, List.set_cons_succ]
    rw [← this, show i + 1 + j = i + (j + 1) by omega]
theorem am_w_at {ad : Nat → Nat} {cI cW : ClassId} {h : AH} {a : Nat} {c : AC} (q : h[a]? = some c) : (am_w ad cI cW h)[a]? = some (ad a, am_c ad cI cW c) := by
  rw [am_w, am_wi_at, q]
  simp
theorem am_w_set {ad : Nat → Nat} {cI cW : ClassId} {h : AH} {a : Nat} {c : AC} : (am_w ad cI cW h).set a (ad a, am_c ad cI cW c) = am_w ad cI cW (h.set a c) := by
  have := am_wi_set ad cI cW h 0 a c
  rwa [Nat.zero_add] at this
/-- the addresses are apart and lie in A -/
def am_Ax (ad : Nat → Nat) (A : Nat → Prop) (n : Nat) : Prop := (∀ i j, i < n → j < n → ad i = ad j → i = j) ∧ ∀ i, i < n → A (ad i)
theorem am_Ax_D {ad : Nat → Nat} {A : Nat → Prop} {cI cW : ClassId} {h : AH} (q : am_Ax ad A h.length) : va_D A (am_w ad cI cW h) := by
  have key : ∀ (k : Nat) (x : Nat × va_E), (am_w ad cI cW h)[k]? = some x → k < h.length ∧ x.1 = ad k := by
    intro k x hx
    rw [am_w, am_wi_at] at hx
    obtain ⟨c, h1, rfl⟩ := Option.map_eq_some_iff.mp hx
    exact ⟨(List.getElem?_eq_some_iff.mp h1).1, by simp⟩
  refine ⟨fun i j x y hi hj hxy => ?_, fun k x hx => ?_⟩
  · obtain ⟨a1, a2⟩ := key i x hi
    obtain ⟨b1, b2⟩ := key j y hj
    exact q.1 i j a1 b1 (by rw [← a2, ← b2, hxy])
  · obtain ⟨a1, a2⟩ := key k x hx
    rw [a2]
    exact q.2 k a1
/-- the locals on the machine hold what the abstract ones tell -/
def am_lr (ad : Nat → Nat) (ls : Array Slot) (nL : Nat) (L : AL) : Prop := ls.size = nL ∧ lv_wf ls ∧ L.length = nL ∧ ∀ (i : Nat) (v : Value), L[i]? = some (some v) → ls[i]? = some (.val (am_cv ad v))
def am_as (ad : Nat → Nat) : Nat → AL → List (Nat × Value)
  | _, [] => []
  | i, none :: t => am_as ad (i + 1) t
  | i, some v :: t => (i, am_cv ad v) :: am_as ad (i + 1) t
theorem am_as_mem (ad : Nat → Nat) : ∀ (L : AL) (i : Nat) (x : Nat × Value), x ∈ am_as ad i L ↔ ∃ j v, L[j]? = some (some v) ∧ x = (i + j, am_cv ad v)
  | [], i, x => by simp [am_as]
  | none :: t, i, x => by
    rw [am_as, am_as_mem ad t (i + 1) x]
    constructor
    · rintro ⟨j, v, h1, h2⟩
      exact ⟨j + 1, v, by simpa using h1, by rw [h2]; congr 1; omega⟩
    · rintro ⟨j, v, h1, h2⟩
      cases j with
      | zero => simp at h1
      | succ j => exact ⟨j, v, by simpa using h1, by rw [h2]; congr 1; omega⟩
  | some w :: t, i, x => by
    rw [am_as, List.mem_cons, am_as_mem ad t (i + 1) x]
    constructor
    · rintro (h | ⟨j, v, h1, h2⟩)
      · exact ⟨0, w, rfl, by simpa using h⟩
      · exact ⟨j + 1, v, by simpa using h1, by rw [h2]; congr 1; omega⟩
    · rintro ⟨j, v, h1, h2⟩
      cases j with
      | zero =>
        simp at h1
        subst h1
        exact Or.inl (by simpa using h2)
      | succ j => exact Or.inr ⟨j, v, by simpa using h1, by rw [h2]; congr 1; omega⟩
theorem am_lr_has {ad : Nat → Nat} {ls : Array Slot} {nL : Nat} {L : AL} (h : am_lr ad ls nL L) : lv_has ls nL (am_as ad 0 L) := by
  refine ⟨h.1, h.2.1, fun q hq => ?_⟩
  obtain ⟨j, v, h1, rfl⟩ := (am_as_mem ad L 0 q).mp hq
  simpa using h.2.2.2 j v h1
theorem am_lr_st {ad : Nat → Nat} {ls2 : Array Slot} {nL i : Nat} {L L2 : AL} {v : Value} (hl : L.length = nL) (h2 : am_S1 L i v L2) (h : lv_has ls2 nL ((i, am_cv ad v) :: (am_as ad 0 L).filter (fun q => !(q.1 == i) && !(q.1 + 1 == i && q.2.category == 2)))) : am_lr ad ls2 nL L2 := by
  obtain ⟨a1, a2, a3⟩ := h
  obtain ⟨b1, b2, b3⟩ := h2
  refine ⟨a1, a2, b1.trans hl, fun j w hw => ?_⟩
  rcases b3 j w hw with ⟨rfl, rfl⟩ | ⟨c1, c2, c3⟩
  · exact a3 (j, am_cv ad w) List.mem_cons_self
  · refine a3 (j, am_cv ad w) (List.mem_cons_of_mem _ (List.mem_filter.mpr ⟨(am_as_mem ad L 0 _).mpr ⟨j, w, c2, by simp⟩, ?_⟩))
    simp only [am_cv_cat]
    simp only [Bool.and_eq_true, Bool.not_eq_true', beq_eq_false_iff_ne, ne_eq, Bool.and_eq_false_iff]
    refine ⟨c1, ?_⟩
    by_cases d : j + 1 = i
    · exact Or.inr (fun q => c3 ⟨d, q⟩)
    · exact Or.inl d
theorem am_lr_st2 {ad : Nat → Nat} {ls2 : Array Slot} {nL i : Nat} {L L2 : AL} {v : Value} (hl : L.length = nL) (h2 : am_S2 L i v L2) (h : lv_has ls2 nL ((i, am_cv ad v) :: (am_as ad 0 L).filter (fun q => !(q.1 == i) && (!(q.1 == i + 1) && !(q.1 + 1 == i && q.2.category == 2))))) : am_lr ad ls2 nL L2 := by
  obtain ⟨a1, a2, a3⟩ := h
  obtain ⟨b1, b2, b3⟩ := h2
  refine ⟨a1, a2, b1.trans hl, fun j w hw => ?_⟩
  rcases b3 j w hw with ⟨rfl, rfl⟩ | ⟨c1, c1b, c2, c3⟩
  · exact a3 (j, am_cv ad w) List.mem_cons_self
  · refine a3 (j, am_cv ad w) (List.mem_cons_of_mem _ (List.mem_filter.mpr ⟨(am_as_mem ad L 0 _).mpr ⟨j, w, c2, by simp⟩, ?_⟩))
    simp only [am_cv_cat]
    simp only [Bool.and_eq_true, Bool.not_eq_true', beq_eq_false_iff_ne, ne_eq, Bool.and_eq_false_iff]
    refine ⟨c1, c1b, ?_⟩
    by_cases d : j + 1 = i
    · exact Or.inr (fun q => c3 ⟨d, q⟩)
    · exact Or.inl d
theorem am_pad_sp : ∀ (n : Nat) (k : AL → Prop), am_pad n k → k (List.replicate n none)
  | 0, _, h => h
  | n + 1, k, h => by
    have := am_pad_sp n _ h
    simpa [List.replicate_succ] using this
/-- the entry's locals -/
theorem am_ent_sp (ad : Nat → Nat) : ∀ (vs : List Value) (n : Nat) (k : AL → Prop), am_ent vs n k → ∃ L, k L ∧ L.length = n ∧ (lg_sl (vs.map (am_cv ad))).length ≤ n ∧ ∀ (b : Nat) (j : Nat) (v : Value), L[j]? = some (some v) → (b + j, am_cv ad v) ∈ lv_args b (vs.map (am_cv ad))
  | [], n, k, h => ⟨_, am_pad_sp n k h, by simp, by simp [lg_sl], fun b j v hv => by simp [List.getElem?_replicate] at hv⟩
  | v :: vs, n, k, h => by
    have one : ∀ (w : Value), am_cv ad w = am_cv ad v → ¬ v.category = 2 → w = v → (∃ m, n = m + 1 ∧ am_ent vs m (fun t => k (some w :: t))) → ∃ L, k L ∧ L.length = n ∧ (lg_sl ((v :: vs).map (am_cv ad))).length ≤ n ∧ ∀ (b : Nat) (j : Nat) (u : Value), L[j]? = some (some u) → (b + j, am_cv ad u) ∈ lv_args b ((v :: vs).map (am_cv ad)) := by
      rintro w - hc rfl ⟨m, rfl, hm⟩
      obtain ⟨L, h1, h2, h3, h4⟩ := am_ent_sp ad vs m _ hm
      refine ⟨some w :: L, h1, by simp [h2], ?_, fun b j u hu => ?_⟩
      · simp only [lg_sl, List.map_cons, List.flatMap_cons, am_cv_cat, if_neg hc] at h3 ⊢
        simp only [List.length_append, List.length_cons, List.length_nil]
        omega
      · simp only [List.map_cons, lv_args, am_cv_cat, if_neg hc]
        cases j with
        | zero => simp at hu; subst hu; simp
        | succ j =>
          have := h4 (b + 1) j u (by simpa using hu)
          rw [show b + 1 + j = b + (j + 1) by omega] at this
          exact List.mem_cons_of_mem _ this
    cases v with
    | long x =>
      match n, h with
      | m + 2, h =>
        obtain ⟨L, h1, h2, h3, h4⟩ := am_ent_sp ad vs m _ h
        refine ⟨some (.long x) :: none :: L, h1, by simp [h2], ?_, fun b j u hu => ?_⟩
        · simp only [lg_sl, List.map_cons, List.flatMap_cons, am_cv, Value.category] at h3 ⊢
          simp only [List.length_append, if_pos, List.length_cons, List.length_nil]
          omega
        · simp only [List.map_cons, lv_args, am_cv, Value.category, if_pos]
          match j, hu with
          | 0, hu => simp at hu; subst hu; simp [am_cv]
          | 1, hu => simp at hu
          | j + 2, hu =>
            have := h4 (b + 2) j u (by simpa using hu)
            rw [show b + 2 + j = b + (j + 2) by omega] at this
            exact List.mem_cons_of_mem _ this
      | 0, h => exact h.elim
      | 1, h => exact h.elim
    | double x => exact h.elim
    | int x =>
      cases n with
      | zero => exact h.elim
      | succ m => exact one _ rfl (by simp [Value.category]) rfl ⟨m, rfl, h⟩
    | float x =>
      cases n with
      | zero => exact h.elim
      | succ m => exact one _ rfl (by simp [Value.category]) rfl ⟨m, rfl, h⟩
    | null =>
      cases n with
      | zero => exact h.elim
      | succ m => exact one _ rfl (by simp [Value.category]) rfl ⟨m, rfl, h⟩
    | ref x =>
      cases n with
      | zero => exact h.elim
      | succ m => exact one _ rfl (by simp [Value.category]) rfl ⟨m, rfl, h⟩
    | retAddr x =>
      cases n with
      | zero => exact h.elim
      | succ m => exact one _ rfl (by simp [Value.category]) rfl ⟨m, rfl, h⟩
