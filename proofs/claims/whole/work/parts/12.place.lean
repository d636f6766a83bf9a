/-! a method over a few cells, at the places of a list: its rule for use -/
def am_pl (ps : List Nat) (i : Nat) : Nat := (nth ps i).getD 0
def am_plK : List Nat → Nat → (Nat → Prop) → Prop
  | [], _, _ => False
  | p :: _, 0, k => k p
  | _ :: ps, n + 1, k => am_plK ps n k
def am_vK (ps : List Nat) (v : Value) (k : Value → Prop) : Prop := match v with
  | .ref a => am_plK ps a (fun b => k (.ref b))
  | .int x => k (.int x)
  | .long x => k (.long x)
  | .null => k .null
  | .float x => k (.float x)
  | .double x => k (.double x)
  | .retAddr x => k (.retAddr x)
def am_vsK (ps : List Nat) : List Value → (List Value → Prop) → Prop
  | [], k => k []
  | v :: vs, k => am_vK ps v (fun w => am_vsK ps vs (fun ws => k (w :: ws)))
def am_cK (ps : List Nat) (c : AC) (k : AC → Prop) : Prop := match c with
  | .inl q => k (.inl q)
  | .inr (.inl (n, g)) => k (.inr (.inl (n, fun j => (g j).map (am_pl ps))))
  | .inr (.inr (c, fs)) => am_vsK ps fs (fun fs => k (.inr (.inr (c, fs))))
def am_oK (ps : List Nat) (r : Option Value) (k : Option Value → Prop) : Prop := match r with
  | none => k none
  | some v => am_vK ps v (fun w => k (some w))
def am_psK (pa : List Nat) : List Nat → AH → AH → (AH → Prop) → Prop
  | _, [], H, k => k H
  | [], _ :: _, _, _ => False
  | p :: ps, c :: cs, H, k => am_cK pa c (fun c2 => am_hs H p c2 (fun H => am_psK pa ps cs H k))
def am_pst : List Nat → AH → AH → AH
  | p :: ps, c :: cs, H => am_pst ps cs (H.set p c)
  | _, _, H => H
theorem am_plK_sp : ∀ (ps : List Nat) (a : Nat) (k : Nat → Prop), am_plK ps a k → k (am_pl ps a)
  | [], _, _, h => h.elim
  | _ :: _, 0, _, h => h
  | _ :: ps, n + 1, k, h => am_plK_sp ps n k h
theorem am_vK_sp {ps : List Nat} {v : Value} {k : Value → Prop} (h : am_vK ps v k) : k (am_cv (am_pl ps) v) := by
  cases v <;> first | exact h | exact am_plK_sp _ _ (fun b => k (.ref b)) h
theorem am_vsK_sp {ps : List Nat} : ∀ (vs : List Value) (k : List Value → Prop), am_vsK ps vs k → k (vs.map (am_cv (am_pl ps)))
  | [], _, h => h
  | v :: vs, k, h => am_vsK_sp vs (fun ws => k (am_cv (am_pl ps) v :: ws)) (am_vK_sp (k := fun w => am_vsK ps vs (fun ws => k (w :: ws))) h)
theorem am_cK_sp {ps : List Nat} {c : AC} {k : AC → Prop} (h : am_cK ps c k) : k (am_rc (am_pl ps) c) := by
  match c, h with
  | .inl q, h => exact h
  | .inr (.inl (n, g)), h => exact h
  | .inr (.inr (c, fs)), h => exact am_vsK_sp fs (fun fs => k (.inr (.inr (c, fs)))) h
theorem am_oK_sp {ps : List Nat} {r : Option Value} {k : Option Value → Prop} (h : am_oK ps r k) : k (r.map (am_cv (am_pl ps))) := by
  cases r with
  | none => exact h
  | some v => exact am_vK_sp (k := fun w => k (some w)) h
theorem am_psK_sp {pa : List Nat} : ∀ (ps : List Nat) (cs H : AH) (k : AH → Prop), am_psK pa ps cs H k → k (am_pst ps (cs.map (am_rc (am_pl pa))) H)
  | [], [], _, _, h => h
  | _ :: _, [], _, _, h => by simpa [am_psK, am_pst] using h
  | [], _ :: _, _, _, h => h.elim
  | p :: ps, c :: cs, H, k, h => by
    have h1 := am_cK_sp (k := fun c2 => am_hs H p c2 (fun H => am_psK pa ps cs H k)) h
    exact am_psK_sp ps cs _ k (am_hs_sp _ _ _ _ h1).1
theorem am_pst_len : ∀ (ps : List Nat) (cs H : AH), (am_pst ps cs H).length = H.length
  | [], [], _ => rfl
  | _ :: _, [], _ => rfl
  | [], _ :: _, _ => rfl
  | p :: ps, c :: cs, H => by rw [am_pst, am_pst_len ps cs, List.length_set]
def am_ndp : List Nat → Bool
  | [] => true
  | p :: ps => ps.all (fun q => !(Nat.beq p q)) && am_ndp ps
theorem am_ndp_sp : ∀ (ps : List Nat), am_ndp ps = true → ∀ (i j a : Nat), ps[i]? = some a → ps[j]? = some a → i = j
  | [], _, _, _, _, h, _ => by simp at h
  | p :: ps, h, i, j, a, hi, hj => by
    simp only [am_ndp, Bool.and_eq_true, List.all_eq_true, Bool.not_eq_true'] at h
    have key : ∀ m : Nat, ps[m]? = some p → False := by
      intro m hm
      have := h.1 p (List.mem_of_getElem? hm)
      rw [Nat.beq_refl] at this
      cases this
    match i, j, hi, hj with
    | 0, 0, _, _ => rfl
    | 0, j + 1, hi, hj =>
      simp at hi hj
      subst hi
      exact (key j (by simpa using hj)).elim
    | i + 1, 0, hi, hj =>
      simp at hi hj
      subst hj
      exact (key i (by simpa using hi)).elim
    | i + 1, j + 1, hi, hj => rw [am_ndp_sp ps h.2 i j a (by simpa using hi) (by simpa using hj)]
theorem am_pst_out : ∀ (ps : List Nat) (cs H : AH) (j : Nat), (∀ i, i < cs.length → ps[i]? ≠ some j) → (am_pst ps cs H)[j]? = H[j]?
  | [], [], _, _, _ => rfl
  | _ :: _, [], _, _, _ => rfl
  | [], _ :: _, _, _, _ => rfl
  | p :: ps, c :: cs, H, j, h => by
    rw [am_pst, am_pst_out ps cs _ j (fun i hi => by have := h (i + 1) (by simpa using hi); simpa using this)]
    exact List.getElem?_set_ne (fun z => h 0 (by simp) (by simp [z]))
theorem am_pst_in : ∀ (ps : List Nat) (cs H : AH) (i p : Nat) (c : AC), (∀ (i j a : Nat), ps[i]? = some a → ps[j]? = some a → i = j) → ps[i]? = some p → cs[i]? = some c → p < H.length → (am_pst ps cs H)[p]? = some c
  | [], _, _, _, _, _, _, h, _, _ => by simp at h
  | _ :: _, [], _, _, _, _, _, _, h, _ => by simp at h
  | q :: ps, d :: cs, H, 0, p, c, hd, hp, hc, hl => by
    simp at hp hc
    subst hp; subst hc
    rw [am_pst, am_pst_out ps cs _ q (fun i _ z => by have := hd 0 (i + 1) q (by simp) (by simpa using z); omega)]
    exact List.getElem?_set_self hl
  | q :: ps, d :: cs, H, i + 1, p, c, hd, hp, hc, hl => by
    rw [am_pst]
    exact am_pst_in ps cs _ i p c (fun i j a hi hj => by have := hd (i + 1) (j + 1) a (by simpa using hi) (by simpa using hj); omega) (by simpa using hp) (by simpa using hc) (by rw [List.length_set]; exact hl)
/-- the few cells lie at the places -/
def am_cut (pa : List Nat) (H : AH) : List Nat → AH → Prop
  | _, [] => True
  | [], _ :: _ => False
  | p :: ps, c :: cs => nth H p = some (am_rc (am_pl pa) c) ∧ am_cut pa H ps cs
theorem am_cut_sp {pa : List Nat} {H : AH} : ∀ (ps : List Nat) (cs : AH), am_cut pa H ps cs → ∀ (i : Nat) (c : AC), cs[i]? = some c → ∃ p : Nat, ps[i]? = some p ∧ H[p]? = some (am_rc (am_pl pa) c)
  | _, [], _, _, _, h => by simp at h
  | [], _ :: _, h, _, _, _ => h.elim
  | p :: _, d :: _, h, 0, c, hc => by
    simp at hc
    subst hc
    exact ⟨p, rfl, by rw [← nth_eq]; exact h.1⟩
  | _ :: ps, _ :: cs, h, i + 1, c, hc => by
    obtain ⟨p, h1, h2⟩ := am_cut_sp ps cs h.2 i c (by simpa using hc)
    exact ⟨p, by simpa using h1, h2⟩
theorem am_fr (ps : List Nat) {id : Nat} {aa aaB : List Value} {h H h2 : AH} {r0 : Option Value} {K2 : Option Value → AH → Prop} (hm : ∀ K : Option Value → AH → Prop, K r0 h2 → am_M id aa h K) (haa : am_rS (am_pl ps) aa = aaB) (hnd : am_ndp ps = true) (hc : am_cut ps H ps h) (hl : h2.length = h.length) (hk : am_psK ps ps h2 H (fun H2 => am_oK ps r0 (fun r => K2 r H2))) : am_M id aaB H K2 := by
  subst haa
  have hnd2 := am_ndp_sp ps hnd
  have hpl : ∀ i p, ps[i]? = some p → am_pl ps i = p := by
    intro i p hp
    rw [am_pl, nth_eq, hp]
    rfl
  have hin : ∀ i, i < h.length → ∃ p, ps[i]? = some p ∧ am_pl ps i = p := by
    intro i hi
    obtain ⟨p, h1, -⟩ := am_cut_sp ps h hc i _ (List.getElem?_eq_getElem hi)
    exact ⟨p, h1, hpl i p h1⟩
  refine am_frameM (f := am_pl ps) ?_ ?_ (hm (fun r h3 => r = r0 ∧ h3 = h2) ⟨rfl, rfl⟩) ?_
  · intro i j hi hj hij
    obtain ⟨p, h1, h3⟩ := hin i hi
    obtain ⟨p2, h4, h5⟩ := hin j hj
    have : p = p2 := by rw [← h3, ← h5, hij]
    subst this
    exact hnd2 i j p h1 h4
  · intro i c hic
    obtain ⟨p, h1, h3⟩ := am_cut_sp ps h hc i c hic
    rw [hpl i p h1]
    exact h3
  · rintro r h3 H2 ⟨rfl, rfl⟩ hl3 he ho
    have hz := am_oK_sp (k := fun r => K2 r (am_pst ps (h3.map (am_rc (am_pl ps))) H)) (am_psK_sp ps h3 H _ hk)
    have hH : H2 = am_pst ps (h3.map (am_rc (am_pl ps))) H := by
      apply List.ext_getElem?
      intro j
      by_cases hj : ∃ i, i < h.length ∧ am_pl ps i = j
      · obtain ⟨i, hi, rfl⟩ := hj
        obtain ⟨p, h1, h5⟩ := hin i hi
        have hc3 : h3[i]? = some (h3[i]'(by omega)) := List.getElem?_eq_getElem _
        rw [he i _ hc3, h5]
        refine (am_pst_in ps _ H i p _ hnd2 h1 (by rw [List.getElem?_map, hc3]; rfl) ?_).symm
        obtain ⟨p2, h6, h7⟩ := am_cut_sp ps h hc i _ (List.getElem?_eq_getElem hi)
        rw [h1] at h6
        cases h6
        exact (List.getElem?_eq_some_iff.mp h7).1
      · rw [ho.2 j (fun i hi z => hj ⟨i, hi, z⟩), am_pst_out ps _ H j (fun i hi z => hj ⟨i, by simpa [hl] using hi, hpl i j z⟩)]
    rw [hH]
    exact hz
