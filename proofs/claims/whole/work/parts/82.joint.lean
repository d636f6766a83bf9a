/-! both objects in one heap -/
def JH (H M : AH) : AH := H ++ M.map (am_rc (fun i => i + 120))
theorem rc_id (c : AC) : am_rc (fun i => i) c = c := by
  match c with
  | .inl q => rfl
  | .inr (.inl (n, g)) =>
    show (Sum.inr (Sum.inl (n, fun j => (g j).map (fun i => i))) : AC) = _
    congr 3
    funext j
    cases g j <;> rfl
  | .inr (.inr (c, fs)) =>
    show (Sum.inr (Sum.inr (c, am_rS (fun i => i) fs)) : AC) = _
    congr 3
    induction fs with
    | nil => rfl
    | cons v fs ih => cases v <;> exact congrArg (List.cons _) ih
theorem cv_id (v : Value) : am_cv (fun i => i) v = v := by cases v <;> rfl
theorem rS_id (S : List Value) : am_rS (fun i => i) S = S := by
  induction S with
  | nil => rfl
  | cons v S ih => show am_cv _ v :: am_rS _ S = _; rw [ih, cv_id]
/-- a call of the class, with the model behind -/
theorem j_class {k : Nat} {aa : List Value} {H X : AH} {K : Option Value → AH → Prop} (h : am_M k aa H K) : am_M k aa (H ++ X) (fun r J => ∃ H2, K r H2 ∧ H2.length = H.length ∧ J = H2 ++ X) := by
  have h2 := am_frameM (f := fun i => i) (H := H ++ X) (K2 := fun r J => ∃ H2, K r H2 ∧ H2.length = H.length ∧ J = H2 ++ X) (fun i j _ _ e => e) (fun i c hc => by rw [rc_id]; exact (List.getElem?_append_left (List.getElem?_eq_some_iff.mp hc).1).trans hc) h (fun r h2 H2 hk hl he ho => ⟨h2, by cases r with | none => exact hk | some v => rw [show (some v : Option Value).map (am_cv (fun i => i)) = some v from by rw [Option.map_some, cv_id]]; exact hk, hl, ?_⟩)
  · rw [rS_id] at h2; exact h2
  · apply List.ext_getElem?
    intro j
    by_cases hj : j < H.length
    · have e := he j _ (List.getElem?_eq_getElem (show j < h2.length by omega))
      rw [rc_id] at e
      rw [e, List.getElem?_append_left (by omega)]
      exact (List.getElem?_eq_getElem _).symm
    · rw [ho.2 j (fun i hi z => hj (by have z : i = j := z; omega)), List.getElem?_append_right (by omega), List.getElem?_append_right (by omega), hl]
theorem cv_ints {f : Nat → Nat} : ∀ (xs : List Int32), am_rS f (xs.map Value.int) = xs.map Value.int
  | [] => rfl
  | x :: xs => by show Value.int x :: am_rS f (xs.map Value.int) = _; rw [cv_ints xs]; rfl
/-- a call of the model, behind the class -/
theorem j_model {k : Nat} {xs : List Int32} {H M : AH} {K : Option Value → AH → Prop} (hH : H.length = 120) (h : am_M k (.ref 0 :: xs.map Value.int) M K) : am_M k (.ref 120 :: xs.map Value.int) (JH H M) (fun r J => ∃ r2 M2, K r2 M2 ∧ r = r2.map (am_cv (fun i => i + 120)) ∧ J = JH H M2) := by
  have h2 := am_frameM (f := fun i => i + 120) (H := JH H M) (K2 := fun r J => ∃ r2 M2, K r2 M2 ∧ r = r2.map (am_cv (fun i => i + 120)) ∧ J = JH H M2) (fun i j _ _ e => by have e : i + 120 = j + 120 := e; omega) (fun i c hc => by
    unfold JH
    show (H ++ M.map (am_rc (fun i => i + 120)))[i + 120]? = _
    rw [List.getElem?_append_right (by omega), hH, Nat.add_sub_cancel, List.getElem?_map, hc]; rfl) h (fun r h2 H2 hk hl he ho => ⟨r, h2, hk, rfl, ?_⟩)
  · rw [show am_rS (fun i => i + 120) (.ref 0 :: xs.map Value.int) = .ref 120 :: xs.map Value.int from by show Value.ref (0 + 120) :: am_rS _ (xs.map Value.int) = _; rw [cv_ints]] at h2
    exact h2
  · apply List.ext_getElem?
    intro j
    unfold JH
    by_cases hj : j < 120
    · rw [ho.2 j (fun i hi z => by have z : i + 120 = j := z; omega), List.getElem?_append_left (by omega)]
      unfold JH
      rw [List.getElem?_append_left (by omega)]
    · rw [List.getElem?_append_right (by omega), hH, List.getElem?_map]
      by_cases hi : j - 120 < h2.length
      · have e : H2[(j - 120) + 120]? = _ := he (j - 120) _ (List.getElem?_eq_getElem hi)
        rw [show j - 120 + 120 = j by omega] at e
        rw [e, List.getElem?_eq_getElem hi]; rfl
      · rw [List.getElem?_eq_none (l := h2) (i := j - 120) (by omega)]
        show H2[j]? = none
        rw [ho.2 j (fun i hi2 z => by have z : i + 120 = j := z; omega)]
        unfold JH
        rw [List.getElem?_append_right (by omega), List.getElem?_map, List.getElem?_eq_none (l := M) (i := j - List.length H) (by omega)]; rfl
theorem CR.len {a : Ab} {H : AH} (h : CR a H) : H.length = 120 := by
  obtain ⟨W, S, A, I, B, L, rfl, -⟩ := h
  rfl
/-- the state of the law: both objects hold the same -/
def JS (a : Ab) (J : AH) : Prop := Inv a ∧ ∃ (H : AH) (m : MS) (s : S3), CR a H ∧ MR a m ∧ J = JH H (mC m s.1 s.2.2)
theorem js_c {a : Ab} {J : AH} (h : JS a J) : ∃ fs, J[0]? = some (.inr (.inr (10, fs))) := by
  obtain ⟨-, H, m, s, ⟨W, S, A, I, B, L, rfl, -⟩, -, rfl⟩ := h
  exact ⟨_, rfl⟩
/-- one call of the law, told of both: it keeps the state, and the answers are the same -/
theorem j_pair {α : Type} {mk : α → Value} {k1 k2 : Nat} {xs : List Int32} {a : Ab} {J : AH} (hmk : ∀ z (f : Nat → Nat), am_cv f (mk z) = mk z) (hp : PR mk k1 k2 (xs.map Value.int)) (hJ : JS a J) : am_M k1 (.ref 0 :: xs.map Value.int) J (fun r J2 => J2.length = J.length ∧ (∃ fs, J2[120]? = some (.inr (.inr (11, fs)))) ∧ ∃ z, r = some (mk z) ∧ am_M k2 (.ref 120 :: xs.map Value.int) J2 (fun r2 J3 => J3.length = J.length ∧ r2 = some (mk z) ∧ ∃ a2, JS a2 J3)) := by
  obtain ⟨hI, H, m, s, hC, hM, rfl⟩ := hJ
  refine am_M_mo ?_ (j_class (X := (mC m s.1 s.2.2).map (am_rc (fun i => i + 120))) (hp a H hI hC))
  rintro r J2 ⟨H2, ⟨a2, hI2, hC2, ⟨z, rfl⟩, hm⟩, hl, rfl⟩
  have hl2 := hC2.len
  refine ⟨by unfold JH; rw [List.length_append, List.length_append, hl], ⟨_, by rw [List.getElem?_append_right (by omega), hl2]; rfl⟩, z, rfl, am_M_mo ?_ (j_model (H := H2) hl2 (hm m s hM))⟩
  rintro r3 J3 ⟨r2, M2, ⟨rfl, m2, s2, hM2, rfl⟩, rfl, rfl⟩
  refine ⟨?_, congrArg some (hmk z _), a2, hI2, H2, m2, s2, hC2, hM2, rfl⟩
  unfold JH
  rw [List.length_append, List.length_append, hl2, hC.len]
  rfl
