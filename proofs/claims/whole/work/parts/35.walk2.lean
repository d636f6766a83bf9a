/-! SPECS: the shortest walk, whole -/
def shwA (n : Nat) (r d : Nat → Int32) : Nat → Int32 := if ahdF r d n 0 = true then va_cpy r d 0 0 8 else d
def shwV (w : WS) (n : Nat) (r d : Nat → Int32) : Int32 := if n = 0 then nI 0 else absI (w.2 2 (shwA n r d (n - 1)).toNatClampNeg - w.2 2 (shwA n r d 0).toNatClampNeg)
theorem l_shw {w md : WS} {n : Nat} {A P : Nat → Nat} {s : S3} {r d a : Nat → Int32} {K : Option Value → AH → Prop} (hw : wOk w n A P) (ha : a = shwA n r d) (hin : ∀ j, j < n → vp_in (a j) 8) (hK : K (some (.int (shwV w n r d))) (oC s md (shwA n r d) (r) w)) : am_E i_X4_shortestWalk 51 [some (.ref 0), some (.ref 11)] [] (oC s md (a) (r) w) K := by
  have hp : ¬ w.1 0 = 0 → 0 < n := fun h => by
    rcases Nat.eq_zero_or_pos n with z | z
    · subst z; exact absurd hw.1 h
    · exact z
  have em : 0 < n → (w.1 0 - nI 1).toNatClampNeg = n - 1 := fun h => by rw [hw.1, nI_m n h, nI_clamp (by have := hw.2.1; omega)]
  have e0 : (nI 0).toNatClampNeg = 0 := nI_clamp (by omega)
  subst ha
  refine b_X4_shortestWalk [51] ?_
  conv => whnf
  refine ⟨fun c55 => ?_, fun c55 => ?_⟩
  · conv => whnf
    have h0 : n = 0 := by rw [hw.1] at c55; exact (nI_eq (by have := hw.2.1; omega) (by omega)).mp c55
    subst h0
    exact hK
  · refine b_X4_shortestWalk [51] ?_
    conv => whnf
    refine ⟨(by rw [hw.1, nI_m n (hp c55)]; exact vI8 hw.2.1 (by have := hp c55; omega)), ?_⟩
    conv => whnf
    rw [em (hp c55)]
    refine ⟨(hin (n - 1) (by have := hp c55; omega)), ?_⟩
    conv => whnf
    refine ⟨(vI8 (Nat.le_refl 8) (by omega)), ?_⟩
    conv => whnf
    rw [e0]
    refine ⟨(hin 0 (hp c55)), ?_⟩
    conv => whnf
    rw [shwV, if_neg (by have := hp c55; omega)] at hK
    exact hK
theorem s_shw {w md : WS} {n : Nat} {A P : Nat → Nat} {s : S3} {f g : Nat → Int32} (hw : wOk w n A P) {K : Option Value → AH → Prop} (hK : ∀ r d, r = itr (srtI w (nI 1)) n 0 g → d = itr (srtI w (Int32.ofInt (-1))) n 0 f → K (some (.int (shwV w n r d))) (oC s md (shwA n r d) (r) w)) : am_M i_X4_shortestWalk [.ref 0, .ref 11] (oC s md (f) (g) w) K := by
  refine e_X4_shortestWalk [51] ?_
  conv => whnf
  refine s_srtg hw (fun r er hr => ?_)
  refine b_X4_shortestWalk [51] ?_
  conv => whnf
  refine s_srtf hw (fun d ed hd => ?_)
  refine b_X4_shortestWalk [51] ?_
  conv => whnf
  refine s_ahd_ (n := n) (f := r) (g := d) rfl rfl hw.2.1 hw.1 ?_
  refine b_X4_shortestWalk [51] ?_
  conv => whnf
  refine ⟨fun c33 => ?_, fun c33 => ?_⟩
  · exact l_shw (a := d) hw (by rw [shwA, if_neg (by rw [bI_0.mp c33]; decide)]) hd (hK r d er ed)
  · conv => whnf
    refine ⟨(by decide), ?_⟩
    conv => whnf
    exact l_shw (a := va_cpy r d 0 0 8) hw (by rw [shwA, if_pos (bI_n0.mp c33)]) (fun j hj => by have := hw.2.1; rw [pk_cpy_in (by omega) (by omega), show 0 + (j - 0) = j by omega]; exact hr j hj) (hK r d er ed)
def thaF (t x : Int32) (f : Nat → Int32) : Int32 := if x < 0 then Int32.ofInt (-9) else if t ≤ x then Int32.ofInt (-9) else f x.toNatClampNeg
theorem s_tha {w md : WS} {n : Nat} {A P : Nat → Nat} {s : S3} {f g : Nat → Int32} {x : Int32} (hw : wOk w n A P) {K : Option Value → AH → Prop} (hK : K (some (.int (thaF (w.1 0) x f))) (oC s md (f) (g) w)) : am_M i_X4_thingAt [.ref 0, .ref 11, .int x] (oC s md (f) (g) w) K := by
  refine e_X4_thingAt [] ?_
  conv => whnf
  refine ⟨fun c1 => ?_, fun c1 => ?_⟩
  · refine b_X4_thingAt [] ?_
    conv => whnf
    rw [thaF, if_pos c1] at hK
    exact hK
  · conv => whnf
    refine ⟨fun c9 => ?_, fun c9 => ?_⟩
    · refine b_X4_thingAt [] ?_
      conv => whnf
      rw [thaF, if_neg c1, if_pos c9] at hK
      exact hK
    · conv => whnf
      refine ⟨(by obtain ⟨j, hj, ej⟩ := nI_of c1; rw [hw.1, ej] at c9; rw [ej]; have h2 : ¬ n ≤ j := fun z => c9 ((nI_leI (by have := hw.2.1; omega) hj).mpr z); exact vI8 hw.2.1 (by omega)), ?_⟩
      conv => whnf
      refine b_X4_thingAt [] ?_
      conv => whnf
      rw [thaF, if_neg c1, if_neg c9] at hK
      exact hK
