/-! THE FRESH STATE -/
set_option maxRecDepth 100000 in
theorem in_cnl : ∀ w ∈ cn_nl.map cn_w, w ∈ lw_tbl := am_in [95, 166, 180, 185, 188, 227, 240, 243, 248, 250, 253, 290, 295, 297, 299, 318, 323, 325, 341, 346, 348] (by decide +kernel)
set_option maxRecDepth 100000 in
theorem in_cno : ∀ w ∈ [Cond.arrayOver (.object "RivetedSisters$Wire"), Cond.arrayClass .int], w ∈ lw_tbl := am_in [165, 157] (by decide +kernel)
def w0 : WS := (fun _ => nI 0, fun _ _ => 0)
def fI (i : Nat) : Int32 := if i = 6 then Int32.ofInt (-9) else nI 0
def fG : AH := gC (fun _ => w0) (fun _ => (fun _ => 0, nI 0, nI 0)) (fun _ _ => 0) fI (fun _ => (Int32.ofInt (-9), Int32.ofInt (-9))) (fun i => Int64.ofNat i)
def fa : Ab := (fun _ => w0, fun _ _ => 0, fun _ => 0)
def fm : MS := (fun j => if j = 5 then nI 0 else 0, fun _ _ => 0)
def fp : List Nat := [0, 1, 2, 3, 4, 5, 6, 75, 76, 119, 7, 8, 9, 10, 11, 12, 73, 74, 77, 78, 79, 80, 81, 82, 83, 84, 85, 86, 87, 88, 89, 90, 91, 92, 93, 94, 95, 96, 97, 98, 99, 100, 101, 102, 103, 104, 105, 106, 107, 108, 109, 110, 111, 112, 113, 114, 115, 116, 117, 118, 63, 64, 65, 66, 67, 68, 69, 70, 71, 72, 13, 14, 15, 16, 17, 18, 19, 20, 21, 22, 23, 24, 25, 26, 27, 28, 29, 30, 31, 32, 33, 34, 35, 36, 37, 38, 39, 40, 41, 42, 43, 44, 45, 46, 47, 48, 49, 50, 51, 52, 53, 54, 55, 56, 57, 58, 59, 60, 61, 62]
theorem n0c : (nI 0).toNatClampNeg = 0 := by decide
theorem w0_G : wG w0 := by
  have e : nO w0 = 0 := n0c
  refine ⟨⟨by rw [e]; rfl, by rw [e]; decide, fun j hj => ?_, fun t ht => ?_⟩, fun t ht => ?_, fun j _ => ?_, 0, by decide, rfl⟩
  · rw [e] at hj; omega
  · rw [e] at ht; omega
  · rw [e] at ht; omega
  · show (nI 0).toBitVec.getLsbD j = false
    rw [nI_0]
    simp
theorem fa_I : Inv fa := ⟨w0_G, Nat.zero_le _, fun _ => w0_G, Nat.zero_le _, Nat.zero_le _, Nat.zero_le _, fun k hk => absurd hk (Nat.not_lt_zero k)⟩
theorem fa_C : CR fa fG := ⟨_, _, _, _, _, _, rfl, rfl, rfl, rfl, rfl, rfl, rfl, rfl, rfl, rfl, 0, by decide, rfl, fun k hk => absurd hk (Nat.not_lt_zero k)⟩
theorem fa_M : MR fa fm := by
  have h0 : (0 : Int32) = nI 0 := nI_0.symm
  refine ⟨⟨fun i hi => ?_, fun i hi t ht => rfl⟩, fun j hj => rfl, ⟨h0, fun j hj => rfl⟩, ⟨h0, fun j hj => rfl⟩, ⟨h0, fun h => absurd h (by decide)⟩, h0, fun k hk => absurd hk (Nat.not_lt_zero k)⟩
  show (if i + 5 = 5 then nI 0 else 0) = nI 0
  by_cases h : i + 5 = 5
  · rw [if_pos h]
  · rw [if_neg h]; exact h0
theorem fa_J : JS fa (JH fG (mC fm (fun _ => 0) 0)) := ⟨fa_I, fG, fm, (fun _ => 0, 0, 0), fa_C, fa_M, rfl⟩
/-! the object's cells in the order of the worlds -/
abbrev fpp (i : Nat) : Nat := fp.getD i 0
theorem mp_cut {α β : Type} (f : α → β) {l : List α} {a : α} (k : Nat) (h : l = l.take k ++ a :: l.drop (k + 1)) : l.map f = (l.take k).map f ++ f a :: (l.drop (k + 1)).map f := by
  rw [← List.map_cons, ← List.map_append, ← h]
set_option maxRecDepth 100000 in
theorem fp_1 : (fp.take 71).map (fun i => j_10[i]?) = (fG.take 71).map (fun c => some (am_rc fpp c)) := rfl
set_option maxRecDepth 100000 in
theorem fp_3 : (fp.drop 72).map (fun i => j_10[i]?) = (fG.drop 72).map (fun c => some (am_rc fpp c)) := rfl
set_option maxRecDepth 100000 in
theorem fp_2 : j_10[14]? = some (am_rc fpp (.inr (.inl (8, kA)))) := by
  have e : (fun k => (kB k).map (fun i => i + 13)) = (fun k => (kA k).map fpp) := by
    funext k
    unfold kA kB
    by_cases h : k < 8
    · rcases (show k = 0 ∨ k = 1 ∨ k = 2 ∨ k = 3 ∨ k = 4 ∨ k = 5 ∨ k = 6 ∨ k = 7 by omega) with rfl | rfl | rfl | rfl | rfl | rfl | rfl | rfl <;> rfl
    · rw [if_neg h, if_neg h]; rfl
  show some (Sum.inr (Sum.inl (8, fun k => (kB k).map (fun i => i + 13))) : AC) = some (Sum.inr (Sum.inl (8, fun k => (kA k).map fpp)))
  rw [e]
set_option maxRecDepth 100000 in
theorem fp_h : fp.map (fun i => j_10[i]?) = fG.map (fun c => some (am_rc fpp c)) := by
  rw [mp_cut (fun i => j_10[i]?) (l := fp) (a := 14) 71 rfl, mp_cut (fun c => some (am_rc fpp c)) (l := fG) (a := .inr (.inl (8, kA))) 71 rfl, fp_1, fp_2, fp_3]
theorem cn_perm {D : va_G} {cI cW : ClassId} {A : Nat → Prop} {ad : Nat → Nat} {H : Heap} {J G : AH} (ps : List Nat) (hnd : va_nd ps = true) (h : ps.map (fun i => J[i]?) = G.map (fun c => some (am_rc (fun i => ps.getD i 0) c))) (hP : va_P D am_cl (am_w ad cI cW J) H) (hD : va_D A (am_w ad cI cW J)) : va_P D am_cl (am_w (fun i => ad (ps.getD i 0)) cI cW G) H ∧ va_D A (am_w (fun i => ad (ps.getD i 0)) cI cW G) := by
  have key : ∀ (k : Nat) (q : Nat × va_E), (am_w (fun i => ad (ps.getD i 0)) cI cW G)[k]? = some q → ∃ j, ps[k]? = some j ∧ (am_w ad cI cW J)[j]? = some q := by
    intro k q hk
    rw [am_w, am_wi_at] at hk
    obtain ⟨c, h1, h2⟩ := Option.map_eq_some_iff.mp hk
    have h3 : (ps.map (fun i => J[i]?))[k]? = some (some (am_rc (fun i => ps.getD i 0) c)) := by rw [h, List.getElem?_map, h1]; rfl
    rw [List.getElem?_map] at h3
    obtain ⟨j, h4, h5⟩ := Option.map_eq_some_iff.mp h3
    refine ⟨j, h4, ?_⟩
    rw [am_w_at h5, ← h2, c_rc]
    have e : ps.getD k 0 = j := by rw [List.getD_eq_getElem?_getD, h4]; rfl
    show some (ad j, _) = some (ad (ps.getD (0 + k) 0), _)
    rw [Nat.zero_add, e]
  refine ⟨fun k q hk => ?_, fun i j x y hi hj hxy => ?_, fun k q hk => ?_⟩
  · obtain ⟨j, -, h1⟩ := key k q hk
    exact hP j q h1
  · obtain ⟨a, g1, g2⟩ := key i x hi
    obtain ⟨b, g3, g4⟩ := key j y hj
    have e := hD.1 a b x y g2 g4 hxy
    subst e
    exact va_nd_inj ps hnd i j a g1 g3
  · obtain ⟨j, -, h1⟩ := key k q hk
    exact hD.2 j q h1
theorem am_Ax_of {D : va_G} {cI cW : ClassId} {A : Nat → Prop} {ad : Nat → Nat} {J : AH} (h : va_D A (am_w ad cI cW J)) : am_Ax ad A J.length := ⟨fun i j hi hj e => h.1 i j _ _ (am_w_at (List.getElem?_eq_getElem hi)) (am_w_at (List.getElem?_eq_getElem hj)) e, fun i hi => h.2 i _ (am_w_at (List.getElem?_eq_getElem hi))⟩
set_option maxRecDepth 100000 in
theorem fG_cl : cl_h fG.length fG := by
  show cl_h 120 fG
  rw [show fG = fG.take 71 ++ .inr (.inl (8, kA)) :: fG.drop 72 from rfl]
  refine cl_h_app (fun c hc => cl_cb_c (k := 120) (List.all_eq_true.mp (show (fG.take 71).all (cl_cb 120) = true from rfl) c hc)) (cl_h_cons (fun j x h => ?_) (fun c hc => cl_cb_c (k := 120) (List.all_eq_true.mp (show (fG.drop 72).all (cl_cb 120) = true from rfl) c hc)))
  have h : kA j = some x := h
  show x < 120
  unfold kA at h
  by_cases hj : j < 8
  · rw [if_pos hj] at h; cases h; omega
  · rw [if_neg hj] at h; cases h
theorem j0_e : j_10.map (am_rc (fun i => i + 0)) = j_10 := by
  have e : j_10.map (am_rc (fun i => i + 0)) = j_10.map id := List.map_congr_left (fun c _ => rc_id c)
  rw [e, List.map_id]
