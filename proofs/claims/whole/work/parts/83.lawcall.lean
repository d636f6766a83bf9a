/-! THE LAW calls -/
section LW
variable {p : Program} {l : Launch} {e : Env} {R : Room} {s : State} {m : MethodId} {args : Array Value} {below : List Frame} {meth : Method} {c : Code} {Q : State → Prop} {D : va_G} {ad : Nat → Nat} {cI cW : ClassId} {A : Nat → Prop}
theorem lw_call {cells slots pc : Nat} {H : Heap} {locs : List Loc} {ls : Array Slot} {st0 rest : List Value} {a : Array Value} {A1 free : Nat → Prop} {k : Nat} {K' : Option Value → AH → Prop} {H0 : Heap} (hr : va_Run p l e R s m args below meth c H locs cells slots 0 0 (F0 m pc ls st0) rest (am_Q D ad cI cW A1 k K' a) free) (hS : va_S A H0 H locs) (hA : ∀ x, A1 x → A x) (hf : ∀ x, free x → A x)
    (kk : ∀ (r : Option Value) (h1 : AH) (H1 : Heap) (locs1 : List Loc), K' r h1 → h1.length = k → va_P D am_cl (am_w ad cI cW h1) H1 → va_S A H0 H1 locs1 → W p l e R s m args below meth c H1 locs1 cells slots Q (F0 m (pc + 3) ls ((r.map (am_cv ad)).toList ++ rest))) : W p l e R s m args below meth c H locs cells slots Q (F0 m pc ls st0) := by
  intro T hT X
  obtain ⟨v, st₀, t, T', L, h0, X', hL, e1, e2, ⟨r, h1, hv, hk, hn, hP, hz, hq⟩, st⟩ := hr T hT X
  cases hv
  rw [h0] at hz hq
  obtain ⟨t2, a1, b1⟩ := kk r h1 T'.heap (locs ++ L) hk hn (by rw [e1]; exact hP)
    ⟨Nat.le_trans hS.1 (by rw [e1]; exact hz), fun x g1 g2 => by rw [e1, hq x (Nat.lt_of_lt_of_le g1 hS.1) (fun z => g2 (hA x z))]; exact hS.2.1 x g1 g2, fun x hx => by
      rcases List.mem_append.mp hx with g | g
      · exact hS.2.2 x g
      · exact hf _ (hL x g)⟩ T' rfl X'
  exact ⟨t2, st t2 a1, b1⟩
theorem lw_V {cells slots pc k idx i ci nL : Nat} {own : String} {cc : ByteArray} {y : ME} {z : vw_C} {fs As rest : List Value} {J : AH} {H : Heap} {locs : List Loc} {ls : Array Slot} {K : Option Value → AH → Prop} (hx : p.tables.exec = Jvm.exec) (hb : c.code = cc) (hml : c.maxLocals = nL) (hown : s.vm.findClass own = some m.cls) (hts0 : ∀ w ∈ lw_tbl, w.before args s = true) (hK : va_K D am_cl (am_ty cI cW) s) (hNW : am_NW s) (hAx : am_Ax ad A J.length) (hA : ∀ x, s.heap.size ≤ x → A x) (hy : nth am_MT k = some y) (hnp : nth am_PN k = some (As.length + 1)) (hci : nth am_CI k = some (ci + 1)) (hzc : nth am_cl ci = some z) (hcell : J[i]? = some (.inr (.inr (ci, fs)))) (hlink : (Jvm.Cond.methodLink own idx y.1).before args s = true) (hfit : y.2.2.2.2.2.2.1 + 1 ≤ R.frames ∧ 8 + (y.2.2.1 + 11) + y.2.2.2.2.2.2.2.1 ≤ R.locals) (hcs : cells ≤ R.cells ∧ slots ≤ R.slots) (hm : am_M k (.ref i :: As) J K) (hP : va_P D am_cl (am_w ad cI cW J) H) (hS : va_S A s.heap H locs) (hls : ls.size = nL) (hroom : ((rest).map fun v => v.category).sum ≤ 8) (hd : decode cc pc = .ok (.invokevirtual idx, 3))
    (kk : ∀ (r : Option Value) (J2 : AH) (H1 : Heap) (locs1 : List Loc), K r J2 → J2.length = J.length → va_P D am_cl (am_w ad cI cW J2) H1 → va_S A s.heap H1 locs1 → W p l e R s m args below meth c H1 locs1 cells slots Q (F0 m (pc + 3) ls ((r.map (am_cv ad)).toList ++ rest))) : W p l e R s m args below meth c H locs cells slots Q (F0 m pc ls ((As.map (am_cv ad)).reverse ++ .ref (ad i) :: rest)) := by
  have hts : ∀ w ∈ am_TS, w.before args s = true := fun w h => hts0 w (List.mem_filter.mp h).1
  have hz2 := am_ok_zip hy hnp hci
  simp only [am_okZ, am_okN, Bool.and_eq_true, decide_eq_true_eq, Bool.not_eq_true'] at hz2
  obtain ⟨⟨hcn, hpl, hn1, hn2⟩, hst, hpar, hcl⟩ := hz2
  rw [hzc] at hcl
  simp only [decide_eq_true_eq] at hcl
  rw [am_M_def] at hm
  obtain ⟨y2, hy2, hent⟩ := hm
  rw [hy] at hy2
  cases hy2
  have hM := am_met (l := l) (D := D) (ad := ad) (cI := cI) (cW := cW) (h := J) (A := A) (sz := H.size) hy hAx (am_ent_mo _ _ (fun L2 q => am_E_SP q) hent)
  have hk : w_kind y = .instanceMethod y.1 := by unfold w_kind; rw [hst]; rfl
  have hse : w_sel y = .selects y.1.cls y.1 y.1 := by unfold w_sel; rw [hst]; rfl
  have hfree : ∀ x, va_A (am_w ad cI cW J) H.size x → A x := by
    intro x hx
    rcases hx with ⟨j, z, hz⟩ | hx
    · exact (am_Ax_D (cI := cI) (cW := cW) hAx).2 j _ hz
    · exact hA x (Nat.le_trans hS.1 hx)
  have hrun := va_runV (As := As.map (am_cv ad)) (rest := rest) (b := ad i) (C := y.1.cls) (n := As.length) (cells := cells) (slots := slots) (g := F0 m pc ls ((As.map (am_cv ad)).reverse ++ .ref (ad i) :: rest)) (H := H) (locs := locs) (e := e) (below := below) (meth := meth) ⟨hx, hb, hml, hown, hts⟩ hM ⟨callB_of As.length hts (am_good_ws hy) rfl rfl rfl (hts _ (am_ini_ts hy)) hlink ⟨hn1, hn2, hpar⟩ hfit, by rw [← hk]; exact hts _ (am_kind_ts hy), by rw [← hse]; exact hts _ (am_sel_ts hy)⟩ ⟨am_blind, ?_, fun U hU hW => ⟨rfl, by rw [hU], by rw [hU]; exact hP, va_K.moved hW.alike hK, am_NW_warm hW hNW⟩⟩ rfl ?_ hls rfl (lv_room hroom) hd hcs
  · exact lw_call hrun hS hfree hfree (fun r J2 H1 locs1 g1 g2 g3 g4 => kk r J2 H1 locs1 g1 g2 g3 g4)
  · have := va_recv (D := D) (cl := am_cl) hK hP (ci := ci) (q0 := i) (q := z) (by rw [← nth_eq]; exact hzc) (am_w_at hcell)
    rw [← hcl]
    exact this
  · rw [List.length_map]
end LW
