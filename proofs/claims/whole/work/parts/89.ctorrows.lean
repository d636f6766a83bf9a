/-! CONSTRUCTORS: their rows -/
theorem cn_blind {l : Launch} {D : va_G} {cI cW : ClassId} {ws : va_W} {av : List Value} {sz : Nat} : FrameBlind (va_Pc av (fun U => U.heap.size = sz ∧ va_P D am_cl ws U.heap ∧ va_K D am_cl (am_ty cI cW) U ∧ CNW U)) := by
  rintro a U g mk ⟨q0, q1, q2, q3, q4⟩
  exact ⟨q0, q1, q2, va_K.moved (u := U) (U := U.calling g mk a) (Vm.Alike.refl U.vm) q3, CNW.same (s := U) (U := U.calling g mk a) rfl q4⟩
set_option maxRecDepth 100000 in
theorem in_cn : ∀ w ∈ [Cond.arrayClass .int, Cond.instanceMethod objectInit, Cond.code objectInit ⟨#[0xb1]⟩ 1 none], w ∈ lw_tbl := am_in [157, 91, 92] (by decide +kernel)
theorem cn_ac : Cond.arrayClass .int ∈ am_TS := am_ts (in_cn _ List.mem_cons_self) rfl
theorem cn_oi : Cond.instanceMethod objectInit ∈ am_TS := am_ts (in_cn _ (List.mem_cons_of_mem _ List.mem_cons_self)) rfl
theorem cn_oc : Cond.code objectInit ⟨#[0xb1]⟩ 1 none ∈ am_TS := am_ts (in_cn _ (List.mem_cons_of_mem _ (List.mem_cons_of_mem _ List.mem_cons_self))) rfl
section CN
variable {p : Program} {l : Launch} {e : Env} {R : Room} {s : State} {m : MethodId} {args : Array Value} {below : List Frame} {meth : Method} {c : Code} {Q : State → Prop} {D : va_G} {cI cW : ClassId} {A : Nat → Prop} {cc : ByteArray} {nL o : Nat} {cells slots pc : Nat} {H : Heap} {locs : List Loc} {ls : Array Slot} {rest : List Value} {ad : Nat → Nat} {J : AH}
theorem cn_newa (X : CNX p s m args c D cI cW A cc nL o) (hN : CNS D cI cW A s ad J H locs) {n : Nat} {x : Int32} (hx1 : ¬ x < 0) (hx2 : x.toNatClampNeg = n) (hb4 : n ≤ 100000) (hcells : cells + 1 ≤ R.cells) (hslots : slots + n ≤ R.slots) (hd : decode cc pc = .ok (.newarray .int, 2)) (kk : ∀ (ad2 : Nat → Nat) (H2 : Heap), (∀ i, i < J.length → ad2 i = ad i) → CNS D cI cW A s ad2 (J ++ [.inl (n, fun _ => 0)]) H2 locs → W p l e R s m args below meth c H2 locs (cells + 1) (slots + n) Q (F0 m (pc + 2) ls (.ref (ad2 J.length) :: rest))) : W p l e R s m args below meth c H locs cells slots Q (F0 m pc ls (.int x :: rest)) := by
  obtain ⟨hx, hb, hml, hown, hts, hK, hNW, hA⟩ := X
  obtain ⟨hP, hD, hS, hC⟩ := hN
  refine va_newa (atype := .int) (ty := .int) (a0 := (n, .inl (fun _ => 0))) hx hb (hts _ cn_ac) rfl hK hP hD hS hA (fun _ => rfl) hx1 hx2 (by show n * 4 ≤ 536870912; omega) hcells hslots hd (fun q cA H1 hK1 hP1 hD1 hS1 => ?_)
  have e1 : s.vm.findClass ("[" ++ FieldType.int.toString) = some cI := (hK.2 0 (cI, .int) rfl).2
  have e2 : s.vm.findClass ("[" ++ FieldType.int.toString) = some cA := (hK1.2 2 (cA, .int) rfl).2
  obtain rfl : cA = cI := Option.some.inj (e2.symm.trans e1)
  have ew : am_w (cn_u J.length ad (fun _ => q)) cA cW (J ++ [.inl (n, fun _ => 0)]) = am_w ad cA cW J ++ [(q, .inl (cA, (n, .inl (fun _ => 0))))] := w_join (f := ad) (g := fun _ => q) (J := J) (K := [.inl (n, fun _ => 0)]) hC
  have h2 := kk (cn_u J.length ad (fun _ => q)) H1 (fun i hi => cn_u_lo hi) ⟨by rw [ew]; exact hP1, by rw [ew]; exact hD1, hS1, by
    rw [List.length_append]
    exact cl_h_app (cl_h_mo (Nat.le_add_right _ _) hC) (cl_h_cons trivial (fun _ h => absurd h List.not_mem_nil))⟩
  rw [cn_u_at] at h2
  exact h2
theorem cn_newR (X : CNX p s m args c D cI cW A cc nL o) (hN : CNS D cI cW A s ad J H locs) {ci N maxL mc ms idx1 idx2 : Nat} {C : String} {T : u_T} {ty : Nat → FieldType} {cc2 : ByteArray} {fs : List Value} {rm : Room} {J2 : AH} (hk : cn_K ci C T N ty cc2 maxL fs) (hC : cn_C l D cI cW C cc2 maxL rm ci fs J2 mc ms) (hJ2 : cl_h J2.length J2) (hrc : rm.cells = mc ∧ rm.slots = ms) (hR : rm.frames + 1 ≤ R.frames ∧ 8 + (maxL + 11) + rm.locals ≤ R.locals) (hc1 : cells + 1 + mc ≤ R.cells) (hs1 : slots + N + ms ≤ R.slots) (hclk : Cond.classLink (am_cn o) idx1 C ∈ am_TS) (hlk : Cond.methodLink (am_cn o) idx2 (cn_y C) ∈ am_TS ∨ (am_cn o, idx2, C) ∈ cn_nl) (hls : ls.size = nL) (hroom : (rest.map fun v => v.category).sum ≤ 7) (d0 : decode cc pc = .ok (.new idx1, 3)) (d1 : decode cc (pc + 3) = .ok (.dup, 1)) (d2 : decode cc (pc + 4) = .ok (.invokespecial idx2, 3)) (kk : ∀ (ad2 : Nat → Nat) (H2 : Heap) (locs2 : List Loc), (∀ i, i < J.length → ad2 i = ad i) → CNS D cI cW A s ad2 (J ++ J2.map (am_rc (fun i => i + J.length))) H2 locs2 → W p l e R s m args below meth c H2 locs2 (cells + 1 + mc) (slots + N + ms) Q (F0 m (pc + 7) ls (.ref (ad2 J.length) :: rest))) : W p l e R s m args below meth c H locs cells slots Q (F0 m pc ls rest) := by
  obtain ⟨hx, hb, hml, hown, hts, hK, hNW, hA⟩ := X
  obtain ⟨hP, hD, hS, hcl⟩ := hN
  obtain ⟨hk1, hk2, hk3, hk4, hk5, hk6, hk7, hk8, hk9, hk10, hk11⟩ := hk
  refine va_new (ci := ci) (fs := fs) (C := C) (T := T) (N := N) hx hb hts hk2 ty hk3 hown (hts _ hclk) (hts _ hk5) (hts _ hk6) hK hP hD hS hA hk1 hk4 (by omega) (by omega) d0 (fun q H1 hP1 hD1 hS1 => ?_)
  refine lv_dup hx hb d1 rfl ?_
  have hPc : va_P D am_cl [(q, .inr (ci, fs))] H1 := hP1.sub [(am_w ad cI cW J).length] (by simp)
  have hFc : ∀ x, va_A [(q, .inr (ci, fs))] H1.size x → A x := va_free (wc := [(q, .inr (ci, fs))]) hD1 hS1 hA [(am_w ad cI cW J).length] (by simp)
  have hG : GoodIn am_TS (Cond.code (cn_y C) cc2 maxL none :: am_TS) := fun w hw => by
    rcases List.mem_cons.mp hw with rfl | hw
    · exact ⟨hk7, good_of_word rfl⟩
    · exact ⟨hw, good_of_word (am_ts_good w hw)⟩
  have hd0 : (cn_y C).cls ≠ "java/lang/invoke/MethodHandle" ∧ (cn_y C).cls ≠ "java/lang/invoke/VarHandle" ∧ (parseMethodDescriptor (cn_y C).desc).map (fun d => d.parameters.length) = some 0 := ⟨hk9, hk10, by show (parseMethodDescriptor "()V").map (fun d => d.parameters.length) = some 0; decide +kernel⟩
  have hp : PreS s H1 (va_Pc [.ref q] (fun U => U.heap.size = H1.size ∧ va_P D am_cl [(q, .inr (ci, fs))] U.heap ∧ va_K D am_cl (am_ty cI cW) U ∧ CNW U)) (.ref q :: []) := ⟨cn_blind (l := l), fun U hU hW => ⟨rfl, by rw [hU], by rw [hU]; exact hPc, va_K.moved hW.alike hK, CNW.warm hW hNW⟩⟩
  have hrm : (((.ref q : Value) :: rest).map fun v => v.category).sum ≤ 8 := by
    show 1 + (rest.map fun v => v.category).sum ≤ 8
    omega
  have hrun : va_Run p l e R s m args below meth c H1 locs (cells + 1) (slots + N) mc ms (F0 m (pc + 4) ls (.ref q :: .ref q :: rest)) (.ref q :: rest) (va_Qv (fun _ : Nat → Nat => True) (cn_B D cI cW J2 (va_A [(q, .inr (ci, fs))] H1.size) q) (va_A [(q, .inr (ci, fs))] H1.size) (Value.ref q :: []).toArray) (va_A [(q, .inr (ci, fs))] H1.size) := by
    rcases hlk with h | h
    · exact va_runI (As := []) (rest := .ref q :: rest) ⟨hx, hb, hml, hown, hts⟩ (hC q H1.size) (cwI 0 hts hG rfl hrc.1 hrc.2 (hts _ hk6) (hts _ h) (hts _ hk8) rfl hd0 hR) hp rfl rfl hls rfl (lv_room hrm) d2 ⟨hc1, hs1⟩
    · exact va_runIN (As := []) (rest := .ref q :: rest) ⟨hx, hb, hml, hown, hts⟩ (hC q H1.size) ⟨va_cnB 0 hts hG rfl hrc.1 hrc.2 (hNW.1 _ h) (hts _ hk6) hd0 hR, rfl, hts _ hk8⟩ hp rfl rfl hls rfl (lv_room hrm) d2 ⟨hc1, hs1⟩
  refine va_callv hrun hS1 (fun x _ h => hFc x h) hFc (fun u t H2 locs2 ht hvm hw hB hz1 hk1 hS2 => ?_)
  obtain ⟨hu0, hPu, hDu⟩ := hB
  rw [ht] at hPu
  obtain ⟨hP3, hD3⟩ := cn_join hP1 hD1 hk1 hFc hPu hDu
  have ew : am_w (cn_u J.length ad u) cI cW (J ++ J2.map (am_rc (fun i => i + J.length))) = am_w ad cI cW J ++ am_w u cI cW J2 := w_join hcl
  have h2 := kk (cn_u J.length ad u) H2 locs2 (fun i hi => cn_u_lo hi) ⟨by rw [ew]; exact hP3, by rw [ew]; exact hD3, hS2, by
    rw [List.length_append, List.length_map]
    exact cl_h_app (cl_h_mo (Nat.le_add_right _ _) hcl) (cl_h_rc hJ2)⟩
  rw [cn_u_at, hu0] at h2
  exact h2
theorem cn_fl {i ci k N : Nat} {C : String} {T : u_T} (h : (o, i, ci, k) ∈ am_FL) (hz : am_cl[ci]? = some (C, T, N)) : k < N ∧ Cond.fieldLink (am_cn o) i (T k).1 (T k).2.1 (T k).2.2.1 ∈ am_TS ∧ am_clok (C, T, N) := by
  obtain ⟨z, h1, h2, h3, h4⟩ := am_fl_at h
  rw [nth_eq, hz] at h1
  cases h1
  exact ⟨h2, h3, h4⟩
theorem cn_putF (X : CNX p s m args c D cI cW A cc nL o) (hin : meth.name = "<init>") {ci i k N a : Nat} {C : String} {T : u_T} {fs : List Value} (hN : CNS D cI cW A s ad (.inr (.inr (ci, fs)) :: J) H locs) (hT : ad 0 = a) (hz : am_cl[ci]? = some (C, T, N)) (hfl : (o, i, ci, k) ∈ am_FL) {ty : FieldType} {v : Value} (hfin : (T k).2.2.2 = true) (hdecl : (T k).1 = am_cn o) (hd : parseFieldDescriptor (T k).2.2.1 = some ty) (hn : narrow ty (am_cv ad v) = am_cv ad v) (hfit : fits ty (am_cv ad v) = true) (hl : k < fs.length) (hv : cl_v (J.length + 1) v) (hdg : decode cc pc = .ok (.putfield i, 3)) (kk : ∀ (H2 : Heap) (locs2 : List Loc), CNS D cI cW A s ad (.inr (.inr (ci, fs.set k v)) :: J) H2 locs2 → W p l e R s m args below meth c H2 locs2 cells slots Q (F0 m (pc + 3) ls rest)) : W p l e R s m args below meth c H locs cells slots Q (F0 m pc ls (am_cv ad v :: .ref a :: rest)) := by
  obtain ⟨hx, hb, hml, hown, hts, hK, hNW, hA⟩ := X
  obtain ⟨hP, hD, hS, hcl⟩ := hN
  obtain ⟨hkN, hlk, hu, ty0, hty, hnm⟩ := cn_fl hfl hz
  have e0 : (am_w ad cI cW (.inr (.inr (ci, fs)) :: J))[0]? = some (a, .inr (ci, fs.map (am_cv ad))) := by rw [← hT]; rfl
  have es : (am_w ad cI cW (.inr (.inr (ci, fs)) :: J)).set 0 (a, .inr (ci, (fs.map (am_cv ad)).set k (am_cv ad v))) = am_w ad cI cW (.inr (.inr (ci, fs.set k v)) :: J) := by
    rw [← hT, ← List.map_set]; rfl
  refine va_putF (D := D) (ci := ci) (C := C) (T := T) (N := N) hx hb hts hu ty0 hty hnm hown hK hP hD hS 0 e0 hz k hkN (hts _ hlk) (fun _ y => y) hfin hin hdecl hd hn hfit (by rw [List.length_map]; exact hl) hdg (fun H1 locs1 hP1 hD1 hS1 => ?_)
  rw [es] at hP1 hD1
  refine kk H1 locs1 ⟨hP1, hD1, hS1, cl_h_cons (fun w hw => ?_) (fun d hd => hcl d (List.mem_cons_of_mem _ hd))⟩
  rcases List.mem_or_eq_of_mem_set hw with h | h
  · exact hcl _ List.mem_cons_self w h
  · rw [h]; exact hv
theorem cn_put (X : CNX p s m args c D cI cW A cc nL o) {ci i k N a : Nat} {C : String} {T : u_T} {fs : List Value} (hN : CNS D cI cW A s ad (.inr (.inr (ci, fs)) :: J) H locs) (hT : ad 0 = a) (hz : am_cl[ci]? = some (C, T, N)) (hfl : (o, i, ci, k) ∈ am_FL) {ty : FieldType} {v : Value} (hfin : (T k).2.2.2 = false) (hd : parseFieldDescriptor (T k).2.2.1 = some ty) (hn : narrow ty (am_cv ad v) = am_cv ad v) (hfit : fits ty (am_cv ad v) = true) (hl : k < fs.length) (hv : cl_v (J.length + 1) v) (hdg : decode cc pc = .ok (.putfield i, 3)) (kk : ∀ (H2 : Heap) (locs2 : List Loc), CNS D cI cW A s ad (.inr (.inr (ci, fs.set k v)) :: J) H2 locs2 → W p l e R s m args below meth c H2 locs2 cells slots Q (F0 m (pc + 3) ls rest)) : W p l e R s m args below meth c H locs cells slots Q (F0 m pc ls (am_cv ad v :: .ref a :: rest)) := by
  obtain ⟨hx, hb, hml, hown, hts, hK, hNW, hA⟩ := X
  obtain ⟨hP, hD, hS, hcl⟩ := hN
  obtain ⟨hkN, hlk, hu, ty0, hty, hnm⟩ := cn_fl hfl hz
  have e0 : (am_w ad cI cW (.inr (.inr (ci, fs)) :: J))[0]? = some (a, .inr (ci, fs.map (am_cv ad))) := by rw [← hT]; rfl
  have es : (am_w ad cI cW (.inr (.inr (ci, fs)) :: J)).set 0 (a, .inr (ci, (fs.map (am_cv ad)).set k (am_cv ad v))) = am_w ad cI cW (.inr (.inr (ci, fs.set k v)) :: J) := by
    rw [← hT, ← List.map_set]; rfl
  refine va_put (D := D) (ci := ci) (C := C) (T := T) (N := N) hx hb hts hu ty0 hty hnm hown hK hP hD hS 0 e0 hz k hkN (hts _ hlk) (fun _ y => y) hfin hd hn hfit (by rw [List.length_map]; exact hl) hdg (fun H1 locs1 hP1 hD1 hS1 => ?_)
  rw [es] at hP1 hD1
  refine kk H1 locs1 ⟨hP1, hD1, hS1, cl_h_cons (fun w hw => ?_) (fun d hd => hcl d (List.mem_cons_of_mem _ hd))⟩
  rcases List.mem_or_eq_of_mem_set hw with h | h
  · exact hcl _ List.mem_cons_self w h
  · rw [h]; exact hv
/-- this.f = new int[n] -/
theorem cn_arr (X : CNX p s m args c D cI cW A cc nL o) (hin : meth.name = "<init>") {ci i k N n a pcA : Nat} {x : Int32} {C : String} {T : u_T} {fs : List Value} (hl : lv_has ls nL [(0, .ref a)]) (hN : CNS D cI cW A s ad (.inr (.inr (ci, fs)) :: J) H locs) (hT : ad 0 = a) (hz : am_cl[ci]? = some (C, T, N)) (hfl : (o, i, ci, k) ∈ am_FL) (hfin : (T k).2.2.2 = true) (hdecl : (T k).1 = am_cn o) (hd : parseFieldDescriptor (T k).2.2.1 = some (.array .int)) (hfl2 : k < fs.length) (hx1 : ¬ x < 0) (hx2 : x.toNatClampNeg = n) (hb4 : n ≤ 100000) (hcells : cells + 1 ≤ R.cells) (hslots : slots + n ≤ R.slots) (d0 : decode cc pc = .ok (.aload_n 0, 1)) (hpush : ∀ st, W p l e R s m args below meth c H locs cells slots Q (F0 m pcA ls (.int x :: st)) → W p l e R s m args below meth c H locs cells slots Q (F0 m (pc + 1) ls st)) (d1 : decode cc pcA = .ok (.newarray .int, 2)) (d2 : decode cc (pcA + 2) = .ok (.putfield i, 3)) (kk : ∀ (ad2 : Nat → Nat) (H2 : Heap) (locs2 : List Loc), ad2 0 = a → CNS D cI cW A s ad2 (.inr (.inr (ci, fs.set k (.ref (J.length + 1)))) :: (J ++ [.inl (n, fun _ => 0)])) H2 locs2 → W p l e R s m args below meth c H2 locs2 (cells + 1) (slots + n) Q (F0 m (pcA + 5) ls [])) : W p l e R s m args below meth c H locs cells slots Q (F0 m pc ls []) := by
  have hx := X.1
  have hb := X.2.1
  refine lv_aload_n hx hb d0 rfl (lv_at hl 0 rfl) (hpush _ (cn_newa X hN hx1 hx2 hb4 hcells hslots d1 (fun ad2 H2 hag hN2 => ?_)))
  have hT2 : ad2 0 = a := (hag 0 (Nat.succ_pos _)).trans hT
  exact cn_putF (J := J ++ [.inl (n, fun _ => 0)]) (v := .ref (J.length + 1)) X hin hN2 hT2 hz hfl hfin hdecl hd rfl rfl hfl2 (by show J.length + 1 < (J ++ [_]).length + 1; rw [List.length_append]; exact Nat.lt_succ_self _) d2 (fun H3 locs3 hN3 => kk ad2 H3 locs3 hT2 hN3)
/-- this.f = new C() -/
theorem cn_obj (X : CNX p s m args c D cI cW A cc nL o) (hin : meth.name = "<init>") {ci i k N a : Nat} {C : String} {T : u_T} {fs : List Value} (hl : lv_has ls nL [(0, .ref a)]) (hN : CNS D cI cW A s ad (.inr (.inr (ci, fs)) :: J) H locs) (hT : ad 0 = a) (hz : am_cl[ci]? = some (C, T, N)) (hfl : (o, i, ci, k) ∈ am_FL) {ci2 N2 maxL mc ms idx1 idx2 : Nat} {C2 : String} {T2 : u_T} {ty2 : Nat → FieldType} {cc2 : ByteArray} {fs2 : List Value} {rm : Room} {J2 : AH} (hfin : (T k).2.2.2 = true) (hdecl : (T k).1 = am_cn o) (hd : parseFieldDescriptor (T k).2.2.1 = some (.object C2)) (hfl2 : k < fs.length) (hk : cn_K ci2 C2 T2 N2 ty2 cc2 maxL fs2) (hC : cn_C l D cI cW C2 cc2 maxL rm ci2 fs2 J2 mc ms) (hJ2 : cl_h J2.length J2) (hJ0 : 0 < J2.length) (hrc : rm.cells = mc ∧ rm.slots = ms) (hR : rm.frames + 1 ≤ R.frames ∧ 8 + (maxL + 11) + rm.locals ≤ R.locals) (hc1 : cells + 1 + mc ≤ R.cells) (hs1 : slots + N2 + ms ≤ R.slots) (hclk : Cond.classLink (am_cn o) idx1 C2 ∈ am_TS) (hlk : Cond.methodLink (am_cn o) idx2 (cn_y C2) ∈ am_TS ∨ (am_cn o, idx2, C2) ∈ cn_nl) (d0 : decode cc pc = .ok (.aload_n 0, 1)) (d1 : decode cc (pc + 1) = .ok (.new idx1, 3)) (d2 : decode cc (pc + 4) = .ok (.dup, 1)) (d3 : decode cc (pc + 5) = .ok (.invokespecial idx2, 3)) (d4 : decode cc (pc + 8) = .ok (.putfield i, 3)) (kk : ∀ (ad2 : Nat → Nat) (H2 : Heap) (locs2 : List Loc), ad2 0 = a → CNS D cI cW A s ad2 (.inr (.inr (ci, fs.set k (.ref (J.length + 1)))) :: (J ++ J2.map (am_rc (fun i => i + (J.length + 1))))) H2 locs2 → W p l e R s m args below meth c H2 locs2 (cells + 1 + mc) (slots + N2 + ms) Q (F0 m (pc + 11) ls [])) : W p l e R s m args below meth c H locs cells slots Q (F0 m pc ls []) := by
  have hx := X.1
  have hb := X.2.1
  refine lv_aload_n hx hb d0 rfl (lv_at hl 0 rfl) (cn_newR X hN hk hC hJ2 hrc hR hc1 hs1 hclk hlk hl.1 (by show 1 + 0 ≤ 7; omega) d1 d2 d3 (fun ad2 H2 locs2 hag hN2 => ?_))
  have hT2 : ad2 0 = a := (hag 0 (Nat.succ_pos _)).trans hT
  exact cn_putF (J := J ++ J2.map (am_rc (fun i => i + (J.length + 1)))) (v := .ref (J.length + 1)) X hin hN2 hT2 hz hfl hfin hdecl hd rfl rfl hfl2 (by show J.length + 1 < (J ++ _).length + 1; rw [List.length_append, List.length_map]; omega) d4 (fun H3 locs3 hN3 => kk ad2 H3 locs3 hT2 hN3)
/-- this.f = a number -/
theorem cn_cst (X : CNX p s m args c D cI cW A cc nL o) {ci i k N a pcA : Nat} {C : String} {T : u_T} {fs : List Value} (hl : lv_has ls nL [(0, .ref a)]) (hN : CNS D cI cW A s ad (.inr (.inr (ci, fs)) :: J) H locs) (hT : ad 0 = a) (hz : am_cl[ci]? = some (C, T, N)) (hfl : (o, i, ci, k) ∈ am_FL) {ty : FieldType} {v : Value} (hv0 : am_cv ad v = v) (hfin : (T k).2.2.2 = false) (hd : parseFieldDescriptor (T k).2.2.1 = some ty) (hn : narrow ty v = v) (hfit : fits ty v = true) (hfl2 : k < fs.length) (hv : cl_v (J.length + 1) v) (d0 : decode cc pc = .ok (.aload_n 0, 1)) (hpush : ∀ st, W p l e R s m args below meth c H locs cells slots Q (F0 m pcA ls (v :: st)) → W p l e R s m args below meth c H locs cells slots Q (F0 m (pc + 1) ls st)) (d1 : decode cc pcA = .ok (.putfield i, 3)) (kk : ∀ (H2 : Heap) (locs2 : List Loc), CNS D cI cW A s ad (.inr (.inr (ci, fs.set k v)) :: J) H2 locs2 → W p l e R s m args below meth c H2 locs2 cells slots Q (F0 m (pcA + 3) ls [])) : W p l e R s m args below meth c H locs cells slots Q (F0 m pc ls []) := by
  have hx := X.1
  have hb := X.2.1
  refine lv_aload_n hx hb d0 rfl (lv_at hl 0 rfl) (hpush _ ?_)
  have h2 := cn_put (v := v) (rest := []) (R := R) (below := below) (Q := Q) (l := l) (e := e) (meth := meth) (cells := cells) (slots := slots) (ls := ls) (pc := pcA) X hN hT hz hfl hfin hd (by rw [hv0]; exact hn) (by rw [hv0]; exact hfit) hfl2 hv d1 kk
  rw [hv0] at h2
  exact h2
theorem cn_ret (X : CNX p s m args c D cI cW A cc nL o) (hr : meth.sig.returnType = none) (hlocks : meth.locks = false) {a mc ms : Nat} (hN : CNS D cI cW A s ad J H locs) (hT : ad 0 = a) (hc : cells ≤ mc) (hs : slots ≤ ms) (hdg : decode cc pc = .ok (.return_, 1)) : W p l e R s m args below meth c H locs cells slots (MQ below (va_Qv (fun _ : Nat → Nat => True) (cn_B D cI cW J A a) A) args s mc ms A) (F0 m pc ls []) :=
  W.widen (k := mc) (n := ms) hc hs (W.vret X.1 X.2.1 hr (fun t ht hW => ⟨⟨ad, rfl, trivial, hT, by rw [ht]; exact hN.1, hN.2.1⟩, hN.2.2.1.F ht⟩) hN.2.2.1.2.2 hdg hlocks)
end CN
/-- a constructor's contract out of a walk from behind Object.<init> -/
theorem cn_met {l : Launch} {D : va_G} {cI cW : ClassId} {o ci N maxL mc ms idx : Nat} {C : String} {T : u_T} {ty : Nat → FieldType} {cc : ByteArray} {fs : List Value} {rm : Room} {J2 : AH} (hk : cn_K ci C T N ty cc maxL fs) (hpl : plainName C = true) (ho : am_cn o = C) (hm1 : 1 ≤ maxL) (hlk : Cond.methodLink (am_cn o) idx objectInit ∈ am_TS) (hR : 1 ≤ rm.frames ∧ 12 ≤ rm.locals) (d0 : decode cc 0 = .ok (.aload_n 0, 1)) (d1 : decode cc 1 = .ok (.invokespecial idx, 3)) (body : ∀ (p : Program) (e : Env) (s : State) (m : MethodId) (args : Array Value) (below : List Frame) (meth : Method) (c : Code) (A : Nat → Prop) (a : Nat) (ls : Array Slot), CNX p s m args c D cI cW A cc maxL o → meth.name = "<init>" → meth.sig.returnType = none → meth.locks = false → lv_has ls maxL [(0, .ref a)] → CNS D cI cW A s (fun _ => a) [.inr (.inr (ci, fs))] s.heap [] → W p l e rm s m args below meth c s.heap [] 0 0 (MQ below (va_Qv (fun _ : Nat → Nat => True) (cn_B D cI cW J2 A a) A) args s mc ms A) (F0 m 4 ls [])) : cn_C l D cI cW C cc maxL rm ci fs J2 mc ms := by
  obtain ⟨hk1, hk2, hk3, hk4, hk5, hk6, hk7, hk8, hk9, hk10, hk11⟩ := hk
  intro h0 sz
  refine Met.ofW (cc := cc) (maxL := maxL) (ret := none) hpl rfl ?_
  intro p e s m args below meth c s₁ B hml hv
  obtain ⟨rfl, hsz, hP, hK, hNW⟩ := hv
  have hx := B.exec
  have hb := B.bytes
  have hr := B.returns
  have hts0 := atoms_spec (ws := Cond.code (cn_y C) cc maxL none :: am_TS) B.pre
  have hts : ∀ w ∈ am_TS, w.before [Value.ref h0].toArray s = true := fun w h => hts0 w (List.mem_cons_of_mem _ h)
  have hown : s.vm.findClass (am_cn o) = some m.cls := by rw [ho]; exact findClass_of_methodNamed B.named
  have hlocks := B.notSynchronized
  have hin : meth.name = "<init>" := (name_of_methodNamed B.named B.method).1
  subst hsz
  have hl := lv_entry ([.ref h0]) (n := maxL) hm1
  rw [lg_entry_eq]
  generalize (lg_sl ([.ref h0]) ++ List.replicate (maxL - (lg_sl ([.ref h0])).length) Slot.unset).toArray = ls at hl ⊢
  have hl : lv_has ls maxL [(0, .ref h0)] := hl
  refine lv_aload_n hx hb d0 rfl (lv_at hl 0 rfl) ?_
  refine W.objInit hx hb hown (hts _ hlk) (hts _ cn_oi) (hts _ cn_oc) rfl (by rw [hml]; exact hl.1) rfl d1 hR.1 (by show 2 * 0 + 0 + 12 ≤ rm.locals; omega) ?_
  refine W.eq (g2 := F0 m 4 ls []) rfl ?_
  have ew : am_w (fun _ => h0) cI cW [.inr (.inr (ci, fs))] = [(h0, .inr (ci, fs))] := by
    show [(h0, (.inr (ci, fs.map (am_cv (fun _ => h0))) : va_E))] = _
    rw [cl0_m hk11]
  have hD0 : va_D (va_A [(h0, .inr (ci, fs))] s.heap.size) [(h0, .inr (ci, fs))] := ⟨fun i j x y hi hj _ => by
    have h1 : i < 1 := (List.getElem?_eq_some_iff.mp hi).1
    have h2 : j < 1 := (List.getElem?_eq_some_iff.mp hj).1
    omega, fun k q hq => va_A.in hq⟩
  exact body p e s m _ below meth c (va_A [(h0, .inr (ci, fs))] s.heap.size) h0 ls ⟨hx, hb, hml, hown, hts, hK, hNW, fun x hx => Or.inr hx⟩ hin hr hlocks hl ⟨by rw [ew]; exact hP, by rw [ew]; exact hD0, va_S.rf, cl_h_cons (cl0_v hk11 _) (fun _ h => absurd h List.not_mem_nil)⟩
