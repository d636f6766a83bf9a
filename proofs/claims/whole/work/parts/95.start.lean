/-! THE CLAIM OUT OF ONE WALK OF THE LAW'S BODY. Your part is whole_start (and what it stands on); all else here is the same for every law, but numbers. -/
def R_law : String := "RivetedSistersLaw"
def lw_P (b : Addr) (xs : List Int32) (args : Array Value) (s : State) : Prop := args = #[.ref b] ∧ s.IntsAt b xs ∧ xs.length ≤ 3584 ∧ (Jvm.Cond.and given_1 narrow_1).before args s = true
def lw_Q (_ : Array Value) (s : State) (o : Outcome) (t : State) : Prop := o = .returned (some (.int 1)) ∧ Framed s o t [] 600000 7302250
def lw_Z (below : List Frame) (a : Array Value) (s : State) : State → Prop := fun t => ∃ o, t.status = .running ∧ Ended t below o ∧ lw_Q a s o t
/-- the law's own end, with 1 on the stack, nothing written that was there before, its room as the claim has it -/
theorem lw_ret {p : Program} {l : Launch} {e : Env} {s : State} {m : MethodId} {below : List Frame} {meth : Method} {c : Code} {b : Nat} (hx : p.tables.exec = Jvm.exec) (hb : c.code = code) (hr : meth.sig.returnType = ret) (hlocks : meth.locks = false) {pc : Nat} {H : Heap} {ls : Array Slot} (hdg : decode code pc = .ok (.ireturn, 1)) : W p l e room_1 s m #[Value.ref b] below meth c H [] 600000 7302250 (lw_Z below #[Value.ref b] s) (F0 m pc ls [.int 1]) := by
  intro T hT X
  obtain ⟨fs, hret, hrun, hended, hW, hframe⟩ := X.leave (v := some (.int 1)) (hlocks := hlocks) (fun h => by rw [hr] at h; cases h)
  have hmeth' : T.vm.method? m = some meth := X.method'
  refine ⟨T.setFrames fs, ?_, .returned (some (.int 1)), hrun, hended, rfl, ⟨_, rfl⟩, hW, hframe⟩
  jvm_step X.here [X.here.top, hx, hb, hdg, hmeth', hr, ret, narrow_b1]
  (try refine ⟨rfl, ?_⟩); (try refine ⟨rfl, ?_⟩)
  first | (intro acts; rw [hret _ acts rfl rfl rfl]) | rw [hret _ _ rfl rfl rfl]
  exact Steps.refl _
/-- what holds at the law's entry: the machine, the code, the tables' words (any of lw_tbl by 'hts w (by decide +kernel)'), the script of L ints xs at the cell b, what the Statement gives of the start (any of its parts by flat_of_before) -/
def lw_At (p : Program) (s : State) (m : MethodId) (meth : Method) (c : Code) (b L : Nat) (xs : Nat → Int32) : Prop :=
  p.tables.exec = Jvm.exec ∧ c.code = code ∧ meth.sig.returnType = ret ∧ c.maxLocals = 4 ∧ s.vm.findClass R_law = some m.cls ∧ (∀ w ∈ lw_tbl, w.before #[Value.ref b] s = true) ∧ va_X b L xs s s.heap ∧ b < s.heap.size ∧ meth.locks = false ∧ (Jvm.Cond.and given_1 narrow_1).before #[Value.ref b] s = true
/-- the classes, as the tables have them -/
theorem st_K {s : State} {b : Addr} (hts : ∀ w ∈ lw_tbl, w.before #[Value.ref b] s = true) : ∃ (D : va_G) (cI cW : ClassId), va_K D am_cl (am_ty cI cW) s := by
  have hts2 : ∀ w ∈ am_TS, w.before #[Value.ref b] s = true := fun w h => hts w (List.mem_filter.mp h).1
  obtain ⟨c0, i0, k0⟩ := u_known (C := "RivetedSisters$Best") (T := am_F0) (N := 2) (n := 2) hts in_u0 (hts2 _ cK_0.2.2.2.2.1)
  obtain ⟨c1, i1, k1⟩ := u_known (C := "RivetedSisters$Echoes") (T := am_F1) (N := 6) (n := 6) hts in_u1 (hts2 _ cK_1.2.2.2.2.1)
  obtain ⟨c2, i2, k2⟩ := u_known (C := "RivetedSisters$Futures") (T := am_F2) (N := 7) (n := 7) hts in_u2 (hts2 _ cK_2.2.2.2.2.1)
  obtain ⟨c3, i3, k3⟩ := u_known (C := "RivetedSisters$Orders") (T := am_F3) (N := 4) (n := 4) hts in_u3 (hts2 _ cK_3.2.2.2.2.1)
  obtain ⟨c4, i4, k4⟩ := u_known (C := "RivetedSisters$Past") (T := am_F4) (N := 3) (n := 3) hts in_u4 (hts2 _ cK_4.2.2.2.2.1)
  obtain ⟨c5, i5, k5⟩ := u_known (C := "RivetedSisters$Plans") (T := am_F5) (N := 5) (n := 5) hts in_u5 (hts2 _ cK_5.2.2.2.2.1)
  obtain ⟨c6, i6, k6⟩ := u_known (C := "RivetedSisters$Row") (T := am_F6) (N := 2) (n := 2) hts in_u6 (hts2 _ cK_6.2.2.2.2.1)
  obtain ⟨c7, i7, k7⟩ := u_known (C := "RivetedSisters$Valley") (T := am_F7) (N := 4) (n := 4) hts in_u7 (hts2 _ cK_7.2.2.2.2.1)
  obtain ⟨c8, i8, k8⟩ := u_known (C := "RivetedSisters$Wave") (T := am_F8) (N := 3) (n := 3) hts in_u8 (hts2 _ cK_8.2.2.2.2.1)
  obtain ⟨c9, i9, k9⟩ := u_known (C := "RivetedSisters$Wire") (T := am_F9) (N := 9) (n := 9) hts in_u9 (hts2 _ cK_9.2.2.2.2.1)
  obtain ⟨c10, i10, k10⟩ := u_known (C := "RivetedSisters") (T := am_F10) (N := 12) (n := 12) hts in_u10 (hts2 _ cK_10.2.2.2.2.1)
  obtain ⟨c11, i11, k11⟩ := u_known (C := "RivetedSistersModel") (T := am_F11) (N := 28) (n := 28) hts in_u11 (hts2 _ cK_11.2.2.2.2.1)
  obtain ⟨cI, kI, compI, a1, a2, a3⟩ := Cond.arrayClass_spec (hts _ (in_cno _ (List.mem_cons_of_mem _ List.mem_cons_self)))
  obtain ⟨comp, cW, kW, b1, b2, b3, b4, b5⟩ := Cond.arrayOver_spec (hts _ (in_cno _ List.mem_cons_self))
  refine ⟨(fun k => [c0, c1, c2, c3, c4, c5, c6, c7, c8, c9, c10, c11].getD k c0, fun k => [i0, i1, i2, i3, i4, i5, i6, i7, i8, i9, i10, i11].getD k i0), cI, cW, ?_, ?_⟩
  · intro k q hq
    match k, hq with
    | 0, hq => cases hq; exact k0
    | 1, hq => cases hq; exact k1
    | 2, hq => cases hq; exact k2
    | 3, hq => cases hq; exact k3
    | 4, hq => cases hq; exact k4
    | 5, hq => cases hq; exact k5
    | 6, hq => cases hq; exact k6
    | 7, hq => cases hq; exact k7
    | 8, hq => cases hq; exact k8
    | 9, hq => cases hq; exact k9
    | 10, hq => cases hq; exact k10
    | 11, hq => cases hq; exact k11
    | k + 12, hq => simp [am_cl] at hq
  · intro k q hq
    match k, hq with
    | 0, hq => cases hq; exact ⟨fun n z => ⟨fun k h => (by cases h), kI, a2, compI, a3⟩, a1⟩
    | 1, hq => cases hq; exact ⟨fun n z => ⟨fun k h => (by cases h), kW, b3, comp, b4⟩, kW, comp, b3, b4, b1, b5⟩
    | k + 2, hq => simp [am_ty] at hq
theorem st_W {s : State} {b : Addr} (hts : ∀ w ∈ lw_tbl, w.before #[Value.ref b] s = true) : CNW s := ⟨fun e he => va_Nw.of rfl (hts _ (in_cnl _ (List.mem_map_of_mem he))), va_AO.of (hts _ (in_cno _ List.mem_cons_self))⟩
theorem st_N {s : State} {b : Addr} (hts : ∀ w ∈ lw_tbl, w.before #[Value.ref b] s = true) : am_NW s := fun e he => va_Nw.of (by unfold w_nl; split <;> rfl) (hts _ (in_nl _ (List.mem_map_of_mem he)))
set_option maxHeartbeats 4000000 in
set_option maxRecDepth 100000 in
theorem whole_start {p : Program} {e : Env} {s : State} {m : MethodId} {below : List Frame} {meth : Method} {c : Code} (l : Launch) (hflags : l.flags = flags0) {b L : Nat} {xs : Nat → Int32} (hL : L ≤ 3584) (C0 : lw_At p s m meth c b L xs) : W p l e room_1 s m #[Value.ref b] below meth c s.heap [] 0 0 (lw_Z below #[Value.ref b] s) (entryFrame m ([Value.ref b] : List Value).toArray 4) := by
  obtain ⟨hx, hb, hr, hml, hown, hts, hX, hbl, hlocks, hgv⟩ := id C0
  have hts2 : ∀ w ∈ am_TS, w.before #[Value.ref b] s = true := fun w h => hts w (List.mem_filter.mp h).1
  obtain ⟨D, cI, cW, hK⟩ := st_K hts
  have hA : ∀ q : Nat, s.heap.size ≤ q → (fun q : Nat => s.heap.size ≤ q) q := fun _ h => h
  have hbA : ¬ (fun q : Nat => s.heap.size ≤ q) b := Nat.not_le.mpr hbl
  have X : CNX p s m #[Value.ref b] c D cI cW (fun q : Nat => s.heap.size ≤ q) code 4 13 := ⟨hx, hb, hml, hown, hts2, hK, st_W hts, hA⟩
  have hl := lv_entry ([.ref b]) (n := 4) (Nat.le_of_ble_eq_true rfl)
  rw [lg_entry_eq]
  generalize (lg_sl ([.ref b]) ++ List.replicate (4 - (lg_sl ([.ref b])).length) Slot.unset).toArray = ls at hl ⊢
  have hl : lv_has ls 4 [(0, .ref b)] := hl
  have hN0 : CNS D cI cW (fun q : Nat => s.heap.size ≤ q) s (fun _ => 0) [] s.heap [] := ⟨fun k q h => by simp [am_w, am_wi] at h, ⟨fun i j p q h => by simp [am_w, am_wi] at h, fun k q h => by simp [am_w, am_wi] at h⟩, va_S.rf, fun c hc => absurd hc List.not_mem_nil⟩
  refine cn_newR X hN0 cK_10 cC_10 cJ_10 ⟨rfl, rfl⟩ ⟨Nat.le_of_ble_eq_true rfl, Nat.le_of_ble_eq_true rfl⟩ (Nat.le_of_ble_eq_true rfl) (Nat.le_of_ble_eq_true rfl) cw_83 (Or.inl cw_84) hl.1 (by decide) dL_0 dL_3 dL_4 (fun ad1 H1 locs1 _ hN1 => ?_)
  have hN1 : CNS D cI cW (fun q : Nat => s.heap.size ≤ q) s ad1 (j_10.map (am_rc (fun i => i + 0))) H1 locs1 := hN1
  rw [j0_e] at hN1
  obtain ⟨hP1, hD1, hS1, -⟩ := hN1
  obtain ⟨hP2, hD2⟩ := cn_perm fp (by decide +kernel) fp_h hP1 hD1
  obtain ⟨ad, had⟩ : ∃ z : Nat → Nat, z = fun i => ad1 (fp.getD i 0) := ⟨_, rfl⟩
  rw [← had] at hP2 hD2
  have h00 : ad1 0 = ad 0 := by rw [had]; rfl
  have hN2 : CNS D cI cW (fun q : Nat => s.heap.size ≤ q) s ad fG H1 locs1 := ⟨hP2, hD2, hS1, fG_cl⟩
  refine lv_astore_n (lv' := [(1, .ref (ad 0)), (0, .ref b)]) hx hb dL_7 rfl hl (by decide) (by rw [← h00]; rfl) (fun ls hl => ?_)
  refine cn_newR X hN2 cK_11 cC_11 cJ_11 ⟨rfl, rfl⟩ ⟨Nat.le_of_ble_eq_true rfl, Nat.le_of_ble_eq_true rfl⟩ (Nat.le_of_ble_eq_true rfl) (Nat.le_of_ble_eq_true rfl) cw_85 (Or.inl cw_86) hl.1 (by decide) dL_8 dL_11 dL_12 (fun ad2 H2 locs2 hag hN3 => ?_)
  have h01 : ad 0 = ad2 0 := (hag 0 (Nat.le_of_ble_eq_true rfl)).symm
  have hN3 : CNS D cI cW (fun q : Nat => s.heap.size ≤ q) s ad2 (JH fG (mC fm (fun _ => 0) 0)) H2 locs2 := hN3
  obtain ⟨hP3, hD3, hS3, -⟩ := hN3
  refine lv_astore_n (lv' := [(2, .ref (ad2 120)), (1, .ref (ad 0)), (0, .ref b)]) hx hb dL_15 rfl hl (by decide) rfl (fun ls hl => ?_)
  rw [h01] at hl
  refine lv_iconst (v := nI 0) hx hb dL_16 (by decide) ?_
  refine lv_istore_n (lv' := [(3, .int (nI 0)), (2, .ref (ad2 120)), (1, .ref (ad2 0)), (0, .ref b)]) hx hb dL_17 rfl hl (by decide) rfl (fun ls hl => ?_)
  refine W.widen (k := 600000) (n := 7302250) (Nat.le_of_ble_eq_true rfl) (Nat.le_of_ble_eq_true rfl) ?_
  have C1 : LA p s m c D cI cW ad2 (fun q : Nat => s.heap.size ≤ q) b L xs := ⟨hx, hb, hml, hown, hts, hK, st_N hts, am_Ax_of (D := D) (J := JH fG (mC fm (fun _ => 0) 0)) hD3, hA, hX, hbl, hbA⟩
  refine law_loop C1 hL (fun H locs ls hS => ?_) (L + 8) 0 fa (JH fG (mC fm (fun _ => 0) 0)) H2 locs2 ls (by omega) (by omega) ⟨fa_J, rfl, hP3, hS3⟩ (lv_sub hl [3, 2, 1, 0] rfl)
  refine lv_iconst (v := 1) hx hb dL_1636 (by decide) ?_
  refine va_forget (fun q hq => hS.2.2 q hq) ?_
  exact lw_ret hx hb hr hlocks dL_1637
