/-! THE ABSTRACT MACHINE IS SOUND: what it shows, the machine does -/
def am_TS : List Jvm.Cond := lw_tbl.filter goodWord
theorem am_ts {w : Jvm.Cond} (h : w ∈ lw_tbl) (g : goodWord w = true) : w ∈ am_TS := List.mem_filter.mpr ⟨h, g⟩
theorem am_ts_good : ∀ w ∈ am_TS, goodWord w = true := fun w h => (List.mem_filter.mp h).2
def am_ty (cI cW : ClassId) : List (ClassId × FieldType) := [(cI, .int), (cW, .object "RivetedSisters$Wire")]
def am_NW (U : State) : Prop := ∀ e ∈ am_NL, va_Nw (w_nl e) U
def am_ws (q : ME) : List Jvm.Cond := w_code q :: am_TS
def am_rm (q : ME) : Room := { frames := q.2.2.2.2.2.2.1, cells := 0, slots := 0, locals := q.2.2.2.2.2.2.2.1 }
def am_Q (D : va_G) (ad : Nat → Nat) (cI cW : ClassId) (A : Nat → Prop) (n : Nat) (K : Option Value → AH → Prop) : Array Value → State → Outcome → State → Prop := fun _ st o t =>
  ∃ (r : Option Value) (h : AH), o = .returned (r.map (am_cv ad)) ∧ K r h ∧ h.length = n ∧ va_P D am_cl (am_w ad cI cW h) t.heap ∧ va_F A st t
def am_Cx (p : Program) (s : State) (m : MethodId) (args : Array Value) (meth : Method) (c : Code) (D : va_G) (cI cW : ClassId) (q : ME) : Prop :=
  p.tables.exec = Jvm.exec ∧ c.code = q.2.1 ∧ meth.sig.returnType = q.2.2.2.1 ∧ c.maxLocals = q.2.2.1 ∧ s.vm.findClass (am_cn q.2.2.2.2.2.1) = some m.cls ∧ (∀ w ∈ am_TS, w.before args s = true) ∧ meth.locks = false ∧ va_K D am_cl (am_ty cI cW) s ∧ am_NW s
def am_Dx (ad : Nat → Nat) (A : Nat → Prop) (n : Nat) (s : State) : Prop := am_Ax ad A n ∧ ∀ x, s.heap.size ≤ x → A x
def am_G (p : Program) (l : Launch) (e : Env) (R : Room) (s : State) (m : MethodId) (args : Array Value) (below : List Frame) (meth : Method) (c : Code) (Q : State → Prop) (D : va_G) (ad : Nat → Nat) (cI cW : ClassId) (A : Nat → Prop) (n : Nat) (q : ME) (pc : Nat) (L : AL) (S : List Value) (h : AH) : Prop :=
  ∀ (H : Heap) (locs : List Loc) (ls : Array Slot), va_P D am_cl (am_w ad cI cW h) H → va_S A s.heap H locs → h.length = n → am_lr ad ls q.2.2.1 L → W p l e R s m args below meth c H locs 0 0 Q (F0 m pc ls (S.map (am_cv ad)))
/-- one table entry at a time: what is shown of a code -/
def am_SP (l : Launch) (D : va_G) (ad : Nat → Nat) (cI cW : ClassId) (k pc : Nat) (L : AL) (S : List Value) (h : AH) (K : Option Value → AH → Prop) : Prop :=
  ∀ q, nth am_MT k = some q → ∀ (p : Program) (e : Env) (s : State) (m : MethodId) (args : Array Value) (below : List Frame) (meth : Method) (c : Code), am_Cx p s m args meth c D cI cW q → ∀ A : Nat → Prop, am_Dx ad A h.length s →
    am_G p l e (am_rm q) s m args below meth c (MQ below (am_Q D ad cI cW A h.length K) args s 0 0 A) D ad cI cW A h.length q pc L S h
theorem W.mono {p : Program} {l : Launch} {e : Env} {R : Room} {s : State} {m : MethodId} {args : Array Value} {below : List Frame} {meth : Method} {c : Code} {H : Heap} {locs : List Loc} {cells slots : Nat} {Q Q2 : State → Prop} {g : JFrame} (f : ∀ t, Q t → Q2 t) (h : W p l e R s m args below meth c H locs cells slots Q g) : W p l e R s m args below meth c H locs cells slots Q2 g := by
  intro T hT X
  obtain ⟨t, a, b⟩ := h T hT X
  exact ⟨t, a, f t b⟩
theorem am_SP_mo {l : Launch} {D : va_G} {ad : Nat → Nat} {cI cW : ClassId} {k pc : Nat} {L : AL} {S : List Value} {h : AH} {K K2 : Option Value → AH → Prop} (f : ∀ r h, K r h → K2 r h) (H : am_SP l D ad cI cW k pc L S h K) : am_SP l D ad cI cW k pc L S h K2 := by
  intro q hq p e s m args below meth c X A hA H2 locs ls hP hS hn hl
  refine W.mono ?_ (H q hq p e s m args below meth c X A hA H2 locs ls hP hS hn hl)
  rintro t ⟨o, h1, h2, ⟨r, h', h3, h4, h5, h6, h7⟩, h8⟩
  exact ⟨o, h1, h2, ⟨r, h', h3, f _ _ h4, h5, h6, h7⟩, h8⟩
/-! the tables' facts, entry by entry -/
def am_zip : List (ME × Nat × Nat) := List.zip am_MT (List.zip am_PN am_CI)
def am_okZ (x : ME × Nat × Nat) : Bool := am_okN x.1 && (match x.2.2 with
  | 0 => x.1.2.2.2.2.1 && decide ((parseMethodDescriptor x.1.1.desc).map (fun d => d.parameters.length) = some x.2.1)
  | c + 1 => !x.1.2.2.2.2.1 && (decide ((parseMethodDescriptor x.1.1.desc).map (fun d => d.parameters.length) = some (x.2.1 - 1)) && (match nth am_cl c with
    | some z => decide (z.1 = x.1.1.cls)
    | none => false)))
set_option maxRecDepth 100000 in
theorem am_zip_ok : am_zip.all am_okZ = true := by decide +kernel
set_option maxRecDepth 100000 in
theorem am_lens : am_PN.length = am_MT.length ∧ am_CI.length = am_MT.length := by decide +kernel
theorem nth_zip {α β : Type} : ∀ (a : List α) (b : List β) (n : Nat) {x : α} {y : β}, nth a n = some x → nth b n = some y → nth (List.zip a b) n = some (x, y)
  | [], _, _, _, _, h, _ => by simp [nth] at h
  | _ :: _, [], _, _, _, _, h => by simp [nth] at h
  | _ :: _, _ :: _, 0, _, _, h, h2 => by simp [nth] at h h2; simp [nth, h, h2]
  | _ :: a, _ :: b, n + 1, _, _, h, h2 => by
    simp only [List.zip_cons_cons, nth] at h h2 ⊢
    exact nth_zip a b n h h2
theorem am_ok_at {k : Nat} {q : ME} (h : nth am_MT k = some q) : am_okN q = true := by
  have hl : k < am_MT.length := by
    rw [nth_eq] at h
    exact (List.getElem?_eq_some_iff.mp h).1
  have h1 : nth am_PN k = some (am_PN[k]'(by rw [am_lens.1]; exact hl)) := by rw [nth_eq]; exact List.getElem?_eq_getElem _
  have h2 : nth am_CI k = some (am_CI[k]'(by rw [am_lens.2]; exact hl)) := by rw [nth_eq]; exact List.getElem?_eq_getElem _
  have h3 := nth_zip _ _ k h (nth_zip _ _ k h1 h2)
  have h4 := List.all_eq_true.mp am_zip_ok _ (nth_mem _ _ h3)
  exact (Bool.and_eq_true_iff.mp h4).1
theorem am_ok_zip {k n c : Nat} {q : ME} (h : nth am_MT k = some q) (h1 : nth am_PN k = some n) (h2 : nth am_CI k = some c) : am_okZ (q, n, c) = true :=
  List.all_eq_true.mp am_zip_ok _ (nth_mem _ _ (nth_zip _ _ k h (nth_zip _ _ k h1 h2)))
theorem am_code_ts {k : Nat} {q : ME} (h : nth am_MT k = some q) : w_code q ∈ am_TS := am_ts (in_code q (nth_mem _ _ h)) rfl
theorem am_kind_ts {k : Nat} {q : ME} (h : nth am_MT k = some q) : w_kind q ∈ am_TS := am_ts (in_kind _ (List.mem_map_of_mem (nth_mem _ _ h))) (by unfold w_kind; split <;> rfl)
theorem am_sel_ts {k : Nat} {q : ME} (h : nth am_MT k = some q) : w_sel q ∈ am_TS := am_ts (in_sel _ (List.mem_map_of_mem (nth_mem _ _ h))) (by unfold w_sel; split <;> rfl)
theorem am_ini_ts {k : Nat} {q : ME} (h : nth am_MT k = some q) : w_ini q ∈ am_TS := am_ts (in_ini _ (List.mem_map_of_mem (nth_mem _ _ h))) rfl
theorem am_good_ws {k : Nat} {q : ME} (h : nth am_MT k = some q) : GoodIn am_TS (am_ws q) := by
  intro w hw
  rcases List.mem_cons.mp hw with rfl | hw
  · exact ⟨am_code_ts h, good_of_word rfl⟩
  · exact ⟨hw, good_of_word (am_ts_good w hw)⟩
theorem am_u_good (C : String) (T : u_T) (N : Nat) : ∀ w ∈ u_ws C T N, goodWord w = true := by
  intro w hw
  obtain ⟨k, -, rfl⟩ := List.mem_map.mp hw
  unfold u_lay
  split <;> rfl
/-- a class of the worlds: its words, its fields' types, its fields' names -/
def am_clok (z : vw_C) : Prop := (∀ w ∈ u_ws z.1 z.2.1 z.2.2, w ∈ am_TS) ∧ ∃ ty : Nat → FieldType, (∀ k, k < z.2.2 → parseFieldDescriptor (z.2.1 k).2.2.1 = some (ty k)) ∧ ∀ a, a < z.2.2 → ∀ b, b < z.2.2 → a ≠ b → (z.2.1 a).2.1 ≠ (z.2.1 b).2.1
theorem am_cl_0 : am_clok ("RivetedSisters$Best", am_F0, 2) := ⟨fun w h => am_ts (in_u0 w h) (am_u_good _ _ _ w h), am_Y0, by decide +kernel, by decide +kernel⟩
theorem am_cl_1 : am_clok ("RivetedSisters$Echoes", am_F1, 6) := ⟨fun w h => am_ts (in_u1 w h) (am_u_good _ _ _ w h), am_Y1, by decide +kernel, by decide +kernel⟩
theorem am_cl_2 : am_clok ("RivetedSisters$Futures", am_F2, 7) := ⟨fun w h => am_ts (in_u2 w h) (am_u_good _ _ _ w h), am_Y2, by decide +kernel, by decide +kernel⟩
theorem am_cl_3 : am_clok ("RivetedSisters$Orders", am_F3, 4) := ⟨fun w h => am_ts (in_u3 w h) (am_u_good _ _ _ w h), am_Y3, by decide +kernel, by decide +kernel⟩
theorem am_cl_4 : am_clok ("RivetedSisters$Past", am_F4, 3) := ⟨fun w h => am_ts (in_u4 w h) (am_u_good _ _ _ w h), am_Y4, by decide +kernel, by decide +kernel⟩
theorem am_cl_5 : am_clok ("RivetedSisters$Plans", am_F5, 5) := ⟨fun w h => am_ts (in_u5 w h) (am_u_good _ _ _ w h), am_Y5, by decide +kernel, by decide +kernel⟩
theorem am_cl_6 : am_clok ("RivetedSisters$Row", am_F6, 2) := ⟨fun w h => am_ts (in_u6 w h) (am_u_good _ _ _ w h), am_Y6, by decide +kernel, by decide +kernel⟩
theorem am_cl_7 : am_clok ("RivetedSisters$Valley", am_F7, 4) := ⟨fun w h => am_ts (in_u7 w h) (am_u_good _ _ _ w h), am_Y7, by decide +kernel, by decide +kernel⟩
theorem am_cl_8 : am_clok ("RivetedSisters$Wave", am_F8, 3) := ⟨fun w h => am_ts (in_u8 w h) (am_u_good _ _ _ w h), am_Y8, by decide +kernel, by decide +kernel⟩
theorem am_cl_9 : am_clok ("RivetedSisters$Wire", am_F9, 9) := ⟨fun w h => am_ts (in_u9 w h) (am_u_good _ _ _ w h), am_Y9, by decide +kernel, by decide +kernel⟩
theorem am_cl_10 : am_clok ("RivetedSisters", am_F10, 12) := ⟨fun w h => am_ts (in_u10 w h) (am_u_good _ _ _ w h), am_Y10, by decide +kernel, by decide +kernel⟩
theorem am_cl_11 : am_clok ("RivetedSistersModel", am_F11, 28) := ⟨fun w h => am_ts (in_u11 w h) (am_u_good _ _ _ w h), am_Y11, by decide +kernel, by decide +kernel⟩
theorem am_cl_ok : ∀ z ∈ am_cl, am_clok z := List.forall_mem_cons.mpr ⟨am_cl_0, List.forall_mem_cons.mpr ⟨am_cl_1, List.forall_mem_cons.mpr ⟨am_cl_2, List.forall_mem_cons.mpr ⟨am_cl_3, List.forall_mem_cons.mpr ⟨am_cl_4, List.forall_mem_cons.mpr ⟨am_cl_5, List.forall_mem_cons.mpr ⟨am_cl_6, List.forall_mem_cons.mpr ⟨am_cl_7, List.forall_mem_cons.mpr ⟨am_cl_8, List.forall_mem_cons.mpr ⟨am_cl_9, List.forall_mem_cons.mpr ⟨am_cl_10, List.forall_mem_cons.mpr ⟨am_cl_11, fun _ h => absurd h List.not_mem_nil⟩⟩⟩⟩⟩⟩⟩⟩⟩⟩⟩⟩
def am_FLok (e : Nat × Nat × Nat × Nat) : Bool := match nth am_cl e.2.2.1 with
  | some z => Nat.blt e.2.2.2 z.2.2
  | none => false
theorem am_FL_ok : am_FL.all am_FLok = true := by decide +kernel
theorem am_fl_at {o i c k : Nat} (h : (o, i, c, k) ∈ am_FL) : ∃ z : vw_C, nth am_cl c = some z ∧ k < z.2.2 ∧ Jvm.Cond.fieldLink (am_cn o) i (z.2.1 k).1 (z.2.1 k).2.1 (z.2.1 k).2.2.1 ∈ am_TS ∧ am_clok z := by
  have h1 := List.all_eq_true.mp am_FL_ok _ h
  have h2 := in_fl _ (List.mem_map_of_mem (f := w_fl) h)
  unfold am_FLok at h1
  unfold w_fl at h2
  split at h1
  · rename_i z hz
    rw [hz] at h2
    exact ⟨z, hz, by simpa using h1, am_ts h2 rfl, am_cl_ok z (nth_mem _ _ hz)⟩
  · cases h1
theorem am_ml_at {o i k : Nat} {q : ME} (h : (o, i, k) ∈ am_ML) (hq : nth am_MT k = some q) : Jvm.Cond.methodLink (am_cn o) i q.1 ∈ am_TS := by
  have h2 := in_ml _ (List.mem_map_of_mem (f := w_ml) h)
  unfold w_ml at h2
  simp only [hq] at h2
  exact am_ts h2 rfl
theorem am_nl_at {o i k : Nat} {q : ME} {U : State} (h : (o, i, k) ∈ am_NL) (hq : nth am_MT k = some q) (hN : am_NW U) : va_Nw (.methodLinkNest (am_cn o) i q.1 "RivetedSisters") U := by
  have h2 := hN _ h
  unfold w_nl at h2
  simpa only [hq] using h2
theorem am_NW_warm {s U : State} (hW : s.WarmedH U.vm) (h : am_NW s) : am_NW U := by
  intro e he
  have h2 := h e he
  unfold w_nl at h2 ⊢
  split at h2
  · exact va_Nw.warmM hW h2
  · rfl
theorem am_NW_same {s U : State} (hv : s.vm = U.vm) (h : am_NW s) : am_NW U := by
  intro e he
  have h2 := h e he
  unfold w_nl at h2 ⊢
  split at h2
  · exact va_Nw.same rfl hv h2
  · rfl
theorem am_cl_const {o i : Nat} {v : Int} (h : (o, i, v) ∈ am_CL) : Jvm.Cond.constant (am_cn o) i (Int32.ofInt v) ∈ am_TS := am_ts (in_cl _ (List.mem_map_of_mem (f := w_cl) h)) rfl
theorem am_ll_const {o i v : Nat} (h : (o, i, v) ∈ am_LL) : Jvm.Cond.constantLong (am_cn o) i (Int64.ofNat v) ∈ am_TS := am_ts (in_ll _ (List.mem_map_of_mem (f := w_ll) h)) rfl
theorem am_al_link {o i : Nat} (h : (o, i) ∈ am_AL) : Jvm.Cond.methodLink (am_cn o) i arraycopyName ∈ am_TS := am_ts (in_al _ (List.mem_map_of_mem (f := w_al) h)) rfl
theorem am_ofInt (k : Nat) : Int32.ofInt (k : Int) = nI k := by
  apply Int32.toBitVec_inj.mp
  simp [nI]
theorem am_inc_eq (x : Int32) (n : Int) : x + Int32.ofInt n = am_inc x n := by
  cases n with
  | ofNat k => exact congrArg (x + ·) (am_ofInt k)
  | negSucc k =>
    show x + Int32.ofInt (Int.negSucc k) = x - nI (k + 1)
    rw [← am_ofInt, Int.negSucc_eq, Int32.ofInt_neg, Int32.sub_eq_add_neg]
    rfl
theorem am_if_sp {b : Bool} {P : Prop} (h : bif b then P else False) : b = true ∧ P := by
  cases b
  · exact h.elim
  · exact ⟨rfl, h⟩
theorem am_k4_sp {i : Nat} {f : Fin 4 → Instr} {raw : Instr} {len : Nat} (h : am_k4 i f raw len = true) : ∃ k : Fin 4, (k : Nat) = i ∧ raw = f k ∧ len = 1 := by
  unfold am_k4 at h
  split at h
  · rename_i hi
    simp only [Bool.and_eq_true, decide_eq_true_eq] at h
    exact ⟨⟨i, hi⟩, rfl, h.1, Nat.eq_of_beq_eq_true h.2⟩
  · cases h
theorem am_eq_sp {a b : Instr} {len n : Nat} (h : (decide (a = b) && Nat.beq len n) = true) : a = b ∧ len = n := by
  simp only [Bool.and_eq_true, decide_eq_true_eq] at h
  exact ⟨h.1, Nat.eq_of_beq_eq_true h.2⟩
theorem am_off_sp {pc : Nat} {off t : Int} (h : am_off pc off t = true) : (pc : Int) + off = (t.toNat : Int) := by simpa [am_off] using h
section RW
variable {p : Program} {l : Launch} {e : Env} {R : Room} {s : State} {m : MethodId} {args : Array Value} {below : List Frame} {meth : Method} {c : Code} {Q : State → Prop} {D : va_G} {ad : Nat → Nat} {cI cW : ClassId} {A : Nat → Prop} {n : Nat} {q : ME} {pc len : Nat} {raw : Instr} {L : AL} {S : List Value} {h : AH}
theorem am_r_iload (X : am_Cx p s m args meth c D cI cW q) (hd : decode q.2.1 pc = .ok (raw, len)) {i : Nat} (ho : (am_k4 i .iload_n raw len || (decide (raw = .iload i) && Nat.beq len 2)) = true) (hs : am_g L i (fun v => match v with | .int x => am_G p l e R s m args below meth c Q D ad cI cW A n q (pc + len) L (.int x :: S) h | _ => False)) : am_G p l e R s m args below meth c Q D ad cI cW A n q pc L S h := by
  obtain ⟨hx, hb, hr, hml, hown, hts, hlk, hK, hNW⟩ := X
  obtain ⟨v, h1, h2⟩ := am_g_sp _ _ _ hs
  cases v with
  | int x =>
    intro H locs ls hP hS hn hl
    have h3 := hl.2.2.2 i _ h1
    have h4 := h2 H locs ls hP hS hn hl
    rcases Bool.or_eq_true_iff.mp ho with h5 | h5
    · obtain ⟨k, h6, rfl, rfl⟩ := am_k4_sp h5
      exact lv_iload_n hx hb hd h6 h3 h4
    · obtain ⟨rfl, rfl⟩ := am_eq_sp h5
      exact lv_iload hx hb hd h3 h4
  | _ => exact h2.elim
theorem am_r_lload (X : am_Cx p s m args meth c D cI cW q) (hd : decode q.2.1 pc = .ok (raw, len)) {i : Nat} (ho : (am_k4 i .lload_n raw len || (decide (raw = .lload i) && Nat.beq len 2)) = true) (hs : am_g L i (fun v => match v with | .long x => am_G p l e R s m args below meth c Q D ad cI cW A n q (pc + len) L (.long x :: S) h | _ => False)) : am_G p l e R s m args below meth c Q D ad cI cW A n q pc L S h := by
  obtain ⟨hx, hb, hr, hml, hown, hts, hlk, hK, hNW⟩ := X
  obtain ⟨v, h1, h2⟩ := am_g_sp _ _ _ hs
  cases v with
  | long x =>
    intro H locs ls hP hS hn hl
    have h3 := hl.2.2.2 i _ h1
    have h4 := h2 H locs ls hP hS hn hl
    rcases Bool.or_eq_true_iff.mp ho with h5 | h5
    · obtain ⟨k, h6, rfl, rfl⟩ := am_k4_sp h5
      exact lv_lload_n hx hb hd h6 h3 h4
    · obtain ⟨rfl, rfl⟩ := am_eq_sp h5
      exact lv_lload hx hb hd h3 h4
  | _ => exact h2.elim
theorem am_r_aload (X : am_Cx p s m args meth c D cI cW q) (hd : decode q.2.1 pc = .ok (raw, len)) {i : Nat} (ho : (am_k4 i .aload_n raw len || (decide (raw = .aload i) && Nat.beq len 2)) = true) (hs : am_g L i (fun v => match v with | .ref x => am_G p l e R s m args below meth c Q D ad cI cW A n q (pc + len) L (.ref x :: S) h | _ => False)) : am_G p l e R s m args below meth c Q D ad cI cW A n q pc L S h := by
  obtain ⟨hx, hb, hr, hml, hown, hts, hlk, hK, hNW⟩ := X
  obtain ⟨v, h1, h2⟩ := am_g_sp _ _ _ hs
  cases v with
  | ref x =>
    intro H locs ls hP hS hn hl
    have h3 := hl.2.2.2 i _ h1
    have h4 := h2 H locs ls hP hS hn hl
    rcases Bool.or_eq_true_iff.mp ho with h5 | h5
    · obtain ⟨k, h6, rfl, rfl⟩ := am_k4_sp h5
      exact lv_aload_n hx hb hd h6 h3 h4
    · obtain ⟨rfl, rfl⟩ := am_eq_sp h5
      exact lv_aload hx hb hd h3 h4
  | _ => exact h2.elim
theorem am_r_istore (X : am_Cx p s m args meth c D cI cW q) (hd : decode q.2.1 pc = .ok (raw, len)) {i : Nat} (ho : (am_k4 i .istore_n raw len || (decide (raw = .istore i) && Nat.beq len 2)) = true) (hs : match S with | .int x :: S => am_st L i (.int x) (fun L => am_G p l e R s m args below meth c Q D ad cI cW A n q (pc + len) L S h) | _ => False) : am_G p l e R s m args below meth c Q D ad cI cW A n q pc L S h := by
  obtain ⟨hx, hb, hr, hml, hown, hts, hlk, hK, hNW⟩ := X
  split at hs
  · rename_i x S2
    obtain ⟨L2, h1, h2⟩ := am_st_sp _ _ _ _ hs
    intro H locs ls hP hS hn hl
    have hi : i < q.2.2.1 := by have := h2.2.1; have := hl.2.2.1; omega
    rcases Bool.or_eq_true_iff.mp ho with h5 | h5
    · obtain ⟨k, h6, rfl, rfl⟩ := am_k4_sp h5
      exact lv_istore_n hx hb hd h6 (am_lr_has hl) hi rfl (fun ls2 h7 => h1 H locs ls2 hP hS hn (am_lr_st hl.2.2.1 h2 h7))
    · obtain ⟨rfl, rfl⟩ := am_eq_sp h5
      exact lv_istore hx hb hd (am_lr_has hl) hi rfl (fun ls2 h7 => h1 H locs ls2 hP hS hn (am_lr_st hl.2.2.1 h2 h7))
  · exact hs.elim
theorem am_r_astore (X : am_Cx p s m args meth c D cI cW q) (hd : decode q.2.1 pc = .ok (raw, len)) {i : Nat} (ho : (am_k4 i .astore_n raw len || (decide (raw = .astore i) && Nat.beq len 2)) = true) (hs : match S with | .ref x :: S => am_st L i (.ref x) (fun L => am_G p l e R s m args below meth c Q D ad cI cW A n q (pc + len) L S h) | _ => False) : am_G p l e R s m args below meth c Q D ad cI cW A n q pc L S h := by
  obtain ⟨hx, hb, hr, hml, hown, hts, hlk, hK, hNW⟩ := X
  split at hs
  · rename_i x S2
    obtain ⟨L2, h1, h2⟩ := am_st_sp _ _ _ _ hs
    intro H locs ls hP hS hn hl
    have hi : i < q.2.2.1 := by have := h2.2.1; have := hl.2.2.1; omega
    rcases Bool.or_eq_true_iff.mp ho with h5 | h5
    · obtain ⟨k, h6, rfl, rfl⟩ := am_k4_sp h5
      exact lv_astore_n hx hb hd h6 (am_lr_has hl) hi rfl (fun ls2 h7 => h1 H locs ls2 hP hS hn (am_lr_st hl.2.2.1 h2 h7))
    · obtain ⟨rfl, rfl⟩ := am_eq_sp h5
      exact lv_astore hx hb hd (am_lr_has hl) hi rfl (fun ls2 h7 => h1 H locs ls2 hP hS hn (am_lr_st hl.2.2.1 h2 h7))
  · exact hs.elim
theorem am_r_lstore (X : am_Cx p s m args meth c D cI cW q) (hd : decode q.2.1 pc = .ok (raw, len)) {i : Nat} (ho : (am_k4 i .lstore_n raw len || (decide (raw = .lstore i) && Nat.beq len 2)) = true) (hs : match S with | .long x :: S => am_st2 L i (.long x) (fun L => am_G p l e R s m args below meth c Q D ad cI cW A n q (pc + len) L S h) | _ => False) : am_G p l e R s m args below meth c Q D ad cI cW A n q pc L S h := by
  obtain ⟨hx, hb, hr, hml, hown, hts, hlk, hK, hNW⟩ := X
  split at hs
  · rename_i x S2
    obtain ⟨L2, h1, h2⟩ := am_st2_sp _ _ _ _ hs
    intro H locs ls hP hS hn hl
    have hi : i + 1 < q.2.2.1 := by have := h2.2.1; have := hl.2.2.1; omega
    rcases Bool.or_eq_true_iff.mp ho with h5 | h5
    · obtain ⟨k, h6, rfl, rfl⟩ := am_k4_sp h5
      exact lv_lstore_n hx hb hd h6 (am_lr_has hl) hi rfl (fun ls2 h7 => h1 H locs ls2 hP hS hn (am_lr_st2 hl.2.2.1 h2 h7))
    · obtain ⟨rfl, rfl⟩ := am_eq_sp h5
      exact lv_lstore hx hb hd (am_lr_has hl) hi rfl (fun ls2 h7 => h1 H locs ls2 hP hS hn (am_lr_st2 hl.2.2.1 h2 h7))
  · exact hs.elim
theorem am_r_iinc (X : am_Cx p s m args meth c D cI cW q) (hd : decode q.2.1 pc = .ok (raw, len)) {i : Nat} {k : Int} (ho : (decide (raw = .iinc i k) && Nat.beq len 3) = true) (hs : am_g L i (fun v => match v with | .int x => am_st L i (.int (am_inc x k)) (fun L => am_G p l e R s m args below meth c Q D ad cI cW A n q (pc + len) L S h) | _ => False)) : am_G p l e R s m args below meth c Q D ad cI cW A n q pc L S h := by
  obtain ⟨hx, hb, hr, hml, hown, hts, hlk, hK, hNW⟩ := X
  obtain ⟨v, h1, h2⟩ := am_g_sp _ _ _ hs
  cases v with
  | int x =>
    obtain ⟨L2, h3, h4⟩ := am_st_sp _ _ _ _ h2
    intro H locs ls hP hS hn hl
    obtain ⟨rfl, rfl⟩ := am_eq_sp ho
    have hi : i < q.2.2.1 := by have := h4.2.1; have := hl.2.2.1; omega
    obtain ⟨j, hj⟩ := List.getElem?_of_mem ((am_as_mem ad L 0 _).mpr ⟨i, _, h1, rfl⟩)
    rw [Nat.zero_add] at hj
    exact lv_iinc hx hb hd (am_lr_has hl) hj (am_inc_eq x k) hi rfl (fun ls2 h7 => h3 H locs ls2 hP hS hn (am_lr_st hl.2.2.1 h4 h7))
  | _ => exact h2.elim
theorem am_r_const (X : am_Cx p s m args meth c D cI cW q) (hd : decode q.2.1 pc = .ok (raw, len)) {v : Int} {w : Int32} (hw : w = Int32.ofInt v) (ho : am_const q.2.2.2.2.2.1 raw len v = true) (hs : am_G p l e R s m args below meth c Q D ad cI cW A n q (pc + len) L (.int w :: S) h) : am_G p l e R s m args below meth c Q D ad cI cW A n q pc L S h := by
  obtain ⟨hx, hb, hr, hml, hown, hts, hlk, hK, hNW⟩ := X
  intro H locs ls hP hS hn hl
  have h4 := hs H locs ls hP hS hn hl
  subst hw
  unfold am_const at ho
  split at ho <;> first | (cases ho; done) | simp only [Bool.and_eq_true, decide_eq_true_eq] at ho
  · obtain rfl := Nat.eq_of_beq_eq_true ho.1
    exact lv_iconst hx hb hd ho.2 h4
  · obtain rfl := Nat.eq_of_beq_eq_true ho.1
    exact lv_bipush hx hb hd ho.2 h4
  · obtain rfl := Nat.eq_of_beq_eq_true ho.1
    exact lv_sipush hx hb hd ho.2 h4
  · obtain rfl := Nat.eq_of_beq_eq_true ho.1
    exact lv_ldc hx hb hown (hts _ (am_cl_const ho.2)) hd h4
  · obtain rfl := Nat.eq_of_beq_eq_true ho.1
    exact lv_ldcw hx hb hown (hts _ (am_cl_const ho.2)) hd h4
theorem am_r_constL (X : am_Cx p s m args meth c D cI cW q) (hd : decode q.2.1 pc = .ok (raw, len)) {v : Nat} (ho : am_constL q.2.2.2.2.2.1 raw len v = true) (hs : am_G p l e R s m args below meth c Q D ad cI cW A n q (pc + len) L (.long (Int64.ofNat v) :: S) h) : am_G p l e R s m args below meth c Q D ad cI cW A n q pc L S h := by
  obtain ⟨hx, hb, hr, hml, hown, hts, hlk, hK, hNW⟩ := X
  intro H locs ls hP hS hn hl
  have h4 := hs H locs ls hP hS hn hl
  unfold am_constL at ho
  split at ho <;> first | (cases ho; done) | simp only [Bool.and_eq_true, decide_eq_true_eq] at ho
  · obtain rfl := Nat.eq_of_beq_eq_true ho.1
    obtain rfl := Nat.eq_of_beq_eq_true ho.2
    exact lv_lconst hx hb hd rfl h4
  · obtain rfl := Nat.eq_of_beq_eq_true ho.1
    exact lv_ldc2 hx hb hown (hts _ (am_ll_const ho.2)) hd h4
theorem am_r_iadd (X : am_Cx p s m args meth c D cI cW q) (hd : decode q.2.1 pc = .ok (raw, len)) (ho : (decide (raw = .iadd) && Nat.beq len 1) = true) (hs : match S with | .int y :: .int x :: S => am_G p l e R s m args below meth c Q D ad cI cW A n q (pc + len) L (.int (x + y) :: S) h | _ => False) : am_G p l e R s m args below meth c Q D ad cI cW A n q pc L S h := by
  obtain ⟨hx, hb, hr, hml, hown, hts, hlk, hK, hNW⟩ := X
  split at hs
  · intro H locs ls hP hS hn hl
    have h4 := hs H locs ls hP hS hn hl
    obtain ⟨rfl, rfl⟩ := am_eq_sp ho
    exact lv_iadd hx hb hd h4
  · exact hs.elim
theorem am_r_isub (X : am_Cx p s m args meth c D cI cW q) (hd : decode q.2.1 pc = .ok (raw, len)) (ho : (decide (raw = .isub) && Nat.beq len 1) = true) (hs : match S with | .int y :: .int x :: S => am_G p l e R s m args below meth c Q D ad cI cW A n q (pc + len) L (.int (x - y) :: S) h | _ => False) : am_G p l e R s m args below meth c Q D ad cI cW A n q pc L S h := by
  obtain ⟨hx, hb, hr, hml, hown, hts, hlk, hK, hNW⟩ := X
  split at hs
  · intro H locs ls hP hS hn hl
    have h4 := hs H locs ls hP hS hn hl
    obtain ⟨rfl, rfl⟩ := am_eq_sp ho
    exact lv_isub hx hb hd h4
  · exact hs.elim
theorem am_r_imul (X : am_Cx p s m args meth c D cI cW q) (hd : decode q.2.1 pc = .ok (raw, len)) (ho : (decide (raw = .imul) && Nat.beq len 1) = true) (hs : match S with | .int y :: .int x :: S => am_G p l e R s m args below meth c Q D ad cI cW A n q (pc + len) L (.int (x * y) :: S) h | _ => False) : am_G p l e R s m args below meth c Q D ad cI cW A n q pc L S h := by
  obtain ⟨hx, hb, hr, hml, hown, hts, hlk, hK, hNW⟩ := X
  split at hs
  · intro H locs ls hP hS hn hl
    have h4 := hs H locs ls hP hS hn hl
    obtain ⟨rfl, rfl⟩ := am_eq_sp ho
    exact lv_imul hx hb hd h4
  · exact hs.elim
theorem am_r_iand (X : am_Cx p s m args meth c D cI cW q) (hd : decode q.2.1 pc = .ok (raw, len)) (ho : (decide (raw = .iand) && Nat.beq len 1) = true) (hs : match S with | .int y :: .int x :: S => am_G p l e R s m args below meth c Q D ad cI cW A n q (pc + len) L (.int (x &&& y) :: S) h | _ => False) : am_G p l e R s m args below meth c Q D ad cI cW A n q pc L S h := by
  obtain ⟨hx, hb, hr, hml, hown, hts, hlk, hK, hNW⟩ := X
  split at hs
  · intro H locs ls hP hS hn hl
    have h4 := hs H locs ls hP hS hn hl
    obtain ⟨rfl, rfl⟩ := am_eq_sp ho
    exact lv_iand hx hb hd h4
  · exact hs.elim
theorem am_r_ior (X : am_Cx p s m args meth c D cI cW q) (hd : decode q.2.1 pc = .ok (raw, len)) (ho : (decide (raw = .ior) && Nat.beq len 1) = true) (hs : match S with | .int y :: .int x :: S => am_G p l e R s m args below meth c Q D ad cI cW A n q (pc + len) L (.int (x ||| y) :: S) h | _ => False) : am_G p l e R s m args below meth c Q D ad cI cW A n q pc L S h := by
  obtain ⟨hx, hb, hr, hml, hown, hts, hlk, hK, hNW⟩ := X
  split at hs
  · intro H locs ls hP hS hn hl
    have h4 := hs H locs ls hP hS hn hl
    obtain ⟨rfl, rfl⟩ := am_eq_sp ho
    exact lv_ior hx hb hd h4
  · exact hs.elim
theorem am_r_ixor (X : am_Cx p s m args meth c D cI cW q) (hd : decode q.2.1 pc = .ok (raw, len)) (ho : (decide (raw = .ixor) && Nat.beq len 1) = true) (hs : match S with | .int y :: .int x :: S => am_G p l e R s m args below meth c Q D ad cI cW A n q (pc + len) L (.int (x ^^^ y) :: S) h | _ => False) : am_G p l e R s m args below meth c Q D ad cI cW A n q pc L S h := by
  obtain ⟨hx, hb, hr, hml, hown, hts, hlk, hK, hNW⟩ := X
  split at hs
  · intro H locs ls hP hS hn hl
    have h4 := hs H locs ls hP hS hn hl
    obtain ⟨rfl, rfl⟩ := am_eq_sp ho
    exact lv_ixor hx hb hd h4
  · exact hs.elim
theorem am_r_ishl (X : am_Cx p s m args meth c D cI cW q) (hd : decode q.2.1 pc = .ok (raw, len)) (ho : (decide (raw = .ishl) && Nat.beq len 1) = true) (hs : match S with | .int y :: .int x :: S => am_G p l e R s m args below meth c Q D ad cI cW A n q (pc + len) L (.int (x <<< (y &&& 31)) :: S) h | _ => False) : am_G p l e R s m args below meth c Q D ad cI cW A n q pc L S h := by
  obtain ⟨hx, hb, hr, hml, hown, hts, hlk, hK, hNW⟩ := X
  split at hs
  · intro H locs ls hP hS hn hl
    have h4 := hs H locs ls hP hS hn hl
    obtain ⟨rfl, rfl⟩ := am_eq_sp ho
    exact lv_ishl hx hb hd h4
  · exact hs.elim
theorem am_r_ishr (X : am_Cx p s m args meth c D cI cW q) (hd : decode q.2.1 pc = .ok (raw, len)) (ho : (decide (raw = .ishr) && Nat.beq len 1) = true) (hs : match S with | .int y :: .int x :: S => am_G p l e R s m args below meth c Q D ad cI cW A n q (pc + len) L (.int (x >>> (y &&& 31)) :: S) h | _ => False) : am_G p l e R s m args below meth c Q D ad cI cW A n q pc L S h := by
  obtain ⟨hx, hb, hr, hml, hown, hts, hlk, hK, hNW⟩ := X
  split at hs
  · intro H locs ls hP hS hn hl
    have h4 := hs H locs ls hP hS hn hl
    obtain ⟨rfl, rfl⟩ := am_eq_sp ho
    exact lv_ishr hx hb hd h4
  · exact hs.elim
theorem am_r_iushr (X : am_Cx p s m args meth c D cI cW q) (hd : decode q.2.1 pc = .ok (raw, len)) (ho : (decide (raw = .iushr) && Nat.beq len 1) = true) (hs : match S with | .int y :: .int x :: S => am_G p l e R s m args below meth c Q D ad cI cW A n q (pc + len) L (.int ((x.toUInt32 >>> (y.toUInt32 &&& Int32.toUInt32 31)).toInt32) :: S) h | _ => False) : am_G p l e R s m args below meth c Q D ad cI cW A n q pc L S h := by
  obtain ⟨hx, hb, hr, hml, hown, hts, hlk, hK, hNW⟩ := X
  split at hs
  · intro H locs ls hP hS hn hl
    have h4 := hs H locs ls hP hS hn hl
    obtain ⟨rfl, rfl⟩ := am_eq_sp ho
    exact lv_iushr hx hb hd rfl h4
  · exact hs.elim
theorem am_r_ineg (X : am_Cx p s m args meth c D cI cW q) (hd : decode q.2.1 pc = .ok (raw, len)) (ho : (decide (raw = .ineg) && Nat.beq len 1) = true) (hs : match S with | .int x :: S => am_G p l e R s m args below meth c Q D ad cI cW A n q (pc + len) L (.int (-x) :: S) h | _ => False) : am_G p l e R s m args below meth c Q D ad cI cW A n q pc L S h := by
  obtain ⟨hx, hb, hr, hml, hown, hts, hlk, hK, hNW⟩ := X
  split at hs
  · intro H locs ls hP hS hn hl
    have h4 := hs H locs ls hP hS hn hl
    obtain ⟨rfl, rfl⟩ := am_eq_sp ho
    exact lv_ineg hx hb hd h4
  · exact hs.elim
theorem am_r_ladd (X : am_Cx p s m args meth c D cI cW q) (hd : decode q.2.1 pc = .ok (raw, len)) (ho : (decide (raw = .ladd) && Nat.beq len 1) = true) (hs : match S with | .long y :: .long x :: S => am_G p l e R s m args below meth c Q D ad cI cW A n q (pc + len) L (.long (x + y) :: S) h | _ => False) : am_G p l e R s m args below meth c Q D ad cI cW A n q pc L S h := by
  obtain ⟨hx, hb, hr, hml, hown, hts, hlk, hK, hNW⟩ := X
  split at hs
  · intro H locs ls hP hS hn hl
    have h4 := hs H locs ls hP hS hn hl
    obtain ⟨rfl, rfl⟩ := am_eq_sp ho
    exact lv_ladd hx hb hd h4
  · exact hs.elim
theorem am_r_lsub (X : am_Cx p s m args meth c D cI cW q) (hd : decode q.2.1 pc = .ok (raw, len)) (ho : (decide (raw = .lsub) && Nat.beq len 1) = true) (hs : match S with | .long y :: .long x :: S => am_G p l e R s m args below meth c Q D ad cI cW A n q (pc + len) L (.long (x - y) :: S) h | _ => False) : am_G p l e R s m args below meth c Q D ad cI cW A n q pc L S h := by
  obtain ⟨hx, hb, hr, hml, hown, hts, hlk, hK, hNW⟩ := X
  split at hs
  · intro H locs ls hP hS hn hl
    have h4 := hs H locs ls hP hS hn hl
    obtain ⟨rfl, rfl⟩ := am_eq_sp ho
    exact lv_lsub hx hb hd h4
  · exact hs.elim
theorem am_r_lmul (X : am_Cx p s m args meth c D cI cW q) (hd : decode q.2.1 pc = .ok (raw, len)) (ho : (decide (raw = .lmul) && Nat.beq len 1) = true) (hs : match S with | .long y :: .long x :: S => am_G p l e R s m args below meth c Q D ad cI cW A n q (pc + len) L (.long (x * y) :: S) h | _ => False) : am_G p l e R s m args below meth c Q D ad cI cW A n q pc L S h := by
  obtain ⟨hx, hb, hr, hml, hown, hts, hlk, hK, hNW⟩ := X
  split at hs
  · intro H locs ls hP hS hn hl
    have h4 := hs H locs ls hP hS hn hl
    obtain ⟨rfl, rfl⟩ := am_eq_sp ho
    exact lv_lmul hx hb hd h4
  · exact hs.elim
theorem am_r_land (X : am_Cx p s m args meth c D cI cW q) (hd : decode q.2.1 pc = .ok (raw, len)) (ho : (decide (raw = .land) && Nat.beq len 1) = true) (hs : match S with | .long y :: .long x :: S => am_G p l e R s m args below meth c Q D ad cI cW A n q (pc + len) L (.long (x &&& y) :: S) h | _ => False) : am_G p l e R s m args below meth c Q D ad cI cW A n q pc L S h := by
  obtain ⟨hx, hb, hr, hml, hown, hts, hlk, hK, hNW⟩ := X
  split at hs
  · intro H locs ls hP hS hn hl
    have h4 := hs H locs ls hP hS hn hl
    obtain ⟨rfl, rfl⟩ := am_eq_sp ho
    exact lv_land hx hb hd h4
  · exact hs.elim
theorem am_r_lor (X : am_Cx p s m args meth c D cI cW q) (hd : decode q.2.1 pc = .ok (raw, len)) (ho : (decide (raw = .lor) && Nat.beq len 1) = true) (hs : match S with | .long y :: .long x :: S => am_G p l e R s m args below meth c Q D ad cI cW A n q (pc + len) L (.long (x ||| y) :: S) h | _ => False) : am_G p l e R s m args below meth c Q D ad cI cW A n q pc L S h := by
  obtain ⟨hx, hb, hr, hml, hown, hts, hlk, hK, hNW⟩ := X
  split at hs
  · intro H locs ls hP hS hn hl
    have h4 := hs H locs ls hP hS hn hl
    obtain ⟨rfl, rfl⟩ := am_eq_sp ho
    exact lv_lor hx hb hd h4
  · exact hs.elim
theorem am_r_lshl (X : am_Cx p s m args meth c D cI cW q) (hd : decode q.2.1 pc = .ok (raw, len)) (ho : (decide (raw = .lshl) && Nat.beq len 1) = true) (hs : match S with | .int y :: .long x :: S => am_G p l e R s m args below meth c Q D ad cI cW A n q (pc + len) L (.long (x <<< (y.toInt64 &&& 63)) :: S) h | _ => False) : am_G p l e R s m args below meth c Q D ad cI cW A n q pc L S h := by
  obtain ⟨hx, hb, hr, hml, hown, hts, hlk, hK, hNW⟩ := X
  split at hs
  · intro H locs ls hP hS hn hl
    have h4 := hs H locs ls hP hS hn hl
    obtain ⟨rfl, rfl⟩ := am_eq_sp ho
    exact lv_lshl hx hb hd rfl h4
  · exact hs.elim
theorem am_r_lshr (X : am_Cx p s m args meth c D cI cW q) (hd : decode q.2.1 pc = .ok (raw, len)) (ho : (decide (raw = .lshr) && Nat.beq len 1) = true) (hs : match S with | .int y :: .long x :: S => am_G p l e R s m args below meth c Q D ad cI cW A n q (pc + len) L (.long (x >>> (y.toInt64 &&& 63)) :: S) h | _ => False) : am_G p l e R s m args below meth c Q D ad cI cW A n q pc L S h := by
  obtain ⟨hx, hb, hr, hml, hown, hts, hlk, hK, hNW⟩ := X
  split at hs
  · intro H locs ls hP hS hn hl
    have h4 := hs H locs ls hP hS hn hl
    obtain ⟨rfl, rfl⟩ := am_eq_sp ho
    exact lv_lshr hx hb hd rfl h4
  · exact hs.elim
theorem am_r_lushr (X : am_Cx p s m args meth c D cI cW q) (hd : decode q.2.1 pc = .ok (raw, len)) (ho : (decide (raw = .lushr) && Nat.beq len 1) = true) (hs : match S with | .int y :: .long x :: S => am_G p l e R s m args below meth c Q D ad cI cW A n q (pc + len) L (.long (x.toUInt64 >>> (y.toInt64.toUInt64 &&& Int64.toUInt64 63)).toInt64 :: S) h | _ => False) : am_G p l e R s m args below meth c Q D ad cI cW A n q pc L S h := by
  obtain ⟨hx, hb, hr, hml, hown, hts, hlk, hK, hNW⟩ := X
  split at hs
  · intro H locs ls hP hS hn hl
    have h4 := hs H locs ls hP hS hn hl
    obtain ⟨rfl, rfl⟩ := am_eq_sp ho
    exact lv_lushr hx hb hd rfl h4
  · exact hs.elim
theorem am_r_i2l (X : am_Cx p s m args meth c D cI cW q) (hd : decode q.2.1 pc = .ok (raw, len)) (ho : (decide (raw = .i2l) && Nat.beq len 1) = true) (hs : match S with | .int x :: S => am_G p l e R s m args below meth c Q D ad cI cW A n q (pc + len) L (.long x.toInt64 :: S) h | _ => False) : am_G p l e R s m args below meth c Q D ad cI cW A n q pc L S h := by
  obtain ⟨hx, hb, hr, hml, hown, hts, hlk, hK, hNW⟩ := X
  split at hs
  · intro H locs ls hP hS hn hl
    have h4 := hs H locs ls hP hS hn hl
    obtain ⟨rfl, rfl⟩ := am_eq_sp ho
    exact lv_i2l hx hb hd rfl h4
  · exact hs.elim
theorem am_r_l2i (X : am_Cx p s m args meth c D cI cW q) (hd : decode q.2.1 pc = .ok (raw, len)) (ho : (decide (raw = .l2i) && Nat.beq len 1) = true) (hs : match S with | .long x :: S => am_G p l e R s m args below meth c Q D ad cI cW A n q (pc + len) L (.int x.toInt32 :: S) h | _ => False) : am_G p l e R s m args below meth c Q D ad cI cW A n q pc L S h := by
  obtain ⟨hx, hb, hr, hml, hown, hts, hlk, hK, hNW⟩ := X
  split at hs
  · intro H locs ls hP hS hn hl
    have h4 := hs H locs ls hP hS hn hl
    obtain ⟨rfl, rfl⟩ := am_eq_sp ho
    exact lv_l2i hx hb hd rfl h4
  · exact hs.elim
theorem am_r_lcmp (X : am_Cx p s m args meth c D cI cW q) (hd : decode q.2.1 pc = .ok (raw, len)) (ho : (decide (raw = .lcmp) && Nat.beq len 1) = true) (hs : match S with | .long y :: .long x :: S => am_G p l e R s m args below meth c Q D ad cI cW A n q (pc + len) L (.int (lg_cmp x y) :: S) h | _ => False) : am_G p l e R s m args below meth c Q D ad cI cW A n q pc L S h := by
  obtain ⟨hx, hb, hr, hml, hown, hts, hlk, hK, hNW⟩ := X
  split at hs
  · intro H locs ls hP hS hn hl
    have h4 := hs H locs ls hP hS hn hl
    obtain ⟨rfl, rfl⟩ := am_eq_sp ho
    exact W.lcmp hx hb hd h4
  · exact hs.elim
theorem am_r_idiv (X : am_Cx p s m args meth c D cI cW q) (hd : decode q.2.1 pc = .ok (raw, len)) (ho : (decide (raw = .idiv) && Nat.beq len 1) = true) (hs : match S with | .int y :: .int x :: S => (¬ y = 0) ∧ am_G p l e R s m args below meth c Q D ad cI cW A n q (pc + len) L (.int (x / y) :: S) h | _ => False) : am_G p l e R s m args below meth c Q D ad cI cW A n q pc L S h := by
  obtain ⟨hx, hb, hr, hml, hown, hts, hlk, hK, hNW⟩ := X
  split at hs
  · intro H locs ls hP hS hn hl
    have h4 := hs.2 H locs ls hP hS hn hl
    obtain ⟨rfl, rfl⟩ := am_eq_sp ho
    exact lv_idiv hx hb hd hs.1 h4
  · exact hs.elim
theorem am_r_irem (X : am_Cx p s m args meth c D cI cW q) (hd : decode q.2.1 pc = .ok (raw, len)) (ho : (decide (raw = .irem) && Nat.beq len 1) = true) (hs : match S with | .int y :: .int x :: S => (¬ y = 0) ∧ am_G p l e R s m args below meth c Q D ad cI cW A n q (pc + len) L (.int (x - x / y * y) :: S) h | _ => False) : am_G p l e R s m args below meth c Q D ad cI cW A n q pc L S h := by
  obtain ⟨hx, hb, hr, hml, hown, hts, hlk, hK, hNW⟩ := X
  split at hs
  · intro H locs ls hP hS hn hl
    have h4 := hs.2 H locs ls hP hS hn hl
    obtain ⟨rfl, rfl⟩ := am_eq_sp ho
    exact lv_irem hx hb hd hs.1 h4
  · exact hs.elim
theorem am_r_ldiv (X : am_Cx p s m args meth c D cI cW q) (hd : decode q.2.1 pc = .ok (raw, len)) (ho : (decide (raw = .ldiv) && Nat.beq len 1) = true) (hs : match S with | .long y :: .long x :: S => (¬ y = 0) ∧ am_G p l e R s m args below meth c Q D ad cI cW A n q (pc + len) L (.long (x / y) :: S) h | _ => False) : am_G p l e R s m args below meth c Q D ad cI cW A n q pc L S h := by
  obtain ⟨hx, hb, hr, hml, hown, hts, hlk, hK, hNW⟩ := X
  split at hs
  · intro H locs ls hP hS hn hl
    have h4 := hs.2 H locs ls hP hS hn hl
    obtain ⟨rfl, rfl⟩ := am_eq_sp ho
    exact lv_ldiv hx hb hd hs.1 h4
  · exact hs.elim
theorem am_r_lrem (X : am_Cx p s m args meth c D cI cW q) (hd : decode q.2.1 pc = .ok (raw, len)) (ho : (decide (raw = .lrem) && Nat.beq len 1) = true) (hs : match S with | .long y :: .long x :: S => (¬ y = 0) ∧ am_G p l e R s m args below meth c Q D ad cI cW A n q (pc + len) L (.long (x - x / y * y) :: S) h | _ => False) : am_G p l e R s m args below meth c Q D ad cI cW A n q pc L S h := by
  obtain ⟨hx, hb, hr, hml, hown, hts, hlk, hK, hNW⟩ := X
  split at hs
  · intro H locs ls hP hS hn hl
    have h4 := hs.2 H locs ls hP hS hn hl
    obtain ⟨rfl, rfl⟩ := am_eq_sp ho
    exact lv_lrem hx hb hd hs.1 h4
  · exact hs.elim
theorem am_r_dup (X : am_Cx p s m args meth c D cI cW q) (hd : decode q.2.1 pc = .ok (raw, len)) (ho : (decide (raw = .dup) && Nat.beq len 1) = true) (hs : match S with | .int x :: S => am_G p l e R s m args below meth c Q D ad cI cW A n q (pc + len) L (.int x :: .int x :: S) h | .ref x :: S => am_G p l e R s m args below meth c Q D ad cI cW A n q (pc + len) L (.ref x :: .ref x :: S) h | _ => False) : am_G p l e R s m args below meth c Q D ad cI cW A n q pc L S h := by
  obtain ⟨hx, hb, hr, hml, hown, hts, hlk, hK, hNW⟩ := X
  obtain ⟨rfl, rfl⟩ := am_eq_sp ho
  split at hs
  · intro H locs ls hP hS hn hl
    exact lv_dup hx hb hd rfl (hs H locs ls hP hS hn hl)
  · intro H locs ls hP hS hn hl
    exact lv_dup hx hb hd rfl (hs H locs ls hP hS hn hl)
  · exact hs.elim
theorem am_r_dup2 (X : am_Cx p s m args meth c D cI cW q) (hd : decode q.2.1 pc = .ok (raw, len)) (ho : (decide (raw = .dup2) && Nat.beq len 1) = true) (hs : match S with | .long x :: S => am_G p l e R s m args below meth c Q D ad cI cW A n q (pc + len) L (.long x :: .long x :: S) h | .int y :: .ref x :: S => am_G p l e R s m args below meth c Q D ad cI cW A n q (pc + len) L (.int y :: .ref x :: .int y :: .ref x :: S) h | _ => False) : am_G p l e R s m args below meth c Q D ad cI cW A n q pc L S h := by
  obtain ⟨hx, hb, hr, hml, hown, hts, hlk, hK, hNW⟩ := X
  obtain ⟨rfl, rfl⟩ := am_eq_sp ho
  split at hs
  · intro H locs ls hP hS hn hl
    exact lv_dup2_2 hx hb hd rfl (hs H locs ls hP hS hn hl)
  · intro H locs ls hP hS hn hl
    exact lv_dup2_11 hx hb hd rfl rfl (hs H locs ls hP hS hn hl)
  · exact hs.elim
theorem am_r_pop (X : am_Cx p s m args meth c D cI cW q) (hd : decode q.2.1 pc = .ok (raw, len)) (ho : (decide (raw = .pop) && Nat.beq len 1) = true) (hs : match S with | .int _ :: S => am_G p l e R s m args below meth c Q D ad cI cW A n q (pc + len) L S h | .ref _ :: S => am_G p l e R s m args below meth c Q D ad cI cW A n q (pc + len) L S h | _ => False) : am_G p l e R s m args below meth c Q D ad cI cW A n q pc L S h := by
  obtain ⟨hx, hb, hr, hml, hown, hts, hlk, hK, hNW⟩ := X
  obtain ⟨rfl, rfl⟩ := am_eq_sp ho
  split at hs
  · rename_i x S2
    intro H locs ls hP hS hn hl
    exact lv_pop (va := .int x) hx hb hd rfl (hs H locs ls hP hS hn hl)
  · rename_i x S2
    intro H locs ls hP hS hn hl
    exact lv_pop (va := .ref (ad x)) hx hb hd rfl (hs H locs ls hP hS hn hl)
  · exact hs.elim
theorem am_r_if_icmp (X : am_Cx p s m args meth c D cI cW q) (hd : decode q.2.1 pc = .ok (raw, len)) {cd : Jvm.ClassFile.Cond} {t : Int} (ho : am_brr pc raw len (.if_icmp cd t) = true) (hs : match S with | .int y :: .int x :: S => am_c2 cd x y (am_G p l e R s m args below meth c Q D ad cI cW A n q t.toNat L S h) (am_G p l e R s m args below meth c Q D ad cI cW A n q (pc + len) L S h) | _ => False) : am_G p l e R s m args below meth c Q D ad cI cW A n q pc L S h := by
  obtain ⟨hx, hb, hr, hml, hown, hts, hlk, hK, hNW⟩ := X
  unfold am_brr at ho
  split at ho <;> first | (cases ho; done) | skip
  rename_i cd2 off
  simp only [Bool.and_eq_true, decide_eq_true_eq] at ho
  obtain ⟨ho1, rfl, ho3⟩ := ho
  obtain rfl := Nat.eq_of_beq_eq_true ho1
  have ht := am_off_sp ho3
  split at hs
  · rename_i y x S2
    intro H locs ls hP hS hn hl
    have kt : am_G p l e R s m args below meth c Q D ad cI cW A n q t.toNat L S2 h → _ := fun z => z H locs ls hP hS hn hl
    have kf : am_G p l e R s m args below meth c Q D ad cI cW A n q (pc + 3) L S2 h → _ := fun z => z H locs ls hP hS hn hl
    cases cd2 with
    | eq => exact lv_icmp_eq hx hb hd ht (fun z => kt (hs.1 z)) (fun z => kf (hs.2 z))
    | ne => exact lv_icmp_ne hx hb hd ht (fun z => kt (hs.2 z)) (fun z => kf (hs.1 z))
    | lt => exact lv_icmp_lt hx hb hd ht (fun z => kt (hs.1 z)) (fun z => kf (hs.2 z))
    | ge => exact lv_icmp_ge hx hb hd ht (fun z => kt (hs.1 z)) (fun z => kf (hs.2 z))
    | gt => exact lv_icmp_gt hx hb hd ht (fun z => kt (hs.1 z)) (fun z => kf (hs.2 z))
    | le => exact lv_icmp_le hx hb hd ht (fun z => kt (hs.1 z)) (fun z => kf (hs.2 z))
  · exact hs.elim
theorem am_r_ifCond (X : am_Cx p s m args meth c D cI cW q) (hd : decode q.2.1 pc = .ok (raw, len)) {cd : Jvm.ClassFile.Cond} {t : Int} (ho : am_brr pc raw len (.ifCond cd t) = true) (hs : match S with | .int x :: S => am_c1 cd x (am_G p l e R s m args below meth c Q D ad cI cW A n q t.toNat L S h) (am_G p l e R s m args below meth c Q D ad cI cW A n q (pc + len) L S h) | _ => False) : am_G p l e R s m args below meth c Q D ad cI cW A n q pc L S h := by
  obtain ⟨hx, hb, hr, hml, hown, hts, hlk, hK, hNW⟩ := X
  unfold am_brr at ho
  split at ho <;> first | (cases ho; done) | skip
  rename_i cd2 off
  simp only [Bool.and_eq_true, decide_eq_true_eq] at ho
  obtain ⟨ho1, rfl, ho3⟩ := ho
  obtain rfl := Nat.eq_of_beq_eq_true ho1
  have ht := am_off_sp ho3
  split at hs
  · rename_i x S2
    intro H locs ls hP hS hn hl
    have kt : am_G p l e R s m args below meth c Q D ad cI cW A n q t.toNat L S2 h → _ := fun z => z H locs ls hP hS hn hl
    have kf : am_G p l e R s m args below meth c Q D ad cI cW A n q (pc + 3) L S2 h → _ := fun z => z H locs ls hP hS hn hl
    cases cd2 with
    | eq => exact lv_if_eq hx hb hd ht (fun z => kt (hs.1 z)) (fun z => kf (hs.2 z))
    | ne => exact lv_if_ne hx hb hd ht (fun z => kt (hs.2 z)) (fun z => kf (hs.1 z))
    | lt => exact lv_if_lt hx hb hd ht (fun z => kt (hs.1 z)) (fun z => kf (hs.2 z))
    | ge => exact lv_if_ge hx hb hd ht (fun z => kt (hs.1 z)) (fun z => kf (hs.2 z))
    | gt => exact lv_if_gt hx hb hd ht (fun z => kt (hs.1 z)) (fun z => kf (hs.2 z))
    | le => exact lv_if_le hx hb hd ht (fun z => kt (hs.1 z)) (fun z => kf (hs.2 z))
  · exact hs.elim
theorem am_r_goto (X : am_Cx p s m args meth c D cI cW q) (hd : decode q.2.1 pc = .ok (raw, len)) {t : Int} (ho : am_brr pc raw len (.goto t) = true) (hs : am_G p l e R s m args below meth c Q D ad cI cW A n q t.toNat L S h) : am_G p l e R s m args below meth c Q D ad cI cW A n q pc L S h := by
  obtain ⟨hx, hb, hr, hml, hown, hts, hlk, hK, hNW⟩ := X
  unfold am_brr at ho
  split at ho <;> first | (cases ho; done) | skip
  simp only [Bool.and_eq_true] at ho
  obtain rfl := Nat.eq_of_beq_eq_true ho.1
  intro H locs ls hP hS hn hl
  exact lv_goto hx hb hd (am_off_sp ho.2) (hs H locs ls hP hS hn hl)
theorem am_fs_at {fs : List Value} {k : Nat} {v : Value} (h1 : fs[k]? = some v) : (fs.map (am_cv ad))[k]? = some (am_cv ad v) := by rw [List.getElem?_map, h1]; rfl
theorem am_tab_sp (x : Int32) {J : Nat → Prop} {Dp : Prop} : ∀ (ts : List Int) (c : Nat), c + ts.length < 2 ^ 31 → am_tab x c ts J Dp → (∀ (i : Nat) (t : Int), ts[i]? = some t → x = nI (c + i) → J t.toNat) ∧ ((∀ i, i < ts.length → ¬ x = nI (c + i)) → Dp)
  | [], _, _, h => ⟨fun i t q => by simp at q, fun _ => h⟩
  | t :: ts, c, hc, h => by
    simp only [List.length_cons] at hc
    refine ⟨fun i u hu hx => ?_, fun q => ?_⟩
    · cases i with
      | zero =>
        simp at hu
        subst hu
        exact h.1 hx
      | succ i =>
        have hne : ¬ x = nI c := by
          rw [hx]
          intro z
          have hi : i < ts.length := by
            have := (List.getElem?_eq_some_iff.mp hu).1
            simpa using this
          have := (nI_eq (a := c + (i + 1)) (b := c) (by omega) (by omega)).mp z
          omega
        exact (am_tab_sp x ts (c + 1) (by omega) (h.2 hne)).1 i u (by simpa using hu) (by rw [hx]; congr 1; omega)
    · have hne : ¬ x = nI c := by simpa using q 0 (by simp)
      refine (am_tab_sp x ts (c + 1) (by omega) (h.2 hne)).2 (fun i hi => ?_)
      have := q (i + 1) (by simpa using hi)
      rwa [show c + (i + 1) = c + 1 + i by omega] at this
theorem am_zip_at {α β : Type} : ∀ (a : List α) (b : List β) (i : Nat) {x : α}, a.length = b.length → a[i]? = some x → ∃ y, b[i]? = some y ∧ (x, y) ∈ List.zip a b
  | [], _, _, _, _, h => by simp at h
  | _ :: _, [], _, _, h, _ => by simp at h
  | x :: _, y :: _, 0, _, _, h => by simp at h; subst h; exact ⟨y, rfl, by simp⟩
  | x :: a, y :: b, i + 1, _, hl, h => by
    obtain ⟨z, h1, h2⟩ := am_zip_at a b i (by simpa using hl) (by simpa using h)
    exact ⟨z, by simpa using h1, by simp [h2]⟩
theorem am_lkp_sp (x : Int32) {J : Nat → Prop} {Dp : Prop} {pc : Nat} {d d2 : Int} (hd : am_off pc d d2 = true) : ∀ (ps qs : List (Int × Int)), ps.length = qs.length → (List.zip ps qs).all (fun q => decide (q.1.1 = q.2.1) && (decide (0 ≤ q.1.1) && (decide (q.1.1 < 1000) && am_off pc q.1.2 q.2.2))) = true → am_lkp x qs J Dp → ∃ off, Op.lookupswitch.offset ps d x.toInt = off ∧ ((am_off pc off d2 = true ∧ Dp) ∨ ∃ t : Int, am_off pc off t = true ∧ J t.toNat)
  | [], [], _, _, h => ⟨d, rfl, Or.inl ⟨hd, h⟩⟩
  | [], _ :: _, h, _, _ => by simp at h
  | _ :: _, [], h, _, _ => by simp at h
  | (a, o) :: ps, (b, t) :: qs, hl, hz, h => by
    simp only [List.zip_cons_cons, List.all_cons, Bool.and_eq_true, decide_eq_true_eq] at hz
    obtain ⟨⟨rfl, h0, h1, h2⟩, h3⟩ := hz
    obtain ⟨k, rfl⟩ : ∃ k : Nat, a = (k : Int) := ⟨a.toNat, by omega⟩
    rw [Op.lookupswitch.offset_cons]
    by_cases hx : x = nI k
    · refine ⟨o, ?_, Or.inr ⟨t, h2, h.1 (by simpa using hx)⟩⟩
      rw [if_pos]
      rw [hx, nI_toInt (by omega)]
    · have hne : ¬ (k : Int) = x.toInt := by
        intro z
        apply hx
        apply Int32.toInt_inj.mp
        rw [nI_toInt (by omega)]
        exact z.symm
      rw [if_neg hne]
      exact am_lkp_sp x hd ps qs (by simpa using hl) (by simpa only [List.all_eq_true, Bool.and_eq_true, decide_eq_true_eq] using h3) (h.2 (by simpa using hx))
theorem am_r_tableswitch (X : am_Cx p s m args meth c D cI cW q) (hd : decode q.2.1 pc = .ok (raw, len)) {d lo hi : Int} {ts : Array Int} (ho : am_brr pc raw len (.tableswitch d lo hi ts) = true) (hs : match S with | .int x :: S => am_tab x lo.toNat ts.toList (fun t => am_G p l e R s m args below meth c Q D ad cI cW A n q t L S h) (am_G p l e R s m args below meth c Q D ad cI cW A n q d.toNat L S h) | _ => False) : am_G p l e R s m args below meth c Q D ad cI cW A n q pc L S h := by
  obtain ⟨hx, hb, hr, hml, hown, hts, hlk, hK, hNW⟩ := X
  unfold am_brr at ho
  split at ho <;> first | (cases ho; done) | skip
  rename_i d1 lo1 hi1 offs
  simp only [Bool.and_eq_true, decide_eq_true_eq] at ho
  obtain ⟨ho1, rfl, ho2, ho3, ho4, ho5, ho6⟩ := ho
  have ho5 := Nat.eq_of_beq_eq_true ho5
  split at hs
  · rename_i x S2
    have hsz : offs.size ≤ 1000 := by omega
    obtain ⟨k1, k2⟩ := am_tab_sp x ts.toList lo1.toNat (by simp only [Array.length_toList]; omega) hs
    intro H locs ls hP hS hn hl
    by_cases ha : x.toInt < lo1 ∨ hi1 < x.toInt
    · refine lv_tableOut hx hb hd ha (am_off_sp ho1) (k2 (fun i hi z => ?_) H locs ls hP hS hn hl)
      simp only [Array.length_toList] at hi
      rw [z, nI_toInt (by omega)] at ha
      omega
    · have h1 : ¬ x.toInt < lo1 := fun z => ha (Or.inl z)
      have h2 : ¬ hi1 < x.toInt := fun z => ha (Or.inr z)
      have hi : (x.toInt - lo1).toNat < offs.size := by omega
      have h3 : offs.toList[(x.toInt - lo1).toNat]? = some (offs[(x.toInt - lo1).toNat]'hi) := by simp [hi]
      obtain ⟨t, h4, h5⟩ := am_zip_at offs.toList ts.toList _ (by simp [ho5]) h3
      have h6 := List.all_eq_true.mp ho6 _ h5
      refine lv_tableIn hx hb hd h1 h2 (by rw [← Array.getElem?_toList]; exact h3) (am_off_sp h6) (k1 _ t h4 ?_ H locs ls hP hS hn hl)
      apply Int32.toInt_inj.mp
      rw [nI_toInt (by omega)]
      omega
  · exact hs.elim
theorem am_r_lookupswitch (X : am_Cx p s m args meth c D cI cW q) (hd : decode q.2.1 pc = .ok (raw, len)) {d : Int} {ps : Array (Int × Int)} (ho : am_brr pc raw len (.lookupswitch d ps) = true) (hs : match S with | .int x :: S => am_lkp x ps.toList (fun t => am_G p l e R s m args below meth c Q D ad cI cW A n q t L S h) (am_G p l e R s m args below meth c Q D ad cI cW A n q d.toNat L S h) | _ => False) : am_G p l e R s m args below meth c Q D ad cI cW A n q pc L S h := by
  obtain ⟨hx, hb, hr, hml, hown, hts, hlk, hK, hNW⟩ := X
  unfold am_brr at ho
  split at ho <;> first | (cases ho; done) | skip
  rename_i d1 ps1
  rw [Bool.and_eq_true] at ho
  obtain ⟨ho1, ho⟩ := ho
  rw [Bool.and_eq_true] at ho
  obtain ⟨ho2, ho⟩ := ho
  rw [Bool.and_eq_true] at ho
  obtain ⟨ho3, ho4⟩ := ho
  have ho2 := Nat.eq_of_beq_eq_true ho2
  split at hs
  · rename_i x S2
    obtain ⟨off, h1, h2⟩ := am_lkp_sp x ho1 ps1.toList ps.toList (by simp [ho2]) ho3 hs
    intro H locs ls hP hS hn hl
    rcases h2 with ⟨h2, h3⟩ | ⟨t, h2, h3⟩
    · exact lv_lookup hx hb hd ho4 h1 (am_off_sp h2) (h3 H locs ls hP hS hn hl)
    · exact lv_lookup hx hb hd ho4 h1 (am_off_sp h2) (h3 H locs ls hP hS hn hl)
  · exact hs.elim
theorem am_r_getfield (X : am_Cx p s m args meth c D cI cW q) (hd : decode q.2.1 pc = .ok (raw, len)) {r : Nat} (ho : am_fld q.2.2.2.2.2.1 raw len r = true) (hs : match S with | .ref a :: S => am_hg h a (fun zc => match zc with | .inr (.inr (ci, fs)) => bif Nat.beq ci (r / 100) then am_fg fs (r % 100) (fun v => am_G p l e R s m args below meth c Q D ad cI cW A n q (pc + len) L (v :: S) h) else False | _ => False) | _ => False) : am_G p l e R s m args below meth c Q D ad cI cW A n q pc L S h := by
  obtain ⟨hx, hb, hr, hml, hown, hts, hlk, hK, hNW⟩ := X
  unfold am_fld at ho
  split at ho
  · rename_i idx
    rw [Bool.and_eq_true, decide_eq_true_eq] at ho
    obtain rfl := Nat.eq_of_beq_eq_true ho.1
    obtain ⟨z, hz, hk, hw, hu, ty0, hty, hnm⟩ := am_fl_at ho.2
    split at hs
    · rename_i a S2
      obtain ⟨c1, h1, h2⟩ := am_hg_sp _ _ _ hs
      split at h2
      · rename_i ci fs
        obtain ⟨h3, h4⟩ := am_if_sp h2
        obtain rfl := Nat.eq_of_beq_eq_true h3
        obtain ⟨v, h5, h6⟩ := am_fg_sp _ _ _ h4
        intro H locs ls hP hS hn hl
        exact va_get hx hb hts hu hown hK hP a (am_w_at h1) (by rw [← nth_eq]; exact hz) (r % 100) hk (hts _ hw) (fun _ y => y) (am_fs_at h5) hd (h6 H locs ls hP hS hn hl)
      · exact h2.elim
    · exact hs.elim
  · cases ho
theorem am_r_putfield (X : am_Cx p s m args meth c D cI cW q) (hd : decode q.2.1 pc = .ok (raw, len)) (hA : am_Dx ad A n s) {r : Nat} (ho : am_pfl q.2.2.2.2.2.1 raw len r = true) (hs : match S with | v :: .ref a :: S => am_hg h a (fun zc => match zc with | .inr (.inr (ci, fs)) => bif Nat.beq ci (r % 10000 / 100) then am_pv (r / 10000) v (am_fs fs (r % 100) v (fun fs => am_hs h a (.inr (.inr (ci, fs))) (fun h => am_G p l e R s m args below meth c Q D ad cI cW A n q (pc + len) L S h))) else False | _ => False) | _ => False) : am_G p l e R s m args below meth c Q D ad cI cW A n q pc L S h := by
  obtain ⟨hx, hb, hr, hml, hown, hts, hlk, hK, hNW⟩ := X
  unfold am_pfl at ho
  split at ho
  · rename_i idx
    rw [Bool.and_eq_true, Bool.and_eq_true, decide_eq_true_eq] at ho
    obtain ⟨ho1, ho2, ho3⟩ := ho
    obtain rfl := Nat.eq_of_beq_eq_true ho1
    obtain ⟨z, hz, hk, hw, hu, ty0, hty, hnm⟩ := am_fl_at ho2
    simp only [hz, Bool.and_eq_true, Bool.not_eq_true', decide_eq_true_eq] at ho3
    obtain ⟨ho3, ho4⟩ := ho3
    split at hs
    · rename_i v a S2
      obtain ⟨c1, h1, h2⟩ := am_hg_sp _ _ _ hs
      split at h2
      · rename_i ci fs
        obtain ⟨h3, h4⟩ := am_if_sp h2
        obtain rfl := Nat.eq_of_beq_eq_true h3
        have key : narrow (am_tag (r / 10000)) (am_cv ad v) = am_cv ad v ∧ fits (am_tag (r / 10000)) (am_cv ad v) = true ∧ am_fs fs (r % 100) v (fun fs => am_hs h a (.inr (.inr (r % 10000 / 100, fs))) (fun h => am_G p l e R s m args below meth c Q D ad cI cW A n q (pc + 3) L S2 h)) := by
          generalize r / 10000 = t at h4 ho4 ⊢
          match t, h4 with
          | 0, h4 => cases v <;> first | exact ⟨rfl, rfl, h4⟩ | exact h4.elim
          | 1, h4 => cases v <;> first | exact ⟨rfl, rfl, h4⟩ | exact h4.elim
          | 2, h4 =>
            cases v <;> first | exact h4.elim | skip
            obtain ⟨h5, h6⟩ := h4
            rcases h5 with rfl | rfl
            · exact ⟨(by decide : narrow .boolean (.int 0) = .int 0), (by decide : fits .boolean (.int 0) = true), h6⟩
            · exact ⟨(by decide : narrow .boolean (.int 1) = .int 1), (by decide : fits .boolean (.int 1) = true), h6⟩
          | _ + 3, h4 => exact h4.elim
        obtain ⟨hnar, hfit, h5⟩ := key
        obtain ⟨h6, h7⟩ := am_fs_sp _ _ _ _ h5
        obtain ⟨h8, h9⟩ := am_hs_sp _ _ _ _ h6
        intro H locs ls hP hS hn hl
        refine va_put hx hb hts hu ty0 hty hnm hown hK hP (am_Ax_D (by rw [hn]; exact hA.1)) hS a (am_w_at h1) (by rw [← nth_eq]; exact hz) (r % 100) hk (hts _ hw) (fun _ y => y) ho3 ho4 hnar hfit (by simpa using h7) hd (fun H1 locs1 hP1 _ hS1 => ?_)
        refine h8 H1 locs1 ls ?_ hS1 (by simpa using hn) hl
        rw [← am_w_set]
        simpa only [am_c, List.map_set] using hP1
      · exact h2.elim
    · exact hs.elim
  · cases ho
theorem am_r_iaload (X : am_Cx p s m args meth c D cI cW q) (hd : decode q.2.1 pc = .ok (raw, len)) (ho : (decide (raw = .iaload) && Nat.beq len 1) = true) (hs : match S with | .int i :: .ref a :: S => am_hg h a (fun zc => match zc with | .inl (nn, f) => vp_in i nn ∧ am_G p l e R s m args below meth c Q D ad cI cW A n q (pc + len) L (.int (f i.toNatClampNeg) :: S) h | _ => False) | _ => False) : am_G p l e R s m args below meth c Q D ad cI cW A n q pc L S h := by
  obtain ⟨hx, hb, hr, hml, hown, hts, hlk, hK, hNW⟩ := X
  obtain ⟨rfl, rfl⟩ := am_eq_sp ho
  split at hs
  · rename_i i a S2
    obtain ⟨c1, h1, h2⟩ := am_hg_sp _ _ _ hs
    split at h2
    · intro H locs ls hP hS hn hl
      exact va_iald hx hb hK hP a 0 (am_w_at h1) rfl h2.1 hd (h2.2 H locs ls hP hS hn hl)
    · exact h2.elim
  · exact hs.elim
theorem am_r_aaload (X : am_Cx p s m args meth c D cI cW q) (hd : decode q.2.1 pc = .ok (raw, len)) (ho : (decide (raw = .aaload) && Nat.beq len 1) = true) (hs : match S with | .int i :: .ref a :: S => am_hg h a (fun zc => match zc with | .inr (.inl (nn, f)) => vp_in i nn ∧ (match f i.toNatClampNeg with | some x => am_G p l e R s m args below meth c Q D ad cI cW A n q (pc + len) L (.ref x :: S) h | none => False) | _ => False) | _ => False) : am_G p l e R s m args below meth c Q D ad cI cW A n q pc L S h := by
  obtain ⟨hx, hb, hr, hml, hown, hts, hlk, hK, hNW⟩ := X
  obtain ⟨rfl, rfl⟩ := am_eq_sp ho
  split at hs
  · rename_i i a S2
    obtain ⟨c1, h1, h2⟩ := am_hg_sp _ _ _ hs
    split at h2
    · rename_i nn f0
      obtain ⟨h3, h4⟩ := h2
      split at h4
      · rename_i x hx2
        intro H locs ls hP hS hn hl
        refine va_aldq hx hb hK hP a 1 (am_w_at h1) rfl h3 hd ?_
        show W p l e R s m args below meth c H locs 0 0 Q (F0 m (pc + 1) ls (va_rf (Option.map ad (f0 i.toNatClampNeg)) :: S2.map (am_cv ad)))
        rw [hx2]
        exact h4 H locs ls hP hS hn hl
      · exact h4.elim
    · exact h2.elim
  · exact hs.elim
theorem am_r_arraylength (X : am_Cx p s m args meth c D cI cW q) (hd : decode q.2.1 pc = .ok (raw, len)) (ho : (decide (raw = .arraylength) && Nat.beq len 1) = true) (hs : match S with | .ref a :: S => am_hg h a (fun zc => match zc with | .inl (nn, _) => am_G p l e R s m args below meth c Q D ad cI cW A n q (pc + len) L (.int (nI nn) :: S) h | _ => False) | _ => False) : am_G p l e R s m args below meth c Q D ad cI cW A n q pc L S h := by
  obtain ⟨hx, hb, hr, hml, hown, hts, hlk, hK, hNW⟩ := X
  obtain ⟨rfl, rfl⟩ := am_eq_sp ho
  split at hs
  · rename_i a S2
    obtain ⟨c1, h1, h2⟩ := am_hg_sp _ _ _ hs
    split at h2
    · intro H locs ls hP hS hn hl
      exact va_alen hx hb hK hP a 0 (am_w_at h1) rfl rfl hd (h2 H locs ls hP hS hn hl)
    · exact h2.elim
  · exact hs.elim
theorem am_r_iastore (X : am_Cx p s m args meth c D cI cW q) (hd : decode q.2.1 pc = .ok (raw, len)) (hA : am_Dx ad A n s) (ho : (decide (raw = .iastore) && Nat.beq len 1) = true) (hs : match S with | .int x :: .int i :: .ref a :: S => am_hg h a (fun zc => match zc with | .inl (nn, f) => vp_in i nn ∧ am_hs h a (.inl (nn, upd f i.toNatClampNeg x)) (fun h => am_G p l e R s m args below meth c Q D ad cI cW A n q (pc + len) L S h) | _ => False) | _ => False) : am_G p l e R s m args below meth c Q D ad cI cW A n q pc L S h := by
  obtain ⟨hx, hb, hr, hml, hown, hts, hlk, hK, hNW⟩ := X
  obtain ⟨rfl, rfl⟩ := am_eq_sp ho
  split at hs
  · rename_i x i a S2
    obtain ⟨c1, h1, h2⟩ := am_hg_sp _ _ _ hs
    split at h2
    · obtain ⟨h3, h4⟩ := am_hs_sp _ _ _ _ h2.2
      intro H locs ls hP hS hn hl
      refine va_iast hx hb hK hP (am_Ax_D (by rw [hn]; exact hA.1)) hS a 0 (am_w_at h1) rfl h2.1 hd (fun H1 locs1 hP1 _ hS1 => ?_)
      refine h3 H1 locs1 ls ?_ hS1 (by simpa using hn) hl
      rw [← am_w_set]
      exact hP1
    · exact h2.elim
  · exact hs.elim
theorem am_xl_link {o i t : Nat} (h : (o, i, t) ∈ am_XL) : Jvm.Cond.methodLink (am_cn o) i (w_mx t) ∈ am_TS := am_ts (in_xl _ (List.mem_map_of_mem (f := w_xl) h)) rfl
theorem am_mu {w : Jvm.Cond} (h : w ∈ [Jvm.Cond.static Lib.Math.max.name, Jvm.Cond.static Lib.Math.min.name, Jvm.Cond.static Lib.Math.abs.name, Jvm.Cond.static Lib.MathLoose.max_long.x, Jvm.Cond.initialized "java/lang/Math"]) (g : goodWord w = true) : w ∈ am_TS := am_ts (in_ms w h) g
theorem am_mv {w : Jvm.Cond} (h : w ∈ [Jvm.Cond.code Lib.Math.max.name Lib.Math.max.code 2 (some .int), Jvm.Cond.code Lib.Math.min.name Lib.Math.min.code 2 (some .int), Jvm.Cond.code Lib.Math.abs.name Lib.Math.abs.code 1 (some .int), Jvm.Cond.code Lib.MathLoose.max_long.x Lib.MathLoose.max_long.code 4 (some .long)]) (g : goodWord w = true) : w ∈ am_TS := am_ts (in_mc w h) g
theorem am_cat_le {S : List Value} {k : Nat} (ad : Nat → Nat) (h : Nat.ble (am_cat S) 8 = true) (hk : 8 + k ≤ R.locals) : ((S.map (am_cv ad)).map fun v => v.category).sum + k ≤ R.locals := by
  rw [am_cat_eq, am_cat_cv]
  have := Nat.le_of_ble_eq_true h
  omega
theorem am_r_i1 (X : am_Cx p s m args meth c D cI cW q) (hd : decode q.2.1 pc = .ok (raw, len)) (hcs : (0 : Nat) ≤ R.cells) (hf : (Nat.ble 1 R.frames && Nat.ble 26 R.locals) = true) (ho : ∃ i, raw = .invokestatic i ∧ len = 3 ∧ (q.2.2.2.2.2.1, i, 1) ∈ am_XL) (hs : am_i1 (fun L S h => am_G p l e R s m args below meth c Q D ad cI cW A n q (pc + len) L S h) L S h) : am_G p l e R s m args below meth c Q D ad cI cW A n q pc L S h := by
  obtain ⟨hx, hb, hr, hml, hown, hts, hlk, hK, hNW⟩ := X
  obtain ⟨i, rfl, rfl, ho⟩ := ho
  rw [Bool.and_eq_true] at hf
  have hf1 := Nat.le_of_ble_eq_true hf.1
  have hf2 := Nat.le_of_ble_eq_true hf.2
  unfold am_i1 at hs
  split at hs
  · obtain ⟨h1, h2⟩ := am_if_sp hs
    intro H locs ls hP hS hn hl
    exact va_mmax hx hb (hml.trans hl.1.symm) hown (hts _ (am_xl_link ho)) (hts _ (am_mu (List.mem_of_getElem? (i := 0) rfl) rfl)) (hts _ (am_mu (List.mem_of_getElem? (i := 4) rfl) rfl)) (hts _ (am_mv (List.mem_of_getElem? (i := 0) rfl) rfl)) hf1 (am_cat_le ad h1 (by omega)) (Nat.zero_le _) (Nat.zero_le _) hd (h2 H locs ls hP hS hn hl)
  · exact hs.elim
theorem am_r_i2 (X : am_Cx p s m args meth c D cI cW q) (hd : decode q.2.1 pc = .ok (raw, len)) (hcs : (0 : Nat) ≤ R.cells) (hf : (Nat.ble 1 R.frames && Nat.ble 26 R.locals) = true) (ho : ∃ i, raw = .invokestatic i ∧ len = 3 ∧ (q.2.2.2.2.2.1, i, 2) ∈ am_XL) (hs : am_i2 (fun L S h => am_G p l e R s m args below meth c Q D ad cI cW A n q (pc + len) L S h) L S h) : am_G p l e R s m args below meth c Q D ad cI cW A n q pc L S h := by
  obtain ⟨hx, hb, hr, hml, hown, hts, hlk, hK, hNW⟩ := X
  obtain ⟨i, rfl, rfl, ho⟩ := ho
  rw [Bool.and_eq_true] at hf
  have hf1 := Nat.le_of_ble_eq_true hf.1
  have hf2 := Nat.le_of_ble_eq_true hf.2
  unfold am_i2 at hs
  split at hs
  · obtain ⟨h1, h2⟩ := am_if_sp hs
    intro H locs ls hP hS hn hl
    exact va_mmin hx hb (hml.trans hl.1.symm) hown (hts _ (am_xl_link ho)) (hts _ (am_mu (List.mem_of_getElem? (i := 1) rfl) rfl)) (hts _ (am_mu (List.mem_of_getElem? (i := 4) rfl) rfl)) (hts _ (am_mv (List.mem_of_getElem? (i := 1) rfl) rfl)) hf1 (am_cat_le ad h1 (by omega)) (Nat.zero_le _) (Nat.zero_le _) hd (h2 H locs ls hP hS hn hl)
  · exact hs.elim
theorem am_r_i3 (X : am_Cx p s m args meth c D cI cW q) (hd : decode q.2.1 pc = .ok (raw, len)) (hcs : (0 : Nat) ≤ R.cells) (hf : (Nat.ble 1 R.frames && Nat.ble 26 R.locals) = true) (ho : ∃ i, raw = .invokestatic i ∧ len = 3 ∧ (q.2.2.2.2.2.1, i, 3) ∈ am_XL) (hs : am_i3 (fun L S h => am_G p l e R s m args below meth c Q D ad cI cW A n q (pc + len) L S h) L S h) : am_G p l e R s m args below meth c Q D ad cI cW A n q pc L S h := by
  obtain ⟨hx, hb, hr, hml, hown, hts, hlk, hK, hNW⟩ := X
  obtain ⟨i, rfl, rfl, ho⟩ := ho
  rw [Bool.and_eq_true] at hf
  have hf1 := Nat.le_of_ble_eq_true hf.1
  have hf2 := Nat.le_of_ble_eq_true hf.2
  unfold am_i3 at hs
  split at hs
  · obtain ⟨h1, h2⟩ := am_if_sp hs
    intro H locs ls hP hS hn hl
    exact va_mabs hx hb (hml.trans hl.1.symm) hown (hts _ (am_xl_link ho)) (hts _ (am_mu (List.mem_of_getElem? (i := 2) rfl) rfl)) (hts _ (am_mu (List.mem_of_getElem? (i := 4) rfl) rfl)) (hts _ (am_mv (List.mem_of_getElem? (i := 2) rfl) rfl)) hf1 (am_cat_le ad h1 (by omega)) (Nat.zero_le _) (Nat.zero_le _) hd (h2 H locs ls hP hS hn hl)
  · exact hs.elim
theorem am_r_i4 (X : am_Cx p s m args meth c D cI cW q) (hd : decode q.2.1 pc = .ok (raw, len)) (hcs : (0 : Nat) ≤ R.cells) (hf : (Nat.ble 1 R.frames && Nat.ble 26 R.locals) = true) (ho : ∃ i, raw = .invokestatic i ∧ len = 3 ∧ (q.2.2.2.2.2.1, i, 4) ∈ am_XL) (hs : am_i4 (fun L S h => am_G p l e R s m args below meth c Q D ad cI cW A n q (pc + len) L S h) L S h) : am_G p l e R s m args below meth c Q D ad cI cW A n q pc L S h := by
  obtain ⟨hx, hb, hr, hml, hown, hts, hlk, hK, hNW⟩ := X
  obtain ⟨i, rfl, rfl, ho⟩ := ho
  rw [Bool.and_eq_true] at hf
  have hf1 := Nat.le_of_ble_eq_true hf.1
  have hf2 := Nat.le_of_ble_eq_true hf.2
  unfold am_i4 at hs
  split at hs
  · obtain ⟨h1, h2⟩ := am_if_sp hs
    intro H locs ls hP hS hn hl
    exact va_mmax_long hx hb (hml.trans hl.1.symm) hown (hts _ (am_xl_link ho)) (hts _ (am_mu (List.mem_of_getElem? (i := 3) rfl) rfl)) (hts _ (am_mu (List.mem_of_getElem? (i := 4) rfl) rfl)) (hts _ (am_mv (List.mem_of_getElem? (i := 3) rfl) rfl)) hf1 (am_cat_le ad h1 (by omega)) (Nat.zero_le _) (Nat.zero_le _) hd (h2 H locs ls hP hS hn hl)
  · exact hs.elim
theorem am_r_i0 (X : am_Cx p s m args meth c D cI cW q) (hd : decode q.2.1 pc = .ok (raw, len)) (hA : am_Dx ad A n s) (hf : (Nat.ble 1 R.frames && Nat.ble 26 R.locals) = true) (ho : ∃ i, raw = .invokestatic i ∧ len = 3 ∧ (q.2.2.2.2.2.1, i) ∈ am_AL) (hs : am_i0 (fun L S h => am_G p l e R s m args below meth c Q D ad cI cW A n q (pc + len) L S h) L S h) : am_G p l e R s m args below meth c Q D ad cI cW A n q pc L S h := by
  obtain ⟨hx, hb, hr, hml, hown, hts, hlk, hK, hNW⟩ := X
  obtain ⟨i, rfl, rfl, ho⟩ := ho
  rw [Bool.and_eq_true] at hf
  have hf1 := Nat.le_of_ble_eq_true hf.1
  have hf2 := Nat.le_of_ble_eq_true hf.2
  unfold am_i0 at hs
  split at hs
  · rename_i k dp b sp a S2
    obtain ⟨h1, h2⟩ := am_if_sp hs
    obtain ⟨c0, h3, h4⟩ := am_hg_sp _ _ _ h2
    obtain ⟨c1, h5, h6⟩ := am_hg_sp _ _ _ h4
    split at h6
    · split at h6
      · obtain ⟨⟨g1, g2, g3, g4, g5⟩, h7⟩ := h6
        obtain ⟨h8, h9⟩ := am_hs_sp _ _ _ _ h7
        intro H locs ls hP hS hn hl
        refine va_copyi hx hb (hml.trans hl.1.symm) hown (hts _ (am_al_link ho)) (hts _ (am_ts (in_ac _ (List.mem_of_getElem? (i := 0) rfl)) rfl)) (hts _ (am_ts (in_ac _ (List.mem_of_getElem? (i := 1) rfl)) rfl)) (hts _ (am_ts (in_ac _ (List.mem_of_getElem? (i := 2) rfl)) rfl)) hK hP (am_Ax_D (by rw [hn]; exact hA.1)) hS a b 0 0 (am_w_at h3) (am_w_at h5) rfl rfl rfl g1 g2 g3 g4 g5 (fun _ _ => rfl) hf1 ?_ hd (fun H1 locs1 hP1 _ hS1 => ?_)
        · rw [show nativeFrameWords "java/lang/System" "arraycopy" 5 = 7 by decide]
          exact am_cat_le ad h1 (by omega)
        · refine h8 H1 locs1 ls ?_ hS1 (by simpa using hn) hl
          rw [← am_w_set]
          exact hP1
      · exact h6.elim
    · exact h6.elim
  · exact hs.elim
end RW
