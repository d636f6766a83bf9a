/-! CONSTRUCTORS: a world that grows -/
def cl_v (k : Nat) (v : Value) : Prop := match v with
  | .ref a => a < k
  | _ => True
def cl_c (k : Nat) (c : AC) : Prop := match c with
  | .inl _ => True
  | .inr (.inl q) => ∀ j x, q.2 j = some x → x < k
  | .inr (.inr q) => ∀ v ∈ q.2, cl_v k v
def cl_h (k : Nat) (J : AH) : Prop := ∀ c ∈ J, cl_c k c
theorem cl_v_mo {k k2 : Nat} (h : k ≤ k2) {v : Value} (g : cl_v k v) : cl_v k2 v := by
  cases v <;> first | trivial | exact Nat.lt_of_lt_of_le g h
theorem cl_c_mo {k k2 : Nat} (h : k ≤ k2) : ∀ {c : AC}, cl_c k c → cl_c k2 c
  | .inl _, _ => trivial
  | .inr (.inl _), g => fun j x e => Nat.lt_of_lt_of_le (g j x e) h
  | .inr (.inr _), g => fun v hv => cl_v_mo h (g v hv)
theorem cl_h_mo {k k2 : Nat} (h : k ≤ k2) {J : AH} (g : cl_h k J) : cl_h k2 J := fun c hc => cl_c_mo h (g c hc)
theorem cl_h_app {k : Nat} {J K : AH} (g : cl_h k J) (g2 : cl_h k K) : cl_h k (J ++ K) := fun c hc => by
  rcases List.mem_append.mp hc with h | h
  · exact g c h
  · exact g2 c h
theorem cl_h_cons {k : Nat} {c : AC} {J : AH} (g : cl_c k c) (g2 : cl_h k J) : cl_h k (c :: J) := fun d hd => by
  rcases List.mem_cons.mp hd with h | h
  · rw [h]; exact g
  · exact g2 d h
theorem cl_v_rc {n k : Nat} {v : Value} (g : cl_v k v) : cl_v (n + k) (am_cv (fun i => i + n) v) := by
  cases v with
  | ref a =>
    have g : a < k := g
    exact (Nat.add_comm n k) ▸ Nat.add_lt_add_right g n
  | _ => trivial
theorem cl_c_rc {n k : Nat} : ∀ {c : AC}, cl_c k c → cl_c (n + k) (am_rc (fun i => i + n) c)
  | .inl _, _ => trivial
  | .inr (.inl q), g => fun j x e => by
    have e : (q.2 j).map (fun i => i + n) = some x := e
    obtain ⟨y, h1, h2⟩ := Option.map_eq_some_iff.mp e
    have h3 : y < k := g j y h1
    have h2 : y + n = x := h2
    omega
  | .inr (.inr q), g => fun v hv => by
    obtain ⟨w, h1, h2⟩ := List.mem_map.mp (show v ∈ q.2.map (am_cv (fun i => i + n)) from hv)
    rw [← h2]
    exact cl_v_rc (g w h1)
theorem cl_h_rc {n k : Nat} {K : AH} (g : cl_h k K) : cl_h (n + k) (K.map (am_rc (fun i => i + n))) := fun c hc => by
  obtain ⟨d, h1, h2⟩ := List.mem_map.mp hc
  rw [← h2]
  exact cl_c_rc (g d h1)
theorem cv_cg {f g : Nat → Nat} {k : Nat} (h : ∀ i, i < k → f i = g i) {v : Value} (q : cl_v k v) : am_cv f v = am_cv g v := by
  cases v <;> first | rfl | exact congrArg Value.ref (h _ q)
theorem c_cg {f g : Nat → Nat} {k : Nat} {cI cW : ClassId} (h : ∀ i, i < k → f i = g i) : ∀ {c : AC}, cl_c k c → am_c f cI cW c = am_c g cI cW c
  | .inl _, _ => rfl
  | .inr (.inl q), z => by
    have e : (fun j => (q.2 j).map f) = (fun j => (q.2 j).map g) := by
      funext j
      cases hq : q.2 j with
      | none => rfl
      | some x => exact congrArg some (h x (z j x hq))
    show (Sum.inl (cW, q.1, Sum.inr (Sum.inr (Sum.inr (Sum.inr (fun j => (q.2 j).map f))))) : va_E) = Sum.inl (cW, q.1, Sum.inr (Sum.inr (Sum.inr (Sum.inr (fun j => (q.2 j).map g)))))
    rw [e]
  | .inr (.inr q), z => by
    have e : q.2.map (am_cv f) = q.2.map (am_cv g) := List.map_congr_left (fun v hv => cv_cg h (z v hv))
    show (Sum.inr (q.1, q.2.map (am_cv f)) : va_E) = Sum.inr (q.1, q.2.map (am_cv g))
    rw [e]
theorem wi_cg {f g : Nat → Nat} {k : Nat} {cI cW : ClassId} (h : ∀ i, i < k → f i = g i) : ∀ (J : AH) (i : Nat), cl_h k J → i + J.length ≤ k → am_wi f cI cW i J = am_wi g cI cW i J
  | [], _, _, _ => rfl
  | c :: J, i, hc, hl => by
    have hl : i + (J.length + 1) ≤ k := hl
    show (f i, am_c f cI cW c) :: am_wi f cI cW (i + 1) J = (g i, am_c g cI cW c) :: am_wi g cI cW (i + 1) J
    rw [h i (by omega), c_cg h (hc c List.mem_cons_self), wi_cg h J (i + 1) (fun c hc' => hc c (List.mem_cons_of_mem _ hc')) (by omega)]
theorem wi_app {f : Nat → Nat} {cI cW : ClassId} : ∀ (J K : AH) (i : Nat), am_wi f cI cW i (J ++ K) = am_wi f cI cW i J ++ am_wi f cI cW (i + J.length) K
  | [], K, i => rfl
  | c :: J, K, i => by
    show (f i, am_c f cI cW c) :: am_wi f cI cW (i + 1) (J ++ K) = (f i, am_c f cI cW c) :: (am_wi f cI cW (i + 1) J ++ am_wi f cI cW (i + (J.length + 1)) K)
    rw [wi_app J K (i + 1), show i + 1 + J.length = i + (J.length + 1) by omega]
theorem c_rc {f g : Nat → Nat} {cI cW : ClassId} : ∀ (c : AC), am_c f cI cW (am_rc g c) = am_c (fun i => f (g i)) cI cW c
  | .inl _ => rfl
  | .inr (.inl q) => by
    have e : (fun k => ((q.2 k).map g).map f) = (fun k => (q.2 k).map (fun i => f (g i))) := by
      funext k
      cases q.2 k <;> rfl
    show (Sum.inl (cW, q.1, Sum.inr (Sum.inr (Sum.inr (Sum.inr (fun k => ((q.2 k).map g).map f))))) : va_E) = Sum.inl (cW, q.1, Sum.inr (Sum.inr (Sum.inr (Sum.inr (fun k => (q.2 k).map (fun i => f (g i)))))))
    rw [e]
  | .inr (.inr q) => by
    have e : (q.2.map (am_cv g)).map (am_cv f) = q.2.map (am_cv (fun i => f (g i))) := by
      rw [List.map_map]
      exact List.map_congr_left (fun v _ => by cases v <;> rfl)
    show (Sum.inr (q.1, (q.2.map (am_cv g)).map (am_cv f)) : va_E) = Sum.inr (q.1, q.2.map (am_cv (fun i => f (g i))))
    rw [e]
theorem wi_rc {f : Nat → Nat} {n : Nat} {cI cW : ClassId} : ∀ (K : AH) (i : Nat), am_wi f cI cW (i + n) (K.map (am_rc (fun j => j + n))) = am_wi (fun j => f (j + n)) cI cW i K
  | [], _ => rfl
  | c :: K, i => by
    show (f (i + n), am_c f cI cW (am_rc (fun j => j + n) c)) :: am_wi f cI cW (i + n + 1) (K.map (am_rc (fun j => j + n))) = (f (i + n), am_c (fun j => f (j + n)) cI cW c) :: am_wi (fun j => f (j + n)) cI cW (i + 1) K
    rw [c_rc, show i + n + 1 = (i + 1) + n by omega, wi_rc K (i + 1)]
def cn_u (n : Nat) (f g : Nat → Nat) : Nat → Nat := fun i => if i < n then f i else g (i - n)
theorem cn_u_lo {n : Nat} {f g : Nat → Nat} {i : Nat} (h : i < n) : cn_u n f g i = f i := if_pos h
theorem cn_u_hi {n : Nat} {f g : Nat → Nat} {j : Nat} : cn_u n f g (j + n) = g j := by
  unfold cn_u
  rw [if_neg (by omega), Nat.add_sub_cancel]
theorem cn_u_at {n : Nat} {f g : Nat → Nat} : cn_u n f g n = g 0 := by
  have := cn_u_hi (n := n) (f := f) (g := g) (j := 0)
  rwa [Nat.zero_add] at this
theorem w_join {f g : Nat → Nat} {cI cW : ClassId} {J K : AH} (hJ : cl_h J.length J) : am_w (cn_u J.length f g) cI cW (J ++ K.map (am_rc (fun i => i + J.length))) = am_w f cI cW J ++ am_w g cI cW K := by
  show am_wi _ _ _ 0 _ = am_wi _ _ _ 0 _ ++ am_wi _ _ _ 0 _
  rw [wi_app, wi_cg (f := cn_u J.length f g) (g := f) (k := J.length) (fun i h => cn_u_lo h) J 0 hJ (by omega), wi_rc (n := J.length) K 0, show (fun j => cn_u J.length f g (j + J.length)) = g from funext (fun j => cn_u_hi)]
theorem w_len {f : Nat → Nat} {cI cW : ClassId} : ∀ (J : AH) (i : Nat), (am_wi f cI cW i J).length = J.length
  | [], _ => rfl
  | c :: J, i => by
    show (am_wi f cI cW (i + 1) J).length + 1 = J.length + 1
    rw [w_len J (i + 1)]
def cl0 (fs : List Value) : Bool := fs.all (fun v => match v with | .ref _ => false | _ => true)
theorem cl0_v {fs : List Value} (h : cl0 fs = true) (k : Nat) : ∀ v ∈ fs, cl_v k v := fun v hv => by
  have := List.all_eq_true.mp h v hv
  cases v with
  | ref a => cases this
  | _ => trivial
theorem cl0_m {fs : List Value} (h : cl0 fs = true) (f : Nat → Nat) : fs.map (am_cv f) = fs := by
  have e : fs.map (am_cv f) = fs.map id := List.map_congr_left (fun v hv => by
    have := List.all_eq_true.mp h v hv
    cases v with
    | ref a => cases this
    | _ => rfl)
  rw [e, List.map_id]
/-- behind a call on the last cell -/
theorem cn_join {A0 : Nat → Prop} {D : va_G} {cl : List vw_C} {ws w1 : va_W} {z : Nat × va_E} {H H1 : Heap} (hP : va_P D cl (ws ++ [z]) H) (hD : va_D A0 (ws ++ [z])) (hk : ∀ q : Nat, q < H.size → ¬ va_A [z] H.size q → H1[q]? = H[q]?) (hF : ∀ q, va_A [z] H.size q → A0 q) (hP1 : va_P D cl w1 H1) (hD1 : va_D (va_A [z] H.size) w1) : va_P D cl (ws ++ w1) H1 ∧ va_D A0 (ws ++ w1) := by
  have hz : (ws ++ [z])[ws.length]? = some z := by simp
  have lo : ∀ (k : Nat) (q : Nat × va_E), ws[k]? = some q → (ws ++ [z])[k]? = some q := fun k q h => by
    rw [List.getElem?_append_left (List.getElem?_eq_some_iff.mp h).1]; exact h
  have apart : ∀ (k : Nat) (q : Nat × va_E), ws[k]? = some q → q.1 < H.size ∧ ¬ va_A [z] H.size q.1 := by
    intro k q hq
    have hl := (hP k q (lo k q hq)).lt
    refine ⟨hl, fun h => ?_⟩
    rcases h with ⟨k2, e, h⟩ | h
    · have h1 : k2 < 1 := (List.getElem?_eq_some_iff.mp h).1
      obtain rfl : k2 = 0 := by omega
      have h2 : z = (q.1, e) := Option.some.inj h
      have := hD.1 k ws.length q z (lo k q hq) hz (by rw [h2])
      have := (List.getElem?_eq_some_iff.mp hq).1
      omega
    · omega
  have hD0 : va_D A0 ws := ⟨fun i j x y hi hj e => hD.1 i j x y (lo i x hi) (lo j y hj) e, fun k q h => hD.2 k q (lo k q h)⟩
  refine ⟨va_P.app (fun k q hq => ?_) hP1, va_D.app hD0 (hD1.weaken (fun k q _ h => hF q.1 h)) (fun i j x y hx hy hxy => ?_)⟩
  · obtain ⟨g1, g2⟩ := apart k q hq
    exact (hP k q (lo k q hq)).kept (hk q.1 g1 g2)
  · exact (apart i x hx).2 (by rw [hxy]; exact hD1.2 j y hy)
/-- the nest's links to constructors -/
def cn_nl : List (String × Nat × String) := [("RivetedSisters", 9, "RivetedSisters$Wire"), ("RivetedSisters$Past", 24, "RivetedSisters$Wire"), ("RivetedSisters", 32, "RivetedSisters$Valley"), ("RivetedSisters$Valley", 17, "RivetedSisters$Wire"), ("RivetedSisters$Valley", 24, "RivetedSisters$Wave"), ("RivetedSisters", 39, "RivetedSisters$Row"), ("RivetedSisters", 46, "RivetedSisters$Wave"), ("RivetedSisters", 53, "RivetedSisters$Echoes"), ("RivetedSisters$Echoes", 11, "RivetedSisters$Wave"), ("RivetedSisters$Echoes", 20, "RivetedSisters$Wire"), ("RivetedSisters$Echoes", 27, "RivetedSisters$Best"), ("RivetedSisters", 60, "RivetedSisters$Plans"), ("RivetedSisters$Plans", 11, "RivetedSisters$Wave"), ("RivetedSisters$Plans", 20, "RivetedSisters$Wire"), ("RivetedSisters$Plans", 27, "RivetedSisters$Best"), ("RivetedSisters", 67, "RivetedSisters$Orders"), ("RivetedSisters$Orders", 11, "RivetedSisters$Wave"), ("RivetedSisters$Orders", 20, "RivetedSisters$Wire"), ("RivetedSisters", 74, "RivetedSisters$Futures"), ("RivetedSisters$Futures", 11, "RivetedSisters$Wave"), ("RivetedSisters$Futures", 20, "RivetedSisters$Wire")]
def cn_y (C : String) : MethodName := ⟨C, "<init>", "()V"⟩
def cn_w (e : String × Nat × String) : Cond := .methodLinkNest e.1 e.2.1 (cn_y e.2.2) "RivetedSisters"
def CNW (U : State) : Prop := (∀ e ∈ cn_nl, va_Nw (cn_w e) U) ∧ va_AO "RivetedSisters$Wire" U
theorem CNW.warm {s U : State} (hW : s.WarmedH U.vm) (h : CNW s) : CNW U := ⟨fun e he => va_Nw.warmM hW (h.1 e he), va_AO.moved hW.alike h.2⟩
theorem CNW.same {s U : State} (hv : s.vm = U.vm) (h : CNW s) : CNW U := ⟨fun e he => va_Nw.same rfl hv (h.1 e he), va_AO.moved (by rw [hv]; exact Vm.Alike.refl U.vm) h.2⟩
/-- what holds through a constructor -/
def CNX (p : Program) (s : State) (m : MethodId) (args : Array Value) (c : Code) (D : va_G) (cI cW : ClassId) (A : Nat → Prop) (cc : ByteArray) (nL o : Nat) : Prop := p.tables.exec = Jvm.exec ∧ c.code = cc ∧ c.maxLocals = nL ∧ s.vm.findClass (am_cn o) = some m.cls ∧ (∀ w ∈ am_TS, w.before args s = true) ∧ va_K D am_cl (am_ty cI cW) s ∧ CNW s ∧ ∀ x, s.heap.size ≤ x → A x
def CNS (D : va_G) (cI cW : ClassId) (A : Nat → Prop) (s : State) (ad : Nat → Nat) (J : AH) (H : Heap) (locs : List Loc) : Prop := va_P D am_cl (am_w ad cI cW J) H ∧ va_D A (am_w ad cI cW J) ∧ va_S A s.heap H locs ∧ cl_h J.length J
/-- what is known of a class and its constructor -/
def cn_K (ci : Nat) (C : String) (T : u_T) (N : Nat) (ty : Nat → FieldType) (cc2 : ByteArray) (maxL : Nat) (fs : List Value) : Prop := am_cl[ci]? = some (C, T, N) ∧ (∀ w ∈ u_ws C T N, w ∈ am_TS) ∧ (∀ k, k < N → parseFieldDescriptor (T k).2.2.1 = some (ty k)) ∧ (∀ j, j < N → defaultValue (ty j) = vp_V fs j) ∧ Cond.instantiable C N ∈ am_TS ∧ Cond.initialized C ∈ am_TS ∧ Cond.code (cn_y C) cc2 maxL none ∈ am_TS ∧ Cond.instanceMethod (cn_y C) ∈ am_TS ∧ C ≠ "java/lang/invoke/MethodHandle" ∧ C ≠ "java/lang/invoke/VarHandle" ∧ cl0 fs = true
def cn_B (D : va_G) (cI cW : ClassId) (J2 : AH) (A : Nat → Prop) (h0 : Nat) (ad : Nat → Nat) (t : State) : Prop := ad 0 = h0 ∧ va_P D am_cl (am_w ad cI cW J2) t.heap ∧ va_D A (am_w ad cI cW J2)
/-- a constructor's contract -/
def cn_C (l : Launch) (D : va_G) (cI cW : ClassId) (C : String) (cc2 : ByteArray) (maxL : Nat) (rm : Room) (ci : Nat) (fs : List Value) (J2 : AH) (mc ms : Nat) : Prop := ∀ (h0 sz : Nat), Met l (cn_y C) (Cond.code (cn_y C) cc2 maxL none :: am_TS) rm (va_Pc [.ref h0] (fun U => U.heap.size = sz ∧ va_P D am_cl [(h0, .inr (ci, fs))] U.heap ∧ va_K D am_cl (am_ty cI cW) U ∧ CNW U)) (va_Qv (fun _ : Nat → Nat => True) (cn_B D cI cW J2 (va_A [(h0, .inr (ci, fs))] sz) h0) (va_A [(h0, .inr (ci, fs))] sz)) mc ms (va_A [(h0, .inr (ci, fs))] sz)
