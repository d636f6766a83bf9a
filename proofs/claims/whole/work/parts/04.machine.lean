/-! THE ABSTRACT MACHINE: one step as a predicate, over a heap of numbered cells -/
def am_g : AL → Nat → (Value → Prop) → Prop
  | [], _, _ => False
  | some v :: _, 0, k => k v
  | none :: _, 0, _ => False
  | _ :: t, n + 1, k => am_g t n k
def am_nl (o : Option Value) (k : Option Value → Prop) : Prop := match o with
  | none => k none
  | some v => match v with
    | .long _ => k none
    | .double _ => k none
    | v => k (some v)
def am_st : AL → Nat → Value → (AL → Prop) → Prop
  | [], _, _, _ => False
  | _ :: t, 0, v, k => k (some v :: t)
  | o :: t, n + 1, v, k => match n with
    | 0 => match t with
      | [] => False
      | _ :: t2 => am_nl o (fun o2 => k (o2 :: some v :: t2))
    | _ + 1 => am_st t n v (fun t2 => k (o :: t2))
def am_st2 : AL → Nat → Value → (AL → Prop) → Prop
  | [], _, _, _ => False
  | _ :: t, 0, v, k => match t with
    | [] => False
    | _ :: t2 => k (some v :: none :: t2)
  | o :: t, n + 1, v, k => match n with
    | 0 => match t with
      | _ :: _ :: t2 => am_nl o (fun o2 => k (o2 :: some v :: none :: t2))
      | _ => False
    | _ + 1 => am_st2 t n v (fun t2 => k (o :: t2))
def am_pad : Nat → (AL → Prop) → Prop
  | 0, k => k []
  | n + 1, k => am_pad n (fun t => k (none :: t))
def am_ent : List Value → Nat → (AL → Prop) → Prop
  | [], n, k => am_pad n k
  | v :: vs, n, k => match v with
    | .long x => match n with
      | m + 2 => am_ent vs m (fun t => k (some (.long x) :: none :: t))
      | _ => False
    | .double _ => False
    | v => match n with
      | m + 1 => am_ent vs m (fun t => k (some v :: t))
      | _ => False
def am_hg : AH → Nat → (AC → Prop) → Prop
  | [], _, _ => False
  | c :: _, 0, k => k c
  | _ :: t, n + 1, k => am_hg t n k
def am_hs : AH → Nat → AC → (AH → Prop) → Prop
  | [], _, _, _ => False
  | _ :: t, 0, c, k => k (c :: t)
  | a :: t, n + 1, c, k => am_hs t n c (fun t2 => k (a :: t2))
def am_fg : List Value → Nat → (Value → Prop) → Prop
  | [], _, _ => False
  | v :: _, 0, k => k v
  | _ :: t, n + 1, k => am_fg t n k
def am_fs : List Value → Nat → Value → (List Value → Prop) → Prop
  | [], _, _, _ => False
  | _ :: t, 0, v, k => k (v :: t)
  | a :: t, n + 1, v, k => am_fs t n v (fun t2 => k (a :: t2))
def am_pop : Nat → List Value → List Value → (List Value → List Value → Prop) → Prop
  | 0, S, acc, k => k acc S
  | _ + 1, [], _, _ => False
  | n + 1, v :: S, acc, k => am_pop n S (v :: acc) k
def am_cat : List Value → Nat
  | [] => 0
  | v :: t => v.category + am_cat t
def am_psh (r : Option Value) (S : List Value) : List Value := match r with
  | none => S
  | some v => v :: S
def am_pv (t : Nat) (v : Value) (P : Prop) : Prop := match t with
  | 0 => match v with
    | .int _ => P
    | _ => False
  | 1 => match v with
    | .long _ => P
    | _ => False
  | 2 => match v with
    | .int x => (x = 0 ∨ x = 1) ∧ P
    | _ => False
  | _ => False
def am_b (c A B : Prop) : Prop := (c → A) ∧ (¬ c → B)
def am_c1 (c : Jvm.ClassFile.Cond) (x : Int32) (A B : Prop) : Prop := match c with
  | .eq => am_b (x = 0) A B
  | .ne => am_b (x = 0) B A
  | .lt => am_b (x < 0) A B
  | .ge => am_b (0 ≤ x) A B
  | .gt => am_b (0 < x) A B
  | .le => am_b (x ≤ 0) A B
def am_c2 (c : Jvm.ClassFile.Cond) (x y : Int32) (A B : Prop) : Prop := match c with
  | .eq => am_b (x = y) A B
  | .ne => am_b (x = y) B A
  | .lt => am_b (x < y) A B
  | .ge => am_b (y ≤ x) A B
  | .gt => am_b (y < x) A B
  | .le => am_b (x ≤ y) A B
def am_tab (x : Int32) : Nat → List Int → (Nat → Prop) → Prop → Prop
  | _, [], _, D => D
  | c, t :: ts, J, D => am_b (x = nI c) (J t.toNat) (am_tab x (c + 1) ts J D)
def am_lkp (x : Int32) : List (Int × Int) → (Nat → Prop) → Prop → Prop
  | [], _, D => D
  | q :: ts, J, D => am_b (x = nI q.1.toNat) (J q.2.toNat) (am_lkp x ts J D)
def am_inc (x : Int32) (n : Int) : Int32 := match n with
  | .ofNat k => x + nI k
  | .negSucc k => x - nI (k + 1)
def am_i0 (nx : AL → List Value → AH → Prop) (L : AL) (S : List Value) (h : AH) : Prop := match S with
  | .int n :: .int dp :: .ref b :: .int sp :: .ref a :: S => bif Nat.ble (am_cat S) 8 then
    am_hg h a (fun c0 => am_hg h b (fun c1 => match c0 with
      | .inl (n0, f) => match c1 with
        | .inl (n1, g) => ((¬ sp < 0) ∧ (¬ dp < 0) ∧ (¬ n < 0) ∧ sp.toNatClampNeg + n.toNatClampNeg ≤ n0 ∧ dp.toNatClampNeg + n.toNatClampNeg ≤ n1) ∧
          am_hs h b (.inl (n1, va_cpy f g sp.toNatClampNeg dp.toNatClampNeg n.toNatClampNeg)) (fun h => nx L S h)
        | _ => False
      | _ => False)) else False
  | _ => False
def am_i1 (nx : AL → List Value → AH → Prop) (L : AL) (S : List Value) (h : AH) : Prop := match S with
  | .int y :: .int x :: S => bif Nat.ble (am_cat S) 8 then nx L (.int (if x < y then y else x) :: S) h else False
  | _ => False
def am_i2 (nx : AL → List Value → AH → Prop) (L : AL) (S : List Value) (h : AH) : Prop := match S with
  | .int y :: .int x :: S => bif Nat.ble (am_cat S) 8 then nx L (.int (if y < x then y else x) :: S) h else False
  | _ => False
def am_i3 (nx : AL → List Value → AH → Prop) (L : AL) (S : List Value) (h : AH) : Prop := match S with
  | .int x :: S => bif Nat.ble (am_cat S) 8 then nx L (.int (if 0 ≤ x then x else 0 - x) :: S) h else False
  | _ => False
def am_i4 (nx : AL → List Value → AH → Prop) (L : AL) (S : List Value) (h : AH) : Prop := match S with
  | .long y :: .long x :: S => bif Nat.ble (am_cat S) 8 then nx L (.long (if y < x then x else y) :: S) h else False
  | _ => False
def am_stp (ri : Instr) (nx : AL → List Value → AH → Prop) (J : Nat → AL → List Value → AH → Prop) (C : Nat → List Value → AL → List Value → AH → Prop) (R : Option Value → AH → Prop) (L : AL) (S : List Value) (h : AH) : Prop :=
  match ri with
  | .iload i => am_g L i (fun v => match v with | .int x => nx L (.int x :: S) h | _ => False)
  | .lload i => am_g L i (fun v => match v with | .long x => nx L (.long x :: S) h | _ => False)
  | .aload i => am_g L i (fun v => match v with | .ref x => nx L (.ref x :: S) h | _ => False)
  | .istore i => match S with | .int x :: S => am_st L i (.int x) (fun L => nx L S h) | _ => False
  | .astore i => match S with | .ref x :: S => am_st L i (.ref x) (fun L => nx L S h) | _ => False
  | .lstore i => match S with | .long x :: S => am_st2 L i (.long x) (fun L => nx L S h) | _ => False
  | .iinc i n => am_g L i (fun v => match v with | .int x => am_st L i (.int (am_inc x n)) (fun L => nx L S h) | _ => False)
  | .anewarray n => nx L (.int (nI n) :: S) h
  | .iconst n => nx L (.int (Int32.ofInt n) :: S) h
  | .ldc2_w n => nx L (.long (Int64.ofNat n) :: S) h
  | .iadd => match S with | .int y :: .int x :: S => nx L (.int (x + y) :: S) h | _ => False
  | .isub => match S with | .int y :: .int x :: S => nx L (.int (x - y) :: S) h | _ => False
  | .imul => match S with | .int y :: .int x :: S => nx L (.int (x * y) :: S) h | _ => False
  | .iand => match S with | .int y :: .int x :: S => nx L (.int (x &&& y) :: S) h | _ => False
  | .ior => match S with | .int y :: .int x :: S => nx L (.int (x ||| y) :: S) h | _ => False
  | .ixor => match S with | .int y :: .int x :: S => nx L (.int (x ^^^ y) :: S) h | _ => False
  | .idiv => match S with | .int y :: .int x :: S => (¬ y = 0) ∧ nx L (.int (x / y) :: S) h | _ => False
  | .irem => match S with | .int y :: .int x :: S => (¬ y = 0) ∧ nx L (.int (x - x / y * y) :: S) h | _ => False
  | .ineg => match S with | .int x :: S => nx L (.int (-x) :: S) h | _ => False
  | .ishl => match S with | .int y :: .int x :: S => nx L (.int (x <<< (y &&& 31)) :: S) h | _ => False
  | .ishr => match S with | .int y :: .int x :: S => nx L (.int (x >>> (y &&& 31)) :: S) h | _ => False
  | .iushr => match S with | .int y :: .int x :: S => nx L (.int (x.toUInt32 >>> (y.toUInt32 &&& Int32.toUInt32 31)).toInt32 :: S) h | _ => False
  | .ladd => match S with | .long y :: .long x :: S => nx L (.long (x + y) :: S) h | _ => False
  | .lsub => match S with | .long y :: .long x :: S => nx L (.long (x - y) :: S) h | _ => False
  | .lmul => match S with | .long y :: .long x :: S => nx L (.long (x * y) :: S) h | _ => False
  | .land => match S with | .long y :: .long x :: S => nx L (.long (x &&& y) :: S) h | _ => False
  | .lor => match S with | .long y :: .long x :: S => nx L (.long (x ||| y) :: S) h | _ => False
  | .ldiv => match S with | .long y :: .long x :: S => (¬ y = 0) ∧ nx L (.long (x / y) :: S) h | _ => False
  | .lrem => match S with | .long y :: .long x :: S => (¬ y = 0) ∧ nx L (.long (x - x / y * y) :: S) h | _ => False
  | .lshl => match S with | .int y :: .long x :: S => nx L (.long (x <<< (y.toInt64 &&& 63)) :: S) h | _ => False
  | .lshr => match S with | .int y :: .long x :: S => nx L (.long (x >>> (y.toInt64 &&& 63)) :: S) h | _ => False
  | .lushr => match S with | .int y :: .long x :: S => nx L (.long (x.toUInt64 >>> (y.toInt64.toUInt64 &&& Int64.toUInt64 63)).toInt64 :: S) h | _ => False
  | .i2l => match S with | .int x :: S => nx L (.long x.toInt64 :: S) h | _ => False
  | .l2i => match S with | .long x :: S => nx L (.int x.toInt32 :: S) h | _ => False
  | .lcmp => match S with | .long y :: .long x :: S => nx L (.int (lg_cmp x y) :: S) h | _ => False
  | .dup => match S with
    | .int x :: S => nx L (.int x :: .int x :: S) h
    | .ref x :: S => nx L (.ref x :: .ref x :: S) h
    | _ => False
  | .dup2 => match S with
    | .long x :: S => nx L (.long x :: .long x :: S) h
    | .int y :: .ref x :: S => nx L (.int y :: .ref x :: .int y :: .ref x :: S) h
    | _ => False
  | .pop => match S with
    | .int _ :: S => nx L S h
    | .ref _ :: S => nx L S h
    | _ => False
  | .if_icmp c t => match S with | .int y :: .int x :: S => am_c2 c x y (J t.toNat L S h) (nx L S h) | _ => False
  | .ifCond c t => match S with | .int x :: S => am_c1 c x (J t.toNat L S h) (nx L S h) | _ => False
  | .goto t => J t.toNat L S h
  | .tableswitch d lo _ ts => match S with | .int x :: S => am_tab x lo.toNat ts.toList (fun t => J t L S h) (J d.toNat L S h) | _ => False
  | .lookupswitch d ps => match S with | .int x :: S => am_lkp x ps.toList (fun t => J t L S h) (J d.toNat L S h) | _ => False
  | .getfield r => match S with
    | .ref a :: S => am_hg h a (fun c => match c with
      | .inr (.inr (ci, fs)) => bif Nat.beq ci (r / 100) then am_fg fs (r % 100) (fun v => nx L (v :: S) h) else False
      | _ => False)
    | _ => False
  | .putfield r => match S with
    | v :: .ref a :: S => am_hg h a (fun c => match c with
      | .inr (.inr (ci, fs)) => bif Nat.beq ci (r % 10000 / 100) then am_pv (r / 10000) v (am_fs fs (r % 100) v (fun fs => am_hs h a (.inr (.inr (ci, fs))) (fun h => nx L S h))) else False
      | _ => False)
    | _ => False
  | .iaload => match S with
    | .int i :: .ref a :: S => am_hg h a (fun c => match c with
      | .inl (n, f) => vp_in i n ∧ nx L (.int (f i.toNatClampNeg) :: S) h
      | _ => False)
    | _ => False
  | .iastore => match S with
    | .int x :: .int i :: .ref a :: S => am_hg h a (fun c => match c with
      | .inl (n, f) => vp_in i n ∧ am_hs h a (.inl (n, upd f i.toNatClampNeg x)) (fun h => nx L S h)
      | _ => False)
    | _ => False
  | .aaload => match S with
    | .int i :: .ref a :: S => am_hg h a (fun c => match c with
      | .inr (.inl (n, f)) => vp_in i n ∧ (match f i.toNatClampNeg with
        | some q => nx L (.ref q :: S) h
        | none => False)
      | _ => False)
    | _ => False
  | .arraylength => match S with
    | .ref a :: S => am_hg h a (fun c => match c with
      | .inl (n, _) => nx L (.int (nI n) :: S) h
      | _ => False)
    | _ => False
  | .invokeinterface r n => am_pop n S [] (fun args S => bif Nat.ble (am_cat S) 8 then (match r % 100 with
      | 0 => C (r / 100) args L S h
      | c + 1 => match args with
        | .ref a :: _ => am_hg h a (fun q => match q with
          | .inr (.inr (ci, _)) => bif Nat.beq ci c then C (r / 100) args L S h else False
          | _ => False)
        | _ => False) else False)
  | .invokedynamic t => match t with
    | 0 => am_i0 nx L S h
    | 1 => am_i1 nx L S h
    | 2 => am_i2 nx L S h
    | 3 => am_i3 nx L S h
    | 4 => am_i4 nx L S h
    | _ => False
  | .ireturn => match S with | [.int x] => R (some (.int x)) h | _ => False
  | .dreturn => match S with | [.int x] => (x = 0 ∨ x = 1) ∧ R (some (.int x)) h | _ => False
  | .lreturn => match S with | [.long x] => R (some (.long x)) h | _ => False
  | .areturn => match S with | [.ref x] => R (some (.ref x)) h | _ => False
  | .return_ => match S with | [] => R none h | _ => False
  | _ => False
/-! how a resolved step stands for what the bytes say -/
def am_k4 (i : Nat) (f : Fin 4 → Instr) (raw : Instr) (len : Nat) : Bool := if h : i < 4 then decide (raw = f ⟨i, h⟩) && Nat.beq len 1 else false
def am_const (o : Nat) (raw : Instr) (len : Nat) (v : Int) : Bool := match raw with
  | .iconst n => Nat.beq len 1 && decide (Int32.ofInt n = Int32.ofInt v)
  | .bipush n => Nat.beq len 2 && decide ((Int8.ofInt n).toInt32 = Int32.ofInt v)
  | .sipush n => Nat.beq len 3 && decide ((Int16.ofInt n).toInt32 = Int32.ofInt v)
  | .ldc i => Nat.beq len 2 && decide ((o, i, v) ∈ am_CL)
  | .ldc_w i => Nat.beq len 3 && decide ((o, i, v) ∈ am_CL)
  | _ => false
def am_constL (o : Nat) (raw : Instr) (len : Nat) (v : Nat) : Bool := match raw with
  | .lconst n => Nat.beq len 1 && Nat.beq n.val v
  | .ldc2_w i => Nat.beq len 3 && decide ((o, i, v) ∈ am_LL)
  | _ => false
def am_off (pc : Nat) (off t : Int) : Bool := decide ((pc : Int) + off = (t.toNat : Int))
def am_inv (o : Nat) (raw : Instr) (len : Nat) (r n : Nat) : Bool := match raw with
  | .invokevirtual i => Nat.beq len 3 && (decide ((o, i, r / 100) ∈ am_ML) && (decide (nth am_PN (r / 100) = some n) && (Nat.blt 0 (r % 100) && (Nat.blt 0 n && decide (nth am_CI (r / 100) = some (r % 100))))))
  | .invokestatic i => Nat.beq len 3 && ((decide ((o, i, r / 100) ∈ am_ML) || decide ((o, i, r / 100) ∈ am_NL)) && (decide (nth am_PN (r / 100) = some n) && (Nat.beq (r % 100) 0 && decide (nth am_CI (r / 100) = some 0))))
  | _ => false
def am_fld (o : Nat) (raw : Instr) (len : Nat) (r : Nat) : Bool := match raw with
  | .getfield i => Nat.beq len 3 && decide ((o, i, r / 100, r % 100) ∈ am_FL)
  | _ => false
def am_tag (t : Nat) : FieldType := match t with
  | 0 => .int
  | 1 => .long
  | _ => .boolean
def am_pfl (o : Nat) (raw : Instr) (len : Nat) (r : Nat) : Bool := match raw with
  | .putfield i => Nat.beq len 3 && (decide ((o, i, r % 10000 / 100, r % 100) ∈ am_FL) && (match nth am_cl (r % 10000 / 100) with
    | some q => !(q.2.1 (r % 100)).2.2.2 && decide (parseFieldDescriptor (q.2.1 (r % 100)).2.2.1 = some (am_tag (r / 10000)))
    | none => false))
  | _ => false
def am_brr (pc : Nat) (raw : Instr) (len : Nat) (ri : Instr) : Bool := match raw with
  | .if_icmp c off => match ri with | .if_icmp c2 t => Nat.beq len 3 && (decide (c = c2) && am_off pc off t) | _ => false
  | .ifCond c off => match ri with | .ifCond c2 t => Nat.beq len 3 && (decide (c = c2) && am_off pc off t) | _ => false
  | .goto off => match ri with | .goto t => Nat.beq len 3 && am_off pc off t | _ => false
  | .tableswitch d lo hi offs => match ri with
    | .tableswitch d2 lo2 _ ts => am_off pc d d2 && (decide (lo = lo2) && (decide (0 ≤ lo) && (decide (hi < 1000) && (decide ((offs.size : Int) = hi + 1 - lo) && (Nat.beq ts.size offs.size && (List.zip offs.toList ts.toList).all (fun q => am_off pc q.1 q.2))))))
    | _ => false
  | .lookupswitch d ps => match ri with
    | .lookupswitch d2 qs => am_off pc d d2 && (Nat.beq ps.size qs.size && ((List.zip ps.toList qs.toList).all (fun q => decide (q.1.1 = q.2.1) && (decide (0 ≤ q.1.1) && (decide (q.1.1 < 1000) && am_off pc q.1.2 q.2.2))) && (ps.toList.zip (ps.toList.drop 1)).all (fun (a, next) => decide (a.1 < next.1))))
    | _ => false
  | _ => false
def am_ok (o : Nat) (ret : Option FieldType) (pc : Nat) (ri : Instr) (len : Nat) (raw : Instr) : Bool := match ri with
  | .iload i => am_k4 i .iload_n raw len || (decide (raw = .iload i) && Nat.beq len 2)
  | .lload i => am_k4 i .lload_n raw len || (decide (raw = .lload i) && Nat.beq len 2)
  | .aload i => am_k4 i .aload_n raw len || (decide (raw = .aload i) && Nat.beq len 2)
  | .istore i => am_k4 i .istore_n raw len || (decide (raw = .istore i) && Nat.beq len 2)
  | .lstore i => am_k4 i .lstore_n raw len || (decide (raw = .lstore i) && Nat.beq len 2)
  | .astore i => am_k4 i .astore_n raw len || (decide (raw = .astore i) && Nat.beq len 2)
  | .iinc i n => decide (raw = .iinc i n) && Nat.beq len 3
  | .anewarray n => am_const o raw len (n : Int)
  | .iconst n => am_const o raw len n
  | .ldc2_w n => am_constL o raw len n
  | .if_icmp c t => am_brr pc raw len (.if_icmp c t)
  | .ifCond c t => am_brr pc raw len (.ifCond c t)
  | .goto t => am_brr pc raw len (.goto t)
  | .tableswitch d lo hi ts => am_brr pc raw len (.tableswitch d lo hi ts)
  | .lookupswitch d ps => am_brr pc raw len (.lookupswitch d ps)
  | .getfield r => am_fld o raw len r
  | .putfield r => am_pfl o raw len r
  | .invokeinterface r n => am_inv o raw len r n
  | .invokedynamic t => match raw with
    | .invokestatic i => Nat.beq len 3 && (match t with
      | 0 => decide ((o, i) ∈ am_AL)
      | t => decide ((o, i, t) ∈ am_XL) && Nat.blt t 5)
    | _ => false
  | .ireturn => decide (raw = .ireturn) && (Nat.beq len 1 && decide (ret = some .int))
  | .dreturn => decide (raw = .ireturn) && (Nat.beq len 1 && decide (ret = some .boolean))
  | .lreturn => decide (raw = .lreturn) && (Nat.beq len 1 && decide (ret = some .long))
  | .areturn => decide (raw = .areturn) && (Nat.beq len 1 && (match ret with | some (.object _) => true | _ => false))
  | .return_ => decide (raw = .return_) && (Nat.beq len 1 && decide (ret = none))
  | ri => decide (raw = ri) && Nat.beq len 1
def am_okE (q : ME) (e : AE) : Bool := am_ok q.2.2.2.2.2.1 q.2.2.2.1 e.1 e.2.1 e.2.2.1 e.2.2.2 && decide (decode q.2.1 e.1 = .ok (e.2.2.2, e.2.2.1))
/-- a call fits into the caller's room -/
def am_fit (q : ME) (e : AE) : Bool := match e.2.1 with
  | .invokeinterface r _ => match nth am_MT (r / 100) with
    | some y => Nat.ble (y.2.2.2.2.2.2.1 + 1) q.2.2.2.2.2.2.1 && Nat.ble (8 + (y.2.2.1 + 11) + y.2.2.2.2.2.2.2.1) q.2.2.2.2.2.2.2.1
    | none => false
  | .invokedynamic _ => Nat.ble 1 q.2.2.2.2.2.2.1 && Nat.ble 26 q.2.2.2.2.2.2.2.1
  | _ => true
def am_okM (q : ME) : Bool := q.2.2.2.2.2.2.2.2.all (fun e => am_okE q e && am_fit q e)
def am_okN (q : ME) : Bool := decide (q.1.cls = am_cn q.2.2.2.2.2.1) && (plainName q.1.cls && (decide (q.1.cls ≠ "java/lang/invoke/MethodHandle") && decide (q.1.cls ≠ "java/lang/invoke/VarHandle")))
