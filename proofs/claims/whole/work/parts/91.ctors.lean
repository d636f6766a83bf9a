/-! CONSTRUCTORS: of the parts -/
def j_0 : AH := .inr (.inr (0, [.int (Int32.ofInt (-9)), .int (Int32.ofInt (-9))])) :: ([])
theorem cJ_0 : cl_h j_0.length j_0 := cl_ck_h rfl
set_option maxRecDepth 100000 in
set_option maxHeartbeats 4000000 in
theorem cC_0 {l : Launch} {D : va_G} {cI cW : ClassId} : cn_C l D cI cW "RivetedSisters$Best" prog_2_method_1_code 1 { frames := 1, cells := 0, slots := 0, locals := 12 } 0 [.int 0, .int 0] j_0 0 0 := by
  refine cn_met (o := 0) (idx := 3) cK_0 (by decide) rfl (by decide) cw_70 ⟨by decide, by decide⟩ dK0_0 dK0_1 ?_
  intro p e s m args below meth c A a ls X hin hr hlk hl hN
  obtain ⟨ad, had⟩ : ∃ z : Nat → Nat, z = fun _ => a := ⟨_, rfl⟩
  have hT : ad 0 = a := by rw [had]
  rw [← had] at hN
  clear had
  have hN : CNS D cI cW A s ad (.inr (.inr (0, [.int 0, .int 0])) :: []) s.heap [] := hN
  refine cn_cst (k := 0) (v := .int (Int32.ofInt (-9))) (pcA := 7) X hl hN hT cK_0.1 (by decide +kernel) rfl rfl (cK_0.2.2.1 0 (by decide)) (by decide) (by decide) (by decide) trivial dK0_4 (fun st h => lv_bipush (v := Int32.ofInt (-9)) X.1 X.2.1 dK0_5 (by decide) h) dK0_7 (fun H locs hN => ?_)
  have hN : CNS D cI cW A s ad (.inr (.inr (0, [.int (Int32.ofInt (-9)), .int 0])) :: ([])) H locs := hN
  refine cn_cst (k := 1) (v := .int (Int32.ofInt (-9))) (pcA := 13) X hl hN hT cK_0.1 (by decide +kernel) rfl rfl (cK_0.2.2.1 1 (by decide)) (by decide) (by decide) (by decide) trivial dK0_10 (fun st h => lv_bipush (v := Int32.ofInt (-9)) X.1 X.2.1 dK0_11 (by decide) h) dK0_13 (fun H locs hN => ?_)
  have hN : CNS D cI cW A s ad (.inr (.inr (0, [.int (Int32.ofInt (-9)), .int (Int32.ofInt (-9))])) :: ([])) H locs := hN
  exact cn_ret X hr hlk hN hT (Nat.le_of_ble_eq_true rfl) (Nat.le_of_ble_eq_true rfl) dK0_16
def j_8 : AH := .inr (.inr (8, [.ref 1, .int (nI 0), .int (nI 0)])) :: ([.inl (8, fun _ => 0)])
theorem cJ_8 : cl_h j_8.length j_8 := cl_ck_h rfl
set_option maxRecDepth 100000 in
set_option maxHeartbeats 4000000 in
theorem cC_8 {l : Launch} {D : va_G} {cI cW : ClassId} : cn_C l D cI cW "RivetedSisters$Wave" prog_11_method_1_code 1 { frames := 1, cells := 1, slots := 8, locals := 12 } 8 [.null, .int 0, .int 0] j_8 1 8 := by
  refine cn_met (o := 9) (idx := 3) cK_8 (by decide) rfl (by decide) cw_71 ⟨by decide, by decide⟩ dK9_0 dK9_1 ?_
  intro p e s m args below meth c A a ls X hin hr hlk hl hN
  obtain ⟨ad, had⟩ : ∃ z : Nat → Nat, z = fun _ => a := ⟨_, rfl⟩
  have hT : ad 0 = a := by rw [had]
  rw [← had] at hN
  clear had
  have hN : CNS D cI cW A s ad (.inr (.inr (8, [.null, .int 0, .int 0])) :: []) s.heap [] := hN
  refine cn_arr (k := 0) (n := 8) (x := nI 8) (pcA := 7) X hin hl hN hT cK_8.1 (by decide +kernel) rfl rfl (cK_8.2.2.1 0 (by decide)) (by decide) (nI_pos (by decide)) (nI_clamp (by decide)) (by decide) (Nat.le_of_ble_eq_true rfl) (Nat.le_of_ble_eq_true rfl) dK9_4 (fun st h => lv_bipush (v := nI 8) X.1 X.2.1 dK9_5 (by decide) h) dK9_7 dK9_9 (fun ad H locs hT hN => ?_)
  have hN : CNS D cI cW A s ad (.inr (.inr (8, [.ref 1, .int 0, .int 0])) :: ([.inl (8, fun _ => 0)])) H locs := hN
  refine cn_cst (k := 1) (v := .int (nI 0)) (pcA := 14) X hl hN hT cK_8.1 (by decide +kernel) rfl rfl (cK_8.2.2.1 1 (by decide)) (by decide) (by decide) (by decide) trivial dK9_12 (fun st h => lv_iconst (v := nI 0) X.1 X.2.1 dK9_13 (by decide) h) dK9_14 (fun H locs hN => ?_)
  have hN : CNS D cI cW A s ad (.inr (.inr (8, [.ref 1, .int (nI 0), .int 0])) :: ([.inl (8, fun _ => 0)])) H locs := hN
  refine cn_cst (k := 2) (v := .int (nI 0)) (pcA := 19) X hl hN hT cK_8.1 (by decide +kernel) rfl rfl (cK_8.2.2.1 2 (by decide)) (by decide) (by decide) (by decide) trivial dK9_17 (fun st h => lv_iconst (v := nI 0) X.1 X.2.1 dK9_18 (by decide) h) dK9_19 (fun H locs hN => ?_)
  have hN : CNS D cI cW A s ad (.inr (.inr (8, [.ref 1, .int (nI 0), .int (nI 0)])) :: ([.inl (8, fun _ => 0)])) H locs := hN
  exact cn_ret X hr hlk hN hT (Nat.le_of_ble_eq_true rfl) (Nat.le_of_ble_eq_true rfl) dK9_22
def j_9 : AH := .inr (.inr (9, [.int (nI 0), .int (nI 0), .int (nI 0), .int (nI 0), .ref 1, .ref 2, .ref 3, .ref 4, .ref 5])) :: ([.inl (8, fun _ => 0)] ++ [.inl (8, fun _ => 0)] ++ [.inl (8, fun _ => 0)] ++ [.inl (8, fun _ => 0)] ++ [.inl (8, fun _ => 0)])
theorem cJ_9 : cl_h j_9.length j_9 := cl_ck_h rfl
set_option maxRecDepth 100000 in
set_option maxHeartbeats 4000000 in
theorem cC_9 {l : Launch} {D : va_G} {cI cW : ClassId} : cn_C l D cI cW "RivetedSisters$Wire" prog_12_method_1_code 1 { frames := 1, cells := 5, slots := 40, locals := 12 } 9 [.int 0, .int 0, .int 0, .int 0, .null, .null, .null, .null, .null] j_9 5 40 := by
  refine cn_met (o := 10) (idx := 3) cK_9 (by decide) rfl (by decide) cw_72 ⟨by decide, by decide⟩ dK10_0 dK10_1 ?_
  intro p e s m args below meth c A a ls X hin hr hlk hl hN
  obtain ⟨ad, had⟩ : ∃ z : Nat → Nat, z = fun _ => a := ⟨_, rfl⟩
  have hT : ad 0 = a := by rw [had]
  rw [← had] at hN
  clear had
  have hN : CNS D cI cW A s ad (.inr (.inr (9, [.int 0, .int 0, .int 0, .int 0, .null, .null, .null, .null, .null])) :: []) s.heap [] := hN
  refine cn_cst (k := 0) (v := .int (nI 0)) (pcA := 6) X hl hN hT cK_9.1 (by decide +kernel) rfl rfl (cK_9.2.2.1 0 (by decide)) (by decide) (by decide) (by decide) trivial dK10_4 (fun st h => lv_iconst (v := nI 0) X.1 X.2.1 dK10_5 (by decide) h) dK10_6 (fun H locs hN => ?_)
  have hN : CNS D cI cW A s ad (.inr (.inr (9, [.int (nI 0), .int 0, .int 0, .int 0, .null, .null, .null, .null, .null])) :: ([])) H locs := hN
  refine cn_cst (k := 1) (v := .int (nI 0)) (pcA := 11) X hl hN hT cK_9.1 (by decide +kernel) rfl rfl (cK_9.2.2.1 1 (by decide)) (by decide) (by decide) (by decide) trivial dK10_9 (fun st h => lv_iconst (v := nI 0) X.1 X.2.1 dK10_10 (by decide) h) dK10_11 (fun H locs hN => ?_)
  have hN : CNS D cI cW A s ad (.inr (.inr (9, [.int (nI 0), .int (nI 0), .int 0, .int 0, .null, .null, .null, .null, .null])) :: ([])) H locs := hN
  refine cn_cst (k := 2) (v := .int (nI 0)) (pcA := 16) X hl hN hT cK_9.1 (by decide +kernel) rfl rfl (cK_9.2.2.1 2 (by decide)) (by decide) (by decide) (by decide) trivial dK10_14 (fun st h => lv_iconst (v := nI 0) X.1 X.2.1 dK10_15 (by decide) h) dK10_16 (fun H locs hN => ?_)
  have hN : CNS D cI cW A s ad (.inr (.inr (9, [.int (nI 0), .int (nI 0), .int (nI 0), .int 0, .null, .null, .null, .null, .null])) :: ([])) H locs := hN
  refine cn_cst (k := 3) (v := .int (nI 0)) (pcA := 21) X hl hN hT cK_9.1 (by decide +kernel) rfl rfl (cK_9.2.2.1 3 (by decide)) (by decide) (by decide) (by decide) trivial dK10_19 (fun st h => lv_iconst (v := nI 0) X.1 X.2.1 dK10_20 (by decide) h) dK10_21 (fun H locs hN => ?_)
  have hN : CNS D cI cW A s ad (.inr (.inr (9, [.int (nI 0), .int (nI 0), .int (nI 0), .int (nI 0), .null, .null, .null, .null, .null])) :: ([])) H locs := hN
  refine cn_arr (k := 4) (n := 8) (x := nI 8) (pcA := 27) X hin hl hN hT cK_9.1 (by decide +kernel) rfl rfl (cK_9.2.2.1 4 (by decide)) (by decide) (nI_pos (by decide)) (nI_clamp (by decide)) (by decide) (Nat.le_of_ble_eq_true rfl) (Nat.le_of_ble_eq_true rfl) dK10_24 (fun st h => lv_bipush (v := nI 8) X.1 X.2.1 dK10_25 (by decide) h) dK10_27 dK10_29 (fun ad H locs hT hN => ?_)
  have hN : CNS D cI cW A s ad (.inr (.inr (9, [.int (nI 0), .int (nI 0), .int (nI 0), .int (nI 0), .ref 1, .null, .null, .null, .null])) :: ([.inl (8, fun _ => 0)])) H locs := hN
  refine cn_arr (k := 5) (n := 8) (x := nI 8) (pcA := 35) X hin hl hN hT cK_9.1 (by decide +kernel) rfl rfl (cK_9.2.2.1 5 (by decide)) (by decide) (nI_pos (by decide)) (nI_clamp (by decide)) (by decide) (Nat.le_of_ble_eq_true rfl) (Nat.le_of_ble_eq_true rfl) dK10_32 (fun st h => lv_bipush (v := nI 8) X.1 X.2.1 dK10_33 (by decide) h) dK10_35 dK10_37 (fun ad H locs hT hN => ?_)
  have hN : CNS D cI cW A s ad (.inr (.inr (9, [.int (nI 0), .int (nI 0), .int (nI 0), .int (nI 0), .ref 1, .ref 2, .null, .null, .null])) :: ([.inl (8, fun _ => 0)] ++ [.inl (8, fun _ => 0)])) H locs := hN
  refine cn_arr (k := 6) (n := 8) (x := nI 8) (pcA := 43) X hin hl hN hT cK_9.1 (by decide +kernel) rfl rfl (cK_9.2.2.1 6 (by decide)) (by decide) (nI_pos (by decide)) (nI_clamp (by decide)) (by decide) (Nat.le_of_ble_eq_true rfl) (Nat.le_of_ble_eq_true rfl) dK10_40 (fun st h => lv_bipush (v := nI 8) X.1 X.2.1 dK10_41 (by decide) h) dK10_43 dK10_45 (fun ad H locs hT hN => ?_)
  have hN : CNS D cI cW A s ad (.inr (.inr (9, [.int (nI 0), .int (nI 0), .int (nI 0), .int (nI 0), .ref 1, .ref 2, .ref 3, .null, .null])) :: ([.inl (8, fun _ => 0)] ++ [.inl (8, fun _ => 0)] ++ [.inl (8, fun _ => 0)])) H locs := hN
  refine cn_arr (k := 7) (n := 8) (x := nI 8) (pcA := 51) X hin hl hN hT cK_9.1 (by decide +kernel) rfl rfl (cK_9.2.2.1 7 (by decide)) (by decide) (nI_pos (by decide)) (nI_clamp (by decide)) (by decide) (Nat.le_of_ble_eq_true rfl) (Nat.le_of_ble_eq_true rfl) dK10_48 (fun st h => lv_bipush (v := nI 8) X.1 X.2.1 dK10_49 (by decide) h) dK10_51 dK10_53 (fun ad H locs hT hN => ?_)
  have hN : CNS D cI cW A s ad (.inr (.inr (9, [.int (nI 0), .int (nI 0), .int (nI 0), .int (nI 0), .ref 1, .ref 2, .ref 3, .ref 4, .null])) :: ([.inl (8, fun _ => 0)] ++ [.inl (8, fun _ => 0)] ++ [.inl (8, fun _ => 0)] ++ [.inl (8, fun _ => 0)])) H locs := hN
  refine cn_arr (k := 8) (n := 8) (x := nI 8) (pcA := 59) X hin hl hN hT cK_9.1 (by decide +kernel) rfl rfl (cK_9.2.2.1 8 (by decide)) (by decide) (nI_pos (by decide)) (nI_clamp (by decide)) (by decide) (Nat.le_of_ble_eq_true rfl) (Nat.le_of_ble_eq_true rfl) dK10_56 (fun st h => lv_bipush (v := nI 8) X.1 X.2.1 dK10_57 (by decide) h) dK10_59 dK10_61 (fun ad H locs hT hN => ?_)
  have hN : CNS D cI cW A s ad (.inr (.inr (9, [.int (nI 0), .int (nI 0), .int (nI 0), .int (nI 0), .ref 1, .ref 2, .ref 3, .ref 4, .ref 5])) :: ([.inl (8, fun _ => 0)] ++ [.inl (8, fun _ => 0)] ++ [.inl (8, fun _ => 0)] ++ [.inl (8, fun _ => 0)] ++ [.inl (8, fun _ => 0)])) H locs := hN
  exact cn_ret X hr hlk hN hT (Nat.le_of_ble_eq_true rfl) (Nat.le_of_ble_eq_true rfl) dK10_64
def j_6 : AH := .inr (.inr (6, [.ref 1, .int (nI 0)])) :: ([.inl (12, fun _ => 0)])
theorem cJ_6 : cl_h j_6.length j_6 := cl_ck_h rfl
set_option maxRecDepth 100000 in
set_option maxHeartbeats 4000000 in
theorem cC_6 {l : Launch} {D : va_G} {cI cW : ClassId} : cn_C l D cI cW "RivetedSisters$Row" prog_9_method_1_code 1 { frames := 1, cells := 1, slots := 12, locals := 12 } 6 [.null, .int 0] j_6 1 12 := by
  refine cn_met (o := 7) (idx := 3) cK_6 (by decide) rfl (by decide) cw_73 ⟨by decide, by decide⟩ dK7_0 dK7_1 ?_
  intro p e s m args below meth c A a ls X hin hr hlk hl hN
  obtain ⟨ad, had⟩ : ∃ z : Nat → Nat, z = fun _ => a := ⟨_, rfl⟩
  have hT : ad 0 = a := by rw [had]
  rw [← had] at hN
  clear had
  have hN : CNS D cI cW A s ad (.inr (.inr (6, [.null, .int 0])) :: []) s.heap [] := hN
  refine cn_arr (k := 0) (n := 12) (x := nI 12) (pcA := 7) X hin hl hN hT cK_6.1 (by decide +kernel) rfl rfl (cK_6.2.2.1 0 (by decide)) (by decide) (nI_pos (by decide)) (nI_clamp (by decide)) (by decide) (Nat.le_of_ble_eq_true rfl) (Nat.le_of_ble_eq_true rfl) dK7_4 (fun st h => lv_bipush (v := nI 12) X.1 X.2.1 dK7_5 (by decide) h) dK7_7 dK7_9 (fun ad H locs hT hN => ?_)
  have hN : CNS D cI cW A s ad (.inr (.inr (6, [.ref 1, .int 0])) :: ([.inl (12, fun _ => 0)])) H locs := hN
  refine cn_cst (k := 1) (v := .int (nI 0)) (pcA := 14) X hl hN hT cK_6.1 (by decide +kernel) rfl rfl (cK_6.2.2.1 1 (by decide)) (by decide) (by decide) (by decide) trivial dK7_12 (fun st h => lv_iconst (v := nI 0) X.1 X.2.1 dK7_13 (by decide) h) dK7_14 (fun H locs hN => ?_)
  have hN : CNS D cI cW A s ad (.inr (.inr (6, [.ref 1, .int (nI 0)])) :: ([.inl (12, fun _ => 0)])) H locs := hN
  exact cn_ret X hr hlk hN hT (Nat.le_of_ble_eq_true rfl) (Nat.le_of_ble_eq_true rfl) dK7_17
def j_1 : AH := .inr (.inr (1, [.ref 1, .ref 3, .ref 9, .int (nI 0), .int (Int32.ofInt (-9)), .int (nI 0)])) :: (j_8.map (am_rc (fun i => i + 1)) ++ j_9.map (am_rc (fun i => i + 3)) ++ j_0.map (am_rc (fun i => i + 9)))
theorem cJ_1 : cl_h j_1.length j_1 := cl_ck_h rfl
set_option maxRecDepth 100000 in
set_option maxHeartbeats 4000000 in
theorem cC_1 {l : Launch} {D : va_G} {cI cW : ClassId} : cn_C l D cI cW "RivetedSisters$Echoes" prog_3_method_1_code 1 { frames := 2, cells := 9, slots := 62, locals := 32 } 1 [.null, .null, .null, .int 0, .int 0, .int 0] j_1 9 62 := by
  refine cn_met (o := 1) (idx := 3) cK_1 (by decide) rfl (by decide) cw_74 ⟨by decide, by decide⟩ dK1_0 dK1_1 ?_
  intro p e s m args below meth c A a ls X hin hr hlk hl hN
  obtain ⟨ad, had⟩ : ∃ z : Nat → Nat, z = fun _ => a := ⟨_, rfl⟩
  have hT : ad 0 = a := by rw [had]
  rw [← had] at hN
  clear had
  have hN : CNS D cI cW A s ad (.inr (.inr (1, [.null, .null, .null, .int 0, .int 0, .int 0])) :: []) s.heap [] := hN
  refine cn_obj (k := 0) X hin hl hN hT cK_1.1 (by decide +kernel) rfl rfl (cK_1.2.2.1 0 (by decide)) (by decide) cK_8 cC_8 cJ_8 (by decide) ⟨rfl, rfl⟩ ⟨Nat.le_of_ble_eq_true rfl, Nat.le_of_ble_eq_true rfl⟩ (Nat.le_of_ble_eq_true rfl) (Nat.le_of_ble_eq_true rfl) cw_48 (Or.inr (by decide +kernel)) dK1_4 dK1_5 dK1_8 dK1_9 dK1_12 (fun ad H locs hT hN => ?_)
  have hN : CNS D cI cW A s ad (.inr (.inr (1, [.ref 1, .null, .null, .int 0, .int 0, .int 0])) :: (j_8.map (am_rc (fun i => i + 1)))) H locs := hN
  refine cn_obj (k := 1) X hin hl hN hT cK_1.1 (by decide +kernel) rfl rfl (cK_1.2.2.1 1 (by decide)) (by decide) cK_9 cC_9 cJ_9 (by decide) ⟨rfl, rfl⟩ ⟨Nat.le_of_ble_eq_true rfl, Nat.le_of_ble_eq_true rfl⟩ (Nat.le_of_ble_eq_true rfl) (Nat.le_of_ble_eq_true rfl) cw_49 (Or.inr (by decide +kernel)) dK1_15 dK1_16 dK1_19 dK1_20 dK1_23 (fun ad H locs hT hN => ?_)
  have hN : CNS D cI cW A s ad (.inr (.inr (1, [.ref 1, .ref 3, .null, .int 0, .int 0, .int 0])) :: (j_8.map (am_rc (fun i => i + 1)) ++ j_9.map (am_rc (fun i => i + 3)))) H locs := hN
  refine cn_obj (k := 2) X hin hl hN hT cK_1.1 (by decide +kernel) rfl rfl (cK_1.2.2.1 2 (by decide)) (by decide) cK_0 cC_0 cJ_0 (by decide) ⟨rfl, rfl⟩ ⟨Nat.le_of_ble_eq_true rfl, Nat.le_of_ble_eq_true rfl⟩ (Nat.le_of_ble_eq_true rfl) (Nat.le_of_ble_eq_true rfl) cw_50 (Or.inr (by decide +kernel)) dK1_26 dK1_27 dK1_30 dK1_31 dK1_34 (fun ad H locs hT hN => ?_)
  have hN : CNS D cI cW A s ad (.inr (.inr (1, [.ref 1, .ref 3, .ref 9, .int 0, .int 0, .int 0])) :: (j_8.map (am_rc (fun i => i + 1)) ++ j_9.map (am_rc (fun i => i + 3)) ++ j_0.map (am_rc (fun i => i + 9)))) H locs := hN
  refine cn_cst (k := 3) (v := .int (nI 0)) (pcA := 39) X hl hN hT cK_1.1 (by decide +kernel) rfl rfl (cK_1.2.2.1 3 (by decide)) (by decide) (by decide) (by decide) trivial dK1_37 (fun st h => lv_iconst (v := nI 0) X.1 X.2.1 dK1_38 (by decide) h) dK1_39 (fun H locs hN => ?_)
  have hN : CNS D cI cW A s ad (.inr (.inr (1, [.ref 1, .ref 3, .ref 9, .int (nI 0), .int 0, .int 0])) :: (j_8.map (am_rc (fun i => i + 1)) ++ j_9.map (am_rc (fun i => i + 3)) ++ j_0.map (am_rc (fun i => i + 9)))) H locs := hN
  refine cn_cst (k := 4) (v := .int (Int32.ofInt (-9))) (pcA := 45) X hl hN hT cK_1.1 (by decide +kernel) rfl rfl (cK_1.2.2.1 4 (by decide)) (by decide) (by decide) (by decide) trivial dK1_42 (fun st h => lv_bipush (v := Int32.ofInt (-9)) X.1 X.2.1 dK1_43 (by decide) h) dK1_45 (fun H locs hN => ?_)
  have hN : CNS D cI cW A s ad (.inr (.inr (1, [.ref 1, .ref 3, .ref 9, .int (nI 0), .int (Int32.ofInt (-9)), .int 0])) :: (j_8.map (am_rc (fun i => i + 1)) ++ j_9.map (am_rc (fun i => i + 3)) ++ j_0.map (am_rc (fun i => i + 9)))) H locs := hN
  refine cn_cst (k := 5) (v := .int (nI 0)) (pcA := 50) X hl hN hT cK_1.1 (by decide +kernel) rfl rfl (cK_1.2.2.1 5 (by decide)) (by decide) (by decide) (by decide) trivial dK1_48 (fun st h => lv_iconst (v := nI 0) X.1 X.2.1 dK1_49 (by decide) h) dK1_50 (fun H locs hN => ?_)
  have hN : CNS D cI cW A s ad (.inr (.inr (1, [.ref 1, .ref 3, .ref 9, .int (nI 0), .int (Int32.ofInt (-9)), .int (nI 0)])) :: (j_8.map (am_rc (fun i => i + 1)) ++ j_9.map (am_rc (fun i => i + 3)) ++ j_0.map (am_rc (fun i => i + 9)))) H locs := hN
  exact cn_ret X hr hlk hN hT (Nat.le_of_ble_eq_true rfl) (Nat.le_of_ble_eq_true rfl) dK1_53
def j_5 : AH := .inr (.inr (5, [.ref 1, .ref 3, .ref 9, .ref 10, .ref 11])) :: (j_8.map (am_rc (fun i => i + 1)) ++ j_9.map (am_rc (fun i => i + 3)) ++ j_0.map (am_rc (fun i => i + 9)) ++ [.inl (8, fun _ => 0)] ++ [.inl (64, fun _ => 0)])
theorem cJ_5 : cl_h j_5.length j_5 := cl_ck_h rfl
set_option maxRecDepth 100000 in
set_option maxHeartbeats 4000000 in
theorem cC_5 {l : Launch} {D : va_G} {cI cW : ClassId} : cn_C l D cI cW "RivetedSisters$Plans" prog_8_method_1_code 1 { frames := 2, cells := 11, slots := 134, locals := 32 } 5 [.null, .null, .null, .null, .null] j_5 11 134 := by
  refine cn_met (o := 6) (idx := 3) cK_5 (by decide) rfl (by decide) cw_75 ⟨by decide, by decide⟩ dK6_0 dK6_1 ?_
  intro p e s m args below meth c A a ls X hin hr hlk hl hN
  obtain ⟨ad, had⟩ : ∃ z : Nat → Nat, z = fun _ => a := ⟨_, rfl⟩
  have hT : ad 0 = a := by rw [had]
  rw [← had] at hN
  clear had
  have hN : CNS D cI cW A s ad (.inr (.inr (5, [.null, .null, .null, .null, .null])) :: []) s.heap [] := hN
  refine cn_obj (k := 0) X hin hl hN hT cK_5.1 (by decide +kernel) rfl rfl (cK_5.2.2.1 0 (by decide)) (by decide) cK_8 cC_8 cJ_8 (by decide) ⟨rfl, rfl⟩ ⟨Nat.le_of_ble_eq_true rfl, Nat.le_of_ble_eq_true rfl⟩ (Nat.le_of_ble_eq_true rfl) (Nat.le_of_ble_eq_true rfl) cw_51 (Or.inr (by decide +kernel)) dK6_4 dK6_5 dK6_8 dK6_9 dK6_12 (fun ad H locs hT hN => ?_)
  have hN : CNS D cI cW A s ad (.inr (.inr (5, [.ref 1, .null, .null, .null, .null])) :: (j_8.map (am_rc (fun i => i + 1)))) H locs := hN
  refine cn_obj (k := 1) X hin hl hN hT cK_5.1 (by decide +kernel) rfl rfl (cK_5.2.2.1 1 (by decide)) (by decide) cK_9 cC_9 cJ_9 (by decide) ⟨rfl, rfl⟩ ⟨Nat.le_of_ble_eq_true rfl, Nat.le_of_ble_eq_true rfl⟩ (Nat.le_of_ble_eq_true rfl) (Nat.le_of_ble_eq_true rfl) cw_52 (Or.inr (by decide +kernel)) dK6_15 dK6_16 dK6_19 dK6_20 dK6_23 (fun ad H locs hT hN => ?_)
  have hN : CNS D cI cW A s ad (.inr (.inr (5, [.ref 1, .ref 3, .null, .null, .null])) :: (j_8.map (am_rc (fun i => i + 1)) ++ j_9.map (am_rc (fun i => i + 3)))) H locs := hN
  refine cn_obj (k := 2) X hin hl hN hT cK_5.1 (by decide +kernel) rfl rfl (cK_5.2.2.1 2 (by decide)) (by decide) cK_0 cC_0 cJ_0 (by decide) ⟨rfl, rfl⟩ ⟨Nat.le_of_ble_eq_true rfl, Nat.le_of_ble_eq_true rfl⟩ (Nat.le_of_ble_eq_true rfl) (Nat.le_of_ble_eq_true rfl) cw_53 (Or.inr (by decide +kernel)) dK6_26 dK6_27 dK6_30 dK6_31 dK6_34 (fun ad H locs hT hN => ?_)
  have hN : CNS D cI cW A s ad (.inr (.inr (5, [.ref 1, .ref 3, .ref 9, .null, .null])) :: (j_8.map (am_rc (fun i => i + 1)) ++ j_9.map (am_rc (fun i => i + 3)) ++ j_0.map (am_rc (fun i => i + 9)))) H locs := hN
  refine cn_arr (k := 3) (n := 8) (x := nI 8) (pcA := 40) X hin hl hN hT cK_5.1 (by decide +kernel) rfl rfl (cK_5.2.2.1 3 (by decide)) (by decide) (nI_pos (by decide)) (nI_clamp (by decide)) (by decide) (Nat.le_of_ble_eq_true rfl) (Nat.le_of_ble_eq_true rfl) dK6_37 (fun st h => lv_bipush (v := nI 8) X.1 X.2.1 dK6_38 (by decide) h) dK6_40 dK6_42 (fun ad H locs hT hN => ?_)
  have hN : CNS D cI cW A s ad (.inr (.inr (5, [.ref 1, .ref 3, .ref 9, .ref 10, .null])) :: (j_8.map (am_rc (fun i => i + 1)) ++ j_9.map (am_rc (fun i => i + 3)) ++ j_0.map (am_rc (fun i => i + 9)) ++ [.inl (8, fun _ => 0)])) H locs := hN
  refine cn_arr (k := 4) (n := 64) (x := nI 64) (pcA := 48) X hin hl hN hT cK_5.1 (by decide +kernel) rfl rfl (cK_5.2.2.1 4 (by decide)) (by decide) (nI_pos (by decide)) (nI_clamp (by decide)) (by decide) (Nat.le_of_ble_eq_true rfl) (Nat.le_of_ble_eq_true rfl) dK6_45 (fun st h => lv_bipush (v := nI 64) X.1 X.2.1 dK6_46 (by decide) h) dK6_48 dK6_50 (fun ad H locs hT hN => ?_)
  have hN : CNS D cI cW A s ad (.inr (.inr (5, [.ref 1, .ref 3, .ref 9, .ref 10, .ref 11])) :: (j_8.map (am_rc (fun i => i + 1)) ++ j_9.map (am_rc (fun i => i + 3)) ++ j_0.map (am_rc (fun i => i + 9)) ++ [.inl (8, fun _ => 0)] ++ [.inl (64, fun _ => 0)])) H locs := hN
  exact cn_ret X hr hlk hN hT (Nat.le_of_ble_eq_true rfl) (Nat.le_of_ble_eq_true rfl) dK6_53
def j_3 : AH := .inr (.inr (3, [.ref 1, .ref 3, .ref 9, .ref 10])) :: (j_8.map (am_rc (fun i => i + 1)) ++ j_9.map (am_rc (fun i => i + 3)) ++ [.inl (8, fun _ => 0)] ++ [.inl (8, fun _ => 0)])
theorem cJ_3 : cl_h j_3.length j_3 := cl_ck_h rfl
set_option maxRecDepth 100000 in
set_option maxHeartbeats 4000000 in
theorem cC_3 {l : Launch} {D : va_G} {cI cW : ClassId} : cn_C l D cI cW "RivetedSisters$Orders" prog_6_method_1_code 1 { frames := 2, cells := 10, slots := 76, locals := 32 } 3 [.null, .null, .null, .null] j_3 10 76 := by
  refine cn_met (o := 4) (idx := 3) cK_3 (by decide) rfl (by decide) cw_76 ⟨by decide, by decide⟩ dK4_0 dK4_1 ?_
  intro p e s m args below meth c A a ls X hin hr hlk hl hN
  obtain ⟨ad, had⟩ : ∃ z : Nat → Nat, z = fun _ => a := ⟨_, rfl⟩
  have hT : ad 0 = a := by rw [had]
  rw [← had] at hN
  clear had
  have hN : CNS D cI cW A s ad (.inr (.inr (3, [.null, .null, .null, .null])) :: []) s.heap [] := hN
  refine cn_obj (k := 0) X hin hl hN hT cK_3.1 (by decide +kernel) rfl rfl (cK_3.2.2.1 0 (by decide)) (by decide) cK_8 cC_8 cJ_8 (by decide) ⟨rfl, rfl⟩ ⟨Nat.le_of_ble_eq_true rfl, Nat.le_of_ble_eq_true rfl⟩ (Nat.le_of_ble_eq_true rfl) (Nat.le_of_ble_eq_true rfl) cw_54 (Or.inr (by decide +kernel)) dK4_4 dK4_5 dK4_8 dK4_9 dK4_12 (fun ad H locs hT hN => ?_)
  have hN : CNS D cI cW A s ad (.inr (.inr (3, [.ref 1, .null, .null, .null])) :: (j_8.map (am_rc (fun i => i + 1)))) H locs := hN
  refine cn_obj (k := 1) X hin hl hN hT cK_3.1 (by decide +kernel) rfl rfl (cK_3.2.2.1 1 (by decide)) (by decide) cK_9 cC_9 cJ_9 (by decide) ⟨rfl, rfl⟩ ⟨Nat.le_of_ble_eq_true rfl, Nat.le_of_ble_eq_true rfl⟩ (Nat.le_of_ble_eq_true rfl) (Nat.le_of_ble_eq_true rfl) cw_55 (Or.inr (by decide +kernel)) dK4_15 dK4_16 dK4_19 dK4_20 dK4_23 (fun ad H locs hT hN => ?_)
  have hN : CNS D cI cW A s ad (.inr (.inr (3, [.ref 1, .ref 3, .null, .null])) :: (j_8.map (am_rc (fun i => i + 1)) ++ j_9.map (am_rc (fun i => i + 3)))) H locs := hN
  refine cn_arr (k := 2) (n := 8) (x := nI 8) (pcA := 29) X hin hl hN hT cK_3.1 (by decide +kernel) rfl rfl (cK_3.2.2.1 2 (by decide)) (by decide) (nI_pos (by decide)) (nI_clamp (by decide)) (by decide) (Nat.le_of_ble_eq_true rfl) (Nat.le_of_ble_eq_true rfl) dK4_26 (fun st h => lv_bipush (v := nI 8) X.1 X.2.1 dK4_27 (by decide) h) dK4_29 dK4_31 (fun ad H locs hT hN => ?_)
  have hN : CNS D cI cW A s ad (.inr (.inr (3, [.ref 1, .ref 3, .ref 9, .null])) :: (j_8.map (am_rc (fun i => i + 1)) ++ j_9.map (am_rc (fun i => i + 3)) ++ [.inl (8, fun _ => 0)])) H locs := hN
  refine cn_arr (k := 3) (n := 8) (x := nI 8) (pcA := 37) X hin hl hN hT cK_3.1 (by decide +kernel) rfl rfl (cK_3.2.2.1 3 (by decide)) (by decide) (nI_pos (by decide)) (nI_clamp (by decide)) (by decide) (Nat.le_of_ble_eq_true rfl) (Nat.le_of_ble_eq_true rfl) dK4_34 (fun st h => lv_bipush (v := nI 8) X.1 X.2.1 dK4_35 (by decide) h) dK4_37 dK4_39 (fun ad H locs hT hN => ?_)
  have hN : CNS D cI cW A s ad (.inr (.inr (3, [.ref 1, .ref 3, .ref 9, .ref 10])) :: (j_8.map (am_rc (fun i => i + 1)) ++ j_9.map (am_rc (fun i => i + 3)) ++ [.inl (8, fun _ => 0)] ++ [.inl (8, fun _ => 0)])) H locs := hN
  exact cn_ret X hr hlk hN hT (Nat.le_of_ble_eq_true rfl) (Nat.le_of_ble_eq_true rfl) dK4_42
def j_2 : AH := .inr (.inr (2, [.ref 1, .ref 3, .int (nI 0), .long (Int64.ofNat 0), .long (Int64.ofNat 1), .int (nI 0), .int (nI 0)])) :: (j_8.map (am_rc (fun i => i + 1)) ++ j_9.map (am_rc (fun i => i + 3)))
theorem cJ_2 : cl_h j_2.length j_2 := cl_ck_h rfl
set_option maxRecDepth 100000 in
set_option maxHeartbeats 4000000 in
theorem cC_2 {l : Launch} {D : va_G} {cI cW : ClassId} : cn_C l D cI cW "RivetedSisters$Futures" prog_4_method_1_code 1 { frames := 2, cells := 8, slots := 60, locals := 32 } 2 [.null, .null, .int 0, .long 0, .long 0, .int 0, .int 0] j_2 8 60 := by
  refine cn_met (o := 2) (idx := 3) cK_2 (by decide) rfl (by decide) cw_77 ⟨by decide, by decide⟩ dK2_0 dK2_1 ?_
  intro p e s m args below meth c A a ls X hin hr hlk hl hN
  obtain ⟨ad, had⟩ : ∃ z : Nat → Nat, z = fun _ => a := ⟨_, rfl⟩
  have hT : ad 0 = a := by rw [had]
  rw [← had] at hN
  clear had
  have hN : CNS D cI cW A s ad (.inr (.inr (2, [.null, .null, .int 0, .long 0, .long 0, .int 0, .int 0])) :: []) s.heap [] := hN
  refine cn_obj (k := 0) X hin hl hN hT cK_2.1 (by decide +kernel) rfl rfl (cK_2.2.2.1 0 (by decide)) (by decide) cK_8 cC_8 cJ_8 (by decide) ⟨rfl, rfl⟩ ⟨Nat.le_of_ble_eq_true rfl, Nat.le_of_ble_eq_true rfl⟩ (Nat.le_of_ble_eq_true rfl) (Nat.le_of_ble_eq_true rfl) cw_56 (Or.inr (by decide +kernel)) dK2_4 dK2_5 dK2_8 dK2_9 dK2_12 (fun ad H locs hT hN => ?_)
  have hN : CNS D cI cW A s ad (.inr (.inr (2, [.ref 1, .null, .int 0, .long 0, .long 0, .int 0, .int 0])) :: (j_8.map (am_rc (fun i => i + 1)))) H locs := hN
  refine cn_obj (k := 1) X hin hl hN hT cK_2.1 (by decide +kernel) rfl rfl (cK_2.2.2.1 1 (by decide)) (by decide) cK_9 cC_9 cJ_9 (by decide) ⟨rfl, rfl⟩ ⟨Nat.le_of_ble_eq_true rfl, Nat.le_of_ble_eq_true rfl⟩ (Nat.le_of_ble_eq_true rfl) (Nat.le_of_ble_eq_true rfl) cw_57 (Or.inr (by decide +kernel)) dK2_15 dK2_16 dK2_19 dK2_20 dK2_23 (fun ad H locs hT hN => ?_)
  have hN : CNS D cI cW A s ad (.inr (.inr (2, [.ref 1, .ref 3, .int 0, .long 0, .long 0, .int 0, .int 0])) :: (j_8.map (am_rc (fun i => i + 1)) ++ j_9.map (am_rc (fun i => i + 3)))) H locs := hN
  refine cn_cst (k := 2) (v := .int (nI 0)) (pcA := 28) X hl hN hT cK_2.1 (by decide +kernel) rfl rfl (cK_2.2.2.1 2 (by decide)) (by decide) (by decide) (by decide) trivial dK2_26 (fun st h => lv_iconst (v := nI 0) X.1 X.2.1 dK2_27 (by decide) h) dK2_28 (fun H locs hN => ?_)
  have hN : CNS D cI cW A s ad (.inr (.inr (2, [.ref 1, .ref 3, .int (nI 0), .long 0, .long 0, .int 0, .int 0])) :: (j_8.map (am_rc (fun i => i + 1)) ++ j_9.map (am_rc (fun i => i + 3)))) H locs := hN
  refine cn_cst (k := 3) (v := .long (Int64.ofNat 0)) (pcA := 33) X hl hN hT cK_2.1 (by decide +kernel) rfl rfl (cK_2.2.2.1 3 (by decide)) (by decide) (by decide) (by decide) trivial dK2_31 (fun st h => lv_lconst (v := Int64.ofNat 0) X.1 X.2.1 dK2_32 rfl h) dK2_33 (fun H locs hN => ?_)
  have hN : CNS D cI cW A s ad (.inr (.inr (2, [.ref 1, .ref 3, .int (nI 0), .long (Int64.ofNat 0), .long 0, .int 0, .int 0])) :: (j_8.map (am_rc (fun i => i + 1)) ++ j_9.map (am_rc (fun i => i + 3)))) H locs := hN
  refine cn_cst (k := 4) (v := .long (Int64.ofNat 1)) (pcA := 38) X hl hN hT cK_2.1 (by decide +kernel) rfl rfl (cK_2.2.2.1 4 (by decide)) (by decide) (by decide) (by decide) trivial dK2_36 (fun st h => lv_lconst (v := Int64.ofNat 1) X.1 X.2.1 dK2_37 rfl h) dK2_38 (fun H locs hN => ?_)
  have hN : CNS D cI cW A s ad (.inr (.inr (2, [.ref 1, .ref 3, .int (nI 0), .long (Int64.ofNat 0), .long (Int64.ofNat 1), .int 0, .int 0])) :: (j_8.map (am_rc (fun i => i + 1)) ++ j_9.map (am_rc (fun i => i + 3)))) H locs := hN
  refine cn_cst (k := 5) (v := .int (nI 0)) (pcA := 43) X hl hN hT cK_2.1 (by decide +kernel) rfl rfl (cK_2.2.2.1 5 (by decide)) (by decide) (by decide) (by decide) trivial dK2_41 (fun st h => lv_iconst (v := nI 0) X.1 X.2.1 dK2_42 (by decide) h) dK2_43 (fun H locs hN => ?_)
  have hN : CNS D cI cW A s ad (.inr (.inr (2, [.ref 1, .ref 3, .int (nI 0), .long (Int64.ofNat 0), .long (Int64.ofNat 1), .int (nI 0), .int 0])) :: (j_8.map (am_rc (fun i => i + 1)) ++ j_9.map (am_rc (fun i => i + 3)))) H locs := hN
  refine cn_cst (k := 6) (v := .int (nI 0)) (pcA := 48) X hl hN hT cK_2.1 (by decide +kernel) rfl rfl (cK_2.2.2.1 6 (by decide)) (by decide) (by decide) (by decide) trivial dK2_46 (fun st h => lv_iconst (v := nI 0) X.1 X.2.1 dK2_47 (by decide) h) dK2_48 (fun H locs hN => ?_)
  have hN : CNS D cI cW A s ad (.inr (.inr (2, [.ref 1, .ref 3, .int (nI 0), .long (Int64.ofNat 0), .long (Int64.ofNat 1), .int (nI 0), .int (nI 0)])) :: (j_8.map (am_rc (fun i => i + 1)) ++ j_9.map (am_rc (fun i => i + 3)))) H locs := hN
  exact cn_ret X hr hlk hN hT (Nat.le_of_ble_eq_true rfl) (Nat.le_of_ble_eq_true rfl) dK2_51
def j_7 : AH := .inr (.inr (7, [.ref 1, .ref 2, .ref 8, .int (nI 0)])) :: ([.inl (96, fun _ => 0)] ++ j_9.map (am_rc (fun i => i + 2)) ++ j_8.map (am_rc (fun i => i + 8)))
theorem cJ_7 : cl_h j_7.length j_7 := cl_ck_h rfl
set_option maxRecDepth 100000 in
set_option maxHeartbeats 4000000 in
theorem cC_7 {l : Launch} {D : va_G} {cI cW : ClassId} : cn_C l D cI cW "RivetedSisters$Valley" prog_10_method_1_code 1 { frames := 2, cells := 9, slots := 156, locals := 32 } 7 [.null, .null, .null, .int 0] j_7 9 156 := by
  refine cn_met (o := 8) (idx := 3) cK_7 (by decide) rfl (by decide) cw_78 ⟨by decide, by decide⟩ dK8_0 dK8_1 ?_
  intro p e s m args below meth c A a ls X hin hr hlk hl hN
  obtain ⟨ad, had⟩ : ∃ z : Nat → Nat, z = fun _ => a := ⟨_, rfl⟩
  have hT : ad 0 = a := by rw [had]
  rw [← had] at hN
  clear had
  have hN : CNS D cI cW A s ad (.inr (.inr (7, [.null, .null, .null, .int 0])) :: []) s.heap [] := hN
  refine cn_arr (k := 0) (n := 96) (x := nI 96) (pcA := 7) X hin hl hN hT cK_7.1 (by decide +kernel) rfl rfl (cK_7.2.2.1 0 (by decide)) (by decide) (nI_pos (by decide)) (nI_clamp (by decide)) (by decide) (Nat.le_of_ble_eq_true rfl) (Nat.le_of_ble_eq_true rfl) dK8_4 (fun st h => lv_bipush (v := nI 96) X.1 X.2.1 dK8_5 (by decide) h) dK8_7 dK8_9 (fun ad H locs hT hN => ?_)
  have hN : CNS D cI cW A s ad (.inr (.inr (7, [.ref 1, .null, .null, .int 0])) :: ([.inl (96, fun _ => 0)])) H locs := hN
  refine cn_obj (k := 1) X hin hl hN hT cK_7.1 (by decide +kernel) rfl rfl (cK_7.2.2.1 1 (by decide)) (by decide) cK_9 cC_9 cJ_9 (by decide) ⟨rfl, rfl⟩ ⟨Nat.le_of_ble_eq_true rfl, Nat.le_of_ble_eq_true rfl⟩ (Nat.le_of_ble_eq_true rfl) (Nat.le_of_ble_eq_true rfl) cw_58 (Or.inr (by decide +kernel)) dK8_12 dK8_13 dK8_16 dK8_17 dK8_20 (fun ad H locs hT hN => ?_)
  have hN : CNS D cI cW A s ad (.inr (.inr (7, [.ref 1, .ref 2, .null, .int 0])) :: ([.inl (96, fun _ => 0)] ++ j_9.map (am_rc (fun i => i + 2)))) H locs := hN
  refine cn_obj (k := 2) X hin hl hN hT cK_7.1 (by decide +kernel) rfl rfl (cK_7.2.2.1 2 (by decide)) (by decide) cK_8 cC_8 cJ_8 (by decide) ⟨rfl, rfl⟩ ⟨Nat.le_of_ble_eq_true rfl, Nat.le_of_ble_eq_true rfl⟩ (Nat.le_of_ble_eq_true rfl) (Nat.le_of_ble_eq_true rfl) cw_59 (Or.inr (by decide +kernel)) dK8_23 dK8_24 dK8_27 dK8_28 dK8_31 (fun ad H locs hT hN => ?_)
  have hN : CNS D cI cW A s ad (.inr (.inr (7, [.ref 1, .ref 2, .ref 8, .int 0])) :: ([.inl (96, fun _ => 0)] ++ j_9.map (am_rc (fun i => i + 2)) ++ j_8.map (am_rc (fun i => i + 8)))) H locs := hN
  refine cn_cst (k := 3) (v := .int (nI 0)) (pcA := 36) X hl hN hT cK_7.1 (by decide +kernel) rfl rfl (cK_7.2.2.1 3 (by decide)) (by decide) (by decide) (by decide) trivial dK8_34 (fun st h => lv_iconst (v := nI 0) X.1 X.2.1 dK8_35 (by decide) h) dK8_36 (fun H locs hN => ?_)
  have hN : CNS D cI cW A s ad (.inr (.inr (7, [.ref 1, .ref 2, .ref 8, .int (nI 0)])) :: ([.inl (96, fun _ => 0)] ++ j_9.map (am_rc (fun i => i + 2)) ++ j_8.map (am_rc (fun i => i + 8)))) H locs := hN
  exact cn_ret X hr hlk hN hT (Nat.le_of_ble_eq_true rfl) (Nat.le_of_ble_eq_true rfl) dK8_39
