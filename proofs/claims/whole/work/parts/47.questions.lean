/-! SPECS: the object's questions -/
theorem c_gets {a : Ab} {x v y c : Int32} {H : AH} (hI : Inv a) (hC : CR a H)  {K : Option Value → AH → Prop} (hK : ∀ H2, CR (qB a (fFirst (fFirst (fFirst (fNoTh ((a.1 0).1 0) x) (fNoTh ((a.1 0).1 0) y)) (fNoBlow v)) (fUnk c (nI 1)))) H2 → K (some (.int (qA (fFirst (fFirst (fFirst (fNoTh ((a.1 0).1 0) x) (fNoTh ((a.1 0).1 0) y)) (fNoBlow v)) (fUnk c (nI 1))) (if c = 0 then (blw (a.1 0) (nO (a.1 0)) ((plW (a.1 0)) x.toNatClampNeg) v).1 y.toNatClampNeg else fJump ((a.1 0).2 0 y.toNatClampNeg) ((blw (a.1 0) (nO (a.1 0)) ((plW (a.1 0)) x.toNatClampNeg) v).1 y.toNatClampNeg))))) H2) : am_M i_X11_gets [.ref 0, .int x, .int v, .int y, .int c] H K := by
  obtain ⟨W, S, A, I, B, L, rfl, hX⟩ := hC
  have e0 : W 0 = a.1 0 := hX.1
  have e1 : I 1 = nI (a.2.2 1) := hX.2.2.2.2.2.2.1
  have hw := hX.n hI
  try rw [← e0] at hK
  have hn := hw.1
  have hn8 := hw.2.1
  refine e_X11_gets [] ?_
  conv => whnf
  refine s_noThing rfl ?_
  refine b_X11_gets [] ?_
  conv => whnf
  refine s_noThing rfl ?_
  refine b_X11_gets [] ?_
  conv => whnf
  refine s_first ?_
  refine b_X11_gets [] ?_
  conv => whnf
  refine s_noBlow ?_
  refine b_X11_gets [] ?_
  conv => whnf
  refine s_first ?_
  refine b_X11_gets [] ?_
  conv => whnf
  refine s_unknown ?_
  refine b_X11_gets [] ?_
  conv => whnf
  refine s_first ?_
  refine b_X11_gets [] ?_
  conv => whnf
  refine ⟨fun c43 => ?_, fun c43 => ?_⟩
  · refine b_X11_gets [] ?_
    conv => whnf
    rw [qA_0 c43, qB_0 c43] at hK
    obtain ⟨r1a, r1b⟩ := fFirst_0 c43
    obtain ⟨r2a, r2b⟩ := fFirst_0 r1a
    obtain ⟨r3a, r3b⟩ := fFirst_0 r2a
    obtain ⟨x_, hx, rfl⟩ := fNoTh_0 (n := nO (W 0)) (by omega) (by rw [← hn]; exact r3a)
    have ex : (nI x_).toNatClampNeg = x_ := nI_clamp (by omega)
    try rw [ex] at hK
    obtain ⟨y_, hy, rfl⟩ := fNoTh_0 (n := nO (W 0)) (by omega) (by rw [← hn]; exact r3b)
    have ey : (nI y_).toNatClampNeg = y_ := nI_clamp (by omega)
    try rw [ey] at hK
    obtain ⟨v_, hv1, hv2, rfl⟩ := fNoBlow_0 r2b
    have hv0 : ¬ nI v_ ≤ 0 := v_b hv1 (by omega)
    have uc := r1b
    refine g_strike hw hx (fun s2 hs2 hb2 => ?_)
    refine b_X11_gets [] ?_
    conv => whnf
    refine ⟨fun c68 => ?_, fun c68 => ?_⟩
    · conv => whnf
      refine ⟨(vp_in_nI (show y_ < 8 by omega) (by decide)), ?_⟩
      conv => whnf
      rw [ey]
      refine b_X11_gets [] ?_
      conv => whnf
      rw [if_pos c68, ← hs2.1 y_ (by omega)] at hK
      exact hK _ ⟨_, _, _, _, _, _, rfl, hX⟩
    · refine b_X11_gets [] ?_
      conv => whnf
      refine s_jumpIn (s := s2) ⟨rfl, rfl⟩ (w := W 0) (r := fun i => 2 + i) ⟨rfl, rfl, rfl, rfl, rfl, rfl⟩ (by omega) ?_
      refine b_X11_gets [] ?_
      conv => whnf
      rw [if_neg c68, ← hs2.1 y_ (by omega)] at hK
      exact hK _ ⟨_, _, _, _, _, _, rfl, hX⟩
  · conv => whnf
    refine s_refuse ref_in ?_
    refine b_X11_gets [] ?_
    conv => whnf
    rw [qA_n c43] at hK
    exact hK _ ⟨_, _, _, _, _, _, rfl, hX.bump c43⟩
theorem c_blow {a : Ab} {x v c : Int32} {H : AH} (hI : Inv a) (hC : CR a H)  {K : Option Value → AH → Prop} (hK : ∀ H2, CR (qB a (fFirst (fFirst (fNoTh ((a.1 0).1 0) x) (fNoBlow v)) (fUnk c (nI 4)))) H2 → K (some (.int (qA (fFirst (fFirst (fNoTh ((a.1 0).1 0) x) (fNoBlow v)) (fUnk c (nI 4))) (if c = nI 0 then (blw (a.1 0) (nO (a.1 0)) ((plW (a.1 0)) x.toNatClampNeg) v).2.1 else if c = nI 1 then (blw (a.1 0) (nO (a.1 0)) ((plW (a.1 0)) x.toNatClampNeg) v).2.2 else if c = nI 2 then fBc (blw (a.1 0) (nO (a.1 0)) ((plW (a.1 0)) x.toNatClampNeg) v).2.1 else if c = nI 3 then itr (fun t z => z + fJump ((a.1 0).2 0 t) ((blw (a.1 0) (nO (a.1 0)) ((plW (a.1 0)) x.toNatClampNeg) v).1 t)) (nO (a.1 0)) 0 (nI 0) else (itr (fFarS (a.1 0) (blw (a.1 0) (nO (a.1 0)) ((plW (a.1 0)) x.toNatClampNeg) v) ((a.1 0).2 4 x.toNatClampNeg)) (nO (a.1 0)) 0 (Int32.ofInt (-9), Int32.ofInt (-1))).1)))) H2) : am_M i_X11_blow [.ref 0, .int x, .int v, .int c] H K := by
  obtain ⟨W, S, A, I, B, L, rfl, hX⟩ := hC
  have e0 : W 0 = a.1 0 := hX.1
  have e1 : I 1 = nI (a.2.2 1) := hX.2.2.2.2.2.2.1
  have hw := hX.n hI
  try rw [← e0] at hK
  have hn := hw.1
  have hn8 := hw.2.1
  refine e_X11_blow [] ?_
  conv => whnf
  refine s_noThing rfl ?_
  refine b_X11_blow [] ?_
  conv => whnf
  refine s_noBlow ?_
  refine b_X11_blow [] ?_
  conv => whnf
  refine s_first ?_
  refine b_X11_blow [] ?_
  conv => whnf
  refine s_unknown ?_
  refine b_X11_blow [] ?_
  conv => whnf
  refine s_first ?_
  refine b_X11_blow [] ?_
  conv => whnf
  refine ⟨fun c27 => ?_, fun c27 => ?_⟩
  · refine b_X11_blow [] ?_
    conv => whnf
    rw [qA_0 c27, qB_0 c27] at hK
    obtain ⟨r4a, r4b⟩ := fFirst_0 c27
    obtain ⟨r5a, r5b⟩ := fFirst_0 r4a
    obtain ⟨x_, hx, rfl⟩ := fNoTh_0 (n := nO (W 0)) (by omega) (by rw [← hn]; exact r5a)
    have ex : (nI x_).toNatClampNeg = x_ := nI_clamp (by omega)
    try rw [ex] at hK
    obtain ⟨v_, hv1, hv2, rfl⟩ := fNoBlow_0 r5b
    have hv0 : ¬ nI v_ ≤ 0 := v_b hv1 (by omega)
    have uc := r4b
    refine g_strike hw hx (fun s2 hs2 hb2 => ?_)
    refine b_X11_blow [] ?_
    conv => whnf
    refine ⟨fun (s51_0 : _ = nI 0) => ?_, fun (s51_0 : ¬ _ = nI 0) => ?_⟩
    · conv => whnf
      refine b_X11_blow [] ?_
      conv => whnf
      rw [if_pos s51_0, ← hs2.2] at hK
      exact hK _ ⟨_, _, _, _, _, _, rfl, hX⟩
    conv => whnf
    refine ⟨fun (s51_1 : _ = nI 1) => ?_, fun (s51_1 : ¬ _ = nI 1) => ?_⟩
    · conv => whnf
      refine b_X11_blow [] ?_
      conv => whnf
      rw [if_neg s51_0, if_pos s51_1, ← hs2.2] at hK
      exact hK _ ⟨_, _, _, _, _, _, rfl, hX⟩
    conv => whnf
    refine ⟨fun (s51_2 : _ = nI 2) => ?_, fun (s51_2 : ¬ _ = nI 2) => ?_⟩
    · conv => whnf
      refine b_X11_blow [] ?_
      conv => whnf
      refine s_hearerCount (s := s2) ⟨rfl, rfl⟩ ?_
      refine b_X11_blow [] ?_
      conv => whnf
      rw [if_neg s51_0, if_neg s51_1, if_pos s51_2, ← hs2.2] at hK
      exact hK _ ⟨_, _, _, _, _, _, rfl, hX⟩
    conv => whnf
    refine ⟨fun (s51_3 : _ = nI 3) => ?_, fun (s51_3 : ¬ _ = nI 3) => ?_⟩
    · conv => whnf
      refine b_X11_blow [] ?_
      conv => whnf
      refine s_jumpsIn (s := s2) ⟨rfl, rfl⟩ (w := W 0) (r := fun i => 2 + i) ⟨rfl, rfl, rfl, rfl, rfl, rfl⟩ hn hn8 ?_
      refine b_X11_blow [] ?_
      conv => whnf
      rw [if_neg s51_0, if_neg s51_1, if_neg s51_2, if_pos s51_3, itr_cg (g := fun t z => z + fJump ((W 0).2 0 t) (s2.1 t)) _ _ _ (fun j _ h2 z => by rw [hs2.1 j (by omega)])] at hK
      exact hK _ ⟨_, _, _, _, _, _, rfl, hX⟩
    conv => whnf
    refine b_X11_blow [] ?_
    conv => whnf
    refine s_farIn (s := s2) ⟨rfl, rfl⟩ (w := W 0) (r := fun i => 2 + i) ⟨rfl, rfl, rfl, rfl, rfl, rfl⟩ hn hn8 hx ?_
    refine b_X11_blow [] ?_
    conv => whnf
    have e9 : fFarS (W 0) (blw (W 0) (nO (W 0)) ((plW (W 0)) x_) (nI v_)) = fFarS (W 0) s2 := by unfold fFarS; rw [hs2.2]
    rw [if_neg s51_0, if_neg s51_1, if_neg s51_2, if_neg s51_3, e9] at hK
    exact hK _ ⟨_, _, _, _, _, _, rfl, hX⟩
  · conv => whnf
    refine s_refuse ref_in ?_
    refine b_X11_blow [] ?_
    conv => whnf
    rw [qA_n c27] at hK
    exact hK _ ⟨_, _, _, _, _, _, rfl, hX.bump c27⟩
theorem c_reaches {a : Ab} {x y : Int32} {H : AH} (hI : Inv a) (hC : CR a H)  {K : Option Value → AH → Prop} (hK : ∀ H2, CR (qB a (fFirst (fNoTh ((a.1 0).1 0) x) (fNoTh ((a.1 0).1 0) y))) H2 → K (some (.int (qA (fFirst (fNoTh ((a.1 0).1 0) x) (fNoTh ((a.1 0).1 0) y)) (lstF (fun v => fCut (blw (a.1 0) (nO (a.1 0)) ((plW (a.1 0)) x.toNatClampNeg) (nI v)).2.1 (nI y.toNatClampNeg)) 60 1)))) H2) : am_M i_X11_reaches [.ref 0, .int x, .int y] H K := by
  obtain ⟨W, S, A, I, B, L, rfl, hX⟩ := hC
  have e0 : W 0 = a.1 0 := hX.1
  have e1 : I 1 = nI (a.2.2 1) := hX.2.2.2.2.2.2.1
  have hw := hX.n hI
  try rw [← e0] at hK
  have hn := hw.1
  have hn8 := hw.2.1
  refine e_X11_reaches [] ?_
  conv => whnf
  refine s_noThing rfl ?_
  refine b_X11_reaches [] ?_
  conv => whnf
  refine s_noThing rfl ?_
  refine b_X11_reaches [] ?_
  conv => whnf
  refine s_first ?_
  refine b_X11_reaches [] ?_
  conv => whnf
  refine ⟨fun c21 => ?_, fun c21 => ?_⟩
  · refine b_X11_reaches [] ?_
    conv => whnf
    rw [qA_0 c21, qB_0 c21] at hK
    obtain ⟨r6a, r6b⟩ := fFirst_0 c21
    obtain ⟨x_, hx, rfl⟩ := fNoTh_0 (n := nO (W 0)) (by omega) (by rw [← hn]; exact r6a)
    have ex : (nI x_).toNatClampNeg = x_ := nI_clamp (by omega)
    try rw [ex] at hK
    obtain ⟨y_, hy, rfl⟩ := fNoTh_0 (n := nO (W 0)) (by omega) (by rw [← hn]; exact r6b)
    have ey : (nI y_).toNatClampNeg = y_ := nI_clamp (by omega)
    try rw [ey] at hK
    refine g_ec (Z := S3) (P := fun _ => True) (r0 := fun z => some (.int (lstF (fun v => fCut (blw (W 0) (nO (W 0)) ((plW (W 0)) x_) (nI v)).2.1 (nI y_)) 60 1))) (fun z => (I 5, I 6, I 7)) (fun z => z) (fun z => W 2) (fun z => B 0) (fun K hK => s_heard hw hx (fun s2 => hK s2 trivial)) rfl (fun z _ => ?_)
    conv => whnf
    refine b_X11_reaches [] ?_
    conv => whnf
    exact hK _ ⟨_, _, _, _, _, _, rfl, hX.ec _ _ _ _⟩
  · conv => whnf
    refine s_refuse ref_in ?_
    refine b_X11_reaches [] ?_
    conv => whnf
    rw [qA_n c21] at hK
    exact hK _ ⟨_, _, _, _, _, _, rfl, hX.bump c21⟩
theorem c_breaks {a : Ab} {x y : Int32} {H : AH} (hI : Inv a) (hC : CR a H)  {K : Option Value → AH → Prop} (hK : ∀ H2, CR (qB a (fFirst (fNoTh ((a.1 0).1 0) x) (fNoTh ((a.1 0).1 0) y))) H2 → K (some (.int (qA (fFirst (fNoTh ((a.1 0).1 0) x) (fNoTh ((a.1 0).1 0) y)) (lstF (fun v => hasB (blw (a.1 0) (nO (a.1 0)) ((plW (a.1 0)) x.toNatClampNeg) (nI v)).2.2 (nI y.toNatClampNeg)) 60 1)))) H2) : am_M i_X11_breaks [.ref 0, .int x, .int y] H K := by
  obtain ⟨W, S, A, I, B, L, rfl, hX⟩ := hC
  have e0 : W 0 = a.1 0 := hX.1
  have e1 : I 1 = nI (a.2.2 1) := hX.2.2.2.2.2.2.1
  have hw := hX.n hI
  try rw [← e0] at hK
  have hn := hw.1
  have hn8 := hw.2.1
  refine e_X11_breaks [] ?_
  conv => whnf
  refine s_noThing rfl ?_
  refine b_X11_breaks [] ?_
  conv => whnf
  refine s_noThing rfl ?_
  refine b_X11_breaks [] ?_
  conv => whnf
  refine s_first ?_
  refine b_X11_breaks [] ?_
  conv => whnf
  refine ⟨fun c21 => ?_, fun c21 => ?_⟩
  · refine b_X11_breaks [] ?_
    conv => whnf
    rw [qA_0 c21, qB_0 c21] at hK
    obtain ⟨r7a, r7b⟩ := fFirst_0 c21
    obtain ⟨x_, hx, rfl⟩ := fNoTh_0 (n := nO (W 0)) (by omega) (by rw [← hn]; exact r7a)
    have ex : (nI x_).toNatClampNeg = x_ := nI_clamp (by omega)
    try rw [ex] at hK
    obtain ⟨y_, hy, rfl⟩ := fNoTh_0 (n := nO (W 0)) (by omega) (by rw [← hn]; exact r7b)
    have ey : (nI y_).toNatClampNeg = y_ := nI_clamp (by omega)
    try rw [ey] at hK
    refine g_ec (Z := S3) (P := fun _ => True) (r0 := fun z => some (.int (lstF (fun v => hasB (blw (W 0) (nO (W 0)) ((plW (W 0)) x_) (nI v)).2.2 (nI y_)) 60 1))) (fun z => (I 5, I 6, I 7)) (fun z => z) (fun z => W 2) (fun z => B 0) (fun K hK => s_brk hw hx (fun s2 => hK s2 trivial)) rfl (fun z _ => ?_)
    conv => whnf
    refine b_X11_breaks [] ?_
    conv => whnf
    exact hK _ ⟨_, _, _, _, _, _, rfl, hX.ec _ _ _ _⟩
  · conv => whnf
    refine s_refuse ref_in ?_
    refine b_X11_breaks [] ?_
    conv => whnf
    rw [qA_n c21] at hK
    exact hK _ ⟨_, _, _, _, _, _, rfl, hX.bump c21⟩
theorem c_tough {a : Ab} {x : Int32} {H : AH} (hI : Inv a) (hC : CR a H)  {K : Option Value → AH → Prop} (hK : ∀ H2, CR (qB a (fNoTh ((a.1 0).1 0) x)) H2 → K (some (.int (qA (fNoTh ((a.1 0).1 0) x) (tghF (fun v => !(decide ((blw (a.1 0) (nO (a.1 0)) ((plW (a.1 0)) x.toNatClampNeg) (nI v)).2.2 = 0))) 60 1)))) H2) : am_M i_X11_tough [.ref 0, .int x] H K := by
  obtain ⟨W, S, A, I, B, L, rfl, hX⟩ := hC
  have e0 : W 0 = a.1 0 := hX.1
  have e1 : I 1 = nI (a.2.2 1) := hX.2.2.2.2.2.2.1
  have hw := hX.n hI
  try rw [← e0] at hK
  have hn := hw.1
  have hn8 := hw.2.1
  refine e_X11_tough [] ?_
  conv => whnf
  refine s_noThing rfl ?_
  refine b_X11_tough [] ?_
  conv => whnf
  refine ⟨fun c10 => ?_, fun c10 => ?_⟩
  · refine b_X11_tough [] ?_
    conv => whnf
    rw [qA_0 c10, qB_0 c10] at hK
    obtain ⟨x_, hx, rfl⟩ := fNoTh_0 (n := nO (W 0)) (by omega) (by rw [← hn]; exact c10)
    have ex : (nI x_).toNatClampNeg = x_ := nI_clamp (by omega)
    try rw [ex] at hK
    refine g_ec (Z := S3) (P := fun _ => True) (r0 := fun z => some (.int (tghF (fun v => !(decide ((blw (W 0) (nO (W 0)) ((plW (W 0)) x_) (nI v)).2.2 = 0))) 60 1))) (fun z => (I 5, I 6, I 7)) (fun z => z) (fun z => W 2) (fun z => B 0) (fun K hK => s_tough hw hx (fun s2 => hK s2 trivial)) rfl (fun z _ => ?_)
    conv => whnf
    refine b_X11_tough [] ?_
    conv => whnf
    exact hK _ ⟨_, _, _, _, _, _, rfl, hX.ec _ _ _ _⟩
  · conv => whnf
    refine s_refuse ref_in ?_
    refine b_X11_tough [] ?_
    conv => whnf
    rw [qA_n c10] at hK
    exact hK _ ⟨_, _, _, _, _, _, rfl, hX.bump c10⟩
theorem c_harm {a : Ab} {x c : Int32} {H : AH} (hI : Inv a) (hC : CR a H)  {K : Option Value → AH → Prop} (hK : ∀ H2, CR (qB a (fFirst (fNoTh ((a.1 0).1 0) x) (fUnk c (nI 1)))) H2 → K (some (.int (qA (fFirst (fNoTh ((a.1 0).1 0) x) (fUnk c (nI 1))) (if c = 0 then (itr (hrmO (a.1 0) (nO (a.1 0)) x.toNatClampNeg (plW (a.1 0))) (nO (a.1 0)) 0 nob).1 else (itr (hrmO (a.1 0) (nO (a.1 0)) x.toNatClampNeg (plW (a.1 0))) (nO (a.1 0)) 0 nob).2)))) H2) : am_M i_X11_harm [.ref 0, .int x, .int c] H K := by
  obtain ⟨W, S, A, I, B, L, rfl, hX⟩ := hC
  have e0 : W 0 = a.1 0 := hX.1
  have e1 : I 1 = nI (a.2.2 1) := hX.2.2.2.2.2.2.1
  have hw := hX.n hI
  try rw [← e0] at hK
  have hn := hw.1
  have hn8 := hw.2.1
  refine e_X11_harm [] ?_
  conv => whnf
  refine s_noThing rfl ?_
  refine b_X11_harm [] ?_
  conv => whnf
  refine s_unknown ?_
  refine b_X11_harm [] ?_
  conv => whnf
  refine s_first ?_
  refine b_X11_harm [] ?_
  conv => whnf
  refine ⟨fun c18 => ?_, fun c18 => ?_⟩
  · refine b_X11_harm [] ?_
    conv => whnf
    rw [qA_0 c18, qB_0 c18] at hK
    obtain ⟨r8a, r8b⟩ := fFirst_0 c18
    obtain ⟨x_, hx, rfl⟩ := fNoTh_0 (n := nO (W 0)) (by omega) (by rw [← hn]; exact r8a)
    have ex : (nI x_).toNatClampNeg = x_ := nI_clamp (by omega)
    try rw [ex] at hK
    have uc := r8b
    refine g_ec (Z := S3) (P := fun _ => True) (r0 := fun z => some (.ref 9)) (fun z => (I 5, I 6, I 7)) (fun z => z) (fun z => W 2) (fun z => (itr (hrmO (W 0) (nO (W 0)) x_ (plW (W 0))) (nO (W 0)) 0 nob)) (fun K hK => s_harm hw (fun s2 => hK s2 trivial)) rfl (fun z _ => ?_)
    conv => whnf
    refine b_X11_harm [] ?_
    conv => whnf
    refine s_answer (b := (itr (hrmO (W 0) (nO (W 0)) x_ (plW (W 0))) (nO (W 0)) 0 nob)) rfl ?_
    refine b_X11_harm [] ?_
    conv => whnf
    exact hK _ ⟨_, _, _, _, _, _, rfl, hX.ec _ _ _ _⟩
  · conv => whnf
    refine s_refuse ref_in ?_
    refine b_X11_harm [] ?_
    conv => whnf
    rw [qA_n c18] at hK
    exact hK _ ⟨_, _, _, _, _, _, rfl, hX.bump c18⟩
theorem c_tap {a : Ab} {x : Int32} {H : AH} (hI : Inv a) (hC : CR a H)  {K : Option Value → AH → Prop} (hK : ∀ H2, CR (qB a (fNoTh ((a.1 0).1 0) x)) H2 → K (some (.int (qA (fNoTh ((a.1 0).1 0) x) ((itr (tapO (a.1 0) (nO (a.1 0)) x.toNatClampNeg (plW (a.1 0))) (nO (a.1 0)) 0 nob).1)))) H2) : am_M i_X11_tap [.ref 0, .int x] H K := by
  obtain ⟨W, S, A, I, B, L, rfl, hX⟩ := hC
  have e0 : W 0 = a.1 0 := hX.1
  have e1 : I 1 = nI (a.2.2 1) := hX.2.2.2.2.2.2.1
  have hw := hX.n hI
  try rw [← e0] at hK
  have hn := hw.1
  have hn8 := hw.2.1
  refine e_X11_tap [] ?_
  conv => whnf
  refine s_noThing rfl ?_
  refine b_X11_tap [] ?_
  conv => whnf
  refine ⟨fun c10 => ?_, fun c10 => ?_⟩
  · refine b_X11_tap [] ?_
    conv => whnf
    rw [qA_0 c10, qB_0 c10] at hK
    obtain ⟨x_, hx, rfl⟩ := fNoTh_0 (n := nO (W 0)) (by omega) (by rw [← hn]; exact c10)
    have ex : (nI x_).toNatClampNeg = x_ := nI_clamp (by omega)
    try rw [ex] at hK
    refine g_ec (Z := S3) (P := fun _ => True) (r0 := fun z => some (.ref 9)) (fun z => (I 5, I 6, I 7)) (fun z => z) (fun z => W 2) (fun z => (itr (tapO (W 0) (nO (W 0)) x_ (plW (W 0))) (nO (W 0)) 0 nob)) (fun K hK => s_tap hw (by omega) (fun s2 => hK s2 trivial)) rfl (fun z _ => ?_)
    conv => whnf
    refine b_X11_tap [] ?_
    conv => whnf
    exact hK _ ⟨_, _, _, _, _, _, rfl, hX.ec _ _ _ _⟩
  · conv => whnf
    refine s_refuse ref_in ?_
    refine b_X11_tap [] ?_
    conv => whnf
    rw [qA_n c10] at hK
    exact hK _ ⟨_, _, _, _, _, _, rfl, hX.bump c10⟩
theorem c_who {a : Ab} {c : Int32} {H : AH} (hI : Inv a) (hC : CR a H)  {K : Option Value → AH → Prop} (hK : ∀ H2, CR (qB a (fFirst (fUnk c (nI 2)) (if nI (a.2.2 1) ≤ (a.1 0).1 0 then nI 0 else Int32.ofInt (-3)))) H2 → K (some (.int (qA (fFirst (fUnk c (nI 2)) (if nI (a.2.2 1) ≤ (a.1 0).1 0 then nI 0 else Int32.ofInt (-3))) (if c = nI 0 then (itr (drpO (a.1 0) (nO (a.1 0)) (plW (a.1 0)) (a.2.1 1) (a.2.2 1)) (nO (a.1 0)) 0 (nI 0, Int32.ofInt (-9), nI 0)).1 else if c = nI 1 then (itr (drpO (a.1 0) (nO (a.1 0)) (plW (a.1 0)) (a.2.1 1) (a.2.2 1)) (nO (a.1 0)) 0 (nI 0, Int32.ofInt (-9), nI 0)).2.1 else (itr (drpO (a.1 0) (nO (a.1 0)) (plW (a.1 0)) (a.2.1 1) (a.2.2 1)) (nO (a.1 0)) 0 (nI 0, Int32.ofInt (-9), nI 0)).2.2)))) H2) : am_M i_X11_who [.ref 0, .int c] H K := by
  obtain ⟨W, S, A, I, B, L, rfl, hX⟩ := hC
  have e0 : W 0 = a.1 0 := hX.1
  have e1 : I 1 = nI (a.2.2 1) := hX.2.2.2.2.2.2.1
  have hw := hX.n hI
  try rw [← e0] at hK
  have hn := hw.1
  have hn8 := hw.2.1
  have e2 : A 1 = a.2.1 1 := hX.2.2.2.1
  rw [← e1] at hK
  refine e_X11_who [] ?_
  conv => whnf
  refine s_unknown ?_
  refine b_X11_who [] ?_
  conv => whnf
  refine s_rtl ?_
  refine b_X11_who [] ?_
  conv => whnf
  refine s_first ?_
  refine b_X11_who [] ?_
  conv => whnf
  refine ⟨fun c14 => ?_, fun c14 => ?_⟩
  · refine b_X11_who [] ?_
    conv => whnf
    rw [qA_0 c14, qB_0 c14] at hK
    obtain ⟨r9a, r9b⟩ := fFirst_0 c14
    have uc := r9a
    have hrt := r9b
    refine g_er (Z := S3) (P := fun _ => True) (r0 := fun z => none) (fun z => (itr (drpO (W 0) (nO (W 0)) (plW (W 0)) (a.2.1 1) (a.2.2 1)) (nO (W 0)) 0 (nI 0, Int32.ofInt (-9), nI 0))) (fun z => z) (fun z => W 2) (fun z => B 0) (fun K hK => by rw [e1, e2] at hK ⊢; exact s_drp hw (by have := hI.2.2.2.1; omega) (fun s2 => hK s2 trivial)) rfl (fun z _ => ?_)
    conv => whnf
    refine b_X11_who [] ?_
    conv => whnf
    refine ⟨fun (s39_0 : _ = nI 0) => ?_, fun (s39_0 : ¬ _ = nI 0) => ?_⟩
    · conv => whnf
      refine b_X11_who [] ?_
      conv => whnf
      rw [if_pos s39_0] at hK
      exact hK _ ⟨_, _, _, _, _, _, rfl, hX.ec _ _ _ _⟩
    conv => whnf
    refine ⟨fun (s39_1 : _ = nI 1) => ?_, fun (s39_1 : ¬ _ = nI 1) => ?_⟩
    · conv => whnf
      refine b_X11_who [] ?_
      conv => whnf
      rw [if_neg s39_0, if_pos s39_1] at hK
      exact hK _ ⟨_, _, _, _, _, _, rfl, hX.ec _ _ _ _⟩
    conv => whnf
    refine b_X11_who [] ?_
    conv => whnf
    rw [if_neg s39_0, if_neg s39_1] at hK
    exact hK _ ⟨_, _, _, _, _, _, rfl, hX.ec _ _ _ _⟩
  · conv => whnf
    refine s_refuse ref_in ?_
    refine b_X11_who [] ?_
    conv => whnf
    rw [qA_n c14] at hK
    exact hK _ ⟨_, _, _, _, _, _, rfl, hX.bump c14⟩
theorem c_whatKind {a : Ab} {x v y c : Int32} {H : AH} (hI : Inv a) (hC : CR a H)  {K : Option Value → AH → Prop} (hK : ∀ H2, CR (qB a (fFirst (fFirst (fFirst (fFirst (fNoTh ((a.1 0).1 0) x) (fNoTh ((a.1 0).1 0) y)) (fNoBlow v)) (fUnk c (nI 1))) (if nI (a.2.2 1) ≤ (a.1 0).1 0 then nI 0 else Int32.ofInt (-3)))) H2 → K (some (.int (qA (fFirst (fFirst (fFirst (fFirst (fNoTh ((a.1 0).1 0) x) (fNoTh ((a.1 0).1 0) y)) (fNoBlow v)) (fUnk c (nI 1))) (if nI (a.2.2 1) ≤ (a.1 0).1 0 then nI 0 else Int32.ofInt (-3))) (if c = 0 then itr (kndF (a.1 0) 0 (nO (a.1 0)) y.toNatClampNeg ((plW (a.1 0)) x.toNatClampNeg) v (a.2.1 1) (a.2.2 1)) 6 0 (nI 0) else itr (kndF (a.1 0) 1 (nO (a.1 0)) y.toNatClampNeg ((plW (a.1 0)) x.toNatClampNeg) v (a.2.1 1) (a.2.2 1)) 10 0 (nI 0))))) H2) : am_M i_X11_whatKind [.ref 0, .int x, .int v, .int y, .int c] H K := by
  obtain ⟨W, S, A, I, B, L, rfl, hX⟩ := hC
  have e0 : W 0 = a.1 0 := hX.1
  have e1 : I 1 = nI (a.2.2 1) := hX.2.2.2.2.2.2.1
  have hw := hX.n hI
  try rw [← e0] at hK
  have hn := hw.1
  have hn8 := hw.2.1
  have e2 : A 1 = a.2.1 1 := hX.2.2.2.1
  rw [← e1] at hK
  refine e_X11_whatKind [] ?_
  conv => whnf
  refine s_noThing rfl ?_
  refine b_X11_whatKind [] ?_
  conv => whnf
  refine s_noThing rfl ?_
  refine b_X11_whatKind [] ?_
  conv => whnf
  refine s_first ?_
  refine b_X11_whatKind [] ?_
  conv => whnf
  refine s_noBlow ?_
  refine b_X11_whatKind [] ?_
  conv => whnf
  refine s_first ?_
  refine b_X11_whatKind [] ?_
  conv => whnf
  refine s_unknown ?_
  refine b_X11_whatKind [] ?_
  conv => whnf
  refine s_first ?_
  refine b_X11_whatKind [] ?_
  conv => whnf
  refine s_rtl ?_
  refine b_X11_whatKind [] ?_
  conv => whnf
  refine s_first ?_
  refine b_X11_whatKind [] ?_
  conv => whnf
  refine ⟨fun c54 => ?_, fun c54 => ?_⟩
  · refine b_X11_whatKind [] ?_
    conv => whnf
    rw [qA_0 c54, qB_0 c54] at hK
    obtain ⟨r10a, r10b⟩ := fFirst_0 c54
    obtain ⟨r11a, r11b⟩ := fFirst_0 r10a
    obtain ⟨r12a, r12b⟩ := fFirst_0 r11a
    obtain ⟨r13a, r13b⟩ := fFirst_0 r12a
    obtain ⟨x_, hx, rfl⟩ := fNoTh_0 (n := nO (W 0)) (by omega) (by rw [← hn]; exact r13a)
    have ex : (nI x_).toNatClampNeg = x_ := nI_clamp (by omega)
    try rw [ex] at hK
    obtain ⟨y_, hy, rfl⟩ := fNoTh_0 (n := nO (W 0)) (by omega) (by rw [← hn]; exact r13b)
    have ey : (nI y_).toNatClampNeg = y_ := nI_clamp (by omega)
    try rw [ey] at hK
    obtain ⟨v_, hv1, hv2, rfl⟩ := fNoBlow_0 r12b
    have hv0 : ¬ nI v_ ≤ 0 := v_b hv1 (by omega)
    have uc := r11b
    have hrt := r10b
    refine ⟨fun c66 => ?_, fun c66 => ?_⟩
    · conv => whnf
      refine g_er (Z := S3 × WS) (P := fun _ => True) (r0 := fun z => some (.int (itr (kndF (W 0) 0 (nO (W 0)) y_ ((plW (W 0)) x_) (nI v_) (a.2.1 1) (a.2.2 1)) 6 0 (nI 0)))) (fun z => (I 5, I 6, I 7)) (fun z => z.1) (fun z => z.2) (fun z => B 0) (fun K hK => by rw [e1, e2] at hK ⊢; exact s_knd hw hx (by omega) (by have := hI.2.2.2.1; omega) (fun s2 md2 => hK (s2, md2) trivial)) rfl (fun z _ => ?_)
      conv => whnf
      refine b_X11_whatKind [] ?_
      conv => whnf
      rw [if_pos c66] at hK
      exact hK _ ⟨_, _, _, _, _, _, rfl, hX.ec _ _ _ _⟩
    · refine b_X11_whatKind [] ?_
      conv => whnf
      refine g_er (Z := S3 × WS) (P := fun _ => True) (r0 := fun z => some (.int (itr (kndF (W 0) 1 (nO (W 0)) y_ ((plW (W 0)) x_) (nI v_) (a.2.1 1) (a.2.2 1)) 10 0 (nI 0)))) (fun z => (I 5, I 6, I 7)) (fun z => z.1) (fun z => z.2) (fun z => B 0) (fun K hK => by rw [e1, e2] at hK ⊢; exact s_fig hw hx (by omega) (by have := hI.2.2.2.1; omega) (fun s2 md2 => hK (s2, md2) trivial)) rfl (fun z _ => ?_)
      conv => whnf
      refine b_X11_whatKind [] ?_
      conv => whnf
      rw [if_neg c66] at hK
      exact hK _ ⟨_, _, _, _, _, _, rfl, hX.ec _ _ _ _⟩
  · conv => whnf
    refine s_refuse ref_in ?_
    refine b_X11_whatKind [] ?_
    conv => whnf
    rw [qA_n c54] at hK
    exact hK _ ⟨_, _, _, _, _, _, rfl, hX.bump c54⟩
theorem n9_of {x : Int32} (h : x = Int32.ofInt (-9)) : x = Int32.ofInt (-9) := h
theorem c_worst {a : Ab} {v c : Int32} {H : AH} (hI : Inv a) (hC : CR a H)  {K : Option Value → AH → Prop} (hK : ∀ H2, CR (qB a (fFirst (fNoBlow v) (fUnk c (nI 1)))) H2 → K (some (.int (qA (fFirst (fNoBlow v) (fUnk c (nI 1))) (if c = 0 then (itr (wstI (a.1 0) (nO (a.1 0)) (plW (a.1 0)) v) (nO (a.1 0)) 0 nob).1 else if (itr (wstI (a.1 0) (nO (a.1 0)) (plW (a.1 0)) v) (nO (a.1 0)) 0 nob).1 = Int32.ofInt (-9) then nI 0 else (itr (wstI (a.1 0) (nO (a.1 0)) (plW (a.1 0)) v) (nO (a.1 0)) 0 nob).2)))) H2) : am_M i_X11_worst [.ref 0, .int v, .int c] H K := by
  obtain ⟨W, S, A, I, B, L, rfl, hX⟩ := hC
  have e0 : W 0 = a.1 0 := hX.1
  have e1 : I 1 = nI (a.2.2 1) := hX.2.2.2.2.2.2.1
  have hw := hX.n hI
  try rw [← e0] at hK
  have hn := hw.1
  have hn8 := hw.2.1
  refine e_X11_worst [] ?_
  conv => whnf
  refine s_noBlow ?_
  refine b_X11_worst [] ?_
  conv => whnf
  refine s_unknown ?_
  refine b_X11_worst [] ?_
  conv => whnf
  refine s_first ?_
  refine b_X11_worst [] ?_
  conv => whnf
  refine ⟨fun c14 => ?_, fun c14 => ?_⟩
  · refine b_X11_worst [] ?_
    conv => whnf
    rw [qA_0 c14, qB_0 c14] at hK
    obtain ⟨r14a, r14b⟩ := fFirst_0 c14
    obtain ⟨v_, hv1, hv2, rfl⟩ := fNoBlow_0 r14a
    have hv0 : ¬ nI v_ ≤ 0 := v_b hv1 (by omega)
    have uc := r14b
    refine g_pl (Z := S3) (P := fun _ => True) (r0 := fun z => some (.ref 9)) (fun z => z) (fun z => W 3) (fun z => (itr (wstI (W 0) (nO (W 0)) (plW (W 0)) (nI v_)) (nO (W 0)) 0 nob)) (fun z => A 2) (fun z => A 3) (fun K hK => s_wst hw (fun s2 => hK s2 trivial)) rfl (fun z _ => ?_)
    conv => whnf
    refine b_X11_worst [] ?_
    conv => whnf
    refine ⟨fun c44 => ?_, fun c44 => ?_⟩
    · conv => whnf
      refine ⟨fun c49 => ?_, fun c49 => ?_⟩
      · conv => whnf
        have c45 : (itr (wstI (W 0) (nO (W 0)) (plW (W 0)) (nI v_)) (nO (W 0)) 0 nob).1 = Int32.ofInt (-9) := c44
        rw [c49, if_neg (by decide), if_pos c45] at hK
        exact hK _ ⟨_, _, _, _, _, _, rfl, hX.pl _ _ _⟩
      · refine b_X11_worst [] ?_
        conv => whnf
        refine s_answer (b := (itr (wstI (W 0) (nO (W 0)) (plW (W 0)) (nI v_)) (nO (W 0)) 0 nob)) rfl ?_
        refine b_X11_worst [] ?_
        conv => whnf
        obtain ⟨cj, hc, rfl⟩ := fUnk_0 (by decide) uc
        have hc0 : nI cj = 0 := by
          have : cj ≠ 1 := fun z => c49 (by rw [z])
          rw [show cj = 0 by omega, nI_0]
        rw [if_pos hc0] at hK ⊢
        exact hK _ ⟨_, _, _, _, _, _, rfl, hX.pl _ _ _⟩
    · refine b_X11_worst [] ?_
      conv => whnf
      refine s_answer (b := (itr (wstI (W 0) (nO (W 0)) (plW (W 0)) (nI v_)) (nO (W 0)) 0 nob)) rfl ?_
      refine b_X11_worst [] ?_
      conv => whnf
      rw [if_neg (show ¬ (itr (wstI (W 0) (nO (W 0)) (plW (W 0)) (nI v_)) (nO (W 0)) 0 nob).1 = Int32.ofInt (-9) from c44)] at hK
      exact hK _ ⟨_, _, _, _, _, _, rfl, hX.pl _ _ _⟩
  · conv => whnf
    refine s_refuse ref_in ?_
    refine b_X11_worst [] ?_
    conv => whnf
    rw [qA_n c14] at hK
    exact hK _ ⟨_, _, _, _, _, _, rfl, hX.bump c14⟩
theorem c_bestCut {a : Ab} {v c : Int32} {H : AH} (hI : Inv a) (hC : CR a H)  {K : Option Value → AH → Prop} (hK : ∀ H2, CR (qB a (fFirst (fNoBlow v) (fUnk c (nI 1)))) H2 → K (some (.int (qA (fFirst (fNoBlow v) (fUnk c (nI 1))) (if c = 0 then (itr (mcuI (a.1 0) (nO (a.1 0)) (plW (a.1 0)) v) ((nO (a.1 0)) - 1) 0 nob).1 else (itr (mcuI (a.1 0) (nO (a.1 0)) (plW (a.1 0)) v) ((nO (a.1 0)) - 1) 0 nob).2)))) H2) : am_M i_X11_bestCut [.ref 0, .int v, .int c] H K := by
  obtain ⟨W, S, A, I, B, L, rfl, hX⟩ := hC
  have e0 : W 0 = a.1 0 := hX.1
  have e1 : I 1 = nI (a.2.2 1) := hX.2.2.2.2.2.2.1
  have hw := hX.n hI
  try rw [← e0] at hK
  have hn := hw.1
  have hn8 := hw.2.1
  refine e_X11_bestCut [] ?_
  conv => whnf
  refine s_noBlow ?_
  refine b_X11_bestCut [] ?_
  conv => whnf
  refine s_unknown ?_
  refine b_X11_bestCut [] ?_
  conv => whnf
  refine s_first ?_
  refine b_X11_bestCut [] ?_
  conv => whnf
  refine ⟨fun c14 => ?_, fun c14 => ?_⟩
  · refine b_X11_bestCut [] ?_
    conv => whnf
    rw [qA_0 c14, qB_0 c14] at hK
    obtain ⟨r15a, r15b⟩ := fFirst_0 c14
    obtain ⟨v_, hv1, hv2, rfl⟩ := fNoBlow_0 r15a
    have hv0 : ¬ nI v_ ≤ 0 := v_b hv1 (by omega)
    have uc := r15b
    refine g_pl (Z := S3 × WS) (P := fun _ => True) (r0 := fun z => some (.ref 9)) (fun z => z.1) (fun z => z.2) (fun z => (itr (mcuI (W 0) (nO (W 0)) (plW (W 0)) (nI v_)) ((nO (W 0)) - 1) 0 nob)) (fun z => A 2) (fun z => A 3) (fun K hK => s_mcu hw (fun s2 md2 => hK (s2, md2) trivial)) rfl (fun z _ => ?_)
    conv => whnf
    refine b_X11_bestCut [] ?_
    conv => whnf
    refine s_answer (b := (itr (mcuI (W 0) (nO (W 0)) (plW (W 0)) (nI v_)) ((nO (W 0)) - 1) 0 nob)) rfl ?_
    refine b_X11_bestCut [] ?_
    conv => whnf
    exact hK _ ⟨_, _, _, _, _, _, rfl, hX.pl _ _ _⟩
  · conv => whnf
    refine s_refuse ref_in ?_
    refine b_X11_bestCut [] ?_
    conv => whnf
    rw [qA_n c14] at hK
    exact hK _ ⟨_, _, _, _, _, _, rfl, hX.bump c14⟩
theorem c_woman {a : Ab} {v c : Int32} {H : AH} (hI : Inv a) (hC : CR a H)  {K : Option Value → AH → Prop} (hK : ∀ H2, CR (qB a (fFirst (fNoBlow v) (fUnk c (nI 1)))) H2 → K (some (.int (qA (fFirst (fNoBlow v) (fUnk c (nI 1))) (if c = 0 then (itr (womI (a.1 0) (nO (a.1 0)) (plW (a.1 0)) v) (nO (a.1 0)) 0 nob).2 else (itr (womI (a.1 0) (nO (a.1 0)) (plW (a.1 0)) v) (nO (a.1 0)) 0 nob).1)))) H2) : am_M i_X11_woman [.ref 0, .int v, .int c] H K := by
  obtain ⟨W, S, A, I, B, L, rfl, hX⟩ := hC
  have e0 : W 0 = a.1 0 := hX.1
  have e1 : I 1 = nI (a.2.2 1) := hX.2.2.2.2.2.2.1
  have hw := hX.n hI
  try rw [← e0] at hK
  have hn := hw.1
  have hn8 := hw.2.1
  refine e_X11_woman [] ?_
  conv => whnf
  refine s_noBlow ?_
  refine b_X11_woman [] ?_
  conv => whnf
  refine s_unknown ?_
  refine b_X11_woman [] ?_
  conv => whnf
  refine s_first ?_
  refine b_X11_woman [] ?_
  conv => whnf
  refine ⟨fun c14 => ?_, fun c14 => ?_⟩
  · refine b_X11_woman [] ?_
    conv => whnf
    rw [qA_0 c14, qB_0 c14] at hK
    obtain ⟨r16a, r16b⟩ := fFirst_0 c14
    obtain ⟨v_, hv1, hv2, rfl⟩ := fNoBlow_0 r16a
    have hv0 : ¬ nI v_ ≤ 0 := v_b hv1 (by omega)
    have uc := r16b
    refine g_pl (Z := S3 × WS) (P := fun _ => True) (r0 := fun z => some (.ref 9)) (fun z => z.1) (fun z => z.2) (fun z => (itr (womI (W 0) (nO (W 0)) (plW (W 0)) (nI v_)) (nO (W 0)) 0 nob)) (fun z => A 2) (fun z => A 3) (fun K hK => s_wom hw (fun s2 md2 => hK (s2, md2) trivial)) rfl (fun z _ => ?_)
    conv => whnf
    refine b_X11_woman [] ?_
    conv => whnf
    refine ⟨fun c38 => ?_, fun c38 => ?_⟩
    · conv => whnf
      refine b_X11_woman [] ?_
      conv => whnf
      rw [if_pos c38] at hK
      exact hK _ ⟨_, _, _, _, _, _, rfl, hX.pl _ _ _⟩
    · refine b_X11_woman [] ?_
      conv => whnf
      rw [if_neg c38] at hK
      exact hK _ ⟨_, _, _, _, _, _, rfl, hX.pl _ _ _⟩
  · conv => whnf
    refine s_refuse ref_in ?_
    refine b_X11_woman [] ?_
    conv => whnf
    rw [qA_n c14] at hK
    exact hK _ ⟨_, _, _, _, _, _, rfl, hX.bump c14⟩
theorem c_twins {a : Ab} {v : Int32} {H : AH} (hI : Inv a) (hC : CR a H)  {K : Option Value → AH → Prop} (hK : ∀ H2, CR (qB a (fNoBlow v)) H2 → K (some (.int (qA (fNoBlow v) ((itr (alkO (a.1 0) (nO (a.1 0)) (plW (a.1 0)) v) (nO (a.1 0)) 0 nob).1)))) H2) : am_M i_X11_twins [.ref 0, .int v] H K := by
  obtain ⟨W, S, A, I, B, L, rfl, hX⟩ := hC
  have e0 : W 0 = a.1 0 := hX.1
  have e1 : I 1 = nI (a.2.2 1) := hX.2.2.2.2.2.2.1
  have hw := hX.n hI
  try rw [← e0] at hK
  have hn := hw.1
  have hn8 := hw.2.1
  refine e_X11_twins [] ?_
  conv => whnf
  refine s_noBlow ?_
  refine b_X11_twins [] ?_
  conv => whnf
  refine ⟨fun c6 => ?_, fun c6 => ?_⟩
  · refine b_X11_twins [] ?_
    conv => whnf
    rw [qA_0 c6, qB_0 c6] at hK
    obtain ⟨v_, hv1, hv2, rfl⟩ := fNoBlow_0 c6
    have hv0 : ¬ nI v_ ≤ 0 := v_b hv1 (by omega)
    refine g_pl (Z := S3 × (Nat → Int32)) (P := fun _ => True) (r0 := fun z => some (.ref 9)) (fun z => z.1) (fun z => W 3) (fun z => (itr (alkO (W 0) (nO (W 0)) (plW (W 0)) (nI v_)) (nO (W 0)) 0 nob)) (fun z => A 2) (fun z => z.2) (fun K hK => s_alk hw (fun s2 un2 => hK (s2, un2) trivial)) rfl (fun z _ => ?_)
    conv => whnf
    refine b_X11_twins [] ?_
    conv => whnf
    exact hK _ ⟨_, _, _, _, _, _, rfl, hX.pl _ _ _⟩
  · conv => whnf
    refine s_refuse ref_in ?_
    refine b_X11_twins [] ?_
    conv => whnf
    rw [qA_n c6] at hK
    exact hK _ ⟨_, _, _, _, _, _, rfl, hX.bump c6⟩
theorem c_hum {a : Ab} {v c : Int32} {H : AH} (hI : Inv a) (hC : CR a H)  {K : Option Value → AH → Prop} (hK : ∀ H2, CR (qB a (fFirst (fNoBlow v) (fUnk c (nI 1)))) H2 → K (some (.int (qA (fFirst (fNoBlow v) (fUnk c (nI 1))) (if c = 0 then itr (ahdI (a.1 0) (nO (a.1 0)) (plW (a.1 0)) v) (nO (a.1 0)) 0 (nI 0) else (itr (qutI (a.1 0) (nO (a.1 0)) (plW (a.1 0)) v) (nO (a.1 0)) 0 nob).1)))) H2) : am_M i_X11_hum [.ref 0, .int v, .int c] H K := by
  obtain ⟨W, S, A, I, B, L, rfl, hX⟩ := hC
  have e0 : W 0 = a.1 0 := hX.1
  have e1 : I 1 = nI (a.2.2 1) := hX.2.2.2.2.2.2.1
  have hw := hX.n hI
  try rw [← e0] at hK
  have hn := hw.1
  have hn8 := hw.2.1
  refine e_X11_hum [] ?_
  conv => whnf
  refine s_noBlow ?_
  refine b_X11_hum [] ?_
  conv => whnf
  refine s_unknown ?_
  refine b_X11_hum [] ?_
  conv => whnf
  refine s_first ?_
  refine b_X11_hum [] ?_
  conv => whnf
  refine ⟨fun c14 => ?_, fun c14 => ?_⟩
  · refine b_X11_hum [] ?_
    conv => whnf
    rw [qA_0 c14, qB_0 c14] at hK
    obtain ⟨r17a, r17b⟩ := fFirst_0 c14
    obtain ⟨v_, hv1, hv2, rfl⟩ := fNoBlow_0 r17a
    have hv0 : ¬ nI v_ ≤ 0 := v_b hv1 (by omega)
    have uc := r17b
    refine ⟨fun c24 => ?_, fun c24 => ?_⟩
    · conv => whnf
      refine g_pl (Z := S3 × (Nat → Int32)) (P := fun _ => True) (r0 := fun z => some (.int (itr (ahdI (W 0) (nO (W 0)) (plW (W 0)) (nI v_)) (nO (W 0)) 0 (nI 0)))) (fun z => z.1) (fun z => W 3) (fun z => B 1) (fun z => z.2) (fun z => A 3) (fun K hK => s_ahd hw (fun s2 hd2 => hK (s2, hd2) trivial)) rfl (fun z _ => ?_)
      conv => whnf
      refine b_X11_hum [] ?_
      conv => whnf
      refine b_X11_hum [] ?_
      conv => whnf
      rw [if_pos c24] at hK
      exact hK _ ⟨_, _, _, _, _, _, rfl, hX.pl _ _ _⟩
    · refine b_X11_hum [] ?_
      conv => whnf
      refine g_pl (Z := S3 × (Nat → Int32)) (P := fun _ => True) (r0 := fun z => some (.ref 9)) (fun z => z.1) (fun z => W 3) (fun z => (itr (qutI (W 0) (nO (W 0)) (plW (W 0)) (nI v_)) (nO (W 0)) 0 nob)) (fun z => z.2) (fun z => A 3) (fun K hK => s_qut hw (fun s2 hd2 => hK (s2, hd2) trivial)) rfl (fun z _ => ?_)
      conv => whnf
      refine b_X11_hum [] ?_
      conv => whnf
      rw [if_neg c24] at hK
      exact hK _ ⟨_, _, _, _, _, _, rfl, hX.pl _ _ _⟩
  · conv => whnf
    refine s_refuse ref_in ?_
    refine b_X11_hum [] ?_
    conv => whnf
    rw [qA_n c14] at hK
    exact hK _ ⟨_, _, _, _, _, _, rfl, hX.bump c14⟩
theorem c_centre {a : Ab} {v c : Int32} {H : AH} (hI : Inv a) (hC : CR a H)  {K : Option Value → AH → Prop} (hK : ∀ H2, CR (qB a (fFirst (fNoBlow v) (fUnk c (nI 1)))) H2 → K (some (.int (qA (fFirst (fNoBlow v) (fUnk c (nI 1))) (if c = 0 then (itr (mheI (a.1 0) (nO (a.1 0)) (plW (a.1 0)) v) (nO (a.1 0)) 0 nob).1 else (itr (mheI (a.1 0) (nO (a.1 0)) (plW (a.1 0)) v) (nO (a.1 0)) 0 nob).2)))) H2) : am_M i_X11_centre [.ref 0, .int v, .int c] H K := by
  obtain ⟨W, S, A, I, B, L, rfl, hX⟩ := hC
  have e0 : W 0 = a.1 0 := hX.1
  have e1 : I 1 = nI (a.2.2 1) := hX.2.2.2.2.2.2.1
  have hw := hX.n hI
  try rw [← e0] at hK
  have hn := hw.1
  have hn8 := hw.2.1
  refine e_X11_centre [] ?_
  conv => whnf
  refine s_noBlow ?_
  refine b_X11_centre [] ?_
  conv => whnf
  refine s_unknown ?_
  refine b_X11_centre [] ?_
  conv => whnf
  refine s_first ?_
  refine b_X11_centre [] ?_
  conv => whnf
  refine ⟨fun c14 => ?_, fun c14 => ?_⟩
  · refine b_X11_centre [] ?_
    conv => whnf
    rw [qA_0 c14, qB_0 c14] at hK
    obtain ⟨r18a, r18b⟩ := fFirst_0 c14
    obtain ⟨v_, hv1, hv2, rfl⟩ := fNoBlow_0 r18a
    have hv0 : ¬ nI v_ ≤ 0 := v_b hv1 (by omega)
    have uc := r18b
    refine g_pl (Z := S3) (P := fun _ => True) (r0 := fun z => some (.ref 9)) (fun z => z) (fun z => W 3) (fun z => (itr (mheI (W 0) (nO (W 0)) (plW (W 0)) (nI v_)) (nO (W 0)) 0 nob)) (fun z => A 2) (fun z => A 3) (fun K hK => s_mhe hw (fun s2 => hK s2 trivial)) rfl (fun z _ => ?_)
    conv => whnf
    refine b_X11_centre [] ?_
    conv => whnf
    refine s_answer (b := (itr (mheI (W 0) (nO (W 0)) (plW (W 0)) (nI v_)) (nO (W 0)) 0 nob)) rfl ?_
    refine b_X11_centre [] ?_
    conv => whnf
    exact hK _ ⟨_, _, _, _, _, _, rfl, hX.pl _ _ _⟩
  · conv => whnf
    refine s_refuse ref_in ?_
    refine b_X11_centre [] ?_
    conv => whnf
    rw [qA_n c14] at hK
    exact hK _ ⟨_, _, _, _, _, _, rfl, hX.bump c14⟩
theorem c_bestMend {a : Ab} {x v : Int32} {H : AH} (hI : Inv a) (hC : CR a H)  {K : Option Value → AH → Prop} (hK : ∀ H2, CR (qB a (fFirst (fNoTh ((a.1 0).1 0) x) (fNoBlow v))) H2 → K (some (.int (qA (fFirst (fNoTh ((a.1 0).1 0) x) (fNoBlow v)) ((itr (mhmI (a.1 0) (nO (a.1 0)) ((plW (a.1 0)) x.toNatClampNeg) v (fBc (blw (a.1 0) (nO (a.1 0)) ((plW (a.1 0)) x.toNatClampNeg) v).2.1)) (nO (a.1 0)) 0 nob).1)))) H2) : am_M i_X11_bestMend [.ref 0, .int x, .int v] H K := by
  obtain ⟨W, S, A, I, B, L, rfl, hX⟩ := hC
  have e0 : W 0 = a.1 0 := hX.1
  have e1 : I 1 = nI (a.2.2 1) := hX.2.2.2.2.2.2.1
  have hw := hX.n hI
  try rw [← e0] at hK
  have hn := hw.1
  have hn8 := hw.2.1
  refine e_X11_bestMend [] ?_
  conv => whnf
  refine s_noThing rfl ?_
  refine b_X11_bestMend [] ?_
  conv => whnf
  refine s_noBlow ?_
  refine b_X11_bestMend [] ?_
  conv => whnf
  refine s_first ?_
  refine b_X11_bestMend [] ?_
  conv => whnf
  refine ⟨fun c17 => ?_, fun c17 => ?_⟩
  · refine b_X11_bestMend [] ?_
    conv => whnf
    rw [qA_0 c17, qB_0 c17] at hK
    obtain ⟨r19a, r19b⟩ := fFirst_0 c17
    obtain ⟨x_, hx, rfl⟩ := fNoTh_0 (n := nO (W 0)) (by omega) (by rw [← hn]; exact r19a)
    have ex : (nI x_).toNatClampNeg = x_ := nI_clamp (by omega)
    try rw [ex] at hK
    obtain ⟨v_, hv1, hv2, rfl⟩ := fNoBlow_0 r19b
    have hv0 : ¬ nI v_ ≤ 0 := v_b hv1 (by omega)
    refine g_pl (Z := S3 × WS) (P := fun _ => True) (r0 := fun z => some (.ref 9)) (fun z => z.1) (fun z => z.2) (fun z => (itr (mhmI (W 0) (nO (W 0)) ((plW (W 0)) x_) (nI v_) (fBc (blw (W 0) (nO (W 0)) ((plW (W 0)) x_) (nI v_)).2.1)) (nO (W 0)) 0 nob)) (fun z => A 2) (fun z => A 3) (fun K hK => s_mhm hw hx (fun s2 md2 => hK (s2, md2) trivial)) rfl (fun z _ => ?_)
    conv => whnf
    refine b_X11_bestMend [] ?_
    conv => whnf
    exact hK _ ⟨_, _, _, _, _, _, rfl, hX.pl _ _ _⟩
  · conv => whnf
    refine s_refuse ref_in ?_
    refine b_X11_bestMend [] ?_
    conv => whnf
    rw [qA_n c17] at hK
    exact hK _ ⟨_, _, _, _, _, _, rfl, hX.bump c17⟩
theorem c_bestFigure {a : Ab} {x y v : Int32} {H : AH} (hI : Inv a) (hC : CR a H)  {K : Option Value → AH → Prop} (hK : ∀ H2, CR (qB a (fFirst (fFirst (fNoTh ((a.1 0).1 0) x) (fNoTh ((a.1 0).1 0) y)) (fNoBlow v))) H2 → K (some (.int (qA (fFirst (fFirst (fNoTh ((a.1 0).1 0) x) (fNoTh ((a.1 0).1 0) y)) (fNoBlow v)) ((itr (fhmI (a.1 0) (nO (a.1 0)) ((plW (a.1 0)) y.toNatClampNeg) x.toNatClampNeg v) 10 0 nob).1)))) H2) : am_M i_X11_bestFigure [.ref 0, .int x, .int y, .int v] H K := by
  obtain ⟨W, S, A, I, B, L, rfl, hX⟩ := hC
  have e0 : W 0 = a.1 0 := hX.1
  have e1 : I 1 = nI (a.2.2 1) := hX.2.2.2.2.2.2.1
  have hw := hX.n hI
  try rw [← e0] at hK
  have hn := hw.1
  have hn8 := hw.2.1
  refine e_X11_bestFigure [] ?_
  conv => whnf
  refine s_noThing rfl ?_
  refine b_X11_bestFigure [] ?_
  conv => whnf
  refine s_noThing rfl ?_
  refine b_X11_bestFigure [] ?_
  conv => whnf
  refine s_first ?_
  refine b_X11_bestFigure [] ?_
  conv => whnf
  refine s_noBlow ?_
  refine b_X11_bestFigure [] ?_
  conv => whnf
  refine s_first ?_
  refine b_X11_bestFigure [] ?_
  conv => whnf
  refine ⟨fun c30 => ?_, fun c30 => ?_⟩
  · refine b_X11_bestFigure [] ?_
    conv => whnf
    rw [qA_0 c30, qB_0 c30] at hK
    obtain ⟨r20a, r20b⟩ := fFirst_0 c30
    obtain ⟨r21a, r21b⟩ := fFirst_0 r20a
    obtain ⟨x_, hx, rfl⟩ := fNoTh_0 (n := nO (W 0)) (by omega) (by rw [← hn]; exact r21a)
    have ex : (nI x_).toNatClampNeg = x_ := nI_clamp (by omega)
    try rw [ex] at hK
    obtain ⟨y_, hy, rfl⟩ := fNoTh_0 (n := nO (W 0)) (by omega) (by rw [← hn]; exact r21b)
    have ey : (nI y_).toNatClampNeg = y_ := nI_clamp (by omega)
    try rw [ey] at hK
    obtain ⟨v_, hv1, hv2, rfl⟩ := fNoBlow_0 r20b
    have hv0 : ¬ nI v_ ≤ 0 := v_b hv1 (by omega)
    generalize h9 : (itr (fhmI (W 0) (nO (W 0)) ((plW (W 0)) y_) x_ (nI v_)) 10 0 nob) = bb at hK
    refine g_pl (Z := S3 × WS) (P := fun _ => True) (r0 := fun z => some (.ref 9)) (fun z => z.1) (fun z => z.2) (fun z => bb) (fun z => A 2) (fun z => A 3) (fun K hK => s_fhm hw hy (by omega) (fun s2 md2 => by rw [h9]; exact hK (s2, md2) trivial)) rfl (fun z _ => ?_)
    conv => whnf
    refine b_X11_bestFigure [] ?_
    conv => whnf
    exact hK _ ⟨_, _, _, _, _, _, rfl, hX.pl _ _ _⟩
  · conv => whnf
    refine s_refuse ref_in ?_
    refine b_X11_bestFigure [] ?_
    conv => whnf
    rw [qA_n c30] at hK
    exact hK _ ⟨_, _, _, _, _, _, rfl, hX.bump c30⟩
theorem c_longest {a : Ab} {c : Int32} {H : AH} (hI : Inv a) (hC : CR a H)  {K : Option Value → AH → Prop} (hK : ∀ H2, CR (qB a (fUnk c (nI 1))) H2 → K (some (.int (qA (fUnk c (nI 1)) (if c = 0 then (itr (lonI (a.1 0)) ((nO (a.1 0)) - 1) 0 nob).1 else (itr (lonI (a.1 0)) ((nO (a.1 0)) - 1) 0 nob).2)))) H2) : am_M i_X11_longest [.ref 0, .int c] H K := by
  obtain ⟨W, S, A, I, B, L, rfl, hX⟩ := hC
  have e0 : W 0 = a.1 0 := hX.1
  have e1 : I 1 = nI (a.2.2 1) := hX.2.2.2.2.2.2.1
  have hw := hX.n hI
  try rw [← e0] at hK
  have hn := hw.1
  have hn8 := hw.2.1
  refine e_X11_longest [] ?_
  conv => whnf
  refine s_unknown ?_
  refine b_X11_longest [] ?_
  conv => whnf
  refine ⟨fun c7 => ?_, fun c7 => ?_⟩
  · refine b_X11_longest [] ?_
    conv => whnf
    rw [qA_0 c7, qB_0 c7] at hK
    have uc := c7
    refine g_pl (Z := Unit) (P := fun _ => True) (r0 := fun z => some (.ref 9)) (fun z => S 2) (fun z => W 3) (fun z => (itr (lonI (W 0)) ((nO (W 0)) - 1) 0 nob)) (fun z => A 2) (fun z => A 3) (fun K hK => s_lon hw (hK () trivial)) rfl (fun z _ => ?_)
    conv => whnf
    refine b_X11_longest [] ?_
    conv => whnf
    refine s_answer (b := (itr (lonI (W 0)) ((nO (W 0)) - 1) 0 nob)) rfl ?_
    refine b_X11_longest [] ?_
    conv => whnf
    exact hK _ ⟨_, _, _, _, _, _, rfl, hX.pl _ _ _⟩
  · conv => whnf
    refine s_refuse ref_in ?_
    refine b_X11_longest [] ?_
    conv => whnf
    rw [qA_n c7] at hK
    exact hK _ ⟨_, _, _, _, _, _, rfl, hX.bump c7⟩
theorem c_spared {a : Ab} {v : Int32} {H : AH} (hI : Inv a) (hC : CR a H)  {K : Option Value → AH → Prop} (hK : ∀ H2, CR (qB a (fNoBlow v)) H2 → K (some (.int (qA (fNoBlow v) (itr (spaI (a.1 0) (nO (a.1 0)) (plW (a.1 0)) v) (nO (a.1 0)) 0 (fWhole (a.1 0)))))) H2) : am_M i_X11_spared [.ref 0, .int v] H K := by
  obtain ⟨W, S, A, I, B, L, rfl, hX⟩ := hC
  have e0 : W 0 = a.1 0 := hX.1
  have e1 : I 1 = nI (a.2.2 1) := hX.2.2.2.2.2.2.1
  have hw := hX.n hI
  try rw [← e0] at hK
  have hn := hw.1
  have hn8 := hw.2.1
  refine e_X11_spared [] ?_
  conv => whnf
  refine s_noBlow ?_
  refine b_X11_spared [] ?_
  conv => whnf
  refine ⟨fun c6 => ?_, fun c6 => ?_⟩
  · refine b_X11_spared [] ?_
    conv => whnf
    rw [qA_0 c6, qB_0 c6] at hK
    obtain ⟨v_, hv1, hv2, rfl⟩ := fNoBlow_0 c6
    have hv0 : ¬ nI v_ ≤ 0 := v_b hv1 (by omega)
    refine g_pl (Z := S3) (P := fun _ => True) (r0 := fun z => some (.int (itr (spaI (W 0) (nO (W 0)) (plW (W 0)) (nI v_)) (nO (W 0)) 0 (fWhole (W 0))))) (fun z => z) (fun z => W 3) (fun z => B 1) (fun z => A 2) (fun z => A 3) (fun K hK => s_spa hw (fun s2 => hK s2 trivial)) rfl (fun z _ => ?_)
    conv => whnf
    refine b_X11_spared [] ?_
    conv => whnf
    exact hK _ ⟨_, _, _, _, _, _, rfl, hX.pl _ _ _⟩
  · conv => whnf
    refine s_refuse ref_in ?_
    refine b_X11_spared [] ?_
    conv => whnf
    rw [qA_n c6] at hK
    exact hK _ ⟨_, _, _, _, _, _, rfl, hX.bump c6⟩
theorem c_mutual {a : Ab} {v : Int32} {H : AH} (hI : Inv a) (hC : CR a H)  {K : Option Value → AH → Prop} (hK : ∀ H2, CR (qB a (fNoBlow v)) H2 → K (some (.int (qA (fNoBlow v) (itr (muO (a.1 0) (nO (a.1 0)) (plW (a.1 0)) v) (nO (a.1 0)) 0 (nI 0))))) H2) : am_M i_X11_mutual [.ref 0, .int v] H K := by
  obtain ⟨W, S, A, I, B, L, rfl, hX⟩ := hC
  have e0 : W 0 = a.1 0 := hX.1
  have e1 : I 1 = nI (a.2.2 1) := hX.2.2.2.2.2.2.1
  have hw := hX.n hI
  try rw [← e0] at hK
  have hn := hw.1
  have hn8 := hw.2.1
  refine e_X11_mutual [] ?_
  conv => whnf
  refine s_noBlow ?_
  refine b_X11_mutual [] ?_
  conv => whnf
  refine ⟨fun c6 => ?_, fun c6 => ?_⟩
  · refine b_X11_mutual [] ?_
    conv => whnf
    rw [qA_0 c6, qB_0 c6] at hK
    obtain ⟨v_, hv1, hv2, rfl⟩ := fNoBlow_0 c6
    have hv0 : ¬ nI v_ ≤ 0 := v_b hv1 (by omega)
    refine g_pl (Z := S3 × (Nat → Int32)) (P := fun _ => True) (r0 := fun z => some (.int (itr (muO (W 0) (nO (W 0)) (plW (W 0)) (nI v_)) (nO (W 0)) 0 (nI 0)))) (fun z => z.1) (fun z => W 3) (fun z => B 1) (fun z => z.2) (fun z => A 3) (fun K hK => s_mut hw (fun hd2 s2 => hK (s2, hd2) trivial)) rfl (fun z _ => ?_)
    conv => whnf
    refine b_X11_mutual [] ?_
    conv => whnf
    exact hK _ ⟨_, _, _, _, _, _, rfl, hX.pl _ _ _⟩
  · conv => whnf
    refine s_refuse ref_in ?_
    refine b_X11_mutual [] ?_
    conv => whnf
    rw [qA_n c6] at hK
    exact hK _ ⟨_, _, _, _, _, _, rfl, hX.bump c6⟩
