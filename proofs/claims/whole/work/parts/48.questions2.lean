/-! SPECS: the object's questions, the rest -/
theorem c_codes {a : Ab} {x y : Int32} {H : AH} (hI : Inv a) (hC : CR a H)  {K : Option Value → AH → Prop} (hK : ∀ H2, CR (qB a (fFirst (fNoTh ((a.1 0).1 0) x) (fNoTh ((a.1 0).1 0) y))) H2 → K (some (.int (qA (fFirst (fNoTh ((a.1 0).1 0) x) (fNoTh ((a.1 0).1 0) y)) (fBl (itr (stnF (a.1 0) (nO (a.1 0)) ((plW (a.1 0)) x.toNatClampNeg) y.toNatClampNeg (Int32.ofInt (-9))) 60 1 (Int64.ofNat 0)))))) H2) : am_M i_X11_codes [.ref 0, .int x, .int y] H K := by
  obtain ⟨W, S, A, I, B, L, rfl, hX⟩ := hC
  have e0 : W 0 = a.1 0 := hX.1
  have e1 : I 1 = nI (a.2.2 1) := hX.2.2.2.2.2.2.1
  have hw := hX.n hI
  try rw [← e0] at hK
  have hn := hw.1
  have hn8 := hw.2.1
  refine e_X11_codes [] ?_
  conv => whnf
  refine s_noThing rfl ?_
  refine b_X11_codes [] ?_
  conv => whnf
  refine s_noThing rfl ?_
  refine b_X11_codes [] ?_
  conv => whnf
  refine s_first ?_
  refine b_X11_codes [] ?_
  conv => whnf
  refine ⟨fun c21 => ?_, fun c21 => ?_⟩
  · refine b_X11_codes [] ?_
    conv => whnf
    rw [qA_0 c21, qB_0 c21] at hK
    obtain ⟨r22a, r22b⟩ := fFirst_0 c21
    obtain ⟨x_, hx, rfl⟩ := fNoTh_0 (n := nO (W 0)) (by omega) (by rw [← hn]; exact r22a)
    have ex : (nI x_).toNatClampNeg = x_ := nI_clamp (by omega)
    try rw [ex] at hK
    obtain ⟨y_, hy, rfl⟩ := fNoTh_0 (n := nO (W 0)) (by omega) (by rw [← hn]; exact r22b)
    have ey : (nI y_).toNatClampNeg = y_ := nI_clamp (by omega)
    try rw [ey] at hK
    refine g_ec (Z := S3) (P := fun _ => True) (r0 := fun z => some (.int (fBl (itr (stnF (W 0) (nO (W 0)) ((plW (W 0)) x_) y_ (Int32.ofInt (-9))) 60 1 (Int64.ofNat 0))))) (fun z => (I 5, I 6, I 7)) (fun z => z) (fun z => W 2) (fun z => B 0) (fun K hK => s_stn hw hx (by omega) (fun s2 => hK s2 trivial)) rfl (fun z _ => ?_)
    conv => whnf
    refine b_X11_codes [] ?_
    conv => whnf
    exact hK _ ⟨_, _, _, _, _, _, rfl, hX.ec _ _ _ _⟩
  · conv => whnf
    refine s_refuse ref_in ?_
    refine b_X11_codes [] ?_
    conv => whnf
    rw [qA_n c21] at hK
    exact hK _ ⟨_, _, _, _, _, _, rfl, hX.bump c21⟩
def fSec (r x y z : Int32) : Int32 := if r = 0 then (if z = y then Int32.ofInt (-3) else if z = x then Int32.ofInt (-3) else r) else r
theorem fSec_0 {r x y z : Int32} (h : fSec r x y z = 0) : r = 0 ∧ z ≠ y ∧ z ≠ x := by
  unfold fSec at h
  by_cases h1 : r = 0
  · rw [if_pos h1] at h
    by_cases h2 : z = y
    · rw [if_pos h2] at h; exact absurd h (by decide)
    · rw [if_neg h2] at h
      by_cases h3 : z = x
      · rw [if_pos h3] at h; exact absurd h (by decide)
      · exact ⟨h1, h2, h3⟩
  · rw [if_neg h1] at h; exact absurd h h1
theorem c_secret {a : Ab} {x y z : Int32} {H : AH} (hI : Inv a) (hC : CR a H)  {K : Option Value → AH → Prop} (hK : ∀ H2, CR (qB a (fSec (fFirst (fFirst (fNoTh ((a.1 0).1 0) x) (fNoTh ((a.1 0).1 0) y)) (fNoTh ((a.1 0).1 0) z)) x y z)) H2 → K (some (.int (qA (fSec (fFirst (fFirst (fNoTh ((a.1 0).1 0) x) (fNoTh ((a.1 0).1 0) y)) (fNoTh ((a.1 0).1 0) z)) x y z) (fBl (itr (stnF (a.1 0) (nO (a.1 0)) ((plW (a.1 0)) x.toNatClampNeg) y.toNatClampNeg z) 60 1 (Int64.ofNat 0)))))) H2) : am_M i_X11_secret [.ref 0, .int x, .int y, .int z] H K := by
  obtain ⟨W, S, A, I, B, L, rfl, hX⟩ := hC
  have e0 : W 0 = a.1 0 := hX.1
  have e1 : I 1 = nI (a.2.2 1) := hX.2.2.2.2.2.2.1
  have hw := hX.n hI
  try rw [← e0] at hK
  have hn := hw.1
  have hn8 := hw.2.1
  refine e_X11_secret [] ?_
  conv => whnf
  refine s_noThing rfl ?_
  refine b_X11_secret [] ?_
  conv => whnf
  refine s_noThing rfl ?_
  refine b_X11_secret [] ?_
  conv => whnf
  refine s_first ?_
  refine b_X11_secret [] ?_
  conv => whnf
  refine s_noThing rfl ?_
  refine b_X11_secret [] ?_
  conv => whnf
  refine s_first ?_
  refine b_X11_secret [] ?_
  conv => whnf
  refine ⟨fun c38 => ?_, fun c38 => ?_⟩
  · conv => whnf
    refine ⟨fun c43 => ?_, fun c43 => ?_⟩
    · refine b_X11_secret [] ?_
      conv => whnf
      refine ⟨fun c57 => absurd c57 (by decide), fun c57 => ?_⟩
      conv => whnf
      refine s_refuse ref_in ?_
      refine b_X11_secret [] ?_
      conv => whnf
      have hd : ¬ Int32.ofInt (-3) = 0 := by decide
      rw [fSec, if_pos c38, if_pos c43, qA_n hd] at hK
      exact hK _ ⟨_, _, _, _, _, _, rfl, hX.bump hd⟩
    · conv => whnf
      refine ⟨fun c48 => ?_, fun c48 => ?_⟩
      · conv => whnf
        refine ⟨fun c57 => absurd c57 (by decide), fun c57 => ?_⟩
        conv => whnf
        refine s_refuse ref_in ?_
        refine b_X11_secret [] ?_
        conv => whnf
        have hd : ¬ Int32.ofInt (-3) = 0 := by decide
        rw [fSec, if_pos c38, if_neg c43, if_pos c48, qA_n hd] at hK
        exact hK _ ⟨_, _, _, _, _, _, rfl, hX.bump hd⟩
      · refine b_X11_secret [] ?_
        conv => whnf
        refine ⟨fun c57 => ?_, fun c57 => absurd c38 c57⟩
        refine b_X11_secret [] ?_
        conv => whnf
        rw [fSec, if_pos c38, if_neg c43, if_neg c48, qA_0 c38, qB_0 c38] at hK
        obtain ⟨r23a, r23b⟩ := fFirst_0 c38
        obtain ⟨r24a, r24b⟩ := fFirst_0 r23a
        obtain ⟨x_, hx, rfl⟩ := fNoTh_0 (n := nO (W 0)) (by omega) (by rw [← hn]; exact r24a)
        have ex : (nI x_).toNatClampNeg = x_ := nI_clamp (by omega)
        try rw [ex] at hK
        obtain ⟨y_, hy, rfl⟩ := fNoTh_0 (n := nO (W 0)) (by omega) (by rw [← hn]; exact r24b)
        have ey : (nI y_).toNatClampNeg = y_ := nI_clamp (by omega)
        try rw [ey] at hK
        obtain ⟨z_, hz, rfl⟩ := fNoTh_0 (n := nO (W 0)) (by omega) (by rw [← hn]; exact r23b)
        have ez : (nI z_).toNatClampNeg = z_ := nI_clamp (by omega)
        try rw [ez] at hK
        refine g_ec (Z := S3) (P := fun _ => True) (r0 := fun z => some (.int (fBl (itr (stnF (W 0) (nO (W 0)) ((plW (W 0)) x_) y_ (nI z_)) 60 1 (Int64.ofNat 0))))) (fun z => (I 5, I 6, I 7)) (fun z => z) (fun z => W 2) (fun z => B 0) (fun K hK => s_stn hw hx (by omega) (fun s2 => hK s2 trivial)) rfl (fun z _ => ?_)
        conv => whnf
        refine b_X11_secret [] ?_
        conv => whnf
        exact hK _ ⟨_, _, _, _, _, _, rfl, hX.ec _ _ _ _⟩
  · refine b_X11_secret [] ?_
    conv => whnf
    refine ⟨fun c57 => absurd c57 c38, fun c57 => ?_⟩
    conv => whnf
    refine s_refuse ref_in ?_
    refine b_X11_secret [] ?_
    conv => whnf
    rw [fSec, if_neg c38, qA_n c38] at hK
    exact hK _ ⟨_, _, _, _, _, _, rfl, hX.bump c38⟩
theorem c_apart {a : Ab} {x y : Int32} {H : AH} (hI : Inv a) (hC : CR a H)  {K : Option Value → AH → Prop} (hK : ∀ H2, CR (qB a (fFirst (fNoTh ((a.1 0).1 0) x) (fNoTh ((a.1 0).1 0) y))) H2 → K (some (.int (qA (fFirst (fNoTh ((a.1 0).1 0) x) (fNoTh ((a.1 0).1 0) y)) (absI (nI ((plW (a.1 0)) x.toNatClampNeg) - nI ((plW (a.1 0)) y.toNatClampNeg)))))) H2) : am_M i_X11_apart [.ref 0, .int x, .int y] H K := by
  obtain ⟨W, S, A, I, B, L, rfl, hX⟩ := hC
  have e0 : W 0 = a.1 0 := hX.1
  have e1 : I 1 = nI (a.2.2 1) := hX.2.2.2.2.2.2.1
  have hw := hX.n hI
  try rw [← e0] at hK
  have hn := hw.1
  have hn8 := hw.2.1
  refine e_X11_apart [] ?_
  conv => whnf
  refine s_noThing rfl ?_
  refine b_X11_apart [] ?_
  conv => whnf
  refine s_noThing rfl ?_
  refine b_X11_apart [] ?_
  conv => whnf
  refine s_first ?_
  refine b_X11_apart [] ?_
  conv => whnf
  refine ⟨fun c21 => ?_, fun c21 => ?_⟩
  · refine b_X11_apart [] ?_
    conv => whnf
    rw [qA_0 c21, qB_0 c21] at hK
    obtain ⟨r25a, r25b⟩ := fFirst_0 c21
    obtain ⟨x_, hx, rfl⟩ := fNoTh_0 (n := nO (W 0)) (by omega) (by rw [← hn]; exact r25a)
    have ex : (nI x_).toNatClampNeg = x_ := nI_clamp (by omega)
    try rw [ex] at hK
    obtain ⟨y_, hy, rfl⟩ := fNoTh_0 (n := nO (W 0)) (by omega) (by rw [← hn]; exact r25b)
    have ey : (nI y_).toNatClampNeg = y_ := nI_clamp (by omega)
    try rw [ey] at hK
    refine ⟨(vp_in_nI (show x_ < 8 by omega) (by decide)), ?_⟩
    conv => whnf
    rw [ex, (hw.2.2.2 x_ hx).1]
    refine ⟨(vp_in_nI (show y_ < 8 by omega) (by decide)), ?_⟩
    conv => whnf
    rw [ey, (hw.2.2.2 y_ hy).1]
    exact hK _ ⟨_, _, _, _, _, _, rfl, hX⟩
  · conv => whnf
    refine s_refuse ref_in ?_
    refine b_X11_apart [] ?_
    conv => whnf
    rw [qA_n c21] at hK
    exact hK _ ⟨_, _, _, _, _, _, rfl, hX.bump c21⟩
theorem c_heaps {a : Ab}  {H : AH} (hI : Inv a) (hC : CR a H)  {K : Option Value → AH → Prop} (hK : ∀ H2, CR a H2 → K (some (.int ((itr (fStr (a.1 0)) (nO (a.1 0)) 0 (nI 0, false)).1))) H2) : am_M i_X11_heaps [.ref 0] H K := by
  obtain ⟨W, S, A, I, B, L, rfl, hX⟩ := hC
  have e0 : W 0 = a.1 0 := hX.1
  have e1 : I 1 = nI (a.2.2 1) := hX.2.2.2.2.2.2.1
  have hw := hX.n hI
  try rw [← e0] at hK
  have hn := hw.1
  have hn8 := hw.2.1
  refine e_X11_heaps [] ?_
  conv => whnf
  refine s_stretch (w := W 0) (r := fun i => 2 + i) ⟨rfl, rfl, rfl, rfl, rfl, rfl⟩ hn hn8 ?_
  refine b_X11_heaps [] ?_
  conv => whnf
  exact hK _ ⟨_, _, _, _, _, _, rfl, hX⟩
theorem c_domino {a : Ab} {v : Int32} {H : AH} (hI : Inv a) (hC : CR a H)  {K : Option Value → AH → Prop} (hK : ∀ H2, CR (qB a (fNoBlow v)) H2 → K (some (.int (qA (fNoBlow v) (fBc ((itr (bbaI (nO (a.1 0)) v) (nO (a.1 0)) 0 (a.1 0)).1 1))))) H2) : am_M i_X11_domino [.ref 0, .int v] H K := by
  obtain ⟨W, S, A, I, B, L, rfl, hX⟩ := hC
  have e0 : W 0 = a.1 0 := hX.1
  have e1 : I 1 = nI (a.2.2 1) := hX.2.2.2.2.2.2.1
  have hw := hX.n hI
  try rw [← e0] at hK
  have hn := hw.1
  have hn8 := hw.2.1
  refine e_X11_domino [] ?_
  conv => whnf
  refine s_noBlow ?_
  refine b_X11_domino [] ?_
  conv => whnf
  refine ⟨fun c6 => ?_, fun c6 => ?_⟩
  · refine b_X11_domino [] ?_
    conv => whnf
    rw [qA_0 c6, qB_0 c6] at hK
    obtain ⟨v_, hv1, hv2, rfl⟩ := fNoBlow_0 c6
    have hv0 : ¬ nI v_ ≤ 0 := v_b hv1 (by omega)
    refine g_fu (Z := S3 × WS) (P := fun _ => True) (r0 := fun z => some (.int (fBc ((itr (bbaI (nO (W 0)) (nI v_)) (nO (W 0)) 0 (W 0)).1 1)))) (fun z => z.1) (fun z => z.2) (fun z => (I 8, (L 0, L 1), I 9, I 10)) (fun K hK => s_bba hw (fun s2 md2 => hK (s2, md2) trivial)) rfl (fun z _ => ?_)
    conv => whnf
    refine b_X11_domino [] ?_
    conv => whnf
    exact hK _ ⟨_, _, _, _, _, _, rfl, hX.fu _ _ _ _⟩
  · conv => whnf
    refine s_refuse ref_in ?_
    refine b_X11_domino [] ?_
    conv => whnf
    rw [qA_n c6] at hK
    exact hK _ ⟨_, _, _, _, _, _, rfl, hX.bump c6⟩
theorem c_lasts {a : Ab} {v : Int32} {H : AH} (hI : Inv a) (hC : CR a H)  {K : Option Value → AH → Prop} (hK : ∀ H2, CR (qB a (fNoBlow v)) H2 → K (some (.int (qA (fNoBlow v) (fbdF (a.1 0) (nO (a.1 0)) (plW (a.1 0)) v (nO (a.1 0)) 0 (nI 0))))) H2) : am_M i_X11_lasts [.ref 0, .int v] H K := by
  obtain ⟨W, S, A, I, B, L, rfl, hX⟩ := hC
  have e0 : W 0 = a.1 0 := hX.1
  have e1 : I 1 = nI (a.2.2 1) := hX.2.2.2.2.2.2.1
  have hw := hX.n hI
  try rw [← e0] at hK
  have hn := hw.1
  have hn8 := hw.2.1
  refine e_X11_lasts [] ?_
  conv => whnf
  refine s_noBlow ?_
  refine b_X11_lasts [] ?_
  conv => whnf
  refine ⟨fun c6 => ?_, fun c6 => ?_⟩
  · refine b_X11_lasts [] ?_
    conv => whnf
    rw [qA_0 c6, qB_0 c6] at hK
    obtain ⟨v_, hv1, hv2, rfl⟩ := fNoBlow_0 c6
    have hv0 : ¬ nI v_ ≤ 0 := v_b hv1 (by omega)
    refine g_fu (Z := S3) (P := fun _ => True) (r0 := fun z => some (.int (fbdF (W 0) (nO (W 0)) (plW (W 0)) (nI v_) (nO (W 0)) 0 (nI 0)))) (fun z => z) (fun z => W 5) (fun z => (I 8, (L 0, L 1), I 9, I 10)) (fun K hK => s_fbd hw (fun s2 => hK s2 trivial)) rfl (fun z _ => ?_)
    conv => whnf
    refine b_X11_lasts [] ?_
    conv => whnf
    exact hK _ ⟨_, _, _, _, _, _, rfl, hX.fu _ _ _ _⟩
  · conv => whnf
    refine s_refuse ref_in ?_
    refine b_X11_lasts [] ?_
    conv => whnf
    rw [qA_n c6] at hK
    exact hK _ ⟨_, _, _, _, _, _, rfl, hX.bump c6⟩
theorem fWhole_0 {w : WS} (h : w.1 0 = nI 0) : fBc (fWhole w) = nI 0 := by
  unfold fWhole
  rw [h, show (nI 1 <<< (nI 0 &&& 31)) - nI 1 = (0 : Int32) by decide, Int32.zero_and]
  decide
theorem whbF_0 {w : WS} (h : w.1 0 = nI 0) (P : Nat → Nat) (v : Int32) (m f : Nat) : whbF 0 P v m w f = nI 0 := by
  cases m with
  | zero => exact fWhole_0 h
  | succ m =>
    rw [whbF]
    exact if_pos (show nxW (w.1 1) 0 f 0 0 = Int32.ofInt (-9) from rfl)
theorem s_whb0 {w : WS} {m : Nat} {v : Int32} {A P : Nat → Nat} {q : F5} {md : WS} {s : S3} (hw : wOk w 0 A P) (hm : m < 2 ^ 30) {K : Option Value → AH → Prop} (hK : ∀ s2 md2, K (some (.int (nI 0))) (fC s2 md2 q w)) : am_M i_X2_wholeBehind [.ref 0, .ref 9, .int v, .int (nI m)] (fC s md q w) K := by
  refine e_X2_wholeBehind [] ?_
  conv => whnf
  refine f_copy (w := md) (v := w) [3, 4, 5, 6, 7, 8, 9, 10, 11, 12, 13, 14] rfl rfl rfl ⟨rfl, rfl, rfl, rfl, rfl, rfl, rfl, rfl, rfl, rfl, rfl, rfl, trivial⟩ (fun w2 hw2 => ?_)
  conv => whnf
  refine b_X2_wholeBehind [] ?_
  conv => whnf
  refine ⟨fun c17 => ?_, fun c17 => ?_⟩
  · refine b_X2_wholeBehind [] ?_
    conv => whnf
    refine s_wholeBits (w := w2) (r := fun i => 4 + i) ⟨rfl, rfl, rfl, rfl, rfl, rfl⟩ ?_
    refine b_X2_wholeBehind [] ?_
    conv => whnf
    refine s_bc ?_
    rw [fWhole_0 (hw2.ok hw).1]
    refine b_X2_wholeBehind [] ?_
    conv => whnf
    exact hK _ _
  · conv => whnf
    refine s_nextW (w := w2) (n := 0) (f := 0) (r := fun i => 4 + i) ⟨rfl, rfl, rfl, rfl, rfl, rfl⟩ (hw2.ok hw).1 (by omega) (by omega) ?_
    refine b_X2_wholeBehind [] ?_
    conv => whnf
    refine ⟨fun c35 => ?_, fun c35 => absurd rfl c35⟩
    conv => whnf
    exact hK _ _
theorem s_whbA {w : WS} {n m : Nat} {v : Int32} {A P : Nat → Nat} {q : F5} {md : WS} {s : S3} (hw : wOk w n A P) (hm : m < 2 ^ 30) {K : Option Value → AH → Prop} (hK : ∀ s2 md2, K (some (.int (whbF n P v m w 0))) (fC s2 md2 q w)) : am_M i_X2_wholeBehind [.ref 0, .ref 9, .int v, .int (nI m)] (fC s md q w) K := by
  by_cases h : n = 0
  · subst h
    rw [whbF_0 hw.1] at hK
    exact s_whb0 hw hm hK
  · exact s_whb hw (by omega) hm hK
theorem fBelow_0 {x k : Int32} (h : fBelow x k = 0) : k ≤ x := by
  unfold fBelow at h
  by_cases h1 : k ≤ x
  · exact h1
  · rw [if_neg h1] at h; exact absurd h (by decide)
theorem fAbove_0 {x k : Int32} (h : fAbove x k = 0) : x ≤ k := by
  unfold fAbove at h
  by_cases h1 : x ≤ k
  · exact h1
  · rw [if_neg h1] at h; exact absurd h (by decide)
theorem btw_of {x : Int32} {lo hi : Nat} (hh : hi < 2 ^ 31) (hl : lo < 2 ^ 31) (h1 : nI lo ≤ x) (h2 : x ≤ nI hi) : ∃ j, lo ≤ j ∧ j ≤ hi ∧ x = nI j := by
  have : ¬ x < 0 := fun z => absurd (Int32.lt_of_le_of_lt h1 z) (by rw [← nI_0]; exact fun q => absurd ((nI_ltI hl (by decide)).mp q) (by omega))
  obtain ⟨j, hj, rfl⟩ := nI_of this
  exact ⟨j, (nI_leI hl hj).mp h1, (nI_leI hj hh).mp h2, rfl⟩
theorem c_left {a : Ab} {v i : Int32} {H : AH} (hI : Inv a) (hC : CR a H)  {K : Option Value → AH → Prop} (hK : ∀ H2, CR (qB a (fFirst (fFirst (fBelow v (nI 1)) (fBelow i (nI 0))) (fFirst (fAbove v (nI 60)) (fAbove i (nI 60))))) H2 → K (some (.int (qA (fFirst (fFirst (fBelow v (nI 1)) (fBelow i (nI 0))) (fFirst (fAbove v (nI 60)) (fAbove i (nI 60)))) (whbF (nO (a.1 0)) (plW (a.1 0)) v i.toNatClampNeg (a.1 0) 0)))) H2) : am_M i_X11_left [.ref 0, .int v, .int i] H K := by
  obtain ⟨W, S, A, I, B, L, rfl, hX⟩ := hC
  have e0 : W 0 = a.1 0 := hX.1
  have e1 : I 1 = nI (a.2.2 1) := hX.2.2.2.2.2.2.1
  have hw := hX.n hI
  try rw [← e0] at hK
  have hn := hw.1
  have hn8 := hw.2.1
  refine e_X11_left [] ?_
  conv => whnf
  refine s_below ?_
  refine b_X11_left [] ?_
  conv => whnf
  refine s_below ?_
  refine b_X11_left [] ?_
  conv => whnf
  refine s_first ?_
  refine b_X11_left [] ?_
  conv => whnf
  refine s_above ?_
  refine b_X11_left [] ?_
  conv => whnf
  refine s_above ?_
  refine b_X11_left [] ?_
  conv => whnf
  refine s_first ?_
  refine b_X11_left [] ?_
  conv => whnf
  refine s_first ?_
  refine b_X11_left [] ?_
  conv => whnf
  refine ⟨fun c35 => ?_, fun c35 => ?_⟩
  · refine b_X11_left [] ?_
    conv => whnf
    rw [qA_0 c35, qB_0 c35] at hK
    obtain ⟨r26a, r26b⟩ := fFirst_0 c35
    obtain ⟨r27a, r27b⟩ := fFirst_0 r26a
    have lv := r27a
    have li := r27b
    obtain ⟨r28a, r28b⟩ := fFirst_0 r26b
    have gv := r28a
    have gi := r28b
    obtain ⟨i_, hi1, hi2, rfl⟩ := btw_of (by decide) (by decide) (fBelow_0 li) (fAbove_0 gi)
    have ei : (nI i_).toNatClampNeg = i_ := nI_clamp (by omega)
    rw [ei] at hK
    refine g_fu (Z := S3 × WS) (P := fun _ => True) (r0 := fun z => some (.int (whbF (nO (W 0)) (plW (W 0)) v i_ (W 0) 0))) (fun z => z.1) (fun z => z.2) (fun z => (I 8, (L 0, L 1), I 9, I 10)) (fun K hK => s_whbA hw (by omega) (fun s2 md2 => hK (s2, md2) trivial)) rfl (fun z _ => ?_)
    conv => whnf
    refine b_X11_left [] ?_
    conv => whnf
    exact hK _ ⟨_, _, _, _, _, _, rfl, hX.fu _ _ _ _⟩
  · conv => whnf
    refine s_refuse ref_in ?_
    refine b_X11_left [] ?_
    conv => whnf
    rw [qA_n c35] at hK
    exact hK _ ⟨_, _, _, _, _, _, rfl, hX.bump c35⟩
theorem c_chance {a : Ab} {x y v i q c : Int32} {H : AH} (hI : Inv a) (hC : CR a H)  {K : Option Value → AH → Prop} (hK : ∀ H2, CR (qB a (fFirst (fFirst (fFirst (fFirst (fNoTh ((a.1 0).1 0) x) (fNoTh ((a.1 0).1 0) y)) (fFirst (fFirst (fBelow v (nI 1)) (fBelow i (nI 0))) (fBelow q (nI 2)))) (fFirst (fFirst (fAbove v (nI 60)) (fAbove i (nI 8))) (fAbove q (nI 20)))) (fUnk c (nI 1)))) H2 → K (some (.long (if (fFirst (fFirst (fFirst (fFirst (fNoTh ((a.1 0).1 0) x) (fNoTh ((a.1 0).1 0) y)) (fFirst (fFirst (fBelow v (nI 1)) (fBelow i (nI 0))) (fBelow q (nI 2)))) (fFirst (fFirst (fAbove v (nI 60)) (fAbove i (nI 8))) (fAbove q (nI 20)))) (fUnk c (nI 1))) = 0 then (if c = 0 then (oddS (a.1 0) (nO (a.1 0)) (plW (a.1 0)) v x.toNatClampNeg y.toNatClampNeg q i.toNatClampNeg) / oddG (oddT q i.toNatClampNeg) (oddS (a.1 0) (nO (a.1 0)) (plW (a.1 0)) v x.toNatClampNeg y.toNatClampNeg q i.toNatClampNeg) else (oddT q i.toNatClampNeg) / oddG (oddT q i.toNatClampNeg) (oddS (a.1 0) (nO (a.1 0)) (plW (a.1 0)) v x.toNatClampNeg y.toNatClampNeg q i.toNatClampNeg)) else Int64.ofNat 4000000000000000000 - ((fFirst (fFirst (fFirst (fFirst (fNoTh ((a.1 0).1 0) x) (fNoTh ((a.1 0).1 0) y)) (fFirst (fFirst (fBelow v (nI 1)) (fBelow i (nI 0))) (fBelow q (nI 2)))) (fFirst (fFirst (fAbove v (nI 60)) (fAbove i (nI 8))) (fAbove q (nI 20)))) (fUnk c (nI 1)))).toInt64))) H2) : am_M i_X11_chance [.ref 0, .int x, .int y, .int v, .int i, .int q, .int c] H K := by
  obtain ⟨W, S, A, I, B, L, rfl, hX⟩ := hC
  have e0 : W 0 = a.1 0 := hX.1
  have e1 : I 1 = nI (a.2.2 1) := hX.2.2.2.2.2.2.1
  have hw := hX.n hI
  try rw [← e0] at hK
  have hn := hw.1
  have hn8 := hw.2.1
  refine e_X11_chance [] ?_
  conv => whnf
  refine s_noThing rfl ?_
  refine b_X11_chance [] ?_
  conv => whnf
  refine s_noThing rfl ?_
  refine b_X11_chance [] ?_
  conv => whnf
  refine s_first ?_
  refine b_X11_chance [] ?_
  conv => whnf
  refine s_below ?_
  refine b_X11_chance [] ?_
  conv => whnf
  refine s_below ?_
  refine b_X11_chance [] ?_
  conv => whnf
  refine s_first ?_
  refine b_X11_chance [] ?_
  conv => whnf
  refine s_below ?_
  refine b_X11_chance [] ?_
  conv => whnf
  refine s_first ?_
  refine b_X11_chance [] ?_
  conv => whnf
  refine s_first ?_
  refine b_X11_chance [] ?_
  conv => whnf
  refine s_above ?_
  refine b_X11_chance [] ?_
  conv => whnf
  refine s_above ?_
  refine b_X11_chance [] ?_
  conv => whnf
  refine s_first ?_
  refine b_X11_chance [] ?_
  conv => whnf
  refine s_above ?_
  refine b_X11_chance [] ?_
  conv => whnf
  refine s_first ?_
  refine b_X11_chance [] ?_
  conv => whnf
  refine s_first ?_
  refine b_X11_chance [] ?_
  conv => whnf
  refine s_unknown ?_
  refine b_X11_chance [] ?_
  conv => whnf
  refine s_first ?_
  refine b_X11_chance [] ?_
  conv => whnf
  refine ⟨fun c99 => ?_, fun c99 => ?_⟩
  · refine b_X11_chance [] ?_
    conv => whnf
    rw [if_pos c99, qB_0 c99] at hK
    obtain ⟨r29a, r29b⟩ := fFirst_0 c99
    obtain ⟨r30a, r30b⟩ := fFirst_0 r29a
    obtain ⟨r31a, r31b⟩ := fFirst_0 r30a
    obtain ⟨r32a, r32b⟩ := fFirst_0 r31a
    obtain ⟨x_, hx, rfl⟩ := fNoTh_0 (n := nO (W 0)) (by omega) (by rw [← hn]; exact r32a)
    have ex : (nI x_).toNatClampNeg = x_ := nI_clamp (by omega)
    try rw [ex] at hK
    obtain ⟨y_, hy, rfl⟩ := fNoTh_0 (n := nO (W 0)) (by omega) (by rw [← hn]; exact r32b)
    have ey : (nI y_).toNatClampNeg = y_ := nI_clamp (by omega)
    try rw [ey] at hK
    obtain ⟨r33a, r33b⟩ := fFirst_0 r31b
    obtain ⟨r34a, r34b⟩ := fFirst_0 r33a
    have lv := r34a
    have li := r34b
    have lq := r33b
    obtain ⟨r35a, r35b⟩ := fFirst_0 r30b
    obtain ⟨r36a, r36b⟩ := fFirst_0 r35a
    have gv := r36a
    have gi := r36b
    have gq := r35b
    have uc := r29b
    obtain ⟨i_, hi1, hi2, rfl⟩ := btw_of (by decide) (by decide) (fBelow_0 li) (fAbove_0 gi)
    have ei : (nI i_).toNatClampNeg = i_ := nI_clamp (by omega)
    rw [ei] at hK
    refine g_fu (Z := S3 × WS) (P := fun _ => True) (r0 := fun z => none) (fun z => z.1) (fun z => z.2) (fun z => (I 8, (oddS (W 0) (nO (W 0)) (plW (W 0)) v x_ y_ q i_ / oddG (oddT q i_) (oddS (W 0) (nO (W 0)) (plW (W 0)) v x_ y_ q i_), oddT q i_ / oddG (oddT q i_) (oddS (W 0) (nO (W 0)) (plW (W 0)) v x_ y_ q i_)), I 9, I 10)) (fun K hK => s_odd hw (by omega) hx (fun s2 md2 => hK (s2, md2) trivial)) rfl (fun z _ => ?_)
    conv => whnf
    refine b_X11_chance [] ?_
    conv => whnf
    refine ⟨fun c134 => ?_, fun c134 => ?_⟩
    · conv => whnf
      refine b_X11_chance [] ?_
      conv => whnf
      rw [if_pos c134] at hK
      exact hK _ ⟨_, _, _, _, _, _, rfl, hX.fu _ _ _ _⟩
    · refine b_X11_chance [] ?_
      conv => whnf
      rw [if_neg c134] at hK
      exact hK _ ⟨_, _, _, _, _, _, rfl, hX.fu _ _ _ _⟩
  · conv => whnf
    refine s_refuse ref_in ?_
    refine b_X11_chance [] ?_
    conv => whnf
    rw [if_neg c99] at hK
    exact hK _ ⟨_, _, _, _, _, _, rfl, hX.bump c99⟩
theorem c_lots {a : Ab} {i z9 c : Int32} {H : AH} (hI : Inv a) (hC : CR a H)  {K : Option Value → AH → Prop} (hK : ∀ H2, CR (qB a (fFirst (fFirst (fBelow i (nI 1)) (fAbove i (nI 20))) (fUnk c (nI 1)))) H2 → K (some (.int (qA (fFirst (fFirst (fBelow i (nI 1)) (fAbove i (nI 20))) (fUnk c (nI 1))) (if c = 0 then (yrs (a.1 0) (nO (a.1 0)) (plW (a.1 0)) i.toNatClampNeg z9).2.1 else (yrs (a.1 0) (nO (a.1 0)) (plW (a.1 0)) i.toNatClampNeg z9).2.2)))) H2) : am_M i_X11_lots [.ref 0, .int i, .int z9, .int c] H K := by
  obtain ⟨W, S, A, I, B, L, rfl, hX⟩ := hC
  have e0 : W 0 = a.1 0 := hX.1
  have e1 : I 1 = nI (a.2.2 1) := hX.2.2.2.2.2.2.1
  have hw := hX.n hI
  try rw [← e0] at hK
  have hn := hw.1
  have hn8 := hw.2.1
  refine e_X11_lots [] ?_
  conv => whnf
  refine s_below ?_
  refine b_X11_lots [] ?_
  conv => whnf
  refine s_above ?_
  refine b_X11_lots [] ?_
  conv => whnf
  refine s_first ?_
  refine b_X11_lots [] ?_
  conv => whnf
  refine s_unknown ?_
  refine b_X11_lots [] ?_
  conv => whnf
  refine s_first ?_
  refine b_X11_lots [] ?_
  conv => whnf
  refine ⟨fun c26 => ?_, fun c26 => ?_⟩
  · refine b_X11_lots [] ?_
    conv => whnf
    rw [qA_0 c26, qB_0 c26] at hK
    obtain ⟨r37a, r37b⟩ := fFirst_0 c26
    obtain ⟨r38a, r38b⟩ := fFirst_0 r37a
    have li := r38a
    have gi := r38b
    have uc := r37b
    obtain ⟨i_, hi1, hi2, rfl⟩ := btw_of (by decide) (by decide) (fBelow_0 li) (fAbove_0 gi)
    have ei : (nI i_).toNatClampNeg = i_ := nI_clamp (by omega)
    rw [ei] at hK
    refine g_fu (Z := S3 × WS) (P := fun _ => True) (r0 := fun z => none) (fun z => z.1) (fun z => z.2) (fun z => ((yrs (W 0) (nO (W 0)) (plW (W 0)) i_ z9).1, (L 0, L 1), (yrs (W 0) (nO (W 0)) (plW (W 0)) i_ z9).2)) (fun K hK => s_yrs hw (by omega) (fun s2 md2 => hK (s2, md2) trivial)) rfl (fun z _ => ?_)
    conv => whnf
    refine b_X11_lots [] ?_
    conv => whnf
    refine ⟨fun c50 => ?_, fun c50 => ?_⟩
    · conv => whnf
      refine b_X11_lots [] ?_
      conv => whnf
      rw [if_pos c50] at hK
      exact hK _ ⟨_, _, _, _, _, _, rfl, hX.fu _ _ _ _⟩
    · refine b_X11_lots [] ?_
      conv => whnf
      rw [if_neg c50] at hK
      exact hK _ ⟨_, _, _, _, _, _, rfl, hX.fu _ _ _ _⟩
  · conv => whnf
    refine s_refuse ref_in ?_
    refine b_X11_lots [] ?_
    conv => whnf
    rw [qA_n c26] at hK
    exact hK _ ⟨_, _, _, _, _, _, rfl, hX.bump c26⟩
theorem c_thingOf {a : Ab} {x c : Int32} {H : AH} (hI : Inv a) (hC : CR a H)  {K : Option Value → AH → Prop} (hK : ∀ H2, CR (qB a (fFirst (fNoTh ((a.1 0).1 0) x) (fUnk c (nI 6)))) H2 → K (some (.int (qA (fFirst (fNoTh ((a.1 0).1 0) x) (fUnk c (nI 6))) (if c = nI 0 then (a.1 0).2 0 x.toNatClampNeg else if c = nI 1 then (a.1 0).2 1 x.toNatClampNeg else if c = nI 2 then (a.1 0).2 2 x.toNatClampNeg else if c = nI 3 then bI (hasB ((a.1 0).1 1) x) else if c = nI 4 then fLoss ((a.1 0).2 0 x.toNatClampNeg) ((a.1 0).2 1 x.toNatClampNeg) else if c = nI 5 then fStands ((a.1 0).2 0 x.toNatClampNeg) ((a.1 0).2 1 x.toNatClampNeg) else nI ((plW (a.1 0)) x.toNatClampNeg))))) H2) : am_M i_X11_thingOf [.ref 0, .int x, .int c] H K := by
  obtain ⟨W, S, A, I, B, L, rfl, hX⟩ := hC
  have e0 : W 0 = a.1 0 := hX.1
  have e1 : I 1 = nI (a.2.2 1) := hX.2.2.2.2.2.2.1
  have hw := hX.n hI
  try rw [← e0] at hK
  have hn := hw.1
  have hn8 := hw.2.1
  refine e_X11_thingOf [] ?_
  conv => whnf
  refine s_noThing rfl ?_
  refine b_X11_thingOf [] ?_
  conv => whnf
  refine s_unknown ?_
  refine b_X11_thingOf [] ?_
  conv => whnf
  refine s_first ?_
  refine b_X11_thingOf [] ?_
  conv => whnf
  refine ⟨fun c19 => ?_, fun c19 => ?_⟩
  · refine b_X11_thingOf [] ?_
    conv => whnf
    rw [qA_0 c19, qB_0 c19] at hK
    obtain ⟨r39a, r39b⟩ := fFirst_0 c19
    obtain ⟨x_, hx, rfl⟩ := fNoTh_0 (n := nO (W 0)) (by omega) (by rw [← hn]; exact r39a)
    have ex : (nI x_).toNatClampNeg = x_ := nI_clamp (by omega)
    try rw [ex] at hK
    have uc := r39b
    refine ⟨fun (s29_0 : _ = nI 0) => ?_, fun (s29_0 : ¬ _ = nI 0) => ?_⟩
    · conv => whnf
      refine b_X11_thingOf [] ?_
      conv => whnf
      refine ⟨(vp_in_nI (show x_ < 8 by omega) (by decide)), ?_⟩
      conv => whnf
      try rw [ex]
      rw [if_pos s29_0] at hK
      exact hK _ ⟨_, _, _, _, _, _, rfl, hX⟩
    conv => whnf
    refine ⟨fun (s29_1 : _ = nI 1) => ?_, fun (s29_1 : ¬ _ = nI 1) => ?_⟩
    · conv => whnf
      refine b_X11_thingOf [] ?_
      conv => whnf
      refine ⟨(vp_in_nI (show x_ < 8 by omega) (by decide)), ?_⟩
      conv => whnf
      try rw [ex]
      rw [if_neg s29_0, if_pos s29_1] at hK
      exact hK _ ⟨_, _, _, _, _, _, rfl, hX⟩
    conv => whnf
    refine ⟨fun (s29_2 : _ = nI 2) => ?_, fun (s29_2 : ¬ _ = nI 2) => ?_⟩
    · conv => whnf
      refine b_X11_thingOf [] ?_
      conv => whnf
      refine ⟨(vp_in_nI (show x_ < 8 by omega) (by decide)), ?_⟩
      conv => whnf
      try rw [ex]
      rw [if_neg s29_0, if_neg s29_1, if_pos s29_2] at hK
      exact hK _ ⟨_, _, _, _, _, _, rfl, hX⟩
    conv => whnf
    refine ⟨fun (s29_3 : _ = nI 3) => ?_, fun (s29_3 : ¬ _ = nI 3) => ?_⟩
    · conv => whnf
      refine b_X11_thingOf [] ?_
      conv => whnf
      refine s_isBroken rfl ?_
      refine b_X11_thingOf [] ?_
      conv => whnf
      refine ⟨fun c106 => ?_, fun c106 => ?_⟩
      · refine b_X11_thingOf [] ?_
        conv => whnf
        rw [if_neg s29_0, if_neg s29_1, if_neg s29_2, if_pos s29_3] at hK
        rw [bI_0.mp c106] at hK
        exact hK _ ⟨_, _, _, _, _, _, rfl, hX⟩
      · conv => whnf
        refine b_X11_thingOf [] ?_
        conv => whnf
        rw [if_neg s29_0, if_neg s29_1, if_neg s29_2, if_pos s29_3] at hK
        rw [bI_n0.mp c106] at hK
        exact hK _ ⟨_, _, _, _, _, _, rfl, hX⟩
    conv => whnf
    refine ⟨fun (s29_4 : _ = nI 4) => ?_, fun (s29_4 : ¬ _ = nI 4) => ?_⟩
    · conv => whnf
      refine b_X11_thingOf [] ?_
      conv => whnf
      refine ⟨(vp_in_nI (show x_ < 8 by omega) (by decide)), ?_⟩
      conv => whnf
      try rw [ex]
      refine ⟨(vp_in_nI (show x_ < 8 by omega) (by decide)), ?_⟩
      conv => whnf
      try rw [ex]
      refine s_lossOf ?_
      refine b_X11_thingOf [] ?_
      conv => whnf
      rw [if_neg s29_0, if_neg s29_1, if_neg s29_2, if_neg s29_3, if_pos s29_4] at hK
      exact hK _ ⟨_, _, _, _, _, _, rfl, hX⟩
    conv => whnf
    refine ⟨fun (s29_5 : _ = nI 5) => ?_, fun (s29_5 : ¬ _ = nI 5) => ?_⟩
    · conv => whnf
      refine b_X11_thingOf [] ?_
      conv => whnf
      refine ⟨(vp_in_nI (show x_ < 8 by omega) (by decide)), ?_⟩
      conv => whnf
      try rw [ex]
      refine ⟨(vp_in_nI (show x_ < 8 by omega) (by decide)), ?_⟩
      conv => whnf
      try rw [ex]
      refine s_standsOf ?_
      refine b_X11_thingOf [] ?_
      conv => whnf
      rw [if_neg s29_0, if_neg s29_1, if_neg s29_2, if_neg s29_3, if_neg s29_4, if_pos s29_5] at hK
      exact hK _ ⟨_, _, _, _, _, _, rfl, hX⟩
    conv => whnf
    refine b_X11_thingOf [] ?_
    conv => whnf
    refine ⟨(vp_in_nI (show x_ < 8 by omega) (by decide)), ?_⟩
    conv => whnf
    rw [ex, (hw.2.2.2 x_ hx).1]
    rw [if_neg s29_0, if_neg s29_1, if_neg s29_2, if_neg s29_3, if_neg s29_4, if_neg s29_5] at hK
    exact hK _ ⟨_, _, _, _, _, _, rfl, hX⟩
  · conv => whnf
    refine s_refuse ref_in ?_
    refine b_X11_thingOf [] ?_
    conv => whnf
    rw [qA_n c19] at hK
    exact hK _ ⟨_, _, _, _, _, _, rfl, hX.bump c19⟩
theorem c_place {a : Ab} {x c : Int32} {H : AH} (hI : Inv a) (hC : CR a H)  {K : Option Value → AH → Prop} (hK : ∀ H2, CR (qB a (fFirst (fNoTh ((a.1 0).1 0) x) (fUnk c (nI 1)))) H2 → K (some (.int (qA (fFirst (fNoTh ((a.1 0).1 0) x) (fUnk c (nI 1))) (if c = 0 then (a.1 0).2 3 x.toNatClampNeg else if x = (a.1 0).1 0 - nI 1 then Int32.ofInt (-9) else bI (fCut ((a.1 0).1 2) x))))) H2) : am_M i_X11_place [.ref 0, .int x, .int c] H K := by
  obtain ⟨W, S, A, I, B, L, rfl, hX⟩ := hC
  have e0 : W 0 = a.1 0 := hX.1
  have e1 : I 1 = nI (a.2.2 1) := hX.2.2.2.2.2.2.1
  have hw := hX.n hI
  try rw [← e0] at hK
  have hn := hw.1
  have hn8 := hw.2.1
  refine e_X11_place [] ?_
  conv => whnf
  refine s_noThing rfl ?_
  refine b_X11_place [] ?_
  conv => whnf
  refine s_unknown ?_
  refine b_X11_place [] ?_
  conv => whnf
  refine s_first ?_
  refine b_X11_place [] ?_
  conv => whnf
  refine ⟨fun c18 => ?_, fun c18 => ?_⟩
  · refine b_X11_place [] ?_
    conv => whnf
    rw [qA_0 c18, qB_0 c18] at hK
    obtain ⟨r40a, r40b⟩ := fFirst_0 c18
    obtain ⟨x_, hx, rfl⟩ := fNoTh_0 (n := nO (W 0)) (by omega) (by rw [← hn]; exact r40a)
    have ex : (nI x_).toNatClampNeg = x_ := nI_clamp (by omega)
    try rw [ex] at hK
    have uc := r40b
    refine ⟨fun c28 => ?_, fun c28 => ?_⟩
    · conv => whnf
      refine ⟨(vp_in_nI (show x_ < 8 by omega) (by decide)), ?_⟩
      conv => whnf
      rw [ex]
      rw [if_pos c28] at hK
      exact hK _ ⟨_, _, _, _, _, _, rfl, hX⟩
    · refine b_X11_place [] ?_
      conv => whnf
      refine ⟨fun c51 => ?_, fun c51 => ?_⟩
      · conv => whnf
        rw [if_neg c28, if_pos c51] at hK
        exact hK _ ⟨_, _, _, _, _, _, rfl, hX⟩
      · refine b_X11_place [] ?_
        conv => whnf
        refine s_isCut rfl ?_
        refine b_X11_place [] ?_
        conv => whnf
        refine ⟨fun c65 => ?_, fun c65 => ?_⟩
        · refine b_X11_place [] ?_
          conv => whnf
          rw [if_neg c28, if_neg c51, bI_0.mp c65] at hK
          exact hK _ ⟨_, _, _, _, _, _, rfl, hX⟩
        · conv => whnf
          refine b_X11_place [] ?_
          conv => whnf
          rw [if_neg c28, if_neg c51, bI_n0.mp c65] at hK
          exact hK _ ⟨_, _, _, _, _, _, rfl, hX⟩
  · conv => whnf
    refine s_refuse ref_in ?_
    refine b_X11_place [] ?_
    conv => whnf
    rw [qA_n c18] at hK
    exact hK _ ⟨_, _, _, _, _, _, rfl, hX.bump c18⟩
theorem cnt_in {c : Int32} (h1 : ¬ c ≤ nI 10) (h2 : ¬ nI 16 < c) : vp_in (c - nI 10) 7 := by
  obtain ⟨j, h3, h4, rfl⟩ := btw_of (x := c) (lo := 10) (hi := 16) (by decide) (by decide) (Int32.le_of_lt (Int32.not_le.mp h1)) (Int32.not_lt.mp h2)
  rw [pk_sub h3]
  have : j ≠ 10 := fun z => h1 (by rw [z]; exact Int32.le_refl _)
  exact vp_in_nI (by omega) (by decide)
theorem c_count {a : Ab} {c : Int32} {H : AH} (hI : Inv a) (hC : CR a H)  {K : Option Value → AH → Prop} (hK : ∀ H2, CR a H2 → K (some (.int (if c ≤ nI 10 then (if c = nI 0 then (a.1 0).1 0 else if c = nI 1 then (a.1 0).1 3 else if c = nI 2 then (a.1 0).1 1 else if c = nI 3 then (a.1 0).1 2 else if c = nI 4 then itr (fun t x => x + fLoss ((a.1 0).2 0 t) ((a.1 0).2 1 t)) (nO (a.1 0)) 0 (nI 0) else if c = nI 5 then nI (a.2.2 2) else if c = nI 6 then nI (a.2.2 1) else if c = nI 7 then nI (a.2.2 3) else Int32.ofInt (-9)) else if nI 16 < c then (if c = nI 0 then (a.1 0).1 0 else if c = nI 1 then (a.1 0).1 3 else if c = nI 2 then (a.1 0).1 1 else if c = nI 3 then (a.1 0).1 2 else if c = nI 4 then itr (fun t x => x + fLoss ((a.1 0).2 0 t) ((a.1 0).2 1 t)) (nO (a.1 0)) 0 (nI 0) else if c = nI 5 then nI (a.2.2 2) else if c = nI 6 then nI (a.2.2 1) else if c = nI 7 then nI (a.2.2 3) else Int32.ofInt (-9)) else a.2.1 0 (c - nI 10).toNatClampNeg))) H2) : am_M i_X11_count [.ref 0, .int c] H K := by
  obtain ⟨W, S, A, I, B, L, rfl, hX⟩ := hC
  have e0 : W 0 = a.1 0 := hX.1
  have e1 : I 1 = nI (a.2.2 1) := hX.2.2.2.2.2.2.1
  have hw := hX.n hI
  try rw [← e0] at hK
  have hn := hw.1
  have hn8 := hw.2.1
  refine e_X11_count [] ?_
  conv => whnf
  refine ⟨fun c3 => ?_, fun c3 => ?_⟩
  · refine b_X11_count [] ?_
    conv => whnf
    refine ⟨fun (s23_0 : _ = nI 0) => ?_, fun (s23_0 : ¬ _ = nI 0) => ?_⟩
    · conv => whnf
      refine b_X11_count [] ?_
      conv => whnf
      rw [if_pos c3, if_pos s23_0] at hK
      exact hK _ ⟨_, _, _, _, _, _, rfl, hX⟩
    conv => whnf
    refine ⟨fun (s23_1 : _ = nI 1) => ?_, fun (s23_1 : ¬ _ = nI 1) => ?_⟩
    · conv => whnf
      refine b_X11_count [] ?_
      conv => whnf
      rw [if_pos c3, if_neg s23_0, if_pos s23_1] at hK
      exact hK _ ⟨_, _, _, _, _, _, rfl, hX⟩
    conv => whnf
    refine ⟨fun (s23_2 : _ = nI 2) => ?_, fun (s23_2 : ¬ _ = nI 2) => ?_⟩
    · conv => whnf
      refine b_X11_count [] ?_
      conv => whnf
      rw [if_pos c3, if_neg s23_0, if_neg s23_1, if_pos s23_2] at hK
      exact hK _ ⟨_, _, _, _, _, _, rfl, hX⟩
    conv => whnf
    refine ⟨fun (s23_3 : _ = nI 3) => ?_, fun (s23_3 : ¬ _ = nI 3) => ?_⟩
    · conv => whnf
      refine b_X11_count [] ?_
      conv => whnf
      rw [if_pos c3, if_neg s23_0, if_neg s23_1, if_neg s23_2, if_pos s23_3] at hK
      exact hK _ ⟨_, _, _, _, _, _, rfl, hX⟩
    conv => whnf
    refine ⟨fun (s23_4 : _ = nI 4) => ?_, fun (s23_4 : ¬ _ = nI 4) => ?_⟩
    · conv => whnf
      refine b_X11_count [] ?_
      conv => whnf
      refine s_allLoss (w := W 0) (r := fun i => 2 + i) ⟨rfl, rfl, rfl, rfl, rfl, rfl⟩ hn hn8 ?_
      refine b_X11_count [] ?_
      conv => whnf
      rw [if_pos c3, if_neg s23_0, if_neg s23_1, if_neg s23_2, if_neg s23_3, if_pos s23_4] at hK
      exact hK _ ⟨_, _, _, _, _, _, rfl, hX⟩
    conv => whnf
    refine ⟨fun (s23_5 : _ = nI 5) => ?_, fun (s23_5 : ¬ _ = nI 5) => ?_⟩
    · conv => whnf
      refine b_X11_count [] ?_
      conv => whnf
      rw [if_pos c3, if_neg s23_0, if_neg s23_1, if_neg s23_2, if_neg s23_3, if_neg s23_4, if_pos s23_5] at hK
      rw [hX.2.2.2.2.2.2.2.1]
      exact hK _ ⟨_, _, _, _, _, _, rfl, hX⟩
    conv => whnf
    refine ⟨fun (s23_6 : _ = nI 6) => ?_, fun (s23_6 : ¬ _ = nI 6) => ?_⟩
    · conv => whnf
      refine b_X11_count [] ?_
      conv => whnf
      rw [if_pos c3, if_neg s23_0, if_neg s23_1, if_neg s23_2, if_neg s23_3, if_neg s23_4, if_neg s23_5, if_pos s23_6] at hK
      rw [e1]
      exact hK _ ⟨_, _, _, _, _, _, rfl, hX⟩
    conv => whnf
    refine ⟨fun (s23_7 : _ = nI 7) => ?_, fun (s23_7 : ¬ _ = nI 7) => ?_⟩
    · conv => whnf
      refine b_X11_count [] ?_
      conv => whnf
      rw [if_pos c3, if_neg s23_0, if_neg s23_1, if_neg s23_2, if_neg s23_3, if_neg s23_4, if_neg s23_5, if_neg s23_6, if_pos s23_7] at hK
      rw [hX.2.2.2.2.2.2.2.2.1]
      exact hK _ ⟨_, _, _, _, _, _, rfl, hX⟩
    conv => whnf
    refine b_X11_count [] ?_
    conv => whnf
    rw [if_pos c3, if_neg s23_0, if_neg s23_1, if_neg s23_2, if_neg s23_3, if_neg s23_4, if_neg s23_5, if_neg s23_6, if_neg s23_7] at hK
    exact hK _ ⟨_, _, _, _, _, _, rfl, hX⟩
  · conv => whnf
    refine ⟨fun c9 => ?_, fun c9 => ?_⟩
    · refine b_X11_count [] ?_
      conv => whnf
      refine ⟨fun (s23_0 : _ = nI 0) => ?_, fun (s23_0 : ¬ _ = nI 0) => ?_⟩
      · conv => whnf
        refine b_X11_count [] ?_
        conv => whnf
        rw [if_neg c3, if_pos c9, if_pos s23_0] at hK
        exact hK _ ⟨_, _, _, _, _, _, rfl, hX⟩
      conv => whnf
      refine ⟨fun (s23_1 : _ = nI 1) => ?_, fun (s23_1 : ¬ _ = nI 1) => ?_⟩
      · conv => whnf
        refine b_X11_count [] ?_
        conv => whnf
        rw [if_neg c3, if_pos c9, if_neg s23_0, if_pos s23_1] at hK
        exact hK _ ⟨_, _, _, _, _, _, rfl, hX⟩
      conv => whnf
      refine ⟨fun (s23_2 : _ = nI 2) => ?_, fun (s23_2 : ¬ _ = nI 2) => ?_⟩
      · conv => whnf
        refine b_X11_count [] ?_
        conv => whnf
        rw [if_neg c3, if_pos c9, if_neg s23_0, if_neg s23_1, if_pos s23_2] at hK
        exact hK _ ⟨_, _, _, _, _, _, rfl, hX⟩
      conv => whnf
      refine ⟨fun (s23_3 : _ = nI 3) => ?_, fun (s23_3 : ¬ _ = nI 3) => ?_⟩
      · conv => whnf
        refine b_X11_count [] ?_
        conv => whnf
        rw [if_neg c3, if_pos c9, if_neg s23_0, if_neg s23_1, if_neg s23_2, if_pos s23_3] at hK
        exact hK _ ⟨_, _, _, _, _, _, rfl, hX⟩
      conv => whnf
      refine ⟨fun (s23_4 : _ = nI 4) => ?_, fun (s23_4 : ¬ _ = nI 4) => ?_⟩
      · conv => whnf
        refine b_X11_count [] ?_
        conv => whnf
        refine s_allLoss (w := W 0) (r := fun i => 2 + i) ⟨rfl, rfl, rfl, rfl, rfl, rfl⟩ hn hn8 ?_
        refine b_X11_count [] ?_
        conv => whnf
        rw [if_neg c3, if_pos c9, if_neg s23_0, if_neg s23_1, if_neg s23_2, if_neg s23_3, if_pos s23_4] at hK
        exact hK _ ⟨_, _, _, _, _, _, rfl, hX⟩
      conv => whnf
      refine ⟨fun (s23_5 : _ = nI 5) => ?_, fun (s23_5 : ¬ _ = nI 5) => ?_⟩
      · conv => whnf
        refine b_X11_count [] ?_
        conv => whnf
        rw [if_neg c3, if_pos c9, if_neg s23_0, if_neg s23_1, if_neg s23_2, if_neg s23_3, if_neg s23_4, if_pos s23_5] at hK
        rw [hX.2.2.2.2.2.2.2.1]
        exact hK _ ⟨_, _, _, _, _, _, rfl, hX⟩
      conv => whnf
      refine ⟨fun (s23_6 : _ = nI 6) => ?_, fun (s23_6 : ¬ _ = nI 6) => ?_⟩
      · conv => whnf
        refine b_X11_count [] ?_
        conv => whnf
        rw [if_neg c3, if_pos c9, if_neg s23_0, if_neg s23_1, if_neg s23_2, if_neg s23_3, if_neg s23_4, if_neg s23_5, if_pos s23_6] at hK
        rw [e1]
        exact hK _ ⟨_, _, _, _, _, _, rfl, hX⟩
      conv => whnf
      refine ⟨fun (s23_7 : _ = nI 7) => ?_, fun (s23_7 : ¬ _ = nI 7) => ?_⟩
      · conv => whnf
        refine b_X11_count [] ?_
        conv => whnf
        rw [if_neg c3, if_pos c9, if_neg s23_0, if_neg s23_1, if_neg s23_2, if_neg s23_3, if_neg s23_4, if_neg s23_5, if_neg s23_6, if_pos s23_7] at hK
        rw [hX.2.2.2.2.2.2.2.2.1]
        exact hK _ ⟨_, _, _, _, _, _, rfl, hX⟩
      conv => whnf
      refine b_X11_count [] ?_
      conv => whnf
      rw [if_neg c3, if_pos c9, if_neg s23_0, if_neg s23_1, if_neg s23_2, if_neg s23_3, if_neg s23_4, if_neg s23_5, if_neg s23_6, if_neg s23_7] at hK
      exact hK _ ⟨_, _, _, _, _, _, rfl, hX⟩
    · conv => whnf
      refine ⟨(cnt_in c3 c9), ?_⟩
      conv => whnf
      rw [if_neg c3, if_neg c9] at hK
      rw [hX.2.2.1]
      exact hK _ ⟨_, _, _, _, _, _, rfl, hX⟩
