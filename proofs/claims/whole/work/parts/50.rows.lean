/-! SPECS: the object's rows, image, orders, valley -/
def rowA (a : Ab) (r : Nat) (f : Nat → Int32) : Ab := (a.1, va_up a.2.1 1 f, va_up a.2.2 1 r)
def letA (a : Ab) (q : Nat) (f : Nat → Int32) : Ab := (a.1, va_up a.2.1 2 f, va_up a.2.2 2 q)
def imgA (a : Ab) (w : WS) : Ab := (va_up a.1 1 w, a.2.1, va_up a.2.2 0 1)
theorem CX.row {a : Ab} {W : Nat → WS} {A : Nat → Nat → Int32} {I : Nat → Int32} (h : CX a W A I) (r : Nat) (f : Nat → Int32) : CX (rowA a r f) W (va_up A 1 f) (va_up I 1 (nI r)) := by
  obtain ⟨a1, a2, a3, a4, a5, a6, a7, a8, a9, x, b1, b2, b3⟩ := h
  exact ⟨a1, a2, a3, rfl, a5, a6, rfl, a8, a9, x, b1, b2, b3⟩
theorem CX.let {a : Ab} {W : Nat → WS} {A : Nat → Nat → Int32} {I : Nat → Int32} (h : CX a W A I) (r : Nat) (f : Nat → Int32) : CX (letA a r f) W (va_up A 6 f) (va_up I 2 (nI r)) := by
  obtain ⟨a1, a2, a3, a4, a5, a6, a7, a8, a9, x, b1, b2, b3⟩ := h
  exact ⟨a1, a2, a3, a4, rfl, a6, a7, rfl, a9, x, b1, b2, b3⟩
theorem CX.let0 {a : Ab} {W : Nat → WS} {A : Nat → Nat → Int32} {I : Nat → Int32} (h : CX a W A I) : CX (letA a 0 (a.2.1 2)) W A (va_up I 2 (nI 0)) := by
  obtain ⟨a1, a2, a3, a4, a5, a6, a7, a8, a9, x, b1, b2, b3⟩ := h
  exact ⟨a1, a2, a3, a4, a5, a6, a7, rfl, a9, x, b1, b2, b3⟩
theorem CX.row0 {a : Ab} {W : Nat → WS} {A : Nat → Nat → Int32} {I : Nat → Int32} (h : CX a W A I) : CX (rowA a 0 (a.2.1 1)) W A (va_up I 1 (nI 0)) := by
  obtain ⟨a1, a2, a3, a4, a5, a6, a7, a8, a9, x, b1, b2, b3⟩ := h
  exact ⟨a1, a2, a3, a4, a5, a6, rfl, a8, a9, x, b1, b2, b3⟩
theorem CX.img {a : Ab} {W : Nat → WS} {A : Nat → Nat → Int32} {I : Nat → Int32} (h : CX a W A I) (z : WS) : CX (imgA a z) (va_up W 1 z) A (va_up I 0 (nI 1)) := by
  obtain ⟨a1, a2, a3, a4, a5, a6, a7, a8, a9, x, b1, b2, b3⟩ := h
  have e : ∀ j, j ≠ 1 → va_up W 1 z j = W j := fun j hj => if_neg hj
  have e2 : ∀ j, j ≠ 1 → va_up a.1 1 z j = a.1 j := fun j hj => if_neg hj
  refine ⟨a1, rfl, a3, a4, a5, rfl, a7, a8, a9, x, b1, b2, fun k hk => ?_⟩
  show va_up W 1 z (7 + (x + 8 - a.2.2 3 + k) % 8) = va_up a.1 1 z (2 + k)
  rw [e _ (by omega), e2 _ (by omega)]
  exact b3 k hk
set_option maxRecDepth 100000 in
theorem g_rw {W : Nat → WS} {S : Nat → S3} {A : Nat → Nat → Int32} {I : Nat → Int32} {B : Nat → Int32 × Int32} {L : Nat → Int64} {Z : Type} {P : Z → Prop} {r0 : Z → Option Value} (fx : Z → Int32) (ff : Z → Nat → Int32) {id : Nat} {aa aaB : List Value} {K2 : Option Value → AH → Prop} (hm : ∀ K : Option Value → AH → Prop, (∀ z, P z → K (r0 z) (rC 0 (fx z) (ff z))) → am_M id aa (rC 0 (I 1) (A 1)) K) (haa : am_rS (am_pl [16, 17]) aa = aaB) (hk : ∀ z, P z → am_oK [16, 17] (r0 z) (fun r => K2 r (gC W S (va_up A 1 (ff z)) (va_up I 1 (fx z)) B L))) : am_M id aaB (gC W S A I B L) K2 :=
  am_frZ (Z := Z) (P := P) (r0 := r0) (h2 := fun z => rC 0 (fx z) (ff z)) [16, 17] hm haa rfl ⟨rfl, rfl, trivial⟩ (fun _ => rfl) (fun z hz => hk z hz)
set_option maxRecDepth 100000 in
theorem g_cp {W : Nat → WS} {S : Nat → S3} {A : Nat → Nat → Int32} {I : Nat → Int32} {B : Nat → Int32 × Int32} {L : Nat → Int64} {Z : Type} {P : Z → Prop} {r0 : Z → Option Value} (fw : Z → WS) {id : Nat} {aa aaB : List Value} {K2 : Option Value → AH → Prop} (hm : ∀ K : Option Value → AH → Prop, (∀ z, P z → K (r0 z) (wC 0 (fw z) ++ wC 6 (W 0))) → am_M id aa (wC 0 (W 1) ++ wC 6 (W 0)) K) (haa : am_rS (am_pl [10, 11, 12, 13, 14, 15, 1, 2, 3, 4, 5, 6]) aa = aaB) (hk : ∀ z, P z → am_oK [10, 11, 12, 13, 14, 15, 1, 2, 3, 4, 5, 6] (r0 z) (fun r => K2 r (gC (va_up W 1 (fw z)) S A I B L))) : am_M id aaB (gC W S A I B L) K2 :=
  am_frZ (Z := Z) (P := P) (r0 := r0) (h2 := fun z => wC 0 (fw z) ++ wC 6 (W 0)) [10, 11, 12, 13, 14, 15, 1, 2, 3, 4, 5, 6] hm haa rfl ⟨rfl, rfl, rfl, rfl, rfl, rfl, rfl, rfl, rfl, rfl, rfl, rfl, trivial⟩ (fun _ => rfl) (fun z hz => hk z hz)
set_option maxRecDepth 100000 in
theorem g_cq {W : Nat → WS} {S : Nat → S3} {A : Nat → Nat → Int32} {I : Nat → Int32} {B : Nat → Int32 × Int32} {L : Nat → Int64} {Z : Type} {P : Z → Prop} {r0 : Z → Option Value} (fw : Z → WS) {id : Nat} {aa aaB : List Value} {K2 : Option Value → AH → Prop} (hm : ∀ K : Option Value → AH → Prop, (∀ z, P z → K (r0 z) (wC 0 (fw z) ++ wC 6 (W 1))) → am_M id aa (wC 0 (W 0) ++ wC 6 (W 1)) K) (haa : am_rS (am_pl [1, 2, 3, 4, 5, 6, 10, 11, 12, 13, 14, 15]) aa = aaB) (hk : ∀ z, P z → am_oK [1, 2, 3, 4, 5, 6, 10, 11, 12, 13, 14, 15] (r0 z) (fun r => K2 r (gC (va_up W 0 (fw z)) S A I B L))) : am_M id aaB (gC W S A I B L) K2 :=
  am_frZ (Z := Z) (P := P) (r0 := r0) (h2 := fun z => wC 0 (fw z) ++ wC 6 (W 1)) [1, 2, 3, 4, 5, 6, 10, 11, 12, 13, 14, 15] hm haa rfl ⟨rfl, rfl, rfl, rfl, rfl, rfl, rfl, rfl, rfl, rfl, rfl, rfl, trivial⟩ (fun _ => rfl) (fun z hz => hk z hz)
set_option maxRecDepth 100000 in
theorem g_va {W : Nat → WS} {S : Nat → S3} {A : Nat → Nat → Int32} {I : Nat → Int32} {B : Nat → Int32 × Int32} {L : Nat → Int64} {Z : Type} {P : Z → Prop} {r0 : Z → Option Value} (fm : Z → WS) (fs : Z → S3) (fw : Z → WS) {id : Nat} {aa aaB : List Value} {K2 : Option Value → AH → Prop} (hm : ∀ K : Option Value → AH → Prop, (∀ z, P z → K (r0 z) (yC (I 2) (A 6) (fm z) (fs z) (fw z))) → am_M id aa (yC (I 2) (A 6) (W 6) (S 5) (W 0)) K) (haa : am_rS (am_pl [60, 61, 62, 63, 64, 65, 66, 67, 68, 69, 1, 2, 3, 4, 5, 6]) aa = aaB) (hk : ∀ z, P z → am_oK [60, 61, 62, 63, 64, 65, 66, 67, 68, 69, 1, 2, 3, 4, 5, 6] (r0 z) (fun r => K2 r (gC (va_up (va_up W 6 (fm z)) 0 (fw z)) (va_up S 5 (fs z)) A I B L))) : am_M id aaB (gC W S A I B L) K2 :=
  am_frZ (Z := Z) (P := P) (r0 := r0) (h2 := fun z => yC (I 2) (A 6) (fm z) (fs z) (fw z)) [60, 61, 62, 63, 64, 65, 66, 67, 68, 69, 1, 2, 3, 4, 5, 6] hm haa rfl ⟨rfl, rfl, rfl, rfl, rfl, rfl, rfl, rfl, rfl, rfl, rfl, rfl, rfl, rfl, rfl, rfl, trivial⟩ (fun _ => rfl) (fun z hz => hk z hz)
theorem c_row {a : Ab} {x : Int32} {H : AH} (hI : Inv a) (hC : CR a H) {K : Option Value → AH → Prop} (h1 : ¬ (fFirst (fFirst (fBelow x (nI 0)) (fAbove x (nI 99))) (fAbove (nI (a.2.2 1) + nI 1) (nI 12))) = 0 → ∀ H2, CR (qB a (fFirst (fFirst (fBelow x (nI 0)) (fAbove x (nI 99))) (fAbove (nI (a.2.2 1) + nI 1) (nI 12)))) H2 → K (some (.int (fFirst (fFirst (fBelow x (nI 0)) (fAbove x (nI 99))) (fAbove (nI (a.2.2 1) + nI 1) (nI 12))))) H2) (h0 : (fFirst (fFirst (fBelow x (nI 0)) (fAbove x (nI 99))) (fAbove (nI (a.2.2 1) + nI 1) (nI 12))) = 0 → ∀ H2, CR (rowA a (a.2.2 1 + 1) (upd (a.2.1 1) (a.2.2 1) x)) H2 → K (some (.int (nI (a.2.2 1 + 1)))) H2) : am_M i_X11_row [.ref 0, .int x] H K := by
  obtain ⟨W, S, A, I, B, L, rfl, hX⟩ := hC
  have e0 : W 0 = a.1 0 := hX.1
  have e1 : I 1 = nI (a.2.2 1) := hX.2.2.2.2.2.2.1
  have e2 : I 2 = nI (a.2.2 2) := hX.2.2.2.2.2.2.2.1
  have e4 : I 4 = nI (a.2.2 3) := hX.2.2.2.2.2.2.2.2.1
  obtain ⟨x9, hx9, e3, -⟩ := hX.2.2.2.2.2.2.2.2.2
  have h38 : a.2.2 3 ≤ 8 := hI.2.2.2.2.2.1
  have hw := hX.n hI
  have hn := hw.1
  have hn8 := hw.2.1
  try rw [← e0] at h1 h0
  try rw [← e1] at h1 h0
  refine e_X11_row [] ?_
  conv => whnf
  refine s_below ?_
  refine b_X11_row [] ?_
  conv => whnf
  refine s_above ?_
  refine b_X11_row [] ?_
  conv => whnf
  refine s_first ?_
  refine b_X11_row [] ?_
  conv => whnf
  refine s_above ?_
  refine b_X11_row [] ?_
  conv => whnf
  refine s_first ?_
  refine b_X11_row [] ?_
  conv => whnf
  refine ⟨fun c35 => ?_, fun c35 => ?_⟩
  · refine b_X11_row [] ?_
    conv => whnf
    have h9 := h0 c35
    have ea : A 1 = a.2.1 1 := hX.2.2.2.1
    have hlt : a.2.2 1 < 12 := by
      have h8 := fAbove_0 (fFirst_0 c35).2
      rw [e1, nI_add] at h8
      exact (nI_leI (by have := hI.2.2.2.1; omega) (by decide)).mp h8
    rw [← ea] at h9
    refine g_rw (Z := Unit) (P := fun _ => True) (r0 := fun _ => some (.int (nI (a.2.2 1 + 1)))) (fun _ => nI (a.2.2 1 + 1)) (fun _ => upd (A 1) (a.2.2 1) x) (fun K hK => by rw [e1]; exact s_rowHear hlt (hK () trivial)) rfl (fun z _ => ?_)
    conv => whnf
    refine b_X11_row [] ?_
    conv => whnf
    exact h9 _ ⟨_, _, _, _, _, _, rfl, hX.row _ _⟩
  · conv => whnf
    refine s_refuse ref_in ?_
    refine b_X11_row [] ?_
    conv => whnf
    exact h1 c35 _ ⟨_, _, _, _, _, _, rfl, hX.bump c35⟩
set_option maxRecDepth 100000 in
theorem s_vh {W : Nat → WS} {S : Nat → S3} {A : Nat → Nat → Int32} {I : Nat → Int32} {B : Nat → Int32 × Int32} {L : Nat → Int64} {q : Nat} {x : Int32} (hq : q < 96) (e : I 2 = nI q) {K : Option Value → AH → Prop} (hK : ∀ z, z = nI (q + 1) → K (some (.int z)) (gC W S (va_up A 6 (upd (A 6) q x)) (va_up I 2 z) B L)) : am_M i_X8_hear [.ref 60, .int x] (gC W S A I B L) K := by
  refine e_X8_hear [] ?_
  conv => whnf
  refine ⟨(by rw [e]; exact vp_in_nI hq (by decide)), ?_⟩
  have e6 : (I 2).toNatClampNeg = q := by rw [e]; exact nI_clamp (by omega)
  rw [e6]
  conv => whnf
  exact hK _ (by rw [e, nI_add])
theorem c_feed {a : Ab} {x : Int32} {H : AH} (hI : Inv a) (hC : CR a H) {K : Option Value → AH → Prop} (h1 : ¬ (fFirst (fFirst (fBelow x (nI 0)) (fAbove x (nI 255))) (fAbove (nI (a.2.2 2) + nI 1) (nI 96))) = 0 → ∀ H2, CR (qB a (fFirst (fFirst (fBelow x (nI 0)) (fAbove x (nI 255))) (fAbove (nI (a.2.2 2) + nI 1) (nI 96)))) H2 → K (some (.int (fFirst (fFirst (fBelow x (nI 0)) (fAbove x (nI 255))) (fAbove (nI (a.2.2 2) + nI 1) (nI 96))))) H2) (h0 : (fFirst (fFirst (fBelow x (nI 0)) (fAbove x (nI 255))) (fAbove (nI (a.2.2 2) + nI 1) (nI 96))) = 0 → ∀ H2, CR (letA a (a.2.2 2 + 1) (upd (a.2.1 2) (a.2.2 2) x)) H2 → K (some (.int (nI (a.2.2 2 + 1)))) H2) : am_M i_X11_feed [.ref 0, .int x] H K := by
  obtain ⟨W, S, A, I, B, L, rfl, hX⟩ := hC
  have e0 : W 0 = a.1 0 := hX.1
  have e1 : I 1 = nI (a.2.2 1) := hX.2.2.2.2.2.2.1
  have e2 : I 2 = nI (a.2.2 2) := hX.2.2.2.2.2.2.2.1
  have e4 : I 4 = nI (a.2.2 3) := hX.2.2.2.2.2.2.2.2.1
  obtain ⟨x9, hx9, e3, -⟩ := hX.2.2.2.2.2.2.2.2.2
  have h38 : a.2.2 3 ≤ 8 := hI.2.2.2.2.2.1
  have hw := hX.n hI
  have hn := hw.1
  have hn8 := hw.2.1
  try rw [← e0] at h1 h0
  try rw [← e2] at h1 h0
  refine e_X11_feed [] ?_
  conv => whnf
  refine s_below ?_
  refine b_X11_feed [] ?_
  conv => whnf
  refine s_above ?_
  refine b_X11_feed [] ?_
  conv => whnf
  refine s_first ?_
  refine b_X11_feed [] ?_
  conv => whnf
  refine s_above ?_
  refine b_X11_feed [] ?_
  conv => whnf
  refine s_first ?_
  refine b_X11_feed [] ?_
  conv => whnf
  refine ⟨fun c36 => ?_, fun c36 => ?_⟩
  · refine b_X11_feed [] ?_
    conv => whnf
    have h9 := h0 c36
    have ea : A 6 = a.2.1 2 := hX.2.2.2.2.1
    have hlt : a.2.2 2 < 96 := by
      have h8 := fAbove_0 (fFirst_0 c36).2
      rw [e2, nI_add] at h8
      exact (nI_leI (by have := hI.2.2.2.2.1; omega) (by decide)).mp h8
    rw [← ea] at h9
    refine s_vh hlt e2 (fun z hz => ?_)
    subst hz
    refine b_X11_feed [] ?_
    conv => whnf
    exact h9 _ ⟨_, _, _, _, _, _, rfl, hX.let _ _⟩
  · conv => whnf
    refine s_refuse ref_in ?_
    refine b_X11_feed [] ?_
    conv => whnf
    exact h1 c36 _ ⟨_, _, _, _, _, _, rfl, hX.bump c36⟩
theorem c_clear {a : Ab}  {H : AH} (hI : Inv a) (hC : CR a H) {K : Option Value → AH → Prop} (h9 : ∀ H2, CR (rowA a 0 (a.2.1 1)) H2 → K (some (.int (nI (a.2.2 1)))) H2) : am_M i_X11_clear [.ref 0] H K := by
  obtain ⟨W, S, A, I, B, L, rfl, hX⟩ := hC
  have e0 : W 0 = a.1 0 := hX.1
  have e1 : I 1 = nI (a.2.2 1) := hX.2.2.2.2.2.2.1
  have e2 : I 2 = nI (a.2.2 2) := hX.2.2.2.2.2.2.2.1
  have e4 : I 4 = nI (a.2.2 3) := hX.2.2.2.2.2.2.2.2.1
  obtain ⟨x9, hx9, e3, -⟩ := hX.2.2.2.2.2.2.2.2.2
  have h38 : a.2.2 3 ≤ 8 := hI.2.2.2.2.2.1
  have hw := hX.n hI
  have hn := hw.1
  have hn8 := hw.2.1
  try rw [← e0] at h9
  refine e_X11_clear [] ?_
  conv => whnf
  rw [e1]
  exact h9 _ ⟨W, S, A, va_up I 1 (nI 0), B, L, rfl, hX.row0⟩
theorem c_judge {a : Ab}  {H : AH} (hI : Inv a) (hC : CR a H) {K : Option Value → AH → Prop} (h9 : ∀ H2, CR (rowA a 0 (a.2.1 1)) H2 → K (some (.int (judF (a.2.1 1) ((a.1 0).2 3) (nO (a.1 0)) (a.2.2 1) 0))) H2) : am_M i_X11_judge [.ref 0] H K := by
  obtain ⟨W, S, A, I, B, L, rfl, hX⟩ := hC
  have e0 : W 0 = a.1 0 := hX.1
  have e1 : I 1 = nI (a.2.2 1) := hX.2.2.2.2.2.2.1
  have e2 : I 2 = nI (a.2.2 2) := hX.2.2.2.2.2.2.2.1
  have e4 : I 4 = nI (a.2.2 3) := hX.2.2.2.2.2.2.2.2.1
  obtain ⟨x9, hx9, e3, -⟩ := hX.2.2.2.2.2.2.2.2.2
  have h38 : a.2.2 3 ≤ 8 := hI.2.2.2.2.2.1
  have hw := hX.n hI
  have hn := hw.1
  have hn8 := hw.2.1
  try rw [← e0] at h9
  refine e_X11_judge [] ?_
  conv => whnf
  refine s_judge (q := a.2.2 1) (f := a.2.1 1) (n := nO (W 0)) (by rw [← e1, ← (show A 1 = a.2.1 1 from hX.2.2.2.1)]; exact ⟨rfl, rfl⟩) (w := W 0) (r := fun i => 2 + i) ⟨rfl, rfl, rfl, rfl, rfl, rfl⟩ hn hn8 hI.2.2.2.1 ?_
  refine b_X11_judge [] ?_
  conv => whnf
  exact h9 _ ⟨W, S, A, va_up I 1 (nI 0), B, L, rfl, hX.row0⟩
theorem c_image {a : Ab}  {H : AH} (hI : Inv a) (hC : CR a H) {K : Option Value → AH → Prop} (h9 : ∀ w2, wEq w2 (a.1 0) → ∀ H2, CR (imgA a w2) H2 → K (some (.int ((a.1 0).1 3))) H2) : am_M i_X11_image [.ref 0] H K := by
  obtain ⟨W, S, A, I, B, L, rfl, hX⟩ := hC
  have e0 : W 0 = a.1 0 := hX.1
  have e1 : I 1 = nI (a.2.2 1) := hX.2.2.2.2.2.2.1
  have e2 : I 2 = nI (a.2.2 2) := hX.2.2.2.2.2.2.2.1
  have e4 : I 4 = nI (a.2.2 3) := hX.2.2.2.2.2.2.2.2.1
  obtain ⟨x9, hx9, e3, -⟩ := hX.2.2.2.2.2.2.2.2.2
  have h38 : a.2.2 3 ≤ 8 := hI.2.2.2.2.2.1
  have hw := hX.n hI
  have hn := hw.1
  have hn8 := hw.2.1
  try rw [← e0] at h9
  refine e_X11_image [] ?_
  conv => whnf
  refine g_cp (Z := WS) (P := fun z => wEq z (W 0)) (r0 := fun _ => none) (fun z => z) (fun K hK => s_copy hK) rfl (fun w2 hw2 => ?_)
  conv => whnf
  refine b_X11_image [] ?_
  conv => whnf
  refine ⟨(Or.inr nI_one), ?_⟩
  conv => whnf
  exact h9 w2 hw2 _ ⟨va_up W 1 w2, S, A, va_up I 0 (nI 1), B, L, rfl, hX.img w2⟩
theorem c_restore {a : Ab} {H : AH} (hI : Inv a) (hC : CR a H) {K : Option Value → AH → Prop} (h1 : a.2.2 0 = 0 → ∀ H2, CR (qB a (Int32.ofInt (-3))) H2 → K (some (.int (Int32.ofInt (-3)))) H2) (h0 : ¬ a.2.2 0 = 0 → ∀ w2, wEq w2 (a.1 1) → ∀ H2, CR (fgA (nowA a w2) 0) H2 → K (some (.int (w2.1 3))) H2) : am_M i_X11_restore [.ref 0] H K := by
  obtain ⟨W, S, A, I, B, L, rfl, hX⟩ := hC
  have e0 : W 0 = a.1 0 := hX.1
  have e1 : I 1 = nI (a.2.2 1) := hX.2.2.2.2.2.2.1
  have e2 : I 2 = nI (a.2.2 2) := hX.2.2.2.2.2.2.2.1
  have e4 : I 4 = nI (a.2.2 3) := hX.2.2.2.2.2.2.2.2.1
  obtain ⟨x9, hx9, e3, -⟩ := hX.2.2.2.2.2.2.2.2.2
  have h38 : a.2.2 3 ≤ 8 := hI.2.2.2.2.2.1
  have hw := hX.n hI
  have hn := hw.1
  have hn8 := hw.2.1
  have e5 : I 0 = nI (a.2.2 0) := hX.2.2.2.2.2.1
  refine e_X11_restore [] ?_
  conv => whnf
  refine ⟨fun c4 => ?_, fun c4 => ?_⟩
  · conv => whnf
    refine s_refuse ref_in ?_
    refine b_X11_restore [] ?_
    conv => whnf
    exact h1 ((nI_eq (by have := hI.2.1; omega) (by decide)).mp (e5.symm.trans c4)) _ ⟨_, _, _, _, _, _, rfl, hX.bump (by decide)⟩
  · refine b_X11_restore [] ?_
    conv => whnf
    refine g_cq (Z := WS) (P := fun z => wEq z (W 1)) (r0 := fun _ => none) (fun z => z) (fun K hK => s_copy hK) rfl (fun w2 hw2 => ?_)
    conv => whnf
    refine b_X11_restore [] ?_
    conv => whnf
    refine s_fg ?_
    refine b_X11_restore [] ?_
    conv => whnf
    rw [show W 1 = a.1 1 from hX.2.1] at hw2
    exact h0 (fun z => c4 (by show I 0 = 0; rw [e5, z]; rfl)) w2 hw2 _ ⟨_, _, _, _, _, _, rfl, (hX.now w2).fg⟩
theorem wEq_rf (w : WS) : wEq w w := ⟨fun _ _ => rfl, fun _ _ _ _ => rfl⟩
def fOrd (r t : Int32) : Int32 := if r = 0 then (if t ≤ nI 6 then r else Int32.ofInt (-3)) else r
theorem c_order {a : Ab} {v i : Int32} {H : AH} (hI : Inv a) (hC : CR a H) {K : Option Value → AH → Prop} (hK : ∀ w2 f M, wEq w2 (a.1 0) → M = mldF (nO (a.1 0)) v 720 (itr layF (nO (a.1 0)) 0 (wI w2 2 (nI 0))) (nI 9) f → ∀ H2, CR (qB a (fOrd (fFirst (fFirst (fBelow v (nI 1)) (fBelow i (Int32.ofInt (-1)))) (fAbove v (nI 60))) ((a.1 0).1 0))) H2 → K (some (.int (qA (fOrd (fFirst (fFirst (fBelow v (nI 1)) (fBelow i (Int32.ofInt (-1)))) (fAbove v (nI 60))) ((a.1 0).1 0)) (if i = Int32.ofInt (-1) then M.1 else thaF ((a.1 0).1 0) i M.2)))) H2) : am_M i_X11_order [.ref 0, .int v, .int i] H K := by
  obtain ⟨W, S, A, I, B, L, rfl, hX⟩ := hC
  have e0 : W 0 = a.1 0 := hX.1
  have e1 : I 1 = nI (a.2.2 1) := hX.2.2.2.2.2.2.1
  have e2 : I 2 = nI (a.2.2 2) := hX.2.2.2.2.2.2.2.1
  have e4 : I 4 = nI (a.2.2 3) := hX.2.2.2.2.2.2.2.2.1
  obtain ⟨x9, hx9, e3, -⟩ := hX.2.2.2.2.2.2.2.2.2
  have h38 : a.2.2 3 ≤ 8 := hI.2.2.2.2.2.1
  have hw := hX.n hI
  have hn := hw.1
  have hn8 := hw.2.1
  rw [← e0] at hK
  refine e_X11_order [] ?_
  conv => whnf
  refine s_below ?_
  refine b_X11_order [] ?_
  conv => whnf
  refine s_below ?_
  refine b_X11_order [] ?_
  conv => whnf
  refine s_first ?_
  refine b_X11_order [] ?_
  conv => whnf
  refine s_above ?_
  refine b_X11_order [] ?_
  conv => whnf
  refine s_first ?_
  refine b_X11_order [] ?_
  conv => whnf
  refine ⟨fun c24 => ?_, fun c24 => ?_⟩
  · conv => whnf
    refine ⟨fun c36 => ?_, fun c36 => ?_⟩
    · refine b_X11_order [] ?_
      conv => whnf
      refine ⟨fun c43 => ?_, fun c43 => absurd c24 c43⟩
      refine b_X11_order [] ?_
      conv => whnf
      refine g_or (Z := WS × S3 × WS × (Int32 × (Nat → Int32))) (P := fun z => wEq z.1 (W 0) ∧ z.2.2.2 = mldF (nO (W 0)) v 720 (itr layF (nO (W 0)) 0 (wI z.1 2 (nI 0))) (nI 9) (A 4)) (r0 := fun z => some (.int z.2.2.2.1)) (fun z => z.2.1) (fun z => z.2.2.1) (fun z => z.2.2.2.2) (fun z => A 5) (fun K hK => s_mld hw (fun w2 hw2 s2 md2 => hK (w2, s2, md2, _) ⟨hw2, rfl⟩)) rfl (fun z hz => ?_)
      conv => whnf
      refine b_X11_order [] ?_
      conv => whnf
      have h9 := hK z.1 (A 4) z.2.2.2 hz.1 hz.2
      rw [fOrd, if_pos c24, if_pos c36, qA_0 c24, qB_0 c24] at h9
      refine ⟨fun c68 => ?_, fun c68 => ?_⟩
      · conv => whnf
        refine b_X11_order [] ?_
        conv => whnf
        rw [if_pos c68] at h9
        exact h9 _ ⟨_, _, _, _, _, _, rfl, hX.or _ _ _⟩
      · refine b_X11_order [] ?_
        conv => whnf
        refine g_or (W := (va_up W 4 z.2.2.1)) (A := (va_up (va_up A 4 z.2.2.2.2) 5 (A 5))) (S := (va_up S 3 z.2.1)) (Z := Unit) (P := fun _ => True) (r0 := fun _ => some (.int (thaF ((W 0).1 0) i z.2.2.2.2))) (fun _ => (va_up S 3 z.2.1) 3) (fun _ => (va_up W 4 z.2.2.1) 4) (fun _ => (va_up (va_up A 4 z.2.2.2.2) 5 (A 5)) 4) (fun _ => (va_up (va_up A 4 z.2.2.2.2) 5 (A 5)) 5) (fun K hK => s_tha (show wOk ((va_up W 4 z.2.2.1) 0) (nO (W 0)) (aO (W 0)) (plW (W 0)) from hw) (hK () trivial)) rfl (fun z2 _ => ?_)
        conv => whnf
        refine b_X11_order [] ?_
        conv => whnf
        rw [if_neg c68] at h9
        exact h9 _ ⟨_, _, _, _, _, _, rfl, (hX.or _ _ _).or _ _ _⟩
    · conv => whnf
      refine ⟨fun c43 => absurd c43 (by decide), fun c43 => ?_⟩
      conv => whnf
      refine s_refuse ref_in ?_
      refine b_X11_order [] ?_
      conv => whnf
      have hd : ¬ Int32.ofInt (-3) = 0 := by decide
      have h9 := hK (W 0) (A 4) _ (wEq_rf _) rfl
      rw [fOrd, if_pos c24, if_neg c36, qA_n hd] at h9
      exact h9 _ ⟨_, _, _, _, _, _, rfl, hX.bump hd⟩
  · refine b_X11_order [] ?_
    conv => whnf
    refine ⟨fun c43 => absurd c43 c24, fun c43 => ?_⟩
    conv => whnf
    refine s_refuse ref_in ?_
    refine b_X11_order [] ?_
    conv => whnf
    have h9 := hK (W 0) (A 4) _ (wEq_rf _) rfl
    rw [fOrd, if_neg c24, qA_n c24] at h9
    exact h9 _ ⟨_, _, _, _, _, _, rfl, hX.bump c24⟩
theorem c_walk {a : Ab} {i : Int32} {H : AH} (hI : Inv a) (hC : CR a H) {K : Option Value → AH → Prop} (hK : ∀ f g r d, r = itr (srtI (a.1 0) (nI 1)) (nO (a.1 0)) 0 g → d = itr (srtI (a.1 0) (Int32.ofInt (-1))) (nO (a.1 0)) 0 f → ∀ H2, CR (qB a (fBelow i (Int32.ofInt (-2)))) H2 → K (some (.int (qA (fBelow i (Int32.ofInt (-2))) (if i = Int32.ofInt (-2) then fWalk (a.1 0) (nO (a.1 0)) else if i = Int32.ofInt (-1) then shwV (a.1 0) (nO (a.1 0)) r d else thaF ((a.1 0).1 0) i (shwA (nO (a.1 0)) r d))))) H2) : am_M i_X11_walk [.ref 0, .int i] H K := by
  obtain ⟨W, S, A, I, B, L, rfl, hX⟩ := hC
  have e0 : W 0 = a.1 0 := hX.1
  have e1 : I 1 = nI (a.2.2 1) := hX.2.2.2.2.2.2.1
  have e2 : I 2 = nI (a.2.2 2) := hX.2.2.2.2.2.2.2.1
  have e4 : I 4 = nI (a.2.2 3) := hX.2.2.2.2.2.2.2.2.1
  obtain ⟨x9, hx9, e3, -⟩ := hX.2.2.2.2.2.2.2.2.2
  have h38 : a.2.2 3 ≤ 8 := hI.2.2.2.2.2.1
  have hw := hX.n hI
  have hn := hw.1
  have hn8 := hw.2.1
  rw [← e0] at hK
  refine e_X11_walk [] ?_
  conv => whnf
  refine s_below ?_
  refine b_X11_walk [] ?_
  conv => whnf
  refine ⟨fun c8 => ?_, fun c8 => ?_⟩
  · refine b_X11_walk [] ?_
    conv => whnf
    refine ⟨fun c20 => ?_, fun c20 => ?_⟩
    · conv => whnf
      refine s_walkLen (w := W 0) (r := fun i => 2 + i) ⟨rfl, rfl, rfl, rfl, rfl, rfl⟩ hn hn8 hw.at8 ?_
      refine b_X11_walk [] ?_
      conv => whnf
      have h9 := hK (A 4) (A 5) _ _ rfl rfl
      rw [qA_0 c8, qB_0 c8, if_pos c20] at h9
      exact h9 _ ⟨_, _, _, _, _, _, rfl, hX⟩
    · refine b_X11_walk [] ?_
      conv => whnf
      refine g_or (Z := (Nat → Int32) × (Nat → Int32)) (P := fun z => z.1 = itr (srtI (W 0) (nI 1)) (nO (W 0)) 0 (A 5) ∧ z.2 = itr (srtI (W 0) (Int32.ofInt (-1))) (nO (W 0)) 0 (A 4)) (r0 := fun z => some (.int (shwV (W 0) (nO (W 0)) z.1 z.2))) (fun z => S 3) (fun z => W 4) (fun z => shwA (nO (W 0)) z.1 z.2) (fun z => z.1) (fun K hK => s_shw hw (fun r d hr hd => hK (r, d) ⟨hr, hd⟩)) rfl (fun z hz => ?_)
      conv => whnf
      refine b_X11_walk [] ?_
      conv => whnf
      have h9 := hK (A 4) (A 5) z.1 z.2 hz.1 hz.2
      rw [qA_0 c8, qB_0 c8, if_neg c20] at h9
      refine ⟨fun c45 => ?_, fun c45 => ?_⟩
      · conv => whnf
        refine b_X11_walk [] ?_
        conv => whnf
        rw [if_pos c45] at h9
        exact h9 _ ⟨_, _, _, _, _, _, rfl, hX.or _ _ _⟩
      · refine b_X11_walk [] ?_
        conv => whnf
        refine g_or (W := (va_up W 4 (W 4))) (A := (va_up (va_up A 4 (shwA (nO (W 0)) z.1 z.2)) 5 z.1)) (S := (va_up S 3 (S 3))) (Z := Unit) (P := fun _ => True) (r0 := fun _ => some (.int (thaF ((W 0).1 0) i (shwA (nO (W 0)) z.1 z.2)))) (fun _ => (va_up S 3 (S 3)) 3) (fun _ => (va_up W 4 (W 4)) 4) (fun _ => (va_up (va_up A 4 (shwA (nO (W 0)) z.1 z.2)) 5 z.1) 4) (fun _ => (va_up (va_up A 4 (shwA (nO (W 0)) z.1 z.2)) 5 z.1) 5) (fun K hK => s_tha (show wOk ((va_up W 4 (W 4)) 0) (nO (W 0)) (aO (W 0)) (plW (W 0)) from hw) (hK () trivial)) rfl (fun z2 _ => ?_)
        conv => whnf
        refine b_X11_walk [] ?_
        conv => whnf
        rw [if_neg c45] at h9
        exact h9 _ ⟨_, _, _, _, _, _, rfl, (hX.or _ _ _).or _ _ _⟩
  · conv => whnf
    refine s_refuse ref_in ?_
    refine b_X11_walk [] ?_
    conv => whnf
    have h9 := hK (A 4) (A 5) _ _ rfl rfl
    rw [qA_n c8] at h9
    exact h9 _ ⟨_, _, _, _, _, _, rfl, hX.bump c8⟩
/-- what a valley leaves of the letters and of what can be taken back -/
def vE (a : Ab) (x : Int32) : Ab := if x ≤ 0 then letA a 0 (a.2.1 2) else fgA (letA a 0 (a.2.1 2)) 0
theorem CX.same {a : Ab} {W : Nat → WS} {A : Nat → Nat → Int32} {I : Nat → Int32} (h : CX a W A I) {z : WS} (hz : z = W 0) : CX a (va_up W 0 z) A I := by
  have : va_up W 0 z = W := by
    funext j
    unfold va_up
    by_cases q : j = 0
    · rw [if_pos q, hz, q]
    · rw [if_neg q]
  rw [this]
  exact h
theorem c_valley {a : Ab} {H : AH} (hI : Inv a) (hC : CR a H) {K : Option Value → AH → Prop} (h1 : ¬ (if a.2.2 2 = 0 then nI 0 else misF (a.2.2 2) (a.2.1 2) (a.2.2 2 + 1) 0) = Int32.ofInt (-9) → ∀ H2, CR (vE a (Int32.ofInt (-1000) - (if a.2.2 2 = 0 then nI 0 else misF (a.2.2 2) (a.2.1 2) (a.2.2 2 + 1) 0))) H2 → K (some (.int (Int32.ofInt (-1000) - (if a.2.2 2 = 0 then nI 0 else misF (a.2.2 2) (a.2.1 2) (a.2.2 2 + 1) 0)))) H2) (h2 : (if a.2.2 2 = 0 then nI 0 else misF (a.2.2 2) (a.2.1 2) (a.2.2 2 + 1) 0) = Int32.ofInt (-9) → ∀ w2, wEq w2 (a.1 0) → (comF (a.2.2 2) (a.2.1 2) (a.2.2 2 + 1) w2 (nO (a.1 0)) 0 0).2 = none → ∀ H2, CR (vE a (comF (a.2.2 2) (a.2.1 2) (a.2.2 2 + 1) w2 (nO (a.1 0)) 0 0).1) H2 → K (some (.int (comF (a.2.2 2) (a.2.1 2) (a.2.2 2 + 1) w2 (nO (a.1 0)) 0 0).1)) H2) (h3 : (if a.2.2 2 = 0 then nI 0 else misF (a.2.2 2) (a.2.1 2) (a.2.2 2 + 1) 0) = Int32.ofInt (-9) → ∀ w2 m2 w3, wEq w2 (a.1 0) → (comF (a.2.2 2) (a.2.1 2) (a.2.2 2 + 1) w2 (nO (a.1 0)) 0 0).2 = some m2 → wEq w3 m2 → ∀ H2, CR (vE (nowA a w3) (comF (a.2.2 2) (a.2.1 2) (a.2.2 2 + 1) w2 (nO (a.1 0)) 0 0).1) H2 → K (some (.int (comF (a.2.2 2) (a.2.1 2) (a.2.2 2 + 1) w2 (nO (a.1 0)) 0 0).1)) H2) : am_M i_X11_valley [.ref 0] H K := by
  obtain ⟨W, S, A, I, B, L, rfl, hX⟩ := hC
  have e0 : W 0 = a.1 0 := hX.1
  have e1 : I 1 = nI (a.2.2 1) := hX.2.2.2.2.2.2.1
  have e2 : I 2 = nI (a.2.2 2) := hX.2.2.2.2.2.2.2.1
  have e4 : I 4 = nI (a.2.2 3) := hX.2.2.2.2.2.2.2.2.1
  obtain ⟨x9, hx9, e3, -⟩ := hX.2.2.2.2.2.2.2.2.2
  have h38 : a.2.2 3 ≤ 8 := hI.2.2.2.2.2.1
  have hw := hX.n hI
  have hn := hw.1
  have hn8 := hw.2.1
  have e6 : A 6 = a.2.1 2 := hX.2.2.2.2.1
  rw [← e0] at h2 h3
  refine e_X11_valley [] ?_
  conv => whnf
  refine s_mis (q := a.2.2 2) (f := a.2.1 2) (ta := 62) (ua := 68) (by rw [← e2, ← e6]; exact ⟨rfl, rfl⟩) hI.2.2.2.2.1 ?_
  refine b_X11_valley [] ?_
  conv => whnf
  refine ⟨fun c11 => ?_, fun c11 => ?_⟩
  · refine b_X11_valley [] ?_
    conv => whnf
    refine g_va (Z := WS × WS × S3 × WS) (P := fun z => wEq z.1 (W 0) ∧ (((comF (a.2.2 2) (a.2.1 2) (a.2.2 2 + 1) z.1 (nO (W 0)) 0 0).2 = some z.2.1 ∧ wEq z.2.2.2 z.2.1) ∨ ((comF (a.2.2 2) (a.2.1 2) (a.2.2 2 + 1) z.1 (nO (W 0)) 0 0).2 = none ∧ z.2.2.2 = W 0))) (r0 := fun z => some (.int (comF (a.2.2 2) (a.2.1 2) (a.2.2 2 + 1) z.1 (nO (W 0)) 0 0).1)) (fun z => z.2.1) (fun z => z.2.2.1) (fun z => z.2.2.2) (fun K hK => by rw [e2, e6] at hK ⊢; exact s_com hI.2.2.2.2.1 ⟨_, _, hw⟩ (fun w2 hw2 => ⟨fun m2 hm s2 w3 hw3 => hK (w2, m2, s2, w3) ⟨hw2, Or.inl ⟨hm, hw3⟩⟩, fun hm s2 md2 => hK (w2, md2, s2, W 0) ⟨hw2, Or.inr ⟨hm, rfl⟩⟩⟩)) rfl (fun z hz => ?_)
    conv => whnf
    refine b_X11_valley [] ?_
    conv => whnf
    refine ⟨fun c43 => ?_, fun c43 => ?_⟩
    · refine b_X11_valley [] ?_
      conv => whnf
      rcases hz.2 with ⟨y1, y2⟩ | ⟨y1, y2⟩
      · have e8 := h3 c11 z.1 z.2.1 z.2.2.2 hz.1 y1 y2
        rw [vE, if_pos c43] at e8
        exact e8 _ ⟨(va_up (va_up W 6 z.2.1) 0 z.2.2.2), (va_up S 5 z.2.2.1), A, va_up I 2 (nI 0), B, L, rfl, ((hX.w (i := 6) (by omega) (by omega) z.2.1).now z.2.2.2).let0⟩
      · have e8 := h2 c11 z.1 hz.1 y1
        rw [vE, if_pos c43] at e8
        exact e8 _ ⟨(va_up (va_up W 6 z.2.1) 0 z.2.2.2), (va_up S 5 z.2.2.1), A, va_up I 2 (nI 0), B, L, rfl, ((hX.w (i := 6) (by omega) (by omega) z.2.1).same y2).let0⟩
    · conv => whnf
      refine s_fg (W := (va_up (va_up W 6 z.2.1) 0 z.2.2.2)) (S := (va_up S 5 z.2.2.1)) (I := va_up I 2 (nI 0)) ?_
      refine b_X11_valley [] ?_
      conv => whnf
      rcases hz.2 with ⟨y1, y2⟩ | ⟨y1, y2⟩
      · have e8 := h3 c11 z.1 z.2.1 z.2.2.2 hz.1 y1 y2
        rw [vE, if_neg c43] at e8
        exact e8 _ ⟨(va_up (va_up W 6 z.2.1) 0 z.2.2.2), (va_up S 5 z.2.2.1), A, va_up (va_up I 2 (nI 0)) 4 (nI 0), B, L, rfl, ((hX.w (i := 6) (by omega) (by omega) z.2.1).now z.2.2.2).let0.fg⟩
      · have e8 := h2 c11 z.1 hz.1 y1
        rw [vE, if_neg c43] at e8
        exact e8 _ ⟨(va_up (va_up W 6 z.2.1) 0 z.2.2.2), (va_up S 5 z.2.2.1), A, va_up (va_up I 2 (nI 0)) 4 (nI 0), B, L, rfl, ((hX.w (i := 6) (by omega) (by omega) z.2.1).same y2).let0.fg⟩
  · conv => whnf
    refine b_X11_valley [] ?_
    conv => whnf
    refine ⟨fun c43 => ?_, fun c43 => ?_⟩
    · refine b_X11_valley [] ?_
      conv => whnf
      have e8 := h1 c11
      rw [vE, if_pos c43] at e8
      exact e8 _ ⟨W, S, A, va_up I 2 (nI 0), B, L, rfl, hX.let0⟩
    · conv => whnf
      refine s_fg (I := va_up I 2 (nI 0)) ?_
      refine b_X11_valley [] ?_
      conv => whnf
      have e8 := h1 c11
      rw [vE, if_neg c43] at e8
      exact e8 _ ⟨W, S, A, va_up (va_up I 2 (nI 0)) 4 (nI 0), B, L, rfl, hX.let0.fg⟩
