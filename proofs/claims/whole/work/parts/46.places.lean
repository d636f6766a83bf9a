/-! the class's object holds a state; its helpers at their places -/
def CX (a : Ab) (W : Nat → WS) (A : Nat → Nat → Int32) (I : Nat → Int32) : Prop := W 0 = a.1 0 ∧ W 1 = a.1 1 ∧ A 0 = a.2.1 0 ∧ A 1 = a.2.1 1 ∧ A 6 = a.2.1 2 ∧ I 0 = nI (a.2.2 0) ∧ I 1 = nI (a.2.2 1) ∧ I 2 = nI (a.2.2 2) ∧ I 4 = nI (a.2.2 3) ∧ ∃ x, x < 8 ∧ I 3 = nI x ∧ ∀ k, k < a.2.2 3 → W (7 + (x + 8 - a.2.2 3 + k) % 8) = a.1 (2 + k)
def CR (a : Ab) (H : AH) : Prop := ∃ W S A I B L, H = gC W S A I B L ∧ CX a W A I
theorem CX.w {a : Ab} {W : Nat → WS} {A : Nat → Nat → Int32} {I : Nat → Int32} (h : CX a W A I) {i : Nat} (h1 : 2 ≤ i) (h2 : i ≤ 6) (z : WS) : CX a (va_up W i z) A I := by
  obtain ⟨a1, a2, a3, a4, a5, a6, a7, a8, a9, x, b1, b2, b3⟩ := h
  have e : ∀ j, j ≠ i → va_up W i z j = W j := fun j hj => if_neg hj
  refine ⟨(e 0 (by omega)).trans a1, (e 1 (by omega)).trans a2, a3, a4, a5, a6, a7, a8, a9, x, b1, b2, fun k hk => (e _ (by omega)).trans (b3 k hk)⟩
theorem CX.a {a : Ab} {W : Nat → WS} {A : Nat → Nat → Int32} {I : Nat → Int32} (h : CX a W A I) {i : Nat} (h1 : 2 ≤ i) (h2 : i ≤ 5) (z : Nat → Int32) : CX a W (va_up A i z) I := by
  obtain ⟨a1, a2, a3, a4, a5, a6⟩ := h
  have e : ∀ j, j ≠ i → va_up A i z j = A j := fun j hj => if_neg hj
  exact ⟨a1, a2, (e 0 (by omega)).trans a3, (e 1 (by omega)).trans a4, (e 6 (by omega)).trans a5, a6⟩
theorem CX.i {a : Ab} {W : Nat → WS} {A : Nat → Nat → Int32} {I : Nat → Int32} (h : CX a W A I) {i : Nat} (h1 : 5 ≤ i) (z : Int32) : CX a W A (va_up I i z) := by
  obtain ⟨a1, a2, a3, a4, a5, a6, a7, a8, a9, x, b1, b2, b3⟩ := h
  have e : ∀ j, j < 5 → va_up I i z j = I j := fun j hj => if_neg (by omega)
  exact ⟨a1, a2, a3, a4, a5, (e 0 (by omega)).trans a6, (e 1 (by omega)).trans a7, (e 2 (by omega)).trans a8, (e 4 (by omega)).trans a9, x, b1, (e 3 (by omega)).trans b2, b3⟩
theorem CX.bump {a : Ab} {W : Nat → WS} {A : Nat → Nat → Int32} {I : Nat → Int32} (h : CX a W A I) {x : Int32} (hx : ¬ x = 0) : CX (qB a x) W (va_up A 0 (refU x (A 0))) I := by
  rw [qB_n hx]
  obtain ⟨a1, a2, a3, a4, a5, a6⟩ := h
  refine ⟨a1, a2, ?_, a4, a5, a6⟩
  show refU x (A 0) = refU x (a.2.1 0)
  rw [a3]
theorem CX.pl {a : Ab} {W : Nat → WS} {A : Nat → Nat → Int32} {I : Nat → Int32} (h : CX a W A I) (z : WS) (f g : Nat → Int32) : CX a (va_up W 3 z) (va_up (va_up A 2 f) 3 g) I := ((h.w (i := 3) (by omega) (by omega) z).a (i := 2) (by omega) (by omega) f).a (i := 3) (by omega) (by omega) g
theorem CX.ec {a : Ab} {W : Nat → WS} {A : Nat → Nat → Int32} {I : Nat → Int32} (h : CX a W A I) (z : WS) (x y q : Int32) : CX a (va_up W 2 z) A (va_up (va_up (va_up I 5 x) 6 y) 7 q) := (((h.w (i := 2) (by omega) (by omega) z).i (i := 5) (by omega) x).i (i := 6) (by omega) y).i (i := 7) (by omega) q
theorem CX.or {a : Ab} {W : Nat → WS} {A : Nat → Nat → Int32} {I : Nat → Int32} (h : CX a W A I) (z : WS) (f g : Nat → Int32) : CX a (va_up W 4 z) (va_up (va_up A 4 f) 5 g) I := ((h.w (i := 4) (by omega) (by omega) z).a (i := 4) (by omega) (by omega) f).a (i := 5) (by omega) (by omega) g
theorem CX.fu {a : Ab} {W : Nat → WS} {A : Nat → Nat → Int32} {I : Nat → Int32} (h : CX a W A I) (z : WS) (x y q : Int32) : CX a (va_up W 5 z) A (va_up (va_up (va_up I 8 x) 9 y) 10 q) := (((h.w (i := 5) (by omega) (by omega) z).i (i := 8) (by omega) x).i (i := 9) (by omega) y).i (i := 10) (by omega) q
theorem CX.n {a : Ab} {W : Nat → WS} {A : Nat → Nat → Int32} {I : Nat → Int32} (h : CX a W A I) (hI : Inv a) : wOk (W 0) (nO (W 0)) (aO (W 0)) (plW (W 0)) := by
  rw [h.1]
  exact hI.1.1
theorem ref_in {x : Int32} (h1 : ¬ 0 ≤ x) (h2 : ¬ x < Int32.ofInt (-6)) : vp_in (0 - x) 7 := by
  have a1 : x.toInt < 0 := by
    have := Int32.lt_iff_toInt_lt.mp (Int32.not_le.mp h1)
    simpa using this
  have a2 : -6 ≤ x.toInt := by
    have := Int32.le_iff_toInt_le.mp (Int32.not_lt.mp h2)
    simpa using this
  have hx := Int32.ofInt_toInt x
  have : x.toInt = -1 ∨ x.toInt = -2 ∨ x.toInt = -3 ∨ x.toInt = -4 ∨ x.toInt = -5 ∨ x.toInt = -6 := by omega
  rcases this with q | q | q | q | q | q <;> (rw [q] at hx; subst hx; unfold vp_in; decide)
set_option maxRecDepth 100000 in
theorem g_pl {W : Nat → WS} {S : Nat → S3} {A : Nat → Nat → Int32} {I : Nat → Int32} {B : Nat → Int32 × Int32} {L : Nat → Int64} {Z : Type} {P : Z → Prop} {r0 : Z → Option Value} (fs : Z → S3) (fm : Z → WS) (fb : Z → Int32 × Int32) (fh : Z → Nat → Int32) (fu : Z → Nat → Int32) {id : Nat} {aa aaB : List Value} {K2 : Option Value → AH → Prop} (hm : ∀ K : Option Value → AH → Prop, (∀ z, P z → K (r0 z) (pC (fs z) (fm z) (fb z) (fh z) (fu z) (W 0))) → am_M id aa (pC (S 2) (W 3) (B 1) (A 2) (A 3) (W 0)) K) (haa : am_rS (am_pl [28, 29, 30, 31, 32, 33, 34, 35, 36, 37, 38, 39, 1, 2, 3, 4, 5, 6]) aa = aaB) (hk : ∀ z, P z → am_oK [28, 29, 30, 31, 32, 33, 34, 35, 36, 37, 38, 39, 1, 2, 3, 4, 5, 6] (r0 z) (fun r => K2 r (gC (va_up W 3 (fm z)) (va_up S 2 (fs z)) (va_up (va_up A 2 (fh z)) 3 (fu z)) I (va_up B 1 (fb z)) L))) : am_M id aaB (gC W S A I B L) K2 :=
  am_frZ (Z := Z) (P := P) (r0 := r0) (h2 := fun z => pC (fs z) (fm z) (fb z) (fh z) (fu z) (W 0)) [28, 29, 30, 31, 32, 33, 34, 35, 36, 37, 38, 39, 1, 2, 3, 4, 5, 6] hm haa rfl ⟨rfl, rfl, rfl, rfl, rfl, rfl, rfl, rfl, rfl, rfl, rfl, rfl, rfl, rfl, rfl, rfl, rfl, rfl, trivial⟩ (fun _ => rfl) (fun z hz => hk z hz)
set_option maxRecDepth 100000 in
theorem g_ec {W : Nat → WS} {S : Nat → S3} {A : Nat → Nat → Int32} {I : Nat → Int32} {B : Nat → Int32 × Int32} {L : Nat → Int64} {Z : Type} {P : Z → Prop} {r0 : Z → Option Value} (fd : Z → Int32 × Int32 × Int32) (fs : Z → S3) (fm : Z → WS) (fb : Z → Int32 × Int32) {id : Nat} {aa aaB : List Value} {K2 : Option Value → AH → Prop} (hm : ∀ K : Option Value → AH → Prop, (∀ z, P z → K (r0 z) (eC (fd z) (fs z) (fm z) (fb z) (W 0))) → am_M id aa (eC (I 5, I 6, I 7) (S 1) (W 2) (B 0) (W 0)) K) (haa : am_rS (am_pl [18, 19, 20, 21, 22, 23, 24, 25, 26, 27, 1, 2, 3, 4, 5, 6]) aa = aaB) (hk : ∀ z, P z → am_oK [18, 19, 20, 21, 22, 23, 24, 25, 26, 27, 1, 2, 3, 4, 5, 6] (r0 z) (fun r => K2 r (gC (va_up W 2 (fm z)) (va_up S 1 (fs z)) A (va_up (va_up (va_up I 5 (fd z).1) 6 (fd z).2.1) 7 (fd z).2.2) (va_up B 0 (fb z)) L))) : am_M id aaB (gC W S A I B L) K2 :=
  am_frZ (Z := Z) (P := P) (r0 := r0) (h2 := fun z => eC (fd z) (fs z) (fm z) (fb z) (W 0)) [18, 19, 20, 21, 22, 23, 24, 25, 26, 27, 1, 2, 3, 4, 5, 6] hm haa rfl ⟨rfl, rfl, rfl, rfl, rfl, rfl, rfl, rfl, rfl, rfl, rfl, rfl, rfl, rfl, rfl, rfl, trivial⟩ (fun _ => rfl) (fun z hz => hk z hz)
set_option maxRecDepth 100000 in
theorem g_er {W : Nat → WS} {S : Nat → S3} {A : Nat → Nat → Int32} {I : Nat → Int32} {B : Nat → Int32 × Int32} {L : Nat → Int64} {Z : Type} {P : Z → Prop} {r0 : Z → Option Value} (fd : Z → Int32 × Int32 × Int32) (fs : Z → S3) (fm : Z → WS) (fb : Z → Int32 × Int32) {id : Nat} {aa aaB : List Value} {K2 : Option Value → AH → Prop} (hm : ∀ K : Option Value → AH → Prop, (∀ z, P z → K (r0 z) (eC (fd z) (fs z) (fm z) (fb z) (W 0) ++ rC 16 (I 1) (A 1))) → am_M id aa (eC (I 5, I 6, I 7) (S 1) (W 2) (B 0) (W 0) ++ rC 16 (I 1) (A 1)) K) (haa : am_rS (am_pl [18, 19, 20, 21, 22, 23, 24, 25, 26, 27, 1, 2, 3, 4, 5, 6, 16, 17]) aa = aaB) (hk : ∀ z, P z → am_oK [18, 19, 20, 21, 22, 23, 24, 25, 26, 27, 1, 2, 3, 4, 5, 6, 16, 17] (r0 z) (fun r => K2 r (gC (va_up W 2 (fm z)) (va_up S 1 (fs z)) A (va_up (va_up (va_up I 5 (fd z).1) 6 (fd z).2.1) 7 (fd z).2.2) (va_up B 0 (fb z)) L))) : am_M id aaB (gC W S A I B L) K2 :=
  am_frZ (Z := Z) (P := P) (r0 := r0) (h2 := fun z => eC (fd z) (fs z) (fm z) (fb z) (W 0) ++ rC 16 (I 1) (A 1)) [18, 19, 20, 21, 22, 23, 24, 25, 26, 27, 1, 2, 3, 4, 5, 6, 16, 17] hm haa rfl ⟨rfl, rfl, rfl, rfl, rfl, rfl, rfl, rfl, rfl, rfl, rfl, rfl, rfl, rfl, rfl, rfl, rfl, rfl, trivial⟩ (fun _ => rfl) (fun z hz => hk z hz)
set_option maxRecDepth 100000 in
theorem g_or {W : Nat → WS} {S : Nat → S3} {A : Nat → Nat → Int32} {I : Nat → Int32} {B : Nat → Int32 × Int32} {L : Nat → Int64} {Z : Type} {P : Z → Prop} {r0 : Z → Option Value} (fs : Z → S3) (fm : Z → WS) (ff : Z → Nat → Int32) (fg : Z → Nat → Int32) {id : Nat} {aa aaB : List Value} {K2 : Option Value → AH → Prop} (hm : ∀ K : Option Value → AH → Prop, (∀ z, P z → K (r0 z) (oC (fs z) (fm z) (ff z) (fg z) (W 0))) → am_M id aa (oC (S 3) (W 4) (A 4) (A 5) (W 0)) K) (haa : am_rS (am_pl [40, 41, 42, 43, 44, 45, 46, 47, 48, 49, 50, 1, 2, 3, 4, 5, 6]) aa = aaB) (hk : ∀ z, P z → am_oK [40, 41, 42, 43, 44, 45, 46, 47, 48, 49, 50, 1, 2, 3, 4, 5, 6] (r0 z) (fun r => K2 r (gC (va_up W 4 (fm z)) (va_up S 3 (fs z)) (va_up (va_up A 4 (ff z)) 5 (fg z)) I B L))) : am_M id aaB (gC W S A I B L) K2 :=
  am_frZ (Z := Z) (P := P) (r0 := r0) (h2 := fun z => oC (fs z) (fm z) (ff z) (fg z) (W 0)) [40, 41, 42, 43, 44, 45, 46, 47, 48, 49, 50, 1, 2, 3, 4, 5, 6] hm haa rfl ⟨rfl, rfl, rfl, rfl, rfl, rfl, rfl, rfl, rfl, rfl, rfl, rfl, rfl, rfl, rfl, rfl, rfl, trivial⟩ (fun _ => rfl) (fun z hz => hk z hz)
set_option maxRecDepth 100000 in
theorem g_fu {W : Nat → WS} {S : Nat → S3} {A : Nat → Nat → Int32} {I : Nat → Int32} {B : Nat → Int32 × Int32} {L : Nat → Int64} {Z : Type} {P : Z → Prop} {r0 : Z → Option Value} (fs : Z → S3) (fm : Z → WS) (fq : Z → F5) {id : Nat} {aa aaB : List Value} {K2 : Option Value → AH → Prop} (hm : ∀ K : Option Value → AH → Prop, (∀ z, P z → K (r0 z) (fC (fs z) (fm z) (fq z) (W 0))) → am_M id aa (fC (S 4) (W 5) (I 8, (L 0, L 1), I 9, I 10) (W 0)) K) (haa : am_rS (am_pl [51, 52, 53, 54, 55, 56, 57, 58, 59, 1, 2, 3, 4, 5, 6]) aa = aaB) (hk : ∀ z, P z → am_oK [51, 52, 53, 54, 55, 56, 57, 58, 59, 1, 2, 3, 4, 5, 6] (r0 z) (fun r => K2 r (gC (va_up W 5 (fm z)) (va_up S 4 (fs z)) A (va_up (va_up (va_up I 8 (fq z).1) 9 (fq z).2.2.1) 10 (fq z).2.2.2) B (va_up (va_up L 0 (fq z).2.1.1) 1 (fq z).2.1.2)))) : am_M id aaB (gC W S A I B L) K2 :=
  am_frZ (Z := Z) (P := P) (r0 := r0) (h2 := fun z => fC (fs z) (fm z) (fq z) (W 0)) [51, 52, 53, 54, 55, 56, 57, 58, 59, 1, 2, 3, 4, 5, 6] hm haa rfl ⟨rfl, rfl, rfl, rfl, rfl, rfl, rfl, rfl, rfl, rfl, rfl, rfl, rfl, rfl, rfl, trivial⟩ (fun _ => rfl) (fun z hz => hk z hz)
set_option maxRecDepth 100000 in
theorem g_ws {W : Nat → WS} {S : Nat → S3} {A : Nat → Nat → Int32} {I : Nat → Int32} {B : Nat → Int32 × Int32} {L : Nat → Int64} {Z : Type} {P : Z → Prop} {r0 : Z → Option Value} (fs : Z → S3) {id : Nat} {aa aaB : List Value} {K2 : Option Value → AH → Prop} (hm : ∀ K : Option Value → AH → Prop, (∀ z, P z → K (r0 z) (uC 0 (fs z) ++ wC 2 (W 0))) → am_M id aa (uC 0 (S 0) ++ wC 2 (W 0)) K) (haa : am_rS (am_pl [7, 8, 1, 2, 3, 4, 5, 6]) aa = aaB) (hk : ∀ z, P z → am_oK [7, 8, 1, 2, 3, 4, 5, 6] (r0 z) (fun r => K2 r (gC W (va_up S 0 (fs z)) A I B L))) : am_M id aaB (gC W S A I B L) K2 :=
  am_frZ (Z := Z) (P := P) (r0 := r0) (h2 := fun z => uC 0 (fs z) ++ wC 2 (W 0)) [7, 8, 1, 2, 3, 4, 5, 6] hm haa rfl ⟨rfl, rfl, rfl, rfl, rfl, rfl, rfl, rfl, trivial⟩ (fun _ => rfl) (fun z hz => hk z hz)
theorem g_strike {W : Nat → WS} {S : Nat → S3} {A : Nat → Nat → Int32} {I : Nat → Int32} {B : Nat → Int32 × Int32} {L : Nat → Int64} {n t : Nat} {A' P : Nat → Nat} {v : Int32} {K : Option Value → AH → Prop} (hw : wOk (W 0) n A' P) (ht : t < n) (hk : ∀ s2, sAg s2 (blw (W 0) n (P t) v) → bwI n s2 → K none (gC W (va_up S 0 s2) A I B L)) : am_M i_X9_strike [.ref 7, .ref 1, .int (nI t), .int v] (gC W S A I B L) K :=
  g_ws (Z := S3) (P := fun s2 => sAg s2 (blw (W 0) n (P t) v)) (r0 := fun _ => none) (fun z => z) (fun K hK => s_strike hw ht (fun g hg => hK (g, (blw (W 0) n (P t) v).2) ⟨hg, rfl⟩)) rfl (fun z hz => hk z hz (hz.bw (bw_blw hw (hw.2.2.2 t ht).2.1 v)))
