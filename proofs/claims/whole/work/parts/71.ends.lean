/-! orders of at most six end -/
def lowN (a : Nat → Nat) : Nat → Nat
  | 0 => 0
  | k + 1 => if a k ≤ a (k + 1) then k + 1 else lowN a k
def highN (a : Nat → Nat) (lo : Nat) : Nat → Nat
  | 0 => lo
  | k + 1 => if a lo ≤ a (lo + (k + 1)) then lo + (k + 1) else highN a lo k
def swN (a : Nat → Nat) (i j : Nat) : Nat → Nat := fun k => if k = j then a i else if k = i then a j else a k
def revN : Nat → Nat → Nat → (Nat → Nat) → (Nat → Nat)
  | 0, _, _, a => a
  | f + 1, l, r, a => if l < r then revN f (l + 1) (r - 1) (swN a l r) else a
def nxN (n : Nat) (a : Nat → Nat) : Option (Nat → Nat) := match lowN a (n - 1) with
  | 0 => none
  | lo + 1 => some (revN n (lo + 1) (n - 1) (swN a lo (highN a lo (n - 1 - lo))))
def rrN (n : Nat) (g : Nat → Int32) (a : Nat → Nat) : Prop := ∀ j, j < n → g j = nI (a j) ∧ a j < 8
theorem rrN.low {n : Nat} {g : Nat → Int32} {a : Nat → Nat} (h : rrN n g a) : ∀ k, k < n → lowF g k = lowN a k := by
  intro k
  induction k with
  | zero => intro _; rfl
  | succ k ih =>
    intro hk
    obtain ⟨e1, b1⟩ := h k (by omega)
    obtain ⟨e2, b2⟩ := h (k + 1) hk
    rw [lowF, lowN, e1, e2, ih (by omega)]
    by_cases c : a k ≤ a (k + 1)
    · rw [if_pos c, if_pos (nI_le c (by omega))]
    · rw [if_neg c, if_neg (fun z => c ((nI_leI (by omega) (by omega)).mp z))]
theorem rrN.high {n lo : Nat} {g : Nat → Int32} {a : Nat → Nat} (h : rrN n g a) (hl : lo < n) : ∀ k, lo + k < n → highF g lo k = highN a lo k := by
  intro k
  induction k with
  | zero => intro _; rfl
  | succ k ih =>
    intro hk
    obtain ⟨e1, b1⟩ := h lo hl
    obtain ⟨e2, b2⟩ := h (lo + (k + 1)) hk
    rw [highF, highN, e1, e2, ih (by omega)]
    by_cases c : a lo ≤ a (lo + (k + 1))
    · rw [if_pos c, if_pos (nI_le c (by omega))]
    · rw [if_neg c, if_neg (fun z => c ((nI_leI (by omega) (by omega)).mp z))]
theorem rrN.sw {n i j : Nat} {w : WS} {a : Nat → Nat} (h : rrN n (w.2 3) a) (hi : i < n) (hj : j < n) : rrN n ((wXch w i j).2 3) (swN a i j) := by
  intro k hk
  show upd (upd (w.2 3) i (w.2 3 j)) j (w.2 3 i) k = nI (swN a i j k) ∧ swN a i j k < 8
  simp only [upd, swN]
  by_cases c : k = j
  · rw [if_pos c, if_pos c]; exact h i hi
  · rw [if_neg c, if_neg c]
    by_cases d : k = i
    · rw [if_pos d, if_pos d]; exact h j hj
    · rw [if_neg d, if_neg d]; exact h k hk
theorem rrN.rev {n : Nat} : ∀ (f l r : Nat) (w : WS) (a : Nat → Nat), rrN n (w.2 3) a → r < n → rrN n ((revF f l r w).2 3) (revN f l r a) := by
  intro f
  induction f with
  | zero => intro l r w a h _; exact h
  | succ f ih =>
    intro l r w a h hr
    rw [revF, revN]
    by_cases c : l < r
    · rw [if_pos c, if_pos c]; exact ih _ _ _ _ (h.sw (by omega) hr) (by omega)
    · rw [if_neg c, if_neg c]; exact h
theorem nx_N {n : Nat} {w : WS} {a : Nat → Nat} (h : rrN n (w.2 3) a) : (nxN n a = none → nxO w n = none) ∧ ∀ w2, nxO w n = some w2 → ∃ a2, nxN n a = some a2 ∧ rrN n (w2.2 3) a2 := by
  by_cases hn : n = 0
  · subst hn
    exact ⟨fun _ => rfl, fun w2 e => (by cases e)⟩
  · have hl := h.low (n - 1) (by omega)
    have hle := lowF_le (w.2 3) (n - 1)
    unfold nxO nxN
    rw [hl] at hle ⊢
    rcases q : lowN a (n - 1) with _ | lo
    · exact ⟨fun _ => rfl, fun w2 e => (by cases e)⟩
    · rw [q] at hle
      refine ⟨fun e => (by cases e), fun w2 e => ?_⟩
      cases e
      have hh := highF_le (w.2 3) lo (n - 1 - lo)
      rw [h.high (by omega) (n - 1 - lo) (by omega)] at hh ⊢
      exact ⟨_, rfl, rrN.rev _ _ _ _ _ (h.sw (by omega) (by omega)) (by omega)⟩
def decN (c : Nat) : Nat → Nat := fun j => c / 8 ^ j % 8
def encN : Nat → (Nat → Nat) → Nat
  | 0, _ => 0
  | n + 1, a => encN n a + a n * 8 ^ n
theorem encN_lt {a : Nat → Nat} : ∀ n, (∀ j, j < n → a j < 8) → encN n a < 8 ^ n := by
  intro n
  induction n with
  | zero => intro _; exact Nat.one_pos
  | succ n ih =>
    intro h
    have h1 := ih (fun j hj => h j (by omega))
    have h2 : a n * 8 ^ n ≤ 7 * 8 ^ n := Nat.mul_le_mul_right _ (by have := h n (by omega); omega)
    rw [encN, Nat.pow_succ]
    omega
theorem dec_enc {a : Nat → Nat} : ∀ n, (∀ j, j < n → a j < 8) → ∀ j, j < n → decN (encN n a) j = a j := by
  intro n
  induction n with
  | zero => intro _ j hj; omega
  | succ n ih =>
    intro h j hj
    have h1 := encN_lt n (fun j hj => h j (by omega))
    unfold decN encN
    by_cases e : j = n
    · subst e
      rw [Nat.add_mul_div_right _ _ (Nat.pow_pos (by decide)), Nat.div_eq_of_lt h1, Nat.zero_add, Nat.mod_eq_of_lt (h j hj)]
    · have h3 := ih (fun j hj => h j (by omega)) j (by omega)
      unfold decN at h3
      obtain ⟨d, rfl⟩ : ∃ d, n = j + 1 + d := ⟨n - j - 1, by omega⟩
      have : a (j + 1 + d) * 8 ^ (j + 1 + d) = (a (j + 1 + d) * 8 ^ d * 8) * 8 ^ j := by
        rw [Nat.pow_add, Nat.pow_succ]
        simp only [Nat.mul_assoc, Nat.mul_comm, Nat.mul_left_comm]
      rw [this, Nat.add_mul_div_right _ _ (Nat.pow_pos (by decide)), Nat.add_mul_mod_self_right]
      exact h3
def chkN (n : Nat) : Nat → List Nat → Bool
  | c, [] => (nxN n (decN c)).isNone
  | c, d :: l => (match nxN n (decN c) with | none => false | some a => encN n a == d) && chkN n d l
/-- the orders that come after a wire's end within k turns -/
def endsIn (n : Nat) : Nat → WS → Prop
  | 0, _ => False
  | k + 1, w => ∀ w2, nxO w n = some w2 → endsIn n k w2
theorem endsIn.mono {n : Nat} : ∀ {k k2 : Nat} {w : WS}, endsIn n k w → k ≤ k2 → endsIn n k2 w := by
  intro k
  induction k with
  | zero => intro k2 w h _; exact h.elim
  | succ k ih =>
    intro k2 w h hk
    obtain ⟨x, rfl⟩ : ∃ x, k2 = x + 1 := ⟨k2 - 1, by omega⟩
    exact fun w2 e => ih (h w2 e) (by omega)
theorem chk_ends {n : Nat} : ∀ (l : List Nat) (c : Nat) (w : WS), rrN n (w.2 3) (decN c) → chkN n c l = true → endsIn n (l.length + 1) w := by
  intro l
  induction l with
  | nil =>
    intro c w h hc w2 e
    obtain ⟨h1, -⟩ := nx_N h
    unfold chkN at hc
    rw [h1 (by cases q : nxN n (decN c) with | none => rfl | some x => rw [q] at hc; cases hc)] at e
    cases e
  | cons d l ih =>
    intro c w h hc w2 e
    obtain ⟨a2, e2, hr⟩ := (nx_N h).2 w2 e
    unfold chkN at hc
    rw [e2, Bool.and_eq_true] at hc
    obtain ⟨h3, h4⟩ := hc
    have h3 : encN n a2 = d := eq_of_beq h3
    refine ih d w2 (fun j hj => ?_) h4
    have h5 : decN d j = a2 j := by rw [← h3]; exact dec_enc n (fun j hj => (hr j hj).2) j hj
    rw [h5]
    exact hr j hj
def orT0 : List Nat := []
theorem orC0 : chkN 0 0 orT0 = true := by decide +kernel
theorem orL0 : orT0.length + 1 ≤ 720 := by decide +kernel
def orT1 : List Nat := []
theorem orC1 : chkN 1 0 orT1 = true := by decide +kernel
theorem orL1 : orT1.length + 1 ≤ 720 := by decide +kernel
def orT2 : List Nat := [1]
theorem orC2 : chkN 2 8 orT2 = true := by decide +kernel
theorem orL2 : orT2.length + 1 ≤ 720 := by decide +kernel
def orT3 : List Nat := [80, 129, 17, 66, 10]
theorem orC3 : chkN 3 136 orT3 = true := by decide +kernel
theorem orL3 : orT3.length + 1 ≤ 720 := by decide +kernel
def orT4 : List Nat := [1224, 1616, 720, 1112, 664, 1665, 1217, 1553, 209, 1049, 153, 1602, 706, 1546, 202, 538, 90, 1091, 643, 1035, 139, 531, 83]
theorem orC4 : chkN 4 1672 orT4 = true := by decide +kernel
theorem orL4 : orT4.length + 1 ≤ 720 := by decide +kernel
def orT5 : List Nat := [14472, 17608, 10440, 13576, 9992, 18000, 14416, 17104, 6352, 13072, 5904, 17496, 10328, 17048, 6296, 8984, 5400, 13408, 9824, 12960, 5792, 8928, 5344, 18049, 14465, 17601, 10433, 13569, 9985, 17937, 14353, 16593, 2257, 12561, 1809, 17433, 10265, 16537, 2201, 8473, 1305, 13345, 9761, 12449, 1697, 8417, 1249, 17986, 14402, 17090, 6338, 13058, 5890, 17930, 14346, 16586, 2250, 12554, 1802, 16922, 6170, 16474, 2138, 4378, 794, 12834, 5666, 12386, 1634, 4322, 738, 17475, 10307, 17027, 6275, 8963, 5379, 17419, 10251, 16523, 2187, 8459, 1291, 16915, 6163, 16467, 2131, 4371, 787, 8739, 5155, 8291, 1123, 4259, 675, 13380, 9796, 12932, 5764, 8900, 5316, 13324, 9740, 12428, 1676, 8396, 1228, 12820, 5652, 12372, 1620, 4308, 724, 8732, 5148, 8284, 1116, 4252, 668]
theorem orC5 : chkN 5 18056 orT5 = true := by decide +kernel
theorem orL5 : orT5.length + 1 ≤ 720 := by decide +kernel
def orT6 : List Nat := [153224, 178312, 120968, 146056, 117384, 181448, 152776, 174280, 88264, 142024, 84680, 177416, 120072, 173832, 87816, 109320, 80648, 144712, 116040, 141128, 83784, 108872, 80200, 181840, 153168, 178256, 120912, 146000, 117328, 180944, 152272, 170192, 55504, 137936, 51920, 176912, 119568, 169744, 55056, 105232, 47888, 144208, 115536, 137040, 51024, 104784, 47440, 181336, 152664, 174168, 88152, 141912, 84568, 180888, 152216, 170136, 55448, 137880, 51864, 172824, 86808, 169240, 54552, 72472, 43800, 140120, 82776, 136536, 50520, 72024, 43352, 177248, 119904, 173664, 87648, 109152, 80480, 176800, 119456, 169632, 54944, 105120, 47776, 172768, 86752, 169184, 54496, 72416, 43744, 107360, 78688, 103776, 46432, 71520, 42848, 144488, 115816, 140904, 83560, 108648, 79976, 144040, 115368, 136872, 50856, 104616, 47272, 140008, 82664, 136424, 50408, 71912, 43240, 107304, 78632, 103720, 46376, 71464, 42792, 181889, 153217, 178305, 120961, 146049, 117377, 181441, 152769, 174273, 88257, 142017, 84673, 177409, 120065, 173825, 87809, 109313, 80641, 144705, 116033, 141121, 83777, 108865, 80193, 181777, 153105, 178193, 120849, 145937, 117265, 180433, 151761, 166097, 22737, 133841, 19153, 176401, 119057, 165649, 22289, 101137, 15121, 143697, 115025, 132945, 18257, 100689, 14673, 181273, 152601, 174105, 88089, 141849, 84505, 180377, 151705, 166041, 22681, 133785, 19097, 172313, 86297, 165145, 21785, 68377, 11033, 139609, 82265, 132441, 17753, 67929, 10585, 177185, 119841, 173601, 87585, 109089, 80417, 176289, 118945, 165537, 22177, 101025, 15009, 172257, 86241, 165089, 21729, 68321, 10977, 106849, 78177, 99681, 13665, 67425, 10081, 144425, 115753, 140841, 83497, 108585, 79913, 143529, 114857, 132777, 18089, 100521, 14505, 139497, 82153, 132329, 17641, 67817, 10473, 106793, 78121, 99625, 13609, 67369, 10025, 181826, 153154, 178242, 120898, 145986, 117314, 180930, 152258, 170178, 55490, 137922, 51906, 176898, 119554, 169730, 55042, 105218, 47874, 144194, 115522, 137026, 51010, 104770, 47426, 181770, 153098, 178186, 120842, 145930, 117258, 180426, 151754, 166090, 22730, 133834, 19146, 176394, 119050, 165642, 22282, 101130, 15114, 143690, 115018, 132938, 18250, 100682, 14666, 180762, 152090, 170010, 55322, 137754, 51738, 180314, 151642, 165978, 22618, 133722, 19034, 168218, 53530, 164634, 21274, 35610, 6938, 135514, 49498, 131930, 17242, 35162, 6490, 176674, 119330, 169506, 54818, 104994, 47650, 176226, 118882, 165474, 22114, 100962, 14946, 168162, 53474, 164578, 21218, 35554, 6882, 102754, 45410, 99170, 13154, 34658, 5986, 143914, 115242, 136746, 50730, 104490, 47146, 143466, 114794, 132714, 18026, 100458, 14442, 135402, 49386, 131818, 17130, 35050, 6378, 102698, 45354, 99114, 13098, 34602, 5930, 181315, 152643, 174147, 88131, 141891, 84547, 180867, 152195, 170115, 55427, 137859, 51843, 172803, 86787, 169219, 54531, 72451, 43779, 140099, 82755, 136515, 50499, 72003, 43331, 181259, 152587, 174091, 88075, 141835, 84491, 180363, 151691, 166027, 22667, 133771, 19083, 172299, 86283, 165131, 21771, 68363, 11019, 139595, 82251, 132427, 17739, 67915, 10571, 180755, 152083, 170003, 55315, 137747, 51731, 180307, 151635, 165971, 22611, 133715, 19027, 168211, 53523, 164627, 21267, 35603, 6931, 135507, 49491, 131923, 17235, 35155, 6483, 172579, 86563, 168995, 54307, 72227, 43555, 172131, 86115, 164963, 21603, 68195, 10851, 168099, 53411, 164515, 21155, 35491, 6819, 69987, 41315, 66403, 9059, 34147, 5475, 139819, 82475, 136235, 50219, 71723, 43051, 139371, 82027, 132203, 17515, 67691, 10347, 135339, 49323, 131755, 17067, 34987, 6315, 69931, 41259, 66347, 9003, 34091, 5419, 177220, 119876, 173636, 87620, 109124, 80452, 176772, 119428, 169604, 54916, 105092, 47748, 172740, 86724, 169156, 54468, 72388, 43716, 107332, 78660, 103748, 46404, 71492, 42820, 177164, 119820, 173580, 87564, 109068, 80396, 176268, 118924, 165516, 22156, 101004, 14988, 172236, 86220, 165068, 21708, 68300, 10956, 106828, 78156, 99660, 13644, 67404, 10060, 176660, 119316, 169492, 54804, 104980, 47636, 176212, 118868, 165460, 22100, 100948, 14932, 168148, 53460, 164564, 21204, 35540, 6868, 102740, 45396, 99156, 13140, 34644, 5972, 172572, 86556, 168988, 54300, 72220, 43548, 172124, 86108, 164956, 21596, 68188, 10844, 168092, 53404, 164508, 21148, 35484, 6812, 69980, 41308, 66396, 9052, 34140, 5468, 107052, 78380, 103468, 46124, 71212, 42540, 106604, 77932, 99436, 13420, 67180, 9836, 102572, 45228, 98988, 12972, 34476, 5804, 69868, 41196, 66284, 8940, 34028, 5356, 144453, 115781, 140869, 83525, 108613, 79941, 144005, 115333, 136837, 50821, 104581, 47237, 139973, 82629, 136389, 50373, 71877, 43205, 107269, 78597, 103685, 46341, 71429, 42757, 144397, 115725, 140813, 83469, 108557, 79885, 143501, 114829, 132749, 18061, 100493, 14477, 139469, 82125, 132301, 17613, 67789, 10445, 106765, 78093, 99597, 13581, 67341, 9997, 143893, 115221, 136725, 50709, 104469, 47125, 143445, 114773, 132693, 18005, 100437, 14421, 135381, 49365, 131797, 17109, 35029, 6357, 102677, 45333, 99093, 13077, 34581, 5909, 139805, 82461, 136221, 50205, 71709, 43037, 139357, 82013, 132189, 17501, 67677, 10333, 135325, 49309, 131741, 17053, 34973, 6301, 69917, 41245, 66333, 8989, 34077, 5405, 107045, 78373, 103461, 46117, 71205, 42533, 106597, 77925, 99429, 13413, 67173, 9829, 102565, 45221, 98981, 12965, 34469, 5797, 69861, 41189, 66277, 8933, 34021, 5349]
theorem orC6 : chkN 6 181896 orT6 = true := by decide +kernel
theorem orL6 : orT6.length + 1 ≤ 720 := by decide +kernel
theorem chk_e {n : Nat} {l : List Nat} {c : Nat} {w : WS} (h : rrN n (w.2 3) (decN c)) (hc : chkN n c l = true) (hl : l.length + 1 ≤ 720) : endsIn n 720 w := (chk_ends l c w h hc).mono hl
theorem order_ends {n : Nat} {w : WS} (hn : n ≤ 6) (h : ∀ j, j < n → w.2 3 j = nI j) : endsIn n 720 w := by
  have : n = 0 ∨ n = 1 ∨ n = 2 ∨ n = 3 ∨ n = 4 ∨ n = 5 ∨ n = 6 := by omega
  rcases this with rfl | rfl | rfl | rfl | rfl | rfl | rfl
  · refine chk_e (l := orT0) (c := 0) (fun j hj => ?_) orC0 orL0
    have e : ∀ j, j < 0 → decN 0 j = j := by decide +kernel
    rw [e j hj]
    exact ⟨h j hj, by omega⟩
  · refine chk_e (l := orT1) (c := 0) (fun j hj => ?_) orC1 orL1
    have e : ∀ j, j < 1 → decN 0 j = j := by decide +kernel
    rw [e j hj]
    exact ⟨h j hj, by omega⟩
  · refine chk_e (l := orT2) (c := 8) (fun j hj => ?_) orC2 orL2
    have e : ∀ j, j < 2 → decN 8 j = j := by decide +kernel
    rw [e j hj]
    exact ⟨h j hj, by omega⟩
  · refine chk_e (l := orT3) (c := 136) (fun j hj => ?_) orC3 orL3
    have e : ∀ j, j < 3 → decN 136 j = j := by decide +kernel
    rw [e j hj]
    exact ⟨h j hj, by omega⟩
  · refine chk_e (l := orT4) (c := 1672) (fun j hj => ?_) orC4 orL4
    have e : ∀ j, j < 4 → decN 1672 j = j := by decide +kernel
    rw [e j hj]
    exact ⟨h j hj, by omega⟩
  · refine chk_e (l := orT5) (c := 18056) (fun j hj => ?_) orC5 orL5
    have e : ∀ j, j < 5 → decN 18056 j = j := by decide +kernel
    rw [e j hj]
    exact ⟨h j hj, by omega⟩
  · refine chk_e (l := orT6) (c := 181896) (fun j hj => ?_) orC6 orL6
    have e : ∀ j, j < 6 → decN 181896 j = j := by decide +kernel
    rw [e j hj]
    exact ⟨h j hj, by omega⟩
