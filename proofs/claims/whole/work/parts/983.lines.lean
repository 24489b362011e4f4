section LS
variable {σ τ : St} {sh : Nat → Int}
def abs0 (z : Int) : Int := if 0 ≤ z then z else 0 - z
theorem iI_abs {z : Int} (h1 : -1000000 ≤ z) (h2 : z ≤ 1000000) : (if (0 : Int32) ≤ iI z then iI z else 0 - iI z) = iI (abs0 z) := by
  unfold abs0
  rw [J0]
  by_cases p : 0 ≤ z
  · rw [if_pos ((iI_le (by omega) (by omega) (by omega) (by omega)).mpr p), if_pos p]
  · rw [if_neg (fun h => p ((iI_le (by omega) (by omega) (by omega) (by omega)).mp h)), if_neg p, iI_sub]
/-- the side of a line on which a shoal wholly lies -/
def wZ (sh : Nat → Int) (a b k : Nat) : Int :=
  if tT sh k 0 = 6 then (if abs0 (sdL sh a b (tT sh k 1) (tT sh k 2)) ≤ tT sh k 3 * (abs0 (tT sh b 1 - tT sh a 1) + abs0 (tT sh b 2 - tT sh a 2)) then 0 else sgZ (sdL sh a b (tT sh k 1) (tT sh k 2)))
  else (if iI (sdL sh a b (tT sh k 1) (tT sh k 2) * sdL sh a b (tT sh k 1) (tT sh k 2)) ≤ iI (tT sh k 3 * tT sh k 3 * ((tT sh b 1 - tT sh a 1) * (tT sh b 1 - tT sh a 1) + (tT sh b 2 - tT sh a 2) * (tT sh b 2 - tT sh a 2))) then 0 else sgZ (sdL sh a b (tT sh k 1) (tT sh k 2)))
theorem e_sideOfShoal (R : RC (σ 14) sh) (V : Val sh) {a b k : Nat} (ha : (a : Int) < sh 76) (hb : (b : Int) < sh 76) (hk : (k : Int) < sh 76) : f_X1_sideOfShoal σ (iI a) (iI b) (iI k) = some (iI (wZ sh a b k), σ) := by
  have h8 := V.2.2.1
  have A := V.2.2.2.2.2.2.1 a ha
  have B := V.2.2.2.2.2.2.1 b hb
  have C := V.2.2.2.2.2.2.1 k hk
  unfold ValT at A B C
  have sb := sdL_b V ha hb (x := tT sh k 1) (y := tT sh k 2) (by omega) (by omega)
  have cell : ∀ (i : Nat) (j : Int), (i : Int) < sh 76 → 0 ≤ j → j < 5 → f_X6_thingCell 14 σ (iI i) (iI j) = some (iI (tT sh i j.toNat), σ) := fun i j hi h1 h2 => e_thingCell R (by omega) (by omega) h1 h2
  unfold f_X1_sideOfShoal f_X1_sideOfShoal_p120 f_X1_sideOfShoal_p155
  rw [show (6 : Int32) = iI 6 by decide, show (3 : Int32) = iI 3 by decide, show (2 : Int32) = iI 2 by decide, show (1 : Int32) = iI 1 by decide, show (0 : Int32) = iI 0 by decide]
  rw [cell b 1 hb (by omega) (by omega), obs]
  dsimp only
  rw [cell a 1 ha (by omega) (by omega), obs, obs]
  dsimp only
  rw [cell b 2 hb (by omega) (by omega), obs]
  dsimp only
  rw [cell a 2 ha (by omega) (by omega), obs, obs]
  dsimp only
  rw [cell k 1 hk (by omega) (by omega), obs]
  dsimp only
  rw [cell k 2 hk (by omega) (by omega), obs]
  dsimp only
  rw [show Int.toNat 1 = 1 from rfl, show Int.toNat 2 = 2 from rfl]
  rw [e_leftOfLine R (by omega) (by omega), obs]
  dsimp only
  rw [cell k 3 hk (by omega) (by omega), obs]
  dsimp only
  rw [cell k 0 hk (by omega) (by omega), obs]
  dsimp only
  rw [show Int.toNat 3 = 3 from rfl, show Int.toNat 0 = 0 from rfl, iI_sub (tT sh b 1) (tT sh a 1), iI_sub (tT sh b 2) (tT sh a 2)]
  have ia : ∀ z : Int, -1000000 ≤ z → z ≤ 1000000 → (if iI 0 ≤ iI z then iI z else iI 0 - iI z) = iI (abs0 z) := fun z h1 h2 => iI_abs h1 h2
  rw [ia _ (by omega) (by omega), ia _ (by omega) (by omega), ia _ (by omega) (by omega)]
  have fin0 : f_X1_sideOfShoal_p157 σ (iI (sdL sh a b (tT sh k 1) (tT sh k 2))) (iI 0) = some (iI 0, σ) := if_pos (by decide)
  have fin1 : f_X1_sideOfShoal_p157 σ (iI (sdL sh a b (tT sh k 1) (tT sh k 2))) (iI 1) = some (iI (sgZ (sdL sh a b (tT sh k 1) (tT sh k 2))), σ) := by
    refine (if_neg (by decide)).trans ?_
    rw [j_signum (by omega) (by omega), obs]
  rw [fin0, fin1]
  unfold wZ
  have d1 : 0 ≤ abs0 (tT sh b 1 - tT sh a 1) ∧ abs0 (tT sh b 1 - tT sh a 1) ≤ 60 := by unfold abs0; omega
  have d2 : 0 ≤ abs0 (tT sh b 2 - tT sh a 2) ∧ abs0 (tT sh b 2 - tT sh a 2) ≤ 60 := by unfold abs0; omega
  have d3 : 0 ≤ abs0 (sdL sh a b (tT sh k 1) (tT sh k 2)) ∧ abs0 (sdL sh a b (tT sh k 1) (tT sh k 2)) ≤ 100000 := by unfold abs0; omega
  have d4 := prod_b (a := tT sh k 3) (b := abs0 (tT sh b 1 - tT sh a 1) + abs0 (tT sh b 2 - tT sh a 2)) (by omega) (by omega)
  by_cases p : tT sh k 0 = 6
  · rw [if_pos (by rw [p]), if_pos p, iI_add, iI_mul]
    by_cases q : abs0 (sdL sh a b (tT sh k 1) (tT sh k 2)) ≤ tT sh k 3 * (abs0 (tT sh b 1 - tT sh a 1) + abs0 (tT sh b 2 - tT sh a 2))
    · rw [if_pos q, if_pos ((iI_le (by omega) (by omega) (by omega) (by omega)).mpr q)]
    · rw [if_neg q, if_neg (fun h => q ((iI_le (by omega) (by omega) (by omega) (by omega)).mp h))]
  · rw [if_neg (fun h => p ((iI_eq (by omega) (by omega) (by omega) (by omega)).mp h)), if_neg p]
    simp only [iI_mul, iI_add]
    by_cases q : iI (sdL sh a b (tT sh k 1) (tT sh k 2) * sdL sh a b (tT sh k 1) (tT sh k 2)) ≤ iI (tT sh k 3 * tT sh k 3 * ((tT sh b 1 - tT sh a 1) * (tT sh b 1 - tT sh a 1) + (tT sh b 2 - tT sh a 2) * (tT sh b 2 - tT sh a 2)))
    · rw [if_pos q, if_pos q]
    · rw [if_neg q, if_neg q]
theorem td4 {s : Int} (h : -3 ≤ s ∧ s ≤ 3) : s.tdiv 4 = 0 := by
  have : s = -3 ∨ s = -2 ∨ s = -1 ∨ s = 0 ∨ s = 1 ∨ s = 2 ∨ s = 3 := by omega
  rcases this with h | h | h | h | h | h | h <;> subst h <;> decide
theorem sg4 {s A B r x y : Int} (hr : 0 ≤ r) (hA : A = x * r) (hB : B = y * r) : (sgZ (s - A + B) + sgZ (s + A + B) + sgZ (s - A - B) + sgZ (s + A - B)).tdiv 4 = if abs0 s ≤ r * (abs0 x + abs0 y) then 0 else sgZ s := by
  have e : r * (abs0 x + abs0 y) = abs0 A + abs0 B := by
    have one : ∀ (u U : Int), U = u * r → r * abs0 u = abs0 U := by
      intro u U h
      unfold abs0
      by_cases p : 0 ≤ u
      · have : 0 ≤ U := by rw [h]; exact Int.mul_nonneg p hr
        rw [if_pos p, if_pos this, h, Int.mul_comm]
      · have h2 : U ≤ 0 := by rw [h]; exact Int.mul_nonpos_of_nonpos_of_nonneg (by omega) hr
        rw [if_neg p]
        have : r * (0 - u) = 0 - U := by rw [h, Int.zero_sub, Int.zero_sub, Int.mul_neg, Int.mul_comm]
        rw [this]
        split <;> omega
    rw [Int.mul_add, one x A hA, one y B hB]
  rw [e]
  unfold abs0
  have sg : ∀ z : Int, (0 < z → sgZ z = 1) ∧ (z = 0 → sgZ z = 0) ∧ (z < 0 → sgZ z = -1) := by
    intro z
    unfold sgZ
    refine ⟨fun h => ?_, fun h => ?_, fun h => ?_⟩ <;> (split <;> (try split)) <;> omega
  have s1 := sg (s - A + B)
  have s2 := sg (s + A + B)
  have s3 := sg (s - A - B)
  have s4 := sg (s + A - B)
  have s0 := sg s
  generalize sgZ (s - A + B) = g1 at *
  generalize sgZ (s + A + B) = g2 at *
  generalize sgZ (s - A - B) = g3 at *
  generalize sgZ (s + A - B) = g4 at *
  generalize sgZ s = g0 at *
  by_cases q : (if 0 ≤ s then s else 0 - s) ≤ (if 0 ≤ A then A else 0 - A) + (if 0 ≤ B then B else 0 - B)
  · rw [if_pos q]
    apply td4
    omega
  · rw [if_neg q]
    by_cases p : 0 < s
    · rw [show g1 + g2 + g3 + g4 = 4 by omega, s0.1 p]; decide
    · rw [show g1 + g2 + g3 + g4 = -4 by omega, s0.2.2 (by omega)]; decide
theorem m_wholly (M : MR σ sh) (V : Val sh) {a b k : Nat} (ha : (a : Int) < sh 76) (hb : (b : Int) < sh 76) (hk : (k : Int) < sh 76) : f_X11_wholly σ (iI a) (iI b) (iI k) = some (iI (wZ sh a b k), σ) := by
  have h8 := V.2.2.1
  have A := V.2.2.2.2.2.2.1 a ha
  have B := V.2.2.2.2.2.2.1 b hb
  have C := V.2.2.2.2.2.2.1 k hk
  unfold ValT at A B C
  have sb := sdL_b V ha hb (x := tT sh k 1) (y := tT sh k 2) (by omega) (by omega)
  have cell : ∀ (i : Nat) (j : Int), (i : Int) < sh 76 → 0 ≤ j → j < 5 → f_X11_of σ (iI i) (iI j) = some (iI (tT sh i j.toNat), σ) := fun i j hi h1 h2 => m_of M h8.2 (by omega) hi h1 h2
  unfold f_X11_wholly
  rw [show (6 : Int32) = iI 6 by decide, show (3 : Int32) = iI 3 by decide, show (2 : Int32) = iI 2 by decide, show (1 : Int32) = iI 1 by decide, show (0 : Int32) = iI 0 by decide, show (4 : Int32) = iI 4 by decide]
  rw [cell k 1 hk (by omega) (by omega), obs]
  dsimp only
  rw [cell k 2 hk (by omega) (by omega), obs]
  dsimp only
  rw [cell k 3 hk (by omega) (by omega), obs]
  dsimp only
  rw [show Int.toNat 1 = 1 from rfl, show Int.toNat 2 = 2 from rfl, show Int.toNat 3 = 3 from rfl]
  rw [m_side M V ha hb, obs]
  dsimp only
  rw [cell k 0 hk (by omega) (by omega), obs]
  dsimp only
  rw [show Int.toNat 0 = 0 from rfl]
  unfold wZ
  by_cases p : tT sh k 0 = 6
  · rw [if_pos (by rw [p]), if_pos p]
    simp only [iI_sub, iI_add]
    have sd : ∀ u v : Int, -100 ≤ u ∧ u ≤ 100 → -100 ≤ v ∧ v ≤ 100 → (Option.bind (f_X11_side σ (iI a) (iI b) (iI u) (iI v)) fun q65 => f_X11_signOf q65.2 q65.1) = some (iI (sgZ (sdL sh a b u v)), σ) := by
      intro u v hu hv
      have := sdL_b V ha hb (x := u) (y := v) hu hv
      rw [m_side M V ha hb, obs]
      exact m_signOf (by omega) (by omega)
    have bb : ∀ {α β γ : Type} (x : Option α) (f : α → Option β) (g : β → Option γ), (Option.bind x fun q => Option.bind (f q) g) = Option.bind (Option.bind x f) g := fun x f g => by cases x <;> rfl
    rw [bb, sd _ _ (by omega) (by omega), obs]
    dsimp only
    rw [bb, sd _ _ (by omega) (by omega), obs]
    dsimp only
    rw [bb, sd _ _ (by omega) (by omega), obs]
    dsimp only
    rw [bb, sd _ _ (by omega) (by omega), obs, obs]
    dsimp only
    have g1 := sg_b (sdL sh a b (tT sh k 1 - tT sh k 3) (tT sh k 2 - tT sh k 3))
    have g2 := sg_b (sdL sh a b (tT sh k 1 - tT sh k 3) (tT sh k 2 + tT sh k 3))
    have g3 := sg_b (sdL sh a b (tT sh k 1 + tT sh k 3) (tT sh k 2 - tT sh k 3))
    have g4 := sg_b (sdL sh a b (tT sh k 1 + tT sh k 3) (tT sh k 2 + tT sh k 3))
    simp only [iI_add]
    rw [iI_div (by omega) (by omega) (by omega) (by omega)]
    congr 3
    have e4 := sg4 (s := sdL sh a b (tT sh k 1) (tT sh k 2)) (r := tT sh k 3) (x := tT sh b 1 - tT sh a 1) (y := tT sh b 2 - tT sh a 2) (by omega) rfl rfl
    rw [← e4]
    have ex : ∀ u v : Int, sdL sh a b (tT sh k 1 + u) (tT sh k 2 + v) = sdL sh a b (tT sh k 1) (tT sh k 2) + (tT sh b 1 - tT sh a 1) * v - (tT sh b 2 - tT sh a 2) * u := by
      intro u v
      unfold sdL
      rw [show tT sh k 2 + v - tT sh a 2 = (tT sh k 2 - tT sh a 2) + v by omega, show tT sh k 1 + u - tT sh a 1 = (tT sh k 1 - tT sh a 1) + u by omega, Int.mul_add, Int.mul_add]
      omega
    have x1 := ex (-(tT sh k 3)) (-(tT sh k 3))
    have x2 := ex (-(tT sh k 3)) (tT sh k 3)
    have x3 := ex (tT sh k 3) (-(tT sh k 3))
    have x4 := ex (tT sh k 3) (tT sh k 3)
    simp only [Int.mul_neg, ← Int.sub_eq_add_neg, Int.sub_neg] at x1 x2 x3
    rw [x1, x2, x3, x4]
  · rw [if_neg (fun h => p ((iI_eq (by omega) (by omega) (by omega) (by omega)).mp h)), if_neg p]
    rw [cell b 1 hb (by omega) (by omega), obs]
    dsimp only
    rw [cell a 1 ha (by omega) (by omega), obs]
    dsimp only
    rw [cell b 2 hb (by omega) (by omega), obs]
    dsimp only
    rw [cell a 2 ha (by omega) (by omega), obs]
    dsimp only
    rw [iI_sub, iI_sub, m_square, obs]
    dsimp only
    rw [show Int.toNat 1 = 1 from rfl, show Int.toNat 2 = 2 from rfl, iI_mul, iI_mul, iI_mul, m_signOf (by omega) (by omega), obs]
    by_cases q : iI (sdL sh a b (tT sh k 1) (tT sh k 2) * sdL sh a b (tT sh k 1) (tT sh k 2)) ≤ iI (tT sh k 3 * tT sh k 3 * ((tT sh b 1 - tT sh a 1) * (tT sh b 1 - tT sh a 1) + (tT sh b 2 - tT sh a 2) * (tT sh b 2 - tT sh a 2)))
    · rw [if_pos q, if_pos q]
    · rw [if_neg q, if_neg q]
def liF (sh : Nat → Int) (a b : Nat) (c : Int32) : Nat → Int32
  | 0 => 0
  | n + 1 => if 4 ≤ tT sh n 0 ∧ iI (wZ sh a b n) = c then liF sh a b c n ||| (1 <<< (iI n &&& 31)) else liF sh a b c n
theorem c_lines (R : RC (σ 14) sh) (V : Val sh) {a b : Nat} (ha : (a : Int) < sh 76) (hb : (b : Int) < sh 76) (c : Int32) : ∀ (d k f : Nat), (k : Int) + d = sh 76 → d < f → fx F_X1_shoalsOnSide_h6 z_X1_shoalsOnSide_h6 f σ (iI a) (iI b) c (liF sh a b c k) (iI k) = some (liF sh a b c (sh 76).toNat, σ) := by
  intro d
  have h8 := V.2.2.1
  induction d with
  | zero =>
    intro k f h1 h2
    obtain ⟨f, rfl⟩ : ∃ j, f = j + 1 := ⟨f - 1, by omega⟩
    rw [fx_s]
    generalize fx F_X1_shoalsOnSide_h6 z_X1_shoalsOnSide_h6 f = K
    unfold F_X1_shoalsOnSide_h6
    rw [e_thingCount R, obs]
    refine (if_pos ((iI_le (by omega) (by omega) (by omega) (by omega)).mpr (by omega))).trans ?_
    rw [show (sh 76).toNat = k by omega]
  | succ d ih =>
    intro k f h1 h2
    obtain ⟨f, rfl⟩ : ∃ j, f = j + 1 := ⟨f - 1, by omega⟩
    have hk : (k : Int) < sh 76 := by omega
    have C := V.2.2.2.2.2.2.1 k hk
    unfold ValT at C
    have e : iI (k : Int) + 1 = iI ((k + 1 : Nat) : Int) := by rw [show (1 : Int32) = iI 1 by decide, iI_add]; rfl
    have nd : liF sh a b c (k + 1) = if 4 ≤ tT sh k 0 ∧ iI (wZ sh a b k) = c then liF sh a b c k ||| (1 <<< (iI k &&& 31)) else liF sh a b c k := rfl
    have i1 := ih (k + 1) f (by omega) (by omega)
    rw [fx_s]
    generalize fx F_X1_shoalsOnSide_h6 z_X1_shoalsOnSide_h6 f = K at *
    unfold F_X1_shoalsOnSide_h6 f_X1_shoalsOnSide_p53
    rw [e_thingCount R, obs]
    refine (if_neg (fun h => absurd ((iI_le (by omega) (by omega) (by omega) (by omega)).mp h) (by omega))).trans ?_
    dsimp only
    rw [J0, e_thingCell R (by omega) (by omega) (by omega) (by omega), obs]
    dsimp only
    rw [show Int.toNat 0 = 0 from rfl, Int.toNat_natCast, show (4 : Int32) = iI 4 by decide]
    rw [e_sideOfShoal R V ha hb hk, obs, obs, obs, e, ← i1, nd]
    by_cases p : 4 ≤ tT sh k 0
    · rw [if_neg (fun h => absurd ((iI_lt (by omega) (by omega) (by omega) (by omega)).mp h) (by omega))]
      by_cases q : iI (wZ sh a b k) = c
      · rw [if_pos q, if_pos ⟨p, q⟩]; try rfl
      · rw [if_neg q, if_neg (fun h => q h.2)]; try rfl
    · rw [if_pos ((iI_lt (by omega) (by omega) (by omega) (by omega)).mpr (by omega)), if_neg (fun h => p h.1)]
theorem m_lines (M : MR σ sh) (V : Val sh) {a b : Nat} (ha : (a : Int) < sh 76) (hb : (b : Int) < sh 76) (x c : Int32) (hc : c = if x = 0 then 1 else if x = 1 then -1 else 0) : ∀ (d k f : Nat), (k : Int) + d = sh 76 → d < f → fx F_X11_lines_h42 z_X11_lines_h42 f σ (iI a) (iI b) x (liF sh a b c k) (iI k) = some (liF sh a b c (sh 76).toNat, σ) := by
  intro d
  have h8 := V.2.2.1
  induction d with
  | zero =>
    intro k f h1 h2
    obtain ⟨f, rfl⟩ : ∃ j, f = j + 1 := ⟨f - 1, by omega⟩
    rw [fx_s]
    generalize fx F_X11_lines_h42 z_X11_lines_h42 f = K
    unfold F_X11_lines_h42
    rw [M.c76]
    refine (if_pos ((iI_le (by omega) (by omega) (by omega) (by omega)).mpr (by omega))).trans ?_
    rw [show (sh 76).toNat = k by omega]
  | succ d ih =>
    intro k f h1 h2
    obtain ⟨f, rfl⟩ : ∃ j, f = j + 1 := ⟨f - 1, by omega⟩
    have hk : (k : Int) < sh 76 := by omega
    have e : iI (k : Int) + 1 = iI ((k + 1 : Nat) : Int) := by rw [show (1 : Int32) = iI 1 by decide, iI_add]; rfl
    have nd : liF sh a b c (k + 1) = if 4 ≤ tT sh k 0 ∧ iI (wZ sh a b k) = c then liF sh a b c k ||| (1 <<< (iI k &&& 31)) else liF sh a b c k := rfl
    have i1 := ih (k + 1) f (by omega) (by omega)
    rw [fx_s]
    generalize fx F_X11_lines_h42 z_X11_lines_h42 f = K at *
    unfold F_X11_lines_h42
    rw [M.c76]
    refine (if_neg (fun h => absurd ((iI_le (by omega) (by omega) (by omega) (by omega)).mp h) (by omega))).trans ?_
    rw [m_isShoal M V hk, obs]
    by_cases p : 4 ≤ tT sh k 0
    · rw [decide_eq_true p]
      refine (if_neg (show ¬ bI true = 0 by decide)).trans ?_
      dsimp only
      rw [m_wholly M V ha hb hk, obs]
      have go : (if x = 0 then f_X11_lines_p91 K σ (iI a) (iI b) x (iI k) 1 (iI (wZ sh a b k)) (liF sh a b c k) else if x = 1 then f_X11_lines_p91 K σ (iI a) (iI b) x (iI k) (-1) (iI (wZ sh a b k)) (liF sh a b c k) else f_X11_lines_p91 K σ (iI a) (iI b) x (iI k) 0 (iI (wZ sh a b k)) (liF sh a b c k)) = f_X11_lines_p91 K σ (iI a) (iI b) x (iI k) c (iI (wZ sh a b k)) (liF sh a b c k) := by
        by_cases p0 : x = 0
        · rw [if_pos p0] at hc ⊢; rw [hc]
        · by_cases p1 : x = 1
          · rw [if_neg p0, if_pos p1] at hc ⊢; rw [hc]
          · rw [if_neg p0, if_neg p1] at hc ⊢; rw [hc]
      refine go.trans ?_
      unfold f_X11_lines_p91 f_X11_lines_p101 f_X11_lines_p102
      rw [obs, obs, obs, e, or_z, ← i1, nd]
      by_cases q : iI (wZ sh a b k) = c
      · rw [if_pos q, if_pos ⟨p, q⟩]; try rfl
      · rw [if_neg q, if_neg (fun h => q h.2)]; try rfl
    · rw [decide_eq_false p]
      refine (if_pos (show bI false = 0 by decide)).trans ?_
      unfold f_X11_lines_p101 f_X11_lines_p102
      rw [obs, obs, e, or_z, ← i1, nd, if_neg (fun h => p h.1)]
theorem p_lines : P_lines Inv := by
  intro σ a1 a2 a3 h
  obtain ⟨x, rfl, x1, x2⟩ := iI_ex a1
  obtain ⟨y, rfl, y1, y2⟩ := iI_ex a2
  obtain ⟨p, rfl, p1, p2⟩ := iI_ex a3
  rcases iv_sheet h with u | ⟨sh, V, R, M⟩
  · exact ⟨(-1000001, σ), (-1000001, σ), gd0 (pair_u u _ _).1, gd0 (pair_u u _ _).2, rfl, h⟩
  rcases pair_e R M V x1 x2 y1 y2 with ⟨e1, e2⟩ | ⟨a, b, ne, e1, e2⟩
  · exact ⟨(-1000001, σ), (-1000001, σ), gd0 e1, gd0 e2, rfl, h⟩
  by_cases c : 0 ≤ p ∧ p ≤ 2
  case neg => exact ⟨(-1000001, σ), (-1000001, σ), (gd1 e1).trans (gd0 (by rw [J0, J2]; exact within_f (by omega) p1 p2 c)), (gd1 e2).trans (gd0 (by rw [L0, L2]; exact in_f (by omega) p1 p2 c)), rfl, h⟩
  obtain ⟨m, rfl⟩ : ∃ m : Nat, x = m := ⟨x.toNat, by omega⟩
  obtain ⟨n, rfl⟩ : ∃ n : Nat, y = n := ⟨y.toNat, by omega⟩
  have h8 := V.2.2.1
  have o1 := e_isOnePlace R V a.2 b.2
  have o2 := m_areApart M V a.2 b.2
  have wt : f_X10_isWithin σ (iI p) 0 2 = some (iI 1, σ) := by rw [J0, J2]; exact within_t (by omega) c
  have it : f_X11_in σ (iI p).toInt64 0 2 = some (iI 1, σ) := by rw [L0, L2]; exact in_t (by omega) c
  by_cases q : tT sh m 1 = tT sh n 1 ∧ tT sh m 2 = tT sh n 2
  · rw [decide_eq_true q] at o1 o2
    exact ⟨(-1000002, σ), (-1000002, σ), (gd1 e1).trans ((gd1 wt).trans ((gd1 o1).trans rfl)), (gd1 e2).trans ((gd1 it).trans (gd0 o2)), rfl, h⟩
  · rw [decide_eq_false q] at o1 o2
    obtain ⟨c32, hc⟩ : ∃ c32 : Int32, c32 = if iI p = 0 then 1 else if iI p = 1 then -1 else 0 := ⟨_, rfl⟩
    have k1 := c_lines R V a.2 b.2 c32 (sh 76).toNat 0 FU (by omega) (by rw [FU_val]; omega)
    have k2 := m_lines M V a.2 b.2 (iI p) c32 hc (sh 76).toNat 0 FU (by omega) (by rw [FU_val]; omega)
    refine ⟨(liF sh m n c32 (sh 76).toNat, σ), (liF sh m n c32 (sh 76).toNat, σ), (gd1 e1).trans ((gd1 wt).trans ?_), (gd1 e2).trans ((gd1 it).trans ((gd1 o2).trans k2)), rfl, h⟩
    dsimp only
    rw [o1, obs]
    refine (if_pos (show bI false = 0 by decide)).trans ?_
    have fin : f_X10_lines_p54 σ (iI m) (iI n) c32 = some (liF sh m n c32 (sh 76).toNat, σ) := by
      unfold f_X10_lines_p54 f_X1_shoalsOnSide
      rw [show fx F_X1_shoalsOnSide_h6 z_X1_shoalsOnSide_h6 FU σ (iI m) (iI n) c32 0 0 = _ from k1, obs]
    rw [← fin]
    dsimp only
    by_cases p0 : iI p = 0
    · rw [if_pos p0] at hc ⊢; rw [hc]
    · by_cases p1 : iI p = 1
      · rw [if_neg p0, if_pos p1] at hc ⊢; rw [hc]
      · rw [if_neg p0, if_neg p1] at hc ⊢; rw [hc]
end LS
