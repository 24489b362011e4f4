/-! The causes of an ending, by the numbers of the log: (kind, number). -/
def sdZ (x y : Int) : Int := if 0 ≤ x then (if x ≤ 60 then (if 0 ≤ y then 3 else 2) else 1) else 0
def ghF (sh : Nat → Int) : Nat → Int
  | 0 => 0
  | n + 1 => if sh (5 + n) ≤ ghF sh n then ghF sh n else sh (5 + n)
def ghZ (sh : Nat → Int) : Int := ghF sh (sh 75).toNat
def odL (sh : Nat → Int) (o : Nat → Bool) (g : Nat) (x y h : Int) : List (Int × Int) :=
  if tL sh g 1 = 1 then (if seenZ sh o (tL sh g 2).toNat x y h = false then [(8, tL sh g 2)] else [])
  else if tL sh g 1 = 2 then (if seenZ sh o (tL sh g 2).toNat x y h = false then [(8, tL sh g 2)] else if seenZ sh o (tL sh g 3).toNat x y h = false then [(8, tL sh g 3)] else [])
  else []
def lkZ (sh : Nat → Int) (t dr : Int) (s : VS) : Int × Int :=
  if depZ sh (s.2.1 s.1) (s.2.2.1 s.1) + ghZ sh - dr < 0 then (7, -(depZ sh (s.2.1 s.1) (s.2.2.1 s.1) + ghZ sh - dr)) else (6, -(depZ sh (s.2.1 s.1) (s.2.2.1 s.1) + tideZ sh (t + s.1) - dr))
def caL (sh : Nat → Int) (t dr : Int) (o : Nat → Bool) (e : Int) (g : Nat) (s : VS) : List (Int × Int) :=
  if e = 3 then [(1, g), (2, s.1), (3, sdZ (s.2.1 s.1) (s.2.2.1 s.1))]
  else if e = 4 then [(1, g), (2, s.1), (4, shoZ sh (s.2.1 s.1) (s.2.2.1 s.1)), lkZ sh t dr s]
  else if e = 5 then [((1 : Int), (g : Int)), (2, (s.1 : Int)), (5, tL sh g 1)] ++ odL sh o g (s.2.1 s.1) (s.2.2.1 s.1) (tideZ sh (t + s.1))
  else if e = 9 then [(1, g), (9, mistZ sh g)]
  else if hbZ sh s ≤ 9 then [] else [(1, sh 77), (10, hbZ sh s)]
section MV
variable {σ τ : St} {sh : Nat → Int}
theorem gh_b (V : Val sh) : ∀ n, n ≤ (sh 75).toNat → 0 ≤ ghF sh n ∧ ghF sh n ≤ 20 := by
  intro n
  induction n with
  | zero => intro _; unfold ghF; omega
  | succ n ih =>
    intro h
    have a := ih (by omega)
    have b := V.2.2.2.2.2.1 n (by omega)
    unfold ghF
    split <;> omega
theorem m_gh_loop (M : MR τ sh) (V : Val sh) : ∀ (d k f : Nat), (k : Int) + d = sh 75 → d < f → fx F_X11_greatestHeight_h4 z_X11_greatestHeight_h4 f τ (iI (ghF sh k)) (iI k) = some (iI (ghZ sh), τ) := by
  have h5 := V.2.1
  intro d
  induction d with
  | zero =>
    intro k f h1 h2
    obtain ⟨f, rfl⟩ : ∃ j, f = j + 1 := ⟨f - 1, by omega⟩
    have e : k = (sh 75).toNat := by omega
    have b := gh_b V k (by omega)
    rw [fx_s]
    generalize fx F_X11_greatestHeight_h4 z_X11_greatestHeight_h4 f = K
    unfold F_X11_greatestHeight_h4 ghZ
    rw [M.c75, if_pos ((iI_le (by omega) (by omega) (by omega) (by omega)).mpr (by omega)), e]
  | succ d ih =>
    intro k f h1 h2
    obtain ⟨f, rfl⟩ : ∃ j, f = j + 1 := ⟨f - 1, by omega⟩
    have b := gh_b V k (by omega)
    have hb := V.2.2.2.2.2.1 k (by omega)
    have i1 := ih (k + 1) f (by omega) (by omega)
    rw [fx_s]
    generalize fx F_X11_greatestHeight_h4 z_X11_greatestHeight_h4 f = K at *
    unfold F_X11_greatestHeight_h4 f_X11_greatestHeight_p41
    have hk := M.hgt k (by omega)
    rw [show ghF sh (k + 1) = if sh (5 + k) ≤ ghF sh k then ghF sh k else sh (5 + k) from rfl] at i1
    simp (disch := omega) only [M.c75, show (7 + (k : Int)).toNat = 7 + k by omega, hk, obs, iI_lit, iI_add, iI_sub, iI_mul, iI_neg, iI_lt, iI_le, iI_eq, iI_divp, iI_toInt, iI_clamp, bI_0, bI_1, b_tf, Int.toNat_natCast, Int.reduceToNat, Int.toNat_zero, Int.toNat_one, modf, if_pos, if_neg, reduceIte, reduceCtorEq]
    rw [show ((k + 1 : Nat) : Int) = (k : Int) + 1 by omega] at i1
    by_cases p : sh (5 + k) ≤ ghF sh k
    · rw [if_pos p]; rw [if_pos p] at i1; exact i1
    · rw [if_neg p]; rw [if_neg p] at i1; exact i1
theorem m_greatestHeight (M : MR τ sh) (V : Val sh) : f_X11_greatestHeight τ = some (iI (ghZ sh), τ) := by
  have h5 := V.2.1
  exact m_gh_loop M V (sh 75).toNat 0 FU (by omega) (by rw [FU_val]; omega)
/-- the reference's voyage, as it stands -/
def RV (τ σ : St) (g : Nat) (lm : Nat → Int) (i dn : Int) (ca : List (Int × Int)) (s : VS) : Prop :=
  (∀ k, k ≠ 26 → k ≠ 33 → k ≠ 34 → k ≠ 35 → k ≠ 36 → k ≠ 37 → k ≠ 38 → τ k = σ k) ∧
  (∀ j, (j < 18 ∨ 23 < j) → τ 26 j = σ 26 j) ∧
  (τ 26 18 = iI s.1 ∧ τ 26 19 = iI dn ∧ τ 26 20 = iI 0 ∧ τ 26 21 = iI s.2.2.2.2.1 ∧ τ 26 22 = iI s.2.2.2.2.2) ∧
  (τ 26 23 = iI ca.length ∧ ∀ j, j < ca.length → τ 37 j = iI (ca.getD j (0, 0)).1 ∧ τ 38 j = iI (ca.getD j (0, 0)).2) ∧
  (∀ j, j ≤ s.1 → τ 33 j = iI (s.2.1 j) ∧ τ 34 j = iI (s.2.2.1 j) ∧ τ 35 j = iI (s.2.2.2.1 j)) ∧
  (∀ j, j < g → τ 36 j = iI (lm j)) ∧ τ 36 g = iI i
theorem RV.mr {g : Nat} {lm : Nat → Int} {i dn : Int} {ca : List (Int × Int)} {s : VS} (h : RV τ σ g lm i dn ca s) (M : MR σ sh) : MR τ sh := by
  have F := h.1
  unfold MR
  rw [F 27 (by decide) (by decide) (by decide) (by decide) (by decide) (by decide) (by decide), F 30 (by decide) (by decide) (by decide) (by decide) (by decide) (by decide) (by decide), F 31 (by decide) (by decide) (by decide) (by decide) (by decide) (by decide) (by decide)]
  exact M
theorem RV.out {g : Nat} {lm : Nat → Int} {i dn : Int} {ca : List (Int × Int)} {s : VS} (h : RV τ σ g lm i dn ca s) {o : Nat → Bool} (hO : OutB (σ 26 13) o) : OutB (τ 26 13) o := by
  rw [h.2.1 13 (Or.inl (by decide))]; exact hO
theorem getD_last (ca : List (Int × Int)) (p : Int × Int) : (ca ++ [p]).getD ca.length (0, 0) = p := by
  simp
theorem getD_front (ca : List (Int × Int)) (p : Int × Int) {j : Nat} (h : j < ca.length) : (ca ++ [p]).getD j (0, 0) = ca.getD j (0, 0) := by
  simp only [List.getD_eq_getElem?_getD, List.getElem?_append_left h]
theorem m_by {g : Nat} {lm : Nat → Int} {i dn : Int} {ca : List (Int × Int)} {s : VS} (h : RV τ σ g lm i dn ca s) (hl : ca.length < 4) (a b : Int) : ∃ τ', f_X11_by τ (iI a) (iI b) = some τ' ∧ RV τ' σ g lm i dn (ca ++ [(a, b)]) s := by
  obtain ⟨hF, hJ, ⟨h1, h2, h3, h4, h5⟩, ⟨hc, hd⟩, hT, hL, hG⟩ := h
  refine ⟨g_u2 (g_u2 (g_u2 τ 37 ca.length (iI a)) 38 ca.length (iI b)) 26 23 (iI ((ca.length : Int) + 1)), ?_, ?_⟩
  · unfold f_X11_by
    have e1 : g_u2 τ 37 ca.length (iI a) 26 23 = iI ca.length := by rw [g_u2_n1 (by decide), hc]
    have e2 : g_u2 (g_u2 τ 37 ca.length (iI a)) 38 ca.length (iI b) 26 23 = iI ca.length := by rw [g_u2_n1 (by decide), e1]
    simp (disch := omega) only [hc, e1, e2, obs, iI_lit, iI_add, iI_sub, iI_mul, iI_neg, iI_lt, iI_le, iI_eq, iI_divp, iI_toInt, iI_clamp, bI_0, bI_1, b_tf, Int.toNat_natCast, Int.reduceToNat, Int.toNat_zero, Int.toNat_one, modf, if_pos, if_neg, reduceIte, reduceCtorEq]
  · refine ⟨fun k k1 k2 k3 k4 k5 k6 k7 => ?_, fun j hj => ?_, ⟨?_, ?_, ?_, ?_, ?_⟩, ⟨?_, fun j hj => ?_⟩, fun j hj => ?_, fun j hj => ?_, ?_⟩
    · rw [g_u2_n1 k1, g_u2_n1 k7, g_u2_n1 k6, hF k k1 k2 k3 k4 k5 k6 k7]
    · rw [g_u2_n2 (by omega), g_u2_n1 (by decide), g_u2_n1 (by decide), hJ j hj]
    · rw [g_u2_n2 (by decide), g_u2_n1 (by decide), g_u2_n1 (by decide), h1]
    · rw [g_u2_n2 (by decide), g_u2_n1 (by decide), g_u2_n1 (by decide), h2]
    · rw [g_u2_n2 (by decide), g_u2_n1 (by decide), g_u2_n1 (by decide), h3]
    · rw [g_u2_n2 (by decide), g_u2_n1 (by decide), g_u2_n1 (by decide), h4]
    · rw [g_u2_n2 (by decide), g_u2_n1 (by decide), g_u2_n1 (by decide), h5]
    · rw [g_u2_e, List.length_append]; rfl
    · rw [List.length_append, List.length_singleton] at hj
      by_cases e : j = ca.length
      · rw [e, getD_last, g_u2_n1 (by decide), g_u2_n1 (by decide), g_u2_e, g_u2_n1 (by decide), g_u2_e]
        exact ⟨rfl, rfl⟩
      · rw [getD_front _ _ (by omega), g_u2_n1 (by decide), g_u2_n1 (by decide), g_u2_n2 e, g_u2_n1 (by decide), g_u2_n2 e, g_u2_n1 (by decide)]
        exact hd j (by omega)
    · rw [g_u2_n1 (by decide), g_u2_n1 (by decide), g_u2_n1 (by decide), g_u2_n1 (by decide), g_u2_n1 (by decide), g_u2_n1 (by decide), g_u2_n1 (by decide), g_u2_n1 (by decide), g_u2_n1 (by decide)]
      exact hT j hj
    · rw [g_u2_n1 (by decide), g_u2_n1 (by decide), g_u2_n1 (by decide)]; exact hL j hj
    · rw [g_u2_n1 (by decide), g_u2_n1 (by decide), g_u2_n1 (by decide)]; exact hG
end MV
