section AD
variable {σ τ : St} {sh : Nat → Int}
/-- a place is opened at leg g of n -/
def adO (sh : Nat → Int) (g n : Nat) : Nat → Int := fun j => if j = 77 then (n : Int) + 1 else if 51 + 4 * g + 4 ≤ j ∧ j < 51 + 4 * (n + 1) then sh (j - 4) else sh j
theorem adO_a {g n j : Nat} (h : j ≠ 77) (h2 : j < 51 + 4 * g + 4 ∨ 51 + 4 * (n + 1) ≤ j) : adO sh g n j = sh j := by
  unfold adO
  rw [if_neg h, if_neg (by omega)]
theorem adO_b {g n j : Nat} (hn : n ≤ 5) (h : 51 + 4 * g + 4 ≤ j) (h2 : j < 51 + 4 * (n + 1)) : adO sh g n j = sh (j - 4) := by
  unfold adO
  rw [if_neg (by omega), if_pos ⟨h, h2⟩]
/-- a leg is added -/
def adS (sh : Nat → Int) (g n : Nat) (c s a b : Int) : Nat → Int := unS (fu (adO sh g n) (51 + 4 * g) c) g s a b
theorem adS_a {g n j : Nat} {c s a b : Int} (h : j ≠ 77) (h2 : j < 51 + 4 * g) : adS sh g n c s a b j = sh j := by
  unfold adS
  rw [unS_n (by omega), fu_n (by omega), adO_a h (by omega)]
theorem adS_b {g n j : Nat} {c s a b : Int} (hn : n ≤ 5) (h : 51 + 4 * g + 4 ≤ j) (h2 : j < 51 + 4 * (n + 1)) : adS sh g n c s a b j = sh (j - 4) := by
  unfold adS
  rw [unS_n (by omega), fu_n (by omega), adO_b hn h h2]
theorem adS_d {g n j : Nat} {c s a b : Int} (hg : g ≤ n) (hn : n ≤ 5) (h : j ≠ 77) (h2 : 75 ≤ j) : adS sh g n c s a b j = sh j := by
  unfold adS
  rw [unS_n (by omega), fu_n (by omega), adO_a h (by omega)]
theorem adS_c {g n : Nat} {c s a b : Int} (hg : g ≤ n) (hn : n ≤ 5) : adS sh g n c s a b 77 = (n : Int) + 1 := by
  unfold adS
  rw [unS_n (by omega), fu_n (by omega)]
  exact if_pos rfl
theorem adS_v {g n : Nat} {c s a b : Int} : adS sh g n c s a b (51 + 4 * g) = c ∧ adS sh g n c s a b (51 + 4 * g + 1) = s ∧ adS sh g n c s a b (51 + 4 * g + 2) = a ∧ adS sh g n c s a b (51 + 4 * g + 3) = b := by
  unfold adS
  have v := unS_v (fu (adO sh g n) (51 + 4 * g) c) g s a b
  exact ⟨by rw [unS_n (by omega), fu_e], v.1, v.2.1, v.2.2⟩
theorem Val_add (V : Val sh) {g n : Nat} (hn : (n : Int) = sh 77) (hg : g ≤ n) (h5 : n ≤ 5) {c s a b : Int} (hc : 0 ≤ c ∧ c ≤ 15) (hu : ValU s a b) : Val (adS sh g n c s a b) := by
  obtain ⟨v77, v75, v76, v0, ⟨a1, a2, a3, a4⟩, vh, vt, vl⟩ := V
  unfold Val
  rw [adS_c hg h5, adS_d (j := 75) hg h5 (by omega) (by omega), adS_d (j := 76) hg h5 (by omega) (by omega), adS_a (j := 0) (by omega) (by omega), adS_a (j := 1) (by omega) (by omega), adS_a (j := 2) (by omega) (by omega), adS_a (j := 3) (by omega) (by omega), adS_a (j := 4) (by omega) (by omega)]
  refine ⟨by omega, v75, v76, v0, ⟨a1, a2, a3, a4⟩, fun k hk => ?_, fun k hk => ?_, fun k hk => ?_⟩
  · rw [adS_a (by omega) (by omega)]; exact vh k hk
  · have := vt k hk
    unfold ValT tT at *
    rw [adS_a (by omega) (by omega), adS_a (by omega) (by omega), adS_a (by omega) (by omega), adS_a (by omega) (by omega), adS_a (by omega) (by omega)]
    exact this
  · by_cases e : k < g
    · have := vl k (by omega)
      unfold ValL tL at *
      rw [adS_a (by omega) (by omega), adS_a (by omega) (by omega), adS_a (by omega) (by omega), adS_a (by omega) (by omega)]
      exact this
    · by_cases e2 : k = g
      · subst e2
        obtain ⟨w0, w1, w2, w3⟩ := adS_v (sh := sh) (g := k) (n := n) (c := c) (s := s) (a := a) (b := b)
        unfold ValL tL
        rw [Nat.add_zero, w0, w1, w2, w3]
        exact ⟨hc, hu⟩
      · have := vl (k - 1) (by omega)
        unfold ValL tL at *
        rw [adS_b h5 (by omega) (by omega), adS_b h5 (by omega) (by omega), adS_b h5 (by omega) (by omega), adS_b h5 (by omega) (by omega)]
        rw [show 51 + 4 * k + 0 - 4 = 51 + 4 * (k - 1) + 0 by omega, show 51 + 4 * k + 1 - 4 = 51 + 4 * (k - 1) + 1 by omega, show 51 + 4 * k + 2 - 4 = 51 + 4 * (k - 1) + 2 by omega, show 51 + 4 * k + 3 - 4 = 51 + 4 * (k - 1) + 3 by omega]
        exact this
theorem RM_add {w w' : Nat → Int32} (V : Val sh) (W : RM w 0 sh) {g n : Nat} (hn : (n : Int) = sh 77) (hg : g ≤ n) (h5 : n ≤ 5) {c s a b : Int} (h54 : w' 54 = iI ((n : Int) + 1)) (ha : ∀ i, i ≠ 54 → i < 55 + 4 * g → w' i = w i) (hb : ∀ i, 55 + 4 * g + 4 ≤ i → i < 55 + 4 * (n + 1) → w' i = w (i - 4)) (hv : w' (55 + 4 * g) = iI c ∧ w' (55 + 4 * g + 1) = iI s ∧ w' (55 + 4 * g + 2) = iI a ∧ w' (55 + 4 * g + 3) = iI b) : RM w' 0 (adS sh g n c s a b) := by
  obtain ⟨W1, W2, W3, W4, W5, W6, W7, W8⟩ := W
  have h6 := V.1
  have v5 := V.2.1
  have h8 := V.2.2.1
  unfold RM
  rw [adS_c hg h5, adS_d (j := 75) hg h5 (by omega) (by omega), adS_d (j := 76) hg h5 (by omega) (by omega)]
  refine ⟨fun j hj => ?_, ?_, ?_, ?_, ?_, fun k hk => ?_, fun k hk j hj => ?_, fun k hk j hj => ?_⟩
  · rw [ha _ (by omega) (by omega), adS_a (by omega) (by omega)]; exact W1 j hj
  · rw [ha _ (by omega) (by omega)]; exact W2
  · rw [ha _ (by omega) (by omega)]; exact W3
  · exact h54
  · rw [ha _ (by omega) (by omega)]; exact W5
  · rw [ha _ (by omega) (by omega), adS_a (by omega) (by omega)]; exact W6 k hk
  · unfold tT
    rw [ha _ (by omega) (by omega), adS_a (by omega) (by omega)]; exact W7 k hk j hj
  · unfold tL
    by_cases e : k < g
    · rw [ha _ (by omega) (by omega), adS_a (by omega) (by omega)]; exact W8 k (by omega) j hj
    · by_cases e2 : k = g
      · subst e2
        obtain ⟨w0, w1, w2, w3⟩ := adS_v (sh := sh) (g := k) (n := n) (c := c) (s := s) (a := a) (b := b)
        rcases (show j = 0 ∨ j = 1 ∨ j = 2 ∨ j = 3 by omega) with q | q | q | q <;> subst q
        · show w' (0 + 55 + 4 * k) = iI (adS sh k n c s a b (51 + 4 * k))
          rw [w0, Nat.zero_add]; exact hv.1
        · rw [w1, Nat.zero_add]; exact hv.2.1
        · rw [w2, Nat.zero_add]; exact hv.2.2.1
        · rw [w3, Nat.zero_add]; exact hv.2.2.2
      · rw [hb _ (by omega) (by omega), adS_b h5 (by omega) (by omega), show 0 + 55 + 4 * k + j - 4 = 0 + 55 + 4 * (k - 1) + j by omega, show 51 + 4 * k + j - 4 = 51 + 4 * (k - 1) + j by omega]
        exact W8 (k - 1) (by omega) j hj
end AD
