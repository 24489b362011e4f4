section NA
variable {σ τ : St} {sh : Nat → Int}
def nmL : List (List Int) := [[110], [110, 110, 101], [110, 101], [101, 110, 101], [101], [101, 115, 101], [115, 101], [115, 115, 101], [115], [115, 115, 119], [115, 119], [119, 115, 119], [119], [119, 110, 119], [110, 119], [110, 110, 119]]
def nm (c j : Nat) : Int := (nmL.getD c []).getD j (-1000000)
def nl (c : Nat) : Nat := (nmL.getD c []).length
theorem c16 {c : Nat} (h : c < 16) : c = 0 ∨ c = 1 ∨ c = 2 ∨ c = 3 ∨ c = 4 ∨ c = 5 ∨ c = 6 ∨ c = 7 ∨ c = 8 ∨ c = 9 ∨ c = 10 ∨ c = 11 ∨ c = 12 ∨ c = 13 ∨ c = 14 ∨ c = 15 := by omega
theorem nl_b {c : Nat} (h : c < 16) : 1 ≤ nl c ∧ nl c ≤ 3 := by
  rcases c16 h with h | h | h | h | h | h | h | h | h | h | h | h | h | h | h | h <;> subst h <;> decide
theorem nm_hi {c j : Nat} (h : nl c ≤ j) : nm c j = -1000000 := by
  unfold nm
  unfold nl at h
  rw [List.getD_eq_getElem?_getD, List.getElem?_eq_none h]
  rfl
theorem nm_b {c j : Nat} (h : c < 16) (hj : j < nl c) : 97 ≤ nm c j ∧ nm c j ≤ 122 := by
  have b := nl_b h
  have : j = 0 ∨ j = 1 ∨ j = 2 := by omega
  rcases c16 h with h | h | h | h | h | h | h | h | h | h | h | h | h | h | h | h <;> subst h <;> rcases this with h | h | h <;> subst h <;> first | decide | exact absurd hj (by decide)
theorem nm_rr {c : Nat} (h : c < 16) (j : Nat) : -1000000 ≤ nm c j ∧ nm c j ≤ 122 := by
  by_cases p : j < nl c
  · have := nm_b h p; omega
  · rw [nm_hi (by omega)]; omega
theorem nm_u : ∀ c : Fin 16, ∀ d : Fin 16, nm c.val 0 = nm d.val 0 → nm c.val 1 = nm d.val 1 → nm c.val 2 = nm d.val 2 → c = d := by decide
theorem j_len {c : Nat} (h : c < 16) : f_J0_length_8abf5 σ c = some (iI (nl c), σ) := by
  unfold f_J0_length_8abf5 f_J0_coder_7d493
  have h18 : c < 18 := by omega
  rw [if_pos h18, if_pos h18, if_pos h18, if_pos h18, obs]
  have e : (Int32.ofNat (g_len.getD c 0)) >>> ((0 : Int32) &&& 31) = iI (nl c) := by
    rcases c16 h with h | h | h | h | h | h | h | h | h | h | h | h | h | h | h | h <;> subst h <;> decide
  rw [e]
theorem j_chr {c j : Nat} (h : c < 16) (hj : j < nl c) : f_J0_charAt_5068e σ c (iI j) = some (iI (nm c j), σ) := by
  have h18 : c < 18 := by omega
  have b := nl_b h
  have mb := nm_b h hj
  have gl : g_len.getD c 0 = nl c := by
    rcases c16 h with h | h | h | h | h | h | h | h | h | h | h | h | h | h | h | h <;> subst h <;> rfl
  have cl : (iI (j : Int)).toNatClampNeg = j := by rw [iI_clamp (by omega) (by omega), Int.toNat_natCast]
  have ti : (iI (j : Int)).toInt = j := iI_toInt (by omega) (by omega)
  have e : ((((g_byt.getD c []).getD j 0) &&& 255).toUInt32 % 65536).toInt32 = iI (nm c j) := by
    have : j = 0 ∨ j = 1 ∨ j = 2 := by omega
    rcases c16 h with h | h | h | h | h | h | h | h | h | h | h | h | h | h | h | h <;> subst h <;> rcases this with h | h | h <;> subst h <;> first | decide | exact absurd hj (by decide)
  have ci : f_J0_checkIndex_df160 σ (iI j) (Int32.ofNat (nl c)) = some σ := by
    unfold f_J0_checkIndex_df160 f_J3_checkIndex_8e157
    rw [show Int32.ofNat (nl c) = iI (nl c) from iI_nI (nl c), J0, if_neg (fun h => absurd ((iI_lt (by omega) (by omega) (by omega) (by omega)).mp h) (by omega)), if_pos ((iI_lt (by omega) (by omega) (by omega) (by omega)).mpr (by omega)), obs]
  have c1 : f_J1_charAt_3b067 σ c (iI j) = some (iI (nm c j), σ) := by
    unfold f_J1_charAt_3b067
    rw [if_pos h18, gl, ci, obs, if_pos h18, ti, cl, e, iI_toInt (by omega) (by omega), if_pos (by omega), if_pos (by omega)]
  unfold f_J0_charAt_5068e f_J0_isLatin1_aae02
  rw [if_pos h18, if_pos h18, obs]
  refine (if_neg (show ¬ (1 : Int32) = 0 by decide)).trans ?_
  dsimp only
  rw [if_pos h18, c1, obs]
  dsimp only
  rw [iI_toInt (by omega) (by omega), if_pos (by omega)]
theorem j_nameOf {c : Nat} (h : c < 16) : f_X2_nameOf σ (iI c) = some (c, σ) := by
  rcases c16 h with h | h | h | h | h | h | h | h | h | h | h | h | h | h | h | h <;> subst h <;> rfl
theorem m_nameAt {c j : Nat} (h : c < 16) (hj : j ≤ 3) : f_X11_nameAt σ (iI c) (iI j) = some (iI (nm c j), σ) := by
  have : j = 0 ∨ j = 1 ∨ j = 2 ∨ j = 3 := by omega
  rcases c16 h with h | h | h | h | h | h | h | h | h | h | h | h | h | h | h | h <;> subst h <;> rcases this with h | h | h | h <;> subst h <;> rfl
/-- the tape, said alike -/
def Tp (σ : St) (n : Nat) (b : Nat → Int) : Prop := n ≤ 160 ∧ σ 1 1 = iI n ∧ ∀ j, j < n → (0 ≤ b j ∧ b j ≤ 255) ∧ σ 13 j = iI (b j)
def Tr (σ : St) (n : Nat) (b : Nat → Int) : Prop := n ≤ 160 ∧ ∀ j, j < n → (0 ≤ b j ∧ b j ≤ 255) ∧ σ 29 j = iI (b j)
theorem iv_tape (h : Inv σ) : ∃ (n : Nat) (b : Nat → Int), Tp σ n b ∧ Tr σ n b ∧ σ 26 4 = iI n := by
  obtain ⟨n, h1, h2, h3, h4⟩ := h.1
  refine ⟨n, fun j => (σ 13 j).toInt, ⟨h1, h2, fun j hj => ?_⟩, ⟨h1, fun j hj => ?_⟩, h3⟩
  · obtain ⟨b, b1, b2, b3⟩ := h4 j hj
    dsimp only
    rw [b2, iI_toInt (by omega) (by omega)]
    exact ⟨b1, rfl⟩
  · obtain ⟨b, b1, b2, b3⟩ := h4 j hj
    dsimp only
    rw [b2, iI_toInt (by omega) (by omega)]
    exact ⟨b1, b3⟩
theorem e_byteAt {n : Nat} {b : Nat → Int} (T : Tp σ n b) {j : Nat} (hj : j < n) : f_X7_byteAt σ (iI j) = some (iI (b j), σ) := by
  obtain ⟨t1, t2, t3⟩ := T
  unfold f_X7_byteAt
  rw [t2, J0, if_neg (fun h => absurd ((iI_lt (by omega) (by omega) (by omega) (by omega)).mp h) (by omega)), if_neg (fun h => absurd ((iI_le (by omega) (by omega) (by omega) (by omega)).mp h) (by omega)), show (160 : Int32) = iI 160 by decide, if_neg (fun h => absurd ((iI_le (by omega) (by omega) (by omega) (by omega)).mp h) (by omega)), iI_toInt (by omega) (by omega), if_pos (by omega), iI_clamp (by omega) (by omega), Int.toNat_natCast, (t3 j hj).2]
def eqF (b : Nat → Int) (c : Nat) : Nat → Nat → Bool
  | 0, _ => true
  | d + 1, j => decide (b j = nm c j) && eqF b c d (j + 1)
theorem eqF_t {b : Nat → Int} {c : Nat} : ∀ (d j : Nat), eqF b c d j = true → ∀ i, j ≤ i → i < j + d → b i = nm c i := by
  intro d
  induction d with
  | zero => intro j _ i h1 h2; omega
  | succ d ih =>
    intro j h i h1 h2
    unfold eqF at h
    rw [Bool.and_eq_true, decide_eq_true_eq] at h
    by_cases e : i = j
    · rw [e]; exact h.1
    · exact ih (j + 1) h.2 i (by omega) (by omega)
def mt (n : Nat) (b : Nat → Int) (c : Nat) : Bool := decide (n = nl c) && eqF b c n 0
theorem mt_u {n : Nat} {b : Nat → Int} {c d : Nat} (hc : c < 16) (hd : d < 16) (h1 : mt n b c = true) (h2 : mt n b d = true) : c = d := by
  unfold mt at h1 h2
  rw [Bool.and_eq_true, decide_eq_true_eq] at h1 h2
  have e : ∀ i, nm c i = nm d i := by
    intro i
    by_cases p : i < n
    · rw [← eqF_t n 0 h1.2 i (by omega) (by omega), ← eqF_t n 0 h2.2 i (by omega) (by omega)]
    · rw [nm_hi (by omega), nm_hi (by omega)]
  exact congrArg Fin.val (nm_u ⟨c, hc⟩ ⟨d, hd⟩ (e 0) (e 1) (e 2))
def cF (n : Nat) (b : Nat → Int) : Nat → Int32
  | 0 => -1000000
  | c + 1 => if mt n b c = true then iI c else cF n b c
theorem cF_no {n : Nat} {b : Nat → Int} : ∀ k, (∀ c, c < k → mt n b c = false) → cF n b k = -1000000 := by
  intro k
  induction k with
  | zero => intro _; rfl
  | succ k ih =>
    intro h
    unfold cF
    rw [h k (by omega), if_neg (by decide)]
    exact ih (fun c hc => h c (by omega))
theorem cF_one {n : Nat} {b : Nat → Int} {k : Nat} (hk : k < 16) (h : mt n b k = true) : ∀ m, k < m → m ≤ 16 → cF n b m = iI k := by
  intro m
  induction m with
  | zero => intro h1; omega
  | succ m ih =>
    intro h1 h2
    unfold cF
    by_cases e : m = k
    · rw [e, if_pos h]
    · rw [if_neg (fun h3 => e (mt_u (by omega) hk h3 h))]
      exact ih (by omega) (by omega)
theorem c_holdsL {n : Nat} {b : Nat → Int} (T : Tp σ n b) {c : Nat} (hc : c < 16) (hn : n = nl c) : ∀ (d j f : Nat), j + d = n → d < f → fx F_X7_holds_h15 z_X7_holds_h15 f σ c (iI j) = some (bI (eqF b c d j), σ) := by
  intro d
  have h18 : c < 18 := by omega
  have nb := nl_b hc
  induction d with
  | zero =>
    intro j f h1 h2
    obtain ⟨f, rfl⟩ : ∃ j, f = j + 1 := ⟨f - 1, by omega⟩
    rw [fx_s]
    generalize fx F_X7_holds_h15 z_X7_holds_h15 f = K
    unfold F_X7_holds_h15
    rw [if_pos h18, j_len hc, obs]
    exact if_pos ((iI_le (by omega) (by omega) (by omega) (by omega)).mpr (by omega))
  | succ d ih =>
    intro j f h1 h2
    obtain ⟨f, rfl⟩ : ∃ j, f = j + 1 := ⟨f - 1, by omega⟩
    have i1 := ih (j + 1) f (by omega) (by omega)
    have bj := (T.2.2 j (by omega)).1
    have nj := nm_b hc (j := j) (by omega)
    rw [fx_s]
    generalize fx F_X7_holds_h15 z_X7_holds_h15 f = K at *
    unfold F_X7_holds_h15
    rw [if_pos h18, j_len hc, obs]
    refine (if_neg (fun h => absurd ((iI_le (by omega) (by omega) (by omega) (by omega)).mp h) (by omega))).trans ?_
    dsimp only
    rw [e_byteAt T (by omega), obs, if_pos h18]
    dsimp only
    rw [j_chr hc (by omega), obs, obs]
    dsimp only
    rw [show iI (j : Int) + 1 = iI ((j + 1 : Nat) : Int) by rw [show (1 : Int32) = iI 1 by decide, iI_add]; rfl, i1]
    rw [show eqF b c (d + 1) j = (decide (b j = nm c j) && eqF b c d (j + 1)) from rfl]
    by_cases p : b j = nm c j
    · rw [if_pos (by rw [p]), decide_eq_true p, Bool.true_and]
    · rw [if_neg (fun h => p ((iI_eq (by omega) (by omega) (by omega) (by omega)).mp h)), decide_eq_false p, Bool.false_and]; rfl
theorem c_holds {n : Nat} {b : Nat → Int} (T : Tp σ n b) {c : Nat} (hc : c < 16) : f_X7_holds σ c = some (bI (mt n b c), σ) := by
  have h18 : c < 18 := by omega
  have nb := nl_b hc
  have t1 := T.1
  unfold f_X7_holds mt
  rw [if_pos h18, j_len hc, obs]
  simp only [T.2.1]
  by_cases p : n = nl c
  · rw [if_pos (by rw [p]), decide_eq_true p, Bool.true_and]
    exact c_holdsL T hc p n 0 FU (by omega) (by rw [FU_val]; omega)
  · rw [if_neg (fun h => p (by have := (iI_eq (by omega) (by omega) (by omega) (by omega)).mp h; omega)), decide_eq_false p, Bool.false_and]; rfl
theorem c_course {n : Nat} {b : Nat → Int} (T : Tp σ n b) : ∀ (d k f : Nat), k + d = 16 → d < f → fx F_X10_course_h5 z_X10_course_h5 f σ (cF n b k) (iI k) = some (cF n b 16, g_u2 σ 1 1 0) := by
  intro d
  induction d with
  | zero =>
    intro k f h1 h2
    obtain ⟨f, rfl⟩ : ∃ j, f = j + 1 := ⟨f - 1, by omega⟩
    obtain rfl : k = 16 := by omega
    rw [fx_s]
    rfl
  | succ d ih =>
    intro k f h1 h2
    obtain ⟨f, rfl⟩ : ∃ j, f = j + 1 := ⟨f - 1, by omega⟩
    have i1 := ih (k + 1) f (by omega) (by omega)
    rw [fx_s]
    generalize fx F_X10_course_h5 z_X10_course_h5 f = K at *
    unfold F_X10_course_h5 f_X10_course_p27
    rw [if_neg (show ¬ (16 : Int32) ≤ iI k by rw [show (16 : Int32) = iI 16 by decide, iI_le (by omega) (by omega) (by omega) (by omega)]; omega), j_nameOf (by omega), obs]
    dsimp only
    rw [c_holds T (by omega), obs, obs, obs]
    dsimp only
    rw [show iI (k : Int) + 1 = iI ((k + 1 : Nat) : Int) by rw [show (1 : Int32) = iI 1 by decide, iI_add]; rfl, ← i1]
    rw [show cF n b (k + 1) = if mt n b k = true then iI k else cF n b k from rfl]
    cases mt n b k
    · rw [if_neg (show ¬ false = true by decide)]; exact if_pos (by decide)
    · rw [if_pos rfl]; exact if_neg (by decide)
theorem m_in0 (K : St → Int32 → Int32 → Option (Int32 × St)) (n c j : Int32) (f : Nat) (hf : 0 < f) : fx (F_X11_course_h46 K) z_X11_course_h46 f σ n c 0 j = f_X11_course_p84 K σ n c 0 := by
  obtain ⟨f, rfl⟩ : ∃ j, f = j + 1 := ⟨f - 1, by omega⟩
  rw [fx_s]
  unfold F_X11_course_h46
  split
  · rfl
  · exact if_pos rfl
theorem m_in1 {n : Nat} {b : Nat → Int} (T : Tr σ n b) (hn : n ≤ 3) {c : Nat} (hc : c < 16) (K : St → Int32 → Int32 → Option (Int32 × St)) : ∀ (d j f : Nat), j + d = n → d + 1 < f → fx (F_X11_course_h46 K) z_X11_course_h46 f σ (iI n) (iI c) 1 (iI j) = f_X11_course_p84 K σ (iI n) (iI c) (bI (eqF b c d j)) := by
  intro d
  induction d with
  | zero =>
    intro j f h1 h2
    obtain ⟨f, rfl⟩ : ∃ j, f = j + 1 := ⟨f - 1, by omega⟩
    rw [fx_s]
    unfold F_X11_course_h46
    exact if_pos ((iI_le (by omega) (by omega) (by omega) (by omega)).mpr (by omega))
  | succ d ih =>
    intro j f h1 h2
    obtain ⟨f, rfl⟩ : ∃ j, f = j + 1 := ⟨f - 1, by omega⟩
    have i1 := ih (j + 1) f (by omega) (by omega)
    have i0 := m_in0 (σ := σ) K (iI n) (iI c) (iI ((j + 1 : Nat) : Int)) f (by omega)
    have bj := T.2 j (by omega)
    have nj := nm_rr hc j
    rw [fx_s]
    generalize fx (F_X11_course_h46 K) z_X11_course_h46 f = L at *
    unfold F_X11_course_h46 f_X11_course_p77
    refine (if_neg (fun h => absurd ((iI_le (by omega) (by omega) (by omega) (by omega)).mp h) (by omega))).trans ((if_neg (by decide)).trans ?_)
    rw [m_nameAt hc (by omega), obs, iI_toInt (by omega) (by omega), if_pos (by omega), iI_clamp (by omega) (by omega), Int.toNat_natCast]
    simp only [bj.2]
    rw [obs, obs, show iI (j : Int) + 1 = iI ((j + 1 : Nat) : Int) by rw [show (1 : Int32) = iI 1 by decide, iI_add]; rfl, i1, i0]
    rw [show eqF b c (d + 1) j = (decide (b j = nm c j) && eqF b c d (j + 1)) from rfl]
    by_cases p : b j = nm c j
    · rw [if_pos (by rw [p]), decide_eq_true p, Bool.true_and]
    · rw [if_neg (fun h => p ((iI_eq (by omega) (by omega) (by omega) (by omega)).mp h).symm), decide_eq_false p, Bool.false_and]; rfl
theorem m_name1 {n : Nat} {b : Nat → Int} (T : Tr σ n b) {c : Nat} (hc : c < 16) (K : St → Int32 → Int32 → Option (Int32 × St)) : F_X11_course_h12 K σ (iI n) (iI c) = f_X11_course_p84 K σ (iI n) (iI c) (bI (mt n b c)) := by
  have nb := nl_b hc
  have t1 := T.1
  have z : f_X11_course_p41 K σ (iI n) (iI c) = f_X11_course_p84 K σ (iI n) (iI c) 0 := by
    unfold f_X11_course_p41 f_X11_course_p42
    exact m_in0 K _ _ _ FU (by rw [FU_val]; omega)
  unfold F_X11_course_h12
  rw [if_neg (show ¬ (16 : Int32) ≤ iI c by rw [show (16 : Int32) = iI 16 by decide, iI_le (by omega) (by omega) (by omega) (by omega)]; omega), z]
  have ml : n ≠ nl c → mt n b c = false := fun h => by unfold mt; rw [decide_eq_false h, Bool.false_and]
  rw [J0, show (4 : Int32) = iI 4 by decide]
  by_cases p0 : n ≤ 0
  · rw [if_pos ((iI_le (by omega) (by omega) (by omega) (by omega)).mpr (by omega)), ml (by omega)]; rfl
  rw [if_neg (fun h => absurd ((iI_le (by omega) (by omega) (by omega) (by omega)).mp h) (by omega))]
  by_cases p4 : 4 ≤ n
  · rw [if_pos ((iI_le (by omega) (by omega) (by omega) (by omega)).mpr (by omega)), ml (by omega)]; rfl
  rw [if_neg (fun h => absurd ((iI_le (by omega) (by omega) (by omega) (by omega)).mp h) (by omega)), m_nameAt hc (by omega), obs]
  dsimp only
  rw [z]
  by_cases q : n < nl c
  · have := nm_b hc q
    rw [if_neg (show ¬ iI (nm c n) = -1000000 by rw [show (-1000000 : Int32) = iI (-1000000) by decide, iI_eq (by omega) (by omega) (by omega) (by omega)]; omega), ml (by omega)]; rfl
  · rw [nm_hi (by omega), if_pos (by decide)]
    unfold f_X11_course_p42
    have e := m_in1 T (by omega) hc K n 0 FU (by omega) (by rw [FU_val]; omega)
    refine e.trans ?_
    congr 2
    by_cases r : n = nl c
    · unfold mt; rw [decide_eq_true r, Bool.true_and]
    · rw [ml r]
      cases h : eqF b c n 0
      · rfl
      · have := eqF_t n 0 h (nl c) (by omega) (by omega)
        rw [nm_hi (Nat.le_refl _)] at this
        have := (T.2 (nl c) (by omega)).1
        omega
theorem m_course {n : Nat} {b : Nat → Int} (T : Tr σ n b) : ∀ (d k f : Nat), k + d = 16 → d < f → (∀ c, c < k → mt n b c = false) → fx F_X11_course_h12 z_X11_course_h12 f σ (iI n) (iI k) = some (cF n b 16, σ) := by
  intro d
  induction d with
  | zero =>
    intro k f h1 h2 h3
    obtain ⟨f, rfl⟩ : ∃ j, f = j + 1 := ⟨f - 1, by omega⟩
    obtain rfl : k = 16 := by omega
    rw [fx_s, cF_no 16 h3]
    rfl
  | succ d ih =>
    intro k f h1 h2 h3
    obtain ⟨f, rfl⟩ : ∃ j, f = j + 1 := ⟨f - 1, by omega⟩
    rw [fx_s, m_name1 T (by omega)]
    unfold f_X11_course_p84
    cases hm : mt n b k
    · refine (if_pos (show bI false = 0 by decide)).trans ?_
      rw [obs, show iI (k : Int) + 1 = iI ((k + 1 : Nat) : Int) by rw [show (1 : Int32) = iI 1 by decide, iI_add]; rfl]
      exact ih (k + 1) f (by omega) (by omega) (fun c hc => by
        by_cases e : c = k
        · rw [e, hm]
        · exact h3 c (by omega))
    · refine (if_neg (show ¬ bI true = 0 by decide)).trans ?_
      rw [cF_one (by omega) hm 16 (by omega) (by omega)]
theorem p_course : P_course Inv := by
  intro σ h
  obtain ⟨n, b, T1, T2, h4⟩ := iv_tape h
  refine ⟨(cF n b 16, g_u2 σ 1 1 0), (cF n b 16, g_u2 (g_u2 σ 1 1 0) 26 4 0), c_course T1 16 0 FU (by omega) (by rw [FU_val]; omega), ?_, rfl, ?_⟩
  · unfold f_X11_course
    dsimp only
    rw [obs, obs, g_u2_n1 (show (26 : Nat) ≠ 1 by decide), h4]
    refine m_course ⟨T2.1, fun j hj => ?_⟩ 16 0 FU (by omega) (by rw [FU_val]; omega) (fun c hc => absurd hc (by omega))
    rw [g_u2_n1 (by decide), g_u2_n1 (by decide)]
    exact T2.2 j hj
  · obtain ⟨-, h1, h2, h3, h5, h6⟩ := h
    refine ⟨⟨0, by omega, ?_, ?_, fun j hj => absurd hj (by omega)⟩, ?_, ?_, ?_, ?_, ?_⟩
    · dsimp only; rw [g_u2_n1 (by decide), g_u2_e]; rfl
    · dsimp only; rw [g_u2_e]; rfl
    · dsimp only
      rw [g_u2_n2 (by decide), g_u2_n1 (by decide), g_u2_n1 (by decide), g_u2_n1 (by decide)]; exact h1
    · dsimp only
      unfold IvS Un at *
      simp (disch := omega) only [g_u2_n1]; exact h2
    · dsimp only
      unfold IvI at *
      simp (disch := omega) only [g_u2_n1]; exact h3
    · dsimp only
      unfold IvH at *
      simp (disch := omega) only [g_u2_n1, g_u2_n2]; exact h5
    · dsimp only
      unfold IvC at *
      simp (disch := omega) only [g_u2_n1, g_u2_n2]; exact h6
end NA
