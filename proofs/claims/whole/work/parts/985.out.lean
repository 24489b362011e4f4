section OU
variable {σ τ : St} {sh : Nat → Int}
theorem or_tab : ∀ a : Fin 256, ∀ z : Fin 8, iI (a.val : Int) ||| ((1 : Int32) <<< (iI (z.val : Int) &&& 31)) = iI ((a.val ||| 2 ^ z.val : Nat) : Int) ∧ a.val ||| 2 ^ z.val < 256 := by decide +kernel
theorem bit_tab : ∀ M : Fin 256, ∀ k : Fin 8, ((iI (M.val : Int) >>> (iI (k.val : Int) &&& iI 31)) &&& iI 1) = bI (M.val.testBit k.val) := by decide +kernel
theorem OutBN {M : Nat} (h : M < 256) : OutB (iI M) (fun k => M.testBit k) := fun k hk => bit_tab ⟨M, h⟩ ⟨k, hk⟩
def bcE (a : Int32) : Int32 := match f_J6_bitCount_0f7a4 (fun _ _ => 0) a with | some q => q.1 | none => 0
theorem j_bitCount (a : Int32) : f_J6_bitCount_0f7a4 σ a = some (bcE a, σ) := rfl
def pcF (M : Nat) : Nat → Nat
  | 0 => 0
  | n + 1 => pcF M n + if M.testBit n = true then 1 else 0
theorem bc_tab : ∀ M : Fin 256, bcE (iI (M.val : Int)) = iI (pcF M.val 8 : Int) ∧ pcF M.val 8 ≤ 8 := by decide +kernel
/-- the marks that the first n legs wait for -/
def awN (sh : Nat → Int) : Nat → Nat
  | 0 => 0
  | g + 1 =>
    let a := if (1 ≤ tL sh g 1 ∧ tL sh g 1 ≤ 3) ∧ isMk sh (tL sh g 2) = true then awN sh g ||| 2 ^ (tL sh g 2).toNat else awN sh g
    if tL sh g 1 = 2 ∧ isMk sh (tL sh g 3) = true then a ||| 2 ^ (tL sh g 3).toNat else a
theorem aw_s (k : Nat) : awN sh (k + 1) = if tL sh k 1 = 2 ∧ isMk sh (tL sh k 3) = true then (if (1 ≤ tL sh k 1 ∧ tL sh k 1 ≤ 3) ∧ isMk sh (tL sh k 2) = true then awN sh k ||| 2 ^ (tL sh k 2).toNat else awN sh k) ||| 2 ^ (tL sh k 3).toNat else (if (1 ≤ tL sh k 1 ∧ tL sh k 1 ≤ 3) ∧ isMk sh (tL sh k 2) = true then awN sh k ||| 2 ^ (tL sh k 2).toNat else awN sh k) := rfl
theorem or_e {a : Nat} {z : Int} (ha : a < 256) (h0 : 0 ≤ z) (h1 : z < 8) : iI a ||| ((1 : Int32) <<< (iI z &&& 31)) = iI ((a ||| 2 ^ z.toNat : Nat) : Int) ∧ a ||| 2 ^ z.toNat < 256 := by
  have e := or_tab ⟨a, ha⟩ ⟨z.toNat, by omega⟩
  simp only at e
  rw [show ((z.toNat : Nat) : Int) = z by omega] at e
  exact e
theorem aw_b (V : Val sh) : ∀ n : Nat, (n : Int) ≤ sh 77 → awN sh n < 256 := by
  have h8 := V.2.2.1
  intro n
  induction n with
  | zero => intro _; show (0 : Nat) < 256; decide
  | succ n ih =>
    intro h
    have i := ih (by omega)
    have st : ∀ (a : Nat) (z : Int) (P : Prop) [Decidable P], a < 256 → (if P ∧ isMk sh z = true then a ||| 2 ^ z.toNat else a) < 256 := by
      intro a z P _ ha
      split
      · rename_i q
        have m := isMk_t q.2
        exact (or_e ha (by omega) (by omega)).2
      · exact ha
    unfold awN
    exact st _ _ _ (st _ _ _ i)
/-- a leg waits for a mark -/
def Aws (sh : Nat → Int) (g k : Nat) : Prop := ((1 ≤ tL sh g 1 ∧ tL sh g 1 ≤ 3) ∧ tL sh g 2 = k) ∨ (tL sh g 1 = 2 ∧ tL sh g 3 = k)
theorem aw_ex : ∀ (n k : Nat), (awN sh n).testBit k = true → ∃ g, g < n ∧ Aws sh g k := by
  intro n
  induction n with
  | zero => intro k h; unfold awN at h; rw [Nat.zero_testBit] at h; exact absurd h (by decide)
  | succ n ih =>
    intro k h
    have st : ∀ (a : Nat) (z : Int) (P : Prop) [Decidable P], (if P ∧ isMk sh z = true then a ||| 2 ^ z.toNat else a).testBit k = true → a.testBit k = true ∨ (P ∧ z = k) := by
      intro a z P _ ha
      by_cases q : P ∧ isMk sh z = true
      · rw [if_pos q, Nat.testBit_or, Bool.or_eq_true] at ha
        rcases ha with ha | ha
        · exact Or.inl ha
        · rw [Nat.testBit_two_pow] at ha
          have m := isMk_t q.2
          have e := of_decide_eq_true ha
          exact Or.inr ⟨q.1, by omega⟩
      · rw [if_neg q] at ha; exact Or.inl ha
    unfold awN at h
    rcases st _ _ _ h with h | h
    · rcases st _ _ _ h with h | h
      · obtain ⟨g, g1, g2⟩ := ih k h
        exact ⟨g, by omega, g2⟩
      · exact ⟨n, by omega, Or.inl h⟩
    · exact ⟨n, by omega, Or.inr h⟩
theorem seen_out {o : Nat → Bool} {k : Nat} (h : o k = true) (x y z : Int) : seenZ sh o k x y z = false := by
  unfold seenZ
  rw [h]; rfl
/-- what a leg waits for never comes, if its mark is out -/
theorem come_out {o : Nat → Bool} {g k : Nat} (hA : Aws sh g k) (hk : o k = true) (x0 y0 h0 c i x y h w l0 : Int) : comesZ sh o g c i x y h w (wasZ sh o g x0 y0 h0) l0 = false := by
  unfold comesZ
  rcases hA with ⟨⟨a1, a2⟩, a3⟩ | ⟨a1, a3⟩
  · rw [if_neg (by omega), a3, Int.toNat_natCast]
    by_cases p1 : tL sh g 1 = 1
    · rw [if_pos p1, seen_out hk]; rfl
    · rw [if_neg p1]
      by_cases p2 : tL sh g 1 = 2
      · rw [if_pos p2, seen_out hk]; rfl
      · rw [if_neg p2, if_pos (by omega), seen_out hk]
        unfold wasZ
        rw [if_pos (by omega), a3, Int.toNat_natCast, seen_out hk]; rfl
  · rw [if_neg (by omega), if_neg (by omega), if_pos a1, a3, Int.toNat_natCast, seen_out hk, Bool.false_and, Bool.and_false]
theorem vleg_out {o : Nat → Bool} {g k : Nat} (hA : Aws sh g k) (hk : o k = true) {t dr : Int} {c : Int} {f : Nat} {x0 y0 h0 l0 : Int} : ∀ (n : Nat) (s : VS), (vleg sh t dr o g c f (wasZ sh o g x0 y0 h0) l0 n s).2 ≠ 1 := by
  intro n
  induction n with
  | zero => intro s; show (5 : Int) ≠ 1; decide
  | succ n ih =>
    intro s
    have e : (vstep sh t dr o g c f (wasZ sh o g x0 y0 h0) l0 s).2 ≠ 1 := by
      unfold vstep
      rw [come_out hA hk]
      split
      · show (3 : Int) ≠ 1; decide
      · split
        · show (4 : Int) ≠ 1; decide
        · rw [if_neg (by decide)]; show (0 : Int) ≠ 1; decide
    unfold vleg
    split
    · exact ih _
    · exact e
theorem vlegs_out {o : Nat → Bool} {g1 k : Nat} (hA : Aws sh g1 k) (hk : o k = true) {cf : Nat → Int} {t dr : Int} : ∀ (n g : Nat) (s : VS) (lm : Nat → Int), g ≤ g1 → g1 < g + n → (vlegs sh cf t dr o n g s lm).2.2.1 ≠ 1 := by
  intro n
  induction n with
  | zero => intro g s lm h1 h2; omega
  | succ n ih =>
    intro g s lm h1 h2
    unfold vlegs
    by_cases p : mistZ sh g = -1000000
    · rw [if_pos p]
      by_cases e : g = g1
      · subst e
        have := vleg_out hA hk (t := t) (dr := dr) (c := cf g) (f := s.1) (x0 := s.2.1 s.1) (y0 := s.2.2.1 s.1) (h0 := tideZ sh (t + s.1)) (l0 := lwZ sh g (s.2.1 s.1) (s.2.2.1 s.1) (tideZ sh (t + s.1))) 60 s
        simp only
        rw [if_neg this]
        exact this
      · simp only
        split
        · exact ih _ _ _ (by omega) (by omega)
        · assumption
    · rw [if_neg p]
      show (9 : Int) ≠ 1
      decide
theorem vo_out (V : Val sh) {o : Nat → Bool} {g1 k : Nat} (hA : Aws sh g1 k) (hg : (g1 : Int) < sh 77) (hk : o k = true) {t dr : Int} (ht : 0 ≤ t ∧ t ≤ 99) (hdr : 0 ≤ dr ∧ dr ≤ 20) : ¬ enZ sh (vo sh t dr o) = 0 := by
  have h6 := V.1
  have z := vs0_p V
  have vp := vlegs_p V (cf := fun g => tL sh g 0) ht hdr (o := o) (sh 77).toNat 0 (vs0 sh) (fun _ => 0) (by omega) z.1 z.2.1 (by omega)
  have n1 := vlegs_out hA hk (cf := fun g => tL sh g 0) (t := t) (dr := dr) (sh 77).toNat 0 (vs0 sh) (fun _ => 0) (by omega) (by omega)
  unfold vo voy enZ
  generalize vlegs sh (fun g => tL sh g 0) t dr o (sh 77).toNat 0 (vs0 sh) (fun _ => 0) = q at *
  obtain ⟨v1, v2, v3, v4⟩ := vp
  rw [if_neg n1]
  omega
theorem c_awaited (R : RC (σ 14) sh) (V : Val sh) : ∀ (d k f : Nat), (k : Int) + d = sh 77 → d < f → fx F_X3_marksAwaited_h4 z_X3_marksAwaited_h4 f σ (iI (awN sh k)) (iI k) = some (iI (awN sh (sh 77).toNat), σ) := by
  intro d
  have h6 := V.1
  have h8 := V.2.2.1
  induction d with
  | zero =>
    intro k f h1 h2
    obtain ⟨f, rfl⟩ : ∃ j, f = j + 1 := ⟨f - 1, by omega⟩
    rw [fx_s]
    generalize fx F_X3_marksAwaited_h4 z_X3_marksAwaited_h4 f = K
    unfold F_X3_marksAwaited_h4
    rw [q_legCount R rfl, obs]
    refine (if_pos ((iI_le (by omega) (by omega) (by omega) (by omega)).mpr (by omega))).trans ?_
    rw [show (sh 77).toNat = k by omega]
  | succ d ih =>
    intro k f h1 h2
    obtain ⟨f, rfl⟩ : ∃ j, f = j + 1 := ⟨f - 1, by omega⟩
    have hk : (k : Int) < sh 77 := by omega
    obtain ⟨-, ⟨u1, u2⟩, u3, u4, u5, u6, u7⟩ := V.2.2.2.2.2.2.2 k hk
    have ab := aw_b V k (by omega)
    have i1 := ih (k + 1) f (by omega) (by omega)
    have lc : ∀ w : Int, 0 ≤ w → w < 4 → f_X6_legCell 14 σ (iI k) (iI w) = some (iI (tL sh k w.toNat), σ) := fun w h3 h4 => q_legCell R rfl (by omega) (by omega) h3 h4
    have mb : ∀ z : Int, -2147483648 ≤ z → z < 2147483648 → f_X3_markBit σ (iI z) = some (if isMk sh z = true then (1 : Int32) <<< (iI z &&& 31) else 0, σ) := by
      intro z z1 z2
      unfold f_X3_markBit
      rw [q_isMark R V rfl z1 z2, obs]
      cases isMk sh z
      · exact if_pos (show bI false = 0 by decide)
      · exact if_neg (show ¬ bI true = 0 by decide)
    have ob : ∀ (a : Nat) (z : Int), a < 256 → (iI a ||| (if isMk sh z = true then (1 : Int32) <<< (iI z &&& 31) else 0)) = iI ((if isMk sh z = true then a ||| 2 ^ z.toNat else a : Nat) : Int) := by
      intro a z ha
      cases hm : isMk sh z
      · rw [if_neg (by decide), if_neg (by decide), or_z]
      · have m := isMk_t hm
        rw [if_pos rfl, if_pos rfl, (or_e ha (by omega) (by omega)).1]
    have e : iI (k : Int) + 1 = iI ((k + 1 : Nat) : Int) := by rw [show (1 : Int32) = iI 1 by decide, iI_add]; rfl
    rw [fx_s]
    generalize fx F_X3_marksAwaited_h4 z_X3_marksAwaited_h4 f = K at *
    -- behind the first mark
    have p68 : ∀ a : Nat, a < 256 → f_X3_marksAwaited_p68 K σ (iI a) (iI k) (iI (tL sh k 1)) = K σ (iI (if tL sh k 1 = 2 ∧ isMk sh (tL sh k 3) = true then a ||| 2 ^ (tL sh k 3).toNat else a : Nat)) (iI ((k + 1 : Nat) : Int)) := by
      intro a ha
      unfold f_X3_marksAwaited_p68 f_X3_marksAwaited_p89
      by_cases p : tL sh k 1 = 2
      · have := u6 p
        refine (if_pos (by rw [p]; decide)).trans ?_
        rw [show (3 : Int32) = iI 3 by decide, lc 3 (by omega) (by omega), obs]
        dsimp only
        rw [show Int.toNat 3 = 3 from rfl, mb _ (by omega) (by omega), obs, obs, obs, e]
        dsimp only
        rw [ob a _ ha]
        cases hm : isMk sh (tL sh k 3)
        · rw [if_neg (by decide), if_neg (fun h => absurd h.2 (by decide))]
        · rw [if_pos rfl, if_pos ⟨p, rfl⟩]
      · refine (if_neg (by rw [J2, iI_eq (by omega) (by omega) (by omega) (by omega)]; exact p)).trans ?_
        rw [obs, e, if_neg (fun h => p h.1)]
    have p45 : (1 ≤ tL sh k 1 ∧ tL sh k 1 ≤ 3) → f_X3_marksAwaited_p45 K σ (iI (awN sh k)) (iI k) (iI (tL sh k 1)) 1 = K σ (iI (awN sh (k + 1))) (iI ((k + 1 : Nat) : Int)) := by
      intro p
      have ua := u5 p.1 p.2
      unfold f_X3_marksAwaited_p45
      refine (if_neg (by decide)).trans ?_
      rw [J2, lc 2 (by omega) (by omega), obs]
      dsimp only
      rw [show Int.toNat 2 = 2 from rfl, mb _ (by omega) (by omega), obs, obs]
      dsimp only
      rw [ob _ _ ab, p68 _ (by
        split
        · rename_i hm
          have m := isMk_t hm
          exact (or_e ab (by omega) (by omega)).2
        · exact ab)]
      congr 3
      rw [aw_s]
      simp only [p, true_and]
    have p45' : ¬ (1 ≤ tL sh k 1 ∧ tL sh k 1 ≤ 3) → f_X3_marksAwaited_p45 K σ (iI (awN sh k)) (iI k) (iI (tL sh k 1)) 0 = K σ (iI (awN sh (k + 1))) (iI ((k + 1 : Nat) : Int)) := by
      intro p
      unfold f_X3_marksAwaited_p45
      refine (if_pos rfl).trans ?_
      rw [p68 _ ab]
      congr 3
      rw [aw_s]
      simp only [p, false_and, if_false]
    rw [← i1]
    unfold F_X3_marksAwaited_h4
    rw [q_legCount R rfl, obs]
    refine (if_neg (fun h => absurd ((iI_le (by omega) (by omega) (by omega) (by omega)).mp h) (by omega))).trans ?_
    dsimp only
    rw [show (1 : Int32) = iI 1 by decide, show (3 : Int32) = iI 3 by decide, J2, J0, lc 1 (by omega) (by omega), obs]
    dsimp only
    rw [show Int.toNat 1 = 1 from rfl]
    by_cases q1 : tL sh k 1 = 1
    · rw [if_pos (by rw [q1])]; exact p45 (by omega)
    · rw [if_neg (by rw [iI_eq (by omega) (by omega) (by omega) (by omega)]; exact q1)]
      by_cases q2 : tL sh k 1 = 2
      · rw [if_pos (by rw [q2])]; exact p45 (by omega)
      · rw [if_neg (by rw [iI_eq (by omega) (by omega) (by omega) (by omega)]; exact q2)]
        by_cases q3 : tL sh k 1 = 3
        · rw [if_pos (by rw [q3])]; exact p45 (by omega)
        · rw [if_neg (by rw [iI_eq (by omega) (by omega) (by omega) (by omega)]; exact q3)]; exact p45' (by omega)
theorem m_goneBy (M : MR σ sh) (V : Val sh) : ∀ (d k f : Nat), (k : Int) + d = sh 77 → d < f → fx F_X11_goneBy_h4 z_X11_goneBy_h4 f σ (iI (awN sh k)) (iI k) = some (iI (awN sh (sh 77).toNat), σ) := by
  intro d
  have h6 := V.1
  have h8 := V.2.2.1
  induction d with
  | zero =>
    intro k f h1 h2
    obtain ⟨f, rfl⟩ : ∃ j, f = j + 1 := ⟨f - 1, by omega⟩
    rw [fx_s]
    generalize fx F_X11_goneBy_h4 z_X11_goneBy_h4 f = K
    unfold F_X11_goneBy_h4
    rw [M.c77]
    refine (if_pos ((iI_le (by omega) (by omega) (by omega) (by omega)).mpr (by omega))).trans ?_
    rw [show (sh 77).toNat = k by omega]
  | succ d ih =>
    intro k f h1 h2
    obtain ⟨f, rfl⟩ : ∃ j, f = j + 1 := ⟨f - 1, by omega⟩
    have hk : (k : Int) < sh 77 := by omega
    obtain ⟨-, ⟨u1, u2⟩, u3, u4, u5, u6, u7⟩ := V.2.2.2.2.2.2.2 k hk
    have ab := aw_b V k (by omega)
    have i1 := ih (k + 1) f (by omega) (by omega)
    have lc : ∀ w : Int, 0 ≤ w → w < 4 → f_X11_legOf σ (iI k) (iI w) = some (iI (tL sh k w.toNat), σ) := fun w h3 h4 => m_legOf M h6.2 (by omega) hk h3 h4
    have e : iI (k : Int) + 1 = iI ((k + 1 : Nat) : Int) := by rw [show (1 : Int32) = iI 1 by decide, iI_add]; rfl
    rw [fx_s]
    generalize fx F_X11_goneBy_h4 z_X11_goneBy_h4 f = K at *
    have p75 : ∀ (a : Nat) (t0 t1 : Int32), a < 256 → t1 ||| t0 = iI a → f_X11_goneBy_p75 K σ (iI k) (iI (tL sh k 1)) t0 t1 = K σ (iI (if tL sh k 1 = 2 ∧ isMk sh (tL sh k 3) = true then a ||| 2 ^ (tL sh k 3).toNat else a : Nat)) (iI ((k + 1 : Nat) : Int)) := by
      intro a t0 t1 ha ht
      unfold f_X11_goneBy_p75 f_X11_goneBy_p107 f_X11_goneBy_p108
      rw [ht, obs]
      by_cases p : tL sh k 1 = 2
      · have := u6 p
        refine (if_pos (by rw [p]; decide)).trans ?_
        rw [show (3 : Int32) = iI 3 by decide, lc 3 (by omega) (by omega), obs]
        dsimp only
        rw [show Int.toNat 3 = 3 from rfl, m_isMark M V (by omega) (by omega), obs]
        dsimp only
        rw [lc 3 (by omega) (by omega), obs, obs, obs, obs, obs, e, or_z]
        dsimp only
        rw [show Int.toNat 3 = 3 from rfl]
        cases hm : isMk sh (tL sh k 3)
        · rw [if_neg (show ¬ (tL sh k 1 = 2 ∧ false = true) from fun h => absurd h.2 (by decide))]
          exact if_pos (by decide)
        · have m := isMk_t hm
          rw [if_pos (show tL sh k 1 = 2 ∧ true = true from ⟨p, rfl⟩), ← (or_e ha (by omega) (by omega)).1]
          exact if_neg (by decide)
      · refine (if_neg (by rw [J2, iI_eq (by omega) (by omega) (by omega) (by omega)]; exact p)).trans ?_
        rw [obs, obs, e, or_z, if_neg (fun h => p h.1)]
    have p42 : (1 ≤ tL sh k 1 ∧ tL sh k 1 ≤ 3) → f_X11_goneBy_p42 K σ (iI (awN sh k)) (iI k) (iI (tL sh k 1)) 1 = K σ (iI (awN sh (k + 1))) (iI ((k + 1 : Nat) : Int)) := by
      intro p
      have ua := u5 p.1 p.2
      unfold f_X11_goneBy_p42 f_X11_goneBy_p74
      refine (if_neg (by decide)).trans ?_
      rw [J2, lc 2 (by omega) (by omega), obs]
      dsimp only
      rw [show Int.toNat 2 = 2 from rfl, m_isMark M V (by omega) (by omega), obs]
      dsimp only
      rw [lc 2 (by omega) (by omega), obs]
      dsimp only
      rw [show Int.toNat 2 = 2 from rfl, p75 (awN sh k) 0 (iI (awN sh k)) ab (or_z _)]
      have un : awN sh (k + 1) = if tL sh k 1 = 2 ∧ isMk sh (tL sh k 3) = true then (if isMk sh (tL sh k 2) = true then awN sh k ||| 2 ^ (tL sh k 2).toNat else awN sh k) ||| 2 ^ (tL sh k 3).toNat else (if isMk sh (tL sh k 2) = true then awN sh k ||| 2 ^ (tL sh k 2).toNat else awN sh k) := by
        rw [aw_s]
        simp only [p, true_and]
      rw [un]
      cases hm : isMk sh (tL sh k 2)
      · exact if_pos (by decide)
      · have m := isMk_t hm
        have oe := or_e ab (z := tL sh k 2) (by omega) (by omega)
        rw [p75 (awN sh k ||| 2 ^ (tL sh k 2).toNat) _ _ oe.2 oe.1]
        exact if_neg (by decide)
    have p42' : ¬ (1 ≤ tL sh k 1 ∧ tL sh k 1 ≤ 3) → f_X11_goneBy_p42 K σ (iI (awN sh k)) (iI k) (iI (tL sh k 1)) 0 = K σ (iI (awN sh (k + 1))) (iI ((k + 1 : Nat) : Int)) := by
      intro p
      unfold f_X11_goneBy_p42 f_X11_goneBy_p74
      refine (if_pos rfl).trans ?_
      rw [p75 (awN sh k) 0 (iI (awN sh k)) ab (or_z _)]
      congr 3
      rw [aw_s]
      simp only [p, false_and, if_false]
    rw [← i1]
    unfold F_X11_goneBy_h4
    rw [M.c77]
    refine (if_neg (fun h => absurd ((iI_le (by omega) (by omega) (by omega) (by omega)).mp h) (by omega))).trans ?_
    rw [show (1 : Int32) = iI 1 by decide, show (3 : Int32) = iI 3 by decide, J2, J0, lc 1 (by omega) (by omega), obs]
    dsimp only
    rw [show Int.toNat 1 = 1 from rfl]
    by_cases q1 : tL sh k 1 = 1
    · rw [if_pos (by rw [q1])]; exact p42 (by omega)
    · rw [if_neg (by rw [iI_eq (by omega) (by omega) (by omega) (by omega)]; exact q1)]
      by_cases q2 : tL sh k 1 = 2
      · rw [if_pos (by rw [q2])]; exact p42 (by omega)
      · rw [if_neg (by rw [iI_eq (by omega) (by omega) (by omega) (by omega)]; exact q2)]
        by_cases q3 : tL sh k 1 = 3
        · rw [if_pos (by rw [q3])]; exact p42 (by omega)
        · rw [if_neg (by rw [iI_eq (by omega) (by omega) (by omega) (by omega)]; exact q3)]; exact p42' (by omega)
end OU
