theorem inv0 : Inv s0 := by
  refine ⟨⟨0, by decide, by decide, by decide, fun j hj => absurd hj (by omega)⟩, by decide, Or.inl ⟨by decide, by decide, by decide, by decide, by decide, by decide, by decide⟩, ⟨Or.inl ⟨by decide, by decide⟩, Or.inl ⟨by decide, by decide⟩⟩, ⟨0, 0, by decide, by decide, by decide, by decide, by decide, fun i hi => absurd hi (by omega)⟩, by decide, by decide, by decide⟩
section NR
variable {σ τ : St} {sh : Nat → Int}
def TK (s : VS) : Prop := ∀ j, j ≤ s.1 → (-100 ≤ s.2.1 j ∧ s.2.1 j ≤ 100) ∧ (-100 ≤ s.2.2.1 j ∧ s.2.2.1 j ≤ 100)
theorem vstep_k (V : Val sh) {t dr : Int} (ht : 0 ≤ t ∧ t ≤ 99) (hdr : 0 ≤ dr ∧ dr ≤ 20) {o : Nat → Bool} {g : Nat} {c : Int} (hc : 0 ≤ c ∧ c < 16) {f : Nat} {was : Bool} {l0 : Int} {s : VS} (hI : VI s) (hp : VP s) (hm : s.1 < 360) (hk : TK s) : TK (vstep sh t dr o g c f was l0 s).1 := by
  have st := (vstep_p V ht hdr (o := o) (g := g) (c := c) (f := f) (was := was) (l0 := l0) hI hm).2.1
  have w := vstep_w (sh := sh) (t := t) (dr := dr) (o := o) (g := g) hc (f := f) (was := was) (l0 := l0) hp
  intro j hj
  rw [st] at hj
  by_cases e : j = s.1 + 1
  · unfold VW at w
    rw [st] at w
    rw [e]
    omega
  · have := vstep_t (sh := sh) (t := t) (dr := dr) (o := o) (g := g) (c := c) (f := f) (was := was) (l0 := l0) (s := s) (j := j) (by omega)
    rw [this.1, this.2]
    exact hk j (by omega)
theorem vleg_k (V : Val sh) {t dr : Int} (ht : 0 ≤ t ∧ t ≤ 99) (hdr : 0 ≤ dr ∧ dr ≤ 20) {o : Nat → Bool} {g : Nat} {c : Int} (hc : 0 ≤ c ∧ c < 16) {f : Nat} {was : Bool} {l0 : Int} : ∀ (n : Nat) (s : VS), VI s → VP s → s.1 + n ≤ 360 → TK s → TK (vleg sh t dr o g c f was l0 n s).1 := by
  intro n
  induction n with
  | zero => intro s hI hP hm hk; exact hk
  | succ n ih =>
    intro s hI hP hm hk
    have st := vstep_p V ht hdr (o := o) (g := g) (c := c) (f := f) (was := was) (l0 := l0) hI (by omega)
    have sk := vstep_k V ht hdr (o := o) (g := g) (c := c) hc (f := f) (was := was) (l0 := l0) hI hP (by omega) hk
    unfold vleg
    by_cases p : (vstep sh t dr o g c f was l0 s).2 = 0
    · rw [if_pos p]
      exact ih _ st.1 (st.2.2.1 (Or.inl p)) (by omega) sk
    · rw [if_neg p]
      exact sk
theorem vlegs_k (V : Val sh) {cf : Nat → Int} (hcf : ∀ g : Nat, (g : Int) < sh 77 → 0 ≤ cf g ∧ cf g < 16) {t dr : Int} (ht : 0 ≤ t ∧ t ≤ 99) (hdr : 0 ≤ dr ∧ dr ≤ 20) {o : Nat → Bool} : ∀ (n g : Nat) (s : VS) (lm : Nat → Int), (g : Int) + n ≤ sh 77 → VI s → VP s → s.1 ≤ 60 * g → TK s → TK (vlegs sh cf t dr o n g s lm).1 := by
  have h6 := V.1
  intro n
  induction n with
  | zero => intro g s lm hg hI hP hm hk; exact hk
  | succ n ih =>
    intro g s lm hg hI hP hm hk
    unfold vlegs
    by_cases p : mistZ sh g = -1000000
    · rw [if_pos p]
      have vp := vleg_p V ht hdr (o := o) (g := g) (c := cf g) (f := s.1) (was := wasZ sh o g (s.2.1 s.1) (s.2.2.1 s.1) (tideZ sh (t + s.1))) (l0 := lwZ sh g (s.2.1 s.1) (s.2.2.1 s.1) (tideZ sh (t + s.1))) 60 s hI hP (by omega)
      have vk := vleg_k V ht hdr (o := o) (g := g) (c := cf g) (hcf g (by omega)) (f := s.1) (was := wasZ sh o g (s.2.1 s.1) (s.2.2.1 s.1) (tideZ sh (t + s.1))) (l0 := lwZ sh g (s.2.1 s.1) (s.2.2.1 s.1) (tideZ sh (t + s.1))) 60 s hI hP (by omega) hk
      simp only
      generalize vleg sh t dr o g (cf g) s.1 (wasZ sh o g (s.2.1 s.1) (s.2.2.1 s.1) (tideZ sh (t + s.1))) (lwZ sh g (s.2.1 s.1) (s.2.2.1 s.1) (tideZ sh (t + s.1))) 60 s = q at *
      by_cases e : q.2 = 1
      · rw [if_pos e]
        exact ih (g + 1) q.1 _ (by omega) vp.1 (vp.2.2.1 e) (by omega) vk
      · rw [if_neg e]
        exact vk
    · rw [if_neg p]
      exact hk
theorem vq_k (V : Val sh) {t dr : Int} (ht : 0 ≤ t ∧ t ≤ 99) (hdr : 0 ≤ dr ∧ dr ≤ 20) : TK (vq sh t dr).1 := by
  have h6 := V.1
  have z := vs0_p V
  have s := V.2.2.2.2.1
  exact vlegs_k V (cf := fun g => tL sh g 0) (fun g hg => by have := (V.2.2.2.2.2.2.2 g hg).1; omega) ht hdr (o := fun _ => false) (sh 77).toNat 0 (vs0 sh) (fun _ => 0) (by omega) z.1 z.2.1 (by omega) (fun j hj => by
    show (-100 ≤ sh 1 ∧ sh 1 ≤ 100) ∧ (-100 ≤ sh 2 ∧ sh 2 ≤ 100)
    omega)
def sqN (sh : Nat → Int) (k : Nat) (s : VS) (j : Nat) : Int := (s.2.1 j - tT sh k 1) * (s.2.1 j - tT sh k 1) + (s.2.2.1 j - tT sh k 2) * (s.2.2.1 j - tT sh k 2)
def nrF (sh : Nat → Int) (k : Nat) (s : VS) : Nat → Int
  | 0 => sqN sh k s 0
  | n + 1 => if sqN sh k s (n + 1) < nrF sh k s n then sqN sh k s (n + 1) else nrF sh k s n
theorem sqN_b (V : Val sh) {k : Nat} (hk : (k : Int) < sh 76) {s : VS} (h : TK s) {j : Nat} (hj : j ≤ s.1) : 0 ≤ sqN sh k s j ∧ sqN sh k s j ≤ 180000 := by
  have T := V.2.2.2.2.2.2.1 k hk
  unfold ValT at T
  have t := h j hj
  have a := sqb (d := s.2.1 j - tT sh k 1) (by omega) (by omega)
  have b := sqb (d := s.2.2.1 j - tT sh k 2) (by omega) (by omega)
  unfold sqN
  omega
theorem nrF_b (V : Val sh) {k : Nat} (hk : (k : Int) < sh 76) {s : VS} (h : TK s) : ∀ j, j ≤ s.1 → 0 ≤ nrF sh k s j ∧ nrF sh k s j ≤ 180000 := by
  intro j
  induction j with
  | zero => intro hj; exact sqN_b V hk h hj
  | succ j ih =>
    intro hj
    have a := ih (by omega)
    have b := sqN_b V hk h hj
    unfold nrF
    split <;> omega
theorem c_near (R : RC (τ 14) sh) (V : Val sh) {k : Nat} (hk : (k : Int) < sh 76) {s : VS} (h : TK s) (hm : s.1 ≤ 360) (h3 : τ 8 3 = iI s.1) (hT : ∀ j, j ≤ s.1 → τ 19 j = iI (s.2.1 j) ∧ τ 20 j = iI (s.2.2.1 j)) : ∀ (d n f : Nat) (x : Int), n + d = s.1 + 1 → d < f → (-2147483648 ≤ x ∧ x < 2147483648) → (∀ m, n = m + 1 → x = nrF sh k s m) → (n = 0 → x = 2147483647) →
    fx F_X3_leastSquare_h25 z_X3_leastSquare_h25 f τ (iI k) (iI x) (iI n) = some (iI (nrF sh k s s.1), τ) := by
  have h8 := V.2.2.1
  intro d
  induction d with
  | zero =>
    intro n f x h1 h2 hx hx1 hx2
    obtain ⟨f, rfl⟩ : ∃ j, f = j + 1 := ⟨f - 1, by omega⟩
    rw [fx_s]
    generalize fx F_X3_leastSquare_h25 z_X3_leastSquare_h25 f = K
    unfold F_X3_leastSquare_h25
    rw [h3, if_pos (by rw [iI_lt (by omega) (by omega) (by omega) (by omega)]; omega), hx1 s.1 (by omega)]
  | succ d ih =>
    intro n f x h1 h2 hx hx1 hx2
    obtain ⟨f, rfl⟩ : ∃ j, f = j + 1 := ⟨f - 1, by omega⟩
    have sb := sqN_b V hk h (j := n) (by omega)
    have nb := nrF_b V hk h n (by omega)
    have t1 := hT n (by omega)
    have en : (if sqN sh k s n < x then sqN sh k s n else x) = nrF sh k s n := by
      cases n with
      | zero => rw [hx2 rfl, if_pos (by omega)]; rfl
      | succ m => rw [hx1 m rfl]; rfl
    have i1 := ih (n + 1) f (nrF sh k s n) (by omega) (by omega) (by omega) (fun m hm => by rw [show m = n by omega]) (fun h => absurd h (by omega))
    rw [fx_s]
    generalize fx F_X3_leastSquare_h25 z_X3_leastSquare_h25 f = K at *
    unfold F_X3_leastSquare_h25
    have gd : 0 ≤ (iI (n : Int)).toInt ∧ (iI (n : Int)).toInt < 361 := by rw [iI_toInt (by omega) (by omega)]; omega
    have cl : (iI (n : Int)).toNatClampNeg = n := by rw [iI_clamp (by omega) (by omega), Int.toNat_natCast]
    have n0 : ¬ iI (n : Int) < 0 := by rw [J0, iI_lt (by omega) (by omega) (by omega) (by omega)]; omega
    have n1 : ¬ iI (s.1 : Int) < iI (n : Int) := by rw [iI_lt (by omega) (by omega) (by omega) (by omega)]; omega
    have n2 : iI (n : Int) ≤ 360 := by rw [show (360 : Int32) = iI 360 by decide, iI_le (by omega) (by omega) (by omega) (by omega)]; omega
    have tx : f_X8_trackCell τ (iI n) 0 = some (iI (s.2.1 n), τ) := by
      unfold f_X8_trackCell
      rw [if_neg n0, h3, if_neg n1, if_pos n2, if_pos rfl, if_pos gd, cl, t1.1]
    have ty : f_X8_trackCell τ (iI n) 1 = some (iI (s.2.2.1 n), τ) := by
      unfold f_X8_trackCell
      rw [if_neg n0, h3, if_neg n1, if_pos n2, if_neg (by decide), if_pos rfl, if_pos gd, cl, t1.2]
    have sq : f_X1_squareFrom τ (iI k) (iI (s.2.1 n)) (iI (s.2.2.1 n)) = some (iI (sqN sh k s n), τ) := by
      unfold f_X1_squareFrom sqN
      rw [show (1 : Int32) = iI 1 by decide, show (2 : Int32) = iI 2 by decide, e_thingCell R (by omega) (by omega) (by omega) (by omega), obs, obs]
      dsimp only
      rw [e_thingCell R (by omega) (by omega) (by omega) (by omega), obs, obs]
      simp only [iI_sub, iI_mul, iI_add, Int.toNat_natCast, Int.reduceToNat, Int.toNat_one]
    rw [h3, if_neg n1, tx, obs]
    dsimp only
    rw [ty, obs]
    dsimp only
    rw [sq, obs, obs, obs]
    dsimp only
    rw [show (if iI (sqN sh k s n) < iI x then iI (sqN sh k s n) else iI x) = iI (nrF sh k s n) by
      rw [← en]
      by_cases p : sqN sh k s n < x
      · rw [if_pos p, if_pos (by rw [iI_lt (by omega) (by omega) (by omega) (by omega)]; exact p)]
      · rw [if_neg p, if_neg (by rw [iI_lt (by omega) (by omega) (by omega) (by omega)]; exact p)]]
    rw [show (1 : Int32) = iI 1 by decide, iI_add]
    exact i1
theorem r_near (M : MR τ sh) (V : Val sh) {k : Nat} (hk : (k : Int) < sh 76) {s : VS} (h : TK s) (hm : s.1 ≤ 360) (h3 : τ 26 18 = iI s.1) (hT : ∀ j, j ≤ s.1 → τ 33 j = iI (s.2.1 j) ∧ τ 34 j = iI (s.2.2.1 j)) : ∀ (d n f : Nat), n + d = s.1 → d < f →
    fx F_X11_near_h62 z_X11_near_h62 f τ (iI k) (iI (nrF sh k s n)) (iI ((n + 1 : Nat) : Int)) = some (iI (nrF sh k s s.1), τ) := by
  have h8 := V.2.2.1
  intro d
  induction d with
  | zero =>
    intro n f h1 h2
    obtain ⟨f, rfl⟩ : ∃ j, f = j + 1 := ⟨f - 1, by omega⟩
    rw [fx_s]
    generalize fx F_X11_near_h62 z_X11_near_h62 f = K
    unfold F_X11_near_h62
    rw [h3, if_pos (by rw [iI_lt (by omega) (by omega) (by omega) (by omega)]; omega), show n = s.1 by omega]
  | succ d ih =>
    intro n f h1 h2
    obtain ⟨f, rfl⟩ : ∃ j, f = j + 1 := ⟨f - 1, by omega⟩
    have sb := sqN_b V hk h (j := n + 1) (by omega)
    have nb := nrF_b V hk h n (by omega)
    have t1 := hT (n + 1) (by omega)
    have i1 := ih (n + 1) f (by omega) (by omega)
    rw [show nrF sh k s (n + 1) = if sqN sh k s (n + 1) < nrF sh k s n then sqN sh k s (n + 1) else nrF sh k s n from rfl] at i1
    rw [fx_s]
    generalize fx F_X11_near_h62 z_X11_near_h62 f = K at *
    unfold F_X11_near_h62 f_X11_near_p116
    have gd : 0 ≤ (iI ((n + 1 : Nat) : Int)).toInt ∧ (iI ((n + 1 : Nat) : Int)).toInt < 361 := by rw [iI_toInt (by omega) (by omega)]; omega
    have cl : (iI ((n + 1 : Nat) : Int)).toNatClampNeg = n + 1 := by rw [iI_clamp (by omega) (by omega), Int.toNat_natCast]
    rw [h3, if_neg (show ¬ iI (s.1 : Int) < iI ((n + 1 : Nat) : Int) by rw [iI_lt (by omega) (by omega) (by omega) (by omega)]; omega), if_pos gd, show (1 : Int32) = iI 1 by decide, show (2 : Int32) = iI 2 by decide, m_of M h8.2 (by omega) hk (by omega) (by omega), obs]
    dsimp only
    rw [if_pos gd, m_of M h8.2 (by omega) hk (by omega) (by omega), obs, cl, t1.1]
    dsimp only
    rw [t1.2, iI_sub, iI_sub, m_square, obs]
    simp only [Int.toNat_natCast, Int.reduceToNat, Int.toNat_one, obs, iI_add]
    rw [show (s.2.1 (n + 1) - tT sh k 1) * (s.2.1 (n + 1) - tT sh k 1) + (s.2.2.1 (n + 1) - tT sh k 2) * (s.2.2.1 (n + 1) - tT sh k 2) = sqN sh k s (n + 1) from rfl]
    by_cases p : sqN sh k s (n + 1) < nrF sh k s n
    · rw [if_pos p] at i1
      rw [if_neg (show ¬ iI (nrF sh k s n) ≤ iI (sqN sh k s (n + 1)) by rw [iI_le (by omega) (by omega) (by omega) (by omega)]; omega)]
      exact i1
    · rw [if_neg p] at i1
      rw [if_pos (show iI (nrF sh k s n) ≤ iI (sqN sh k s (n + 1)) by rw [iI_le (by omega) (by omega) (by omega) (by omega)]; omega)]
      exact i1
theorem p_near : P_near Inv := by
  intro σ a1 a2 h
  obtain ⟨x, rfl, x1, x2⟩ := iI_ex a1
  obtain ⟨t, rfl, t1, t2⟩ := iI_ex a2
  rcases iv_sheet h with u | ⟨sh, V, R, M⟩
  · exact ⟨(-1000001, σ), (-1000001, σ), gd0 (hasThing_u u _), gd0 (isThing_u u _), rfl, h⟩
  have h8 := V.2.2.1
  by_cases b : 0 ≤ x ∧ x < sh 76
  case neg => exact ⟨(-1000001, σ), (-1000001, σ), gd0 (hasThing_f R V x1 x2 b), gd0 (isThing_f M V x1 x2 b), rfl, h⟩
  by_cases a : 0 ≤ t ∧ t ≤ 99
  case neg => exact ⟨(-1000001, σ), (-1000001, σ), (gd1 (hasThing_t R V b)).trans (gd0 (start0_f t1 t2 a)), (gd1 (isThing_t M V b)).trans (gd0 (start_f t1 t2 a)), rfl, h⟩
  obtain ⟨k, rfl⟩ : ∃ k : Nat, x = k := ⟨x.toNat, by omega⟩
  obtain ⟨τ, c1, c2⟩ := c_make V R a V.2.2.2.1
  have i1 := CF_inv c2 h
  have M1 := CF_mr c2 M
  have R1 := CF_rc c2 R
  obtain ⟨τ2, d1, d2⟩ := m_make V M1 i1 a V.2.2.2.1
  have i2 := RF_inv d2 i1
  have M2 := RF_mr d2 M1
  have vk := vq_k V a V.2.2.2.1
  have vb := vq_b V a V.2.2.2.1
  have dr := ref_dr M1
  obtain ⟨-, ⟨-, -, g3, -⟩, gT, -⟩ := c2
  obtain ⟨-, -, ⟨k18, -⟩, -, kT, -⟩ := RF_get d2
  generalize vq sh t (sh 0) = q at *
  have e1 := c_near R1 V b.2 vk vb.1 g3 (fun j hj => ⟨(gT j hj).1, (gT j hj).2.1⟩) (q.1.1 + 1) 0 FU 2147483647 (by omega) (by rw [FU_val]; omega) (by omega) (fun m hm => absurd hm (by omega)) (fun _ => rfl)
  have e2 := r_near M2 V b.2 vk vb.1 k18 (fun j hj => ⟨(kT j hj).1, (kT j hj).2.1⟩) q.1.1 0 FU (by omega) (by rw [FU_val]; omega)
  refine ⟨(iI (nrF sh k q.1 q.1.1), τ), (iI (nrF sh k q.1 q.1.1), τ2), (gd1 (hasThing_t R V b)).trans ((gd1 (start0_t a)).trans ?_), (gd1 (isThing_t M1 V b)).trans ((gd1 (start_t a)).trans ?_), rfl, i2⟩
  · dsimp only
    unfold f_X3_leastSquare
    generalize fx F_X3_leastSquare_h25 z_X3_leastSquare_h25 FU = K at *
    rw [show (-1 : Int32) = iI (-1) by decide, J0, q_shipCell R rfl (by omega) (by omega), obs]
    dsimp only
    rw [Int.toNat_zero, c1, obs, show (2147483647 : Int32) = iI 2147483647 by decide, show iI (0 : Int) = iI ((0 : Nat) : Int) from rfl, e1, obs]
  · dsimp only
    have z0 := kT 0 (by omega)
    generalize fx F_X11_near_h62 z_X11_near_h62 FU = K at *
    rw [dr, d1, obs, show (1 : Int32) = iI 1 by decide, show (2 : Int32) = iI 2 by decide, m_of M2 h8.2 (by omega) b.2 (by omega) (by omega), obs]
    dsimp only
    rw [m_of M2 h8.2 (by omega) b.2 (by omega) (by omega), obs]
    dsimp only
    rw [z0.1, z0.2.1, iI_sub, iI_sub, m_square, obs]
    exact e2
end NR
