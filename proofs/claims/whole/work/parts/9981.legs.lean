section PX
variable {σ π τ ρ ρ1 : St} {sh : Nat → Int} {n : Nat} {b : Nat → Int}
theorem NS_putL {a H t l l' hc tc lc A : Nat} {lo hi : Int} (h : NS σ π n b a H t l hc tc lc A lo hi τ ρ) {jc : Nat} (hr : rel jc A) (hok : ∀ v, lo ≤ v → v ≤ hi → okc jc v) (hD : ∀ j, dD a H t l' j → dD a H t l j ∨ j = jc) (hl : jc < 51 ∨ 51 + l ≤ jc) (hll : ∀ g : Nat, 4 * g + 4 ≤ l' → 4 * g + 4 ≤ l) : QS σ π n b a H t l' hc tc lc (g_u2 τ 17 jc (τ 3 5)) ρ := by
  obtain ⟨v, p, sh, h1, h2, h3, h4, h5, h6, h7, h8⟩ := h
  obtain ⟨r1, r2, r3, r4, r5⟩ := rel_c hr
  rw [h2]
  refine ⟨p, fu sh jc v, h3, CS_put h4 jc v, h5, fun j2 A2 g1 g2 => ?_, ?_⟩
  · by_cases e : j2 = jc
    · rw [e, fu_e]
      rw [e] at g1
      have : A2 = A := by unfold rel at g1 hr; omega
      rw [this]
      exact ⟨h6, hok v h1.1 h1.2⟩
    · rw [fu_n e]
      have nA : A2 ≠ A := fun h => e (rel_u (h ▸ g1) hr)
      exact h7 j2 A2 g1 ((hD j2 g2).resolve_right e) nA
  · unfold CN at *
    rw [fu_n (by omega), fu_n (by omega), fu_n (by omega)]
    refine ⟨h8.1, h8.2.1, h8.2.2.1, fun g hg => ?_⟩
    have hg2 := hll g hg
    have := h8.2.2.2 g hg2
    unfold tL at *
    rw [fu_n (by omega), fu_n (by omega), fu_n (by omega)]
    exact this
theorem BOk_until (x : Int32) : BOk σ π (fun ρ => f_X11_readsUntil ρ x) := by
  intro τ ρ h
  refine ⟨ρ, ?_, h⟩
  show f_X11_readsUntil ρ x = some ρ
  unfold f_X11_readsUntil f_X11_readsUntil_p29
  rw [bad_well h, obs]
  refine (if_pos (show iI 0 = 0 by decide)).trans ?_
  dsimp only
  rw [bad_well h, obs]
  exact if_pos (show iI 0 = 0 by decide)
theorem BOk_leg : BOk σ π f_X11_readsLeg := by
  intro τ ρ h
  refine ⟨ρ, ?_, h⟩
  unfold f_X11_readsLeg f_X11_readsLeg_p48
  rw [bad_well h, obs]
  refine (if_pos (show iI 0 = 0 by decide)).trans ?_
  dsimp only
  rw [bad_well h, obs]
  exact if_pos (show iI 0 = 0 by decide)
theorem BOk_105 (f : Nat) (hf : 0 < f) : BOk σ π (fx F_X11_readsAll_h105 z_X11_readsAll_h105 f) := by
  intro τ ρ h
  obtain ⟨f, rfl⟩ : ∃ j, f = j + 1 := ⟨f - 1, by omega⟩
  refine ⟨ρ, ?_, h⟩
  rw [fx_s]
  unfold F_X11_readsAll_h105
  rw [bad_well h, obs]
  exact if_pos (show iI 0 = 0 by decide)
theorem BOk_101 : BOk σ π f_X11_readsAll_p101 := by
  unfold f_X11_readsAll_p101
  exact BOk_bind BOk_leg (BOk_105 FU (by rw [FU_val]; omega))
theorem BOk_77 : BOk σ π (fx F_X11_readsAll_h77 z_X11_readsAll_h77 FU) := by
  intro τ ρ h
  rw [bad_77 h FU (by rw [FU_val]; omega)]
  exact BOk_101 τ ρ h
theorem l_leg (hX : Ctx σ π n b) {H t hc tc k : Nat} (hk : k < 6) (hH : H ≤ 6) (ht : t ≤ 40) (h : QS σ π n b 5 H t (4 * k) hc tc k τ ρ) : Lk σ π (f_X5_readLeg τ (iI k)) (Option.bind (f_X11_number ρ (iI ((55 + 4 * k : Nat) : Int)) 0 15) fun q30 => Option.bind (f_X11_readsUntil q30 (iI ((55 + 4 * k : Nat) : Int))) fun q32 => Option.bind (f_X11_reads q32 59) fun q34 => Option.bind (some (g_u2 q34 32 54 ((q34 32 54) + 1))) fun σ36 => some σ36) (fun τ' ρ' => QS σ π n b 5 H t (4 * (k + 1)) hc tc (k + 1) (g_u2 τ' 17 77 (iI ((k + 1 : Nat) : Int))) ρ') := by
  have bFin : BOk σ π (fun q32 => Option.bind (f_X11_reads q32 59) fun q34 => Option.bind (some (g_u2 q34 32 54 ((q34 32 54) + 1))) fun σ36 => some σ36) := BOk_bind (BOk_reads 59) (BOk_32 54 (fun q => q 32 54 + 1) BOk_some)
  have hr : rel (51 + 4 * k + 0) (55 + 4 * k) := by unfold rel; omega
  unfold f_X5_readLeg
  refine Lk_seq (q_num hX h (lo := 0) (hi := 15) (by omega) (by omega) hr) (fun τ1 ρ1 hn => ?_) (BOk_bind (BOk_until (iI ((55 + 4 * k : Nat) : Int))) bFin)
  have hput := NS_putL (l' := 4 * k + 1) hn hr (fun v h1 h2 => Or.inl (by unfold okv; omega)) (fun j hj => by unfold dD at *; omega) (by omega) (fun g hg => by omega)
  have R1 : ∃ sh, RC (τ1 17) sh := by obtain ⟨v, p, sh, -, -, -, g4, -⟩ := hn; exact ⟨sh, g4.2.2⟩
  obtain ⟨sh1, R1⟩ := R1
  have pl := d_putLeg R1 (k := k) (w := 0) hk (by omega) (τ1 3 5)
  dsimp only
  rw [show (0 : Int32) = iI ((0 : Nat) : Int) by decide, pl, obs]
  dsimp only
  exact l_until hX hk hH ht hput
theorem leg_one (hX : Ctx σ π n b) {H t hc tc k : Nat} (hk : k ≤ 6) (hH : H ≤ 6) (ht : t ≤ 40) (h : QS σ π n b 5 H t (4 * k) hc tc k τ ρ) {K : St → Int32 → Option (Int32 × St)} {B : St → Option St} {Q : St → St → Prop} (hK : k < 6 → ∀ τ' ρ', QS σ π n b 5 H t (4 * (k + 1)) hc tc (k + 1) τ' ρ' → Lk σ π (K τ' (iI ((k + 1 : Nat) : Int))) (B ρ') Q) (hB : BOk σ π B) : Lk σ π (f_X5_readLegs_p29 K τ (iI k)) (Option.bind (f_X11_readsLeg ρ) B) Q := by
  obtain ⟨p, sh, g1, g2, g3, g4, g5⟩ := id h
  have t1 := hX.1.1
  have w54 := (QS_6 h).2.2
  have e1 : iI (k : Int) + 1 = iI ((k + 1 : Nat) : Int) := by rw [show (1 : Int32) = iI 1 by decide, iI_add]; rfl
  have bd : ∀ z : Int, (1 ≤ z ∧ z ≤ 3) → Bad σ π (g_u2 (g_u2 τ 3 1 (iI z)) 3 2 (iI p)) (g_u2 ρ 26 12 (iI z)) := fun z hz => ⟨z, p, hz, by omega, ⟨fun c d1 d2 => by rw [g_u2_n1 d1, g_u2_n1 d1]; exact g2.1 c d1 d2, by rw [g_u2_n2 (by decide), g_u2_e], g_u2_e _ _ _ _⟩, RS_bad g3 z⟩
  have fin : ∀ z : Int, (1 ≤ z ∧ z ≤ 3) → f_X5_readLegs_p29 K τ (iI k) = some (iI 0, g_u2 (g_u2 τ 3 1 (iI z)) 3 2 (iI p)) → f_X11_readsLeg ρ = some (g_u2 ρ 26 12 (iI z)) → Lk σ π (f_X5_readLegs_p29 K τ (iI k)) (Option.bind (f_X11_readsLeg ρ) B) Q := by
    intro z hz x1 x2
    rw [x1, x2, obs]
    obtain ⟨ρ', r1, r2⟩ := hB _ _ (bd z hz)
    exact ⟨_, ρ', r1, Or.inr ⟨rfl, r2⟩⟩
  rcases q_look hX h (c := 103) (by decide) with ⟨x, x1, x2, x3⟩ | ⟨x1, x2, x3⟩
  · refine fin 1 (by omega) ?_ ?_
    · unfold f_X5_readLegs_p29
      rw [x1, obs]
      refine (if_neg (show ¬ x = 103 from x2)).trans ?_
      unfold f_X5_faultHere
      dsimp only
      rw [obs, obs, obs, g_u2_n2 (show (4 : Nat) ≠ 1 by decide), g2.2.1]
      exact if_pos (Or.inl rfl)
    · have b1 := bad_well (bd 1 (by omega))
      have bn := bad_n (bd 1 (by omega))
      unfold f_X11_readsLeg
      rw [RS_well g3, obs]
      refine (if_neg (show ¬ iI 1 = 0 by decide)).trans ?_
      refine (if_neg (show ¬ ρ 26 11 = 103 from x3)).trans ?_
      unfold f_X11_readsLeg_p22 f_X11_readsLeg_p44 f_X11_readsLeg_p48
      dsimp only
      rw [wants_f g3, obs, show (1 : Int32) = iI 1 by decide, wants_b bn, wants_b bn, obs, b1, obs]
      split
      · exact if_pos (show iI 0 = 0 by decide)
      · exact if_pos (show iI 0 = 0 by decide)
  · have cE : f_X5_readLegs_p29 K τ (iI k) = if k = 6 then some (iI 0, g_u2 (g_u2 τ 3 1 (iI 3)) 3 2 (iI p)) else (Option.bind (f_X5_readLeg (g_u2 τ 3 4 (τ 3 4 + 1)) (iI k)) fun q31 => if q31.1 = 0 then some (0, q31.2) else (Option.bind (f_X6_countLegs 17 q31.2 (iI ((k + 1 : Nat) : Int))) fun q34 => K q34 (iI ((k + 1 : Nat) : Int)))) := by
      unfold f_X5_readLegs_p29
      rw [x1, obs]
      refine (if_pos (show iI 103 = 103 by decide)).trans ?_
      dsimp only
      rw [e1, J6]
      by_cases q : k = 6
      · rw [if_pos q, if_pos (by rw [q]; rfl)]
        unfold f_X5_faultHere
        rw [obs, obs, obs, g_u2_n2 (by decide), g2.2.1]
        exact if_pos (Or.inl rfl)
      · rw [if_neg q, if_neg (fun h => q (by have := (iI_eq (by omega) (by omega) (by omega) (by omega)).mp h; omega)), obs]
        rfl
    have mE : f_X11_readsLeg ρ = if k = 6 then some (g_u2 ρ 26 12 (iI 3)) else (Option.bind (f_X11_take ρ) fun q28 => Option.bind (f_X11_number q28 (iI ((55 + 4 * k : Nat) : Int)) 0 15) fun q30 => Option.bind (f_X11_readsUntil q30 (iI ((55 + 4 * k : Nat) : Int))) fun q32 => Option.bind (f_X11_reads q32 59) fun q34 => Option.bind (some (g_u2 q34 32 54 ((q34 32 54) + 1))) fun σ36 => some σ36) := by
      unfold f_X11_readsLeg
      rw [RS_well g3, obs]
      refine (if_neg (show ¬ iI 1 = 0 by decide)).trans ?_
      refine (if_pos (show ρ 26 11 = 103 from x2)).trans ?_
      unfold f_X11_readsLeg_p22 f_X11_readsLeg_p44
      dsimp only
      rw [wants_t g3 (by decide), obs, w54, J6]
      by_cases q : k = 6
      · have b3 := bad_well (bd 3 (by omega))
        rw [if_pos q, if_pos ((iI_le (by omega) (by omega) (by omega) (by omega)).mpr (by omega)), wants_f g3, obs]
        unfold f_X11_readsLeg_p48
        rw [show (3 : Int32) = iI 3 by decide, b3, obs]
        exact if_pos (show iI 0 = 0 by decide)
      · rw [if_neg q, if_neg (fun h => absurd ((iI_le (by omega) (by omega) (by omega) (by omega)).mp h) (by omega)), wants_t g3 (by decide), obs]
        unfold f_X11_readsLeg_p48
        rw [RS_well g3, obs]
        refine (if_neg (show ¬ iI 1 = 0 by decide)).trans ?_
        dsimp only
        rw [w54, show (55 : Int32) + 4 * iI (k : Int) = iI ((55 + 4 * k : Nat) : Int) by rw [show (55 : Int32) = iI 55 by decide, show (4 : Int32) = iI 4 by decide, iI_mul, iI_add]; rfl, obs]
    by_cases q : k = 6
    · rw [if_pos q] at cE mE
      exact fin 3 (by omega) cE mE
    · rw [if_neg q] at cE mE
      obtain ⟨ρ', y1, y2, y3, -⟩ := x3 ρ (fun _ _ => rfl)
      rw [y1, obs] at mE
      rw [cE, mE]
      refine Lk_seq (l_leg hX (by omega) hH ht (y3 rfl)) (fun τ1 ρ1 h1 => ?_) hB
      dsimp only
      rw [d_countL (by omega), obs]
      exact hK (by omega) _ _ h1
theorem end_tk (hb : ∀ j, j < n → 0 ≤ b j ∧ b j ≤ 255) (p : Nat) : (bb n b p = -1 ↔ n ≤ p) ∧ (tk n b p = -1000000 ↔ n ≤ p) := by
  by_cases q : n ≤ p
  · rw [bb_ge (by omega)]
    refine ⟨⟨fun _ => q, fun _ => rfl⟩, fun _ => q, fun _ => ?_⟩
    unfold tk
    rw [if_pos q]
  · have bp := hb p (by omega)
    rw [bb_lt (by omega)]
    refine ⟨⟨fun h => by omega, fun h => absurd h q⟩, fun h => ?_, fun h => absurd h q⟩
    rcases tk_or hb p with e | ⟨-, e⟩
    · rw [e, bb_lt (by omega)] at h; omega
    · unfold tk at h
      rw [if_neg q] at h
      cases f1 : isF (bb n b p)
      · rw [f1, if_neg (show ¬ false = true by decide)] at h
        by_cases l1 : isL (b p) = true
        · rw [if_pos l1] at h; omega
        · rw [if_neg l1] at h; omega
      · have v1 := isF_t f1
        rw [bb_lt (by omega)] at v1
        rw [f1, if_pos (show true = true from rfl)] at h
        cases f2 : isF (bb n b (p + 1))
        · rw [f2, if_pos (show false = false from rfl)] at h; omega
        · have v2 := isF_t f2
          rw [bb_lt (isF_lt f2)] at v2
          rw [f2, if_neg (show ¬ true = false by decide)] at h
          cases f3 : isF (bb n b (p + 2))
          · rw [f3, if_pos (show false = false from rfl)] at h; omega
          · rw [f3, if_neg (show ¬ true = false by decide)] at h; omega
/-- a leg behind another, or the end -/
theorem leg_next (hX : Ctx σ π n b) {H T k : Nat} (hH : H ≤ 6) (hT : T ≤ 8) (hk : 1 ≤ k ∧ k ≤ 6) {K : St → Int32 → Option (Int32 × St)} {B : St → Option St} (h : QS σ π n b 5 H (5 * T) (4 * k) H T k τ ρ) (hK : k < 6 → ∀ τ' ρ', QS σ π n b 5 H (5 * T) (4 * (k + 1)) H T (k + 1) τ' ρ' → Lk σ π (K τ' (iI ((k + 1 : Nat) : Int))) (B ρ') (fun τ' ρ' => ∃ L, (1 ≤ L ∧ L ≤ 6) ∧ QS σ π n b 5 H (5 * T) (4 * L) H T L τ' ρ')) (hB : BOk σ π B) : Lk σ π (F_X5_readLegs_h2 K τ (iI k)) (F_X11_readsAll_h105 B ρ) (fun τ' ρ' => ∃ L, (1 ≤ L ∧ L ≤ 6) ∧ QS σ π n b 5 H (5 * T) (4 * L) H T L τ' ρ') := by
  obtain ⟨p, sh, g1, g2, g3, g4, g5⟩ := id h
  have Tτ : Tp τ n b := ⟨hX.1.1, by rw [g2.1 1 (by decide) (by decide)]; exact hX.1.2.1, fun j hj => by rw [g2.1 13 (by decide) (by decide)]; exact hX.1.2.2 j hj⟩
  have t1 := hX.1.1
  have kb := tk_b hX.1.bytes p
  obtain ⟨en1, en2⟩ := end_tk hX.1.bytes p
  have bbb : -1 ≤ bb n b p ∧ bb n b p ≤ 255 := by
    by_cases q : p < n
    · rw [bb_lt q]; have := hX.1.bytes p q; omega
    · rw [bb_ge q]; omega
  have cE : F_X5_readLegs_h2 K τ (iI k) = if n ≤ p then some (iI 1, τ) else f_X5_readLegs_p29 K τ (iI k) := by
    unfold F_X5_readLegs_h2
    rw [J6, J0, if_neg (fun h => absurd ((iI_lt (by omega) (by omega) (by omega) (by omega)).mp h) (by omega)), if_neg (fun h => absurd ((iI_le (by omega) (by omega) (by omega) (by omega)).mp h) (by omega)), g2.2.1, e_bb Tτ (by omega), obs]
    by_cases q : n ≤ p
    · rw [if_pos q, en1.mpr q]; exact if_pos (show iI (-1) = -1 by decide)
    · rw [if_neg q]; exact if_neg (show ¬ iI (bb n b p) = -1 by rw [show (-1 : Int32) = iI (-1) by decide, iI_eq (by omega) (by omega) (by omega) (by omega)]; exact fun h => q (en1.mp h))
  have mE : F_X11_readsAll_h105 B ρ = if n ≤ p then some ρ else Option.bind (f_X11_readsLeg ρ) B := by
    unfold F_X11_readsAll_h105
    rw [RS_well g3, obs]
    refine (if_neg (show ¬ iI 1 = 0 by decide)).trans ?_
    by_cases q : n ≤ p
    · rw [if_pos q]
      exact if_pos (show ρ 26 11 = -1000000 by rw [g3.2.2.2.2.1, en2.mpr q]; rfl)
    · rw [if_neg q]
      exact if_neg (show ¬ ρ 26 11 = -1000000 by rw [g3.2.2.2.2.1, show (-1000000 : Int32) = iI (-1000000) by decide, iI_eq (by omega) (by omega) (by omega) (by omega)]; exact fun h => q (en2.mp h))
  rw [cE, mE]
  by_cases q : n ≤ p
  · rw [if_pos q, if_pos q]
    exact ⟨τ, ρ, rfl, Or.inl ⟨rfl, k, hk, h⟩⟩
  · rw [if_neg q, if_neg q]
    exact leg_one hX hk.2 hH (by omega) h hK hB
theorem leg_loop (hX : Ctx σ π n b) {H T : Nat} (hH : H ≤ 6) (hT : T ≤ 8) : ∀ (d k f1 f2 : Nat) (τ ρ : St), k + d = 6 → 1 ≤ k → d < f1 → d + 1 < f2 → QS σ π n b 5 H (5 * T) (4 * k) H T k τ ρ → Lk σ π (fx F_X5_readLegs_h2 z_X5_readLegs_h2 f1 τ (iI k)) (fx F_X11_readsAll_h105 z_X11_readsAll_h105 f2 ρ) (fun τ' ρ' => ∃ L, (1 ≤ L ∧ L ≤ 6) ∧ QS σ π n b 5 H (5 * T) (4 * L) H T L τ' ρ') := by
  intro d
  induction d with
  | zero =>
    intro k f1 f2 τ ρ h1 h2 h3 h4 h
    obtain ⟨f1, rfl⟩ : ∃ j, f1 = j + 1 := ⟨f1 - 1, by omega⟩
    obtain ⟨f2, rfl⟩ : ∃ j, f2 = j + 1 := ⟨f2 - 1, by omega⟩
    rw [fx_s, fx_s]
    exact leg_next hX hH hT (by omega) h (fun hk => absurd hk (by omega)) (BOk_105 f2 (by omega))
  | succ d ih =>
    intro k f1 f2 τ ρ h1 h2 h3 h4 h
    obtain ⟨f1, rfl⟩ : ∃ j, f1 = j + 1 := ⟨f1 - 1, by omega⟩
    obtain ⟨f2, rfl⟩ : ∃ j, f2 = j + 1 := ⟨f2 - 1, by omega⟩
    rw [fx_s, fx_s]
    exact leg_next hX hH hT (by omega) h (fun hk τ' ρ' h' => ih (k + 1) f1 f2 τ' ρ' (by omega) (by omega) (by omega) (by omega) h') (BOk_105 f2 (by omega))
theorem l_legs (hX : Ctx σ π n b) {H T : Nat} (hH : H ≤ 6) (hT : T ≤ 8) (h : QS σ π n b 5 H (5 * T) 0 H T 0 τ ρ) : Lk σ π (f_X5_readLegs τ) (f_X11_readsAll_p101 ρ) (fun τ' ρ' => ∃ L, (1 ≤ L ∧ L ≤ 6) ∧ QS σ π n b 5 H (5 * T) (4 * L) H T L τ' ρ') := by
  unfold f_X5_readLegs f_X11_readsAll_p101
  obtain ⟨f, hf⟩ : ∃ f, FU = f + 1 := ⟨FU - 1, by rw [FU_val]⟩
  have fv : f = 1999 := by have := FU_val; omega
  rw [show fx F_X5_readLegs_h2 z_X5_readLegs_h2 FU = F_X5_readLegs_h2 (fx F_X5_readLegs_h2 z_X5_readLegs_h2 f) by rw [hf, fx_s]]
  have cE : ∀ K : St → Int32 → Option (Int32 × St), F_X5_readLegs_h2 K τ 0 = f_X5_readLegs_p29 K τ (iI ((0 : Nat) : Int)) := fun K => (if_neg (by decide)).trans (if_pos (by decide))
  rw [cE]
  exact leg_one hX (k := 0) (by omega) hH (by omega) h (fun _ τ' ρ' h' => leg_loop hX hH hT 5 1 f FU τ' ρ' (by omega) (by omega) (by omega) (by rw [FU_val]; omega) h') (BOk_105 FU (by rw [FU_val]; omega))
end PX
