section PQ
variable {σ π τ ρ ρ1 : St} {sh : Nat → Int} {n : Nat} {b : Nat → Int}
/-! What has been read: a of the ship's cells, H heights, t cells of things, l of legs. -/
def dD (a H t l : Nat) (j : Nat) : Prop := j < a ∨ (5 ≤ j ∧ j < 5 + H) ∨ (11 ≤ j ∧ j < 11 + t) ∨ (51 ≤ j ∧ j < 51 + l)
def okc (jc : Nat) (v : Int) : Prop := okv jc v ∨ (51 ≤ jc ∧ (jc - 51) % 4 ≠ 0)
def FR (w : Nat → Int32) (sh : Nat → Int) (D : Nat → Prop) : Prop := ∀ jc A, rel jc A → D jc → w A = iI (sh jc) ∧ okc jc (sh jc)
def Ctx (σ π : St) (n : Nat) (b : Nat → Int) : Prop := Tp σ n b ∧ Tr π n b ∧ π 26 4 = iI n
/-- counts, and the legs' ends -/
def CN (w : Nat → Int32) (sh : Nat → Int) (l hc tc lc : Nat) : Prop := (sh 75 = hc ∧ w 6 = iI hc) ∧ (sh 76 = tc ∧ w 13 = iI tc) ∧ (sh 77 = lc ∧ w 54 = iI lc) ∧ (∀ g : Nat, 4 * g + 4 ≤ l → ValU (tL sh g 1) (tL sh g 2) (tL sh g 3))
def QS (σ π : St) (n : Nat) (b : Nat → Int) (a H t l hc tc lc : Nat) (τ ρ : St) : Prop := ∃ (p : Nat) (sh : Nat → Int), p ≤ n ∧ CS τ σ p sh ∧ RS ρ π n b p ∧ FR (ρ 32) sh (dD a H t l) ∧ CN (ρ 32) sh l hc tc lc
theorem q_byte (hX : Ctx σ π n b) {a H t l hc tc lc : Nat} (h : QS σ π n b a H t l hc tc lc τ ρ) {c : Int} (hc' : isL c = true) : Lk σ π (f_X5_readByte τ (iI c)) (f_X11_reads ρ (iI c)) (QS σ π n b a H t l hc tc lc) := by
  obtain ⟨p, sh, h1, h2, h3, h4, h5⟩ := h
  obtain ⟨τ', ρ', y, x | x⟩ := ls_byte hX.1 hX.2.1 hX.2.2 h1 h2 h3 hc'
  · obtain ⟨x1, x2, x3, x4, x5⟩ := x
    exact ⟨τ', ρ', y, Or.inl ⟨x1, p + 1, sh, x2, x3, x4, by rw [x5]; exact h4, by rw [x5]; exact h5⟩⟩
  · exact ⟨τ', ρ', y, Or.inr x⟩
theorem rel_u {j1 j2 A : Nat} (h1 : rel j1 A) (h2 : rel j2 A) : j1 = j2 := by unfold rel at h1 h2; omega
theorem rel_c {j A : Nat} (h : rel j A) : A < 79 ∧ A ≠ 6 ∧ A ≠ 13 ∧ A ≠ 54 ∧ j < 75 := by unfold rel at h; omega
theorem CS_put {p : Nat} (h : CS τ σ p sh) (j : Nat) (v : Int) : CS (g_u2 τ 17 j (iI v)) σ p (fu sh j v) := by
  refine ⟨fun k k1 k2 => by rw [g_u2_n1 k2]; exact h.1 k k1 k2, by rw [g_u2_n1 (by decide)]; exact h.2.1, fun i hi => ?_⟩
  by_cases e : i = j
  · rw [e, g_u2_e, fu_e]
  · rw [g_u2_n2 e, fu_n e]; exact h.2.2 i hi
/-- a number has been read, and is to be put into a cell of the class -/
def NS (σ π : St) (n : Nat) (b : Nat → Int) (a H t l hc tc lc A : Nat) (lo hi : Int) (τ ρ : St) : Prop := ∃ (v : Int) (p : Nat) (sh : Nat → Int), (lo ≤ v ∧ v ≤ hi) ∧ τ 3 5 = iI v ∧ p ≤ n ∧ CS τ σ p sh ∧ RS ρ π n b p ∧ ρ 32 A = iI v ∧ (∀ jc A', rel jc A' → dD a H t l jc → A' ≠ A → ρ 32 A' = iI (sh jc) ∧ okc jc (sh jc)) ∧ CN (ρ 32) sh l hc tc lc
theorem q_num (hX : Ctx σ π n b) {a H t l hc tc lc : Nat} (h : QS σ π n b a H t l hc tc lc τ ρ) {lo hi : Int} (hlo : 0 ≤ lo ∧ lo ≤ 100) (hhi : 0 ≤ hi ∧ hi ≤ 100) {jc A : Nat} (hr : rel jc A) : Lk σ π (f_X5_readNumber τ (iI lo) (iI hi)) (f_X11_number ρ (iI A) (iI lo) (iI hi)) (NS σ π n b a H t l hc tc lc A lo hi) := by
  obtain ⟨p, sh, h1, h2, h3, h4, h5⟩ := h
  obtain ⟨r1, r2, r3, r4, r5⟩ := rel_c hr
  obtain ⟨τ', ρ', y, x | x⟩ := ls_num hX.1 hX.2.1 hX.2.2 h1 h2 h3 hlo hhi r1
  · obtain ⟨x0, v, p', x1, x2, x3, x4, x5, x6, x7⟩ := x
    refine ⟨τ', ρ', y, Or.inl ⟨x0, v, p', sh, x1, x2, x3, x4, x5, x6, fun jc2 A2 g1 g2 g3 => ?_, ?_⟩⟩
    · rw [x7 A2 g3]; exact h4 jc2 A2 g1 g2
    · unfold CN
      rw [x7 6 (fun h => r2 h.symm), x7 13 (fun h => r3 h.symm), x7 54 (fun h => r4 h.symm)]
      exact h5
  · exact ⟨τ', ρ', y, Or.inr x⟩
/-- it is put -/
theorem NS_put {a H t l hc tc lc A a' H' t' : Nat} {lo hi : Int} (h : NS σ π n b a H t l hc tc lc A lo hi τ ρ) {jc : Nat} (hr : rel jc A) (hok : ∀ v, lo ≤ v → v ≤ hi → okc jc v) (hD : ∀ j, dD a' H' t' l j → dD a H t l j ∨ j = jc) (hl : jc < 51 ∨ 51 + l ≤ jc) : QS σ π n b a' H' t' l hc tc lc (g_u2 τ 17 jc (τ 3 5)) ρ := by
  obtain ⟨v, p, sh, h1, h2, h3, h4, h5, h6, h7, h8⟩ := h
  obtain ⟨r1, r2, r3, r4, r5⟩ := rel_c hr
  rw [h2]
  refine ⟨p, fu sh jc v, h3, CS_put h4 jc v, h5, fun j2 A2 g1 g2 => ?_, ?_⟩
  · by_cases e : j2 = jc
    · rw [e, fu_e]
      rw [e] at g1
      have : A2 = A := by unfold rel at g1 hr; omega
      rw [this]
      exact ⟨h6, hok v h1.1 h1.2⟩
    · rw [fu_n e]
      have nA : A2 ≠ A := fun h => e (rel_u (h ▸ g1) hr)
      exact h7 j2 A2 g1 ((hD j2 g2).resolve_right e) nA
  · unfold CN at *
    rw [fu_n (by omega), fu_n (by omega), fu_n (by omega)]
    refine ⟨h8.1, h8.2.1, h8.2.2.1, fun g hg => ?_⟩
    have := h8.2.2.2 g hg
    unfold tL at *
    rw [fu_n (by omega), fu_n (by omega), fu_n (by omega)]
    exact this
theorem d_putShip (R : RC (τ 17) sh) {w : Nat} (h4 : w < 5) (v : Int32) : f_X6_putShipCell 17 τ (iI w) v = some (iI (sh w), g_u2 τ 17 w v) := by
  unfold f_X6_putShipCell f_X6_putShipCell_p22
  rw [e_shipCell R (by omega) (by omega), obs]
  simp (disch := omega) only [obs, iI_lit, iI_add, iI_sub, iI_mul, iI_neg, iI_lt, iI_le, iI_eq, iI_divp, iI_toInt, iI_clamp, bI_0, bI_1, b_tf, Int.toNat_natCast, Int.reduceToNat, Int.toNat_zero, Int.toNat_one, modf, if_pos, if_neg, reduceIte, reduceCtorEq]
theorem d_putHeight (R : RC (τ 17) sh) {w : Nat} (h4 : w < 6) (v : Int32) : f_X6_putHeightCell 17 τ (iI w) v = some (iI (sh (5 + w)), g_u2 τ 17 (5 + w) v) := by
  unfold f_X6_putHeightCell f_X6_putHeightCell_p25
  rw [e_heightCell R (by omega) (by omega), obs]
  simp (disch := omega) only [obs, iI_lit, iI_add, iI_sub, iI_mul, iI_neg, iI_lt, iI_le, iI_eq, iI_divp, iI_toInt, iI_clamp, bI_0, bI_1, b_tf, Int.toNat_natCast, Int.reduceToNat, Int.toNat_zero, Int.toNat_one, modf, if_pos, if_neg, reduceIte, reduceCtorEq]
  rw [show (5 + (w : Int)).toNat = 5 + w by omega]
theorem d_putThing (R : RC (τ 17) sh) {k w : Nat} (h2 : k < 8) (h4 : w < 5) (v : Int32) : f_X6_putThingCell 17 τ (iI k) (iI w) v = some (iI (sh (11 + 5 * k + w)), g_u2 τ 17 (11 + 5 * k + w) v) := by
  unfold f_X6_putThingCell f_X6_putThingCell_p41
  rw [e_thingCell R (by omega) (by omega) (by omega) (by omega), obs]
  simp (disch := omega) only [obs, iI_lit, iI_add, iI_sub, iI_mul, iI_neg, iI_lt, iI_le, iI_eq, iI_divp, iI_toInt, iI_clamp, bI_0, bI_1, b_tf, Int.toNat_natCast, Int.reduceToNat, Int.toNat_zero, Int.toNat_one, modf, if_pos, if_neg, reduceIte, reduceCtorEq]
  rw [show (11 + (k : Int) * 5 + w).toNat = 11 + 5 * k + w by omega]
  rfl
theorem d_putLeg (R : RC (τ 17) sh) {k w : Nat} (h2 : k < 6) (h4 : w < 4) (v : Int32) : f_X6_putLegCell 17 τ (iI k) (iI w) v = some (iI (sh (51 + 4 * k + w)), g_u2 τ 17 (51 + 4 * k + w) v) := by
  unfold f_X6_putLegCell f_X6_putLegCell_p41
  rw [e_legCell R (by omega) (by omega) (by omega) (by omega), obs]
  simp (disch := omega) only [obs, iI_lit, iI_add, iI_sub, iI_mul, iI_neg, iI_lt, iI_le, iI_eq, iI_divp, iI_toInt, iI_clamp, bI_0, bI_1, b_tf, Int.toNat_natCast, Int.reduceToNat, Int.toNat_zero, Int.toNat_one, modf, if_pos, if_neg, reduceIte, reduceCtorEq]
  rw [show (51 + (k : Int) * 4 + w).toNat = 51 + 4 * k + w by omega]
  rfl
/-- a cell of the ship -/
theorem q_ship (hX : Ctx σ π n b) {a H t l hc tc lc : Nat} (ha : a < 5) (h : QS σ π n b a H t l hc tc lc τ ρ) {hi : Int} (hh : hi = if a = 0 then 20 else 60) : Lk σ π (f_X5_readShipCell τ (iI a) (iI hi)) (f_X11_number ρ (iI ((a + 1 : Nat) : Int)) (iI 0) (iI hi)) (QS σ π n b (a + 1) H t l hc tc lc) := by
  have hr : rel a (a + 1) := by unfold rel; omega
  have hb : 0 ≤ hi ∧ hi ≤ 100 := by rw [hh]; split <;> omega
  obtain ⟨τ', ρ', y, x | x⟩ := q_num hX h (lo := 0) (by omega) hb hr
  · obtain ⟨x1, x2⟩ := x
    have R : ∃ sh, RC (τ' 17) sh := by obtain ⟨v, p, sh, -, -, -, h4, -⟩ := x2; exact ⟨sh, h4.2.2⟩
    obtain ⟨sh, R⟩ := R
    refine ⟨_, ρ', y, Or.inl ⟨?_, NS_put x2 hr (fun v h1 h2 => Or.inl ?_) (fun j hj => ?_) (by omega)⟩⟩
    · unfold f_X5_readShipCell
      rw [J0, x1, obs]
      refine (if_neg (show ¬ iI 1 = iI 0 by decide)).trans ?_
      dsimp only
      rw [d_putShip R ha, obs]
      rfl
    · unfold okv
      by_cases e : a = 0
      · rw [if_pos e] at hh; omega
      · rw [if_neg e] at hh; omega
    · unfold dD at *; omega
  · obtain ⟨x1, x2⟩ := x
    refine ⟨τ', ρ', y, Or.inr ⟨?_, x2⟩⟩
    unfold f_X5_readShipCell
    rw [J0, x1, obs]
    exact if_pos (show iI 0 = iI 0 from rfl)
theorem l_ship (hX : Ctx σ π n b) {H t l hc tc lc : Nat} (h : QS σ π n b 0 H t l hc tc lc τ ρ) : Lk σ π (f_X5_readShip τ) (f_X11_readsShip ρ) (QS σ π n b 3 H t l hc tc lc) := by
  unfold f_X5_readShip f_X11_readsShip
  refine Lk_seq (q_byte hX h (c := 104) (by decide)) (fun τ1 ρ1 h1 => ?_) (BOk_bind (BOk_num (fun _ => 1) 0 20) (BOk_bind (BOk_reads 44) (BOk_bind (BOk_num (fun _ => 2) 0 60) (BOk_bind (BOk_reads 44) (BOk_bind (BOk_num (fun _ => 3) 0 60) (BOk_bind (BOk_reads 59) BOk_some))))))
  refine Lk_seq (q_ship hX (by omega) h1 (hi := 20) rfl) (fun τ2 ρ2 h2 => ?_) (BOk_bind (BOk_reads 44) (BOk_bind (BOk_num (fun _ => 2) 0 60) (BOk_bind (BOk_reads 44) (BOk_bind (BOk_num (fun _ => 3) 0 60) (BOk_bind (BOk_reads 59) BOk_some)))))
  refine Lk_seq (q_byte hX h2 (c := 44) (by decide)) (fun τ3 ρ3 h3 => ?_) (BOk_bind (BOk_num (fun _ => 2) 0 60) (BOk_bind (BOk_reads 44) (BOk_bind (BOk_num (fun _ => 3) 0 60) (BOk_bind (BOk_reads 59) BOk_some))))
  refine Lk_seq (q_ship hX (by omega) h3 (hi := 60) rfl) (fun τ4 ρ4 h4 => ?_) (BOk_bind (BOk_reads 44) (BOk_bind (BOk_num (fun _ => 3) 0 60) (BOk_bind (BOk_reads 59) BOk_some)))
  refine Lk_seq (q_byte hX h4 (c := 44) (by decide)) (fun τ5 ρ5 h5 => ?_) (BOk_bind (BOk_num (fun _ => 3) 0 60) (BOk_bind (BOk_reads 59) BOk_some))
  refine Lk_seq (q_ship hX (by omega) h5 (hi := 60) rfl) (fun τ6 ρ6 h6 => ?_) (BOk_bind (BOk_reads 59) BOk_some)
  exact Lk_end1 (q_byte hX h6 (c := 59) (by decide)) (fun τ7 ρ7 h7 => ⟨ρ7, rfl, h7⟩) BOk_some
end PQ
