section PU
variable {σ π τ ρ ρ1 : St} {sh : Nat → Int} {n : Nat} {b : Nat → Int}
def mst (i : Nat) : Int := if i = 2 then 15 else if i = 3 then 20 else 60
theorem e_most {i : Nat} (hi : i < 4) : f_X6_measureMost τ (iI i) = some (iI (mst i), τ) := by
  have : i = 0 ∨ i = 1 ∨ i = 2 ∨ i = 3 := by omega
  rcases this with h | h | h | h <;> subst h <;> rfl
/-- a measure of a thing -/
theorem me_step (hX : Ctx σ π n b) {H hc k i : Nat} (hk : k < 8) (hi : i < 4) (h : QS σ π n b 5 H (5 * k + 1 + i) 0 hc k 0 τ ρ) {K : St → Int32 → Int32 → Option (Int32 × St)} {B : St → Option St} {Q : St → St → Prop} (h2 : ∀ τ' ρ', QS σ π n b 5 H (5 * k + 2 + i) 0 hc k 0 τ' ρ' → Lk σ π (K τ' (iI k) (iI ((i + 1 : Nat) : Int))) (B ρ') Q) (hB : BOk σ π B) : Lk σ π (f_X5_readMeasures_p22 K τ (iI k) (iI i)) (Option.bind (f_X11_number ρ (iI ((15 + 5 * k + i : Nat) : Int)) 0 (iI (mst i))) B) Q := by
  have mb : (mst i = 60 ∧ i < 2) ∨ (mst i = 15 ∧ i = 2) ∨ (mst i = 20 ∧ i = 3) := by
    have : i = 0 ∨ i = 1 ∨ i = 2 ∨ i = 3 := by omega
    rcases this with h | h | h | h <;> subst h <;> decide
  unfold f_X5_readMeasures_p22
  rw [e_most hi, obs]
  dsimp only
  have hr : rel (11 + 5 * k + (1 + i)) (15 + 5 * k + i) := by unfold rel; omega
  refine Lk_seq (q_num hX h (lo := 0) (hi := mst i) (by omega) (by omega) hr) (fun τ1 ρ1 hn => ?_) hB
  have hput := NS_put (a' := 5) (H' := H) (t' := 5 * k + 2 + i) hn hr (fun v h1 h2 => Or.inl (by unfold okv; omega)) (fun j hj => by unfold dD at *; omega) (by omega)
  have R1 : ∃ sh, RC (τ1 17) sh := by obtain ⟨v, p, sh, -, -, -, g4, -⟩ := hn; exact ⟨sh, g4.2.2⟩
  obtain ⟨sh1, R1⟩ := R1
  dsimp only
  rw [show (1 : Int32) + iI (i : Int) = iI ((1 + i : Nat) : Int) by rw [show (1 : Int32) = iI 1 by decide, iI_add]; rfl, d_putThing R1 hk (by omega), obs, obs, show iI (i : Int) + 1 = iI ((i + 1 : Nat) : Int) by rw [show (1 : Int32) = iI 1 by decide, iI_add]; rfl]
  exact h2 _ _ hput
theorem me_F (K : St → Int32 → Int32 → Option (Int32 × St)) {i : Nat} (hi : 1 ≤ i ∧ i < 4) (k : Int32) : F_X5_readMeasures_h2 K τ k (iI i) = Option.bind (f_X5_readByte τ 44) fun q32 => if q32.1 = 0 then some (0, q32.2) else f_X5_readMeasures_p22 K q32.2 k (iI i) := by
  unfold F_X5_readMeasures_h2
  rw [show (4 : Int32) = iI 4 by decide, if_neg (fun h => absurd ((iI_le (by omega) (by omega) (by omega) (by omega)).mp h) (by omega)), show (if iI (i : Int) ≤ 0 then f_X5_readMeasures_p22 K τ k (iI i) else (Option.bind (f_X5_readByte τ 44) fun q32 => if q32.1 = 0 then some (0, q32.2) else f_X5_readMeasures_p22 K q32.2 k (iI i))) = _ from if_neg (by rw [J0, iI_le (by omega) (by omega) (by omega) (by omega)]; omega)]
theorem l_measures (hX : Ctx σ π n b) {H hc k : Nat} (hk : k < 8) (h : QS σ π n b 5 H (5 * k + 1) 0 hc k 0 τ ρ) : Lk σ π (f_X5_readMeasures τ (iI k)) (Option.bind (f_X11_number ρ (iI ((14 + 5 * k : Nat) : Int) + 1) 0 60) fun q46 => Option.bind (f_X11_reads q46 44) fun q48 => Option.bind (f_X11_number q48 (iI ((14 + 5 * k : Nat) : Int) + 2) 0 60) fun q50 => Option.bind (f_X11_reads q50 44) fun q52 => Option.bind (f_X11_number q52 (iI ((14 + 5 * k : Nat) : Int) + 3) 0 15) fun q54 => Option.bind (f_X11_reads q54 44) fun q56 => Option.bind (f_X11_number q56 (iI ((14 + 5 * k : Nat) : Int) + 4) 0 20) fun q58 => Option.bind (f_X11_reads q58 59) fun q60 => Option.bind (some (g_u2 q60 32 13 ((q60 32 13) + 1))) fun σ62 => some σ62) (fun τ' ρ' => QS σ π n b 5 H (5 * (k + 1)) 0 hc (k + 1) 0 (g_u2 τ' 17 76 (iI ((k + 1 : Nat) : Int))) ρ') := by
  have ix : ∀ j : Nat, j ≤ 4 → 1 ≤ j → iI ((14 + 5 * k : Nat) : Int) + iI j = iI ((15 + 5 * k + (j - 1) : Nat) : Int) := fun j hj h1 => by rw [iI_add]; congr 1; omega
  have i1 := ix 1 (by omega) (by omega)
  have i2 := ix 2 (by omega) (by omega)
  have i3 := ix 3 (by omega) (by omega)
  have i4 := ix 4 (by omega) (by omega)
  rw [show iI ((1 : Nat) : Int) = 1 by decide] at i1
  rw [show iI ((2 : Nat) : Int) = 2 by decide] at i2
  rw [show iI ((3 : Nat) : Int) = 3 by decide] at i3
  rw [show iI ((4 : Nat) : Int) = 4 by decide] at i4
  rw [i1, i2, i3, i4]
  have b4 : BOk σ π (fun q58 => Option.bind (f_X11_reads q58 59) fun q60 => Option.bind (some (g_u2 q60 32 13 ((q60 32 13) + 1))) fun σ62 => some σ62) := BOk_bind (BOk_reads 59) (BOk_32 13 (fun q => q 32 13 + 1) BOk_some)
  have b3 := BOk_bind (BOk_reads (σ := σ) (π := π) 44) (BOk_bind (BOk_num (fun _ => iI ((15 + 5 * k + (4 - 1) : Nat) : Int)) 0 20) b4)
  have b2 := BOk_bind (BOk_reads (σ := σ) (π := π) 44) (BOk_bind (BOk_num (fun _ => iI ((15 + 5 * k + (3 - 1) : Nat) : Int)) 0 15) b3)
  have b1 := BOk_bind (BOk_reads (σ := σ) (π := π) 44) (BOk_bind (BOk_num (fun _ => iI ((15 + 5 * k + (2 - 1) : Nat) : Int)) 0 60) b2)
  unfold f_X5_readMeasures
  obtain ⟨f, hf⟩ : ∃ f, FU = f + 5 := ⟨FU - 5, by rw [FU_val]⟩
  rw [hf, fx_s]
  have f0 : ∀ K : St → Int32 → Int32 → Option (Int32 × St), F_X5_readMeasures_h2 K τ (iI k) 0 = f_X5_readMeasures_p22 K τ (iI k) (iI ((0 : Nat) : Int)) := fun K => (if_neg (by decide)).trans (if_pos (by decide))
  rw [f0]
  refine me_step hX hk (i := 0) (by omega) h (fun τ1 ρ1 h1 => ?_) b1
  rw [fx_s, me_F _ (i := 0 + 1) (by omega)]
  refine Lk_seq (q_byte hX h1 (c := 44) (by decide)) (fun τ2 ρ2 h2 => ?_) (BOk_bind (BOk_num (fun _ => iI ((15 + 5 * k + (2 - 1) : Nat) : Int)) 0 60) b2)
  refine me_step hX hk (i := 1) (by omega) h2 (fun τ3 ρ3 h3 => ?_) b2
  rw [fx_s, me_F _ (i := 1 + 1) (by omega)]
  refine Lk_seq (q_byte hX h3 (c := 44) (by decide)) (fun τ4 ρ4 h4 => ?_) (BOk_bind (BOk_num (fun _ => iI ((15 + 5 * k + (3 - 1) : Nat) : Int)) 0 15) b3)
  refine me_step hX hk (i := 2) (by omega) h4 (fun τ5 ρ5 h5 => ?_) b3
  rw [fx_s, me_F _ (i := 2 + 1) (by omega)]
  refine Lk_seq (q_byte hX h5 (c := 44) (by decide)) (fun τ6 ρ6 h6 => ?_) (BOk_bind (BOk_num (fun _ => iI ((15 + 5 * k + (4 - 1) : Nat) : Int)) 0 20) b4)
  refine me_step hX hk (i := 3) (by omega) h6 (fun τ7 ρ7 h7 => ?_) b4
  rw [fx_s]
  have f4 : ∀ K : St → Int32 → Int32 → Option (Int32 × St), F_X5_readMeasures_h2 K τ7 (iI k) (iI ((3 + 1 : Nat) : Int)) = Option.bind (f_X5_readByte τ7 59) fun q28 => if q28.1 = 0 ∨ q28.1 = 1 then some (q28.1, q28.2) else none := fun K => if_pos (by decide)
  rw [f4]
  refine Lk_end2 (q_byte hX h7 (c := 59) (by decide)) (fun τ8 ρ8 h8 => ⟨g_u2 ρ8 32 13 (ρ8 32 13 + 1), rfl, ?_⟩) (BOk_32 13 (fun q => q 32 13 + 1) BOk_some)
  rw [(QS_6 h8).2.1, show iI (k : Int) + 1 = iI ((k + 1 : Nat) : Int) by rw [show (1 : Int32) = iI 1 by decide, iI_add]; rfl]
  exact QS_cnt (hc' := hc) (tc' := k + 1) (lc' := 0) (m := k + 1) h8 (Or.inr (Or.inl ⟨rfl, rfl, rfl, rfl, rfl⟩)) (by omega)
end PU
