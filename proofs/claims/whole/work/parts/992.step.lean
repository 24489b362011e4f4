section PS
variable {σ π τ ρ ρ1 : St} {sh : Nat → Int} {n : Nat} {b : Nat → Int} {w : Nat → Int32}
theorem g_u2_self (ρ : St) (k j : Nat) : g_u2 ρ k j (ρ k j) = ρ := by
  funext c i
  by_cases e : c = k
  · subst e
    by_cases e2 : i = j
    · subst e2; rw [g_u2_e]
    · rw [g_u2_n2 e2]
  · rw [g_u2_n1 e]
/-- the class's reader at a place -/
def CS (τ σ : St) (p : Nat) (sh : Nat → Int) : Prop := (∀ k, k ≠ 3 → k ≠ 17 → τ k = σ k) ∧ τ 3 4 = iI p ∧ RC (τ 17) sh
/-- the reference's reader at a token, well -/
def RS (ρ π : St) (n : Nat) (b : Nat → Int) (p : Nat) : Prop := (∀ k, k ≠ 26 → k ≠ 32 → ρ k = π k) ∧ (∀ j, (j < 9 ∨ 12 < j) → ρ 26 j = π 26 j) ∧ ρ 26 12 = iI 0 ∧ ρ 26 10 = iI p ∧ ρ 26 11 = iI (tk n b p) ∧ (tk n b p ≠ 0 → ρ 26 9 = iI ((p + tl n b p : Nat) : Int))
/-- both with a fault -/
def CB (τ σ : St) (k : Int) (q : Nat) : Prop := (∀ k, k ≠ 3 → k ≠ 17 → τ k = σ k) ∧ τ 3 1 = iI k ∧ τ 3 2 = iI q
def RB (ρ π : St) (k : Int) (q : Nat) : Prop := (∀ k, k ≠ 26 → k ≠ 32 → ρ k = π k) ∧ (∀ j, (j < 9 ∨ 12 < j) → ρ 26 j = π 26 j) ∧ ρ 26 12 = iI k ∧ ρ 26 10 = iI q
def Bad (σ π τ ρ : St) : Prop := ∃ (k : Int) (q : Nat), (1 ≤ k ∧ k ≤ 3) ∧ q ≤ 160 ∧ CB τ σ k q ∧ RB ρ π k q
/-- the two sides one step on: well both, or with a fault both -/
def Lk (σ π : St) (x : Option (Int32 × St)) (y : Option St) (Q : St → St → Prop) : Prop := ∃ τ ρ, y = some ρ ∧ ((x = some (iI 1, τ) ∧ Q τ ρ) ∨ (x = some (iI 0, τ) ∧ Bad σ π τ ρ))
/-- a step of the reference that does nothing when there is a fault -/
def BOk (σ π : St) (B : St → Option St) : Prop := ∀ τ ρ, Bad σ π τ ρ → ∃ ρ', B ρ = some ρ' ∧ Bad σ π τ ρ'
theorem Lk_seq {x : Option (Int32 × St)} {y : Option St} {Q Q2 : St → St → Prop} {A2 : Int32 × St → Option (Int32 × St)} {B2 : St → Option St} (h : Lk σ π x y Q) (h2 : ∀ τ ρ, Q τ ρ → Lk σ π (A2 (iI 1, τ)) (B2 ρ) Q2) (hB : BOk σ π B2) : Lk σ π (Option.bind x fun q => if q.1 = 0 then some (0, q.2) else A2 q) (Option.bind y B2) Q2 := by
  obtain ⟨τ, ρ, hy, h | h⟩ := h
  · rw [hy, h.1, obs, obs]
    have e : (if (iI 1, τ).1 = 0 then some ((0 : Int32), (iI 1, τ).2) else A2 (iI 1, τ)) = A2 (iI 1, τ) := if_neg (show ¬ iI 1 = 0 by decide)
    rw [e]
    exact h2 τ ρ h.2
  · rw [hy, h.1, obs, obs]
    have e : (if (iI 0, τ).1 = 0 then some ((0 : Int32), (iI 0, τ).2) else A2 (iI 0, τ)) = some (0, τ) := if_pos (show iI 0 = 0 by decide)
    rw [e]
    obtain ⟨ρ', r1, r2⟩ := hB τ ρ h.2
    exact ⟨τ, ρ', r1, Or.inr ⟨rfl, r2⟩⟩
/-- the last step -/
theorem Lk_end1 {x : Option (Int32 × St)} {y : Option St} {Q Q2 : St → St → Prop} {B2 : St → Option St} (h : Lk σ π x y Q) (h2 : ∀ τ ρ, Q τ ρ → ∃ ρ', B2 ρ = some ρ' ∧ Q2 τ ρ') (hB : BOk σ π B2) : Lk σ π (Option.bind x fun q => if q.1 = 0 then some (0, q.2) else some (1, q.2)) (Option.bind y B2) Q2 := by
  refine Lk_seq (A2 := fun q => some (1, q.2)) h (fun τ ρ hq => ?_) hB
  obtain ⟨ρ', r1, r2⟩ := h2 τ ρ hq
  exact ⟨τ, ρ', r1, Or.inl ⟨rfl, r2⟩⟩
theorem Lk_end2 {x : Option (Int32 × St)} {y : Option St} {Q Q2 : St → St → Prop} {B2 : St → Option St} (h : Lk σ π x y Q) (h2 : ∀ τ ρ, Q τ ρ → ∃ ρ', B2 ρ = some ρ' ∧ Q2 τ ρ') (hB : BOk σ π B2) : Lk σ π (Option.bind x fun q => if q.1 = 0 ∨ q.1 = 1 then some (q.1, q.2) else none) (Option.bind y B2) Q2 := by
  obtain ⟨τ, ρ, hy, h | h⟩ := h
  · obtain ⟨ρ', r1, r2⟩ := h2 τ ρ h.2
    rw [hy, h.1, obs, obs]
    exact ⟨τ, ρ', r1, Or.inl ⟨if_pos (show iI 1 = 0 ∨ iI 1 = 1 by decide), r2⟩⟩
  · obtain ⟨ρ', r1, r2⟩ := hB τ ρ h.2
    rw [hy, h.1, obs, obs]
    exact ⟨τ, ρ', r1, Or.inr ⟨if_pos (show iI 0 = 0 ∨ iI 0 = 1 by decide), r2⟩⟩
theorem BOk_some : BOk σ π (fun ρ => some ρ) := fun _ ρ h => ⟨ρ, rfl, h⟩
theorem BOk_bind {B C : St → Option St} (h1 : BOk σ π B) (h2 : BOk σ π C) : BOk σ π (fun ρ => Option.bind (B ρ) C) := by
  intro τ ρ h
  obtain ⟨ρ1, r1, r2⟩ := h1 τ ρ h
  obtain ⟨ρ2, s1, s2⟩ := h2 τ ρ1 r2
  exact ⟨ρ2, by show Option.bind (B ρ) C = _; rw [r1, obs, s1], s2⟩
theorem Bad_32 {τ ρ : St} (h : Bad σ π τ ρ) (i : Nat) (v : Int32) : Bad σ π τ (g_u2 ρ 32 i v) := by
  obtain ⟨k, q, h1, h2, h3, h4, h5, h6, h7⟩ := h
  refine ⟨k, q, h1, h2, h3, fun c c1 c2 => by rw [g_u2_n1 c2]; exact h4 c c1 c2, fun j hj => by rw [g_u2_n1 (by decide)]; exact h5 j hj, by rw [g_u2_n1 (by decide)]; exact h6, by rw [g_u2_n1 (by decide)]; exact h7⟩
theorem BOk_32 (i : Nat) (f : St → Int32) {C : St → Option St} (h : BOk σ π C) : BOk σ π (fun ρ => Option.bind (some (g_u2 ρ 32 i (f ρ))) C) := fun τ ρ hb => by
  obtain ⟨ρ', r1, r2⟩ := h τ _ (Bad_32 hb i (f ρ))
  exact ⟨ρ', by show Option.bind (some (g_u2 ρ 32 i (f ρ))) C = _; rw [obs, r1], r2⟩
theorem bad_n {τ ρ : St} (h : Bad σ π τ ρ) : ¬ ρ 26 12 = 0 := by
  obtain ⟨k, q, h1, h2, h3, h4, h5, h6, h7⟩ := h
  rw [h6, J0, iI_eq (by omega) (by omega) (by omega) (by omega)]
  omega
theorem bad_well {τ ρ : St} (h : Bad σ π τ ρ) : f_X11_isWell ρ = some (iI 0, ρ) := if_neg (bad_n h)
theorem BOk_reads (c : Int32) : BOk σ π (fun ρ => f_X11_reads ρ c) := by
  intro τ ρ h
  refine ⟨ρ, ?_, h⟩
  show f_X11_reads ρ c = some ρ
  unfold f_X11_reads f_X11_reads_p25
  rw [bad_well h, obs]
  refine (if_pos (show iI 0 = 0 by decide)).trans ?_
  dsimp only
  rw [bad_well h, obs]
  exact if_pos (show iI 0 = 0 by decide)
theorem num_bad {τ ρ : St} (h : Bad σ π τ ρ) (a c d : Int32) : f_X11_number ρ a c d = some ρ := by
  unfold f_X11_number f_X11_number_p48
  rw [bad_well h, obs]
  refine (if_pos (show iI 0 = 0 by decide)).trans ?_
  dsimp only
  rw [bad_well h, obs]
  exact if_pos (show iI 0 = 0 by decide)
theorem BOk_num (a : St → Int32) (c d : Int32) : BOk σ π (fun ρ => f_X11_number ρ (a ρ) c d) := fun τ ρ h => ⟨ρ, num_bad h _ _ _, h⟩
theorem RS_well {p : Nat} (h : RS ρ π n b p) : f_X11_isWell ρ = some (iI 1, ρ) := by
  unfold f_X11_isWell
  rw [h.2.2.1]
  exact if_pos (by decide)
theorem wants_t {p : Nat} (h : RS ρ π n b p) {t : Int32} (ht : ¬ t = 0) (k : Int32) : f_X11_wants ρ t k = some ρ := by
  unfold f_X11_wants f_X11_wants_p16 f_X11_wants_p20
  rw [if_pos (show ρ 26 12 = 0 by rw [h.2.2.1]; decide), if_neg ht, obs, g_u2_self]
theorem wants_f {p : Nat} (h : RS ρ π n b p) (k : Int32) : f_X11_wants ρ 0 k = some (g_u2 ρ 26 12 k) := by
  unfold f_X11_wants f_X11_wants_p20
  rw [if_pos (show ρ 26 12 = 0 by rw [h.2.2.1]; decide), if_pos rfl, obs]
theorem wants_b (h : ¬ ρ 26 12 = 0) (t k : Int32) : f_X11_wants ρ t k = some ρ := by
  unfold f_X11_wants f_X11_wants_p16 f_X11_wants_p20
  rw [if_neg h, obs, g_u2_self]
theorem RS_bad {p : Nat} (h : RS ρ π n b p) (k : Int) : RB (g_u2 ρ 26 12 (iI k)) π k p := by
  obtain ⟨h1, h2, h3, h4, h5, h6⟩ := h
  refine ⟨fun c c1 c2 => by rw [g_u2_n1 c1]; exact h1 c c1 c2, fun j hj => by rw [g_u2_n2 (by omega)]; exact h2 j hj, g_u2_e _ _ _ _, by rw [g_u2_n2 (by decide)]; exact h4⟩
/-- the next token -/
theorem RS_take (T : Tr π n b) (h4 : π 26 4 = iI n) {p : Nat} (hp : p ≤ n) (h : RS ρ π n b p) (hk : tk n b p ≠ 0) {ρ0 : St} (e0 : ∀ k, k ≠ 32 → ρ0 k = ρ k) : ∃ ρ', f_X11_take ρ0 = some ρ' ∧ RS ρ' π n b (p + tl n b p) ∧ ρ' 32 = ρ0 32 := by
  obtain ⟨h1, h2, h3, h5, h6, h7⟩ := h
  have e26 := e0 26 (by decide)
  have T' : Tr ρ0 n b := ⟨T.1, fun j hj => by rw [e0 29 (by decide), h1 29 (by decide) (by decide)]; exact T.2 j hj⟩
  obtain ⟨ρ', r1, r2, r3, r4, r5⟩ := m_take T' (by rw [e26, h2 4 (by omega)]; exact h4) (tl_le hp) (by rw [e26]; exact h7 hk)
  refine ⟨ρ', r1, ⟨fun k k1 k2 => by rw [r2.1 k k1, e0 k k2]; exact h1 k k1 k2, fun j hj => by rw [r2.2 j (by omega), e26]; exact h2 j hj, by rw [r2.2 12 (by omega), e26]; exact h3, r3, r4, r5⟩, r2.1 32 (by decide)⟩
/-- a letter or sign -/
theorem ls_byte (Tσ : Tp σ n b) (T : Tr π n b) (h4 : π 26 4 = iI n) {p : Nat} (hp : p ≤ n) (hC : CS τ σ p sh) (hR : RS ρ π n b p) {c : Int} (hc : isL c = true) : Lk σ π (f_X5_readByte τ (iI c)) (f_X11_reads ρ (iI c)) (fun τ' ρ' => p + 1 ≤ n ∧ CS τ' σ (p + 1) sh ∧ RS ρ' π n b (p + 1) ∧ ρ' 32 = ρ 32) := by
  obtain ⟨c1, c2, c3⟩ := id hC
  have t1 := T.1
  have hc' : (97 ≤ c ∧ c ≤ 122) ∨ c = 44 ∨ c = 59 := of_decide_eq_true hc
  have Tτ : Tp τ n b := ⟨Tσ.1, by rw [c1 1 (by decide) (by decide)]; exact Tσ.2.1, fun j hj => by rw [c1 13 (by decide) (by decide)]; exact Tσ.2.2 j hj⟩
  obtain ⟨k1, k2⟩ := tk_bb Tσ.bytes hc p
  have kb := tk_b Tσ.bytes p
  have bbb : -1 ≤ bb n b p ∧ bb n b p ≤ 255 := by
    by_cases q : p < n
    · rw [bb_lt q]; have := Tσ.bytes p q; omega
    · rw [bb_ge q]; omega
  unfold f_X5_readByte f_X11_reads
  rw [c2, e_bb Tτ (by omega), obs, RS_well hR, obs]
  by_cases q : tk n b p = c
  · have l1 := k2 q
    obtain ⟨ρ', r1, r2, r3⟩ := RS_take T h4 hp hR (by omega) (fun _ _ => rfl)
    rw [l1] at r2
    have le := tl_le (n := n) (b := b) hp
    refine ⟨g_u2 τ 3 4 (iI ((p + 1 : Nat) : Int)), ρ', ?_, Or.inl ⟨?_, by omega, ⟨fun k k3 k4 => by rw [g_u2_n1 k3]; exact c1 k k3 k4, g_u2_e _ _ _ _, by rw [g_u2_n1 (by decide)]; exact c3⟩, r2, r3⟩⟩
    · rw [obs]
      refine (if_neg (show ¬ iI 1 = 0 by decide)).trans ?_
      refine (if_pos (show ρ 26 11 = iI c by rw [hR.2.2.2.2.1, q])).trans ?_
      unfold f_X11_reads_p21 f_X11_reads_p25
      dsimp only
      rw [wants_t hR (by decide), obs, RS_well hR, obs]
      refine (if_neg (show ¬ iI 1 = 0 by decide)).trans ?_
      dsimp only
      rw [r1, obs]
    · refine (if_pos (show iI (bb n b p) = iI c by rw [k1.mpr q])).trans ?_
      dsimp only
      rw [c2, show iI (p : Int) + 1 = iI ((p + 1 : Nat) : Int) by rw [show (1 : Int32) = iI 1 by decide, iI_add]; rfl]
      rfl
  · refine ⟨g_u2 (g_u2 τ 3 1 1) 3 2 (iI p), g_u2 ρ 26 12 1, ?_, Or.inr ⟨?_, 1, p, by omega, by omega, ⟨fun k k3 k4 => by rw [g_u2_n1 k3, g_u2_n1 k3]; exact c1 k k3 k4, by rw [g_u2_n2 (by decide), g_u2_e]; rfl, g_u2_e _ _ _ _⟩, RS_bad hR 1⟩⟩
    · rw [obs]
      refine (if_neg (show ¬ iI 1 = 0 by decide)).trans ?_
      refine (if_neg (show ¬ ρ 26 11 = iI c by rw [hR.2.2.2.2.1, iI_eq (by omega) (by omega) (by omega) (by omega)]; exact q)).trans ?_
      unfold f_X11_reads_p21 f_X11_reads_p25
      dsimp only
      rw [wants_f hR, obs]
      have wl : f_X11_isWell (g_u2 ρ 26 12 1) = some (iI 0, g_u2 ρ 26 12 1) := by
        unfold f_X11_isWell
        rw [g_u2_e]
        exact if_neg (by decide)
      rw [wl, obs]
      exact if_pos (show iI 0 = 0 by decide)
    · refine (if_neg (show ¬ iI (bb n b p) = iI c from fun h => q (k1.mp ((iI_eq (by omega) (by omega) (by omega) (by omega)).mp h)))).trans ?_
      unfold f_X5_faultHere
      dsimp only
      rw [obs, obs, obs, g_u2_n2 (by decide), c2]
      exact if_pos (Or.inl rfl)
/-- what the class's reading of a number comes to -/
theorem c_num (Tσ : Tp σ n b) {p : Nat} (hp : p ≤ n) (hC : CS τ σ p sh) (lo hi : Int32) : f_X5_readNumber τ lo hi = if tk n b p < 1000 then f_X5_readNumber_p68 τ else f_X5_readNumber_p59 τ lo hi (iI (tl n b p)) (iI (tk n b p - 1000)) := by
  obtain ⟨c1, c2, c3⟩ := id hC
  have t1 := Tσ.1
  have Tτ : Tp τ n b := ⟨Tσ.1, by rw [c1 1 (by decide) (by decide)]; exact Tσ.2.1, fun j hj => by rw [c1 13 (by decide) (by decide)]; exact Tσ.2.2 j hj⟩
  have step : ∀ (i : Nat) (K : St → Int32 → Int32 → Int32 → Int32 → Option (Int32 × St)) (x : Int32), i ≤ 2 → F_X5_readNumber_h5 K τ lo hi (iI i) x = if isF (bb n b (p + i)) = false then f_X5_readNumber_p59 τ lo hi (iI i) x else K τ lo hi (iI ((i + 1 : Nat) : Int)) (x * 10 + iI (bb n b (p + i)) - 48) := by
    intro i K x hi2
    have bbb : -1 ≤ bb n b (p + i) ∧ bb n b (p + i) ≤ 255 := by
      by_cases q : p + i < n
      · rw [bb_lt q]; have := Tσ.bytes (p + i) q; omega
      · rw [bb_ge q]; omega
    unfold F_X5_readNumber_h5
    rw [show (2 : Int32) = iI 2 by decide, if_neg (fun h => absurd ((iI_lt (by omega) (by omega) (by omega) (by omega)).mp h) (by omega)), c2, iI_add, show ((p : Int) + (i : Int)) = ((p + i : Nat) : Int) by omega, e_bb Tτ (by omega), obs]
    dsimp only
    rw [c_isFig (by omega) (by omega), obs]
    dsimp only
    rw [c2, iI_add, show ((p : Int) + (i : Int)) = ((p + i : Nat) : Int) by omega, e_bb Tτ (by omega), obs, obs, obs, show iI (i : Int) + 1 = iI ((i + 1 : Nat) : Int) by rw [show (1 : Int32) = iI 1 by decide, iI_add]; rfl]
    cases isF (bb n b (p + i))
    · exact (if_pos (show bI false = 0 by decide)).trans (if_pos rfl).symm
    · exact (if_neg (show ¬ bI true = 0 by decide)).trans (if_neg (show ¬ true = false by decide)).symm
  have z68 : ∀ (x : Int32), f_X5_readNumber_p59 τ lo hi (iI ((0 : Nat) : Int)) x = f_X5_readNumber_p68 τ := fun x => if_pos (by decide)
  have t68 : ∀ (x : Int32), f_X5_readNumber_p59 τ lo hi (iI ((3 : Nat) : Int)) x = f_X5_readNumber_p68 τ := fun x => (if_neg (by decide)).trans (if_neg (by decide))
  unfold f_X5_readNumber
  obtain ⟨f, hf⟩ : ∃ f, FU = f + 4 := ⟨FU - 4, by rw [FU_val]⟩
  rw [hf, fx_s, show (0 : Int32) = iI ((0 : Nat) : Int) by decide, step 0 _ _ (by omega), Nat.add_zero, z68]
  unfold tk tl
  cases f1 : isF (bb n b p)
  · rw [if_pos rfl]
    by_cases h : n ≤ p
    · rw [if_pos h, if_pos (by decide)]
    · have bp := Tσ.bytes p (by omega)
      rw [if_neg h, if_neg (show ¬ false = true by decide), if_pos]
      split <;> omega
  · have l1 := isF_lt f1
    have v1 := isF_t f1
    rw [bb_lt l1] at v1
    rw [if_neg (show ¬ true = false by decide), if_neg (show ¬ n ≤ p by omega), if_pos (show true = true from rfl), if_neg (show ¬ n ≤ p by omega), if_pos (show true = true from rfl), fx_s, step 1 _ _ (by omega)]
    have x1 : iI ((0 : Nat) : Int) * 10 + iI (bb n b p) - 48 = iI (b p - 48) := by
      rw [bb_lt l1, show (10 : Int32) = iI 10 by decide, show (48 : Int32) = iI 48 by decide, iI_mul, iI_add, iI_sub]
      congr 1
      omega
    rw [x1]
    cases f2 : isF (bb n b (p + 1))
    · rw [if_pos (show false = false from rfl), if_pos (show false = false from rfl), if_pos (show false = false from rfl), if_neg (by omega), show (1000 : Int) + (b p - 48) - 1000 = b p - 48 by omega]
    · have l2 := isF_lt f2
      have v2 := isF_t f2
      rw [bb_lt l2] at v2
      rw [if_neg (show ¬ true = false by decide), if_neg (show ¬ true = false by decide), if_neg (show ¬ true = false by decide), fx_s, step 2 _ _ (by omega)]
      have x2 : iI (b p - 48) * 10 + iI (bb n b (p + 1)) - 48 = iI (10 * (b p - 48) + (b (p + 1) - 48)) := by
        rw [bb_lt l2, show (10 : Int32) = iI 10 by decide, show (48 : Int32) = iI 48 by decide, iI_mul, iI_add, iI_sub]
        congr 1
        omega
      rw [x2]
      cases f3 : isF (bb n b (p + 2))
      · rw [if_pos (show false = false from rfl), if_pos (show false = false from rfl), if_neg (by omega), show (1000 : Int) + (10 * (b p - 48) + (b (p + 1) - 48)) - 1000 = 10 * (b p - 48) + (b (p + 1) - 48) by omega]
      · rw [if_neg (show ¬ true = false by decide), if_neg (show ¬ true = false by decide), if_pos (by decide), fx_s, ← t68]
        exact if_pos (show (2 : Int32) < iI ((3 : Nat) : Int) by decide)
/-- a number, in its range -/
theorem ls_num (Tσ : Tp σ n b) (T : Tr π n b) (h4 : π 26 4 = iI n) {p : Nat} (hp : p ≤ n) (hC : CS τ σ p sh) (hR : RS ρ π n b p) {lo hi : Int} (hlo : 0 ≤ lo ∧ lo ≤ 100) (hhi : 0 ≤ hi ∧ hi ≤ 100) {A : Nat} (hA : A < 79) : Lk σ π (f_X5_readNumber τ (iI lo) (iI hi)) (f_X11_number ρ (iI A) (iI lo) (iI hi)) (fun τ' ρ' => ∃ (v : Int) (p' : Nat), (lo ≤ v ∧ v ≤ hi) ∧ τ' 3 5 = iI v ∧ p' ≤ n ∧ CS τ' σ p' sh ∧ RS ρ' π n b p' ∧ ρ' 32 A = iI v ∧ (∀ i, i ≠ A → ρ' 32 i = ρ 32 i)) := by
  obtain ⟨c1, c2, c3⟩ := id hC
  have t1 := T.1
  have kb := tk_b Tσ.bytes p
  -- the class's fault
  have fh : ∀ k : Int, (1 ≤ k ∧ k ≤ 3) → CB (g_u2 (g_u2 τ 3 1 (iI k)) 3 2 (iI p)) σ k p := fun k _ => ⟨fun c d1 d2 => by rw [g_u2_n1 d1, g_u2_n1 d1]; exact c1 c d1 d2, by rw [g_u2_n2 (by decide), g_u2_e], g_u2_e _ _ _ _⟩
  have wl : ∀ k : Int, (1 ≤ k ∧ k ≤ 3) → f_X11_isWell (g_u2 ρ 26 12 (iI k)) = some (iI 0, g_u2 ρ 26 12 (iI k)) := by
    intro k hk
    unfold f_X11_isWell
    rw [g_u2_e]
    exact if_neg (by rw [J0, iI_eq (by omega) (by omega) (by omega) (by omega)]; omega)
  have nb : ∀ k : Int, (1 ≤ k ∧ k ≤ 3) → ¬ g_u2 ρ 26 12 (iI k) 26 12 = 0 := by
    intro k hk
    rw [g_u2_e, J0, iI_eq (by omega) (by omega) (by omega) (by omega)]; omega
  rw [c_num Tσ hp hC]
  have r11 := hR.2.2.2.2.1
  have mstart : f_X11_number ρ (iI A) (iI lo) (iI hi) = if tk n b p < 1000 then f_X11_number_p23 ρ (iI A) (iI lo) (iI hi) 0 else f_X11_number_p23 ρ (iI A) (iI lo) (iI hi) 1 := by
    unfold f_X11_number
    rw [RS_well hR, obs]
    refine (if_neg (show ¬ iI 1 = 0 by decide)).trans ?_
    simp only [r11]
    rw [show (1000 : Int32) = iI 1000 by decide]
    by_cases q : tk n b p < 1000
    · rw [if_pos q, if_pos ((iI_lt (by omega) (by omega) (by omega) (by omega)).mpr q)]
    · rw [if_neg q, if_neg (fun h => q ((iI_lt (by omega) (by omega) (by omega) (by omega)).mp h))]
  rw [mstart]
  by_cases q : tk n b p < 1000
  · rw [if_pos q, if_pos q]
    refine ⟨g_u2 (g_u2 τ 3 1 (iI 1)) 3 2 (iI p), g_u2 ρ 26 12 (iI 1), ?_, Or.inr ⟨?_, 1, p, by omega, by omega, fh 1 (by omega), RS_bad hR 1⟩⟩
    · unfold f_X11_number_p23
      rw [show (1 : Int32) = iI 1 by decide, wants_f hR, obs, g_u2_n2 (show (11 : Nat) ≠ 12 by decide), r11, show (1000 : Int32) = iI 1000 by decide, iI_sub, e_in (by omega) (by omega) (by omega) (by omega) (by omega) (by omega), obs]
      dsimp only
      rw [wants_b (nb 1 (by omega)), obs]
      unfold f_X11_number_p48
      rw [wl 1 (by omega), obs]
      exact if_pos (show iI 0 = 0 by decide)
    · unfold f_X5_readNumber_p68 f_X5_faultHere
      rw [obs, obs, obs, g_u2_n2 (by decide), c2]
      exact if_pos (Or.inl rfl)
  · rw [if_neg q, if_neg q]
    have m23 : f_X11_number_p23 ρ (iI A) (iI lo) (iI hi) 1 = Option.bind (f_X11_wants ρ (bI (decide (lo ≤ tk n b p - 1000 ∧ tk n b p - 1000 ≤ hi))) 2) fun q31 => f_X11_number_p48 q31 (iI A) := by
      unfold f_X11_number_p23
      rw [wants_t hR (by decide), obs, r11, show (1000 : Int32) = iI 1000 by decide, iI_sub, e_in (by omega) (by omega) (by omega) (by omega) (by omega) (by omega), obs]
    rw [m23]
    have tlb : 1 ≤ tl n b p ∧ tl n b p ≤ 2 := by
      unfold tk at q
      unfold tl
      by_cases h : n ≤ p
      · rw [if_pos h] at q; omega
      · rw [if_neg h]
        split
        · split <;> omega
        · omega
    have c59 : f_X5_readNumber_p59 τ (iI lo) (iI hi) (iI (tl n b p)) (iI (tk n b p - 1000)) = if lo ≤ tk n b p - 1000 ∧ tk n b p - 1000 ≤ hi then some (1, g_u2 (g_u2 τ 3 4 (iI ((p + tl n b p : Nat) : Int))) 3 5 (iI (tk n b p - 1000))) else f_X5_readNumber_p86 τ := by
      unfold f_X5_readNumber_p59
      rw [J0, J2, if_neg (fun h => absurd ((iI_eq (by omega) (by omega) (by omega) (by omega)).mp h) (by omega)), if_pos ((iI_le (by omega) (by omega) (by omega) (by omega)).mpr (by omega)), c2, iI_add, obs, obs]
      by_cases q1 : tk n b p - 1000 < lo
      · rw [if_pos ((iI_lt (by omega) (by omega) (by omega) (by omega)).mpr q1), if_neg (by omega)]
      · rw [if_neg (fun h => q1 ((iI_lt (by omega) (by omega) (by omega) (by omega)).mp h))]
        by_cases q2 : tk n b p - 1000 ≤ hi
        · rw [if_pos ((iI_le (by omega) (by omega) (by omega) (by omega)).mpr q2), if_pos (by omega)]; rfl
        · rw [if_neg (fun h => q2 ((iI_le (by omega) (by omega) (by omega) (by omega)).mp h)), if_neg (by omega)]
    rw [c59]
    by_cases r : lo ≤ tk n b p - 1000 ∧ tk n b p - 1000 ≤ hi
    · rw [if_pos r, decide_eq_true r]
      obtain ⟨ρ', r1, r2, r3⟩ := RS_take T h4 hp hR (by omega) (ρ0 := g_u2 ρ 32 A (iI (tk n b p - 1000))) (fun k hk => g_u2_n1 hk)
      refine ⟨_, ρ', ?_, Or.inl ⟨rfl, tk n b p - 1000, p + tl n b p, r, g_u2_e _ _ _ _, tl_le hp, ⟨fun k k3 k4 => by rw [g_u2_n1 k3, g_u2_n1 k3]; exact c1 k k3 k4, by rw [g_u2_n2 (by decide), g_u2_e], by rw [g_u2_n1 (by decide), g_u2_n1 (by decide)]; exact c3⟩, r2, by rw [r3, g_u2_e], fun i hi => by rw [r3, g_u2_n2 hi]⟩⟩
      rw [wants_t hR (by decide), obs]
      unfold f_X11_number_p48
      rw [RS_well hR, obs]
      refine (if_neg (show ¬ iI 1 = 0 by decide)).trans ?_
      dsimp only
      rw [iI_toInt (by omega) (by omega), if_pos (by omega), iI_clamp (by omega) (by omega), Int.toNat_natCast, r11, show (1000 : Int32) = iI 1000 by decide, iI_sub, obs, r1, obs]
    · rw [if_neg r, decide_eq_false r]
      refine ⟨g_u2 (g_u2 τ 3 1 (iI 2)) 3 2 (iI p), g_u2 ρ 26 12 (iI 2), ?_, Or.inr ⟨?_, 2, p, by omega, by omega, fh 2 (by omega), RS_bad hR 2⟩⟩
      · rw [show bI false = 0 by decide, J2, wants_f hR, obs]
        unfold f_X11_number_p48
        rw [wl 2 (by omega), obs]
        exact if_pos (show iI 0 = 0 by decide)
      · unfold f_X5_readNumber_p86 f_X5_faultHere
        rw [obs, obs, obs, g_u2_n2 (by decide), c2]
        exact if_pos (Or.inl rfl)
end PS
