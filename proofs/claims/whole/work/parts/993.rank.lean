section RK
variable {σ π τ ρ ρ1 : St} {sh : Nat → Int} {n : Nat} {b : Nat → Int}
def srt (z : Int) : Int := if z = 98 then 1 else if z = 108 then 2 else if z = 117 then 3 else if z = 115 then 4 else if z = 114 then 5 else if z = 107 then 6 else 0
def unt (z : Int) : Int := if z = 109 then 0 else if z = 97 then 1 else if z = 105 then 2 else if z = 101 then 3 else if z = 100 then 4 else -1
theorem srt_0 {z : Int} (h : z < 97 ∨ 122 < z) : srt z = 0 := by
  unfold srt
  rw [if_neg (by omega), if_neg (by omega), if_neg (by omega), if_neg (by omega), if_neg (by omega), if_neg (by omega)]
theorem unt_0 {z : Int} (h : z < 97 ∨ 122 < z) : unt z = -1 := by
  unfold unt
  rw [if_neg (by omega), if_neg (by omega), if_neg (by omega), if_neg (by omega), if_neg (by omega)]
theorem srt_b (z : Int) : 0 ≤ srt z ∧ srt z ≤ 6 := by unfold srt; omega
theorem unt_b (z : Int) : -1 ≤ unt z ∧ unt z ≤ 4 := by unfold unt; omega
theorem srt_l {z : Int} (h : srt z ≠ 0) : isL z = true := by
  by_cases p : z < 97 ∨ 122 < z
  · exact absurd (srt_0 p) h
  · exact decide_eq_true (by omega)
theorem unt_l {z : Int} (h : unt z ≠ -1) : isL z = true := by
  by_cases p : z < 97 ∨ 122 < z
  · exact absurd (unt_0 p) h
  · exact decide_eq_true (by omega)
/-- a token and its byte: alike, or no letter -/
theorem tk_or (hb : ∀ j, j < n → 0 ≤ b j ∧ b j ≤ 255) (p : Nat) : tk n b p = bb n b p ∨ ((bb n b p < 97 ∨ 122 < bb n b p) ∧ (tk n b p < 97 ∨ 122 < tk n b p)) := by
  cases h : isL (bb n b p)
  · refine Or.inr ?_
    have h' : ¬ ((97 ≤ bb n b p ∧ bb n b p ≤ 122) ∨ bb n b p = 44 ∨ bb n b p = 59) := of_decide_eq_false h
    refine ⟨by omega, ?_⟩
    by_cases q : isL (tk n b p) = true
    · have := (tk_bb hb q p).1.mpr rfl
      rw [this, q] at h
      exact absurd h (by decide)
    · have q' : ¬ ((97 ≤ tk n b p ∧ tk n b p ≤ 122) ∨ tk n b p = 44 ∨ tk n b p = 59) := by
        intro h2
        exact q (decide_eq_true h2)
      omega
  · exact Or.inl ((tk_bb hb h p).1.mp rfl)
theorem srt_tk (hb : ∀ j, j < n → 0 ≤ b j ∧ b j ≤ 255) (p : Nat) : srt (tk n b p) = srt (bb n b p) := by
  rcases tk_or hb p with h | ⟨h1, h2⟩
  · rw [h]
  · rw [srt_0 h1, srt_0 h2]
theorem unt_tk (hb : ∀ j, j < n → 0 ≤ b j ∧ b j ≤ 255) (p : Nat) : unt (tk n b p) = unt (bb n b p) := by
  rcases tk_or hb p with h | ⟨h1, h2⟩
  · rw [h]
  · rw [unt_0 h1, unt_0 h2]
theorem m_sortOf {z : Int} (h1 : -1000000 ≤ z) (h2 : z ≤ 2000) : f_X11_sortOf ρ (iI z) = some (iI (srt z), ρ) := by
  by_cases p : z < 98 ∨ 117 < z
  · have g : ∀ c : Int, 98 ≤ c → c ≤ 117 → ¬ iI z = iI c := fun c c1 c2 => by rw [iI_eq (by omega) (by omega) (by omega) (by omega)]; omega
    have e : srt z = 0 := by
      unfold srt
      rw [if_neg (by omega), if_neg (by omega), if_neg (by omega), if_neg (by omega), if_neg (by omega), if_neg (by omega)]
    rw [e]
    unfold f_X11_sortOf
    rw [show (98 : Int32) = iI 98 by decide, show (99 : Int32) = iI 99 by decide, show (100 : Int32) = iI 100 by decide, show (101 : Int32) = iI 101 by decide, show (102 : Int32) = iI 102 by decide, show (103 : Int32) = iI 103 by decide, show (104 : Int32) = iI 104 by decide, show (105 : Int32) = iI 105 by decide, show (106 : Int32) = iI 106 by decide, show (107 : Int32) = iI 107 by decide, show (108 : Int32) = iI 108 by decide, show (109 : Int32) = iI 109 by decide, show (110 : Int32) = iI 110 by decide, show (111 : Int32) = iI 111 by decide, show (112 : Int32) = iI 112 by decide, show (113 : Int32) = iI 113 by decide, show (114 : Int32) = iI 114 by decide, show (115 : Int32) = iI 115 by decide, show (116 : Int32) = iI 116 by decide, show (117 : Int32) = iI 117 by decide]
    rw [if_neg (g 98 (by omega) (by omega)), if_neg (g 99 (by omega) (by omega)), if_neg (g 100 (by omega) (by omega)), if_neg (g 101 (by omega) (by omega)), if_neg (g 102 (by omega) (by omega)), if_neg (g 103 (by omega) (by omega)), if_neg (g 104 (by omega) (by omega)), if_neg (g 105 (by omega) (by omega)), if_neg (g 106 (by omega) (by omega)), if_neg (g 107 (by omega) (by omega)), if_neg (g 108 (by omega) (by omega)), if_neg (g 109 (by omega) (by omega)), if_neg (g 110 (by omega) (by omega)), if_neg (g 111 (by omega) (by omega)), if_neg (g 112 (by omega) (by omega)), if_neg (g 113 (by omega) (by omega)), if_neg (g 114 (by omega) (by omega)), if_neg (g 115 (by omega) (by omega)), if_neg (g 116 (by omega) (by omega)), if_neg (g 117 (by omega) (by omega))]
    rfl
  · have : z = 98 ∨ z = 99 ∨ z = 100 ∨ z = 101 ∨ z = 102 ∨ z = 103 ∨ z = 104 ∨ z = 105 ∨ z = 106 ∨ z = 107 ∨ z = 108 ∨ z = 109 ∨ z = 110 ∨ z = 111 ∨ z = 112 ∨ z = 113 ∨ z = 114 ∨ z = 115 ∨ z = 116 ∨ z = 117 := by omega
    rcases this with h | h | h | h | h | h | h | h | h | h | h | h | h | h | h | h | h | h | h | h <;> subst h <;> rfl
theorem m_untilOf {z : Int} (h1 : -1000000 ≤ z) (h2 : z ≤ 2000) : f_X11_untilOf ρ (iI z) = some (if unt z = -1 then iI (-1000000) else iI (unt z), ρ) := by
  by_cases p : z < 97 ∨ 109 < z
  · have g : ∀ c : Int, 97 ≤ c → c ≤ 109 → ¬ iI z = iI c := fun c c1 c2 => by rw [iI_eq (by omega) (by omega) (by omega) (by omega)]; omega
    have e : unt z = -1 := by
      unfold unt
      rw [if_neg (by omega), if_neg (by omega), if_neg (by omega), if_neg (by omega), if_neg (by omega)]
    rw [e, if_pos rfl]
    unfold f_X11_untilOf
    rw [show (97 : Int32) = iI 97 by decide, show (98 : Int32) = iI 98 by decide, show (99 : Int32) = iI 99 by decide, show (100 : Int32) = iI 100 by decide, show (101 : Int32) = iI 101 by decide, show (102 : Int32) = iI 102 by decide, show (103 : Int32) = iI 103 by decide, show (104 : Int32) = iI 104 by decide, show (105 : Int32) = iI 105 by decide, show (106 : Int32) = iI 106 by decide, show (107 : Int32) = iI 107 by decide, show (108 : Int32) = iI 108 by decide, show (109 : Int32) = iI 109 by decide]
    rw [if_neg (g 97 (by omega) (by omega)), if_neg (g 98 (by omega) (by omega)), if_neg (g 99 (by omega) (by omega)), if_neg (g 100 (by omega) (by omega)), if_neg (g 101 (by omega) (by omega)), if_neg (g 102 (by omega) (by omega)), if_neg (g 103 (by omega) (by omega)), if_neg (g 104 (by omega) (by omega)), if_neg (g 105 (by omega) (by omega)), if_neg (g 106 (by omega) (by omega)), if_neg (g 107 (by omega) (by omega)), if_neg (g 108 (by omega) (by omega)), if_neg (g 109 (by omega) (by omega))]
    rfl
  · have : z = 97 ∨ z = 98 ∨ z = 99 ∨ z = 100 ∨ z = 101 ∨ z = 102 ∨ z = 103 ∨ z = 104 ∨ z = 105 ∨ z = 106 ∨ z = 107 ∨ z = 108 ∨ z = 109 := by omega
    rcases this with h | h | h | h | h | h | h | h | h | h | h | h | h <;> subst h <;> rfl
def ixF (s : Nat) (y : Int32) : Nat → Nat → Int32
  | 0, _ => -1
  | d + 1, i => if (g_byt.getD s []).getD i 0 = y then iI i else ixF s y d (i + 1)
theorem j_ix {s : Nat} (hs : s < 18) {L : Nat} (hL : g_len.getD s 0 = L) (hl : L ≤ 10) (y : Int32) : ∀ (d i f : Nat), i + d = L → d < f → fx F_J1_indexOfChar_4cfef_h7 z_J1_indexOfChar_4cfef_h7 f σ s (iI L) y (iI i) = some (ixF s y d i, σ) := by
  intro d
  induction d with
  | zero =>
    intro i f h1 h2
    obtain ⟨f, rfl⟩ : ∃ j, f = j + 1 := ⟨f - 1, by omega⟩
    rw [fx_s]
    exact if_pos ((iI_le (by omega) (by omega) (by omega) (by omega)).mpr (by omega))
  | succ d ih =>
    intro i f h1 h2
    obtain ⟨f, rfl⟩ : ∃ j, f = j + 1 := ⟨f - 1, by omega⟩
    have i1 := ih (i + 1) f (by omega) (by omega)
    rw [fx_s]
    generalize fx F_J1_indexOfChar_4cfef_h7 z_J1_indexOfChar_4cfef_h7 f = K at *
    unfold F_J1_indexOfChar_4cfef_h7
    rw [if_neg (fun h => absurd ((iI_le (by omega) (by omega) (by omega) (by omega)).mp h) (by omega)), if_pos hs, hL, iI_toInt (by omega) (by omega), if_pos (by omega), iI_clamp (by omega) (by omega), Int.toNat_natCast, obs, show iI (i : Int) + 1 = iI ((i + 1 : Nat) : Int) by rw [show (1 : Int32) = iI 1 by decide, iI_add]; rfl, i1]
    rw [show ixF s y (d + 1) i = if (g_byt.getD s []).getD i 0 = y then iI i else ixF s y d (i + 1) from rfl]
    by_cases p : (g_byt.getD s []).getD i 0 = y
    · rw [if_pos p, if_pos p]
    · rw [if_neg p, if_neg p]
theorem j_indexOf {s : Nat} (hs : s < 18) {L : Nat} (hL : g_len.getD s 0 = L) (hl : 1 ≤ L ∧ L ≤ 10) {c : Int} (hc : 0 ≤ c ∧ c ≤ 255) : f_J0_indexOf_0f7a4 σ s (iI c) = some (ixF s ((iI c).toInt8.toInt32) L 0, σ) := by
  have len : f_J0_length_8abf5 σ s = some (iI L, σ) := by
    unfold f_J0_length_8abf5 f_J0_coder_7d493
    rw [if_pos hs, if_pos hs, if_pos hs, if_pos hs, obs, hL]
    have e : (Int32.ofNat L) >>> ((0 : Int32) &&& 31) = iI L := by
      have : L = 1 ∨ L = 2 ∨ L = 3 ∨ L = 4 ∨ L = 5 ∨ L = 6 ∨ L = 7 ∨ L = 8 ∨ L = 9 ∨ L = 10 := by omega
      rcases this with h | h | h | h | h | h | h | h | h | h <;> subst h <;> decide
    rw [e]
  have en : f_J1_canEncode_9a6ad σ (iI c) = some (1, σ) := by
    unfold f_J1_canEncode_9a6ad
    rw [J0, show (255 : Int32) = iI 255 by decide, if_neg (fun h => absurd ((iI_lt (by omega) (by omega) (by omega) (by omega)).mp h) (by omega)), if_neg (fun h => absurd ((iI_lt (by omega) (by omega) (by omega) (by omega)).mp h) (by omega))]
  have oc : f_J1_indexOfChar_4cfef σ s (iI c) 0 (iI L) = some (ixF s ((iI c).toInt8.toInt32) L 0, σ) := by
    unfold f_J1_indexOfChar_4cfef
    rw [obs]
    exact j_ix hs hL hl.2 _ L 0 FU (by omega) (by rw [FU_val]; omega)
  have i1 : f_J1_indexOf_4cfef σ s (iI c) 0 (iI L) = some (ixF s ((iI c).toInt8.toInt32) L 0, σ) := by
    unfold f_J1_indexOf_4cfef
    rw [en, obs]
    refine (if_neg (show ¬ (1 : Int32) = 0 by decide)).trans ?_
    dsimp only
    rw [if_neg (show ¬ (0 : Int32) < 0 by decide), obs, if_pos hs, hL, show Int32.ofNat L = iI L from iI_nI L, if_neg (show ¬ iI (L : Int) < iI L by rw [iI_lt (by omega) (by omega) (by omega) (by omega)]; omega), obs, if_pos (show (0 : Int32) < iI L by rw [J0, iI_lt (by omega) (by omega) (by omega) (by omega)]; omega), oc, obs]
  unfold f_J0_indexOf_0f7a4 f_J0_indexOf_7cf53 f_J0_isLatin1_aae02
  rw [if_pos hs, if_pos hs, if_pos hs, obs]
  dsimp only
  rw [if_neg (show ¬ (1 : Int32) = 0 by decide), if_pos hs, if_pos hs, len, obs]
  dsimp only
  rw [i1, obs, obs]
theorem rk_tab : ∀ c : Fin 256, 1 + ixF 16 ((iI (c.val : Int)).toInt8.toInt32) 6 0 = iI (srt c.val) ∧ ixF 17 ((iI (c.val : Int)).toInt8.toInt32) 5 0 = iI (unt c.val) ∧ ((iI (c.val : Int)).toUInt32 % 65536).toInt32 = iI c.val := by decide +kernel
theorem c_rank16 (Tσ : Tp τ n b) {p : Nat} (hp : p ≤ n) (h34 : τ 3 4 = iI p) : ∃ r, f_X5_rankOf τ 16 = some (r, τ) ∧ 1 + r = iI (srt (tk n b p)) := by
  have t1 := Tσ.1
  rw [srt_tk Tσ.bytes]
  unfold f_X5_rankOf
  rw [h34, e_bb Tσ (by omega), obs]
  by_cases q : p < n
  · have bp := Tσ.bytes p q
    rw [bb_lt q]
    have tb := rk_tab ⟨(b p).toNat, by omega⟩
    simp only [show (((b p).toNat : Nat) : Int) = b p by omega] at tb
    refine ⟨_, (if_neg (show ¬ iI (b p) = -1 by rw [show (-1 : Int32) = iI (-1) by decide, iI_eq (by omega) (by omega) (by omega) (by omega)]; omega)).trans ?_, tb.1⟩
    rw [if_pos (by decide)]
    dsimp only
    rw [tb.2.2, j_indexOf (by decide) (L := 6) rfl (by omega) (by omega), obs]
  · rw [bb_ge q]
    exact ⟨-1, if_pos (show iI (-1) = -1 by decide), by decide⟩
theorem c_rank17 (Tσ : Tp τ n b) {p : Nat} (hp : p ≤ n) (h34 : τ 3 4 = iI p) : f_X5_rankOf τ 17 = some (iI (unt (tk n b p)), τ) := by
  have t1 := Tσ.1
  rw [unt_tk Tσ.bytes]
  unfold f_X5_rankOf
  rw [h34, e_bb Tσ (by omega), obs]
  by_cases q : p < n
  · have bp := Tσ.bytes p q
    rw [bb_lt q]
    have tb := rk_tab ⟨(b p).toNat, by omega⟩
    simp only [show (((b p).toNat : Nat) : Int) = b p by omega] at tb
    refine (if_neg (show ¬ iI (b p) = -1 by rw [show (-1 : Int32) = iI (-1) by decide, iI_eq (by omega) (by omega) (by omega) (by omega)]; omega)).trans ?_
    rw [if_pos (by decide)]
    dsimp only
    rw [tb.2.2, j_indexOf (by decide) (L := 5) rfl (by omega) (by omega), obs, tb.2.1]
  · rw [bb_ge q]
    exact if_pos (show iI (-1) = -1 by decide)
end RK
