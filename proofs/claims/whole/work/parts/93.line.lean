section LN
variable {σ τ : St} {sh : Nat → Int}
def sdL (sh : Nat → Int) (a b : Nat) (x y : Int) : Int := (tT sh b 1 - tT sh a 1) * (y - tT sh a 2) - (tT sh b 2 - tT sh a 2) * (x - tT sh a 1)
theorem e_leftOfLine (R : RC (σ 14) sh) {a b : Nat} (ha : a < 8) (hb : b < 8) (x y : Int) : f_X1_leftOfLine σ (iI a) (iI b) (iI x) (iI y) = some (iI (sdL sh a b x y), σ) := by
  unfold f_X1_leftOfLine sdL
  have J1 : (1 : Int32) = iI 1 := by decide
  rw [J1, show (2 : Int32) = iI 2 by decide]
  rw [e_thingCell R (by omega) (by omega) (by omega) (by omega), obs]
  dsimp only
  rw [e_thingCell R (by omega) (by omega) (by omega) (by omega), obs]
  dsimp only
  rw [e_thingCell R (by omega) (by omega) (by omega) (by omega), obs, obs]
  dsimp only
  rw [e_thingCell R (by omega) (by omega) (by omega) (by omega), obs, obs]
  simp only [iI_sub, iI_mul, Int.toNat_natCast, Int.reduceToNat, Int.toNat_one]
theorem m_side (M : MR σ sh) (V : Val sh) {a b : Nat} (ha : (a : Int) < sh 76) (hb : (b : Int) < sh 76) (x y : Int) : f_X11_side σ (iI a) (iI b) (iI x) (iI y) = some (iI (sdL sh a b x y), σ) := by
  have h8 := V.2.2.1
  unfold f_X11_side sdL
  rw [show (1 : Int32) = iI 1 by decide, show (2 : Int32) = iI 2 by decide]
  rw [m_of M h8.2 (by omega) hb (by omega) (by omega), obs]
  dsimp only
  rw [m_of M h8.2 (by omega) ha (by omega) (by omega), obs]
  dsimp only
  rw [m_of M h8.2 (by omega) ha (by omega) (by omega), obs]
  dsimp only
  rw [m_of M h8.2 (by omega) hb (by omega) (by omega), obs]
  dsimp only
  rw [m_of M h8.2 (by omega) ha (by omega) (by omega), obs]
  dsimp only
  rw [m_of M h8.2 (by omega) ha (by omega) (by omega), obs]
  simp only [iI_sub, iI_mul, Int.toNat_natCast, Int.reduceToNat, Int.toNat_one]
theorem sdL_b (V : Val sh) {a b : Nat} (ha : (a : Int) < sh 76) (hb : (b : Int) < sh 76) {x y : Int} (hx : -100 ≤ x ∧ x ≤ 100) (hy : -100 ≤ y ∧ y ≤ 100) : -100000 ≤ sdL sh a b x y ∧ sdL sh a b x y ≤ 100000 := by
  have A := V.2.2.2.2.2.2.1 a ha
  have B := V.2.2.2.2.2.2.1 b hb
  unfold ValT at A B
  have p1 := prod_b (a := tT sh b 1 - tT sh a 1) (b := y - tT sh a 2) (by omega) (by omega)
  have p2 := prod_b (a := tT sh b 2 - tT sh a 2) (b := x - tT sh a 1) (by omega) (by omega)
  unfold sdL
  omega
theorem e_isOnePlace (R : RC (σ 14) sh) (V : Val sh) {a b : Nat} (ha : (a : Int) < sh 76) (hb : (b : Int) < sh 76) : f_X1_isOnePlace σ (iI a) (iI b) = some (bI (decide (tT sh a 1 = tT sh b 1 ∧ tT sh a 2 = tT sh b 2)), σ) := by
  have h8 := V.2.2.1
  have A := V.2.2.2.2.2.2.1 a ha
  have B := V.2.2.2.2.2.2.1 b hb
  unfold ValT at A B
  unfold f_X1_isOnePlace
  simp (disch := omega) only [e_thingCell R, obs, iI_lit, iI_add, iI_sub, iI_mul, iI_neg, iI_lt, iI_le, iI_eq, iI_divp, iI_toInt, iI_clamp, bI_0, bI_1, b_tf, Int.toNat_natCast, Int.reduceToNat, Int.toNat_zero, Int.toNat_one, modf, if_pos, if_neg, reduceIte, reduceCtorEq]
  by_cases p : tT sh a 1 = tT sh b 1
  · by_cases q : tT sh a 2 = tT sh b 2
    · rw [if_pos p, if_pos q, decide_eq_true ⟨p, q⟩]; rfl
    · rw [if_pos p, if_neg q, decide_eq_false (fun h => q h.2)]; rfl
  · rw [if_neg p, decide_eq_false (fun h => p h.1)]; rfl
theorem m_areApart (M : MR σ sh) (V : Val sh) {a b : Nat} (ha : (a : Int) < sh 76) (hb : (b : Int) < sh 76) : f_X11_areApart σ (iI a) (iI b) = some (bI (!decide (tT sh a 1 = tT sh b 1 ∧ tT sh a 2 = tT sh b 2)), σ) := by
  have h8 := V.2.2.1
  have A := V.2.2.2.2.2.2.1 a ha
  have B := V.2.2.2.2.2.2.1 b hb
  unfold ValT at A B
  unfold f_X11_areApart
  simp (disch := omega) only [m_of M h8.2, obs, iI_lit, iI_add, iI_sub, iI_mul, iI_neg, iI_lt, iI_le, iI_eq, iI_divp, iI_toInt, iI_clamp, bI_0, bI_1, b_tf, Int.toNat_natCast, Int.reduceToNat, Int.toNat_zero, Int.toNat_one, modf, if_pos, if_neg, reduceIte, reduceCtorEq]
  by_cases p : tT sh a 1 = tT sh b 1
  · by_cases q : tT sh a 2 = tT sh b 2
    · rw [if_pos p, if_pos q, decide_eq_true ⟨p, q⟩]; rfl
    · rw [if_pos p, if_neg q, decide_eq_false (fun h => q h.2)]; rfl
  · rw [if_neg p, decide_eq_false (fun h => p h.1)]; rfl
theorem pair_u (u : Un σ) (x y : Int32) : f_X10_isPair σ x y = some (0, σ) ∧ f_X11_areTwo σ x y = some (0, σ) := ⟨gd0 (hasThing_u u x), gd0 (isThing_u u x)⟩
/-- two things, and not one: both sides alike -/
theorem pair_e (R : RC (σ 14) sh) (M : MR σ sh) (V : Val sh) {x y : Int} (x1 : -2147483648 ≤ x) (x2 : x < 2147483648) (y1 : -2147483648 ≤ y) (y2 : y < 2147483648) : (f_X10_isPair σ (iI x) (iI y) = some (iI 0, σ) ∧ f_X11_areTwo σ (iI x) (iI y) = some (iI 0, σ)) ∨ ((0 ≤ x ∧ x < sh 76) ∧ (0 ≤ y ∧ y < sh 76) ∧ x ≠ y ∧ f_X10_isPair σ (iI x) (iI y) = some (iI 1, σ) ∧ f_X11_areTwo σ (iI x) (iI y) = some (iI 1, σ)) := by
  by_cases a : 0 ≤ x ∧ x < sh 76
  · by_cases b : 0 ≤ y ∧ y < sh 76
    · by_cases e : x = y
      · exact Or.inl ⟨(gd1 (hasThing_t R V a)).trans ((gd1 (hasThing_t R V b)).trans (if_pos (by rw [e]))), (gd1 (isThing_t M V a)).trans ((gd1 (isThing_t M V b)).trans (if_pos (by rw [e])))⟩
      · have e' : ¬ iI x = iI y := by rw [iI_eq x1 x2 y1 y2]; exact e
        exact Or.inr ⟨a, b, e, (gd1 (hasThing_t R V a)).trans ((gd1 (hasThing_t R V b)).trans (if_neg e')), (gd1 (isThing_t M V a)).trans ((gd1 (isThing_t M V b)).trans (if_neg e'))⟩
    · exact Or.inl ⟨(gd1 (hasThing_t R V a)).trans (gd0 (hasThing_f R V y1 y2 b)), (gd1 (isThing_t M V a)).trans (gd0 (isThing_f M V y1 y2 b))⟩
  · exact Or.inl ⟨gd0 (hasThing_f R V x1 x2 a), gd0 (isThing_f M V x1 x2 a)⟩
theorem sg_lo {z : Int} (h1 : -1000000 ≤ z) (h2 : z ≤ 1000000) : iI z >>> (31 &&& 31 : Int32) = if z < 0 then iI (-1) else iI 0 := by
  have e : (iI z >>> (31 &&& 31 : Int32)).toInt = z / 2147483648 := by
    rw [show (31 &&& 31 : Int32) = 31 by decide, ← Int32.toInt_toBitVec, Int32.toBitVec_shiftRight, show Int32.toBitVec 31 = 31#32 from rfl, show (31#32).smod 32 = 31#32 by decide, BitVec.sshiftRight_eq', show (31#32).toNat = 31 from rfl, BitVec.toInt_sshiftRight, Int32.toInt_toBitVec, iI_toInt (by omega) (by omega), Int.shiftRight_eq_div_pow]
    rfl
  rw [iI_of (iI z >>> (31 &&& 31 : Int32)), e]
  split
  · rw [show z / 2147483648 = -1 by omega]
  · rw [show z / 2147483648 = 0 by omega]
theorem sg_hi {z : Int} (h1 : -1000000 ≤ z) (h2 : z ≤ 1000000) : ((-iI z).toUInt32 >>> ((31 : Int32).toUInt32 &&& Int32.toUInt32 31)).toInt32 = if 0 < z then iI 1 else iI 0 := by
  have e : ((-iI z).toUInt32).toNat = if 0 < z then (4294967296 - z).toNat else (-z).toNat := by
    rw [iI_neg]
    show (BitVec.ofInt 32 (-z)).toNat = _
    rw [BitVec.toNat_ofInt]
    split <;> omega
  have e2 : ((-iI z).toUInt32 >>> ((31 : Int32).toUInt32 &&& Int32.toUInt32 31)).toNat = if 0 < z then 1 else 0 := by
    rw [show ((31 : Int32).toUInt32 &&& Int32.toUInt32 31) = 31 by decide, UInt32.toNat_shiftRight, show UInt32.toNat 31 % 32 = 31 from rfl, Nat.shiftRight_eq_div_pow, e]
    split
    · omega
    · omega
  have e3 : (-iI z).toUInt32 >>> ((31 : Int32).toUInt32 &&& Int32.toUInt32 31) = if 0 < z then 1 else 0 := by
    apply UInt32.toNat_inj.mp
    rw [e2]
    split <;> rfl
  rw [e3]
  split <;> decide
theorem j_signum {z : Int} (h1 : -1000000 ≤ z) (h2 : z ≤ 1000000) : f_J6_signum_0f7a4 σ (iI z) = some (iI (sgZ z), σ) := by
  unfold f_J6_signum_0f7a4 sgZ
  rw [sg_lo h1 h2, sg_hi h1 h2]
  rcases Int.lt_trichotomy z 0 with p | p | p
  · rw [if_pos p, if_neg (by omega), if_neg (by omega), show iI (-1) ||| iI 0 = iI (-1) by decide]
  · rw [if_neg (by omega), if_neg (by omega), if_pos (by omega), if_pos (by omega), show iI 0 ||| iI 0 = iI 0 by decide]
  · rw [if_neg (by omega), if_pos p, if_pos (by omega), if_neg (by omega), show iI 0 ||| iI 1 = iI 1 by decide]
theorem p_line : P_line Inv := by
  intro σ a1 a2 a3 a4 h
  obtain ⟨x, rfl, x1, x2⟩ := iI_ex a1
  obtain ⟨y, rfl, y1, y2⟩ := iI_ex a2
  obtain ⟨p, rfl, p1, p2⟩ := iI_ex a3
  obtain ⟨r, rfl, r1, r2⟩ := iI_ex a4
  rcases iv_sheet h with u | ⟨sh, V, R, M⟩
  · exact ⟨(-1000001, σ), (-1000001, σ), gd0 (pair_u u _ _).1, gd0 (pair_u u _ _).2, rfl, h⟩
  rcases pair_e R M V x1 x2 y1 y2 with ⟨e1, e2⟩ | ⟨a, b, ne, e1, e2⟩
  · exact ⟨(-1000001, σ), (-1000001, σ), gd0 e1, gd0 e2, rfl, h⟩
  have wc := w_charted (τ := σ) p1 p2 r1 r2
  have wp := w_isPlace (τ := σ) p1 p2 r1 r2
  cases hc : chZ p r
  · rw [hc] at wc wp
    exact ⟨(-1000001, σ), (-1000001, σ), (gd1 e1).trans (gd0 wc), (gd1 e2).trans (gd0 wp), rfl, h⟩
  rw [hc] at wc wp
  have c := ch_t hc
  obtain ⟨m, rfl⟩ : ∃ m : Nat, x = m := ⟨x.toNat, by omega⟩
  obtain ⟨n, rfl⟩ : ∃ n : Nat, y = n := ⟨y.toNat, by omega⟩
  have h8 := V.2.2.1
  have o1 := e_isOnePlace R V a.2 b.2
  have o2 := m_areApart M V a.2 b.2
  by_cases q : tT sh m 1 = tT sh n 1 ∧ tT sh m 2 = tT sh n 2
  · rw [decide_eq_true q] at o1 o2
    refine ⟨(-1000002, σ), (-1000002, σ), (gd1 e1).trans ((gd1 wc).trans ((gd1 o1).trans rfl)), (gd1 e2).trans ((gd1 wp).trans (gd0 o2)), rfl, h⟩
  · rw [decide_eq_false q] at o1 o2
    have sb := sdL_b V a.2 b.2 (x := p) (y := r) (by omega) (by omega)
    have sgb := sg_b (sdL sh m n p r)
    refine ⟨(iI (sgZ (sdL sh m n p r)), σ), (iI (sgZ (sdL sh m n p r)), σ), (gd1 e1).trans ((gd1 wc).trans ?_), (gd1 e2).trans ((gd1 wp).trans ((gd1 o2).trans ?_)), rfl, h⟩
    · dsimp only
      rw [o1, obs]
      refine (if_pos (show bI false = 0 by decide)).trans ?_
      dsimp only
      rw [e_leftOfLine R (by omega) (by omega), obs]
      dsimp only
      rw [j_signum (by omega) (by omega), obs]
    · dsimp only
      rw [m_side M V a.2 b.2, obs]
      dsimp only
      rw [m_signOf (by omega) (by omega), obs]
end LN
