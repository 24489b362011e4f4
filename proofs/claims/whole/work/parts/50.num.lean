/-! Whole numbers under the ints. -/
def iI (z : Int) : Int32 := Int32.ofInt z
theorem iI_of (x : Int32) : x = iI x.toInt := (Int32.ofInt_toInt x).symm
theorem iI_toInt {z : Int} (h1 : -2147483648 ≤ z) (h2 : z < 2147483648) : (iI z).toInt = z := by
  unfold iI
  rw [Int32.toInt_ofInt]
  apply Int.bmod_eq_of_le <;> simp <;> omega
theorem iI_add (a b : Int) : iI a + iI b = iI (a + b) := (Int32.ofInt_add a b).symm
theorem iI_sub (a b : Int) : iI a - iI b = iI (a - b) := (Int32.ofInt_sub a b).symm
theorem iI_mul (a b : Int) : iI a * iI b = iI (a * b) := (Int32.ofInt_mul a b).symm
theorem iI_neg (a : Int) : -iI a = iI (-a) := (Int32.ofInt_neg a).symm
theorem iI_lit (n : Nat) : (OfNat.ofNat n : Int32) = iI (OfNat.ofNat n : Int) := by
  show Int32.ofNat n = Int32.ofInt _
  rw [← Int32.ofInt_eq_ofNat]
  rfl
theorem iI_lt {a b : Int} (h1 : -2147483648 ≤ a) (h2 : a < 2147483648) (h3 : -2147483648 ≤ b) (h4 : b < 2147483648) : (iI a < iI b) ↔ a < b := by
  rw [Int32.lt_iff_toInt_lt, iI_toInt h1 h2, iI_toInt h3 h4]
theorem iI_le {a b : Int} (h1 : -2147483648 ≤ a) (h2 : a < 2147483648) (h3 : -2147483648 ≤ b) (h4 : b < 2147483648) : (iI a ≤ iI b) ↔ a ≤ b := by
  rw [Int32.le_iff_toInt_le, iI_toInt h1 h2, iI_toInt h3 h4]
theorem iI_eq {a b : Int} (h1 : -2147483648 ≤ a) (h2 : a < 2147483648) (h3 : -2147483648 ≤ b) (h4 : b < 2147483648) : (iI a = iI b) ↔ a = b := by
  rw [← Int32.toInt_inj, iI_toInt h1 h2, iI_toInt h3 h4]
theorem iI_clamp {a : Int} (h1 : 0 ≤ a) (h2 : a < 2147483648) : (iI a).toNatClampNeg = a.toNat := by
  have := iI_toInt (z := a) (by omega) h2
  rw [Int32.toNatClampNeg, this]
theorem iI_nI (n : Nat) : nI n = iI n := (Int32.ofInt_eq_ofNat).symm
theorem iI_div {a b : Int} (h1 : -2147483648 < a) (h2 : a < 2147483648) (h3 : -2147483648 ≤ b) (h4 : b < 2147483648) : iI a / iI b = iI (a.tdiv b) := by
  rw [← Int32.toInt_inj, Int32.toInt_div, iI_toInt (by omega) h2, iI_toInt h3 h4]
  unfold iI
  rw [Int32.toInt_ofInt]
theorem iI_divp {a b : Int} (h1 : 0 ≤ a) (h2 : a < 2147483648) (h3 : 0 < b) (h4 : b < 2147483648) : iI a / iI b = iI (a / b) := by
  rw [iI_div (by omega) h2 (by omega) h4, Int.tdiv_eq_ediv_of_nonneg h1]
theorem iI_rem {a b : Int} (h1 : 0 ≤ a) (h2 : a < 2147483648) (h3 : 0 < b) (h4 : b < 2147483648) : iI a - iI a / iI b * iI b = iI (a % b) := by
  rw [iI_divp h1 h2 h3 h4, iI_mul, iI_sub]
  congr 1
  have := Int.emod_add_mul_ediv a b
  rw [Int.mul_comm] at this
  omega
def bI (b : Bool) : Int32 := if b = true then iI 1 else iI 0
theorem bI_0 (b : Bool) : (bI b = iI 0) ↔ b = false := by cases b <;> decide
theorem bI_1 (b : Bool) : (bI b = iI 1) ↔ b = true := by cases b <;> decide
theorem bI_01 (b : Bool) : bI b = iI 0 ∨ bI b = iI 1 := by cases b <;> decide
theorem bI_t : bI true = iI 1 := rfl
theorem bI_f : bI false = iI 0 := rfl
theorem fb_r (x : Int32) : -2147483648 ≤ x.toInt ∧ x.toInt < 2147483648 := ⟨by have := Int32.le_toInt x; simpa using this, by have := Int32.toInt_lt x; simpa using this⟩
theorem iI_ex (x : Int32) : ∃ z : Int, x = iI z ∧ -2147483648 ≤ z ∧ z < 2147483648 := ⟨x.toInt, iI_of x, by have := fb_r x; omega, by have := fb_r x; omega⟩
theorem sqb {d : Int} (h1 : -300 ≤ d) (h2 : d ≤ 300) : 0 ≤ d * d ∧ d * d ≤ 90000 := by
  constructor
  · rcases Int.le_total 0 d with h | h
    · exact Int.mul_nonneg h h
    · exact Int.mul_nonneg_of_nonpos_of_nonpos h h
  · rcases Int.le_total 0 d with h | h
    · exact Int.mul_le_mul h2 h2 h (by omega)
    · have := Int.mul_le_mul (a := -d) (b := -d) (c := 300) (d := 300) (by omega) (by omega) (by omega) (by omega)
      rw [Int.neg_mul_neg] at this
      exact this
theorem fx_s {α : Type} (F : α → α) (z : α) (n : Nat) : fx F z (n + 1) = F (fx F z n) := rfl
theorem toNat_lit (n : Nat) : (OfNat.ofNat n : Int).toNat = (OfNat.ofNat n : Nat) := rfl
theorem bz {β : Type} {c : Prop} [inst : Decidable c] {d : Bool} {s : β} (h : c ↔ d = false) : (if c then some (iI 0, s) else some (iI 1, s)) = some (bI d, s) := by
  by_cases hc : c
  · rw [if_pos hc, h.mp hc]; rfl
  · rw [if_neg hc]
    have : d = true := by
      cases hd : d
      · exact absurd (h.mpr hd) hc
      · rfl
    rw [this]; rfl
theorem bo {β : Type} {c : Prop} [inst : Decidable c] {d : Bool} {s : β} (h : c ↔ d = true) : (if c then some (iI 1, s) else some (iI 0, s)) = some (bI d, s) := by
  by_cases hc : c
  · rw [if_pos hc, h.mp hc]; rfl
  · rw [if_neg hc]
    have : d = false := by
      cases hd : d
      · rfl
      · exact absurd (h.mpr hd) hc
    rw [this]; rfl
theorem modf (a b : Int) : a - a / b * b = a % b := by
  have := Int.emod_add_mul_ediv a b
  rw [Int.mul_comm] at this
  omega
theorem iI_ite {c : Prop} [inst : Decidable c] (a b : Int) : (if c then iI a else iI b) = iI (if c then a else b) := by
  by_cases h : c
  · rw [if_pos h, if_pos h]
  · rw [if_neg h, if_neg h]
theorem test_omega_ite (z : Int) (h : -5 ≤ z) (h2 : z ≤ 5) : (if 0 ≤ z then z else 0 - z) < 6 := by omega
theorem z0 : iI ((0 : Nat) : Int) = iI 0 := rfl
theorem obs {α β : Type} (a : α) (f : α → Option β) : Option.bind (some a) f = f a := by rw [Option.bind_some]
theorem b_tf (b : Bool) : (b = false ∨ b = true) ↔ True := by cases b <;> simp
