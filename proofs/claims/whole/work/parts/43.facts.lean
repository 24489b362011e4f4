/-- the claim's texts as terms, in the order of g_txt -/
def tmL : List Term := [.string "SailingDirections$Compass" 16, .string "SailingDirections$Compass" 18, .string "SailingDirections$Compass" 20, .string "SailingDirections$Compass" 22, .string "SailingDirections$Compass" 24, .string "SailingDirections$Compass" 26, .string "SailingDirections$Compass" 28, .string "SailingDirections$Compass" 30, .string "SailingDirections$Compass" 32, .string "SailingDirections$Compass" 34, .string "SailingDirections$Compass" 36, .string "SailingDirections$Compass" 38, .string "SailingDirections$Compass" 40, .string "SailingDirections$Compass" 42, .string "SailingDirections$Compass" 44, .string "SailingDirections$Compass" 46, .string "SailingDirections$Reader" 80, .string "SailingDirections$Reader" 108]
def tmF (i : Nat) : Term := tmL.getD i (.int 0)
abbrev lwF : List Cond := flatC (Jvm.Cond.and given_1 narrow_1)
theorem f_ex : ∀ i, i < 18 → Cond.exactly (tmF i) "java/lang/String" ∈ lwF := by decide +kernel
theorem f_co : ∀ i, i < 18 → Cond.eq (.field (tmF i) "java/lang/String" "coder" "B") (.int 0) ∈ lwF := by decide +kernel
theorem f_ar : ∀ i, i < 18 → Cond.arrayOf (.field (tmF i) "java/lang/String" "value" "[B") .byte ∈ lwF := by decide +kernel
theorem f_le : ∀ i, i < 18 → Cond.eq (.length (.field (tmF i) "java/lang/String" "value" "[B")) (.int (Int32.ofNat (g_len.getD i 0))) ∈ lwF := by decide +kernel
theorem f_el : ∀ i, i < 18 → ∀ j, j < g_len.getD i 0 → Cond.eq (.elem (.field (tmF i) "java/lang/String" "value" "[B") (.int (Int32.ofNat j))) (.int ((g_byt.getD i []).getD j 0)) ∈ lwF := by decide +kernel
theorem f_ne0 : ∀ j, j < 18 → j ≠ 0 → lwF[[0, 83, 92, 103, 113, 126, 139, 154, 168, 185, 202, 221, 239, 260, 281, 304, 72, 73].getD j 0]? = some (Cond.not (Cond.eq (tmF 0) (tmF j))) ∨ lwF[[0, 83, 92, 103, 113, 126, 139, 154, 168, 185, 202, 221, 239, 260, 281, 304, 72, 73].getD j 0]? = some (Cond.not (Cond.eq (tmF j) (tmF 0))) := by decide +kernel
theorem f_ne1 : ∀ j, j < 18 → j ≠ 1 → lwF[[83, 0, 93, 104, 114, 127, 140, 155, 169, 186, 203, 222, 240, 261, 282, 305, 81, 82].getD j 0]? = some (Cond.not (Cond.eq (tmF 1) (tmF j))) ∨ lwF[[83, 0, 93, 104, 114, 127, 140, 155, 169, 186, 203, 222, 240, 261, 282, 305, 81, 82].getD j 0]? = some (Cond.not (Cond.eq (tmF j) (tmF 1))) := by decide +kernel
theorem f_ne2 : ∀ j, j < 18 → j ≠ 2 → lwF[[92, 93, 0, 105, 115, 128, 141, 156, 170, 187, 204, 223, 241, 262, 283, 306, 90, 91].getD j 0]? = some (Cond.not (Cond.eq (tmF 2) (tmF j))) ∨ lwF[[92, 93, 0, 105, 115, 128, 141, 156, 170, 187, 204, 223, 241, 262, 283, 306, 90, 91].getD j 0]? = some (Cond.not (Cond.eq (tmF j) (tmF 2))) := by decide +kernel
theorem f_ne3 : ∀ j, j < 18 → j ≠ 3 → lwF[[103, 104, 105, 0, 116, 129, 142, 157, 171, 188, 205, 224, 242, 263, 284, 307, 101, 102].getD j 0]? = some (Cond.not (Cond.eq (tmF 3) (tmF j))) ∨ lwF[[103, 104, 105, 0, 116, 129, 142, 157, 171, 188, 205, 224, 242, 263, 284, 307, 101, 102].getD j 0]? = some (Cond.not (Cond.eq (tmF j) (tmF 3))) := by decide +kernel
theorem f_ne4 : ∀ j, j < 18 → j ≠ 4 → lwF[[113, 114, 115, 116, 0, 130, 143, 158, 172, 189, 206, 225, 243, 264, 285, 308, 111, 112].getD j 0]? = some (Cond.not (Cond.eq (tmF 4) (tmF j))) ∨ lwF[[113, 114, 115, 116, 0, 130, 143, 158, 172, 189, 206, 225, 243, 264, 285, 308, 111, 112].getD j 0]? = some (Cond.not (Cond.eq (tmF j) (tmF 4))) := by decide +kernel
theorem f_ne5 : ∀ j, j < 18 → j ≠ 5 → lwF[[126, 127, 128, 129, 130, 0, 144, 159, 173, 190, 207, 226, 244, 265, 286, 309, 124, 125].getD j 0]? = some (Cond.not (Cond.eq (tmF 5) (tmF j))) ∨ lwF[[126, 127, 128, 129, 130, 0, 144, 159, 173, 190, 207, 226, 244, 265, 286, 309, 124, 125].getD j 0]? = some (Cond.not (Cond.eq (tmF j) (tmF 5))) := by decide +kernel
theorem f_ne6 : ∀ j, j < 18 → j ≠ 6 → lwF[[139, 140, 141, 142, 143, 144, 0, 160, 174, 191, 208, 227, 245, 266, 287, 310, 137, 138].getD j 0]? = some (Cond.not (Cond.eq (tmF 6) (tmF j))) ∨ lwF[[139, 140, 141, 142, 143, 144, 0, 160, 174, 191, 208, 227, 245, 266, 287, 310, 137, 138].getD j 0]? = some (Cond.not (Cond.eq (tmF j) (tmF 6))) := by decide +kernel
theorem f_ne7 : ∀ j, j < 18 → j ≠ 7 → lwF[[154, 155, 156, 157, 158, 159, 160, 0, 175, 192, 209, 228, 246, 267, 288, 311, 152, 153].getD j 0]? = some (Cond.not (Cond.eq (tmF 7) (tmF j))) ∨ lwF[[154, 155, 156, 157, 158, 159, 160, 0, 175, 192, 209, 228, 246, 267, 288, 311, 152, 153].getD j 0]? = some (Cond.not (Cond.eq (tmF j) (tmF 7))) := by decide +kernel
theorem f_ne8 : ∀ j, j < 18 → j ≠ 8 → lwF[[168, 169, 170, 171, 172, 173, 174, 175, 0, 193, 210, 229, 247, 268, 289, 312, 166, 167].getD j 0]? = some (Cond.not (Cond.eq (tmF 8) (tmF j))) ∨ lwF[[168, 169, 170, 171, 172, 173, 174, 175, 0, 193, 210, 229, 247, 268, 289, 312, 166, 167].getD j 0]? = some (Cond.not (Cond.eq (tmF j) (tmF 8))) := by decide +kernel
theorem f_ne9 : ∀ j, j < 18 → j ≠ 9 → lwF[[185, 186, 187, 188, 189, 190, 191, 192, 193, 0, 211, 230, 248, 269, 290, 313, 183, 184].getD j 0]? = some (Cond.not (Cond.eq (tmF 9) (tmF j))) ∨ lwF[[185, 186, 187, 188, 189, 190, 191, 192, 193, 0, 211, 230, 248, 269, 290, 313, 183, 184].getD j 0]? = some (Cond.not (Cond.eq (tmF j) (tmF 9))) := by decide +kernel
theorem f_ne10 : ∀ j, j < 18 → j ≠ 10 → lwF[[202, 203, 204, 205, 206, 207, 208, 209, 210, 211, 0, 231, 249, 270, 291, 314, 200, 201].getD j 0]? = some (Cond.not (Cond.eq (tmF 10) (tmF j))) ∨ lwF[[202, 203, 204, 205, 206, 207, 208, 209, 210, 211, 0, 231, 249, 270, 291, 314, 200, 201].getD j 0]? = some (Cond.not (Cond.eq (tmF j) (tmF 10))) := by decide +kernel
theorem f_ne11 : ∀ j, j < 18 → j ≠ 11 → lwF[[221, 222, 223, 224, 225, 226, 227, 228, 229, 230, 231, 0, 250, 271, 292, 315, 219, 220].getD j 0]? = some (Cond.not (Cond.eq (tmF 11) (tmF j))) ∨ lwF[[221, 222, 223, 224, 225, 226, 227, 228, 229, 230, 231, 0, 250, 271, 292, 315, 219, 220].getD j 0]? = some (Cond.not (Cond.eq (tmF j) (tmF 11))) := by decide +kernel
theorem f_ne12 : ∀ j, j < 18 → j ≠ 12 → lwF[[239, 240, 241, 242, 243, 244, 245, 246, 247, 248, 249, 250, 0, 272, 293, 316, 237, 238].getD j 0]? = some (Cond.not (Cond.eq (tmF 12) (tmF j))) ∨ lwF[[239, 240, 241, 242, 243, 244, 245, 246, 247, 248, 249, 250, 0, 272, 293, 316, 237, 238].getD j 0]? = some (Cond.not (Cond.eq (tmF j) (tmF 12))) := by decide +kernel
theorem f_ne13 : ∀ j, j < 18 → j ≠ 13 → lwF[[260, 261, 262, 263, 264, 265, 266, 267, 268, 269, 270, 271, 272, 0, 294, 317, 258, 259].getD j 0]? = some (Cond.not (Cond.eq (tmF 13) (tmF j))) ∨ lwF[[260, 261, 262, 263, 264, 265, 266, 267, 268, 269, 270, 271, 272, 0, 294, 317, 258, 259].getD j 0]? = some (Cond.not (Cond.eq (tmF j) (tmF 13))) := by decide +kernel
theorem f_ne14 : ∀ j, j < 18 → j ≠ 14 → lwF[[281, 282, 283, 284, 285, 286, 287, 288, 289, 290, 291, 292, 293, 294, 0, 318, 279, 280].getD j 0]? = some (Cond.not (Cond.eq (tmF 14) (tmF j))) ∨ lwF[[281, 282, 283, 284, 285, 286, 287, 288, 289, 290, 291, 292, 293, 294, 0, 318, 279, 280].getD j 0]? = some (Cond.not (Cond.eq (tmF j) (tmF 14))) := by decide +kernel
theorem f_ne15 : ∀ j, j < 18 → j ≠ 15 → lwF[[304, 305, 306, 307, 308, 309, 310, 311, 312, 313, 314, 315, 316, 317, 318, 0, 302, 303].getD j 0]? = some (Cond.not (Cond.eq (tmF 15) (tmF j))) ∨ lwF[[304, 305, 306, 307, 308, 309, 310, 311, 312, 313, 314, 315, 316, 317, 318, 0, 302, 303].getD j 0]? = some (Cond.not (Cond.eq (tmF j) (tmF 15))) := by decide +kernel
theorem f_ne16 : ∀ j, j < 18 → j ≠ 16 → lwF[[72, 81, 90, 101, 111, 124, 137, 152, 166, 183, 200, 219, 237, 258, 279, 302, 0, 66].getD j 0]? = some (Cond.not (Cond.eq (tmF 16) (tmF j))) ∨ lwF[[72, 81, 90, 101, 111, 124, 137, 152, 166, 183, 200, 219, 237, 258, 279, 302, 0, 66].getD j 0]? = some (Cond.not (Cond.eq (tmF j) (tmF 16))) := by decide +kernel
theorem f_ne17 : ∀ j, j < 18 → j ≠ 17 → lwF[[73, 82, 91, 102, 112, 125, 138, 153, 167, 184, 201, 220, 238, 259, 280, 303, 66, 0].getD j 0]? = some (Cond.not (Cond.eq (tmF 17) (tmF j))) ∨ lwF[[73, 82, 91, 102, 112, 125, 138, 153, 167, 184, 201, 220, 238, 259, 280, 303, 66, 0].getD j 0]? = some (Cond.not (Cond.eq (tmF j) (tmF 17))) := by decide +kernel
theorem f_ne : ∀ i, i < 18 → ∀ j, j < 18 → i ≠ j → Cond.not (Cond.eq (tmF i) (tmF j)) ∈ lwF ∨ Cond.not (Cond.eq (tmF j) (tmF i)) ∈ lwF := by
  intro i hi j hj hn
  have hn := Ne.symm hn
  rcases (show i = 0 ∨ i = 1 ∨ i = 2 ∨ i = 3 ∨ i = 4 ∨ i = 5 ∨ i = 6 ∨ i = 7 ∨ i = 8 ∨ i = 9 ∨ i = 10 ∨ i = 11 ∨ i = 12 ∨ i = 13 ∨ i = 14 ∨ i = 15 ∨ i = 16 ∨ i = 17 by omega) with rfl | rfl | rfl | rfl | rfl | rfl | rfl | rfl | rfl | rfl | rfl | rfl | rfl | rfl | rfl | rfl | rfl | rfl
  · exact (f_ne0 j hj hn).elim (fun h => Or.inl (List.mem_of_getElem? h)) (fun h => Or.inr (List.mem_of_getElem? h))
  · exact (f_ne1 j hj hn).elim (fun h => Or.inl (List.mem_of_getElem? h)) (fun h => Or.inr (List.mem_of_getElem? h))
  · exact (f_ne2 j hj hn).elim (fun h => Or.inl (List.mem_of_getElem? h)) (fun h => Or.inr (List.mem_of_getElem? h))
  · exact (f_ne3 j hj hn).elim (fun h => Or.inl (List.mem_of_getElem? h)) (fun h => Or.inr (List.mem_of_getElem? h))
  · exact (f_ne4 j hj hn).elim (fun h => Or.inl (List.mem_of_getElem? h)) (fun h => Or.inr (List.mem_of_getElem? h))
  · exact (f_ne5 j hj hn).elim (fun h => Or.inl (List.mem_of_getElem? h)) (fun h => Or.inr (List.mem_of_getElem? h))
  · exact (f_ne6 j hj hn).elim (fun h => Or.inl (List.mem_of_getElem? h)) (fun h => Or.inr (List.mem_of_getElem? h))
  · exact (f_ne7 j hj hn).elim (fun h => Or.inl (List.mem_of_getElem? h)) (fun h => Or.inr (List.mem_of_getElem? h))
  · exact (f_ne8 j hj hn).elim (fun h => Or.inl (List.mem_of_getElem? h)) (fun h => Or.inr (List.mem_of_getElem? h))
  · exact (f_ne9 j hj hn).elim (fun h => Or.inl (List.mem_of_getElem? h)) (fun h => Or.inr (List.mem_of_getElem? h))
  · exact (f_ne10 j hj hn).elim (fun h => Or.inl (List.mem_of_getElem? h)) (fun h => Or.inr (List.mem_of_getElem? h))
  · exact (f_ne11 j hj hn).elim (fun h => Or.inl (List.mem_of_getElem? h)) (fun h => Or.inr (List.mem_of_getElem? h))
  · exact (f_ne12 j hj hn).elim (fun h => Or.inl (List.mem_of_getElem? h)) (fun h => Or.inr (List.mem_of_getElem? h))
  · exact (f_ne13 j hj hn).elim (fun h => Or.inl (List.mem_of_getElem? h)) (fun h => Or.inr (List.mem_of_getElem? h))
  · exact (f_ne14 j hj hn).elim (fun h => Or.inl (List.mem_of_getElem? h)) (fun h => Or.inr (List.mem_of_getElem? h))
  · exact (f_ne15 j hj hn).elim (fun h => Or.inl (List.mem_of_getElem? h)) (fun h => Or.inr (List.mem_of_getElem? h))
  · exact (f_ne16 j hj hn).elim (fun h => Or.inl (List.mem_of_getElem? h)) (fun h => Or.inr (List.mem_of_getElem? h))
  · exact (f_ne17 j hj hn).elim (fun h => Or.inl (List.mem_of_getElem? h)) (fun h => Or.inr (List.mem_of_getElem? h))
theorem f_E : ∀ j, j < 16 → Cond.eq (.elem (.static "SailingDirections$Compass" "EAST" "[I") (.int (Int32.ofNat j))) (.int (g_east.getD j 0)) ∈ lwF := by decide +kernel
theorem f_N : ∀ j, j < 16 → Cond.eq (.elem (.static "SailingDirections$Compass" "NORTH" "[I") (.int (Int32.ofNat j))) (.int (g_north.getD j 0)) ∈ lwF := by decide +kernel
theorem f_sr : ∀ i, i < 16 → Cond.stringRef "SailingDirections$Compass" (16 + 2 * i) (g_txt.getD i "") ∈ lw_tbl := by decide +kernel
theorem f_tm : ∀ i, i < 16 → tmF i = Term.string "SailingDirections$Compass" (16 + 2 * i) := by decide +kernel
/-- what the Statement gives of statics and texts, at the law's entry -/
theorem st_facts {p : Program} {s : State} {m : MethodId} {meth : Method} {c : Code} {b L : Nat} {xs : Nat → Int32} (C0 : lw_At p s m meth c b L xs) : ∃ (tE tN : Nat) (adK adV : Nat → Nat),
    va_Z "SailingDirections$Compass" "EAST" "[I" (.ref tE) (fun q : Nat => s.heap.size ≤ q) s s.heap ∧ va_T .int tE 16 (fun j => .int (g_east.getD j 0)) (fun q : Nat => s.heap.size ≤ q) s s.heap ∧
    va_Z "SailingDirections$Compass" "NORTH" "[I" (.ref tN) (fun q : Nat => s.heap.size ≤ q) s s.heap ∧ va_T .int tN 16 (fun j => .int (g_north.getD j 0)) (fun q : Nat => s.heap.size ≤ q) s s.heap ∧
    va_Z "java/lang/String" "COMPACT_STRINGS" "Z" (.int 1) (fun q : Nat => s.heap.size ≤ q) s s.heap ∧
    vk_S 18 g_len g_byt adK adV (fun q : Nat => s.heap.size ≤ q) s s.heap ∧
    (∀ i, i < 16 → vk_R "SailingDirections$Compass" (16 + 2 * i) (g_txt.getD i "") (adK i) s) ∧
    vk_R "SailingDirections$Reader" 80 "blusrk" (adK 16) s ∧ vk_R "SailingDirections$Reader" 108 "maied" (adK 17) s ∧
    va_Zq "jdk/internal/util/Preconditions" "SIOOBE_FORMATTER" "Ljava/util/function/BiFunction;" (fun q : Nat => s.heap.size ≤ q) s s.heap := by
  obtain ⟨hx, hb, hr, hml, hown, hts, hX, hbl, hlocks, hgv⟩ := C0
  have hf := flat_of_before _ hgv
  have hA : ∀ a : Nat, a < s.heap.size → ¬ (fun q : Nat => s.heap.size ≤ q) a := fun a h => Nat.not_le.mpr h
  obtain ⟨tE, hE, hTE⟩ := va_Tof (args := #[Value.ref b]) (s := s) (tm := .static "SailingDirections$Compass" "EAST" "[I") (ty := .int) (N := 16) (f := fun j => .int (g_east.getD j 0)) (by decide) (hf _ (by decide +kernel)) (va_eqt (hf _ (by decide +kernel))) (fun j hj => va_eqt (hf _ (f_E j hj))) hA
  obtain ⟨tN, hN, hTN⟩ := va_Tof (args := #[Value.ref b]) (s := s) (tm := .static "SailingDirections$Compass" "NORTH" "[I") (ty := .int) (N := 16) (f := fun j => .int (g_north.getD j 0)) (by decide) (hf _ (by decide +kernel)) (va_eqt (hf _ (by decide +kernel))) (fun j hj => va_eqt (hf _ (f_N j hj))) hA
  obtain ⟨adK, adV, hS, hev⟩ := vk_Sof (args := #[Value.ref b]) (s := s) (N := 18) (tm := tmF) (len := g_len) (byt := g_byt) (by decide) (fun i hi => hf _ (f_ex i hi)) (fun i hi => hf _ (f_co i hi)) (fun i hi => hf _ (f_ar i hi)) (fun i hi => hf _ (f_le i hi)) (fun i hi j hj => hf _ (f_el i hi j hj)) (fun i j hi hj hn => (f_ne i hi j hj hn).elim (fun h => Or.inl (hf _ h)) (fun h => Or.inr (hf _ h))) hA
  refine ⟨tE, tN, adK, adV, va_Zof (hts _ (by decide +kernel)) (hts _ (by decide +kernel)) hE hA, hTE, va_Zof (hts _ (by decide +kernel)) (hts _ (by decide +kernel)) hN hA, hTN, va_Zof (hts _ (by decide +kernel)) (hts _ (by decide +kernel)) (va_eqi (hf _ (by decide +kernel))) hA, hS, fun i hi => ?_, ?_, ?_, va_Zqof (hts _ (by decide +kernel)) (hts _ (by decide +kernel)) (hf _ (by decide +kernel)) hA⟩
  · exact vk_R.of (hts _ (f_sr i hi)) (by rw [← f_tm i hi]; exact hev i (by omega))
  · exact vk_R.of (hts _ (by decide +kernel)) (hev 16 (by decide))
  · exact vk_R.of (hts _ (by decide +kernel)) (hev 17 (by decide))
