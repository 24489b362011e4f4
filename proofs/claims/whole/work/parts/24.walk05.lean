set_option maxHeartbeats 4000000 in
set_option maxRecDepth 100000 in
theorem c_X9_hasCome {l : Launch} {G : GT} {lam : Lm} {σ : St} {a1 : Int32} {a2 : Int32} {a3 : Int32} {a4 : Int32} {a5 : Int32} {q : Int32 × St} (h : f_X9_hasCome σ a1 a2 a3 a4 a5 = some q) : Met l yX9_hasCome (Cond.code yX9_hasCome cX9_hasCome 6 ((some .boolean)) :: TB) ({ frames := 3, cells := 0, slots := 0, locals := 74 } : Room) (va_Pc [.ref (g_ad G 12), .int a1, .int a2, .int a3, .int a4, .int a5] (GW G lam σ)) (Ri q G lam) 0 0 (g_A G) := by
  refine mk_Qi (own := RX9) (by decide) (Nat.le_of_ble_eq_true rfl) rfl (fun p e s m args below meth c C hr hlocks hP ls hl => ?_)
  have hx := C.1
  have hb := C.2.1
  have hl : lv_has ls 6 [(0, .ref (g_ad G 12)), (1, .int a1), (2, .int a2), (3, .int a3), (4, .int a4), (5, .int a5)] := hl
  have hS : va_S (g_A G) s.heap s.heap [] := va_S.rf
  unfold f_X9_hasCome at h
  refine lv_aload_n hx hb dX9_hasCome_0 rfl (lv_at hl 0 rfl) ?_
  refine gf_X9_15_12 C hP dX9_hasCome_1 ?_
  by_cases c28 : (σ 12 3) = 0
  · replace h := h_t c28 h
    refine r_eq c28 ?_
    refine lv_tableIn (off := 32) (tgt := 36) hx hb dX9_hasCome_4 (by decide) (by decide) (by decide) (by decide) ?_
    refine lv_iload_n hx hb dX9_hasCome_36 rfl (lv_at hl 1 rfl) ?_
    refine lv_aload_n hx hb dX9_hasCome_37 rfl (lv_at hl 0 rfl) ?_
    refine gf_X9_18_12 C hP dX9_hasCome_38 ?_
    refine lv_icmp_lt (tgt := 48) hx hb dX9_hasCome_41 (by decide) (fun c27 => ?_) (fun c27 => ?_)
    · replace h := h_t c27 h
      refine lv_iconst (v := 0) hx hb dX9_hasCome_48 (by decide) ?_
      exact ret_z C hr hlocks hP hS h (Or.inl rfl) dX9_hasCome_49
    · replace h := h_f c27 h
      refine lv_iconst (v := 1) hx hb dX9_hasCome_44 (by decide) ?_
      refine lv_goto (tgt := 49) hx hb dX9_hasCome_45 (by decide) ?_
      exact ret_z C hr hlocks hP hS h (Or.inr rfl) dX9_hasCome_49
  replace h := h_f c28 h
  by_cases c35 : (σ 12 3) = 1
  · replace h := h_t c35 h
    refine r_eq c35 ?_
    refine lv_tableIn (off := 46) (tgt := 50) hx hb dX9_hasCome_4 (by decide) (by decide) (by decide) (by decide) ?_
    refine lv_aload_n hx hb dX9_hasCome_50 rfl (lv_at hl 0 rfl) ?_
    refine gf_X9_38_12 C hP dX9_hasCome_51 ?_
    refine lv_aload_n hx hb dX9_hasCome_54 rfl (lv_at hl 0 rfl) ?_
    refine gf_X9_18_12 C hP dX9_hasCome_55 ?_
    refine lv_iload_n hx hb dX9_hasCome_58 rfl (lv_at hl 2 rfl) ?_
    refine lv_iload_n hx hb dX9_hasCome_59 rfl (lv_at hl 3 rfl) ?_
    refine lv_iload hx hb dX9_hasCome_60 (lv_at hl 4 rfl) ?_
    refine lv_aload_n hx hb dX9_hasCome_62 rfl (lv_at hl 0 rfl) ?_
    refine gf_X9_9_12 C hP dX9_hasCome_63 ?_
    obtain ⟨q29, e30, h⟩ := bnd h
    refine call_i C hP hS (c_X1_isInSight e30) mi_X1_isInSight mw_965 7 (by decide) rfl rfl ⟨Nat.le_of_ble_eq_true rfl, Nat.le_of_ble_eq_true rfl⟩ (As := [.int (σ 12 4), .int a2, .int a3, .int a4, .int (σ 12 2)]) rfl hl.1 rfl (lv_room (Nat.le_of_ble_eq_true rfl)) dX9_hasCome_66 (fun H locs hP hS => ?_)
    refine lv_if_eq (tgt := 87) hx hb dX9_hasCome_69 (by decide) (fun c31 => ?_) (fun c31 => ?_)
    · replace h := h_t c31 h
      refine lv_iconst (v := 0) hx hb dX9_hasCome_87 (by decide) ?_
      exact ret_z C hr hlocks hP hS h (Or.inl rfl) dX9_hasCome_88
    · replace h := h_f c31 h
      refine lv_aload_n hx hb dX9_hasCome_72 rfl (lv_at hl 0 rfl) ?_
      refine lv_iload_n hx hb dX9_hasCome_73 rfl (lv_at hl 2 rfl) ?_
      refine lv_iload_n hx hb dX9_hasCome_74 rfl (lv_at hl 3 rfl) ?_
      refine lv_iload hx hb dX9_hasCome_75 (lv_at hl 4 rfl) ?_
      obtain ⟨q32, e33, h⟩ := bnd h
      refine call_i C hP hS (c_X9_isAbeam e33) mi_X9_isAbeam mw_987 12 (by decide) rfl rfl ⟨Nat.le_of_ble_eq_true rfl, Nat.le_of_ble_eq_true rfl⟩ (As := [.int a2, .int a3, .int a4]) rfl hl.1 rfl (lv_room (Nat.le_of_ble_eq_true rfl)) dX9_hasCome_77 (fun H locs hP hS => ?_)
      refine lv_if_eq (tgt := 87) hx hb dX9_hasCome_80 (by decide) (fun c34 => ?_) (fun c34 => ?_)
      · replace h := h_t c34 h
        refine lv_iconst (v := 0) hx hb dX9_hasCome_87 (by decide) ?_
        exact ret_z C hr hlocks hP hS h (Or.inl rfl) dX9_hasCome_88
      · replace h := h_f c34 h
        refine lv_iconst (v := 1) hx hb dX9_hasCome_83 (by decide) ?_
        refine lv_goto (tgt := 88) hx hb dX9_hasCome_84 (by decide) ?_
        exact ret_z C hr hlocks hP hS h (Or.inr rfl) dX9_hasCome_88
  replace h := h_f c35 h
  by_cases c47 : (σ 12 3) = 2
  · replace h := h_t c47 h
    refine r_eq c47 ?_
    refine lv_tableIn (off := 85) (tgt := 89) hx hb dX9_hasCome_4 (by decide) (by decide) (by decide) (by decide) ?_
    refine lv_aload_n hx hb dX9_hasCome_89 rfl (lv_at hl 0 rfl) ?_
    refine gf_X9_38_12 C hP dX9_hasCome_90 ?_
    refine lv_aload_n hx hb dX9_hasCome_93 rfl (lv_at hl 0 rfl) ?_
    refine gf_X9_18_12 C hP dX9_hasCome_94 ?_
    refine lv_iload_n hx hb dX9_hasCome_97 rfl (lv_at hl 2 rfl) ?_
    refine lv_iload_n hx hb dX9_hasCome_98 rfl (lv_at hl 3 rfl) ?_
    refine lv_iload hx hb dX9_hasCome_99 (lv_at hl 4 rfl) ?_
    refine lv_aload_n hx hb dX9_hasCome_101 rfl (lv_at hl 0 rfl) ?_
    refine gf_X9_9_12 C hP dX9_hasCome_102 ?_
    obtain ⟨q36, e37, h⟩ := bnd h
    refine call_i C hP hS (c_X1_isInSight e37) mi_X1_isInSight mw_965 7 (by decide) rfl rfl ⟨Nat.le_of_ble_eq_true rfl, Nat.le_of_ble_eq_true rfl⟩ (As := [.int (σ 12 4), .int a2, .int a3, .int a4, .int (σ 12 2)]) rfl hl.1 rfl (lv_room (Nat.le_of_ble_eq_true rfl)) dX9_hasCome_105 (fun H locs hP hS => ?_)
    refine lv_if_eq (tgt := 152) hx hb dX9_hasCome_108 (by decide) (fun c38 => ?_) (fun c38 => ?_)
    · replace h := h_t c38 h
      refine lv_iconst (v := 0) hx hb dX9_hasCome_152 (by decide) ?_
      exact ret_z C hr hlocks hP hS h (Or.inl rfl) dX9_hasCome_153
    · replace h := h_f c38 h
      refine lv_aload_n hx hb dX9_hasCome_111 rfl (lv_at hl 0 rfl) ?_
      refine gf_X9_38_12 C hP dX9_hasCome_112 ?_
      refine lv_aload_n hx hb dX9_hasCome_115 rfl (lv_at hl 0 rfl) ?_
      refine gf_X9_21_12 C hP dX9_hasCome_116 ?_
      refine lv_iload_n hx hb dX9_hasCome_119 rfl (lv_at hl 2 rfl) ?_
      refine lv_iload_n hx hb dX9_hasCome_120 rfl (lv_at hl 3 rfl) ?_
      refine lv_iload hx hb dX9_hasCome_121 (lv_at hl 4 rfl) ?_
      refine lv_aload_n hx hb dX9_hasCome_123 rfl (lv_at hl 0 rfl) ?_
      refine gf_X9_9_12 C hP dX9_hasCome_124 ?_
      obtain ⟨q39, e40, h⟩ := bnd h
      refine call_i C hP hS (c_X1_isInSight e40) mi_X1_isInSight mw_965 7 (by decide) rfl rfl ⟨Nat.le_of_ble_eq_true rfl, Nat.le_of_ble_eq_true rfl⟩ (As := [.int (q36.2 12 5), .int a2, .int a3, .int a4, .int (q36.2 12 2)]) rfl hl.1 rfl (lv_room (Nat.le_of_ble_eq_true rfl)) dX9_hasCome_127 (fun H locs hP hS => ?_)
      refine lv_if_eq (tgt := 152) hx hb dX9_hasCome_130 (by decide) (fun c41 => ?_) (fun c41 => ?_)
      · replace h := h_t c41 h
        refine lv_iconst (v := 0) hx hb dX9_hasCome_152 (by decide) ?_
        exact ret_z C hr hlocks hP hS h (Or.inl rfl) dX9_hasCome_153
      · replace h := h_f c41 h
        refine lv_aload_n hx hb dX9_hasCome_133 rfl (lv_at hl 0 rfl) ?_
        refine lv_aload_n hx hb dX9_hasCome_134 rfl (lv_at hl 0 rfl) ?_
        refine lv_iload_n hx hb dX9_hasCome_135 rfl (lv_at hl 2 rfl) ?_
        refine lv_iload_n hx hb dX9_hasCome_136 rfl (lv_at hl 3 rfl) ?_
        refine lv_iload hx hb dX9_hasCome_137 (lv_at hl 4 rfl) ?_
        obtain ⟨q42, e43, h⟩ := bnd h
        refine call_i C hP hS (c_X9_turnOfMarks e43) mi_X9_turnOfMarks mw_966 12 (by decide) rfl rfl ⟨Nat.le_of_ble_eq_true rfl, Nat.le_of_ble_eq_true rfl⟩ (As := [.int a2, .int a3, .int a4]) rfl hl.1 rfl (lv_room (Nat.le_of_ble_eq_true rfl)) dX9_hasCome_139 (fun H locs hP hS => ?_)
        obtain ⟨q44, e45, h⟩ := bnd h
        refine call_i C hP hS (c_X9_isCrossed e45) mi_X9_isCrossed mw_993 12 (by decide) rfl rfl ⟨Nat.le_of_ble_eq_true rfl, Nat.le_of_ble_eq_true rfl⟩ (As := [.int q42.1]) rfl hl.1 rfl (lv_room (Nat.le_of_ble_eq_true rfl)) dX9_hasCome_142 (fun H locs hP hS => ?_)
        refine lv_if_eq (tgt := 152) hx hb dX9_hasCome_145 (by decide) (fun c46 => ?_) (fun c46 => ?_)
        · replace h := h_t c46 h
          refine lv_iconst (v := 0) hx hb dX9_hasCome_152 (by decide) ?_
          exact ret_z C hr hlocks hP hS h (Or.inl rfl) dX9_hasCome_153
        · replace h := h_f c46 h
          refine lv_iconst (v := 1) hx hb dX9_hasCome_148 (by decide) ?_
          refine lv_goto (tgt := 153) hx hb dX9_hasCome_149 (by decide) ?_
          exact ret_z C hr hlocks hP hS h (Or.inr rfl) dX9_hasCome_153
  replace h := h_f c47 h
  by_cases c51 : (σ 12 3) = 3
  · replace h := h_t c51 h
    refine r_eq c51 ?_
    refine lv_tableIn (off := 150) (tgt := 154) hx hb dX9_hasCome_4 (by decide) (by decide) (by decide) (by decide) ?_
    refine lv_aload_n hx hb dX9_hasCome_154 rfl (lv_at hl 0 rfl) ?_
    refine gf_X9_38_12 C hP dX9_hasCome_155 ?_
    refine lv_aload_n hx hb dX9_hasCome_158 rfl (lv_at hl 0 rfl) ?_
    refine gf_X9_18_12 C hP dX9_hasCome_159 ?_
    refine lv_iload_n hx hb dX9_hasCome_162 rfl (lv_at hl 2 rfl) ?_
    refine lv_iload_n hx hb dX9_hasCome_163 rfl (lv_at hl 3 rfl) ?_
    refine lv_iload hx hb dX9_hasCome_164 (lv_at hl 4 rfl) ?_
    refine lv_aload_n hx hb dX9_hasCome_166 rfl (lv_at hl 0 rfl) ?_
    refine gf_X9_9_12 C hP dX9_hasCome_167 ?_
    obtain ⟨q48, e49, h⟩ := bnd h
    refine call_i C hP hS (c_X1_isInSight e49) mi_X1_isInSight mw_965 7 (by decide) rfl rfl ⟨Nat.le_of_ble_eq_true rfl, Nat.le_of_ble_eq_true rfl⟩ (As := [.int (σ 12 4), .int a2, .int a3, .int a4, .int (σ 12 2)]) rfl hl.1 rfl (lv_room (Nat.le_of_ble_eq_true rfl)) dX9_hasCome_170 (fun H locs hP hS => ?_)
    refine lv_aload_n hx hb dX9_hasCome_173 rfl (lv_at hl 0 rfl) ?_
    refine gf_X9_27_12 C hP dX9_hasCome_174 ?_
    refine lv_icmp_eq (tgt := 184) hx hb dX9_hasCome_177 (by decide) (fun c50 => ?_) (fun c50 => ?_)
    · replace h := h_t c50 h
      refine lv_iconst (v := 0) hx hb dX9_hasCome_184 (by decide) ?_
      exact ret_z C hr hlocks hP hS h (Or.inl rfl) dX9_hasCome_185
    · replace h := h_f c50 h
      refine lv_iconst (v := 1) hx hb dX9_hasCome_180 (by decide) ?_
      refine lv_goto (tgt := 185) hx hb dX9_hasCome_181 (by decide) ?_
      exact ret_z C hr hlocks hP hS h (Or.inr rfl) dX9_hasCome_185
  replace h := h_f c51 h
  refine lv_tableOut (tgt := 186) hx hb dX9_hasCome_4 (by have hz := And.intro (ne_i (z := 0) (by decide) c28) (And.intro (ne_i (z := 1) (by decide) c35) (And.intro (ne_i (z := 2) (by decide) c47) (ne_i (z := 3) (by decide) c51))); omega) (by decide) ?_
  refine lv_iload hx hb dX9_hasCome_186 (lv_at hl 5 rfl) ?_
  refine lv_aload_n hx hb dX9_hasCome_188 rfl (lv_at hl 0 rfl) ?_
  refine gf_X9_18_12 C hP dX9_hasCome_189 ?_
  refine lv_icmp_gt (tgt := 199) hx hb dX9_hasCome_192 (by decide) (fun c52 => ?_) (fun c52 => ?_)
  · replace h := h_t c52 h
    refine lv_iconst (v := 0) hx hb dX9_hasCome_199 (by decide) ?_
    exact ret_z C hr hlocks hP hS h (Or.inl rfl) dX9_hasCome_200
  · replace h := h_f c52 h
    refine lv_iconst (v := 1) hx hb dX9_hasCome_195 (by decide) ?_
    refine lv_goto (tgt := 200) hx hb dX9_hasCome_196 (by decide) ?_
    exact ret_z C hr hlocks hP hS h (Or.inr rfl) dX9_hasCome_200
set_option maxHeartbeats 4000000 in
set_option maxRecDepth 100000 in
theorem c_X8_goLeg {l : Launch} {G : GT} {lam : Lm} {σ : St} {a1 : Int32} {a2 : Int32} {q : St} (h : f_X8_goLeg σ a1 a2 = some q) : Met l yX8_goLeg (Cond.code yX8_goLeg cX8_goLeg 6 none :: TB) ({ frames := 4, cells := 0, slots := 0, locals := 99 } : Room) (va_Pc [.ref (g_ad G 8), .int a1, .int a2] (GW G lam σ)) (Rv q G lam) 0 0 (g_A G) := by
  refine mk_Qv (own := RX8) (by decide) (Nat.le_of_ble_eq_true rfl) rfl (fun p e s m args below meth c C hr hlocks hP ls hl => ?_)
  have hx := C.1
  have hb := C.2.1
  have hl : lv_has ls 6 [(0, .ref (g_ad G 8)), (1, .int a1), (2, .int a2)] := hl
  have L33 : ∀ (n33 : Nat) (σ : St) (x1 : Int32) (x2 : Int32) (x3 : Int32) (H : Heap) (locs : List Loc) (ls : Array Slot), fx (F_X8_goLeg_h33) z_X8_goLeg_h33 n33 σ x1 x2 x3 = some q → va_P (g_D G) vwCl (allW G lam σ) H → va_S (g_A G) s.heap H locs → lv_has ls 6 [(0, .ref (g_ad G 8)), (1, .int x1), (2, .int x2), (3, .int x3)] → W p l e ({ frames := 4, cells := 0, slots := 0, locals := 99 } : Room) s m args below meth c H locs 0 0 (Qv q below args s G lam) (F0 m 33 ls []) := by
    intro n33
    induction n33 with
    | zero => intro σ x1 x2 x3 H locs ls h hP hS hl; exact absurd h (by intro h9; cases h9)
    | succ n33 ih33 =>
      intro σ x1 x2 x3 H locs ls h hP hS hl
      change F_X8_goLeg_h33 (fx (F_X8_goLeg_h33) z_X8_goLeg_h33 n33) σ x1 x2 x3 = some q at h
      unfold F_X8_goLeg_h33 at h
      refine lv_iload_n hx hb dX8_goLeg_33 rfl (lv_at hl 3 rfl) ?_
      refine lv_bipush (v := 60) hx hb dX8_goLeg_34 (by decide) ?_
      refine lv_icmp_gt (tgt := 207) hx hb dX8_goLeg_36 (by decide) (fun c43 => ?_) (fun c43 => ?_)
      · replace h := h_t c43 h
        refine lv_aload_n hx hb dX8_goLeg_207 rfl (lv_at hl 0 rfl) ?_
        refine lv_iconst (v := 5) hx hb dX8_goLeg_208 (by decide) ?_
        refine pf_X8_35_8 C hP hS dX8_goLeg_209 (fun H locs hP hS => ?_)
        obtain ⟨σ44, e45, h⟩ := bnd h
        have hP := hPn e45 hP
        exact ret_v C hr hlocks hP hS h dX8_goLeg_212
      · replace h := h_f c43 h
        refine lv_aload_n hx hb dX8_goLeg_39 rfl (lv_at hl 0 rfl) ?_
        refine lv_dup hx hb dX8_goLeg_40 rfl ?_
        refine gf_X8_23_8 C hP dX8_goLeg_41 ?_
        refine lv_iload_n hx hb dX8_goLeg_44 rfl (lv_at hl 2 rfl) ?_
        obtain ⟨q46, e47, h⟩ := bnd h
        refine scall_i C hP hS (c_X2_eastOf e47) ms_X2_eastOf mw_971 ⟨Nat.le_of_ble_eq_true rfl, Nat.le_of_ble_eq_true rfl⟩ (As := [.int x2]) rfl hl.1 rfl (lv_room (Nat.le_of_ble_eq_true rfl)) dX8_goLeg_45 (fun H locs hP hS => ?_)
        refine lv_iadd hx hb dX8_goLeg_48 ?_
        refine pf_X8_23_8 C hP hS dX8_goLeg_49 (fun H locs hP hS => ?_)
        obtain ⟨σ48, e49, h⟩ := bnd h
        have hP := hPn e49 hP
        refine lv_aload_n hx hb dX8_goLeg_52 rfl (lv_at hl 0 rfl) ?_
        refine lv_dup hx hb dX8_goLeg_53 rfl ?_
        refine gf_X8_26_8 C hP dX8_goLeg_54 ?_
        refine lv_iload_n hx hb dX8_goLeg_57 rfl (lv_at hl 2 rfl) ?_
        obtain ⟨q50, e51, h⟩ := bnd h
        refine scall_i C hP hS (c_X2_northOf e51) ms_X2_northOf mw_974 ⟨Nat.le_of_ble_eq_true rfl, Nat.le_of_ble_eq_true rfl⟩ (As := [.int x2]) rfl hl.1 rfl (lv_room (Nat.le_of_ble_eq_true rfl)) dX8_goLeg_58 (fun H locs hP hS => ?_)
        refine lv_iadd hx hb dX8_goLeg_61 ?_
        refine pf_X8_26_8 C hP hS dX8_goLeg_62 (fun H locs hP hS => ?_)
        obtain ⟨σ52, e53, h⟩ := bnd h
        have hP := hPn e53 hP
        refine lv_aload_n hx hb dX8_goLeg_65 rfl (lv_at hl 0 rfl) ?_
        refine lv_dup hx hb dX8_goLeg_66 rfl ?_
        refine gf_X8_20_8 C hP dX8_goLeg_67 ?_
        refine lv_iconst (v := 1) hx hb dX8_goLeg_70 (by decide) ?_
        refine lv_iadd hx hb dX8_goLeg_71 ?_
        refine pf_X8_20_8 C hP hS dX8_goLeg_72 (fun H locs hP hS => ?_)
        obtain ⟨σ54, e55, h⟩ := bnd h
        have hP := hPn e55 hP
        refine lv_aload_n hx hb dX8_goLeg_75 rfl (lv_at hl 0 rfl) ?_
        refine lv_iload_n hx hb dX8_goLeg_76 rfl (lv_at hl 1 rfl) ?_
        obtain ⟨q56, e57, h⟩ := bnd h
        refine call_v C hP hS (c_X8_noteTrack e57) mi_X8_noteTrack mw_938 8 (by decide) rfl rfl ⟨Nat.le_of_ble_eq_true rfl, Nat.le_of_ble_eq_true rfl⟩ (As := [.int x1]) rfl hl.1 rfl (lv_room (Nat.le_of_ble_eq_true rfl)) dX8_goLeg_77 (fun H locs hP hS => ?_)
        refine lv_aload_n hx hb dX8_goLeg_80 rfl (lv_at hl 0 rfl) ?_
        refine lv_iload_n hx hb dX8_goLeg_81 rfl (lv_at hl 1 rfl) ?_
        refine lv_iload_n hx hb dX8_goLeg_82 rfl (lv_at hl 3 rfl) ?_
        obtain ⟨q58, e59, h⟩ := bnd h
        refine call_v C hP hS (c_X8_noteMinutes e59) mi_X8_noteMinutes mw_944 8 (by decide) rfl rfl ⟨Nat.le_of_ble_eq_true rfl, Nat.le_of_ble_eq_true rfl⟩ (As := [.int x1, .int x3]) rfl hl.1 rfl (lv_room (Nat.le_of_ble_eq_true rfl)) dX8_goLeg_83 (fun H locs hP hS => ?_)
        refine lv_aload_n hx hb dX8_goLeg_86 rfl (lv_at hl 0 rfl) ?_
        refine gf_X8_23_8 C hP dX8_goLeg_87 ?_
        refine lv_aload_n hx hb dX8_goLeg_90 rfl (lv_at hl 0 rfl) ?_
        refine gf_X8_26_8 C hP dX8_goLeg_91 ?_
        obtain ⟨q60, e61, h⟩ := bnd h
        refine scall_i C hP hS (c_X1_isCharted e61) ms_X1_isCharted mw_977 ⟨Nat.le_of_ble_eq_true rfl, Nat.le_of_ble_eq_true rfl⟩ (As := [.int (q58 8 4), .int (q58 8 5)]) rfl hl.1 rfl (lv_room (Nat.le_of_ble_eq_true rfl)) dX8_goLeg_94 (fun H locs hP hS => ?_)
        refine lv_if_ne (tgt := 106) hx hb dX8_goLeg_97 (by decide) (fun c62 => ?_) (fun c62 => ?_)
        · replace h := h_f c62 h
          refine lv_aload_n hx hb dX8_goLeg_106 rfl (lv_at hl 0 rfl) ?_
          refine gf_X8_65_8 C hP dX8_goLeg_107 ?_
          refine lv_aload_n hx hb dX8_goLeg_110 rfl (lv_at hl 0 rfl) ?_
          refine gf_X8_13_8 C hP dX8_goLeg_111 ?_
          refine lv_aload_n hx hb dX8_goLeg_114 rfl (lv_at hl 0 rfl) ?_
          refine gf_X8_20_8 C hP dX8_goLeg_115 ?_
          refine lv_iadd hx hb dX8_goLeg_118 ?_
          obtain ⟨q63, e64, h⟩ := bnd h
          refine call_i C hP hS (c_X1_heightAt e64) mi_X1_heightAt mw_960 7 (by decide) rfl rfl ⟨Nat.le_of_ble_eq_true rfl, Nat.le_of_ble_eq_true rfl⟩ (As := [.int ((q60.2 8 1) + (q60.2 8 3))]) rfl hl.1 rfl (lv_room (Nat.le_of_ble_eq_true rfl)) dX8_goLeg_119 (fun H locs hP hS => ?_)
          refine lv_istore (lv' := [(4, .int q63.1), (0, .ref (g_ad G 8)), (1, .int x1), (2, .int x2), (3, .int x3)]) hx hb dX8_goLeg_122 hl (by decide) rfl (fun ls hl => ?_)
          refine lv_aload_n hx hb dX8_goLeg_124 rfl (lv_at hl 1 rfl) ?_
          refine gf_X8_65_8 C hP dX8_goLeg_125 ?_
          refine lv_aload_n hx hb dX8_goLeg_128 rfl (lv_at hl 1 rfl) ?_
          refine gf_X8_23_8 C hP dX8_goLeg_129 ?_
          refine lv_aload_n hx hb dX8_goLeg_132 rfl (lv_at hl 1 rfl) ?_
          refine gf_X8_26_8 C hP dX8_goLeg_133 ?_
          obtain ⟨q65, e66, h⟩ := bnd h
          refine call_i C hP hS (c_X1_depthAt e66) mi_X1_depthAt mw_978 7 (by decide) rfl rfl ⟨Nat.le_of_ble_eq_true rfl, Nat.le_of_ble_eq_true rfl⟩ (As := [.int (q63.2 8 4), .int (q63.2 8 5)]) rfl hl.1 rfl (lv_room (Nat.le_of_ble_eq_true rfl)) dX8_goLeg_136 (fun H locs hP hS => ?_)
          refine lv_iload hx hb dX8_goLeg_139 (lv_at hl 0 rfl) ?_
          refine lv_iadd hx hb dX8_goLeg_141 ?_
          obtain ⟨y67, e68, h⟩ := bnd h
          refine r_nm e68 ?_
          refine lv_istore (lv' := [(5, .int y67), (4, .int q63.1), (0, .ref (g_ad G 8)), (1, .int x1), (2, .int x2), (3, .int x3)]) hx hb dX8_goLeg_142 hl (by decide) rfl (fun ls hl => ?_)
          refine lv_aload_n hx hb dX8_goLeg_144 rfl (lv_at hl 2 rfl) ?_
          refine lv_iload hx hb dX8_goLeg_145 (lv_at hl 0 rfl) ?_
          refine lv_aload_n hx hb dX8_goLeg_147 rfl (lv_at hl 2 rfl) ?_
          refine gf_X8_17_8 C hP dX8_goLeg_148 ?_
          refine lv_isub hx hb dX8_goLeg_151 ?_
          obtain ⟨q69, e70, h⟩ := bnd h
          refine call_v C hP hS (c_X8_noteKeel e70) mi_X8_noteKeel mw_979 8 (by decide) rfl rfl ⟨Nat.le_of_ble_eq_true rfl, Nat.le_of_ble_eq_true rfl⟩ (As := [.int (y67 - (q65.2 8 2))]) rfl hl.1 rfl (lv_room (Nat.le_of_ble_eq_true rfl)) dX8_goLeg_152 (fun H locs hP hS => ?_)
          refine lv_iload hx hb dX8_goLeg_155 (lv_at hl 0 rfl) ?_
          refine lv_aload_n hx hb dX8_goLeg_157 rfl (lv_at hl 2 rfl) ?_
          refine gf_X8_17_8 C hP dX8_goLeg_158 ?_
          refine lv_icmp_ge (tgt := 170) hx hb dX8_goLeg_161 (by decide) (fun c71 => ?_) (fun c71 => ?_)
          · replace h := h_t c71 h
            refine lv_aload_n hx hb dX8_goLeg_170 rfl (lv_at hl 2 rfl) ?_
            refine gf_X8_74_8 C hP dX8_goLeg_171 ?_
            refine lv_iload_n hx hb dX8_goLeg_174 rfl (lv_at hl 5 rfl) ?_
            refine lv_aload_n hx hb dX8_goLeg_175 rfl (lv_at hl 2 rfl) ?_
            refine gf_X8_23_8 C hP dX8_goLeg_176 ?_
            refine lv_aload_n hx hb dX8_goLeg_179 rfl (lv_at hl 2 rfl) ?_
            refine gf_X8_26_8 C hP dX8_goLeg_180 ?_
            refine lv_iload hx hb dX8_goLeg_183 (lv_at hl 1 rfl) ?_
            refine lv_iload hx hb dX8_goLeg_185 (lv_at hl 0 rfl) ?_
            obtain ⟨q72, e73, h⟩ := bnd h
            refine call_i C hP hS (c_X9_hasCome e73) mi_X9_hasCome mw_983 12 (by decide) rfl rfl ⟨Nat.le_of_ble_eq_true rfl, Nat.le_of_ble_eq_true rfl⟩ (As := [.int x3, .int (q69 8 4), .int (q69 8 5), .int q63.1, .int y67]) rfl hl.1 rfl (lv_room (Nat.le_of_ble_eq_true rfl)) dX8_goLeg_187 (fun H locs hP hS => ?_)
            refine lv_if_eq (tgt := 201) hx hb dX8_goLeg_190 (by decide) (fun c74 => ?_) (fun c74 => ?_)
            · replace h := h_t c74 h
              obtain ⟨y75, e76, h⟩ := bnd h
              refine lv_iinc (v := y75) (lv' := [(3, .int y75), (5, .int y67), (4, .int q63.1), (0, .ref (g_ad G 8)), (1, .int x1), (2, .int x2)]) hx hb dX8_goLeg_201 hl (k := 5) rfl (Option.some.inj e76) (by decide) rfl (fun ls hl => ?_)
              refine lv_goto (tgt := 33) hx hb dX8_goLeg_204 (by decide) ?_
              exact ih33 _ _ _ _ H locs ls h hP hS (lv_sub hl [3, 4, 5, 0] rfl)
            · replace h := h_f c74 h
              refine lv_aload_n hx hb dX8_goLeg_193 rfl (lv_at hl 2 rfl) ?_
              refine lv_iload_n hx hb dX8_goLeg_194 rfl (lv_at hl 3 rfl) ?_
              refine lv_iconst (v := 1) hx hb dX8_goLeg_195 (by decide) ?_
              refine lv_iadd hx hb dX8_goLeg_196 ?_
              refine pf_X8_32_8 C hP hS dX8_goLeg_197 (fun H locs hP hS => ?_)
              obtain ⟨σ77, e78, h⟩ := bnd h
              have hP := hPn e78 hP
              exact ret_v C hr hlocks hP hS h dX8_goLeg_200
          · replace h := h_f c71 h
            refine lv_aload_n hx hb dX8_goLeg_164 rfl (lv_at hl 2 rfl) ?_
            refine lv_iconst (v := 4) hx hb dX8_goLeg_165 (by decide) ?_
            refine pf_X8_35_8 C hP hS dX8_goLeg_166 (fun H locs hP hS => ?_)
            obtain ⟨σ79, e80, h⟩ := bnd h
            have hP := hPn e80 hP
            exact ret_v C hr hlocks hP hS h dX8_goLeg_169
        · replace h := h_t c62 h
          refine lv_aload_n hx hb dX8_goLeg_100 rfl (lv_at hl 0 rfl) ?_
          refine lv_iconst (v := 3) hx hb dX8_goLeg_101 (by decide) ?_
          refine pf_X8_35_8 C hP hS dX8_goLeg_102 (fun H locs hP hS => ?_)
          obtain ⟨σ81, e82, h⟩ := bnd h
          have hP := hPn e82 hP
          exact ret_v C hr hlocks hP hS h dX8_goLeg_105
  have hS : va_S (g_A G) s.heap s.heap [] := va_S.rf
  unfold f_X8_goLeg at h
  obtain ⟨H, hH⟩ : ∃ H, H = s.heap := ⟨_, rfl⟩
  obtain ⟨locs, hlo⟩ : ∃ k : List Loc, k = [] := ⟨_, rfl⟩
  rw [← hH, ← hlo]
  rw [← hH] at hP
  replace hS : va_S (g_A G) s.heap H locs := by rw [hH, hlo]; exact hS
  refine lv_aload_n hx hb dX8_goLeg_0 rfl (lv_at hl 0 rfl) ?_
  refine gf_X8_74_8 C hP dX8_goLeg_1 ?_
  refine lv_aload_n hx hb dX8_goLeg_4 rfl (lv_at hl 0 rfl) ?_
  refine gf_X8_23_8 C hP dX8_goLeg_5 ?_
  refine lv_aload_n hx hb dX8_goLeg_8 rfl (lv_at hl 0 rfl) ?_
  refine gf_X8_26_8 C hP dX8_goLeg_9 ?_
  refine lv_aload_n hx hb dX8_goLeg_12 rfl (lv_at hl 0 rfl) ?_
  refine gf_X8_65_8 C hP dX8_goLeg_13 ?_
  refine lv_aload_n hx hb dX8_goLeg_16 rfl (lv_at hl 0 rfl) ?_
  refine gf_X8_13_8 C hP dX8_goLeg_17 ?_
  refine lv_aload_n hx hb dX8_goLeg_20 rfl (lv_at hl 0 rfl) ?_
  refine gf_X8_20_8 C hP dX8_goLeg_21 ?_
  refine lv_iadd hx hb dX8_goLeg_24 ?_
  obtain ⟨q83, e84, h⟩ := bnd h
  refine call_i C hP hS (c_X1_heightAt e84) mi_X1_heightAt mw_960 7 (by decide) rfl rfl ⟨Nat.le_of_ble_eq_true rfl, Nat.le_of_ble_eq_true rfl⟩ (As := [.int ((σ 8 1) + (σ 8 3))]) rfl hl.1 rfl (lv_room (Nat.le_of_ble_eq_true rfl)) dX8_goLeg_25 (fun H locs hP hS => ?_)
  obtain ⟨q85, e86, h⟩ := bnd h
  refine call_v C hP hS (c_X9_begin e86) mi_X9_begin mw_961 12 (by decide) rfl rfl ⟨Nat.le_of_ble_eq_true rfl, Nat.le_of_ble_eq_true rfl⟩ (As := [.int (σ 8 4), .int (σ 8 5), .int q83.1]) rfl hl.1 rfl (lv_room (Nat.le_of_ble_eq_true rfl)) dX8_goLeg_28 (fun H locs hP hS => ?_)
  refine lv_iconst (v := 1) hx hb dX8_goLeg_31 (by decide) ?_
  refine lv_istore_n (lv' := [(3, .int 1), (0, .ref (g_ad G 8)), (1, .int a1), (2, .int a2)]) hx hb dX8_goLeg_32 rfl hl (by decide) rfl (fun ls hl => ?_)
  exact L33 FU _ _ _ _ H locs ls h hP hS (lv_sub hl [1, 2, 3, 0] rfl)
set_option maxHeartbeats 4000000 in
set_option maxRecDepth 100000 in
theorem c_X8_harbourSquare {l : Launch} {G : GT} {lam : Lm} {σ : St} {q : Int32 × St} (h : f_X8_harbourSquare σ = some q) : Met l yX8_harbourSquare (Cond.code yX8_harbourSquare cX8_harbourSquare 3 ((some .int)) :: TB) ({ frames := 1, cells := 0, slots := 0, locals := 21 } : Room) (va_Pc [.ref (g_ad G 8)] (GW G lam σ)) (Ri q G lam) 0 0 (g_A G) := by
  refine mk_Qi (own := RX8) (by decide) (Nat.le_of_ble_eq_true rfl) rfl (fun p e s m args below meth c C hr hlocks hP ls hl => ?_)
  have hx := C.1
  have hb := C.2.1
  have hl : lv_has ls 3 [(0, .ref (g_ad G 8))] := hl
  have hS : va_S (g_A G) s.heap s.heap [] := va_S.rf
  unfold f_X8_harbourSquare at h
  refine lv_aload_n hx hb dX8_harbourSquare_0 rfl (lv_at hl 0 rfl) ?_
  refine gf_X8_23_8 C hP dX8_harbourSquare_1 ?_
  refine lv_aload_n hx hb dX8_harbourSquare_4 rfl (lv_at hl 0 rfl) ?_
  refine gf_X8_61_8 C hP dX8_harbourSquare_5 ?_
  refine lv_iconst (v := 3) hx hb dX8_harbourSquare_8 (by decide) ?_
  obtain ⟨q5, e6, h⟩ := bnd h
  refine call_i C hP hS (c_X6_shipCell_2 e6) mi_X6_shipCell mw_937 2 (by decide) rfl rfl ⟨Nat.le_of_ble_eq_true rfl, Nat.le_of_ble_eq_true rfl⟩ (As := [.int 3]) rfl hl.1 rfl (lv_room (Nat.le_of_ble_eq_true rfl)) dX8_harbourSquare_9 (fun H locs hP hS => ?_)
  refine lv_isub hx hb dX8_harbourSquare_12 ?_
  obtain ⟨y7, e8, h⟩ := bnd h
  refine r_nm e8 ?_
  refine lv_istore_n (lv' := [(1, .int y7), (0, .ref (g_ad G 8))]) hx hb dX8_harbourSquare_13 rfl hl (by decide) rfl (fun ls hl => ?_)
  refine lv_aload_n hx hb dX8_harbourSquare_14 rfl (lv_at hl 1 rfl) ?_
  refine gf_X8_26_8 C hP dX8_harbourSquare_15 ?_
  refine lv_aload_n hx hb dX8_harbourSquare_18 rfl (lv_at hl 1 rfl) ?_
  refine gf_X8_61_8 C hP dX8_harbourSquare_19 ?_
  refine lv_iconst (v := 4) hx hb dX8_harbourSquare_22 (by decide) ?_
  obtain ⟨q9, e10, h⟩ := bnd h
  refine call_i C hP hS (c_X6_shipCell_2 e10) mi_X6_shipCell mw_937 2 (by decide) rfl rfl ⟨Nat.le_of_ble_eq_true rfl, Nat.le_of_ble_eq_true rfl⟩ (As := [.int 4]) rfl hl.1 rfl (lv_room (Nat.le_of_ble_eq_true rfl)) dX8_harbourSquare_23 (fun H locs hP hS => ?_)
  refine lv_isub hx hb dX8_harbourSquare_26 ?_
  obtain ⟨y11, e12, h⟩ := bnd h
  refine r_nm e12 ?_
  refine lv_istore_n (lv' := [(2, .int y11), (1, .int y7), (0, .ref (g_ad G 8))]) hx hb dX8_harbourSquare_27 rfl hl (by decide) rfl (fun ls hl => ?_)
  refine lv_iload_n hx hb dX8_harbourSquare_28 rfl (lv_at hl 1 rfl) ?_
  refine lv_iload_n hx hb dX8_harbourSquare_29 rfl (lv_at hl 1 rfl) ?_
  refine lv_imul hx hb dX8_harbourSquare_30 ?_
  refine lv_iload_n hx hb dX8_harbourSquare_31 rfl (lv_at hl 0 rfl) ?_
  refine lv_iload_n hx hb dX8_harbourSquare_32 rfl (lv_at hl 0 rfl) ?_
  refine lv_imul hx hb dX8_harbourSquare_33 ?_
  refine lv_iadd hx hb dX8_harbourSquare_34 ?_
  exact ret_i C hr hlocks hP hS h dX8_harbourSquare_35
set_option maxHeartbeats 4000000 in
set_option maxRecDepth 100000 in
theorem c_X8_make {l : Launch} {G : GT} {lam : Lm} {σ : St} {a1 : Int32} {a2 : Int32} {a3 : Int32} {a4 : Int32} {a5 : Int32} {q : St} (h : f_X8_make σ a1 a2 a3 a4 a5 = some q) : Met l yX8_make (Cond.code yX8_make cX8_make 8 none :: TB) ({ frames := 5, cells := 0, slots := 0, locals := 124 } : Room) (va_Pc [.ref (g_ad G 8), .int a1, .int a2, .int a3, .int a4, .int a5] (GW G lam σ)) (Rv q G lam) 0 0 (g_A G) := by
  refine mk_Qv (own := RX8) (by decide) (Nat.le_of_ble_eq_true rfl) rfl (fun p e s m args below meth c C hr hlocks hP ls hl => ?_)
  have hx := C.1
  have hb := C.2.1
  have hl : lv_has ls 8 [(0, .ref (g_ad G 8)), (1, .int a1), (2, .int a2), (3, .int a3), (4, .int a4), (5, .int a5)] := hl
  have J212 : ∀ (σ : St) (t0 : Int32) (H : Heap) (locs : List Loc) (ls : Array Slot), f_X8_make_p212 σ t0 = some q → va_P (g_D G) vwCl (allW G lam σ) H → va_S (g_A G) s.heap H locs → lv_has ls 8 [] → W p l e ({ frames := 5, cells := 0, slots := 0, locals := 124 } : Room) s m args below meth c H locs 0 0 (Qv q below args s G lam) (F0 m 212 ls [.int t0, .ref (g_ad G 8)]) := by
    intro σ t0 H locs ls h hP hS hl
    unfold f_X8_make_p212 at h
    refine pf_X8_35_8 C hP hS dX8_make_212 (fun H locs hP hS => ?_)
    obtain ⟨σ57, e58, h⟩ := bnd h
    have hP := hPn e58 hP
    exact ret_v C hr hlocks hP hS h dX8_make_215
  have J188 : ∀ (σ : St) (H : Heap) (locs : List Loc) (ls : Array Slot), f_X8_make_p188 σ = some q → va_P (g_D G) vwCl (allW G lam σ) H → va_S (g_A G) s.heap H locs → lv_has ls 8 [(0, .ref (g_ad G 8))] → W p l e ({ frames := 5, cells := 0, slots := 0, locals := 124 } : Room) s m args below meth c H locs 0 0 (Qv q below args s G lam) (F0 m 188 ls []) := by
    intro σ H locs ls h hP hS hl
    unfold f_X8_make_p188 at h
    refine lv_aload_n hx hb dX8_make_188 rfl (lv_at hl 0 rfl) ?_
    refine gf_X8_35_8 C hP dX8_make_189 ?_
    refine lv_iconst (v := (-1)) hx hb dX8_make_192 (by decide) ?_
    refine lv_icmp_ne (tgt := 215) hx hb dX8_make_193 (by decide) (fun c59 => ?_) (fun c59 => ?_)
    · replace h := h_f c59 h
      exact ret_v C hr hlocks hP hS h dX8_make_215
    · replace h := h_t c59 h
      refine lv_aload_n hx hb dX8_make_196 rfl (lv_at hl 0 rfl) ?_
      refine lv_aload_n hx hb dX8_make_197 rfl (lv_at hl 0 rfl) ?_
      obtain ⟨q60, e61, h⟩ := bnd h
      refine call_i C hP hS (c_X8_harbourSquare e61) mi_X8_harbourSquare mw_997 8 (by decide) rfl rfl ⟨Nat.le_of_ble_eq_true rfl, Nat.le_of_ble_eq_true rfl⟩ (As := []) rfl hl.1 rfl (lv_room (Nat.le_of_ble_eq_true rfl)) dX8_make_198 (fun H locs hP hS => ?_)
      refine lv_bipush (v := 9) hx hb dX8_make_201 (by decide) ?_
      refine lv_icmp_gt (tgt := 210) hx hb dX8_make_203 (by decide) (fun c62 => ?_) (fun c62 => ?_)
      · replace h := h_t c62 h
        refine lv_bipush (v := 10) hx hb dX8_make_210 (by decide) ?_
        exact J212 _ _ H locs ls h hP hS (lv_sub hl [] rfl)
      · replace h := h_f c62 h
        refine lv_iconst (v := 0) hx hb dX8_make_206 (by decide) ?_
        refine lv_goto (tgt := 212) hx hb dX8_make_207 (by decide) ?_
        exact J212 _ _ H locs ls h hP hS (lv_sub hl [] rfl)
  have L81 : ∀ (n81 : Nat) (σ : St) (x3 : Int32) (x4 : Int32) (x5 : Int32) (x6 : Int32) (H : Heap) (locs : List Loc) (ls : Array Slot), fx (F_X8_make_h81) z_X8_make_h81 n81 σ x3 x4 x5 x6 = some q → va_P (g_D G) vwCl (allW G lam σ) H → va_S (g_A G) s.heap H locs → lv_has ls 8 [(0, .ref (g_ad G 8)), (3, .int x3), (4, .int x4), (5, .int x5), (6, .int x6)] → W p l e ({ frames := 5, cells := 0, slots := 0, locals := 124 } : Room) s m args below meth c H locs 0 0 (Qv q below args s G lam) (F0 m 81 ls []) := by
    intro n81
    induction n81 with
    | zero => intro σ x3 x4 x5 x6 H locs ls h hP hS hl; exact absurd h (by intro h9; cases h9)
    | succ n81 ih81 =>
      have J182 : ∀ (σ : St) (x3 : Int32) (x4 : Int32) (x5 : Int32) (x6 : Int32) (H : Heap) (locs : List Loc) (ls : Array Slot), f_X8_make_p182 (fx (F_X8_make_h81) z_X8_make_h81 n81) σ x3 x4 x5 x6 = some q → va_P (g_D G) vwCl (allW G lam σ) H → va_S (g_A G) s.heap H locs → lv_has ls 8 [(0, .ref (g_ad G 8)), (3, .int x3), (4, .int x4), (5, .int x5), (6, .int x6)] → W p l e ({ frames := 5, cells := 0, slots := 0, locals := 124 } : Room) s m args below meth c H locs 0 0 (Qv q below args s G lam) (F0 m 182 ls []) := by
        intro σ x3 x4 x5 x6 H locs ls h hP hS hl
        unfold f_X8_make_p182 at h
        obtain ⟨y63, e64, h⟩ := bnd h
        refine lv_iinc (v := y63) (lv' := [(6, .int y63), (0, .ref (g_ad G 8)), (3, .int x3), (4, .int x4), (5, .int x5)]) hx hb dX8_make_182 hl (k := 4) rfl (Option.some.inj e64) (by decide) rfl (fun ls hl => ?_)
        refine lv_goto (tgt := 81) hx hb dX8_make_185 (by decide) ?_
        exact ih81 _ _ _ _ _ H locs ls h hP hS (lv_sub hl [1, 2, 3, 4, 0] rfl)
      have J123 : ∀ (σ : St) (x3 : Int32) (x4 : Int32) (x5 : Int32) (x6 : Int32) (t0 : Int32) (H : Heap) (locs : List Loc) (ls : Array Slot), f_X8_make_p123 (fx (F_X8_make_h81) z_X8_make_h81 n81) σ x3 x4 x5 x6 t0 = some q → va_P (g_D G) vwCl (allW G lam σ) H → va_S (g_A G) s.heap H locs → lv_has ls 8 [(0, .ref (g_ad G 8)), (3, .int x3), (4, .int x4), (5, .int x5), (6, .int x6)] → W p l e ({ frames := 5, cells := 0, slots := 0, locals := 124 } : Room) s m args below meth c H locs 0 0 (Qv q below args s G lam) (F0 m 123 ls [.int t0]) := by
        intro σ x3 x4 x5 x6 t0 H locs ls h hP hS hl
        unfold f_X8_make_p123 at h
        refine lv_istore (lv' := [(7, .int t0), (0, .ref (g_ad G 8)), (3, .int x3), (4, .int x4), (5, .int x5), (6, .int x6)]) hx hb dX8_make_123 hl (by decide) rfl (fun ls hl => ?_)
        refine lv_aload_n hx hb dX8_make_125 rfl (lv_at hl 1 rfl) ?_
        refine lv_iload hx hb dX8_make_126 (lv_at hl 5 rfl) ?_
        refine lv_iconst (v := 1) hx hb dX8_make_128 (by decide) ?_
        refine lv_iadd hx hb dX8_make_129 ?_
        refine pf_X8_29_8 C hP hS dX8_make_130 (fun H locs hP hS => ?_)
        obtain ⟨σ65, e66, h⟩ := bnd h
        have hP := hPn e66 hP
        refine lv_aload_n hx hb dX8_make_133 rfl (lv_at hl 1 rfl) ?_
        refine lv_iload hx hb dX8_make_134 (lv_at hl 5 rfl) ?_
        refine lv_iconst (v := 0) hx hb dX8_make_136 (by decide) ?_
        obtain ⟨q67, e68, h⟩ := bnd h
        refine call_v C hP hS (c_X8_noteMinutes e68) mi_X8_noteMinutes mw_944 8 (by decide) rfl rfl ⟨Nat.le_of_ble_eq_true rfl, Nat.le_of_ble_eq_true rfl⟩ (As := [.int x6, .int 0]) rfl hl.1 rfl (lv_room (Nat.le_of_ble_eq_true rfl)) dX8_make_137 (fun H locs hP hS => ?_)
        refine lv_aload_n hx hb dX8_make_140 rfl (lv_at hl 1 rfl) ?_
        refine lv_aload_n hx hb dX8_make_141 rfl (lv_at hl 1 rfl) ?_
        refine gf_X8_74_8 C hP dX8_make_142 ?_
        refine lv_iload hx hb dX8_make_145 (lv_at hl 5 rfl) ?_
        refine lv_iload hx hb dX8_make_147 (lv_at hl 0 rfl) ?_
        refine lv_iload_n hx hb dX8_make_149 rfl (lv_at hl 2 rfl) ?_
        obtain ⟨q69, e70, h⟩ := bnd h
        refine call_i C hP hS (c_X9_takeUp e70) mi_X9_takeUp mw_948 12 (by decide) rfl rfl ⟨Nat.le_of_ble_eq_true rfl, Nat.le_of_ble_eq_true rfl⟩ (As := [.int x6, .int t0, .int x3]) rfl hl.1 rfl (lv_room (Nat.le_of_ble_eq_true rfl)) dX8_make_150 (fun H locs hP hS => ?_)
        refine pf_X8_39_8 C hP hS dX8_make_153 (fun H locs hP hS => ?_)
        obtain ⟨σ71, e72, h⟩ := bnd h
        have hP := hPn e72 hP
        refine lv_aload_n hx hb dX8_make_156 rfl (lv_at hl 1 rfl) ?_
        refine gf_X8_39_8 C hP dX8_make_157 ?_
        refine lv_ldc hx hb C.2.2.2.1 (C.2.2.2.2.1 _ mw_198) dX8_make_160 ?_
        refine lv_icmp_eq (tgt := 174) hx hb dX8_make_162 (by decide) (fun c73 => ?_) (fun c73 => ?_)
        · replace h := h_t c73 h
          refine lv_aload_n hx hb dX8_make_174 rfl (lv_at hl 1 rfl) ?_
          refine lv_iload hx hb dX8_make_175 (lv_at hl 5 rfl) ?_
          refine lv_iload hx hb dX8_make_177 (lv_at hl 0 rfl) ?_
          obtain ⟨q74, e75, h⟩ := bnd h
          refine call_v C hP hS (c_X8_goLeg e75) mi_X8_goLeg mw_956 8 (by decide) rfl rfl ⟨Nat.le_of_ble_eq_true rfl, Nat.le_of_ble_eq_true rfl⟩ (As := [.int x6, .int t0]) rfl hl.1 rfl (lv_room (Nat.le_of_ble_eq_true rfl)) dX8_make_179 (fun H locs hP hS => ?_)
          exact J182 _ _ _ _ _ H locs ls h hP hS (lv_sub hl [1, 2, 3, 4, 5] rfl)
        · replace h := h_f c73 h
          refine lv_aload_n hx hb dX8_make_165 rfl (lv_at hl 1 rfl) ?_
          refine lv_bipush (v := 9) hx hb dX8_make_166 (by decide) ?_
          refine pf_X8_35_8 C hP hS dX8_make_168 (fun H locs hP hS => ?_)
          obtain ⟨σ76, e77, h⟩ := bnd h
          have hP := hPn e77 hP
          refine lv_goto (tgt := 182) hx hb dX8_make_171 (by decide) ?_
          exact J182 _ _ _ _ _ H locs ls h hP hS (lv_sub hl [1, 2, 3, 4, 5] rfl)
      intro σ x3 x4 x5 x6 H locs ls h hP hS hl
      change F_X8_make_h81 (fx (F_X8_make_h81) z_X8_make_h81 n81) σ x3 x4 x5 x6 = some q at h
      unfold F_X8_make_h81 at h
      refine lv_iload hx hb dX8_make_81 (lv_at hl 4 rfl) ?_
      refine lv_aload_n hx hb dX8_make_83 rfl (lv_at hl 0 rfl) ?_
      refine gf_X8_61_8 C hP dX8_make_84 ?_
      obtain ⟨q78, e79, h⟩ := bnd h
      refine call_i C hP hS (c_X6_legCount_2 e79) mi_X6_legCount mw_942 2 (by decide) rfl rfl ⟨Nat.le_of_ble_eq_true rfl, Nat.le_of_ble_eq_true rfl⟩ (As := []) rfl hl.1 rfl (lv_room (Nat.le_of_ble_eq_true rfl)) dX8_make_87 (fun H locs hP hS => ?_)
      refine lv_icmp_ge (tgt := 188) hx hb dX8_make_90 (by decide) (fun c80 => ?_) (fun c80 => ?_)
      · replace h := h_t c80 h
        exact J188 _ H locs ls h hP hS (lv_sub hl [0] rfl)
      · replace h := h_f c80 h
        refine lv_aload_n hx hb dX8_make_93 rfl (lv_at hl 0 rfl) ?_
        refine gf_X8_35_8 C hP dX8_make_94 ?_
        refine lv_iconst (v := (-1)) hx hb dX8_make_97 (by decide) ?_
        refine lv_icmp_ne (tgt := 188) hx hb dX8_make_98 (by decide) (fun c81 => ?_) (fun c81 => ?_)
        · replace h := h_f c81 h
          exact J188 _ H locs ls h hP hS (lv_sub hl [0] rfl)
        · replace h := h_t c81 h
          refine lv_iload hx hb dX8_make_101 (lv_at hl 4 rfl) ?_
          refine lv_iload hx hb dX8_make_103 (lv_at hl 2 rfl) ?_
          refine lv_icmp_ne (tgt := 113) hx hb dX8_make_105 (by decide) (fun c82 => ?_) (fun c82 => ?_)
          · replace h := h_f c82 h
            refine lv_aload_n hx hb dX8_make_113 rfl (lv_at hl 0 rfl) ?_
            refine gf_X8_61_8 C hP dX8_make_114 ?_
            refine lv_iload hx hb dX8_make_117 (lv_at hl 4 rfl) ?_
            refine lv_iconst (v := 0) hx hb dX8_make_119 (by decide) ?_
            obtain ⟨q83, e84, h⟩ := bnd h
            refine call_i C hP hS (c_X6_legCell_2 e84) mi_X6_legCell mw_943 2 (by decide) rfl rfl ⟨Nat.le_of_ble_eq_true rfl, Nat.le_of_ble_eq_true rfl⟩ (As := [.int x6, .int 0]) rfl hl.1 rfl (lv_room (Nat.le_of_ble_eq_true rfl)) dX8_make_120 (fun H locs hP hS => ?_)
            exact J123 _ _ _ _ _ _ H locs ls h hP hS (lv_sub hl [0, 1, 2, 3, 4] rfl)
          · replace h := h_t c82 h
            refine lv_iload hx hb dX8_make_108 (lv_at hl 3 rfl) ?_
            refine lv_goto (tgt := 123) hx hb dX8_make_110 (by decide) ?_
            exact J123 _ _ _ _ _ _ H locs ls h hP hS (lv_sub hl [0, 1, 2, 3, 4] rfl)
  have hS : va_S (g_A G) s.heap s.heap [] := va_S.rf
  unfold f_X8_make at h
  obtain ⟨H, hH⟩ : ∃ H, H = s.heap := ⟨_, rfl⟩
  obtain ⟨locs, hlo⟩ : ∃ k : List Loc, k = [] := ⟨_, rfl⟩
  rw [← hH, ← hlo]
  rw [← hH] at hP
  replace hS : va_S (g_A G) s.heap H locs := by rw [hH, hlo]; exact hS
  refine lv_aload_n hx hb dX8_make_0 rfl (lv_at hl 0 rfl) ?_
  refine lv_iload_n hx hb dX8_make_1 rfl (lv_at hl 1 rfl) ?_
  refine pf_X8_13_8 C hP hS dX8_make_2 (fun H locs hP hS => ?_)
  obtain ⟨σ85, e86, h⟩ := bnd h
  have hP := hPn e86 hP
  refine lv_aload_n hx hb dX8_make_5 rfl (lv_at hl 0 rfl) ?_
  refine lv_iload_n hx hb dX8_make_6 rfl (lv_at hl 2 rfl) ?_
  refine pf_X8_17_8 C hP hS dX8_make_7 (fun H locs hP hS => ?_)
  obtain ⟨σ87, e88, h⟩ := bnd h
  have hP := hPn e88 hP
  refine lv_aload_n hx hb dX8_make_10 rfl (lv_at hl 0 rfl) ?_
  refine lv_iconst (v := 0) hx hb dX8_make_11 (by decide) ?_
  refine pf_X8_20_8 C hP hS dX8_make_12 (fun H locs hP hS => ?_)
  obtain ⟨σ89, e90, h⟩ := bnd h
  have hP := hPn e90 hP
  refine lv_aload_n hx hb dX8_make_15 rfl (lv_at hl 0 rfl) ?_
  refine lv_aload_n hx hb dX8_make_16 rfl (lv_at hl 0 rfl) ?_
  refine gf_X8_61_8 C hP dX8_make_17 ?_
  refine lv_iconst (v := 1) hx hb dX8_make_20 (by decide) ?_
  obtain ⟨q91, e92, h⟩ := bnd h
  refine call_i C hP hS (c_X6_shipCell_2 e92) mi_X6_shipCell mw_937 2 (by decide) rfl rfl ⟨Nat.le_of_ble_eq_true rfl, Nat.le_of_ble_eq_true rfl⟩ (As := [.int 1]) rfl hl.1 rfl (lv_room (Nat.le_of_ble_eq_true rfl)) dX8_make_21 (fun H locs hP hS => ?_)
  refine pf_X8_23_8 C hP hS dX8_make_24 (fun H locs hP hS => ?_)
  obtain ⟨σ93, e94, h⟩ := bnd h
  have hP := hPn e94 hP
  refine lv_aload_n hx hb dX8_make_27 rfl (lv_at hl 0 rfl) ?_
  refine lv_aload_n hx hb dX8_make_28 rfl (lv_at hl 0 rfl) ?_
  refine gf_X8_61_8 C hP dX8_make_29 ?_
  refine lv_iconst (v := 2) hx hb dX8_make_32 (by decide) ?_
  obtain ⟨q95, e96, h⟩ := bnd h
  refine call_i C hP hS (c_X6_shipCell_2 e96) mi_X6_shipCell mw_937 2 (by decide) rfl rfl ⟨Nat.le_of_ble_eq_true rfl, Nat.le_of_ble_eq_true rfl⟩ (As := [.int 2]) rfl hl.1 rfl (lv_room (Nat.le_of_ble_eq_true rfl)) dX8_make_33 (fun H locs hP hS => ?_)
  refine pf_X8_26_8 C hP hS dX8_make_36 (fun H locs hP hS => ?_)
  obtain ⟨σ97, e98, h⟩ := bnd h
  have hP := hPn e98 hP
  refine lv_aload_n hx hb dX8_make_39 rfl (lv_at hl 0 rfl) ?_
  refine lv_iconst (v := 0) hx hb dX8_make_40 (by decide) ?_
  refine pf_X8_29_8 C hP hS dX8_make_41 (fun H locs hP hS => ?_)
  obtain ⟨σ99, e100, h⟩ := bnd h
  have hP := hPn e100 hP
  refine lv_aload_n hx hb dX8_make_44 rfl (lv_at hl 0 rfl) ?_
  refine lv_iconst (v := 0) hx hb dX8_make_45 (by decide) ?_
  refine pf_X8_32_8 C hP hS dX8_make_46 (fun H locs hP hS => ?_)
  obtain ⟨σ101, e102, h⟩ := bnd h
  have hP := hPn e102 hP
  refine lv_aload_n hx hb dX8_make_49 rfl (lv_at hl 0 rfl) ?_
  refine lv_iconst (v := (-1)) hx hb dX8_make_50 (by decide) ?_
  refine pf_X8_35_8 C hP hS dX8_make_51 (fun H locs hP hS => ?_)
  obtain ⟨σ103, e104, h⟩ := bnd h
  have hP := hPn e104 hP
  refine lv_aload_n hx hb dX8_make_54 rfl (lv_at hl 0 rfl) ?_
  refine lv_ldc hx hb C.2.2.2.1 (C.2.2.2.2.1 _ mw_198) dX8_make_55 ?_
  refine pf_X8_39_8 C hP hS dX8_make_57 (fun H locs hP hS => ?_)
  obtain ⟨σ105, e106, h⟩ := bnd h
  have hP := hPn e106 hP
  refine lv_aload_n hx hb dX8_make_60 rfl (lv_at hl 0 rfl) ?_
  refine lv_ldc hx hb C.2.2.2.1 (C.2.2.2.2.1 _ mw_198) dX8_make_61 ?_
  refine pf_X8_42_8 C hP hS dX8_make_63 (fun H locs hP hS => ?_)
  obtain ⟨σ107, e108, h⟩ := bnd h
  have hP := hPn e108 hP
  refine lv_aload_n hx hb dX8_make_66 rfl (lv_at hl 0 rfl) ?_
  refine lv_ldc hx hb C.2.2.2.1 (C.2.2.2.2.1 _ mw_198) dX8_make_67 ?_
  refine pf_X8_45_8 C hP hS dX8_make_69 (fun H locs hP hS => ?_)
  obtain ⟨σ109, e110, h⟩ := bnd h
  have hP := hPn e110 hP
  refine lv_aload_n hx hb dX8_make_72 rfl (lv_at hl 0 rfl) ?_
  refine lv_ldc hx hb C.2.2.2.1 (C.2.2.2.2.1 _ mw_198) dX8_make_73 ?_
  obtain ⟨q111, e112, h⟩ := bnd h
  refine call_v C hP hS (c_X8_noteTrack e112) mi_X8_noteTrack mw_938 8 (by decide) rfl rfl ⟨Nat.le_of_ble_eq_true rfl, Nat.le_of_ble_eq_true rfl⟩ (As := [.int (-1000000)]) rfl hl.1 rfl (lv_room (Nat.le_of_ble_eq_true rfl)) dX8_make_75 (fun H locs hP hS => ?_)
  refine lv_iconst (v := 0) hx hb dX8_make_78 (by decide) ?_
  refine lv_istore (lv' := [(6, .int 0), (0, .ref (g_ad G 8)), (1, .int a1), (2, .int a2), (3, .int a3), (4, .int a4), (5, .int a5)]) hx hb dX8_make_79 hl (by decide) rfl (fun ls hl => ?_)
  exact L81 FU _ _ _ _ _ H locs ls h hP hS (lv_sub hl [1, 4, 5, 6, 0] rfl)
set_option maxHeartbeats 4000000 in
set_option maxRecDepth 100000 in
theorem c_X10_makeVoyage {l : Launch} {G : GT} {lam : Lm} {σ : St} {a1 : Int32} {q : St} (h : f_X10_makeVoyage σ a1 = some q) : Met l yX10_makeVoyage (Cond.code yX10_makeVoyage cX10_makeVoyage 2 none :: TB) ({ frames := 6, cells := 0, slots := 0, locals := 151 } : Room) (va_Pc [.ref (g_ad G 0), .int a1] (GW G lam σ)) (Rv q G lam) 0 0 (g_A G) := by
  refine mk_Qv (own := RX10) (by decide) (Nat.le_of_ble_eq_true rfl) rfl (fun p e s m args below meth c C hr hlocks hP ls hl => ?_)
  have hx := C.1
  have hb := C.2.1
  have hl : lv_has ls 2 [(0, .ref (g_ad G 0)), (1, .int a1)] := hl
  have hS : va_S (g_A G) s.heap s.heap [] := va_S.rf
  unfold f_X10_makeVoyage at h
  refine lv_aload_n hx hb dX10_makeVoyage_0 rfl (lv_at hl 0 rfl) ?_
  refine gf_X10_59_0 C hP dX10_makeVoyage_1 ?_
  refine lv_iload_n hx hb dX10_makeVoyage_4 rfl (lv_at hl 1 rfl) ?_
  refine lv_aload_n hx hb dX10_makeVoyage_5 rfl (lv_at hl 0 rfl) ?_
  refine gf_X10_19_0 C hP dX10_makeVoyage_6 ?_
  refine lv_iconst (v := 0) hx hb dX10_makeVoyage_9 (by decide) ?_
  obtain ⟨q5, e6, h⟩ := bnd h
  refine call_i C hP hS (c_X6_shipCell_2 e6) mi_X6_shipCell mw_932 2 (by decide) rfl rfl ⟨Nat.le_of_ble_eq_true rfl, Nat.le_of_ble_eq_true rfl⟩ (As := [.int 0]) rfl hl.1 rfl (lv_room (Nat.le_of_ble_eq_true rfl)) dX10_makeVoyage_10 (fun H locs hP hS => ?_)
  refine lv_iconst (v := 0) hx hb dX10_makeVoyage_13 (by decide) ?_
  refine lv_iconst (v := (-1)) hx hb dX10_makeVoyage_14 (by decide) ?_
  refine lv_iconst (v := 0) hx hb dX10_makeVoyage_15 (by decide) ?_
  obtain ⟨q7, e8, h⟩ := bnd h
  refine call_v C hP hS (c_X8_make e8) mi_X8_make mw_933 8 (by decide) rfl rfl ⟨Nat.le_of_ble_eq_true rfl, Nat.le_of_ble_eq_true rfl⟩ (As := [.int a1, .int q5.1, .int 0, .int (-1), .int 0]) rfl hl.1 rfl (lv_room (Nat.le_of_ble_eq_true rfl)) dX10_makeVoyage_16 (fun H locs hP hS => ?_)
  exact ret_v C hr hlocks hP hS h dX10_makeVoyage_19
set_option maxHeartbeats 4000000 in
set_option maxRecDepth 100000 in
theorem c_X8_arrives {l : Launch} {G : GT} {lam : Lm} {σ : St} {q : Int32 × St} (h : f_X8_arrives σ = some q) : Met l yX8_arrives (Cond.code yX8_arrives cX8_arrives 1 ((some .boolean)) :: TB) ({ frames := 0, cells := 0, slots := 0, locals := 0 } : Room) (va_Pc [.ref (g_ad G 8)] (GW G lam σ)) (Ri q G lam) 0 0 (g_A G) := by
  refine mk_Qi (own := RX8) (by decide) (Nat.le_of_ble_eq_true rfl) rfl (fun p e s m args below meth c C hr hlocks hP ls hl => ?_)
  have hx := C.1
  have hb := C.2.1
  have hl : lv_has ls 1 [(0, .ref (g_ad G 8))] := hl
  have hS : va_S (g_A G) s.heap s.heap [] := va_S.rf
  unfold f_X8_arrives at h
  refine lv_aload_n hx hb dX8_arrives_0 rfl (lv_at hl 0 rfl) ?_
  refine gf_X8_35_8 C hP dX8_arrives_1 ?_
  refine lv_if_ne (tgt := 11) hx hb dX8_arrives_4 (by decide) (fun c2 => ?_) (fun c2 => ?_)
  · replace h := h_f c2 h
    refine lv_iconst (v := 0) hx hb dX8_arrives_11 (by decide) ?_
    exact ret_z C hr hlocks hP hS h (Or.inl rfl) dX8_arrives_12
  · replace h := h_t c2 h
    refine lv_iconst (v := 1) hx hb dX8_arrives_7 (by decide) ?_
    refine lv_goto (tgt := 12) hx hb dX8_arrives_8 (by decide) ?_
    exact ret_z C hr hlocks hP hS h (Or.inr rfl) dX8_arrives_12
set_option maxHeartbeats 4000000 in
set_option maxRecDepth 100000 in
theorem c_X10_sail {l : Launch} {G : GT} {lam : Lm} {σ : St} {a1 : Int32} {a2 : Int32} {q : Int32 × St} (h : f_X10_sail σ a1 a2 = some q) : Met l yX10_sail (Cond.code yX10_sail cX10_sail 3 ((some .int)) :: TB) ({ frames := 7, cells := 0, slots := 0, locals := 172 } : Room) (va_Pc [.ref (g_ad G 0), .int a1, .int a2] (GW G lam σ)) (Ri q G lam) 0 0 (g_A G) := by
  refine mk_Qi (own := RX10) (by decide) (Nat.le_of_ble_eq_true rfl) rfl (fun p e s m args below meth c C hr hlocks hP ls hl => ?_)
  have hx := C.1
  have hb := C.2.1
  have hl : lv_has ls 3 [(0, .ref (g_ad G 0)), (1, .int a1), (2, .int a2)] := hl
  have hS : va_S (g_A G) s.heap s.heap [] := va_S.rf
  unfold f_X10_sail at h
  refine lv_aload_n hx hb dX10_sail_0 rfl (lv_at hl 0 rfl) ?_
  refine gf_X10_19_0 C hP dX10_sail_1 ?_
  obtain ⟨q21, e22, h⟩ := bnd h
  refine call_i C hP hS (c_X6_isTold_2 e22) mi_X6_isTold mw_753 2 (by decide) rfl rfl ⟨Nat.le_of_ble_eq_true rfl, Nat.le_of_ble_eq_true rfl⟩ (As := []) rfl hl.1 rfl (lv_room (Nat.le_of_ble_eq_true rfl)) dX10_sail_4 (fun H locs hP hS => ?_)
  refine lv_if_ne (tgt := 13) hx hb dX10_sail_7 (by decide) (fun c23 => ?_) (fun c23 => ?_)
  · replace h := h_f c23 h
    refine lv_iload_n hx hb dX10_sail_13 rfl (lv_at hl 1 rfl) ?_
    obtain ⟨q24, e25, h⟩ := bnd h
    refine scall_i C hP hS (c_X10_isStart e25) ms_X10_isStart mw_925 ⟨Nat.le_of_ble_eq_true rfl, Nat.le_of_ble_eq_true rfl⟩ (As := [.int a1]) rfl hl.1 rfl (lv_room (Nat.le_of_ble_eq_true rfl)) dX10_sail_14 (fun H locs hP hS => ?_)
    refine lv_if_eq (tgt := 30) hx hb dX10_sail_17 (by decide) (fun c26 => ?_) (fun c26 => ?_)
    · replace h := h_t c26 h
      refine lv_ldc hx hb C.2.2.2.1 (C.2.2.2.2.1 _ mw_411) dX10_sail_30 ?_
      exact ret_i C hr hlocks hP hS h dX10_sail_32
    · replace h := h_f c26 h
      refine lv_iload_n hx hb dX10_sail_20 rfl (lv_at hl 2 rfl) ?_
      refine lv_iconst (v := 0) hx hb dX10_sail_21 (by decide) ?_
      refine lv_bipush (v := 6) hx hb dX10_sail_22 (by decide) ?_
      obtain ⟨q27, e28, h⟩ := bnd h
      refine scall_i C hP hS (c_X10_isWithin e28) ms_X10_isWithin mw_408 ⟨Nat.le_of_ble_eq_true rfl, Nat.le_of_ble_eq_true rfl⟩ (As := [.int a2, .int 0, .int 6]) rfl hl.1 rfl (lv_room (Nat.le_of_ble_eq_true rfl)) dX10_sail_24 (fun H locs hP hS => ?_)
      refine lv_if_ne (tgt := 33) hx hb dX10_sail_27 (by decide) (fun c29 => ?_) (fun c29 => ?_)
      · replace h := h_f c29 h
        refine lv_aload_n hx hb dX10_sail_33 rfl (lv_at hl 0 rfl) ?_
        refine lv_iload_n hx hb dX10_sail_34 rfl (lv_at hl 1 rfl) ?_
        obtain ⟨q30, e31, h⟩ := bnd h
        refine call_v C hP hS (c_X10_makeVoyage e31) mi_X10_makeVoyage mw_928 0 (by decide) rfl rfl ⟨Nat.le_of_ble_eq_true rfl, Nat.le_of_ble_eq_true rfl⟩ (As := [.int a1]) rfl hl.1 rfl (lv_room (Nat.le_of_ble_eq_true rfl)) dX10_sail_35 (fun H locs hP hS => ?_)
        refine lv_iload_n hx hb dX10_sail_38 rfl (lv_at hl 2 rfl) ?_
        by_cases c32 : a2 = 0
        · replace h := h_t c32 h
          refine r_eq c32 ?_
          refine lv_tableIn (off := 37) (tgt := 76) hx hb dX10_sail_39 (by decide) (by decide) (by decide) (by decide) ?_
          refine lv_aload_n hx hb dX10_sail_76 rfl (lv_at hl 0 rfl) ?_
          refine gf_X10_59_0 C hP dX10_sail_77 ?_
          refine gf_X10_243_8 C hP dX10_sail_80 ?_
          exact ret_i C hr hlocks hP hS h dX10_sail_83
        replace h := h_f c32 h
        by_cases c33 : a2 = 1
        · replace h := h_t c33 h
          refine r_eq c33 ?_
          refine lv_tableIn (off := 45) (tgt := 84) hx hb dX10_sail_39 (by decide) (by decide) (by decide) (by decide) ?_
          refine lv_aload_n hx hb dX10_sail_84 rfl (lv_at hl 0 rfl) ?_
          refine gf_X10_59_0 C hP dX10_sail_85 ?_
          refine gf_X10_246_8 C hP dX10_sail_88 ?_
          exact ret_i C hr hlocks hP hS h dX10_sail_91
        replace h := h_f c33 h
        by_cases c34 : a2 = 2
        · replace h := h_t c34 h
          refine r_eq c34 ?_
          refine lv_tableIn (off := 53) (tgt := 92) hx hb dX10_sail_39 (by decide) (by decide) (by decide) (by decide) ?_
          refine lv_aload_n hx hb dX10_sail_92 rfl (lv_at hl 0 rfl) ?_
          refine gf_X10_59_0 C hP dX10_sail_93 ?_
          refine gf_X10_249_8 C hP dX10_sail_96 ?_
          exact ret_i C hr hlocks hP hS h dX10_sail_99
        replace h := h_f c34 h
        by_cases c35 : a2 = 3
        · replace h := h_t c35 h
          refine r_eq c35 ?_
          refine lv_tableIn (off := 61) (tgt := 100) hx hb dX10_sail_39 (by decide) (by decide) (by decide) (by decide) ?_
          refine lv_aload_n hx hb dX10_sail_100 rfl (lv_at hl 0 rfl) ?_
          refine gf_X10_59_0 C hP dX10_sail_101 ?_
          refine gf_X10_252_8 C hP dX10_sail_104 ?_
          exact ret_i C hr hlocks hP hS h dX10_sail_107
        replace h := h_f c35 h
        by_cases c39 : a2 = 4
        · replace h := h_t c39 h
          refine r_eq c39 ?_
          refine lv_tableIn (off := 69) (tgt := 108) hx hb dX10_sail_39 (by decide) (by decide) (by decide) (by decide) ?_
          refine lv_aload_n hx hb dX10_sail_108 rfl (lv_at hl 0 rfl) ?_
          refine gf_X10_59_0 C hP dX10_sail_109 ?_
          obtain ⟨q36, e37, h⟩ := bnd h
          refine call_i C hP hS (c_X8_arrives e37) mi_X8_arrives mw_1001 8 (by decide) rfl rfl ⟨Nat.le_of_ble_eq_true rfl, Nat.le_of_ble_eq_true rfl⟩ (As := []) rfl hl.1 rfl (lv_room (Nat.le_of_ble_eq_true rfl)) dX10_sail_112 (fun H locs hP hS => ?_)
          refine lv_if_eq (tgt := 122) hx hb dX10_sail_115 (by decide) (fun c38 => ?_) (fun c38 => ?_)
          · replace h := h_t c38 h
            refine lv_iconst (v := 0) hx hb dX10_sail_122 (by decide) ?_
            exact ret_i C hr hlocks hP hS h dX10_sail_123
          · replace h := h_f c38 h
            refine lv_iconst (v := 1) hx hb dX10_sail_118 (by decide) ?_
            refine lv_goto (tgt := 123) hx hb dX10_sail_119 (by decide) ?_
            exact ret_i C hr hlocks hP hS h dX10_sail_123
        replace h := h_f c39 h
        by_cases c40 : a2 = 5
        · replace h := h_t c40 h
          refine r_eq c40 ?_
          refine lv_tableIn (off := 85) (tgt := 124) hx hb dX10_sail_39 (by decide) (by decide) (by decide) (by decide) ?_
          refine lv_aload_n hx hb dX10_sail_124 rfl (lv_at hl 0 rfl) ?_
          refine gf_X10_59_0 C hP dX10_sail_125 ?_
          refine gf_X10_258_8 C hP dX10_sail_128 ?_
          exact ret_i C hr hlocks hP hS h dX10_sail_131
        replace h := h_f c40 h
        refine lv_tableOut (tgt := 132) hx hb dX10_sail_39 (by have hz := And.intro (ne_i (z := 0) (by decide) c32) (And.intro (ne_i (z := 1) (by decide) c33) (And.intro (ne_i (z := 2) (by decide) c34) (And.intro (ne_i (z := 3) (by decide) c35) (And.intro (ne_i (z := 4) (by decide) c39) (ne_i (z := 5) (by decide) c40))))); omega) (by decide) ?_
        refine lv_aload_n hx hb dX10_sail_132 rfl (lv_at hl 0 rfl) ?_
        refine gf_X10_59_0 C hP dX10_sail_133 ?_
        refine gf_X10_261_8 C hP dX10_sail_136 ?_
        exact ret_i C hr hlocks hP hS h dX10_sail_139
      · replace h := h_t c29 h
        refine lv_ldc hx hb C.2.2.2.1 (C.2.2.2.2.1 _ mw_411) dX10_sail_30 ?_
        exact ret_i C hr hlocks hP hS h dX10_sail_32
  · replace h := h_t c23 h
    refine lv_ldc hx hb C.2.2.2.1 (C.2.2.2.2.1 _ mw_716) dX10_sail_10 ?_
    exact ret_i C hr hlocks hP hS h dX10_sail_12
set_option maxHeartbeats 4000000 in
set_option maxRecDepth 100000 in
theorem c_X8_trackCell {l : Launch} {G : GT} {lam : Lm} {σ : St} {a1 : Int32} {a2 : Int32} {q : Int32 × St} (h : f_X8_trackCell σ a1 a2 = some q) : Met l yX8_trackCell (Cond.code yX8_trackCell cX8_trackCell 3 ((some .int)) :: TB) ({ frames := 0, cells := 0, slots := 0, locals := 0 } : Room) (va_Pc [.ref (g_ad G 8), .int a1, .int a2] (GW G lam σ)) (Ri q G lam) 0 0 (g_A G) := by
  refine mk_Qi (own := RX8) (by decide) (Nat.le_of_ble_eq_true rfl) rfl (fun p e s m args below meth c C hr hlocks hP ls hl => ?_)
  have hx := C.1
  have hb := C.2.1
  have hl : lv_has ls 3 [(0, .ref (g_ad G 8)), (1, .int a1), (2, .int a2)] := hl
  have hS : va_S (g_A G) s.heap s.heap [] := va_S.rf
  unfold f_X8_trackCell at h
  refine lv_iload_n hx hb dX8_trackCell_0 rfl (lv_at hl 1 rfl) ?_
  refine lv_if_lt (tgt := 19) hx hb dX8_trackCell_1 (by decide) (fun c9 => ?_) (fun c9 => ?_)
  · replace h := h_t c9 h
    refine lv_ldc hx hb C.2.2.2.1 (C.2.2.2.2.1 _ mw_198) dX8_trackCell_19 ?_
    exact ret_i C hr hlocks hP hS h dX8_trackCell_21
  · replace h := h_f c9 h
    refine lv_iload_n hx hb dX8_trackCell_4 rfl (lv_at hl 1 rfl) ?_
    refine lv_aload_n hx hb dX8_trackCell_5 rfl (lv_at hl 0 rfl) ?_
    refine gf_X8_20_8 C hP dX8_trackCell_6 ?_
    refine lv_icmp_gt (tgt := 19) hx hb dX8_trackCell_9 (by decide) (fun c10 => ?_) (fun c10 => ?_)
    · replace h := h_t c10 h
      refine lv_ldc hx hb C.2.2.2.1 (C.2.2.2.2.1 _ mw_198) dX8_trackCell_19 ?_
      exact ret_i C hr hlocks hP hS h dX8_trackCell_21
    · replace h := h_f c10 h
      refine lv_iload_n hx hb dX8_trackCell_12 rfl (lv_at hl 1 rfl) ?_
      refine lv_sipush (v := 360) hx hb dX8_trackCell_13 (by decide) ?_
      refine lv_icmp_le (tgt := 22) hx hb dX8_trackCell_16 (by decide) (fun c11 => ?_) (fun c11 => ?_)
      · replace h := h_t c11 h
        refine lv_iload_n hx hb dX8_trackCell_22 rfl (lv_at hl 2 rfl) ?_
        refine lv_if_ne (tgt := 35) hx hb dX8_trackCell_23 (by decide) (fun c12 => ?_) (fun c12 => ?_)
        · replace h := h_f c12 h
          refine lv_iload_n hx hb dX8_trackCell_35 rfl (lv_at hl 2 rfl) ?_
          refine lv_iconst (v := 1) hx hb dX8_trackCell_36 (by decide) ?_
          refine lv_icmp_ne (tgt := 49) hx hb dX8_trackCell_37 (by decide) (fun c13 => ?_) (fun c13 => ?_)
          · replace h := h_f c13 h
            refine lv_aload_n hx hb dX8_trackCell_49 rfl (lv_at hl 0 rfl) ?_
            refine gf_X8_55_8 C hP dX8_trackCell_50 ?_
            refine lv_iload_n hx hb dX8_trackCell_53 rfl (lv_at hl 1 rfl) ?_
            obtain ⟨g14, h⟩ := h_g h
            refine r_ald C hP 21 (by decide) rfl (vp_in_iff.mpr g14) dX8_trackCell_54 ?_
            exact ret_i C hr hlocks hP hS h dX8_trackCell_55
          · replace h := h_t c13 h
            refine lv_aload_n hx hb dX8_trackCell_40 rfl (lv_at hl 0 rfl) ?_
            refine gf_X8_52_8 C hP dX8_trackCell_41 ?_
            refine lv_iload_n hx hb dX8_trackCell_44 rfl (lv_at hl 1 rfl) ?_
            obtain ⟨g15, h⟩ := h_g h
            refine r_ald C hP 20 (by decide) rfl (vp_in_iff.mpr g15) dX8_trackCell_45 ?_
            refine lv_goto (tgt := 55) hx hb dX8_trackCell_46 (by decide) ?_
            exact ret_i C hr hlocks hP hS h dX8_trackCell_55
        · replace h := h_t c12 h
          refine lv_aload_n hx hb dX8_trackCell_26 rfl (lv_at hl 0 rfl) ?_
          refine gf_X8_48_8 C hP dX8_trackCell_27 ?_
          refine lv_iload_n hx hb dX8_trackCell_30 rfl (lv_at hl 1 rfl) ?_
          obtain ⟨g16, h⟩ := h_g h
          refine r_ald C hP 19 (by decide) rfl (vp_in_iff.mpr g16) dX8_trackCell_31 ?_
          refine lv_goto (tgt := 55) hx hb dX8_trackCell_32 (by decide) ?_
          exact ret_i C hr hlocks hP hS h dX8_trackCell_55
      · replace h := h_f c11 h
        refine lv_ldc hx hb C.2.2.2.1 (C.2.2.2.2.1 _ mw_198) dX8_trackCell_19 ?_
        exact ret_i C hr hlocks hP hS h dX8_trackCell_21
set_option maxHeartbeats 4000000 in
set_option maxRecDepth 100000 in
theorem c_X10_track {l : Launch} {G : GT} {lam : Lm} {σ : St} {a1 : Int32} {a2 : Int32} {a3 : Int32} {q : Int32 × St} (h : f_X10_track σ a1 a2 a3 = some q) : Met l yX10_track (Cond.code yX10_track cX10_track 4 ((some .int)) :: TB) ({ frames := 7, cells := 0, slots := 0, locals := 172 } : Room) (va_Pc [.ref (g_ad G 0), .int a1, .int a2, .int a3] (GW G lam σ)) (Ri q G lam) 0 0 (g_A G) := by
  refine mk_Qi (own := RX10) (by decide) (Nat.le_of_ble_eq_true rfl) rfl (fun p e s m args below meth c C hr hlocks hP ls hl => ?_)
  have hx := C.1
  have hb := C.2.1
  have hl : lv_has ls 4 [(0, .ref (g_ad G 0)), (1, .int a1), (2, .int a2), (3, .int a3)] := hl
  have hS : va_S (g_A G) s.heap s.heap [] := va_S.rf
  unfold f_X10_track at h
  refine lv_aload_n hx hb dX10_track_0 rfl (lv_at hl 0 rfl) ?_
  refine gf_X10_19_0 C hP dX10_track_1 ?_
  obtain ⟨q15, e16, h⟩ := bnd h
  refine call_i C hP hS (c_X6_isTold_2 e16) mi_X6_isTold mw_753 2 (by decide) rfl rfl ⟨Nat.le_of_ble_eq_true rfl, Nat.le_of_ble_eq_true rfl⟩ (As := []) rfl hl.1 rfl (lv_room (Nat.le_of_ble_eq_true rfl)) dX10_track_4 (fun H locs hP hS => ?_)
  refine lv_if_ne (tgt := 13) hx hb dX10_track_7 (by decide) (fun c17 => ?_) (fun c17 => ?_)
  · replace h := h_f c17 h
    refine lv_iload_n hx hb dX10_track_13 rfl (lv_at hl 1 rfl) ?_
    obtain ⟨q18, e19, h⟩ := bnd h
    refine scall_i C hP hS (c_X10_isStart e19) ms_X10_isStart mw_925 ⟨Nat.le_of_ble_eq_true rfl, Nat.le_of_ble_eq_true rfl⟩ (As := [.int a1]) rfl hl.1 rfl (lv_room (Nat.le_of_ble_eq_true rfl)) dX10_track_14 (fun H locs hP hS => ?_)
    refine lv_if_eq (tgt := 33) hx hb dX10_track_17 (by decide) (fun c20 => ?_) (fun c20 => ?_)
    · replace h := h_t c20 h
      refine lv_ldc hx hb C.2.2.2.1 (C.2.2.2.2.1 _ mw_411) dX10_track_33 ?_
      exact ret_i C hr hlocks hP hS h dX10_track_35
    · replace h := h_f c20 h
      refine lv_iload_n hx hb dX10_track_20 rfl (lv_at hl 2 rfl) ?_
      refine lv_if_lt (tgt := 33) hx hb dX10_track_21 (by decide) (fun c21 => ?_) (fun c21 => ?_)
      · replace h := h_t c21 h
        refine lv_ldc hx hb C.2.2.2.1 (C.2.2.2.2.1 _ mw_411) dX10_track_33 ?_
        exact ret_i C hr hlocks hP hS h dX10_track_35
      · replace h := h_f c21 h
        refine lv_iload_n hx hb dX10_track_24 rfl (lv_at hl 3 rfl) ?_
        refine lv_iconst (v := 0) hx hb dX10_track_25 (by decide) ?_
        refine lv_iconst (v := 2) hx hb dX10_track_26 (by decide) ?_
        obtain ⟨q22, e23, h⟩ := bnd h
        refine scall_i C hP hS (c_X10_isWithin e23) ms_X10_isWithin mw_408 ⟨Nat.le_of_ble_eq_true rfl, Nat.le_of_ble_eq_true rfl⟩ (As := [.int a3, .int 0, .int 2]) rfl hl.1 rfl (lv_room (Nat.le_of_ble_eq_true rfl)) dX10_track_27 (fun H locs hP hS => ?_)
        refine lv_if_ne (tgt := 36) hx hb dX10_track_30 (by decide) (fun c24 => ?_) (fun c24 => ?_)
        · replace h := h_f c24 h
          refine lv_aload_n hx hb dX10_track_36 rfl (lv_at hl 0 rfl) ?_
          refine lv_iload_n hx hb dX10_track_37 rfl (lv_at hl 1 rfl) ?_
          obtain ⟨q25, e26, h⟩ := bnd h
          refine call_v C hP hS (c_X10_makeVoyage e26) mi_X10_makeVoyage mw_928 0 (by decide) rfl rfl ⟨Nat.le_of_ble_eq_true rfl, Nat.le_of_ble_eq_true rfl⟩ (As := [.int a1]) rfl hl.1 rfl (lv_room (Nat.le_of_ble_eq_true rfl)) dX10_track_38 (fun H locs hP hS => ?_)
          refine lv_aload_n hx hb dX10_track_41 rfl (lv_at hl 0 rfl) ?_
          refine gf_X10_59_0 C hP dX10_track_42 ?_
          refine lv_iload_n hx hb dX10_track_45 rfl (lv_at hl 2 rfl) ?_
          refine lv_iload_n hx hb dX10_track_46 rfl (lv_at hl 3 rfl) ?_
          obtain ⟨q27, e28, h⟩ := bnd h
          refine call_i C hP hS (c_X8_trackCell e28) mi_X8_trackCell mw_1009 8 (by decide) rfl rfl ⟨Nat.le_of_ble_eq_true rfl, Nat.le_of_ble_eq_true rfl⟩ (As := [.int a2, .int a3]) rfl hl.1 rfl (lv_room (Nat.le_of_ble_eq_true rfl)) dX10_track_47 (fun H locs hP hS => ?_)
          exact ret_i C hr hlocks hP hS h dX10_track_50
        · replace h := h_t c24 h
          refine lv_ldc hx hb C.2.2.2.1 (C.2.2.2.2.1 _ mw_411) dX10_track_33 ?_
          exact ret_i C hr hlocks hP hS h dX10_track_35
  · replace h := h_t c17 h
    refine lv_ldc hx hb C.2.2.2.1 (C.2.2.2.2.1 _ mw_716) dX10_track_10 ?_
    exact ret_i C hr hlocks hP hS h dX10_track_12
set_option maxHeartbeats 4000000 in
set_option maxRecDepth 100000 in
theorem c_X0_addCause {l : Launch} {G : GT} {lam : Lm} {σ : St} {a1 : Int32} {a2 : Int32} {q : St} (h : f_X0_addCause σ a1 a2 = some q) : Met l yX0_addCause (Cond.code yX0_addCause cX0_addCause 3 none :: TB) ({ frames := 0, cells := 0, slots := 0, locals := 0 } : Room) (va_Pc [.ref (g_ad G 9), .int a1, .int a2] (GW G lam σ)) (Rv q G lam) 0 0 (g_A G) := by
  refine mk_Qv (own := RX0) (by decide) (Nat.le_of_ble_eq_true rfl) rfl (fun p e s m args below meth c C hr hlocks hP ls hl => ?_)
  have hx := C.1
  have hb := C.2.1
  have hl : lv_has ls 3 [(0, .ref (g_ad G 9)), (1, .int a1), (2, .int a2)] := hl
  have hS : va_S (g_A G) s.heap s.heap [] := va_S.rf
  unfold f_X0_addCause at h
  refine lv_aload_n hx hb dX0_addCause_0 rfl (lv_at hl 0 rfl) ?_
  refine gf_X0_21_9 C hP dX0_addCause_1 ?_
  refine lv_if_lt (tgt := 45) hx hb dX0_addCause_4 (by decide) (fun c11 => ?_) (fun c11 => ?_)
  · replace h := h_t c11 h
    exact ret_v C hr hlocks hP hS h dX0_addCause_45
  · replace h := h_f c11 h
    refine lv_aload_n hx hb dX0_addCause_7 rfl (lv_at hl 0 rfl) ?_
    refine gf_X0_21_9 C hP dX0_addCause_8 ?_
    refine lv_iconst (v := 4) hx hb dX0_addCause_11 (by decide) ?_
    refine lv_icmp_ge (tgt := 45) hx hb dX0_addCause_12 (by decide) (fun c12 => ?_) (fun c12 => ?_)
    · replace h := h_t c12 h
      exact ret_v C hr hlocks hP hS h dX0_addCause_45
    · replace h := h_f c12 h
      refine lv_aload_n hx hb dX0_addCause_15 rfl (lv_at hl 0 rfl) ?_
      refine gf_X0_11_9 C hP dX0_addCause_16 ?_
      refine lv_aload_n hx hb dX0_addCause_19 rfl (lv_at hl 0 rfl) ?_
      refine gf_X0_21_9 C hP dX0_addCause_20 ?_
      refine lv_iload_n hx hb dX0_addCause_23 rfl (lv_at hl 1 rfl) ?_
      obtain ⟨g13, h⟩ := h_g h
      refine r_ast C hP hS 23 (by decide) (fun _ => rfl) (vp_in_iff.mpr g13) dX0_addCause_24 (fun H locs hP hS => ?_)
      obtain ⟨σ14, e15, h⟩ := bnd h
      have hP := hPn e15 hP
      refine lv_aload_n hx hb dX0_addCause_25 rfl (lv_at hl 0 rfl) ?_
      refine gf_X0_15_9 C hP dX0_addCause_26 ?_
      refine lv_aload_n hx hb dX0_addCause_29 rfl (lv_at hl 0 rfl) ?_
      refine gf_X0_21_9 C hP dX0_addCause_30 ?_
      refine lv_iload_n hx hb dX0_addCause_33 rfl (lv_at hl 2 rfl) ?_
      obtain ⟨g16, h⟩ := h_g h
      refine r_ast C hP hS 24 (by decide) (fun _ => rfl) (vp_in_iff.mpr g16) dX0_addCause_34 (fun H locs hP hS => ?_)
      obtain ⟨σ17, e18, h⟩ := bnd h
      have hP := hPn e18 hP
      refine lv_aload_n hx hb dX0_addCause_35 rfl (lv_at hl 0 rfl) ?_
      refine lv_dup hx hb dX0_addCause_36 rfl ?_
      refine gf_X0_21_9 C hP dX0_addCause_37 ?_
      refine lv_iconst (v := 1) hx hb dX0_addCause_40 (by decide) ?_
      refine lv_iadd hx hb dX0_addCause_41 ?_
      refine pf_X0_21_9 C hP hS dX0_addCause_42 (fun H locs hP hS => ?_)
      obtain ⟨σ19, e20, h⟩ := bnd h
      have hP := hPn e20 hP
      exact ret_v C hr hlocks hP hS h dX0_addCause_45
set_option maxHeartbeats 4000000 in
set_option maxRecDepth 100000 in
theorem c_X9_untilSort {l : Launch} {G : GT} {lam : Lm} {σ : St} {q : Int32 × St} (h : f_X9_untilSort σ = some q) : Met l yX9_untilSort (Cond.code yX9_untilSort cX9_untilSort 1 ((some .int)) :: TB) ({ frames := 0, cells := 0, slots := 0, locals := 0 } : Room) (va_Pc [.ref (g_ad G 12)] (GW G lam σ)) (Ri q G lam) 0 0 (g_A G) := by
  refine mk_Qi (own := RX9) (by decide) (Nat.le_of_ble_eq_true rfl) rfl (fun p e s m args below meth c C hr hlocks hP ls hl => ?_)
  have hx := C.1
  have hb := C.2.1
  have hl : lv_has ls 1 [(0, .ref (g_ad G 12))] := hl
  have hS : va_S (g_A G) s.heap s.heap [] := va_S.rf
  unfold f_X9_untilSort at h
  refine lv_aload_n hx hb dX9_untilSort_0 rfl (lv_at hl 0 rfl) ?_
  refine gf_X9_15_12 C hP dX9_untilSort_1 ?_
  exact ret_i C hr hlocks hP hS h dX9_untilSort_4
set_option maxHeartbeats 4000000 in
set_option maxRecDepth 100000 in
theorem c_X9_firstUnseen {l : Launch} {G : GT} {lam : Lm} {σ : St} {a1 : Int32} {a2 : Int32} {a3 : Int32} {q : Int32 × St} (h : f_X9_firstUnseen σ a1 a2 a3 = some q) : Met l yX9_firstUnseen (Cond.code yX9_firstUnseen cX9_firstUnseen 4 ((some .int)) :: TB) ({ frames := 3, cells := 0, slots := 0, locals := 74 } : Room) (va_Pc [.ref (g_ad G 12), .int a1, .int a2, .int a3] (GW G lam σ)) (Ri q G lam) 0 0 (g_A G) := by
  refine mk_Qi (own := RX9) (by decide) (Nat.le_of_ble_eq_true rfl) rfl (fun p e s m args below meth c C hr hlocks hP ls hl => ?_)
  have hx := C.1
  have hb := C.2.1
  have hl : lv_has ls 4 [(0, .ref (g_ad G 12)), (1, .int a1), (2, .int a2), (3, .int a3)] := hl
  have J19 : ∀ (σ : St) (x1 : Int32) (x2 : Int32) (x3 : Int32) (H : Heap) (locs : List Loc) (ls : Array Slot), f_X9_firstUnseen_p19 σ x1 x2 x3 = some q → va_P (g_D G) vwCl (allW G lam σ) H → va_S (g_A G) s.heap H locs → lv_has ls 4 [(0, .ref (g_ad G 12)), (1, .int x1), (2, .int x2), (3, .int x3)] → W p l e ({ frames := 3, cells := 0, slots := 0, locals := 74 } : Room) s m args below meth c H locs 0 0 (Qi q below args s G lam) (F0 m 19 ls []) := by
    intro σ x1 x2 x3 H locs ls h hP hS hl
    unfold f_X9_firstUnseen_p19 at h
    refine lv_aload_n hx hb dX9_firstUnseen_19 rfl (lv_at hl 0 rfl) ?_
    refine gf_X9_38_12 C hP dX9_firstUnseen_20 ?_
    refine lv_aload_n hx hb dX9_firstUnseen_23 rfl (lv_at hl 0 rfl) ?_
    refine gf_X9_18_12 C hP dX9_firstUnseen_24 ?_
    refine lv_iload_n hx hb dX9_firstUnseen_27 rfl (lv_at hl 1 rfl) ?_
    refine lv_iload_n hx hb dX9_firstUnseen_28 rfl (lv_at hl 2 rfl) ?_
    refine lv_iload_n hx hb dX9_firstUnseen_29 rfl (lv_at hl 3 rfl) ?_
    refine lv_aload_n hx hb dX9_firstUnseen_30 rfl (lv_at hl 0 rfl) ?_
    refine gf_X9_9_12 C hP dX9_firstUnseen_31 ?_
    obtain ⟨q10, e11, h⟩ := bnd h
    refine call_i C hP hS (c_X1_isInSight e11) mi_X1_isInSight mw_965 7 (by decide) rfl rfl ⟨Nat.le_of_ble_eq_true rfl, Nat.le_of_ble_eq_true rfl⟩ (As := [.int (σ 12 4), .int x1, .int x2, .int x3, .int (σ 12 2)]) rfl hl.1 rfl (lv_room (Nat.le_of_ble_eq_true rfl)) dX9_firstUnseen_34 (fun H locs hP hS => ?_)
    refine lv_if_ne (tgt := 45) hx hb dX9_firstUnseen_37 (by decide) (fun c12 => ?_) (fun c12 => ?_)
    · replace h := h_f c12 h
      refine lv_aload_n hx hb dX9_firstUnseen_45 rfl (lv_at hl 0 rfl) ?_
      refine gf_X9_15_12 C hP dX9_firstUnseen_46 ?_
      refine lv_iconst (v := 2) hx hb dX9_firstUnseen_49 (by decide) ?_
      refine lv_icmp_ne (tgt := 81) hx hb dX9_firstUnseen_50 (by decide) (fun c13 => ?_) (fun c13 => ?_)
      · replace h := h_f c13 h
        refine lv_ldc hx hb C.2.2.2.1 (C.2.2.2.2.1 _ mw_953) dX9_firstUnseen_81 ?_
        exact ret_i C hr hlocks hP hS h dX9_firstUnseen_83
      · replace h := h_t c13 h
        refine lv_aload_n hx hb dX9_firstUnseen_53 rfl (lv_at hl 0 rfl) ?_
        refine gf_X9_38_12 C hP dX9_firstUnseen_54 ?_
        refine lv_aload_n hx hb dX9_firstUnseen_57 rfl (lv_at hl 0 rfl) ?_
        refine gf_X9_21_12 C hP dX9_firstUnseen_58 ?_
        refine lv_iload_n hx hb dX9_firstUnseen_61 rfl (lv_at hl 1 rfl) ?_
        refine lv_iload_n hx hb dX9_firstUnseen_62 rfl (lv_at hl 2 rfl) ?_
        refine lv_iload_n hx hb dX9_firstUnseen_63 rfl (lv_at hl 3 rfl) ?_
        refine lv_aload_n hx hb dX9_firstUnseen_64 rfl (lv_at hl 0 rfl) ?_
        refine gf_X9_9_12 C hP dX9_firstUnseen_65 ?_
        obtain ⟨q14, e15, h⟩ := bnd h
        refine call_i C hP hS (c_X1_isInSight e15) mi_X1_isInSight mw_965 7 (by decide) rfl rfl ⟨Nat.le_of_ble_eq_true rfl, Nat.le_of_ble_eq_true rfl⟩ (As := [.int (q10.2 12 5), .int x1, .int x2, .int x3, .int (q10.2 12 2)]) rfl hl.1 rfl (lv_room (Nat.le_of_ble_eq_true rfl)) dX9_firstUnseen_68 (fun H locs hP hS => ?_)
        refine lv_if_ne (tgt := 81) hx hb dX9_firstUnseen_71 (by decide) (fun c16 => ?_) (fun c16 => ?_)
        · replace h := h_f c16 h
          refine lv_ldc hx hb C.2.2.2.1 (C.2.2.2.2.1 _ mw_953) dX9_firstUnseen_81 ?_
          exact ret_i C hr hlocks hP hS h dX9_firstUnseen_83
        · replace h := h_t c16 h
          refine lv_aload_n hx hb dX9_firstUnseen_74 rfl (lv_at hl 0 rfl) ?_
          refine gf_X9_21_12 C hP dX9_firstUnseen_75 ?_
          refine lv_goto (tgt := 83) hx hb dX9_firstUnseen_78 (by decide) ?_
          exact ret_i C hr hlocks hP hS h dX9_firstUnseen_83
    · replace h := h_t c12 h
      refine lv_aload_n hx hb dX9_firstUnseen_40 rfl (lv_at hl 0 rfl) ?_
      refine gf_X9_18_12 C hP dX9_firstUnseen_41 ?_
      exact ret_i C hr hlocks hP hS h dX9_firstUnseen_44
  have hS : va_S (g_A G) s.heap s.heap [] := va_S.rf
  unfold f_X9_firstUnseen at h
  obtain ⟨H, hH⟩ : ∃ H, H = s.heap := ⟨_, rfl⟩
  obtain ⟨locs, hlo⟩ : ∃ k : List Loc, k = [] := ⟨_, rfl⟩
  rw [← hH, ← hlo]
  rw [← hH] at hP
  replace hS : va_S (g_A G) s.heap H locs := by rw [hH, hlo]; exact hS
  refine lv_aload_n hx hb dX9_firstUnseen_0 rfl (lv_at hl 0 rfl) ?_
  refine gf_X9_15_12 C hP dX9_firstUnseen_1 ?_
  refine lv_iconst (v := 1) hx hb dX9_firstUnseen_4 (by decide) ?_
  refine lv_icmp_eq (tgt := 19) hx hb dX9_firstUnseen_5 (by decide) (fun c17 => ?_) (fun c17 => ?_)
  · replace h := h_t c17 h
    exact J19 _ _ _ _ H locs ls h hP hS (lv_sub hl [0, 1, 2, 3] rfl)
  · replace h := h_f c17 h
    refine lv_aload_n hx hb dX9_firstUnseen_8 rfl (lv_at hl 0 rfl) ?_
    refine gf_X9_15_12 C hP dX9_firstUnseen_9 ?_
    refine lv_iconst (v := 2) hx hb dX9_firstUnseen_12 (by decide) ?_
    refine lv_icmp_eq (tgt := 19) hx hb dX9_firstUnseen_13 (by decide) (fun c18 => ?_) (fun c18 => ?_)
    · replace h := h_t c18 h
      exact J19 _ _ _ _ H locs ls h hP hS (lv_sub hl [0, 1, 2, 3] rfl)
    · replace h := h_f c18 h
      refine lv_ldc hx hb C.2.2.2.1 (C.2.2.2.2.1 _ mw_953) dX9_firstUnseen_16 ?_
      exact ret_i C hr hlocks hP hS h dX9_firstUnseen_18
set_option maxHeartbeats 4000000 in
set_option maxRecDepth 100000 in
theorem c_X1_greatestHeight {l : Launch} {G : GT} {lam : Lm} {σ : St} {q : Int32 × St} (h : f_X1_greatestHeight σ = some q) : Met l yX1_greatestHeight (Cond.code yX1_greatestHeight cX1_greatestHeight 3 ((some .int)) :: TB) ({ frames := 1, cells := 0, slots := 0, locals := 21 } : Room) (va_Pc [.ref (g_ad G 7)] (GW G lam σ)) (Ri q G lam) 0 0 (g_A G) := by
  refine mk_Qi (own := RX1) (by decide) (Nat.le_of_ble_eq_true rfl) rfl (fun p e s m args below meth c C hr hlocks hP ls hl => ?_)
  have hx := C.1
  have hb := C.2.1
  have hl : lv_has ls 3 [(0, .ref (g_ad G 7))] := hl
  have L4 : ∀ (n4 : Nat) (σ : St) (x1 : Int32) (x2 : Int32) (H : Heap) (locs : List Loc) (ls : Array Slot), fx (F_X1_greatestHeight_h4) z_X1_greatestHeight_h4 n4 σ x1 x2 = some q → va_P (g_D G) vwCl (allW G lam σ) H → va_S (g_A G) s.heap H locs → lv_has ls 3 [(0, .ref (g_ad G 7)), (1, .int x1), (2, .int x2)] → W p l e ({ frames := 1, cells := 0, slots := 0, locals := 21 } : Room) s m args below meth c H locs 0 0 (Qi q below args s G lam) (F0 m 4 ls []) := by
    intro n4
    induction n4 with
    | zero => intro σ x1 x2 H locs ls h hP hS hl; exact absurd h (by intro h9; cases h9)
    | succ n4 ih4 =>
      intro σ x1 x2 H locs ls h hP hS hl
      change F_X1_greatestHeight_h4 (fx (F_X1_greatestHeight_h4) z_X1_greatestHeight_h4 n4) σ x1 x2 = some q at h
      unfold F_X1_greatestHeight_h4 at h
      refine lv_iload_n hx hb dX1_greatestHeight_4 rfl (lv_at hl 2 rfl) ?_
      refine lv_aload_n hx hb dX1_greatestHeight_5 rfl (lv_at hl 0 rfl) ?_
      refine gf_X1_9_7 C hP dX1_greatestHeight_6 ?_
      obtain ⟨q8, e9, h⟩ := bnd h
      refine call_i C hP hS (c_X6_heightCount_2 e9) mi_X6_heightCount mw_823 2 (by decide) rfl rfl ⟨Nat.le_of_ble_eq_true rfl, Nat.le_of_ble_eq_true rfl⟩ (As := []) rfl hl.1 rfl (lv_room (Nat.le_of_ble_eq_true rfl)) dX1_greatestHeight_9 (fun H locs hP hS => ?_)
      refine lv_icmp_ge (tgt := 34) hx hb dX1_greatestHeight_12 (by decide) (fun c10 => ?_) (fun c10 => ?_)
      · replace h := h_t c10 h
        refine lv_iload_n hx hb dX1_greatestHeight_34 rfl (lv_at hl 1 rfl) ?_
        exact ret_i C hr hlocks hP hS h dX1_greatestHeight_35
      · replace h := h_f c10 h
        refine lv_iload_n hx hb dX1_greatestHeight_15 rfl (lv_at hl 1 rfl) ?_
        refine lv_aload_n hx hb dX1_greatestHeight_16 rfl (lv_at hl 0 rfl) ?_
        refine gf_X1_9_7 C hP dX1_greatestHeight_17 ?_
        refine lv_iload_n hx hb dX1_greatestHeight_20 rfl (lv_at hl 2 rfl) ?_
        obtain ⟨q11, e12, h⟩ := bnd h
        refine call_i C hP hS (c_X6_heightCell_2 e12) mi_X6_heightCell mw_824 2 (by decide) rfl rfl ⟨Nat.le_of_ble_eq_true rfl, Nat.le_of_ble_eq_true rfl⟩ (As := [.int x2]) rfl hl.1 rfl (lv_room (Nat.le_of_ble_eq_true rfl)) dX1_greatestHeight_21 (fun H locs hP hS => ?_)
        refine va_mmax hx hb (by rw [C.2.2.1]; exact hl.1.symm) C.2.2.2.1 (C.2.2.2.2.1 _ mw_1046) (C.2.2.2.2.1 _ mw_437) (C.2.2.2.2.1 _ mw_95) (C.2.2.2.2.1 _ mw_438) (Nat.le_of_ble_eq_true rfl) (Nat.le_of_ble_eq_true rfl) (Nat.zero_le _) (Nat.zero_le _) dX1_greatestHeight_24 ?_
        obtain ⟨y13, e14, h⟩ := bnd h
        refine r_nm e14 ?_
        refine lv_istore_n (lv' := [(1, .int y13), (0, .ref (g_ad G 7)), (2, .int x2)]) hx hb dX1_greatestHeight_27 rfl hl (by decide) rfl (fun ls hl => ?_)
        obtain ⟨y15, e16, h⟩ := bnd h
        refine lv_iinc (v := y15) (lv' := [(2, .int y15), (1, .int y13), (0, .ref (g_ad G 7))]) hx hb dX1_greatestHeight_28 hl (k := 2) rfl (Option.some.inj e16) (by decide) rfl (fun ls hl => ?_)
        refine lv_goto (tgt := 4) hx hb dX1_greatestHeight_31 (by decide) ?_
        exact ih4 _ _ _ H locs ls h hP hS (lv_sub hl [2, 1, 0] rfl)
  have hS : va_S (g_A G) s.heap s.heap [] := va_S.rf
  unfold f_X1_greatestHeight at h
  obtain ⟨H, hH⟩ : ∃ H, H = s.heap := ⟨_, rfl⟩
  obtain ⟨locs, hlo⟩ : ∃ k : List Loc, k = [] := ⟨_, rfl⟩
  rw [← hH, ← hlo]
  rw [← hH] at hP
  replace hS : va_S (g_A G) s.heap H locs := by rw [hH, hlo]; exact hS
  refine lv_iconst (v := 0) hx hb dX1_greatestHeight_0 (by decide) ?_
  refine lv_istore_n (lv' := [(1, .int 0), (0, .ref (g_ad G 7))]) hx hb dX1_greatestHeight_1 rfl hl (by decide) rfl (fun ls hl => ?_)
  refine lv_iconst (v := 0) hx hb dX1_greatestHeight_2 (by decide) ?_
  refine lv_istore_n (lv' := [(2, .int 0), (1, .int 0), (0, .ref (g_ad G 7))]) hx hb dX1_greatestHeight_3 rfl hl (by decide) rfl (fun ls hl => ?_)
  exact L4 FU _ _ _ H locs ls h hP hS (lv_sub hl [2, 1, 0] rfl)
set_option maxHeartbeats 4000000 in
set_option maxRecDepth 100000 in
theorem c_X0_addLackOfWater {l : Launch} {G : GT} {lam : Lm} {σ : St} {a1 : Int32} {q : St} (h : f_X0_addLackOfWater σ a1 = some q) : Met l yX0_addLackOfWater (Cond.code yX0_addLackOfWater cX0_addLackOfWater 4 none :: TB) ({ frames := 3, cells := 0, slots := 0, locals := 73 } : Room) (va_Pc [.ref (g_ad G 9), .int a1] (GW G lam σ)) (Rv q G lam) 0 0 (g_A G) := by
  refine mk_Qv (own := RX0) (by decide) (Nat.le_of_ble_eq_true rfl) rfl (fun p e s m args below meth c C hr hlocks hP ls hl => ?_)
  have hx := C.1
  have hb := C.2.1
  have hl : lv_has ls 4 [(0, .ref (g_ad G 9)), (1, .int a1)] := hl
  have hS : va_S (g_A G) s.heap s.heap [] := va_S.rf
  unfold f_X0_addLackOfWater at h
  refine lv_aload_n hx hb dX0_addLackOfWater_0 rfl (lv_at hl 0 rfl) ?_
  refine gf_X0_36_9 C hP dX0_addLackOfWater_1 ?_
  refine gf_X0_110_8 C hP dX0_addLackOfWater_4 ?_
  refine lv_aload_n hx hb dX0_addLackOfWater_7 rfl (lv_at hl 0 rfl) ?_
  refine gf_X0_32_9 C hP dX0_addLackOfWater_8 ?_
  refine lv_aload_n hx hb dX0_addLackOfWater_11 rfl (lv_at hl 0 rfl) ?_
  refine gf_X0_36_9 C hP dX0_addLackOfWater_12 ?_
  refine gf_X0_83_8 C hP dX0_addLackOfWater_15 ?_
  refine lv_aload_n hx hb dX0_addLackOfWater_18 rfl (lv_at hl 0 rfl) ?_
  refine gf_X0_36_9 C hP dX0_addLackOfWater_19 ?_
  refine gf_X0_86_8 C hP dX0_addLackOfWater_22 ?_
  obtain ⟨q10, e11, h⟩ := bnd h
  refine call_i C hP hS (c_X1_depthAt e11) mi_X1_depthAt mw_1041 7 (by decide) rfl rfl ⟨Nat.le_of_ble_eq_true rfl, Nat.le_of_ble_eq_true rfl⟩ (As := [.int (σ 8 4), .int (σ 8 5)]) rfl hl.1 rfl (lv_room (Nat.le_of_ble_eq_true rfl)) dX0_addLackOfWater_25 (fun H locs hP hS => ?_)
  refine lv_isub hx hb dX0_addLackOfWater_28 ?_
  obtain ⟨y12, e13, h⟩ := bnd h
  refine r_nm e13 ?_
  refine lv_istore_n (lv' := [(2, .int y12), (0, .ref (g_ad G 9)), (1, .int a1)]) hx hb dX0_addLackOfWater_29 rfl hl (by decide) rfl (fun ls hl => ?_)
  refine lv_iload_n hx hb dX0_addLackOfWater_30 rfl (lv_at hl 0 rfl) ?_
  refine lv_aload_n hx hb dX0_addLackOfWater_31 rfl (lv_at hl 1 rfl) ?_
  refine gf_X0_32_9 C hP dX0_addLackOfWater_32 ?_
  obtain ⟨q14, e15, h⟩ := bnd h
  refine call_i C hP hS (c_X1_greatestHeight e15) mi_X1_greatestHeight mw_1042 7 (by decide) rfl rfl ⟨Nat.le_of_ble_eq_true rfl, Nat.le_of_ble_eq_true rfl⟩ (As := []) rfl hl.1 rfl (lv_room (Nat.le_of_ble_eq_true rfl)) dX0_addLackOfWater_35 (fun H locs hP hS => ?_)
  refine lv_isub hx hb dX0_addLackOfWater_38 ?_
  obtain ⟨y16, e17, h⟩ := bnd h
  refine r_nm e17 ?_
  refine lv_istore_n (lv' := [(3, .int y16), (2, .int y12), (0, .ref (g_ad G 9)), (1, .int a1)]) hx hb dX0_addLackOfWater_39 rfl hl (by decide) rfl (fun ls hl => ?_)
  refine lv_iload_n hx hb dX0_addLackOfWater_40 rfl (lv_at hl 0 rfl) ?_
  refine lv_if_gt (tgt := 56) hx hb dX0_addLackOfWater_41 (by decide) (fun c18 => ?_) (fun c18 => ?_)
  · replace h := h_t c18 h
    refine lv_aload_n hx hb dX0_addLackOfWater_56 rfl (lv_at hl 2 rfl) ?_
    refine lv_bipush (v := 7) hx hb dX0_addLackOfWater_57 (by decide) ?_
    refine lv_iload_n hx hb dX0_addLackOfWater_59 rfl (lv_at hl 0 rfl) ?_
    obtain ⟨q19, e20, h⟩ := bnd h
    refine call_v C hP hS (c_X0_addCause e20) mi_X0_addCause mw_1022 9 (by decide) rfl rfl ⟨Nat.le_of_ble_eq_true rfl, Nat.le_of_ble_eq_true rfl⟩ (As := [.int 7, .int y16]) rfl hl.1 rfl (lv_room (Nat.le_of_ble_eq_true rfl)) dX0_addLackOfWater_60 (fun H locs hP hS => ?_)
    exact ret_v C hr hlocks hP hS h dX0_addLackOfWater_63
  · replace h := h_f c18 h
    refine lv_aload_n hx hb dX0_addLackOfWater_44 rfl (lv_at hl 2 rfl) ?_
    refine lv_bipush (v := 6) hx hb dX0_addLackOfWater_45 (by decide) ?_
    refine lv_iload_n hx hb dX0_addLackOfWater_47 rfl (lv_at hl 1 rfl) ?_
    refine lv_iload_n hx hb dX0_addLackOfWater_48 rfl (lv_at hl 3 rfl) ?_
    refine lv_isub hx hb dX0_addLackOfWater_49 ?_
    obtain ⟨q21, e22, h⟩ := bnd h
    refine call_v C hP hS (c_X0_addCause e22) mi_X0_addCause mw_1022 9 (by decide) rfl rfl ⟨Nat.le_of_ble_eq_true rfl, Nat.le_of_ble_eq_true rfl⟩ (As := [.int 6, .int (y12 - a1)]) rfl hl.1 rfl (lv_room (Nat.le_of_ble_eq_true rfl)) dX0_addLackOfWater_50 (fun H locs hP hS => ?_)
    refine lv_goto (tgt := 63) hx hb dX0_addLackOfWater_53 (by decide) ?_
    exact ret_v C hr hlocks hP hS h dX0_addLackOfWater_63
set_option maxHeartbeats 4000000 in
set_option maxRecDepth 100000 in
theorem c_X0_sideOff {l : Launch} {G : GT} {lam : Lm} {σ : St} {q : Int32 × St} (h : f_X0_sideOff σ = some q) : Met l yX0_sideOff (Cond.code yX0_sideOff cX0_sideOff 1 ((some .int)) :: TB) ({ frames := 0, cells := 0, slots := 0, locals := 0 } : Room) (va_Pc [.ref (g_ad G 9)] (GW G lam σ)) (Ri q G lam) 0 0 (g_A G) := by
  refine mk_Qi (own := RX0) (by decide) (Nat.le_of_ble_eq_true rfl) rfl (fun p e s m args below meth c C hr hlocks hP ls hl => ?_)
  have hx := C.1
  have hb := C.2.1
  have hl : lv_has ls 1 [(0, .ref (g_ad G 9))] := hl
  have hS : va_S (g_A G) s.heap s.heap [] := va_S.rf
  unfold f_X0_sideOff at h
  refine lv_aload_n hx hb dX0_sideOff_0 rfl (lv_at hl 0 rfl) ?_
  refine gf_X0_36_9 C hP dX0_sideOff_1 ?_
  refine gf_X0_83_8 C hP dX0_sideOff_4 ?_
  refine lv_if_ge (tgt := 12) hx hb dX0_sideOff_7 (by decide) (fun c4 => ?_) (fun c4 => ?_)
  · replace h := h_t c4 h
    refine lv_aload_n hx hb dX0_sideOff_12 rfl (lv_at hl 0 rfl) ?_
    refine gf_X0_36_9 C hP dX0_sideOff_13 ?_
    refine gf_X0_83_8 C hP dX0_sideOff_16 ?_
    refine lv_bipush (v := 60) hx hb dX0_sideOff_19 (by decide) ?_
    refine lv_icmp_le (tgt := 26) hx hb dX0_sideOff_21 (by decide) (fun c5 => ?_) (fun c5 => ?_)
    · replace h := h_t c5 h
      refine lv_aload_n hx hb dX0_sideOff_26 rfl (lv_at hl 0 rfl) ?_
      refine gf_X0_36_9 C hP dX0_sideOff_27 ?_
      refine gf_X0_86_8 C hP dX0_sideOff_30 ?_
      refine lv_if_ge (tgt := 40) hx hb dX0_sideOff_33 (by decide) (fun c6 => ?_) (fun c6 => ?_)
      · replace h := h_t c6 h
        refine lv_iconst (v := 3) hx hb dX0_sideOff_40 (by decide) ?_
        exact ret_i C hr hlocks hP hS h dX0_sideOff_41
      · replace h := h_f c6 h
        refine lv_iconst (v := 2) hx hb dX0_sideOff_36 (by decide) ?_
        refine lv_goto (tgt := 41) hx hb dX0_sideOff_37 (by decide) ?_
        exact ret_i C hr hlocks hP hS h dX0_sideOff_41
    · replace h := h_f c5 h
      refine lv_iconst (v := 1) hx hb dX0_sideOff_24 (by decide) ?_
      exact ret_i C hr hlocks hP hS h dX0_sideOff_25
  · replace h := h_f c4 h
    refine lv_iconst (v := 0) hx hb dX0_sideOff_10 (by decide) ?_
    exact ret_i C hr hlocks hP hS h dX0_sideOff_11
set_option maxHeartbeats 4000000 in
set_option maxRecDepth 100000 in
theorem c_X0_findCausesInLeg {l : Launch} {G : GT} {lam : Lm} {σ : St} {q : St} (h : f_X0_findCausesInLeg σ = some q) : Met l yX0_findCausesInLeg (Cond.code yX0_findCausesInLeg cX0_findCausesInLeg 3 none :: TB) ({ frames := 4, cells := 0, slots := 0, locals := 97 } : Room) (va_Pc [.ref (g_ad G 9)] (GW G lam σ)) (Rv q G lam) 0 0 (g_A G) := by
  refine mk_Qv (own := RX0) (by decide) (Nat.le_of_ble_eq_true rfl) rfl (fun p e s m args below meth c C hr hlocks hP ls hl => ?_)
  have hx := C.1
  have hb := C.2.1
  have hl : lv_has ls 3 [(0, .ref (g_ad G 9))] := hl
  have hS : va_S (g_A G) s.heap s.heap [] := va_S.rf
  unfold f_X0_findCausesInLeg at h
  refine lv_aload_n hx hb dX0_findCausesInLeg_0 rfl (lv_at hl 0 rfl) ?_
  refine gf_X0_32_9 C hP dX0_findCausesInLeg_1 ?_
  refine lv_aload_n hx hb dX0_findCausesInLeg_4 rfl (lv_at hl 0 rfl) ?_
  refine gf_X0_36_9 C hP dX0_findCausesInLeg_5 ?_
  refine gf_X0_71_8 C hP dX0_findCausesInLeg_8 ?_
  refine lv_aload_n hx hb dX0_findCausesInLeg_11 rfl (lv_at hl 0 rfl) ?_
  refine gf_X0_36_9 C hP dX0_findCausesInLeg_12 ?_
  refine gf_X0_65_8 C hP dX0_findCausesInLeg_15 ?_
  refine lv_iadd hx hb dX0_findCausesInLeg_18 ?_
  obtain ⟨q24, e25, h⟩ := bnd h
  refine call_i C hP hS (c_X1_heightAt e25) mi_X1_heightAt mw_1031 7 (by decide) rfl rfl ⟨Nat.le_of_ble_eq_true rfl, Nat.le_of_ble_eq_true rfl⟩ (As := [.int ((σ 8 1) + (σ 8 3))]) rfl hl.1 rfl (lv_room (Nat.le_of_ble_eq_true rfl)) dX0_findCausesInLeg_19 (fun H locs hP hS => ?_)
  refine lv_istore_n (lv' := [(1, .int q24.1), (0, .ref (g_ad G 9))]) hx hb dX0_findCausesInLeg_22 rfl hl (by decide) rfl (fun ls hl => ?_)
  refine lv_aload_n hx hb dX0_findCausesInLeg_23 rfl (lv_at hl 1 rfl) ?_
  refine gf_X0_36_9 C hP dX0_findCausesInLeg_24 ?_
  refine gf_X0_41_8 C hP dX0_findCausesInLeg_27 ?_
  refine lv_iconst (v := 3) hx hb dX0_findCausesInLeg_30 (by decide) ?_
  refine lv_icmp_ne (tgt := 46) hx hb dX0_findCausesInLeg_31 (by decide) (fun c26 => ?_) (fun c26 => ?_)
  · replace h := h_f c26 h
    refine lv_aload_n hx hb dX0_findCausesInLeg_46 rfl (lv_at hl 1 rfl) ?_
    refine gf_X0_36_9 C hP dX0_findCausesInLeg_47 ?_
    refine gf_X0_41_8 C hP dX0_findCausesInLeg_50 ?_
    refine lv_iconst (v := 4) hx hb dX0_findCausesInLeg_53 (by decide) ?_
    refine lv_icmp_ne (tgt := 91) hx hb dX0_findCausesInLeg_54 (by decide) (fun c27 => ?_) (fun c27 => ?_)
    · replace h := h_f c27 h
      refine lv_aload_n hx hb dX0_findCausesInLeg_91 rfl (lv_at hl 1 rfl) ?_
      refine lv_iconst (v := 5) hx hb dX0_findCausesInLeg_92 (by decide) ?_
      refine lv_aload_n hx hb dX0_findCausesInLeg_93 rfl (lv_at hl 1 rfl) ?_
      refine gf_X0_36_9 C hP dX0_findCausesInLeg_94 ?_
      refine gf_X0_97_8 C hP dX0_findCausesInLeg_97 ?_
      obtain ⟨q28, e29, h⟩ := bnd h
      refine call_i C hP hS (c_X9_untilSort e29) mi_X9_untilSort mw_1047 12 (by decide) rfl rfl ⟨Nat.le_of_ble_eq_true rfl, Nat.le_of_ble_eq_true rfl⟩ (As := []) rfl hl.1 rfl (lv_room (Nat.le_of_ble_eq_true rfl)) dX0_findCausesInLeg_100 (fun H locs hP hS => ?_)
      obtain ⟨q30, e31, h⟩ := bnd h
      refine call_v C hP hS (c_X0_addCause e31) mi_X0_addCause mw_1022 9 (by decide) rfl rfl ⟨Nat.le_of_ble_eq_true rfl, Nat.le_of_ble_eq_true rfl⟩ (As := [.int 5, .int q28.1]) rfl hl.1 rfl (lv_room (Nat.le_of_ble_eq_true rfl)) dX0_findCausesInLeg_103 (fun H locs hP hS => ?_)
      refine lv_aload_n hx hb dX0_findCausesInLeg_106 rfl (lv_at hl 1 rfl) ?_
      refine gf_X0_36_9 C hP dX0_findCausesInLeg_107 ?_
      refine gf_X0_97_8 C hP dX0_findCausesInLeg_110 ?_
      refine lv_aload_n hx hb dX0_findCausesInLeg_113 rfl (lv_at hl 1 rfl) ?_
      refine gf_X0_36_9 C hP dX0_findCausesInLeg_114 ?_
      refine gf_X0_83_8 C hP dX0_findCausesInLeg_117 ?_
      refine lv_aload_n hx hb dX0_findCausesInLeg_120 rfl (lv_at hl 1 rfl) ?_
      refine gf_X0_36_9 C hP dX0_findCausesInLeg_121 ?_
      refine gf_X0_86_8 C hP dX0_findCausesInLeg_124 ?_
      refine lv_iload_n hx hb dX0_findCausesInLeg_127 rfl (lv_at hl 0 rfl) ?_
      obtain ⟨q32, e33, h⟩ := bnd h
      refine call_i C hP hS (c_X9_firstUnseen e33) mi_X9_firstUnseen mw_1051 12 (by decide) rfl rfl ⟨Nat.le_of_ble_eq_true rfl, Nat.le_of_ble_eq_true rfl⟩ (As := [.int (q30 8 4), .int (q30 8 5), .int q24.1]) rfl hl.1 rfl (lv_room (Nat.le_of_ble_eq_true rfl)) dX0_findCausesInLeg_128 (fun H locs hP hS => ?_)
      refine lv_istore_n (lv' := [(2, .int q32.1), (1, .int q24.1), (0, .ref (g_ad G 9))]) hx hb dX0_findCausesInLeg_131 rfl hl (by decide) rfl (fun ls hl => ?_)
      refine lv_iload_n hx hb dX0_findCausesInLeg_132 rfl (lv_at hl 0 rfl) ?_
      refine lv_ldc hx hb C.2.2.2.1 (C.2.2.2.2.1 _ mw_1055) dX0_findCausesInLeg_133 ?_
      refine lv_icmp_eq (tgt := 145) hx hb dX0_findCausesInLeg_135 (by decide) (fun c34 => ?_) (fun c34 => ?_)
      · replace h := h_t c34 h
        exact ret_v C hr hlocks hP hS h dX0_findCausesInLeg_145
      · replace h := h_f c34 h
        refine lv_aload_n hx hb dX0_findCausesInLeg_138 rfl (lv_at hl 2 rfl) ?_
        refine lv_bipush (v := 8) hx hb dX0_findCausesInLeg_139 (by decide) ?_
        refine lv_iload_n hx hb dX0_findCausesInLeg_141 rfl (lv_at hl 0 rfl) ?_
        obtain ⟨q35, e36, h⟩ := bnd h
        refine call_v C hP hS (c_X0_addCause e36) mi_X0_addCause mw_1022 9 (by decide) rfl rfl ⟨Nat.le_of_ble_eq_true rfl, Nat.le_of_ble_eq_true rfl⟩ (As := [.int 8, .int q32.1]) rfl hl.1 rfl (lv_room (Nat.le_of_ble_eq_true rfl)) dX0_findCausesInLeg_142 (fun H locs hP hS => ?_)
        exact ret_v C hr hlocks hP hS h dX0_findCausesInLeg_145
    · replace h := h_t c27 h
      refine lv_aload_n hx hb dX0_findCausesInLeg_57 rfl (lv_at hl 1 rfl) ?_
      refine lv_iconst (v := 4) hx hb dX0_findCausesInLeg_58 (by decide) ?_
      refine lv_aload_n hx hb dX0_findCausesInLeg_59 rfl (lv_at hl 1 rfl) ?_
      refine gf_X0_32_9 C hP dX0_findCausesInLeg_60 ?_
      refine lv_aload_n hx hb dX0_findCausesInLeg_63 rfl (lv_at hl 1 rfl) ?_
      refine gf_X0_36_9 C hP dX0_findCausesInLeg_64 ?_
      refine gf_X0_83_8 C hP dX0_findCausesInLeg_67 ?_
      refine lv_aload_n hx hb dX0_findCausesInLeg_70 rfl (lv_at hl 1 rfl) ?_
      refine gf_X0_36_9 C hP dX0_findCausesInLeg_71 ?_
      refine gf_X0_86_8 C hP dX0_findCausesInLeg_74 ?_
      obtain ⟨q37, e38, h⟩ := bnd h
      refine call_i C hP hS (c_X1_firstShoalAt e38) mi_X1_firstShoalAt mw_1036 7 (by decide) rfl rfl ⟨Nat.le_of_ble_eq_true rfl, Nat.le_of_ble_eq_true rfl⟩ (As := [.int (q24.2 8 4), .int (q24.2 8 5)]) rfl hl.1 rfl (lv_room (Nat.le_of_ble_eq_true rfl)) dX0_findCausesInLeg_77 (fun H locs hP hS => ?_)
      obtain ⟨q39, e40, h⟩ := bnd h
      refine call_v C hP hS (c_X0_addCause e40) mi_X0_addCause mw_1022 9 (by decide) rfl rfl ⟨Nat.le_of_ble_eq_true rfl, Nat.le_of_ble_eq_true rfl⟩ (As := [.int 4, .int q37.1]) rfl hl.1 rfl (lv_room (Nat.le_of_ble_eq_true rfl)) dX0_findCausesInLeg_80 (fun H locs hP hS => ?_)
      refine lv_aload_n hx hb dX0_findCausesInLeg_83 rfl (lv_at hl 1 rfl) ?_
      refine lv_iload_n hx hb dX0_findCausesInLeg_84 rfl (lv_at hl 0 rfl) ?_
      obtain ⟨q41, e42, h⟩ := bnd h
      refine call_v C hP hS (c_X0_addLackOfWater e42) mi_X0_addLackOfWater mw_1037 9 (by decide) rfl rfl ⟨Nat.le_of_ble_eq_true rfl, Nat.le_of_ble_eq_true rfl⟩ (As := [.int q24.1]) rfl hl.1 rfl (lv_room (Nat.le_of_ble_eq_true rfl)) dX0_findCausesInLeg_85 (fun H locs hP hS => ?_)
      refine lv_goto (tgt := 145) hx hb dX0_findCausesInLeg_88 (by decide) ?_
      exact ret_v C hr hlocks hP hS h dX0_findCausesInLeg_145
  · replace h := h_t c26 h
    refine lv_aload_n hx hb dX0_findCausesInLeg_34 rfl (lv_at hl 1 rfl) ?_
    refine lv_iconst (v := 3) hx hb dX0_findCausesInLeg_35 (by decide) ?_
    refine lv_aload_n hx hb dX0_findCausesInLeg_36 rfl (lv_at hl 1 rfl) ?_
    obtain ⟨q43, e44, h⟩ := bnd h
    refine call_i C hP hS (c_X0_sideOff e44) mi_X0_sideOff mw_1032 9 (by decide) rfl rfl ⟨Nat.le_of_ble_eq_true rfl, Nat.le_of_ble_eq_true rfl⟩ (As := []) rfl hl.1 rfl (lv_room (Nat.le_of_ble_eq_true rfl)) dX0_findCausesInLeg_37 (fun H locs hP hS => ?_)
    obtain ⟨q45, e46, h⟩ := bnd h
    refine call_v C hP hS (c_X0_addCause e46) mi_X0_addCause mw_1022 9 (by decide) rfl rfl ⟨Nat.le_of_ble_eq_true rfl, Nat.le_of_ble_eq_true rfl⟩ (As := [.int 3, .int q43.1]) rfl hl.1 rfl (lv_room (Nat.le_of_ble_eq_true rfl)) dX0_findCausesInLeg_40 (fun H locs hP hS => ?_)
    refine lv_goto (tgt := 145) hx hb dX0_findCausesInLeg_43 (by decide) ?_
    exact ret_v C hr hlocks hP hS h dX0_findCausesInLeg_145
set_option maxHeartbeats 4000000 in
set_option maxRecDepth 100000 in
theorem c_X0_findCauses {l : Launch} {G : GT} {lam : Lm} {σ : St} {q : St} (h : f_X0_findCauses σ = some q) : Met l yX0_findCauses (Cond.code yX0_findCauses cX0_findCauses 1 none :: TB) ({ frames := 5, cells := 0, slots := 0, locals := 119 } : Room) (va_Pc [.ref (g_ad G 9)] (GW G lam σ)) (Rv q G lam) 0 0 (g_A G) := by
  refine mk_Qv (own := RX0) (by decide) (Nat.le_of_ble_eq_true rfl) rfl (fun p e s m args below meth c C hr hlocks hP ls hl => ?_)
  have hx := C.1
  have hb := C.2.1
  have hl : lv_has ls 1 [(0, .ref (g_ad G 9))] := hl
  have hS : va_S (g_A G) s.heap s.heap [] := va_S.rf
  unfold f_X0_findCauses at h
  refine lv_aload_n hx hb dX0_findCauses_0 rfl (lv_at hl 0 rfl) ?_
  refine lv_iconst (v := 0) hx hb dX0_findCauses_1 (by decide) ?_
  refine pf_X0_21_9 C hP hS dX0_findCauses_2 (fun H locs hP hS => ?_)
  obtain ⟨σ24, e25, h⟩ := bnd h
  have hP := hPn e25 hP
  refine lv_aload_n hx hb dX0_findCauses_5 rfl (lv_at hl 0 rfl) ?_
  refine gf_X0_36_9 C hP dX0_findCauses_6 ?_
  refine gf_X0_41_8 C hP dX0_findCauses_9 ?_
  by_cases c26 : (σ24 8 8) = 0
  · replace h := h_t c26 h
    refine r_eq c26 ?_
    refine lv_lookup (off := 36) (tgt := 48) hx hb dX0_findCauses_12 (by decide) (by decide) (by decide) ?_
    refine lv_goto (tgt := 139) hx hb dX0_findCauses_48 (by decide) ?_
    exact ret_v C hr hlocks hP hS h dX0_findCauses_139
  replace h := h_f c26 h
  by_cases c31 : (σ24 8 8) = 9
  · replace h := h_t c31 h
    refine r_eq c31 ?_
    refine lv_lookup (off := 67) (tgt := 79) hx hb dX0_findCauses_12 (by decide) (by decide) (by decide) ?_
    refine lv_aload_n hx hb dX0_findCauses_79 rfl (lv_at hl 0 rfl) ?_
    refine lv_iconst (v := 1) hx hb dX0_findCauses_80 (by decide) ?_
    refine lv_aload_n hx hb dX0_findCauses_81 rfl (lv_at hl 0 rfl) ?_
    refine gf_X0_36_9 C hP dX0_findCauses_82 ?_
    refine gf_X0_59_8 C hP dX0_findCauses_85 ?_
    refine lv_iconst (v := 1) hx hb dX0_findCauses_88 (by decide) ?_
    refine lv_isub hx hb dX0_findCauses_89 ?_
    obtain ⟨q27, e28, h⟩ := bnd h
    refine call_v C hP hS (c_X0_addCause e28) mi_X0_addCause mw_1022 9 (by decide) rfl rfl ⟨Nat.le_of_ble_eq_true rfl, Nat.le_of_ble_eq_true rfl⟩ (As := [.int 1, .int ((σ24 8 6) - 1)]) rfl hl.1 rfl (lv_room (Nat.le_of_ble_eq_true rfl)) dX0_findCauses_90 (fun H locs hP hS => ?_)
    refine lv_aload_n hx hb dX0_findCauses_93 rfl (lv_at hl 0 rfl) ?_
    refine lv_bipush (v := 9) hx hb dX0_findCauses_94 (by decide) ?_
    refine lv_aload_n hx hb dX0_findCauses_96 rfl (lv_at hl 0 rfl) ?_
    refine gf_X0_36_9 C hP dX0_findCauses_97 ?_
    refine gf_X0_62_8 C hP dX0_findCauses_100 ?_
    obtain ⟨q29, e30, h⟩ := bnd h
    refine call_v C hP hS (c_X0_addCause e30) mi_X0_addCause mw_1022 9 (by decide) rfl rfl ⟨Nat.le_of_ble_eq_true rfl, Nat.le_of_ble_eq_true rfl⟩ (As := [.int 9, .int (q27 8 9)]) rfl hl.1 rfl (lv_room (Nat.le_of_ble_eq_true rfl)) dX0_findCauses_103 (fun H locs hP hS => ?_)
    refine lv_goto (tgt := 139) hx hb dX0_findCauses_106 (by decide) ?_
    exact ret_v C hr hlocks hP hS h dX0_findCauses_139
  replace h := h_f c31 h
  by_cases c40 : (σ24 8 8) = 10
  · replace h := h_t c40 h
    refine r_eq c40 ?_
    refine lv_lookup (off := 39) (tgt := 51) hx hb dX0_findCauses_12 (by decide) (by decide) (by decide) ?_
    refine lv_aload_n hx hb dX0_findCauses_51 rfl (lv_at hl 0 rfl) ?_
    refine lv_iconst (v := 1) hx hb dX0_findCauses_52 (by decide) ?_
    refine lv_aload_n hx hb dX0_findCauses_53 rfl (lv_at hl 0 rfl) ?_
    refine gf_X0_28_9 C hP dX0_findCauses_54 ?_
    obtain ⟨q32, e33, h⟩ := bnd h
    refine call_i C hP hS (c_X6_legCount_2 e33) mi_X6_legCount mw_1021 2 (by decide) rfl rfl ⟨Nat.le_of_ble_eq_true rfl, Nat.le_of_ble_eq_true rfl⟩ (As := []) rfl hl.1 rfl (lv_room (Nat.le_of_ble_eq_true rfl)) dX0_findCauses_57 (fun H locs hP hS => ?_)
    obtain ⟨q34, e35, h⟩ := bnd h
    refine call_v C hP hS (c_X0_addCause e35) mi_X0_addCause mw_1022 9 (by decide) rfl rfl ⟨Nat.le_of_ble_eq_true rfl, Nat.le_of_ble_eq_true rfl⟩ (As := [.int 1, .int q32.1]) rfl hl.1 rfl (lv_room (Nat.le_of_ble_eq_true rfl)) dX0_findCauses_60 (fun H locs hP hS => ?_)
    refine lv_aload_n hx hb dX0_findCauses_63 rfl (lv_at hl 0 rfl) ?_
    refine lv_bipush (v := 10) hx hb dX0_findCauses_64 (by decide) ?_
    refine lv_aload_n hx hb dX0_findCauses_66 rfl (lv_at hl 0 rfl) ?_
    refine gf_X0_36_9 C hP dX0_findCauses_67 ?_
    obtain ⟨q36, e37, h⟩ := bnd h
    refine call_i C hP hS (c_X8_harbourSquare e37) mi_X8_harbourSquare mw_1026 8 (by decide) rfl rfl ⟨Nat.le_of_ble_eq_true rfl, Nat.le_of_ble_eq_true rfl⟩ (As := []) rfl hl.1 rfl (lv_room (Nat.le_of_ble_eq_true rfl)) dX0_findCauses_70 (fun H locs hP hS => ?_)
    obtain ⟨q38, e39, h⟩ := bnd h
    refine call_v C hP hS (c_X0_addCause e39) mi_X0_addCause mw_1022 9 (by decide) rfl rfl ⟨Nat.le_of_ble_eq_true rfl, Nat.le_of_ble_eq_true rfl⟩ (As := [.int 10, .int q36.1]) rfl hl.1 rfl (lv_room (Nat.le_of_ble_eq_true rfl)) dX0_findCauses_73 (fun H locs hP hS => ?_)
    refine lv_goto (tgt := 139) hx hb dX0_findCauses_76 (by decide) ?_
    exact ret_v C hr hlocks hP hS h dX0_findCauses_139
  replace h := h_f c40 h
  refine lv_lookup (off := 97) (tgt := 109) hx hb dX0_findCauses_12 (by decide) (by simp only [List.toList_toArray]; rw [lv_osw c26 (by decide), lv_osw c31 (by decide), lv_osw c40 (by decide)]; rfl) (by decide) ?_
  refine lv_aload_n hx hb dX0_findCauses_109 rfl (lv_at hl 0 rfl) ?_
  refine lv_iconst (v := 1) hx hb dX0_findCauses_110 (by decide) ?_
  refine lv_aload_n hx hb dX0_findCauses_111 rfl (lv_at hl 0 rfl) ?_
  refine gf_X0_36_9 C hP dX0_findCauses_112 ?_
  refine gf_X0_59_8 C hP dX0_findCauses_115 ?_
  refine lv_iconst (v := 1) hx hb dX0_findCauses_118 (by decide) ?_
  refine lv_isub hx hb dX0_findCauses_119 ?_
  obtain ⟨q41, e42, h⟩ := bnd h
  refine call_v C hP hS (c_X0_addCause e42) mi_X0_addCause mw_1022 9 (by decide) rfl rfl ⟨Nat.le_of_ble_eq_true rfl, Nat.le_of_ble_eq_true rfl⟩ (As := [.int 1, .int ((σ24 8 6) - 1)]) rfl hl.1 rfl (lv_room (Nat.le_of_ble_eq_true rfl)) dX0_findCauses_120 (fun H locs hP hS => ?_)
  refine lv_aload_n hx hb dX0_findCauses_123 rfl (lv_at hl 0 rfl) ?_
  refine lv_iconst (v := 2) hx hb dX0_findCauses_124 (by decide) ?_
  refine lv_aload_n hx hb dX0_findCauses_125 rfl (lv_at hl 0 rfl) ?_
  refine gf_X0_36_9 C hP dX0_findCauses_126 ?_
  refine gf_X0_65_8 C hP dX0_findCauses_129 ?_
  obtain ⟨q43, e44, h⟩ := bnd h
  refine call_v C hP hS (c_X0_addCause e44) mi_X0_addCause mw_1022 9 (by decide) rfl rfl ⟨Nat.le_of_ble_eq_true rfl, Nat.le_of_ble_eq_true rfl⟩ (As := [.int 2, .int (q41 8 3)]) rfl hl.1 rfl (lv_room (Nat.le_of_ble_eq_true rfl)) dX0_findCauses_132 (fun H locs hP hS => ?_)
  refine lv_aload_n hx hb dX0_findCauses_135 rfl (lv_at hl 0 rfl) ?_
  obtain ⟨q45, e46, h⟩ := bnd h
  refine call_v C hP hS (c_X0_findCausesInLeg e46) mi_X0_findCausesInLeg mw_1027 9 (by decide) rfl rfl ⟨Nat.le_of_ble_eq_true rfl, Nat.le_of_ble_eq_true rfl⟩ (As := []) rfl hl.1 rfl (lv_room (Nat.le_of_ble_eq_true rfl)) dX0_findCauses_136 (fun H locs hP hS => ?_)
  exact ret_v C hr hlocks hP hS h dX0_findCauses_139
set_option maxHeartbeats 4000000 in
set_option maxRecDepth 100000 in
theorem c_X0_numberOf {l : Launch} {G : GT} {lam : Lm} {σ : St} {a1 : Int32} {q : Int32 × St} (h : f_X0_numberOf σ a1 = some q) : Met l yX0_numberOf (Cond.code yX0_numberOf cX0_numberOf 2 ((some .int)) :: TB) ({ frames := 0, cells := 0, slots := 0, locals := 0 } : Room) (va_Pc [.ref (g_ad G 9), .int a1] (GW G lam σ)) (Ri q G lam) 0 0 (g_A G) := by
  refine mk_Qi (own := RX0) (by decide) (Nat.le_of_ble_eq_true rfl) rfl (fun p e s m args below meth c C hr hlocks hP ls hl => ?_)
  have hx := C.1
  have hb := C.2.1
  have hl : lv_has ls 2 [(0, .ref (g_ad G 9)), (1, .int a1)] := hl
  have hS : va_S (g_A G) s.heap s.heap [] := va_S.rf
  unfold f_X0_numberOf at h
  refine lv_iload_n hx hb dX0_numberOf_0 rfl (lv_at hl 1 rfl) ?_
  refine lv_if_lt (tgt := 26) hx hb dX0_numberOf_1 (by decide) (fun c5 => ?_) (fun c5 => ?_)
  · replace h := h_t c5 h
    refine lv_ldc hx hb C.2.2.2.1 (C.2.2.2.2.1 _ mw_1055) dX0_numberOf_26 ?_
    exact ret_i C hr hlocks hP hS h dX0_numberOf_28
  · replace h := h_f c5 h
    refine lv_iload_n hx hb dX0_numberOf_4 rfl (lv_at hl 1 rfl) ?_
    refine lv_aload_n hx hb dX0_numberOf_5 rfl (lv_at hl 0 rfl) ?_
    refine gf_X0_21_9 C hP dX0_numberOf_6 ?_
    refine lv_icmp_ge (tgt := 26) hx hb dX0_numberOf_9 (by decide) (fun c6 => ?_) (fun c6 => ?_)
    · replace h := h_t c6 h
      refine lv_ldc hx hb C.2.2.2.1 (C.2.2.2.2.1 _ mw_1055) dX0_numberOf_26 ?_
      exact ret_i C hr hlocks hP hS h dX0_numberOf_28
    · replace h := h_f c6 h
      refine lv_iload_n hx hb dX0_numberOf_12 rfl (lv_at hl 1 rfl) ?_
      refine lv_iconst (v := 4) hx hb dX0_numberOf_13 (by decide) ?_
      refine lv_icmp_ge (tgt := 26) hx hb dX0_numberOf_14 (by decide) (fun c7 => ?_) (fun c7 => ?_)
      · replace h := h_t c7 h
        refine lv_ldc hx hb C.2.2.2.1 (C.2.2.2.2.1 _ mw_1055) dX0_numberOf_26 ?_
        exact ret_i C hr hlocks hP hS h dX0_numberOf_28
      · replace h := h_f c7 h
        refine lv_aload_n hx hb dX0_numberOf_17 rfl (lv_at hl 0 rfl) ?_
        refine gf_X0_15_9 C hP dX0_numberOf_18 ?_
        refine lv_iload_n hx hb dX0_numberOf_21 rfl (lv_at hl 1 rfl) ?_
        obtain ⟨g8, h⟩ := h_g h
        refine r_ald C hP 24 (by decide) rfl (vp_in_iff.mpr g8) dX0_numberOf_22 ?_
        refine lv_goto (tgt := 28) hx hb dX0_numberOf_23 (by decide) ?_
        exact ret_i C hr hlocks hP hS h dX0_numberOf_28
set_option maxHeartbeats 4000000 in
set_option maxRecDepth 100000 in
theorem c_X0_kindOf {l : Launch} {G : GT} {lam : Lm} {σ : St} {a1 : Int32} {q : Int32 × St} (h : f_X0_kindOf σ a1 = some q) : Met l yX0_kindOf (Cond.code yX0_kindOf cX0_kindOf 2 ((some .int)) :: TB) ({ frames := 0, cells := 0, slots := 0, locals := 0 } : Room) (va_Pc [.ref (g_ad G 9), .int a1] (GW G lam σ)) (Ri q G lam) 0 0 (g_A G) := by
  refine mk_Qi (own := RX0) (by decide) (Nat.le_of_ble_eq_true rfl) rfl (fun p e s m args below meth c C hr hlocks hP ls hl => ?_)
  have hx := C.1
  have hb := C.2.1
  have hl : lv_has ls 2 [(0, .ref (g_ad G 9)), (1, .int a1)] := hl
  have hS : va_S (g_A G) s.heap s.heap [] := va_S.rf
  unfold f_X0_kindOf at h
  refine lv_iload_n hx hb dX0_kindOf_0 rfl (lv_at hl 1 rfl) ?_
  refine lv_if_lt (tgt := 26) hx hb dX0_kindOf_1 (by decide) (fun c5 => ?_) (fun c5 => ?_)
  · replace h := h_t c5 h
    refine lv_ldc hx hb C.2.2.2.1 (C.2.2.2.2.1 _ mw_1055) dX0_kindOf_26 ?_
    exact ret_i C hr hlocks hP hS h dX0_kindOf_28
  · replace h := h_f c5 h
    refine lv_iload_n hx hb dX0_kindOf_4 rfl (lv_at hl 1 rfl) ?_
    refine lv_aload_n hx hb dX0_kindOf_5 rfl (lv_at hl 0 rfl) ?_
    refine gf_X0_21_9 C hP dX0_kindOf_6 ?_
    refine lv_icmp_ge (tgt := 26) hx hb dX0_kindOf_9 (by decide) (fun c6 => ?_) (fun c6 => ?_)
    · replace h := h_t c6 h
      refine lv_ldc hx hb C.2.2.2.1 (C.2.2.2.2.1 _ mw_1055) dX0_kindOf_26 ?_
      exact ret_i C hr hlocks hP hS h dX0_kindOf_28
    · replace h := h_f c6 h
      refine lv_iload_n hx hb dX0_kindOf_12 rfl (lv_at hl 1 rfl) ?_
      refine lv_iconst (v := 4) hx hb dX0_kindOf_13 (by decide) ?_
      refine lv_icmp_ge (tgt := 26) hx hb dX0_kindOf_14 (by decide) (fun c7 => ?_) (fun c7 => ?_)
      · replace h := h_t c7 h
        refine lv_ldc hx hb C.2.2.2.1 (C.2.2.2.2.1 _ mw_1055) dX0_kindOf_26 ?_
        exact ret_i C hr hlocks hP hS h dX0_kindOf_28
      · replace h := h_f c7 h
        refine lv_aload_n hx hb dX0_kindOf_17 rfl (lv_at hl 0 rfl) ?_
        refine gf_X0_11_9 C hP dX0_kindOf_18 ?_
        refine lv_iload_n hx hb dX0_kindOf_21 rfl (lv_at hl 1 rfl) ?_
        obtain ⟨g8, h⟩ := h_g h
        refine r_ald C hP 23 (by decide) rfl (vp_in_iff.mpr g8) dX0_kindOf_22 ?_
        refine lv_goto (tgt := 28) hx hb dX0_kindOf_23 (by decide) ?_
        exact ret_i C hr hlocks hP hS h dX0_kindOf_28
set_option maxHeartbeats 4000000 in
set_option maxRecDepth 100000 in
theorem c_X10_why {l : Launch} {G : GT} {lam : Lm} {σ : St} {a1 : Int32} {a2 : Int32} {a3 : Int32} {q : Int32 × St} (h : f_X10_why σ a1 a2 a3 = some q) : Met l yX10_why (Cond.code yX10_why cX10_why 4 ((some .int)) :: TB) ({ frames := 7, cells := 0, slots := 0, locals := 172 } : Room) (va_Pc [.ref (g_ad G 0), .int a1, .int a2, .int a3] (GW G lam σ)) (Ri q G lam) 0 0 (g_A G) := by
  refine mk_Qi (own := RX10) (by decide) (Nat.le_of_ble_eq_true rfl) rfl (fun p e s m args below meth c C hr hlocks hP ls hl => ?_)
  have hx := C.1
  have hb := C.2.1
  have hl : lv_has ls 4 [(0, .ref (g_ad G 0)), (1, .int a1), (2, .int a2), (3, .int a3)] := hl
  have hS : va_S (g_A G) s.heap s.heap [] := va_S.rf
  unfold f_X10_why at h
  refine lv_aload_n hx hb dX10_why_0 rfl (lv_at hl 0 rfl) ?_
  refine gf_X10_19_0 C hP dX10_why_1 ?_
  obtain ⟨q20, e21, h⟩ := bnd h
  refine call_i C hP hS (c_X6_isTold_2 e21) mi_X6_isTold mw_753 2 (by decide) rfl rfl ⟨Nat.le_of_ble_eq_true rfl, Nat.le_of_ble_eq_true rfl⟩ (As := []) rfl hl.1 rfl (lv_room (Nat.le_of_ble_eq_true rfl)) dX10_why_4 (fun H locs hP hS => ?_)
  refine lv_if_ne (tgt := 13) hx hb dX10_why_7 (by decide) (fun c22 => ?_) (fun c22 => ?_)
  · replace h := h_f c22 h
    refine lv_iload_n hx hb dX10_why_13 rfl (lv_at hl 1 rfl) ?_
    obtain ⟨q23, e24, h⟩ := bnd h
    refine scall_i C hP hS (c_X10_isStart e24) ms_X10_isStart mw_925 ⟨Nat.le_of_ble_eq_true rfl, Nat.le_of_ble_eq_true rfl⟩ (As := [.int a1]) rfl hl.1 rfl (lv_room (Nat.le_of_ble_eq_true rfl)) dX10_why_14 (fun H locs hP hS => ?_)
    refine lv_if_eq (tgt := 33) hx hb dX10_why_17 (by decide) (fun c25 => ?_) (fun c25 => ?_)
    · replace h := h_t c25 h
      refine lv_ldc hx hb C.2.2.2.1 (C.2.2.2.2.1 _ mw_411) dX10_why_33 ?_
      exact ret_i C hr hlocks hP hS h dX10_why_35
    · replace h := h_f c25 h
      refine lv_iload_n hx hb dX10_why_20 rfl (lv_at hl 2 rfl) ?_
      refine lv_if_lt (tgt := 33) hx hb dX10_why_21 (by decide) (fun c26 => ?_) (fun c26 => ?_)
      · replace h := h_t c26 h
        refine lv_ldc hx hb C.2.2.2.1 (C.2.2.2.2.1 _ mw_411) dX10_why_33 ?_
        exact ret_i C hr hlocks hP hS h dX10_why_35
      · replace h := h_f c26 h
        refine lv_iload_n hx hb dX10_why_24 rfl (lv_at hl 3 rfl) ?_
        refine lv_iconst (v := 0) hx hb dX10_why_25 (by decide) ?_
        refine lv_iconst (v := 1) hx hb dX10_why_26 (by decide) ?_
        obtain ⟨q27, e28, h⟩ := bnd h
        refine scall_i C hP hS (c_X10_isWithin e28) ms_X10_isWithin mw_408 ⟨Nat.le_of_ble_eq_true rfl, Nat.le_of_ble_eq_true rfl⟩ (As := [.int a3, .int 0, .int 1]) rfl hl.1 rfl (lv_room (Nat.le_of_ble_eq_true rfl)) dX10_why_27 (fun H locs hP hS => ?_)
        refine lv_if_ne (tgt := 36) hx hb dX10_why_30 (by decide) (fun c29 => ?_) (fun c29 => ?_)
        · replace h := h_f c29 h
          refine lv_aload_n hx hb dX10_why_36 rfl (lv_at hl 0 rfl) ?_
          refine lv_iload_n hx hb dX10_why_37 rfl (lv_at hl 1 rfl) ?_
          obtain ⟨q30, e31, h⟩ := bnd h
          refine call_v C hP hS (c_X10_makeVoyage e31) mi_X10_makeVoyage mw_928 0 (by decide) rfl rfl ⟨Nat.le_of_ble_eq_true rfl, Nat.le_of_ble_eq_true rfl⟩ (As := [.int a1]) rfl hl.1 rfl (lv_room (Nat.le_of_ble_eq_true rfl)) dX10_why_38 (fun H locs hP hS => ?_)
          refine lv_aload_n hx hb dX10_why_41 rfl (lv_at hl 0 rfl) ?_
          refine gf_X10_68_0 C hP dX10_why_42 ?_
          obtain ⟨q32, e33, h⟩ := bnd h
          refine call_v C hP hS (c_X0_findCauses e33) mi_X0_findCauses mw_1017 9 (by decide) rfl rfl ⟨Nat.le_of_ble_eq_true rfl, Nat.le_of_ble_eq_true rfl⟩ (As := []) rfl hl.1 rfl (lv_room (Nat.le_of_ble_eq_true rfl)) dX10_why_45 (fun H locs hP hS => ?_)
          refine lv_iload_n hx hb dX10_why_48 rfl (lv_at hl 3 rfl) ?_
          refine lv_if_ne (tgt := 63) hx hb dX10_why_49 (by decide) (fun c34 => ?_) (fun c34 => ?_)
          · replace h := h_f c34 h
            refine lv_aload_n hx hb dX10_why_63 rfl (lv_at hl 0 rfl) ?_
            refine gf_X10_68_0 C hP dX10_why_64 ?_
            refine lv_iload_n hx hb dX10_why_67 rfl (lv_at hl 2 rfl) ?_
            obtain ⟨q35, e36, h⟩ := bnd h
            refine call_i C hP hS (c_X0_numberOf e36) mi_X0_numberOf mw_1060 9 (by decide) rfl rfl ⟨Nat.le_of_ble_eq_true rfl, Nat.le_of_ble_eq_true rfl⟩ (As := [.int a2]) rfl hl.1 rfl (lv_room (Nat.le_of_ble_eq_true rfl)) dX10_why_68 (fun H locs hP hS => ?_)
            exact ret_i C hr hlocks hP hS h dX10_why_71
          · replace h := h_t c34 h
            refine lv_aload_n hx hb dX10_why_52 rfl (lv_at hl 0 rfl) ?_
            refine gf_X10_68_0 C hP dX10_why_53 ?_
            refine lv_iload_n hx hb dX10_why_56 rfl (lv_at hl 2 rfl) ?_
            obtain ⟨q37, e38, h⟩ := bnd h
            refine call_i C hP hS (c_X0_kindOf e38) mi_X0_kindOf mw_1056 9 (by decide) rfl rfl ⟨Nat.le_of_ble_eq_true rfl, Nat.le_of_ble_eq_true rfl⟩ (As := [.int a2]) rfl hl.1 rfl (lv_room (Nat.le_of_ble_eq_true rfl)) dX10_why_57 (fun H locs hP hS => ?_)
            refine lv_goto (tgt := 71) hx hb dX10_why_60 (by decide) ?_
            exact ret_i C hr hlocks hP hS h dX10_why_71
        · replace h := h_t c29 h
          refine lv_ldc hx hb C.2.2.2.1 (C.2.2.2.2.1 _ mw_411) dX10_why_33 ?_
          exact ret_i C hr hlocks hP hS h dX10_why_35
  · replace h := h_t c22 h
    refine lv_ldc hx hb C.2.2.2.1 (C.2.2.2.2.1 _ mw_716) dX10_why_10 ?_
    exact ret_i C hr hlocks hP hS h dX10_why_12
set_option maxHeartbeats 4000000 in
set_option maxRecDepth 100000 in
theorem c_X0_writeSign {l : Launch} {G : GT} {lam : Lm} {σ : St} {a1 : Int32} {q : St} (h : f_X0_writeSign σ a1 = some q) : Met l yX0_writeSign (Cond.code yX0_writeSign cX0_writeSign 2 none :: TB) ({ frames := 0, cells := 0, slots := 0, locals := 0 } : Room) (va_Pc [.ref (g_ad G 9), .int a1] (GW G lam σ)) (Rv q G lam) 0 0 (g_A G) := by
  refine mk_Qv (own := RX0) (by decide) (Nat.le_of_ble_eq_true rfl) rfl (fun p e s m args below meth c C hr hlocks hP ls hl => ?_)
  have hx := C.1
  have hb := C.2.1
  have hl : lv_has ls 2 [(0, .ref (g_ad G 9)), (1, .int a1)] := hl
  have hS : va_S (g_A G) s.heap s.heap [] := va_S.rf
  unfold f_X0_writeSign at h
  refine lv_aload_n hx hb dX0_writeSign_0 rfl (lv_at hl 0 rfl) ?_
  refine gf_X0_25_9 C hP dX0_writeSign_1 ?_
  refine lv_if_lt (tgt := 36) hx hb dX0_writeSign_4 (by decide) (fun c8 => ?_) (fun c8 => ?_)
  · replace h := h_t c8 h
    exact ret_v C hr hlocks hP hS h dX0_writeSign_36
  · replace h := h_f c8 h
    refine lv_aload_n hx hb dX0_writeSign_7 rfl (lv_at hl 0 rfl) ?_
    refine gf_X0_25_9 C hP dX0_writeSign_8 ?_
    refine lv_bipush (v := 64) hx hb dX0_writeSign_11 (by decide) ?_
    refine lv_icmp_ge (tgt := 36) hx hb dX0_writeSign_13 (by decide) (fun c9 => ?_) (fun c9 => ?_)
    · replace h := h_t c9 h
      exact ret_v C hr hlocks hP hS h dX0_writeSign_36
    · replace h := h_f c9 h
      refine lv_aload_n hx hb dX0_writeSign_16 rfl (lv_at hl 0 rfl) ?_
      refine gf_X0_18_9 C hP dX0_writeSign_17 ?_
      refine lv_aload_n hx hb dX0_writeSign_20 rfl (lv_at hl 0 rfl) ?_
      refine gf_X0_25_9 C hP dX0_writeSign_21 ?_
      refine lv_iload_n hx hb dX0_writeSign_24 rfl (lv_at hl 1 rfl) ?_
      obtain ⟨g10, h⟩ := h_g h
      refine r_ast C hP hS 25 (by decide) (fun _ => rfl) (vp_in_iff.mpr g10) dX0_writeSign_25 (fun H locs hP hS => ?_)
      obtain ⟨σ11, e12, h⟩ := bnd h
      have hP := hPn e12 hP
      refine lv_aload_n hx hb dX0_writeSign_26 rfl (lv_at hl 0 rfl) ?_
      refine lv_dup hx hb dX0_writeSign_27 rfl ?_
      refine gf_X0_25_9 C hP dX0_writeSign_28 ?_
      refine lv_iconst (v := 1) hx hb dX0_writeSign_31 (by decide) ?_
      refine lv_iadd hx hb dX0_writeSign_32 ?_
      refine pf_X0_25_9 C hP hS dX0_writeSign_33 (fun H locs hP hS => ?_)
      obtain ⟨σ13, e14, h⟩ := bnd h
      have hP := hPn e14 hP
      exact ret_v C hr hlocks hP hS h dX0_writeSign_36
set_option maxHeartbeats 4000000 in
set_option maxRecDepth 100000 in
theorem c_X0_writeGreat {l : Launch} {G : GT} {lam : Lm} {σ : St} {a1 : Nat} {q : St} (h : f_X0_writeGreat σ a1 = some q) : Met l yX0_writeGreat (Cond.code yX0_writeGreat cX0_writeGreat 3 none :: TB) ({ frames := 4, cells := 0, slots := 0, locals := 85 } : Room) (va_Pc [.ref (g_ad G 9), .ref (g_sk G (a1))] (GW G lam σ)) (Rv q G lam) 0 0 (g_A G) := by
  refine mk_Qv (own := RX0) (by decide) (Nat.le_of_ble_eq_true rfl) rfl (fun p e s m args below meth c C hr hlocks hP ls hl => ?_)
  have hx := C.1
  have hb := C.2.1
  have hl : lv_has ls 3 [(0, .ref (g_ad G 9)), (1, .ref (g_sk G (a1)))] := hl
  have L2 : ∀ (n2 : Nat) (σ : St) (x1 : Nat) (x2 : Int32) (H : Heap) (locs : List Loc) (ls : Array Slot), fx (F_X0_writeGreat_h2) z_X0_writeGreat_h2 n2 σ x1 x2 = some q → va_P (g_D G) vwCl (allW G lam σ) H → va_S (g_A G) s.heap H locs → lv_has ls 3 [(0, .ref (g_ad G 9)), (1, .ref (g_sk G (x1))), (2, .int x2)] → W p l e ({ frames := 4, cells := 0, slots := 0, locals := 85 } : Room) s m args below meth c H locs 0 0 (Qv q below args s G lam) (F0 m 2 ls []) := by
    intro n2
    induction n2 with
    | zero => intro σ x1 x2 H locs ls h hP hS hl; exact absurd h (by intro h9; cases h9)
    | succ n2 ih2 =>
      intro σ x1 x2 H locs ls h hP hS hl
      change F_X0_writeGreat_h2 (fx (F_X0_writeGreat_h2) z_X0_writeGreat_h2 n2) σ x1 x2 = some q at h
      unfold F_X0_writeGreat_h2 at h
      refine lv_iload_n hx hb dX0_writeGreat_2 rfl (lv_at hl 2 rfl) ?_
      refine lv_aload_n hx hb dX0_writeGreat_3 rfl (lv_at hl 1 rfl) ?_
      obtain ⟨g14, h⟩ := h_g h
      obtain ⟨q12, e13, h⟩ := bnd h
      refine tcall_i C hP hS (c_J0_length_8abf5 e13) mi_J0_length_8abf5 mw_1078 g14 ⟨Nat.le_of_ble_eq_true rfl, Nat.le_of_ble_eq_true rfl⟩ (As := []) rfl hl.1 rfl (lv_room (Nat.le_of_ble_eq_true rfl)) dX0_writeGreat_4 (fun H locs hP hS => ?_)
      refine lv_icmp_ge (tgt := 28) hx hb dX0_writeGreat_7 (by decide) (fun c15 => ?_) (fun c15 => ?_)
      · replace h := h_t c15 h
        exact ret_v C hr hlocks hP hS h dX0_writeGreat_28
      · replace h := h_f c15 h
        refine lv_aload_n hx hb dX0_writeGreat_10 rfl (lv_at hl 0 rfl) ?_
        refine lv_aload_n hx hb dX0_writeGreat_11 rfl (lv_at hl 1 rfl) ?_
        refine lv_iload_n hx hb dX0_writeGreat_12 rfl (lv_at hl 2 rfl) ?_
        obtain ⟨g18, h⟩ := h_g h
        obtain ⟨q16, e17, h⟩ := bnd h
        refine tcall_i C hP hS (c_J0_charAt_5068e e17) mi_J0_charAt_5068e mw_1079 g18 ⟨Nat.le_of_ble_eq_true rfl, Nat.le_of_ble_eq_true rfl⟩ (As := [.int x2]) rfl hl.1 rfl (lv_room (Nat.le_of_ble_eq_true rfl)) dX0_writeGreat_13 (fun H locs hP hS => ?_)
        refine lv_bipush (v := (-32)) hx hb dX0_writeGreat_16 (by decide) ?_
        refine lv_iadd hx hb dX0_writeGreat_18 ?_
        obtain ⟨q19, e20, h⟩ := bnd h
        refine call_v C hP hS (c_X0_writeSign e20) mi_X0_writeSign mw_1080 9 (by decide) rfl rfl ⟨Nat.le_of_ble_eq_true rfl, Nat.le_of_ble_eq_true rfl⟩ (As := [.int (q16.1 + (-32))]) rfl hl.1 rfl (lv_room (Nat.le_of_ble_eq_true rfl)) dX0_writeGreat_19 (fun H locs hP hS => ?_)
        obtain ⟨y21, e22, h⟩ := bnd h
        refine lv_iinc (v := y21) (lv' := [(2, .int y21), (0, .ref (g_ad G 9)), (1, .ref (g_sk G (x1)))]) hx hb dX0_writeGreat_22 hl (k := 2) rfl (Option.some.inj e22) (by decide) rfl (fun ls hl => ?_)
        refine lv_goto (tgt := 2) hx hb dX0_writeGreat_25 (by decide) ?_
        exact ih2 _ _ _ H locs ls h hP hS (lv_sub hl [1, 2, 0] rfl)
  have hS : va_S (g_A G) s.heap s.heap [] := va_S.rf
  unfold f_X0_writeGreat at h
  obtain ⟨H, hH⟩ : ∃ H, H = s.heap := ⟨_, rfl⟩
  obtain ⟨locs, hlo⟩ : ∃ k : List Loc, k = [] := ⟨_, rfl⟩
  rw [← hH, ← hlo]
  rw [← hH] at hP
  replace hS : va_S (g_A G) s.heap H locs := by rw [hH, hlo]; exact hS
  refine lv_iconst (v := 0) hx hb dX0_writeGreat_0 (by decide) ?_
  refine lv_istore_n (lv' := [(2, .int 0), (0, .ref (g_ad G 9)), (1, .ref (g_sk G (a1)))]) hx hb dX0_writeGreat_1 rfl hl (by decide) rfl (fun ls hl => ?_)
  exact L2 FU _ _ _ H locs ls h hP hS (lv_sub hl [1, 2, 0] rfl)
