set_option maxHeartbeats 4000000 in
set_option maxRecDepth 100000 in
theorem c_X11_line {l : Launch} {G : GT} {lam : Lm} {σ : St} {a1 : Int32} {a2 : Int32} {a3 : Int32} {a4 : Int32} {q : Int32 × St} (h : f_X11_line σ a1 a2 a3 a4 = some q) : Met l yX11_line (Cond.code yX11_line cX11_line 5 ((some .int)) :: TB) ({ frames := 3, cells := 0, slots := 0, locals := 68 } : Room) (va_Pc [.ref (g_ad G 26), .int a1, .int a2, .int a3, .int a4] (GW G lam σ)) (Ri q G lam) 0 0 (g_A G) := by
  refine mk_Qi (own := RX11) (by decide) (Nat.le_of_ble_eq_true rfl) rfl (fun p e s m args below meth c C hr hlocks hP ls hl => ?_)
  have hx := C.1
  have hb := C.2.1
  have hl : lv_has ls 5 [(0, .ref (g_ad G 26)), (1, .int a1), (2, .int a2), (3, .int a3), (4, .int a4)] := hl
  have hS : va_S (g_A G) s.heap s.heap [] := va_S.rf
  unfold f_X11_line at h
  refine lv_aload_n hx hb dX11_line_0 rfl (lv_at hl 0 rfl) ?_
  refine lv_iload_n hx hb dX11_line_1 rfl (lv_at hl 1 rfl) ?_
  refine lv_iload_n hx hb dX11_line_2 rfl (lv_at hl 2 rfl) ?_
  obtain ⟨q14, e15, h⟩ := bnd h
  refine call_i C hP hS (c_X11_areTwo e15) mi_X11_areTwo mw_1566 26 (by decide) rfl rfl ⟨Nat.le_of_ble_eq_true rfl, Nat.le_of_ble_eq_true rfl⟩ (As := [.int a1, .int a2]) rfl hl.1 rfl (lv_room (Nat.le_of_ble_eq_true rfl)) dX11_line_3 (fun H locs hP hS => ?_)
  refine lv_if_eq (tgt := 18) hx hb dX11_line_6 (by decide) (fun c16 => ?_) (fun c16 => ?_)
  · replace h := h_t c16 h
    refine lv_ldc hx hb C.2.2.2.1 (C.2.2.2.2.1 _ mw_1323) dX11_line_18 ?_
    exact ret_i C hr hlocks hP hS h dX11_line_20
  · replace h := h_f c16 h
    refine lv_iload_n hx hb dX11_line_9 rfl (lv_at hl 3 rfl) ?_
    refine lv_iload hx hb dX11_line_10 (lv_at hl 4 rfl) ?_
    obtain ⟨q17, e18, h⟩ := bnd h
    refine scall_i C hP hS (c_X11_isPlace e18) ms_X11_isPlace mw_1502 ⟨Nat.le_of_ble_eq_true rfl, Nat.le_of_ble_eq_true rfl⟩ (As := [.int a3, .int a4]) rfl hl.1 rfl (lv_room (Nat.le_of_ble_eq_true rfl)) dX11_line_12 (fun H locs hP hS => ?_)
    refine lv_if_ne (tgt := 21) hx hb dX11_line_15 (by decide) (fun c19 => ?_) (fun c19 => ?_)
    · replace h := h_f c19 h
      refine lv_aload_n hx hb dX11_line_21 rfl (lv_at hl 0 rfl) ?_
      refine lv_iload_n hx hb dX11_line_22 rfl (lv_at hl 1 rfl) ?_
      refine lv_iload_n hx hb dX11_line_23 rfl (lv_at hl 2 rfl) ?_
      obtain ⟨q20, e21, h⟩ := bnd h
      refine call_i C hP hS (c_X11_areApart e21) mi_X11_areApart mw_1570 26 (by decide) rfl rfl ⟨Nat.le_of_ble_eq_true rfl, Nat.le_of_ble_eq_true rfl⟩ (As := [.int a1, .int a2]) rfl hl.1 rfl (lv_room (Nat.le_of_ble_eq_true rfl)) dX11_line_24 (fun H locs hP hS => ?_)
      refine lv_if_ne (tgt := 35) hx hb dX11_line_27 (by decide) (fun c22 => ?_) (fun c22 => ?_)
      · replace h := h_f c22 h
        refine lv_aload_n hx hb dX11_line_35 rfl (lv_at hl 0 rfl) ?_
        refine lv_iload_n hx hb dX11_line_36 rfl (lv_at hl 1 rfl) ?_
        refine lv_iload_n hx hb dX11_line_37 rfl (lv_at hl 2 rfl) ?_
        refine lv_iload_n hx hb dX11_line_38 rfl (lv_at hl 3 rfl) ?_
        refine lv_iload hx hb dX11_line_39 (lv_at hl 4 rfl) ?_
        obtain ⟨q23, e24, h⟩ := bnd h
        refine call_i C hP hS (c_X11_side e24) mi_X11_side mw_1574 26 (by decide) rfl rfl ⟨Nat.le_of_ble_eq_true rfl, Nat.le_of_ble_eq_true rfl⟩ (As := [.int a1, .int a2, .int a3, .int a4]) rfl hl.1 rfl (lv_room (Nat.le_of_ble_eq_true rfl)) dX11_line_41 (fun H locs hP hS => ?_)
        obtain ⟨q25, e26, h⟩ := bnd h
        refine scall_i C hP hS (c_X11_signOf e26) ms_X11_signOf mw_1578 ⟨Nat.le_of_ble_eq_true rfl, Nat.le_of_ble_eq_true rfl⟩ (As := [.int q23.1]) rfl hl.1 rfl (lv_room (Nat.le_of_ble_eq_true rfl)) dX11_line_44 (fun H locs hP hS => ?_)
        exact ret_i C hr hlocks hP hS h dX11_line_47
      · replace h := h_t c22 h
        refine lv_ldc hx hb C.2.2.2.1 (C.2.2.2.2.1 _ mw_1403) dX11_line_30 ?_
        refine lv_goto (tgt := 47) hx hb dX11_line_32 (by decide) ?_
        exact ret_i C hr hlocks hP hS h dX11_line_47
    · replace h := h_t c19 h
      refine lv_ldc hx hb C.2.2.2.1 (C.2.2.2.2.1 _ mw_1323) dX11_line_18 ?_
      exact ret_i C hr hlocks hP hS h dX11_line_20
set_option maxHeartbeats 4000000 in
set_option maxRecDepth 100000 in
theorem c_X11_wholly {l : Launch} {G : GT} {lam : Lm} {σ : St} {a1 : Int32} {a2 : Int32} {a3 : Int32} {q : Int32 × St} (h : f_X11_wholly σ a1 a2 a3 = some q) : Met l yX11_wholly (Cond.code yX11_wholly cX11_wholly 9 ((some .int)) :: TB) ({ frames := 2, cells := 0, slots := 0, locals := 46 } : Room) (va_Pc [.ref (g_ad G 26), .int a1, .int a2, .int a3] (GW G lam σ)) (Ri q G lam) 0 0 (g_A G) := by
  refine mk_Qi (own := RX11) (by decide) (Nat.le_of_ble_eq_true rfl) rfl (fun p e s m args below meth c C hr hlocks hP ls hl => ?_)
  have hx := C.1
  have hb := C.2.1
  have hl : lv_has ls 9 [(0, .ref (g_ad G 26)), (1, .int a1), (2, .int a2), (3, .int a3)] := hl
  have hS : va_S (g_A G) s.heap s.heap [] := va_S.rf
  unfold f_X11_wholly at h
  refine lv_aload_n hx hb dX11_wholly_0 rfl (lv_at hl 0 rfl) ?_
  refine lv_iload_n hx hb dX11_wholly_1 rfl (lv_at hl 3 rfl) ?_
  refine lv_iconst (v := 1) hx hb dX11_wholly_2 (by decide) ?_
  obtain ⟨q41, e42, h⟩ := bnd h
  refine call_i C hP hS (c_X11_of e42) mi_X11_of mw_1433 26 (by decide) rfl rfl ⟨Nat.le_of_ble_eq_true rfl, Nat.le_of_ble_eq_true rfl⟩ (As := [.int a3, .int 1]) rfl hl.1 rfl (lv_room (Nat.le_of_ble_eq_true rfl)) dX11_wholly_3 (fun H locs hP hS => ?_)
  refine lv_istore (lv' := [(4, .int q41.1), (0, .ref (g_ad G 26)), (1, .int a1), (2, .int a2), (3, .int a3)]) hx hb dX11_wholly_6 hl (by decide) rfl (fun ls hl => ?_)
  refine lv_aload_n hx hb dX11_wholly_8 rfl (lv_at hl 1 rfl) ?_
  refine lv_iload_n hx hb dX11_wholly_9 rfl (lv_at hl 4 rfl) ?_
  refine lv_iconst (v := 2) hx hb dX11_wholly_10 (by decide) ?_
  obtain ⟨q43, e44, h⟩ := bnd h
  refine call_i C hP hS (c_X11_of e44) mi_X11_of mw_1433 26 (by decide) rfl rfl ⟨Nat.le_of_ble_eq_true rfl, Nat.le_of_ble_eq_true rfl⟩ (As := [.int a3, .int 2]) rfl hl.1 rfl (lv_room (Nat.le_of_ble_eq_true rfl)) dX11_wholly_11 (fun H locs hP hS => ?_)
  refine lv_istore (lv' := [(5, .int q43.1), (4, .int q41.1), (0, .ref (g_ad G 26)), (1, .int a1), (2, .int a2), (3, .int a3)]) hx hb dX11_wholly_14 hl (by decide) rfl (fun ls hl => ?_)
  refine lv_aload_n hx hb dX11_wholly_16 rfl (lv_at hl 2 rfl) ?_
  refine lv_iload_n hx hb dX11_wholly_17 rfl (lv_at hl 5 rfl) ?_
  refine lv_iconst (v := 3) hx hb dX11_wholly_18 (by decide) ?_
  obtain ⟨q45, e46, h⟩ := bnd h
  refine call_i C hP hS (c_X11_of e46) mi_X11_of mw_1433 26 (by decide) rfl rfl ⟨Nat.le_of_ble_eq_true rfl, Nat.le_of_ble_eq_true rfl⟩ (As := [.int a3, .int 3]) rfl hl.1 rfl (lv_room (Nat.le_of_ble_eq_true rfl)) dX11_wholly_19 (fun H locs hP hS => ?_)
  refine lv_istore (lv' := [(6, .int q45.1), (5, .int q43.1), (4, .int q41.1), (0, .ref (g_ad G 26)), (1, .int a1), (2, .int a2), (3, .int a3)]) hx hb dX11_wholly_22 hl (by decide) rfl (fun ls hl => ?_)
  refine lv_aload_n hx hb dX11_wholly_24 rfl (lv_at hl 3 rfl) ?_
  refine lv_iload_n hx hb dX11_wholly_25 rfl (lv_at hl 4 rfl) ?_
  refine lv_iload_n hx hb dX11_wholly_26 rfl (lv_at hl 5 rfl) ?_
  refine lv_iload hx hb dX11_wholly_27 (lv_at hl 2 rfl) ?_
  refine lv_iload hx hb dX11_wholly_29 (lv_at hl 1 rfl) ?_
  obtain ⟨q47, e48, h⟩ := bnd h
  refine call_i C hP hS (c_X11_side e48) mi_X11_side mw_1574 26 (by decide) rfl rfl ⟨Nat.le_of_ble_eq_true rfl, Nat.le_of_ble_eq_true rfl⟩ (As := [.int a1, .int a2, .int q41.1, .int q43.1]) rfl hl.1 rfl (lv_room (Nat.le_of_ble_eq_true rfl)) dX11_wholly_31 (fun H locs hP hS => ?_)
  refine lv_istore (lv' := [(7, .int q47.1), (6, .int q45.1), (5, .int q43.1), (4, .int q41.1), (0, .ref (g_ad G 26)), (1, .int a1), (2, .int a2), (3, .int a3)]) hx hb dX11_wholly_34 hl (by decide) rfl (fun ls hl => ?_)
  refine lv_aload_n hx hb dX11_wholly_36 rfl (lv_at hl 4 rfl) ?_
  refine lv_iload_n hx hb dX11_wholly_37 rfl (lv_at hl 7 rfl) ?_
  refine lv_iconst (v := 0) hx hb dX11_wholly_38 (by decide) ?_
  obtain ⟨q49, e50, h⟩ := bnd h
  refine call_i C hP hS (c_X11_of e50) mi_X11_of mw_1433 26 (by decide) rfl rfl ⟨Nat.le_of_ble_eq_true rfl, Nat.le_of_ble_eq_true rfl⟩ (As := [.int a3, .int 0]) rfl hl.1 rfl (lv_room (Nat.le_of_ble_eq_true rfl)) dX11_wholly_39 (fun H locs hP hS => ?_)
  refine lv_bipush (v := 6) hx hb dX11_wholly_42 (by decide) ?_
  refine lv_icmp_ne (tgt := 133) hx hb dX11_wholly_44 (by decide) (fun c51 => ?_) (fun c51 => ?_)
  · replace h := h_f c51 h
    refine lv_aload_n hx hb dX11_wholly_133 rfl (lv_at hl 4 rfl) ?_
    refine lv_iload_n hx hb dX11_wholly_134 rfl (lv_at hl 6 rfl) ?_
    refine lv_iconst (v := 1) hx hb dX11_wholly_135 (by decide) ?_
    obtain ⟨q52, e53, h⟩ := bnd h
    refine call_i C hP hS (c_X11_of e53) mi_X11_of mw_1433 26 (by decide) rfl rfl ⟨Nat.le_of_ble_eq_true rfl, Nat.le_of_ble_eq_true rfl⟩ (As := [.int a2, .int 1]) rfl hl.1 rfl (lv_room (Nat.le_of_ble_eq_true rfl)) dX11_wholly_136 (fun H locs hP hS => ?_)
    refine lv_aload_n hx hb dX11_wholly_139 rfl (lv_at hl 4 rfl) ?_
    refine lv_iload_n hx hb dX11_wholly_140 rfl (lv_at hl 5 rfl) ?_
    refine lv_iconst (v := 1) hx hb dX11_wholly_141 (by decide) ?_
    obtain ⟨q54, e55, h⟩ := bnd h
    refine call_i C hP hS (c_X11_of e55) mi_X11_of mw_1433 26 (by decide) rfl rfl ⟨Nat.le_of_ble_eq_true rfl, Nat.le_of_ble_eq_true rfl⟩ (As := [.int a1, .int 1]) rfl hl.1 rfl (lv_room (Nat.le_of_ble_eq_true rfl)) dX11_wholly_142 (fun H locs hP hS => ?_)
    refine lv_isub hx hb dX11_wholly_145 ?_
    refine lv_aload_n hx hb dX11_wholly_146 rfl (lv_at hl 4 rfl) ?_
    refine lv_iload_n hx hb dX11_wholly_147 rfl (lv_at hl 6 rfl) ?_
    refine lv_iconst (v := 2) hx hb dX11_wholly_148 (by decide) ?_
    obtain ⟨q56, e57, h⟩ := bnd h
    refine call_i C hP hS (c_X11_of e57) mi_X11_of mw_1433 26 (by decide) rfl rfl ⟨Nat.le_of_ble_eq_true rfl, Nat.le_of_ble_eq_true rfl⟩ (As := [.int a2, .int 2]) rfl hl.1 rfl (lv_room (Nat.le_of_ble_eq_true rfl)) dX11_wholly_149 (fun H locs hP hS => ?_)
    refine lv_aload_n hx hb dX11_wholly_152 rfl (lv_at hl 4 rfl) ?_
    refine lv_iload_n hx hb dX11_wholly_153 rfl (lv_at hl 5 rfl) ?_
    refine lv_iconst (v := 2) hx hb dX11_wholly_154 (by decide) ?_
    obtain ⟨q58, e59, h⟩ := bnd h
    refine call_i C hP hS (c_X11_of e59) mi_X11_of mw_1433 26 (by decide) rfl rfl ⟨Nat.le_of_ble_eq_true rfl, Nat.le_of_ble_eq_true rfl⟩ (As := [.int a1, .int 2]) rfl hl.1 rfl (lv_room (Nat.le_of_ble_eq_true rfl)) dX11_wholly_155 (fun H locs hP hS => ?_)
    refine lv_isub hx hb dX11_wholly_158 ?_
    obtain ⟨q60, e61, h⟩ := bnd h
    refine scall_i C hP hS (c_X11_square e61) ms_X11_square mw_1524 ⟨Nat.le_of_ble_eq_true rfl, Nat.le_of_ble_eq_true rfl⟩ (As := [.int (q52.1 - q54.1), .int (q56.1 - q58.1)]) rfl hl.1 rfl (lv_room (Nat.le_of_ble_eq_true rfl)) dX11_wholly_159 (fun H locs hP hS => ?_)
    refine lv_istore (lv' := [(8, .int q60.1), (7, .int q47.1), (6, .int q45.1), (5, .int q43.1), (4, .int q41.1), (0, .ref (g_ad G 26)), (1, .int a1), (2, .int a2), (3, .int a3)]) hx hb dX11_wholly_162 hl (by decide) rfl (fun ls hl => ?_)
    refine lv_iload hx hb dX11_wholly_164 (lv_at hl 1 rfl) ?_
    refine lv_iload hx hb dX11_wholly_166 (lv_at hl 1 rfl) ?_
    refine lv_imul hx hb dX11_wholly_168 ?_
    refine lv_iload hx hb dX11_wholly_169 (lv_at hl 2 rfl) ?_
    refine lv_iload hx hb dX11_wholly_171 (lv_at hl 2 rfl) ?_
    refine lv_imul hx hb dX11_wholly_173 ?_
    refine lv_iload hx hb dX11_wholly_174 (lv_at hl 0 rfl) ?_
    refine lv_imul hx hb dX11_wholly_176 ?_
    refine lv_icmp_le (tgt := 188) hx hb dX11_wholly_177 (by decide) (fun c62 => ?_) (fun c62 => ?_)
    · replace h := h_t c62 h
      refine lv_iconst (v := 0) hx hb dX11_wholly_188 (by decide) ?_
      exact ret_i C hr hlocks hP hS h dX11_wholly_189
    · replace h := h_f c62 h
      refine lv_iload hx hb dX11_wholly_180 (lv_at hl 1 rfl) ?_
      obtain ⟨q63, e64, h⟩ := bnd h
      refine scall_i C hP hS (c_X11_signOf e64) ms_X11_signOf mw_1578 ⟨Nat.le_of_ble_eq_true rfl, Nat.le_of_ble_eq_true rfl⟩ (As := [.int q47.1]) rfl hl.1 rfl (lv_room (Nat.le_of_ble_eq_true rfl)) dX11_wholly_182 (fun H locs hP hS => ?_)
      refine lv_goto (tgt := 189) hx hb dX11_wholly_185 (by decide) ?_
      exact ret_i C hr hlocks hP hS h dX11_wholly_189
  · replace h := h_t c51 h
    refine lv_aload_n hx hb dX11_wholly_47 rfl (lv_at hl 4 rfl) ?_
    refine lv_iload_n hx hb dX11_wholly_48 rfl (lv_at hl 5 rfl) ?_
    refine lv_iload_n hx hb dX11_wholly_49 rfl (lv_at hl 6 rfl) ?_
    refine lv_iload hx hb dX11_wholly_50 (lv_at hl 3 rfl) ?_
    refine lv_iload hx hb dX11_wholly_52 (lv_at hl 1 rfl) ?_
    refine lv_isub hx hb dX11_wholly_54 ?_
    refine lv_iload hx hb dX11_wholly_55 (lv_at hl 2 rfl) ?_
    refine lv_iload hx hb dX11_wholly_57 (lv_at hl 1 rfl) ?_
    refine lv_isub hx hb dX11_wholly_59 ?_
    obtain ⟨q65, e66, h⟩ := bnd h
    refine call_i C hP hS (c_X11_side e66) mi_X11_side mw_1574 26 (by decide) rfl rfl ⟨Nat.le_of_ble_eq_true rfl, Nat.le_of_ble_eq_true rfl⟩ (As := [.int a1, .int a2, .int (q41.1 - q45.1), .int (q43.1 - q45.1)]) rfl hl.1 rfl (lv_room (Nat.le_of_ble_eq_true rfl)) dX11_wholly_60 (fun H locs hP hS => ?_)
    obtain ⟨q67, e68, h⟩ := bnd h
    refine scall_i C hP hS (c_X11_signOf e68) ms_X11_signOf mw_1578 ⟨Nat.le_of_ble_eq_true rfl, Nat.le_of_ble_eq_true rfl⟩ (As := [.int q65.1]) rfl hl.1 rfl (lv_room (Nat.le_of_ble_eq_true rfl)) dX11_wholly_63 (fun H locs hP hS => ?_)
    refine lv_aload_n hx hb dX11_wholly_66 rfl (lv_at hl 4 rfl) ?_
    refine lv_iload_n hx hb dX11_wholly_67 rfl (lv_at hl 5 rfl) ?_
    refine lv_iload_n hx hb dX11_wholly_68 rfl (lv_at hl 6 rfl) ?_
    refine lv_iload hx hb dX11_wholly_69 (lv_at hl 3 rfl) ?_
    refine lv_iload hx hb dX11_wholly_71 (lv_at hl 1 rfl) ?_
    refine lv_isub hx hb dX11_wholly_73 ?_
    refine lv_iload hx hb dX11_wholly_74 (lv_at hl 2 rfl) ?_
    refine lv_iload hx hb dX11_wholly_76 (lv_at hl 1 rfl) ?_
    refine lv_iadd hx hb dX11_wholly_78 ?_
    obtain ⟨q69, e70, h⟩ := bnd h
    refine call_i C hP hS (c_X11_side e70) mi_X11_side mw_1574 26 (by decide) rfl rfl ⟨Nat.le_of_ble_eq_true rfl, Nat.le_of_ble_eq_true rfl⟩ (As := [.int a1, .int a2, .int (q41.1 - q45.1), .int (q43.1 + q45.1)]) rfl hl.1 rfl (lv_room (Nat.le_of_ble_eq_true rfl)) dX11_wholly_79 (fun H locs hP hS => ?_)
    obtain ⟨q71, e72, h⟩ := bnd h
    refine scall_i C hP hS (c_X11_signOf e72) ms_X11_signOf mw_1578 ⟨Nat.le_of_ble_eq_true rfl, Nat.le_of_ble_eq_true rfl⟩ (As := [.int q69.1]) rfl hl.1 rfl (lv_room (Nat.le_of_ble_eq_true rfl)) dX11_wholly_82 (fun H locs hP hS => ?_)
    refine lv_iadd hx hb dX11_wholly_85 ?_
    refine lv_aload_n hx hb dX11_wholly_86 rfl (lv_at hl 4 rfl) ?_
    refine lv_iload_n hx hb dX11_wholly_87 rfl (lv_at hl 5 rfl) ?_
    refine lv_iload_n hx hb dX11_wholly_88 rfl (lv_at hl 6 rfl) ?_
    refine lv_iload hx hb dX11_wholly_89 (lv_at hl 3 rfl) ?_
    refine lv_iload hx hb dX11_wholly_91 (lv_at hl 1 rfl) ?_
    refine lv_iadd hx hb dX11_wholly_93 ?_
    refine lv_iload hx hb dX11_wholly_94 (lv_at hl 2 rfl) ?_
    refine lv_iload hx hb dX11_wholly_96 (lv_at hl 1 rfl) ?_
    refine lv_isub hx hb dX11_wholly_98 ?_
    obtain ⟨q73, e74, h⟩ := bnd h
    refine call_i C hP hS (c_X11_side e74) mi_X11_side mw_1574 26 (by decide) rfl rfl ⟨Nat.le_of_ble_eq_true rfl, Nat.le_of_ble_eq_true rfl⟩ (As := [.int a1, .int a2, .int (q41.1 + q45.1), .int (q43.1 - q45.1)]) rfl hl.1 rfl (lv_room (Nat.le_of_ble_eq_true rfl)) dX11_wholly_99 (fun H locs hP hS => ?_)
    obtain ⟨q75, e76, h⟩ := bnd h
    refine scall_i C hP hS (c_X11_signOf e76) ms_X11_signOf mw_1578 ⟨Nat.le_of_ble_eq_true rfl, Nat.le_of_ble_eq_true rfl⟩ (As := [.int q73.1]) rfl hl.1 rfl (lv_room (Nat.le_of_ble_eq_true rfl)) dX11_wholly_102 (fun H locs hP hS => ?_)
    refine lv_iadd hx hb dX11_wholly_105 ?_
    refine lv_aload_n hx hb dX11_wholly_106 rfl (lv_at hl 4 rfl) ?_
    refine lv_iload_n hx hb dX11_wholly_107 rfl (lv_at hl 5 rfl) ?_
    refine lv_iload_n hx hb dX11_wholly_108 rfl (lv_at hl 6 rfl) ?_
    refine lv_iload hx hb dX11_wholly_109 (lv_at hl 3 rfl) ?_
    refine lv_iload hx hb dX11_wholly_111 (lv_at hl 1 rfl) ?_
    refine lv_iadd hx hb dX11_wholly_113 ?_
    refine lv_iload hx hb dX11_wholly_114 (lv_at hl 2 rfl) ?_
    refine lv_iload hx hb dX11_wholly_116 (lv_at hl 1 rfl) ?_
    refine lv_iadd hx hb dX11_wholly_118 ?_
    obtain ⟨q77, e78, h⟩ := bnd h
    refine call_i C hP hS (c_X11_side e78) mi_X11_side mw_1574 26 (by decide) rfl rfl ⟨Nat.le_of_ble_eq_true rfl, Nat.le_of_ble_eq_true rfl⟩ (As := [.int a1, .int a2, .int (q41.1 + q45.1), .int (q43.1 + q45.1)]) rfl hl.1 rfl (lv_room (Nat.le_of_ble_eq_true rfl)) dX11_wholly_119 (fun H locs hP hS => ?_)
    obtain ⟨q79, e80, h⟩ := bnd h
    refine scall_i C hP hS (c_X11_signOf e80) ms_X11_signOf mw_1578 ⟨Nat.le_of_ble_eq_true rfl, Nat.le_of_ble_eq_true rfl⟩ (As := [.int q77.1]) rfl hl.1 rfl (lv_room (Nat.le_of_ble_eq_true rfl)) dX11_wholly_122 (fun H locs hP hS => ?_)
    refine lv_iadd hx hb dX11_wholly_125 ?_
    obtain ⟨y81, e82, h⟩ := bnd h
    refine r_nm e82 ?_
    refine lv_istore (lv' := [(8, .int y81), (7, .int q47.1), (6, .int q45.1), (5, .int q43.1), (4, .int q41.1), (0, .ref (g_ad G 26)), (1, .int a1), (2, .int a2), (3, .int a3)]) hx hb dX11_wholly_126 hl (by decide) rfl (fun ls hl => ?_)
    refine lv_iload hx hb dX11_wholly_128 (lv_at hl 0 rfl) ?_
    refine lv_iconst (v := 4) hx hb dX11_wholly_130 (by decide) ?_
    refine lv_idiv hx hb dX11_wholly_131 (by decide) ?_
    exact ret_i C hr hlocks hP hS h dX11_wholly_132
set_option maxHeartbeats 4000000 in
set_option maxRecDepth 100000 in
theorem c_X11_lines {l : Launch} {G : GT} {lam : Lm} {σ : St} {a1 : Int32} {a2 : Int32} {a3 : Int32} {q : Int32 × St} (h : f_X11_lines σ a1 a2 a3 = some q) : Met l yX11_lines (Cond.code yX11_lines cX11_lines 6 ((some .int)) :: TB) ({ frames := 3, cells := 0, slots := 0, locals := 74 } : Room) (va_Pc [.ref (g_ad G 26), .int a1, .int a2, .int a3] (GW G lam σ)) (Ri q G lam) 0 0 (g_A G) := by
  refine mk_Qi (own := RX11) (by decide) (Nat.le_of_ble_eq_true rfl) rfl (fun p e s m args below meth c C hr hlocks hP ls hl => ?_)
  have hx := C.1
  have hb := C.2.1
  have hl : lv_has ls 6 [(0, .ref (g_ad G 26)), (1, .int a1), (2, .int a2), (3, .int a3)] := hl
  have L42 : ∀ (n42 : Nat) (σ : St) (x1 : Int32) (x2 : Int32) (x3 : Int32) (x4 : Int32) (x5 : Int32) (H : Heap) (locs : List Loc) (ls : Array Slot), fx (F_X11_lines_h42) z_X11_lines_h42 n42 σ x1 x2 x3 x4 x5 = some q → va_P (g_D G) vwCl (allW G lam σ) H → va_S (g_A G) s.heap H locs → lv_has ls 6 [(0, .ref (g_ad G 26)), (1, .int x1), (2, .int x2), (3, .int x3), (4, .int x4), (5, .int x5)] → W p l e ({ frames := 3, cells := 0, slots := 0, locals := 74 } : Room) s m args below meth c H locs 0 0 (Qi q below args s G lam) (F0 m 42 ls []) := by
    intro n42
    induction n42 with
    | zero => intro σ x1 x2 x3 x4 x5 H locs ls h hP hS hl; exact absurd h (by intro h9; cases h9)
    | succ n42 ih42 =>
      have J102 : ∀ (σ : St) (x1 : Int32) (x2 : Int32) (x3 : Int32) (x5 : Int32) (t0 : Int32) (t1 : Int32) (H : Heap) (locs : List Loc) (ls : Array Slot), f_X11_lines_p102 (fx (F_X11_lines_h42) z_X11_lines_h42 n42) σ x1 x2 x3 x5 t0 t1 = some q → va_P (g_D G) vwCl (allW G lam σ) H → va_S (g_A G) s.heap H locs → lv_has ls 6 [(0, .ref (g_ad G 26)), (1, .int x1), (2, .int x2), (3, .int x3), (5, .int x5)] → W p l e ({ frames := 3, cells := 0, slots := 0, locals := 74 } : Room) s m args below meth c H locs 0 0 (Qi q below args s G lam) (F0 m 102 ls [.int t0, .int t1]) := by
        intro σ x1 x2 x3 x5 t0 t1 H locs ls h hP hS hl
        unfold f_X11_lines_p102 at h
        refine lv_ior hx hb dX11_lines_102 ?_
        obtain ⟨y21, e22, h⟩ := bnd h
        refine r_nm e22 ?_
        refine lv_istore (lv' := [(4, .int y21), (0, .ref (g_ad G 26)), (1, .int x1), (2, .int x2), (3, .int x3), (5, .int x5)]) hx hb dX11_lines_103 hl (by decide) rfl (fun ls hl => ?_)
        obtain ⟨y23, e24, h⟩ := bnd h
        refine lv_iinc (v := y23) (lv' := [(5, .int y23), (4, .int y21), (0, .ref (g_ad G 26)), (1, .int x1), (2, .int x2), (3, .int x3)]) hx hb dX11_lines_105 hl (k := 5) rfl (Option.some.inj e24) (by decide) rfl (fun ls hl => ?_)
        refine lv_goto (tgt := 42) hx hb dX11_lines_108 (by decide) ?_
        exact ih42 _ _ _ _ _ _ H locs ls h hP hS (lv_sub hl [2, 3, 4, 5, 1, 0] rfl)
      have J101 : ∀ (σ : St) (x1 : Int32) (x2 : Int32) (x3 : Int32) (x5 : Int32) (t0 : Int32) (H : Heap) (locs : List Loc) (ls : Array Slot), f_X11_lines_p101 (fx (F_X11_lines_h42) z_X11_lines_h42 n42) σ x1 x2 x3 x5 t0 = some q → va_P (g_D G) vwCl (allW G lam σ) H → va_S (g_A G) s.heap H locs → lv_has ls 6 [(0, .ref (g_ad G 26)), (1, .int x1), (2, .int x2), (3, .int x3), (5, .int x5)] → W p l e ({ frames := 3, cells := 0, slots := 0, locals := 74 } : Room) s m args below meth c H locs 0 0 (Qi q below args s G lam) (F0 m 101 ls [.int t0]) := by
        intro σ x1 x2 x3 x5 t0 H locs ls h hP hS hl
        unfold f_X11_lines_p101 at h
        refine lv_iconst (v := 0) hx hb dX11_lines_101 (by decide) ?_
        exact J102 _ _ _ _ _ _ _ H locs ls h hP hS (lv_sub hl [0, 1, 2, 3, 4] rfl)
      have J91 : ∀ (σ : St) (x1 : Int32) (x2 : Int32) (x3 : Int32) (x5 : Int32) (t0 : Int32) (t1 : Int32) (t2 : Int32) (H : Heap) (locs : List Loc) (ls : Array Slot), f_X11_lines_p91 (fx (F_X11_lines_h42) z_X11_lines_h42 n42) σ x1 x2 x3 x5 t0 t1 t2 = some q → va_P (g_D G) vwCl (allW G lam σ) H → va_S (g_A G) s.heap H locs → lv_has ls 6 [(0, .ref (g_ad G 26)), (1, .int x1), (2, .int x2), (3, .int x3), (5, .int x5)] → W p l e ({ frames := 3, cells := 0, slots := 0, locals := 74 } : Room) s m args below meth c H locs 0 0 (Qi q below args s G lam) (F0 m 91 ls [.int t0, .int t1, .int t2]) := by
        intro σ x1 x2 x3 x5 t0 t1 t2 H locs ls h hP hS hl
        unfold f_X11_lines_p91 at h
        refine lv_icmp_ne (tgt := 101) hx hb dX11_lines_91 (by decide) (fun c25 => ?_) (fun c25 => ?_)
        · replace h := h_f c25 h
          exact J101 _ _ _ _ _ _ H locs ls h hP hS (lv_sub hl [0, 1, 2, 3, 4] rfl)
        · replace h := h_t c25 h
          refine lv_iconst (v := 1) hx hb dX11_lines_94 (by decide) ?_
          refine lv_iload hx hb dX11_lines_95 (lv_at hl 4 rfl) ?_
          refine lv_ishl hx hb dX11_lines_97 ?_
          refine lv_goto (tgt := 102) hx hb dX11_lines_98 (by decide) ?_
          exact J102 _ _ _ _ _ _ _ H locs ls h hP hS (lv_sub hl [0, 1, 2, 3, 4] rfl)
      intro σ x1 x2 x3 x4 x5 H locs ls h hP hS hl
      change F_X11_lines_h42 (fx (F_X11_lines_h42) z_X11_lines_h42 n42) σ x1 x2 x3 x4 x5 = some q at h
      unfold F_X11_lines_h42 at h
      refine lv_iload hx hb dX11_lines_42 (lv_at hl 5 rfl) ?_
      refine lv_aload_n hx hb dX11_lines_44 rfl (lv_at hl 0 rfl) ?_
      refine gf_X11_7_26 C hP dX11_lines_45 ?_
      refine lv_bipush (v := 13) hx hb dX11_lines_48 (by decide) ?_
      refine r_aldc C hP 27 (by decide) rfl (j := 13) (by decide) (vp_in_iff.mpr (by decide)) dX11_lines_50 ?_
      refine lv_icmp_ge (tgt := 111) hx hb dX11_lines_51 (by decide) (fun c26 => ?_) (fun c26 => ?_)
      · replace h := h_t c26 h
        refine lv_iload hx hb dX11_lines_111 (lv_at hl 4 rfl) ?_
        exact ret_i C hr hlocks hP hS h dX11_lines_113
      · replace h := h_f c26 h
        refine lv_iload hx hb dX11_lines_54 (lv_at hl 4 rfl) ?_
        refine lv_aload_n hx hb dX11_lines_56 rfl (lv_at hl 0 rfl) ?_
        refine lv_iload hx hb dX11_lines_57 (lv_at hl 5 rfl) ?_
        obtain ⟨q27, e28, h⟩ := bnd h
        refine call_i C hP hS (c_X11_isShoal e28) mi_X11_isShoal mw_1513 26 (by decide) rfl rfl ⟨Nat.le_of_ble_eq_true rfl, Nat.le_of_ble_eq_true rfl⟩ (As := [.int x5]) rfl hl.1 rfl (lv_room (Nat.le_of_ble_eq_true rfl)) dX11_lines_59 (fun H locs hP hS => ?_)
        refine lv_if_eq (tgt := 101) hx hb dX11_lines_62 (by decide) (fun c29 => ?_) (fun c29 => ?_)
        · replace h := h_t c29 h
          exact J101 _ _ _ _ _ _ H locs ls h hP hS (lv_sub hl [0, 1, 2, 3, 5] rfl)
        · replace h := h_f c29 h
          refine lv_aload_n hx hb dX11_lines_65 rfl (lv_at hl 0 rfl) ?_
          refine lv_iload_n hx hb dX11_lines_66 rfl (lv_at hl 1 rfl) ?_
          refine lv_iload_n hx hb dX11_lines_67 rfl (lv_at hl 2 rfl) ?_
          refine lv_iload hx hb dX11_lines_68 (lv_at hl 5 rfl) ?_
          obtain ⟨q30, e31, h⟩ := bnd h
          refine call_i C hP hS (c_X11_wholly e31) mi_X11_wholly mw_1586 26 (by decide) rfl rfl ⟨Nat.le_of_ble_eq_true rfl, Nat.le_of_ble_eq_true rfl⟩ (As := [.int x1, .int x2, .int x5]) rfl hl.1 rfl (lv_room (Nat.le_of_ble_eq_true rfl)) dX11_lines_70 (fun H locs hP hS => ?_)
          refine lv_iload_n hx hb dX11_lines_73 rfl (lv_at hl 3 rfl) ?_
          refine lv_if_ne (tgt := 81) hx hb dX11_lines_74 (by decide) (fun c32 => ?_) (fun c32 => ?_)
          · replace h := h_f c32 h
            refine lv_iload_n hx hb dX11_lines_81 rfl (lv_at hl 3 rfl) ?_
            refine lv_iconst (v := 1) hx hb dX11_lines_82 (by decide) ?_
            refine lv_icmp_ne (tgt := 90) hx hb dX11_lines_83 (by decide) (fun c33 => ?_) (fun c33 => ?_)
            · replace h := h_f c33 h
              refine lv_iconst (v := 0) hx hb dX11_lines_90 (by decide) ?_
              exact J91 _ _ _ _ _ _ _ _ H locs ls h hP hS (lv_sub hl [0, 1, 2, 3, 5] rfl)
            · replace h := h_t c33 h
              refine lv_iconst (v := (-1)) hx hb dX11_lines_86 (by decide) ?_
              refine lv_goto (tgt := 91) hx hb dX11_lines_87 (by decide) ?_
              exact J91 _ _ _ _ _ _ _ _ H locs ls h hP hS (lv_sub hl [0, 1, 2, 3, 5] rfl)
          · replace h := h_t c32 h
            refine lv_iconst (v := 1) hx hb dX11_lines_77 (by decide) ?_
            refine lv_goto (tgt := 91) hx hb dX11_lines_78 (by decide) ?_
            exact J91 _ _ _ _ _ _ _ _ H locs ls h hP hS (lv_sub hl [0, 1, 2, 3, 5] rfl)
  have hS : va_S (g_A G) s.heap s.heap [] := va_S.rf
  unfold f_X11_lines at h
  obtain ⟨H, hH⟩ : ∃ H, H = s.heap := ⟨_, rfl⟩
  obtain ⟨locs, hlo⟩ : ∃ k : List Loc, k = [] := ⟨_, rfl⟩
  rw [← hH, ← hlo]
  rw [← hH] at hP
  replace hS : va_S (g_A G) s.heap H locs := by rw [hH, hlo]; exact hS
  refine lv_aload_n hx hb dX11_lines_0 rfl (lv_at hl 0 rfl) ?_
  refine lv_iload_n hx hb dX11_lines_1 rfl (lv_at hl 1 rfl) ?_
  refine lv_iload_n hx hb dX11_lines_2 rfl (lv_at hl 2 rfl) ?_
  obtain ⟨q34, e35, h⟩ := bnd h
  refine call_i C hP hS (c_X11_areTwo e35) mi_X11_areTwo mw_1566 26 (by decide) rfl rfl ⟨Nat.le_of_ble_eq_true rfl, Nat.le_of_ble_eq_true rfl⟩ (As := [.int a1, .int a2]) rfl hl.1 rfl (lv_room (Nat.le_of_ble_eq_true rfl)) dX11_lines_3 (fun H locs hP hS => ?_)
  refine lv_if_eq (tgt := 21) hx hb dX11_lines_6 (by decide) (fun c36 => ?_) (fun c36 => ?_)
  · replace h := h_t c36 h
    refine lv_ldc hx hb C.2.2.2.1 (C.2.2.2.2.1 _ mw_1323) dX11_lines_21 ?_
    exact ret_i C hr hlocks hP hS h dX11_lines_23
  · replace h := h_f c36 h
    refine lv_iload_n hx hb dX11_lines_9 rfl (lv_at hl 3 rfl) ?_
    refine lv_i2l hx hb dX11_lines_10 rfl ?_
    refine lv_lconst (v := 0) hx hb dX11_lines_11 (by decide) ?_
    refine lv_ldc2 hx hb C.2.2.2.1 (C.2.2.2.2.1 _ mw_1585) dX11_lines_12 ?_
    obtain ⟨q37, e38, h⟩ := bnd h
    refine scall_i C hP hS (c_X11_in e38) ms_X11_in mw_1320 ⟨Nat.le_of_ble_eq_true rfl, Nat.le_of_ble_eq_true rfl⟩ (As := [.long ((a3 : Int32).toInt64), .long (0), .long (2)]) rfl hl.1 rfl (lv_room (Nat.le_of_ble_eq_true rfl)) dX11_lines_15 (fun H locs hP hS => ?_)
    refine lv_if_ne (tgt := 24) hx hb dX11_lines_18 (by decide) (fun c39 => ?_) (fun c39 => ?_)
    · replace h := h_f c39 h
      refine lv_aload_n hx hb dX11_lines_24 rfl (lv_at hl 0 rfl) ?_
      refine lv_iload_n hx hb dX11_lines_25 rfl (lv_at hl 1 rfl) ?_
      refine lv_iload_n hx hb dX11_lines_26 rfl (lv_at hl 2 rfl) ?_
      obtain ⟨q40, e41, h⟩ := bnd h
      refine call_i C hP hS (c_X11_areApart e41) mi_X11_areApart mw_1570 26 (by decide) rfl rfl ⟨Nat.le_of_ble_eq_true rfl, Nat.le_of_ble_eq_true rfl⟩ (As := [.int a1, .int a2]) rfl hl.1 rfl (lv_room (Nat.le_of_ble_eq_true rfl)) dX11_lines_27 (fun H locs hP hS => ?_)
      refine lv_if_ne (tgt := 36) hx hb dX11_lines_30 (by decide) (fun c42 => ?_) (fun c42 => ?_)
      · replace h := h_f c42 h
        refine lv_iconst (v := 0) hx hb dX11_lines_36 (by decide) ?_
        refine lv_istore (lv' := [(4, .int 0), (0, .ref (g_ad G 26)), (1, .int a1), (2, .int a2), (3, .int a3)]) hx hb dX11_lines_37 hl (by decide) rfl (fun ls hl => ?_)
        refine lv_iconst (v := 0) hx hb dX11_lines_39 (by decide) ?_
        refine lv_istore (lv' := [(5, .int 0), (4, .int 0), (0, .ref (g_ad G 26)), (1, .int a1), (2, .int a2), (3, .int a3)]) hx hb dX11_lines_40 hl (by decide) rfl (fun ls hl => ?_)
        exact L42 FU _ _ _ _ _ _ H locs ls h hP hS (lv_sub hl [2, 3, 4, 5, 1, 0] rfl)
      · replace h := h_t c42 h
        refine lv_ldc hx hb C.2.2.2.1 (C.2.2.2.2.1 _ mw_1403) dX11_lines_33 ?_
        exact ret_i C hr hlocks hP hS h dX11_lines_35
    · replace h := h_t c39 h
      refine lv_ldc hx hb C.2.2.2.1 (C.2.2.2.2.1 _ mw_1323) dX11_lines_21 ?_
      exact ret_i C hr hlocks hP hS h dX11_lines_23
set_option maxHeartbeats 4000000 in
set_option maxRecDepth 100000 in
theorem c_X11_by {l : Launch} {G : GT} {lam : Lm} {σ : St} {a1 : Int32} {a2 : Int32} {q : St} (h : f_X11_by σ a1 a2 = some q) : Met l yX11_by (Cond.code yX11_by cX11_by 3 none :: TB) ({ frames := 0, cells := 0, slots := 0, locals := 0 } : Room) (va_Pc [.ref (g_ad G 26), .int a1, .int a2] (GW G lam σ)) (Rv q G lam) 0 0 (g_A G) := by
  refine mk_Qv (own := RX11) (by decide) (Nat.le_of_ble_eq_true rfl) rfl (fun p e s m args below meth c C hr hlocks hP ls hl => ?_)
  have hx := C.1
  have hb := C.2.1
  have hl : lv_has ls 3 [(0, .ref (g_ad G 26)), (1, .int a1), (2, .int a2)] := hl
  have hS : va_S (g_A G) s.heap s.heap [] := va_S.rf
  unfold f_X11_by at h
  refine lv_aload_n hx hb dX11_by_0 rfl (lv_at hl 0 rfl) ?_
  refine gf_X11_41_26 C hP dX11_by_1 ?_
  refine lv_aload_n hx hb dX11_by_4 rfl (lv_at hl 0 rfl) ?_
  refine gf_X11_261_26 C hP dX11_by_5 ?_
  refine lv_iload_n hx hb dX11_by_8 rfl (lv_at hl 1 rfl) ?_
  obtain ⟨g9, h⟩ := h_g h
  refine r_ast C hP hS 37 (by decide) (fun _ => rfl) (vp_in_iff.mpr g9) dX11_by_9 (fun H locs hP hS => ?_)
  obtain ⟨σ10, e11, h⟩ := bnd h
  have hP := hPn e11 hP
  refine lv_aload_n hx hb dX11_by_10 rfl (lv_at hl 0 rfl) ?_
  refine gf_X11_44_26 C hP dX11_by_11 ?_
  refine lv_aload_n hx hb dX11_by_14 rfl (lv_at hl 0 rfl) ?_
  refine gf_X11_261_26 C hP dX11_by_15 ?_
  refine lv_iload_n hx hb dX11_by_18 rfl (lv_at hl 2 rfl) ?_
  obtain ⟨g12, h⟩ := h_g h
  refine r_ast C hP hS 38 (by decide) (fun _ => rfl) (vp_in_iff.mpr g12) dX11_by_19 (fun H locs hP hS => ?_)
  obtain ⟨σ13, e14, h⟩ := bnd h
  have hP := hPn e14 hP
  refine lv_aload_n hx hb dX11_by_20 rfl (lv_at hl 0 rfl) ?_
  refine lv_dup hx hb dX11_by_21 rfl ?_
  refine gf_X11_261_26 C hP dX11_by_22 ?_
  refine lv_iconst (v := 1) hx hb dX11_by_25 (by decide) ?_
  refine lv_iadd hx hb dX11_by_26 ?_
  refine pf_X11_261_26 C hP hS dX11_by_27 (fun H locs hP hS => ?_)
  obtain ⟨σ15, e16, h⟩ := bnd h
  have hP := hPn e16 hP
  exact ret_v C hr hlocks hP hS h dX11_by_30
set_option maxHeartbeats 4000000 in
set_option maxRecDepth 100000 in
theorem c_X11_legOf {l : Launch} {G : GT} {lam : Lm} {σ : St} {a1 : Int32} {a2 : Int32} {q : Int32 × St} (h : f_X11_legOf σ a1 a2 = some q) : Met l yX11_legOf (Cond.code yX11_legOf cX11_legOf 3 ((some .int)) :: TB) ({ frames := 0, cells := 0, slots := 0, locals := 0 } : Room) (va_Pc [.ref (g_ad G 26), .int a1, .int a2] (GW G lam σ)) (Ri q G lam) 0 0 (g_A G) := by
  refine mk_Qi (own := RX11) (by decide) (Nat.le_of_ble_eq_true rfl) rfl (fun p e s m args below meth c C hr hlocks hP ls hl => ?_)
  have hx := C.1
  have hb := C.2.1
  have hl : lv_has ls 3 [(0, .ref (g_ad G 26)), (1, .int a1), (2, .int a2)] := hl
  have hS : va_S (g_A G) s.heap s.heap [] := va_S.rf
  unfold f_X11_legOf at h
  refine lv_aload_n hx hb dX11_legOf_0 rfl (lv_at hl 0 rfl) ?_
  refine gf_X11_7_26 C hP dX11_legOf_1 ?_
  refine lv_bipush (v := 55) hx hb dX11_legOf_4 (by decide) ?_
  refine lv_iconst (v := 4) hx hb dX11_legOf_6 (by decide) ?_
  refine lv_iload_n hx hb dX11_legOf_7 rfl (lv_at hl 1 rfl) ?_
  refine lv_imul hx hb dX11_legOf_8 ?_
  refine lv_iadd hx hb dX11_legOf_9 ?_
  refine lv_iload_n hx hb dX11_legOf_10 rfl (lv_at hl 2 rfl) ?_
  refine lv_iadd hx hb dX11_legOf_11 ?_
  obtain ⟨g2, h⟩ := h_g h
  refine r_ald C hP 27 (by decide) rfl (vp_in_iff.mpr g2) dX11_legOf_12 ?_
  exact ret_i C hr hlocks hP hS h dX11_legOf_13
set_option maxHeartbeats 4000000 in
set_option maxRecDepth 100000 in
theorem c_X11_mistaken {l : Launch} {G : GT} {lam : Lm} {σ : St} {a1 : Int32} {q : Int32 × St} (h : f_X11_mistaken σ a1 = some q) : Met l yX11_mistaken (Cond.code yX11_mistaken cX11_mistaken 5 ((some .int)) :: TB) ({ frames := 3, cells := 0, slots := 0, locals := 67 } : Room) (va_Pc [.ref (g_ad G 26), .int a1] (GW G lam σ)) (Ri q G lam) 0 0 (g_A G) := by
  refine mk_Qi (own := RX11) (by decide) (Nat.le_of_ble_eq_true rfl) rfl (fun p e s m args below meth c C hr hlocks hP ls hl => ?_)
  have hx := C.1
  have hb := C.2.1
  have hl : lv_has ls 5 [(0, .ref (g_ad G 26)), (1, .int a1)] := hl
  have J59 : ∀ (σ : St) (x2 : Int32) (x4 : Int32) (H : Heap) (locs : List Loc) (ls : Array Slot), f_X11_mistaken_p59 σ x2 x4 = some q → va_P (g_D G) vwCl (allW G lam σ) H → va_S (g_A G) s.heap H locs → lv_has ls 5 [(0, .ref (g_ad G 26)), (2, .int x2), (4, .int x4)] → W p l e ({ frames := 3, cells := 0, slots := 0, locals := 67 } : Room) s m args below meth c H locs 0 0 (Qi q below args s G lam) (F0 m 59 ls []) := by
    intro σ x2 x4 H locs ls h hP hS hl
    unfold f_X11_mistaken_p59 at h
    refine lv_iload_n hx hb dX11_mistaken_59 rfl (lv_at hl 1 rfl) ?_
    refine lv_iconst (v := 2) hx hb dX11_mistaken_60 (by decide) ?_
    refine lv_icmp_ne (tgt := 78) hx hb dX11_mistaken_61 (by decide) (fun c20 => ?_) (fun c20 => ?_)
    · replace h := h_f c20 h
      refine lv_ldc hx hb C.2.2.2.1 (C.2.2.2.2.1 _ mw_1337) dX11_mistaken_78 ?_
      exact ret_i C hr hlocks hP hS h dX11_mistaken_80
    · replace h := h_t c20 h
      refine lv_aload_n hx hb dX11_mistaken_64 rfl (lv_at hl 0 rfl) ?_
      refine lv_iload hx hb dX11_mistaken_65 (lv_at hl 2 rfl) ?_
      obtain ⟨q21, e22, h⟩ := bnd h
      refine call_i C hP hS (c_X11_isMark e22) mi_X11_isMark mw_1535 26 (by decide) rfl rfl ⟨Nat.le_of_ble_eq_true rfl, Nat.le_of_ble_eq_true rfl⟩ (As := [.int x4]) rfl hl.1 rfl (lv_room (Nat.le_of_ble_eq_true rfl)) dX11_mistaken_67 (fun H locs hP hS => ?_)
      refine lv_if_ne (tgt := 78) hx hb dX11_mistaken_70 (by decide) (fun c23 => ?_) (fun c23 => ?_)
      · replace h := h_f c23 h
        refine lv_ldc hx hb C.2.2.2.1 (C.2.2.2.2.1 _ mw_1337) dX11_mistaken_78 ?_
        exact ret_i C hr hlocks hP hS h dX11_mistaken_80
      · replace h := h_t c23 h
        refine lv_iload hx hb dX11_mistaken_73 (lv_at hl 2 rfl) ?_
        refine lv_goto (tgt := 80) hx hb dX11_mistaken_75 (by decide) ?_
        exact ret_i C hr hlocks hP hS h dX11_mistaken_80
  have J57 : ∀ (σ : St) (x3 : Int32) (H : Heap) (locs : List Loc) (ls : Array Slot), f_X11_mistaken_p57 σ x3 = some q → va_P (g_D G) vwCl (allW G lam σ) H → va_S (g_A G) s.heap H locs → lv_has ls 5 [(3, .int x3)] → W p l e ({ frames := 3, cells := 0, slots := 0, locals := 67 } : Room) s m args below meth c H locs 0 0 (Qi q below args s G lam) (F0 m 57 ls []) := by
    intro σ x3 H locs ls h hP hS hl
    unfold f_X11_mistaken_p57 at h
    refine lv_iload_n hx hb dX11_mistaken_57 rfl (lv_at hl 0 rfl) ?_
    exact ret_i C hr hlocks hP hS h dX11_mistaken_58
  have hS : va_S (g_A G) s.heap s.heap [] := va_S.rf
  unfold f_X11_mistaken at h
  obtain ⟨H, hH⟩ : ∃ H, H = s.heap := ⟨_, rfl⟩
  obtain ⟨locs, hlo⟩ : ∃ k : List Loc, k = [] := ⟨_, rfl⟩
  rw [← hH, ← hlo]
  rw [← hH] at hP
  replace hS : va_S (g_A G) s.heap H locs := by rw [hH, hlo]; exact hS
  refine lv_aload_n hx hb dX11_mistaken_0 rfl (lv_at hl 0 rfl) ?_
  refine lv_iload_n hx hb dX11_mistaken_1 rfl (lv_at hl 1 rfl) ?_
  refine lv_iconst (v := 1) hx hb dX11_mistaken_2 (by decide) ?_
  obtain ⟨q24, e25, h⟩ := bnd h
  refine call_i C hP hS (c_X11_legOf e25) mi_X11_legOf mw_1606 26 (by decide) rfl rfl ⟨Nat.le_of_ble_eq_true rfl, Nat.le_of_ble_eq_true rfl⟩ (As := [.int a1, .int 1]) rfl hl.1 rfl (lv_room (Nat.le_of_ble_eq_true rfl)) dX11_mistaken_3 (fun H locs hP hS => ?_)
  refine lv_istore_n (lv' := [(2, .int q24.1), (0, .ref (g_ad G 26)), (1, .int a1)]) hx hb dX11_mistaken_6 rfl hl (by decide) rfl (fun ls hl => ?_)
  refine lv_iload_n hx hb dX11_mistaken_7 rfl (lv_at hl 0 rfl) ?_
  refine lv_if_eq (tgt := 16) hx hb dX11_mistaken_8 (by decide) (fun c26 => ?_) (fun c26 => ?_)
  · replace h := h_t c26 h
    refine lv_ldc hx hb C.2.2.2.1 (C.2.2.2.2.1 _ mw_1337) dX11_mistaken_16 ?_
    exact ret_i C hr hlocks hP hS h dX11_mistaken_18
  · replace h := h_f c26 h
    refine lv_iload_n hx hb dX11_mistaken_11 rfl (lv_at hl 0 rfl) ?_
    refine lv_iconst (v := 4) hx hb dX11_mistaken_12 (by decide) ?_
    refine lv_icmp_ne (tgt := 19) hx hb dX11_mistaken_13 (by decide) (fun c27 => ?_) (fun c27 => ?_)
    · replace h := h_f c27 h
      refine lv_aload_n hx hb dX11_mistaken_19 rfl (lv_at hl 1 rfl) ?_
      refine lv_iload_n hx hb dX11_mistaken_20 rfl (lv_at hl 2 rfl) ?_
      refine lv_iconst (v := 2) hx hb dX11_mistaken_21 (by decide) ?_
      obtain ⟨q28, e29, h⟩ := bnd h
      refine call_i C hP hS (c_X11_legOf e29) mi_X11_legOf mw_1606 26 (by decide) rfl rfl ⟨Nat.le_of_ble_eq_true rfl, Nat.le_of_ble_eq_true rfl⟩ (As := [.int a1, .int 2]) rfl hl.1 rfl (lv_room (Nat.le_of_ble_eq_true rfl)) dX11_mistaken_22 (fun H locs hP hS => ?_)
      refine lv_istore_n (lv' := [(3, .int q28.1), (2, .int q24.1), (0, .ref (g_ad G 26)), (1, .int a1)]) hx hb dX11_mistaken_25 rfl hl (by decide) rfl (fun ls hl => ?_)
      refine lv_aload_n hx hb dX11_mistaken_26 rfl (lv_at hl 2 rfl) ?_
      refine lv_iload_n hx hb dX11_mistaken_27 rfl (lv_at hl 3 rfl) ?_
      refine lv_iconst (v := 3) hx hb dX11_mistaken_28 (by decide) ?_
      obtain ⟨q30, e31, h⟩ := bnd h
      refine call_i C hP hS (c_X11_legOf e31) mi_X11_legOf mw_1606 26 (by decide) rfl rfl ⟨Nat.le_of_ble_eq_true rfl, Nat.le_of_ble_eq_true rfl⟩ (As := [.int a1, .int 3]) rfl hl.1 rfl (lv_room (Nat.le_of_ble_eq_true rfl)) dX11_mistaken_29 (fun H locs hP hS => ?_)
      refine lv_istore (lv' := [(4, .int q30.1), (3, .int q28.1), (2, .int q24.1), (0, .ref (g_ad G 26)), (1, .int a1)]) hx hb dX11_mistaken_32 hl (by decide) rfl (fun ls hl => ?_)
      refine lv_aload_n hx hb dX11_mistaken_34 rfl (lv_at hl 3 rfl) ?_
      refine lv_iload_n hx hb dX11_mistaken_35 rfl (lv_at hl 1 rfl) ?_
      obtain ⟨q32, e33, h⟩ := bnd h
      refine call_i C hP hS (c_X11_isMark e33) mi_X11_isMark mw_1535 26 (by decide) rfl rfl ⟨Nat.le_of_ble_eq_true rfl, Nat.le_of_ble_eq_true rfl⟩ (As := [.int q28.1]) rfl hl.1 rfl (lv_room (Nat.le_of_ble_eq_true rfl)) dX11_mistaken_36 (fun H locs hP hS => ?_)
      refine lv_if_eq (tgt := 57) hx hb dX11_mistaken_39 (by decide) (fun c34 => ?_) (fun c34 => ?_)
      · replace h := h_t c34 h
        exact J57 _ _ H locs ls h hP hS (lv_sub hl [1] rfl)
      · replace h := h_f c34 h
        refine lv_iload_n hx hb dX11_mistaken_42 rfl (lv_at hl 2 rfl) ?_
        refine lv_iconst (v := 3) hx hb dX11_mistaken_43 (by decide) ?_
        refine lv_icmp_ne (tgt := 59) hx hb dX11_mistaken_44 (by decide) (fun c35 => ?_) (fun c35 => ?_)
        · replace h := h_f c35 h
          exact J59 _ _ _ H locs ls h hP hS (lv_sub hl [3, 2, 0] rfl)
        · replace h := h_t c35 h
          refine lv_aload_n hx hb dX11_mistaken_47 rfl (lv_at hl 3 rfl) ?_
          refine lv_iload_n hx hb dX11_mistaken_48 rfl (lv_at hl 1 rfl) ?_
          refine lv_iconst (v := 0) hx hb dX11_mistaken_49 (by decide) ?_
          obtain ⟨q36, e37, h⟩ := bnd h
          refine call_i C hP hS (c_X11_of e37) mi_X11_of mw_1433 26 (by decide) rfl rfl ⟨Nat.le_of_ble_eq_true rfl, Nat.le_of_ble_eq_true rfl⟩ (As := [.int q28.1, .int 0]) rfl hl.1 rfl (lv_room (Nat.le_of_ble_eq_true rfl)) dX11_mistaken_50 (fun H locs hP hS => ?_)
          refine lv_iconst (v := 2) hx hb dX11_mistaken_53 (by decide) ?_
          refine lv_icmp_eq (tgt := 59) hx hb dX11_mistaken_54 (by decide) (fun c38 => ?_) (fun c38 => ?_)
          · replace h := h_t c38 h
            exact J59 _ _ _ H locs ls h hP hS (lv_sub hl [3, 2, 0] rfl)
          · replace h := h_f c38 h
            exact J57 _ _ H locs ls h hP hS (lv_sub hl [1] rfl)
    · replace h := h_t c27 h
      refine lv_ldc hx hb C.2.2.2.1 (C.2.2.2.2.1 _ mw_1337) dX11_mistaken_16 ?_
      exact ret_i C hr hlocks hP hS h dX11_mistaken_18
set_option maxHeartbeats 4000000 in
set_option maxRecDepth 100000 in
theorem c_X11_lineOf {l : Launch} {G : GT} {lam : Lm} {σ : St} {a1 : Int32} {a2 : Int32} {a3 : Int32} {a4 : Int32} {a5 : Int32} {q : Int32 × St} (h : f_X11_lineOf σ a1 a2 a3 a4 a5 = some q) : Met l yX11_lineOf (Cond.code yX11_lineOf cX11_lineOf 6 ((some .int)) :: TB) ({ frames := 2, cells := 0, slots := 0, locals := 46 } : Room) (va_Pc [.ref (g_ad G 26), .int a1, .int a2, .int a3, .int a4, .int a5] (GW G lam σ)) (Ri q G lam) 0 0 (g_A G) := by
  refine mk_Qi (own := RX11) (by decide) (Nat.le_of_ble_eq_true rfl) rfl (fun p e s m args below meth c C hr hlocks hP ls hl => ?_)
  have hx := C.1
  have hb := C.2.1
  have hl : lv_has ls 6 [(0, .ref (g_ad G 26)), (1, .int a1), (2, .int a2), (3, .int a3), (4, .int a4), (5, .int a5)] := hl
  have hS : va_S (g_A G) s.heap s.heap [] := va_S.rf
  unfold f_X11_lineOf at h
  refine lv_aload_n hx hb dX11_lineOf_0 rfl (lv_at hl 0 rfl) ?_
  refine lv_iload_n hx hb dX11_lineOf_1 rfl (lv_at hl 1 rfl) ?_
  refine lv_iload hx hb dX11_lineOf_2 (lv_at hl 5 rfl) ?_
  obtain ⟨q9, e10, h⟩ := bnd h
  refine call_i C hP hS (c_X11_eastOf e10) mi_X11_eastOf mw_1539 26 (by decide) rfl rfl ⟨Nat.le_of_ble_eq_true rfl, Nat.le_of_ble_eq_true rfl⟩ (As := [.int a1, .int a5]) rfl hl.1 rfl (lv_room (Nat.le_of_ble_eq_true rfl)) dX11_lineOf_4 (fun H locs hP hS => ?_)
  refine lv_iload_n hx hb dX11_lineOf_7 rfl (lv_at hl 3 rfl) ?_
  refine lv_isub hx hb dX11_lineOf_8 ?_
  refine lv_aload_n hx hb dX11_lineOf_9 rfl (lv_at hl 0 rfl) ?_
  refine lv_iload_n hx hb dX11_lineOf_10 rfl (lv_at hl 2 rfl) ?_
  refine lv_iconst (v := 2) hx hb dX11_lineOf_11 (by decide) ?_
  obtain ⟨q11, e12, h⟩ := bnd h
  refine call_i C hP hS (c_X11_of e12) mi_X11_of mw_1433 26 (by decide) rfl rfl ⟨Nat.le_of_ble_eq_true rfl, Nat.le_of_ble_eq_true rfl⟩ (As := [.int a2, .int 2]) rfl hl.1 rfl (lv_room (Nat.le_of_ble_eq_true rfl)) dX11_lineOf_12 (fun H locs hP hS => ?_)
  refine lv_iload hx hb dX11_lineOf_15 (lv_at hl 4 rfl) ?_
  refine lv_isub hx hb dX11_lineOf_17 ?_
  refine lv_imul hx hb dX11_lineOf_18 ?_
  refine lv_aload_n hx hb dX11_lineOf_19 rfl (lv_at hl 0 rfl) ?_
  refine lv_iload_n hx hb dX11_lineOf_20 rfl (lv_at hl 1 rfl) ?_
  refine lv_iconst (v := 2) hx hb dX11_lineOf_21 (by decide) ?_
  obtain ⟨q13, e14, h⟩ := bnd h
  refine call_i C hP hS (c_X11_of e14) mi_X11_of mw_1433 26 (by decide) rfl rfl ⟨Nat.le_of_ble_eq_true rfl, Nat.le_of_ble_eq_true rfl⟩ (As := [.int a1, .int 2]) rfl hl.1 rfl (lv_room (Nat.le_of_ble_eq_true rfl)) dX11_lineOf_22 (fun H locs hP hS => ?_)
  refine lv_iload hx hb dX11_lineOf_25 (lv_at hl 4 rfl) ?_
  refine lv_isub hx hb dX11_lineOf_27 ?_
  refine lv_aload_n hx hb dX11_lineOf_28 rfl (lv_at hl 0 rfl) ?_
  refine lv_iload_n hx hb dX11_lineOf_29 rfl (lv_at hl 2 rfl) ?_
  refine lv_iload hx hb dX11_lineOf_30 (lv_at hl 5 rfl) ?_
  obtain ⟨q15, e16, h⟩ := bnd h
  refine call_i C hP hS (c_X11_eastOf e16) mi_X11_eastOf mw_1539 26 (by decide) rfl rfl ⟨Nat.le_of_ble_eq_true rfl, Nat.le_of_ble_eq_true rfl⟩ (As := [.int a2, .int a5]) rfl hl.1 rfl (lv_room (Nat.le_of_ble_eq_true rfl)) dX11_lineOf_32 (fun H locs hP hS => ?_)
  refine lv_iload_n hx hb dX11_lineOf_35 rfl (lv_at hl 3 rfl) ?_
  refine lv_isub hx hb dX11_lineOf_36 ?_
  refine lv_imul hx hb dX11_lineOf_37 ?_
  refine lv_isub hx hb dX11_lineOf_38 ?_
  exact ret_i C hr hlocks hP hS h dX11_lineOf_39
set_option maxHeartbeats 4000000 in
set_option maxRecDepth 100000 in
theorem c_X11_comes {l : Launch} {G : GT} {lam : Lm} {σ : St} {a1 : Int32} {a2 : Int32} {a3 : Int32} {a4 : Int32} {q : Int32 × St} (h : f_X11_comes σ a1 a2 a3 a4 = some q) : Met l yX11_comes (Cond.code yX11_comes cX11_comes 13 ((some .boolean)) :: TB) ({ frames := 4, cells := 0, slots := 0, locals := 95 } : Room) (va_Pc [.ref (g_ad G 26), .int a1, .int a2, .int a3, .int a4] (GW G lam σ)) (Ri q G lam) 0 0 (g_A G) := by
  refine mk_Qi (own := RX11) (by decide) (Nat.le_of_ble_eq_true rfl) rfl (fun p e s m args below meth c C hr hlocks hP ls hl => ?_)
  have hx := C.1
  have hb := C.2.1
  have hl : lv_has ls 13 [(0, .ref (g_ad G 26)), (1, .int a1), (2, .int a2), (3, .int a3), (4, .int a4)] := hl
  have hS : va_S (g_A G) s.heap s.heap [] := va_S.rf
  unfold f_X11_comes at h
  refine lv_aload_n hx hb dX11_comes_0 rfl (lv_at hl 0 rfl) ?_
  refine lv_iload_n hx hb dX11_comes_1 rfl (lv_at hl 1 rfl) ?_
  refine lv_iconst (v := 2) hx hb dX11_comes_2 (by decide) ?_
  obtain ⟨q56, e57, h⟩ := bnd h
  refine call_i C hP hS (c_X11_legOf e57) mi_X11_legOf mw_1606 26 (by decide) rfl rfl ⟨Nat.le_of_ble_eq_true rfl, Nat.le_of_ble_eq_true rfl⟩ (As := [.int a1, .int 2]) rfl hl.1 rfl (lv_room (Nat.le_of_ble_eq_true rfl)) dX11_comes_3 (fun H locs hP hS => ?_)
  refine lv_istore (lv' := [(5, .int q56.1), (0, .ref (g_ad G 26)), (1, .int a1), (2, .int a2), (3, .int a3), (4, .int a4)]) hx hb dX11_comes_6 hl (by decide) rfl (fun ls hl => ?_)
  refine lv_aload_n hx hb dX11_comes_8 rfl (lv_at hl 1 rfl) ?_
  refine lv_iload_n hx hb dX11_comes_9 rfl (lv_at hl 2 rfl) ?_
  refine lv_iconst (v := 3) hx hb dX11_comes_10 (by decide) ?_
  obtain ⟨q58, e59, h⟩ := bnd h
  refine call_i C hP hS (c_X11_legOf e59) mi_X11_legOf mw_1606 26 (by decide) rfl rfl ⟨Nat.le_of_ble_eq_true rfl, Nat.le_of_ble_eq_true rfl⟩ (As := [.int a1, .int 3]) rfl hl.1 rfl (lv_room (Nat.le_of_ble_eq_true rfl)) dX11_comes_11 (fun H locs hP hS => ?_)
  refine lv_istore (lv' := [(6, .int q58.1), (5, .int q56.1), (0, .ref (g_ad G 26)), (1, .int a1), (2, .int a2), (3, .int a3), (4, .int a4)]) hx hb dX11_comes_14 hl (by decide) rfl (fun ls hl => ?_)
  refine lv_aload_n hx hb dX11_comes_16 rfl (lv_at hl 2 rfl) ?_
  refine gf_X11_29_26 C hP dX11_comes_17 ?_
  refine lv_iload_n hx hb dX11_comes_20 rfl (lv_at hl 5 rfl) ?_
  obtain ⟨g60, h⟩ := h_g h
  refine r_ald C hP 33 (by decide) rfl (vp_in_iff.mpr g60) dX11_comes_21 ?_
  obtain ⟨y61, e62, h⟩ := bnd h
  refine r_nm e62 ?_
  refine lv_istore (lv' := [(7, .int y61), (6, .int q58.1), (5, .int q56.1), (0, .ref (g_ad G 26)), (1, .int a1), (2, .int a2), (3, .int a3), (4, .int a4)]) hx hb dX11_comes_22 hl (by decide) rfl (fun ls hl => ?_)
  refine lv_aload_n hx hb dX11_comes_24 rfl (lv_at hl 3 rfl) ?_
  refine gf_X11_32_26 C hP dX11_comes_25 ?_
  refine lv_iload_n hx hb dX11_comes_28 rfl (lv_at hl 6 rfl) ?_
  obtain ⟨g63, h⟩ := h_g h
  refine r_ald C hP 34 (by decide) rfl (vp_in_iff.mpr g63) dX11_comes_29 ?_
  obtain ⟨y64, e65, h⟩ := bnd h
  refine r_nm e65 ?_
  refine lv_istore (lv' := [(8, .int y64), (7, .int y61), (6, .int q58.1), (5, .int q56.1), (0, .ref (g_ad G 26)), (1, .int a1), (2, .int a2), (3, .int a3), (4, .int a4)]) hx hb dX11_comes_30 hl (by decide) rfl (fun ls hl => ?_)
  refine lv_iload hx hb dX11_comes_32 (lv_at hl 8 rfl) ?_
  refine lv_iload_n hx hb dX11_comes_34 rfl (lv_at hl 7 rfl) ?_
  refine lv_iadd hx hb dX11_comes_35 ?_
  obtain ⟨y66, e67, h⟩ := bnd h
  refine r_nm e67 ?_
  refine lv_istore (lv' := [(9, .int y66), (8, .int y64), (7, .int y61), (6, .int q58.1), (5, .int q56.1), (0, .ref (g_ad G 26)), (1, .int a1), (2, .int a2), (3, .int a3), (4, .int a4)]) hx hb dX11_comes_36 hl (by decide) rfl (fun ls hl => ?_)
  refine lv_aload_n hx hb dX11_comes_38 rfl (lv_at hl 5 rfl) ?_
  refine lv_iload_n hx hb dX11_comes_39 rfl (lv_at hl 6 rfl) ?_
  refine lv_iconst (v := 1) hx hb dX11_comes_40 (by decide) ?_
  obtain ⟨q68, e69, h⟩ := bnd h
  refine call_i C hP hS (c_X11_legOf e69) mi_X11_legOf mw_1606 26 (by decide) rfl rfl ⟨Nat.le_of_ble_eq_true rfl, Nat.le_of_ble_eq_true rfl⟩ (As := [.int a1, .int 1]) rfl hl.1 rfl (lv_room (Nat.le_of_ble_eq_true rfl)) dX11_comes_41 (fun H locs hP hS => ?_)
  by_cases c71 : q68.1 = 0
  · replace h := h_t c71 h
    refine r_eq c71 ?_
    refine lv_tableIn (off := 32) (tgt := 76) hx hb dX11_comes_44 (by decide) (by decide) (by decide) (by decide) ?_
    refine lv_iload_n hx hb dX11_comes_76 rfl (lv_at hl 8 rfl) ?_
    refine lv_iload_n hx hb dX11_comes_77 rfl (lv_at hl 7 rfl) ?_
    refine lv_isub hx hb dX11_comes_78 ?_
    refine lv_iload hx hb dX11_comes_79 (lv_at hl 4 rfl) ?_
    refine lv_icmp_lt (tgt := 88) hx hb dX11_comes_81 (by decide) (fun c70 => ?_) (fun c70 => ?_)
    · replace h := h_t c70 h
      refine lv_iconst (v := 0) hx hb dX11_comes_88 (by decide) ?_
      exact ret_z C hr hlocks hP hS h (Or.inl rfl) dX11_comes_89
    · replace h := h_f c70 h
      refine lv_iconst (v := 1) hx hb dX11_comes_84 (by decide) ?_
      refine lv_goto (tgt := 89) hx hb dX11_comes_85 (by decide) ?_
      exact ret_z C hr hlocks hP hS h (Or.inr rfl) dX11_comes_89
  replace h := h_f c71 h
  by_cases c84 : q68.1 = 1
  · replace h := h_t c84 h
    refine r_eq c84 ?_
    refine lv_tableIn (off := 46) (tgt := 90) hx hb dX11_comes_44 (by decide) (by decide) (by decide) (by decide) ?_
    refine lv_aload_n hx hb dX11_comes_90 rfl (lv_at hl 5 rfl) ?_
    refine lv_iload_n hx hb dX11_comes_91 rfl (lv_at hl 6 rfl) ?_
    refine lv_iconst (v := 0) hx hb dX11_comes_92 (by decide) ?_
    obtain ⟨q72, e73, h⟩ := bnd h
    refine call_i C hP hS (c_X11_legOf e73) mi_X11_legOf mw_1606 26 (by decide) rfl rfl ⟨Nat.le_of_ble_eq_true rfl, Nat.le_of_ble_eq_true rfl⟩ (As := [.int a1, .int 0]) rfl hl.1 rfl (lv_room (Nat.le_of_ble_eq_true rfl)) dX11_comes_93 (fun H locs hP hS => ?_)
    refine lv_istore (lv' := [(10, .int q72.1), (9, .int y66), (8, .int y64), (7, .int y61), (6, .int q58.1), (5, .int q56.1), (0, .ref (g_ad G 26)), (1, .int a1), (2, .int a2), (3, .int a3), (4, .int a4)]) hx hb dX11_comes_96 hl (by decide) rfl (fun ls hl => ?_)
    refine lv_aload_n hx hb dX11_comes_98 rfl (lv_at hl 6 rfl) ?_
    refine lv_iload hx hb dX11_comes_99 (lv_at hl 5 rfl) ?_
    refine lv_iload hx hb dX11_comes_101 (lv_at hl 3 rfl) ?_
    refine lv_iload hx hb dX11_comes_103 (lv_at hl 2 rfl) ?_
    refine lv_iload hx hb dX11_comes_105 (lv_at hl 1 rfl) ?_
    obtain ⟨q74, e75, h⟩ := bnd h
    refine call_i C hP hS (c_X11_isSeen e75) mi_X11_isSeen mw_1547 26 (by decide) rfl rfl ⟨Nat.le_of_ble_eq_true rfl, Nat.le_of_ble_eq_true rfl⟩ (As := [.int q56.1, .int y61, .int y64, .int y66]) rfl hl.1 rfl (lv_room (Nat.le_of_ble_eq_true rfl)) dX11_comes_107 (fun H locs hP hS => ?_)
    refine lv_if_eq (tgt := 158) hx hb dX11_comes_110 (by decide) (fun c76 => ?_) (fun c76 => ?_)
    · replace h := h_t c76 h
      refine lv_iconst (v := 0) hx hb dX11_comes_158 (by decide) ?_
      exact ret_z C hr hlocks hP hS h (Or.inl rfl) dX11_comes_159
    · replace h := h_f c76 h
      refine lv_aload_n hx hb dX11_comes_113 rfl (lv_at hl 6 rfl) ?_
      refine gf_X11_20_26 C hP dX11_comes_114 ?_
      refine lv_iload hx hb dX11_comes_117 (lv_at hl 0 rfl) ?_
      obtain ⟨g77, h⟩ := h_g h
      refine r_ald C hP 30 (by decide) rfl (vp_in_iff.mpr g77) dX11_comes_119 ?_
      refine lv_aload_n hx hb dX11_comes_120 rfl (lv_at hl 6 rfl) ?_
      refine lv_iload hx hb dX11_comes_121 (lv_at hl 5 rfl) ?_
      refine lv_iload hx hb dX11_comes_123 (lv_at hl 1 rfl) ?_
      obtain ⟨q78, e79, h⟩ := bnd h
      refine call_i C hP hS (c_X11_eastOf e79) mi_X11_eastOf mw_1539 26 (by decide) rfl rfl ⟨Nat.le_of_ble_eq_true rfl, Nat.le_of_ble_eq_true rfl⟩ (As := [.int q56.1, .int y66]) rfl hl.1 rfl (lv_room (Nat.le_of_ble_eq_true rfl)) dX11_comes_125 (fun H locs hP hS => ?_)
      refine lv_iload hx hb dX11_comes_128 (lv_at hl 3 rfl) ?_
      refine lv_isub hx hb dX11_comes_130 ?_
      refine lv_imul hx hb dX11_comes_131 ?_
      refine lv_aload_n hx hb dX11_comes_132 rfl (lv_at hl 6 rfl) ?_
      refine gf_X11_23_26 C hP dX11_comes_133 ?_
      refine lv_iload hx hb dX11_comes_136 (lv_at hl 0 rfl) ?_
      obtain ⟨g80, h⟩ := h_g h
      refine r_ald C hP 31 (by decide) rfl (vp_in_iff.mpr g80) dX11_comes_138 ?_
      refine lv_aload_n hx hb dX11_comes_139 rfl (lv_at hl 6 rfl) ?_
      refine lv_iload hx hb dX11_comes_140 (lv_at hl 5 rfl) ?_
      refine lv_iconst (v := 2) hx hb dX11_comes_142 (by decide) ?_
      obtain ⟨q81, e82, h⟩ := bnd h
      refine call_i C hP hS (c_X11_of e82) mi_X11_of mw_1433 26 (by decide) rfl rfl ⟨Nat.le_of_ble_eq_true rfl, Nat.le_of_ble_eq_true rfl⟩ (As := [.int q56.1, .int 2]) rfl hl.1 rfl (lv_room (Nat.le_of_ble_eq_true rfl)) dX11_comes_143 (fun H locs hP hS => ?_)
      refine lv_iload hx hb dX11_comes_146 (lv_at hl 2 rfl) ?_
      refine lv_isub hx hb dX11_comes_148 ?_
      refine lv_imul hx hb dX11_comes_149 ?_
      refine lv_iadd hx hb dX11_comes_150 ?_
      refine lv_if_gt (tgt := 158) hx hb dX11_comes_151 (by decide) (fun c83 => ?_) (fun c83 => ?_)
      · replace h := h_t c83 h
        refine lv_iconst (v := 0) hx hb dX11_comes_158 (by decide) ?_
        exact ret_z C hr hlocks hP hS h (Or.inl rfl) dX11_comes_159
      · replace h := h_f c83 h
        refine lv_iconst (v := 1) hx hb dX11_comes_154 (by decide) ?_
        refine lv_goto (tgt := 159) hx hb dX11_comes_155 (by decide) ?_
        exact ret_z C hr hlocks hP hS h (Or.inr rfl) dX11_comes_159
  replace h := h_f c84 h
  by_cases c103 : q68.1 = 2
  · replace h := h_t c103 h
    refine r_eq c103 ?_
    refine lv_tableIn (off := 116) (tgt := 160) hx hb dX11_comes_44 (by decide) (by decide) (by decide) (by decide) ?_
    refine lv_aload_n hx hb dX11_comes_160 rfl (lv_at hl 5 rfl) ?_
    refine lv_iload hx hb dX11_comes_161 (lv_at hl 4 rfl) ?_
    refine lv_iload hx hb dX11_comes_163 (lv_at hl 3 rfl) ?_
    refine lv_iload hx hb dX11_comes_165 (lv_at hl 2 rfl) ?_
    refine lv_iload hx hb dX11_comes_167 (lv_at hl 1 rfl) ?_
    refine lv_iload hx hb dX11_comes_169 (lv_at hl 0 rfl) ?_
    obtain ⟨q85, e86, h⟩ := bnd h
    refine call_i C hP hS (c_X11_lineOf e86) mi_X11_lineOf mw_1626 26 (by decide) rfl rfl ⟨Nat.le_of_ble_eq_true rfl, Nat.le_of_ble_eq_true rfl⟩ (As := [.int q56.1, .int q58.1, .int y61, .int y64, .int y66]) rfl hl.1 rfl (lv_room (Nat.le_of_ble_eq_true rfl)) dX11_comes_171 (fun H locs hP hS => ?_)
    obtain ⟨q87, e88, h⟩ := bnd h
    refine scall_i C hP hS (c_X11_signOf e88) ms_X11_signOf mw_1578 ⟨Nat.le_of_ble_eq_true rfl, Nat.le_of_ble_eq_true rfl⟩ (As := [.int q85.1]) rfl hl.1 rfl (lv_room (Nat.le_of_ble_eq_true rfl)) dX11_comes_174 (fun H locs hP hS => ?_)
    refine lv_istore (lv' := [(11, .int q87.1), (9, .int y66), (8, .int y64), (7, .int y61), (6, .int q58.1), (5, .int q56.1), (0, .ref (g_ad G 26)), (1, .int a1), (2, .int a2), (3, .int a3), (4, .int a4)]) hx hb dX11_comes_177 hl (by decide) rfl (fun ls hl => ?_)
    refine lv_aload_n hx hb dX11_comes_179 rfl (lv_at hl 6 rfl) ?_
    refine lv_iload hx hb dX11_comes_180 (lv_at hl 5 rfl) ?_
    refine lv_iload hx hb dX11_comes_182 (lv_at hl 4 rfl) ?_
    refine lv_aload_n hx hb dX11_comes_184 rfl (lv_at hl 6 rfl) ?_
    refine gf_X11_29_26 C hP dX11_comes_185 ?_
    refine lv_iload_n hx hb dX11_comes_188 rfl (lv_at hl 8 rfl) ?_
    obtain ⟨g89, h⟩ := h_g h
    refine r_ald C hP 33 (by decide) rfl (vp_in_iff.mpr g89) dX11_comes_189 ?_
    refine lv_aload_n hx hb dX11_comes_190 rfl (lv_at hl 6 rfl) ?_
    refine gf_X11_32_26 C hP dX11_comes_191 ?_
    refine lv_iload_n hx hb dX11_comes_194 rfl (lv_at hl 8 rfl) ?_
    obtain ⟨g90, h⟩ := h_g h
    refine r_ald C hP 34 (by decide) rfl (vp_in_iff.mpr g90) dX11_comes_195 ?_
    refine lv_iload hx hb dX11_comes_196 (lv_at hl 10 rfl) ?_
    refine lv_iload_n hx hb dX11_comes_198 rfl (lv_at hl 8 rfl) ?_
    refine lv_iadd hx hb dX11_comes_199 ?_
    obtain ⟨q91, e92, h⟩ := bnd h
    refine call_i C hP hS (c_X11_lineOf e92) mi_X11_lineOf mw_1626 26 (by decide) rfl rfl ⟨Nat.le_of_ble_eq_true rfl, Nat.le_of_ble_eq_true rfl⟩ (As := [.int q56.1, .int q58.1, .int (q87.2 33 (a2).toNatClampNeg), .int (q87.2 34 (a2).toNatClampNeg), .int (a4 + a2)]) rfl hl.1 rfl (lv_room (Nat.le_of_ble_eq_true rfl)) dX11_comes_200 (fun H locs hP hS => ?_)
    obtain ⟨q93, e94, h⟩ := bnd h
    refine scall_i C hP hS (c_X11_signOf e94) ms_X11_signOf mw_1578 ⟨Nat.le_of_ble_eq_true rfl, Nat.le_of_ble_eq_true rfl⟩ (As := [.int q91.1]) rfl hl.1 rfl (lv_room (Nat.le_of_ble_eq_true rfl)) dX11_comes_203 (fun H locs hP hS => ?_)
    refine lv_istore (lv' := [(12, .int q93.1), (11, .int q87.1), (9, .int y66), (8, .int y64), (7, .int y61), (6, .int q58.1), (5, .int q56.1), (0, .ref (g_ad G 26)), (1, .int a1), (2, .int a2), (3, .int a3), (4, .int a4)]) hx hb dX11_comes_206 hl (by decide) rfl (fun ls hl => ?_)
    refine lv_aload_n hx hb dX11_comes_208 rfl (lv_at hl 7 rfl) ?_
    refine lv_iload hx hb dX11_comes_209 (lv_at hl 6 rfl) ?_
    refine lv_iload hx hb dX11_comes_211 (lv_at hl 4 rfl) ?_
    refine lv_iload hx hb dX11_comes_213 (lv_at hl 3 rfl) ?_
    refine lv_iload hx hb dX11_comes_215 (lv_at hl 2 rfl) ?_
    obtain ⟨q95, e96, h⟩ := bnd h
    refine call_i C hP hS (c_X11_isSeen e96) mi_X11_isSeen mw_1547 26 (by decide) rfl rfl ⟨Nat.le_of_ble_eq_true rfl, Nat.le_of_ble_eq_true rfl⟩ (As := [.int q56.1, .int y61, .int y64, .int y66]) rfl hl.1 rfl (lv_room (Nat.le_of_ble_eq_true rfl)) dX11_comes_217 (fun H locs hP hS => ?_)
    refine lv_if_eq (tgt := 255) hx hb dX11_comes_220 (by decide) (fun c97 => ?_) (fun c97 => ?_)
    · replace h := h_t c97 h
      refine lv_iconst (v := 0) hx hb dX11_comes_255 (by decide) ?_
      exact ret_z C hr hlocks hP hS h (Or.inl rfl) dX11_comes_256
    · replace h := h_f c97 h
      refine lv_aload_n hx hb dX11_comes_223 rfl (lv_at hl 7 rfl) ?_
      refine lv_iload hx hb dX11_comes_224 (lv_at hl 5 rfl) ?_
      refine lv_iload hx hb dX11_comes_226 (lv_at hl 4 rfl) ?_
      refine lv_iload hx hb dX11_comes_228 (lv_at hl 3 rfl) ?_
      refine lv_iload hx hb dX11_comes_230 (lv_at hl 2 rfl) ?_
      obtain ⟨q98, e99, h⟩ := bnd h
      refine call_i C hP hS (c_X11_isSeen e99) mi_X11_isSeen mw_1547 26 (by decide) rfl rfl ⟨Nat.le_of_ble_eq_true rfl, Nat.le_of_ble_eq_true rfl⟩ (As := [.int q58.1, .int y61, .int y64, .int y66]) rfl hl.1 rfl (lv_room (Nat.le_of_ble_eq_true rfl)) dX11_comes_232 (fun H locs hP hS => ?_)
      refine lv_if_eq (tgt := 255) hx hb dX11_comes_235 (by decide) (fun c100 => ?_) (fun c100 => ?_)
      · replace h := h_t c100 h
        refine lv_iconst (v := 0) hx hb dX11_comes_255 (by decide) ?_
        exact ret_z C hr hlocks hP hS h (Or.inl rfl) dX11_comes_256
      · replace h := h_f c100 h
        refine lv_iload hx hb dX11_comes_238 (lv_at hl 1 rfl) ?_
        refine lv_if_eq (tgt := 251) hx hb dX11_comes_240 (by decide) (fun c101 => ?_) (fun c101 => ?_)
        · replace h := h_t c101 h
          refine lv_iconst (v := 1) hx hb dX11_comes_251 (by decide) ?_
          refine lv_goto (tgt := 256) hx hb dX11_comes_252 (by decide) ?_
          exact ret_z C hr hlocks hP hS h (Or.inr rfl) dX11_comes_256
        · replace h := h_f c101 h
          refine lv_iload hx hb dX11_comes_243 (lv_at hl 1 rfl) ?_
          refine lv_iload hx hb dX11_comes_245 (lv_at hl 0 rfl) ?_
          refine lv_iadd hx hb dX11_comes_247 ?_
          refine lv_if_ne (tgt := 255) hx hb dX11_comes_248 (by decide) (fun c102 => ?_) (fun c102 => ?_)
          · replace h := h_f c102 h
            refine lv_iconst (v := 0) hx hb dX11_comes_255 (by decide) ?_
            exact ret_z C hr hlocks hP hS h (Or.inl rfl) dX11_comes_256
          · replace h := h_t c102 h
            refine lv_iconst (v := 1) hx hb dX11_comes_251 (by decide) ?_
            refine lv_goto (tgt := 256) hx hb dX11_comes_252 (by decide) ?_
            exact ret_z C hr hlocks hP hS h (Or.inr rfl) dX11_comes_256
  replace h := h_f c103 h
  by_cases c111 : q68.1 = 3
  · replace h := h_t c111 h
    refine r_eq c111 ?_
    refine lv_tableIn (off := 213) (tgt := 257) hx hb dX11_comes_44 (by decide) (by decide) (by decide) (by decide) ?_
    refine lv_aload_n hx hb dX11_comes_257 rfl (lv_at hl 5 rfl) ?_
    refine lv_iload hx hb dX11_comes_258 (lv_at hl 4 rfl) ?_
    refine lv_iload hx hb dX11_comes_260 (lv_at hl 2 rfl) ?_
    refine lv_iload hx hb dX11_comes_262 (lv_at hl 1 rfl) ?_
    refine lv_iload hx hb dX11_comes_264 (lv_at hl 0 rfl) ?_
    obtain ⟨q104, e105, h⟩ := bnd h
    refine call_i C hP hS (c_X11_isSeen e105) mi_X11_isSeen mw_1547 26 (by decide) rfl rfl ⟨Nat.le_of_ble_eq_true rfl, Nat.le_of_ble_eq_true rfl⟩ (As := [.int q56.1, .int y61, .int y64, .int y66]) rfl hl.1 rfl (lv_room (Nat.le_of_ble_eq_true rfl)) dX11_comes_266 (fun H locs hP hS => ?_)
    refine lv_aload_n hx hb dX11_comes_269 rfl (lv_at hl 5 rfl) ?_
    refine lv_iload hx hb dX11_comes_270 (lv_at hl 4 rfl) ?_
    refine lv_aload_n hx hb dX11_comes_272 rfl (lv_at hl 5 rfl) ?_
    refine gf_X11_29_26 C hP dX11_comes_273 ?_
    refine lv_iload_n hx hb dX11_comes_276 rfl (lv_at hl 7 rfl) ?_
    obtain ⟨g106, h⟩ := h_g h
    refine r_ald C hP 33 (by decide) rfl (vp_in_iff.mpr g106) dX11_comes_277 ?_
    refine lv_aload_n hx hb dX11_comes_278 rfl (lv_at hl 5 rfl) ?_
    refine gf_X11_32_26 C hP dX11_comes_279 ?_
    refine lv_iload_n hx hb dX11_comes_282 rfl (lv_at hl 7 rfl) ?_
    obtain ⟨g107, h⟩ := h_g h
    refine r_ald C hP 34 (by decide) rfl (vp_in_iff.mpr g107) dX11_comes_283 ?_
    refine lv_iload hx hb dX11_comes_284 (lv_at hl 9 rfl) ?_
    refine lv_iload_n hx hb dX11_comes_286 rfl (lv_at hl 7 rfl) ?_
    refine lv_iadd hx hb dX11_comes_287 ?_
    obtain ⟨q108, e109, h⟩ := bnd h
    refine call_i C hP hS (c_X11_isSeen e109) mi_X11_isSeen mw_1547 26 (by decide) rfl rfl ⟨Nat.le_of_ble_eq_true rfl, Nat.le_of_ble_eq_true rfl⟩ (As := [.int q56.1, .int (q104.2 33 (a2).toNatClampNeg), .int (q104.2 34 (a2).toNatClampNeg), .int (a4 + a2)]) rfl hl.1 rfl (lv_room (Nat.le_of_ble_eq_true rfl)) dX11_comes_288 (fun H locs hP hS => ?_)
    refine lv_icmp_eq (tgt := 298) hx hb dX11_comes_291 (by decide) (fun c110 => ?_) (fun c110 => ?_)
    · replace h := h_t c110 h
      refine lv_iconst (v := 0) hx hb dX11_comes_298 (by decide) ?_
      exact ret_z C hr hlocks hP hS h (Or.inl rfl) dX11_comes_299
    · replace h := h_f c110 h
      refine lv_iconst (v := 1) hx hb dX11_comes_294 (by decide) ?_
      refine lv_goto (tgt := 299) hx hb dX11_comes_295 (by decide) ?_
      exact ret_z C hr hlocks hP hS h (Or.inr rfl) dX11_comes_299
  replace h := h_f c111 h
  refine lv_tableOut (tgt := 300) hx hb dX11_comes_44 (by have hz := And.intro (ne_i (z := 0) (by decide) c71) (And.intro (ne_i (z := 1) (by decide) c84) (And.intro (ne_i (z := 2) (by decide) c103) (ne_i (z := 3) (by decide) c111))); omega) (by decide) ?_
  refine lv_aload_n hx hb dX11_comes_300 rfl (lv_at hl 5 rfl) ?_
  refine lv_iload hx hb dX11_comes_301 (lv_at hl 2 rfl) ?_
  refine lv_iload hx hb dX11_comes_303 (lv_at hl 1 rfl) ?_
  obtain ⟨q112, e113, h⟩ := bnd h
  refine call_i C hP hS (c_X11_charted e113) mi_X11_charted mw_1505 26 (by decide) rfl rfl ⟨Nat.le_of_ble_eq_true rfl, Nat.le_of_ble_eq_true rfl⟩ (As := [.int y61, .int y64]) rfl hl.1 rfl (lv_room (Nat.le_of_ble_eq_true rfl)) dX11_comes_305 (fun H locs hP hS => ?_)
  refine lv_aload_n hx hb dX11_comes_308 rfl (lv_at hl 5 rfl) ?_
  refine lv_iload hx hb dX11_comes_309 (lv_at hl 0 rfl) ?_
  obtain ⟨q114, e115, h⟩ := bnd h
  refine call_i C hP hS (c_X11_tideAt e115) mi_X11_tideAt mw_1494 26 (by decide) rfl rfl ⟨Nat.le_of_ble_eq_true rfl, Nat.le_of_ble_eq_true rfl⟩ (As := [.int y66]) rfl hl.1 rfl (lv_room (Nat.le_of_ble_eq_true rfl)) dX11_comes_311 (fun H locs hP hS => ?_)
  refine lv_iadd hx hb dX11_comes_314 ?_
  refine lv_iload hx hb dX11_comes_315 (lv_at hl 4 rfl) ?_
  refine lv_icmp_gt (tgt := 324) hx hb dX11_comes_317 (by decide) (fun c116 => ?_) (fun c116 => ?_)
  · replace h := h_t c116 h
    refine lv_iconst (v := 0) hx hb dX11_comes_324 (by decide) ?_
    exact ret_z C hr hlocks hP hS h (Or.inl rfl) dX11_comes_325
  · replace h := h_f c116 h
    refine lv_iconst (v := 1) hx hb dX11_comes_320 (by decide) ?_
    refine lv_goto (tgt := 325) hx hb dX11_comes_321 (by decide) ?_
    exact ret_z C hr hlocks hP hS h (Or.inr rfl) dX11_comes_325
set_option maxHeartbeats 4000000 in
set_option maxRecDepth 100000 in
theorem c_X11_greatestHeight {l : Launch} {G : GT} {lam : Lm} {σ : St} {q : Int32 × St} (h : f_X11_greatestHeight σ = some q) : Met l yX11_greatestHeight (Cond.code yX11_greatestHeight cX11_greatestHeight 3 ((some .int)) :: TB) ({ frames := 0, cells := 0, slots := 0, locals := 0 } : Room) (va_Pc [.ref (g_ad G 26)] (GW G lam σ)) (Ri q G lam) 0 0 (g_A G) := by
  refine mk_Qi (own := RX11) (by decide) (Nat.le_of_ble_eq_true rfl) rfl (fun p e s m args below meth c C hr hlocks hP ls hl => ?_)
  have hx := C.1
  have hb := C.2.1
  have hl : lv_has ls 3 [(0, .ref (g_ad G 26))] := hl
  have L4 : ∀ (n4 : Nat) (σ : St) (x1 : Int32) (x2 : Int32) (H : Heap) (locs : List Loc) (ls : Array Slot), fx (F_X11_greatestHeight_h4) z_X11_greatestHeight_h4 n4 σ x1 x2 = some q → va_P (g_D G) vwCl (allW G lam σ) H → va_S (g_A G) s.heap H locs → lv_has ls 3 [(0, .ref (g_ad G 26)), (1, .int x1), (2, .int x2)] → W p l e ({ frames := 0, cells := 0, slots := 0, locals := 0 } : Room) s m args below meth c H locs 0 0 (Qi q below args s G lam) (F0 m 4 ls []) := by
    intro n4
    induction n4 with
    | zero => intro σ x1 x2 H locs ls h hP hS hl; exact absurd h (by intro h9; cases h9)
    | succ n4 ih4 =>
      have J41 : ∀ (σ : St) (x2 : Int32) (t0 : Int32) (H : Heap) (locs : List Loc) (ls : Array Slot), f_X11_greatestHeight_p41 (fx (F_X11_greatestHeight_h4) z_X11_greatestHeight_h4 n4) σ x2 t0 = some q → va_P (g_D G) vwCl (allW G lam σ) H → va_S (g_A G) s.heap H locs → lv_has ls 3 [(0, .ref (g_ad G 26)), (2, .int x2)] → W p l e ({ frames := 0, cells := 0, slots := 0, locals := 0 } : Room) s m args below meth c H locs 0 0 (Qi q below args s G lam) (F0 m 41 ls [.int t0]) := by
        intro σ x2 t0 H locs ls h hP hS hl
        unfold f_X11_greatestHeight_p41 at h
        refine lv_istore_n (lv' := [(1, .int t0), (0, .ref (g_ad G 26)), (2, .int x2)]) hx hb dX11_greatestHeight_41 rfl hl (by decide) rfl (fun ls hl => ?_)
        obtain ⟨y7, e8, h⟩ := bnd h
        refine lv_iinc (v := y7) (lv' := [(2, .int y7), (1, .int t0), (0, .ref (g_ad G 26))]) hx hb dX11_greatestHeight_42 hl (k := 2) rfl (Option.some.inj e8) (by decide) rfl (fun ls hl => ?_)
        refine lv_goto (tgt := 4) hx hb dX11_greatestHeight_45 (by decide) ?_
        exact ih4 _ _ _ H locs ls h hP hS (lv_sub hl [2, 1, 0] rfl)
      intro σ x1 x2 H locs ls h hP hS hl
      change F_X11_greatestHeight_h4 (fx (F_X11_greatestHeight_h4) z_X11_greatestHeight_h4 n4) σ x1 x2 = some q at h
      unfold F_X11_greatestHeight_h4 at h
      refine lv_iload_n hx hb dX11_greatestHeight_4 rfl (lv_at hl 2 rfl) ?_
      refine lv_aload_n hx hb dX11_greatestHeight_5 rfl (lv_at hl 0 rfl) ?_
      refine gf_X11_7_26 C hP dX11_greatestHeight_6 ?_
      refine lv_bipush (v := 6) hx hb dX11_greatestHeight_9 (by decide) ?_
      refine r_aldc C hP 27 (by decide) rfl (j := 6) (by decide) (vp_in_iff.mpr (by decide)) dX11_greatestHeight_11 ?_
      refine lv_icmp_ge (tgt := 48) hx hb dX11_greatestHeight_12 (by decide) (fun c9 => ?_) (fun c9 => ?_)
      · replace h := h_t c9 h
        refine lv_iload_n hx hb dX11_greatestHeight_48 rfl (lv_at hl 1 rfl) ?_
        exact ret_i C hr hlocks hP hS h dX11_greatestHeight_49
      · replace h := h_f c9 h
        refine lv_aload_n hx hb dX11_greatestHeight_15 rfl (lv_at hl 0 rfl) ?_
        refine gf_X11_7_26 C hP dX11_greatestHeight_16 ?_
        refine lv_bipush (v := 7) hx hb dX11_greatestHeight_19 (by decide) ?_
        refine lv_iload_n hx hb dX11_greatestHeight_21 rfl (lv_at hl 2 rfl) ?_
        refine lv_iadd hx hb dX11_greatestHeight_22 ?_
        obtain ⟨g10, h⟩ := h_g h
        refine r_ald C hP 27 (by decide) rfl (vp_in_iff.mpr g10) dX11_greatestHeight_23 ?_
        refine lv_iload_n hx hb dX11_greatestHeight_24 rfl (lv_at hl 1 rfl) ?_
        refine lv_icmp_le (tgt := 40) hx hb dX11_greatestHeight_25 (by decide) (fun c11 => ?_) (fun c11 => ?_)
        · replace h := h_t c11 h
          refine lv_iload_n hx hb dX11_greatestHeight_40 rfl (lv_at hl 1 rfl) ?_
          exact J41 _ _ _ H locs ls h hP hS (lv_sub hl [0, 2] rfl)
        · replace h := h_f c11 h
          refine lv_aload_n hx hb dX11_greatestHeight_28 rfl (lv_at hl 0 rfl) ?_
          refine gf_X11_7_26 C hP dX11_greatestHeight_29 ?_
          refine lv_bipush (v := 7) hx hb dX11_greatestHeight_32 (by decide) ?_
          refine lv_iload_n hx hb dX11_greatestHeight_34 rfl (lv_at hl 2 rfl) ?_
          refine lv_iadd hx hb dX11_greatestHeight_35 ?_
          obtain ⟨g12, h⟩ := h_g h
          refine r_ald C hP 27 (by decide) rfl (vp_in_iff.mpr g12) dX11_greatestHeight_36 ?_
          refine lv_goto (tgt := 41) hx hb dX11_greatestHeight_37 (by decide) ?_
          exact J41 _ _ _ H locs ls h hP hS (lv_sub hl [0, 2] rfl)
  have hS : va_S (g_A G) s.heap s.heap [] := va_S.rf
  unfold f_X11_greatestHeight at h
  obtain ⟨H, hH⟩ : ∃ H, H = s.heap := ⟨_, rfl⟩
  obtain ⟨locs, hlo⟩ : ∃ k : List Loc, k = [] := ⟨_, rfl⟩
  rw [← hH, ← hlo]
  rw [← hH] at hP
  replace hS : va_S (g_A G) s.heap H locs := by rw [hH, hlo]; exact hS
  refine lv_iconst (v := 0) hx hb dX11_greatestHeight_0 (by decide) ?_
  refine lv_istore_n (lv' := [(1, .int 0), (0, .ref (g_ad G 26))]) hx hb dX11_greatestHeight_1 rfl hl (by decide) rfl (fun ls hl => ?_)
  refine lv_iconst (v := 0) hx hb dX11_greatestHeight_2 (by decide) ?_
  refine lv_istore_n (lv' := [(2, .int 0), (1, .int 0), (0, .ref (g_ad G 26))]) hx hb dX11_greatestHeight_3 rfl hl (by decide) rfl (fun ls hl => ?_)
  exact L4 FU _ _ _ H locs ls h hP hS (lv_sub hl [2, 1, 0] rfl)
set_option maxHeartbeats 4000000 in
set_option maxRecDepth 100000 in
theorem c_X11_overdue {l : Launch} {G : GT} {lam : Lm} {σ : St} {a1 : Int32} {a2 : Int32} {q : St} (h : f_X11_overdue σ a1 a2 = some q) : Met l yX11_overdue (Cond.code yX11_overdue cX11_overdue 5 none :: TB) ({ frames := 3, cells := 0, slots := 0, locals := 80 } : Room) (va_Pc [.ref (g_ad G 26), .int a1, .int a2] (GW G lam σ)) (Rv q G lam) 0 0 (g_A G) := by
  refine mk_Qv (own := RX11) (by decide) (Nat.le_of_ble_eq_true rfl) rfl (fun p e s m args below meth c C hr hlocks hP ls hl => ?_)
  have hx := C.1
  have hb := C.2.1
  have hl : lv_has ls 5 [(0, .ref (g_ad G 26)), (1, .int a1), (2, .int a2)] := hl
  have L16 : ∀ (n16 : Nat) (σ : St) (x1 : Int32) (x2 : Int32) (x3 : Int32) (x4 : Int32) (H : Heap) (locs : List Loc) (ls : Array Slot), fx (F_X11_overdue_h16) z_X11_overdue_h16 n16 σ x1 x2 x3 x4 = some q → va_P (g_D G) vwCl (allW G lam σ) H → va_S (g_A G) s.heap H locs → lv_has ls 5 [(0, .ref (g_ad G 26)), (1, .int x1), (2, .int x2), (3, .int x3), (4, .int x4)] → W p l e ({ frames := 3, cells := 0, slots := 0, locals := 80 } : Room) s m args below meth c H locs 0 0 (Qv q below args s G lam) (F0 m 16 ls []) := by
    intro n16
    induction n16 with
    | zero => intro σ x1 x2 x3 x4 H locs ls h hP hS hl; exact absurd h (by intro h9; cases h9)
    | succ n16 ih16 =>
      have J97 : ∀ (σ : St) (x1 : Int32) (x2 : Int32) (x3 : Int32) (x4 : Int32) (H : Heap) (locs : List Loc) (ls : Array Slot), f_X11_overdue_p97 (fx (F_X11_overdue_h16) z_X11_overdue_h16 n16) σ x1 x2 x3 x4 = some q → va_P (g_D G) vwCl (allW G lam σ) H → va_S (g_A G) s.heap H locs → lv_has ls 5 [(0, .ref (g_ad G 26)), (1, .int x1), (2, .int x2), (3, .int x3), (4, .int x4)] → W p l e ({ frames := 3, cells := 0, slots := 0, locals := 80 } : Room) s m args below meth c H locs 0 0 (Qv q below args s G lam) (F0 m 97 ls []) := by
        intro σ x1 x2 x3 x4 H locs ls h hP hS hl
        unfold f_X11_overdue_p97 at h
        obtain ⟨y23, e24, h⟩ := bnd h
        refine lv_iinc (v := y23) (lv' := [(4, .int y23), (0, .ref (g_ad G 26)), (1, .int x1), (2, .int x2), (3, .int x3)]) hx hb dX11_overdue_97 hl (k := 4) rfl (Option.some.inj e24) (by decide) rfl (fun ls hl => ?_)
        refine lv_goto (tgt := 16) hx hb dX11_overdue_100 (by decide) ?_
        exact ih16 _ _ _ _ _ H locs ls h hP hS (lv_sub hl [1, 2, 3, 4, 0] rfl)
      have J46 : ∀ (σ : St) (x1 : Int32) (x2 : Int32) (x3 : Int32) (x4 : Int32) (H : Heap) (locs : List Loc) (ls : Array Slot), f_X11_overdue_p46 (fx (F_X11_overdue_h16) z_X11_overdue_h16 n16) σ x1 x2 x3 x4 = some q → va_P (g_D G) vwCl (allW G lam σ) H → va_S (g_A G) s.heap H locs → lv_has ls 5 [(0, .ref (g_ad G 26)), (1, .int x1), (2, .int x2), (3, .int x3), (4, .int x4)] → W p l e ({ frames := 3, cells := 0, slots := 0, locals := 80 } : Room) s m args below meth c H locs 0 0 (Qv q below args s G lam) (F0 m 46 ls []) := by
        intro σ x1 x2 x3 x4 H locs ls h hP hS hl
        unfold f_X11_overdue_p46 at h
        refine lv_aload_n hx hb dX11_overdue_46 rfl (lv_at hl 0 rfl) ?_
        refine lv_aload_n hx hb dX11_overdue_47 rfl (lv_at hl 0 rfl) ?_
        refine lv_iload_n hx hb dX11_overdue_48 rfl (lv_at hl 1 rfl) ?_
        refine lv_iload hx hb dX11_overdue_49 (lv_at hl 4 rfl) ?_
        obtain ⟨q25, e26, h⟩ := bnd h
        refine call_i C hP hS (c_X11_legOf e26) mi_X11_legOf mw_1606 26 (by decide) rfl rfl ⟨Nat.le_of_ble_eq_true rfl, Nat.le_of_ble_eq_true rfl⟩ (As := [.int x1, .int x4]) rfl hl.1 rfl (lv_room (Nat.le_of_ble_eq_true rfl)) dX11_overdue_51 (fun H locs hP hS => ?_)
        refine lv_aload_n hx hb dX11_overdue_54 rfl (lv_at hl 0 rfl) ?_
        refine gf_X11_29_26 C hP dX11_overdue_55 ?_
        refine lv_aload_n hx hb dX11_overdue_58 rfl (lv_at hl 0 rfl) ?_
        refine gf_X11_274_26 C hP dX11_overdue_59 ?_
        obtain ⟨g27, h⟩ := h_g h
        refine r_ald C hP 33 (by decide) rfl (vp_in_iff.mpr g27) dX11_overdue_62 ?_
        refine lv_aload_n hx hb dX11_overdue_63 rfl (lv_at hl 0 rfl) ?_
        refine gf_X11_32_26 C hP dX11_overdue_64 ?_
        refine lv_aload_n hx hb dX11_overdue_67 rfl (lv_at hl 0 rfl) ?_
        refine gf_X11_274_26 C hP dX11_overdue_68 ?_
        obtain ⟨g28, h⟩ := h_g h
        refine r_ald C hP 34 (by decide) rfl (vp_in_iff.mpr g28) dX11_overdue_71 ?_
        refine lv_iload_n hx hb dX11_overdue_72 rfl (lv_at hl 2 rfl) ?_
        refine lv_aload_n hx hb dX11_overdue_73 rfl (lv_at hl 0 rfl) ?_
        refine gf_X11_274_26 C hP dX11_overdue_74 ?_
        refine lv_iadd hx hb dX11_overdue_77 ?_
        obtain ⟨q29, e30, h⟩ := bnd h
        refine call_i C hP hS (c_X11_isSeen e30) mi_X11_isSeen mw_1547 26 (by decide) rfl rfl ⟨Nat.le_of_ble_eq_true rfl, Nat.le_of_ble_eq_true rfl⟩ (As := [.int q25.1, .int (q25.2 33 (q25.2 26 18).toNatClampNeg), .int (q25.2 34 (q25.2 26 18).toNatClampNeg), .int (x2 + (q25.2 26 18))]) rfl hl.1 rfl (lv_room (Nat.le_of_ble_eq_true rfl)) dX11_overdue_78 (fun H locs hP hS => ?_)
        refine lv_if_ne (tgt := 97) hx hb dX11_overdue_81 (by decide) (fun c31 => ?_) (fun c31 => ?_)
        · replace h := h_f c31 h
          exact J97 _ _ _ _ _ H locs ls h hP hS (lv_sub hl [0, 1, 2, 3, 4] rfl)
        · replace h := h_t c31 h
          refine lv_aload_n hx hb dX11_overdue_84 rfl (lv_at hl 0 rfl) ?_
          refine lv_bipush (v := 8) hx hb dX11_overdue_85 (by decide) ?_
          refine lv_aload_n hx hb dX11_overdue_87 rfl (lv_at hl 0 rfl) ?_
          refine lv_iload_n hx hb dX11_overdue_88 rfl (lv_at hl 1 rfl) ?_
          refine lv_iload hx hb dX11_overdue_89 (lv_at hl 4 rfl) ?_
          obtain ⟨q32, e33, h⟩ := bnd h
          refine call_i C hP hS (c_X11_legOf e33) mi_X11_legOf mw_1606 26 (by decide) rfl rfl ⟨Nat.le_of_ble_eq_true rfl, Nat.le_of_ble_eq_true rfl⟩ (As := [.int x1, .int x4]) rfl hl.1 rfl (lv_room (Nat.le_of_ble_eq_true rfl)) dX11_overdue_91 (fun H locs hP hS => ?_)
          obtain ⟨q34, e35, h⟩ := bnd h
          refine call_v C hP hS (c_X11_by e35) mi_X11_by mw_1610 26 (by decide) rfl rfl ⟨Nat.le_of_ble_eq_true rfl, Nat.le_of_ble_eq_true rfl⟩ (As := [.int 8, .int q32.1]) rfl hl.1 rfl (lv_room (Nat.le_of_ble_eq_true rfl)) dX11_overdue_94 (fun H locs hP hS => ?_)
          exact J97 _ _ _ _ _ H locs ls h hP hS (lv_sub hl [0, 1, 2, 3, 4] rfl)
      have J41 : ∀ (σ : St) (x1 : Int32) (x2 : Int32) (x3 : Int32) (x4 : Int32) (H : Heap) (locs : List Loc) (ls : Array Slot), f_X11_overdue_p41 (fx (F_X11_overdue_h16) z_X11_overdue_h16 n16) σ x1 x2 x3 x4 = some q → va_P (g_D G) vwCl (allW G lam σ) H → va_S (g_A G) s.heap H locs → lv_has ls 5 [(0, .ref (g_ad G 26)), (1, .int x1), (2, .int x2), (3, .int x3), (4, .int x4)] → W p l e ({ frames := 3, cells := 0, slots := 0, locals := 80 } : Room) s m args below meth c H locs 0 0 (Qv q below args s G lam) (F0 m 41 ls []) := by
        intro σ x1 x2 x3 x4 H locs ls h hP hS hl
        unfold f_X11_overdue_p41 at h
        refine lv_iload_n hx hb dX11_overdue_41 rfl (lv_at hl 3 rfl) ?_
        refine lv_iconst (v := 2) hx hb dX11_overdue_42 (by decide) ?_
        refine lv_icmp_ne (tgt := 103) hx hb dX11_overdue_43 (by decide) (fun c36 => ?_) (fun c36 => ?_)
        · replace h := h_f c36 h
          exact ret_v C hr hlocks hP hS h dX11_overdue_103
        · replace h := h_t c36 h
          exact J46 _ _ _ _ _ H locs ls h hP hS (lv_sub hl [0, 1, 2, 3, 4] rfl)
      intro σ x1 x2 x3 x4 H locs ls h hP hS hl
      change F_X11_overdue_h16 (fx (F_X11_overdue_h16) z_X11_overdue_h16 n16) σ x1 x2 x3 x4 = some q at h
      unfold F_X11_overdue_h16 at h
      refine lv_iload hx hb dX11_overdue_16 (lv_at hl 4 rfl) ?_
      refine lv_iconst (v := 4) hx hb dX11_overdue_18 (by decide) ?_
      refine lv_icmp_ge (tgt := 103) hx hb dX11_overdue_19 (by decide) (fun c37 => ?_) (fun c37 => ?_)
      · replace h := h_t c37 h
        exact ret_v C hr hlocks hP hS h dX11_overdue_103
      · replace h := h_f c37 h
        refine lv_aload_n hx hb dX11_overdue_22 rfl (lv_at hl 0 rfl) ?_
        refine gf_X11_261_26 C hP dX11_overdue_23 ?_
        refine lv_iconst (v := 4) hx hb dX11_overdue_26 (by decide) ?_
        refine lv_icmp_ge (tgt := 103) hx hb dX11_overdue_27 (by decide) (fun c38 => ?_) (fun c38 => ?_)
        · replace h := h_t c38 h
          exact ret_v C hr hlocks hP hS h dX11_overdue_103
        · replace h := h_f c38 h
          refine lv_iload_n hx hb dX11_overdue_30 rfl (lv_at hl 3 rfl) ?_
          refine lv_iconst (v := 1) hx hb dX11_overdue_31 (by decide) ?_
          refine lv_icmp_ne (tgt := 41) hx hb dX11_overdue_32 (by decide) (fun c39 => ?_) (fun c39 => ?_)
          · replace h := h_f c39 h
            exact J41 _ _ _ _ _ H locs ls h hP hS (lv_sub hl [0, 1, 2, 3, 4] rfl)
          · replace h := h_t c39 h
            refine lv_iload hx hb dX11_overdue_35 (lv_at hl 4 rfl) ?_
            refine lv_iconst (v := 2) hx hb dX11_overdue_37 (by decide) ?_
            refine lv_icmp_eq (tgt := 46) hx hb dX11_overdue_38 (by decide) (fun c40 => ?_) (fun c40 => ?_)
            · replace h := h_t c40 h
              exact J46 _ _ _ _ _ H locs ls h hP hS (lv_sub hl [0, 1, 2, 3, 4] rfl)
            · replace h := h_f c40 h
              exact J41 _ _ _ _ _ H locs ls h hP hS (lv_sub hl [0, 1, 2, 3, 4] rfl)
  have hS : va_S (g_A G) s.heap s.heap [] := va_S.rf
  unfold f_X11_overdue at h
  obtain ⟨H, hH⟩ : ∃ H, H = s.heap := ⟨_, rfl⟩
  obtain ⟨locs, hlo⟩ : ∃ k : List Loc, k = [] := ⟨_, rfl⟩
  rw [← hH, ← hlo]
  rw [← hH] at hP
  replace hS : va_S (g_A G) s.heap H locs := by rw [hH, hlo]; exact hS
  refine lv_aload_n hx hb dX11_overdue_0 rfl (lv_at hl 0 rfl) ?_
  refine lv_iload_n hx hb dX11_overdue_1 rfl (lv_at hl 1 rfl) ?_
  refine lv_iconst (v := 1) hx hb dX11_overdue_2 (by decide) ?_
  obtain ⟨q41, e42, h⟩ := bnd h
  refine call_i C hP hS (c_X11_legOf e42) mi_X11_legOf mw_1606 26 (by decide) rfl rfl ⟨Nat.le_of_ble_eq_true rfl, Nat.le_of_ble_eq_true rfl⟩ (As := [.int a1, .int 1]) rfl hl.1 rfl (lv_room (Nat.le_of_ble_eq_true rfl)) dX11_overdue_3 (fun H locs hP hS => ?_)
  refine lv_istore_n (lv' := [(3, .int q41.1), (0, .ref (g_ad G 26)), (1, .int a1), (2, .int a2)]) hx hb dX11_overdue_6 rfl hl (by decide) rfl (fun ls hl => ?_)
  refine lv_aload_n hx hb dX11_overdue_7 rfl (lv_at hl 1 rfl) ?_
  refine lv_iconst (v := 5) hx hb dX11_overdue_8 (by decide) ?_
  refine lv_iload_n hx hb dX11_overdue_9 rfl (lv_at hl 0 rfl) ?_
  obtain ⟨q43, e44, h⟩ := bnd h
  refine call_v C hP hS (c_X11_by e44) mi_X11_by mw_1610 26 (by decide) rfl rfl ⟨Nat.le_of_ble_eq_true rfl, Nat.le_of_ble_eq_true rfl⟩ (As := [.int 5, .int q41.1]) rfl hl.1 rfl (lv_room (Nat.le_of_ble_eq_true rfl)) dX11_overdue_10 (fun H locs hP hS => ?_)
  refine lv_iconst (v := 2) hx hb dX11_overdue_13 (by decide) ?_
  refine lv_istore (lv' := [(4, .int 2), (3, .int q41.1), (0, .ref (g_ad G 26)), (1, .int a1), (2, .int a2)]) hx hb dX11_overdue_14 hl (by decide) rfl (fun ls hl => ?_)
  exact L16 FU _ _ _ _ _ H locs ls h hP hS (lv_sub hl [2, 3, 4, 1, 0] rfl)
set_option maxHeartbeats 4000000 in
set_option maxRecDepth 100000 in
theorem c_X11_goesOn {l : Launch} {G : GT} {lam : Lm} {σ : St} {a1 : Int32} {a2 : Int32} {a3 : Int32} {a4 : Int32} {q : Int32 × St} (h : f_X11_goesOn σ a1 a2 a3 a4 = some q) : Met l yX11_goesOn (Cond.code yX11_goesOn cX11_goesOn 10 ((some .boolean)) :: TB) ({ frames := 5, cells := 0, slots := 0, locals := 127 } : Room) (va_Pc [.ref (g_ad G 26), .int a1, .int a2, .int a3, .int a4] (GW G lam σ)) (Ri q G lam) 0 0 (g_A G) := by
  refine mk_Qi (own := RX11) (by decide) (Nat.le_of_ble_eq_true rfl) rfl (fun p e s m args below meth c C hr hlocks hP ls hl => ?_)
  have hx := C.1
  have hb := C.2.1
  have hl : lv_has ls 10 [(0, .ref (g_ad G 26)), (1, .int a1), (2, .int a2), (3, .int a3), (4, .int a4)] := hl
  have J216 : ∀ (σ : St) (t0 : Int32) (t1 : Int32) (H : Heap) (locs : List Loc) (ls : Array Slot), f_X11_goesOn_p216 σ t0 t1 = some q → va_P (g_D G) vwCl (allW G lam σ) H → va_S (g_A G) s.heap H locs → lv_has ls 10 [] → W p l e ({ frames := 5, cells := 0, slots := 0, locals := 127 } : Room) s m args below meth c H locs 0 0 (Qi q below args s G lam) (F0 m 216 ls [.int t0, .int t1, .ref (g_ad G 26)]) := by
    intro σ t0 t1 H locs ls h hP hS hl
    unfold f_X11_goesOn_p216 at h
    obtain ⟨q52, e53, h⟩ := bnd h
    refine call_v C hP hS (c_X11_by e53) mi_X11_by mw_1610 26 (by decide) rfl rfl ⟨Nat.le_of_ble_eq_true rfl, Nat.le_of_ble_eq_true rfl⟩ (As := [.int t1, .int t0]) rfl hl.1 rfl (lv_room (Nat.le_of_ble_eq_true rfl)) dX11_goesOn_216 (fun H locs hP hS => ?_)
    refine lv_iconst (v := 0) hx hb dX11_goesOn_219 (by decide) ?_
    exact ret_z C hr hlocks hP hS h (Or.inl rfl) dX11_goesOn_220
  have J202 : ∀ (σ : St) (x8 : Int32) (x9 : Int32) (t0 : Int32) (H : Heap) (locs : List Loc) (ls : Array Slot), f_X11_goesOn_p202 σ x8 x9 t0 = some q → va_P (g_D G) vwCl (allW G lam σ) H → va_S (g_A G) s.heap H locs → lv_has ls 10 [(8, .int x8), (9, .int x9)] → W p l e ({ frames := 5, cells := 0, slots := 0, locals := 127 } : Room) s m args below meth c H locs 0 0 (Qi q below args s G lam) (F0 m 202 ls [.int t0, .ref (g_ad G 26)]) := by
    intro σ x8 x9 t0 H locs ls h hP hS hl
    unfold f_X11_goesOn_p202 at h
    refine lv_iload hx hb dX11_goesOn_202 (lv_at hl 1 rfl) ?_
    refine lv_if_lt (tgt := 213) hx hb dX11_goesOn_204 (by decide) (fun c54 => ?_) (fun c54 => ?_)
    · replace h := h_t c54 h
      refine lv_iload hx hb dX11_goesOn_213 (lv_at hl 1 rfl) ?_
      refine lv_ineg hx hb dX11_goesOn_215 ?_
      exact J216 _ _ _ H locs ls h hP hS (lv_sub hl [] rfl)
    · replace h := h_f c54 h
      refine lv_iload hx hb dX11_goesOn_207 (lv_at hl 0 rfl) ?_
      refine lv_ineg hx hb dX11_goesOn_209 ?_
      refine lv_goto (tgt := 216) hx hb dX11_goesOn_210 (by decide) ?_
      exact J216 _ _ _ H locs ls h hP hS (lv_sub hl [] rfl)
  have J144 : ∀ (σ : St) (x1 : Int32) (x2 : Int32) (x3 : Int32) (x4 : Int32) (x5 : Int32) (x6 : Int32) (x7 : Int32) (x8 : Int32) (H : Heap) (locs : List Loc) (ls : Array Slot), f_X11_goesOn_p144 σ x1 x2 x3 x4 x5 x6 x7 x8 = some q → va_P (g_D G) vwCl (allW G lam σ) H → va_S (g_A G) s.heap H locs → lv_has ls 10 [(0, .ref (g_ad G 26)), (1, .int x1), (2, .int x2), (3, .int x3), (4, .int x4), (5, .int x5), (6, .int x6), (7, .int x7), (8, .int x8)] → W p l e ({ frames := 5, cells := 0, slots := 0, locals := 127 } : Room) s m args below meth c H locs 0 0 (Qi q below args s G lam) (F0 m 144 ls []) := by
    intro σ x1 x2 x3 x4 x5 x6 x7 x8 H locs ls h hP hS hl
    unfold f_X11_goesOn_p144 at h
    refine lv_iload hx hb dX11_goesOn_144 (lv_at hl 8 rfl) ?_
    refine lv_if_ge (tgt := 221) hx hb dX11_goesOn_146 (by decide) (fun c55 => ?_) (fun c55 => ?_)
    · replace h := h_t c55 h
      refine lv_aload_n hx hb dX11_goesOn_221 rfl (lv_at hl 0 rfl) ?_
      refine lv_iload_n hx hb dX11_goesOn_222 rfl (lv_at hl 1 rfl) ?_
      refine lv_iload_n hx hb dX11_goesOn_223 rfl (lv_at hl 2 rfl) ?_
      refine lv_aload_n hx hb dX11_goesOn_224 rfl (lv_at hl 0 rfl) ?_
      refine gf_X11_274_26 C hP dX11_goesOn_225 ?_
      refine lv_iload_n hx hb dX11_goesOn_228 rfl (lv_at hl 3 rfl) ?_
      obtain ⟨q56, e57, h⟩ := bnd h
      refine call_i C hP hS (c_X11_comes e57) mi_X11_comes mw_1622 26 (by decide) rfl rfl ⟨Nat.le_of_ble_eq_true rfl, Nat.le_of_ble_eq_true rfl⟩ (As := [.int x1, .int x2, .int (σ 26 18), .int x3]) rfl hl.1 rfl (lv_room (Nat.le_of_ble_eq_true rfl)) dX11_goesOn_229 (fun H locs hP hS => ?_)
      refine lv_if_eq (tgt := 247) hx hb dX11_goesOn_232 (by decide) (fun c58 => ?_) (fun c58 => ?_)
      · replace h := h_t c58 h
        refine lv_aload_n hx hb dX11_goesOn_247 rfl (lv_at hl 0 rfl) ?_
        refine gf_X11_274_26 C hP dX11_goesOn_248 ?_
        refine lv_iload_n hx hb dX11_goesOn_251 rfl (lv_at hl 2 rfl) ?_
        refine lv_isub hx hb dX11_goesOn_252 ?_
        refine lv_bipush (v := 60) hx hb dX11_goesOn_253 (by decide) ?_
        refine lv_icmp_ne (tgt := 281) hx hb dX11_goesOn_255 (by decide) (fun c59 => ?_) (fun c59 => ?_)
        · replace h := h_f c59 h
          refine lv_iconst (v := 1) hx hb dX11_goesOn_281 (by decide) ?_
          exact ret_z C hr hlocks hP hS h (Or.inr rfl) dX11_goesOn_282
        · replace h := h_t c59 h
          refine lv_aload_n hx hb dX11_goesOn_258 rfl (lv_at hl 0 rfl) ?_
          refine lv_iconst (v := 1) hx hb dX11_goesOn_259 (by decide) ?_
          refine lv_iload_n hx hb dX11_goesOn_260 rfl (lv_at hl 1 rfl) ?_
          obtain ⟨q60, e61, h⟩ := bnd h
          refine call_v C hP hS (c_X11_by e61) mi_X11_by mw_1610 26 (by decide) rfl rfl ⟨Nat.le_of_ble_eq_true rfl, Nat.le_of_ble_eq_true rfl⟩ (As := [.int 1, .int x1]) rfl hl.1 rfl (lv_room (Nat.le_of_ble_eq_true rfl)) dX11_goesOn_261 (fun H locs hP hS => ?_)
          refine lv_aload_n hx hb dX11_goesOn_264 rfl (lv_at hl 0 rfl) ?_
          refine lv_iconst (v := 2) hx hb dX11_goesOn_265 (by decide) ?_
          refine lv_aload_n hx hb dX11_goesOn_266 rfl (lv_at hl 0 rfl) ?_
          refine gf_X11_274_26 C hP dX11_goesOn_267 ?_
          obtain ⟨q62, e63, h⟩ := bnd h
          refine call_v C hP hS (c_X11_by e63) mi_X11_by mw_1610 26 (by decide) rfl rfl ⟨Nat.le_of_ble_eq_true rfl, Nat.le_of_ble_eq_true rfl⟩ (As := [.int 2, .int (q60 26 18)]) rfl hl.1 rfl (lv_room (Nat.le_of_ble_eq_true rfl)) dX11_goesOn_270 (fun H locs hP hS => ?_)
          refine lv_aload_n hx hb dX11_goesOn_273 rfl (lv_at hl 0 rfl) ?_
          refine lv_iload_n hx hb dX11_goesOn_274 rfl (lv_at hl 1 rfl) ?_
          refine lv_iload_n hx hb dX11_goesOn_275 rfl (lv_at hl 3 rfl) ?_
          obtain ⟨q64, e65, h⟩ := bnd h
          refine call_v C hP hS (c_X11_overdue e65) mi_X11_overdue mw_1630 26 (by decide) rfl rfl ⟨Nat.le_of_ble_eq_true rfl, Nat.le_of_ble_eq_true rfl⟩ (As := [.int x1, .int x3]) rfl hl.1 rfl (lv_room (Nat.le_of_ble_eq_true rfl)) dX11_goesOn_276 (fun H locs hP hS => ?_)
          refine lv_iconst (v := 0) hx hb dX11_goesOn_279 (by decide) ?_
          exact ret_z C hr hlocks hP hS h (Or.inl rfl) dX11_goesOn_280
      · replace h := h_f c58 h
        refine lv_aload_n hx hb dX11_goesOn_235 rfl (lv_at hl 0 rfl) ?_
        refine lv_dup hx hb dX11_goesOn_236 rfl ?_
        refine gf_X11_290_26 C hP dX11_goesOn_237 ?_
        refine lv_iconst (v := 1) hx hb dX11_goesOn_240 (by decide) ?_
        refine lv_iadd hx hb dX11_goesOn_241 ?_
        refine pf_X11_290_26 C hP hS dX11_goesOn_242 (fun H locs hP hS => ?_)
        obtain ⟨σ66, e67, h⟩ := bnd h
        have hP := hPn e67 hP
        refine lv_iconst (v := 0) hx hb dX11_goesOn_245 (by decide) ?_
        exact ret_z C hr hlocks hP hS h (Or.inl rfl) dX11_goesOn_246
    · replace h := h_f c55 h
      refine lv_aload_n hx hb dX11_goesOn_149 rfl (lv_at hl 0 rfl) ?_
      refine lv_iconst (v := 1) hx hb dX11_goesOn_150 (by decide) ?_
      refine lv_iload_n hx hb dX11_goesOn_151 rfl (lv_at hl 1 rfl) ?_
      obtain ⟨q68, e69, h⟩ := bnd h
      refine call_v C hP hS (c_X11_by e69) mi_X11_by mw_1610 26 (by decide) rfl rfl ⟨Nat.le_of_ble_eq_true rfl, Nat.le_of_ble_eq_true rfl⟩ (As := [.int 1, .int x1]) rfl hl.1 rfl (lv_room (Nat.le_of_ble_eq_true rfl)) dX11_goesOn_152 (fun H locs hP hS => ?_)
      refine lv_aload_n hx hb dX11_goesOn_155 rfl (lv_at hl 0 rfl) ?_
      refine lv_iconst (v := 2) hx hb dX11_goesOn_156 (by decide) ?_
      refine lv_aload_n hx hb dX11_goesOn_157 rfl (lv_at hl 0 rfl) ?_
      refine gf_X11_274_26 C hP dX11_goesOn_158 ?_
      obtain ⟨q70, e71, h⟩ := bnd h
      refine call_v C hP hS (c_X11_by e71) mi_X11_by mw_1610 26 (by decide) rfl rfl ⟨Nat.le_of_ble_eq_true rfl, Nat.le_of_ble_eq_true rfl⟩ (As := [.int 2, .int (q68 26 18)]) rfl hl.1 rfl (lv_room (Nat.le_of_ble_eq_true rfl)) dX11_goesOn_161 (fun H locs hP hS => ?_)
      refine lv_aload_n hx hb dX11_goesOn_164 rfl (lv_at hl 0 rfl) ?_
      refine lv_iconst (v := 4) hx hb dX11_goesOn_165 (by decide) ?_
      refine lv_aload_n hx hb dX11_goesOn_166 rfl (lv_at hl 0 rfl) ?_
      refine lv_iload hx hb dX11_goesOn_167 (lv_at hl 5 rfl) ?_
      refine lv_iload hx hb dX11_goesOn_169 (lv_at hl 6 rfl) ?_
      obtain ⟨q72, e73, h⟩ := bnd h
      refine call_i C hP hS (c_X11_shoalAt e73) mi_X11_shoalAt mw_1509 26 (by decide) rfl rfl ⟨Nat.le_of_ble_eq_true rfl, Nat.le_of_ble_eq_true rfl⟩ (As := [.int x5, .int x6]) rfl hl.1 rfl (lv_room (Nat.le_of_ble_eq_true rfl)) dX11_goesOn_171 (fun H locs hP hS => ?_)
      obtain ⟨q74, e75, h⟩ := bnd h
      refine call_v C hP hS (c_X11_by e75) mi_X11_by mw_1610 26 (by decide) rfl rfl ⟨Nat.le_of_ble_eq_true rfl, Nat.le_of_ble_eq_true rfl⟩ (As := [.int 4, .int q72.1]) rfl hl.1 rfl (lv_room (Nat.le_of_ble_eq_true rfl)) dX11_goesOn_174 (fun H locs hP hS => ?_)
      refine lv_iload hx hb dX11_goesOn_177 (lv_at hl 7 rfl) ?_
      refine lv_aload_n hx hb dX11_goesOn_179 rfl (lv_at hl 0 rfl) ?_
      obtain ⟨q76, e77, h⟩ := bnd h
      refine call_i C hP hS (c_X11_greatestHeight e77) mi_X11_greatestHeight mw_1618 26 (by decide) rfl rfl ⟨Nat.le_of_ble_eq_true rfl, Nat.le_of_ble_eq_true rfl⟩ (As := []) rfl hl.1 rfl (lv_room (Nat.le_of_ble_eq_true rfl)) dX11_goesOn_180 (fun H locs hP hS => ?_)
      refine lv_iadd hx hb dX11_goesOn_183 ?_
      refine lv_iload hx hb dX11_goesOn_184 (lv_at hl 4 rfl) ?_
      refine lv_isub hx hb dX11_goesOn_186 ?_
      obtain ⟨y78, e79, h⟩ := bnd h
      refine r_nm e79 ?_
      refine lv_istore (lv' := [(9, .int y78), (0, .ref (g_ad G 26)), (1, .int x1), (2, .int x2), (3, .int x3), (4, .int x4), (5, .int x5), (6, .int x6), (7, .int x7), (8, .int x8)]) hx hb dX11_goesOn_187 hl (by decide) rfl (fun ls hl => ?_)
      refine lv_aload_n hx hb dX11_goesOn_189 rfl (lv_at hl 1 rfl) ?_
      refine lv_iload hx hb dX11_goesOn_190 (lv_at hl 0 rfl) ?_
      refine lv_if_lt (tgt := 200) hx hb dX11_goesOn_192 (by decide) (fun c80 => ?_) (fun c80 => ?_)
      · replace h := h_t c80 h
        refine lv_bipush (v := 7) hx hb dX11_goesOn_200 (by decide) ?_
        exact J202 _ _ _ _ H locs ls h hP hS (lv_sub hl [9, 0] rfl)
      · replace h := h_f c80 h
        refine lv_bipush (v := 6) hx hb dX11_goesOn_195 (by decide) ?_
        refine lv_goto (tgt := 202) hx hb dX11_goesOn_197 (by decide) ?_
        exact J202 _ _ _ _ H locs ls h hP hS (lv_sub hl [9, 0] rfl)
  have J130 : ∀ (σ : St) (x1 : Int32) (x2 : Int32) (x3 : Int32) (x4 : Int32) (x5 : Int32) (x6 : Int32) (x7 : Int32) (x8 : Int32) (H : Heap) (locs : List Loc) (ls : Array Slot), f_X11_goesOn_p130 σ x1 x2 x3 x4 x5 x6 x7 x8 = some q → va_P (g_D G) vwCl (allW G lam σ) H → va_S (g_A G) s.heap H locs → lv_has ls 10 [(0, .ref (g_ad G 26)), (1, .int x1), (2, .int x2), (3, .int x3), (4, .int x4), (5, .int x5), (6, .int x6), (7, .int x7), (8, .int x8)] → W p l e ({ frames := 5, cells := 0, slots := 0, locals := 127 } : Room) s m args below meth c H locs 0 0 (Qi q below args s G lam) (F0 m 130 ls []) := by
    intro σ x1 x2 x3 x4 x5 x6 x7 x8 H locs ls h hP hS hl
    unfold f_X11_goesOn_p130 at h
    refine lv_aload_n hx hb dX11_goesOn_130 rfl (lv_at hl 0 rfl) ?_
    refine lv_iload hx hb dX11_goesOn_131 (lv_at hl 8 rfl) ?_
    refine pf_X11_280_26 C hP hS dX11_goesOn_133 (fun H locs hP hS => ?_)
    obtain ⟨σ81, e82, h⟩ := bnd h
    have hP := hPn e82 hP
    refine lv_aload_n hx hb dX11_goesOn_136 rfl (lv_at hl 0 rfl) ?_
    refine lv_aload_n hx hb dX11_goesOn_137 rfl (lv_at hl 0 rfl) ?_
    refine gf_X11_274_26 C hP dX11_goesOn_138 ?_
    refine pf_X11_277_26 C hP hS dX11_goesOn_141 (fun H locs hP hS => ?_)
    obtain ⟨σ83, e84, h⟩ := bnd h
    have hP := hPn e84 hP
    exact J144 _ _ _ _ _ _ _ _ _ H locs ls h hP hS (lv_sub hl [0, 1, 2, 3, 4, 5, 6, 7, 8] rfl)
  have J79 : ∀ (σ : St) (t0 : Int32) (t1 : Int32) (H : Heap) (locs : List Loc) (ls : Array Slot), f_X11_goesOn_p79 σ t0 t1 = some q → va_P (g_D G) vwCl (allW G lam σ) H → va_S (g_A G) s.heap H locs → lv_has ls 10 [] → W p l e ({ frames := 5, cells := 0, slots := 0, locals := 127 } : Room) s m args below meth c H locs 0 0 (Qi q below args s G lam) (F0 m 79 ls [.int t0, .int t1, .ref (g_ad G 26)]) := by
    intro σ t0 t1 H locs ls h hP hS hl
    unfold f_X11_goesOn_p79 at h
    obtain ⟨q85, e86, h⟩ := bnd h
    refine call_v C hP hS (c_X11_by e86) mi_X11_by mw_1610 26 (by decide) rfl rfl ⟨Nat.le_of_ble_eq_true rfl, Nat.le_of_ble_eq_true rfl⟩ (As := [.int t1, .int t0]) rfl hl.1 rfl (lv_room (Nat.le_of_ble_eq_true rfl)) dX11_goesOn_79 (fun H locs hP hS => ?_)
    refine lv_iconst (v := 0) hx hb dX11_goesOn_82 (by decide) ?_
    exact ret_z C hr hlocks hP hS h (Or.inl rfl) dX11_goesOn_83
  have hS : va_S (g_A G) s.heap s.heap [] := va_S.rf
  unfold f_X11_goesOn at h
  obtain ⟨H, hH⟩ : ∃ H, H = s.heap := ⟨_, rfl⟩
  obtain ⟨locs, hlo⟩ : ∃ k : List Loc, k = [] := ⟨_, rfl⟩
  rw [← hH, ← hlo]
  rw [← hH] at hP
  replace hS : va_S (g_A G) s.heap H locs := by rw [hH, hlo]; exact hS
  refine lv_aload_n hx hb dX11_goesOn_0 rfl (lv_at hl 0 rfl) ?_
  refine gf_X11_29_26 C hP dX11_goesOn_1 ?_
  refine lv_aload_n hx hb dX11_goesOn_4 rfl (lv_at hl 0 rfl) ?_
  refine gf_X11_274_26 C hP dX11_goesOn_5 ?_
  obtain ⟨g87, h⟩ := h_g h
  refine r_ald C hP 33 (by decide) rfl (vp_in_iff.mpr g87) dX11_goesOn_8 ?_
  obtain ⟨y88, e89, h⟩ := bnd h
  refine r_nm e89 ?_
  refine lv_istore (lv' := [(5, .int y88), (0, .ref (g_ad G 26)), (1, .int a1), (2, .int a2), (3, .int a3), (4, .int a4)]) hx hb dX11_goesOn_9 hl (by decide) rfl (fun ls hl => ?_)
  refine lv_aload_n hx hb dX11_goesOn_11 rfl (lv_at hl 1 rfl) ?_
  refine gf_X11_32_26 C hP dX11_goesOn_12 ?_
  refine lv_aload_n hx hb dX11_goesOn_15 rfl (lv_at hl 1 rfl) ?_
  refine gf_X11_274_26 C hP dX11_goesOn_16 ?_
  obtain ⟨g90, h⟩ := h_g h
  refine r_ald C hP 34 (by decide) rfl (vp_in_iff.mpr g90) dX11_goesOn_19 ?_
  obtain ⟨y91, e92, h⟩ := bnd h
  refine r_nm e92 ?_
  refine lv_istore (lv' := [(6, .int y91), (5, .int y88), (0, .ref (g_ad G 26)), (1, .int a1), (2, .int a2), (3, .int a3), (4, .int a4)]) hx hb dX11_goesOn_20 hl (by decide) rfl (fun ls hl => ?_)
  refine lv_iload hx hb dX11_goesOn_22 (lv_at hl 1 rfl) ?_
  refine lv_iload hx hb dX11_goesOn_24 (lv_at hl 0 rfl) ?_
  obtain ⟨q93, e94, h⟩ := bnd h
  refine scall_i C hP hS (c_X11_isPlace e94) ms_X11_isPlace mw_1502 ⟨Nat.le_of_ble_eq_true rfl, Nat.le_of_ble_eq_true rfl⟩ (As := [.int y88, .int y91]) rfl hl.1 rfl (lv_room (Nat.le_of_ble_eq_true rfl)) dX11_goesOn_26 (fun H locs hP hS => ?_)
  refine lv_if_ne (tgt := 84) hx hb dX11_goesOn_29 (by decide) (fun c95 => ?_) (fun c95 => ?_)
  · replace h := h_f c95 h
    refine lv_aload_n hx hb dX11_goesOn_84 rfl (lv_at hl 2 rfl) ?_
    refine lv_iload hx hb dX11_goesOn_85 (lv_at hl 1 rfl) ?_
    refine lv_iload hx hb dX11_goesOn_87 (lv_at hl 0 rfl) ?_
    obtain ⟨q96, e97, h⟩ := bnd h
    refine call_i C hP hS (c_X11_charted e97) mi_X11_charted mw_1505 26 (by decide) rfl rfl ⟨Nat.le_of_ble_eq_true rfl, Nat.le_of_ble_eq_true rfl⟩ (As := [.int y88, .int y91]) rfl hl.1 rfl (lv_room (Nat.le_of_ble_eq_true rfl)) dX11_goesOn_89 (fun H locs hP hS => ?_)
    refine lv_istore (lv' := [(7, .int q96.1), (6, .int y91), (5, .int y88), (0, .ref (g_ad G 26)), (1, .int a1), (2, .int a2), (3, .int a3), (4, .int a4)]) hx hb dX11_goesOn_92 hl (by decide) rfl (fun ls hl => ?_)
    refine lv_iload hx hb dX11_goesOn_94 (lv_at hl 0 rfl) ?_
    refine lv_aload_n hx hb dX11_goesOn_96 rfl (lv_at hl 3 rfl) ?_
    refine lv_iload_n hx hb dX11_goesOn_97 rfl (lv_at hl 6 rfl) ?_
    refine lv_aload_n hx hb dX11_goesOn_98 rfl (lv_at hl 3 rfl) ?_
    refine gf_X11_274_26 C hP dX11_goesOn_99 ?_
    refine lv_iadd hx hb dX11_goesOn_102 ?_
    obtain ⟨q98, e99, h⟩ := bnd h
    refine call_i C hP hS (c_X11_tideAt e99) mi_X11_tideAt mw_1494 26 (by decide) rfl rfl ⟨Nat.le_of_ble_eq_true rfl, Nat.le_of_ble_eq_true rfl⟩ (As := [.int (a3 + (q96.2 26 18))]) rfl hl.1 rfl (lv_room (Nat.le_of_ble_eq_true rfl)) dX11_goesOn_103 (fun H locs hP hS => ?_)
    refine lv_iadd hx hb dX11_goesOn_106 ?_
    refine lv_iload hx hb dX11_goesOn_107 (lv_at hl 7 rfl) ?_
    refine lv_isub hx hb dX11_goesOn_109 ?_
    obtain ⟨y100, e101, h⟩ := bnd h
    refine r_nm e101 ?_
    refine lv_istore (lv' := [(8, .int y100), (7, .int q96.1), (6, .int y91), (5, .int y88), (0, .ref (g_ad G 26)), (1, .int a1), (2, .int a2), (3, .int a3), (4, .int a4)]) hx hb dX11_goesOn_110 hl (by decide) rfl (fun ls hl => ?_)
    refine lv_aload_n hx hb dX11_goesOn_112 rfl (lv_at hl 4 rfl) ?_
    refine gf_X11_277_26 C hP dX11_goesOn_113 ?_
    refine lv_ldc hx hb C.2.2.2.1 (C.2.2.2.2.1 _ mw_1337) dX11_goesOn_116 ?_
    refine lv_icmp_eq (tgt := 130) hx hb dX11_goesOn_118 (by decide) (fun c102 => ?_) (fun c102 => ?_)
    · replace h := h_t c102 h
      exact J130 _ _ _ _ _ _ _ _ _ H locs ls h hP hS (lv_sub hl [4, 5, 6, 7, 8, 3, 2, 1, 0] rfl)
    · replace h := h_f c102 h
      refine lv_iload hx hb dX11_goesOn_121 (lv_at hl 0 rfl) ?_
      refine lv_aload_n hx hb dX11_goesOn_123 rfl (lv_at hl 4 rfl) ?_
      refine gf_X11_280_26 C hP dX11_goesOn_124 ?_
      refine lv_icmp_ge (tgt := 144) hx hb dX11_goesOn_127 (by decide) (fun c103 => ?_) (fun c103 => ?_)
      · replace h := h_t c103 h
        exact J144 _ _ _ _ _ _ _ _ _ H locs ls h hP hS (lv_sub hl [4, 5, 6, 7, 8, 3, 2, 1, 0] rfl)
      · replace h := h_f c103 h
        exact J130 _ _ _ _ _ _ _ _ _ H locs ls h hP hS (lv_sub hl [4, 5, 6, 7, 8, 3, 2, 1, 0] rfl)
  · replace h := h_t c95 h
    refine lv_aload_n hx hb dX11_goesOn_32 rfl (lv_at hl 2 rfl) ?_
    refine lv_iconst (v := 1) hx hb dX11_goesOn_33 (by decide) ?_
    refine lv_iload_n hx hb dX11_goesOn_34 rfl (lv_at hl 3 rfl) ?_
    obtain ⟨q104, e105, h⟩ := bnd h
    refine call_v C hP hS (c_X11_by e105) mi_X11_by mw_1610 26 (by decide) rfl rfl ⟨Nat.le_of_ble_eq_true rfl, Nat.le_of_ble_eq_true rfl⟩ (As := [.int 1, .int a1]) rfl hl.1 rfl (lv_room (Nat.le_of_ble_eq_true rfl)) dX11_goesOn_35 (fun H locs hP hS => ?_)
    refine lv_aload_n hx hb dX11_goesOn_38 rfl (lv_at hl 2 rfl) ?_
    refine lv_iconst (v := 2) hx hb dX11_goesOn_39 (by decide) ?_
    refine lv_aload_n hx hb dX11_goesOn_40 rfl (lv_at hl 2 rfl) ?_
    refine gf_X11_274_26 C hP dX11_goesOn_41 ?_
    obtain ⟨q106, e107, h⟩ := bnd h
    refine call_v C hP hS (c_X11_by e107) mi_X11_by mw_1610 26 (by decide) rfl rfl ⟨Nat.le_of_ble_eq_true rfl, Nat.le_of_ble_eq_true rfl⟩ (As := [.int 2, .int (q104 26 18)]) rfl hl.1 rfl (lv_room (Nat.le_of_ble_eq_true rfl)) dX11_goesOn_44 (fun H locs hP hS => ?_)
    refine lv_aload_n hx hb dX11_goesOn_47 rfl (lv_at hl 2 rfl) ?_
    refine lv_iconst (v := 3) hx hb dX11_goesOn_48 (by decide) ?_
    refine lv_iload hx hb dX11_goesOn_49 (lv_at hl 1 rfl) ?_
    refine lv_if_ge (tgt := 58) hx hb dX11_goesOn_51 (by decide) (fun c108 => ?_) (fun c108 => ?_)
    · replace h := h_t c108 h
      refine lv_iload hx hb dX11_goesOn_58 (lv_at hl 1 rfl) ?_
      refine lv_bipush (v := 60) hx hb dX11_goesOn_60 (by decide) ?_
      refine lv_icmp_le (tgt := 69) hx hb dX11_goesOn_62 (by decide) (fun c109 => ?_) (fun c109 => ?_)
      · replace h := h_t c109 h
        refine lv_iload hx hb dX11_goesOn_69 (lv_at hl 0 rfl) ?_
        refine lv_if_ge (tgt := 78) hx hb dX11_goesOn_71 (by decide) (fun c110 => ?_) (fun c110 => ?_)
        · replace h := h_t c110 h
          refine lv_iconst (v := 3) hx hb dX11_goesOn_78 (by decide) ?_
          exact J79 _ _ _ H locs ls h hP hS (lv_sub hl [] rfl)
        · replace h := h_f c110 h
          refine lv_iconst (v := 2) hx hb dX11_goesOn_74 (by decide) ?_
          refine lv_goto (tgt := 79) hx hb dX11_goesOn_75 (by decide) ?_
          exact J79 _ _ _ H locs ls h hP hS (lv_sub hl [] rfl)
      · replace h := h_f c109 h
        refine lv_iconst (v := 1) hx hb dX11_goesOn_65 (by decide) ?_
        refine lv_goto (tgt := 79) hx hb dX11_goesOn_66 (by decide) ?_
        exact J79 _ _ _ H locs ls h hP hS (lv_sub hl [] rfl)
    · replace h := h_f c108 h
      refine lv_iconst (v := 0) hx hb dX11_goesOn_54 (by decide) ?_
      refine lv_goto (tgt := 79) hx hb dX11_goesOn_55 (by decide) ?_
      exact J79 _ _ _ H locs ls h hP hS (lv_sub hl [] rfl)
set_option maxHeartbeats 4000000 in
set_option maxRecDepth 100000 in
theorem c_X11_sails {l : Launch} {G : GT} {lam : Lm} {σ : St} {a1 : Int32} {a2 : Int32} {q : St} (h : f_X11_sails σ a1 a2 = some q) : Met l yX11_sails (Cond.code yX11_sails cX11_sails 7 none :: TB) ({ frames := 6, cells := 0, slots := 0, locals := 156 } : Room) (va_Pc [.ref (g_ad G 26), .int a1, .int a2] (GW G lam σ)) (Rv q G lam) 0 0 (g_A G) := by
  refine mk_Qv (own := RX11) (by decide) (Nat.le_of_ble_eq_true rfl) rfl (fun p e s m args below meth c C hr hlocks hP ls hl => ?_)
  have hx := C.1
  have hb := C.2.1
  have hl : lv_has ls 7 [(0, .ref (g_ad G 26)), (1, .int a1), (2, .int a2)] := hl
  have J339 : ∀ (σ : St) (t0 : Int32) (H : Heap) (locs : List Loc) (ls : Array Slot), f_X11_sails_p339 σ t0 = some q → va_P (g_D G) vwCl (allW G lam σ) H → va_S (g_A G) s.heap H locs → lv_has ls 7 [] → W p l e ({ frames := 6, cells := 0, slots := 0, locals := 156 } : Room) s m args below meth c H locs 0 0 (Qv q below args s G lam) (F0 m 339 ls [.int t0, .ref (g_ad G 26)]) := by
    intro σ t0 H locs ls h hP hS hl
    unfold f_X11_sails_p339 at h
    obtain ⟨g74, h⟩ := h_g h
    refine pf_X11_296_26 C hP hS g74 dX11_sails_339 (fun H locs hP hS => ?_)
    obtain ⟨σ75, e76, h⟩ := bnd h
    have hP := hPn e76 hP
    exact ret_v C hr hlocks hP hS h dX11_sails_342
  have J326 : ∀ (σ : St) (H : Heap) (locs : List Loc) (ls : Array Slot), f_X11_sails_p326 σ = some q → va_P (g_D G) vwCl (allW G lam σ) H → va_S (g_A G) s.heap H locs → lv_has ls 7 [(0, .ref (g_ad G 26))] → W p l e ({ frames := 6, cells := 0, slots := 0, locals := 156 } : Room) s m args below meth c H locs 0 0 (Qv q below args s G lam) (F0 m 326 ls []) := by
    intro σ H locs ls h hP hS hl
    unfold f_X11_sails_p326 at h
    refine lv_aload_n hx hb dX11_sails_326 rfl (lv_at hl 0 rfl) ?_
    refine lv_aload_n hx hb dX11_sails_327 rfl (lv_at hl 0 rfl) ?_
    refine gf_X11_261_26 C hP dX11_sails_328 ?_
    refine lv_if_ne (tgt := 338) hx hb dX11_sails_331 (by decide) (fun c77 => ?_) (fun c77 => ?_)
    · replace h := h_f c77 h
      refine lv_iconst (v := 0) hx hb dX11_sails_338 (by decide) ?_
      exact J339 _ _ H locs ls h hP hS (lv_sub hl [] rfl)
    · replace h := h_t c77 h
      refine lv_iconst (v := 1) hx hb dX11_sails_334 (by decide) ?_
      refine lv_goto (tgt := 339) hx hb dX11_sails_335 (by decide) ?_
      exact J339 _ _ H locs ls h hP hS (lv_sub hl [] rfl)
  have J258 : ∀ (σ : St) (H : Heap) (locs : List Loc) (ls : Array Slot), f_X11_sails_p258 σ = some q → va_P (g_D G) vwCl (allW G lam σ) H → va_S (g_A G) s.heap H locs → lv_has ls 7 [(0, .ref (g_ad G 26))] → W p l e ({ frames := 6, cells := 0, slots := 0, locals := 156 } : Room) s m args below meth c H locs 0 0 (Qv q below args s G lam) (F0 m 258 ls []) := by
    intro σ H locs ls h hP hS hl
    unfold f_X11_sails_p258 at h
    refine lv_aload_n hx hb dX11_sails_258 rfl (lv_at hl 0 rfl) ?_
    refine gf_X11_29_26 C hP dX11_sails_259 ?_
    refine lv_aload_n hx hb dX11_sails_262 rfl (lv_at hl 0 rfl) ?_
    refine gf_X11_274_26 C hP dX11_sails_263 ?_
    obtain ⟨g78, h⟩ := h_g h
    refine r_ald C hP 33 (by decide) rfl (vp_in_iff.mpr g78) dX11_sails_266 ?_
    refine lv_aload_n hx hb dX11_sails_267 rfl (lv_at hl 0 rfl) ?_
    refine gf_X11_7_26 C hP dX11_sails_268 ?_
    refine lv_iconst (v := 4) hx hb dX11_sails_271 (by decide) ?_
    refine r_aldc C hP 27 (by decide) rfl (j := 4) (by decide) (vp_in_iff.mpr (by decide)) dX11_sails_272 ?_
    refine lv_isub hx hb dX11_sails_273 ?_
    refine lv_aload_n hx hb dX11_sails_274 rfl (lv_at hl 0 rfl) ?_
    refine gf_X11_32_26 C hP dX11_sails_275 ?_
    refine lv_aload_n hx hb dX11_sails_278 rfl (lv_at hl 0 rfl) ?_
    refine gf_X11_274_26 C hP dX11_sails_279 ?_
    obtain ⟨g79, h⟩ := h_g h
    refine r_ald C hP 34 (by decide) rfl (vp_in_iff.mpr g79) dX11_sails_282 ?_
    refine lv_aload_n hx hb dX11_sails_283 rfl (lv_at hl 0 rfl) ?_
    refine gf_X11_7_26 C hP dX11_sails_284 ?_
    refine lv_iconst (v := 5) hx hb dX11_sails_287 (by decide) ?_
    refine r_aldc C hP 27 (by decide) rfl (j := 5) (by decide) (vp_in_iff.mpr (by decide)) dX11_sails_288 ?_
    refine lv_isub hx hb dX11_sails_289 ?_
    obtain ⟨q80, e81, h⟩ := bnd h
    refine scall_i C hP hS (c_X11_square e81) ms_X11_square mw_1524 ⟨Nat.le_of_ble_eq_true rfl, Nat.le_of_ble_eq_true rfl⟩ (As := [.int ((σ 33 (σ 26 18).toNatClampNeg) - (σ 27 4)), .int ((σ 34 (σ 26 18).toNatClampNeg) - (σ 27 5))]) rfl hl.1 rfl (lv_room (Nat.le_of_ble_eq_true rfl)) dX11_sails_290 (fun H locs hP hS => ?_)
    refine lv_istore_n (lv' := [(3, .int q80.1), (0, .ref (g_ad G 26))]) hx hb dX11_sails_293 rfl hl (by decide) rfl (fun ls hl => ?_)
    refine lv_aload_n hx hb dX11_sails_294 rfl (lv_at hl 1 rfl) ?_
    refine gf_X11_261_26 C hP dX11_sails_295 ?_
    refine lv_if_ne (tgt := 326) hx hb dX11_sails_298 (by decide) (fun c82 => ?_) (fun c82 => ?_)
    · replace h := h_f c82 h
      exact J326 _ H locs ls h hP hS (lv_sub hl [1] rfl)
    · replace h := h_t c82 h
      refine lv_iload_n hx hb dX11_sails_301 rfl (lv_at hl 0 rfl) ?_
      refine lv_bipush (v := 9) hx hb dX11_sails_302 (by decide) ?_
      refine lv_icmp_le (tgt := 326) hx hb dX11_sails_304 (by decide) (fun c83 => ?_) (fun c83 => ?_)
      · replace h := h_t c83 h
        exact J326 _ H locs ls h hP hS (lv_sub hl [1] rfl)
      · replace h := h_f c83 h
        refine lv_aload_n hx hb dX11_sails_307 rfl (lv_at hl 1 rfl) ?_
        refine lv_iconst (v := 1) hx hb dX11_sails_308 (by decide) ?_
        refine lv_aload_n hx hb dX11_sails_309 rfl (lv_at hl 1 rfl) ?_
        refine gf_X11_7_26 C hP dX11_sails_310 ?_
        refine lv_bipush (v := 54) hx hb dX11_sails_313 (by decide) ?_
        refine r_aldc C hP 27 (by decide) rfl (j := 54) (by decide) (vp_in_iff.mpr (by decide)) dX11_sails_315 ?_
        obtain ⟨q84, e85, h⟩ := bnd h
        refine call_v C hP hS (c_X11_by e85) mi_X11_by mw_1610 26 (by decide) rfl rfl ⟨Nat.le_of_ble_eq_true rfl, Nat.le_of_ble_eq_true rfl⟩ (As := [.int 1, .int (q80.2 27 54)]) rfl hl.1 rfl (lv_room (Nat.le_of_ble_eq_true rfl)) dX11_sails_316 (fun H locs hP hS => ?_)
        refine lv_aload_n hx hb dX11_sails_319 rfl (lv_at hl 1 rfl) ?_
        refine lv_bipush (v := 10) hx hb dX11_sails_320 (by decide) ?_
        refine lv_iload_n hx hb dX11_sails_322 rfl (lv_at hl 0 rfl) ?_
        obtain ⟨q86, e87, h⟩ := bnd h
        refine call_v C hP hS (c_X11_by e87) mi_X11_by mw_1610 26 (by decide) rfl rfl ⟨Nat.le_of_ble_eq_true rfl, Nat.le_of_ble_eq_true rfl⟩ (As := [.int 10, .int q80.1]) rfl hl.1 rfl (lv_room (Nat.le_of_ble_eq_true rfl)) dX11_sails_323 (fun H locs hP hS => ?_)
        exact J326 _ H locs ls h hP hS (lv_sub hl [1] rfl)
  have L66 : ∀ (n66 : Nat) (σ : St) (x1 : Int32) (x2 : Int32) (x3 : Int32) (H : Heap) (locs : List Loc) (ls : Array Slot), fx (F_X11_sails_h66) z_X11_sails_h66 n66 σ x1 x2 x3 = some q → va_P (g_D G) vwCl (allW G lam σ) H → va_S (g_A G) s.heap H locs → lv_has ls 7 [(0, .ref (g_ad G 26)), (1, .int x1), (2, .int x2), (3, .int x3)] → W p l e ({ frames := 6, cells := 0, slots := 0, locals := 156 } : Room) s m args below meth c H locs 0 0 (Qv q below args s G lam) (F0 m 66 ls []) := by
    intro n66
    induction n66 with
    | zero => intro σ x1 x2 x3 H locs ls h hP hS hl; exact absurd h (by intro h9; cases h9)
    | succ n66 ih66 =>
      have L139 : ∀ (n139 : Nat) (σ : St) (x1 : Int32) (x2 : Int32) (x3 : Int32) (x5 : Int32) (x6 : Int32) (H : Heap) (locs : List Loc) (ls : Array Slot), fx (F_X11_sails_h139 (fx (F_X11_sails_h66) z_X11_sails_h66 n66)) z_X11_sails_h139 n139 σ x1 x2 x3 x5 x6 = some q → va_P (g_D G) vwCl (allW G lam σ) H → va_S (g_A G) s.heap H locs → lv_has ls 7 [(0, .ref (g_ad G 26)), (1, .int x1), (2, .int x2), (3, .int x3), (5, .int x5), (6, .int x6)] → W p l e ({ frames := 6, cells := 0, slots := 0, locals := 156 } : Room) s m args below meth c H locs 0 0 (Qv q below args s G lam) (F0 m 139 ls []) := by
        intro n139
        induction n139 with
        | zero => intro σ x1 x2 x3 x5 x6 H locs ls h hP hS hl; exact absurd h (by intro h9; cases h9)
        | succ n139 ih139 =>
          intro σ x1 x2 x3 x5 x6 H locs ls h hP hS hl
          change F_X11_sails_h139 (fx (F_X11_sails_h66) z_X11_sails_h66 n66) (fx (F_X11_sails_h139 (fx (F_X11_sails_h66) z_X11_sails_h66 n66)) z_X11_sails_h139 n139) σ x1 x2 x3 x5 x6 = some q at h
          unfold F_X11_sails_h139 at h
          refine lv_iload hx hb dX11_sails_139 (lv_at hl 5 rfl) ?_
          refine lv_if_eq (tgt := 252) hx hb dX11_sails_141 (by decide) (fun c88 => ?_) (fun c88 => ?_)
          · replace h := h_t c88 h
            obtain ⟨y89, e90, h⟩ := bnd h
            refine lv_iinc (v := y89) (lv' := [(3, .int y89), (0, .ref (g_ad G 26)), (1, .int x1), (2, .int x2), (5, .int x5), (6, .int x6)]) hx hb dX11_sails_252 hl (k := 3) rfl (Option.some.inj e90) (by decide) rfl (fun ls hl => ?_)
            refine lv_goto (tgt := 66) hx hb dX11_sails_255 (by decide) ?_
            exact ih66 _ _ _ _ H locs ls h hP hS (lv_sub hl [1, 2, 3, 0] rfl)
          · replace h := h_f c88 h
            refine lv_aload_n hx hb dX11_sails_144 rfl (lv_at hl 0 rfl) ?_
            refine lv_dup hx hb dX11_sails_145 rfl ?_
            refine gf_X11_274_26 C hP dX11_sails_146 ?_
            refine lv_iconst (v := 1) hx hb dX11_sails_149 (by decide) ?_
            refine lv_iadd hx hb dX11_sails_150 ?_
            refine pf_X11_274_26 C hP hS dX11_sails_151 (fun H locs hP hS => ?_)
            obtain ⟨σ91, e92, h⟩ := bnd h
            have hP := hPn e92 hP
            refine lv_aload_n hx hb dX11_sails_154 rfl (lv_at hl 0 rfl) ?_
            refine gf_X11_29_26 C hP dX11_sails_155 ?_
            refine lv_aload_n hx hb dX11_sails_158 rfl (lv_at hl 0 rfl) ?_
            refine gf_X11_274_26 C hP dX11_sails_159 ?_
            refine lv_aload_n hx hb dX11_sails_162 rfl (lv_at hl 0 rfl) ?_
            refine gf_X11_29_26 C hP dX11_sails_163 ?_
            refine lv_aload_n hx hb dX11_sails_166 rfl (lv_at hl 0 rfl) ?_
            refine gf_X11_274_26 C hP dX11_sails_167 ?_
            refine lv_iconst (v := 1) hx hb dX11_sails_170 (by decide) ?_
            refine lv_isub hx hb dX11_sails_171 ?_
            obtain ⟨g93, h⟩ := h_g h
            refine r_ald C hP 33 (by decide) rfl (vp_in_iff.mpr g93) dX11_sails_172 ?_
            refine lv_aload_n hx hb dX11_sails_173 rfl (lv_at hl 0 rfl) ?_
            refine gf_X11_20_26 C hP dX11_sails_174 ?_
            refine lv_aload_n hx hb dX11_sails_177 rfl (lv_at hl 0 rfl) ?_
            refine lv_iload_n hx hb dX11_sails_178 rfl (lv_at hl 3 rfl) ?_
            refine lv_iconst (v := 0) hx hb dX11_sails_179 (by decide) ?_
            obtain ⟨q94, e95, h⟩ := bnd h
            refine call_i C hP hS (c_X11_legOf e95) mi_X11_legOf mw_1606 26 (by decide) rfl rfl ⟨Nat.le_of_ble_eq_true rfl, Nat.le_of_ble_eq_true rfl⟩ (As := [.int x3, .int 0]) rfl hl.1 rfl (lv_room (Nat.le_of_ble_eq_true rfl)) dX11_sails_180 (fun H locs hP hS => ?_)
            obtain ⟨g96, h⟩ := h_g h
            refine r_ald C hP 30 (by decide) rfl (vp_in_iff.mpr g96) dX11_sails_183 ?_
            refine lv_iadd hx hb dX11_sails_184 ?_
            obtain ⟨g97, h⟩ := h_g h
            refine r_ast C hP hS 33 (by decide) (fun _ => rfl) (vp_in_iff.mpr g97) dX11_sails_185 (fun H locs hP hS => ?_)
            obtain ⟨σ98, e99, h⟩ := bnd h
            have hP := hPn e99 hP
            refine lv_aload_n hx hb dX11_sails_186 rfl (lv_at hl 0 rfl) ?_
            refine gf_X11_32_26 C hP dX11_sails_187 ?_
            refine lv_aload_n hx hb dX11_sails_190 rfl (lv_at hl 0 rfl) ?_
            refine gf_X11_274_26 C hP dX11_sails_191 ?_
            refine lv_aload_n hx hb dX11_sails_194 rfl (lv_at hl 0 rfl) ?_
            refine gf_X11_32_26 C hP dX11_sails_195 ?_
            refine lv_aload_n hx hb dX11_sails_198 rfl (lv_at hl 0 rfl) ?_
            refine gf_X11_274_26 C hP dX11_sails_199 ?_
            refine lv_iconst (v := 1) hx hb dX11_sails_202 (by decide) ?_
            refine lv_isub hx hb dX11_sails_203 ?_
            obtain ⟨g100, h⟩ := h_g h
            refine r_ald C hP 34 (by decide) rfl (vp_in_iff.mpr g100) dX11_sails_204 ?_
            refine lv_aload_n hx hb dX11_sails_205 rfl (lv_at hl 0 rfl) ?_
            refine gf_X11_23_26 C hP dX11_sails_206 ?_
            refine lv_aload_n hx hb dX11_sails_209 rfl (lv_at hl 0 rfl) ?_
            refine lv_iload_n hx hb dX11_sails_210 rfl (lv_at hl 3 rfl) ?_
            refine lv_iconst (v := 0) hx hb dX11_sails_211 (by decide) ?_
            obtain ⟨q101, e102, h⟩ := bnd h
            refine call_i C hP hS (c_X11_legOf e102) mi_X11_legOf mw_1606 26 (by decide) rfl rfl ⟨Nat.le_of_ble_eq_true rfl, Nat.le_of_ble_eq_true rfl⟩ (As := [.int x3, .int 0]) rfl hl.1 rfl (lv_room (Nat.le_of_ble_eq_true rfl)) dX11_sails_212 (fun H locs hP hS => ?_)
            obtain ⟨g103, h⟩ := h_g h
            refine r_ald C hP 31 (by decide) rfl (vp_in_iff.mpr g103) dX11_sails_215 ?_
            refine lv_iadd hx hb dX11_sails_216 ?_
            obtain ⟨g104, h⟩ := h_g h
            refine r_ast C hP hS 34 (by decide) (fun _ => rfl) (vp_in_iff.mpr g104) dX11_sails_217 (fun H locs hP hS => ?_)
            obtain ⟨σ105, e106, h⟩ := bnd h
            have hP := hPn e106 hP
            refine lv_aload_n hx hb dX11_sails_218 rfl (lv_at hl 0 rfl) ?_
            refine gf_X11_35_26 C hP dX11_sails_219 ?_
            refine lv_aload_n hx hb dX11_sails_222 rfl (lv_at hl 0 rfl) ?_
            refine gf_X11_274_26 C hP dX11_sails_223 ?_
            refine lv_iload_n hx hb dX11_sails_226 rfl (lv_at hl 3 rfl) ?_
            obtain ⟨g107, h⟩ := h_g h
            refine r_ast C hP hS 35 (by decide) (fun _ => rfl) (vp_in_iff.mpr g107) dX11_sails_227 (fun H locs hP hS => ?_)
            obtain ⟨σ108, e109, h⟩ := bnd h
            have hP := hPn e109 hP
            refine lv_aload_n hx hb dX11_sails_228 rfl (lv_at hl 0 rfl) ?_
            refine gf_X11_38_26 C hP dX11_sails_229 ?_
            refine lv_iload_n hx hb dX11_sails_232 rfl (lv_at hl 3 rfl) ?_
            refine lv_dup2_11 hx hb dX11_sails_233 rfl rfl ?_
            obtain ⟨g110, h⟩ := h_g h
            refine r_ald C hP 36 (by decide) rfl (vp_in_iff.mpr g110) dX11_sails_234 ?_
            refine lv_iconst (v := 1) hx hb dX11_sails_235 (by decide) ?_
            refine lv_iadd hx hb dX11_sails_236 ?_
            obtain ⟨g111, h⟩ := h_g h
            refine r_ast C hP hS 36 (by decide) (fun _ => rfl) (vp_in_iff.mpr g111) dX11_sails_237 (fun H locs hP hS => ?_)
            obtain ⟨σ112, e113, h⟩ := bnd h
            have hP := hPn e113 hP
            refine lv_aload_n hx hb dX11_sails_238 rfl (lv_at hl 0 rfl) ?_
            refine lv_iload_n hx hb dX11_sails_239 rfl (lv_at hl 3 rfl) ?_
            refine lv_iload hx hb dX11_sails_240 (lv_at hl 4 rfl) ?_
            refine lv_iload_n hx hb dX11_sails_242 rfl (lv_at hl 1 rfl) ?_
            refine lv_iload_n hx hb dX11_sails_243 rfl (lv_at hl 2 rfl) ?_
            obtain ⟨q114, e115, h⟩ := bnd h
            refine call_i C hP hS (c_X11_goesOn e115) mi_X11_goesOn mw_1614 26 (by decide) rfl rfl ⟨Nat.le_of_ble_eq_true rfl, Nat.le_of_ble_eq_true rfl⟩ (As := [.int x3, .int x5, .int x1, .int x2]) rfl hl.1 rfl (lv_room (Nat.le_of_ble_eq_true rfl)) dX11_sails_244 (fun H locs hP hS => ?_)
            refine lv_istore (lv' := [(6, .int q114.1), (0, .ref (g_ad G 26)), (1, .int x1), (2, .int x2), (3, .int x3), (5, .int x5)]) hx hb dX11_sails_247 hl (by decide) rfl (fun ls hl => ?_)
            refine lv_goto (tgt := 139) hx hb dX11_sails_249 (by decide) ?_
            exact ih139 _ _ _ _ _ _ H locs ls h hP hS (lv_sub hl [1, 2, 3, 4, 5, 0] rfl)
      have J137 : ∀ (σ : St) (x1 : Int32) (x2 : Int32) (x3 : Int32) (x5 : Int32) (t0 : Int32) (H : Heap) (locs : List Loc) (ls : Array Slot), f_X11_sails_p137 (fx (F_X11_sails_h66) z_X11_sails_h66 n66) σ x1 x2 x3 x5 t0 = some q → va_P (g_D G) vwCl (allW G lam σ) H → va_S (g_A G) s.heap H locs → lv_has ls 7 [(0, .ref (g_ad G 26)), (1, .int x1), (2, .int x2), (3, .int x3), (5, .int x5)] → W p l e ({ frames := 6, cells := 0, slots := 0, locals := 156 } : Room) s m args below meth c H locs 0 0 (Qv q below args s G lam) (F0 m 137 ls [.int t0]) := by
        intro σ x1 x2 x3 x5 t0 H locs ls h hP hS hl
        unfold f_X11_sails_p137 at h
        refine lv_istore (lv' := [(6, .int t0), (0, .ref (g_ad G 26)), (1, .int x1), (2, .int x2), (3, .int x3), (5, .int x5)]) hx hb dX11_sails_137 hl (by decide) rfl (fun ls hl => ?_)
        exact L139 FU _ _ _ _ _ _ H locs ls h hP hS (lv_sub hl [1, 2, 3, 4, 5, 0] rfl)
      have J119 : ∀ (σ : St) (x1 : Int32) (x2 : Int32) (x3 : Int32) (x4 : Int32) (H : Heap) (locs : List Loc) (ls : Array Slot), f_X11_sails_p119 (fx (F_X11_sails_h66) z_X11_sails_h66 n66) σ x1 x2 x3 x4 = some q → va_P (g_D G) vwCl (allW G lam σ) H → va_S (g_A G) s.heap H locs → lv_has ls 7 [(0, .ref (g_ad G 26)), (1, .int x1), (2, .int x2), (3, .int x3), (4, .int x4)] → W p l e ({ frames := 6, cells := 0, slots := 0, locals := 156 } : Room) s m args below meth c H locs 0 0 (Qv q below args s G lam) (F0 m 119 ls []) := by
        intro σ x1 x2 x3 x4 H locs ls h hP hS hl
        unfold f_X11_sails_p119 at h
        refine lv_aload_n hx hb dX11_sails_119 rfl (lv_at hl 0 rfl) ?_
        refine gf_X11_274_26 C hP dX11_sails_120 ?_
        obtain ⟨y116, e117, h⟩ := bnd h
        refine r_nm e117 ?_
        refine lv_istore (lv' := [(5, .int y116), (0, .ref (g_ad G 26)), (1, .int x1), (2, .int x2), (3, .int x3), (4, .int x4)]) hx hb dX11_sails_123 hl (by decide) rfl (fun ls hl => ?_)
        refine lv_iload hx hb dX11_sails_125 (lv_at hl 5 rfl) ?_
        refine lv_ldc hx hb C.2.2.2.1 (C.2.2.2.2.1 _ mw_1337) dX11_sails_127 ?_
        refine lv_icmp_ne (tgt := 136) hx hb dX11_sails_129 (by decide) (fun c118 => ?_) (fun c118 => ?_)
        · replace h := h_f c118 h
          refine lv_iconst (v := 0) hx hb dX11_sails_136 (by decide) ?_
          exact J137 _ _ _ _ _ _ H locs ls h hP hS (lv_sub hl [1, 2, 3, 4, 0] rfl)
        · replace h := h_t c118 h
          refine lv_iconst (v := 1) hx hb dX11_sails_132 (by decide) ?_
          refine lv_goto (tgt := 137) hx hb dX11_sails_133 (by decide) ?_
          exact J137 _ _ _ _ _ _ H locs ls h hP hS (lv_sub hl [1, 2, 3, 4, 0] rfl)
      intro σ x1 x2 x3 H locs ls h hP hS hl
      change F_X11_sails_h66 (fx (F_X11_sails_h66) z_X11_sails_h66 n66) σ x1 x2 x3 = some q at h
      unfold F_X11_sails_h66 at h
      refine lv_iload_n hx hb dX11_sails_66 rfl (lv_at hl 3 rfl) ?_
      refine lv_aload_n hx hb dX11_sails_67 rfl (lv_at hl 0 rfl) ?_
      refine gf_X11_7_26 C hP dX11_sails_68 ?_
      refine lv_bipush (v := 54) hx hb dX11_sails_71 (by decide) ?_
      refine r_aldc C hP 27 (by decide) rfl (j := 54) (by decide) (vp_in_iff.mpr (by decide)) dX11_sails_73 ?_
      refine lv_icmp_ge (tgt := 258) hx hb dX11_sails_74 (by decide) (fun c119 => ?_) (fun c119 => ?_)
      · replace h := h_t c119 h
        exact J258 _ H locs ls h hP hS (lv_sub hl [0] rfl)
      · replace h := h_f c119 h
        refine lv_aload_n hx hb dX11_sails_77 rfl (lv_at hl 0 rfl) ?_
        refine gf_X11_261_26 C hP dX11_sails_78 ?_
        refine lv_if_ne (tgt := 258) hx hb dX11_sails_81 (by decide) (fun c120 => ?_) (fun c120 => ?_)
        · replace h := h_f c120 h
          exact J258 _ H locs ls h hP hS (lv_sub hl [0] rfl)
        · replace h := h_t c120 h
          refine lv_aload_n hx hb dX11_sails_84 rfl (lv_at hl 0 rfl) ?_
          refine gf_X11_38_26 C hP dX11_sails_85 ?_
          refine lv_iload_n hx hb dX11_sails_88 rfl (lv_at hl 3 rfl) ?_
          refine lv_iconst (v := 0) hx hb dX11_sails_89 (by decide) ?_
          obtain ⟨g121, h⟩ := h_g h
          refine r_ast C hP hS 36 (by decide) (fun _ => rfl) (vp_in_iff.mpr g121) dX11_sails_90 (fun H locs hP hS => ?_)
          obtain ⟨σ122, e123, h⟩ := bnd h
          have hP := hPn e123 hP
          refine lv_aload_n hx hb dX11_sails_91 rfl (lv_at hl 0 rfl) ?_
          refine lv_iload_n hx hb dX11_sails_92 rfl (lv_at hl 3 rfl) ?_
          obtain ⟨q124, e125, h⟩ := bnd h
          refine call_i C hP hS (c_X11_mistaken e125) mi_X11_mistaken mw_1602 26 (by decide) rfl rfl ⟨Nat.le_of_ble_eq_true rfl, Nat.le_of_ble_eq_true rfl⟩ (As := [.int x3]) rfl hl.1 rfl (lv_room (Nat.le_of_ble_eq_true rfl)) dX11_sails_93 (fun H locs hP hS => ?_)
          refine lv_istore (lv' := [(4, .int q124.1), (0, .ref (g_ad G 26)), (1, .int x1), (2, .int x2), (3, .int x3)]) hx hb dX11_sails_96 hl (by decide) rfl (fun ls hl => ?_)
          refine lv_iload hx hb dX11_sails_98 (lv_at hl 0 rfl) ?_
          refine lv_ldc hx hb C.2.2.2.1 (C.2.2.2.2.1 _ mw_1337) dX11_sails_100 ?_
          refine lv_icmp_eq (tgt := 119) hx hb dX11_sails_102 (by decide) (fun c126 => ?_) (fun c126 => ?_)
          · replace h := h_t c126 h
            exact J119 _ _ _ _ _ H locs ls h hP hS (lv_sub hl [1, 2, 3, 4, 0] rfl)
          · replace h := h_f c126 h
            refine lv_aload_n hx hb dX11_sails_105 rfl (lv_at hl 1 rfl) ?_
            refine lv_iconst (v := 1) hx hb dX11_sails_106 (by decide) ?_
            refine lv_iload_n hx hb dX11_sails_107 rfl (lv_at hl 4 rfl) ?_
            obtain ⟨q127, e128, h⟩ := bnd h
            refine call_v C hP hS (c_X11_by e128) mi_X11_by mw_1610 26 (by decide) rfl rfl ⟨Nat.le_of_ble_eq_true rfl, Nat.le_of_ble_eq_true rfl⟩ (As := [.int 1, .int x3]) rfl hl.1 rfl (lv_room (Nat.le_of_ble_eq_true rfl)) dX11_sails_108 (fun H locs hP hS => ?_)
            refine lv_aload_n hx hb dX11_sails_111 rfl (lv_at hl 1 rfl) ?_
            refine lv_bipush (v := 9) hx hb dX11_sails_112 (by decide) ?_
            refine lv_iload hx hb dX11_sails_114 (lv_at hl 0 rfl) ?_
            obtain ⟨q129, e130, h⟩ := bnd h
            refine call_v C hP hS (c_X11_by e130) mi_X11_by mw_1610 26 (by decide) rfl rfl ⟨Nat.le_of_ble_eq_true rfl, Nat.le_of_ble_eq_true rfl⟩ (As := [.int 9, .int q124.1]) rfl hl.1 rfl (lv_room (Nat.le_of_ble_eq_true rfl)) dX11_sails_116 (fun H locs hP hS => ?_)
            exact J119 _ _ _ _ _ H locs ls h hP hS (lv_sub hl [1, 2, 3, 4, 0] rfl)
  have hS : va_S (g_A G) s.heap s.heap [] := va_S.rf
  unfold f_X11_sails at h
  obtain ⟨H, hH⟩ : ∃ H, H = s.heap := ⟨_, rfl⟩
  obtain ⟨locs, hlo⟩ : ∃ k : List Loc, k = [] := ⟨_, rfl⟩
  rw [← hH, ← hlo]
  rw [← hH] at hP
  replace hS : va_S (g_A G) s.heap H locs := by rw [hH, hlo]; exact hS
  refine lv_aload_n hx hb dX11_sails_0 rfl (lv_at hl 0 rfl) ?_
  refine lv_iconst (v := 0) hx hb dX11_sails_1 (by decide) ?_
  refine pf_X11_274_26 C hP hS dX11_sails_2 (fun H locs hP hS => ?_)
  obtain ⟨σ131, e132, h⟩ := bnd h
  have hP := hPn e132 hP
  refine lv_aload_n hx hb dX11_sails_5 rfl (lv_at hl 0 rfl) ?_
  refine lv_iconst (v := 0) hx hb dX11_sails_6 (by decide) ?_
  refine pf_X11_290_26 C hP hS dX11_sails_7 (fun H locs hP hS => ?_)
  obtain ⟨σ133, e134, h⟩ := bnd h
  have hP := hPn e134 hP
  refine lv_aload_n hx hb dX11_sails_10 rfl (lv_at hl 0 rfl) ?_
  refine lv_iconst (v := 0) hx hb dX11_sails_11 (by decide) ?_
  refine pf_X11_296_26 C hP hS (Or.inl rfl) dX11_sails_12 (fun H locs hP hS => ?_)
  obtain ⟨σ135, e136, h⟩ := bnd h
  have hP := hPn e136 hP
  refine lv_aload_n hx hb dX11_sails_15 rfl (lv_at hl 0 rfl) ?_
  refine lv_ldc hx hb C.2.2.2.1 (C.2.2.2.2.1 _ mw_1337) dX11_sails_16 ?_
  refine pf_X11_280_26 C hP hS dX11_sails_18 (fun H locs hP hS => ?_)
  obtain ⟨σ137, e138, h⟩ := bnd h
  have hP := hPn e138 hP
  refine lv_aload_n hx hb dX11_sails_21 rfl (lv_at hl 0 rfl) ?_
  refine lv_ldc hx hb C.2.2.2.1 (C.2.2.2.2.1 _ mw_1337) dX11_sails_22 ?_
  refine pf_X11_277_26 C hP hS dX11_sails_24 (fun H locs hP hS => ?_)
  obtain ⟨σ139, e140, h⟩ := bnd h
  have hP := hPn e140 hP
  refine lv_aload_n hx hb dX11_sails_27 rfl (lv_at hl 0 rfl) ?_
  refine lv_iconst (v := 0) hx hb dX11_sails_28 (by decide) ?_
  refine pf_X11_261_26 C hP hS dX11_sails_29 (fun H locs hP hS => ?_)
  obtain ⟨σ141, e142, h⟩ := bnd h
  have hP := hPn e142 hP
  refine lv_aload_n hx hb dX11_sails_32 rfl (lv_at hl 0 rfl) ?_
  refine gf_X11_29_26 C hP dX11_sails_33 ?_
  refine lv_iconst (v := 0) hx hb dX11_sails_36 (by decide) ?_
  refine lv_aload_n hx hb dX11_sails_37 rfl (lv_at hl 0 rfl) ?_
  refine gf_X11_7_26 C hP dX11_sails_38 ?_
  refine lv_iconst (v := 2) hx hb dX11_sails_41 (by decide) ?_
  refine r_aldc C hP 27 (by decide) rfl (j := 2) (by decide) (vp_in_iff.mpr (by decide)) dX11_sails_42 ?_
  refine r_astc C hP hS 33 (by decide) (fun _ => rfl) (j := 0) (by decide) (vp_in_iff.mpr (by decide)) dX11_sails_43 (fun H locs hP hS => ?_)
  obtain ⟨σ143, e144, h⟩ := bnd h
  have hP := hPn e144 hP
  refine lv_aload_n hx hb dX11_sails_44 rfl (lv_at hl 0 rfl) ?_
  refine gf_X11_32_26 C hP dX11_sails_45 ?_
  refine lv_iconst (v := 0) hx hb dX11_sails_48 (by decide) ?_
  refine lv_aload_n hx hb dX11_sails_49 rfl (lv_at hl 0 rfl) ?_
  refine gf_X11_7_26 C hP dX11_sails_50 ?_
  refine lv_iconst (v := 3) hx hb dX11_sails_53 (by decide) ?_
  refine r_aldc C hP 27 (by decide) rfl (j := 3) (by decide) (vp_in_iff.mpr (by decide)) dX11_sails_54 ?_
  refine r_astc C hP hS 34 (by decide) (fun _ => rfl) (j := 0) (by decide) (vp_in_iff.mpr (by decide)) dX11_sails_55 (fun H locs hP hS => ?_)
  obtain ⟨σ145, e146, h⟩ := bnd h
  have hP := hPn e146 hP
  refine lv_aload_n hx hb dX11_sails_56 rfl (lv_at hl 0 rfl) ?_
  refine gf_X11_35_26 C hP dX11_sails_57 ?_
  refine lv_iconst (v := 0) hx hb dX11_sails_60 (by decide) ?_
  refine lv_ldc hx hb C.2.2.2.1 (C.2.2.2.2.1 _ mw_1337) dX11_sails_61 ?_
  refine r_astc C hP hS 35 (by decide) (fun _ => rfl) (j := 0) (by decide) (vp_in_iff.mpr (by decide)) dX11_sails_63 (fun H locs hP hS => ?_)
  obtain ⟨σ147, e148, h⟩ := bnd h
  have hP := hPn e148 hP
  refine lv_iconst (v := 0) hx hb dX11_sails_64 (by decide) ?_
  refine lv_istore_n (lv' := [(3, .int 0), (0, .ref (g_ad G 26)), (1, .int a1), (2, .int a2)]) hx hb dX11_sails_65 rfl hl (by decide) rfl (fun ls hl => ?_)
  exact L66 FU _ _ _ _ H locs ls h hP hS (lv_sub hl [1, 2, 3, 0] rfl)
