set_option maxHeartbeats 4000000 in
set_option maxRecDepth 100000 in
theorem c_X11_square {l : Launch} {G : GT} {lam : Lm} {σ : St} {a1 : Int32} {a2 : Int32} {q : Int32 × St} (h : f_X11_square σ a1 a2 = some q) : Met l yX11_square (Cond.code yX11_square cX11_square 2 ((some .int)) :: TB) ({ frames := 0, cells := 0, slots := 0, locals := 0 } : Room) (va_Pc [.int a1, .int a2] (GW G lam σ)) (Ri q G lam) 0 0 (g_A G) := by
  refine mk_Qi (own := RX11) (by decide) (Nat.le_of_ble_eq_true rfl) rfl (fun p e s m args below meth c C hr hlocks hP ls hl => ?_)
  have hx := C.1
  have hb := C.2.1
  have hl : lv_has ls 2 [(0, .int a1), (1, .int a2)] := hl
  have hS : va_S (g_A G) s.heap s.heap [] := va_S.rf
  unfold f_X11_square at h
  refine lv_iload_n hx hb dX11_square_0 rfl (lv_at hl 0 rfl) ?_
  refine lv_iload_n hx hb dX11_square_1 rfl (lv_at hl 0 rfl) ?_
  refine lv_imul hx hb dX11_square_2 ?_
  refine lv_iload_n hx hb dX11_square_3 rfl (lv_at hl 1 rfl) ?_
  refine lv_iload_n hx hb dX11_square_4 rfl (lv_at hl 1 rfl) ?_
  refine lv_imul hx hb dX11_square_5 ?_
  refine lv_iadd hx hb dX11_square_6 ?_
  exact ret_i C hr hlocks hP hS h dX11_square_7
set_option maxHeartbeats 4000000 in
set_option maxRecDepth 100000 in
theorem c_X11_plain {l : Launch} {G : GT} {lam : Lm} {σ : St} {a1 : Int32} {q : Int32 × St} (h : f_X11_plain σ a1 = some q) : Met l yX11_plain (Cond.code yX11_plain cX11_plain 1 ((some .int)) :: TB) ({ frames := 0, cells := 0, slots := 0, locals := 0 } : Room) (va_Pc [.int a1] (GW G lam σ)) (Ri q G lam) 0 0 (g_A G) := by
  refine mk_Qi (own := RX11) (by decide) (Nat.le_of_ble_eq_true rfl) rfl (fun p e s m args below meth c C hr hlocks hP ls hl => ?_)
  have hx := C.1
  have hb := C.2.1
  have hl : lv_has ls 1 [(0, .int a1)] := hl
  have hS : va_S (g_A G) s.heap s.heap [] := va_S.rf
  unfold f_X11_plain at h
  refine lv_iload_n hx hb dX11_plain_0 rfl (lv_at hl 0 rfl) ?_
  refine lv_if_ge (tgt := 9) hx hb dX11_plain_1 (by decide) (fun c2 => ?_) (fun c2 => ?_)
  · replace h := h_t c2 h
    refine lv_iload_n hx hb dX11_plain_9 rfl (lv_at hl 0 rfl) ?_
    exact ret_i C hr hlocks hP hS h dX11_plain_10
  · replace h := h_f c2 h
    refine lv_iload_n hx hb dX11_plain_4 rfl (lv_at hl 0 rfl) ?_
    refine lv_ineg hx hb dX11_plain_5 ?_
    refine lv_goto (tgt := 10) hx hb dX11_plain_6 (by decide) ?_
    exact ret_i C hr hlocks hP hS h dX11_plain_10
set_option maxHeartbeats 4000000 in
set_option maxRecDepth 100000 in
theorem c_X11_isMark {l : Launch} {G : GT} {lam : Lm} {σ : St} {a1 : Int32} {q : Int32 × St} (h : f_X11_isMark σ a1 = some q) : Met l yX11_isMark (Cond.code yX11_isMark cX11_isMark 2 ((some .boolean)) :: TB) ({ frames := 2, cells := 0, slots := 0, locals := 46 } : Room) (va_Pc [.ref (g_ad G 26), .int a1] (GW G lam σ)) (Ri q G lam) 0 0 (g_A G) := by
  refine mk_Qi (own := RX11) (by decide) (Nat.le_of_ble_eq_true rfl) rfl (fun p e s m args below meth c C hr hlocks hP ls hl => ?_)
  have hx := C.1
  have hb := C.2.1
  have hl : lv_has ls 2 [(0, .ref (g_ad G 26)), (1, .int a1)] := hl
  have hS : va_S (g_A G) s.heap s.heap [] := va_S.rf
  unfold f_X11_isMark at h
  refine lv_aload_n hx hb dX11_isMark_0 rfl (lv_at hl 0 rfl) ?_
  refine lv_iload_n hx hb dX11_isMark_1 rfl (lv_at hl 1 rfl) ?_
  obtain ⟨q7, e8, h⟩ := bnd h
  refine call_i C hP hS (c_X11_isThing e8) mi_X11_isThing mw_1412 26 (by decide) rfl rfl ⟨Nat.le_of_ble_eq_true rfl, Nat.le_of_ble_eq_true rfl⟩ (As := [.int a1]) rfl hl.1 rfl (lv_room (Nat.le_of_ble_eq_true rfl)) dX11_isMark_2 (fun H locs hP hS => ?_)
  refine lv_if_eq (tgt := 22) hx hb dX11_isMark_5 (by decide) (fun c9 => ?_) (fun c9 => ?_)
  · replace h := h_t c9 h
    refine lv_iconst (v := 0) hx hb dX11_isMark_22 (by decide) ?_
    exact ret_z C hr hlocks hP hS h (Or.inl rfl) dX11_isMark_23
  · replace h := h_f c9 h
    refine lv_aload_n hx hb dX11_isMark_8 rfl (lv_at hl 0 rfl) ?_
    refine lv_iload_n hx hb dX11_isMark_9 rfl (lv_at hl 1 rfl) ?_
    refine lv_iconst (v := 0) hx hb dX11_isMark_10 (by decide) ?_
    obtain ⟨q10, e11, h⟩ := bnd h
    refine call_i C hP hS (c_X11_of e11) mi_X11_of mw_1433 26 (by decide) rfl rfl ⟨Nat.le_of_ble_eq_true rfl, Nat.le_of_ble_eq_true rfl⟩ (As := [.int a1, .int 0]) rfl hl.1 rfl (lv_room (Nat.le_of_ble_eq_true rfl)) dX11_isMark_11 (fun H locs hP hS => ?_)
    refine lv_iconst (v := 3) hx hb dX11_isMark_14 (by decide) ?_
    refine lv_icmp_gt (tgt := 22) hx hb dX11_isMark_15 (by decide) (fun c12 => ?_) (fun c12 => ?_)
    · replace h := h_t c12 h
      refine lv_iconst (v := 0) hx hb dX11_isMark_22 (by decide) ?_
      exact ret_z C hr hlocks hP hS h (Or.inl rfl) dX11_isMark_23
    · replace h := h_f c12 h
      refine lv_iconst (v := 1) hx hb dX11_isMark_18 (by decide) ?_
      refine lv_goto (tgt := 23) hx hb dX11_isMark_19 (by decide) ?_
      exact ret_z C hr hlocks hP hS h (Or.inr rfl) dX11_isMark_23
set_option maxHeartbeats 4000000 in
set_option maxRecDepth 100000 in
theorem c_X11_isShoal {l : Launch} {G : GT} {lam : Lm} {σ : St} {a1 : Int32} {q : Int32 × St} (h : f_X11_isShoal σ a1 = some q) : Met l yX11_isShoal (Cond.code yX11_isShoal cX11_isShoal 2 ((some .boolean)) :: TB) ({ frames := 1, cells := 0, slots := 0, locals := 22 } : Room) (va_Pc [.ref (g_ad G 26), .int a1] (GW G lam σ)) (Ri q G lam) 0 0 (g_A G) := by
  refine mk_Qi (own := RX11) (by decide) (Nat.le_of_ble_eq_true rfl) rfl (fun p e s m args below meth c C hr hlocks hP ls hl => ?_)
  have hx := C.1
  have hb := C.2.1
  have hl : lv_has ls 2 [(0, .ref (g_ad G 26)), (1, .int a1)] := hl
  have hS : va_S (g_A G) s.heap s.heap [] := va_S.rf
  unfold f_X11_isShoal at h
  refine lv_aload_n hx hb dX11_isShoal_0 rfl (lv_at hl 0 rfl) ?_
  refine lv_iload_n hx hb dX11_isShoal_1 rfl (lv_at hl 1 rfl) ?_
  refine lv_iconst (v := 0) hx hb dX11_isShoal_2 (by decide) ?_
  obtain ⟨q4, e5, h⟩ := bnd h
  refine call_i C hP hS (c_X11_of e5) mi_X11_of mw_1433 26 (by decide) rfl rfl ⟨Nat.le_of_ble_eq_true rfl, Nat.le_of_ble_eq_true rfl⟩ (As := [.int a1, .int 0]) rfl hl.1 rfl (lv_room (Nat.le_of_ble_eq_true rfl)) dX11_isShoal_3 (fun H locs hP hS => ?_)
  refine lv_iconst (v := 4) hx hb dX11_isShoal_6 (by decide) ?_
  refine lv_icmp_lt (tgt := 14) hx hb dX11_isShoal_7 (by decide) (fun c6 => ?_) (fun c6 => ?_)
  · replace h := h_t c6 h
    refine lv_iconst (v := 0) hx hb dX11_isShoal_14 (by decide) ?_
    exact ret_z C hr hlocks hP hS h (Or.inl rfl) dX11_isShoal_15
  · replace h := h_f c6 h
    refine lv_iconst (v := 1) hx hb dX11_isShoal_10 (by decide) ?_
    refine lv_goto (tgt := 15) hx hb dX11_isShoal_11 (by decide) ?_
    exact ret_z C hr hlocks hP hS h (Or.inr rfl) dX11_isShoal_15
set_option maxHeartbeats 4000000 in
set_option maxRecDepth 100000 in
theorem c_X11_lies {l : Launch} {G : GT} {lam : Lm} {σ : St} {a1 : Int32} {a2 : Int32} {a3 : Int32} {q : Int32 × St} (h : f_X11_lies σ a1 a2 a3 = some q) : Met l yX11_lies (Cond.code yX11_lies cX11_lies 7 ((some .boolean)) :: TB) ({ frames := 1, cells := 0, slots := 0, locals := 22 } : Room) (va_Pc [.ref (g_ad G 26), .int a1, .int a2, .int a3] (GW G lam σ)) (Ri q G lam) 0 0 (g_A G) := by
  refine mk_Qi (own := RX11) (by decide) (Nat.le_of_ble_eq_true rfl) rfl (fun p e s m args below meth c C hr hlocks hP ls hl => ?_)
  have hx := C.1
  have hb := C.2.1
  have hl : lv_has ls 7 [(0, .ref (g_ad G 26)), (1, .int a1), (2, .int a2), (3, .int a3)] := hl
  have hS : va_S (g_A G) s.heap s.heap [] := va_S.rf
  unfold f_X11_lies at h
  refine lv_iload_n hx hb dX11_lies_0 rfl (lv_at hl 2 rfl) ?_
  refine lv_aload_n hx hb dX11_lies_1 rfl (lv_at hl 0 rfl) ?_
  refine lv_iload_n hx hb dX11_lies_2 rfl (lv_at hl 1 rfl) ?_
  refine lv_iconst (v := 1) hx hb dX11_lies_3 (by decide) ?_
  obtain ⟨q19, e20, h⟩ := bnd h
  refine call_i C hP hS (c_X11_of e20) mi_X11_of mw_1433 26 (by decide) rfl rfl ⟨Nat.le_of_ble_eq_true rfl, Nat.le_of_ble_eq_true rfl⟩ (As := [.int a1, .int 1]) rfl hl.1 rfl (lv_room (Nat.le_of_ble_eq_true rfl)) dX11_lies_4 (fun H locs hP hS => ?_)
  refine lv_isub hx hb dX11_lies_7 ?_
  obtain ⟨q21, e22, h⟩ := bnd h
  refine scall_i C hP hS (c_X11_plain e22) ms_X11_plain mw_1521 ⟨Nat.le_of_ble_eq_true rfl, Nat.le_of_ble_eq_true rfl⟩ (As := [.int (a2 - q19.1)]) rfl hl.1 rfl (lv_room (Nat.le_of_ble_eq_true rfl)) dX11_lies_8 (fun H locs hP hS => ?_)
  refine lv_istore (lv' := [(4, .int q21.1), (0, .ref (g_ad G 26)), (1, .int a1), (2, .int a2), (3, .int a3)]) hx hb dX11_lies_11 hl (by decide) rfl (fun ls hl => ?_)
  refine lv_iload_n hx hb dX11_lies_13 rfl (lv_at hl 4 rfl) ?_
  refine lv_aload_n hx hb dX11_lies_14 rfl (lv_at hl 1 rfl) ?_
  refine lv_iload_n hx hb dX11_lies_15 rfl (lv_at hl 2 rfl) ?_
  refine lv_iconst (v := 2) hx hb dX11_lies_16 (by decide) ?_
  obtain ⟨q23, e24, h⟩ := bnd h
  refine call_i C hP hS (c_X11_of e24) mi_X11_of mw_1433 26 (by decide) rfl rfl ⟨Nat.le_of_ble_eq_true rfl, Nat.le_of_ble_eq_true rfl⟩ (As := [.int a1, .int 2]) rfl hl.1 rfl (lv_room (Nat.le_of_ble_eq_true rfl)) dX11_lies_17 (fun H locs hP hS => ?_)
  refine lv_isub hx hb dX11_lies_20 ?_
  obtain ⟨q25, e26, h⟩ := bnd h
  refine scall_i C hP hS (c_X11_plain e26) ms_X11_plain mw_1521 ⟨Nat.le_of_ble_eq_true rfl, Nat.le_of_ble_eq_true rfl⟩ (As := [.int (a3 - q23.1)]) rfl hl.1 rfl (lv_room (Nat.le_of_ble_eq_true rfl)) dX11_lies_21 (fun H locs hP hS => ?_)
  refine lv_istore (lv' := [(5, .int q25.1), (4, .int q21.1), (0, .ref (g_ad G 26)), (1, .int a1), (2, .int a2), (3, .int a3)]) hx hb dX11_lies_24 hl (by decide) rfl (fun ls hl => ?_)
  refine lv_aload_n hx hb dX11_lies_26 rfl (lv_at hl 2 rfl) ?_
  refine lv_iload_n hx hb dX11_lies_27 rfl (lv_at hl 3 rfl) ?_
  refine lv_iconst (v := 3) hx hb dX11_lies_28 (by decide) ?_
  obtain ⟨q27, e28, h⟩ := bnd h
  refine call_i C hP hS (c_X11_of e28) mi_X11_of mw_1433 26 (by decide) rfl rfl ⟨Nat.le_of_ble_eq_true rfl, Nat.le_of_ble_eq_true rfl⟩ (As := [.int a1, .int 3]) rfl hl.1 rfl (lv_room (Nat.le_of_ble_eq_true rfl)) dX11_lies_29 (fun H locs hP hS => ?_)
  refine lv_istore (lv' := [(6, .int q27.1), (5, .int q25.1), (4, .int q21.1), (0, .ref (g_ad G 26)), (1, .int a1), (2, .int a2), (3, .int a3)]) hx hb dX11_lies_32 hl (by decide) rfl (fun ls hl => ?_)
  refine lv_aload_n hx hb dX11_lies_34 rfl (lv_at hl 3 rfl) ?_
  refine lv_iload_n hx hb dX11_lies_35 rfl (lv_at hl 4 rfl) ?_
  refine lv_iconst (v := 0) hx hb dX11_lies_36 (by decide) ?_
  obtain ⟨q29, e30, h⟩ := bnd h
  refine call_i C hP hS (c_X11_of e30) mi_X11_of mw_1433 26 (by decide) rfl rfl ⟨Nat.le_of_ble_eq_true rfl, Nat.le_of_ble_eq_true rfl⟩ (As := [.int a1, .int 0]) rfl hl.1 rfl (lv_room (Nat.le_of_ble_eq_true rfl)) dX11_lies_37 (fun H locs hP hS => ?_)
  refine lv_bipush (v := 6) hx hb dX11_lies_40 (by decide) ?_
  refine lv_icmp_ne (tgt := 67) hx hb dX11_lies_42 (by decide) (fun c31 => ?_) (fun c31 => ?_)
  · replace h := h_f c31 h
    refine lv_iload hx hb dX11_lies_67 (lv_at hl 2 rfl) ?_
    refine lv_iload hx hb dX11_lies_69 (lv_at hl 1 rfl) ?_
    obtain ⟨q32, e33, h⟩ := bnd h
    refine scall_i C hP hS (c_X11_square e33) ms_X11_square mw_1524 ⟨Nat.le_of_ble_eq_true rfl, Nat.le_of_ble_eq_true rfl⟩ (As := [.int q21.1, .int q25.1]) rfl hl.1 rfl (lv_room (Nat.le_of_ble_eq_true rfl)) dX11_lies_71 (fun H locs hP hS => ?_)
    refine lv_iload hx hb dX11_lies_74 (lv_at hl 0 rfl) ?_
    refine lv_iload hx hb dX11_lies_76 (lv_at hl 0 rfl) ?_
    refine lv_imul hx hb dX11_lies_78 ?_
    refine lv_icmp_gt (tgt := 86) hx hb dX11_lies_79 (by decide) (fun c34 => ?_) (fun c34 => ?_)
    · replace h := h_t c34 h
      refine lv_iconst (v := 0) hx hb dX11_lies_86 (by decide) ?_
      exact ret_z C hr hlocks hP hS h (Or.inl rfl) dX11_lies_87
    · replace h := h_f c34 h
      refine lv_iconst (v := 1) hx hb dX11_lies_82 (by decide) ?_
      refine lv_goto (tgt := 87) hx hb dX11_lies_83 (by decide) ?_
      exact ret_z C hr hlocks hP hS h (Or.inr rfl) dX11_lies_87
  · replace h := h_t c31 h
    refine lv_iload hx hb dX11_lies_45 (lv_at hl 2 rfl) ?_
    refine lv_iload hx hb dX11_lies_47 (lv_at hl 0 rfl) ?_
    refine lv_icmp_gt (tgt := 63) hx hb dX11_lies_49 (by decide) (fun c35 => ?_) (fun c35 => ?_)
    · replace h := h_t c35 h
      refine lv_iconst (v := 0) hx hb dX11_lies_63 (by decide) ?_
      refine lv_goto (tgt := 87) hx hb dX11_lies_64 (by decide) ?_
      exact ret_z C hr hlocks hP hS h (Or.inl rfl) dX11_lies_87
    · replace h := h_f c35 h
      refine lv_iload hx hb dX11_lies_52 (lv_at hl 1 rfl) ?_
      refine lv_iload hx hb dX11_lies_54 (lv_at hl 0 rfl) ?_
      refine lv_icmp_gt (tgt := 63) hx hb dX11_lies_56 (by decide) (fun c36 => ?_) (fun c36 => ?_)
      · replace h := h_t c36 h
        refine lv_iconst (v := 0) hx hb dX11_lies_63 (by decide) ?_
        refine lv_goto (tgt := 87) hx hb dX11_lies_64 (by decide) ?_
        exact ret_z C hr hlocks hP hS h (Or.inl rfl) dX11_lies_87
      · replace h := h_f c36 h
        refine lv_iconst (v := 1) hx hb dX11_lies_59 (by decide) ?_
        refine lv_goto (tgt := 87) hx hb dX11_lies_60 (by decide) ?_
        exact ret_z C hr hlocks hP hS h (Or.inr rfl) dX11_lies_87
set_option maxHeartbeats 4000000 in
set_option maxRecDepth 100000 in
theorem c_X11_depthOf {l : Launch} {G : GT} {lam : Lm} {σ : St} {a1 : Int32} {q : Int32 × St} (h : f_X11_depthOf σ a1 = some q) : Met l yX11_depthOf (Cond.code yX11_depthOf cX11_depthOf 2 ((some .int)) :: TB) ({ frames := 1, cells := 0, slots := 0, locals := 22 } : Room) (va_Pc [.ref (g_ad G 26), .int a1] (GW G lam σ)) (Ri q G lam) 0 0 (g_A G) := by
  refine mk_Qi (own := RX11) (by decide) (Nat.le_of_ble_eq_true rfl) rfl (fun p e s m args below meth c C hr hlocks hP ls hl => ?_)
  have hx := C.1
  have hb := C.2.1
  have hl : lv_has ls 2 [(0, .ref (g_ad G 26)), (1, .int a1)] := hl
  have hS : va_S (g_A G) s.heap s.heap [] := va_S.rf
  unfold f_X11_depthOf at h
  refine lv_aload_n hx hb dX11_depthOf_0 rfl (lv_at hl 0 rfl) ?_
  refine lv_iload_n hx hb dX11_depthOf_1 rfl (lv_at hl 1 rfl) ?_
  refine lv_iconst (v := 0) hx hb dX11_depthOf_2 (by decide) ?_
  obtain ⟨q8, e9, h⟩ := bnd h
  refine call_i C hP hS (c_X11_of e9) mi_X11_of mw_1433 26 (by decide) rfl rfl ⟨Nat.le_of_ble_eq_true rfl, Nat.le_of_ble_eq_true rfl⟩ (As := [.int a1, .int 0]) rfl hl.1 rfl (lv_room (Nat.le_of_ble_eq_true rfl)) dX11_depthOf_3 (fun H locs hP hS => ?_)
  refine lv_iconst (v := 5) hx hb dX11_depthOf_6 (by decide) ?_
  refine lv_icmp_ne (tgt := 20) hx hb dX11_depthOf_7 (by decide) (fun c10 => ?_) (fun c10 => ?_)
  · replace h := h_f c10 h
    refine lv_aload_n hx hb dX11_depthOf_20 rfl (lv_at hl 0 rfl) ?_
    refine lv_iload_n hx hb dX11_depthOf_21 rfl (lv_at hl 1 rfl) ?_
    refine lv_iconst (v := 4) hx hb dX11_depthOf_22 (by decide) ?_
    obtain ⟨q11, e12, h⟩ := bnd h
    refine call_i C hP hS (c_X11_of e12) mi_X11_of mw_1433 26 (by decide) rfl rfl ⟨Nat.le_of_ble_eq_true rfl, Nat.le_of_ble_eq_true rfl⟩ (As := [.int a1, .int 4]) rfl hl.1 rfl (lv_room (Nat.le_of_ble_eq_true rfl)) dX11_depthOf_23 (fun H locs hP hS => ?_)
    exact ret_i C hr hlocks hP hS h dX11_depthOf_26
  · replace h := h_t c10 h
    refine lv_aload_n hx hb dX11_depthOf_10 rfl (lv_at hl 0 rfl) ?_
    refine lv_iload_n hx hb dX11_depthOf_11 rfl (lv_at hl 1 rfl) ?_
    refine lv_iconst (v := 4) hx hb dX11_depthOf_12 (by decide) ?_
    obtain ⟨q13, e14, h⟩ := bnd h
    refine call_i C hP hS (c_X11_of e14) mi_X11_of mw_1433 26 (by decide) rfl rfl ⟨Nat.le_of_ble_eq_true rfl, Nat.le_of_ble_eq_true rfl⟩ (As := [.int a1, .int 4]) rfl hl.1 rfl (lv_room (Nat.le_of_ble_eq_true rfl)) dX11_depthOf_13 (fun H locs hP hS => ?_)
    refine lv_ineg hx hb dX11_depthOf_16 ?_
    refine lv_goto (tgt := 26) hx hb dX11_depthOf_17 (by decide) ?_
    exact ret_i C hr hlocks hP hS h dX11_depthOf_26
set_option maxHeartbeats 4000000 in
set_option maxRecDepth 100000 in
theorem c_X11_shoalAt {l : Launch} {G : GT} {lam : Lm} {σ : St} {a1 : Int32} {a2 : Int32} {q : Int32 × St} (h : f_X11_shoalAt σ a1 a2 = some q) : Met l yX11_shoalAt (Cond.code yX11_shoalAt cX11_shoalAt 5 ((some .int)) :: TB) ({ frames := 2, cells := 0, slots := 0, locals := 48 } : Room) (va_Pc [.ref (g_ad G 26), .int a1, .int a2] (GW G lam σ)) (Ri q G lam) 0 0 (g_A G) := by
  refine mk_Qi (own := RX11) (by decide) (Nat.le_of_ble_eq_true rfl) rfl (fun p e s m args below meth c C hr hlocks hP ls hl => ?_)
  have hx := C.1
  have hb := C.2.1
  have hl : lv_has ls 5 [(0, .ref (g_ad G 26)), (1, .int a1), (2, .int a2)] := hl
  have L6 : ∀ (n6 : Nat) (σ : St) (x1 : Int32) (x2 : Int32) (x3 : Int32) (x4 : Int32) (H : Heap) (locs : List Loc) (ls : Array Slot), fx (F_X11_shoalAt_h6) z_X11_shoalAt_h6 n6 σ x1 x2 x3 x4 = some q → va_P (g_D G) vwCl (allW G lam σ) H → va_S (g_A G) s.heap H locs → lv_has ls 5 [(0, .ref (g_ad G 26)), (1, .int x1), (2, .int x2), (3, .int x3), (4, .int x4)] → W p l e ({ frames := 2, cells := 0, slots := 0, locals := 48 } : Room) s m args below meth c H locs 0 0 (Qi q below args s G lam) (F0 m 6 ls []) := by
    intro n6
    induction n6 with
    | zero => intro σ x1 x2 x3 x4 H locs ls h hP hS hl; exact absurd h (by intro h9; cases h9)
    | succ n6 ih6 =>
      have J61 : ∀ (σ : St) (x1 : Int32) (x2 : Int32) (x3 : Int32) (x4 : Int32) (H : Heap) (locs : List Loc) (ls : Array Slot), f_X11_shoalAt_p61 (fx (F_X11_shoalAt_h6) z_X11_shoalAt_h6 n6) σ x1 x2 x3 x4 = some q → va_P (g_D G) vwCl (allW G lam σ) H → va_S (g_A G) s.heap H locs → lv_has ls 5 [(0, .ref (g_ad G 26)), (1, .int x1), (2, .int x2), (3, .int x3), (4, .int x4)] → W p l e ({ frames := 2, cells := 0, slots := 0, locals := 48 } : Room) s m args below meth c H locs 0 0 (Qi q below args s G lam) (F0 m 61 ls []) := by
        intro σ x1 x2 x3 x4 H locs ls h hP hS hl
        unfold f_X11_shoalAt_p61 at h
        obtain ⟨y16, e17, h⟩ := bnd h
        refine lv_iinc (v := y16) (lv' := [(4, .int y16), (0, .ref (g_ad G 26)), (1, .int x1), (2, .int x2), (3, .int x3)]) hx hb dX11_shoalAt_61 hl (k := 4) rfl (Option.some.inj e17) (by decide) rfl (fun ls hl => ?_)
        refine lv_goto (tgt := 6) hx hb dX11_shoalAt_64 (by decide) ?_
        exact ih6 _ _ _ _ _ H locs ls h hP hS (lv_sub hl [1, 2, 3, 4, 0] rfl)
      have J58 : ∀ (σ : St) (x1 : Int32) (x2 : Int32) (x4 : Int32) (H : Heap) (locs : List Loc) (ls : Array Slot), f_X11_shoalAt_p58 (fx (F_X11_shoalAt_h6) z_X11_shoalAt_h6 n6) σ x1 x2 x4 = some q → va_P (g_D G) vwCl (allW G lam σ) H → va_S (g_A G) s.heap H locs → lv_has ls 5 [(0, .ref (g_ad G 26)), (1, .int x1), (2, .int x2), (4, .int x4)] → W p l e ({ frames := 2, cells := 0, slots := 0, locals := 48 } : Room) s m args below meth c H locs 0 0 (Qi q below args s G lam) (F0 m 58 ls []) := by
        intro σ x1 x2 x4 H locs ls h hP hS hl
        unfold f_X11_shoalAt_p58 at h
        refine lv_iload hx hb dX11_shoalAt_58 (lv_at hl 3 rfl) ?_
        refine lv_istore_n (lv' := [(3, .int x4), (0, .ref (g_ad G 26)), (1, .int x1), (2, .int x2), (4, .int x4)]) hx hb dX11_shoalAt_60 rfl hl (by decide) rfl (fun ls hl => ?_)
        exact J61 _ _ _ _ _ H locs ls h hP hS (lv_sub hl [1, 2, 3, 0, 4] rfl)
      intro σ x1 x2 x3 x4 H locs ls h hP hS hl
      change F_X11_shoalAt_h6 (fx (F_X11_shoalAt_h6) z_X11_shoalAt_h6 n6) σ x1 x2 x3 x4 = some q at h
      unfold F_X11_shoalAt_h6 at h
      refine lv_iload hx hb dX11_shoalAt_6 (lv_at hl 4 rfl) ?_
      refine lv_aload_n hx hb dX11_shoalAt_8 rfl (lv_at hl 0 rfl) ?_
      refine gf_X11_7_26 C hP dX11_shoalAt_9 ?_
      refine lv_bipush (v := 13) hx hb dX11_shoalAt_12 (by decide) ?_
      refine r_aldc C hP 27 (by decide) rfl (j := 13) (by decide) (vp_in_iff.mpr (by decide)) dX11_shoalAt_14 ?_
      refine lv_icmp_ge (tgt := 67) hx hb dX11_shoalAt_15 (by decide) (fun c18 => ?_) (fun c18 => ?_)
      · replace h := h_t c18 h
        refine lv_iload_n hx hb dX11_shoalAt_67 rfl (lv_at hl 3 rfl) ?_
        exact ret_i C hr hlocks hP hS h dX11_shoalAt_68
      · replace h := h_f c18 h
        refine lv_aload_n hx hb dX11_shoalAt_18 rfl (lv_at hl 0 rfl) ?_
        refine lv_iload hx hb dX11_shoalAt_19 (lv_at hl 4 rfl) ?_
        obtain ⟨q19, e20, h⟩ := bnd h
        refine call_i C hP hS (c_X11_isShoal e20) mi_X11_isShoal mw_1513 26 (by decide) rfl rfl ⟨Nat.le_of_ble_eq_true rfl, Nat.le_of_ble_eq_true rfl⟩ (As := [.int x4]) rfl hl.1 rfl (lv_room (Nat.le_of_ble_eq_true rfl)) dX11_shoalAt_21 (fun H locs hP hS => ?_)
        refine lv_if_eq (tgt := 61) hx hb dX11_shoalAt_24 (by decide) (fun c21 => ?_) (fun c21 => ?_)
        · replace h := h_t c21 h
          exact J61 _ _ _ _ _ H locs ls h hP hS (lv_sub hl [0, 1, 2, 3, 4] rfl)
        · replace h := h_f c21 h
          refine lv_aload_n hx hb dX11_shoalAt_27 rfl (lv_at hl 0 rfl) ?_
          refine lv_iload hx hb dX11_shoalAt_28 (lv_at hl 4 rfl) ?_
          refine lv_iload_n hx hb dX11_shoalAt_30 rfl (lv_at hl 1 rfl) ?_
          refine lv_iload_n hx hb dX11_shoalAt_31 rfl (lv_at hl 2 rfl) ?_
          obtain ⟨q22, e23, h⟩ := bnd h
          refine call_i C hP hS (c_X11_lies e23) mi_X11_lies mw_1517 26 (by decide) rfl rfl ⟨Nat.le_of_ble_eq_true rfl, Nat.le_of_ble_eq_true rfl⟩ (As := [.int x4, .int x1, .int x2]) rfl hl.1 rfl (lv_room (Nat.le_of_ble_eq_true rfl)) dX11_shoalAt_32 (fun H locs hP hS => ?_)
          refine lv_if_eq (tgt := 61) hx hb dX11_shoalAt_35 (by decide) (fun c24 => ?_) (fun c24 => ?_)
          · replace h := h_t c24 h
            exact J61 _ _ _ _ _ H locs ls h hP hS (lv_sub hl [0, 1, 2, 3, 4] rfl)
          · replace h := h_f c24 h
            refine lv_iload_n hx hb dX11_shoalAt_38 rfl (lv_at hl 3 rfl) ?_
            refine lv_ldc hx hb C.2.2.2.1 (C.2.2.2.2.1 _ mw_1337) dX11_shoalAt_39 ?_
            refine lv_icmp_eq (tgt := 58) hx hb dX11_shoalAt_41 (by decide) (fun c25 => ?_) (fun c25 => ?_)
            · replace h := h_t c25 h
              exact J58 _ _ _ _ H locs ls h hP hS (lv_sub hl [0, 1, 2, 4] rfl)
            · replace h := h_f c25 h
              refine lv_aload_n hx hb dX11_shoalAt_44 rfl (lv_at hl 0 rfl) ?_
              refine lv_iload hx hb dX11_shoalAt_45 (lv_at hl 4 rfl) ?_
              obtain ⟨q26, e27, h⟩ := bnd h
              refine call_i C hP hS (c_X11_depthOf e27) mi_X11_depthOf mw_1527 26 (by decide) rfl rfl ⟨Nat.le_of_ble_eq_true rfl, Nat.le_of_ble_eq_true rfl⟩ (As := [.int x4]) rfl hl.1 rfl (lv_room (Nat.le_of_ble_eq_true rfl)) dX11_shoalAt_47 (fun H locs hP hS => ?_)
              refine lv_aload_n hx hb dX11_shoalAt_50 rfl (lv_at hl 0 rfl) ?_
              refine lv_iload_n hx hb dX11_shoalAt_51 rfl (lv_at hl 3 rfl) ?_
              obtain ⟨q28, e29, h⟩ := bnd h
              refine call_i C hP hS (c_X11_depthOf e29) mi_X11_depthOf mw_1527 26 (by decide) rfl rfl ⟨Nat.le_of_ble_eq_true rfl, Nat.le_of_ble_eq_true rfl⟩ (As := [.int x3]) rfl hl.1 rfl (lv_room (Nat.le_of_ble_eq_true rfl)) dX11_shoalAt_52 (fun H locs hP hS => ?_)
              refine lv_icmp_ge (tgt := 61) hx hb dX11_shoalAt_55 (by decide) (fun c30 => ?_) (fun c30 => ?_)
              · replace h := h_t c30 h
                exact J61 _ _ _ _ _ H locs ls h hP hS (lv_sub hl [0, 1, 2, 3, 4] rfl)
              · replace h := h_f c30 h
                exact J58 _ _ _ _ H locs ls h hP hS (lv_sub hl [0, 1, 2, 4] rfl)
  have hS : va_S (g_A G) s.heap s.heap [] := va_S.rf
  unfold f_X11_shoalAt at h
  obtain ⟨H, hH⟩ : ∃ H, H = s.heap := ⟨_, rfl⟩
  obtain ⟨locs, hlo⟩ : ∃ k : List Loc, k = [] := ⟨_, rfl⟩
  rw [← hH, ← hlo]
  rw [← hH] at hP
  replace hS : va_S (g_A G) s.heap H locs := by rw [hH, hlo]; exact hS
  refine lv_ldc hx hb C.2.2.2.1 (C.2.2.2.2.1 _ mw_1337) dX11_shoalAt_0 ?_
  refine lv_istore_n (lv' := [(3, .int (-1000000)), (0, .ref (g_ad G 26)), (1, .int a1), (2, .int a2)]) hx hb dX11_shoalAt_2 rfl hl (by decide) rfl (fun ls hl => ?_)
  refine lv_iconst (v := 0) hx hb dX11_shoalAt_3 (by decide) ?_
  refine lv_istore (lv' := [(4, .int 0), (3, .int (-1000000)), (0, .ref (g_ad G 26)), (1, .int a1), (2, .int a2)]) hx hb dX11_shoalAt_4 hl (by decide) rfl (fun ls hl => ?_)
  exact L6 FU _ _ _ _ _ H locs ls h hP hS (lv_sub hl [2, 3, 4, 1, 0] rfl)
set_option maxHeartbeats 4000000 in
set_option maxRecDepth 100000 in
theorem c_X11_charted {l : Launch} {G : GT} {lam : Lm} {σ : St} {a1 : Int32} {a2 : Int32} {q : Int32 × St} (h : f_X11_charted σ a1 a2 = some q) : Met l yX11_charted (Cond.code yX11_charted cX11_charted 4 ((some .int)) :: TB) ({ frames := 3, cells := 0, slots := 0, locals := 72 } : Room) (va_Pc [.ref (g_ad G 26), .int a1, .int a2] (GW G lam σ)) (Ri q G lam) 0 0 (g_A G) := by
  refine mk_Qi (own := RX11) (by decide) (Nat.le_of_ble_eq_true rfl) rfl (fun p e s m args below meth c C hr hlocks hP ls hl => ?_)
  have hx := C.1
  have hb := C.2.1
  have hl : lv_has ls 4 [(0, .ref (g_ad G 26)), (1, .int a1), (2, .int a2)] := hl
  have hS : va_S (g_A G) s.heap s.heap [] := va_S.rf
  unfold f_X11_charted at h
  refine lv_aload_n hx hb dX11_charted_0 rfl (lv_at hl 0 rfl) ?_
  refine lv_iload_n hx hb dX11_charted_1 rfl (lv_at hl 1 rfl) ?_
  refine lv_iload_n hx hb dX11_charted_2 rfl (lv_at hl 2 rfl) ?_
  obtain ⟨q6, e7, h⟩ := bnd h
  refine call_i C hP hS (c_X11_shoalAt e7) mi_X11_shoalAt mw_1509 26 (by decide) rfl rfl ⟨Nat.le_of_ble_eq_true rfl, Nat.le_of_ble_eq_true rfl⟩ (As := [.int a1, .int a2]) rfl hl.1 rfl (lv_room (Nat.le_of_ble_eq_true rfl)) dX11_charted_3 (fun H locs hP hS => ?_)
  refine lv_istore_n (lv' := [(3, .int q6.1), (0, .ref (g_ad G 26)), (1, .int a1), (2, .int a2)]) hx hb dX11_charted_6 rfl hl (by decide) rfl (fun ls hl => ?_)
  refine lv_iload_n hx hb dX11_charted_7 rfl (lv_at hl 0 rfl) ?_
  refine lv_ldc hx hb C.2.2.2.1 (C.2.2.2.2.1 _ mw_1337) dX11_charted_8 ?_
  refine lv_icmp_ne (tgt := 18) hx hb dX11_charted_10 (by decide) (fun c8 => ?_) (fun c8 => ?_)
  · replace h := h_f c8 h
    refine lv_aload_n hx hb dX11_charted_18 rfl (lv_at hl 1 rfl) ?_
    refine lv_iload_n hx hb dX11_charted_19 rfl (lv_at hl 0 rfl) ?_
    obtain ⟨q9, e10, h⟩ := bnd h
    refine call_i C hP hS (c_X11_depthOf e10) mi_X11_depthOf mw_1527 26 (by decide) rfl rfl ⟨Nat.le_of_ble_eq_true rfl, Nat.le_of_ble_eq_true rfl⟩ (As := [.int q6.1]) rfl hl.1 rfl (lv_room (Nat.le_of_ble_eq_true rfl)) dX11_charted_20 (fun H locs hP hS => ?_)
    exact ret_i C hr hlocks hP hS h dX11_charted_23
  · replace h := h_t c8 h
    refine lv_bipush (v := 40) hx hb dX11_charted_13 (by decide) ?_
    refine lv_goto (tgt := 23) hx hb dX11_charted_15 (by decide) ?_
    exact ret_i C hr hlocks hP hS h dX11_charted_23
set_option maxHeartbeats 4000000 in
set_option maxRecDepth 100000 in
theorem c_X11_eastOf {l : Launch} {G : GT} {lam : Lm} {σ : St} {a1 : Int32} {a2 : Int32} {q : Int32 × St} (h : f_X11_eastOf σ a1 a2 = some q) : Met l yX11_eastOf (Cond.code yX11_eastOf cX11_eastOf 3 ((some .int)) :: TB) ({ frames := 1, cells := 0, slots := 0, locals := 24 } : Room) (va_Pc [.ref (g_ad G 26), .int a1, .int a2] (GW G lam σ)) (Ri q G lam) 0 0 (g_A G) := by
  refine mk_Qi (own := RX11) (by decide) (Nat.le_of_ble_eq_true rfl) rfl (fun p e s m args below meth c C hr hlocks hP ls hl => ?_)
  have hx := C.1
  have hb := C.2.1
  have hl : lv_has ls 3 [(0, .ref (g_ad G 26)), (1, .int a1), (2, .int a2)] := hl
  have J27 : ∀ (σ : St) (t0 : Int32) (t1 : Int32) (H : Heap) (locs : List Loc) (ls : Array Slot), f_X11_eastOf_p27 σ t0 t1 = some q → va_P (g_D G) vwCl (allW G lam σ) H → va_S (g_A G) s.heap H locs → lv_has ls 3 [] → W p l e ({ frames := 1, cells := 0, slots := 0, locals := 24 } : Room) s m args below meth c H locs 0 0 (Qi q below args s G lam) (F0 m 27 ls [.int t0, .int t1]) := by
    intro σ t0 t1 H locs ls h hP hS hl
    unfold f_X11_eastOf_p27 at h
    refine lv_iadd hx hb dX11_eastOf_27 ?_
    exact ret_i C hr hlocks hP hS h dX11_eastOf_28
  have hS : va_S (g_A G) s.heap s.heap [] := va_S.rf
  unfold f_X11_eastOf at h
  obtain ⟨H, hH⟩ : ∃ H, H = s.heap := ⟨_, rfl⟩
  obtain ⟨locs, hlo⟩ : ∃ k : List Loc, k = [] := ⟨_, rfl⟩
  rw [← hH, ← hlo]
  rw [← hH] at hP
  replace hS : va_S (g_A G) s.heap H locs := by rw [hH, hlo]; exact hS
  refine lv_aload_n hx hb dX11_eastOf_0 rfl (lv_at hl 0 rfl) ?_
  refine lv_iload_n hx hb dX11_eastOf_1 rfl (lv_at hl 1 rfl) ?_
  refine lv_iconst (v := 1) hx hb dX11_eastOf_2 (by decide) ?_
  obtain ⟨q8, e9, h⟩ := bnd h
  refine call_i C hP hS (c_X11_of e9) mi_X11_of mw_1433 26 (by decide) rfl rfl ⟨Nat.le_of_ble_eq_true rfl, Nat.le_of_ble_eq_true rfl⟩ (As := [.int a1, .int 1]) rfl hl.1 rfl (lv_room (Nat.le_of_ble_eq_true rfl)) dX11_eastOf_3 (fun H locs hP hS => ?_)
  refine lv_aload_n hx hb dX11_eastOf_6 rfl (lv_at hl 0 rfl) ?_
  refine lv_iload_n hx hb dX11_eastOf_7 rfl (lv_at hl 1 rfl) ?_
  refine lv_iconst (v := 0) hx hb dX11_eastOf_8 (by decide) ?_
  obtain ⟨q10, e11, h⟩ := bnd h
  refine call_i C hP hS (c_X11_of e11) mi_X11_of mw_1433 26 (by decide) rfl rfl ⟨Nat.le_of_ble_eq_true rfl, Nat.le_of_ble_eq_true rfl⟩ (As := [.int a1, .int 0]) rfl hl.1 rfl (lv_room (Nat.le_of_ble_eq_true rfl)) dX11_eastOf_9 (fun H locs hP hS => ?_)
  refine lv_iconst (v := 3) hx hb dX11_eastOf_12 (by decide) ?_
  refine lv_icmp_ne (tgt := 26) hx hb dX11_eastOf_13 (by decide) (fun c12 => ?_) (fun c12 => ?_)
  · replace h := h_f c12 h
    refine lv_iconst (v := 0) hx hb dX11_eastOf_26 (by decide) ?_
    exact J27 _ _ _ H locs ls h hP hS (lv_sub hl [] rfl)
  · replace h := h_t c12 h
    refine lv_aload_n hx hb dX11_eastOf_16 rfl (lv_at hl 0 rfl) ?_
    refine lv_iload_n hx hb dX11_eastOf_17 rfl (lv_at hl 2 rfl) ?_
    obtain ⟨q13, e14, h⟩ := bnd h
    refine call_i C hP hS (c_X11_tideAt e14) mi_X11_tideAt mw_1494 26 (by decide) rfl rfl ⟨Nat.le_of_ble_eq_true rfl, Nat.le_of_ble_eq_true rfl⟩ (As := [.int a2]) rfl hl.1 rfl (lv_room (Nat.le_of_ble_eq_true rfl)) dX11_eastOf_18 (fun H locs hP hS => ?_)
    refine lv_iconst (v := 4) hx hb dX11_eastOf_21 (by decide) ?_
    refine lv_idiv hx hb dX11_eastOf_22 (by decide) ?_
    refine lv_goto (tgt := 27) hx hb dX11_eastOf_23 (by decide) ?_
    exact J27 _ _ _ H locs ls h hP hS (lv_sub hl [] rfl)
set_option maxHeartbeats 4000000 in
set_option maxRecDepth 100000 in
theorem c_X11_turn {l : Launch} {G : GT} {lam : Lm} {σ : St} {a1 : Int32} {a2 : Int32} {q : Int32 × St} (h : f_X11_turn σ a1 a2 = some q) : Met l yX11_turn (Cond.code yX11_turn cX11_turn 9 ((some .int)) :: TB) ({ frames := 0, cells := 0, slots := 0, locals := 0 } : Room) (va_Pc [.ref (g_ad G 26), .int a1, .int a2] (GW G lam σ)) (Ri q G lam) 0 0 (g_A G) := by
  refine mk_Qi (own := RX11) (by decide) (Nat.le_of_ble_eq_true rfl) rfl (fun p e s m args below meth c C hr hlocks hP ls hl => ?_)
  have hx := C.1
  have hb := C.2.1
  have hl : lv_has ls 9 [(0, .ref (g_ad G 26)), (1, .int a1), (2, .int a2)] := hl
  have L5 : ∀ (n5 : Nat) (σ : St) (x1 : Int32) (x2 : Int32) (x3 : Int32) (x4 : Int32) (H : Heap) (locs : List Loc) (ls : Array Slot), fx (F_X11_turn_h5) z_X11_turn_h5 n5 σ x1 x2 x3 x4 = some q → va_P (g_D G) vwCl (allW G lam σ) H → va_S (g_A G) s.heap H locs → lv_has ls 9 [(0, .ref (g_ad G 26)), (1, .int x1), (2, .int x2), (3, .int x3), (4, .int x4)] → W p l e ({ frames := 0, cells := 0, slots := 0, locals := 0 } : Room) s m args below meth c H locs 0 0 (Qi q below args s G lam) (F0 m 5 ls []) := by
    intro n5
    induction n5 with
    | zero => intro σ x1 x2 x3 x4 H locs ls h hP hS hl; exact absurd h (by intro h9; cases h9)
    | succ n5 ih5 =>
      have J134 : ∀ (σ : St) (x1 : Int32) (x2 : Int32) (x4 : Int32) (t0 : Int32) (H : Heap) (locs : List Loc) (ls : Array Slot), f_X11_turn_p134 (fx (F_X11_turn_h5) z_X11_turn_h5 n5) σ x1 x2 x4 t0 = some q → va_P (g_D G) vwCl (allW G lam σ) H → va_S (g_A G) s.heap H locs → lv_has ls 9 [(0, .ref (g_ad G 26)), (1, .int x1), (2, .int x2), (4, .int x4)] → W p l e ({ frames := 0, cells := 0, slots := 0, locals := 0 } : Room) s m args below meth c H locs 0 0 (Qi q below args s G lam) (F0 m 134 ls [.int t0]) := by
        intro σ x1 x2 x4 t0 H locs ls h hP hS hl
        unfold f_X11_turn_p134 at h
        refine lv_istore_n (lv' := [(3, .int t0), (0, .ref (g_ad G 26)), (1, .int x1), (2, .int x2), (4, .int x4)]) hx hb dX11_turn_134 rfl hl (by decide) rfl (fun ls hl => ?_)
        obtain ⟨y16, e17, h⟩ := bnd h
        refine lv_iinc (v := y16) (lv' := [(4, .int y16), (3, .int t0), (0, .ref (g_ad G 26)), (1, .int x1), (2, .int x2)]) hx hb dX11_turn_135 hl (k := 4) rfl (Option.some.inj e17) (by decide) rfl (fun ls hl => ?_)
        refine lv_goto (tgt := 5) hx hb dX11_turn_138 (by decide) ?_
        exact ih5 _ _ _ _ _ H locs ls h hP hS (lv_sub hl [2, 3, 4, 1, 0] rfl)
      have J133 : ∀ (σ : St) (x1 : Int32) (x2 : Int32) (x3 : Int32) (x4 : Int32) (H : Heap) (locs : List Loc) (ls : Array Slot), f_X11_turn_p133 (fx (F_X11_turn_h5) z_X11_turn_h5 n5) σ x1 x2 x3 x4 = some q → va_P (g_D G) vwCl (allW G lam σ) H → va_S (g_A G) s.heap H locs → lv_has ls 9 [(0, .ref (g_ad G 26)), (1, .int x1), (2, .int x2), (3, .int x3), (4, .int x4)] → W p l e ({ frames := 0, cells := 0, slots := 0, locals := 0 } : Room) s m args below meth c H locs 0 0 (Qi q below args s G lam) (F0 m 133 ls []) := by
        intro σ x1 x2 x3 x4 H locs ls h hP hS hl
        unfold f_X11_turn_p133 at h
        refine lv_iload_n hx hb dX11_turn_133 rfl (lv_at hl 3 rfl) ?_
        exact J134 _ _ _ _ _ H locs ls h hP hS (lv_sub hl [0, 1, 2, 4] rfl)
      have J109 : ∀ (σ : St) (x1 : Int32) (x2 : Int32) (x3 : Int32) (x4 : Int32) (x6 : Int32) (x7 : Int32) (x8 : Int32) (H : Heap) (locs : List Loc) (ls : Array Slot), f_X11_turn_p109 (fx (F_X11_turn_h5) z_X11_turn_h5 n5) σ x1 x2 x3 x4 x6 x7 x8 = some q → va_P (g_D G) vwCl (allW G lam σ) H → va_S (g_A G) s.heap H locs → lv_has ls 9 [(0, .ref (g_ad G 26)), (1, .int x1), (2, .int x2), (3, .int x3), (4, .int x4), (6, .int x6), (7, .int x7), (8, .int x8)] → W p l e ({ frames := 0, cells := 0, slots := 0, locals := 0 } : Room) s m args below meth c H locs 0 0 (Qi q below args s G lam) (F0 m 109 ls []) := by
        intro σ x1 x2 x3 x4 x6 x7 x8 H locs ls h hP hS hl
        unfold f_X11_turn_p109 at h
        refine lv_iload hx hb dX11_turn_109 (lv_at hl 7 rfl) ?_
        refine lv_if_eq (tgt := 133) hx hb dX11_turn_111 (by decide) (fun c18 => ?_) (fun c18 => ?_)
        · replace h := h_t c18 h
          exact J133 _ _ _ _ _ H locs ls h hP hS (lv_sub hl [0, 1, 2, 3, 4] rfl)
        · replace h := h_f c18 h
          refine lv_iload hx hb dX11_turn_114 (lv_at hl 5 rfl) ?_
          refine lv_if_ge (tgt := 133) hx hb dX11_turn_116 (by decide) (fun c19 => ?_) (fun c19 => ?_)
          · replace h := h_t c19 h
            exact J133 _ _ _ _ _ H locs ls h hP hS (lv_sub hl [0, 1, 2, 3, 4] rfl)
          · replace h := h_f c19 h
            refine lv_iload hx hb dX11_turn_119 (lv_at hl 6 rfl) ?_
            refine lv_if_le (tgt := 133) hx hb dX11_turn_121 (by decide) (fun c20 => ?_) (fun c20 => ?_)
            · replace h := h_t c20 h
              exact J133 _ _ _ _ _ H locs ls h hP hS (lv_sub hl [0, 1, 2, 3, 4] rfl)
            · replace h := h_f c20 h
              refine lv_iconst (v := 2) hx hb dX11_turn_124 (by decide) ?_
              refine lv_iload hx hb dX11_turn_125 (lv_at hl 4 rfl) ?_
              refine lv_imul hx hb dX11_turn_127 ?_
              refine lv_iconst (v := 1) hx hb dX11_turn_128 (by decide) ?_
              refine lv_iadd hx hb dX11_turn_129 ?_
              refine lv_goto (tgt := 134) hx hb dX11_turn_130 (by decide) ?_
              exact J134 _ _ _ _ _ H locs ls h hP hS (lv_sub hl [0, 1, 2, 4] rfl)
      have J90 : ∀ (σ : St) (x1 : Int32) (x2 : Int32) (x3 : Int32) (x4 : Int32) (x6 : Int32) (x7 : Int32) (t0 : Int32) (H : Heap) (locs : List Loc) (ls : Array Slot), f_X11_turn_p90 (fx (F_X11_turn_h5) z_X11_turn_h5 n5) σ x1 x2 x3 x4 x6 x7 t0 = some q → va_P (g_D G) vwCl (allW G lam σ) H → va_S (g_A G) s.heap H locs → lv_has ls 9 [(0, .ref (g_ad G 26)), (1, .int x1), (2, .int x2), (3, .int x3), (4, .int x4), (6, .int x6), (7, .int x7)] → W p l e ({ frames := 0, cells := 0, slots := 0, locals := 0 } : Room) s m args below meth c H locs 0 0 (Qi q below args s G lam) (F0 m 90 ls [.int t0]) := by
        intro σ x1 x2 x3 x4 x6 x7 t0 H locs ls h hP hS hl
        unfold f_X11_turn_p90 at h
        refine lv_istore (lv' := [(8, .int t0), (0, .ref (g_ad G 26)), (1, .int x1), (2, .int x2), (3, .int x3), (4, .int x4), (6, .int x6), (7, .int x7)]) hx hb dX11_turn_90 hl (by decide) rfl (fun ls hl => ?_)
        refine lv_iload hx hb dX11_turn_92 (lv_at hl 0 rfl) ?_
        refine lv_if_eq (tgt := 109) hx hb dX11_turn_94 (by decide) (fun c21 => ?_) (fun c21 => ?_)
        · replace h := h_t c21 h
          exact J109 _ _ _ _ _ _ _ _ H locs ls h hP hS (lv_sub hl [1, 2, 3, 4, 5, 6, 7, 0] rfl)
        · replace h := h_f c21 h
          refine lv_iload hx hb dX11_turn_97 (lv_at hl 6 rfl) ?_
          refine lv_if_ne (tgt := 109) hx hb dX11_turn_99 (by decide) (fun c22 => ?_) (fun c22 => ?_)
          · replace h := h_f c22 h
            exact J109 _ _ _ _ _ _ _ _ H locs ls h hP hS (lv_sub hl [1, 2, 3, 4, 5, 6, 7, 0] rfl)
          · replace h := h_t c22 h
            refine lv_iconst (v := 2) hx hb dX11_turn_102 (by decide) ?_
            refine lv_iload hx hb dX11_turn_103 (lv_at hl 5 rfl) ?_
            refine lv_imul hx hb dX11_turn_105 ?_
            refine lv_goto (tgt := 134) hx hb dX11_turn_106 (by decide) ?_
            exact J134 _ _ _ _ _ H locs ls h hP hS (lv_sub hl [1, 2, 3, 5] rfl)
      intro σ x1 x2 x3 x4 H locs ls h hP hS hl
      change F_X11_turn_h5 (fx (F_X11_turn_h5) z_X11_turn_h5 n5) σ x1 x2 x3 x4 = some q at h
      unfold F_X11_turn_h5 at h
      refine lv_iload hx hb dX11_turn_5 (lv_at hl 4 rfl) ?_
      refine lv_bipush (v := 16) hx hb dX11_turn_7 (by decide) ?_
      refine lv_icmp_ge (tgt := 141) hx hb dX11_turn_9 (by decide) (fun c23 => ?_) (fun c23 => ?_)
      · replace h := h_t c23 h
        refine lv_iload_n hx hb dX11_turn_141 rfl (lv_at hl 3 rfl) ?_
        exact ret_i C hr hlocks hP hS h dX11_turn_142
      · replace h := h_f c23 h
        refine lv_iload hx hb dX11_turn_12 (lv_at hl 4 rfl) ?_
        refine lv_iconst (v := 1) hx hb dX11_turn_14 (by decide) ?_
        refine lv_iadd hx hb dX11_turn_15 ?_
        refine lv_bipush (v := 16) hx hb dX11_turn_16 (by decide) ?_
        refine lv_irem hx hb dX11_turn_18 (by decide) ?_
        obtain ⟨y24, e25, h⟩ := bnd h
        refine r_nm e25 ?_
        refine lv_istore (lv' := [(5, .int y24), (0, .ref (g_ad G 26)), (1, .int x1), (2, .int x2), (3, .int x3), (4, .int x4)]) hx hb dX11_turn_19 hl (by decide) rfl (fun ls hl => ?_)
        refine lv_aload_n hx hb dX11_turn_21 rfl (lv_at hl 1 rfl) ?_
        refine gf_X11_20_26 C hP dX11_turn_22 ?_
        refine lv_iload hx hb dX11_turn_25 (lv_at hl 5 rfl) ?_
        obtain ⟨g26, h⟩ := h_g h
        refine r_ald C hP 30 (by decide) rfl (vp_in_iff.mpr g26) dX11_turn_27 ?_
        refine lv_iload_n hx hb dX11_turn_28 rfl (lv_at hl 3 rfl) ?_
        refine lv_imul hx hb dX11_turn_29 ?_
        refine lv_aload_n hx hb dX11_turn_30 rfl (lv_at hl 1 rfl) ?_
        refine gf_X11_23_26 C hP dX11_turn_31 ?_
        refine lv_iload hx hb dX11_turn_34 (lv_at hl 5 rfl) ?_
        obtain ⟨g27, h⟩ := h_g h
        refine r_ald C hP 31 (by decide) rfl (vp_in_iff.mpr g27) dX11_turn_36 ?_
        refine lv_iload_n hx hb dX11_turn_37 rfl (lv_at hl 2 rfl) ?_
        refine lv_imul hx hb dX11_turn_38 ?_
        refine lv_isub hx hb dX11_turn_39 ?_
        obtain ⟨y28, e29, h⟩ := bnd h
        refine r_nm e29 ?_
        refine lv_istore (lv' := [(6, .int y28), (5, .int y24), (0, .ref (g_ad G 26)), (1, .int x1), (2, .int x2), (3, .int x3), (4, .int x4)]) hx hb dX11_turn_40 hl (by decide) rfl (fun ls hl => ?_)
        refine lv_aload_n hx hb dX11_turn_42 rfl (lv_at hl 2 rfl) ?_
        refine gf_X11_20_26 C hP dX11_turn_43 ?_
        refine lv_iload hx hb dX11_turn_46 (lv_at hl 1 rfl) ?_
        obtain ⟨g30, h⟩ := h_g h
        refine r_ald C hP 30 (by decide) rfl (vp_in_iff.mpr g30) dX11_turn_48 ?_
        refine lv_iload_n hx hb dX11_turn_49 rfl (lv_at hl 4 rfl) ?_
        refine lv_imul hx hb dX11_turn_50 ?_
        refine lv_aload_n hx hb dX11_turn_51 rfl (lv_at hl 2 rfl) ?_
        refine gf_X11_23_26 C hP dX11_turn_52 ?_
        refine lv_iload hx hb dX11_turn_55 (lv_at hl 1 rfl) ?_
        obtain ⟨g31, h⟩ := h_g h
        refine r_ald C hP 31 (by decide) rfl (vp_in_iff.mpr g31) dX11_turn_57 ?_
        refine lv_iload_n hx hb dX11_turn_58 rfl (lv_at hl 3 rfl) ?_
        refine lv_imul hx hb dX11_turn_59 ?_
        refine lv_isub hx hb dX11_turn_60 ?_
        obtain ⟨y32, e33, h⟩ := bnd h
        refine r_nm e33 ?_
        refine lv_istore (lv' := [(7, .int y32), (6, .int y28), (5, .int y24), (0, .ref (g_ad G 26)), (1, .int x1), (2, .int x2), (3, .int x3), (4, .int x4)]) hx hb dX11_turn_61 hl (by decide) rfl (fun ls hl => ?_)
        refine lv_aload_n hx hb dX11_turn_63 rfl (lv_at hl 3 rfl) ?_
        refine gf_X11_20_26 C hP dX11_turn_64 ?_
        refine lv_iload hx hb dX11_turn_67 (lv_at hl 7 rfl) ?_
        obtain ⟨g34, h⟩ := h_g h
        refine r_ald C hP 30 (by decide) rfl (vp_in_iff.mpr g34) dX11_turn_69 ?_
        refine lv_iload_n hx hb dX11_turn_70 rfl (lv_at hl 4 rfl) ?_
        refine lv_imul hx hb dX11_turn_71 ?_
        refine lv_aload_n hx hb dX11_turn_72 rfl (lv_at hl 3 rfl) ?_
        refine gf_X11_23_26 C hP dX11_turn_73 ?_
        refine lv_iload hx hb dX11_turn_76 (lv_at hl 7 rfl) ?_
        obtain ⟨g35, h⟩ := h_g h
        refine r_ald C hP 31 (by decide) rfl (vp_in_iff.mpr g35) dX11_turn_78 ?_
        refine lv_iload_n hx hb dX11_turn_79 rfl (lv_at hl 5 rfl) ?_
        refine lv_imul hx hb dX11_turn_80 ?_
        refine lv_iadd hx hb dX11_turn_81 ?_
        refine lv_if_le (tgt := 89) hx hb dX11_turn_82 (by decide) (fun c36 => ?_) (fun c36 => ?_)
        · replace h := h_t c36 h
          refine lv_iconst (v := 0) hx hb dX11_turn_89 (by decide) ?_
          exact J90 _ _ _ _ _ _ _ _ H locs ls h hP hS (lv_sub hl [3, 4, 5, 6, 7, 1, 0] rfl)
        · replace h := h_f c36 h
          refine lv_iconst (v := 1) hx hb dX11_turn_85 (by decide) ?_
          refine lv_goto (tgt := 90) hx hb dX11_turn_86 (by decide) ?_
          exact J90 _ _ _ _ _ _ _ _ H locs ls h hP hS (lv_sub hl [3, 4, 5, 6, 7, 1, 0] rfl)
  have hS : va_S (g_A G) s.heap s.heap [] := va_S.rf
  unfold f_X11_turn at h
  obtain ⟨H, hH⟩ : ∃ H, H = s.heap := ⟨_, rfl⟩
  obtain ⟨locs, hlo⟩ : ∃ k : List Loc, k = [] := ⟨_, rfl⟩
  rw [← hH, ← hlo]
  rw [← hH] at hP
  replace hS : va_S (g_A G) s.heap H locs := by rw [hH, hlo]; exact hS
  refine lv_iconst (v := 0) hx hb dX11_turn_0 (by decide) ?_
  refine lv_istore_n (lv' := [(3, .int 0), (0, .ref (g_ad G 26)), (1, .int a1), (2, .int a2)]) hx hb dX11_turn_1 rfl hl (by decide) rfl (fun ls hl => ?_)
  refine lv_iconst (v := 0) hx hb dX11_turn_2 (by decide) ?_
  refine lv_istore (lv' := [(4, .int 0), (3, .int 0), (0, .ref (g_ad G 26)), (1, .int a1), (2, .int a2)]) hx hb dX11_turn_3 hl (by decide) rfl (fun ls hl => ?_)
  exact L5 FU _ _ _ _ _ H locs ls h hP hS (lv_sub hl [2, 3, 4, 1, 0] rfl)
set_option maxHeartbeats 4000000 in
set_option maxRecDepth 100000 in
theorem c_X11_isInSector {l : Launch} {G : GT} {lam : Lm} {σ : St} {a1 : Int32} {a2 : Int32} {a3 : Int32} {q : Int32 × St} (h : f_X11_isInSector σ a1 a2 a3 = some q) : Met l yX11_isInSector (Cond.code yX11_isInSector cX11_isInSector 8 ((some .boolean)) :: TB) ({ frames := 1, cells := 0, slots := 0, locals := 28 } : Room) (va_Pc [.ref (g_ad G 26), .int a1, .int a2, .int a3] (GW G lam σ)) (Ri q G lam) 0 0 (g_A G) := by
  refine mk_Qi (own := RX11) (by decide) (Nat.le_of_ble_eq_true rfl) rfl (fun p e s m args below meth c C hr hlocks hP ls hl => ?_)
  have hx := C.1
  have hb := C.2.1
  have hl : lv_has ls 8 [(0, .ref (g_ad G 26)), (1, .int a1), (2, .int a2), (3, .int a3)] := hl
  have J58 : ∀ (σ : St) (x4 : Int32) (x5 : Int32) (x6 : Int32) (x7 : Int32) (H : Heap) (locs : List Loc) (ls : Array Slot), f_X11_isInSector_p58 σ x4 x5 x6 x7 = some q → va_P (g_D G) vwCl (allW G lam σ) H → va_S (g_A G) s.heap H locs → lv_has ls 8 [(0, .ref (g_ad G 26)), (4, .int x4), (5, .int x5), (6, .int x6), (7, .int x7)] → W p l e ({ frames := 1, cells := 0, slots := 0, locals := 28 } : Room) s m args below meth c H locs 0 0 (Qi q below args s G lam) (F0 m 58 ls []) := by
    intro σ x4 x5 x6 x7 H locs ls h hP hS hl
    unfold f_X11_isInSector_p58 at h
    refine lv_aload_n hx hb dX11_isInSector_58 rfl (lv_at hl 0 rfl) ?_
    refine lv_iload hx hb dX11_isInSector_59 (lv_at hl 1 rfl) ?_
    refine lv_iload hx hb dX11_isInSector_61 (lv_at hl 2 rfl) ?_
    obtain ⟨q15, e16, h⟩ := bnd h
    refine call_i C hP hS (c_X11_turn e16) mi_X11_turn mw_1558 26 (by decide) rfl rfl ⟨Nat.le_of_ble_eq_true rfl, Nat.le_of_ble_eq_true rfl⟩ (As := [.int x4, .int x5]) rfl hl.1 rfl (lv_room (Nat.le_of_ble_eq_true rfl)) dX11_isInSector_63 (fun H locs hP hS => ?_)
    refine lv_iconst (v := 2) hx hb dX11_isInSector_66 (by decide) ?_
    refine lv_iload hx hb dX11_isInSector_67 (lv_at hl 3 rfl) ?_
    refine lv_imul hx hb dX11_isInSector_69 ?_
    refine lv_isub hx hb dX11_isInSector_70 ?_
    refine lv_bipush (v := 32) hx hb dX11_isInSector_71 (by decide) ?_
    refine lv_iadd hx hb dX11_isInSector_73 ?_
    refine lv_bipush (v := 32) hx hb dX11_isInSector_74 (by decide) ?_
    refine lv_irem hx hb dX11_isInSector_76 (by decide) ?_
    refine lv_iconst (v := 2) hx hb dX11_isInSector_77 (by decide) ?_
    refine lv_iload hx hb dX11_isInSector_78 (lv_at hl 4 rfl) ?_
    refine lv_imul hx hb dX11_isInSector_80 ?_
    refine lv_iconst (v := 2) hx hb dX11_isInSector_81 (by decide) ?_
    refine lv_iload hx hb dX11_isInSector_82 (lv_at hl 3 rfl) ?_
    refine lv_imul hx hb dX11_isInSector_84 ?_
    refine lv_isub hx hb dX11_isInSector_85 ?_
    refine lv_bipush (v := 32) hx hb dX11_isInSector_86 (by decide) ?_
    refine lv_iadd hx hb dX11_isInSector_88 ?_
    refine lv_bipush (v := 32) hx hb dX11_isInSector_89 (by decide) ?_
    refine lv_irem hx hb dX11_isInSector_91 (by decide) ?_
    refine lv_icmp_ge (tgt := 99) hx hb dX11_isInSector_92 (by decide) (fun c17 => ?_) (fun c17 => ?_)
    · replace h := h_t c17 h
      refine lv_iconst (v := 0) hx hb dX11_isInSector_99 (by decide) ?_
      exact ret_z C hr hlocks hP hS h (Or.inl rfl) dX11_isInSector_100
    · replace h := h_f c17 h
      refine lv_iconst (v := 1) hx hb dX11_isInSector_95 (by decide) ?_
      refine lv_goto (tgt := 100) hx hb dX11_isInSector_96 (by decide) ?_
      exact ret_z C hr hlocks hP hS h (Or.inr rfl) dX11_isInSector_100
  have hS : va_S (g_A G) s.heap s.heap [] := va_S.rf
  unfold f_X11_isInSector at h
  obtain ⟨H, hH⟩ : ∃ H, H = s.heap := ⟨_, rfl⟩
  obtain ⟨locs, hlo⟩ : ∃ k : List Loc, k = [] := ⟨_, rfl⟩
  rw [← hH, ← hlo]
  rw [← hH] at hP
  replace hS : va_S (g_A G) s.heap H locs := by rw [hH, hlo]; exact hS
  refine lv_iload_n hx hb dX11_isInSector_0 rfl (lv_at hl 2 rfl) ?_
  refine lv_aload_n hx hb dX11_isInSector_1 rfl (lv_at hl 0 rfl) ?_
  refine lv_iload_n hx hb dX11_isInSector_2 rfl (lv_at hl 1 rfl) ?_
  refine lv_iconst (v := 1) hx hb dX11_isInSector_3 (by decide) ?_
  obtain ⟨q18, e19, h⟩ := bnd h
  refine call_i C hP hS (c_X11_of e19) mi_X11_of mw_1433 26 (by decide) rfl rfl ⟨Nat.le_of_ble_eq_true rfl, Nat.le_of_ble_eq_true rfl⟩ (As := [.int a1, .int 1]) rfl hl.1 rfl (lv_room (Nat.le_of_ble_eq_true rfl)) dX11_isInSector_4 (fun H locs hP hS => ?_)
  refine lv_isub hx hb dX11_isInSector_7 ?_
  obtain ⟨y20, e21, h⟩ := bnd h
  refine r_nm e21 ?_
  refine lv_istore (lv' := [(4, .int y20), (0, .ref (g_ad G 26)), (1, .int a1), (2, .int a2), (3, .int a3)]) hx hb dX11_isInSector_8 hl (by decide) rfl (fun ls hl => ?_)
  refine lv_iload_n hx hb dX11_isInSector_10 rfl (lv_at hl 4 rfl) ?_
  refine lv_aload_n hx hb dX11_isInSector_11 rfl (lv_at hl 1 rfl) ?_
  refine lv_iload_n hx hb dX11_isInSector_12 rfl (lv_at hl 2 rfl) ?_
  refine lv_iconst (v := 2) hx hb dX11_isInSector_13 (by decide) ?_
  obtain ⟨q22, e23, h⟩ := bnd h
  refine call_i C hP hS (c_X11_of e23) mi_X11_of mw_1433 26 (by decide) rfl rfl ⟨Nat.le_of_ble_eq_true rfl, Nat.le_of_ble_eq_true rfl⟩ (As := [.int a1, .int 2]) rfl hl.1 rfl (lv_room (Nat.le_of_ble_eq_true rfl)) dX11_isInSector_14 (fun H locs hP hS => ?_)
  refine lv_isub hx hb dX11_isInSector_17 ?_
  obtain ⟨y24, e25, h⟩ := bnd h
  refine r_nm e25 ?_
  refine lv_istore (lv' := [(5, .int y24), (4, .int y20), (0, .ref (g_ad G 26)), (1, .int a1), (2, .int a2), (3, .int a3)]) hx hb dX11_isInSector_18 hl (by decide) rfl (fun ls hl => ?_)
  refine lv_aload_n hx hb dX11_isInSector_20 rfl (lv_at hl 2 rfl) ?_
  refine lv_iload_n hx hb dX11_isInSector_21 rfl (lv_at hl 3 rfl) ?_
  refine lv_iconst (v := 3) hx hb dX11_isInSector_22 (by decide) ?_
  obtain ⟨q26, e27, h⟩ := bnd h
  refine call_i C hP hS (c_X11_of e27) mi_X11_of mw_1433 26 (by decide) rfl rfl ⟨Nat.le_of_ble_eq_true rfl, Nat.le_of_ble_eq_true rfl⟩ (As := [.int a1, .int 3]) rfl hl.1 rfl (lv_room (Nat.le_of_ble_eq_true rfl)) dX11_isInSector_23 (fun H locs hP hS => ?_)
  refine lv_istore (lv' := [(6, .int q26.1), (5, .int y24), (4, .int y20), (0, .ref (g_ad G 26)), (1, .int a1), (2, .int a2), (3, .int a3)]) hx hb dX11_isInSector_26 hl (by decide) rfl (fun ls hl => ?_)
  refine lv_aload_n hx hb dX11_isInSector_28 rfl (lv_at hl 3 rfl) ?_
  refine lv_iload_n hx hb dX11_isInSector_29 rfl (lv_at hl 4 rfl) ?_
  refine lv_iconst (v := 4) hx hb dX11_isInSector_30 (by decide) ?_
  obtain ⟨q28, e29, h⟩ := bnd h
  refine call_i C hP hS (c_X11_of e29) mi_X11_of mw_1433 26 (by decide) rfl rfl ⟨Nat.le_of_ble_eq_true rfl, Nat.le_of_ble_eq_true rfl⟩ (As := [.int a1, .int 4]) rfl hl.1 rfl (lv_room (Nat.le_of_ble_eq_true rfl)) dX11_isInSector_31 (fun H locs hP hS => ?_)
  refine lv_bipush (v := 16) hx hb dX11_isInSector_34 (by decide) ?_
  refine lv_irem hx hb dX11_isInSector_36 (by decide) ?_
  obtain ⟨y30, e31, h⟩ := bnd h
  refine r_nm e31 ?_
  refine lv_istore (lv' := [(7, .int y30), (6, .int q26.1), (5, .int y24), (4, .int y20), (0, .ref (g_ad G 26)), (1, .int a1), (2, .int a2), (3, .int a3)]) hx hb dX11_isInSector_37 hl (by decide) rfl (fun ls hl => ?_)
  refine lv_iload hx hb dX11_isInSector_39 (lv_at hl 1 rfl) ?_
  refine lv_iload hx hb dX11_isInSector_41 (lv_at hl 0 rfl) ?_
  refine lv_icmp_eq (tgt := 56) hx hb dX11_isInSector_43 (by decide) (fun c32 => ?_) (fun c32 => ?_)
  · replace h := h_t c32 h
    refine lv_iconst (v := 1) hx hb dX11_isInSector_56 (by decide) ?_
    exact ret_z C hr hlocks hP hS h (Or.inr rfl) dX11_isInSector_57
  · replace h := h_f c32 h
    refine lv_iload hx hb dX11_isInSector_46 (lv_at hl 3 rfl) ?_
    refine lv_if_ne (tgt := 58) hx hb dX11_isInSector_48 (by decide) (fun c33 => ?_) (fun c33 => ?_)
    · replace h := h_f c33 h
      exact J58 _ _ _ _ _ H locs ls h hP hS (lv_sub hl [4, 3, 2, 1, 0] rfl)
    · replace h := h_t c33 h
      refine lv_iload hx hb dX11_isInSector_51 (lv_at hl 2 rfl) ?_
      refine lv_if_ne (tgt := 58) hx hb dX11_isInSector_53 (by decide) (fun c34 => ?_) (fun c34 => ?_)
      · replace h := h_f c34 h
        exact J58 _ _ _ _ _ H locs ls h hP hS (lv_sub hl [4, 3, 2, 1, 0] rfl)
      · replace h := h_t c34 h
        refine lv_iconst (v := 1) hx hb dX11_isInSector_56 (by decide) ?_
        exact ret_z C hr hlocks hP hS h (Or.inr rfl) dX11_isInSector_57
set_option maxHeartbeats 4000000 in
set_option maxRecDepth 100000 in
theorem c_X11_isSeen {l : Launch} {G : GT} {lam : Lm} {σ : St} {a1 : Int32} {a2 : Int32} {a3 : Int32} {a4 : Int32} {q : Int32 × St} (h : f_X11_isSeen σ a1 a2 a3 a4 = some q) : Met l yX11_isSeen (Cond.code yX11_isSeen cX11_isSeen 6 ((some .boolean)) :: TB) ({ frames := 2, cells := 0, slots := 0, locals := 55 } : Room) (va_Pc [.ref (g_ad G 26), .int a1, .int a2, .int a3, .int a4] (GW G lam σ)) (Ri q G lam) 0 0 (g_A G) := by
  refine mk_Qi (own := RX11) (by decide) (Nat.le_of_ble_eq_true rfl) rfl (fun p e s m args below meth c C hr hlocks hP ls hl => ?_)
  have hx := C.1
  have hb := C.2.1
  have hl : lv_has ls 6 [(0, .ref (g_ad G 26)), (1, .int a1), (2, .int a2), (3, .int a3), (4, .int a4)] := hl
  have J75 : ∀ (σ : St) (t0 : Int32) (t1 : Int32) (H : Heap) (locs : List Loc) (ls : Array Slot), f_X11_isSeen_p75 σ t0 t1 = some q → va_P (g_D G) vwCl (allW G lam σ) H → va_S (g_A G) s.heap H locs → lv_has ls 6 [] → W p l e ({ frames := 2, cells := 0, slots := 0, locals := 55 } : Room) s m args below meth c H locs 0 0 (Qi q below args s G lam) (F0 m 75 ls [.int t0, .int t1]) := by
    intro σ t0 t1 H locs ls h hP hS hl
    unfold f_X11_isSeen_p75 at h
    refine lv_icmp_gt (tgt := 82) hx hb dX11_isSeen_75 (by decide) (fun c20 => ?_) (fun c20 => ?_)
    · replace h := h_t c20 h
      refine lv_iconst (v := 0) hx hb dX11_isSeen_82 (by decide) ?_
      exact ret_z C hr hlocks hP hS h (Or.inl rfl) dX11_isSeen_83
    · replace h := h_f c20 h
      refine lv_iconst (v := 1) hx hb dX11_isSeen_78 (by decide) ?_
      refine lv_goto (tgt := 83) hx hb dX11_isSeen_79 (by decide) ?_
      exact ret_z C hr hlocks hP hS h (Or.inr rfl) dX11_isSeen_83
  have hS : va_S (g_A G) s.heap s.heap [] := va_S.rf
  unfold f_X11_isSeen at h
  obtain ⟨H, hH⟩ : ∃ H, H = s.heap := ⟨_, rfl⟩
  obtain ⟨locs, hlo⟩ : ∃ k : List Loc, k = [] := ⟨_, rfl⟩
  rw [← hH, ← hlo]
  rw [← hH] at hP
  replace hS : va_S (g_A G) s.heap H locs := by rw [hH, hlo]; exact hS
  refine lv_aload_n hx hb dX11_isSeen_0 rfl (lv_at hl 0 rfl) ?_
  refine gf_X11_211_26 C hP dX11_isSeen_1 ?_
  refine lv_iload_n hx hb dX11_isSeen_4 rfl (lv_at hl 1 rfl) ?_
  obtain ⟨q21, e22, h⟩ := bnd h
  refine scall_i C hP hS (c_X11_has e22) ms_X11_has mw_1551 ⟨Nat.le_of_ble_eq_true rfl, Nat.le_of_ble_eq_true rfl⟩ (As := [.int (σ 26 13), .int a1]) rfl hl.1 rfl (lv_room (Nat.le_of_ble_eq_true rfl)) dX11_isSeen_5 (fun H locs hP hS => ?_)
  refine lv_if_eq (tgt := 13) hx hb dX11_isSeen_8 (by decide) (fun c23 => ?_) (fun c23 => ?_)
  · replace h := h_t c23 h
    refine lv_iload_n hx hb dX11_isSeen_13 rfl (lv_at hl 2 rfl) ?_
    refine lv_aload_n hx hb dX11_isSeen_14 rfl (lv_at hl 0 rfl) ?_
    refine lv_iload_n hx hb dX11_isSeen_15 rfl (lv_at hl 1 rfl) ?_
    refine lv_iload hx hb dX11_isSeen_16 (lv_at hl 4 rfl) ?_
    obtain ⟨q24, e25, h⟩ := bnd h
    refine call_i C hP hS (c_X11_eastOf e25) mi_X11_eastOf mw_1539 26 (by decide) rfl rfl ⟨Nat.le_of_ble_eq_true rfl, Nat.le_of_ble_eq_true rfl⟩ (As := [.int a1, .int a4]) rfl hl.1 rfl (lv_room (Nat.le_of_ble_eq_true rfl)) dX11_isSeen_18 (fun H locs hP hS => ?_)
    refine lv_isub hx hb dX11_isSeen_21 ?_
    refine lv_iload_n hx hb dX11_isSeen_22 rfl (lv_at hl 3 rfl) ?_
    refine lv_aload_n hx hb dX11_isSeen_23 rfl (lv_at hl 0 rfl) ?_
    refine lv_iload_n hx hb dX11_isSeen_24 rfl (lv_at hl 1 rfl) ?_
    refine lv_iconst (v := 2) hx hb dX11_isSeen_25 (by decide) ?_
    obtain ⟨q26, e27, h⟩ := bnd h
    refine call_i C hP hS (c_X11_of e27) mi_X11_of mw_1433 26 (by decide) rfl rfl ⟨Nat.le_of_ble_eq_true rfl, Nat.le_of_ble_eq_true rfl⟩ (As := [.int a1, .int 2]) rfl hl.1 rfl (lv_room (Nat.le_of_ble_eq_true rfl)) dX11_isSeen_26 (fun H locs hP hS => ?_)
    refine lv_isub hx hb dX11_isSeen_29 ?_
    obtain ⟨q28, e29, h⟩ := bnd h
    refine scall_i C hP hS (c_X11_square e29) ms_X11_square mw_1524 ⟨Nat.le_of_ble_eq_true rfl, Nat.le_of_ble_eq_true rfl⟩ (As := [.int (a2 - q24.1), .int (a3 - q26.1)]) rfl hl.1 rfl (lv_room (Nat.le_of_ble_eq_true rfl)) dX11_isSeen_30 (fun H locs hP hS => ?_)
    refine lv_istore (lv' := [(5, .int q28.1), (0, .ref (g_ad G 26)), (1, .int a1), (2, .int a2), (3, .int a3), (4, .int a4)]) hx hb dX11_isSeen_33 hl (by decide) rfl (fun ls hl => ?_)
    refine lv_aload_n hx hb dX11_isSeen_35 rfl (lv_at hl 1 rfl) ?_
    refine lv_iload_n hx hb dX11_isSeen_36 rfl (lv_at hl 2 rfl) ?_
    refine lv_iconst (v := 0) hx hb dX11_isSeen_37 (by decide) ?_
    obtain ⟨q30, e31, h⟩ := bnd h
    refine call_i C hP hS (c_X11_of e31) mi_X11_of mw_1433 26 (by decide) rfl rfl ⟨Nat.le_of_ble_eq_true rfl, Nat.le_of_ble_eq_true rfl⟩ (As := [.int a1, .int 0]) rfl hl.1 rfl (lv_room (Nat.le_of_ble_eq_true rfl)) dX11_isSeen_38 (fun H locs hP hS => ?_)
    refine lv_iconst (v := 2) hx hb dX11_isSeen_41 (by decide) ?_
    refine lv_icmp_ne (tgt := 55) hx hb dX11_isSeen_42 (by decide) (fun c32 => ?_) (fun c32 => ?_)
    · replace h := h_f c32 h
      refine lv_iload hx hb dX11_isSeen_55 (lv_at hl 0 rfl) ?_
      refine lv_aload_n hx hb dX11_isSeen_57 rfl (lv_at hl 1 rfl) ?_
      refine lv_iload_n hx hb dX11_isSeen_58 rfl (lv_at hl 2 rfl) ?_
      refine lv_iconst (v := 0) hx hb dX11_isSeen_59 (by decide) ?_
      obtain ⟨q33, e34, h⟩ := bnd h
      refine call_i C hP hS (c_X11_of e34) mi_X11_of mw_1433 26 (by decide) rfl rfl ⟨Nat.le_of_ble_eq_true rfl, Nat.le_of_ble_eq_true rfl⟩ (As := [.int a1, .int 0]) rfl hl.1 rfl (lv_room (Nat.le_of_ble_eq_true rfl)) dX11_isSeen_60 (fun H locs hP hS => ?_)
      refine lv_iconst (v := 1) hx hb dX11_isSeen_63 (by decide) ?_
      refine lv_icmp_ne (tgt := 73) hx hb dX11_isSeen_64 (by decide) (fun c35 => ?_) (fun c35 => ?_)
      · replace h := h_f c35 h
        refine lv_bipush (v := 100) hx hb dX11_isSeen_73 (by decide) ?_
        exact J75 _ _ _ H locs ls h hP hS (lv_sub hl [] rfl)
      · replace h := h_t c35 h
        refine lv_sipush (v := 400) hx hb dX11_isSeen_67 (by decide) ?_
        refine lv_goto (tgt := 75) hx hb dX11_isSeen_70 (by decide) ?_
        exact J75 _ _ _ H locs ls h hP hS (lv_sub hl [] rfl)
    · replace h := h_t c32 h
      refine lv_aload_n hx hb dX11_isSeen_45 rfl (lv_at hl 1 rfl) ?_
      refine lv_iload_n hx hb dX11_isSeen_46 rfl (lv_at hl 2 rfl) ?_
      refine lv_iload_n hx hb dX11_isSeen_47 rfl (lv_at hl 3 rfl) ?_
      refine lv_iload_n hx hb dX11_isSeen_48 rfl (lv_at hl 4 rfl) ?_
      obtain ⟨q36, e37, h⟩ := bnd h
      refine call_i C hP hS (c_X11_isInSector e37) mi_X11_isInSector mw_1554 26 (by decide) rfl rfl ⟨Nat.le_of_ble_eq_true rfl, Nat.le_of_ble_eq_true rfl⟩ (As := [.int a1, .int a2, .int a3]) rfl hl.1 rfl (lv_room (Nat.le_of_ble_eq_true rfl)) dX11_isSeen_49 (fun H locs hP hS => ?_)
      refine lv_goto (tgt := 83) hx hb dX11_isSeen_52 (by decide) ?_
      obtain ⟨g38, h⟩ := h_g h
      exact ret_z C hr hlocks hP hS h g38 dX11_isSeen_83
  · replace h := h_f c23 h
    refine lv_iconst (v := 0) hx hb dX11_isSeen_11 (by decide) ?_
    exact ret_z C hr hlocks hP hS h (Or.inl rfl) dX11_isSeen_12
set_option maxHeartbeats 4000000 in
set_option maxRecDepth 100000 in
theorem c_X11_isMinute {l : Launch} {G : GT} {lam : Lm} {σ : St} {a1 : Int32} {q : Int32 × St} (h : f_X11_isMinute σ a1 = some q) : Met l yX11_isMinute (Cond.code yX11_isMinute cX11_isMinute 1 ((some .boolean)) :: TB) ({ frames := 1, cells := 0, slots := 0, locals := 25 } : Room) (va_Pc [.int a1] (GW G lam σ)) (Ri q G lam) 0 0 (g_A G) := by
  refine mk_Qi (own := RX11) (by decide) (Nat.le_of_ble_eq_true rfl) rfl (fun p e s m args below meth c C hr hlocks hP ls hl => ?_)
  have hx := C.1
  have hb := C.2.1
  have hl : lv_has ls 1 [(0, .int a1)] := hl
  have hS : va_S (g_A G) s.heap s.heap [] := va_S.rf
  unfold f_X11_isMinute at h
  refine lv_iload_n hx hb dX11_isMinute_0 rfl (lv_at hl 0 rfl) ?_
  refine lv_i2l hx hb dX11_isMinute_1 rfl ?_
  refine lv_lconst (v := 0) hx hb dX11_isMinute_2 (by decide) ?_
  refine lv_ldc2 hx hb C.2.2.2.1 (C.2.2.2.2.1 _ mw_1493) dX11_isMinute_3 ?_
  obtain ⟨q4, e5, h⟩ := bnd h
  refine scall_i C hP hS (c_X11_in e5) ms_X11_in mw_1320 ⟨Nat.le_of_ble_eq_true rfl, Nat.le_of_ble_eq_true rfl⟩ (As := [.long ((a1 : Int32).toInt64), .long (0), .long (9999)]) rfl hl.1 rfl (lv_room (Nat.le_of_ble_eq_true rfl)) dX11_isMinute_6 (fun H locs hP hS => ?_)
  obtain ⟨g6, h⟩ := h_g h
  exact ret_z C hr hlocks hP hS h g6 dX11_isMinute_9
set_option maxHeartbeats 4000000 in
set_option maxRecDepth 100000 in
theorem c_X11_isPlace {l : Launch} {G : GT} {lam : Lm} {σ : St} {a1 : Int32} {a2 : Int32} {q : Int32 × St} (h : f_X11_isPlace σ a1 a2 = some q) : Met l yX11_isPlace (Cond.code yX11_isPlace cX11_isPlace 2 ((some .boolean)) :: TB) ({ frames := 1, cells := 0, slots := 0, locals := 25 } : Room) (va_Pc [.int a1, .int a2] (GW G lam σ)) (Ri q G lam) 0 0 (g_A G) := by
  refine mk_Qi (own := RX11) (by decide) (Nat.le_of_ble_eq_true rfl) rfl (fun p e s m args below meth c C hr hlocks hP ls hl => ?_)
  have hx := C.1
  have hb := C.2.1
  have hl : lv_has ls 2 [(0, .int a1), (1, .int a2)] := hl
  have hS : va_S (g_A G) s.heap s.heap [] := va_S.rf
  unfold f_X11_isPlace at h
  refine lv_iload_n hx hb dX11_isPlace_0 rfl (lv_at hl 0 rfl) ?_
  refine lv_i2l hx hb dX11_isPlace_1 rfl ?_
  refine lv_lconst (v := 0) hx hb dX11_isPlace_2 (by decide) ?_
  refine lv_ldc2 hx hb C.2.2.2.1 (C.2.2.2.2.1 _ mw_1417) dX11_isPlace_3 ?_
  obtain ⟨q7, e8, h⟩ := bnd h
  refine scall_i C hP hS (c_X11_in e8) ms_X11_in mw_1320 ⟨Nat.le_of_ble_eq_true rfl, Nat.le_of_ble_eq_true rfl⟩ (As := [.long ((a1 : Int32).toInt64), .long (0), .long (60)]) rfl hl.1 rfl (lv_room (Nat.le_of_ble_eq_true rfl)) dX11_isPlace_6 (fun H locs hP hS => ?_)
  refine lv_if_eq (tgt := 28) hx hb dX11_isPlace_9 (by decide) (fun c9 => ?_) (fun c9 => ?_)
  · replace h := h_t c9 h
    refine lv_iconst (v := 0) hx hb dX11_isPlace_28 (by decide) ?_
    exact ret_z C hr hlocks hP hS h (Or.inl rfl) dX11_isPlace_29
  · replace h := h_f c9 h
    refine lv_iload_n hx hb dX11_isPlace_12 rfl (lv_at hl 1 rfl) ?_
    refine lv_i2l hx hb dX11_isPlace_13 rfl ?_
    refine lv_lconst (v := 0) hx hb dX11_isPlace_14 (by decide) ?_
    refine lv_ldc2 hx hb C.2.2.2.1 (C.2.2.2.2.1 _ mw_1417) dX11_isPlace_15 ?_
    obtain ⟨q10, e11, h⟩ := bnd h
    refine scall_i C hP hS (c_X11_in e11) ms_X11_in mw_1320 ⟨Nat.le_of_ble_eq_true rfl, Nat.le_of_ble_eq_true rfl⟩ (As := [.long ((a2 : Int32).toInt64), .long (0), .long (60)]) rfl hl.1 rfl (lv_room (Nat.le_of_ble_eq_true rfl)) dX11_isPlace_18 (fun H locs hP hS => ?_)
    refine lv_if_eq (tgt := 28) hx hb dX11_isPlace_21 (by decide) (fun c12 => ?_) (fun c12 => ?_)
    · replace h := h_t c12 h
      refine lv_iconst (v := 0) hx hb dX11_isPlace_28 (by decide) ?_
      exact ret_z C hr hlocks hP hS h (Or.inl rfl) dX11_isPlace_29
    · replace h := h_f c12 h
      refine lv_iconst (v := 1) hx hb dX11_isPlace_24 (by decide) ?_
      refine lv_goto (tgt := 29) hx hb dX11_isPlace_25 (by decide) ?_
      exact ret_z C hr hlocks hP hS h (Or.inr rfl) dX11_isPlace_29
set_option maxHeartbeats 4000000 in
set_option maxRecDepth 100000 in
theorem c_X11_height {l : Launch} {G : GT} {lam : Lm} {σ : St} {a1 : Int32} {q : Int32 × St} (h : f_X11_height σ a1 = some q) : Met l yX11_height (Cond.code yX11_height cX11_height 2 ((some .int)) :: TB) ({ frames := 2, cells := 0, slots := 0, locals := 45 } : Room) (va_Pc [.ref (g_ad G 26), .int a1] (GW G lam σ)) (Ri q G lam) 0 0 (g_A G) := by
  refine mk_Qi (own := RX11) (by decide) (Nat.le_of_ble_eq_true rfl) rfl (fun p e s m args below meth c C hr hlocks hP ls hl => ?_)
  have hx := C.1
  have hb := C.2.1
  have hl : lv_has ls 2 [(0, .ref (g_ad G 26)), (1, .int a1)] := hl
  have hS : va_S (g_A G) s.heap s.heap [] := va_S.rf
  unfold f_X11_height at h
  refine lv_aload_n hx hb dX11_height_0 rfl (lv_at hl 0 rfl) ?_
  obtain ⟨q9, e10, h⟩ := bnd h
  refine call_i C hP hS (c_X11_isSheet e10) mi_X11_isSheet mw_1441 26 (by decide) rfl rfl ⟨Nat.le_of_ble_eq_true rfl, Nat.le_of_ble_eq_true rfl⟩ (As := []) rfl hl.1 rfl (lv_room (Nat.le_of_ble_eq_true rfl)) dX11_height_1 (fun H locs hP hS => ?_)
  refine lv_if_ne (tgt := 12) hx hb dX11_height_4 (by decide) (fun c11 => ?_) (fun c11 => ?_)
  · replace h := h_f c11 h
    refine lv_iload_n hx hb dX11_height_12 rfl (lv_at hl 1 rfl) ?_
    obtain ⟨q12, e13, h⟩ := bnd h
    refine scall_i C hP hS (c_X11_isMinute e13) ms_X11_isMinute mw_1490 ⟨Nat.le_of_ble_eq_true rfl, Nat.le_of_ble_eq_true rfl⟩ (As := [.int a1]) rfl hl.1 rfl (lv_room (Nat.le_of_ble_eq_true rfl)) dX11_height_13 (fun H locs hP hS => ?_)
    refine lv_if_ne (tgt := 24) hx hb dX11_height_16 (by decide) (fun c14 => ?_) (fun c14 => ?_)
    · replace h := h_f c14 h
      refine lv_aload_n hx hb dX11_height_24 rfl (lv_at hl 0 rfl) ?_
      refine lv_iload_n hx hb dX11_height_25 rfl (lv_at hl 1 rfl) ?_
      obtain ⟨q15, e16, h⟩ := bnd h
      refine call_i C hP hS (c_X11_tideAt e16) mi_X11_tideAt mw_1494 26 (by decide) rfl rfl ⟨Nat.le_of_ble_eq_true rfl, Nat.le_of_ble_eq_true rfl⟩ (As := [.int a1]) rfl hl.1 rfl (lv_room (Nat.le_of_ble_eq_true rfl)) dX11_height_26 (fun H locs hP hS => ?_)
      exact ret_i C hr hlocks hP hS h dX11_height_29
    · replace h := h_t c14 h
      refine lv_ldc hx hb C.2.2.2.1 (C.2.2.2.2.1 _ mw_1323) dX11_height_19 ?_
      refine lv_goto (tgt := 29) hx hb dX11_height_21 (by decide) ?_
      exact ret_i C hr hlocks hP hS h dX11_height_29
  · replace h := h_t c11 h
    refine lv_ldc hx hb C.2.2.2.1 (C.2.2.2.2.1 _ mw_1403) dX11_height_7 ?_
    refine lv_goto (tgt := 29) hx hb dX11_height_9 (by decide) ?_
    exact ret_i C hr hlocks hP hS h dX11_height_29
set_option maxHeartbeats 4000000 in
set_option maxRecDepth 100000 in
theorem c_X11_water {l : Launch} {G : GT} {lam : Lm} {σ : St} {a1 : Int32} {a2 : Int32} {a3 : Int32} {q : Int32 × St} (h : f_X11_water σ a1 a2 a3 = some q) : Met l yX11_water (Cond.code yX11_water cX11_water 4 ((some .int)) :: TB) ({ frames := 4, cells := 0, slots := 0, locals := 95 } : Room) (va_Pc [.ref (g_ad G 26), .int a1, .int a2, .int a3] (GW G lam σ)) (Ri q G lam) 0 0 (g_A G) := by
  refine mk_Qi (own := RX11) (by decide) (Nat.le_of_ble_eq_true rfl) rfl (fun p e s m args below meth c C hr hlocks hP ls hl => ?_)
  have hx := C.1
  have hb := C.2.1
  have hl : lv_has ls 4 [(0, .ref (g_ad G 26)), (1, .int a1), (2, .int a2), (3, .int a3)] := hl
  have hS : va_S (g_A G) s.heap s.heap [] := va_S.rf
  unfold f_X11_water at h
  refine lv_aload_n hx hb dX11_water_0 rfl (lv_at hl 0 rfl) ?_
  obtain ⟨q15, e16, h⟩ := bnd h
  refine call_i C hP hS (c_X11_isSheet e16) mi_X11_isSheet mw_1441 26 (by decide) rfl rfl ⟨Nat.le_of_ble_eq_true rfl, Nat.le_of_ble_eq_true rfl⟩ (As := []) rfl hl.1 rfl (lv_room (Nat.le_of_ble_eq_true rfl)) dX11_water_1 (fun H locs hP hS => ?_)
  refine lv_if_ne (tgt := 10) hx hb dX11_water_4 (by decide) (fun c17 => ?_) (fun c17 => ?_)
  · replace h := h_f c17 h
    refine lv_iload_n hx hb dX11_water_10 rfl (lv_at hl 1 rfl) ?_
    refine lv_iload_n hx hb dX11_water_11 rfl (lv_at hl 2 rfl) ?_
    obtain ⟨q18, e19, h⟩ := bnd h
    refine scall_i C hP hS (c_X11_isPlace e19) ms_X11_isPlace mw_1502 ⟨Nat.le_of_ble_eq_true rfl, Nat.le_of_ble_eq_true rfl⟩ (As := [.int a1, .int a2]) rfl hl.1 rfl (lv_room (Nat.le_of_ble_eq_true rfl)) dX11_water_12 (fun H locs hP hS => ?_)
    refine lv_if_eq (tgt := 28) hx hb dX11_water_15 (by decide) (fun c20 => ?_) (fun c20 => ?_)
    · replace h := h_t c20 h
      refine lv_ldc hx hb C.2.2.2.1 (C.2.2.2.2.1 _ mw_1323) dX11_water_28 ?_
      refine lv_goto (tgt := 52) hx hb dX11_water_30 (by decide) ?_
      exact ret_i C hr hlocks hP hS h dX11_water_52
    · replace h := h_f c20 h
      refine lv_iload_n hx hb dX11_water_18 rfl (lv_at hl 3 rfl) ?_
      refine lv_i2l hx hb dX11_water_19 rfl ?_
      refine lv_lconst (v := 0) hx hb dX11_water_20 (by decide) ?_
      refine lv_lconst (v := 1) hx hb dX11_water_21 (by decide) ?_
      obtain ⟨q21, e22, h⟩ := bnd h
      refine scall_i C hP hS (c_X11_in e22) ms_X11_in mw_1320 ⟨Nat.le_of_ble_eq_true rfl, Nat.le_of_ble_eq_true rfl⟩ (As := [.long ((a3 : Int32).toInt64), .long (0), .long (1)]) rfl hl.1 rfl (lv_room (Nat.le_of_ble_eq_true rfl)) dX11_water_22 (fun H locs hP hS => ?_)
      refine lv_if_ne (tgt := 33) hx hb dX11_water_25 (by decide) (fun c23 => ?_) (fun c23 => ?_)
      · replace h := h_f c23 h
        refine lv_iload_n hx hb dX11_water_33 rfl (lv_at hl 3 rfl) ?_
        refine lv_if_ne (tgt := 46) hx hb dX11_water_34 (by decide) (fun c24 => ?_) (fun c24 => ?_)
        · replace h := h_f c24 h
          refine lv_aload_n hx hb dX11_water_46 rfl (lv_at hl 0 rfl) ?_
          refine lv_iload_n hx hb dX11_water_47 rfl (lv_at hl 1 rfl) ?_
          refine lv_iload_n hx hb dX11_water_48 rfl (lv_at hl 2 rfl) ?_
          obtain ⟨q25, e26, h⟩ := bnd h
          refine call_i C hP hS (c_X11_shoalAt e26) mi_X11_shoalAt mw_1509 26 (by decide) rfl rfl ⟨Nat.le_of_ble_eq_true rfl, Nat.le_of_ble_eq_true rfl⟩ (As := [.int a1, .int a2]) rfl hl.1 rfl (lv_room (Nat.le_of_ble_eq_true rfl)) dX11_water_49 (fun H locs hP hS => ?_)
          exact ret_i C hr hlocks hP hS h dX11_water_52
        · replace h := h_t c24 h
          refine lv_aload_n hx hb dX11_water_37 rfl (lv_at hl 0 rfl) ?_
          refine lv_iload_n hx hb dX11_water_38 rfl (lv_at hl 1 rfl) ?_
          refine lv_iload_n hx hb dX11_water_39 rfl (lv_at hl 2 rfl) ?_
          obtain ⟨q27, e28, h⟩ := bnd h
          refine call_i C hP hS (c_X11_charted e28) mi_X11_charted mw_1505 26 (by decide) rfl rfl ⟨Nat.le_of_ble_eq_true rfl, Nat.le_of_ble_eq_true rfl⟩ (As := [.int a1, .int a2]) rfl hl.1 rfl (lv_room (Nat.le_of_ble_eq_true rfl)) dX11_water_40 (fun H locs hP hS => ?_)
          refine lv_goto (tgt := 52) hx hb dX11_water_43 (by decide) ?_
          exact ret_i C hr hlocks hP hS h dX11_water_52
      · replace h := h_t c23 h
        refine lv_ldc hx hb C.2.2.2.1 (C.2.2.2.2.1 _ mw_1323) dX11_water_28 ?_
        refine lv_goto (tgt := 52) hx hb dX11_water_30 (by decide) ?_
        exact ret_i C hr hlocks hP hS h dX11_water_52
  · replace h := h_t c17 h
    refine lv_ldc hx hb C.2.2.2.1 (C.2.2.2.2.1 _ mw_1403) dX11_water_7 ?_
    exact ret_i C hr hlocks hP hS h dX11_water_9
set_option maxHeartbeats 4000000 in
set_option maxRecDepth 100000 in
theorem c_X11_mark {l : Launch} {G : GT} {lam : Lm} {σ : St} {a1 : Int32} {a2 : Int32} {a3 : Int32} {q : Int32 × St} (h : f_X11_mark σ a1 a2 a3 = some q) : Met l yX11_mark (Cond.code yX11_mark cX11_mark 4 ((some .int)) :: TB) ({ frames := 3, cells := 0, slots := 0, locals := 67 } : Room) (va_Pc [.ref (g_ad G 26), .int a1, .int a2, .int a3] (GW G lam σ)) (Ri q G lam) 0 0 (g_A G) := by
  refine mk_Qi (own := RX11) (by decide) (Nat.le_of_ble_eq_true rfl) rfl (fun p e s m args below meth c C hr hlocks hP ls hl => ?_)
  have hx := C.1
  have hb := C.2.1
  have hl : lv_has ls 4 [(0, .ref (g_ad G 26)), (1, .int a1), (2, .int a2), (3, .int a3)] := hl
  have hS : va_S (g_A G) s.heap s.heap [] := va_S.rf
  unfold f_X11_mark at h
  refine lv_aload_n hx hb dX11_mark_0 rfl (lv_at hl 0 rfl) ?_
  refine lv_iload_n hx hb dX11_mark_1 rfl (lv_at hl 1 rfl) ?_
  obtain ⟨q18, e19, h⟩ := bnd h
  refine call_i C hP hS (c_X11_isThing e19) mi_X11_isThing mw_1412 26 (by decide) rfl rfl ⟨Nat.le_of_ble_eq_true rfl, Nat.le_of_ble_eq_true rfl⟩ (As := [.int a1]) rfl hl.1 rfl (lv_room (Nat.le_of_ble_eq_true rfl)) dX11_mark_2 (fun H locs hP hS => ?_)
  refine lv_if_eq (tgt := 25) hx hb dX11_mark_5 (by decide) (fun c20 => ?_) (fun c20 => ?_)
  · replace h := h_t c20 h
    refine lv_ldc hx hb C.2.2.2.1 (C.2.2.2.2.1 _ mw_1323) dX11_mark_25 ?_
    exact ret_i C hr hlocks hP hS h dX11_mark_27
  · replace h := h_f c20 h
    refine lv_iload_n hx hb dX11_mark_8 rfl (lv_at hl 2 rfl) ?_
    obtain ⟨q21, e22, h⟩ := bnd h
    refine scall_i C hP hS (c_X11_isMinute e22) ms_X11_isMinute mw_1490 ⟨Nat.le_of_ble_eq_true rfl, Nat.le_of_ble_eq_true rfl⟩ (As := [.int a2]) rfl hl.1 rfl (lv_room (Nat.le_of_ble_eq_true rfl)) dX11_mark_9 (fun H locs hP hS => ?_)
    refine lv_if_eq (tgt := 25) hx hb dX11_mark_12 (by decide) (fun c23 => ?_) (fun c23 => ?_)
    · replace h := h_t c23 h
      refine lv_ldc hx hb C.2.2.2.1 (C.2.2.2.2.1 _ mw_1323) dX11_mark_25 ?_
      exact ret_i C hr hlocks hP hS h dX11_mark_27
    · replace h := h_f c23 h
      refine lv_iload_n hx hb dX11_mark_15 rfl (lv_at hl 3 rfl) ?_
      refine lv_i2l hx hb dX11_mark_16 rfl ?_
      refine lv_lconst (v := 0) hx hb dX11_mark_17 (by decide) ?_
      refine lv_lconst (v := 1) hx hb dX11_mark_18 (by decide) ?_
      obtain ⟨q24, e25, h⟩ := bnd h
      refine scall_i C hP hS (c_X11_in e25) ms_X11_in mw_1320 ⟨Nat.le_of_ble_eq_true rfl, Nat.le_of_ble_eq_true rfl⟩ (As := [.long ((a3 : Int32).toInt64), .long (0), .long (1)]) rfl hl.1 rfl (lv_room (Nat.le_of_ble_eq_true rfl)) dX11_mark_19 (fun H locs hP hS => ?_)
      refine lv_if_ne (tgt := 28) hx hb dX11_mark_22 (by decide) (fun c26 => ?_) (fun c26 => ?_)
      · replace h := h_f c26 h
        refine lv_aload_n hx hb dX11_mark_28 rfl (lv_at hl 0 rfl) ?_
        refine lv_iload_n hx hb dX11_mark_29 rfl (lv_at hl 1 rfl) ?_
        obtain ⟨q27, e28, h⟩ := bnd h
        refine call_i C hP hS (c_X11_isMark e28) mi_X11_isMark mw_1535 26 (by decide) rfl rfl ⟨Nat.le_of_ble_eq_true rfl, Nat.le_of_ble_eq_true rfl⟩ (As := [.int a1]) rfl hl.1 rfl (lv_room (Nat.le_of_ble_eq_true rfl)) dX11_mark_30 (fun H locs hP hS => ?_)
        refine lv_if_ne (tgt := 41) hx hb dX11_mark_33 (by decide) (fun c29 => ?_) (fun c29 => ?_)
        · replace h := h_f c29 h
          refine lv_iload_n hx hb dX11_mark_41 rfl (lv_at hl 3 rfl) ?_
          refine lv_if_ne (tgt := 54) hx hb dX11_mark_42 (by decide) (fun c30 => ?_) (fun c30 => ?_)
          · replace h := h_f c30 h
            refine lv_aload_n hx hb dX11_mark_54 rfl (lv_at hl 0 rfl) ?_
            refine lv_iload_n hx hb dX11_mark_55 rfl (lv_at hl 1 rfl) ?_
            refine lv_iconst (v := 2) hx hb dX11_mark_56 (by decide) ?_
            obtain ⟨q31, e32, h⟩ := bnd h
            refine call_i C hP hS (c_X11_of e32) mi_X11_of mw_1433 26 (by decide) rfl rfl ⟨Nat.le_of_ble_eq_true rfl, Nat.le_of_ble_eq_true rfl⟩ (As := [.int a1, .int 2]) rfl hl.1 rfl (lv_room (Nat.le_of_ble_eq_true rfl)) dX11_mark_57 (fun H locs hP hS => ?_)
            exact ret_i C hr hlocks hP hS h dX11_mark_60
          · replace h := h_t c30 h
            refine lv_aload_n hx hb dX11_mark_45 rfl (lv_at hl 0 rfl) ?_
            refine lv_iload_n hx hb dX11_mark_46 rfl (lv_at hl 1 rfl) ?_
            refine lv_iload_n hx hb dX11_mark_47 rfl (lv_at hl 2 rfl) ?_
            obtain ⟨q33, e34, h⟩ := bnd h
            refine call_i C hP hS (c_X11_eastOf e34) mi_X11_eastOf mw_1539 26 (by decide) rfl rfl ⟨Nat.le_of_ble_eq_true rfl, Nat.le_of_ble_eq_true rfl⟩ (As := [.int a1, .int a2]) rfl hl.1 rfl (lv_room (Nat.le_of_ble_eq_true rfl)) dX11_mark_48 (fun H locs hP hS => ?_)
            refine lv_goto (tgt := 60) hx hb dX11_mark_51 (by decide) ?_
            exact ret_i C hr hlocks hP hS h dX11_mark_60
        · replace h := h_t c29 h
          refine lv_ldc hx hb C.2.2.2.1 (C.2.2.2.2.1 _ mw_1403) dX11_mark_36 ?_
          refine lv_goto (tgt := 60) hx hb dX11_mark_38 (by decide) ?_
          exact ret_i C hr hlocks hP hS h dX11_mark_60
      · replace h := h_t c26 h
        refine lv_ldc hx hb C.2.2.2.1 (C.2.2.2.2.1 _ mw_1323) dX11_mark_25 ?_
        exact ret_i C hr hlocks hP hS h dX11_mark_27
set_option maxHeartbeats 4000000 in
set_option maxRecDepth 100000 in
theorem c_X11_seen {l : Launch} {G : GT} {lam : Lm} {σ : St} {a1 : Int32} {a2 : Int32} {a3 : Int32} {a4 : Int32} {q : Int32 × St} (h : f_X11_seen σ a1 a2 a3 a4 = some q) : Met l yX11_seen (Cond.code yX11_seen cX11_seen 5 ((some .int)) :: TB) ({ frames := 3, cells := 0, slots := 0, locals := 80 } : Room) (va_Pc [.ref (g_ad G 26), .int a1, .int a2, .int a3, .int a4] (GW G lam σ)) (Ri q G lam) 0 0 (g_A G) := by
  refine mk_Qi (own := RX11) (by decide) (Nat.le_of_ble_eq_true rfl) rfl (fun p e s m args below meth c C hr hlocks hP ls hl => ?_)
  have hx := C.1
  have hb := C.2.1
  have hl : lv_has ls 5 [(0, .ref (g_ad G 26)), (1, .int a1), (2, .int a2), (3, .int a3), (4, .int a4)] := hl
  have hS : va_S (g_A G) s.heap s.heap [] := va_S.rf
  unfold f_X11_seen at h
  refine lv_aload_n hx hb dX11_seen_0 rfl (lv_at hl 0 rfl) ?_
  refine lv_iload_n hx hb dX11_seen_1 rfl (lv_at hl 1 rfl) ?_
  obtain ⟨q16, e17, h⟩ := bnd h
  refine call_i C hP hS (c_X11_isThing e17) mi_X11_isThing mw_1412 26 (by decide) rfl rfl ⟨Nat.le_of_ble_eq_true rfl, Nat.le_of_ble_eq_true rfl⟩ (As := [.int a1]) rfl hl.1 rfl (lv_room (Nat.le_of_ble_eq_true rfl)) dX11_seen_2 (fun H locs hP hS => ?_)
  refine lv_if_eq (tgt := 24) hx hb dX11_seen_5 (by decide) (fun c18 => ?_) (fun c18 => ?_)
  · replace h := h_t c18 h
    refine lv_ldc hx hb C.2.2.2.1 (C.2.2.2.2.1 _ mw_1323) dX11_seen_24 ?_
    exact ret_i C hr hlocks hP hS h dX11_seen_26
  · replace h := h_f c18 h
    refine lv_iload_n hx hb dX11_seen_8 rfl (lv_at hl 2 rfl) ?_
    refine lv_iload_n hx hb dX11_seen_9 rfl (lv_at hl 3 rfl) ?_
    obtain ⟨q19, e20, h⟩ := bnd h
    refine scall_i C hP hS (c_X11_isPlace e20) ms_X11_isPlace mw_1502 ⟨Nat.le_of_ble_eq_true rfl, Nat.le_of_ble_eq_true rfl⟩ (As := [.int a2, .int a3]) rfl hl.1 rfl (lv_room (Nat.le_of_ble_eq_true rfl)) dX11_seen_10 (fun H locs hP hS => ?_)
    refine lv_if_eq (tgt := 24) hx hb dX11_seen_13 (by decide) (fun c21 => ?_) (fun c21 => ?_)
    · replace h := h_t c21 h
      refine lv_ldc hx hb C.2.2.2.1 (C.2.2.2.2.1 _ mw_1323) dX11_seen_24 ?_
      exact ret_i C hr hlocks hP hS h dX11_seen_26
    · replace h := h_f c21 h
      refine lv_iload hx hb dX11_seen_16 (lv_at hl 4 rfl) ?_
      obtain ⟨q22, e23, h⟩ := bnd h
      refine scall_i C hP hS (c_X11_isMinute e23) ms_X11_isMinute mw_1490 ⟨Nat.le_of_ble_eq_true rfl, Nat.le_of_ble_eq_true rfl⟩ (As := [.int a4]) rfl hl.1 rfl (lv_room (Nat.le_of_ble_eq_true rfl)) dX11_seen_18 (fun H locs hP hS => ?_)
      refine lv_if_ne (tgt := 27) hx hb dX11_seen_21 (by decide) (fun c24 => ?_) (fun c24 => ?_)
      · replace h := h_f c24 h
        refine lv_aload_n hx hb dX11_seen_27 rfl (lv_at hl 0 rfl) ?_
        refine lv_iload_n hx hb dX11_seen_28 rfl (lv_at hl 1 rfl) ?_
        obtain ⟨q25, e26, h⟩ := bnd h
        refine call_i C hP hS (c_X11_isMark e26) mi_X11_isMark mw_1535 26 (by decide) rfl rfl ⟨Nat.le_of_ble_eq_true rfl, Nat.le_of_ble_eq_true rfl⟩ (As := [.int a1]) rfl hl.1 rfl (lv_room (Nat.le_of_ble_eq_true rfl)) dX11_seen_29 (fun H locs hP hS => ?_)
        refine lv_if_ne (tgt := 40) hx hb dX11_seen_32 (by decide) (fun c27 => ?_) (fun c27 => ?_)
        · replace h := h_f c27 h
          refine lv_aload_n hx hb dX11_seen_40 rfl (lv_at hl 0 rfl) ?_
          refine lv_iload_n hx hb dX11_seen_41 rfl (lv_at hl 1 rfl) ?_
          refine lv_iload_n hx hb dX11_seen_42 rfl (lv_at hl 2 rfl) ?_
          refine lv_iload_n hx hb dX11_seen_43 rfl (lv_at hl 3 rfl) ?_
          refine lv_iload hx hb dX11_seen_44 (lv_at hl 4 rfl) ?_
          obtain ⟨q28, e29, h⟩ := bnd h
          refine call_i C hP hS (c_X11_isSeen e29) mi_X11_isSeen mw_1547 26 (by decide) rfl rfl ⟨Nat.le_of_ble_eq_true rfl, Nat.le_of_ble_eq_true rfl⟩ (As := [.int a1, .int a2, .int a3, .int a4]) rfl hl.1 rfl (lv_room (Nat.le_of_ble_eq_true rfl)) dX11_seen_46 (fun H locs hP hS => ?_)
          refine lv_if_eq (tgt := 56) hx hb dX11_seen_49 (by decide) (fun c30 => ?_) (fun c30 => ?_)
          · replace h := h_t c30 h
            refine lv_iconst (v := 0) hx hb dX11_seen_56 (by decide) ?_
            exact ret_i C hr hlocks hP hS h dX11_seen_57
          · replace h := h_f c30 h
            refine lv_iconst (v := 1) hx hb dX11_seen_52 (by decide) ?_
            refine lv_goto (tgt := 57) hx hb dX11_seen_53 (by decide) ?_
            exact ret_i C hr hlocks hP hS h dX11_seen_57
        · replace h := h_t c27 h
          refine lv_ldc hx hb C.2.2.2.1 (C.2.2.2.2.1 _ mw_1403) dX11_seen_35 ?_
          refine lv_goto (tgt := 57) hx hb dX11_seen_37 (by decide) ?_
          exact ret_i C hr hlocks hP hS h dX11_seen_57
      · replace h := h_t c24 h
        refine lv_ldc hx hb C.2.2.2.1 (C.2.2.2.2.1 _ mw_1323) dX11_seen_24 ?_
        exact ret_i C hr hlocks hP hS h dX11_seen_26
set_option maxHeartbeats 4000000 in
set_option maxRecDepth 100000 in
theorem c_X11_areTwo {l : Launch} {G : GT} {lam : Lm} {σ : St} {a1 : Int32} {a2 : Int32} {q : Int32 × St} (h : f_X11_areTwo σ a1 a2 = some q) : Met l yX11_areTwo (Cond.code yX11_areTwo cX11_areTwo 3 ((some .boolean)) :: TB) ({ frames := 2, cells := 0, slots := 0, locals := 46 } : Room) (va_Pc [.ref (g_ad G 26), .int a1, .int a2] (GW G lam σ)) (Ri q G lam) 0 0 (g_A G) := by
  refine mk_Qi (own := RX11) (by decide) (Nat.le_of_ble_eq_true rfl) rfl (fun p e s m args below meth c C hr hlocks hP ls hl => ?_)
  have hx := C.1
  have hb := C.2.1
  have hl : lv_has ls 3 [(0, .ref (g_ad G 26)), (1, .int a1), (2, .int a2)] := hl
  have hS : va_S (g_A G) s.heap s.heap [] := va_S.rf
  unfold f_X11_areTwo at h
  refine lv_aload_n hx hb dX11_areTwo_0 rfl (lv_at hl 0 rfl) ?_
  refine lv_iload_n hx hb dX11_areTwo_1 rfl (lv_at hl 1 rfl) ?_
  obtain ⟨q8, e9, h⟩ := bnd h
  refine call_i C hP hS (c_X11_isThing e9) mi_X11_isThing mw_1412 26 (by decide) rfl rfl ⟨Nat.le_of_ble_eq_true rfl, Nat.le_of_ble_eq_true rfl⟩ (As := [.int a1]) rfl hl.1 rfl (lv_room (Nat.le_of_ble_eq_true rfl)) dX11_areTwo_2 (fun H locs hP hS => ?_)
  refine lv_if_eq (tgt := 25) hx hb dX11_areTwo_5 (by decide) (fun c10 => ?_) (fun c10 => ?_)
  · replace h := h_t c10 h
    refine lv_iconst (v := 0) hx hb dX11_areTwo_25 (by decide) ?_
    exact ret_z C hr hlocks hP hS h (Or.inl rfl) dX11_areTwo_26
  · replace h := h_f c10 h
    refine lv_aload_n hx hb dX11_areTwo_8 rfl (lv_at hl 0 rfl) ?_
    refine lv_iload_n hx hb dX11_areTwo_9 rfl (lv_at hl 2 rfl) ?_
    obtain ⟨q11, e12, h⟩ := bnd h
    refine call_i C hP hS (c_X11_isThing e12) mi_X11_isThing mw_1412 26 (by decide) rfl rfl ⟨Nat.le_of_ble_eq_true rfl, Nat.le_of_ble_eq_true rfl⟩ (As := [.int a2]) rfl hl.1 rfl (lv_room (Nat.le_of_ble_eq_true rfl)) dX11_areTwo_10 (fun H locs hP hS => ?_)
    refine lv_if_eq (tgt := 25) hx hb dX11_areTwo_13 (by decide) (fun c13 => ?_) (fun c13 => ?_)
    · replace h := h_t c13 h
      refine lv_iconst (v := 0) hx hb dX11_areTwo_25 (by decide) ?_
      exact ret_z C hr hlocks hP hS h (Or.inl rfl) dX11_areTwo_26
    · replace h := h_f c13 h
      refine lv_iload_n hx hb dX11_areTwo_16 rfl (lv_at hl 1 rfl) ?_
      refine lv_iload_n hx hb dX11_areTwo_17 rfl (lv_at hl 2 rfl) ?_
      refine lv_icmp_eq (tgt := 25) hx hb dX11_areTwo_18 (by decide) (fun c14 => ?_) (fun c14 => ?_)
      · replace h := h_t c14 h
        refine lv_iconst (v := 0) hx hb dX11_areTwo_25 (by decide) ?_
        exact ret_z C hr hlocks hP hS h (Or.inl rfl) dX11_areTwo_26
      · replace h := h_f c14 h
        refine lv_iconst (v := 1) hx hb dX11_areTwo_21 (by decide) ?_
        refine lv_goto (tgt := 26) hx hb dX11_areTwo_22 (by decide) ?_
        exact ret_z C hr hlocks hP hS h (Or.inr rfl) dX11_areTwo_26
set_option maxHeartbeats 4000000 in
set_option maxRecDepth 100000 in
theorem c_X11_areApart {l : Launch} {G : GT} {lam : Lm} {σ : St} {a1 : Int32} {a2 : Int32} {q : Int32 × St} (h : f_X11_areApart σ a1 a2 = some q) : Met l yX11_areApart (Cond.code yX11_areApart cX11_areApart 3 ((some .boolean)) :: TB) ({ frames := 1, cells := 0, slots := 0, locals := 22 } : Room) (va_Pc [.ref (g_ad G 26), .int a1, .int a2] (GW G lam σ)) (Ri q G lam) 0 0 (g_A G) := by
  refine mk_Qi (own := RX11) (by decide) (Nat.le_of_ble_eq_true rfl) rfl (fun p e s m args below meth c C hr hlocks hP ls hl => ?_)
  have hx := C.1
  have hb := C.2.1
  have hl : lv_has ls 3 [(0, .ref (g_ad G 26)), (1, .int a1), (2, .int a2)] := hl
  have hS : va_S (g_A G) s.heap s.heap [] := va_S.rf
  unfold f_X11_areApart at h
  refine lv_aload_n hx hb dX11_areApart_0 rfl (lv_at hl 0 rfl) ?_
  refine lv_iload_n hx hb dX11_areApart_1 rfl (lv_at hl 1 rfl) ?_
  refine lv_iconst (v := 1) hx hb dX11_areApart_2 (by decide) ?_
  obtain ⟨q11, e12, h⟩ := bnd h
  refine call_i C hP hS (c_X11_of e12) mi_X11_of mw_1433 26 (by decide) rfl rfl ⟨Nat.le_of_ble_eq_true rfl, Nat.le_of_ble_eq_true rfl⟩ (As := [.int a1, .int 1]) rfl hl.1 rfl (lv_room (Nat.le_of_ble_eq_true rfl)) dX11_areApart_3 (fun H locs hP hS => ?_)
  refine lv_aload_n hx hb dX11_areApart_6 rfl (lv_at hl 0 rfl) ?_
  refine lv_iload_n hx hb dX11_areApart_7 rfl (lv_at hl 2 rfl) ?_
  refine lv_iconst (v := 1) hx hb dX11_areApart_8 (by decide) ?_
  obtain ⟨q13, e14, h⟩ := bnd h
  refine call_i C hP hS (c_X11_of e14) mi_X11_of mw_1433 26 (by decide) rfl rfl ⟨Nat.le_of_ble_eq_true rfl, Nat.le_of_ble_eq_true rfl⟩ (As := [.int a2, .int 1]) rfl hl.1 rfl (lv_room (Nat.le_of_ble_eq_true rfl)) dX11_areApart_9 (fun H locs hP hS => ?_)
  refine lv_icmp_ne (tgt := 30) hx hb dX11_areApart_12 (by decide) (fun c15 => ?_) (fun c15 => ?_)
  · replace h := h_f c15 h
    refine lv_iconst (v := 1) hx hb dX11_areApart_30 (by decide) ?_
    refine lv_goto (tgt := 35) hx hb dX11_areApart_31 (by decide) ?_
    exact ret_z C hr hlocks hP hS h (Or.inr rfl) dX11_areApart_35
  · replace h := h_t c15 h
    refine lv_aload_n hx hb dX11_areApart_15 rfl (lv_at hl 0 rfl) ?_
    refine lv_iload_n hx hb dX11_areApart_16 rfl (lv_at hl 1 rfl) ?_
    refine lv_iconst (v := 2) hx hb dX11_areApart_17 (by decide) ?_
    obtain ⟨q16, e17, h⟩ := bnd h
    refine call_i C hP hS (c_X11_of e17) mi_X11_of mw_1433 26 (by decide) rfl rfl ⟨Nat.le_of_ble_eq_true rfl, Nat.le_of_ble_eq_true rfl⟩ (As := [.int a1, .int 2]) rfl hl.1 rfl (lv_room (Nat.le_of_ble_eq_true rfl)) dX11_areApart_18 (fun H locs hP hS => ?_)
    refine lv_aload_n hx hb dX11_areApart_21 rfl (lv_at hl 0 rfl) ?_
    refine lv_iload_n hx hb dX11_areApart_22 rfl (lv_at hl 2 rfl) ?_
    refine lv_iconst (v := 2) hx hb dX11_areApart_23 (by decide) ?_
    obtain ⟨q18, e19, h⟩ := bnd h
    refine call_i C hP hS (c_X11_of e19) mi_X11_of mw_1433 26 (by decide) rfl rfl ⟨Nat.le_of_ble_eq_true rfl, Nat.le_of_ble_eq_true rfl⟩ (As := [.int a2, .int 2]) rfl hl.1 rfl (lv_room (Nat.le_of_ble_eq_true rfl)) dX11_areApart_24 (fun H locs hP hS => ?_)
    refine lv_icmp_eq (tgt := 34) hx hb dX11_areApart_27 (by decide) (fun c20 => ?_) (fun c20 => ?_)
    · replace h := h_t c20 h
      refine lv_iconst (v := 0) hx hb dX11_areApart_34 (by decide) ?_
      exact ret_z C hr hlocks hP hS h (Or.inl rfl) dX11_areApart_35
    · replace h := h_f c20 h
      refine lv_iconst (v := 1) hx hb dX11_areApart_30 (by decide) ?_
      refine lv_goto (tgt := 35) hx hb dX11_areApart_31 (by decide) ?_
      exact ret_z C hr hlocks hP hS h (Or.inr rfl) dX11_areApart_35
set_option maxHeartbeats 4000000 in
set_option maxRecDepth 100000 in
theorem c_X11_side {l : Launch} {G : GT} {lam : Lm} {σ : St} {a1 : Int32} {a2 : Int32} {a3 : Int32} {a4 : Int32} {q : Int32 × St} (h : f_X11_side σ a1 a2 a3 a4 = some q) : Met l yX11_side (Cond.code yX11_side cX11_side 5 ((some .int)) :: TB) ({ frames := 1, cells := 0, slots := 0, locals := 22 } : Room) (va_Pc [.ref (g_ad G 26), .int a1, .int a2, .int a3, .int a4] (GW G lam σ)) (Ri q G lam) 0 0 (g_A G) := by
  refine mk_Qi (own := RX11) (by decide) (Nat.le_of_ble_eq_true rfl) rfl (fun p e s m args below meth c C hr hlocks hP ls hl => ?_)
  have hx := C.1
  have hb := C.2.1
  have hl : lv_has ls 5 [(0, .ref (g_ad G 26)), (1, .int a1), (2, .int a2), (3, .int a3), (4, .int a4)] := hl
  have hS : va_S (g_A G) s.heap s.heap [] := va_S.rf
  unfold f_X11_side at h
  refine lv_aload_n hx hb dX11_side_0 rfl (lv_at hl 0 rfl) ?_
  refine lv_iload_n hx hb dX11_side_1 rfl (lv_at hl 2 rfl) ?_
  refine lv_iconst (v := 1) hx hb dX11_side_2 (by decide) ?_
  obtain ⟨q13, e14, h⟩ := bnd h
  refine call_i C hP hS (c_X11_of e14) mi_X11_of mw_1433 26 (by decide) rfl rfl ⟨Nat.le_of_ble_eq_true rfl, Nat.le_of_ble_eq_true rfl⟩ (As := [.int a2, .int 1]) rfl hl.1 rfl (lv_room (Nat.le_of_ble_eq_true rfl)) dX11_side_3 (fun H locs hP hS => ?_)
  refine lv_aload_n hx hb dX11_side_6 rfl (lv_at hl 0 rfl) ?_
  refine lv_iload_n hx hb dX11_side_7 rfl (lv_at hl 1 rfl) ?_
  refine lv_iconst (v := 1) hx hb dX11_side_8 (by decide) ?_
  obtain ⟨q15, e16, h⟩ := bnd h
  refine call_i C hP hS (c_X11_of e16) mi_X11_of mw_1433 26 (by decide) rfl rfl ⟨Nat.le_of_ble_eq_true rfl, Nat.le_of_ble_eq_true rfl⟩ (As := [.int a1, .int 1]) rfl hl.1 rfl (lv_room (Nat.le_of_ble_eq_true rfl)) dX11_side_9 (fun H locs hP hS => ?_)
  refine lv_isub hx hb dX11_side_12 ?_
  refine lv_iload hx hb dX11_side_13 (lv_at hl 4 rfl) ?_
  refine lv_aload_n hx hb dX11_side_15 rfl (lv_at hl 0 rfl) ?_
  refine lv_iload_n hx hb dX11_side_16 rfl (lv_at hl 1 rfl) ?_
  refine lv_iconst (v := 2) hx hb dX11_side_17 (by decide) ?_
  obtain ⟨q17, e18, h⟩ := bnd h
  refine call_i C hP hS (c_X11_of e18) mi_X11_of mw_1433 26 (by decide) rfl rfl ⟨Nat.le_of_ble_eq_true rfl, Nat.le_of_ble_eq_true rfl⟩ (As := [.int a1, .int 2]) rfl hl.1 rfl (lv_room (Nat.le_of_ble_eq_true rfl)) dX11_side_18 (fun H locs hP hS => ?_)
  refine lv_isub hx hb dX11_side_21 ?_
  refine lv_imul hx hb dX11_side_22 ?_
  refine lv_aload_n hx hb dX11_side_23 rfl (lv_at hl 0 rfl) ?_
  refine lv_iload_n hx hb dX11_side_24 rfl (lv_at hl 2 rfl) ?_
  refine lv_iconst (v := 2) hx hb dX11_side_25 (by decide) ?_
  obtain ⟨q19, e20, h⟩ := bnd h
  refine call_i C hP hS (c_X11_of e20) mi_X11_of mw_1433 26 (by decide) rfl rfl ⟨Nat.le_of_ble_eq_true rfl, Nat.le_of_ble_eq_true rfl⟩ (As := [.int a2, .int 2]) rfl hl.1 rfl (lv_room (Nat.le_of_ble_eq_true rfl)) dX11_side_26 (fun H locs hP hS => ?_)
  refine lv_aload_n hx hb dX11_side_29 rfl (lv_at hl 0 rfl) ?_
  refine lv_iload_n hx hb dX11_side_30 rfl (lv_at hl 1 rfl) ?_
  refine lv_iconst (v := 2) hx hb dX11_side_31 (by decide) ?_
  obtain ⟨q21, e22, h⟩ := bnd h
  refine call_i C hP hS (c_X11_of e22) mi_X11_of mw_1433 26 (by decide) rfl rfl ⟨Nat.le_of_ble_eq_true rfl, Nat.le_of_ble_eq_true rfl⟩ (As := [.int a1, .int 2]) rfl hl.1 rfl (lv_room (Nat.le_of_ble_eq_true rfl)) dX11_side_32 (fun H locs hP hS => ?_)
  refine lv_isub hx hb dX11_side_35 ?_
  refine lv_iload_n hx hb dX11_side_36 rfl (lv_at hl 3 rfl) ?_
  refine lv_aload_n hx hb dX11_side_37 rfl (lv_at hl 0 rfl) ?_
  refine lv_iload_n hx hb dX11_side_38 rfl (lv_at hl 1 rfl) ?_
  refine lv_iconst (v := 1) hx hb dX11_side_39 (by decide) ?_
  obtain ⟨q23, e24, h⟩ := bnd h
  refine call_i C hP hS (c_X11_of e24) mi_X11_of mw_1433 26 (by decide) rfl rfl ⟨Nat.le_of_ble_eq_true rfl, Nat.le_of_ble_eq_true rfl⟩ (As := [.int a1, .int 1]) rfl hl.1 rfl (lv_room (Nat.le_of_ble_eq_true rfl)) dX11_side_40 (fun H locs hP hS => ?_)
  refine lv_isub hx hb dX11_side_43 ?_
  refine lv_imul hx hb dX11_side_44 ?_
  refine lv_isub hx hb dX11_side_45 ?_
  exact ret_i C hr hlocks hP hS h dX11_side_46
set_option maxHeartbeats 4000000 in
set_option maxRecDepth 100000 in
theorem c_X11_signOf {l : Launch} {G : GT} {lam : Lm} {σ : St} {a1 : Int32} {q : Int32 × St} (h : f_X11_signOf σ a1 = some q) : Met l yX11_signOf (Cond.code yX11_signOf cX11_signOf 1 ((some .int)) :: TB) ({ frames := 0, cells := 0, slots := 0, locals := 0 } : Room) (va_Pc [.int a1] (GW G lam σ)) (Ri q G lam) 0 0 (g_A G) := by
  refine mk_Qi (own := RX11) (by decide) (Nat.le_of_ble_eq_true rfl) rfl (fun p e s m args below meth c C hr hlocks hP ls hl => ?_)
  have hx := C.1
  have hb := C.2.1
  have hl : lv_has ls 1 [(0, .int a1)] := hl
  have hS : va_S (g_A G) s.heap s.heap [] := va_S.rf
  unfold f_X11_signOf at h
  refine lv_iload_n hx hb dX11_signOf_0 rfl (lv_at hl 0 rfl) ?_
  refine lv_if_ge (tgt := 8) hx hb dX11_signOf_1 (by decide) (fun c3 => ?_) (fun c3 => ?_)
  · replace h := h_t c3 h
    refine lv_iload_n hx hb dX11_signOf_8 rfl (lv_at hl 0 rfl) ?_
    refine lv_if_le (tgt := 16) hx hb dX11_signOf_9 (by decide) (fun c4 => ?_) (fun c4 => ?_)
    · replace h := h_t c4 h
      refine lv_iconst (v := 0) hx hb dX11_signOf_16 (by decide) ?_
      exact ret_i C hr hlocks hP hS h dX11_signOf_17
    · replace h := h_f c4 h
      refine lv_iconst (v := 1) hx hb dX11_signOf_12 (by decide) ?_
      refine lv_goto (tgt := 17) hx hb dX11_signOf_13 (by decide) ?_
      exact ret_i C hr hlocks hP hS h dX11_signOf_17
  · replace h := h_f c3 h
    refine lv_iconst (v := (-1)) hx hb dX11_signOf_4 (by decide) ?_
    refine lv_goto (tgt := 17) hx hb dX11_signOf_5 (by decide) ?_
    exact ret_i C hr hlocks hP hS h dX11_signOf_17
set_option maxHeartbeats 4000000 in
set_option maxRecDepth 100000 in
theorem c_X11_line {l : Launch} {G : GT} {lam : Lm} {σ : St} {a1 : Int32} {a2 : Int32} {a3 : Int32} {a4 : Int32} {q : Int32 × St} (h : f_X11_line σ a1 a2 a3 a4 = some q) : Met l yX11_line (Cond.code yX11_line cX11_line 5 ((some .int)) :: TB) ({ frames := 3, cells := 0, slots := 0, locals := 68 } : Room) (va_Pc [.ref (g_ad G 26), .int a1, .int a2, .int a3, .int a4] (GW G lam σ)) (Ri q G lam) 0 0 (g_A G) := by
  refine mk_Qi (own := RX11) (by decide) (Nat.le_of_ble_eq_true rfl) rfl (fun p e s m args below meth c C hr hlocks hP ls hl => ?_)
  have hx := C.1
  have hb := C.2.1
  have hl : lv_has ls 5 [(0, .ref (g_ad G 26)), (1, .int a1), (2, .int a2), (3, .int a3), (4, .int a4)] := hl
  have hS : va_S (g_A G) s.heap s.heap [] := va_S.rf
  unfold f_X11_line at h
  refine lv_aload_n hx hb dX11_line_0 rfl (lv_at hl 0 rfl) ?_
  refine lv_iload_n hx hb dX11_line_1 rfl (lv_at hl 1 rfl) ?_
  refine lv_iload_n hx hb dX11_line_2 rfl (lv_at hl 2 rfl) ?_
  obtain ⟨q14, e15, h⟩ := bnd h
  refine call_i C hP hS (c_X11_areTwo e15) mi_X11_areTwo mw_1566 26 (by decide) rfl rfl ⟨Nat.le_of_ble_eq_true rfl, Nat.le_of_ble_eq_true rfl⟩ (As := [.int a1, .int a2]) rfl hl.1 rfl (lv_room (Nat.le_of_ble_eq_true rfl)) dX11_line_3 (fun H locs hP hS => ?_)
  refine lv_if_eq (tgt := 18) hx hb dX11_line_6 (by decide) (fun c16 => ?_) (fun c16 => ?_)
  · replace h := h_t c16 h
    refine lv_ldc hx hb C.2.2.2.1 (C.2.2.2.2.1 _ mw_1323) dX11_line_18 ?_
    exact ret_i C hr hlocks hP hS h dX11_line_20
  · replace h := h_f c16 h
    refine lv_iload_n hx hb dX11_line_9 rfl (lv_at hl 3 rfl) ?_
    refine lv_iload hx hb dX11_line_10 (lv_at hl 4 rfl) ?_
    obtain ⟨q17, e18, h⟩ := bnd h
    refine scall_i C hP hS (c_X11_isPlace e18) ms_X11_isPlace mw_1502 ⟨Nat.le_of_ble_eq_true rfl, Nat.le_of_ble_eq_true rfl⟩ (As := [.int a3, .int a4]) rfl hl.1 rfl (lv_room (Nat.le_of_ble_eq_true rfl)) dX11_line_12 (fun H locs hP hS => ?_)
    refine lv_if_ne (tgt := 21) hx hb dX11_line_15 (by decide) (fun c19 => ?_) (fun c19 => ?_)
    · replace h := h_f c19 h
      refine lv_aload_n hx hb dX11_line_21 rfl (lv_at hl 0 rfl) ?_
      refine lv_iload_n hx hb dX11_line_22 rfl (lv_at hl 1 rfl) ?_
      refine lv_iload_n hx hb dX11_line_23 rfl (lv_at hl 2 rfl) ?_
      obtain ⟨q20, e21, h⟩ := bnd h
      refine call_i C hP hS (c_X11_areApart e21) mi_X11_areApart mw_1570 26 (by decide) rfl rfl ⟨Nat.le_of_ble_eq_true rfl, Nat.le_of_ble_eq_true rfl⟩ (As := [.int a1, .int a2]) rfl hl.1 rfl (lv_room (Nat.le_of_ble_eq_true rfl)) dX11_line_24 (fun H locs hP hS => ?_)
      refine lv_if_ne (tgt := 35) hx hb dX11_line_27 (by decide) (fun c22 => ?_) (fun c22 => ?_)
      · replace h := h_f c22 h
        refine lv_aload_n hx hb dX11_line_35 rfl (lv_at hl 0 rfl) ?_
        refine lv_iload_n hx hb dX11_line_36 rfl (lv_at hl 1 rfl) ?_
        refine lv_iload_n hx hb dX11_line_37 rfl (lv_at hl 2 rfl) ?_
        refine lv_iload_n hx hb dX11_line_38 rfl (lv_at hl 3 rfl) ?_
        refine lv_iload hx hb dX11_line_39 (lv_at hl 4 rfl) ?_
        obtain ⟨q23, e24, h⟩ := bnd h
        refine call_i C hP hS (c_X11_side e24) mi_X11_side mw_1574 26 (by decide) rfl rfl ⟨Nat.le_of_ble_eq_true rfl, Nat.le_of_ble_eq_true rfl⟩ (As := [.int a1, .int a2, .int a3, .int a4]) rfl hl.1 rfl (lv_room (Nat.le_of_ble_eq_true rfl)) dX11_line_41 (fun H locs hP hS => ?_)
        obtain ⟨q25, e26, h⟩ := bnd h
        refine scall_i C hP hS (c_X11_signOf e26) ms_X11_signOf mw_1578 ⟨Nat.le_of_ble_eq_true rfl, Nat.le_of_ble_eq_true rfl⟩ (As := [.int q23.1]) rfl hl.1 rfl (lv_room (Nat.le_of_ble_eq_true rfl)) dX11_line_44 (fun H locs hP hS => ?_)
        exact ret_i C hr hlocks hP hS h dX11_line_47
      · replace h := h_t c22 h
        refine lv_ldc hx hb C.2.2.2.1 (C.2.2.2.2.1 _ mw_1403) dX11_line_30 ?_
        refine lv_goto (tgt := 47) hx hb dX11_line_32 (by decide) ?_
        exact ret_i C hr hlocks hP hS h dX11_line_47
    · replace h := h_t c19 h
      refine lv_ldc hx hb C.2.2.2.1 (C.2.2.2.2.1 _ mw_1323) dX11_line_18 ?_
      exact ret_i C hr hlocks hP hS h dX11_line_20
set_option maxHeartbeats 4000000 in
set_option maxRecDepth 100000 in
theorem c_X11_wholly {l : Launch} {G : GT} {lam : Lm} {σ : St} {a1 : Int32} {a2 : Int32} {a3 : Int32} {q : Int32 × St} (h : f_X11_wholly σ a1 a2 a3 = some q) : Met l yX11_wholly (Cond.code yX11_wholly cX11_wholly 9 ((some .int)) :: TB) ({ frames := 2, cells := 0, slots := 0, locals := 46 } : Room) (va_Pc [.ref (g_ad G 26), .int a1, .int a2, .int a3] (GW G lam σ)) (Ri q G lam) 0 0 (g_A G) := by
  refine mk_Qi (own := RX11) (by decide) (Nat.le_of_ble_eq_true rfl) rfl (fun p e s m args below meth c C hr hlocks hP ls hl => ?_)
  have hx := C.1
  have hb := C.2.1
  have hl : lv_has ls 9 [(0, .ref (g_ad G 26)), (1, .int a1), (2, .int a2), (3, .int a3)] := hl
  have hS : va_S (g_A G) s.heap s.heap [] := va_S.rf
  unfold f_X11_wholly at h
  refine lv_aload_n hx hb dX11_wholly_0 rfl (lv_at hl 0 rfl) ?_
  refine lv_iload_n hx hb dX11_wholly_1 rfl (lv_at hl 3 rfl) ?_
  refine lv_iconst (v := 1) hx hb dX11_wholly_2 (by decide) ?_
  obtain ⟨q41, e42, h⟩ := bnd h
  refine call_i C hP hS (c_X11_of e42) mi_X11_of mw_1433 26 (by decide) rfl rfl ⟨Nat.le_of_ble_eq_true rfl, Nat.le_of_ble_eq_true rfl⟩ (As := [.int a3, .int 1]) rfl hl.1 rfl (lv_room (Nat.le_of_ble_eq_true rfl)) dX11_wholly_3 (fun H locs hP hS => ?_)
  refine lv_istore (lv' := [(4, .int q41.1), (0, .ref (g_ad G 26)), (1, .int a1), (2, .int a2), (3, .int a3)]) hx hb dX11_wholly_6 hl (by decide) rfl (fun ls hl => ?_)
  refine lv_aload_n hx hb dX11_wholly_8 rfl (lv_at hl 1 rfl) ?_
  refine lv_iload_n hx hb dX11_wholly_9 rfl (lv_at hl 4 rfl) ?_
  refine lv_iconst (v := 2) hx hb dX11_wholly_10 (by decide) ?_
  obtain ⟨q43, e44, h⟩ := bnd h
  refine call_i C hP hS (c_X11_of e44) mi_X11_of mw_1433 26 (by decide) rfl rfl ⟨Nat.le_of_ble_eq_true rfl, Nat.le_of_ble_eq_true rfl⟩ (As := [.int a3, .int 2]) rfl hl.1 rfl (lv_room (Nat.le_of_ble_eq_true rfl)) dX11_wholly_11 (fun H locs hP hS => ?_)
  refine lv_istore (lv' := [(5, .int q43.1), (4, .int q41.1), (0, .ref (g_ad G 26)), (1, .int a1), (2, .int a2), (3, .int a3)]) hx hb dX11_wholly_14 hl (by decide) rfl (fun ls hl => ?_)
  refine lv_aload_n hx hb dX11_wholly_16 rfl (lv_at hl 2 rfl) ?_
  refine lv_iload_n hx hb dX11_wholly_17 rfl (lv_at hl 5 rfl) ?_
  refine lv_iconst (v := 3) hx hb dX11_wholly_18 (by decide) ?_
  obtain ⟨q45, e46, h⟩ := bnd h
  refine call_i C hP hS (c_X11_of e46) mi_X11_of mw_1433 26 (by decide) rfl rfl ⟨Nat.le_of_ble_eq_true rfl, Nat.le_of_ble_eq_true rfl⟩ (As := [.int a3, .int 3]) rfl hl.1 rfl (lv_room (Nat.le_of_ble_eq_true rfl)) dX11_wholly_19 (fun H locs hP hS => ?_)
  refine lv_istore (lv' := [(6, .int q45.1), (5, .int q43.1), (4, .int q41.1), (0, .ref (g_ad G 26)), (1, .int a1), (2, .int a2), (3, .int a3)]) hx hb dX11_wholly_22 hl (by decide) rfl (fun ls hl => ?_)
  refine lv_aload_n hx hb dX11_wholly_24 rfl (lv_at hl 3 rfl) ?_
  refine lv_iload_n hx hb dX11_wholly_25 rfl (lv_at hl 4 rfl) ?_
  refine lv_iload_n hx hb dX11_wholly_26 rfl (lv_at hl 5 rfl) ?_
  refine lv_iload hx hb dX11_wholly_27 (lv_at hl 2 rfl) ?_
  refine lv_iload hx hb dX11_wholly_29 (lv_at hl 1 rfl) ?_
  obtain ⟨q47, e48, h⟩ := bnd h
  refine call_i C hP hS (c_X11_side e48) mi_X11_side mw_1574 26 (by decide) rfl rfl ⟨Nat.le_of_ble_eq_true rfl, Nat.le_of_ble_eq_true rfl⟩ (As := [.int a1, .int a2, .int q41.1, .int q43.1]) rfl hl.1 rfl (lv_room (Nat.le_of_ble_eq_true rfl)) dX11_wholly_31 (fun H locs hP hS => ?_)
  refine lv_istore (lv' := [(7, .int q47.1), (6, .int q45.1), (5, .int q43.1), (4, .int q41.1), (0, .ref (g_ad G 26)), (1, .int a1), (2, .int a2), (3, .int a3)]) hx hb dX11_wholly_34 hl (by decide) rfl (fun ls hl => ?_)
  refine lv_aload_n hx hb dX11_wholly_36 rfl (lv_at hl 4 rfl) ?_
  refine lv_iload_n hx hb dX11_wholly_37 rfl (lv_at hl 7 rfl) ?_
  refine lv_iconst (v := 0) hx hb dX11_wholly_38 (by decide) ?_
  obtain ⟨q49, e50, h⟩ := bnd h
  refine call_i C hP hS (c_X11_of e50) mi_X11_of mw_1433 26 (by decide) rfl rfl ⟨Nat.le_of_ble_eq_true rfl, Nat.le_of_ble_eq_true rfl⟩ (As := [.int a3, .int 0]) rfl hl.1 rfl (lv_room (Nat.le_of_ble_eq_true rfl)) dX11_wholly_39 (fun H locs hP hS => ?_)
  refine lv_bipush (v := 6) hx hb dX11_wholly_42 (by decide) ?_
  refine lv_icmp_ne (tgt := 133) hx hb dX11_wholly_44 (by decide) (fun c51 => ?_) (fun c51 => ?_)
  · replace h := h_f c51 h
    refine lv_aload_n hx hb dX11_wholly_133 rfl (lv_at hl 4 rfl) ?_
    refine lv_iload_n hx hb dX11_wholly_134 rfl (lv_at hl 6 rfl) ?_
    refine lv_iconst (v := 1) hx hb dX11_wholly_135 (by decide) ?_
    obtain ⟨q52, e53, h⟩ := bnd h
    refine call_i C hP hS (c_X11_of e53) mi_X11_of mw_1433 26 (by decide) rfl rfl ⟨Nat.le_of_ble_eq_true rfl, Nat.le_of_ble_eq_true rfl⟩ (As := [.int a2, .int 1]) rfl hl.1 rfl (lv_room (Nat.le_of_ble_eq_true rfl)) dX11_wholly_136 (fun H locs hP hS => ?_)
    refine lv_aload_n hx hb dX11_wholly_139 rfl (lv_at hl 4 rfl) ?_
    refine lv_iload_n hx hb dX11_wholly_140 rfl (lv_at hl 5 rfl) ?_
    refine lv_iconst (v := 1) hx hb dX11_wholly_141 (by decide) ?_
    obtain ⟨q54, e55, h⟩ := bnd h
    refine call_i C hP hS (c_X11_of e55) mi_X11_of mw_1433 26 (by decide) rfl rfl ⟨Nat.le_of_ble_eq_true rfl, Nat.le_of_ble_eq_true rfl⟩ (As := [.int a1, .int 1]) rfl hl.1 rfl (lv_room (Nat.le_of_ble_eq_true rfl)) dX11_wholly_142 (fun H locs hP hS => ?_)
    refine lv_isub hx hb dX11_wholly_145 ?_
    refine lv_aload_n hx hb dX11_wholly_146 rfl (lv_at hl 4 rfl) ?_
    refine lv_iload_n hx hb dX11_wholly_147 rfl (lv_at hl 6 rfl) ?_
    refine lv_iconst (v := 2) hx hb dX11_wholly_148 (by decide) ?_
    obtain ⟨q56, e57, h⟩ := bnd h
    refine call_i C hP hS (c_X11_of e57) mi_X11_of mw_1433 26 (by decide) rfl rfl ⟨Nat.le_of_ble_eq_true rfl, Nat.le_of_ble_eq_true rfl⟩ (As := [.int a2, .int 2]) rfl hl.1 rfl (lv_room (Nat.le_of_ble_eq_true rfl)) dX11_wholly_149 (fun H locs hP hS => ?_)
    refine lv_aload_n hx hb dX11_wholly_152 rfl (lv_at hl 4 rfl) ?_
    refine lv_iload_n hx hb dX11_wholly_153 rfl (lv_at hl 5 rfl) ?_
    refine lv_iconst (v := 2) hx hb dX11_wholly_154 (by decide) ?_
    obtain ⟨q58, e59, h⟩ := bnd h
    refine call_i C hP hS (c_X11_of e59) mi_X11_of mw_1433 26 (by decide) rfl rfl ⟨Nat.le_of_ble_eq_true rfl, Nat.le_of_ble_eq_true rfl⟩ (As := [.int a1, .int 2]) rfl hl.1 rfl (lv_room (Nat.le_of_ble_eq_true rfl)) dX11_wholly_155 (fun H locs hP hS => ?_)
    refine lv_isub hx hb dX11_wholly_158 ?_
    obtain ⟨q60, e61, h⟩ := bnd h
    refine scall_i C hP hS (c_X11_square e61) ms_X11_square mw_1524 ⟨Nat.le_of_ble_eq_true rfl, Nat.le_of_ble_eq_true rfl⟩ (As := [.int (q52.1 - q54.1), .int (q56.1 - q58.1)]) rfl hl.1 rfl (lv_room (Nat.le_of_ble_eq_true rfl)) dX11_wholly_159 (fun H locs hP hS => ?_)
    refine lv_istore (lv' := [(8, .int q60.1), (7, .int q47.1), (6, .int q45.1), (5, .int q43.1), (4, .int q41.1), (0, .ref (g_ad G 26)), (1, .int a1), (2, .int a2), (3, .int a3)]) hx hb dX11_wholly_162 hl (by decide) rfl (fun ls hl => ?_)
    refine lv_iload hx hb dX11_wholly_164 (lv_at hl 1 rfl) ?_
    refine lv_iload hx hb dX11_wholly_166 (lv_at hl 1 rfl) ?_
    refine lv_imul hx hb dX11_wholly_168 ?_
    refine lv_iload hx hb dX11_wholly_169 (lv_at hl 2 rfl) ?_
    refine lv_iload hx hb dX11_wholly_171 (lv_at hl 2 rfl) ?_
    refine lv_imul hx hb dX11_wholly_173 ?_
    refine lv_iload hx hb dX11_wholly_174 (lv_at hl 0 rfl) ?_
    refine lv_imul hx hb dX11_wholly_176 ?_
    refine lv_icmp_le (tgt := 188) hx hb dX11_wholly_177 (by decide) (fun c62 => ?_) (fun c62 => ?_)
    · replace h := h_t c62 h
      refine lv_iconst (v := 0) hx hb dX11_wholly_188 (by decide) ?_
      exact ret_i C hr hlocks hP hS h dX11_wholly_189
    · replace h := h_f c62 h
      refine lv_iload hx hb dX11_wholly_180 (lv_at hl 1 rfl) ?_
      obtain ⟨q63, e64, h⟩ := bnd h
      refine scall_i C hP hS (c_X11_signOf e64) ms_X11_signOf mw_1578 ⟨Nat.le_of_ble_eq_true rfl, Nat.le_of_ble_eq_true rfl⟩ (As := [.int q47.1]) rfl hl.1 rfl (lv_room (Nat.le_of_ble_eq_true rfl)) dX11_wholly_182 (fun H locs hP hS => ?_)
      refine lv_goto (tgt := 189) hx hb dX11_wholly_185 (by decide) ?_
      exact ret_i C hr hlocks hP hS h dX11_wholly_189
  · replace h := h_t c51 h
    refine lv_aload_n hx hb dX11_wholly_47 rfl (lv_at hl 4 rfl) ?_
    refine lv_iload_n hx hb dX11_wholly_48 rfl (lv_at hl 5 rfl) ?_
    refine lv_iload_n hx hb dX11_wholly_49 rfl (lv_at hl 6 rfl) ?_
    refine lv_iload hx hb dX11_wholly_50 (lv_at hl 3 rfl) ?_
    refine lv_iload hx hb dX11_wholly_52 (lv_at hl 1 rfl) ?_
    refine lv_isub hx hb dX11_wholly_54 ?_
    refine lv_iload hx hb dX11_wholly_55 (lv_at hl 2 rfl) ?_
    refine lv_iload hx hb dX11_wholly_57 (lv_at hl 1 rfl) ?_
    refine lv_isub hx hb dX11_wholly_59 ?_
    obtain ⟨q65, e66, h⟩ := bnd h
    refine call_i C hP hS (c_X11_side e66) mi_X11_side mw_1574 26 (by decide) rfl rfl ⟨Nat.le_of_ble_eq_true rfl, Nat.le_of_ble_eq_true rfl⟩ (As := [.int a1, .int a2, .int (q41.1 - q45.1), .int (q43.1 - q45.1)]) rfl hl.1 rfl (lv_room (Nat.le_of_ble_eq_true rfl)) dX11_wholly_60 (fun H locs hP hS => ?_)
    obtain ⟨q67, e68, h⟩ := bnd h
    refine scall_i C hP hS (c_X11_signOf e68) ms_X11_signOf mw_1578 ⟨Nat.le_of_ble_eq_true rfl, Nat.le_of_ble_eq_true rfl⟩ (As := [.int q65.1]) rfl hl.1 rfl (lv_room (Nat.le_of_ble_eq_true rfl)) dX11_wholly_63 (fun H locs hP hS => ?_)
    refine lv_aload_n hx hb dX11_wholly_66 rfl (lv_at hl 4 rfl) ?_
    refine lv_iload_n hx hb dX11_wholly_67 rfl (lv_at hl 5 rfl) ?_
    refine lv_iload_n hx hb dX11_wholly_68 rfl (lv_at hl 6 rfl) ?_
    refine lv_iload hx hb dX11_wholly_69 (lv_at hl 3 rfl) ?_
    refine lv_iload hx hb dX11_wholly_71 (lv_at hl 1 rfl) ?_
    refine lv_isub hx hb dX11_wholly_73 ?_
    refine lv_iload hx hb dX11_wholly_74 (lv_at hl 2 rfl) ?_
    refine lv_iload hx hb dX11_wholly_76 (lv_at hl 1 rfl) ?_
    refine lv_iadd hx hb dX11_wholly_78 ?_
    obtain ⟨q69, e70, h⟩ := bnd h
    refine call_i C hP hS (c_X11_side e70) mi_X11_side mw_1574 26 (by decide) rfl rfl ⟨Nat.le_of_ble_eq_true rfl, Nat.le_of_ble_eq_true rfl⟩ (As := [.int a1, .int a2, .int (q41.1 - q45.1), .int (q43.1 + q45.1)]) rfl hl.1 rfl (lv_room (Nat.le_of_ble_eq_true rfl)) dX11_wholly_79 (fun H locs hP hS => ?_)
    obtain ⟨q71, e72, h⟩ := bnd h
    refine scall_i C hP hS (c_X11_signOf e72) ms_X11_signOf mw_1578 ⟨Nat.le_of_ble_eq_true rfl, Nat.le_of_ble_eq_true rfl⟩ (As := [.int q69.1]) rfl hl.1 rfl (lv_room (Nat.le_of_ble_eq_true rfl)) dX11_wholly_82 (fun H locs hP hS => ?_)
    refine lv_iadd hx hb dX11_wholly_85 ?_
    refine lv_aload_n hx hb dX11_wholly_86 rfl (lv_at hl 4 rfl) ?_
    refine lv_iload_n hx hb dX11_wholly_87 rfl (lv_at hl 5 rfl) ?_
    refine lv_iload_n hx hb dX11_wholly_88 rfl (lv_at hl 6 rfl) ?_
    refine lv_iload hx hb dX11_wholly_89 (lv_at hl 3 rfl) ?_
    refine lv_iload hx hb dX11_wholly_91 (lv_at hl 1 rfl) ?_
    refine lv_iadd hx hb dX11_wholly_93 ?_
    refine lv_iload hx hb dX11_wholly_94 (lv_at hl 2 rfl) ?_
    refine lv_iload hx hb dX11_wholly_96 (lv_at hl 1 rfl) ?_
    refine lv_isub hx hb dX11_wholly_98 ?_
    obtain ⟨q73, e74, h⟩ := bnd h
    refine call_i C hP hS (c_X11_side e74) mi_X11_side mw_1574 26 (by decide) rfl rfl ⟨Nat.le_of_ble_eq_true rfl, Nat.le_of_ble_eq_true rfl⟩ (As := [.int a1, .int a2, .int (q41.1 + q45.1), .int (q43.1 - q45.1)]) rfl hl.1 rfl (lv_room (Nat.le_of_ble_eq_true rfl)) dX11_wholly_99 (fun H locs hP hS => ?_)
    obtain ⟨q75, e76, h⟩ := bnd h
    refine scall_i C hP hS (c_X11_signOf e76) ms_X11_signOf mw_1578 ⟨Nat.le_of_ble_eq_true rfl, Nat.le_of_ble_eq_true rfl⟩ (As := [.int q73.1]) rfl hl.1 rfl (lv_room (Nat.le_of_ble_eq_true rfl)) dX11_wholly_102 (fun H locs hP hS => ?_)
    refine lv_iadd hx hb dX11_wholly_105 ?_
    refine lv_aload_n hx hb dX11_wholly_106 rfl (lv_at hl 4 rfl) ?_
    refine lv_iload_n hx hb dX11_wholly_107 rfl (lv_at hl 5 rfl) ?_
    refine lv_iload_n hx hb dX11_wholly_108 rfl (lv_at hl 6 rfl) ?_
    refine lv_iload hx hb dX11_wholly_109 (lv_at hl 3 rfl) ?_
    refine lv_iload hx hb dX11_wholly_111 (lv_at hl 1 rfl) ?_
    refine lv_iadd hx hb dX11_wholly_113 ?_
    refine lv_iload hx hb dX11_wholly_114 (lv_at hl 2 rfl) ?_
    refine lv_iload hx hb dX11_wholly_116 (lv_at hl 1 rfl) ?_
    refine lv_iadd hx hb dX11_wholly_118 ?_
    obtain ⟨q77, e78, h⟩ := bnd h
    refine call_i C hP hS (c_X11_side e78) mi_X11_side mw_1574 26 (by decide) rfl rfl ⟨Nat.le_of_ble_eq_true rfl, Nat.le_of_ble_eq_true rfl⟩ (As := [.int a1, .int a2, .int (q41.1 + q45.1), .int (q43.1 + q45.1)]) rfl hl.1 rfl (lv_room (Nat.le_of_ble_eq_true rfl)) dX11_wholly_119 (fun H locs hP hS => ?_)
    obtain ⟨q79, e80, h⟩ := bnd h
    refine scall_i C hP hS (c_X11_signOf e80) ms_X11_signOf mw_1578 ⟨Nat.le_of_ble_eq_true rfl, Nat.le_of_ble_eq_true rfl⟩ (As := [.int q77.1]) rfl hl.1 rfl (lv_room (Nat.le_of_ble_eq_true rfl)) dX11_wholly_122 (fun H locs hP hS => ?_)
    refine lv_iadd hx hb dX11_wholly_125 ?_
    obtain ⟨y81, e82, h⟩ := bnd h
    refine r_nm e82 ?_
    refine lv_istore (lv' := [(8, .int y81), (7, .int q47.1), (6, .int q45.1), (5, .int q43.1), (4, .int q41.1), (0, .ref (g_ad G 26)), (1, .int a1), (2, .int a2), (3, .int a3)]) hx hb dX11_wholly_126 hl (by decide) rfl (fun ls hl => ?_)
    refine lv_iload hx hb dX11_wholly_128 (lv_at hl 0 rfl) ?_
    refine lv_iconst (v := 4) hx hb dX11_wholly_130 (by decide) ?_
    refine lv_idiv hx hb dX11_wholly_131 (by decide) ?_
    exact ret_i C hr hlocks hP hS h dX11_wholly_132
set_option maxHeartbeats 4000000 in
set_option maxRecDepth 100000 in
theorem c_X11_lines {l : Launch} {G : GT} {lam : Lm} {σ : St} {a1 : Int32} {a2 : Int32} {a3 : Int32} {q : Int32 × St} (h : f_X11_lines σ a1 a2 a3 = some q) : Met l yX11_lines (Cond.code yX11_lines cX11_lines 6 ((some .int)) :: TB) ({ frames := 3, cells := 0, slots := 0, locals := 74 } : Room) (va_Pc [.ref (g_ad G 26), .int a1, .int a2, .int a3] (GW G lam σ)) (Ri q G lam) 0 0 (g_A G) := by
  refine mk_Qi (own := RX11) (by decide) (Nat.le_of_ble_eq_true rfl) rfl (fun p e s m args below meth c C hr hlocks hP ls hl => ?_)
  have hx := C.1
  have hb := C.2.1
  have hl : lv_has ls 6 [(0, .ref (g_ad G 26)), (1, .int a1), (2, .int a2), (3, .int a3)] := hl
  have L42 : ∀ (n42 : Nat) (σ : St) (x1 : Int32) (x2 : Int32) (x3 : Int32) (x4 : Int32) (x5 : Int32) (H : Heap) (locs : List Loc) (ls : Array Slot), fx (F_X11_lines_h42) z_X11_lines_h42 n42 σ x1 x2 x3 x4 x5 = some q → va_P (g_D G) vwCl (allW G lam σ) H → va_S (g_A G) s.heap H locs → lv_has ls 6 [(0, .ref (g_ad G 26)), (1, .int x1), (2, .int x2), (3, .int x3), (4, .int x4), (5, .int x5)] → W p l e ({ frames := 3, cells := 0, slots := 0, locals := 74 } : Room) s m args below meth c H locs 0 0 (Qi q below args s G lam) (F0 m 42 ls []) := by
    intro n42
    induction n42 with
    | zero => intro σ x1 x2 x3 x4 x5 H locs ls h hP hS hl; exact absurd h (by intro h9; cases h9)
    | succ n42 ih42 =>
      have J102 : ∀ (σ : St) (x1 : Int32) (x2 : Int32) (x3 : Int32) (x5 : Int32) (t0 : Int32) (t1 : Int32) (H : Heap) (locs : List Loc) (ls : Array Slot), f_X11_lines_p102 (fx (F_X11_lines_h42) z_X11_lines_h42 n42) σ x1 x2 x3 x5 t0 t1 = some q → va_P (g_D G) vwCl (allW G lam σ) H → va_S (g_A G) s.heap H locs → lv_has ls 6 [(0, .ref (g_ad G 26)), (1, .int x1), (2, .int x2), (3, .int x3), (5, .int x5)] → W p l e ({ frames := 3, cells := 0, slots := 0, locals := 74 } : Room) s m args below meth c H locs 0 0 (Qi q below args s G lam) (F0 m 102 ls [.int t0, .int t1]) := by
        intro σ x1 x2 x3 x5 t0 t1 H locs ls h hP hS hl
        unfold f_X11_lines_p102 at h
        refine lv_ior hx hb dX11_lines_102 ?_
        obtain ⟨y21, e22, h⟩ := bnd h
        refine r_nm e22 ?_
        refine lv_istore (lv' := [(4, .int y21), (0, .ref (g_ad G 26)), (1, .int x1), (2, .int x2), (3, .int x3), (5, .int x5)]) hx hb dX11_lines_103 hl (by decide) rfl (fun ls hl => ?_)
        obtain ⟨y23, e24, h⟩ := bnd h
        refine lv_iinc (v := y23) (lv' := [(5, .int y23), (4, .int y21), (0, .ref (g_ad G 26)), (1, .int x1), (2, .int x2), (3, .int x3)]) hx hb dX11_lines_105 hl (k := 5) rfl (Option.some.inj e24) (by decide) rfl (fun ls hl => ?_)
        refine lv_goto (tgt := 42) hx hb dX11_lines_108 (by decide) ?_
        exact ih42 _ _ _ _ _ _ H locs ls h hP hS (lv_sub hl [2, 3, 4, 5, 1, 0] rfl)
      have J101 : ∀ (σ : St) (x1 : Int32) (x2 : Int32) (x3 : Int32) (x5 : Int32) (t0 : Int32) (H : Heap) (locs : List Loc) (ls : Array Slot), f_X11_lines_p101 (fx (F_X11_lines_h42) z_X11_lines_h42 n42) σ x1 x2 x3 x5 t0 = some q → va_P (g_D G) vwCl (allW G lam σ) H → va_S (g_A G) s.heap H locs → lv_has ls 6 [(0, .ref (g_ad G 26)), (1, .int x1), (2, .int x2), (3, .int x3), (5, .int x5)] → W p l e ({ frames := 3, cells := 0, slots := 0, locals := 74 } : Room) s m args below meth c H locs 0 0 (Qi q below args s G lam) (F0 m 101 ls [.int t0]) := by
        intro σ x1 x2 x3 x5 t0 H locs ls h hP hS hl
        unfold f_X11_lines_p101 at h
        refine lv_iconst (v := 0) hx hb dX11_lines_101 (by decide) ?_
        exact J102 _ _ _ _ _ _ _ H locs ls h hP hS (lv_sub hl [0, 1, 2, 3, 4] rfl)
      have J91 : ∀ (σ : St) (x1 : Int32) (x2 : Int32) (x3 : Int32) (x5 : Int32) (t0 : Int32) (t1 : Int32) (t2 : Int32) (H : Heap) (locs : List Loc) (ls : Array Slot), f_X11_lines_p91 (fx (F_X11_lines_h42) z_X11_lines_h42 n42) σ x1 x2 x3 x5 t0 t1 t2 = some q → va_P (g_D G) vwCl (allW G lam σ) H → va_S (g_A G) s.heap H locs → lv_has ls 6 [(0, .ref (g_ad G 26)), (1, .int x1), (2, .int x2), (3, .int x3), (5, .int x5)] → W p l e ({ frames := 3, cells := 0, slots := 0, locals := 74 } : Room) s m args below meth c H locs 0 0 (Qi q below args s G lam) (F0 m 91 ls [.int t0, .int t1, .int t2]) := by
        intro σ x1 x2 x3 x5 t0 t1 t2 H locs ls h hP hS hl
        unfold f_X11_lines_p91 at h
        refine lv_icmp_ne (tgt := 101) hx hb dX11_lines_91 (by decide) (fun c25 => ?_) (fun c25 => ?_)
        · replace h := h_f c25 h
          exact J101 _ _ _ _ _ _ H locs ls h hP hS (lv_sub hl [0, 1, 2, 3, 4] rfl)
        · replace h := h_t c25 h
          refine lv_iconst (v := 1) hx hb dX11_lines_94 (by decide) ?_
          refine lv_iload hx hb dX11_lines_95 (lv_at hl 4 rfl) ?_
          refine lv_ishl hx hb dX11_lines_97 ?_
          refine lv_goto (tgt := 102) hx hb dX11_lines_98 (by decide) ?_
          exact J102 _ _ _ _ _ _ _ H locs ls h hP hS (lv_sub hl [0, 1, 2, 3, 4] rfl)
      intro σ x1 x2 x3 x4 x5 H locs ls h hP hS hl
      change F_X11_lines_h42 (fx (F_X11_lines_h42) z_X11_lines_h42 n42) σ x1 x2 x3 x4 x5 = some q at h
      unfold F_X11_lines_h42 at h
      refine lv_iload hx hb dX11_lines_42 (lv_at hl 5 rfl) ?_
      refine lv_aload_n hx hb dX11_lines_44 rfl (lv_at hl 0 rfl) ?_
      refine gf_X11_7_26 C hP dX11_lines_45 ?_
      refine lv_bipush (v := 13) hx hb dX11_lines_48 (by decide) ?_
      refine r_aldc C hP 27 (by decide) rfl (j := 13) (by decide) (vp_in_iff.mpr (by decide)) dX11_lines_50 ?_
      refine lv_icmp_ge (tgt := 111) hx hb dX11_lines_51 (by decide) (fun c26 => ?_) (fun c26 => ?_)
      · replace h := h_t c26 h
        refine lv_iload hx hb dX11_lines_111 (lv_at hl 4 rfl) ?_
        exact ret_i C hr hlocks hP hS h dX11_lines_113
      · replace h := h_f c26 h
        refine lv_iload hx hb dX11_lines_54 (lv_at hl 4 rfl) ?_
        refine lv_aload_n hx hb dX11_lines_56 rfl (lv_at hl 0 rfl) ?_
        refine lv_iload hx hb dX11_lines_57 (lv_at hl 5 rfl) ?_
        obtain ⟨q27, e28, h⟩ := bnd h
        refine call_i C hP hS (c_X11_isShoal e28) mi_X11_isShoal mw_1513 26 (by decide) rfl rfl ⟨Nat.le_of_ble_eq_true rfl, Nat.le_of_ble_eq_true rfl⟩ (As := [.int x5]) rfl hl.1 rfl (lv_room (Nat.le_of_ble_eq_true rfl)) dX11_lines_59 (fun H locs hP hS => ?_)
        refine lv_if_eq (tgt := 101) hx hb dX11_lines_62 (by decide) (fun c29 => ?_) (fun c29 => ?_)
        · replace h := h_t c29 h
          exact J101 _ _ _ _ _ _ H locs ls h hP hS (lv_sub hl [0, 1, 2, 3, 5] rfl)
        · replace h := h_f c29 h
          refine lv_aload_n hx hb dX11_lines_65 rfl (lv_at hl 0 rfl) ?_
          refine lv_iload_n hx hb dX11_lines_66 rfl (lv_at hl 1 rfl) ?_
          refine lv_iload_n hx hb dX11_lines_67 rfl (lv_at hl 2 rfl) ?_
          refine lv_iload hx hb dX11_lines_68 (lv_at hl 5 rfl) ?_
          obtain ⟨q30, e31, h⟩ := bnd h
          refine call_i C hP hS (c_X11_wholly e31) mi_X11_wholly mw_1586 26 (by decide) rfl rfl ⟨Nat.le_of_ble_eq_true rfl, Nat.le_of_ble_eq_true rfl⟩ (As := [.int x1, .int x2, .int x5]) rfl hl.1 rfl (lv_room (Nat.le_of_ble_eq_true rfl)) dX11_lines_70 (fun H locs hP hS => ?_)
          refine lv_iload_n hx hb dX11_lines_73 rfl (lv_at hl 3 rfl) ?_
          refine lv_if_ne (tgt := 81) hx hb dX11_lines_74 (by decide) (fun c32 => ?_) (fun c32 => ?_)
          · replace h := h_f c32 h
            refine lv_iload_n hx hb dX11_lines_81 rfl (lv_at hl 3 rfl) ?_
            refine lv_iconst (v := 1) hx hb dX11_lines_82 (by decide) ?_
            refine lv_icmp_ne (tgt := 90) hx hb dX11_lines_83 (by decide) (fun c33 => ?_) (fun c33 => ?_)
            · replace h := h_f c33 h
              refine lv_iconst (v := 0) hx hb dX11_lines_90 (by decide) ?_
              exact J91 _ _ _ _ _ _ _ _ H locs ls h hP hS (lv_sub hl [0, 1, 2, 3, 5] rfl)
            · replace h := h_t c33 h
              refine lv_iconst (v := (-1)) hx hb dX11_lines_86 (by decide) ?_
              refine lv_goto (tgt := 91) hx hb dX11_lines_87 (by decide) ?_
              exact J91 _ _ _ _ _ _ _ _ H locs ls h hP hS (lv_sub hl [0, 1, 2, 3, 5] rfl)
          · replace h := h_t c32 h
            refine lv_iconst (v := 1) hx hb dX11_lines_77 (by decide) ?_
            refine lv_goto (tgt := 91) hx hb dX11_lines_78 (by decide) ?_
            exact J91 _ _ _ _ _ _ _ _ H locs ls h hP hS (lv_sub hl [0, 1, 2, 3, 5] rfl)
  have hS : va_S (g_A G) s.heap s.heap [] := va_S.rf
  unfold f_X11_lines at h
  obtain ⟨H, hH⟩ : ∃ H, H = s.heap := ⟨_, rfl⟩
  obtain ⟨locs, hlo⟩ : ∃ k : List Loc, k = [] := ⟨_, rfl⟩
  rw [← hH, ← hlo]
  rw [← hH] at hP
  replace hS : va_S (g_A G) s.heap H locs := by rw [hH, hlo]; exact hS
  refine lv_aload_n hx hb dX11_lines_0 rfl (lv_at hl 0 rfl) ?_
  refine lv_iload_n hx hb dX11_lines_1 rfl (lv_at hl 1 rfl) ?_
  refine lv_iload_n hx hb dX11_lines_2 rfl (lv_at hl 2 rfl) ?_
  obtain ⟨q34, e35, h⟩ := bnd h
  refine call_i C hP hS (c_X11_areTwo e35) mi_X11_areTwo mw_1566 26 (by decide) rfl rfl ⟨Nat.le_of_ble_eq_true rfl, Nat.le_of_ble_eq_true rfl⟩ (As := [.int a1, .int a2]) rfl hl.1 rfl (lv_room (Nat.le_of_ble_eq_true rfl)) dX11_lines_3 (fun H locs hP hS => ?_)
  refine lv_if_eq (tgt := 21) hx hb dX11_lines_6 (by decide) (fun c36 => ?_) (fun c36 => ?_)
  · replace h := h_t c36 h
    refine lv_ldc hx hb C.2.2.2.1 (C.2.2.2.2.1 _ mw_1323) dX11_lines_21 ?_
    exact ret_i C hr hlocks hP hS h dX11_lines_23
  · replace h := h_f c36 h
    refine lv_iload_n hx hb dX11_lines_9 rfl (lv_at hl 3 rfl) ?_
    refine lv_i2l hx hb dX11_lines_10 rfl ?_
    refine lv_lconst (v := 0) hx hb dX11_lines_11 (by decide) ?_
    refine lv_ldc2 hx hb C.2.2.2.1 (C.2.2.2.2.1 _ mw_1585) dX11_lines_12 ?_
    obtain ⟨q37, e38, h⟩ := bnd h
    refine scall_i C hP hS (c_X11_in e38) ms_X11_in mw_1320 ⟨Nat.le_of_ble_eq_true rfl, Nat.le_of_ble_eq_true rfl⟩ (As := [.long ((a3 : Int32).toInt64), .long (0), .long (2)]) rfl hl.1 rfl (lv_room (Nat.le_of_ble_eq_true rfl)) dX11_lines_15 (fun H locs hP hS => ?_)
    refine lv_if_ne (tgt := 24) hx hb dX11_lines_18 (by decide) (fun c39 => ?_) (fun c39 => ?_)
    · replace h := h_f c39 h
      refine lv_aload_n hx hb dX11_lines_24 rfl (lv_at hl 0 rfl) ?_
      refine lv_iload_n hx hb dX11_lines_25 rfl (lv_at hl 1 rfl) ?_
      refine lv_iload_n hx hb dX11_lines_26 rfl (lv_at hl 2 rfl) ?_
      obtain ⟨q40, e41, h⟩ := bnd h
      refine call_i C hP hS (c_X11_areApart e41) mi_X11_areApart mw_1570 26 (by decide) rfl rfl ⟨Nat.le_of_ble_eq_true rfl, Nat.le_of_ble_eq_true rfl⟩ (As := [.int a1, .int a2]) rfl hl.1 rfl (lv_room (Nat.le_of_ble_eq_true rfl)) dX11_lines_27 (fun H locs hP hS => ?_)
      refine lv_if_ne (tgt := 36) hx hb dX11_lines_30 (by decide) (fun c42 => ?_) (fun c42 => ?_)
      · replace h := h_f c42 h
        refine lv_iconst (v := 0) hx hb dX11_lines_36 (by decide) ?_
        refine lv_istore (lv' := [(4, .int 0), (0, .ref (g_ad G 26)), (1, .int a1), (2, .int a2), (3, .int a3)]) hx hb dX11_lines_37 hl (by decide) rfl (fun ls hl => ?_)
        refine lv_iconst (v := 0) hx hb dX11_lines_39 (by decide) ?_
        refine lv_istore (lv' := [(5, .int 0), (4, .int 0), (0, .ref (g_ad G 26)), (1, .int a1), (2, .int a2), (3, .int a3)]) hx hb dX11_lines_40 hl (by decide) rfl (fun ls hl => ?_)
        exact L42 FU _ _ _ _ _ _ H locs ls h hP hS (lv_sub hl [2, 3, 4, 5, 1, 0] rfl)
      · replace h := h_t c42 h
        refine lv_ldc hx hb C.2.2.2.1 (C.2.2.2.2.1 _ mw_1403) dX11_lines_33 ?_
        exact ret_i C hr hlocks hP hS h dX11_lines_35
    · replace h := h_t c39 h
      refine lv_ldc hx hb C.2.2.2.1 (C.2.2.2.2.1 _ mw_1323) dX11_lines_21 ?_
      exact ret_i C hr hlocks hP hS h dX11_lines_23
set_option maxHeartbeats 4000000 in
set_option maxRecDepth 100000 in
theorem c_X11_by {l : Launch} {G : GT} {lam : Lm} {σ : St} {a1 : Int32} {a2 : Int32} {q : St} (h : f_X11_by σ a1 a2 = some q) : Met l yX11_by (Cond.code yX11_by cX11_by 3 none :: TB) ({ frames := 0, cells := 0, slots := 0, locals := 0 } : Room) (va_Pc [.ref (g_ad G 26), .int a1, .int a2] (GW G lam σ)) (Rv q G lam) 0 0 (g_A G) := by
  refine mk_Qv (own := RX11) (by decide) (Nat.le_of_ble_eq_true rfl) rfl (fun p e s m args below meth c C hr hlocks hP ls hl => ?_)
  have hx := C.1
  have hb := C.2.1
  have hl : lv_has ls 3 [(0, .ref (g_ad G 26)), (1, .int a1), (2, .int a2)] := hl
  have hS : va_S (g_A G) s.heap s.heap [] := va_S.rf
  unfold f_X11_by at h
  refine lv_aload_n hx hb dX11_by_0 rfl (lv_at hl 0 rfl) ?_
  refine gf_X11_41_26 C hP dX11_by_1 ?_
  refine lv_aload_n hx hb dX11_by_4 rfl (lv_at hl 0 rfl) ?_
  refine gf_X11_261_26 C hP dX11_by_5 ?_
  refine lv_iload_n hx hb dX11_by_8 rfl (lv_at hl 1 rfl) ?_
  obtain ⟨g9, h⟩ := h_g h
  refine r_ast C hP hS 37 (by decide) (fun _ => rfl) (vp_in_iff.mpr g9) dX11_by_9 (fun H locs hP hS => ?_)
  obtain ⟨σ10, e11, h⟩ := bnd h
  have hP := hPn e11 hP
  refine lv_aload_n hx hb dX11_by_10 rfl (lv_at hl 0 rfl) ?_
  refine gf_X11_44_26 C hP dX11_by_11 ?_
  refine lv_aload_n hx hb dX11_by_14 rfl (lv_at hl 0 rfl) ?_
  refine gf_X11_261_26 C hP dX11_by_15 ?_
  refine lv_iload_n hx hb dX11_by_18 rfl (lv_at hl 2 rfl) ?_
  obtain ⟨g12, h⟩ := h_g h
  refine r_ast C hP hS 38 (by decide) (fun _ => rfl) (vp_in_iff.mpr g12) dX11_by_19 (fun H locs hP hS => ?_)
  obtain ⟨σ13, e14, h⟩ := bnd h
  have hP := hPn e14 hP
  refine lv_aload_n hx hb dX11_by_20 rfl (lv_at hl 0 rfl) ?_
  refine lv_dup hx hb dX11_by_21 rfl ?_
  refine gf_X11_261_26 C hP dX11_by_22 ?_
  refine lv_iconst (v := 1) hx hb dX11_by_25 (by decide) ?_
  refine lv_iadd hx hb dX11_by_26 ?_
  refine pf_X11_261_26 C hP hS dX11_by_27 (fun H locs hP hS => ?_)
  obtain ⟨σ15, e16, h⟩ := bnd h
  have hP := hPn e16 hP
  exact ret_v C hr hlocks hP hS h dX11_by_30
set_option maxHeartbeats 4000000 in
set_option maxRecDepth 100000 in
theorem c_X11_legOf {l : Launch} {G : GT} {lam : Lm} {σ : St} {a1 : Int32} {a2 : Int32} {q : Int32 × St} (h : f_X11_legOf σ a1 a2 = some q) : Met l yX11_legOf (Cond.code yX11_legOf cX11_legOf 3 ((some .int)) :: TB) ({ frames := 0, cells := 0, slots := 0, locals := 0 } : Room) (va_Pc [.ref (g_ad G 26), .int a1, .int a2] (GW G lam σ)) (Ri q G lam) 0 0 (g_A G) := by
  refine mk_Qi (own := RX11) (by decide) (Nat.le_of_ble_eq_true rfl) rfl (fun p e s m args below meth c C hr hlocks hP ls hl => ?_)
  have hx := C.1
  have hb := C.2.1
  have hl : lv_has ls 3 [(0, .ref (g_ad G 26)), (1, .int a1), (2, .int a2)] := hl
  have hS : va_S (g_A G) s.heap s.heap [] := va_S.rf
  unfold f_X11_legOf at h
  refine lv_aload_n hx hb dX11_legOf_0 rfl (lv_at hl 0 rfl) ?_
  refine gf_X11_7_26 C hP dX11_legOf_1 ?_
  refine lv_bipush (v := 55) hx hb dX11_legOf_4 (by decide) ?_
  refine lv_iconst (v := 4) hx hb dX11_legOf_6 (by decide) ?_
  refine lv_iload_n hx hb dX11_legOf_7 rfl (lv_at hl 1 rfl) ?_
  refine lv_imul hx hb dX11_legOf_8 ?_
  refine lv_iadd hx hb dX11_legOf_9 ?_
  refine lv_iload_n hx hb dX11_legOf_10 rfl (lv_at hl 2 rfl) ?_
  refine lv_iadd hx hb dX11_legOf_11 ?_
  obtain ⟨g2, h⟩ := h_g h
  refine r_ald C hP 27 (by decide) rfl (vp_in_iff.mpr g2) dX11_legOf_12 ?_
  exact ret_i C hr hlocks hP hS h dX11_legOf_13
