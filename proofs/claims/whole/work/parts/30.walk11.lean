set_option maxHeartbeats 4000000 in
set_option maxRecDepth 100000 in
theorem c_X11_isStart {l : Launch} {G : GT} {lam : Lm} {σ : St} {a1 : Int32} {q : Int32 × St} (h : f_X11_isStart σ a1 = some q) : Met l yX11_isStart (Cond.code yX11_isStart cX11_isStart 1 ((some .boolean)) :: TB) ({ frames := 1, cells := 0, slots := 0, locals := 25 } : Room) (va_Pc [.int a1] (GW G lam σ)) (Ri q G lam) 0 0 (g_A G) := by
  refine mk_Qi (own := RX11) (by decide) (Nat.le_of_ble_eq_true rfl) rfl (fun p e s m args below meth c C hr hlocks hP ls hl => ?_)
  have hx := C.1
  have hb := C.2.1
  have hl : lv_has ls 1 [(0, .int a1)] := hl
  have hS : va_S (g_A G) s.heap s.heap [] := va_S.rf
  unfold f_X11_isStart at h
  refine lv_iload_n hx hb dX11_isStart_0 rfl (lv_at hl 0 rfl) ?_
  refine lv_i2l hx hb dX11_isStart_1 rfl ?_
  refine lv_lconst (v := 0) hx hb dX11_isStart_2 (by decide) ?_
  refine lv_ldc2 hx hb C.2.2.2.1 (C.2.2.2.2.1 _ mw_1597) dX11_isStart_3 ?_
  obtain ⟨q4, e5, h⟩ := bnd h
  refine scall_i C hP hS (c_X11_in e5) ms_X11_in mw_1320 ⟨Nat.le_of_ble_eq_true rfl, Nat.le_of_ble_eq_true rfl⟩ (As := [.long ((a1 : Int32).toInt64), .long (0), .long (99)]) rfl hl.1 rfl (lv_room (Nat.le_of_ble_eq_true rfl)) dX11_isStart_6 (fun H locs hP hS => ?_)
  obtain ⟨g6, h⟩ := h_g h
  exact ret_z C hr hlocks hP hS h g6 dX11_isStart_9
set_option maxHeartbeats 4000000 in
set_option maxRecDepth 100000 in
theorem c_X11_sail {l : Launch} {G : GT} {lam : Lm} {σ : St} {a1 : Int32} {a2 : Int32} {q : Int32 × St} (h : f_X11_sail σ a1 a2 = some q) : Met l yX11_sail (Cond.code yX11_sail cX11_sail 3 ((some .int)) :: TB) ({ frames := 7, cells := 0, slots := 0, locals := 182 } : Room) (va_Pc [.ref (g_ad G 26), .int a1, .int a2] (GW G lam σ)) (Ri q G lam) 0 0 (g_A G) := by
  refine mk_Qi (own := RX11) (by decide) (Nat.le_of_ble_eq_true rfl) rfl (fun p e s m args below meth c C hr hlocks hP ls hl => ?_)
  have hx := C.1
  have hb := C.2.1
  have hl : lv_has ls 3 [(0, .ref (g_ad G 26)), (1, .int a1), (2, .int a2)] := hl
  have hS : va_S (g_A G) s.heap s.heap [] := va_S.rf
  unfold f_X11_sail at h
  refine lv_aload_n hx hb dX11_sail_0 rfl (lv_at hl 0 rfl) ?_
  obtain ⟨q21, e22, h⟩ := bnd h
  refine call_i C hP hS (c_X11_isSheet e22) mi_X11_isSheet mw_1441 26 (by decide) rfl rfl ⟨Nat.le_of_ble_eq_true rfl, Nat.le_of_ble_eq_true rfl⟩ (As := []) rfl hl.1 rfl (lv_room (Nat.le_of_ble_eq_true rfl)) dX11_sail_1 (fun H locs hP hS => ?_)
  refine lv_if_ne (tgt := 10) hx hb dX11_sail_4 (by decide) (fun c23 => ?_) (fun c23 => ?_)
  · replace h := h_f c23 h
    refine lv_iload_n hx hb dX11_sail_10 rfl (lv_at hl 1 rfl) ?_
    obtain ⟨q24, e25, h⟩ := bnd h
    refine scall_i C hP hS (c_X11_isStart e25) ms_X11_isStart mw_1594 ⟨Nat.le_of_ble_eq_true rfl, Nat.le_of_ble_eq_true rfl⟩ (As := [.int a1]) rfl hl.1 rfl (lv_room (Nat.le_of_ble_eq_true rfl)) dX11_sail_11 (fun H locs hP hS => ?_)
    refine lv_if_eq (tgt := 29) hx hb dX11_sail_14 (by decide) (fun c26 => ?_) (fun c26 => ?_)
    · replace h := h_t c26 h
      refine lv_ldc hx hb C.2.2.2.1 (C.2.2.2.2.1 _ mw_1323) dX11_sail_29 ?_
      exact ret_i C hr hlocks hP hS h dX11_sail_31
    · replace h := h_f c26 h
      refine lv_iload_n hx hb dX11_sail_17 rfl (lv_at hl 2 rfl) ?_
      refine lv_i2l hx hb dX11_sail_18 rfl ?_
      refine lv_lconst (v := 0) hx hb dX11_sail_19 (by decide) ?_
      refine lv_ldc2 hx hb C.2.2.2.1 (C.2.2.2.2.1 _ mw_1432) dX11_sail_20 ?_
      obtain ⟨q27, e28, h⟩ := bnd h
      refine scall_i C hP hS (c_X11_in e28) ms_X11_in mw_1320 ⟨Nat.le_of_ble_eq_true rfl, Nat.le_of_ble_eq_true rfl⟩ (As := [.long ((a2 : Int32).toInt64), .long (0), .long (6)]) rfl hl.1 rfl (lv_room (Nat.le_of_ble_eq_true rfl)) dX11_sail_23 (fun H locs hP hS => ?_)
      refine lv_if_ne (tgt := 32) hx hb dX11_sail_26 (by decide) (fun c29 => ?_) (fun c29 => ?_)
      · replace h := h_f c29 h
        refine lv_aload_n hx hb dX11_sail_32 rfl (lv_at hl 0 rfl) ?_
        refine lv_iload_n hx hb dX11_sail_33 rfl (lv_at hl 1 rfl) ?_
        refine lv_aload_n hx hb dX11_sail_34 rfl (lv_at hl 0 rfl) ?_
        refine gf_X11_7_26 C hP dX11_sail_35 ?_
        refine lv_iconst (v := 1) hx hb dX11_sail_38 (by decide) ?_
        refine r_aldc C hP 27 (by decide) rfl (j := 1) (by decide) (vp_in_iff.mpr (by decide)) dX11_sail_39 ?_
        obtain ⟨q30, e31, h⟩ := bnd h
        refine call_v C hP hS (c_X11_sails e31) mi_X11_sails mw_1598 26 (by decide) rfl rfl ⟨Nat.le_of_ble_eq_true rfl, Nat.le_of_ble_eq_true rfl⟩ (As := [.int a1, .int (q27.2 27 1)]) rfl hl.1 rfl (lv_room (Nat.le_of_ble_eq_true rfl)) dX11_sail_40 (fun H locs hP hS => ?_)
        refine lv_iload_n hx hb dX11_sail_43 rfl (lv_at hl 2 rfl) ?_
        by_cases c32 : a2 = 0
        · replace h := h_t c32 h
          refine r_eq c32 ?_
          refine lv_tableIn (off := 40) (tgt := 84) hx hb dX11_sail_44 (by decide) (by decide) (by decide) (by decide) ?_
          refine lv_aload_n hx hb dX11_sail_84 rfl (lv_at hl 0 rfl) ?_
          refine gf_X11_274_26 C hP dX11_sail_85 ?_
          exact ret_i C hr hlocks hP hS h dX11_sail_88
        replace h := h_f c32 h
        by_cases c34 : a2 = 1
        · replace h := h_t c34 h
          refine r_eq c34 ?_
          refine lv_tableIn (off := 45) (tgt := 89) hx hb dX11_sail_44 (by decide) (by decide) (by decide) (by decide) ?_
          refine lv_aload_n hx hb dX11_sail_89 rfl (lv_at hl 0 rfl) ?_
          refine gf_X11_29_26 C hP dX11_sail_90 ?_
          refine lv_aload_n hx hb dX11_sail_93 rfl (lv_at hl 0 rfl) ?_
          refine gf_X11_274_26 C hP dX11_sail_94 ?_
          obtain ⟨g33, h⟩ := h_g h
          refine r_ald C hP 33 (by decide) rfl (vp_in_iff.mpr g33) dX11_sail_97 ?_
          exact ret_i C hr hlocks hP hS h dX11_sail_98
        replace h := h_f c34 h
        by_cases c36 : a2 = 2
        · replace h := h_t c36 h
          refine r_eq c36 ?_
          refine lv_tableIn (off := 55) (tgt := 99) hx hb dX11_sail_44 (by decide) (by decide) (by decide) (by decide) ?_
          refine lv_aload_n hx hb dX11_sail_99 rfl (lv_at hl 0 rfl) ?_
          refine gf_X11_32_26 C hP dX11_sail_100 ?_
          refine lv_aload_n hx hb dX11_sail_103 rfl (lv_at hl 0 rfl) ?_
          refine gf_X11_274_26 C hP dX11_sail_104 ?_
          obtain ⟨g35, h⟩ := h_g h
          refine r_ald C hP 34 (by decide) rfl (vp_in_iff.mpr g35) dX11_sail_107 ?_
          exact ret_i C hr hlocks hP hS h dX11_sail_108
        replace h := h_f c36 h
        by_cases c37 : a2 = 3
        · replace h := h_t c37 h
          refine r_eq c37 ?_
          refine lv_tableIn (off := 65) (tgt := 109) hx hb dX11_sail_44 (by decide) (by decide) (by decide) (by decide) ?_
          refine lv_aload_n hx hb dX11_sail_109 rfl (lv_at hl 0 rfl) ?_
          refine gf_X11_290_26 C hP dX11_sail_110 ?_
          exact ret_i C hr hlocks hP hS h dX11_sail_113
        replace h := h_f c37 h
        by_cases c39 : a2 = 4
        · replace h := h_t c39 h
          refine r_eq c39 ?_
          refine lv_tableIn (off := 70) (tgt := 114) hx hb dX11_sail_44 (by decide) (by decide) (by decide) (by decide) ?_
          refine lv_aload_n hx hb dX11_sail_114 rfl (lv_at hl 0 rfl) ?_
          refine gf_X11_296_26 C hP dX11_sail_115 ?_
          refine lv_if_eq (tgt := 125) hx hb dX11_sail_118 (by decide) (fun c38 => ?_) (fun c38 => ?_)
          · replace h := h_t c38 h
            refine lv_iconst (v := 0) hx hb dX11_sail_125 (by decide) ?_
            exact ret_i C hr hlocks hP hS h dX11_sail_126
          · replace h := h_f c38 h
            refine lv_iconst (v := 1) hx hb dX11_sail_121 (by decide) ?_
            refine lv_goto (tgt := 126) hx hb dX11_sail_122 (by decide) ?_
            exact ret_i C hr hlocks hP hS h dX11_sail_126
        replace h := h_f c39 h
        by_cases c40 : a2 = 5
        · replace h := h_t c40 h
          refine r_eq c40 ?_
          refine lv_tableIn (off := 83) (tgt := 127) hx hb dX11_sail_44 (by decide) (by decide) (by decide) (by decide) ?_
          refine lv_aload_n hx hb dX11_sail_127 rfl (lv_at hl 0 rfl) ?_
          refine gf_X11_280_26 C hP dX11_sail_128 ?_
          exact ret_i C hr hlocks hP hS h dX11_sail_131
        replace h := h_f c40 h
        refine lv_tableOut (tgt := 132) hx hb dX11_sail_44 (by have hz := And.intro (ne_i (z := 0) (by decide) c32) (And.intro (ne_i (z := 1) (by decide) c34) (And.intro (ne_i (z := 2) (by decide) c36) (And.intro (ne_i (z := 3) (by decide) c37) (And.intro (ne_i (z := 4) (by decide) c39) (ne_i (z := 5) (by decide) c40))))); omega) (by decide) ?_
        refine lv_aload_n hx hb dX11_sail_132 rfl (lv_at hl 0 rfl) ?_
        refine gf_X11_277_26 C hP dX11_sail_133 ?_
        exact ret_i C hr hlocks hP hS h dX11_sail_136
      · replace h := h_t c29 h
        refine lv_ldc hx hb C.2.2.2.1 (C.2.2.2.2.1 _ mw_1323) dX11_sail_29 ?_
        exact ret_i C hr hlocks hP hS h dX11_sail_31
  · replace h := h_t c23 h
    refine lv_ldc hx hb C.2.2.2.1 (C.2.2.2.2.1 _ mw_1403) dX11_sail_7 ?_
    exact ret_i C hr hlocks hP hS h dX11_sail_9
set_option maxHeartbeats 4000000 in
set_option maxRecDepth 100000 in
theorem c_X11_track {l : Launch} {G : GT} {lam : Lm} {σ : St} {a1 : Int32} {a2 : Int32} {a3 : Int32} {q : Int32 × St} (h : f_X11_track σ a1 a2 a3 = some q) : Met l yX11_track (Cond.code yX11_track cX11_track 4 ((some .int)) :: TB) ({ frames := 7, cells := 0, slots := 0, locals := 182 } : Room) (va_Pc [.ref (g_ad G 26), .int a1, .int a2, .int a3] (GW G lam σ)) (Ri q G lam) 0 0 (g_A G) := by
  refine mk_Qi (own := RX11) (by decide) (Nat.le_of_ble_eq_true rfl) rfl (fun p e s m args below meth c C hr hlocks hP ls hl => ?_)
  have hx := C.1
  have hb := C.2.1
  have hl : lv_has ls 4 [(0, .ref (g_ad G 26)), (1, .int a1), (2, .int a2), (3, .int a3)] := hl
  have hS : va_S (g_A G) s.heap s.heap [] := va_S.rf
  unfold f_X11_track at h
  refine lv_aload_n hx hb dX11_track_0 rfl (lv_at hl 0 rfl) ?_
  obtain ⟨q19, e20, h⟩ := bnd h
  refine call_i C hP hS (c_X11_isSheet e20) mi_X11_isSheet mw_1441 26 (by decide) rfl rfl ⟨Nat.le_of_ble_eq_true rfl, Nat.le_of_ble_eq_true rfl⟩ (As := []) rfl hl.1 rfl (lv_room (Nat.le_of_ble_eq_true rfl)) dX11_track_1 (fun H locs hP hS => ?_)
  refine lv_if_ne (tgt := 10) hx hb dX11_track_4 (by decide) (fun c21 => ?_) (fun c21 => ?_)
  · replace h := h_f c21 h
    refine lv_iload_n hx hb dX11_track_10 rfl (lv_at hl 1 rfl) ?_
    obtain ⟨q22, e23, h⟩ := bnd h
    refine scall_i C hP hS (c_X11_isStart e23) ms_X11_isStart mw_1594 ⟨Nat.le_of_ble_eq_true rfl, Nat.le_of_ble_eq_true rfl⟩ (As := [.int a1]) rfl hl.1 rfl (lv_room (Nat.le_of_ble_eq_true rfl)) dX11_track_11 (fun H locs hP hS => ?_)
    refine lv_if_eq (tgt := 33) hx hb dX11_track_14 (by decide) (fun c24 => ?_) (fun c24 => ?_)
    · replace h := h_t c24 h
      refine lv_ldc hx hb C.2.2.2.1 (C.2.2.2.2.1 _ mw_1323) dX11_track_33 ?_
      exact ret_i C hr hlocks hP hS h dX11_track_35
    · replace h := h_f c24 h
      refine lv_iload_n hx hb dX11_track_17 rfl (lv_at hl 2 rfl) ?_
      refine lv_if_lt (tgt := 33) hx hb dX11_track_18 (by decide) (fun c25 => ?_) (fun c25 => ?_)
      · replace h := h_t c25 h
        refine lv_ldc hx hb C.2.2.2.1 (C.2.2.2.2.1 _ mw_1323) dX11_track_33 ?_
        exact ret_i C hr hlocks hP hS h dX11_track_35
      · replace h := h_f c25 h
        refine lv_iload_n hx hb dX11_track_21 rfl (lv_at hl 3 rfl) ?_
        refine lv_i2l hx hb dX11_track_22 rfl ?_
        refine lv_lconst (v := 0) hx hb dX11_track_23 (by decide) ?_
        refine lv_ldc2 hx hb C.2.2.2.1 (C.2.2.2.2.1 _ mw_1585) dX11_track_24 ?_
        obtain ⟨q26, e27, h⟩ := bnd h
        refine scall_i C hP hS (c_X11_in e27) ms_X11_in mw_1320 ⟨Nat.le_of_ble_eq_true rfl, Nat.le_of_ble_eq_true rfl⟩ (As := [.long ((a3 : Int32).toInt64), .long (0), .long (2)]) rfl hl.1 rfl (lv_room (Nat.le_of_ble_eq_true rfl)) dX11_track_27 (fun H locs hP hS => ?_)
        refine lv_if_ne (tgt := 36) hx hb dX11_track_30 (by decide) (fun c28 => ?_) (fun c28 => ?_)
        · replace h := h_f c28 h
          refine lv_aload_n hx hb dX11_track_36 rfl (lv_at hl 0 rfl) ?_
          refine lv_iload_n hx hb dX11_track_37 rfl (lv_at hl 1 rfl) ?_
          refine lv_aload_n hx hb dX11_track_38 rfl (lv_at hl 0 rfl) ?_
          refine gf_X11_7_26 C hP dX11_track_39 ?_
          refine lv_iconst (v := 1) hx hb dX11_track_42 (by decide) ?_
          refine r_aldc C hP 27 (by decide) rfl (j := 1) (by decide) (vp_in_iff.mpr (by decide)) dX11_track_43 ?_
          obtain ⟨q29, e30, h⟩ := bnd h
          refine call_v C hP hS (c_X11_sails e30) mi_X11_sails mw_1598 26 (by decide) rfl rfl ⟨Nat.le_of_ble_eq_true rfl, Nat.le_of_ble_eq_true rfl⟩ (As := [.int a1, .int (q26.2 27 1)]) rfl hl.1 rfl (lv_room (Nat.le_of_ble_eq_true rfl)) dX11_track_44 (fun H locs hP hS => ?_)
          refine lv_iload_n hx hb dX11_track_47 rfl (lv_at hl 2 rfl) ?_
          refine lv_aload_n hx hb dX11_track_48 rfl (lv_at hl 0 rfl) ?_
          refine gf_X11_274_26 C hP dX11_track_49 ?_
          refine lv_icmp_le (tgt := 60) hx hb dX11_track_52 (by decide) (fun c31 => ?_) (fun c31 => ?_)
          · replace h := h_t c31 h
            refine lv_iload_n hx hb dX11_track_60 rfl (lv_at hl 3 rfl) ?_
            refine lv_if_ne (tgt := 73) hx hb dX11_track_61 (by decide) (fun c32 => ?_) (fun c32 => ?_)
            · replace h := h_f c32 h
              refine lv_iload_n hx hb dX11_track_73 rfl (lv_at hl 3 rfl) ?_
              refine lv_iconst (v := 1) hx hb dX11_track_74 (by decide) ?_
              refine lv_icmp_ne (tgt := 87) hx hb dX11_track_75 (by decide) (fun c33 => ?_) (fun c33 => ?_)
              · replace h := h_f c33 h
                refine lv_aload_n hx hb dX11_track_87 rfl (lv_at hl 0 rfl) ?_
                refine gf_X11_35_26 C hP dX11_track_88 ?_
                refine lv_iload_n hx hb dX11_track_91 rfl (lv_at hl 2 rfl) ?_
                obtain ⟨g34, h⟩ := h_g h
                refine r_ald C hP 35 (by decide) rfl (vp_in_iff.mpr g34) dX11_track_92 ?_
                exact ret_i C hr hlocks hP hS h dX11_track_93
              · replace h := h_t c33 h
                refine lv_aload_n hx hb dX11_track_78 rfl (lv_at hl 0 rfl) ?_
                refine gf_X11_32_26 C hP dX11_track_79 ?_
                refine lv_iload_n hx hb dX11_track_82 rfl (lv_at hl 2 rfl) ?_
                obtain ⟨g35, h⟩ := h_g h
                refine r_ald C hP 34 (by decide) rfl (vp_in_iff.mpr g35) dX11_track_83 ?_
                refine lv_goto (tgt := 93) hx hb dX11_track_84 (by decide) ?_
                exact ret_i C hr hlocks hP hS h dX11_track_93
            · replace h := h_t c32 h
              refine lv_aload_n hx hb dX11_track_64 rfl (lv_at hl 0 rfl) ?_
              refine gf_X11_29_26 C hP dX11_track_65 ?_
              refine lv_iload_n hx hb dX11_track_68 rfl (lv_at hl 2 rfl) ?_
              obtain ⟨g36, h⟩ := h_g h
              refine r_ald C hP 33 (by decide) rfl (vp_in_iff.mpr g36) dX11_track_69 ?_
              refine lv_goto (tgt := 93) hx hb dX11_track_70 (by decide) ?_
              exact ret_i C hr hlocks hP hS h dX11_track_93
          · replace h := h_f c31 h
            refine lv_ldc hx hb C.2.2.2.1 (C.2.2.2.2.1 _ mw_1337) dX11_track_55 ?_
            refine lv_goto (tgt := 93) hx hb dX11_track_57 (by decide) ?_
            exact ret_i C hr hlocks hP hS h dX11_track_93
        · replace h := h_t c28 h
          refine lv_ldc hx hb C.2.2.2.1 (C.2.2.2.2.1 _ mw_1323) dX11_track_33 ?_
          exact ret_i C hr hlocks hP hS h dX11_track_35
  · replace h := h_t c21 h
    refine lv_ldc hx hb C.2.2.2.1 (C.2.2.2.2.1 _ mw_1403) dX11_track_7 ?_
    exact ret_i C hr hlocks hP hS h dX11_track_9
set_option maxHeartbeats 4000000 in
set_option maxRecDepth 100000 in
theorem c_X11_why {l : Launch} {G : GT} {lam : Lm} {σ : St} {a1 : Int32} {a2 : Int32} {a3 : Int32} {q : Int32 × St} (h : f_X11_why σ a1 a2 a3 = some q) : Met l yX11_why (Cond.code yX11_why cX11_why 4 ((some .int)) :: TB) ({ frames := 7, cells := 0, slots := 0, locals := 182 } : Room) (va_Pc [.ref (g_ad G 26), .int a1, .int a2, .int a3] (GW G lam σ)) (Ri q G lam) 0 0 (g_A G) := by
  refine mk_Qi (own := RX11) (by decide) (Nat.le_of_ble_eq_true rfl) rfl (fun p e s m args below meth c C hr hlocks hP ls hl => ?_)
  have hx := C.1
  have hb := C.2.1
  have hl : lv_has ls 4 [(0, .ref (g_ad G 26)), (1, .int a1), (2, .int a2), (3, .int a3)] := hl
  have hS : va_S (g_A G) s.heap s.heap [] := va_S.rf
  unfold f_X11_why at h
  refine lv_aload_n hx hb dX11_why_0 rfl (lv_at hl 0 rfl) ?_
  obtain ⟨q17, e18, h⟩ := bnd h
  refine call_i C hP hS (c_X11_isSheet e18) mi_X11_isSheet mw_1441 26 (by decide) rfl rfl ⟨Nat.le_of_ble_eq_true rfl, Nat.le_of_ble_eq_true rfl⟩ (As := []) rfl hl.1 rfl (lv_room (Nat.le_of_ble_eq_true rfl)) dX11_why_1 (fun H locs hP hS => ?_)
  refine lv_if_ne (tgt := 10) hx hb dX11_why_4 (by decide) (fun c19 => ?_) (fun c19 => ?_)
  · replace h := h_f c19 h
    refine lv_iload_n hx hb dX11_why_10 rfl (lv_at hl 1 rfl) ?_
    obtain ⟨q20, e21, h⟩ := bnd h
    refine scall_i C hP hS (c_X11_isStart e21) ms_X11_isStart mw_1594 ⟨Nat.le_of_ble_eq_true rfl, Nat.le_of_ble_eq_true rfl⟩ (As := [.int a1]) rfl hl.1 rfl (lv_room (Nat.le_of_ble_eq_true rfl)) dX11_why_11 (fun H locs hP hS => ?_)
    refine lv_if_eq (tgt := 31) hx hb dX11_why_14 (by decide) (fun c22 => ?_) (fun c22 => ?_)
    · replace h := h_t c22 h
      refine lv_ldc hx hb C.2.2.2.1 (C.2.2.2.2.1 _ mw_1323) dX11_why_31 ?_
      exact ret_i C hr hlocks hP hS h dX11_why_33
    · replace h := h_f c22 h
      refine lv_iload_n hx hb dX11_why_17 rfl (lv_at hl 2 rfl) ?_
      refine lv_if_lt (tgt := 31) hx hb dX11_why_18 (by decide) (fun c23 => ?_) (fun c23 => ?_)
      · replace h := h_t c23 h
        refine lv_ldc hx hb C.2.2.2.1 (C.2.2.2.2.1 _ mw_1323) dX11_why_31 ?_
        exact ret_i C hr hlocks hP hS h dX11_why_33
      · replace h := h_f c23 h
        refine lv_iload_n hx hb dX11_why_21 rfl (lv_at hl 3 rfl) ?_
        refine lv_i2l hx hb dX11_why_22 rfl ?_
        refine lv_lconst (v := 0) hx hb dX11_why_23 (by decide) ?_
        refine lv_lconst (v := 1) hx hb dX11_why_24 (by decide) ?_
        obtain ⟨q24, e25, h⟩ := bnd h
        refine scall_i C hP hS (c_X11_in e25) ms_X11_in mw_1320 ⟨Nat.le_of_ble_eq_true rfl, Nat.le_of_ble_eq_true rfl⟩ (As := [.long ((a3 : Int32).toInt64), .long (0), .long (1)]) rfl hl.1 rfl (lv_room (Nat.le_of_ble_eq_true rfl)) dX11_why_25 (fun H locs hP hS => ?_)
        refine lv_if_ne (tgt := 34) hx hb dX11_why_28 (by decide) (fun c26 => ?_) (fun c26 => ?_)
        · replace h := h_f c26 h
          refine lv_aload_n hx hb dX11_why_34 rfl (lv_at hl 0 rfl) ?_
          refine lv_iload_n hx hb dX11_why_35 rfl (lv_at hl 1 rfl) ?_
          refine lv_aload_n hx hb dX11_why_36 rfl (lv_at hl 0 rfl) ?_
          refine gf_X11_7_26 C hP dX11_why_37 ?_
          refine lv_iconst (v := 1) hx hb dX11_why_40 (by decide) ?_
          refine r_aldc C hP 27 (by decide) rfl (j := 1) (by decide) (vp_in_iff.mpr (by decide)) dX11_why_41 ?_
          obtain ⟨q27, e28, h⟩ := bnd h
          refine call_v C hP hS (c_X11_sails e28) mi_X11_sails mw_1598 26 (by decide) rfl rfl ⟨Nat.le_of_ble_eq_true rfl, Nat.le_of_ble_eq_true rfl⟩ (As := [.int a1, .int (q24.2 27 1)]) rfl hl.1 rfl (lv_room (Nat.le_of_ble_eq_true rfl)) dX11_why_42 (fun H locs hP hS => ?_)
          refine lv_iload_n hx hb dX11_why_45 rfl (lv_at hl 2 rfl) ?_
          refine lv_aload_n hx hb dX11_why_46 rfl (lv_at hl 0 rfl) ?_
          refine gf_X11_261_26 C hP dX11_why_47 ?_
          refine lv_icmp_lt (tgt := 58) hx hb dX11_why_50 (by decide) (fun c29 => ?_) (fun c29 => ?_)
          · replace h := h_t c29 h
            refine lv_iload_n hx hb dX11_why_58 rfl (lv_at hl 3 rfl) ?_
            refine lv_if_ne (tgt := 71) hx hb dX11_why_59 (by decide) (fun c30 => ?_) (fun c30 => ?_)
            · replace h := h_f c30 h
              refine lv_aload_n hx hb dX11_why_71 rfl (lv_at hl 0 rfl) ?_
              refine gf_X11_44_26 C hP dX11_why_72 ?_
              refine lv_iload_n hx hb dX11_why_75 rfl (lv_at hl 2 rfl) ?_
              obtain ⟨g31, h⟩ := h_g h
              refine r_ald C hP 38 (by decide) rfl (vp_in_iff.mpr g31) dX11_why_76 ?_
              exact ret_i C hr hlocks hP hS h dX11_why_77
            · replace h := h_t c30 h
              refine lv_aload_n hx hb dX11_why_62 rfl (lv_at hl 0 rfl) ?_
              refine gf_X11_41_26 C hP dX11_why_63 ?_
              refine lv_iload_n hx hb dX11_why_66 rfl (lv_at hl 2 rfl) ?_
              obtain ⟨g32, h⟩ := h_g h
              refine r_ald C hP 37 (by decide) rfl (vp_in_iff.mpr g32) dX11_why_67 ?_
              refine lv_goto (tgt := 77) hx hb dX11_why_68 (by decide) ?_
              exact ret_i C hr hlocks hP hS h dX11_why_77
          · replace h := h_f c29 h
            refine lv_ldc hx hb C.2.2.2.1 (C.2.2.2.2.1 _ mw_1337) dX11_why_53 ?_
            refine lv_goto (tgt := 77) hx hb dX11_why_55 (by decide) ?_
            exact ret_i C hr hlocks hP hS h dX11_why_77
        · replace h := h_t c26 h
          refine lv_ldc hx hb C.2.2.2.1 (C.2.2.2.2.1 _ mw_1323) dX11_why_31 ?_
          exact ret_i C hr hlocks hP hS h dX11_why_33
  · replace h := h_t c19 h
    refine lv_ldc hx hb C.2.2.2.1 (C.2.2.2.2.1 _ mw_1403) dX11_why_7 ?_
    exact ret_i C hr hlocks hP hS h dX11_why_9
set_option maxHeartbeats 4000000 in
set_option maxRecDepth 100000 in
theorem c_X11_writes {l : Launch} {G : GT} {lam : Lm} {σ : St} {a1 : Int32} {q : St} (h : f_X11_writes σ a1 = some q) : Met l yX11_writes (Cond.code yX11_writes cX11_writes 2 none :: TB) ({ frames := 0, cells := 0, slots := 0, locals := 0 } : Room) (va_Pc [.ref (g_ad G 26), .int a1] (GW G lam σ)) (Rv q G lam) 0 0 (g_A G) := by
  refine mk_Qv (own := RX11) (by decide) (Nat.le_of_ble_eq_true rfl) rfl (fun p e s m args below meth c C hr hlocks hP ls hl => ?_)
  have hx := C.1
  have hb := C.2.1
  have hl : lv_has ls 2 [(0, .ref (g_ad G 26)), (1, .int a1)] := hl
  have hS : va_S (g_A G) s.heap s.heap [] := va_S.rf
  unfold f_X11_writes at h
  refine lv_aload_n hx hb dX11_writes_0 rfl (lv_at hl 0 rfl) ?_
  refine gf_X11_47_26 C hP dX11_writes_1 ?_
  refine lv_aload_n hx hb dX11_writes_4 rfl (lv_at hl 0 rfl) ?_
  refine gf_X11_314_26 C hP dX11_writes_5 ?_
  refine lv_iload_n hx hb dX11_writes_8 rfl (lv_at hl 1 rfl) ?_
  obtain ⟨g6, h⟩ := h_g h
  refine r_ast C hP hS 39 (by decide) (fun _ => rfl) (vp_in_iff.mpr g6) dX11_writes_9 (fun H locs hP hS => ?_)
  obtain ⟨σ7, e8, h⟩ := bnd h
  have hP := hPn e8 hP
  refine lv_aload_n hx hb dX11_writes_10 rfl (lv_at hl 0 rfl) ?_
  refine lv_dup hx hb dX11_writes_11 rfl ?_
  refine gf_X11_314_26 C hP dX11_writes_12 ?_
  refine lv_iconst (v := 1) hx hb dX11_writes_15 (by decide) ?_
  refine lv_iadd hx hb dX11_writes_16 ?_
  refine pf_X11_314_26 C hP hS dX11_writes_17 (fun H locs hP hS => ?_)
  obtain ⟨σ9, e10, h⟩ := bnd h
  have hP := hPn e10 hP
  exact ret_v C hr hlocks hP hS h dX11_writes_20
set_option maxHeartbeats 4000000 in
set_option maxRecDepth 100000 in
theorem c_X11_writesNumber {l : Launch} {G : GT} {lam : Lm} {σ : St} {a1 : Int32} {q : St} (h : f_X11_writesNumber σ a1 = some q) : Met l yX11_writesNumber (Cond.code yX11_writesNumber cX11_writesNumber 2 none :: TB) ({ frames := 1, cells := 0, slots := 0, locals := 21 } : Room) (va_Pc [.ref (g_ad G 26), .int a1] (GW G lam σ)) (Rv q G lam) 0 0 (g_A G) := by
  refine mk_Qv (own := RX11) (by decide) (Nat.le_of_ble_eq_true rfl) rfl (fun p e s m args below meth c C hr hlocks hP ls hl => ?_)
  have hx := C.1
  have hb := C.2.1
  have hl : lv_has ls 2 [(0, .ref (g_ad G 26)), (1, .int a1)] := hl
  have J17 : ∀ (σ : St) (x1 : Int32) (H : Heap) (locs : List Loc) (ls : Array Slot), f_X11_writesNumber_p17 σ x1 = some q → va_P (g_D G) vwCl (allW G lam σ) H → va_S (g_A G) s.heap H locs → lv_has ls 2 [(0, .ref (g_ad G 26)), (1, .int x1)] → W p l e ({ frames := 1, cells := 0, slots := 0, locals := 21 } : Room) s m args below meth c H locs 0 0 (Qv q below args s G lam) (F0 m 17 ls []) := by
    intro σ x1 H locs ls h hP hS hl
    unfold f_X11_writesNumber_p17 at h
    refine lv_aload_n hx hb dX11_writesNumber_17 rfl (lv_at hl 0 rfl) ?_
    refine lv_bipush (v := 48) hx hb dX11_writesNumber_18 (by decide) ?_
    refine lv_iload_n hx hb dX11_writesNumber_20 rfl (lv_at hl 1 rfl) ?_
    refine lv_bipush (v := 10) hx hb dX11_writesNumber_21 (by decide) ?_
    refine lv_irem hx hb dX11_writesNumber_23 (by decide) ?_
    refine lv_iadd hx hb dX11_writesNumber_24 ?_
    obtain ⟨q6, e7, h⟩ := bnd h
    refine call_v C hP hS (c_X11_writes e7) mi_X11_writes mw_1650 26 (by decide) rfl rfl ⟨Nat.le_of_ble_eq_true rfl, Nat.le_of_ble_eq_true rfl⟩ (As := [.int (48 + (x1 - x1 / 10 * 10))]) rfl hl.1 rfl (lv_room (Nat.le_of_ble_eq_true rfl)) dX11_writesNumber_25 (fun H locs hP hS => ?_)
    exact ret_v C hr hlocks hP hS h dX11_writesNumber_28
  have hS : va_S (g_A G) s.heap s.heap [] := va_S.rf
  unfold f_X11_writesNumber at h
  obtain ⟨H, hH⟩ : ∃ H, H = s.heap := ⟨_, rfl⟩
  obtain ⟨locs, hlo⟩ : ∃ k : List Loc, k = [] := ⟨_, rfl⟩
  rw [← hH, ← hlo]
  rw [← hH] at hP
  replace hS : va_S (g_A G) s.heap H locs := by rw [hH, hlo]; exact hS
  refine lv_iload_n hx hb dX11_writesNumber_0 rfl (lv_at hl 1 rfl) ?_
  refine lv_bipush (v := 9) hx hb dX11_writesNumber_1 (by decide) ?_
  refine lv_icmp_le (tgt := 17) hx hb dX11_writesNumber_3 (by decide) (fun c8 => ?_) (fun c8 => ?_)
  · replace h := h_t c8 h
    exact J17 _ _ H locs ls h hP hS (lv_sub hl [0, 1] rfl)
  · replace h := h_f c8 h
    refine lv_aload_n hx hb dX11_writesNumber_6 rfl (lv_at hl 0 rfl) ?_
    refine lv_bipush (v := 48) hx hb dX11_writesNumber_7 (by decide) ?_
    refine lv_iload_n hx hb dX11_writesNumber_9 rfl (lv_at hl 1 rfl) ?_
    refine lv_bipush (v := 10) hx hb dX11_writesNumber_10 (by decide) ?_
    refine lv_idiv hx hb dX11_writesNumber_12 (by decide) ?_
    refine lv_iadd hx hb dX11_writesNumber_13 ?_
    obtain ⟨q9, e10, h⟩ := bnd h
    refine call_v C hP hS (c_X11_writes e10) mi_X11_writes mw_1650 26 (by decide) rfl rfl ⟨Nat.le_of_ble_eq_true rfl, Nat.le_of_ble_eq_true rfl⟩ (As := [.int (48 + (a1 / 10))]) rfl hl.1 rfl (lv_room (Nat.le_of_ble_eq_true rfl)) dX11_writesNumber_14 (fun H locs hP hS => ?_)
    exact J17 _ _ H locs ls h hP hS (lv_sub hl [0, 1] rfl)
set_option maxHeartbeats 4000000 in
set_option maxRecDepth 100000 in
theorem c_X11_writesLog {l : Launch} {G : GT} {lam : Lm} {σ : St} {q : St} (h : f_X11_writesLog σ = some q) : Met l yX11_writesLog (Cond.code yX11_writesLog cX11_writesLog 5 none :: TB) ({ frames := 2, cells := 0, slots := 0, locals := 42 } : Room) (va_Pc [.ref (g_ad G 26)] (GW G lam σ)) (Rv q G lam) 0 0 (g_A G) := by
  refine mk_Qv (own := RX11) (by decide) (Nat.le_of_ble_eq_true rfl) rfl (fun p e s m args below meth c C hr hlocks hP ls hl => ?_)
  have hx := C.1
  have hb := C.2.1
  have hl : lv_has ls 5 [(0, .ref (g_ad G 26))] := hl
  have L136 : ∀ (n136 : Nat) (σ : St) (x2 : Int32) (H : Heap) (locs : List Loc) (ls : Array Slot), fx (F_X11_writesLog_h136) z_X11_writesLog_h136 n136 σ x2 = some q → va_P (g_D G) vwCl (allW G lam σ) H → va_S (g_A G) s.heap H locs → lv_has ls 5 [(0, .ref (g_ad G 26)), (2, .int x2)] → W p l e ({ frames := 2, cells := 0, slots := 0, locals := 42 } : Room) s m args below meth c H locs 0 0 (Qv q below args s G lam) (F0 m 136 ls []) := by
    intro n136
    induction n136 with
    | zero => intro σ x2 H locs ls h hP hS hl; exact absurd h (by intro h9; cases h9)
    | succ n136 ih136 =>
      have J154 : ∀ (σ : St) (x2 : Int32) (H : Heap) (locs : List Loc) (ls : Array Slot), f_X11_writesLog_p154 (fx (F_X11_writesLog_h136) z_X11_writesLog_h136 n136) σ x2 = some q → va_P (g_D G) vwCl (allW G lam σ) H → va_S (g_A G) s.heap H locs → lv_has ls 5 [(0, .ref (g_ad G 26)), (2, .int x2)] → W p l e ({ frames := 2, cells := 0, slots := 0, locals := 42 } : Room) s m args below meth c H locs 0 0 (Qv q below args s G lam) (F0 m 154 ls []) := by
        intro σ x2 H locs ls h hP hS hl
        unfold f_X11_writesLog_p154 at h
        refine lv_aload_n hx hb dX11_writesLog_154 rfl (lv_at hl 0 rfl) ?_
        refine lv_aload_n hx hb dX11_writesLog_155 rfl (lv_at hl 0 rfl) ?_
        refine gf_X11_41_26 C hP dX11_writesLog_156 ?_
        refine lv_iload_n hx hb dX11_writesLog_159 rfl (lv_at hl 1 rfl) ?_
        obtain ⟨g36, h⟩ := h_g h
        refine r_ald C hP 37 (by decide) rfl (vp_in_iff.mpr g36) dX11_writesLog_160 ?_
        obtain ⟨q37, e38, h⟩ := bnd h
        refine call_v C hP hS (c_X11_writesNumber e38) mi_X11_writesNumber mw_1654 26 (by decide) rfl rfl ⟨Nat.le_of_ble_eq_true rfl, Nat.le_of_ble_eq_true rfl⟩ (As := [.int (σ 37 (x2).toNatClampNeg)]) rfl hl.1 rfl (lv_room (Nat.le_of_ble_eq_true rfl)) dX11_writesLog_161 (fun H locs hP hS => ?_)
        obtain ⟨y39, e40, h⟩ := bnd h
        refine lv_iinc (v := y39) (lv' := [(2, .int y39), (0, .ref (g_ad G 26))]) hx hb dX11_writesLog_164 hl (k := 1) rfl (Option.some.inj e40) (by decide) rfl (fun ls hl => ?_)
        refine lv_goto (tgt := 136) hx hb dX11_writesLog_167 (by decide) ?_
        exact ih136 _ _ H locs ls h hP hS (lv_sub hl [1, 0] rfl)
      intro σ x2 H locs ls h hP hS hl
      change F_X11_writesLog_h136 (fx (F_X11_writesLog_h136) z_X11_writesLog_h136 n136) σ x2 = some q at h
      unfold F_X11_writesLog_h136 at h
      refine lv_iload_n hx hb dX11_writesLog_136 rfl (lv_at hl 1 rfl) ?_
      refine lv_aload_n hx hb dX11_writesLog_137 rfl (lv_at hl 0 rfl) ?_
      refine gf_X11_261_26 C hP dX11_writesLog_138 ?_
      refine lv_icmp_ge (tgt := 170) hx hb dX11_writesLog_141 (by decide) (fun c41 => ?_) (fun c41 => ?_)
      · replace h := h_t c41 h
        exact ret_v C hr hlocks hP hS h dX11_writesLog_170
      · replace h := h_f c41 h
        refine lv_iload_n hx hb dX11_writesLog_144 rfl (lv_at hl 1 rfl) ?_
        refine lv_if_le (tgt := 154) hx hb dX11_writesLog_145 (by decide) (fun c42 => ?_) (fun c42 => ?_)
        · replace h := h_t c42 h
          exact J154 _ _ H locs ls h hP hS (lv_sub hl [0, 1] rfl)
        · replace h := h_f c42 h
          refine lv_aload_n hx hb dX11_writesLog_148 rfl (lv_at hl 0 rfl) ?_
          refine lv_bipush (v := 44) hx hb dX11_writesLog_149 (by decide) ?_
          obtain ⟨q43, e44, h⟩ := bnd h
          refine call_v C hP hS (c_X11_writes e44) mi_X11_writes mw_1650 26 (by decide) rfl rfl ⟨Nat.le_of_ble_eq_true rfl, Nat.le_of_ble_eq_true rfl⟩ (As := [.int 44]) rfl hl.1 rfl (lv_room (Nat.le_of_ble_eq_true rfl)) dX11_writesLog_151 (fun H locs hP hS => ?_)
          exact J154 _ _ H locs ls h hP hS (lv_sub hl [0, 1] rfl)
  have J131 : ∀ (σ : St) (t0 : Int32) (H : Heap) (locs : List Loc) (ls : Array Slot), f_X11_writesLog_p131 σ t0 = some q → va_P (g_D G) vwCl (allW G lam σ) H → va_S (g_A G) s.heap H locs → lv_has ls 5 [(0, .ref (g_ad G 26))] → W p l e ({ frames := 2, cells := 0, slots := 0, locals := 42 } : Room) s m args below meth c H locs 0 0 (Qv q below args s G lam) (F0 m 131 ls [.int t0, .ref (g_ad G 26)]) := by
    intro σ t0 H locs ls h hP hS hl
    unfold f_X11_writesLog_p131 at h
    obtain ⟨q45, e46, h⟩ := bnd h
    refine call_v C hP hS (c_X11_writes e46) mi_X11_writes mw_1650 26 (by decide) rfl rfl ⟨Nat.le_of_ble_eq_true rfl, Nat.le_of_ble_eq_true rfl⟩ (As := [.int t0]) rfl hl.1 rfl (lv_room (Nat.le_of_ble_eq_true rfl)) dX11_writesLog_131 (fun H locs hP hS => ?_)
    refine lv_iconst (v := 0) hx hb dX11_writesLog_134 (by decide) ?_
    refine lv_istore_n (lv' := [(2, .int 0), (0, .ref (g_ad G 26))]) hx hb dX11_writesLog_135 rfl hl (by decide) rfl (fun ls hl => ?_)
    exact L136 FU _ _ H locs ls h hP hS (lv_sub hl [1, 0] rfl)
  have L49 : ∀ (n49 : Nat) (σ : St) (x1 : Int32) (x2 : Int32) (H : Heap) (locs : List Loc) (ls : Array Slot), fx (F_X11_writesLog_h49) z_X11_writesLog_h49 n49 σ x1 x2 = some q → va_P (g_D G) vwCl (allW G lam σ) H → va_S (g_A G) s.heap H locs → lv_has ls 5 [(0, .ref (g_ad G 26)), (1, .int x1), (2, .int x2)] → W p l e ({ frames := 2, cells := 0, slots := 0, locals := 42 } : Room) s m args below meth c H locs 0 0 (Qv q below args s G lam) (F0 m 49 ls []) := by
    intro n49
    induction n49 with
    | zero => intro σ x1 x2 H locs ls h hP hS hl; exact absurd h (by intro h9; cases h9)
    | succ n49 ih49 =>
      have L64 : ∀ (n64 : Nat) (σ : St) (x1 : Int32) (x2 : Int32) (x3 : Int32) (x4 : Int32) (H : Heap) (locs : List Loc) (ls : Array Slot), fx (F_X11_writesLog_h64 (fx (F_X11_writesLog_h49) z_X11_writesLog_h49 n49)) z_X11_writesLog_h64 n64 σ x1 x2 x3 x4 = some q → va_P (g_D G) vwCl (allW G lam σ) H → va_S (g_A G) s.heap H locs → lv_has ls 5 [(0, .ref (g_ad G 26)), (1, .int x1), (2, .int x2), (3, .int x3), (4, .int x4)] → W p l e ({ frames := 2, cells := 0, slots := 0, locals := 42 } : Room) s m args below meth c H locs 0 0 (Qv q below args s G lam) (F0 m 64 ls []) := by
        intro n64
        induction n64 with
        | zero => intro σ x1 x2 x3 x4 H locs ls h hP hS hl; exact absurd h (by intro h9; cases h9)
        | succ n64 ih64 =>
          intro σ x1 x2 x3 x4 H locs ls h hP hS hl
          change F_X11_writesLog_h64 (fx (F_X11_writesLog_h49) z_X11_writesLog_h49 n49) (fx (F_X11_writesLog_h64 (fx (F_X11_writesLog_h49) z_X11_writesLog_h49 n49)) z_X11_writesLog_h64 n64) σ x1 x2 x3 x4 = some q at h
          unfold F_X11_writesLog_h64 at h
          refine lv_iload_n hx hb dX11_writesLog_64 rfl (lv_at hl 3 rfl) ?_
          refine lv_iload hx hb dX11_writesLog_65 (lv_at hl 4 rfl) ?_
          obtain ⟨q47, e48, h⟩ := bnd h
          refine scall_i C hP hS (c_X11_nameAt e48) ms_X11_nameAt mw_1396 ⟨Nat.le_of_ble_eq_true rfl, Nat.le_of_ble_eq_true rfl⟩ (As := [.int x3, .int x4]) rfl hl.1 rfl (lv_room (Nat.le_of_ble_eq_true rfl)) dX11_writesLog_67 (fun H locs hP hS => ?_)
          refine lv_ldc hx hb C.2.2.2.1 (C.2.2.2.2.1 _ mw_1337) dX11_writesLog_70 ?_
          refine lv_icmp_eq (tgt := 94) hx hb dX11_writesLog_72 (by decide) (fun c49 => ?_) (fun c49 => ?_)
          · replace h := h_t c49 h
            refine lv_aload_n hx hb dX11_writesLog_94 rfl (lv_at hl 0 rfl) ?_
            refine lv_aload_n hx hb dX11_writesLog_95 rfl (lv_at hl 0 rfl) ?_
            refine gf_X11_38_26 C hP dX11_writesLog_96 ?_
            refine lv_iload_n hx hb dX11_writesLog_99 rfl (lv_at hl 2 rfl) ?_
            obtain ⟨g50, h⟩ := h_g h
            refine r_ald C hP 36 (by decide) rfl (vp_in_iff.mpr g50) dX11_writesLog_100 ?_
            obtain ⟨q51, e52, h⟩ := bnd h
            refine call_v C hP hS (c_X11_writesNumber e52) mi_X11_writesNumber mw_1654 26 (by decide) rfl rfl ⟨Nat.le_of_ble_eq_true rfl, Nat.le_of_ble_eq_true rfl⟩ (As := [.int (q47.2 36 (x2).toNatClampNeg)]) rfl hl.1 rfl (lv_room (Nat.le_of_ble_eq_true rfl)) dX11_writesLog_101 (fun H locs hP hS => ?_)
            refine lv_aload_n hx hb dX11_writesLog_104 rfl (lv_at hl 0 rfl) ?_
            refine lv_bipush (v := 59) hx hb dX11_writesLog_105 (by decide) ?_
            obtain ⟨q53, e54, h⟩ := bnd h
            refine call_v C hP hS (c_X11_writes e54) mi_X11_writes mw_1650 26 (by decide) rfl rfl ⟨Nat.le_of_ble_eq_true rfl, Nat.le_of_ble_eq_true rfl⟩ (As := [.int 59]) rfl hl.1 rfl (lv_room (Nat.le_of_ble_eq_true rfl)) dX11_writesLog_107 (fun H locs hP hS => ?_)
            obtain ⟨y55, e56, h⟩ := bnd h
            refine lv_iinc (v := y55) (lv' := [(2, .int y55), (0, .ref (g_ad G 26)), (1, .int x1), (3, .int x3), (4, .int x4)]) hx hb dX11_writesLog_110 hl (k := 2) rfl (Option.some.inj e56) (by decide) rfl (fun ls hl => ?_)
            refine lv_goto (tgt := 49) hx hb dX11_writesLog_113 (by decide) ?_
            exact ih49 _ _ _ H locs ls h hP hS (lv_sub hl [1, 2, 0] rfl)
          · replace h := h_f c49 h
            refine lv_aload_n hx hb dX11_writesLog_75 rfl (lv_at hl 0 rfl) ?_
            refine lv_iload_n hx hb dX11_writesLog_76 rfl (lv_at hl 3 rfl) ?_
            refine lv_iload hx hb dX11_writesLog_77 (lv_at hl 4 rfl) ?_
            obtain ⟨q57, e58, h⟩ := bnd h
            refine scall_i C hP hS (c_X11_nameAt e58) ms_X11_nameAt mw_1396 ⟨Nat.le_of_ble_eq_true rfl, Nat.le_of_ble_eq_true rfl⟩ (As := [.int x3, .int x4]) rfl hl.1 rfl (lv_room (Nat.le_of_ble_eq_true rfl)) dX11_writesLog_79 (fun H locs hP hS => ?_)
            refine lv_bipush (v := 32) hx hb dX11_writesLog_82 (by decide) ?_
            refine lv_isub hx hb dX11_writesLog_84 ?_
            obtain ⟨q59, e60, h⟩ := bnd h
            refine call_v C hP hS (c_X11_writes e60) mi_X11_writes mw_1650 26 (by decide) rfl rfl ⟨Nat.le_of_ble_eq_true rfl, Nat.le_of_ble_eq_true rfl⟩ (As := [.int (q57.1 - 32)]) rfl hl.1 rfl (lv_room (Nat.le_of_ble_eq_true rfl)) dX11_writesLog_85 (fun H locs hP hS => ?_)
            obtain ⟨y61, e62, h⟩ := bnd h
            refine lv_iinc (v := y61) (lv' := [(4, .int y61), (0, .ref (g_ad G 26)), (1, .int x1), (2, .int x2), (3, .int x3)]) hx hb dX11_writesLog_88 hl (k := 4) rfl (Option.some.inj e62) (by decide) rfl (fun ls hl => ?_)
            refine lv_goto (tgt := 64) hx hb dX11_writesLog_91 (by decide) ?_
            exact ih64 _ _ _ _ _ H locs ls h hP hS (lv_sub hl [1, 2, 3, 4, 0] rfl)
      intro σ x1 x2 H locs ls h hP hS hl
      change F_X11_writesLog_h49 (fx (F_X11_writesLog_h49) z_X11_writesLog_h49 n49) σ x1 x2 = some q at h
      unfold F_X11_writesLog_h49 at h
      refine lv_iload_n hx hb dX11_writesLog_49 rfl (lv_at hl 2 rfl) ?_
      refine lv_iload_n hx hb dX11_writesLog_50 rfl (lv_at hl 1 rfl) ?_
      refine lv_icmp_ge (tgt := 116) hx hb dX11_writesLog_51 (by decide) (fun c63 => ?_) (fun c63 => ?_)
      · replace h := h_t c63 h
        refine lv_aload_n hx hb dX11_writesLog_116 rfl (lv_at hl 0 rfl) ?_
        refine lv_aload_n hx hb dX11_writesLog_117 rfl (lv_at hl 0 rfl) ?_
        refine gf_X11_296_26 C hP dX11_writesLog_118 ?_
        refine lv_if_eq (tgt := 129) hx hb dX11_writesLog_121 (by decide) (fun c64 => ?_) (fun c64 => ?_)
        · replace h := h_t c64 h
          refine lv_bipush (v := 33) hx hb dX11_writesLog_129 (by decide) ?_
          exact J131 _ _ H locs ls h hP hS (lv_sub hl [0] rfl)
        · replace h := h_f c64 h
          refine lv_bipush (v := 46) hx hb dX11_writesLog_124 (by decide) ?_
          refine lv_goto (tgt := 131) hx hb dX11_writesLog_126 (by decide) ?_
          exact J131 _ _ H locs ls h hP hS (lv_sub hl [0] rfl)
      · replace h := h_f c63 h
        refine lv_aload_n hx hb dX11_writesLog_54 rfl (lv_at hl 0 rfl) ?_
        refine lv_iload_n hx hb dX11_writesLog_55 rfl (lv_at hl 2 rfl) ?_
        refine lv_iconst (v := 0) hx hb dX11_writesLog_56 (by decide) ?_
        obtain ⟨q65, e66, h⟩ := bnd h
        refine call_i C hP hS (c_X11_legOf e66) mi_X11_legOf mw_1606 26 (by decide) rfl rfl ⟨Nat.le_of_ble_eq_true rfl, Nat.le_of_ble_eq_true rfl⟩ (As := [.int x2, .int 0]) rfl hl.1 rfl (lv_room (Nat.le_of_ble_eq_true rfl)) dX11_writesLog_57 (fun H locs hP hS => ?_)
        refine lv_istore_n (lv' := [(3, .int q65.1), (0, .ref (g_ad G 26)), (1, .int x1), (2, .int x2)]) hx hb dX11_writesLog_60 rfl hl (by decide) rfl (fun ls hl => ?_)
        refine lv_iconst (v := 0) hx hb dX11_writesLog_61 (by decide) ?_
        refine lv_istore (lv' := [(4, .int 0), (3, .int q65.1), (0, .ref (g_ad G 26)), (1, .int x1), (2, .int x2)]) hx hb dX11_writesLog_62 hl (by decide) rfl (fun ls hl => ?_)
        exact L64 FU _ _ _ _ _ H locs ls h hP hS (lv_sub hl [2, 3, 4, 1, 0] rfl)
  have J46 : ∀ (σ : St) (t0 : Int32) (H : Heap) (locs : List Loc) (ls : Array Slot), f_X11_writesLog_p46 σ t0 = some q → va_P (g_D G) vwCl (allW G lam σ) H → va_S (g_A G) s.heap H locs → lv_has ls 5 [(0, .ref (g_ad G 26))] → W p l e ({ frames := 2, cells := 0, slots := 0, locals := 42 } : Room) s m args below meth c H locs 0 0 (Qv q below args s G lam) (F0 m 46 ls [.int t0]) := by
    intro σ t0 H locs ls h hP hS hl
    unfold f_X11_writesLog_p46 at h
    refine lv_istore_n (lv' := [(1, .int t0), (0, .ref (g_ad G 26))]) hx hb dX11_writesLog_46 rfl hl (by decide) rfl (fun ls hl => ?_)
    refine lv_iconst (v := 0) hx hb dX11_writesLog_47 (by decide) ?_
    refine lv_istore_n (lv' := [(2, .int 0), (1, .int t0), (0, .ref (g_ad G 26))]) hx hb dX11_writesLog_48 rfl hl (by decide) rfl (fun ls hl => ?_)
    exact L49 FU _ _ _ H locs ls h hP hS (lv_sub hl [2, 1, 0] rfl)
  have J39 : ∀ (σ : St) (H : Heap) (locs : List Loc) (ls : Array Slot), f_X11_writesLog_p39 σ = some q → va_P (g_D G) vwCl (allW G lam σ) H → va_S (g_A G) s.heap H locs → lv_has ls 5 [(0, .ref (g_ad G 26))] → W p l e ({ frames := 2, cells := 0, slots := 0, locals := 42 } : Room) s m args below meth c H locs 0 0 (Qv q below args s G lam) (F0 m 39 ls []) := by
    intro σ H locs ls h hP hS hl
    unfold f_X11_writesLog_p39 at h
    refine lv_aload_n hx hb dX11_writesLog_39 rfl (lv_at hl 0 rfl) ?_
    refine gf_X11_7_26 C hP dX11_writesLog_40 ?_
    refine lv_bipush (v := 54) hx hb dX11_writesLog_43 (by decide) ?_
    refine r_aldc C hP 27 (by decide) rfl (j := 54) (by decide) (vp_in_iff.mpr (by decide)) dX11_writesLog_45 ?_
    exact J46 _ _ H locs ls h hP hS (lv_sub hl [0] rfl)
  have hS : va_S (g_A G) s.heap s.heap [] := va_S.rf
  unfold f_X11_writesLog at h
  obtain ⟨H, hH⟩ : ∃ H, H = s.heap := ⟨_, rfl⟩
  obtain ⟨locs, hlo⟩ : ∃ k : List Loc, k = [] := ⟨_, rfl⟩
  rw [← hH, ← hlo]
  rw [← hH] at hP
  replace hS : va_S (g_A G) s.heap H locs := by rw [hH, hlo]; exact hS
  refine lv_aload_n hx hb dX11_writesLog_0 rfl (lv_at hl 0 rfl) ?_
  refine lv_iconst (v := 0) hx hb dX11_writesLog_1 (by decide) ?_
  refine pf_X11_314_26 C hP hS dX11_writesLog_2 (fun H locs hP hS => ?_)
  obtain ⟨σ67, e68, h⟩ := bnd h
  have hP := hPn e68 hP
  refine lv_aload_n hx hb dX11_writesLog_5 rfl (lv_at hl 0 rfl) ?_
  refine gf_X11_261_26 C hP dX11_writesLog_6 ?_
  refine lv_if_le (tgt := 39) hx hb dX11_writesLog_9 (by decide) (fun c69 => ?_) (fun c69 => ?_)
  · replace h := h_t c69 h
    exact J39 _ H locs ls h hP hS (lv_sub hl [0] rfl)
  · replace h := h_f c69 h
    refine lv_aload_n hx hb dX11_writesLog_12 rfl (lv_at hl 0 rfl) ?_
    refine gf_X11_44_26 C hP dX11_writesLog_13 ?_
    refine lv_iconst (v := 0) hx hb dX11_writesLog_16 (by decide) ?_
    refine r_aldc C hP 38 (by decide) rfl (j := 0) (by decide) (vp_in_iff.mpr (by decide)) dX11_writesLog_17 ?_
    refine lv_aload_n hx hb dX11_writesLog_18 rfl (lv_at hl 0 rfl) ?_
    refine gf_X11_7_26 C hP dX11_writesLog_19 ?_
    refine lv_bipush (v := 54) hx hb dX11_writesLog_22 (by decide) ?_
    refine r_aldc C hP 27 (by decide) rfl (j := 54) (by decide) (vp_in_iff.mpr (by decide)) dX11_writesLog_24 ?_
    refine lv_icmp_ge (tgt := 39) hx hb dX11_writesLog_25 (by decide) (fun c70 => ?_) (fun c70 => ?_)
    · replace h := h_t c70 h
      exact J39 _ H locs ls h hP hS (lv_sub hl [0] rfl)
    · replace h := h_f c70 h
      refine lv_aload_n hx hb dX11_writesLog_28 rfl (lv_at hl 0 rfl) ?_
      refine gf_X11_44_26 C hP dX11_writesLog_29 ?_
      refine lv_iconst (v := 0) hx hb dX11_writesLog_32 (by decide) ?_
      refine r_aldc C hP 38 (by decide) rfl (j := 0) (by decide) (vp_in_iff.mpr (by decide)) dX11_writesLog_33 ?_
      refine lv_iconst (v := 1) hx hb dX11_writesLog_34 (by decide) ?_
      refine lv_iadd hx hb dX11_writesLog_35 ?_
      refine lv_goto (tgt := 46) hx hb dX11_writesLog_36 (by decide) ?_
      exact J46 _ _ H locs ls h hP hS (lv_sub hl [0] rfl)
set_option maxHeartbeats 4000000 in
set_option maxRecDepth 100000 in
theorem c_X11_sign {l : Launch} {G : GT} {lam : Lm} {σ : St} {a1 : Int32} {a2 : Int32} {q : Int32 × St} (h : f_X11_sign σ a1 a2 = some q) : Met l yX11_sign (Cond.code yX11_sign cX11_sign 3 ((some .int)) :: TB) ({ frames := 7, cells := 0, slots := 0, locals := 182 } : Room) (va_Pc [.ref (g_ad G 26), .int a1, .int a2] (GW G lam σ)) (Ri q G lam) 0 0 (g_A G) := by
  refine mk_Qi (own := RX11) (by decide) (Nat.le_of_ble_eq_true rfl) rfl (fun p e s m args below meth c C hr hlocks hP ls hl => ?_)
  have hx := C.1
  have hb := C.2.1
  have hl : lv_has ls 3 [(0, .ref (g_ad G 26)), (1, .int a1), (2, .int a2)] := hl
  have hS : va_S (g_A G) s.heap s.heap [] := va_S.rf
  unfold f_X11_sign at h
  refine lv_aload_n hx hb dX11_sign_0 rfl (lv_at hl 0 rfl) ?_
  obtain ⟨q14, e15, h⟩ := bnd h
  refine call_i C hP hS (c_X11_isSheet e15) mi_X11_isSheet mw_1441 26 (by decide) rfl rfl ⟨Nat.le_of_ble_eq_true rfl, Nat.le_of_ble_eq_true rfl⟩ (As := []) rfl hl.1 rfl (lv_room (Nat.le_of_ble_eq_true rfl)) dX11_sign_1 (fun H locs hP hS => ?_)
  refine lv_if_ne (tgt := 10) hx hb dX11_sign_4 (by decide) (fun c16 => ?_) (fun c16 => ?_)
  · replace h := h_f c16 h
    refine lv_iload_n hx hb dX11_sign_10 rfl (lv_at hl 1 rfl) ?_
    obtain ⟨q17, e18, h⟩ := bnd h
    refine scall_i C hP hS (c_X11_isStart e18) ms_X11_isStart mw_1594 ⟨Nat.le_of_ble_eq_true rfl, Nat.le_of_ble_eq_true rfl⟩ (As := [.int a1]) rfl hl.1 rfl (lv_room (Nat.le_of_ble_eq_true rfl)) dX11_sign_11 (fun H locs hP hS => ?_)
    refine lv_if_eq (tgt := 21) hx hb dX11_sign_14 (by decide) (fun c19 => ?_) (fun c19 => ?_)
    · replace h := h_t c19 h
      refine lv_ldc hx hb C.2.2.2.1 (C.2.2.2.2.1 _ mw_1323) dX11_sign_21 ?_
      exact ret_i C hr hlocks hP hS h dX11_sign_23
    · replace h := h_f c19 h
      refine lv_iload_n hx hb dX11_sign_17 rfl (lv_at hl 2 rfl) ?_
      refine lv_if_ge (tgt := 24) hx hb dX11_sign_18 (by decide) (fun c20 => ?_) (fun c20 => ?_)
      · replace h := h_t c20 h
        refine lv_aload_n hx hb dX11_sign_24 rfl (lv_at hl 0 rfl) ?_
        refine lv_iload_n hx hb dX11_sign_25 rfl (lv_at hl 1 rfl) ?_
        refine lv_aload_n hx hb dX11_sign_26 rfl (lv_at hl 0 rfl) ?_
        refine gf_X11_7_26 C hP dX11_sign_27 ?_
        refine lv_iconst (v := 1) hx hb dX11_sign_30 (by decide) ?_
        refine r_aldc C hP 27 (by decide) rfl (j := 1) (by decide) (vp_in_iff.mpr (by decide)) dX11_sign_31 ?_
        obtain ⟨q21, e22, h⟩ := bnd h
        refine call_v C hP hS (c_X11_sails e22) mi_X11_sails mw_1598 26 (by decide) rfl rfl ⟨Nat.le_of_ble_eq_true rfl, Nat.le_of_ble_eq_true rfl⟩ (As := [.int a1, .int (q17.2 27 1)]) rfl hl.1 rfl (lv_room (Nat.le_of_ble_eq_true rfl)) dX11_sign_32 (fun H locs hP hS => ?_)
        refine lv_aload_n hx hb dX11_sign_35 rfl (lv_at hl 0 rfl) ?_
        obtain ⟨q23, e24, h⟩ := bnd h
        refine call_v C hP hS (c_X11_writesLog e24) mi_X11_writesLog mw_1646 26 (by decide) rfl rfl ⟨Nat.le_of_ble_eq_true rfl, Nat.le_of_ble_eq_true rfl⟩ (As := []) rfl hl.1 rfl (lv_room (Nat.le_of_ble_eq_true rfl)) dX11_sign_36 (fun H locs hP hS => ?_)
        refine lv_iload_n hx hb dX11_sign_39 rfl (lv_at hl 2 rfl) ?_
        refine lv_aload_n hx hb dX11_sign_40 rfl (lv_at hl 0 rfl) ?_
        refine gf_X11_314_26 C hP dX11_sign_41 ?_
        refine lv_icmp_ge (tgt := 56) hx hb dX11_sign_44 (by decide) (fun c25 => ?_) (fun c25 => ?_)
        · replace h := h_t c25 h
          refine lv_ldc hx hb C.2.2.2.1 (C.2.2.2.2.1 _ mw_1337) dX11_sign_56 ?_
          exact ret_i C hr hlocks hP hS h dX11_sign_58
        · replace h := h_f c25 h
          refine lv_aload_n hx hb dX11_sign_47 rfl (lv_at hl 0 rfl) ?_
          refine gf_X11_47_26 C hP dX11_sign_48 ?_
          refine lv_iload_n hx hb dX11_sign_51 rfl (lv_at hl 2 rfl) ?_
          obtain ⟨g26, h⟩ := h_g h
          refine r_ald C hP 39 (by decide) rfl (vp_in_iff.mpr g26) dX11_sign_52 ?_
          refine lv_goto (tgt := 58) hx hb dX11_sign_53 (by decide) ?_
          exact ret_i C hr hlocks hP hS h dX11_sign_58
      · replace h := h_f c20 h
        refine lv_ldc hx hb C.2.2.2.1 (C.2.2.2.2.1 _ mw_1323) dX11_sign_21 ?_
        exact ret_i C hr hlocks hP hS h dX11_sign_23
  · replace h := h_t c16 h
    refine lv_ldc hx hb C.2.2.2.1 (C.2.2.2.2.1 _ mw_1403) dX11_sign_7 ?_
    exact ret_i C hr hlocks hP hS h dX11_sign_9
set_option maxHeartbeats 4000000 in
set_option maxRecDepth 100000 in
theorem c_X11_arrivesFrom {l : Launch} {G : GT} {lam : Lm} {σ : St} {a1 : Int32} {a2 : Int32} {q : Int32 × St} (h : f_X11_arrivesFrom σ a1 a2 = some q) : Met l yX11_arrivesFrom (Cond.code yX11_arrivesFrom cX11_arrivesFrom 3 ((some .boolean)) :: TB) ({ frames := 7, cells := 0, slots := 0, locals := 182 } : Room) (va_Pc [.ref (g_ad G 26), .int a1, .int a2] (GW G lam σ)) (Ri q G lam) 0 0 (g_A G) := by
  refine mk_Qi (own := RX11) (by decide) (Nat.le_of_ble_eq_true rfl) rfl (fun p e s m args below meth c C hr hlocks hP ls hl => ?_)
  have hx := C.1
  have hb := C.2.1
  have hl : lv_has ls 3 [(0, .ref (g_ad G 26)), (1, .int a1), (2, .int a2)] := hl
  have hS : va_S (g_A G) s.heap s.heap [] := va_S.rf
  unfold f_X11_arrivesFrom at h
  refine lv_aload_n hx hb dX11_arrivesFrom_0 rfl (lv_at hl 0 rfl) ?_
  refine lv_iload_n hx hb dX11_arrivesFrom_1 rfl (lv_at hl 1 rfl) ?_
  refine lv_iload_n hx hb dX11_arrivesFrom_2 rfl (lv_at hl 2 rfl) ?_
  obtain ⟨q4, e5, h⟩ := bnd h
  refine call_v C hP hS (c_X11_sails e5) mi_X11_sails mw_1598 26 (by decide) rfl rfl ⟨Nat.le_of_ble_eq_true rfl, Nat.le_of_ble_eq_true rfl⟩ (As := [.int a1, .int a2]) rfl hl.1 rfl (lv_room (Nat.le_of_ble_eq_true rfl)) dX11_arrivesFrom_3 (fun H locs hP hS => ?_)
  refine lv_aload_n hx hb dX11_arrivesFrom_6 rfl (lv_at hl 0 rfl) ?_
  refine gf_X11_296_26 C hP dX11_arrivesFrom_7 ?_
  obtain ⟨g6, h⟩ := h_g h
  exact ret_z C hr hlocks hP hS h g6 dX11_arrivesFrom_10
set_option maxHeartbeats 4000000 in
set_option maxRecDepth 100000 in
theorem c_X11_times {l : Launch} {G : GT} {lam : Lm} {σ : St} {q : Int32 × St} (h : f_X11_times σ = some q) : Met l yX11_times (Cond.code yX11_times cX11_times 3 ((some .int)) :: TB) ({ frames := 8, cells := 0, slots := 0, locals := 204 } : Room) (va_Pc [.ref (g_ad G 26)] (GW G lam σ)) (Ri q G lam) 0 0 (g_A G) := by
  refine mk_Qi (own := RX11) (by decide) (Nat.le_of_ble_eq_true rfl) rfl (fun p e s m args below meth c C hr hlocks hP ls hl => ?_)
  have hx := C.1
  have hb := C.2.1
  have hl : lv_has ls 3 [(0, .ref (g_ad G 26))] := hl
  have L14 : ∀ (n14 : Nat) (σ : St) (x1 : Int32) (x2 : Int32) (H : Heap) (locs : List Loc) (ls : Array Slot), fx (F_X11_times_h14) z_X11_times_h14 n14 σ x1 x2 = some q → va_P (g_D G) vwCl (allW G lam σ) H → va_S (g_A G) s.heap H locs → lv_has ls 3 [(0, .ref (g_ad G 26)), (1, .int x1), (2, .int x2)] → W p l e ({ frames := 8, cells := 0, slots := 0, locals := 204 } : Room) s m args below meth c H locs 0 0 (Qi q below args s G lam) (F0 m 14 ls []) := by
    intro n14
    induction n14 with
    | zero => intro σ x1 x2 H locs ls h hP hS hl; exact absurd h (by intro h9; cases h9)
    | succ n14 ih14 =>
      have J42 : ∀ (σ : St) (x2 : Int32) (t0 : Int32) (t1 : Int32) (H : Heap) (locs : List Loc) (ls : Array Slot), f_X11_times_p42 (fx (F_X11_times_h14) z_X11_times_h14 n14) σ x2 t0 t1 = some q → va_P (g_D G) vwCl (allW G lam σ) H → va_S (g_A G) s.heap H locs → lv_has ls 3 [(0, .ref (g_ad G 26)), (2, .int x2)] → W p l e ({ frames := 8, cells := 0, slots := 0, locals := 204 } : Room) s m args below meth c H locs 0 0 (Qi q below args s G lam) (F0 m 42 ls [.int t0, .int t1]) := by
        intro σ x2 t0 t1 H locs ls h hP hS hl
        unfold f_X11_times_p42 at h
        refine lv_ior hx hb dX11_times_42 ?_
        obtain ⟨y10, e11, h⟩ := bnd h
        refine r_nm e11 ?_
        refine lv_istore_n (lv' := [(1, .int y10), (0, .ref (g_ad G 26)), (2, .int x2)]) hx hb dX11_times_43 rfl hl (by decide) rfl (fun ls hl => ?_)
        obtain ⟨y12, e13, h⟩ := bnd h
        refine lv_iinc (v := y12) (lv' := [(2, .int y12), (1, .int y10), (0, .ref (g_ad G 26))]) hx hb dX11_times_44 hl (k := 2) rfl (Option.some.inj e13) (by decide) rfl (fun ls hl => ?_)
        refine lv_goto (tgt := 14) hx hb dX11_times_47 (by decide) ?_
        exact ih14 _ _ _ H locs ls h hP hS (lv_sub hl [2, 1, 0] rfl)
      intro σ x1 x2 H locs ls h hP hS hl
      change F_X11_times_h14 (fx (F_X11_times_h14) z_X11_times_h14 n14) σ x1 x2 = some q at h
      unfold F_X11_times_h14 at h
      refine lv_iload_n hx hb dX11_times_14 rfl (lv_at hl 2 rfl) ?_
      refine lv_bipush (v := 30) hx hb dX11_times_15 (by decide) ?_
      refine lv_icmp_ge (tgt := 50) hx hb dX11_times_17 (by decide) (fun c14 => ?_) (fun c14 => ?_)
      · replace h := h_t c14 h
        refine lv_iload_n hx hb dX11_times_50 rfl (lv_at hl 1 rfl) ?_
        exact ret_i C hr hlocks hP hS h dX11_times_51
      · replace h := h_f c14 h
        refine lv_iload_n hx hb dX11_times_20 rfl (lv_at hl 1 rfl) ?_
        refine lv_aload_n hx hb dX11_times_21 rfl (lv_at hl 0 rfl) ?_
        refine lv_iload_n hx hb dX11_times_22 rfl (lv_at hl 2 rfl) ?_
        refine lv_aload_n hx hb dX11_times_23 rfl (lv_at hl 0 rfl) ?_
        refine gf_X11_7_26 C hP dX11_times_24 ?_
        refine lv_iconst (v := 1) hx hb dX11_times_27 (by decide) ?_
        refine r_aldc C hP 27 (by decide) rfl (j := 1) (by decide) (vp_in_iff.mpr (by decide)) dX11_times_28 ?_
        obtain ⟨q15, e16, h⟩ := bnd h
        refine call_i C hP hS (c_X11_arrivesFrom e16) mi_X11_arrivesFrom mw_1662 26 (by decide) rfl rfl ⟨Nat.le_of_ble_eq_true rfl, Nat.le_of_ble_eq_true rfl⟩ (As := [.int x2, .int (σ 27 1)]) rfl hl.1 rfl (lv_room (Nat.le_of_ble_eq_true rfl)) dX11_times_29 (fun H locs hP hS => ?_)
        refine lv_if_eq (tgt := 41) hx hb dX11_times_32 (by decide) (fun c17 => ?_) (fun c17 => ?_)
        · replace h := h_t c17 h
          refine lv_iconst (v := 0) hx hb dX11_times_41 (by decide) ?_
          exact J42 _ _ _ _ H locs ls h hP hS (lv_sub hl [0, 2] rfl)
        · replace h := h_f c17 h
          refine lv_iconst (v := 1) hx hb dX11_times_35 (by decide) ?_
          refine lv_iload_n hx hb dX11_times_36 rfl (lv_at hl 2 rfl) ?_
          refine lv_ishl hx hb dX11_times_37 ?_
          refine lv_goto (tgt := 42) hx hb dX11_times_38 (by decide) ?_
          exact J42 _ _ _ _ H locs ls h hP hS (lv_sub hl [0, 2] rfl)
  have hS : va_S (g_A G) s.heap s.heap [] := va_S.rf
  unfold f_X11_times at h
  obtain ⟨H, hH⟩ : ∃ H, H = s.heap := ⟨_, rfl⟩
  obtain ⟨locs, hlo⟩ : ∃ k : List Loc, k = [] := ⟨_, rfl⟩
  rw [← hH, ← hlo]
  rw [← hH] at hP
  replace hS : va_S (g_A G) s.heap H locs := by rw [hH, hlo]; exact hS
  refine lv_aload_n hx hb dX11_times_0 rfl (lv_at hl 0 rfl) ?_
  obtain ⟨q18, e19, h⟩ := bnd h
  refine call_i C hP hS (c_X11_isSheet e19) mi_X11_isSheet mw_1441 26 (by decide) rfl rfl ⟨Nat.le_of_ble_eq_true rfl, Nat.le_of_ble_eq_true rfl⟩ (As := []) rfl hl.1 rfl (lv_room (Nat.le_of_ble_eq_true rfl)) dX11_times_1 (fun H locs hP hS => ?_)
  refine lv_if_ne (tgt := 10) hx hb dX11_times_4 (by decide) (fun c20 => ?_) (fun c20 => ?_)
  · replace h := h_f c20 h
    refine lv_iconst (v := 0) hx hb dX11_times_10 (by decide) ?_
    refine lv_istore_n (lv' := [(1, .int 0), (0, .ref (g_ad G 26))]) hx hb dX11_times_11 rfl hl (by decide) rfl (fun ls hl => ?_)
    refine lv_iconst (v := 0) hx hb dX11_times_12 (by decide) ?_
    refine lv_istore_n (lv' := [(2, .int 0), (1, .int 0), (0, .ref (g_ad G 26))]) hx hb dX11_times_13 rfl hl (by decide) rfl (fun ls hl => ?_)
    exact L14 FU _ _ _ H locs ls h hP hS (lv_sub hl [2, 1, 0] rfl)
  · replace h := h_t c20 h
    refine lv_ldc hx hb C.2.2.2.1 (C.2.2.2.2.1 _ mw_1403) dX11_times_7 ?_
    exact ret_i C hr hlocks hP hS h dX11_times_9
set_option maxHeartbeats 4000000 in
set_option maxRecDepth 100000 in
theorem c_X11_deepest {l : Launch} {G : GT} {lam : Lm} {σ : St} {a1 : Int32} {q : Int32 × St} (h : f_X11_deepest σ a1 = some q) : Met l yX11_deepest (Cond.code yX11_deepest cX11_deepest 4 ((some .int)) :: TB) ({ frames := 8, cells := 0, slots := 0, locals := 204 } : Room) (va_Pc [.ref (g_ad G 26), .int a1] (GW G lam σ)) (Ri q G lam) 0 0 (g_A G) := by
  refine mk_Qi (own := RX11) (by decide) (Nat.le_of_ble_eq_true rfl) rfl (fun p e s m args below meth c C hr hlocks hP ls hl => ?_)
  have hx := C.1
  have hb := C.2.1
  have hl : lv_has ls 4 [(0, .ref (g_ad G 26)), (1, .int a1)] := hl
  have L25 : ∀ (n25 : Nat) (σ : St) (x1 : Int32) (x2 : Int32) (x3 : Int32) (H : Heap) (locs : List Loc) (ls : Array Slot), fx (F_X11_deepest_h25) z_X11_deepest_h25 n25 σ x1 x2 x3 = some q → va_P (g_D G) vwCl (allW G lam σ) H → va_S (g_A G) s.heap H locs → lv_has ls 4 [(0, .ref (g_ad G 26)), (1, .int x1), (2, .int x2), (3, .int x3)] → W p l e ({ frames := 8, cells := 0, slots := 0, locals := 204 } : Room) s m args below meth c H locs 0 0 (Qi q below args s G lam) (F0 m 25 ls []) := by
    intro n25
    induction n25 with
    | zero => intro σ x1 x2 x3 H locs ls h hP hS hl; exact absurd h (by intro h9; cases h9)
    | succ n25 ih25 =>
      have J45 : ∀ (σ : St) (x1 : Int32) (x3 : Int32) (t0 : Int32) (H : Heap) (locs : List Loc) (ls : Array Slot), f_X11_deepest_p45 (fx (F_X11_deepest_h25) z_X11_deepest_h25 n25) σ x1 x3 t0 = some q → va_P (g_D G) vwCl (allW G lam σ) H → va_S (g_A G) s.heap H locs → lv_has ls 4 [(0, .ref (g_ad G 26)), (1, .int x1), (3, .int x3)] → W p l e ({ frames := 8, cells := 0, slots := 0, locals := 204 } : Room) s m args below meth c H locs 0 0 (Qi q below args s G lam) (F0 m 45 ls [.int t0]) := by
        intro σ x1 x3 t0 H locs ls h hP hS hl
        unfold f_X11_deepest_p45 at h
        refine lv_istore_n (lv' := [(2, .int t0), (0, .ref (g_ad G 26)), (1, .int x1), (3, .int x3)]) hx hb dX11_deepest_45 rfl hl (by decide) rfl (fun ls hl => ?_)
        obtain ⟨y13, e14, h⟩ := bnd h
        refine lv_iinc (v := y13) (lv' := [(3, .int y13), (2, .int t0), (0, .ref (g_ad G 26)), (1, .int x1)]) hx hb dX11_deepest_46 hl (k := 3) rfl (Option.some.inj e14) (by decide) rfl (fun ls hl => ?_)
        refine lv_goto (tgt := 25) hx hb dX11_deepest_49 (by decide) ?_
        exact ih25 _ _ _ _ H locs ls h hP hS (lv_sub hl [2, 3, 1, 0] rfl)
      intro σ x1 x2 x3 H locs ls h hP hS hl
      change F_X11_deepest_h25 (fx (F_X11_deepest_h25) z_X11_deepest_h25 n25) σ x1 x2 x3 = some q at h
      unfold F_X11_deepest_h25 at h
      refine lv_iload_n hx hb dX11_deepest_25 rfl (lv_at hl 3 rfl) ?_
      refine lv_bipush (v := 21) hx hb dX11_deepest_26 (by decide) ?_
      refine lv_icmp_ge (tgt := 52) hx hb dX11_deepest_28 (by decide) (fun c15 => ?_) (fun c15 => ?_)
      · replace h := h_t c15 h
        refine lv_iload_n hx hb dX11_deepest_52 rfl (lv_at hl 2 rfl) ?_
        exact ret_i C hr hlocks hP hS h dX11_deepest_53
      · replace h := h_f c15 h
        refine lv_aload_n hx hb dX11_deepest_31 rfl (lv_at hl 0 rfl) ?_
        refine lv_iload_n hx hb dX11_deepest_32 rfl (lv_at hl 1 rfl) ?_
        refine lv_iload_n hx hb dX11_deepest_33 rfl (lv_at hl 3 rfl) ?_
        obtain ⟨q16, e17, h⟩ := bnd h
        refine call_i C hP hS (c_X11_arrivesFrom e17) mi_X11_arrivesFrom mw_1662 26 (by decide) rfl rfl ⟨Nat.le_of_ble_eq_true rfl, Nat.le_of_ble_eq_true rfl⟩ (As := [.int x1, .int x3]) rfl hl.1 rfl (lv_room (Nat.le_of_ble_eq_true rfl)) dX11_deepest_34 (fun H locs hP hS => ?_)
        refine lv_if_eq (tgt := 44) hx hb dX11_deepest_37 (by decide) (fun c18 => ?_) (fun c18 => ?_)
        · replace h := h_t c18 h
          refine lv_iload_n hx hb dX11_deepest_44 rfl (lv_at hl 2 rfl) ?_
          exact J45 _ _ _ _ H locs ls h hP hS (lv_sub hl [0, 1, 3] rfl)
        · replace h := h_f c18 h
          refine lv_iload_n hx hb dX11_deepest_40 rfl (lv_at hl 3 rfl) ?_
          refine lv_goto (tgt := 45) hx hb dX11_deepest_41 (by decide) ?_
          exact J45 _ _ _ _ H locs ls h hP hS (lv_sub hl [0, 1, 3] rfl)
  have hS : va_S (g_A G) s.heap s.heap [] := va_S.rf
  unfold f_X11_deepest at h
  obtain ⟨H, hH⟩ : ∃ H, H = s.heap := ⟨_, rfl⟩
  obtain ⟨locs, hlo⟩ : ∃ k : List Loc, k = [] := ⟨_, rfl⟩
  rw [← hH, ← hlo]
  rw [← hH] at hP
  replace hS : va_S (g_A G) s.heap H locs := by rw [hH, hlo]; exact hS
  refine lv_aload_n hx hb dX11_deepest_0 rfl (lv_at hl 0 rfl) ?_
  obtain ⟨q19, e20, h⟩ := bnd h
  refine call_i C hP hS (c_X11_isSheet e20) mi_X11_isSheet mw_1441 26 (by decide) rfl rfl ⟨Nat.le_of_ble_eq_true rfl, Nat.le_of_ble_eq_true rfl⟩ (As := []) rfl hl.1 rfl (lv_room (Nat.le_of_ble_eq_true rfl)) dX11_deepest_1 (fun H locs hP hS => ?_)
  refine lv_if_ne (tgt := 10) hx hb dX11_deepest_4 (by decide) (fun c21 => ?_) (fun c21 => ?_)
  · replace h := h_f c21 h
    refine lv_iload_n hx hb dX11_deepest_10 rfl (lv_at hl 1 rfl) ?_
    obtain ⟨q22, e23, h⟩ := bnd h
    refine scall_i C hP hS (c_X11_isStart e23) ms_X11_isStart mw_1594 ⟨Nat.le_of_ble_eq_true rfl, Nat.le_of_ble_eq_true rfl⟩ (As := [.int a1]) rfl hl.1 rfl (lv_room (Nat.le_of_ble_eq_true rfl)) dX11_deepest_11 (fun H locs hP hS => ?_)
    refine lv_if_ne (tgt := 20) hx hb dX11_deepest_14 (by decide) (fun c24 => ?_) (fun c24 => ?_)
    · replace h := h_f c24 h
      refine lv_ldc hx hb C.2.2.2.1 (C.2.2.2.2.1 _ mw_1337) dX11_deepest_20 ?_
      refine lv_istore_n (lv' := [(2, .int (-1000000)), (0, .ref (g_ad G 26)), (1, .int a1)]) hx hb dX11_deepest_22 rfl hl (by decide) rfl (fun ls hl => ?_)
      refine lv_iconst (v := 0) hx hb dX11_deepest_23 (by decide) ?_
      refine lv_istore_n (lv' := [(3, .int 0), (2, .int (-1000000)), (0, .ref (g_ad G 26)), (1, .int a1)]) hx hb dX11_deepest_24 rfl hl (by decide) rfl (fun ls hl => ?_)
      exact L25 FU _ _ _ _ H locs ls h hP hS (lv_sub hl [2, 3, 1, 0] rfl)
    · replace h := h_t c24 h
      refine lv_ldc hx hb C.2.2.2.1 (C.2.2.2.2.1 _ mw_1323) dX11_deepest_17 ?_
      exact ret_i C hr hlocks hP hS h dX11_deepest_19
  · replace h := h_t c21 h
    refine lv_ldc hx hb C.2.2.2.1 (C.2.2.2.2.1 _ mw_1403) dX11_deepest_7 ?_
    exact ret_i C hr hlocks hP hS h dX11_deepest_9
set_option maxHeartbeats 4000000 in
set_option maxRecDepth 100000 in
theorem c_X11_courses {l : Launch} {G : GT} {lam : Lm} {σ : St} {a1 : Int32} {a2 : Int32} {q : Int32 × St} (h : f_X11_courses σ a1 a2 = some q) : Met l yX11_courses (Cond.code yX11_courses cX11_courses 6 ((some .int)) :: TB) ({ frames := 8, cells := 0, slots := 0, locals := 204 } : Room) (va_Pc [.ref (g_ad G 26), .int a1, .int a2] (GW G lam σ)) (Ri q G lam) 0 0 (g_A G) := by
  refine mk_Qi (own := RX11) (by decide) (Nat.le_of_ble_eq_true rfl) rfl (fun p e s m args below meth c C hr hlocks hP ls hl => ?_)
  have hx := C.1
  have hb := C.2.1
  have hl : lv_has ls 6 [(0, .ref (g_ad G 26)), (1, .int a1), (2, .int a2)] := hl
  have L36 : ∀ (n36 : Nat) (σ : St) (x1 : Int32) (x2 : Int32) (x3 : Int32) (x4 : Int32) (x5 : Int32) (H : Heap) (locs : List Loc) (ls : Array Slot), fx (F_X11_courses_h36) z_X11_courses_h36 n36 σ x1 x2 x3 x4 x5 = some q → va_P (g_D G) vwCl (allW G lam σ) H → va_S (g_A G) s.heap H locs → lv_has ls 6 [(0, .ref (g_ad G 26)), (1, .int x1), (2, .int x2), (3, .int x3), (4, .int x4), (5, .int x5)] → W p l e ({ frames := 8, cells := 0, slots := 0, locals := 204 } : Room) s m args below meth c H locs 0 0 (Qi q below args s G lam) (F0 m 36 ls []) := by
    intro n36
    induction n36 with
    | zero => intro σ x1 x2 x3 x4 x5 H locs ls h hP hS hl; exact absurd h (by intro h9; cases h9)
    | succ n36 ih36 =>
      have J80 : ∀ (σ : St) (x1 : Int32) (x2 : Int32) (x3 : Int32) (x5 : Int32) (t0 : Int32) (t1 : Int32) (H : Heap) (locs : List Loc) (ls : Array Slot), f_X11_courses_p80 (fx (F_X11_courses_h36) z_X11_courses_h36 n36) σ x1 x2 x3 x5 t0 t1 = some q → va_P (g_D G) vwCl (allW G lam σ) H → va_S (g_A G) s.heap H locs → lv_has ls 6 [(0, .ref (g_ad G 26)), (1, .int x1), (2, .int x2), (3, .int x3), (5, .int x5)] → W p l e ({ frames := 8, cells := 0, slots := 0, locals := 204 } : Room) s m args below meth c H locs 0 0 (Qi q below args s G lam) (F0 m 80 ls [.int t0, .int t1]) := by
        intro σ x1 x2 x3 x5 t0 t1 H locs ls h hP hS hl
        unfold f_X11_courses_p80 at h
        refine lv_ior hx hb dX11_courses_80 ?_
        obtain ⟨y20, e21, h⟩ := bnd h
        refine r_nm e21 ?_
        refine lv_istore (lv' := [(4, .int y20), (0, .ref (g_ad G 26)), (1, .int x1), (2, .int x2), (3, .int x3), (5, .int x5)]) hx hb dX11_courses_81 hl (by decide) rfl (fun ls hl => ?_)
        obtain ⟨y22, e23, h⟩ := bnd h
        refine lv_iinc (v := y22) (lv' := [(5, .int y22), (4, .int y20), (0, .ref (g_ad G 26)), (1, .int x1), (2, .int x2), (3, .int x3)]) hx hb dX11_courses_83 hl (k := 5) rfl (Option.some.inj e23) (by decide) rfl (fun ls hl => ?_)
        refine lv_goto (tgt := 36) hx hb dX11_courses_86 (by decide) ?_
        exact ih36 _ _ _ _ _ _ H locs ls h hP hS (lv_sub hl [2, 3, 4, 5, 1, 0] rfl)
      intro σ x1 x2 x3 x4 x5 H locs ls h hP hS hl
      change F_X11_courses_h36 (fx (F_X11_courses_h36) z_X11_courses_h36 n36) σ x1 x2 x3 x4 x5 = some q at h
      unfold F_X11_courses_h36 at h
      refine lv_iload hx hb dX11_courses_36 (lv_at hl 5 rfl) ?_
      refine lv_bipush (v := 16) hx hb dX11_courses_38 (by decide) ?_
      refine lv_icmp_ge (tgt := 89) hx hb dX11_courses_40 (by decide) (fun c24 => ?_) (fun c24 => ?_)
      · replace h := h_t c24 h
        refine lv_aload_n hx hb dX11_courses_89 rfl (lv_at hl 0 rfl) ?_
        refine gf_X11_7_26 C hP dX11_courses_90 ?_
        refine lv_bipush (v := 55) hx hb dX11_courses_93 (by decide) ?_
        refine lv_iconst (v := 4) hx hb dX11_courses_95 (by decide) ?_
        refine lv_iload_n hx hb dX11_courses_96 rfl (lv_at hl 1 rfl) ?_
        refine lv_imul hx hb dX11_courses_97 ?_
        refine lv_iadd hx hb dX11_courses_98 ?_
        refine lv_iload_n hx hb dX11_courses_99 rfl (lv_at hl 3 rfl) ?_
        obtain ⟨g25, h⟩ := h_g h
        refine r_ast C hP hS 27 (by decide) (fun _ => rfl) (vp_in_iff.mpr g25) dX11_courses_100 (fun H locs hP hS => ?_)
        obtain ⟨σ26, e27, h⟩ := bnd h
        have hP := hPn e27 hP
        refine lv_iload hx hb dX11_courses_101 (lv_at hl 4 rfl) ?_
        exact ret_i C hr hlocks hP hS h dX11_courses_103
      · replace h := h_f c24 h
        refine lv_aload_n hx hb dX11_courses_43 rfl (lv_at hl 0 rfl) ?_
        refine gf_X11_7_26 C hP dX11_courses_44 ?_
        refine lv_bipush (v := 55) hx hb dX11_courses_47 (by decide) ?_
        refine lv_iconst (v := 4) hx hb dX11_courses_49 (by decide) ?_
        refine lv_iload_n hx hb dX11_courses_50 rfl (lv_at hl 1 rfl) ?_
        refine lv_imul hx hb dX11_courses_51 ?_
        refine lv_iadd hx hb dX11_courses_52 ?_
        refine lv_iload hx hb dX11_courses_53 (lv_at hl 5 rfl) ?_
        obtain ⟨g28, h⟩ := h_g h
        refine r_ast C hP hS 27 (by decide) (fun _ => rfl) (vp_in_iff.mpr g28) dX11_courses_55 (fun H locs hP hS => ?_)
        obtain ⟨σ29, e30, h⟩ := bnd h
        have hP := hPn e30 hP
        refine lv_iload hx hb dX11_courses_56 (lv_at hl 4 rfl) ?_
        refine lv_aload_n hx hb dX11_courses_58 rfl (lv_at hl 0 rfl) ?_
        refine lv_iload_n hx hb dX11_courses_59 rfl (lv_at hl 2 rfl) ?_
        refine lv_aload_n hx hb dX11_courses_60 rfl (lv_at hl 0 rfl) ?_
        refine gf_X11_7_26 C hP dX11_courses_61 ?_
        refine lv_iconst (v := 1) hx hb dX11_courses_64 (by decide) ?_
        refine r_aldc C hP 27 (by decide) rfl (j := 1) (by decide) (vp_in_iff.mpr (by decide)) dX11_courses_65 ?_
        obtain ⟨q31, e32, h⟩ := bnd h
        refine call_i C hP hS (c_X11_arrivesFrom e32) mi_X11_arrivesFrom mw_1662 26 (by decide) rfl rfl ⟨Nat.le_of_ble_eq_true rfl, Nat.le_of_ble_eq_true rfl⟩ (As := [.int x2, .int (σ29 27 1)]) rfl hl.1 rfl (lv_room (Nat.le_of_ble_eq_true rfl)) dX11_courses_66 (fun H locs hP hS => ?_)
        refine lv_if_eq (tgt := 79) hx hb dX11_courses_69 (by decide) (fun c33 => ?_) (fun c33 => ?_)
        · replace h := h_t c33 h
          refine lv_iconst (v := 0) hx hb dX11_courses_79 (by decide) ?_
          exact J80 _ _ _ _ _ _ _ H locs ls h hP hS (lv_sub hl [0, 1, 2, 3, 5] rfl)
        · replace h := h_f c33 h
          refine lv_iconst (v := 1) hx hb dX11_courses_72 (by decide) ?_
          refine lv_iload hx hb dX11_courses_73 (lv_at hl 5 rfl) ?_
          refine lv_ishl hx hb dX11_courses_75 ?_
          refine lv_goto (tgt := 80) hx hb dX11_courses_76 (by decide) ?_
          exact J80 _ _ _ _ _ _ _ H locs ls h hP hS (lv_sub hl [0, 1, 2, 3, 5] rfl)
  have hS : va_S (g_A G) s.heap s.heap [] := va_S.rf
  unfold f_X11_courses at h
  obtain ⟨H, hH⟩ : ∃ H, H = s.heap := ⟨_, rfl⟩
  obtain ⟨locs, hlo⟩ : ∃ k : List Loc, k = [] := ⟨_, rfl⟩
  rw [← hH, ← hlo]
  rw [← hH] at hP
  replace hS : va_S (g_A G) s.heap H locs := by rw [hH, hlo]; exact hS
  refine lv_aload_n hx hb dX11_courses_0 rfl (lv_at hl 0 rfl) ?_
  refine lv_iload_n hx hb dX11_courses_1 rfl (lv_at hl 1 rfl) ?_
  obtain ⟨q34, e35, h⟩ := bnd h
  refine call_i C hP hS (c_X11_isLeg e35) mi_X11_isLeg mw_1454 26 (by decide) rfl rfl ⟨Nat.le_of_ble_eq_true rfl, Nat.le_of_ble_eq_true rfl⟩ (As := [.int a1]) rfl hl.1 rfl (lv_room (Nat.le_of_ble_eq_true rfl)) dX11_courses_2 (fun H locs hP hS => ?_)
  refine lv_if_eq (tgt := 15) hx hb dX11_courses_5 (by decide) (fun c36 => ?_) (fun c36 => ?_)
  · replace h := h_t c36 h
    refine lv_ldc hx hb C.2.2.2.1 (C.2.2.2.2.1 _ mw_1323) dX11_courses_15 ?_
    exact ret_i C hr hlocks hP hS h dX11_courses_17
  · replace h := h_f c36 h
    refine lv_iload_n hx hb dX11_courses_8 rfl (lv_at hl 2 rfl) ?_
    obtain ⟨q37, e38, h⟩ := bnd h
    refine scall_i C hP hS (c_X11_isStart e38) ms_X11_isStart mw_1594 ⟨Nat.le_of_ble_eq_true rfl, Nat.le_of_ble_eq_true rfl⟩ (As := [.int a2]) rfl hl.1 rfl (lv_room (Nat.le_of_ble_eq_true rfl)) dX11_courses_9 (fun H locs hP hS => ?_)
    refine lv_if_ne (tgt := 18) hx hb dX11_courses_12 (by decide) (fun c39 => ?_) (fun c39 => ?_)
    · replace h := h_f c39 h
      refine lv_aload_n hx hb dX11_courses_18 rfl (lv_at hl 0 rfl) ?_
      refine gf_X11_7_26 C hP dX11_courses_19 ?_
      refine lv_bipush (v := 55) hx hb dX11_courses_22 (by decide) ?_
      refine lv_iconst (v := 4) hx hb dX11_courses_24 (by decide) ?_
      refine lv_iload_n hx hb dX11_courses_25 rfl (lv_at hl 1 rfl) ?_
      refine lv_imul hx hb dX11_courses_26 ?_
      refine lv_iadd hx hb dX11_courses_27 ?_
      obtain ⟨g40, h⟩ := h_g h
      refine r_ald C hP 27 (by decide) rfl (vp_in_iff.mpr g40) dX11_courses_28 ?_
      obtain ⟨y41, e42, h⟩ := bnd h
      refine r_nm e42 ?_
      refine lv_istore_n (lv' := [(3, .int y41), (0, .ref (g_ad G 26)), (1, .int a1), (2, .int a2)]) hx hb dX11_courses_29 rfl hl (by decide) rfl (fun ls hl => ?_)
      refine lv_iconst (v := 0) hx hb dX11_courses_30 (by decide) ?_
      refine lv_istore (lv' := [(4, .int 0), (3, .int y41), (0, .ref (g_ad G 26)), (1, .int a1), (2, .int a2)]) hx hb dX11_courses_31 hl (by decide) rfl (fun ls hl => ?_)
      refine lv_iconst (v := 0) hx hb dX11_courses_33 (by decide) ?_
      refine lv_istore (lv' := [(5, .int 0), (4, .int 0), (3, .int y41), (0, .ref (g_ad G 26)), (1, .int a1), (2, .int a2)]) hx hb dX11_courses_34 hl (by decide) rfl (fun ls hl => ?_)
      exact L36 FU _ _ _ _ _ _ H locs ls h hP hS (lv_sub hl [3, 4, 5, 2, 1, 0] rfl)
    · replace h := h_t c39 h
      refine lv_ldc hx hb C.2.2.2.1 (C.2.2.2.2.1 _ mw_1323) dX11_courses_15 ?_
      exact ret_i C hr hlocks hP hS h dX11_courses_17
set_option maxHeartbeats 4000000 in
set_option maxRecDepth 100000 in
theorem c_X11_needed {l : Launch} {G : GT} {lam : Lm} {σ : St} {a1 : Int32} {q : Int32 × St} (h : f_X11_needed σ a1 = some q) : Met l yX11_needed (Cond.code yX11_needed cX11_needed 8 ((some .int)) :: TB) ({ frames := 7, cells := 0, slots := 0, locals := 182 } : Room) (va_Pc [.ref (g_ad G 26), .int a1] (GW G lam σ)) (Ri q G lam) 0 0 (g_A G) := by
  refine mk_Qi (own := RX11) (by decide) (Nat.le_of_ble_eq_true rfl) rfl (fun p e s m args below meth c C hr hlocks hP ls hl => ?_)
  have hx := C.1
  have hb := C.2.1
  have hl : lv_has ls 8 [(0, .ref (g_ad G 26)), (1, .int a1)] := hl
  have L69 : ∀ (n69 : Nat) (σ : St) (x1 : Int32) (x2 : Int32) (x3 : Int32) (x4 : Int32) (x5 : Int32) (x6 : Int32) (x7 : Int32) (H : Heap) (locs : List Loc) (ls : Array Slot), fx (F_X11_needed_h69) z_X11_needed_h69 n69 σ x1 x2 x3 x4 x5 x6 x7 = some q → va_P (g_D G) vwCl (allW G lam σ) H → va_S (g_A G) s.heap H locs → lv_has ls 8 [(0, .ref (g_ad G 26)), (1, .int x1), (2, .int x2), (3, .int x3), (4, .int x4), (5, .int x5), (6, .int x6), (7, .int x7)] → W p l e ({ frames := 7, cells := 0, slots := 0, locals := 182 } : Room) s m args below meth c H locs 0 0 (Qi q below args s G lam) (F0 m 69 ls []) := by
    intro n69
    induction n69 with
    | zero => intro σ x1 x2 x3 x4 x5 x6 x7 H locs ls h hP hS hl; exact absurd h (by intro h9; cases h9)
    | succ n69 ih69 =>
      have J167 : ∀ (σ : St) (x1 : Int32) (x2 : Int32) (x3 : Int32) (x4 : Int32) (x5 : Int32) (x7 : Int32) (t0 : Int32) (t1 : Int32) (H : Heap) (locs : List Loc) (ls : Array Slot), f_X11_needed_p167 (fx (F_X11_needed_h69) z_X11_needed_h69 n69) σ x1 x2 x3 x4 x5 x7 t0 t1 = some q → va_P (g_D G) vwCl (allW G lam σ) H → va_S (g_A G) s.heap H locs → lv_has ls 8 [(0, .ref (g_ad G 26)), (1, .int x1), (2, .int x2), (3, .int x3), (4, .int x4), (5, .int x5), (7, .int x7)] → W p l e ({ frames := 7, cells := 0, slots := 0, locals := 182 } : Room) s m args below meth c H locs 0 0 (Qi q below args s G lam) (F0 m 167 ls [.int t0, .int t1]) := by
        intro σ x1 x2 x3 x4 x5 x7 t0 t1 H locs ls h hP hS hl
        unfold f_X11_needed_p167 at h
        refine lv_ior hx hb dX11_needed_167 ?_
        obtain ⟨y29, e30, h⟩ := bnd h
        refine r_nm e30 ?_
        refine lv_istore (lv' := [(6, .int y29), (0, .ref (g_ad G 26)), (1, .int x1), (2, .int x2), (3, .int x3), (4, .int x4), (5, .int x5), (7, .int x7)]) hx hb dX11_needed_168 hl (by decide) rfl (fun ls hl => ?_)
        obtain ⟨y31, e32, h⟩ := bnd h
        refine lv_iinc (v := y31) (lv' := [(7, .int y31), (6, .int y29), (0, .ref (g_ad G 26)), (1, .int x1), (2, .int x2), (3, .int x3), (4, .int x4), (5, .int x5)]) hx hb dX11_needed_170 hl (k := 7) rfl (Option.some.inj e32) (by decide) rfl (fun ls hl => ?_)
        refine lv_goto (tgt := 69) hx hb dX11_needed_173 (by decide) ?_
        exact ih69 _ _ _ _ _ _ _ _ H locs ls h hP hS (lv_sub hl [2, 3, 4, 5, 6, 7, 1, 0] rfl)
      have J159 : ∀ (σ : St) (x1 : Int32) (x2 : Int32) (x3 : Int32) (x4 : Int32) (x5 : Int32) (x7 : Int32) (t0 : Int32) (H : Heap) (locs : List Loc) (ls : Array Slot), f_X11_needed_p159 (fx (F_X11_needed_h69) z_X11_needed_h69 n69) σ x1 x2 x3 x4 x5 x7 t0 = some q → va_P (g_D G) vwCl (allW G lam σ) H → va_S (g_A G) s.heap H locs → lv_has ls 8 [(0, .ref (g_ad G 26)), (1, .int x1), (2, .int x2), (3, .int x3), (4, .int x4), (5, .int x5), (7, .int x7)] → W p l e ({ frames := 7, cells := 0, slots := 0, locals := 182 } : Room) s m args below meth c H locs 0 0 (Qi q below args s G lam) (F0 m 159 ls [.int t0]) := by
        intro σ x1 x2 x3 x4 x5 x7 t0 H locs ls h hP hS hl
        unfold f_X11_needed_p159 at h
        refine lv_iconst (v := 1) hx hb dX11_needed_159 (by decide) ?_
        refine lv_iload hx hb dX11_needed_160 (lv_at hl 6 rfl) ?_
        refine lv_ishl hx hb dX11_needed_162 ?_
        refine lv_goto (tgt := 167) hx hb dX11_needed_163 (by decide) ?_
        exact J167 _ _ _ _ _ _ _ _ _ H locs ls h hP hS (lv_sub hl [0, 1, 2, 3, 4, 5, 6] rfl)
      have J99 : ∀ (σ : St) (x1 : Int32) (x2 : Int32) (x3 : Int32) (x4 : Int32) (x5 : Int32) (x6 : Int32) (x7 : Int32) (t0 : Int32) (H : Heap) (locs : List Loc) (ls : Array Slot), f_X11_needed_p99 (fx (F_X11_needed_h69) z_X11_needed_h69 n69) σ x1 x2 x3 x4 x5 x6 x7 t0 = some q → va_P (g_D G) vwCl (allW G lam σ) H → va_S (g_A G) s.heap H locs → lv_has ls 8 [(0, .ref (g_ad G 26)), (1, .int x1), (2, .int x2), (3, .int x3), (4, .int x4), (5, .int x5), (6, .int x6), (7, .int x7)] → W p l e ({ frames := 7, cells := 0, slots := 0, locals := 182 } : Room) s m args below meth c H locs 0 0 (Qi q below args s G lam) (F0 m 99 ls [.int t0, .ref (g_ad G 26)]) := by
        intro σ x1 x2 x3 x4 x5 x6 x7 t0 H locs ls h hP hS hl
        unfold f_X11_needed_p99 at h
        refine pf_X11_211_26 C hP hS dX11_needed_99 (fun H locs hP hS => ?_)
        obtain ⟨σ33, e34, h⟩ := bnd h
        have hP := hPn e34 hP
        refine lv_aload_n hx hb dX11_needed_102 rfl (lv_at hl 0 rfl) ?_
        refine lv_iload_n hx hb dX11_needed_103 rfl (lv_at hl 1 rfl) ?_
        refine lv_aload_n hx hb dX11_needed_104 rfl (lv_at hl 0 rfl) ?_
        refine gf_X11_7_26 C hP dX11_needed_105 ?_
        refine lv_iconst (v := 1) hx hb dX11_needed_108 (by decide) ?_
        refine r_aldc C hP 27 (by decide) rfl (j := 1) (by decide) (vp_in_iff.mpr (by decide)) dX11_needed_109 ?_
        obtain ⟨q35, e36, h⟩ := bnd h
        refine call_v C hP hS (c_X11_sails e36) mi_X11_sails mw_1598 26 (by decide) rfl rfl ⟨Nat.le_of_ble_eq_true rfl, Nat.le_of_ble_eq_true rfl⟩ (As := [.int x1, .int (σ33 27 1)]) rfl hl.1 rfl (lv_room (Nat.le_of_ble_eq_true rfl)) dX11_needed_110 (fun H locs hP hS => ?_)
        refine lv_iload hx hb dX11_needed_113 (lv_at hl 6 rfl) ?_
        refine lv_aload_n hx hb dX11_needed_115 rfl (lv_at hl 0 rfl) ?_
        refine gf_X11_296_26 C hP dX11_needed_116 ?_
        refine lv_iload hx hb dX11_needed_119 (lv_at hl 5 rfl) ?_
        refine lv_icmp_ne (tgt := 159) hx hb dX11_needed_121 (by decide) (fun c37 => ?_) (fun c37 => ?_)
        · replace h := h_f c37 h
          exact J159 _ _ _ _ _ _ _ _ H locs ls h hP hS (lv_sub hl [0, 1, 2, 3, 4, 5, 7] rfl)
        · replace h := h_t c37 h
          refine lv_aload_n hx hb dX11_needed_124 rfl (lv_at hl 0 rfl) ?_
          refine gf_X11_274_26 C hP dX11_needed_125 ?_
          refine lv_iload_n hx hb dX11_needed_128 rfl (lv_at hl 2 rfl) ?_
          refine lv_icmp_ne (tgt := 159) hx hb dX11_needed_129 (by decide) (fun c38 => ?_) (fun c38 => ?_)
          · replace h := h_f c38 h
            exact J159 _ _ _ _ _ _ _ _ H locs ls h hP hS (lv_sub hl [0, 1, 2, 3, 4, 5, 7] rfl)
          · replace h := h_t c38 h
            refine lv_aload_n hx hb dX11_needed_132 rfl (lv_at hl 0 rfl) ?_
            refine gf_X11_29_26 C hP dX11_needed_133 ?_
            refine lv_aload_n hx hb dX11_needed_136 rfl (lv_at hl 0 rfl) ?_
            refine gf_X11_274_26 C hP dX11_needed_137 ?_
            obtain ⟨g39, h⟩ := h_g h
            refine r_ald C hP 33 (by decide) rfl (vp_in_iff.mpr g39) dX11_needed_140 ?_
            refine lv_iload_n hx hb dX11_needed_141 rfl (lv_at hl 3 rfl) ?_
            refine lv_icmp_ne (tgt := 159) hx hb dX11_needed_142 (by decide) (fun c40 => ?_) (fun c40 => ?_)
            · replace h := h_f c40 h
              exact J159 _ _ _ _ _ _ _ _ H locs ls h hP hS (lv_sub hl [0, 1, 2, 3, 4, 5, 7] rfl)
            · replace h := h_t c40 h
              refine lv_aload_n hx hb dX11_needed_145 rfl (lv_at hl 0 rfl) ?_
              refine gf_X11_32_26 C hP dX11_needed_146 ?_
              refine lv_aload_n hx hb dX11_needed_149 rfl (lv_at hl 0 rfl) ?_
              refine gf_X11_274_26 C hP dX11_needed_150 ?_
              obtain ⟨g41, h⟩ := h_g h
              refine r_ald C hP 34 (by decide) rfl (vp_in_iff.mpr g41) dX11_needed_153 ?_
              refine lv_iload hx hb dX11_needed_154 (lv_at hl 4 rfl) ?_
              refine lv_icmp_eq (tgt := 166) hx hb dX11_needed_156 (by decide) (fun c42 => ?_) (fun c42 => ?_)
              · replace h := h_t c42 h
                refine lv_iconst (v := 0) hx hb dX11_needed_166 (by decide) ?_
                exact J167 _ _ _ _ _ _ _ _ _ H locs ls h hP hS (lv_sub hl [0, 1, 2, 3, 4, 5, 7] rfl)
              · replace h := h_f c42 h
                exact J159 _ _ _ _ _ _ _ _ H locs ls h hP hS (lv_sub hl [0, 1, 2, 3, 4, 5, 7] rfl)
      intro σ x1 x2 x3 x4 x5 x6 x7 H locs ls h hP hS hl
      change F_X11_needed_h69 (fx (F_X11_needed_h69) z_X11_needed_h69 n69) σ x1 x2 x3 x4 x5 x6 x7 = some q at h
      unfold F_X11_needed_h69 at h
      refine lv_iload hx hb dX11_needed_69 (lv_at hl 7 rfl) ?_
      refine lv_aload_n hx hb dX11_needed_71 rfl (lv_at hl 0 rfl) ?_
      refine gf_X11_7_26 C hP dX11_needed_72 ?_
      refine lv_bipush (v := 13) hx hb dX11_needed_75 (by decide) ?_
      refine r_aldc C hP 27 (by decide) rfl (j := 13) (by decide) (vp_in_iff.mpr (by decide)) dX11_needed_77 ?_
      refine lv_icmp_ge (tgt := 176) hx hb dX11_needed_78 (by decide) (fun c43 => ?_) (fun c43 => ?_)
      · replace h := h_t c43 h
        refine lv_aload_n hx hb dX11_needed_176 rfl (lv_at hl 0 rfl) ?_
        refine lv_iconst (v := 0) hx hb dX11_needed_177 (by decide) ?_
        refine pf_X11_211_26 C hP hS dX11_needed_178 (fun H locs hP hS => ?_)
        obtain ⟨σ44, e45, h⟩ := bnd h
        have hP := hPn e45 hP
        refine lv_iload hx hb dX11_needed_181 (lv_at hl 6 rfl) ?_
        exact ret_i C hr hlocks hP hS h dX11_needed_183
      · replace h := h_f c43 h
        refine lv_aload_n hx hb dX11_needed_81 rfl (lv_at hl 0 rfl) ?_
        refine lv_aload_n hx hb dX11_needed_82 rfl (lv_at hl 0 rfl) ?_
        refine lv_iload hx hb dX11_needed_83 (lv_at hl 7 rfl) ?_
        obtain ⟨q46, e47, h⟩ := bnd h
        refine call_i C hP hS (c_X11_isMark e47) mi_X11_isMark mw_1535 26 (by decide) rfl rfl ⟨Nat.le_of_ble_eq_true rfl, Nat.le_of_ble_eq_true rfl⟩ (As := [.int x7]) rfl hl.1 rfl (lv_room (Nat.le_of_ble_eq_true rfl)) dX11_needed_85 (fun H locs hP hS => ?_)
        refine lv_if_eq (tgt := 98) hx hb dX11_needed_88 (by decide) (fun c48 => ?_) (fun c48 => ?_)
        · replace h := h_t c48 h
          refine lv_iconst (v := 0) hx hb dX11_needed_98 (by decide) ?_
          exact J99 _ _ _ _ _ _ _ _ _ H locs ls h hP hS (lv_sub hl [0, 1, 2, 3, 4, 5, 6, 7] rfl)
        · replace h := h_f c48 h
          refine lv_iconst (v := 1) hx hb dX11_needed_91 (by decide) ?_
          refine lv_iload hx hb dX11_needed_92 (lv_at hl 7 rfl) ?_
          refine lv_ishl hx hb dX11_needed_94 ?_
          refine lv_goto (tgt := 99) hx hb dX11_needed_95 (by decide) ?_
          exact J99 _ _ _ _ _ _ _ _ _ H locs ls h hP hS (lv_sub hl [0, 1, 2, 3, 4, 5, 6, 7] rfl)
  have hS : va_S (g_A G) s.heap s.heap [] := va_S.rf
  unfold f_X11_needed at h
  obtain ⟨H, hH⟩ : ∃ H, H = s.heap := ⟨_, rfl⟩
  obtain ⟨locs, hlo⟩ : ∃ k : List Loc, k = [] := ⟨_, rfl⟩
  rw [← hH, ← hlo]
  rw [← hH] at hP
  replace hS : va_S (g_A G) s.heap H locs := by rw [hH, hlo]; exact hS
  refine lv_aload_n hx hb dX11_needed_0 rfl (lv_at hl 0 rfl) ?_
  obtain ⟨q49, e50, h⟩ := bnd h
  refine call_i C hP hS (c_X11_isSheet e50) mi_X11_isSheet mw_1441 26 (by decide) rfl rfl ⟨Nat.le_of_ble_eq_true rfl, Nat.le_of_ble_eq_true rfl⟩ (As := []) rfl hl.1 rfl (lv_room (Nat.le_of_ble_eq_true rfl)) dX11_needed_1 (fun H locs hP hS => ?_)
  refine lv_if_ne (tgt := 10) hx hb dX11_needed_4 (by decide) (fun c51 => ?_) (fun c51 => ?_)
  · replace h := h_f c51 h
    refine lv_iload_n hx hb dX11_needed_10 rfl (lv_at hl 1 rfl) ?_
    obtain ⟨q52, e53, h⟩ := bnd h
    refine scall_i C hP hS (c_X11_isStart e53) ms_X11_isStart mw_1594 ⟨Nat.le_of_ble_eq_true rfl, Nat.le_of_ble_eq_true rfl⟩ (As := [.int a1]) rfl hl.1 rfl (lv_room (Nat.le_of_ble_eq_true rfl)) dX11_needed_11 (fun H locs hP hS => ?_)
    refine lv_if_ne (tgt := 20) hx hb dX11_needed_14 (by decide) (fun c54 => ?_) (fun c54 => ?_)
    · replace h := h_f c54 h
      refine lv_aload_n hx hb dX11_needed_20 rfl (lv_at hl 0 rfl) ?_
      refine lv_iload_n hx hb dX11_needed_21 rfl (lv_at hl 1 rfl) ?_
      refine lv_aload_n hx hb dX11_needed_22 rfl (lv_at hl 0 rfl) ?_
      refine gf_X11_7_26 C hP dX11_needed_23 ?_
      refine lv_iconst (v := 1) hx hb dX11_needed_26 (by decide) ?_
      refine r_aldc C hP 27 (by decide) rfl (j := 1) (by decide) (vp_in_iff.mpr (by decide)) dX11_needed_27 ?_
      obtain ⟨q55, e56, h⟩ := bnd h
      refine call_v C hP hS (c_X11_sails e56) mi_X11_sails mw_1598 26 (by decide) rfl rfl ⟨Nat.le_of_ble_eq_true rfl, Nat.le_of_ble_eq_true rfl⟩ (As := [.int a1, .int (q52.2 27 1)]) rfl hl.1 rfl (lv_room (Nat.le_of_ble_eq_true rfl)) dX11_needed_28 (fun H locs hP hS => ?_)
      refine lv_aload_n hx hb dX11_needed_31 rfl (lv_at hl 0 rfl) ?_
      refine gf_X11_274_26 C hP dX11_needed_32 ?_
      obtain ⟨y57, e58, h⟩ := bnd h
      refine r_nm e58 ?_
      refine lv_istore_n (lv' := [(2, .int y57), (0, .ref (g_ad G 26)), (1, .int a1)]) hx hb dX11_needed_35 rfl hl (by decide) rfl (fun ls hl => ?_)
      refine lv_aload_n hx hb dX11_needed_36 rfl (lv_at hl 1 rfl) ?_
      refine gf_X11_29_26 C hP dX11_needed_37 ?_
      refine lv_aload_n hx hb dX11_needed_40 rfl (lv_at hl 1 rfl) ?_
      refine gf_X11_274_26 C hP dX11_needed_41 ?_
      obtain ⟨g59, h⟩ := h_g h
      refine r_ald C hP 33 (by decide) rfl (vp_in_iff.mpr g59) dX11_needed_44 ?_
      obtain ⟨y60, e61, h⟩ := bnd h
      refine r_nm e61 ?_
      refine lv_istore_n (lv' := [(3, .int y60), (2, .int y57), (0, .ref (g_ad G 26)), (1, .int a1)]) hx hb dX11_needed_45 rfl hl (by decide) rfl (fun ls hl => ?_)
      refine lv_aload_n hx hb dX11_needed_46 rfl (lv_at hl 2 rfl) ?_
      refine gf_X11_32_26 C hP dX11_needed_47 ?_
      refine lv_aload_n hx hb dX11_needed_50 rfl (lv_at hl 2 rfl) ?_
      refine gf_X11_274_26 C hP dX11_needed_51 ?_
      obtain ⟨g62, h⟩ := h_g h
      refine r_ald C hP 34 (by decide) rfl (vp_in_iff.mpr g62) dX11_needed_54 ?_
      obtain ⟨y63, e64, h⟩ := bnd h
      refine r_nm e64 ?_
      refine lv_istore (lv' := [(4, .int y63), (3, .int y60), (2, .int y57), (0, .ref (g_ad G 26)), (1, .int a1)]) hx hb dX11_needed_55 hl (by decide) rfl (fun ls hl => ?_)
      refine lv_aload_n hx hb dX11_needed_57 rfl (lv_at hl 3 rfl) ?_
      refine gf_X11_296_26 C hP dX11_needed_58 ?_
      obtain ⟨y65, e66, h⟩ := bnd h
      refine r_nm e66 ?_
      refine lv_istore (lv' := [(5, .int y65), (4, .int y63), (3, .int y60), (2, .int y57), (0, .ref (g_ad G 26)), (1, .int a1)]) hx hb dX11_needed_61 hl (by decide) rfl (fun ls hl => ?_)
      refine lv_iconst (v := 0) hx hb dX11_needed_63 (by decide) ?_
      refine lv_istore (lv' := [(6, .int 0), (5, .int y65), (4, .int y63), (3, .int y60), (2, .int y57), (0, .ref (g_ad G 26)), (1, .int a1)]) hx hb dX11_needed_64 hl (by decide) rfl (fun ls hl => ?_)
      refine lv_iconst (v := 0) hx hb dX11_needed_66 (by decide) ?_
      refine lv_istore (lv' := [(7, .int 0), (6, .int 0), (5, .int y65), (4, .int y63), (3, .int y60), (2, .int y57), (0, .ref (g_ad G 26)), (1, .int a1)]) hx hb dX11_needed_67 hl (by decide) rfl (fun ls hl => ?_)
      exact L69 FU _ _ _ _ _ _ _ _ H locs ls h hP hS (lv_sub hl [6, 7, 5, 4, 3, 2, 1, 0] rfl)
    · replace h := h_t c54 h
      refine lv_ldc hx hb C.2.2.2.1 (C.2.2.2.2.1 _ mw_1323) dX11_needed_17 ?_
      exact ret_i C hr hlocks hP hS h dX11_needed_19
  · replace h := h_t c51 h
    refine lv_ldc hx hb C.2.2.2.1 (C.2.2.2.2.1 _ mw_1403) dX11_needed_7 ?_
    exact ret_i C hr hlocks hP hS h dX11_needed_9
set_option maxHeartbeats 4000000 in
set_option maxRecDepth 100000 in
theorem c_X11_near {l : Launch} {G : GT} {lam : Lm} {σ : St} {a1 : Int32} {a2 : Int32} {q : Int32 × St} (h : f_X11_near σ a1 a2 = some q) : Met l yX11_near (Cond.code yX11_near cX11_near 6 ((some .int)) :: TB) ({ frames := 7, cells := 0, slots := 0, locals := 182 } : Room) (va_Pc [.ref (g_ad G 26), .int a1, .int a2] (GW G lam σ)) (Ri q G lam) 0 0 (g_A G) := by
  refine mk_Qi (own := RX11) (by decide) (Nat.le_of_ble_eq_true rfl) rfl (fun p e s m args below meth c C hr hlocks hP ls hl => ?_)
  have hx := C.1
  have hb := C.2.1
  have hl : lv_has ls 6 [(0, .ref (g_ad G 26)), (1, .int a1), (2, .int a2)] := hl
  have L62 : ∀ (n62 : Nat) (σ : St) (x1 : Int32) (x3 : Int32) (x4 : Int32) (H : Heap) (locs : List Loc) (ls : Array Slot), fx (F_X11_near_h62) z_X11_near_h62 n62 σ x1 x3 x4 = some q → va_P (g_D G) vwCl (allW G lam σ) H → va_S (g_A G) s.heap H locs → lv_has ls 6 [(0, .ref (g_ad G 26)), (1, .int x1), (3, .int x3), (4, .int x4)] → W p l e ({ frames := 7, cells := 0, slots := 0, locals := 182 } : Room) s m args below meth c H locs 0 0 (Qi q below args s G lam) (F0 m 62 ls []) := by
    intro n62
    induction n62 with
    | zero => intro σ x1 x3 x4 H locs ls h hP hS hl; exact absurd h (by intro h9; cases h9)
    | succ n62 ih62 =>
      have J116 : ∀ (σ : St) (x1 : Int32) (x4 : Int32) (t0 : Int32) (H : Heap) (locs : List Loc) (ls : Array Slot), f_X11_near_p116 (fx (F_X11_near_h62) z_X11_near_h62 n62) σ x1 x4 t0 = some q → va_P (g_D G) vwCl (allW G lam σ) H → va_S (g_A G) s.heap H locs → lv_has ls 6 [(0, .ref (g_ad G 26)), (1, .int x1), (4, .int x4)] → W p l e ({ frames := 7, cells := 0, slots := 0, locals := 182 } : Room) s m args below meth c H locs 0 0 (Qi q below args s G lam) (F0 m 116 ls [.int t0]) := by
        intro σ x1 x4 t0 H locs ls h hP hS hl
        unfold f_X11_near_p116 at h
        refine lv_istore_n (lv' := [(3, .int t0), (0, .ref (g_ad G 26)), (1, .int x1), (4, .int x4)]) hx hb dX11_near_116 rfl hl (by decide) rfl (fun ls hl => ?_)
        obtain ⟨y27, e28, h⟩ := bnd h
        refine lv_iinc (v := y27) (lv' := [(4, .int y27), (3, .int t0), (0, .ref (g_ad G 26)), (1, .int x1)]) hx hb dX11_near_117 hl (k := 3) rfl (Option.some.inj e28) (by decide) rfl (fun ls hl => ?_)
        refine lv_goto (tgt := 62) hx hb dX11_near_120 (by decide) ?_
        exact ih62 _ _ _ _ H locs ls h hP hS (lv_sub hl [2, 3, 1, 0] rfl)
      intro σ x1 x3 x4 H locs ls h hP hS hl
      change F_X11_near_h62 (fx (F_X11_near_h62) z_X11_near_h62 n62) σ x1 x3 x4 = some q at h
      unfold F_X11_near_h62 at h
      refine lv_iload hx hb dX11_near_62 (lv_at hl 3 rfl) ?_
      refine lv_aload_n hx hb dX11_near_64 rfl (lv_at hl 0 rfl) ?_
      refine gf_X11_274_26 C hP dX11_near_65 ?_
      refine lv_icmp_gt (tgt := 123) hx hb dX11_near_68 (by decide) (fun c29 => ?_) (fun c29 => ?_)
      · replace h := h_t c29 h
        refine lv_iload_n hx hb dX11_near_123 rfl (lv_at hl 2 rfl) ?_
        exact ret_i C hr hlocks hP hS h dX11_near_124
      · replace h := h_f c29 h
        refine lv_aload_n hx hb dX11_near_71 rfl (lv_at hl 0 rfl) ?_
        refine gf_X11_29_26 C hP dX11_near_72 ?_
        refine lv_iload hx hb dX11_near_75 (lv_at hl 3 rfl) ?_
        obtain ⟨g30, h⟩ := h_g h
        refine r_ald C hP 33 (by decide) rfl (vp_in_iff.mpr g30) dX11_near_77 ?_
        refine lv_aload_n hx hb dX11_near_78 rfl (lv_at hl 0 rfl) ?_
        refine lv_iload_n hx hb dX11_near_79 rfl (lv_at hl 1 rfl) ?_
        refine lv_iconst (v := 1) hx hb dX11_near_80 (by decide) ?_
        obtain ⟨q31, e32, h⟩ := bnd h
        refine call_i C hP hS (c_X11_of e32) mi_X11_of mw_1433 26 (by decide) rfl rfl ⟨Nat.le_of_ble_eq_true rfl, Nat.le_of_ble_eq_true rfl⟩ (As := [.int x1, .int 1]) rfl hl.1 rfl (lv_room (Nat.le_of_ble_eq_true rfl)) dX11_near_81 (fun H locs hP hS => ?_)
        refine lv_isub hx hb dX11_near_84 ?_
        refine lv_aload_n hx hb dX11_near_85 rfl (lv_at hl 0 rfl) ?_
        refine gf_X11_32_26 C hP dX11_near_86 ?_
        refine lv_iload hx hb dX11_near_89 (lv_at hl 3 rfl) ?_
        obtain ⟨g33, h⟩ := h_g h
        refine r_ald C hP 34 (by decide) rfl (vp_in_iff.mpr g33) dX11_near_91 ?_
        refine lv_aload_n hx hb dX11_near_92 rfl (lv_at hl 0 rfl) ?_
        refine lv_iload_n hx hb dX11_near_93 rfl (lv_at hl 1 rfl) ?_
        refine lv_iconst (v := 2) hx hb dX11_near_94 (by decide) ?_
        obtain ⟨q34, e35, h⟩ := bnd h
        refine call_i C hP hS (c_X11_of e35) mi_X11_of mw_1433 26 (by decide) rfl rfl ⟨Nat.le_of_ble_eq_true rfl, Nat.le_of_ble_eq_true rfl⟩ (As := [.int x1, .int 2]) rfl hl.1 rfl (lv_room (Nat.le_of_ble_eq_true rfl)) dX11_near_95 (fun H locs hP hS => ?_)
        refine lv_isub hx hb dX11_near_98 ?_
        obtain ⟨q36, e37, h⟩ := bnd h
        refine scall_i C hP hS (c_X11_square e37) ms_X11_square mw_1524 ⟨Nat.le_of_ble_eq_true rfl, Nat.le_of_ble_eq_true rfl⟩ (As := [.int ((σ 33 (x4).toNatClampNeg) - q31.1), .int ((q31.2 34 (x4).toNatClampNeg) - q34.1)]) rfl hl.1 rfl (lv_room (Nat.le_of_ble_eq_true rfl)) dX11_near_99 (fun H locs hP hS => ?_)
        refine lv_istore (lv' := [(5, .int q36.1), (0, .ref (g_ad G 26)), (1, .int x1), (3, .int x3), (4, .int x4)]) hx hb dX11_near_102 hl (by decide) rfl (fun ls hl => ?_)
        refine lv_iload hx hb dX11_near_104 (lv_at hl 0 rfl) ?_
        refine lv_iload_n hx hb dX11_near_106 rfl (lv_at hl 3 rfl) ?_
        refine lv_icmp_ge (tgt := 115) hx hb dX11_near_107 (by decide) (fun c38 => ?_) (fun c38 => ?_)
        · replace h := h_t c38 h
          refine lv_iload_n hx hb dX11_near_115 rfl (lv_at hl 3 rfl) ?_
          exact J116 _ _ _ _ H locs ls h hP hS (lv_sub hl [1, 2, 4] rfl)
        · replace h := h_f c38 h
          refine lv_iload hx hb dX11_near_110 (lv_at hl 0 rfl) ?_
          refine lv_goto (tgt := 116) hx hb dX11_near_112 (by decide) ?_
          exact J116 _ _ _ _ H locs ls h hP hS (lv_sub hl [1, 2, 4] rfl)
  have hS : va_S (g_A G) s.heap s.heap [] := va_S.rf
  unfold f_X11_near at h
  obtain ⟨H, hH⟩ : ∃ H, H = s.heap := ⟨_, rfl⟩
  obtain ⟨locs, hlo⟩ : ∃ k : List Loc, k = [] := ⟨_, rfl⟩
  rw [← hH, ← hlo]
  rw [← hH] at hP
  replace hS : va_S (g_A G) s.heap H locs := by rw [hH, hlo]; exact hS
  refine lv_aload_n hx hb dX11_near_0 rfl (lv_at hl 0 rfl) ?_
  refine lv_iload_n hx hb dX11_near_1 rfl (lv_at hl 1 rfl) ?_
  obtain ⟨q39, e40, h⟩ := bnd h
  refine call_i C hP hS (c_X11_isThing e40) mi_X11_isThing mw_1412 26 (by decide) rfl rfl ⟨Nat.le_of_ble_eq_true rfl, Nat.le_of_ble_eq_true rfl⟩ (As := [.int a1]) rfl hl.1 rfl (lv_room (Nat.le_of_ble_eq_true rfl)) dX11_near_2 (fun H locs hP hS => ?_)
  refine lv_if_eq (tgt := 15) hx hb dX11_near_5 (by decide) (fun c41 => ?_) (fun c41 => ?_)
  · replace h := h_t c41 h
    refine lv_ldc hx hb C.2.2.2.1 (C.2.2.2.2.1 _ mw_1323) dX11_near_15 ?_
    exact ret_i C hr hlocks hP hS h dX11_near_17
  · replace h := h_f c41 h
    refine lv_iload_n hx hb dX11_near_8 rfl (lv_at hl 2 rfl) ?_
    obtain ⟨q42, e43, h⟩ := bnd h
    refine scall_i C hP hS (c_X11_isStart e43) ms_X11_isStart mw_1594 ⟨Nat.le_of_ble_eq_true rfl, Nat.le_of_ble_eq_true rfl⟩ (As := [.int a2]) rfl hl.1 rfl (lv_room (Nat.le_of_ble_eq_true rfl)) dX11_near_9 (fun H locs hP hS => ?_)
    refine lv_if_ne (tgt := 18) hx hb dX11_near_12 (by decide) (fun c44 => ?_) (fun c44 => ?_)
    · replace h := h_f c44 h
      refine lv_aload_n hx hb dX11_near_18 rfl (lv_at hl 0 rfl) ?_
      refine lv_iload_n hx hb dX11_near_19 rfl (lv_at hl 2 rfl) ?_
      refine lv_aload_n hx hb dX11_near_20 rfl (lv_at hl 0 rfl) ?_
      refine gf_X11_7_26 C hP dX11_near_21 ?_
      refine lv_iconst (v := 1) hx hb dX11_near_24 (by decide) ?_
      refine r_aldc C hP 27 (by decide) rfl (j := 1) (by decide) (vp_in_iff.mpr (by decide)) dX11_near_25 ?_
      obtain ⟨q45, e46, h⟩ := bnd h
      refine call_v C hP hS (c_X11_sails e46) mi_X11_sails mw_1598 26 (by decide) rfl rfl ⟨Nat.le_of_ble_eq_true rfl, Nat.le_of_ble_eq_true rfl⟩ (As := [.int a2, .int (q42.2 27 1)]) rfl hl.1 rfl (lv_room (Nat.le_of_ble_eq_true rfl)) dX11_near_26 (fun H locs hP hS => ?_)
      refine lv_aload_n hx hb dX11_near_29 rfl (lv_at hl 0 rfl) ?_
      refine gf_X11_29_26 C hP dX11_near_30 ?_
      refine lv_iconst (v := 0) hx hb dX11_near_33 (by decide) ?_
      refine r_aldc C hP 33 (by decide) rfl (j := 0) (by decide) (vp_in_iff.mpr (by decide)) dX11_near_34 ?_
      refine lv_aload_n hx hb dX11_near_35 rfl (lv_at hl 0 rfl) ?_
      refine lv_iload_n hx hb dX11_near_36 rfl (lv_at hl 1 rfl) ?_
      refine lv_iconst (v := 1) hx hb dX11_near_37 (by decide) ?_
      obtain ⟨q47, e48, h⟩ := bnd h
      refine call_i C hP hS (c_X11_of e48) mi_X11_of mw_1433 26 (by decide) rfl rfl ⟨Nat.le_of_ble_eq_true rfl, Nat.le_of_ble_eq_true rfl⟩ (As := [.int a1, .int 1]) rfl hl.1 rfl (lv_room (Nat.le_of_ble_eq_true rfl)) dX11_near_38 (fun H locs hP hS => ?_)
      refine lv_isub hx hb dX11_near_41 ?_
      refine lv_aload_n hx hb dX11_near_42 rfl (lv_at hl 0 rfl) ?_
      refine gf_X11_32_26 C hP dX11_near_43 ?_
      refine lv_iconst (v := 0) hx hb dX11_near_46 (by decide) ?_
      refine r_aldc C hP 34 (by decide) rfl (j := 0) (by decide) (vp_in_iff.mpr (by decide)) dX11_near_47 ?_
      refine lv_aload_n hx hb dX11_near_48 rfl (lv_at hl 0 rfl) ?_
      refine lv_iload_n hx hb dX11_near_49 rfl (lv_at hl 1 rfl) ?_
      refine lv_iconst (v := 2) hx hb dX11_near_50 (by decide) ?_
      obtain ⟨q49, e50, h⟩ := bnd h
      refine call_i C hP hS (c_X11_of e50) mi_X11_of mw_1433 26 (by decide) rfl rfl ⟨Nat.le_of_ble_eq_true rfl, Nat.le_of_ble_eq_true rfl⟩ (As := [.int a1, .int 2]) rfl hl.1 rfl (lv_room (Nat.le_of_ble_eq_true rfl)) dX11_near_51 (fun H locs hP hS => ?_)
      refine lv_isub hx hb dX11_near_54 ?_
      obtain ⟨q51, e52, h⟩ := bnd h
      refine scall_i C hP hS (c_X11_square e52) ms_X11_square mw_1524 ⟨Nat.le_of_ble_eq_true rfl, Nat.le_of_ble_eq_true rfl⟩ (As := [.int ((q45 33 0) - q47.1), .int ((q47.2 34 0) - q49.1)]) rfl hl.1 rfl (lv_room (Nat.le_of_ble_eq_true rfl)) dX11_near_55 (fun H locs hP hS => ?_)
      refine lv_istore_n (lv' := [(3, .int q51.1), (0, .ref (g_ad G 26)), (1, .int a1), (2, .int a2)]) hx hb dX11_near_58 rfl hl (by decide) rfl (fun ls hl => ?_)
      refine lv_iconst (v := 1) hx hb dX11_near_59 (by decide) ?_
      refine lv_istore (lv' := [(4, .int 1), (3, .int q51.1), (0, .ref (g_ad G 26)), (1, .int a1), (2, .int a2)]) hx hb dX11_near_60 hl (by decide) rfl (fun ls hl => ?_)
      exact L62 FU _ _ _ _ H locs ls h hP hS (lv_sub hl [2, 3, 1, 0] rfl)
    · replace h := h_t c44 h
      refine lv_ldc hx hb C.2.2.2.1 (C.2.2.2.2.1 _ mw_1323) dX11_near_15 ?_
      exact ret_i C hr hlocks hP hS h dX11_near_17
set_option maxHeartbeats 4000000 in
set_option maxRecDepth 100000 in
theorem c_X11_goneBy {l : Launch} {G : GT} {lam : Lm} {σ : St} {q : Int32 × St} (h : f_X11_goneBy σ = some q) : Met l yX11_goneBy (Cond.code yX11_goneBy cX11_goneBy 5 ((some .int)) :: TB) ({ frames := 3, cells := 0, slots := 0, locals := 67 } : Room) (va_Pc [.ref (g_ad G 26)] (GW G lam σ)) (Ri q G lam) 0 0 (g_A G) := by
  refine mk_Qi (own := RX11) (by decide) (Nat.le_of_ble_eq_true rfl) rfl (fun p e s m args below meth c C hr hlocks hP ls hl => ?_)
  have hx := C.1
  have hb := C.2.1
  have hl : lv_has ls 5 [(0, .ref (g_ad G 26))] := hl
  have L4 : ∀ (n4 : Nat) (σ : St) (x1 : Int32) (x2 : Int32) (H : Heap) (locs : List Loc) (ls : Array Slot), fx (F_X11_goneBy_h4) z_X11_goneBy_h4 n4 σ x1 x2 = some q → va_P (g_D G) vwCl (allW G lam σ) H → va_S (g_A G) s.heap H locs → lv_has ls 5 [(0, .ref (g_ad G 26)), (1, .int x1), (2, .int x2)] → W p l e ({ frames := 3, cells := 0, slots := 0, locals := 67 } : Room) s m args below meth c H locs 0 0 (Qi q below args s G lam) (F0 m 4 ls []) := by
    intro n4
    induction n4 with
    | zero => intro σ x1 x2 H locs ls h hP hS hl; exact absurd h (by intro h9; cases h9)
    | succ n4 ih4 =>
      have J108 : ∀ (σ : St) (x2 : Int32) (t0 : Int32) (t1 : Int32) (H : Heap) (locs : List Loc) (ls : Array Slot), f_X11_goneBy_p108 (fx (F_X11_goneBy_h4) z_X11_goneBy_h4 n4) σ x2 t0 t1 = some q → va_P (g_D G) vwCl (allW G lam σ) H → va_S (g_A G) s.heap H locs → lv_has ls 5 [(0, .ref (g_ad G 26)), (2, .int x2)] → W p l e ({ frames := 3, cells := 0, slots := 0, locals := 67 } : Room) s m args below meth c H locs 0 0 (Qi q below args s G lam) (F0 m 108 ls [.int t0, .int t1]) := by
        intro σ x2 t0 t1 H locs ls h hP hS hl
        unfold f_X11_goneBy_p108 at h
        refine lv_ior hx hb dX11_goneBy_108 ?_
        obtain ⟨y25, e26, h⟩ := bnd h
        refine r_nm e26 ?_
        refine lv_istore_n (lv' := [(1, .int y25), (0, .ref (g_ad G 26)), (2, .int x2)]) hx hb dX11_goneBy_109 rfl hl (by decide) rfl (fun ls hl => ?_)
        obtain ⟨y27, e28, h⟩ := bnd h
        refine lv_iinc (v := y27) (lv' := [(2, .int y27), (1, .int y25), (0, .ref (g_ad G 26))]) hx hb dX11_goneBy_110 hl (k := 2) rfl (Option.some.inj e28) (by decide) rfl (fun ls hl => ?_)
        refine lv_goto (tgt := 4) hx hb dX11_goneBy_113 (by decide) ?_
        exact ih4 _ _ _ H locs ls h hP hS (lv_sub hl [2, 1, 0] rfl)
      have J107 : ∀ (σ : St) (x2 : Int32) (t0 : Int32) (H : Heap) (locs : List Loc) (ls : Array Slot), f_X11_goneBy_p107 (fx (F_X11_goneBy_h4) z_X11_goneBy_h4 n4) σ x2 t0 = some q → va_P (g_D G) vwCl (allW G lam σ) H → va_S (g_A G) s.heap H locs → lv_has ls 5 [(0, .ref (g_ad G 26)), (2, .int x2)] → W p l e ({ frames := 3, cells := 0, slots := 0, locals := 67 } : Room) s m args below meth c H locs 0 0 (Qi q below args s G lam) (F0 m 107 ls [.int t0]) := by
        intro σ x2 t0 H locs ls h hP hS hl
        unfold f_X11_goneBy_p107 at h
        refine lv_iconst (v := 0) hx hb dX11_goneBy_107 (by decide) ?_
        exact J108 _ _ _ _ H locs ls h hP hS (lv_sub hl [0, 1] rfl)
      have J75 : ∀ (σ : St) (x2 : Int32) (x3 : Int32) (t0 : Int32) (t1 : Int32) (H : Heap) (locs : List Loc) (ls : Array Slot), f_X11_goneBy_p75 (fx (F_X11_goneBy_h4) z_X11_goneBy_h4 n4) σ x2 x3 t0 t1 = some q → va_P (g_D G) vwCl (allW G lam σ) H → va_S (g_A G) s.heap H locs → lv_has ls 5 [(0, .ref (g_ad G 26)), (2, .int x2), (3, .int x3)] → W p l e ({ frames := 3, cells := 0, slots := 0, locals := 67 } : Room) s m args below meth c H locs 0 0 (Qi q below args s G lam) (F0 m 75 ls [.int t0, .int t1]) := by
        intro σ x2 x3 t0 t1 H locs ls h hP hS hl
        unfold f_X11_goneBy_p75 at h
        refine lv_ior hx hb dX11_goneBy_75 ?_
        obtain ⟨y29, e30, h⟩ := bnd h
        refine r_nm e30 ?_
        refine lv_istore_n (lv' := [(1, .int y29), (0, .ref (g_ad G 26)), (2, .int x2), (3, .int x3)]) hx hb dX11_goneBy_76 rfl hl (by decide) rfl (fun ls hl => ?_)
        refine lv_iload_n hx hb dX11_goneBy_77 rfl (lv_at hl 0 rfl) ?_
        refine lv_iload_n hx hb dX11_goneBy_78 rfl (lv_at hl 3 rfl) ?_
        refine lv_iconst (v := 2) hx hb dX11_goneBy_79 (by decide) ?_
        refine lv_icmp_ne (tgt := 107) hx hb dX11_goneBy_80 (by decide) (fun c31 => ?_) (fun c31 => ?_)
        · replace h := h_f c31 h
          exact J107 _ _ _ H locs ls h hP hS (lv_sub hl [1, 2] rfl)
        · replace h := h_t c31 h
          refine lv_aload_n hx hb dX11_goneBy_83 rfl (lv_at hl 1 rfl) ?_
          refine lv_aload_n hx hb dX11_goneBy_84 rfl (lv_at hl 1 rfl) ?_
          refine lv_iload_n hx hb dX11_goneBy_85 rfl (lv_at hl 2 rfl) ?_
          refine lv_iconst (v := 3) hx hb dX11_goneBy_86 (by decide) ?_
          obtain ⟨q32, e33, h⟩ := bnd h
          refine call_i C hP hS (c_X11_legOf e33) mi_X11_legOf mw_1606 26 (by decide) rfl rfl ⟨Nat.le_of_ble_eq_true rfl, Nat.le_of_ble_eq_true rfl⟩ (As := [.int x2, .int 3]) rfl hl.1 rfl (lv_room (Nat.le_of_ble_eq_true rfl)) dX11_goneBy_87 (fun H locs hP hS => ?_)
          obtain ⟨q34, e35, h⟩ := bnd h
          refine call_i C hP hS (c_X11_isMark e35) mi_X11_isMark mw_1535 26 (by decide) rfl rfl ⟨Nat.le_of_ble_eq_true rfl, Nat.le_of_ble_eq_true rfl⟩ (As := [.int q32.1]) rfl hl.1 rfl (lv_room (Nat.le_of_ble_eq_true rfl)) dX11_goneBy_90 (fun H locs hP hS => ?_)
          refine lv_if_eq (tgt := 107) hx hb dX11_goneBy_93 (by decide) (fun c36 => ?_) (fun c36 => ?_)
          · replace h := h_t c36 h
            exact J107 _ _ _ H locs ls h hP hS (lv_sub hl [1, 2] rfl)
          · replace h := h_f c36 h
            refine lv_iconst (v := 1) hx hb dX11_goneBy_96 (by decide) ?_
            refine lv_aload_n hx hb dX11_goneBy_97 rfl (lv_at hl 1 rfl) ?_
            refine lv_iload_n hx hb dX11_goneBy_98 rfl (lv_at hl 2 rfl) ?_
            refine lv_iconst (v := 3) hx hb dX11_goneBy_99 (by decide) ?_
            obtain ⟨q37, e38, h⟩ := bnd h
            refine call_i C hP hS (c_X11_legOf e38) mi_X11_legOf mw_1606 26 (by decide) rfl rfl ⟨Nat.le_of_ble_eq_true rfl, Nat.le_of_ble_eq_true rfl⟩ (As := [.int x2, .int 3]) rfl hl.1 rfl (lv_room (Nat.le_of_ble_eq_true rfl)) dX11_goneBy_100 (fun H locs hP hS => ?_)
            refine lv_ishl hx hb dX11_goneBy_103 ?_
            refine lv_goto (tgt := 108) hx hb dX11_goneBy_104 (by decide) ?_
            exact J108 _ _ _ _ H locs ls h hP hS (lv_sub hl [1, 2] rfl)
      have J74 : ∀ (σ : St) (x2 : Int32) (x3 : Int32) (t0 : Int32) (H : Heap) (locs : List Loc) (ls : Array Slot), f_X11_goneBy_p74 (fx (F_X11_goneBy_h4) z_X11_goneBy_h4 n4) σ x2 x3 t0 = some q → va_P (g_D G) vwCl (allW G lam σ) H → va_S (g_A G) s.heap H locs → lv_has ls 5 [(0, .ref (g_ad G 26)), (2, .int x2), (3, .int x3)] → W p l e ({ frames := 3, cells := 0, slots := 0, locals := 67 } : Room) s m args below meth c H locs 0 0 (Qi q below args s G lam) (F0 m 74 ls [.int t0]) := by
        intro σ x2 x3 t0 H locs ls h hP hS hl
        unfold f_X11_goneBy_p74 at h
        refine lv_iconst (v := 0) hx hb dX11_goneBy_74 (by decide) ?_
        exact J75 _ _ _ _ _ H locs ls h hP hS (lv_sub hl [0, 1, 2] rfl)
      have J42 : ∀ (σ : St) (x1 : Int32) (x2 : Int32) (x3 : Int32) (t0 : Int32) (H : Heap) (locs : List Loc) (ls : Array Slot), f_X11_goneBy_p42 (fx (F_X11_goneBy_h4) z_X11_goneBy_h4 n4) σ x1 x2 x3 t0 = some q → va_P (g_D G) vwCl (allW G lam σ) H → va_S (g_A G) s.heap H locs → lv_has ls 5 [(0, .ref (g_ad G 26)), (1, .int x1), (2, .int x2), (3, .int x3)] → W p l e ({ frames := 3, cells := 0, slots := 0, locals := 67 } : Room) s m args below meth c H locs 0 0 (Qi q below args s G lam) (F0 m 42 ls [.int t0]) := by
        intro σ x1 x2 x3 t0 H locs ls h hP hS hl
        unfold f_X11_goneBy_p42 at h
        refine lv_istore (lv' := [(4, .int t0), (0, .ref (g_ad G 26)), (1, .int x1), (2, .int x2), (3, .int x3)]) hx hb dX11_goneBy_42 hl (by decide) rfl (fun ls hl => ?_)
        refine lv_iload_n hx hb dX11_goneBy_44 rfl (lv_at hl 2 rfl) ?_
        refine lv_iload hx hb dX11_goneBy_45 (lv_at hl 0 rfl) ?_
        refine lv_if_eq (tgt := 74) hx hb dX11_goneBy_47 (by decide) (fun c39 => ?_) (fun c39 => ?_)
        · replace h := h_t c39 h
          exact J74 _ _ _ _ H locs ls h hP hS (lv_sub hl [1, 3, 4] rfl)
        · replace h := h_f c39 h
          refine lv_aload_n hx hb dX11_goneBy_50 rfl (lv_at hl 1 rfl) ?_
          refine lv_aload_n hx hb dX11_goneBy_51 rfl (lv_at hl 1 rfl) ?_
          refine lv_iload_n hx hb dX11_goneBy_52 rfl (lv_at hl 3 rfl) ?_
          refine lv_iconst (v := 2) hx hb dX11_goneBy_53 (by decide) ?_
          obtain ⟨q40, e41, h⟩ := bnd h
          refine call_i C hP hS (c_X11_legOf e41) mi_X11_legOf mw_1606 26 (by decide) rfl rfl ⟨Nat.le_of_ble_eq_true rfl, Nat.le_of_ble_eq_true rfl⟩ (As := [.int x2, .int 2]) rfl hl.1 rfl (lv_room (Nat.le_of_ble_eq_true rfl)) dX11_goneBy_54 (fun H locs hP hS => ?_)
          obtain ⟨q42, e43, h⟩ := bnd h
          refine call_i C hP hS (c_X11_isMark e43) mi_X11_isMark mw_1535 26 (by decide) rfl rfl ⟨Nat.le_of_ble_eq_true rfl, Nat.le_of_ble_eq_true rfl⟩ (As := [.int q40.1]) rfl hl.1 rfl (lv_room (Nat.le_of_ble_eq_true rfl)) dX11_goneBy_57 (fun H locs hP hS => ?_)
          refine lv_if_eq (tgt := 74) hx hb dX11_goneBy_60 (by decide) (fun c44 => ?_) (fun c44 => ?_)
          · replace h := h_t c44 h
            exact J74 _ _ _ _ H locs ls h hP hS (lv_sub hl [1, 3, 4] rfl)
          · replace h := h_f c44 h
            refine lv_iconst (v := 1) hx hb dX11_goneBy_63 (by decide) ?_
            refine lv_aload_n hx hb dX11_goneBy_64 rfl (lv_at hl 1 rfl) ?_
            refine lv_iload_n hx hb dX11_goneBy_65 rfl (lv_at hl 3 rfl) ?_
            refine lv_iconst (v := 2) hx hb dX11_goneBy_66 (by decide) ?_
            obtain ⟨q45, e46, h⟩ := bnd h
            refine call_i C hP hS (c_X11_legOf e46) mi_X11_legOf mw_1606 26 (by decide) rfl rfl ⟨Nat.le_of_ble_eq_true rfl, Nat.le_of_ble_eq_true rfl⟩ (As := [.int x2, .int 2]) rfl hl.1 rfl (lv_room (Nat.le_of_ble_eq_true rfl)) dX11_goneBy_67 (fun H locs hP hS => ?_)
            refine lv_ishl hx hb dX11_goneBy_70 ?_
            refine lv_goto (tgt := 75) hx hb dX11_goneBy_71 (by decide) ?_
            exact J75 _ _ _ _ _ H locs ls h hP hS (lv_sub hl [1, 3, 4] rfl)
      have J37 : ∀ (σ : St) (x1 : Int32) (x2 : Int32) (x3 : Int32) (H : Heap) (locs : List Loc) (ls : Array Slot), f_X11_goneBy_p37 (fx (F_X11_goneBy_h4) z_X11_goneBy_h4 n4) σ x1 x2 x3 = some q → va_P (g_D G) vwCl (allW G lam σ) H → va_S (g_A G) s.heap H locs → lv_has ls 5 [(0, .ref (g_ad G 26)), (1, .int x1), (2, .int x2), (3, .int x3)] → W p l e ({ frames := 3, cells := 0, slots := 0, locals := 67 } : Room) s m args below meth c H locs 0 0 (Qi q below args s G lam) (F0 m 37 ls []) := by
        intro σ x1 x2 x3 H locs ls h hP hS hl
        unfold f_X11_goneBy_p37 at h
        refine lv_iconst (v := 1) hx hb dX11_goneBy_37 (by decide) ?_
        refine lv_goto (tgt := 42) hx hb dX11_goneBy_38 (by decide) ?_
        exact J42 _ _ _ _ _ H locs ls h hP hS (lv_sub hl [0, 1, 2, 3] rfl)
      intro σ x1 x2 H locs ls h hP hS hl
      change F_X11_goneBy_h4 (fx (F_X11_goneBy_h4) z_X11_goneBy_h4 n4) σ x1 x2 = some q at h
      unfold F_X11_goneBy_h4 at h
      refine lv_iload_n hx hb dX11_goneBy_4 rfl (lv_at hl 2 rfl) ?_
      refine lv_aload_n hx hb dX11_goneBy_5 rfl (lv_at hl 0 rfl) ?_
      refine gf_X11_7_26 C hP dX11_goneBy_6 ?_
      refine lv_bipush (v := 54) hx hb dX11_goneBy_9 (by decide) ?_
      refine r_aldc C hP 27 (by decide) rfl (j := 54) (by decide) (vp_in_iff.mpr (by decide)) dX11_goneBy_11 ?_
      refine lv_icmp_ge (tgt := 116) hx hb dX11_goneBy_12 (by decide) (fun c47 => ?_) (fun c47 => ?_)
      · replace h := h_t c47 h
        refine lv_iload_n hx hb dX11_goneBy_116 rfl (lv_at hl 1 rfl) ?_
        exact ret_i C hr hlocks hP hS h dX11_goneBy_117
      · replace h := h_f c47 h
        refine lv_aload_n hx hb dX11_goneBy_15 rfl (lv_at hl 0 rfl) ?_
        refine lv_iload_n hx hb dX11_goneBy_16 rfl (lv_at hl 2 rfl) ?_
        refine lv_iconst (v := 1) hx hb dX11_goneBy_17 (by decide) ?_
        obtain ⟨q48, e49, h⟩ := bnd h
        refine call_i C hP hS (c_X11_legOf e49) mi_X11_legOf mw_1606 26 (by decide) rfl rfl ⟨Nat.le_of_ble_eq_true rfl, Nat.le_of_ble_eq_true rfl⟩ (As := [.int x2, .int 1]) rfl hl.1 rfl (lv_room (Nat.le_of_ble_eq_true rfl)) dX11_goneBy_18 (fun H locs hP hS => ?_)
        refine lv_istore_n (lv' := [(3, .int q48.1), (0, .ref (g_ad G 26)), (1, .int x1), (2, .int x2)]) hx hb dX11_goneBy_21 rfl hl (by decide) rfl (fun ls hl => ?_)
        refine lv_iload_n hx hb dX11_goneBy_22 rfl (lv_at hl 0 rfl) ?_
        refine lv_iconst (v := 1) hx hb dX11_goneBy_23 (by decide) ?_
        refine lv_icmp_eq (tgt := 37) hx hb dX11_goneBy_24 (by decide) (fun c50 => ?_) (fun c50 => ?_)
        · replace h := h_t c50 h
          exact J37 _ _ _ _ H locs ls h hP hS (lv_sub hl [1, 2, 3, 0] rfl)
        · replace h := h_f c50 h
          refine lv_iload_n hx hb dX11_goneBy_27 rfl (lv_at hl 0 rfl) ?_
          refine lv_iconst (v := 2) hx hb dX11_goneBy_28 (by decide) ?_
          refine lv_icmp_eq (tgt := 37) hx hb dX11_goneBy_29 (by decide) (fun c51 => ?_) (fun c51 => ?_)
          · replace h := h_t c51 h
            exact J37 _ _ _ _ H locs ls h hP hS (lv_sub hl [1, 2, 3, 0] rfl)
          · replace h := h_f c51 h
            refine lv_iload_n hx hb dX11_goneBy_32 rfl (lv_at hl 0 rfl) ?_
            refine lv_iconst (v := 3) hx hb dX11_goneBy_33 (by decide) ?_
            refine lv_icmp_ne (tgt := 41) hx hb dX11_goneBy_34 (by decide) (fun c52 => ?_) (fun c52 => ?_)
            · replace h := h_f c52 h
              refine lv_iconst (v := 0) hx hb dX11_goneBy_41 (by decide) ?_
              exact J42 _ _ _ _ _ H locs ls h hP hS (lv_sub hl [1, 2, 3, 0] rfl)
            · replace h := h_t c52 h
              exact J37 _ _ _ _ H locs ls h hP hS (lv_sub hl [1, 2, 3, 0] rfl)
  have hS : va_S (g_A G) s.heap s.heap [] := va_S.rf
  unfold f_X11_goneBy at h
  obtain ⟨H, hH⟩ : ∃ H, H = s.heap := ⟨_, rfl⟩
  obtain ⟨locs, hlo⟩ : ∃ k : List Loc, k = [] := ⟨_, rfl⟩
  rw [← hH, ← hlo]
  rw [← hH] at hP
  replace hS : va_S (g_A G) s.heap H locs := by rw [hH, hlo]; exact hS
  refine lv_iconst (v := 0) hx hb dX11_goneBy_0 (by decide) ?_
  refine lv_istore_n (lv' := [(1, .int 0), (0, .ref (g_ad G 26))]) hx hb dX11_goneBy_1 rfl hl (by decide) rfl (fun ls hl => ?_)
  refine lv_iconst (v := 0) hx hb dX11_goneBy_2 (by decide) ?_
  refine lv_istore_n (lv' := [(2, .int 0), (1, .int 0), (0, .ref (g_ad G 26))]) hx hb dX11_goneBy_3 rfl hl (by decide) rfl (fun ls hl => ?_)
  exact L4 FU _ _ _ H locs ls h hP hS (lv_sub hl [2, 1, 0] rfl)
set_option maxHeartbeats 4000000 in
set_option maxRecDepth 100000 in
theorem c_X11_ways {l : Launch} {G : GT} {lam : Lm} {σ : St} {a1 : Int32} {a2 : Int32} {a3 : Int32} {q : Int64 × St} (h : f_X11_ways σ a1 a2 a3 = some q) : Met l yX11_ways (Cond.code yX11_ways cX11_ways 11 ((some .long)) :: TB) ({ frames := 8, cells := 0, slots := 0, locals := 204 } : Room) (va_Pc [.ref (g_ad G 26), .int a1, .int a2, .int a3] (GW G lam σ)) (Rl q G lam) 0 0 (g_A G) := by
  refine mk_Ql (own := RX11) (by decide) (Nat.le_of_ble_eq_true rfl) rfl (fun p e s m args below meth c C hr hlocks hP ls hl => ?_)
  have hx := C.1
  have hb := C.2.1
  have hl : lv_has ls 11 [(0, .ref (g_ad G 26)), (1, .int a1), (2, .int a2), (3, .int a3)] := hl
  have L9 : ∀ (n9 : Nat) (σ : St) (x1 : Int32) (x2 : Int32) (x3 : Int32) (x4 : Int64) (x6 : Int32) (x7 : Int32) (H : Heap) (locs : List Loc) (ls : Array Slot), fx (F_X11_ways_h9) z_X11_ways_h9 n9 σ x1 x2 x3 x4 x6 x7 = some q → va_P (g_D G) vwCl (allW G lam σ) H → va_S (g_A G) s.heap H locs → lv_has ls 11 [(0, .ref (g_ad G 26)), (1, .int x1), (2, .int x2), (3, .int x3), (4, .long (x4)), (6, .int x6), (7, .int x7)] → W p l e ({ frames := 8, cells := 0, slots := 0, locals := 204 } : Room) s m args below meth c H locs 0 0 (Ql q below args s G lam) (F0 m 9 ls []) := by
    intro n9
    induction n9 with
    | zero => intro σ x1 x2 x3 x4 x6 x7 H locs ls h hP hS hl; exact absurd h (by intro h9; cases h9)
    | succ n9 ih9 =>
      have J121 : ∀ (σ : St) (x1 : Int32) (x2 : Int32) (x3 : Int32) (x4 : Int64) (x6 : Int32) (t0 : Int32) (H : Heap) (locs : List Loc) (ls : Array Slot), f_X11_ways_p121 (fx (F_X11_ways_h9) z_X11_ways_h9 n9) σ x1 x2 x3 x4 x6 t0 = some q → va_P (g_D G) vwCl (allW G lam σ) H → va_S (g_A G) s.heap H locs → lv_has ls 11 [(0, .ref (g_ad G 26)), (1, .int x1), (2, .int x2), (3, .int x3), (4, .long (x4)), (6, .int x6)] → W p l e ({ frames := 8, cells := 0, slots := 0, locals := 204 } : Room) s m args below meth c H locs 0 0 (Ql q below args s G lam) (F0 m 121 ls [.int t0]) := by
        intro σ x1 x2 x3 x4 x6 t0 H locs ls h hP hS hl
        unfold f_X11_ways_p121 at h
        refine lv_istore (lv' := [(7, .int t0), (0, .ref (g_ad G 26)), (1, .int x1), (2, .int x2), (3, .int x3), (4, .long (x4)), (6, .int x6)]) hx hb dX11_ways_121 hl (by decide) rfl (fun ls hl => ?_)
        refine lv_goto (tgt := 9) hx hb dX11_ways_123 (by decide) ?_
        exact ih9 _ _ _ _ _ _ _ H locs ls h hP hS (lv_sub hl [1, 2, 3, 4, 5, 6, 0] rfl)
      have L44 : ∀ (n44 : Nat) (σ : St) (x1 : Int32) (x2 : Int32) (x3 : Int32) (x4 : Int64) (x6 : Int32) (x8 : Int64) (x10 : Int32) (H : Heap) (locs : List Loc) (ls : Array Slot), fx (F_X11_ways_h44 (fx (F_X11_ways_h9) z_X11_ways_h9 n9)) z_X11_ways_h44 n44 σ x1 x2 x3 x4 x6 x8 x10 = some q → va_P (g_D G) vwCl (allW G lam σ) H → va_S (g_A G) s.heap H locs → lv_has ls 11 [(0, .ref (g_ad G 26)), (1, .int x1), (2, .int x2), (3, .int x3), (4, .long (x4)), (6, .int x6), (8, .long (x8)), (10, .int x10)] → W p l e ({ frames := 8, cells := 0, slots := 0, locals := 204 } : Room) s m args below meth c H locs 0 0 (Ql q below args s G lam) (F0 m 44 ls []) := by
        intro n44
        induction n44 with
        | zero => intro σ x1 x2 x3 x4 x6 x8 x10 H locs ls h hP hS hl; exact absurd h (by intro h9; cases h9)
        | succ n44 ih44 =>
          have J87 : ∀ (σ : St) (x1 : Int32) (x2 : Int32) (x3 : Int32) (x4 : Int64) (x6 : Int32) (x10 : Int32) (t0 : Int64) (t1 : Int64) (H : Heap) (locs : List Loc) (ls : Array Slot), f_X11_ways_p87 (fx (F_X11_ways_h9) z_X11_ways_h9 n9) (fx (F_X11_ways_h44 (fx (F_X11_ways_h9) z_X11_ways_h9 n9)) z_X11_ways_h44 n44) σ x1 x2 x3 x4 x6 x10 t0 t1 = some q → va_P (g_D G) vwCl (allW G lam σ) H → va_S (g_A G) s.heap H locs → lv_has ls 11 [(0, .ref (g_ad G 26)), (1, .int x1), (2, .int x2), (3, .int x3), (4, .long (x4)), (6, .int x6), (10, .int x10)] → W p l e ({ frames := 8, cells := 0, slots := 0, locals := 204 } : Room) s m args below meth c H locs 0 0 (Ql q below args s G lam) (F0 m 87 ls [.long (t0), .long (t1)]) := by
            intro σ x1 x2 x3 x4 x6 x10 t0 t1 H locs ls h hP hS hl
            unfold f_X11_ways_p87 at h
            refine lv_lmul hx hb dX11_ways_87 ?_
            obtain ⟨y19, e20, h⟩ := bnd h
            refine r_nml e20 ?_
            refine lv_lstore (lv' := [(8, .long (y19)), (0, .ref (g_ad G 26)), (1, .int x1), (2, .int x2), (3, .int x3), (4, .long (x4)), (6, .int x6), (10, .int x10)]) hx hb dX11_ways_88 hl (by decide) rfl (fun ls hl => ?_)
            obtain ⟨y21, e22, h⟩ := bnd h
            refine lv_iinc (v := y21) (lv' := [(10, .int y21), (8, .long (y19)), (0, .ref (g_ad G 26)), (1, .int x1), (2, .int x2), (3, .int x3), (4, .long (x4)), (6, .int x6)]) hx hb dX11_ways_90 hl (k := 7) rfl (Option.some.inj e22) (by decide) rfl (fun ls hl => ?_)
            refine lv_goto (tgt := 44) hx hb dX11_ways_93 (by decide) ?_
            exact ih44 _ _ _ _ _ _ _ _ H locs ls h hP hS (lv_sub hl [2, 3, 4, 5, 6, 7, 1, 0] rfl)
          intro σ x1 x2 x3 x4 x6 x8 x10 H locs ls h hP hS hl
          change F_X11_ways_h44 (fx (F_X11_ways_h9) z_X11_ways_h9 n9) (fx (F_X11_ways_h44 (fx (F_X11_ways_h9) z_X11_ways_h9 n9)) z_X11_ways_h44 n44) σ x1 x2 x3 x4 x6 x8 x10 = some q at h
          unfold F_X11_ways_h44 at h
          refine lv_iload hx hb dX11_ways_44 (lv_at hl 7 rfl) ?_
          refine lv_bipush (v := 8) hx hb dX11_ways_46 (by decide) ?_
          refine lv_icmp_ge (tgt := 96) hx hb dX11_ways_48 (by decide) (fun c23 => ?_) (fun c23 => ?_)
          · replace h := h_t c23 h
            refine lv_lload hx hb dX11_ways_96 (lv_at hl 4 rfl) ?_
            refine lv_lload hx hb dX11_ways_98 (lv_at hl 6 rfl) ?_
            refine lv_ladd hx hb dX11_ways_100 ?_
            obtain ⟨y24, e25, h⟩ := bnd h
            refine r_nml e25 ?_
            refine lv_lstore (lv' := [(4, .long (y24)), (0, .ref (g_ad G 26)), (1, .int x1), (2, .int x2), (3, .int x3), (6, .int x6), (8, .long (x8)), (10, .int x10)]) hx hb dX11_ways_101 hl (by decide) rfl (fun ls hl => ?_)
            refine lv_iload hx hb dX11_ways_103 (lv_at hl 5 rfl) ?_
            refine lv_iload_n hx hb dX11_ways_105 rfl (lv_at hl 4 rfl) ?_
            refine lv_isub hx hb dX11_ways_106 ?_
            refine lv_iload_n hx hb dX11_ways_107 rfl (lv_at hl 4 rfl) ?_
            refine lv_iand hx hb dX11_ways_108 ?_
            obtain ⟨y26, e27, h⟩ := bnd h
            refine r_nm e27 ?_
            refine lv_istore (lv' := [(6, .int y26), (4, .long (y24)), (0, .ref (g_ad G 26)), (1, .int x1), (2, .int x2), (3, .int x3), (8, .long (x8)), (10, .int x10)]) hx hb dX11_ways_109 hl (by decide) rfl (fun ls hl => ?_)
            refine lv_iload hx hb dX11_ways_111 (lv_at hl 0 rfl) ?_
            refine lv_if_eq (tgt := 120) hx hb dX11_ways_113 (by decide) (fun c28 => ?_) (fun c28 => ?_)
            · replace h := h_t c28 h
              refine lv_iconst (v := 0) hx hb dX11_ways_120 (by decide) ?_
              exact J121 _ _ _ _ _ _ _ H locs ls h hP hS (lv_sub hl [2, 3, 4, 5, 1, 0] rfl)
            · replace h := h_f c28 h
              refine lv_iconst (v := 1) hx hb dX11_ways_116 (by decide) ?_
              refine lv_goto (tgt := 121) hx hb dX11_ways_117 (by decide) ?_
              exact J121 _ _ _ _ _ _ _ H locs ls h hP hS (lv_sub hl [2, 3, 4, 5, 1, 0] rfl)
          · replace h := h_f c23 h
            refine lv_lload hx hb dX11_ways_51 (lv_at hl 6 rfl) ?_
            refine lv_iload_n hx hb dX11_ways_53 rfl (lv_at hl 3 rfl) ?_
            refine lv_iload hx hb dX11_ways_54 (lv_at hl 7 rfl) ?_
            obtain ⟨q29, e30, h⟩ := bnd h
            refine scall_i C hP hS (c_X11_has e30) ms_X11_has mw_1551 ⟨Nat.le_of_ble_eq_true rfl, Nat.le_of_ble_eq_true rfl⟩ (As := [.int x3, .int x10]) rfl hl.1 rfl (lv_room (Nat.le_of_ble_eq_true rfl)) dX11_ways_56 (fun H locs hP hS => ?_)
            refine lv_if_ne (tgt := 66) hx hb dX11_ways_59 (by decide) (fun c31 => ?_) (fun c31 => ?_)
            · replace h := h_f c31 h
              refine lv_iload hx hb dX11_ways_66 (lv_at hl 5 rfl) ?_
              refine lv_iload hx hb dX11_ways_68 (lv_at hl 7 rfl) ?_
              obtain ⟨q32, e33, h⟩ := bnd h
              refine scall_i C hP hS (c_X11_has e33) ms_X11_has mw_1551 ⟨Nat.le_of_ble_eq_true rfl, Nat.le_of_ble_eq_true rfl⟩ (As := [.int x6, .int x10]) rfl hl.1 rfl (lv_room (Nat.le_of_ble_eq_true rfl)) dX11_ways_70 (fun H locs hP hS => ?_)
              refine lv_if_eq (tgt := 81) hx hb dX11_ways_73 (by decide) (fun c34 => ?_) (fun c34 => ?_)
              · replace h := h_t c34 h
                refine lv_ldc2 hx hb C.2.2.2.1 (C.2.2.2.2.1 _ mw_1687) dX11_ways_81 ?_
                refine lv_iload_n hx hb dX11_ways_84 rfl (lv_at hl 2 rfl) ?_
                refine lv_i2l hx hb dX11_ways_85 rfl ?_
                refine lv_lsub hx hb dX11_ways_86 ?_
                exact J87 _ _ _ _ _ _ _ _ _ H locs ls h hP hS (lv_sub hl [0, 1, 2, 3, 4, 5, 7] rfl)
              · replace h := h_f c34 h
                refine lv_iload_n hx hb dX11_ways_76 rfl (lv_at hl 2 rfl) ?_
                refine lv_i2l hx hb dX11_ways_77 rfl ?_
                refine lv_goto (tgt := 87) hx hb dX11_ways_78 (by decide) ?_
                exact J87 _ _ _ _ _ _ _ _ _ H locs ls h hP hS (lv_sub hl [0, 1, 2, 3, 4, 5, 7] rfl)
            · replace h := h_t c31 h
              refine lv_lconst (v := 1) hx hb dX11_ways_62 (by decide) ?_
              refine lv_goto (tgt := 87) hx hb dX11_ways_63 (by decide) ?_
              exact J87 _ _ _ _ _ _ _ _ _ H locs ls h hP hS (lv_sub hl [0, 1, 2, 3, 4, 5, 7] rfl)
      have J39 : ∀ (σ : St) (x1 : Int32) (x2 : Int32) (x3 : Int32) (x4 : Int64) (x6 : Int32) (t0 : Int64) (H : Heap) (locs : List Loc) (ls : Array Slot), f_X11_ways_p39 (fx (F_X11_ways_h9) z_X11_ways_h9 n9) σ x1 x2 x3 x4 x6 t0 = some q → va_P (g_D G) vwCl (allW G lam σ) H → va_S (g_A G) s.heap H locs → lv_has ls 11 [(0, .ref (g_ad G 26)), (1, .int x1), (2, .int x2), (3, .int x3), (4, .long (x4)), (6, .int x6)] → W p l e ({ frames := 8, cells := 0, slots := 0, locals := 204 } : Room) s m args below meth c H locs 0 0 (Ql q below args s G lam) (F0 m 39 ls [.long (t0)]) := by
        intro σ x1 x2 x3 x4 x6 t0 H locs ls h hP hS hl
        unfold f_X11_ways_p39 at h
        refine lv_lstore (lv' := [(8, .long (t0)), (0, .ref (g_ad G 26)), (1, .int x1), (2, .int x2), (3, .int x3), (4, .long (x4)), (6, .int x6)]) hx hb dX11_ways_39 hl (by decide) rfl (fun ls hl => ?_)
        refine lv_iconst (v := 0) hx hb dX11_ways_41 (by decide) ?_
        refine lv_istore (lv' := [(10, .int 0), (8, .long (t0)), (0, .ref (g_ad G 26)), (1, .int x1), (2, .int x2), (3, .int x3), (4, .long (x4)), (6, .int x6)]) hx hb dX11_ways_42 hl (by decide) rfl (fun ls hl => ?_)
        exact L44 FU _ _ _ _ _ _ _ _ H locs ls h hP hS (lv_sub hl [2, 3, 4, 5, 6, 7, 1, 0] rfl)
      intro σ x1 x2 x3 x4 x6 x7 H locs ls h hP hS hl
      change F_X11_ways_h9 (fx (F_X11_ways_h9) z_X11_ways_h9 n9) σ x1 x2 x3 x4 x6 x7 = some q at h
      unfold F_X11_ways_h9 at h
      refine lv_iload hx hb dX11_ways_9 (lv_at hl 6 rfl) ?_
      refine lv_if_eq (tgt := 126) hx hb dX11_ways_11 (by decide) (fun c35 => ?_) (fun c35 => ?_)
      · replace h := h_t c35 h
        refine lv_aload_n hx hb dX11_ways_126 rfl (lv_at hl 0 rfl) ?_
        refine lv_iconst (v := 0) hx hb dX11_ways_127 (by decide) ?_
        refine pf_X11_211_26 C hP hS dX11_ways_128 (fun H locs hP hS => ?_)
        obtain ⟨σ36, e37, h⟩ := bnd h
        have hP := hPn e37 hP
        refine lv_lload hx hb dX11_ways_131 (lv_at hl 4 rfl) ?_
        exact ret_l C hr hlocks hP hS h dX11_ways_133
      · replace h := h_f c35 h
        refine lv_aload_n hx hb dX11_ways_14 rfl (lv_at hl 0 rfl) ?_
        refine lv_iload hx hb dX11_ways_15 (lv_at hl 5 rfl) ?_
        refine pf_X11_211_26 C hP hS dX11_ways_17 (fun H locs hP hS => ?_)
        obtain ⟨σ38, e39, h⟩ := bnd h
        have hP := hPn e39 hP
        refine lv_aload_n hx hb dX11_ways_20 rfl (lv_at hl 0 rfl) ?_
        refine lv_iload_n hx hb dX11_ways_21 rfl (lv_at hl 1 rfl) ?_
        refine lv_aload_n hx hb dX11_ways_22 rfl (lv_at hl 0 rfl) ?_
        refine gf_X11_7_26 C hP dX11_ways_23 ?_
        refine lv_iconst (v := 1) hx hb dX11_ways_26 (by decide) ?_
        refine r_aldc C hP 27 (by decide) rfl (j := 1) (by decide) (vp_in_iff.mpr (by decide)) dX11_ways_27 ?_
        obtain ⟨q40, e41, h⟩ := bnd h
        refine call_i C hP hS (c_X11_arrivesFrom e41) mi_X11_arrivesFrom mw_1662 26 (by decide) rfl rfl ⟨Nat.le_of_ble_eq_true rfl, Nat.le_of_ble_eq_true rfl⟩ (As := [.int x1, .int (σ38 27 1)]) rfl hl.1 rfl (lv_room (Nat.le_of_ble_eq_true rfl)) dX11_ways_28 (fun H locs hP hS => ?_)
        refine lv_if_eq (tgt := 38) hx hb dX11_ways_31 (by decide) (fun c42 => ?_) (fun c42 => ?_)
        · replace h := h_t c42 h
          refine lv_lconst (v := 0) hx hb dX11_ways_38 (by decide) ?_
          exact J39 _ _ _ _ _ _ _ H locs ls h hP hS (lv_sub hl [0, 1, 2, 3, 4, 5] rfl)
        · replace h := h_f c42 h
          refine lv_lconst (v := 1) hx hb dX11_ways_34 (by decide) ?_
          refine lv_goto (tgt := 39) hx hb dX11_ways_35 (by decide) ?_
          exact J39 _ _ _ _ _ _ _ H locs ls h hP hS (lv_sub hl [0, 1, 2, 3, 4, 5] rfl)
  have hS : va_S (g_A G) s.heap s.heap [] := va_S.rf
  unfold f_X11_ways at h
  obtain ⟨H, hH⟩ : ∃ H, H = s.heap := ⟨_, rfl⟩
  obtain ⟨locs, hlo⟩ : ∃ k : List Loc, k = [] := ⟨_, rfl⟩
  rw [← hH, ← hlo]
  rw [← hH] at hP
  replace hS : va_S (g_A G) s.heap H locs := by rw [hH, hlo]; exact hS
  refine lv_lconst (v := 0) hx hb dX11_ways_0 (by decide) ?_
  refine lv_lstore (lv' := [(4, .long (0)), (0, .ref (g_ad G 26)), (1, .int a1), (2, .int a2), (3, .int a3)]) hx hb dX11_ways_1 hl (by decide) rfl (fun ls hl => ?_)
  refine lv_iconst (v := 0) hx hb dX11_ways_3 (by decide) ?_
  refine lv_istore (lv' := [(6, .int 0), (4, .long (0)), (0, .ref (g_ad G 26)), (1, .int a1), (2, .int a2), (3, .int a3)]) hx hb dX11_ways_4 hl (by decide) rfl (fun ls hl => ?_)
  refine lv_iconst (v := 1) hx hb dX11_ways_6 (by decide) ?_
  refine lv_istore (lv' := [(7, .int 1), (6, .int 0), (4, .long (0)), (0, .ref (g_ad G 26)), (1, .int a1), (2, .int a2), (3, .int a3)]) hx hb dX11_ways_7 hl (by decide) rfl (fun ls hl => ?_)
  exact L9 FU _ _ _ _ _ _ _ H locs ls h hP hS (lv_sub hl [3, 4, 5, 6, 2, 1, 0] rfl)
set_option maxHeartbeats 4000000 in
set_option maxRecDepth 100000 in
theorem c_X11_out {l : Launch} {G : GT} {lam : Lm} {σ : St} {a1 : Int32} {a2 : Int32} {a3 : Int32} {q : Int64 × St} (h : f_X11_out σ a1 a2 a3 = some q) : Met l yX11_out (Cond.code yX11_out cX11_out 15 ((some .long)) :: TB) ({ frames := 9, cells := 0, slots := 0, locals := 234 } : Room) (va_Pc [.ref (g_ad G 26), .int a1, .int a2, .int a3] (GW G lam σ)) (Rl q G lam) 0 0 (g_A G) := by
  refine mk_Ql (own := RX11) (by decide) (Nat.le_of_ble_eq_true rfl) rfl (fun p e s m args below meth c C hr hlocks hP ls hl => ?_)
  have hx := C.1
  have hb := C.2.1
  have hl : lv_has ls 15 [(0, .ref (g_ad G 26)), (1, .int a1), (2, .int a2), (3, .int a3)] := hl
  have L122 : ∀ (n122 : Nat) (σ : St) (x3 : Int32) (x5 : Int64) (x7 : Int64) (x9 : Int64) (x11 : Int64) (H : Heap) (locs : List Loc) (ls : Array Slot), fx (F_X11_out_h122) z_X11_out_h122 n122 σ x3 x5 x7 x9 x11 = some q → va_P (g_D G) vwCl (allW G lam σ) H → va_S (g_A G) s.heap H locs → lv_has ls 15 [(3, .int x3), (5, .long (x5)), (7, .long (x7)), (9, .long (x9)), (11, .long (x11))] → W p l e ({ frames := 9, cells := 0, slots := 0, locals := 234 } : Room) s m args below meth c H locs 0 0 (Ql q below args s G lam) (F0 m 122 ls []) := by
    intro n122
    induction n122 with
    | zero => intro σ x3 x5 x7 x9 x11 H locs ls h hP hS hl; exact absurd h (by intro h9; cases h9)
    | succ n122 ih122 =>
      intro σ x3 x5 x7 x9 x11 H locs ls h hP hS hl
      change F_X11_out_h122 (fx (F_X11_out_h122) z_X11_out_h122 n122) σ x3 x5 x7 x9 x11 = some q at h
      unfold F_X11_out_h122 at h
      refine lv_lload hx hb dX11_out_122 (lv_at hl 4 rfl) ?_
      refine lv_lconst (v := 0) hx hb dX11_out_124 (by decide) ?_
      refine W.lcmp hx hb dX11_out_125 ?_
      refine lv_if_le (tgt := 147) hx hb dX11_out_126 (by decide) (fun c29 => ?_) (fun c29 => ?_)
      · replace h := h_t c29 h
        refine lv_iload_n hx hb dX11_out_147 rfl (lv_at hl 0 rfl) ?_
        refine lv_if_ne (tgt := 159) hx hb dX11_out_148 (by decide) (fun c30 => ?_) (fun c30 => ?_)
        · replace h := h_f c30 h
          refine lv_lload hx hb dX11_out_159 (lv_at hl 1 rfl) ?_
          refine lv_lload hx hb dX11_out_161 (lv_at hl 3 rfl) ?_
          obtain ⟨g31, h⟩ := h_nz h
          refine lv_ldiv hx hb dX11_out_163 g31 ?_
          exact ret_l C hr hlocks hP hS h dX11_out_164
        · replace h := h_t c30 h
          refine lv_lload hx hb dX11_out_151 (lv_at hl 2 rfl) ?_
          refine lv_lload hx hb dX11_out_153 (lv_at hl 3 rfl) ?_
          obtain ⟨g32, h⟩ := h_nz h
          refine lv_ldiv hx hb dX11_out_155 g32 ?_
          refine lv_goto (tgt := 164) hx hb dX11_out_156 (by decide) ?_
          exact ret_l C hr hlocks hP hS h dX11_out_164
      · replace h := h_f c29 h
        refine lv_lload hx hb dX11_out_129 (lv_at hl 3 rfl) ?_
        refine lv_lload hx hb dX11_out_131 (lv_at hl 4 rfl) ?_
        obtain ⟨g33, h⟩ := h_nz h
        refine lv_lrem hx hb dX11_out_133 g33 ?_
        obtain ⟨y34, e35, h⟩ := bnd h
        refine r_nml e35 ?_
        refine lv_lstore (lv' := [(13, .long (y34)), (3, .int x3), (5, .long (x5)), (7, .long (x7)), (9, .long (x9)), (11, .long (x11))]) hx hb dX11_out_134 hl (by decide) rfl (fun ls hl => ?_)
        refine lv_lload hx hb dX11_out_136 (lv_at hl 5 rfl) ?_
        refine lv_lstore (lv' := [(9, .long (x11)), (13, .long (y34)), (3, .int x3), (5, .long (x5)), (7, .long (x7)), (11, .long (x11))]) hx hb dX11_out_138 hl (by decide) rfl (fun ls hl => ?_)
        refine lv_lload hx hb dX11_out_140 (lv_at hl 1 rfl) ?_
        refine lv_lstore (lv' := [(11, .long (y34)), (9, .long (x11)), (13, .long (y34)), (3, .int x3), (5, .long (x5)), (7, .long (x7))]) hx hb dX11_out_142 hl (by decide) rfl (fun ls hl => ?_)
        refine lv_goto (tgt := 122) hx hb dX11_out_144 (by decide) ?_
        exact ih122 _ _ _ _ _ _ H locs ls h hP hS (lv_sub hl [3, 4, 5, 1, 0] rfl)
  have L56 : ∀ (n56 : Nat) (σ : St) (x1 : Int32) (x2 : Int32) (x3 : Int32) (x4 : Int32) (x5 : Int64) (x7 : Int32) (H : Heap) (locs : List Loc) (ls : Array Slot), fx (F_X11_out_h56) z_X11_out_h56 n56 σ x1 x2 x3 x4 x5 x7 = some q → va_P (g_D G) vwCl (allW G lam σ) H → va_S (g_A G) s.heap H locs → lv_has ls 15 [(0, .ref (g_ad G 26)), (1, .int x1), (2, .int x2), (3, .int x3), (4, .int x4), (5, .long (x5)), (7, .int x7)] → W p l e ({ frames := 9, cells := 0, slots := 0, locals := 234 } : Room) s m args below meth c H locs 0 0 (Ql q below args s G lam) (F0 m 56 ls []) := by
    intro n56
    induction n56 with
    | zero => intro σ x1 x2 x3 x4 x5 x7 H locs ls h hP hS hl; exact absurd h (by intro h9; cases h9)
    | succ n56 ih56 =>
      have J82 : ∀ (σ : St) (x1 : Int32) (x2 : Int32) (x3 : Int32) (x4 : Int32) (x7 : Int32) (t0 : Int64) (t1 : Int64) (H : Heap) (locs : List Loc) (ls : Array Slot), f_X11_out_p82 (fx (F_X11_out_h56) z_X11_out_h56 n56) σ x1 x2 x3 x4 x7 t0 t1 = some q → va_P (g_D G) vwCl (allW G lam σ) H → va_S (g_A G) s.heap H locs → lv_has ls 15 [(0, .ref (g_ad G 26)), (1, .int x1), (2, .int x2), (3, .int x3), (4, .int x4), (7, .int x7)] → W p l e ({ frames := 9, cells := 0, slots := 0, locals := 234 } : Room) s m args below meth c H locs 0 0 (Ql q below args s G lam) (F0 m 82 ls [.long (t0), .long (t1)]) := by
        intro σ x1 x2 x3 x4 x7 t0 t1 H locs ls h hP hS hl
        unfold f_X11_out_p82 at h
        refine lv_lmul hx hb dX11_out_82 ?_
        obtain ⟨y36, e37, h⟩ := bnd h
        refine r_nml e37 ?_
        refine lv_lstore (lv' := [(5, .long (y36)), (0, .ref (g_ad G 26)), (1, .int x1), (2, .int x2), (3, .int x3), (4, .int x4), (7, .int x7)]) hx hb dX11_out_83 hl (by decide) rfl (fun ls hl => ?_)
        obtain ⟨y38, e39, h⟩ := bnd h
        refine lv_iinc (v := y38) (lv' := [(7, .int y38), (5, .long (y36)), (0, .ref (g_ad G 26)), (1, .int x1), (2, .int x2), (3, .int x3), (4, .int x4)]) hx hb dX11_out_85 hl (k := 6) rfl (Option.some.inj e39) (by decide) rfl (fun ls hl => ?_)
        refine lv_goto (tgt := 56) hx hb dX11_out_88 (by decide) ?_
        exact ih56 _ _ _ _ _ _ _ H locs ls h hP hS (lv_sub hl [2, 3, 4, 5, 6, 1, 0] rfl)
      intro σ x1 x2 x3 x4 x5 x7 H locs ls h hP hS hl
      change F_X11_out_h56 (fx (F_X11_out_h56) z_X11_out_h56 n56) σ x1 x2 x3 x4 x5 x7 = some q at h
      unfold F_X11_out_h56 at h
      refine lv_iload hx hb dX11_out_56 (lv_at hl 6 rfl) ?_
      refine lv_bipush (v := 8) hx hb dX11_out_58 (by decide) ?_
      refine lv_icmp_ge (tgt := 91) hx hb dX11_out_60 (by decide) (fun c40 => ?_) (fun c40 => ?_)
      · replace h := h_t c40 h
        refine lv_lload hx hb dX11_out_91 (lv_at hl 5 rfl) ?_
        refine lv_ldc2 hx hb C.2.2.2.1 (C.2.2.2.2.1 _ mw_1693) dX11_out_93 ?_
        refine W.lcmp hx hb dX11_out_96 ?_
        refine lv_if_le (tgt := 104) hx hb dX11_out_97 (by decide) (fun c41 => ?_) (fun c41 => ?_)
        · replace h := h_t c41 h
          refine lv_aload_n hx hb dX11_out_104 rfl (lv_at hl 0 rfl) ?_
          refine lv_iload_n hx hb dX11_out_105 rfl (lv_at hl 1 rfl) ?_
          refine lv_iload_n hx hb dX11_out_106 rfl (lv_at hl 2 rfl) ?_
          refine lv_iload hx hb dX11_out_107 (lv_at hl 4 rfl) ?_
          obtain ⟨q42, e43, h⟩ := bnd h
          refine call_l C hP hS (c_X11_ways e43) mi_X11_ways mw_1695 26 (by decide) rfl rfl ⟨Nat.le_of_ble_eq_true rfl, Nat.le_of_ble_eq_true rfl⟩ (As := [.int x1, .int x2, .int x4]) rfl hl.1 rfl (lv_room (Nat.le_of_ble_eq_true rfl)) dX11_out_109 (fun H locs hP hS => ?_)
          refine lv_lstore (lv' := [(7, .long (q42.1)), (0, .ref (g_ad G 26)), (1, .int x1), (2, .int x2), (3, .int x3), (4, .int x4), (5, .long (x5))]) hx hb dX11_out_112 hl (by decide) rfl (fun ls hl => ?_)
          refine lv_lload hx hb dX11_out_114 (lv_at hl 0 rfl) ?_
          refine lv_lstore (lv' := [(9, .long (q42.1)), (7, .long (q42.1)), (0, .ref (g_ad G 26)), (1, .int x1), (2, .int x2), (3, .int x3), (4, .int x4), (5, .long (x5))]) hx hb dX11_out_116 hl (by decide) rfl (fun ls hl => ?_)
          refine lv_lload hx hb dX11_out_118 (lv_at hl 7 rfl) ?_
          refine lv_lstore (lv' := [(11, .long (x5)), (9, .long (q42.1)), (7, .long (q42.1)), (0, .ref (g_ad G 26)), (1, .int x1), (2, .int x2), (3, .int x3), (4, .int x4), (5, .long (x5))]) hx hb dX11_out_120 hl (by decide) rfl (fun ls hl => ?_)
          exact L122 FU _ _ _ _ _ _ H locs ls h hP hS (lv_sub hl [6, 8, 2, 1, 0] rfl)
        · replace h := h_f c41 h
          refine lv_ldc2 hx hb C.2.2.2.1 (C.2.2.2.2.1 _ mw_1694) dX11_out_100 ?_
          exact ret_l C hr hlocks hP hS h dX11_out_103
      · replace h := h_f c40 h
        refine lv_lload hx hb dX11_out_63 (lv_at hl 5 rfl) ?_
        refine lv_iload hx hb dX11_out_65 (lv_at hl 4 rfl) ?_
        refine lv_iload hx hb dX11_out_67 (lv_at hl 6 rfl) ?_
        obtain ⟨q44, e45, h⟩ := bnd h
        refine scall_i C hP hS (c_X11_has e45) ms_X11_has mw_1551 ⟨Nat.le_of_ble_eq_true rfl, Nat.le_of_ble_eq_true rfl⟩ (As := [.int x4, .int x7]) rfl hl.1 rfl (lv_room (Nat.le_of_ble_eq_true rfl)) dX11_out_69 (fun H locs hP hS => ?_)
        refine lv_if_eq (tgt := 81) hx hb dX11_out_72 (by decide) (fun c46 => ?_) (fun c46 => ?_)
        · replace h := h_t c46 h
          refine lv_lconst (v := 1) hx hb dX11_out_81 (by decide) ?_
          exact J82 _ _ _ _ _ _ _ _ H locs ls h hP hS (lv_sub hl [0, 1, 2, 3, 4, 6] rfl)
        · replace h := h_f c46 h
          refine lv_ldc2 hx hb C.2.2.2.1 (C.2.2.2.2.1 _ mw_1687) dX11_out_75 ?_
          refine lv_goto (tgt := 82) hx hb dX11_out_78 (by decide) ?_
          exact J82 _ _ _ _ _ _ _ _ H locs ls h hP hS (lv_sub hl [0, 1, 2, 3, 4, 6] rfl)
  have hS : va_S (g_A G) s.heap s.heap [] := va_S.rf
  unfold f_X11_out at h
  obtain ⟨H, hH⟩ : ∃ H, H = s.heap := ⟨_, rfl⟩
  obtain ⟨locs, hlo⟩ : ∃ k : List Loc, k = [] := ⟨_, rfl⟩
  rw [← hH, ← hlo]
  rw [← hH] at hP
  replace hS : va_S (g_A G) s.heap H locs := by rw [hH, hlo]; exact hS
  refine lv_aload_n hx hb dX11_out_0 rfl (lv_at hl 0 rfl) ?_
  obtain ⟨q47, e48, h⟩ := bnd h
  refine call_i C hP hS (c_X11_isSheet e48) mi_X11_isSheet mw_1441 26 (by decide) rfl rfl ⟨Nat.le_of_ble_eq_true rfl, Nat.le_of_ble_eq_true rfl⟩ (As := []) rfl hl.1 rfl (lv_room (Nat.le_of_ble_eq_true rfl)) dX11_out_1 (fun H locs hP hS => ?_)
  refine lv_if_ne (tgt := 11) hx hb dX11_out_4 (by decide) (fun c49 => ?_) (fun c49 => ?_)
  · replace h := h_f c49 h
    refine lv_iload_n hx hb dX11_out_11 rfl (lv_at hl 1 rfl) ?_
    obtain ⟨q50, e51, h⟩ := bnd h
    refine scall_i C hP hS (c_X11_isStart e51) ms_X11_isStart mw_1594 ⟨Nat.le_of_ble_eq_true rfl, Nat.le_of_ble_eq_true rfl⟩ (As := [.int a1]) rfl hl.1 rfl (lv_room (Nat.le_of_ble_eq_true rfl)) dX11_out_12 (fun H locs hP hS => ?_)
    refine lv_if_eq (tgt := 40) hx hb dX11_out_15 (by decide) (fun c52 => ?_) (fun c52 => ?_)
    · replace h := h_t c52 h
      refine lv_ldc2 hx hb C.2.2.2.1 (C.2.2.2.2.1 _ mw_1688) dX11_out_40 ?_
      exact ret_l C hr hlocks hP hS h dX11_out_43
    · replace h := h_f c52 h
      refine lv_iload_n hx hb dX11_out_18 rfl (lv_at hl 2 rfl) ?_
      refine lv_i2l hx hb dX11_out_19 rfl ?_
      refine lv_lconst (v := 0) hx hb dX11_out_20 (by decide) ?_
      refine lv_ldc2 hx hb C.2.2.2.1 (C.2.2.2.2.1 _ mw_1687) dX11_out_21 ?_
      obtain ⟨q53, e54, h⟩ := bnd h
      refine scall_i C hP hS (c_X11_in e54) ms_X11_in mw_1320 ⟨Nat.le_of_ble_eq_true rfl, Nat.le_of_ble_eq_true rfl⟩ (As := [.long ((a2 : Int32).toInt64), .long (0), .long (10)]) rfl hl.1 rfl (lv_room (Nat.le_of_ble_eq_true rfl)) dX11_out_24 (fun H locs hP hS => ?_)
      refine lv_if_eq (tgt := 40) hx hb dX11_out_27 (by decide) (fun c55 => ?_) (fun c55 => ?_)
      · replace h := h_t c55 h
        refine lv_ldc2 hx hb C.2.2.2.1 (C.2.2.2.2.1 _ mw_1688) dX11_out_40 ?_
        exact ret_l C hr hlocks hP hS h dX11_out_43
      · replace h := h_f c55 h
        refine lv_iload_n hx hb dX11_out_30 rfl (lv_at hl 3 rfl) ?_
        refine lv_i2l hx hb dX11_out_31 rfl ?_
        refine lv_lconst (v := 0) hx hb dX11_out_32 (by decide) ?_
        refine lv_lconst (v := 1) hx hb dX11_out_33 (by decide) ?_
        obtain ⟨q56, e57, h⟩ := bnd h
        refine scall_i C hP hS (c_X11_in e57) ms_X11_in mw_1320 ⟨Nat.le_of_ble_eq_true rfl, Nat.le_of_ble_eq_true rfl⟩ (As := [.long ((a3 : Int32).toInt64), .long (0), .long (1)]) rfl hl.1 rfl (lv_room (Nat.le_of_ble_eq_true rfl)) dX11_out_34 (fun H locs hP hS => ?_)
        refine lv_if_ne (tgt := 44) hx hb dX11_out_37 (by decide) (fun c58 => ?_) (fun c58 => ?_)
        · replace h := h_f c58 h
          refine lv_aload_n hx hb dX11_out_44 rfl (lv_at hl 0 rfl) ?_
          obtain ⟨q59, e60, h⟩ := bnd h
          refine call_i C hP hS (c_X11_goneBy e60) mi_X11_goneBy mw_1689 26 (by decide) rfl rfl ⟨Nat.le_of_ble_eq_true rfl, Nat.le_of_ble_eq_true rfl⟩ (As := []) rfl hl.1 rfl (lv_room (Nat.le_of_ble_eq_true rfl)) dX11_out_45 (fun H locs hP hS => ?_)
          refine lv_istore (lv' := [(4, .int q59.1), (0, .ref (g_ad G 26)), (1, .int a1), (2, .int a2), (3, .int a3)]) hx hb dX11_out_48 hl (by decide) rfl (fun ls hl => ?_)
          refine lv_lconst (v := 1) hx hb dX11_out_50 (by decide) ?_
          refine lv_lstore (lv' := [(5, .long (1)), (4, .int q59.1), (0, .ref (g_ad G 26)), (1, .int a1), (2, .int a2), (3, .int a3)]) hx hb dX11_out_51 hl (by decide) rfl (fun ls hl => ?_)
          refine lv_iconst (v := 0) hx hb dX11_out_53 (by decide) ?_
          refine lv_istore (lv' := [(7, .int 0), (5, .long (1)), (4, .int q59.1), (0, .ref (g_ad G 26)), (1, .int a1), (2, .int a2), (3, .int a3)]) hx hb dX11_out_54 hl (by decide) rfl (fun ls hl => ?_)
          exact L56 FU _ _ _ _ _ _ _ H locs ls h hP hS (lv_sub hl [3, 4, 5, 6, 2, 1, 0] rfl)
        · replace h := h_t c58 h
          refine lv_ldc2 hx hb C.2.2.2.1 (C.2.2.2.2.1 _ mw_1688) dX11_out_40 ?_
          exact ret_l C hr hlocks hP hS h dX11_out_43
  · replace h := h_t c49 h
    refine lv_ldc2 hx hb C.2.2.2.1 (C.2.2.2.2.1 _ mw_1686) dX11_out_7 ?_
    exact ret_l C hr hlocks hP hS h dX11_out_10
