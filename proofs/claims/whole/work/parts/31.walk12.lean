set_option maxHeartbeats 4000000 in
set_option maxRecDepth 100000 in
theorem c_X11_drawn {l : Launch} {G : GT} {lam : Lm} {σ : St} {a1 : Int32} {a2 : Int32} {a3 : Int32} {q : Int32 × St} (h : f_X11_drawn σ a1 a2 a3 = some q) : Met l yX11_drawn (Cond.code yX11_drawn cX11_drawn 9 ((some .int)) :: TB) ({ frames := 8, cells := 0, slots := 0, locals := 204 } : Room) (va_Pc [.ref (g_ad G 26), .int a1, .int a2, .int a3] (GW G lam σ)) (Ri q G lam) 0 0 (g_A G) := by
  refine mk_Qi (own := RX11) (by decide) (Nat.le_of_ble_eq_true rfl) rfl (fun p e s m args below meth c C hr hlocks hP ls hl => ?_)
  have hx := C.1
  have hb := C.2.1
  have hl : lv_has ls 9 [(0, .ref (g_ad G 26)), (1, .int a1), (2, .int a2), (3, .int a3)] := hl
  have L60 : ∀ (n60 : Nat) (σ : St) (x1 : Int32) (x3 : Int32) (x4 : Int64) (x6 : Int32) (x7 : Int32) (x8 : Int32) (H : Heap) (locs : List Loc) (ls : Array Slot), fx (F_X11_drawn_h60) z_X11_drawn_h60 n60 σ x1 x3 x4 x6 x7 x8 = some q → va_P (g_D G) vwCl (allW G lam σ) H → va_S (g_A G) s.heap H locs → lv_has ls 9 [(0, .ref (g_ad G 26)), (1, .int x1), (3, .int x3), (4, .long (x4)), (6, .int x6), (7, .int x7), (8, .int x8)] → W p l e ({ frames := 8, cells := 0, slots := 0, locals := 204 } : Room) s m args below meth c H locs 0 0 (Qi q below args s G lam) (F0 m 60 ls []) := by
    intro n60
    induction n60 with
    | zero => intro σ x1 x3 x4 x6 x7 x8 H locs ls h hP hS hl; exact absurd h (by intro h9; cases h9)
    | succ n60 ih60 =>
      have J110 : ∀ (σ : St) (x1 : Int32) (x3 : Int32) (x4 : Int64) (x7 : Int32) (x8 : Int32) (t0 : Int32) (t1 : Int32) (H : Heap) (locs : List Loc) (ls : Array Slot), f_X11_drawn_p110 (fx (F_X11_drawn_h60) z_X11_drawn_h60 n60) σ x1 x3 x4 x7 x8 t0 t1 = some q → va_P (g_D G) vwCl (allW G lam σ) H → va_S (g_A G) s.heap H locs → lv_has ls 9 [(0, .ref (g_ad G 26)), (1, .int x1), (3, .int x3), (4, .long (x4)), (7, .int x7), (8, .int x8)] → W p l e ({ frames := 8, cells := 0, slots := 0, locals := 204 } : Room) s m args below meth c H locs 0 0 (Qi q below args s G lam) (F0 m 110 ls [.int t0, .int t1]) := by
        intro σ x1 x3 x4 x7 x8 t0 t1 H locs ls h hP hS hl
        unfold f_X11_drawn_p110 at h
        refine lv_iadd hx hb dX11_drawn_110 ?_
        obtain ⟨y20, e21, h⟩ := bnd h
        refine r_nm e21 ?_
        refine lv_istore (lv' := [(6, .int y20), (0, .ref (g_ad G 26)), (1, .int x1), (3, .int x3), (4, .long (x4)), (7, .int x7), (8, .int x8)]) hx hb dX11_drawn_111 hl (by decide) rfl (fun ls hl => ?_)
        refine lv_iload hx hb dX11_drawn_113 (lv_at hl 5 rfl) ?_
        refine lv_aload_n hx hb dX11_drawn_115 rfl (lv_at hl 1 rfl) ?_
        refine gf_X11_274_26 C hP dX11_drawn_116 ?_
        refine lv_iadd hx hb dX11_drawn_119 ?_
        obtain ⟨y22, e23, h⟩ := bnd h
        refine r_nm e23 ?_
        refine lv_istore (lv' := [(7, .int y22), (6, .int y20), (0, .ref (g_ad G 26)), (1, .int x1), (3, .int x3), (4, .long (x4)), (8, .int x8)]) hx hb dX11_drawn_120 hl (by decide) rfl (fun ls hl => ?_)
        obtain ⟨y24, e25, h⟩ := bnd h
        refine lv_iinc (v := y24) (lv' := [(8, .int y24), (7, .int y22), (6, .int y20), (0, .ref (g_ad G 26)), (1, .int x1), (3, .int x3), (4, .long (x4))]) hx hb dX11_drawn_122 hl (k := 6) rfl (Option.some.inj e25) (by decide) rfl (fun ls hl => ?_)
        refine lv_goto (tgt := 60) hx hb dX11_drawn_125 (by decide) ?_
        exact ih60 _ _ _ _ _ _ _ H locs ls h hP hS (lv_sub hl [3, 4, 5, 6, 2, 1, 0] rfl)
      intro σ x1 x3 x4 x6 x7 x8 H locs ls h hP hS hl
      change F_X11_drawn_h60 (fx (F_X11_drawn_h60) z_X11_drawn_h60 n60) σ x1 x3 x4 x6 x7 x8 = some q at h
      unfold F_X11_drawn_h60 at h
      refine lv_iload hx hb dX11_drawn_60 (lv_at hl 6 rfl) ?_
      refine lv_iload_n hx hb dX11_drawn_62 rfl (lv_at hl 1 rfl) ?_
      refine lv_icmp_ge (tgt := 128) hx hb dX11_drawn_63 (by decide) (fun c26 => ?_) (fun c26 => ?_)
      · replace h := h_t c26 h
        refine lv_iload_n hx hb dX11_drawn_128 rfl (lv_at hl 2 rfl) ?_
        refine lv_if_ne (tgt := 137) hx hb dX11_drawn_129 (by decide) (fun c27 => ?_) (fun c27 => ?_)
        · replace h := h_f c27 h
          refine lv_iload hx hb dX11_drawn_137 (lv_at hl 5 rfl) ?_
          exact ret_i C hr hlocks hP hS h dX11_drawn_139
        · replace h := h_t c27 h
          refine lv_iload hx hb dX11_drawn_132 (lv_at hl 4 rfl) ?_
          refine lv_goto (tgt := 139) hx hb dX11_drawn_134 (by decide) ?_
          exact ret_i C hr hlocks hP hS h dX11_drawn_139
      · replace h := h_f c26 h
        refine lv_lload hx hb dX11_drawn_66 (lv_at hl 3 rfl) ?_
        refine lv_ldc2 hx hb C.2.2.2.1 (C.2.2.2.2.1 _ mw_1705) dX11_drawn_68 ?_
        refine lv_lmul hx hb dX11_drawn_71 ?_
        refine lv_ldc2 hx hb C.2.2.2.1 (C.2.2.2.2.1 _ mw_1706) dX11_drawn_72 ?_
        refine lv_lrem hx hb dX11_drawn_75 (by decide) ?_
        obtain ⟨y28, e29, h⟩ := bnd h
        refine r_nml e29 ?_
        refine lv_lstore (lv' := [(4, .long (y28)), (0, .ref (g_ad G 26)), (1, .int x1), (3, .int x3), (6, .int x6), (7, .int x7), (8, .int x8)]) hx hb dX11_drawn_76 hl (by decide) rfl (fun ls hl => ?_)
        refine lv_iload hx hb dX11_drawn_78 (lv_at hl 4 rfl) ?_
        refine lv_aload_n hx hb dX11_drawn_80 rfl (lv_at hl 1 rfl) ?_
        refine lv_lload hx hb dX11_drawn_81 (lv_at hl 0 rfl) ?_
        refine lv_ldc2 hx hb C.2.2.2.1 (C.2.2.2.2.1 _ mw_1707) dX11_drawn_83 ?_
        refine lv_lrem hx hb dX11_drawn_86 (by decide) ?_
        refine lv_l2i hx hb dX11_drawn_87 rfl ?_
        refine lv_lload hx hb dX11_drawn_88 (lv_at hl 0 rfl) ?_
        refine lv_ldc2 hx hb C.2.2.2.1 (C.2.2.2.2.1 _ mw_1708) dX11_drawn_90 ?_
        refine lv_ldiv hx hb dX11_drawn_93 (by decide) ?_
        refine lv_ldc2 hx hb C.2.2.2.1 (C.2.2.2.2.1 _ mw_1709) dX11_drawn_94 ?_
        refine lv_lrem hx hb dX11_drawn_97 (by decide) ?_
        refine lv_l2i hx hb dX11_drawn_98 rfl ?_
        obtain ⟨q30, e31, h⟩ := bnd h
        refine call_i C hP hS (c_X11_arrivesFrom e31) mi_X11_arrivesFrom mw_1662 26 (by decide) rfl rfl ⟨Nat.le_of_ble_eq_true rfl, Nat.le_of_ble_eq_true rfl⟩ (As := [.int ((y28 - y28 / 100 * 100 : Int64).toInt32), .int (((y28 / 128) - (y28 / 128) / 21 * 21 : Int64).toInt32)]) rfl hl.1 rfl (lv_room (Nat.le_of_ble_eq_true rfl)) dX11_drawn_99 (fun H locs hP hS => ?_)
        refine lv_if_eq (tgt := 109) hx hb dX11_drawn_102 (by decide) (fun c32 => ?_) (fun c32 => ?_)
        · replace h := h_t c32 h
          refine lv_iconst (v := 0) hx hb dX11_drawn_109 (by decide) ?_
          exact J110 _ _ _ _ _ _ _ _ H locs ls h hP hS (lv_sub hl [1, 2, 3, 0, 5, 6] rfl)
        · replace h := h_f c32 h
          refine lv_iconst (v := 1) hx hb dX11_drawn_105 (by decide) ?_
          refine lv_goto (tgt := 110) hx hb dX11_drawn_106 (by decide) ?_
          exact J110 _ _ _ _ _ _ _ _ H locs ls h hP hS (lv_sub hl [1, 2, 3, 0, 5, 6] rfl)
  have hS : va_S (g_A G) s.heap s.heap [] := va_S.rf
  unfold f_X11_drawn at h
  obtain ⟨H, hH⟩ : ∃ H, H = s.heap := ⟨_, rfl⟩
  obtain ⟨locs, hlo⟩ : ∃ k : List Loc, k = [] := ⟨_, rfl⟩
  rw [← hH, ← hlo]
  rw [← hH] at hP
  replace hS : va_S (g_A G) s.heap H locs := by rw [hH, hlo]; exact hS
  refine lv_aload_n hx hb dX11_drawn_0 rfl (lv_at hl 0 rfl) ?_
  obtain ⟨q33, e34, h⟩ := bnd h
  refine call_i C hP hS (c_X11_isSheet e34) mi_X11_isSheet mw_1441 26 (by decide) rfl rfl ⟨Nat.le_of_ble_eq_true rfl, Nat.le_of_ble_eq_true rfl⟩ (As := []) rfl hl.1 rfl (lv_room (Nat.le_of_ble_eq_true rfl)) dX11_drawn_1 (fun H locs hP hS => ?_)
  refine lv_if_ne (tgt := 10) hx hb dX11_drawn_4 (by decide) (fun c35 => ?_) (fun c35 => ?_)
  · replace h := h_f c35 h
    refine lv_iload_n hx hb dX11_drawn_10 rfl (lv_at hl 1 rfl) ?_
    refine lv_i2l hx hb dX11_drawn_11 rfl ?_
    refine lv_lconst (v := 0) hx hb dX11_drawn_12 (by decide) ?_
    refine lv_ldc2 hx hb C.2.2.2.1 (C.2.2.2.2.1 _ mw_1703) dX11_drawn_13 ?_
    obtain ⟨q36, e37, h⟩ := bnd h
    refine scall_i C hP hS (c_X11_in e37) ms_X11_in mw_1320 ⟨Nat.le_of_ble_eq_true rfl, Nat.le_of_ble_eq_true rfl⟩ (As := [.long ((a1 : Int32).toInt64), .long (0), .long (12)]) rfl hl.1 rfl (lv_room (Nat.le_of_ble_eq_true rfl)) dX11_drawn_16 (fun H locs hP hS => ?_)
    refine lv_if_eq (tgt := 44) hx hb dX11_drawn_19 (by decide) (fun c38 => ?_) (fun c38 => ?_)
    · replace h := h_t c38 h
      refine lv_ldc hx hb C.2.2.2.1 (C.2.2.2.2.1 _ mw_1323) dX11_drawn_44 ?_
      exact ret_i C hr hlocks hP hS h dX11_drawn_46
    · replace h := h_f c38 h
      refine lv_iload_n hx hb dX11_drawn_22 rfl (lv_at hl 2 rfl) ?_
      refine lv_i2l hx hb dX11_drawn_23 rfl ?_
      refine lv_lconst (v := 1) hx hb dX11_drawn_24 (by decide) ?_
      refine lv_ldc2 hx hb C.2.2.2.1 (C.2.2.2.2.1 _ mw_1704) dX11_drawn_25 ?_
      obtain ⟨q39, e40, h⟩ := bnd h
      refine scall_i C hP hS (c_X11_in e40) ms_X11_in mw_1320 ⟨Nat.le_of_ble_eq_true rfl, Nat.le_of_ble_eq_true rfl⟩ (As := [.long ((a2 : Int32).toInt64), .long (1), .long (999999)]) rfl hl.1 rfl (lv_room (Nat.le_of_ble_eq_true rfl)) dX11_drawn_28 (fun H locs hP hS => ?_)
      refine lv_if_eq (tgt := 44) hx hb dX11_drawn_31 (by decide) (fun c41 => ?_) (fun c41 => ?_)
      · replace h := h_t c41 h
        refine lv_ldc hx hb C.2.2.2.1 (C.2.2.2.2.1 _ mw_1323) dX11_drawn_44 ?_
        exact ret_i C hr hlocks hP hS h dX11_drawn_46
      · replace h := h_f c41 h
        refine lv_iload_n hx hb dX11_drawn_34 rfl (lv_at hl 3 rfl) ?_
        refine lv_i2l hx hb dX11_drawn_35 rfl ?_
        refine lv_lconst (v := 0) hx hb dX11_drawn_36 (by decide) ?_
        refine lv_lconst (v := 1) hx hb dX11_drawn_37 (by decide) ?_
        obtain ⟨q42, e43, h⟩ := bnd h
        refine scall_i C hP hS (c_X11_in e43) ms_X11_in mw_1320 ⟨Nat.le_of_ble_eq_true rfl, Nat.le_of_ble_eq_true rfl⟩ (As := [.long ((a3 : Int32).toInt64), .long (0), .long (1)]) rfl hl.1 rfl (lv_room (Nat.le_of_ble_eq_true rfl)) dX11_drawn_38 (fun H locs hP hS => ?_)
        refine lv_if_ne (tgt := 47) hx hb dX11_drawn_41 (by decide) (fun c44 => ?_) (fun c44 => ?_)
        · replace h := h_f c44 h
          refine lv_iload_n hx hb dX11_drawn_47 rfl (lv_at hl 2 rfl) ?_
          refine lv_i2l hx hb dX11_drawn_48 rfl ?_
          obtain ⟨y45, e46, h⟩ := bnd h
          refine r_nml e46 ?_
          refine lv_lstore (lv' := [(4, .long (y45)), (0, .ref (g_ad G 26)), (1, .int a1), (2, .int a2), (3, .int a3)]) hx hb dX11_drawn_49 hl (by decide) rfl (fun ls hl => ?_)
          refine lv_iconst (v := 0) hx hb dX11_drawn_51 (by decide) ?_
          refine lv_istore (lv' := [(6, .int 0), (4, .long (y45)), (0, .ref (g_ad G 26)), (1, .int a1), (2, .int a2), (3, .int a3)]) hx hb dX11_drawn_52 hl (by decide) rfl (fun ls hl => ?_)
          refine lv_iconst (v := 0) hx hb dX11_drawn_54 (by decide) ?_
          refine lv_istore (lv' := [(7, .int 0), (6, .int 0), (4, .long (y45)), (0, .ref (g_ad G 26)), (1, .int a1), (2, .int a2), (3, .int a3)]) hx hb dX11_drawn_55 hl (by decide) rfl (fun ls hl => ?_)
          refine lv_iconst (v := 0) hx hb dX11_drawn_57 (by decide) ?_
          refine lv_istore (lv' := [(8, .int 0), (7, .int 0), (6, .int 0), (4, .long (y45)), (0, .ref (g_ad G 26)), (1, .int a1), (2, .int a2), (3, .int a3)]) hx hb dX11_drawn_58 hl (by decide) rfl (fun ls hl => ?_)
          exact L60 FU _ _ _ _ _ _ _ H locs ls h hP hS (lv_sub hl [4, 5, 7, 3, 2, 1, 0] rfl)
        · replace h := h_t c44 h
          refine lv_ldc hx hb C.2.2.2.1 (C.2.2.2.2.1 _ mw_1323) dX11_drawn_44 ?_
          exact ret_i C hr hlocks hP hS h dX11_drawn_46
  · replace h := h_t c35 h
    refine lv_ldc hx hb C.2.2.2.1 (C.2.2.2.2.1 _ mw_1403) dX11_drawn_7 ?_
    exact ret_i C hr hlocks hP hS h dX11_drawn_9
set_option maxHeartbeats 4000000 in
set_option maxRecDepth 100000 in
theorem c_X11_image {l : Launch} {G : GT} {lam : Lm} {σ : St} {a1 : Int32} {q : Int32 × St} (h : f_X11_image σ a1 = some q) : Met l yX11_image (Cond.code yX11_image cX11_image 2 ((some .int)) :: TB) ({ frames := 1, cells := 0, slots := 0, locals := 25 } : Room) (va_Pc [.ref (g_ad G 26), .int a1] (GW G lam σ)) (Ri q G lam) 0 0 (g_A G) := by
  refine mk_Qi (own := RX11) (by decide) (Nat.le_of_ble_eq_true rfl) rfl (fun p e s m args below meth c C hr hlocks hP ls hl => ?_)
  have hx := C.1
  have hb := C.2.1
  have hl : lv_has ls 2 [(0, .ref (g_ad G 26)), (1, .int a1)] := hl
  have hS : va_S (g_A G) s.heap s.heap [] := va_S.rf
  unfold f_X11_image at h
  refine lv_iload_n hx hb dX11_image_0 rfl (lv_at hl 1 rfl) ?_
  refine lv_i2l hx hb dX11_image_1 rfl ?_
  refine lv_lconst (v := 0) hx hb dX11_image_2 (by decide) ?_
  refine lv_lconst (v := 1) hx hb dX11_image_3 (by decide) ?_
  obtain ⟨q12, e13, h⟩ := bnd h
  refine scall_i C hP hS (c_X11_in e13) ms_X11_in mw_1320 ⟨Nat.le_of_ble_eq_true rfl, Nat.le_of_ble_eq_true rfl⟩ (As := [.long ((a1 : Int32).toInt64), .long (0), .long (1)]) rfl hl.1 rfl (lv_room (Nat.le_of_ble_eq_true rfl)) dX11_image_4 (fun H locs hP hS => ?_)
  refine lv_if_ne (tgt := 13) hx hb dX11_image_7 (by decide) (fun c14 => ?_) (fun c14 => ?_)
  · replace h := h_f c14 h
    refine lv_aload_n hx hb dX11_image_13 rfl (lv_at hl 0 rfl) ?_
    obtain ⟨q15, e16, h⟩ := bnd h
    refine call_i C hP hS (c_X11_isSheet e16) mi_X11_isSheet mw_1441 26 (by decide) rfl rfl ⟨Nat.le_of_ble_eq_true rfl, Nat.le_of_ble_eq_true rfl⟩ (As := []) rfl hl.1 rfl (lv_room (Nat.le_of_ble_eq_true rfl)) dX11_image_14 (fun H locs hP hS => ?_)
    refine lv_if_ne (tgt := 23) hx hb dX11_image_17 (by decide) (fun c17 => ?_) (fun c17 => ?_)
    · replace h := h_f c17 h
      refine lv_aload_n hx hb dX11_image_23 rfl (lv_at hl 0 rfl) ?_
      refine lv_iconst (v := 0) hx hb dX11_image_24 (by decide) ?_
      refine lv_bipush (v := 79) hx hb dX11_image_25 (by decide) ?_
      refine lv_bipush (v := 79) hx hb dX11_image_27 (by decide) ?_
      refine lv_iload_n hx hb dX11_image_29 rfl (lv_at hl 1 rfl) ?_
      refine lv_imul hx hb dX11_image_30 ?_
      refine lv_iadd hx hb dX11_image_31 ?_
      obtain ⟨q18, e19, h⟩ := bnd h
      refine call_v C hP hS (c_X11_copy e19) mi_X11_copy mw_1404 26 (by decide) rfl rfl ⟨Nat.le_of_ble_eq_true rfl, Nat.le_of_ble_eq_true rfl⟩ (As := [.int 0, .int (79 + (79 * a1))]) rfl hl.1 rfl (lv_room (Nat.le_of_ble_eq_true rfl)) dX11_image_32 (fun H locs hP hS => ?_)
      refine lv_aload_n hx hb dX11_image_35 rfl (lv_at hl 0 rfl) ?_
      refine gf_X11_13_26 C hP dX11_image_36 ?_
      refine lv_iload_n hx hb dX11_image_39 rfl (lv_at hl 1 rfl) ?_
      refine lv_iconst (v := 1) hx hb dX11_image_40 (by decide) ?_
      obtain ⟨g20, h⟩ := h_g h
      refine r_zst C hP hS (vp_in_iff.mpr g20) (by decide) dX11_image_41 (fun H locs hP hS => ?_)
      obtain ⟨σ21, e22, h⟩ := bnd h
      have hP := hPn e22 hP
      refine lv_iconst (v := 1) hx hb dX11_image_42 (by decide) ?_
      exact ret_i C hr hlocks hP hS h dX11_image_43
    · replace h := h_t c17 h
      refine lv_ldc hx hb C.2.2.2.1 (C.2.2.2.2.1 _ mw_1403) dX11_image_20 ?_
      exact ret_i C hr hlocks hP hS h dX11_image_22
  · replace h := h_t c14 h
    refine lv_ldc hx hb C.2.2.2.1 (C.2.2.2.2.1 _ mw_1323) dX11_image_10 ?_
    exact ret_i C hr hlocks hP hS h dX11_image_12
set_option maxHeartbeats 4000000 in
set_option maxRecDepth 100000 in
theorem c_X11_restore {l : Launch} {G : GT} {lam : Lm} {σ : St} {a1 : Int32} {q : Int32 × St} (h : f_X11_restore σ a1 = some q) : Met l yX11_restore (Cond.code yX11_restore cX11_restore 2 ((some .int)) :: TB) ({ frames := 1, cells := 0, slots := 0, locals := 25 } : Room) (va_Pc [.ref (g_ad G 26), .int a1] (GW G lam σ)) (Ri q G lam) 0 0 (g_A G) := by
  refine mk_Qi (own := RX11) (by decide) (Nat.le_of_ble_eq_true rfl) rfl (fun p e s m args below meth c C hr hlocks hP ls hl => ?_)
  have hx := C.1
  have hb := C.2.1
  have hl : lv_has ls 2 [(0, .ref (g_ad G 26)), (1, .int a1)] := hl
  have hS : va_S (g_A G) s.heap s.heap [] := va_S.rf
  unfold f_X11_restore at h
  refine lv_iload_n hx hb dX11_restore_0 rfl (lv_at hl 1 rfl) ?_
  refine lv_i2l hx hb dX11_restore_1 rfl ?_
  refine lv_lconst (v := 0) hx hb dX11_restore_2 (by decide) ?_
  refine lv_lconst (v := 1) hx hb dX11_restore_3 (by decide) ?_
  obtain ⟨q10, e11, h⟩ := bnd h
  refine scall_i C hP hS (c_X11_in e11) ms_X11_in mw_1320 ⟨Nat.le_of_ble_eq_true rfl, Nat.le_of_ble_eq_true rfl⟩ (As := [.long ((a1 : Int32).toInt64), .long (0), .long (1)]) rfl hl.1 rfl (lv_room (Nat.le_of_ble_eq_true rfl)) dX11_restore_4 (fun H locs hP hS => ?_)
  refine lv_if_ne (tgt := 13) hx hb dX11_restore_7 (by decide) (fun c12 => ?_) (fun c12 => ?_)
  · replace h := h_f c12 h
    refine lv_aload_n hx hb dX11_restore_13 rfl (lv_at hl 0 rfl) ?_
    refine gf_X11_13_26 C hP dX11_restore_14 ?_
    refine lv_iload_n hx hb dX11_restore_17 rfl (lv_at hl 1 rfl) ?_
    obtain ⟨g13, h⟩ := h_g h
    refine r_zld C hP (vp_in_iff.mpr g13) dX11_restore_18 ?_
    refine lv_if_ne (tgt := 25) hx hb dX11_restore_19 (by decide) (fun c14 => ?_) (fun c14 => ?_)
    · replace h := h_f c14 h
      refine lv_aload_n hx hb dX11_restore_25 rfl (lv_at hl 0 rfl) ?_
      refine lv_bipush (v := 79) hx hb dX11_restore_26 (by decide) ?_
      refine lv_bipush (v := 79) hx hb dX11_restore_28 (by decide) ?_
      refine lv_iload_n hx hb dX11_restore_30 rfl (lv_at hl 1 rfl) ?_
      refine lv_imul hx hb dX11_restore_31 ?_
      refine lv_iadd hx hb dX11_restore_32 ?_
      refine lv_iconst (v := 0) hx hb dX11_restore_33 (by decide) ?_
      obtain ⟨q15, e16, h⟩ := bnd h
      refine call_v C hP hS (c_X11_copy e16) mi_X11_copy mw_1404 26 (by decide) rfl rfl ⟨Nat.le_of_ble_eq_true rfl, Nat.le_of_ble_eq_true rfl⟩ (As := [.int (79 + (79 * a1)), .int 0]) rfl hl.1 rfl (lv_room (Nat.le_of_ble_eq_true rfl)) dX11_restore_34 (fun H locs hP hS => ?_)
      refine lv_aload_n hx hb dX11_restore_37 rfl (lv_at hl 0 rfl) ?_
      refine lv_iconst (v := 0) hx hb dX11_restore_38 (by decide) ?_
      refine pf_X11_50_26 C hP hS dX11_restore_39 (fun H locs hP hS => ?_)
      obtain ⟨σ17, e18, h⟩ := bnd h
      have hP := hPn e18 hP
      refine lv_iconst (v := 1) hx hb dX11_restore_42 (by decide) ?_
      exact ret_i C hr hlocks hP hS h dX11_restore_43
    · replace h := h_t c14 h
      refine lv_ldc hx hb C.2.2.2.1 (C.2.2.2.2.1 _ mw_1403) dX11_restore_22 ?_
      exact ret_i C hr hlocks hP hS h dX11_restore_24
  · replace h := h_t c12 h
    refine lv_ldc hx hb C.2.2.2.1 (C.2.2.2.2.1 _ mw_1323) dX11_restore_10 ?_
    exact ret_i C hr hlocks hP hS h dX11_restore_12
set_option maxHeartbeats 4000000 in
set_option maxRecDepth 100000 in
theorem c_X11_marks {l : Launch} {G : GT} {lam : Lm} {σ : St} {q : Int32 × St} (h : f_X11_marks σ = some q) : Met l yX11_marks (Cond.code yX11_marks cX11_marks 3 ((some .int)) :: TB) ({ frames := 3, cells := 0, slots := 0, locals := 67 } : Room) (va_Pc [.ref (g_ad G 26)] (GW G lam σ)) (Ri q G lam) 0 0 (g_A G) := by
  refine mk_Qi (own := RX11) (by decide) (Nat.le_of_ble_eq_true rfl) rfl (fun p e s m args below meth c C hr hlocks hP ls hl => ?_)
  have hx := C.1
  have hb := C.2.1
  have hl : lv_has ls 3 [(0, .ref (g_ad G 26))] := hl
  have L4 : ∀ (n4 : Nat) (σ : St) (x1 : Int32) (x2 : Int32) (H : Heap) (locs : List Loc) (ls : Array Slot), fx (F_X11_marks_h4) z_X11_marks_h4 n4 σ x1 x2 = some q → va_P (g_D G) vwCl (allW G lam σ) H → va_S (g_A G) s.heap H locs → lv_has ls 3 [(0, .ref (g_ad G 26)), (1, .int x1), (2, .int x2)] → W p l e ({ frames := 3, cells := 0, slots := 0, locals := 67 } : Room) s m args below meth c H locs 0 0 (Qi q below args s G lam) (F0 m 4 ls []) := by
    intro n4
    induction n4 with
    | zero => intro σ x1 x2 H locs ls h hP hS hl; exact absurd h (by intro h9; cases h9)
    | succ n4 ih4 =>
      have J29 : ∀ (σ : St) (x2 : Int32) (t0 : Int32) (t1 : Int32) (H : Heap) (locs : List Loc) (ls : Array Slot), f_X11_marks_p29 (fx (F_X11_marks_h4) z_X11_marks_h4 n4) σ x2 t0 t1 = some q → va_P (g_D G) vwCl (allW G lam σ) H → va_S (g_A G) s.heap H locs → lv_has ls 3 [(0, .ref (g_ad G 26)), (2, .int x2)] → W p l e ({ frames := 3, cells := 0, slots := 0, locals := 67 } : Room) s m args below meth c H locs 0 0 (Qi q below args s G lam) (F0 m 29 ls [.int t0, .int t1]) := by
        intro σ x2 t0 t1 H locs ls h hP hS hl
        unfold f_X11_marks_p29 at h
        refine lv_iadd hx hb dX11_marks_29 ?_
        obtain ⟨y7, e8, h⟩ := bnd h
        refine r_nm e8 ?_
        refine lv_istore_n (lv' := [(1, .int y7), (0, .ref (g_ad G 26)), (2, .int x2)]) hx hb dX11_marks_30 rfl hl (by decide) rfl (fun ls hl => ?_)
        obtain ⟨y9, e10, h⟩ := bnd h
        refine lv_iinc (v := y9) (lv' := [(2, .int y9), (1, .int y7), (0, .ref (g_ad G 26))]) hx hb dX11_marks_31 hl (k := 2) rfl (Option.some.inj e10) (by decide) rfl (fun ls hl => ?_)
        refine lv_goto (tgt := 4) hx hb dX11_marks_34 (by decide) ?_
        exact ih4 _ _ _ H locs ls h hP hS (lv_sub hl [2, 1, 0] rfl)
      intro σ x1 x2 H locs ls h hP hS hl
      change F_X11_marks_h4 (fx (F_X11_marks_h4) z_X11_marks_h4 n4) σ x1 x2 = some q at h
      unfold F_X11_marks_h4 at h
      refine lv_iload_n hx hb dX11_marks_4 rfl (lv_at hl 2 rfl) ?_
      refine lv_aload_n hx hb dX11_marks_5 rfl (lv_at hl 0 rfl) ?_
      refine gf_X11_7_26 C hP dX11_marks_6 ?_
      refine lv_bipush (v := 13) hx hb dX11_marks_9 (by decide) ?_
      refine r_aldc C hP 27 (by decide) rfl (j := 13) (by decide) (vp_in_iff.mpr (by decide)) dX11_marks_11 ?_
      refine lv_icmp_ge (tgt := 37) hx hb dX11_marks_12 (by decide) (fun c11 => ?_) (fun c11 => ?_)
      · replace h := h_t c11 h
        refine lv_iload_n hx hb dX11_marks_37 rfl (lv_at hl 1 rfl) ?_
        exact ret_i C hr hlocks hP hS h dX11_marks_38
      · replace h := h_f c11 h
        refine lv_iload_n hx hb dX11_marks_15 rfl (lv_at hl 1 rfl) ?_
        refine lv_aload_n hx hb dX11_marks_16 rfl (lv_at hl 0 rfl) ?_
        refine lv_iload_n hx hb dX11_marks_17 rfl (lv_at hl 2 rfl) ?_
        obtain ⟨q12, e13, h⟩ := bnd h
        refine call_i C hP hS (c_X11_isMark e13) mi_X11_isMark mw_1535 26 (by decide) rfl rfl ⟨Nat.le_of_ble_eq_true rfl, Nat.le_of_ble_eq_true rfl⟩ (As := [.int x2]) rfl hl.1 rfl (lv_room (Nat.le_of_ble_eq_true rfl)) dX11_marks_18 (fun H locs hP hS => ?_)
        refine lv_if_eq (tgt := 28) hx hb dX11_marks_21 (by decide) (fun c14 => ?_) (fun c14 => ?_)
        · replace h := h_t c14 h
          refine lv_iconst (v := 0) hx hb dX11_marks_28 (by decide) ?_
          exact J29 _ _ _ _ H locs ls h hP hS (lv_sub hl [0, 2] rfl)
        · replace h := h_f c14 h
          refine lv_iconst (v := 1) hx hb dX11_marks_24 (by decide) ?_
          refine lv_goto (tgt := 29) hx hb dX11_marks_25 (by decide) ?_
          exact J29 _ _ _ _ H locs ls h hP hS (lv_sub hl [0, 2] rfl)
  have hS : va_S (g_A G) s.heap s.heap [] := va_S.rf
  unfold f_X11_marks at h
  obtain ⟨H, hH⟩ : ∃ H, H = s.heap := ⟨_, rfl⟩
  obtain ⟨locs, hlo⟩ : ∃ k : List Loc, k = [] := ⟨_, rfl⟩
  rw [← hH, ← hlo]
  rw [← hH] at hP
  replace hS : va_S (g_A G) s.heap H locs := by rw [hH, hlo]; exact hS
  refine lv_iconst (v := 0) hx hb dX11_marks_0 (by decide) ?_
  refine lv_istore_n (lv' := [(1, .int 0), (0, .ref (g_ad G 26))]) hx hb dX11_marks_1 rfl hl (by decide) rfl (fun ls hl => ?_)
  refine lv_iconst (v := 0) hx hb dX11_marks_2 (by decide) ?_
  refine lv_istore_n (lv' := [(2, .int 0), (1, .int 0), (0, .ref (g_ad G 26))]) hx hb dX11_marks_3 rfl hl (by decide) rfl (fun ls hl => ?_)
  exact L4 FU _ _ _ H locs ls h hP hS (lv_sub hl [2, 1, 0] rfl)
set_option maxHeartbeats 4000000 in
set_option maxRecDepth 100000 in
theorem c_X11_count {l : Launch} {G : GT} {lam : Lm} {σ : St} {a1 : Int32} {q : Int32 × St} (h : f_X11_count σ a1 = some q) : Met l yX11_count (Cond.code yX11_count cX11_count 2 ((some .int)) :: TB) ({ frames := 4, cells := 0, slots := 0, locals := 89 } : Room) (va_Pc [.ref (g_ad G 26), .int a1] (GW G lam σ)) (Ri q G lam) 0 0 (g_A G) := by
  refine mk_Qi (own := RX11) (by decide) (Nat.le_of_ble_eq_true rfl) rfl (fun p e s m args below meth c C hr hlocks hP ls hl => ?_)
  have hx := C.1
  have hb := C.2.1
  have hl : lv_has ls 2 [(0, .ref (g_ad G 26)), (1, .int a1)] := hl
  have hS : va_S (g_A G) s.heap s.heap [] := va_S.rf
  unfold f_X11_count at h
  refine lv_iload_n hx hb dX11_count_0 rfl (lv_at hl 1 rfl) ?_
  by_cases c12 : a1 = 0
  · replace h := h_t c12 h
    refine r_eq c12 ?_
    refine lv_tableIn (off := 43) (tgt := 44) hx hb dX11_count_1 (by decide) (by decide) (by decide) (by decide) ?_
    refine lv_aload_n hx hb dX11_count_44 rfl (lv_at hl 0 rfl) ?_
    refine gf_X11_7_26 C hP dX11_count_45 ?_
    refine lv_bipush (v := 13) hx hb dX11_count_48 (by decide) ?_
    refine r_aldc C hP 27 (by decide) rfl (j := 13) (by decide) (vp_in_iff.mpr (by decide)) dX11_count_50 ?_
    exact ret_i C hr hlocks hP hS h dX11_count_51
  replace h := h_f c12 h
  by_cases c15 : a1 = 1
  · replace h := h_t c15 h
    refine r_eq c15 ?_
    refine lv_tableIn (off := 51) (tgt := 52) hx hb dX11_count_1 (by decide) (by decide) (by decide) (by decide) ?_
    refine lv_aload_n hx hb dX11_count_52 rfl (lv_at hl 0 rfl) ?_
    obtain ⟨q13, e14, h⟩ := bnd h
    refine call_i C hP hS (c_X11_marks e14) mi_X11_marks mw_1722 26 (by decide) rfl rfl ⟨Nat.le_of_ble_eq_true rfl, Nat.le_of_ble_eq_true rfl⟩ (As := []) rfl hl.1 rfl (lv_room (Nat.le_of_ble_eq_true rfl)) dX11_count_53 (fun H locs hP hS => ?_)
    exact ret_i C hr hlocks hP hS h dX11_count_56
  replace h := h_f c15 h
  by_cases c18 : a1 = 2
  · replace h := h_t c18 h
    refine r_eq c18 ?_
    refine lv_tableIn (off := 56) (tgt := 57) hx hb dX11_count_1 (by decide) (by decide) (by decide) (by decide) ?_
    refine lv_aload_n hx hb dX11_count_57 rfl (lv_at hl 0 rfl) ?_
    refine gf_X11_7_26 C hP dX11_count_58 ?_
    refine lv_bipush (v := 13) hx hb dX11_count_61 (by decide) ?_
    refine r_aldc C hP 27 (by decide) rfl (j := 13) (by decide) (vp_in_iff.mpr (by decide)) dX11_count_63 ?_
    refine lv_aload_n hx hb dX11_count_64 rfl (lv_at hl 0 rfl) ?_
    obtain ⟨q16, e17, h⟩ := bnd h
    refine call_i C hP hS (c_X11_marks e17) mi_X11_marks mw_1722 26 (by decide) rfl rfl ⟨Nat.le_of_ble_eq_true rfl, Nat.le_of_ble_eq_true rfl⟩ (As := []) rfl hl.1 rfl (lv_room (Nat.le_of_ble_eq_true rfl)) dX11_count_65 (fun H locs hP hS => ?_)
    refine lv_isub hx hb dX11_count_68 ?_
    exact ret_i C hr hlocks hP hS h dX11_count_69
  replace h := h_f c18 h
  by_cases c19 : a1 = 3
  · replace h := h_t c19 h
    refine r_eq c19 ?_
    refine lv_tableIn (off := 69) (tgt := 70) hx hb dX11_count_1 (by decide) (by decide) (by decide) (by decide) ?_
    refine lv_aload_n hx hb dX11_count_70 rfl (lv_at hl 0 rfl) ?_
    refine gf_X11_7_26 C hP dX11_count_71 ?_
    refine lv_bipush (v := 54) hx hb dX11_count_74 (by decide) ?_
    refine r_aldc C hP 27 (by decide) rfl (j := 54) (by decide) (vp_in_iff.mpr (by decide)) dX11_count_76 ?_
    exact ret_i C hr hlocks hP hS h dX11_count_77
  replace h := h_f c19 h
  by_cases c20 : a1 = 4
  · replace h := h_t c20 h
    refine r_eq c20 ?_
    refine lv_tableIn (off := 77) (tgt := 78) hx hb dX11_count_1 (by decide) (by decide) (by decide) (by decide) ?_
    refine lv_aload_n hx hb dX11_count_78 rfl (lv_at hl 0 rfl) ?_
    refine gf_X11_7_26 C hP dX11_count_79 ?_
    refine lv_bipush (v := 6) hx hb dX11_count_82 (by decide) ?_
    refine r_aldc C hP 27 (by decide) rfl (j := 6) (by decide) (vp_in_iff.mpr (by decide)) dX11_count_84 ?_
    exact ret_i C hr hlocks hP hS h dX11_count_85
  replace h := h_f c20 h
  by_cases c21 : a1 = 5
  · replace h := h_t c21 h
    refine r_eq c21 ?_
    refine lv_tableIn (off := 85) (tgt := 86) hx hb dX11_count_1 (by decide) (by decide) (by decide) (by decide) ?_
    refine lv_aload_n hx hb dX11_count_86 rfl (lv_at hl 0 rfl) ?_
    refine gf_X11_50_26 C hP dX11_count_87 ?_
    exact ret_i C hr hlocks hP hS h dX11_count_90
  replace h := h_f c21 h
  by_cases c22 : a1 = 6
  · replace h := h_t c22 h
    refine r_eq c22 ?_
    refine lv_tableIn (off := 90) (tgt := 91) hx hb dX11_count_1 (by decide) (by decide) (by decide) (by decide) ?_
    refine lv_aload_n hx hb dX11_count_91 rfl (lv_at hl 0 rfl) ?_
    refine gf_X11_72_26 C hP dX11_count_92 ?_
    exact ret_i C hr hlocks hP hS h dX11_count_95
  replace h := h_f c22 h
  refine lv_tableOut (tgt := 96) hx hb dX11_count_1 (by have hz := And.intro (ne_i (z := 0) (by decide) c12) (And.intro (ne_i (z := 1) (by decide) c15) (And.intro (ne_i (z := 2) (by decide) c18) (And.intro (ne_i (z := 3) (by decide) c19) (And.intro (ne_i (z := 4) (by decide) c20) (And.intro (ne_i (z := 5) (by decide) c21) (ne_i (z := 6) (by decide) c22)))))); omega) (by decide) ?_
  refine lv_ldc hx hb C.2.2.2.1 (C.2.2.2.2.1 _ mw_1323) dX11_count_96 ?_
  exact ret_i C hr hlocks hP hS h dX11_count_98
