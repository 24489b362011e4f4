set_option maxHeartbeats 4000000 in
set_option maxRecDepth 100000 in
theorem c_X11_add {l : Launch} {G : GT} {lam : Lm} {σ : St} {a1 : Int32} {a2 : Int32} {a3 : Int32} {a4 : Int32} {a5 : Int32} {q : Int32 × St} (h : f_X11_add σ a1 a2 a3 a4 a5 = some q) : Met l yX11_add (Cond.code yX11_add cX11_add 7 ((some .int)) :: TB) ({ frames := 2, cells := 0, slots := 0, locals := 48 } : Room) (va_Pc [.ref (g_ad G 26), .int a1, .int a2, .int a3, .int a4, .int a5] (GW G lam σ)) (Ri q G lam) 0 0 (g_A G) := by
  refine mk_Qi (own := RX11) (by decide) (Nat.le_of_ble_eq_true rfl) rfl (fun p e s m args below meth c C hr hlocks hP ls hl => ?_)
  have hx := C.1
  have hb := C.2.1
  have hl : lv_has ls 7 [(0, .ref (g_ad G 26)), (1, .int a1), (2, .int a2), (3, .int a3), (4, .int a4), (5, .int a5)] := hl
  have L85 : ∀ (n85 : Nat) (σ : St) (x1 : Int32) (x2 : Int32) (x3 : Int32) (x4 : Int32) (x5 : Int32) (x6 : Int32) (H : Heap) (locs : List Loc) (ls : Array Slot), fx (F_X11_add_h85) z_X11_add_h85 n85 σ x1 x2 x3 x4 x5 x6 = some q → va_P (g_D G) vwCl (allW G lam σ) H → va_S (g_A G) s.heap H locs → lv_has ls 7 [(0, .ref (g_ad G 26)), (1, .int x1), (2, .int x2), (3, .int x3), (4, .int x4), (5, .int x5), (6, .int x6)] → W p l e ({ frames := 2, cells := 0, slots := 0, locals := 48 } : Room) s m args below meth c H locs 0 0 (Qi q below args s G lam) (F0 m 85 ls []) := by
    intro n85
    induction n85 with
    | zero => intro σ x1 x2 x3 x4 x5 x6 H locs ls h hP hS hl; exact absurd h (by intro h9; cases h9)
    | succ n85 ih85 =>
      intro σ x1 x2 x3 x4 x5 x6 H locs ls h hP hS hl
      change F_X11_add_h85 (fx (F_X11_add_h85) z_X11_add_h85 n85) σ x1 x2 x3 x4 x5 x6 = some q at h
      unfold F_X11_add_h85 at h
      refine lv_iload hx hb dX11_add_85 (lv_at hl 6 rfl) ?_
      refine lv_iconst (v := 4) hx hb dX11_add_87 (by decide) ?_
      refine lv_iload_n hx hb dX11_add_88 rfl (lv_at hl 1 rfl) ?_
      refine lv_imul hx hb dX11_add_89 ?_
      refine lv_iconst (v := 4) hx hb dX11_add_90 (by decide) ?_
      refine lv_iadd hx hb dX11_add_91 ?_
      refine lv_icmp_lt (tgt := 123) hx hb dX11_add_92 (by decide) (fun c30 => ?_) (fun c30 => ?_)
      · replace h := h_t c30 h
        refine lv_aload_n hx hb dX11_add_123 rfl (lv_at hl 0 rfl) ?_
        refine gf_X11_7_26 C hP dX11_add_124 ?_
        refine lv_bipush (v := 55) hx hb dX11_add_127 (by decide) ?_
        refine lv_iconst (v := 4) hx hb dX11_add_129 (by decide) ?_
        refine lv_iload_n hx hb dX11_add_130 rfl (lv_at hl 1 rfl) ?_
        refine lv_imul hx hb dX11_add_131 ?_
        refine lv_iadd hx hb dX11_add_132 ?_
        refine lv_iload_n hx hb dX11_add_133 rfl (lv_at hl 2 rfl) ?_
        obtain ⟨g31, h⟩ := h_g h
        refine r_ast C hP hS 27 (by decide) (fun _ => rfl) (vp_in_iff.mpr g31) dX11_add_134 (fun H locs hP hS => ?_)
        obtain ⟨σ32, e33, h⟩ := bnd h
        have hP := hPn e33 hP
        refine lv_aload_n hx hb dX11_add_135 rfl (lv_at hl 0 rfl) ?_
        refine lv_iload_n hx hb dX11_add_136 rfl (lv_at hl 1 rfl) ?_
        refine lv_iload_n hx hb dX11_add_137 rfl (lv_at hl 3 rfl) ?_
        refine lv_iload hx hb dX11_add_138 (lv_at hl 4 rfl) ?_
        refine lv_iload hx hb dX11_add_140 (lv_at hl 5 rfl) ?_
        obtain ⟨q34, e35, h⟩ := bnd h
        refine call_v C hP hS (c_X11_lays e35) mi_X11_lays mw_1466 26 (by decide) rfl rfl ⟨Nat.le_of_ble_eq_true rfl, Nat.le_of_ble_eq_true rfl⟩ (As := [.int x1, .int x3, .int x4, .int x5]) rfl hl.1 rfl (lv_room (Nat.le_of_ble_eq_true rfl)) dX11_add_142 (fun H locs hP hS => ?_)
        refine lv_aload_n hx hb dX11_add_145 rfl (lv_at hl 0 rfl) ?_
        refine gf_X11_7_26 C hP dX11_add_146 ?_
        refine lv_bipush (v := 54) hx hb dX11_add_149 (by decide) ?_
        refine lv_dup2_11 hx hb dX11_add_151 rfl rfl ?_
        refine r_aldc C hP 27 (by decide) rfl (j := 54) (by decide) (vp_in_iff.mpr (by decide)) dX11_add_152 ?_
        refine lv_iconst (v := 1) hx hb dX11_add_153 (by decide) ?_
        refine lv_iadd hx hb dX11_add_154 ?_
        refine r_astc C hP hS 27 (by decide) (fun _ => rfl) (j := 54) (by decide) (vp_in_iff.mpr (by decide)) dX11_add_155 (fun H locs hP hS => ?_)
        obtain ⟨σ36, e37, h⟩ := bnd h
        have hP := hPn e37 hP
        refine lv_aload_n hx hb dX11_add_156 rfl (lv_at hl 0 rfl) ?_
        refine gf_X11_7_26 C hP dX11_add_157 ?_
        refine lv_bipush (v := 54) hx hb dX11_add_160 (by decide) ?_
        refine r_aldc C hP 27 (by decide) rfl (j := 54) (by decide) (vp_in_iff.mpr (by decide)) dX11_add_162 ?_
        exact ret_i C hr hlocks hP hS h dX11_add_163
      · replace h := h_f c30 h
        refine lv_aload_n hx hb dX11_add_95 rfl (lv_at hl 0 rfl) ?_
        refine gf_X11_7_26 C hP dX11_add_96 ?_
        refine lv_bipush (v := 55) hx hb dX11_add_99 (by decide) ?_
        refine lv_iload hx hb dX11_add_101 (lv_at hl 6 rfl) ?_
        refine lv_iadd hx hb dX11_add_103 ?_
        refine lv_aload_n hx hb dX11_add_104 rfl (lv_at hl 0 rfl) ?_
        refine gf_X11_7_26 C hP dX11_add_105 ?_
        refine lv_bipush (v := 55) hx hb dX11_add_108 (by decide) ?_
        refine lv_iload hx hb dX11_add_110 (lv_at hl 6 rfl) ?_
        refine lv_iadd hx hb dX11_add_112 ?_
        refine lv_iconst (v := 4) hx hb dX11_add_113 (by decide) ?_
        refine lv_isub hx hb dX11_add_114 ?_
        obtain ⟨g38, h⟩ := h_g h
        refine r_ald C hP 27 (by decide) rfl (vp_in_iff.mpr g38) dX11_add_115 ?_
        obtain ⟨g39, h⟩ := h_g h
        refine r_ast C hP hS 27 (by decide) (fun _ => rfl) (vp_in_iff.mpr g39) dX11_add_116 (fun H locs hP hS => ?_)
        obtain ⟨σ40, e41, h⟩ := bnd h
        have hP := hPn e41 hP
        obtain ⟨y42, e43, h⟩ := bnd h
        refine lv_iinc (v := y42) (lv' := [(6, .int y42), (0, .ref (g_ad G 26)), (1, .int x1), (2, .int x2), (3, .int x3), (4, .int x4), (5, .int x5)]) hx hb dX11_add_117 hl (k := 6) rfl (Option.some.inj e43) (by decide) rfl (fun ls hl => ?_)
        refine lv_goto (tgt := 85) hx hb dX11_add_120 (by decide) ?_
        exact ih85 _ _ _ _ _ _ _ H locs ls h hP hS (lv_sub hl [1, 2, 3, 4, 5, 6, 0] rfl)
  have hS : va_S (g_A G) s.heap s.heap [] := va_S.rf
  unfold f_X11_add at h
  obtain ⟨H, hH⟩ : ∃ H, H = s.heap := ⟨_, rfl⟩
  obtain ⟨locs, hlo⟩ : ∃ k : List Loc, k = [] := ⟨_, rfl⟩
  rw [← hH, ← hlo]
  rw [← hH] at hP
  replace hS : va_S (g_A G) s.heap H locs := by rw [hH, hlo]; exact hS
  refine lv_aload_n hx hb dX11_add_0 rfl (lv_at hl 0 rfl) ?_
  obtain ⟨q44, e45, h⟩ := bnd h
  refine call_i C hP hS (c_X11_isSheet e45) mi_X11_isSheet mw_1441 26 (by decide) rfl rfl ⟨Nat.le_of_ble_eq_true rfl, Nat.le_of_ble_eq_true rfl⟩ (As := []) rfl hl.1 rfl (lv_room (Nat.le_of_ble_eq_true rfl)) dX11_add_1 (fun H locs hP hS => ?_)
  refine lv_if_ne (tgt := 10) hx hb dX11_add_4 (by decide) (fun c46 => ?_) (fun c46 => ?_)
  · replace h := h_f c46 h
    refine lv_iload_n hx hb dX11_add_10 rfl (lv_at hl 1 rfl) ?_
    refine lv_i2l hx hb dX11_add_11 rfl ?_
    refine lv_lconst (v := 0) hx hb dX11_add_12 (by decide) ?_
    refine lv_aload_n hx hb dX11_add_13 rfl (lv_at hl 0 rfl) ?_
    refine gf_X11_7_26 C hP dX11_add_14 ?_
    refine lv_bipush (v := 54) hx hb dX11_add_17 (by decide) ?_
    refine r_aldc C hP 27 (by decide) rfl (j := 54) (by decide) (vp_in_iff.mpr (by decide)) dX11_add_19 ?_
    refine lv_i2l hx hb dX11_add_20 rfl ?_
    obtain ⟨q47, e48, h⟩ := bnd h
    refine scall_i C hP hS (c_X11_in e48) ms_X11_in mw_1320 ⟨Nat.le_of_ble_eq_true rfl, Nat.le_of_ble_eq_true rfl⟩ (As := [.long ((a1 : Int32).toInt64), .long (0), .long ((q44.2 27 54 : Int32).toInt64)]) rfl hl.1 rfl (lv_room (Nat.le_of_ble_eq_true rfl)) dX11_add_21 (fun H locs hP hS => ?_)
    refine lv_if_eq (tgt := 50) hx hb dX11_add_24 (by decide) (fun c49 => ?_) (fun c49 => ?_)
    · replace h := h_t c49 h
      refine lv_ldc hx hb C.2.2.2.1 (C.2.2.2.2.1 _ mw_1323) dX11_add_50 ?_
      exact ret_i C hr hlocks hP hS h dX11_add_52
    · replace h := h_f c49 h
      refine lv_iload_n hx hb dX11_add_27 rfl (lv_at hl 2 rfl) ?_
      refine lv_i2l hx hb dX11_add_28 rfl ?_
      refine lv_lconst (v := 0) hx hb dX11_add_29 (by decide) ?_
      refine lv_ldc2 hx hb C.2.2.2.1 (C.2.2.2.2.1 _ mw_1418) dX11_add_30 ?_
      obtain ⟨q50, e51, h⟩ := bnd h
      refine scall_i C hP hS (c_X11_in e51) ms_X11_in mw_1320 ⟨Nat.le_of_ble_eq_true rfl, Nat.le_of_ble_eq_true rfl⟩ (As := [.long ((a2 : Int32).toInt64), .long (0), .long (15)]) rfl hl.1 rfl (lv_room (Nat.le_of_ble_eq_true rfl)) dX11_add_33 (fun H locs hP hS => ?_)
      refine lv_if_eq (tgt := 50) hx hb dX11_add_36 (by decide) (fun c52 => ?_) (fun c52 => ?_)
      · replace h := h_t c52 h
        refine lv_ldc hx hb C.2.2.2.1 (C.2.2.2.2.1 _ mw_1323) dX11_add_50 ?_
        exact ret_i C hr hlocks hP hS h dX11_add_52
      · replace h := h_f c52 h
        refine lv_iload_n hx hb dX11_add_39 rfl (lv_at hl 3 rfl) ?_
        refine lv_iload hx hb dX11_add_40 (lv_at hl 4 rfl) ?_
        refine lv_iload hx hb dX11_add_42 (lv_at hl 5 rfl) ?_
        obtain ⟨q53, e54, h⟩ := bnd h
        refine scall_i C hP hS (c_X11_isUntil e54) ms_X11_isUntil mw_1462 ⟨Nat.le_of_ble_eq_true rfl, Nat.le_of_ble_eq_true rfl⟩ (As := [.int a3, .int a4, .int a5]) rfl hl.1 rfl (lv_room (Nat.le_of_ble_eq_true rfl)) dX11_add_44 (fun H locs hP hS => ?_)
        refine lv_if_ne (tgt := 53) hx hb dX11_add_47 (by decide) (fun c55 => ?_) (fun c55 => ?_)
        · replace h := h_f c55 h
          refine lv_aload_n hx hb dX11_add_53 rfl (lv_at hl 0 rfl) ?_
          refine gf_X11_7_26 C hP dX11_add_54 ?_
          refine lv_bipush (v := 54) hx hb dX11_add_57 (by decide) ?_
          refine r_aldc C hP 27 (by decide) rfl (j := 54) (by decide) (vp_in_iff.mpr (by decide)) dX11_add_59 ?_
          refine lv_bipush (v := 6) hx hb dX11_add_60 (by decide) ?_
          refine lv_icmp_ne (tgt := 68) hx hb dX11_add_62 (by decide) (fun c56 => ?_) (fun c56 => ?_)
          · replace h := h_f c56 h
            refine lv_aload_n hx hb dX11_add_68 rfl (lv_at hl 0 rfl) ?_
            obtain ⟨q57, e58, h⟩ := bnd h
            refine call_v C hP hS (c_X11_minds e58) mi_X11_minds mw_1424 26 (by decide) rfl rfl ⟨Nat.le_of_ble_eq_true rfl, Nat.le_of_ble_eq_true rfl⟩ (As := []) rfl hl.1 rfl (lv_room (Nat.le_of_ble_eq_true rfl)) dX11_add_69 (fun H locs hP hS => ?_)
            refine lv_iconst (v := 4) hx hb dX11_add_72 (by decide) ?_
            refine lv_aload_n hx hb dX11_add_73 rfl (lv_at hl 0 rfl) ?_
            refine gf_X11_7_26 C hP dX11_add_74 ?_
            refine lv_bipush (v := 54) hx hb dX11_add_77 (by decide) ?_
            refine r_aldc C hP 27 (by decide) rfl (j := 54) (by decide) (vp_in_iff.mpr (by decide)) dX11_add_79 ?_
            refine lv_imul hx hb dX11_add_80 ?_
            refine lv_iconst (v := 3) hx hb dX11_add_81 (by decide) ?_
            refine lv_iadd hx hb dX11_add_82 ?_
            obtain ⟨y59, e60, h⟩ := bnd h
            refine r_nm e60 ?_
            refine lv_istore (lv' := [(6, .int y59), (0, .ref (g_ad G 26)), (1, .int a1), (2, .int a2), (3, .int a3), (4, .int a4), (5, .int a5)]) hx hb dX11_add_83 hl (by decide) rfl (fun ls hl => ?_)
            exact L85 FU _ _ _ _ _ _ _ H locs ls h hP hS (lv_sub hl [1, 2, 3, 4, 5, 6, 0] rfl)
          · replace h := h_t c56 h
            refine lv_ldc hx hb C.2.2.2.1 (C.2.2.2.2.1 _ mw_1324) dX11_add_65 ?_
            exact ret_i C hr hlocks hP hS h dX11_add_67
        · replace h := h_t c55 h
          refine lv_ldc hx hb C.2.2.2.1 (C.2.2.2.2.1 _ mw_1323) dX11_add_50 ?_
          exact ret_i C hr hlocks hP hS h dX11_add_52
  · replace h := h_t c46 h
    refine lv_ldc hx hb C.2.2.2.1 (C.2.2.2.2.1 _ mw_1403) dX11_add_7 ?_
    exact ret_i C hr hlocks hP hS h dX11_add_9
set_option maxHeartbeats 4000000 in
set_option maxRecDepth 100000 in
theorem c_X11_cut {l : Launch} {G : GT} {lam : Lm} {σ : St} {a1 : Int32} {q : Int32 × St} (h : f_X11_cut σ a1 = some q) : Met l yX11_cut (Cond.code yX11_cut cX11_cut 3 ((some .int)) :: TB) ({ frames := 2, cells := 0, slots := 0, locals := 46 } : Room) (va_Pc [.ref (g_ad G 26), .int a1] (GW G lam σ)) (Ri q G lam) 0 0 (g_A G) := by
  refine mk_Qi (own := RX11) (by decide) (Nat.le_of_ble_eq_true rfl) rfl (fun p e s m args below meth c C hr hlocks hP ls hl => ?_)
  have hx := C.1
  have hb := C.2.1
  have hl : lv_has ls 3 [(0, .ref (g_ad G 26)), (1, .int a1)] := hl
  have L44 : ∀ (n44 : Nat) (σ : St) (x2 : Int32) (H : Heap) (locs : List Loc) (ls : Array Slot), fx (F_X11_cut_h44) z_X11_cut_h44 n44 σ x2 = some q → va_P (g_D G) vwCl (allW G lam σ) H → va_S (g_A G) s.heap H locs → lv_has ls 3 [(0, .ref (g_ad G 26)), (2, .int x2)] → W p l e ({ frames := 2, cells := 0, slots := 0, locals := 46 } : Room) s m args below meth c H locs 0 0 (Qi q below args s G lam) (F0 m 44 ls []) := by
    intro n44
    induction n44 with
    | zero => intro σ x2 H locs ls h hP hS hl; exact absurd h (by intro h9; cases h9)
    | succ n44 ih44 =>
      intro σ x2 H locs ls h hP hS hl
      change F_X11_cut_h44 (fx (F_X11_cut_h44) z_X11_cut_h44 n44) σ x2 = some q at h
      unfold F_X11_cut_h44 at h
      refine lv_iload_n hx hb dX11_cut_44 rfl (lv_at hl 1 rfl) ?_
      refine lv_iconst (v := 4) hx hb dX11_cut_45 (by decide) ?_
      refine lv_aload_n hx hb dX11_cut_46 rfl (lv_at hl 0 rfl) ?_
      refine gf_X11_7_26 C hP dX11_cut_47 ?_
      refine lv_bipush (v := 54) hx hb dX11_cut_50 (by decide) ?_
      refine r_aldc C hP 27 (by decide) rfl (j := 54) (by decide) (vp_in_iff.mpr (by decide)) dX11_cut_52 ?_
      refine lv_imul hx hb dX11_cut_53 ?_
      refine lv_icmp_ge (tgt := 83) hx hb dX11_cut_54 (by decide) (fun c16 => ?_) (fun c16 => ?_)
      · replace h := h_t c16 h
        refine lv_aload_n hx hb dX11_cut_83 rfl (lv_at hl 0 rfl) ?_
        refine gf_X11_7_26 C hP dX11_cut_84 ?_
        refine lv_bipush (v := 54) hx hb dX11_cut_87 (by decide) ?_
        refine r_aldc C hP 27 (by decide) rfl (j := 54) (by decide) (vp_in_iff.mpr (by decide)) dX11_cut_89 ?_
        exact ret_i C hr hlocks hP hS h dX11_cut_90
      · replace h := h_f c16 h
        refine lv_aload_n hx hb dX11_cut_57 rfl (lv_at hl 0 rfl) ?_
        refine gf_X11_7_26 C hP dX11_cut_58 ?_
        refine lv_bipush (v := 55) hx hb dX11_cut_61 (by decide) ?_
        refine lv_iload_n hx hb dX11_cut_63 rfl (lv_at hl 1 rfl) ?_
        refine lv_iadd hx hb dX11_cut_64 ?_
        refine lv_aload_n hx hb dX11_cut_65 rfl (lv_at hl 0 rfl) ?_
        refine gf_X11_7_26 C hP dX11_cut_66 ?_
        refine lv_bipush (v := 55) hx hb dX11_cut_69 (by decide) ?_
        refine lv_iload_n hx hb dX11_cut_71 rfl (lv_at hl 1 rfl) ?_
        refine lv_iadd hx hb dX11_cut_72 ?_
        refine lv_iconst (v := 4) hx hb dX11_cut_73 (by decide) ?_
        refine lv_iadd hx hb dX11_cut_74 ?_
        obtain ⟨g17, h⟩ := h_g h
        refine r_ald C hP 27 (by decide) rfl (vp_in_iff.mpr g17) dX11_cut_75 ?_
        obtain ⟨g18, h⟩ := h_g h
        refine r_ast C hP hS 27 (by decide) (fun _ => rfl) (vp_in_iff.mpr g18) dX11_cut_76 (fun H locs hP hS => ?_)
        obtain ⟨σ19, e20, h⟩ := bnd h
        have hP := hPn e20 hP
        obtain ⟨y21, e22, h⟩ := bnd h
        refine lv_iinc (v := y21) (lv' := [(2, .int y21), (0, .ref (g_ad G 26))]) hx hb dX11_cut_77 hl (k := 1) rfl (Option.some.inj e22) (by decide) rfl (fun ls hl => ?_)
        refine lv_goto (tgt := 44) hx hb dX11_cut_80 (by decide) ?_
        exact ih44 _ _ H locs ls h hP hS (lv_sub hl [1, 0] rfl)
  have hS : va_S (g_A G) s.heap s.heap [] := va_S.rf
  unfold f_X11_cut at h
  obtain ⟨H, hH⟩ : ∃ H, H = s.heap := ⟨_, rfl⟩
  obtain ⟨locs, hlo⟩ : ∃ k : List Loc, k = [] := ⟨_, rfl⟩
  rw [← hH, ← hlo]
  rw [← hH] at hP
  replace hS : va_S (g_A G) s.heap H locs := by rw [hH, hlo]; exact hS
  refine lv_aload_n hx hb dX11_cut_0 rfl (lv_at hl 0 rfl) ?_
  refine lv_iload_n hx hb dX11_cut_1 rfl (lv_at hl 1 rfl) ?_
  obtain ⟨q23, e24, h⟩ := bnd h
  refine call_i C hP hS (c_X11_isLeg e24) mi_X11_isLeg mw_1454 26 (by decide) rfl rfl ⟨Nat.le_of_ble_eq_true rfl, Nat.le_of_ble_eq_true rfl⟩ (As := [.int a1]) rfl hl.1 rfl (lv_room (Nat.le_of_ble_eq_true rfl)) dX11_cut_2 (fun H locs hP hS => ?_)
  refine lv_if_ne (tgt := 11) hx hb dX11_cut_5 (by decide) (fun c25 => ?_) (fun c25 => ?_)
  · replace h := h_f c25 h
    refine lv_aload_n hx hb dX11_cut_11 rfl (lv_at hl 0 rfl) ?_
    refine gf_X11_7_26 C hP dX11_cut_12 ?_
    refine lv_bipush (v := 54) hx hb dX11_cut_15 (by decide) ?_
    refine r_aldc C hP 27 (by decide) rfl (j := 54) (by decide) (vp_in_iff.mpr (by decide)) dX11_cut_17 ?_
    refine lv_iconst (v := 1) hx hb dX11_cut_18 (by decide) ?_
    refine lv_icmp_ne (tgt := 25) hx hb dX11_cut_19 (by decide) (fun c26 => ?_) (fun c26 => ?_)
    · replace h := h_f c26 h
      refine lv_aload_n hx hb dX11_cut_25 rfl (lv_at hl 0 rfl) ?_
      obtain ⟨q27, e28, h⟩ := bnd h
      refine call_v C hP hS (c_X11_minds e28) mi_X11_minds mw_1424 26 (by decide) rfl rfl ⟨Nat.le_of_ble_eq_true rfl, Nat.le_of_ble_eq_true rfl⟩ (As := []) rfl hl.1 rfl (lv_room (Nat.le_of_ble_eq_true rfl)) dX11_cut_26 (fun H locs hP hS => ?_)
      refine lv_aload_n hx hb dX11_cut_29 rfl (lv_at hl 0 rfl) ?_
      refine gf_X11_7_26 C hP dX11_cut_30 ?_
      refine lv_bipush (v := 54) hx hb dX11_cut_33 (by decide) ?_
      refine lv_dup2_11 hx hb dX11_cut_35 rfl rfl ?_
      refine r_aldc C hP 27 (by decide) rfl (j := 54) (by decide) (vp_in_iff.mpr (by decide)) dX11_cut_36 ?_
      refine lv_iconst (v := 1) hx hb dX11_cut_37 (by decide) ?_
      refine lv_isub hx hb dX11_cut_38 ?_
      refine r_astc C hP hS 27 (by decide) (fun _ => rfl) (j := 54) (by decide) (vp_in_iff.mpr (by decide)) dX11_cut_39 (fun H locs hP hS => ?_)
      obtain ⟨σ29, e30, h⟩ := bnd h
      have hP := hPn e30 hP
      refine lv_iconst (v := 4) hx hb dX11_cut_40 (by decide) ?_
      refine lv_iload_n hx hb dX11_cut_41 rfl (lv_at hl 1 rfl) ?_
      refine lv_imul hx hb dX11_cut_42 ?_
      obtain ⟨y31, e32, h⟩ := bnd h
      refine r_nm e32 ?_
      refine lv_istore_n (lv' := [(2, .int y31), (0, .ref (g_ad G 26)), (1, .int a1)]) hx hb dX11_cut_43 rfl hl (by decide) rfl (fun ls hl => ?_)
      exact L44 FU _ _ H locs ls h hP hS (lv_sub hl [1, 0] rfl)
    · replace h := h_t c26 h
      refine lv_ldc hx hb C.2.2.2.1 (C.2.2.2.2.1 _ mw_1403) dX11_cut_22 ?_
      exact ret_i C hr hlocks hP hS h dX11_cut_24
  · replace h := h_t c25 h
    refine lv_ldc hx hb C.2.2.2.1 (C.2.2.2.2.1 _ mw_1323) dX11_cut_8 ?_
    exact ret_i C hr hlocks hP hS h dX11_cut_10
set_option maxHeartbeats 4000000 in
set_option maxRecDepth 100000 in
theorem c_X11_thing {l : Launch} {G : GT} {lam : Lm} {σ : St} {a1 : Int32} {a2 : Int32} {q : Int32 × St} (h : f_X11_thing σ a1 a2 = some q) : Met l yX11_thing (Cond.code yX11_thing cX11_thing 3 ((some .int)) :: TB) ({ frames := 2, cells := 0, slots := 0, locals := 46 } : Room) (va_Pc [.ref (g_ad G 26), .int a1, .int a2] (GW G lam σ)) (Ri q G lam) 0 0 (g_A G) := by
  refine mk_Qi (own := RX11) (by decide) (Nat.le_of_ble_eq_true rfl) rfl (fun p e s m args below meth c C hr hlocks hP ls hl => ?_)
  have hx := C.1
  have hb := C.2.1
  have hl : lv_has ls 3 [(0, .ref (g_ad G 26)), (1, .int a1), (2, .int a2)] := hl
  have hS : va_S (g_A G) s.heap s.heap [] := va_S.rf
  unfold f_X11_thing at h
  refine lv_aload_n hx hb dX11_thing_0 rfl (lv_at hl 0 rfl) ?_
  refine lv_iload_n hx hb dX11_thing_1 rfl (lv_at hl 1 rfl) ?_
  obtain ⟨q9, e10, h⟩ := bnd h
  refine call_i C hP hS (c_X11_isThing e10) mi_X11_isThing mw_1412 26 (by decide) rfl rfl ⟨Nat.le_of_ble_eq_true rfl, Nat.le_of_ble_eq_true rfl⟩ (As := [.int a1]) rfl hl.1 rfl (lv_room (Nat.le_of_ble_eq_true rfl)) dX11_thing_2 (fun H locs hP hS => ?_)
  refine lv_if_eq (tgt := 20) hx hb dX11_thing_5 (by decide) (fun c11 => ?_) (fun c11 => ?_)
  · replace h := h_t c11 h
    refine lv_ldc hx hb C.2.2.2.1 (C.2.2.2.2.1 _ mw_1323) dX11_thing_20 ?_
    refine lv_goto (tgt := 31) hx hb dX11_thing_22 (by decide) ?_
    exact ret_i C hr hlocks hP hS h dX11_thing_31
  · replace h := h_f c11 h
    refine lv_iload_n hx hb dX11_thing_8 rfl (lv_at hl 2 rfl) ?_
    refine lv_i2l hx hb dX11_thing_9 rfl ?_
    refine lv_lconst (v := 0) hx hb dX11_thing_10 (by decide) ?_
    refine lv_ldc2 hx hb C.2.2.2.1 (C.2.2.2.2.1 _ mw_1445) dX11_thing_11 ?_
    obtain ⟨q12, e13, h⟩ := bnd h
    refine scall_i C hP hS (c_X11_in e13) ms_X11_in mw_1320 ⟨Nat.le_of_ble_eq_true rfl, Nat.le_of_ble_eq_true rfl⟩ (As := [.long ((a2 : Int32).toInt64), .long (0), .long (4)]) rfl hl.1 rfl (lv_room (Nat.le_of_ble_eq_true rfl)) dX11_thing_14 (fun H locs hP hS => ?_)
    refine lv_if_ne (tgt := 25) hx hb dX11_thing_17 (by decide) (fun c14 => ?_) (fun c14 => ?_)
    · replace h := h_f c14 h
      refine lv_aload_n hx hb dX11_thing_25 rfl (lv_at hl 0 rfl) ?_
      refine lv_iload_n hx hb dX11_thing_26 rfl (lv_at hl 1 rfl) ?_
      refine lv_iload_n hx hb dX11_thing_27 rfl (lv_at hl 2 rfl) ?_
      obtain ⟨q15, e16, h⟩ := bnd h
      refine call_i C hP hS (c_X11_of e16) mi_X11_of mw_1433 26 (by decide) rfl rfl ⟨Nat.le_of_ble_eq_true rfl, Nat.le_of_ble_eq_true rfl⟩ (As := [.int a1, .int a2]) rfl hl.1 rfl (lv_room (Nat.le_of_ble_eq_true rfl)) dX11_thing_28 (fun H locs hP hS => ?_)
      exact ret_i C hr hlocks hP hS h dX11_thing_31
    · replace h := h_t c14 h
      refine lv_ldc hx hb C.2.2.2.1 (C.2.2.2.2.1 _ mw_1323) dX11_thing_20 ?_
      refine lv_goto (tgt := 31) hx hb dX11_thing_22 (by decide) ?_
      exact ret_i C hr hlocks hP hS h dX11_thing_31
set_option maxHeartbeats 4000000 in
set_option maxRecDepth 100000 in
theorem c_X11_leg {l : Launch} {G : GT} {lam : Lm} {σ : St} {a1 : Int32} {a2 : Int32} {q : Int32 × St} (h : f_X11_leg σ a1 a2 = some q) : Met l yX11_leg (Cond.code yX11_leg cX11_leg 3 ((some .int)) :: TB) ({ frames := 2, cells := 0, slots := 0, locals := 46 } : Room) (va_Pc [.ref (g_ad G 26), .int a1, .int a2] (GW G lam σ)) (Ri q G lam) 0 0 (g_A G) := by
  refine mk_Qi (own := RX11) (by decide) (Nat.le_of_ble_eq_true rfl) rfl (fun p e s m args below meth c C hr hlocks hP ls hl => ?_)
  have hx := C.1
  have hb := C.2.1
  have hl : lv_has ls 3 [(0, .ref (g_ad G 26)), (1, .int a1), (2, .int a2)] := hl
  have hS : va_S (g_A G) s.heap s.heap [] := va_S.rf
  unfold f_X11_leg at h
  refine lv_aload_n hx hb dX11_leg_0 rfl (lv_at hl 0 rfl) ?_
  refine lv_iload_n hx hb dX11_leg_1 rfl (lv_at hl 1 rfl) ?_
  obtain ⟨q8, e9, h⟩ := bnd h
  refine call_i C hP hS (c_X11_isLeg e9) mi_X11_isLeg mw_1454 26 (by decide) rfl rfl ⟨Nat.le_of_ble_eq_true rfl, Nat.le_of_ble_eq_true rfl⟩ (As := [.int a1]) rfl hl.1 rfl (lv_room (Nat.le_of_ble_eq_true rfl)) dX11_leg_2 (fun H locs hP hS => ?_)
  refine lv_if_eq (tgt := 20) hx hb dX11_leg_5 (by decide) (fun c10 => ?_) (fun c10 => ?_)
  · replace h := h_t c10 h
    refine lv_ldc hx hb C.2.2.2.1 (C.2.2.2.2.1 _ mw_1323) dX11_leg_20 ?_
    refine lv_goto (tgt := 38) hx hb dX11_leg_22 (by decide) ?_
    exact ret_i C hr hlocks hP hS h dX11_leg_38
  · replace h := h_f c10 h
    refine lv_iload_n hx hb dX11_leg_8 rfl (lv_at hl 2 rfl) ?_
    refine lv_i2l hx hb dX11_leg_9 rfl ?_
    refine lv_lconst (v := 0) hx hb dX11_leg_10 (by decide) ?_
    refine lv_ldc2 hx hb C.2.2.2.1 (C.2.2.2.2.1 _ mw_1416) dX11_leg_11 ?_
    obtain ⟨q11, e12, h⟩ := bnd h
    refine scall_i C hP hS (c_X11_in e12) ms_X11_in mw_1320 ⟨Nat.le_of_ble_eq_true rfl, Nat.le_of_ble_eq_true rfl⟩ (As := [.long ((a2 : Int32).toInt64), .long (0), .long (3)]) rfl hl.1 rfl (lv_room (Nat.le_of_ble_eq_true rfl)) dX11_leg_14 (fun H locs hP hS => ?_)
    refine lv_if_ne (tgt := 25) hx hb dX11_leg_17 (by decide) (fun c13 => ?_) (fun c13 => ?_)
    · replace h := h_f c13 h
      refine lv_aload_n hx hb dX11_leg_25 rfl (lv_at hl 0 rfl) ?_
      refine gf_X11_7_26 C hP dX11_leg_26 ?_
      refine lv_bipush (v := 55) hx hb dX11_leg_29 (by decide) ?_
      refine lv_iconst (v := 4) hx hb dX11_leg_31 (by decide) ?_
      refine lv_iload_n hx hb dX11_leg_32 rfl (lv_at hl 1 rfl) ?_
      refine lv_imul hx hb dX11_leg_33 ?_
      refine lv_iadd hx hb dX11_leg_34 ?_
      refine lv_iload_n hx hb dX11_leg_35 rfl (lv_at hl 2 rfl) ?_
      refine lv_iadd hx hb dX11_leg_36 ?_
      obtain ⟨g14, h⟩ := h_g h
      refine r_ald C hP 27 (by decide) rfl (vp_in_iff.mpr g14) dX11_leg_37 ?_
      exact ret_i C hr hlocks hP hS h dX11_leg_38
    · replace h := h_t c13 h
      refine lv_ldc hx hb C.2.2.2.1 (C.2.2.2.2.1 _ mw_1323) dX11_leg_20 ?_
      refine lv_goto (tgt := 38) hx hb dX11_leg_22 (by decide) ?_
      exact ret_i C hr hlocks hP hS h dX11_leg_38
set_option maxHeartbeats 4000000 in
set_option maxRecDepth 100000 in
theorem c_X11_tideAt {l : Launch} {G : GT} {lam : Lm} {σ : St} {a1 : Int32} {q : Int32 × St} (h : f_X11_tideAt σ a1 = some q) : Met l yX11_tideAt (Cond.code yX11_tideAt cX11_tideAt 5 ((some .int)) :: TB) ({ frames := 0, cells := 0, slots := 0, locals := 0 } : Room) (va_Pc [.ref (g_ad G 26), .int a1] (GW G lam σ)) (Ri q G lam) 0 0 (g_A G) := by
  refine mk_Qi (own := RX11) (by decide) (Nat.le_of_ble_eq_true rfl) rfl (fun p e s m args below meth c C hr hlocks hP ls hl => ?_)
  have hx := C.1
  have hb := C.2.1
  have hl : lv_has ls 5 [(0, .ref (g_ad G 26)), (1, .int a1)] := hl
  have hS : va_S (g_A G) s.heap s.heap [] := va_S.rf
  unfold f_X11_tideAt at h
  refine lv_aload_n hx hb dX11_tideAt_0 rfl (lv_at hl 0 rfl) ?_
  refine gf_X11_7_26 C hP dX11_tideAt_1 ?_
  refine lv_bipush (v := 6) hx hb dX11_tideAt_4 (by decide) ?_
  refine r_aldc C hP 27 (by decide) rfl (j := 6) (by decide) (vp_in_iff.mpr (by decide)) dX11_tideAt_6 ?_
  obtain ⟨y5, e6, h⟩ := bnd h
  refine r_nm e6 ?_
  refine lv_istore_n (lv' := [(2, .int y5), (0, .ref (g_ad G 26)), (1, .int a1)]) hx hb dX11_tideAt_7 rfl hl (by decide) rfl (fun ls hl => ?_)
  refine lv_aload_n hx hb dX11_tideAt_8 rfl (lv_at hl 1 rfl) ?_
  refine gf_X11_7_26 C hP dX11_tideAt_9 ?_
  refine lv_bipush (v := 7) hx hb dX11_tideAt_12 (by decide) ?_
  refine lv_iload_n hx hb dX11_tideAt_14 rfl (lv_at hl 2 rfl) ?_
  refine lv_bipush (v := 10) hx hb dX11_tideAt_15 (by decide) ?_
  refine lv_idiv hx hb dX11_tideAt_17 (by decide) ?_
  refine lv_iload_n hx hb dX11_tideAt_18 rfl (lv_at hl 0 rfl) ?_
  obtain ⟨g7, h⟩ := h_nz h
  refine lv_irem hx hb dX11_tideAt_19 g7 ?_
  refine lv_iadd hx hb dX11_tideAt_20 ?_
  obtain ⟨g8, h⟩ := h_g h
  refine r_ald C hP 27 (by decide) rfl (vp_in_iff.mpr g8) dX11_tideAt_21 ?_
  obtain ⟨y9, e10, h⟩ := bnd h
  refine r_nm e10 ?_
  refine lv_istore_n (lv' := [(3, .int y9), (2, .int y5), (0, .ref (g_ad G 26)), (1, .int a1)]) hx hb dX11_tideAt_22 rfl hl (by decide) rfl (fun ls hl => ?_)
  refine lv_aload_n hx hb dX11_tideAt_23 rfl (lv_at hl 2 rfl) ?_
  refine gf_X11_7_26 C hP dX11_tideAt_24 ?_
  refine lv_bipush (v := 7) hx hb dX11_tideAt_27 (by decide) ?_
  refine lv_iload_n hx hb dX11_tideAt_29 rfl (lv_at hl 3 rfl) ?_
  refine lv_bipush (v := 10) hx hb dX11_tideAt_30 (by decide) ?_
  refine lv_idiv hx hb dX11_tideAt_32 (by decide) ?_
  refine lv_iconst (v := 1) hx hb dX11_tideAt_33 (by decide) ?_
  refine lv_iadd hx hb dX11_tideAt_34 ?_
  refine lv_iload_n hx hb dX11_tideAt_35 rfl (lv_at hl 1 rfl) ?_
  obtain ⟨g11, h⟩ := h_nz h
  refine lv_irem hx hb dX11_tideAt_36 g11 ?_
  refine lv_iadd hx hb dX11_tideAt_37 ?_
  obtain ⟨g12, h⟩ := h_g h
  refine r_ald C hP 27 (by decide) rfl (vp_in_iff.mpr g12) dX11_tideAt_38 ?_
  obtain ⟨y13, e14, h⟩ := bnd h
  refine r_nm e14 ?_
  refine lv_istore (lv' := [(4, .int y13), (3, .int y9), (2, .int y5), (0, .ref (g_ad G 26)), (1, .int a1)]) hx hb dX11_tideAt_39 hl (by decide) rfl (fun ls hl => ?_)
  refine lv_iload_n hx hb dX11_tideAt_41 rfl (lv_at hl 1 rfl) ?_
  refine lv_iload hx hb dX11_tideAt_42 (lv_at hl 0 rfl) ?_
  refine lv_iload_n hx hb dX11_tideAt_44 rfl (lv_at hl 1 rfl) ?_
  refine lv_isub hx hb dX11_tideAt_45 ?_
  refine lv_iload_n hx hb dX11_tideAt_46 rfl (lv_at hl 4 rfl) ?_
  refine lv_bipush (v := 10) hx hb dX11_tideAt_47 (by decide) ?_
  refine lv_irem hx hb dX11_tideAt_49 (by decide) ?_
  refine lv_imul hx hb dX11_tideAt_50 ?_
  refine lv_bipush (v := 10) hx hb dX11_tideAt_51 (by decide) ?_
  refine lv_idiv hx hb dX11_tideAt_53 (by decide) ?_
  refine lv_iadd hx hb dX11_tideAt_54 ?_
  exact ret_i C hr hlocks hP hS h dX11_tideAt_55
set_option maxHeartbeats 4000000 in
set_option maxRecDepth 100000 in
theorem c_X11_square {l : Launch} {G : GT} {lam : Lm} {σ : St} {a1 : Int32} {a2 : Int32} {q : Int32 × St} (h : f_X11_square σ a1 a2 = some q) : Met l yX11_square (Cond.code yX11_square cX11_square 2 ((some .int)) :: TB) ({ frames := 0, cells := 0, slots := 0, locals := 0 } : Room) (va_Pc [.int a1, .int a2] (GW G lam σ)) (Ri q G lam) 0 0 (g_A G) := by
  refine mk_Qi (own := RX11) (by decide) (Nat.le_of_ble_eq_true rfl) rfl (fun p e s m args below meth c C hr hlocks hP ls hl => ?_)
  have hx := C.1
  have hb := C.2.1
  have hl : lv_has ls 2 [(0, .int a1), (1, .int a2)] := hl
  have hS : va_S (g_A G) s.heap s.heap [] := va_S.rf
  unfold f_X11_square at h
  refine lv_iload_n hx hb dX11_square_0 rfl (lv_at hl 0 rfl) ?_
  refine lv_iload_n hx hb dX11_square_1 rfl (lv_at hl 0 rfl) ?_
  refine lv_imul hx hb dX11_square_2 ?_
  refine lv_iload_n hx hb dX11_square_3 rfl (lv_at hl 1 rfl) ?_
  refine lv_iload_n hx hb dX11_square_4 rfl (lv_at hl 1 rfl) ?_
  refine lv_imul hx hb dX11_square_5 ?_
  refine lv_iadd hx hb dX11_square_6 ?_
  exact ret_i C hr hlocks hP hS h dX11_square_7
set_option maxHeartbeats 4000000 in
set_option maxRecDepth 100000 in
theorem c_X11_plain {l : Launch} {G : GT} {lam : Lm} {σ : St} {a1 : Int32} {q : Int32 × St} (h : f_X11_plain σ a1 = some q) : Met l yX11_plain (Cond.code yX11_plain cX11_plain 1 ((some .int)) :: TB) ({ frames := 0, cells := 0, slots := 0, locals := 0 } : Room) (va_Pc [.int a1] (GW G lam σ)) (Ri q G lam) 0 0 (g_A G) := by
  refine mk_Qi (own := RX11) (by decide) (Nat.le_of_ble_eq_true rfl) rfl (fun p e s m args below meth c C hr hlocks hP ls hl => ?_)
  have hx := C.1
  have hb := C.2.1
  have hl : lv_has ls 1 [(0, .int a1)] := hl
  have hS : va_S (g_A G) s.heap s.heap [] := va_S.rf
  unfold f_X11_plain at h
  refine lv_iload_n hx hb dX11_plain_0 rfl (lv_at hl 0 rfl) ?_
  refine lv_if_ge (tgt := 9) hx hb dX11_plain_1 (by decide) (fun c2 => ?_) (fun c2 => ?_)
  · replace h := h_t c2 h
    refine lv_iload_n hx hb dX11_plain_9 rfl (lv_at hl 0 rfl) ?_
    exact ret_i C hr hlocks hP hS h dX11_plain_10
  · replace h := h_f c2 h
    refine lv_iload_n hx hb dX11_plain_4 rfl (lv_at hl 0 rfl) ?_
    refine lv_ineg hx hb dX11_plain_5 ?_
    refine lv_goto (tgt := 10) hx hb dX11_plain_6 (by decide) ?_
    exact ret_i C hr hlocks hP hS h dX11_plain_10
set_option maxHeartbeats 4000000 in
set_option maxRecDepth 100000 in
theorem c_X11_isMark {l : Launch} {G : GT} {lam : Lm} {σ : St} {a1 : Int32} {q : Int32 × St} (h : f_X11_isMark σ a1 = some q) : Met l yX11_isMark (Cond.code yX11_isMark cX11_isMark 2 ((some .boolean)) :: TB) ({ frames := 2, cells := 0, slots := 0, locals := 46 } : Room) (va_Pc [.ref (g_ad G 26), .int a1] (GW G lam σ)) (Ri q G lam) 0 0 (g_A G) := by
  refine mk_Qi (own := RX11) (by decide) (Nat.le_of_ble_eq_true rfl) rfl (fun p e s m args below meth c C hr hlocks hP ls hl => ?_)
  have hx := C.1
  have hb := C.2.1
  have hl : lv_has ls 2 [(0, .ref (g_ad G 26)), (1, .int a1)] := hl
  have hS : va_S (g_A G) s.heap s.heap [] := va_S.rf
  unfold f_X11_isMark at h
  refine lv_aload_n hx hb dX11_isMark_0 rfl (lv_at hl 0 rfl) ?_
  refine lv_iload_n hx hb dX11_isMark_1 rfl (lv_at hl 1 rfl) ?_
  obtain ⟨q7, e8, h⟩ := bnd h
  refine call_i C hP hS (c_X11_isThing e8) mi_X11_isThing mw_1412 26 (by decide) rfl rfl ⟨Nat.le_of_ble_eq_true rfl, Nat.le_of_ble_eq_true rfl⟩ (As := [.int a1]) rfl hl.1 rfl (lv_room (Nat.le_of_ble_eq_true rfl)) dX11_isMark_2 (fun H locs hP hS => ?_)
  refine lv_if_eq (tgt := 22) hx hb dX11_isMark_5 (by decide) (fun c9 => ?_) (fun c9 => ?_)
  · replace h := h_t c9 h
    refine lv_iconst (v := 0) hx hb dX11_isMark_22 (by decide) ?_
    exact ret_z C hr hlocks hP hS h (Or.inl rfl) dX11_isMark_23
  · replace h := h_f c9 h
    refine lv_aload_n hx hb dX11_isMark_8 rfl (lv_at hl 0 rfl) ?_
    refine lv_iload_n hx hb dX11_isMark_9 rfl (lv_at hl 1 rfl) ?_
    refine lv_iconst (v := 0) hx hb dX11_isMark_10 (by decide) ?_
    obtain ⟨q10, e11, h⟩ := bnd h
    refine call_i C hP hS (c_X11_of e11) mi_X11_of mw_1433 26 (by decide) rfl rfl ⟨Nat.le_of_ble_eq_true rfl, Nat.le_of_ble_eq_true rfl⟩ (As := [.int a1, .int 0]) rfl hl.1 rfl (lv_room (Nat.le_of_ble_eq_true rfl)) dX11_isMark_11 (fun H locs hP hS => ?_)
    refine lv_iconst (v := 3) hx hb dX11_isMark_14 (by decide) ?_
    refine lv_icmp_gt (tgt := 22) hx hb dX11_isMark_15 (by decide) (fun c12 => ?_) (fun c12 => ?_)
    · replace h := h_t c12 h
      refine lv_iconst (v := 0) hx hb dX11_isMark_22 (by decide) ?_
      exact ret_z C hr hlocks hP hS h (Or.inl rfl) dX11_isMark_23
    · replace h := h_f c12 h
      refine lv_iconst (v := 1) hx hb dX11_isMark_18 (by decide) ?_
      refine lv_goto (tgt := 23) hx hb dX11_isMark_19 (by decide) ?_
      exact ret_z C hr hlocks hP hS h (Or.inr rfl) dX11_isMark_23
set_option maxHeartbeats 4000000 in
set_option maxRecDepth 100000 in
theorem c_X11_isShoal {l : Launch} {G : GT} {lam : Lm} {σ : St} {a1 : Int32} {q : Int32 × St} (h : f_X11_isShoal σ a1 = some q) : Met l yX11_isShoal (Cond.code yX11_isShoal cX11_isShoal 2 ((some .boolean)) :: TB) ({ frames := 1, cells := 0, slots := 0, locals := 22 } : Room) (va_Pc [.ref (g_ad G 26), .int a1] (GW G lam σ)) (Ri q G lam) 0 0 (g_A G) := by
  refine mk_Qi (own := RX11) (by decide) (Nat.le_of_ble_eq_true rfl) rfl (fun p e s m args below meth c C hr hlocks hP ls hl => ?_)
  have hx := C.1
  have hb := C.2.1
  have hl : lv_has ls 2 [(0, .ref (g_ad G 26)), (1, .int a1)] := hl
  have hS : va_S (g_A G) s.heap s.heap [] := va_S.rf
  unfold f_X11_isShoal at h
  refine lv_aload_n hx hb dX11_isShoal_0 rfl (lv_at hl 0 rfl) ?_
  refine lv_iload_n hx hb dX11_isShoal_1 rfl (lv_at hl 1 rfl) ?_
  refine lv_iconst (v := 0) hx hb dX11_isShoal_2 (by decide) ?_
  obtain ⟨q4, e5, h⟩ := bnd h
  refine call_i C hP hS (c_X11_of e5) mi_X11_of mw_1433 26 (by decide) rfl rfl ⟨Nat.le_of_ble_eq_true rfl, Nat.le_of_ble_eq_true rfl⟩ (As := [.int a1, .int 0]) rfl hl.1 rfl (lv_room (Nat.le_of_ble_eq_true rfl)) dX11_isShoal_3 (fun H locs hP hS => ?_)
  refine lv_iconst (v := 4) hx hb dX11_isShoal_6 (by decide) ?_
  refine lv_icmp_lt (tgt := 14) hx hb dX11_isShoal_7 (by decide) (fun c6 => ?_) (fun c6 => ?_)
  · replace h := h_t c6 h
    refine lv_iconst (v := 0) hx hb dX11_isShoal_14 (by decide) ?_
    exact ret_z C hr hlocks hP hS h (Or.inl rfl) dX11_isShoal_15
  · replace h := h_f c6 h
    refine lv_iconst (v := 1) hx hb dX11_isShoal_10 (by decide) ?_
    refine lv_goto (tgt := 15) hx hb dX11_isShoal_11 (by decide) ?_
    exact ret_z C hr hlocks hP hS h (Or.inr rfl) dX11_isShoal_15
set_option maxHeartbeats 4000000 in
set_option maxRecDepth 100000 in
theorem c_X11_lies {l : Launch} {G : GT} {lam : Lm} {σ : St} {a1 : Int32} {a2 : Int32} {a3 : Int32} {q : Int32 × St} (h : f_X11_lies σ a1 a2 a3 = some q) : Met l yX11_lies (Cond.code yX11_lies cX11_lies 7 ((some .boolean)) :: TB) ({ frames := 1, cells := 0, slots := 0, locals := 22 } : Room) (va_Pc [.ref (g_ad G 26), .int a1, .int a2, .int a3] (GW G lam σ)) (Ri q G lam) 0 0 (g_A G) := by
  refine mk_Qi (own := RX11) (by decide) (Nat.le_of_ble_eq_true rfl) rfl (fun p e s m args below meth c C hr hlocks hP ls hl => ?_)
  have hx := C.1
  have hb := C.2.1
  have hl : lv_has ls 7 [(0, .ref (g_ad G 26)), (1, .int a1), (2, .int a2), (3, .int a3)] := hl
  have hS : va_S (g_A G) s.heap s.heap [] := va_S.rf
  unfold f_X11_lies at h
  refine lv_iload_n hx hb dX11_lies_0 rfl (lv_at hl 2 rfl) ?_
  refine lv_aload_n hx hb dX11_lies_1 rfl (lv_at hl 0 rfl) ?_
  refine lv_iload_n hx hb dX11_lies_2 rfl (lv_at hl 1 rfl) ?_
  refine lv_iconst (v := 1) hx hb dX11_lies_3 (by decide) ?_
  obtain ⟨q19, e20, h⟩ := bnd h
  refine call_i C hP hS (c_X11_of e20) mi_X11_of mw_1433 26 (by decide) rfl rfl ⟨Nat.le_of_ble_eq_true rfl, Nat.le_of_ble_eq_true rfl⟩ (As := [.int a1, .int 1]) rfl hl.1 rfl (lv_room (Nat.le_of_ble_eq_true rfl)) dX11_lies_4 (fun H locs hP hS => ?_)
  refine lv_isub hx hb dX11_lies_7 ?_
  obtain ⟨q21, e22, h⟩ := bnd h
  refine scall_i C hP hS (c_X11_plain e22) ms_X11_plain mw_1521 ⟨Nat.le_of_ble_eq_true rfl, Nat.le_of_ble_eq_true rfl⟩ (As := [.int (a2 - q19.1)]) rfl hl.1 rfl (lv_room (Nat.le_of_ble_eq_true rfl)) dX11_lies_8 (fun H locs hP hS => ?_)
  refine lv_istore (lv' := [(4, .int q21.1), (0, .ref (g_ad G 26)), (1, .int a1), (2, .int a2), (3, .int a3)]) hx hb dX11_lies_11 hl (by decide) rfl (fun ls hl => ?_)
  refine lv_iload_n hx hb dX11_lies_13 rfl (lv_at hl 4 rfl) ?_
  refine lv_aload_n hx hb dX11_lies_14 rfl (lv_at hl 1 rfl) ?_
  refine lv_iload_n hx hb dX11_lies_15 rfl (lv_at hl 2 rfl) ?_
  refine lv_iconst (v := 2) hx hb dX11_lies_16 (by decide) ?_
  obtain ⟨q23, e24, h⟩ := bnd h
  refine call_i C hP hS (c_X11_of e24) mi_X11_of mw_1433 26 (by decide) rfl rfl ⟨Nat.le_of_ble_eq_true rfl, Nat.le_of_ble_eq_true rfl⟩ (As := [.int a1, .int 2]) rfl hl.1 rfl (lv_room (Nat.le_of_ble_eq_true rfl)) dX11_lies_17 (fun H locs hP hS => ?_)
  refine lv_isub hx hb dX11_lies_20 ?_
  obtain ⟨q25, e26, h⟩ := bnd h
  refine scall_i C hP hS (c_X11_plain e26) ms_X11_plain mw_1521 ⟨Nat.le_of_ble_eq_true rfl, Nat.le_of_ble_eq_true rfl⟩ (As := [.int (a3 - q23.1)]) rfl hl.1 rfl (lv_room (Nat.le_of_ble_eq_true rfl)) dX11_lies_21 (fun H locs hP hS => ?_)
  refine lv_istore (lv' := [(5, .int q25.1), (4, .int q21.1), (0, .ref (g_ad G 26)), (1, .int a1), (2, .int a2), (3, .int a3)]) hx hb dX11_lies_24 hl (by decide) rfl (fun ls hl => ?_)
  refine lv_aload_n hx hb dX11_lies_26 rfl (lv_at hl 2 rfl) ?_
  refine lv_iload_n hx hb dX11_lies_27 rfl (lv_at hl 3 rfl) ?_
  refine lv_iconst (v := 3) hx hb dX11_lies_28 (by decide) ?_
  obtain ⟨q27, e28, h⟩ := bnd h
  refine call_i C hP hS (c_X11_of e28) mi_X11_of mw_1433 26 (by decide) rfl rfl ⟨Nat.le_of_ble_eq_true rfl, Nat.le_of_ble_eq_true rfl⟩ (As := [.int a1, .int 3]) rfl hl.1 rfl (lv_room (Nat.le_of_ble_eq_true rfl)) dX11_lies_29 (fun H locs hP hS => ?_)
  refine lv_istore (lv' := [(6, .int q27.1), (5, .int q25.1), (4, .int q21.1), (0, .ref (g_ad G 26)), (1, .int a1), (2, .int a2), (3, .int a3)]) hx hb dX11_lies_32 hl (by decide) rfl (fun ls hl => ?_)
  refine lv_aload_n hx hb dX11_lies_34 rfl (lv_at hl 3 rfl) ?_
  refine lv_iload_n hx hb dX11_lies_35 rfl (lv_at hl 4 rfl) ?_
  refine lv_iconst (v := 0) hx hb dX11_lies_36 (by decide) ?_
  obtain ⟨q29, e30, h⟩ := bnd h
  refine call_i C hP hS (c_X11_of e30) mi_X11_of mw_1433 26 (by decide) rfl rfl ⟨Nat.le_of_ble_eq_true rfl, Nat.le_of_ble_eq_true rfl⟩ (As := [.int a1, .int 0]) rfl hl.1 rfl (lv_room (Nat.le_of_ble_eq_true rfl)) dX11_lies_37 (fun H locs hP hS => ?_)
  refine lv_bipush (v := 6) hx hb dX11_lies_40 (by decide) ?_
  refine lv_icmp_ne (tgt := 67) hx hb dX11_lies_42 (by decide) (fun c31 => ?_) (fun c31 => ?_)
  · replace h := h_f c31 h
    refine lv_iload hx hb dX11_lies_67 (lv_at hl 2 rfl) ?_
    refine lv_iload hx hb dX11_lies_69 (lv_at hl 1 rfl) ?_
    obtain ⟨q32, e33, h⟩ := bnd h
    refine scall_i C hP hS (c_X11_square e33) ms_X11_square mw_1524 ⟨Nat.le_of_ble_eq_true rfl, Nat.le_of_ble_eq_true rfl⟩ (As := [.int q21.1, .int q25.1]) rfl hl.1 rfl (lv_room (Nat.le_of_ble_eq_true rfl)) dX11_lies_71 (fun H locs hP hS => ?_)
    refine lv_iload hx hb dX11_lies_74 (lv_at hl 0 rfl) ?_
    refine lv_iload hx hb dX11_lies_76 (lv_at hl 0 rfl) ?_
    refine lv_imul hx hb dX11_lies_78 ?_
    refine lv_icmp_gt (tgt := 86) hx hb dX11_lies_79 (by decide) (fun c34 => ?_) (fun c34 => ?_)
    · replace h := h_t c34 h
      refine lv_iconst (v := 0) hx hb dX11_lies_86 (by decide) ?_
      exact ret_z C hr hlocks hP hS h (Or.inl rfl) dX11_lies_87
    · replace h := h_f c34 h
      refine lv_iconst (v := 1) hx hb dX11_lies_82 (by decide) ?_
      refine lv_goto (tgt := 87) hx hb dX11_lies_83 (by decide) ?_
      exact ret_z C hr hlocks hP hS h (Or.inr rfl) dX11_lies_87
  · replace h := h_t c31 h
    refine lv_iload hx hb dX11_lies_45 (lv_at hl 2 rfl) ?_
    refine lv_iload hx hb dX11_lies_47 (lv_at hl 0 rfl) ?_
    refine lv_icmp_gt (tgt := 63) hx hb dX11_lies_49 (by decide) (fun c35 => ?_) (fun c35 => ?_)
    · replace h := h_t c35 h
      refine lv_iconst (v := 0) hx hb dX11_lies_63 (by decide) ?_
      refine lv_goto (tgt := 87) hx hb dX11_lies_64 (by decide) ?_
      exact ret_z C hr hlocks hP hS h (Or.inl rfl) dX11_lies_87
    · replace h := h_f c35 h
      refine lv_iload hx hb dX11_lies_52 (lv_at hl 1 rfl) ?_
      refine lv_iload hx hb dX11_lies_54 (lv_at hl 0 rfl) ?_
      refine lv_icmp_gt (tgt := 63) hx hb dX11_lies_56 (by decide) (fun c36 => ?_) (fun c36 => ?_)
      · replace h := h_t c36 h
        refine lv_iconst (v := 0) hx hb dX11_lies_63 (by decide) ?_
        refine lv_goto (tgt := 87) hx hb dX11_lies_64 (by decide) ?_
        exact ret_z C hr hlocks hP hS h (Or.inl rfl) dX11_lies_87
      · replace h := h_f c36 h
        refine lv_iconst (v := 1) hx hb dX11_lies_59 (by decide) ?_
        refine lv_goto (tgt := 87) hx hb dX11_lies_60 (by decide) ?_
        exact ret_z C hr hlocks hP hS h (Or.inr rfl) dX11_lies_87
set_option maxHeartbeats 4000000 in
set_option maxRecDepth 100000 in
theorem c_X11_depthOf {l : Launch} {G : GT} {lam : Lm} {σ : St} {a1 : Int32} {q : Int32 × St} (h : f_X11_depthOf σ a1 = some q) : Met l yX11_depthOf (Cond.code yX11_depthOf cX11_depthOf 2 ((some .int)) :: TB) ({ frames := 1, cells := 0, slots := 0, locals := 22 } : Room) (va_Pc [.ref (g_ad G 26), .int a1] (GW G lam σ)) (Ri q G lam) 0 0 (g_A G) := by
  refine mk_Qi (own := RX11) (by decide) (Nat.le_of_ble_eq_true rfl) rfl (fun p e s m args below meth c C hr hlocks hP ls hl => ?_)
  have hx := C.1
  have hb := C.2.1
  have hl : lv_has ls 2 [(0, .ref (g_ad G 26)), (1, .int a1)] := hl
  have hS : va_S (g_A G) s.heap s.heap [] := va_S.rf
  unfold f_X11_depthOf at h
  refine lv_aload_n hx hb dX11_depthOf_0 rfl (lv_at hl 0 rfl) ?_
  refine lv_iload_n hx hb dX11_depthOf_1 rfl (lv_at hl 1 rfl) ?_
  refine lv_iconst (v := 0) hx hb dX11_depthOf_2 (by decide) ?_
  obtain ⟨q8, e9, h⟩ := bnd h
  refine call_i C hP hS (c_X11_of e9) mi_X11_of mw_1433 26 (by decide) rfl rfl ⟨Nat.le_of_ble_eq_true rfl, Nat.le_of_ble_eq_true rfl⟩ (As := [.int a1, .int 0]) rfl hl.1 rfl (lv_room (Nat.le_of_ble_eq_true rfl)) dX11_depthOf_3 (fun H locs hP hS => ?_)
  refine lv_iconst (v := 5) hx hb dX11_depthOf_6 (by decide) ?_
  refine lv_icmp_ne (tgt := 20) hx hb dX11_depthOf_7 (by decide) (fun c10 => ?_) (fun c10 => ?_)
  · replace h := h_f c10 h
    refine lv_aload_n hx hb dX11_depthOf_20 rfl (lv_at hl 0 rfl) ?_
    refine lv_iload_n hx hb dX11_depthOf_21 rfl (lv_at hl 1 rfl) ?_
    refine lv_iconst (v := 4) hx hb dX11_depthOf_22 (by decide) ?_
    obtain ⟨q11, e12, h⟩ := bnd h
    refine call_i C hP hS (c_X11_of e12) mi_X11_of mw_1433 26 (by decide) rfl rfl ⟨Nat.le_of_ble_eq_true rfl, Nat.le_of_ble_eq_true rfl⟩ (As := [.int a1, .int 4]) rfl hl.1 rfl (lv_room (Nat.le_of_ble_eq_true rfl)) dX11_depthOf_23 (fun H locs hP hS => ?_)
    exact ret_i C hr hlocks hP hS h dX11_depthOf_26
  · replace h := h_t c10 h
    refine lv_aload_n hx hb dX11_depthOf_10 rfl (lv_at hl 0 rfl) ?_
    refine lv_iload_n hx hb dX11_depthOf_11 rfl (lv_at hl 1 rfl) ?_
    refine lv_iconst (v := 4) hx hb dX11_depthOf_12 (by decide) ?_
    obtain ⟨q13, e14, h⟩ := bnd h
    refine call_i C hP hS (c_X11_of e14) mi_X11_of mw_1433 26 (by decide) rfl rfl ⟨Nat.le_of_ble_eq_true rfl, Nat.le_of_ble_eq_true rfl⟩ (As := [.int a1, .int 4]) rfl hl.1 rfl (lv_room (Nat.le_of_ble_eq_true rfl)) dX11_depthOf_13 (fun H locs hP hS => ?_)
    refine lv_ineg hx hb dX11_depthOf_16 ?_
    refine lv_goto (tgt := 26) hx hb dX11_depthOf_17 (by decide) ?_
    exact ret_i C hr hlocks hP hS h dX11_depthOf_26
set_option maxHeartbeats 4000000 in
set_option maxRecDepth 100000 in
theorem c_X11_shoalAt {l : Launch} {G : GT} {lam : Lm} {σ : St} {a1 : Int32} {a2 : Int32} {q : Int32 × St} (h : f_X11_shoalAt σ a1 a2 = some q) : Met l yX11_shoalAt (Cond.code yX11_shoalAt cX11_shoalAt 5 ((some .int)) :: TB) ({ frames := 2, cells := 0, slots := 0, locals := 48 } : Room) (va_Pc [.ref (g_ad G 26), .int a1, .int a2] (GW G lam σ)) (Ri q G lam) 0 0 (g_A G) := by
  refine mk_Qi (own := RX11) (by decide) (Nat.le_of_ble_eq_true rfl) rfl (fun p e s m args below meth c C hr hlocks hP ls hl => ?_)
  have hx := C.1
  have hb := C.2.1
  have hl : lv_has ls 5 [(0, .ref (g_ad G 26)), (1, .int a1), (2, .int a2)] := hl
  have L6 : ∀ (n6 : Nat) (σ : St) (x1 : Int32) (x2 : Int32) (x3 : Int32) (x4 : Int32) (H : Heap) (locs : List Loc) (ls : Array Slot), fx (F_X11_shoalAt_h6) z_X11_shoalAt_h6 n6 σ x1 x2 x3 x4 = some q → va_P (g_D G) vwCl (allW G lam σ) H → va_S (g_A G) s.heap H locs → lv_has ls 5 [(0, .ref (g_ad G 26)), (1, .int x1), (2, .int x2), (3, .int x3), (4, .int x4)] → W p l e ({ frames := 2, cells := 0, slots := 0, locals := 48 } : Room) s m args below meth c H locs 0 0 (Qi q below args s G lam) (F0 m 6 ls []) := by
    intro n6
    induction n6 with
    | zero => intro σ x1 x2 x3 x4 H locs ls h hP hS hl; exact absurd h (by intro h9; cases h9)
    | succ n6 ih6 =>
      have J61 : ∀ (σ : St) (x1 : Int32) (x2 : Int32) (x3 : Int32) (x4 : Int32) (H : Heap) (locs : List Loc) (ls : Array Slot), f_X11_shoalAt_p61 (fx (F_X11_shoalAt_h6) z_X11_shoalAt_h6 n6) σ x1 x2 x3 x4 = some q → va_P (g_D G) vwCl (allW G lam σ) H → va_S (g_A G) s.heap H locs → lv_has ls 5 [(0, .ref (g_ad G 26)), (1, .int x1), (2, .int x2), (3, .int x3), (4, .int x4)] → W p l e ({ frames := 2, cells := 0, slots := 0, locals := 48 } : Room) s m args below meth c H locs 0 0 (Qi q below args s G lam) (F0 m 61 ls []) := by
        intro σ x1 x2 x3 x4 H locs ls h hP hS hl
        unfold f_X11_shoalAt_p61 at h
        obtain ⟨y16, e17, h⟩ := bnd h
        refine lv_iinc (v := y16) (lv' := [(4, .int y16), (0, .ref (g_ad G 26)), (1, .int x1), (2, .int x2), (3, .int x3)]) hx hb dX11_shoalAt_61 hl (k := 4) rfl (Option.some.inj e17) (by decide) rfl (fun ls hl => ?_)
        refine lv_goto (tgt := 6) hx hb dX11_shoalAt_64 (by decide) ?_
        exact ih6 _ _ _ _ _ H locs ls h hP hS (lv_sub hl [1, 2, 3, 4, 0] rfl)
      have J58 : ∀ (σ : St) (x1 : Int32) (x2 : Int32) (x4 : Int32) (H : Heap) (locs : List Loc) (ls : Array Slot), f_X11_shoalAt_p58 (fx (F_X11_shoalAt_h6) z_X11_shoalAt_h6 n6) σ x1 x2 x4 = some q → va_P (g_D G) vwCl (allW G lam σ) H → va_S (g_A G) s.heap H locs → lv_has ls 5 [(0, .ref (g_ad G 26)), (1, .int x1), (2, .int x2), (4, .int x4)] → W p l e ({ frames := 2, cells := 0, slots := 0, locals := 48 } : Room) s m args below meth c H locs 0 0 (Qi q below args s G lam) (F0 m 58 ls []) := by
        intro σ x1 x2 x4 H locs ls h hP hS hl
        unfold f_X11_shoalAt_p58 at h
        refine lv_iload hx hb dX11_shoalAt_58 (lv_at hl 3 rfl) ?_
        refine lv_istore_n (lv' := [(3, .int x4), (0, .ref (g_ad G 26)), (1, .int x1), (2, .int x2), (4, .int x4)]) hx hb dX11_shoalAt_60 rfl hl (by decide) rfl (fun ls hl => ?_)
        exact J61 _ _ _ _ _ H locs ls h hP hS (lv_sub hl [1, 2, 3, 0, 4] rfl)
      intro σ x1 x2 x3 x4 H locs ls h hP hS hl
      change F_X11_shoalAt_h6 (fx (F_X11_shoalAt_h6) z_X11_shoalAt_h6 n6) σ x1 x2 x3 x4 = some q at h
      unfold F_X11_shoalAt_h6 at h
      refine lv_iload hx hb dX11_shoalAt_6 (lv_at hl 4 rfl) ?_
      refine lv_aload_n hx hb dX11_shoalAt_8 rfl (lv_at hl 0 rfl) ?_
      refine gf_X11_7_26 C hP dX11_shoalAt_9 ?_
      refine lv_bipush (v := 13) hx hb dX11_shoalAt_12 (by decide) ?_
      refine r_aldc C hP 27 (by decide) rfl (j := 13) (by decide) (vp_in_iff.mpr (by decide)) dX11_shoalAt_14 ?_
      refine lv_icmp_ge (tgt := 67) hx hb dX11_shoalAt_15 (by decide) (fun c18 => ?_) (fun c18 => ?_)
      · replace h := h_t c18 h
        refine lv_iload_n hx hb dX11_shoalAt_67 rfl (lv_at hl 3 rfl) ?_
        exact ret_i C hr hlocks hP hS h dX11_shoalAt_68
      · replace h := h_f c18 h
        refine lv_aload_n hx hb dX11_shoalAt_18 rfl (lv_at hl 0 rfl) ?_
        refine lv_iload hx hb dX11_shoalAt_19 (lv_at hl 4 rfl) ?_
        obtain ⟨q19, e20, h⟩ := bnd h
        refine call_i C hP hS (c_X11_isShoal e20) mi_X11_isShoal mw_1513 26 (by decide) rfl rfl ⟨Nat.le_of_ble_eq_true rfl, Nat.le_of_ble_eq_true rfl⟩ (As := [.int x4]) rfl hl.1 rfl (lv_room (Nat.le_of_ble_eq_true rfl)) dX11_shoalAt_21 (fun H locs hP hS => ?_)
        refine lv_if_eq (tgt := 61) hx hb dX11_shoalAt_24 (by decide) (fun c21 => ?_) (fun c21 => ?_)
        · replace h := h_t c21 h
          exact J61 _ _ _ _ _ H locs ls h hP hS (lv_sub hl [0, 1, 2, 3, 4] rfl)
        · replace h := h_f c21 h
          refine lv_aload_n hx hb dX11_shoalAt_27 rfl (lv_at hl 0 rfl) ?_
          refine lv_iload hx hb dX11_shoalAt_28 (lv_at hl 4 rfl) ?_
          refine lv_iload_n hx hb dX11_shoalAt_30 rfl (lv_at hl 1 rfl) ?_
          refine lv_iload_n hx hb dX11_shoalAt_31 rfl (lv_at hl 2 rfl) ?_
          obtain ⟨q22, e23, h⟩ := bnd h
          refine call_i C hP hS (c_X11_lies e23) mi_X11_lies mw_1517 26 (by decide) rfl rfl ⟨Nat.le_of_ble_eq_true rfl, Nat.le_of_ble_eq_true rfl⟩ (As := [.int x4, .int x1, .int x2]) rfl hl.1 rfl (lv_room (Nat.le_of_ble_eq_true rfl)) dX11_shoalAt_32 (fun H locs hP hS => ?_)
          refine lv_if_eq (tgt := 61) hx hb dX11_shoalAt_35 (by decide) (fun c24 => ?_) (fun c24 => ?_)
          · replace h := h_t c24 h
            exact J61 _ _ _ _ _ H locs ls h hP hS (lv_sub hl [0, 1, 2, 3, 4] rfl)
          · replace h := h_f c24 h
            refine lv_iload_n hx hb dX11_shoalAt_38 rfl (lv_at hl 3 rfl) ?_
            refine lv_ldc hx hb C.2.2.2.1 (C.2.2.2.2.1 _ mw_1337) dX11_shoalAt_39 ?_
            refine lv_icmp_eq (tgt := 58) hx hb dX11_shoalAt_41 (by decide) (fun c25 => ?_) (fun c25 => ?_)
            · replace h := h_t c25 h
              exact J58 _ _ _ _ H locs ls h hP hS (lv_sub hl [0, 1, 2, 4] rfl)
            · replace h := h_f c25 h
              refine lv_aload_n hx hb dX11_shoalAt_44 rfl (lv_at hl 0 rfl) ?_
              refine lv_iload hx hb dX11_shoalAt_45 (lv_at hl 4 rfl) ?_
              obtain ⟨q26, e27, h⟩ := bnd h
              refine call_i C hP hS (c_X11_depthOf e27) mi_X11_depthOf mw_1527 26 (by decide) rfl rfl ⟨Nat.le_of_ble_eq_true rfl, Nat.le_of_ble_eq_true rfl⟩ (As := [.int x4]) rfl hl.1 rfl (lv_room (Nat.le_of_ble_eq_true rfl)) dX11_shoalAt_47 (fun H locs hP hS => ?_)
              refine lv_aload_n hx hb dX11_shoalAt_50 rfl (lv_at hl 0 rfl) ?_
              refine lv_iload_n hx hb dX11_shoalAt_51 rfl (lv_at hl 3 rfl) ?_
              obtain ⟨q28, e29, h⟩ := bnd h
              refine call_i C hP hS (c_X11_depthOf e29) mi_X11_depthOf mw_1527 26 (by decide) rfl rfl ⟨Nat.le_of_ble_eq_true rfl, Nat.le_of_ble_eq_true rfl⟩ (As := [.int x3]) rfl hl.1 rfl (lv_room (Nat.le_of_ble_eq_true rfl)) dX11_shoalAt_52 (fun H locs hP hS => ?_)
              refine lv_icmp_ge (tgt := 61) hx hb dX11_shoalAt_55 (by decide) (fun c30 => ?_) (fun c30 => ?_)
              · replace h := h_t c30 h
                exact J61 _ _ _ _ _ H locs ls h hP hS (lv_sub hl [0, 1, 2, 3, 4] rfl)
              · replace h := h_f c30 h
                exact J58 _ _ _ _ H locs ls h hP hS (lv_sub hl [0, 1, 2, 4] rfl)
  have hS : va_S (g_A G) s.heap s.heap [] := va_S.rf
  unfold f_X11_shoalAt at h
  obtain ⟨H, hH⟩ : ∃ H, H = s.heap := ⟨_, rfl⟩
  obtain ⟨locs, hlo⟩ : ∃ k : List Loc, k = [] := ⟨_, rfl⟩
  rw [← hH, ← hlo]
  rw [← hH] at hP
  replace hS : va_S (g_A G) s.heap H locs := by rw [hH, hlo]; exact hS
  refine lv_ldc hx hb C.2.2.2.1 (C.2.2.2.2.1 _ mw_1337) dX11_shoalAt_0 ?_
  refine lv_istore_n (lv' := [(3, .int (-1000000)), (0, .ref (g_ad G 26)), (1, .int a1), (2, .int a2)]) hx hb dX11_shoalAt_2 rfl hl (by decide) rfl (fun ls hl => ?_)
  refine lv_iconst (v := 0) hx hb dX11_shoalAt_3 (by decide) ?_
  refine lv_istore (lv' := [(4, .int 0), (3, .int (-1000000)), (0, .ref (g_ad G 26)), (1, .int a1), (2, .int a2)]) hx hb dX11_shoalAt_4 hl (by decide) rfl (fun ls hl => ?_)
  exact L6 FU _ _ _ _ _ H locs ls h hP hS (lv_sub hl [2, 3, 4, 1, 0] rfl)
set_option maxHeartbeats 4000000 in
set_option maxRecDepth 100000 in
theorem c_X11_charted {l : Launch} {G : GT} {lam : Lm} {σ : St} {a1 : Int32} {a2 : Int32} {q : Int32 × St} (h : f_X11_charted σ a1 a2 = some q) : Met l yX11_charted (Cond.code yX11_charted cX11_charted 4 ((some .int)) :: TB) ({ frames := 3, cells := 0, slots := 0, locals := 72 } : Room) (va_Pc [.ref (g_ad G 26), .int a1, .int a2] (GW G lam σ)) (Ri q G lam) 0 0 (g_A G) := by
  refine mk_Qi (own := RX11) (by decide) (Nat.le_of_ble_eq_true rfl) rfl (fun p e s m args below meth c C hr hlocks hP ls hl => ?_)
  have hx := C.1
  have hb := C.2.1
  have hl : lv_has ls 4 [(0, .ref (g_ad G 26)), (1, .int a1), (2, .int a2)] := hl
  have hS : va_S (g_A G) s.heap s.heap [] := va_S.rf
  unfold f_X11_charted at h
  refine lv_aload_n hx hb dX11_charted_0 rfl (lv_at hl 0 rfl) ?_
  refine lv_iload_n hx hb dX11_charted_1 rfl (lv_at hl 1 rfl) ?_
  refine lv_iload_n hx hb dX11_charted_2 rfl (lv_at hl 2 rfl) ?_
  obtain ⟨q6, e7, h⟩ := bnd h
  refine call_i C hP hS (c_X11_shoalAt e7) mi_X11_shoalAt mw_1509 26 (by decide) rfl rfl ⟨Nat.le_of_ble_eq_true rfl, Nat.le_of_ble_eq_true rfl⟩ (As := [.int a1, .int a2]) rfl hl.1 rfl (lv_room (Nat.le_of_ble_eq_true rfl)) dX11_charted_3 (fun H locs hP hS => ?_)
  refine lv_istore_n (lv' := [(3, .int q6.1), (0, .ref (g_ad G 26)), (1, .int a1), (2, .int a2)]) hx hb dX11_charted_6 rfl hl (by decide) rfl (fun ls hl => ?_)
  refine lv_iload_n hx hb dX11_charted_7 rfl (lv_at hl 0 rfl) ?_
  refine lv_ldc hx hb C.2.2.2.1 (C.2.2.2.2.1 _ mw_1337) dX11_charted_8 ?_
  refine lv_icmp_ne (tgt := 18) hx hb dX11_charted_10 (by decide) (fun c8 => ?_) (fun c8 => ?_)
  · replace h := h_f c8 h
    refine lv_aload_n hx hb dX11_charted_18 rfl (lv_at hl 1 rfl) ?_
    refine lv_iload_n hx hb dX11_charted_19 rfl (lv_at hl 0 rfl) ?_
    obtain ⟨q9, e10, h⟩ := bnd h
    refine call_i C hP hS (c_X11_depthOf e10) mi_X11_depthOf mw_1527 26 (by decide) rfl rfl ⟨Nat.le_of_ble_eq_true rfl, Nat.le_of_ble_eq_true rfl⟩ (As := [.int q6.1]) rfl hl.1 rfl (lv_room (Nat.le_of_ble_eq_true rfl)) dX11_charted_20 (fun H locs hP hS => ?_)
    exact ret_i C hr hlocks hP hS h dX11_charted_23
  · replace h := h_t c8 h
    refine lv_bipush (v := 40) hx hb dX11_charted_13 (by decide) ?_
    refine lv_goto (tgt := 23) hx hb dX11_charted_15 (by decide) ?_
    exact ret_i C hr hlocks hP hS h dX11_charted_23
set_option maxHeartbeats 4000000 in
set_option maxRecDepth 100000 in
theorem c_X11_eastOf {l : Launch} {G : GT} {lam : Lm} {σ : St} {a1 : Int32} {a2 : Int32} {q : Int32 × St} (h : f_X11_eastOf σ a1 a2 = some q) : Met l yX11_eastOf (Cond.code yX11_eastOf cX11_eastOf 3 ((some .int)) :: TB) ({ frames := 1, cells := 0, slots := 0, locals := 24 } : Room) (va_Pc [.ref (g_ad G 26), .int a1, .int a2] (GW G lam σ)) (Ri q G lam) 0 0 (g_A G) := by
  refine mk_Qi (own := RX11) (by decide) (Nat.le_of_ble_eq_true rfl) rfl (fun p e s m args below meth c C hr hlocks hP ls hl => ?_)
  have hx := C.1
  have hb := C.2.1
  have hl : lv_has ls 3 [(0, .ref (g_ad G 26)), (1, .int a1), (2, .int a2)] := hl
  have J27 : ∀ (σ : St) (t0 : Int32) (t1 : Int32) (H : Heap) (locs : List Loc) (ls : Array Slot), f_X11_eastOf_p27 σ t0 t1 = some q → va_P (g_D G) vwCl (allW G lam σ) H → va_S (g_A G) s.heap H locs → lv_has ls 3 [] → W p l e ({ frames := 1, cells := 0, slots := 0, locals := 24 } : Room) s m args below meth c H locs 0 0 (Qi q below args s G lam) (F0 m 27 ls [.int t0, .int t1]) := by
    intro σ t0 t1 H locs ls h hP hS hl
    unfold f_X11_eastOf_p27 at h
    refine lv_iadd hx hb dX11_eastOf_27 ?_
    exact ret_i C hr hlocks hP hS h dX11_eastOf_28
  have hS : va_S (g_A G) s.heap s.heap [] := va_S.rf
  unfold f_X11_eastOf at h
  obtain ⟨H, hH⟩ : ∃ H, H = s.heap := ⟨_, rfl⟩
  obtain ⟨locs, hlo⟩ : ∃ k : List Loc, k = [] := ⟨_, rfl⟩
  rw [← hH, ← hlo]
  rw [← hH] at hP
  replace hS : va_S (g_A G) s.heap H locs := by rw [hH, hlo]; exact hS
  refine lv_aload_n hx hb dX11_eastOf_0 rfl (lv_at hl 0 rfl) ?_
  refine lv_iload_n hx hb dX11_eastOf_1 rfl (lv_at hl 1 rfl) ?_
  refine lv_iconst (v := 1) hx hb dX11_eastOf_2 (by decide) ?_
  obtain ⟨q8, e9, h⟩ := bnd h
  refine call_i C hP hS (c_X11_of e9) mi_X11_of mw_1433 26 (by decide) rfl rfl ⟨Nat.le_of_ble_eq_true rfl, Nat.le_of_ble_eq_true rfl⟩ (As := [.int a1, .int 1]) rfl hl.1 rfl (lv_room (Nat.le_of_ble_eq_true rfl)) dX11_eastOf_3 (fun H locs hP hS => ?_)
  refine lv_aload_n hx hb dX11_eastOf_6 rfl (lv_at hl 0 rfl) ?_
  refine lv_iload_n hx hb dX11_eastOf_7 rfl (lv_at hl 1 rfl) ?_
  refine lv_iconst (v := 0) hx hb dX11_eastOf_8 (by decide) ?_
  obtain ⟨q10, e11, h⟩ := bnd h
  refine call_i C hP hS (c_X11_of e11) mi_X11_of mw_1433 26 (by decide) rfl rfl ⟨Nat.le_of_ble_eq_true rfl, Nat.le_of_ble_eq_true rfl⟩ (As := [.int a1, .int 0]) rfl hl.1 rfl (lv_room (Nat.le_of_ble_eq_true rfl)) dX11_eastOf_9 (fun H locs hP hS => ?_)
  refine lv_iconst (v := 3) hx hb dX11_eastOf_12 (by decide) ?_
  refine lv_icmp_ne (tgt := 26) hx hb dX11_eastOf_13 (by decide) (fun c12 => ?_) (fun c12 => ?_)
  · replace h := h_f c12 h
    refine lv_iconst (v := 0) hx hb dX11_eastOf_26 (by decide) ?_
    exact J27 _ _ _ H locs ls h hP hS (lv_sub hl [] rfl)
  · replace h := h_t c12 h
    refine lv_aload_n hx hb dX11_eastOf_16 rfl (lv_at hl 0 rfl) ?_
    refine lv_iload_n hx hb dX11_eastOf_17 rfl (lv_at hl 2 rfl) ?_
    obtain ⟨q13, e14, h⟩ := bnd h
    refine call_i C hP hS (c_X11_tideAt e14) mi_X11_tideAt mw_1494 26 (by decide) rfl rfl ⟨Nat.le_of_ble_eq_true rfl, Nat.le_of_ble_eq_true rfl⟩ (As := [.int a2]) rfl hl.1 rfl (lv_room (Nat.le_of_ble_eq_true rfl)) dX11_eastOf_18 (fun H locs hP hS => ?_)
    refine lv_iconst (v := 4) hx hb dX11_eastOf_21 (by decide) ?_
    refine lv_idiv hx hb dX11_eastOf_22 (by decide) ?_
    refine lv_goto (tgt := 27) hx hb dX11_eastOf_23 (by decide) ?_
    exact J27 _ _ _ H locs ls h hP hS (lv_sub hl [] rfl)
set_option maxHeartbeats 4000000 in
set_option maxRecDepth 100000 in
theorem c_X11_turn {l : Launch} {G : GT} {lam : Lm} {σ : St} {a1 : Int32} {a2 : Int32} {q : Int32 × St} (h : f_X11_turn σ a1 a2 = some q) : Met l yX11_turn (Cond.code yX11_turn cX11_turn 9 ((some .int)) :: TB) ({ frames := 0, cells := 0, slots := 0, locals := 0 } : Room) (va_Pc [.ref (g_ad G 26), .int a1, .int a2] (GW G lam σ)) (Ri q G lam) 0 0 (g_A G) := by
  refine mk_Qi (own := RX11) (by decide) (Nat.le_of_ble_eq_true rfl) rfl (fun p e s m args below meth c C hr hlocks hP ls hl => ?_)
  have hx := C.1
  have hb := C.2.1
  have hl : lv_has ls 9 [(0, .ref (g_ad G 26)), (1, .int a1), (2, .int a2)] := hl
  have L5 : ∀ (n5 : Nat) (σ : St) (x1 : Int32) (x2 : Int32) (x3 : Int32) (x4 : Int32) (H : Heap) (locs : List Loc) (ls : Array Slot), fx (F_X11_turn_h5) z_X11_turn_h5 n5 σ x1 x2 x3 x4 = some q → va_P (g_D G) vwCl (allW G lam σ) H → va_S (g_A G) s.heap H locs → lv_has ls 9 [(0, .ref (g_ad G 26)), (1, .int x1), (2, .int x2), (3, .int x3), (4, .int x4)] → W p l e ({ frames := 0, cells := 0, slots := 0, locals := 0 } : Room) s m args below meth c H locs 0 0 (Qi q below args s G lam) (F0 m 5 ls []) := by
    intro n5
    induction n5 with
    | zero => intro σ x1 x2 x3 x4 H locs ls h hP hS hl; exact absurd h (by intro h9; cases h9)
    | succ n5 ih5 =>
      have J134 : ∀ (σ : St) (x1 : Int32) (x2 : Int32) (x4 : Int32) (t0 : Int32) (H : Heap) (locs : List Loc) (ls : Array Slot), f_X11_turn_p134 (fx (F_X11_turn_h5) z_X11_turn_h5 n5) σ x1 x2 x4 t0 = some q → va_P (g_D G) vwCl (allW G lam σ) H → va_S (g_A G) s.heap H locs → lv_has ls 9 [(0, .ref (g_ad G 26)), (1, .int x1), (2, .int x2), (4, .int x4)] → W p l e ({ frames := 0, cells := 0, slots := 0, locals := 0 } : Room) s m args below meth c H locs 0 0 (Qi q below args s G lam) (F0 m 134 ls [.int t0]) := by
        intro σ x1 x2 x4 t0 H locs ls h hP hS hl
        unfold f_X11_turn_p134 at h
        refine lv_istore_n (lv' := [(3, .int t0), (0, .ref (g_ad G 26)), (1, .int x1), (2, .int x2), (4, .int x4)]) hx hb dX11_turn_134 rfl hl (by decide) rfl (fun ls hl => ?_)
        obtain ⟨y16, e17, h⟩ := bnd h
        refine lv_iinc (v := y16) (lv' := [(4, .int y16), (3, .int t0), (0, .ref (g_ad G 26)), (1, .int x1), (2, .int x2)]) hx hb dX11_turn_135 hl (k := 4) rfl (Option.some.inj e17) (by decide) rfl (fun ls hl => ?_)
        refine lv_goto (tgt := 5) hx hb dX11_turn_138 (by decide) ?_
        exact ih5 _ _ _ _ _ H locs ls h hP hS (lv_sub hl [2, 3, 4, 1, 0] rfl)
      have J133 : ∀ (σ : St) (x1 : Int32) (x2 : Int32) (x3 : Int32) (x4 : Int32) (H : Heap) (locs : List Loc) (ls : Array Slot), f_X11_turn_p133 (fx (F_X11_turn_h5) z_X11_turn_h5 n5) σ x1 x2 x3 x4 = some q → va_P (g_D G) vwCl (allW G lam σ) H → va_S (g_A G) s.heap H locs → lv_has ls 9 [(0, .ref (g_ad G 26)), (1, .int x1), (2, .int x2), (3, .int x3), (4, .int x4)] → W p l e ({ frames := 0, cells := 0, slots := 0, locals := 0 } : Room) s m args below meth c H locs 0 0 (Qi q below args s G lam) (F0 m 133 ls []) := by
        intro σ x1 x2 x3 x4 H locs ls h hP hS hl
        unfold f_X11_turn_p133 at h
        refine lv_iload_n hx hb dX11_turn_133 rfl (lv_at hl 3 rfl) ?_
        exact J134 _ _ _ _ _ H locs ls h hP hS (lv_sub hl [0, 1, 2, 4] rfl)
      have J109 : ∀ (σ : St) (x1 : Int32) (x2 : Int32) (x3 : Int32) (x4 : Int32) (x6 : Int32) (x7 : Int32) (x8 : Int32) (H : Heap) (locs : List Loc) (ls : Array Slot), f_X11_turn_p109 (fx (F_X11_turn_h5) z_X11_turn_h5 n5) σ x1 x2 x3 x4 x6 x7 x8 = some q → va_P (g_D G) vwCl (allW G lam σ) H → va_S (g_A G) s.heap H locs → lv_has ls 9 [(0, .ref (g_ad G 26)), (1, .int x1), (2, .int x2), (3, .int x3), (4, .int x4), (6, .int x6), (7, .int x7), (8, .int x8)] → W p l e ({ frames := 0, cells := 0, slots := 0, locals := 0 } : Room) s m args below meth c H locs 0 0 (Qi q below args s G lam) (F0 m 109 ls []) := by
        intro σ x1 x2 x3 x4 x6 x7 x8 H locs ls h hP hS hl
        unfold f_X11_turn_p109 at h
        refine lv_iload hx hb dX11_turn_109 (lv_at hl 7 rfl) ?_
        refine lv_if_eq (tgt := 133) hx hb dX11_turn_111 (by decide) (fun c18 => ?_) (fun c18 => ?_)
        · replace h := h_t c18 h
          exact J133 _ _ _ _ _ H locs ls h hP hS (lv_sub hl [0, 1, 2, 3, 4] rfl)
        · replace h := h_f c18 h
          refine lv_iload hx hb dX11_turn_114 (lv_at hl 5 rfl) ?_
          refine lv_if_ge (tgt := 133) hx hb dX11_turn_116 (by decide) (fun c19 => ?_) (fun c19 => ?_)
          · replace h := h_t c19 h
            exact J133 _ _ _ _ _ H locs ls h hP hS (lv_sub hl [0, 1, 2, 3, 4] rfl)
          · replace h := h_f c19 h
            refine lv_iload hx hb dX11_turn_119 (lv_at hl 6 rfl) ?_
            refine lv_if_le (tgt := 133) hx hb dX11_turn_121 (by decide) (fun c20 => ?_) (fun c20 => ?_)
            · replace h := h_t c20 h
              exact J133 _ _ _ _ _ H locs ls h hP hS (lv_sub hl [0, 1, 2, 3, 4] rfl)
            · replace h := h_f c20 h
              refine lv_iconst (v := 2) hx hb dX11_turn_124 (by decide) ?_
              refine lv_iload hx hb dX11_turn_125 (lv_at hl 4 rfl) ?_
              refine lv_imul hx hb dX11_turn_127 ?_
              refine lv_iconst (v := 1) hx hb dX11_turn_128 (by decide) ?_
              refine lv_iadd hx hb dX11_turn_129 ?_
              refine lv_goto (tgt := 134) hx hb dX11_turn_130 (by decide) ?_
              exact J134 _ _ _ _ _ H locs ls h hP hS (lv_sub hl [0, 1, 2, 4] rfl)
      have J90 : ∀ (σ : St) (x1 : Int32) (x2 : Int32) (x3 : Int32) (x4 : Int32) (x6 : Int32) (x7 : Int32) (t0 : Int32) (H : Heap) (locs : List Loc) (ls : Array Slot), f_X11_turn_p90 (fx (F_X11_turn_h5) z_X11_turn_h5 n5) σ x1 x2 x3 x4 x6 x7 t0 = some q → va_P (g_D G) vwCl (allW G lam σ) H → va_S (g_A G) s.heap H locs → lv_has ls 9 [(0, .ref (g_ad G 26)), (1, .int x1), (2, .int x2), (3, .int x3), (4, .int x4), (6, .int x6), (7, .int x7)] → W p l e ({ frames := 0, cells := 0, slots := 0, locals := 0 } : Room) s m args below meth c H locs 0 0 (Qi q below args s G lam) (F0 m 90 ls [.int t0]) := by
        intro σ x1 x2 x3 x4 x6 x7 t0 H locs ls h hP hS hl
        unfold f_X11_turn_p90 at h
        refine lv_istore (lv' := [(8, .int t0), (0, .ref (g_ad G 26)), (1, .int x1), (2, .int x2), (3, .int x3), (4, .int x4), (6, .int x6), (7, .int x7)]) hx hb dX11_turn_90 hl (by decide) rfl (fun ls hl => ?_)
        refine lv_iload hx hb dX11_turn_92 (lv_at hl 0 rfl) ?_
        refine lv_if_eq (tgt := 109) hx hb dX11_turn_94 (by decide) (fun c21 => ?_) (fun c21 => ?_)
        · replace h := h_t c21 h
          exact J109 _ _ _ _ _ _ _ _ H locs ls h hP hS (lv_sub hl [1, 2, 3, 4, 5, 6, 7, 0] rfl)
        · replace h := h_f c21 h
          refine lv_iload hx hb dX11_turn_97 (lv_at hl 6 rfl) ?_
          refine lv_if_ne (tgt := 109) hx hb dX11_turn_99 (by decide) (fun c22 => ?_) (fun c22 => ?_)
          · replace h := h_f c22 h
            exact J109 _ _ _ _ _ _ _ _ H locs ls h hP hS (lv_sub hl [1, 2, 3, 4, 5, 6, 7, 0] rfl)
          · replace h := h_t c22 h
            refine lv_iconst (v := 2) hx hb dX11_turn_102 (by decide) ?_
            refine lv_iload hx hb dX11_turn_103 (lv_at hl 5 rfl) ?_
            refine lv_imul hx hb dX11_turn_105 ?_
            refine lv_goto (tgt := 134) hx hb dX11_turn_106 (by decide) ?_
            exact J134 _ _ _ _ _ H locs ls h hP hS (lv_sub hl [1, 2, 3, 5] rfl)
      intro σ x1 x2 x3 x4 H locs ls h hP hS hl
      change F_X11_turn_h5 (fx (F_X11_turn_h5) z_X11_turn_h5 n5) σ x1 x2 x3 x4 = some q at h
      unfold F_X11_turn_h5 at h
      refine lv_iload hx hb dX11_turn_5 (lv_at hl 4 rfl) ?_
      refine lv_bipush (v := 16) hx hb dX11_turn_7 (by decide) ?_
      refine lv_icmp_ge (tgt := 141) hx hb dX11_turn_9 (by decide) (fun c23 => ?_) (fun c23 => ?_)
      · replace h := h_t c23 h
        refine lv_iload_n hx hb dX11_turn_141 rfl (lv_at hl 3 rfl) ?_
        exact ret_i C hr hlocks hP hS h dX11_turn_142
      · replace h := h_f c23 h
        refine lv_iload hx hb dX11_turn_12 (lv_at hl 4 rfl) ?_
        refine lv_iconst (v := 1) hx hb dX11_turn_14 (by decide) ?_
        refine lv_iadd hx hb dX11_turn_15 ?_
        refine lv_bipush (v := 16) hx hb dX11_turn_16 (by decide) ?_
        refine lv_irem hx hb dX11_turn_18 (by decide) ?_
        obtain ⟨y24, e25, h⟩ := bnd h
        refine r_nm e25 ?_
        refine lv_istore (lv' := [(5, .int y24), (0, .ref (g_ad G 26)), (1, .int x1), (2, .int x2), (3, .int x3), (4, .int x4)]) hx hb dX11_turn_19 hl (by decide) rfl (fun ls hl => ?_)
        refine lv_aload_n hx hb dX11_turn_21 rfl (lv_at hl 1 rfl) ?_
        refine gf_X11_20_26 C hP dX11_turn_22 ?_
        refine lv_iload hx hb dX11_turn_25 (lv_at hl 5 rfl) ?_
        obtain ⟨g26, h⟩ := h_g h
        refine r_ald C hP 30 (by decide) rfl (vp_in_iff.mpr g26) dX11_turn_27 ?_
        refine lv_iload_n hx hb dX11_turn_28 rfl (lv_at hl 3 rfl) ?_
        refine lv_imul hx hb dX11_turn_29 ?_
        refine lv_aload_n hx hb dX11_turn_30 rfl (lv_at hl 1 rfl) ?_
        refine gf_X11_23_26 C hP dX11_turn_31 ?_
        refine lv_iload hx hb dX11_turn_34 (lv_at hl 5 rfl) ?_
        obtain ⟨g27, h⟩ := h_g h
        refine r_ald C hP 31 (by decide) rfl (vp_in_iff.mpr g27) dX11_turn_36 ?_
        refine lv_iload_n hx hb dX11_turn_37 rfl (lv_at hl 2 rfl) ?_
        refine lv_imul hx hb dX11_turn_38 ?_
        refine lv_isub hx hb dX11_turn_39 ?_
        obtain ⟨y28, e29, h⟩ := bnd h
        refine r_nm e29 ?_
        refine lv_istore (lv' := [(6, .int y28), (5, .int y24), (0, .ref (g_ad G 26)), (1, .int x1), (2, .int x2), (3, .int x3), (4, .int x4)]) hx hb dX11_turn_40 hl (by decide) rfl (fun ls hl => ?_)
        refine lv_aload_n hx hb dX11_turn_42 rfl (lv_at hl 2 rfl) ?_
        refine gf_X11_20_26 C hP dX11_turn_43 ?_
        refine lv_iload hx hb dX11_turn_46 (lv_at hl 1 rfl) ?_
        obtain ⟨g30, h⟩ := h_g h
        refine r_ald C hP 30 (by decide) rfl (vp_in_iff.mpr g30) dX11_turn_48 ?_
        refine lv_iload_n hx hb dX11_turn_49 rfl (lv_at hl 4 rfl) ?_
        refine lv_imul hx hb dX11_turn_50 ?_
        refine lv_aload_n hx hb dX11_turn_51 rfl (lv_at hl 2 rfl) ?_
        refine gf_X11_23_26 C hP dX11_turn_52 ?_
        refine lv_iload hx hb dX11_turn_55 (lv_at hl 1 rfl) ?_
        obtain ⟨g31, h⟩ := h_g h
        refine r_ald C hP 31 (by decide) rfl (vp_in_iff.mpr g31) dX11_turn_57 ?_
        refine lv_iload_n hx hb dX11_turn_58 rfl (lv_at hl 3 rfl) ?_
        refine lv_imul hx hb dX11_turn_59 ?_
        refine lv_isub hx hb dX11_turn_60 ?_
        obtain ⟨y32, e33, h⟩ := bnd h
        refine r_nm e33 ?_
        refine lv_istore (lv' := [(7, .int y32), (6, .int y28), (5, .int y24), (0, .ref (g_ad G 26)), (1, .int x1), (2, .int x2), (3, .int x3), (4, .int x4)]) hx hb dX11_turn_61 hl (by decide) rfl (fun ls hl => ?_)
        refine lv_aload_n hx hb dX11_turn_63 rfl (lv_at hl 3 rfl) ?_
        refine gf_X11_20_26 C hP dX11_turn_64 ?_
        refine lv_iload hx hb dX11_turn_67 (lv_at hl 7 rfl) ?_
        obtain ⟨g34, h⟩ := h_g h
        refine r_ald C hP 30 (by decide) rfl (vp_in_iff.mpr g34) dX11_turn_69 ?_
        refine lv_iload_n hx hb dX11_turn_70 rfl (lv_at hl 4 rfl) ?_
        refine lv_imul hx hb dX11_turn_71 ?_
        refine lv_aload_n hx hb dX11_turn_72 rfl (lv_at hl 3 rfl) ?_
        refine gf_X11_23_26 C hP dX11_turn_73 ?_
        refine lv_iload hx hb dX11_turn_76 (lv_at hl 7 rfl) ?_
        obtain ⟨g35, h⟩ := h_g h
        refine r_ald C hP 31 (by decide) rfl (vp_in_iff.mpr g35) dX11_turn_78 ?_
        refine lv_iload_n hx hb dX11_turn_79 rfl (lv_at hl 5 rfl) ?_
        refine lv_imul hx hb dX11_turn_80 ?_
        refine lv_iadd hx hb dX11_turn_81 ?_
        refine lv_if_le (tgt := 89) hx hb dX11_turn_82 (by decide) (fun c36 => ?_) (fun c36 => ?_)
        · replace h := h_t c36 h
          refine lv_iconst (v := 0) hx hb dX11_turn_89 (by decide) ?_
          exact J90 _ _ _ _ _ _ _ _ H locs ls h hP hS (lv_sub hl [3, 4, 5, 6, 7, 1, 0] rfl)
        · replace h := h_f c36 h
          refine lv_iconst (v := 1) hx hb dX11_turn_85 (by decide) ?_
          refine lv_goto (tgt := 90) hx hb dX11_turn_86 (by decide) ?_
          exact J90 _ _ _ _ _ _ _ _ H locs ls h hP hS (lv_sub hl [3, 4, 5, 6, 7, 1, 0] rfl)
  have hS : va_S (g_A G) s.heap s.heap [] := va_S.rf
  unfold f_X11_turn at h
  obtain ⟨H, hH⟩ : ∃ H, H = s.heap := ⟨_, rfl⟩
  obtain ⟨locs, hlo⟩ : ∃ k : List Loc, k = [] := ⟨_, rfl⟩
  rw [← hH, ← hlo]
  rw [← hH] at hP
  replace hS : va_S (g_A G) s.heap H locs := by rw [hH, hlo]; exact hS
  refine lv_iconst (v := 0) hx hb dX11_turn_0 (by decide) ?_
  refine lv_istore_n (lv' := [(3, .int 0), (0, .ref (g_ad G 26)), (1, .int a1), (2, .int a2)]) hx hb dX11_turn_1 rfl hl (by decide) rfl (fun ls hl => ?_)
  refine lv_iconst (v := 0) hx hb dX11_turn_2 (by decide) ?_
  refine lv_istore (lv' := [(4, .int 0), (3, .int 0), (0, .ref (g_ad G 26)), (1, .int a1), (2, .int a2)]) hx hb dX11_turn_3 hl (by decide) rfl (fun ls hl => ?_)
  exact L5 FU _ _ _ _ _ H locs ls h hP hS (lv_sub hl [2, 3, 4, 1, 0] rfl)
set_option maxHeartbeats 4000000 in
set_option maxRecDepth 100000 in
theorem c_X11_isInSector {l : Launch} {G : GT} {lam : Lm} {σ : St} {a1 : Int32} {a2 : Int32} {a3 : Int32} {q : Int32 × St} (h : f_X11_isInSector σ a1 a2 a3 = some q) : Met l yX11_isInSector (Cond.code yX11_isInSector cX11_isInSector 8 ((some .boolean)) :: TB) ({ frames := 1, cells := 0, slots := 0, locals := 28 } : Room) (va_Pc [.ref (g_ad G 26), .int a1, .int a2, .int a3] (GW G lam σ)) (Ri q G lam) 0 0 (g_A G) := by
  refine mk_Qi (own := RX11) (by decide) (Nat.le_of_ble_eq_true rfl) rfl (fun p e s m args below meth c C hr hlocks hP ls hl => ?_)
  have hx := C.1
  have hb := C.2.1
  have hl : lv_has ls 8 [(0, .ref (g_ad G 26)), (1, .int a1), (2, .int a2), (3, .int a3)] := hl
  have J58 : ∀ (σ : St) (x4 : Int32) (x5 : Int32) (x6 : Int32) (x7 : Int32) (H : Heap) (locs : List Loc) (ls : Array Slot), f_X11_isInSector_p58 σ x4 x5 x6 x7 = some q → va_P (g_D G) vwCl (allW G lam σ) H → va_S (g_A G) s.heap H locs → lv_has ls 8 [(0, .ref (g_ad G 26)), (4, .int x4), (5, .int x5), (6, .int x6), (7, .int x7)] → W p l e ({ frames := 1, cells := 0, slots := 0, locals := 28 } : Room) s m args below meth c H locs 0 0 (Qi q below args s G lam) (F0 m 58 ls []) := by
    intro σ x4 x5 x6 x7 H locs ls h hP hS hl
    unfold f_X11_isInSector_p58 at h
    refine lv_aload_n hx hb dX11_isInSector_58 rfl (lv_at hl 0 rfl) ?_
    refine lv_iload hx hb dX11_isInSector_59 (lv_at hl 1 rfl) ?_
    refine lv_iload hx hb dX11_isInSector_61 (lv_at hl 2 rfl) ?_
    obtain ⟨q15, e16, h⟩ := bnd h
    refine call_i C hP hS (c_X11_turn e16) mi_X11_turn mw_1558 26 (by decide) rfl rfl ⟨Nat.le_of_ble_eq_true rfl, Nat.le_of_ble_eq_true rfl⟩ (As := [.int x4, .int x5]) rfl hl.1 rfl (lv_room (Nat.le_of_ble_eq_true rfl)) dX11_isInSector_63 (fun H locs hP hS => ?_)
    refine lv_iconst (v := 2) hx hb dX11_isInSector_66 (by decide) ?_
    refine lv_iload hx hb dX11_isInSector_67 (lv_at hl 3 rfl) ?_
    refine lv_imul hx hb dX11_isInSector_69 ?_
    refine lv_isub hx hb dX11_isInSector_70 ?_
    refine lv_bipush (v := 32) hx hb dX11_isInSector_71 (by decide) ?_
    refine lv_iadd hx hb dX11_isInSector_73 ?_
    refine lv_bipush (v := 32) hx hb dX11_isInSector_74 (by decide) ?_
    refine lv_irem hx hb dX11_isInSector_76 (by decide) ?_
    refine lv_iconst (v := 2) hx hb dX11_isInSector_77 (by decide) ?_
    refine lv_iload hx hb dX11_isInSector_78 (lv_at hl 4 rfl) ?_
    refine lv_imul hx hb dX11_isInSector_80 ?_
    refine lv_iconst (v := 2) hx hb dX11_isInSector_81 (by decide) ?_
    refine lv_iload hx hb dX11_isInSector_82 (lv_at hl 3 rfl) ?_
    refine lv_imul hx hb dX11_isInSector_84 ?_
    refine lv_isub hx hb dX11_isInSector_85 ?_
    refine lv_bipush (v := 32) hx hb dX11_isInSector_86 (by decide) ?_
    refine lv_iadd hx hb dX11_isInSector_88 ?_
    refine lv_bipush (v := 32) hx hb dX11_isInSector_89 (by decide) ?_
    refine lv_irem hx hb dX11_isInSector_91 (by decide) ?_
    refine lv_icmp_ge (tgt := 99) hx hb dX11_isInSector_92 (by decide) (fun c17 => ?_) (fun c17 => ?_)
    · replace h := h_t c17 h
      refine lv_iconst (v := 0) hx hb dX11_isInSector_99 (by decide) ?_
      exact ret_z C hr hlocks hP hS h (Or.inl rfl) dX11_isInSector_100
    · replace h := h_f c17 h
      refine lv_iconst (v := 1) hx hb dX11_isInSector_95 (by decide) ?_
      refine lv_goto (tgt := 100) hx hb dX11_isInSector_96 (by decide) ?_
      exact ret_z C hr hlocks hP hS h (Or.inr rfl) dX11_isInSector_100
  have hS : va_S (g_A G) s.heap s.heap [] := va_S.rf
  unfold f_X11_isInSector at h
  obtain ⟨H, hH⟩ : ∃ H, H = s.heap := ⟨_, rfl⟩
  obtain ⟨locs, hlo⟩ : ∃ k : List Loc, k = [] := ⟨_, rfl⟩
  rw [← hH, ← hlo]
  rw [← hH] at hP
  replace hS : va_S (g_A G) s.heap H locs := by rw [hH, hlo]; exact hS
  refine lv_iload_n hx hb dX11_isInSector_0 rfl (lv_at hl 2 rfl) ?_
  refine lv_aload_n hx hb dX11_isInSector_1 rfl (lv_at hl 0 rfl) ?_
  refine lv_iload_n hx hb dX11_isInSector_2 rfl (lv_at hl 1 rfl) ?_
  refine lv_iconst (v := 1) hx hb dX11_isInSector_3 (by decide) ?_
  obtain ⟨q18, e19, h⟩ := bnd h
  refine call_i C hP hS (c_X11_of e19) mi_X11_of mw_1433 26 (by decide) rfl rfl ⟨Nat.le_of_ble_eq_true rfl, Nat.le_of_ble_eq_true rfl⟩ (As := [.int a1, .int 1]) rfl hl.1 rfl (lv_room (Nat.le_of_ble_eq_true rfl)) dX11_isInSector_4 (fun H locs hP hS => ?_)
  refine lv_isub hx hb dX11_isInSector_7 ?_
  obtain ⟨y20, e21, h⟩ := bnd h
  refine r_nm e21 ?_
  refine lv_istore (lv' := [(4, .int y20), (0, .ref (g_ad G 26)), (1, .int a1), (2, .int a2), (3, .int a3)]) hx hb dX11_isInSector_8 hl (by decide) rfl (fun ls hl => ?_)
  refine lv_iload_n hx hb dX11_isInSector_10 rfl (lv_at hl 4 rfl) ?_
  refine lv_aload_n hx hb dX11_isInSector_11 rfl (lv_at hl 1 rfl) ?_
  refine lv_iload_n hx hb dX11_isInSector_12 rfl (lv_at hl 2 rfl) ?_
  refine lv_iconst (v := 2) hx hb dX11_isInSector_13 (by decide) ?_
  obtain ⟨q22, e23, h⟩ := bnd h
  refine call_i C hP hS (c_X11_of e23) mi_X11_of mw_1433 26 (by decide) rfl rfl ⟨Nat.le_of_ble_eq_true rfl, Nat.le_of_ble_eq_true rfl⟩ (As := [.int a1, .int 2]) rfl hl.1 rfl (lv_room (Nat.le_of_ble_eq_true rfl)) dX11_isInSector_14 (fun H locs hP hS => ?_)
  refine lv_isub hx hb dX11_isInSector_17 ?_
  obtain ⟨y24, e25, h⟩ := bnd h
  refine r_nm e25 ?_
  refine lv_istore (lv' := [(5, .int y24), (4, .int y20), (0, .ref (g_ad G 26)), (1, .int a1), (2, .int a2), (3, .int a3)]) hx hb dX11_isInSector_18 hl (by decide) rfl (fun ls hl => ?_)
  refine lv_aload_n hx hb dX11_isInSector_20 rfl (lv_at hl 2 rfl) ?_
  refine lv_iload_n hx hb dX11_isInSector_21 rfl (lv_at hl 3 rfl) ?_
  refine lv_iconst (v := 3) hx hb dX11_isInSector_22 (by decide) ?_
  obtain ⟨q26, e27, h⟩ := bnd h
  refine call_i C hP hS (c_X11_of e27) mi_X11_of mw_1433 26 (by decide) rfl rfl ⟨Nat.le_of_ble_eq_true rfl, Nat.le_of_ble_eq_true rfl⟩ (As := [.int a1, .int 3]) rfl hl.1 rfl (lv_room (Nat.le_of_ble_eq_true rfl)) dX11_isInSector_23 (fun H locs hP hS => ?_)
  refine lv_istore (lv' := [(6, .int q26.1), (5, .int y24), (4, .int y20), (0, .ref (g_ad G 26)), (1, .int a1), (2, .int a2), (3, .int a3)]) hx hb dX11_isInSector_26 hl (by decide) rfl (fun ls hl => ?_)
  refine lv_aload_n hx hb dX11_isInSector_28 rfl (lv_at hl 3 rfl) ?_
  refine lv_iload_n hx hb dX11_isInSector_29 rfl (lv_at hl 4 rfl) ?_
  refine lv_iconst (v := 4) hx hb dX11_isInSector_30 (by decide) ?_
  obtain ⟨q28, e29, h⟩ := bnd h
  refine call_i C hP hS (c_X11_of e29) mi_X11_of mw_1433 26 (by decide) rfl rfl ⟨Nat.le_of_ble_eq_true rfl, Nat.le_of_ble_eq_true rfl⟩ (As := [.int a1, .int 4]) rfl hl.1 rfl (lv_room (Nat.le_of_ble_eq_true rfl)) dX11_isInSector_31 (fun H locs hP hS => ?_)
  refine lv_bipush (v := 16) hx hb dX11_isInSector_34 (by decide) ?_
  refine lv_irem hx hb dX11_isInSector_36 (by decide) ?_
  obtain ⟨y30, e31, h⟩ := bnd h
  refine r_nm e31 ?_
  refine lv_istore (lv' := [(7, .int y30), (6, .int q26.1), (5, .int y24), (4, .int y20), (0, .ref (g_ad G 26)), (1, .int a1), (2, .int a2), (3, .int a3)]) hx hb dX11_isInSector_37 hl (by decide) rfl (fun ls hl => ?_)
  refine lv_iload hx hb dX11_isInSector_39 (lv_at hl 1 rfl) ?_
  refine lv_iload hx hb dX11_isInSector_41 (lv_at hl 0 rfl) ?_
  refine lv_icmp_eq (tgt := 56) hx hb dX11_isInSector_43 (by decide) (fun c32 => ?_) (fun c32 => ?_)
  · replace h := h_t c32 h
    refine lv_iconst (v := 1) hx hb dX11_isInSector_56 (by decide) ?_
    exact ret_z C hr hlocks hP hS h (Or.inr rfl) dX11_isInSector_57
  · replace h := h_f c32 h
    refine lv_iload hx hb dX11_isInSector_46 (lv_at hl 3 rfl) ?_
    refine lv_if_ne (tgt := 58) hx hb dX11_isInSector_48 (by decide) (fun c33 => ?_) (fun c33 => ?_)
    · replace h := h_f c33 h
      exact J58 _ _ _ _ _ H locs ls h hP hS (lv_sub hl [4, 3, 2, 1, 0] rfl)
    · replace h := h_t c33 h
      refine lv_iload hx hb dX11_isInSector_51 (lv_at hl 2 rfl) ?_
      refine lv_if_ne (tgt := 58) hx hb dX11_isInSector_53 (by decide) (fun c34 => ?_) (fun c34 => ?_)
      · replace h := h_f c34 h
        exact J58 _ _ _ _ _ H locs ls h hP hS (lv_sub hl [4, 3, 2, 1, 0] rfl)
      · replace h := h_t c34 h
        refine lv_iconst (v := 1) hx hb dX11_isInSector_56 (by decide) ?_
        exact ret_z C hr hlocks hP hS h (Or.inr rfl) dX11_isInSector_57
set_option maxHeartbeats 4000000 in
set_option maxRecDepth 100000 in
theorem c_X11_isSeen {l : Launch} {G : GT} {lam : Lm} {σ : St} {a1 : Int32} {a2 : Int32} {a3 : Int32} {a4 : Int32} {q : Int32 × St} (h : f_X11_isSeen σ a1 a2 a3 a4 = some q) : Met l yX11_isSeen (Cond.code yX11_isSeen cX11_isSeen 6 ((some .boolean)) :: TB) ({ frames := 2, cells := 0, slots := 0, locals := 55 } : Room) (va_Pc [.ref (g_ad G 26), .int a1, .int a2, .int a3, .int a4] (GW G lam σ)) (Ri q G lam) 0 0 (g_A G) := by
  refine mk_Qi (own := RX11) (by decide) (Nat.le_of_ble_eq_true rfl) rfl (fun p e s m args below meth c C hr hlocks hP ls hl => ?_)
  have hx := C.1
  have hb := C.2.1
  have hl : lv_has ls 6 [(0, .ref (g_ad G 26)), (1, .int a1), (2, .int a2), (3, .int a3), (4, .int a4)] := hl
  have J75 : ∀ (σ : St) (t0 : Int32) (t1 : Int32) (H : Heap) (locs : List Loc) (ls : Array Slot), f_X11_isSeen_p75 σ t0 t1 = some q → va_P (g_D G) vwCl (allW G lam σ) H → va_S (g_A G) s.heap H locs → lv_has ls 6 [] → W p l e ({ frames := 2, cells := 0, slots := 0, locals := 55 } : Room) s m args below meth c H locs 0 0 (Qi q below args s G lam) (F0 m 75 ls [.int t0, .int t1]) := by
    intro σ t0 t1 H locs ls h hP hS hl
    unfold f_X11_isSeen_p75 at h
    refine lv_icmp_gt (tgt := 82) hx hb dX11_isSeen_75 (by decide) (fun c20 => ?_) (fun c20 => ?_)
    · replace h := h_t c20 h
      refine lv_iconst (v := 0) hx hb dX11_isSeen_82 (by decide) ?_
      exact ret_z C hr hlocks hP hS h (Or.inl rfl) dX11_isSeen_83
    · replace h := h_f c20 h
      refine lv_iconst (v := 1) hx hb dX11_isSeen_78 (by decide) ?_
      refine lv_goto (tgt := 83) hx hb dX11_isSeen_79 (by decide) ?_
      exact ret_z C hr hlocks hP hS h (Or.inr rfl) dX11_isSeen_83
  have hS : va_S (g_A G) s.heap s.heap [] := va_S.rf
  unfold f_X11_isSeen at h
  obtain ⟨H, hH⟩ : ∃ H, H = s.heap := ⟨_, rfl⟩
  obtain ⟨locs, hlo⟩ : ∃ k : List Loc, k = [] := ⟨_, rfl⟩
  rw [← hH, ← hlo]
  rw [← hH] at hP
  replace hS : va_S (g_A G) s.heap H locs := by rw [hH, hlo]; exact hS
  refine lv_aload_n hx hb dX11_isSeen_0 rfl (lv_at hl 0 rfl) ?_
  refine gf_X11_211_26 C hP dX11_isSeen_1 ?_
  refine lv_iload_n hx hb dX11_isSeen_4 rfl (lv_at hl 1 rfl) ?_
  obtain ⟨q21, e22, h⟩ := bnd h
  refine scall_i C hP hS (c_X11_has e22) ms_X11_has mw_1551 ⟨Nat.le_of_ble_eq_true rfl, Nat.le_of_ble_eq_true rfl⟩ (As := [.int (σ 26 13), .int a1]) rfl hl.1 rfl (lv_room (Nat.le_of_ble_eq_true rfl)) dX11_isSeen_5 (fun H locs hP hS => ?_)
  refine lv_if_eq (tgt := 13) hx hb dX11_isSeen_8 (by decide) (fun c23 => ?_) (fun c23 => ?_)
  · replace h := h_t c23 h
    refine lv_iload_n hx hb dX11_isSeen_13 rfl (lv_at hl 2 rfl) ?_
    refine lv_aload_n hx hb dX11_isSeen_14 rfl (lv_at hl 0 rfl) ?_
    refine lv_iload_n hx hb dX11_isSeen_15 rfl (lv_at hl 1 rfl) ?_
    refine lv_iload hx hb dX11_isSeen_16 (lv_at hl 4 rfl) ?_
    obtain ⟨q24, e25, h⟩ := bnd h
    refine call_i C hP hS (c_X11_eastOf e25) mi_X11_eastOf mw_1539 26 (by decide) rfl rfl ⟨Nat.le_of_ble_eq_true rfl, Nat.le_of_ble_eq_true rfl⟩ (As := [.int a1, .int a4]) rfl hl.1 rfl (lv_room (Nat.le_of_ble_eq_true rfl)) dX11_isSeen_18 (fun H locs hP hS => ?_)
    refine lv_isub hx hb dX11_isSeen_21 ?_
    refine lv_iload_n hx hb dX11_isSeen_22 rfl (lv_at hl 3 rfl) ?_
    refine lv_aload_n hx hb dX11_isSeen_23 rfl (lv_at hl 0 rfl) ?_
    refine lv_iload_n hx hb dX11_isSeen_24 rfl (lv_at hl 1 rfl) ?_
    refine lv_iconst (v := 2) hx hb dX11_isSeen_25 (by decide) ?_
    obtain ⟨q26, e27, h⟩ := bnd h
    refine call_i C hP hS (c_X11_of e27) mi_X11_of mw_1433 26 (by decide) rfl rfl ⟨Nat.le_of_ble_eq_true rfl, Nat.le_of_ble_eq_true rfl⟩ (As := [.int a1, .int 2]) rfl hl.1 rfl (lv_room (Nat.le_of_ble_eq_true rfl)) dX11_isSeen_26 (fun H locs hP hS => ?_)
    refine lv_isub hx hb dX11_isSeen_29 ?_
    obtain ⟨q28, e29, h⟩ := bnd h
    refine scall_i C hP hS (c_X11_square e29) ms_X11_square mw_1524 ⟨Nat.le_of_ble_eq_true rfl, Nat.le_of_ble_eq_true rfl⟩ (As := [.int (a2 - q24.1), .int (a3 - q26.1)]) rfl hl.1 rfl (lv_room (Nat.le_of_ble_eq_true rfl)) dX11_isSeen_30 (fun H locs hP hS => ?_)
    refine lv_istore (lv' := [(5, .int q28.1), (0, .ref (g_ad G 26)), (1, .int a1), (2, .int a2), (3, .int a3), (4, .int a4)]) hx hb dX11_isSeen_33 hl (by decide) rfl (fun ls hl => ?_)
    refine lv_aload_n hx hb dX11_isSeen_35 rfl (lv_at hl 1 rfl) ?_
    refine lv_iload_n hx hb dX11_isSeen_36 rfl (lv_at hl 2 rfl) ?_
    refine lv_iconst (v := 0) hx hb dX11_isSeen_37 (by decide) ?_
    obtain ⟨q30, e31, h⟩ := bnd h
    refine call_i C hP hS (c_X11_of e31) mi_X11_of mw_1433 26 (by decide) rfl rfl ⟨Nat.le_of_ble_eq_true rfl, Nat.le_of_ble_eq_true rfl⟩ (As := [.int a1, .int 0]) rfl hl.1 rfl (lv_room (Nat.le_of_ble_eq_true rfl)) dX11_isSeen_38 (fun H locs hP hS => ?_)
    refine lv_iconst (v := 2) hx hb dX11_isSeen_41 (by decide) ?_
    refine lv_icmp_ne (tgt := 55) hx hb dX11_isSeen_42 (by decide) (fun c32 => ?_) (fun c32 => ?_)
    · replace h := h_f c32 h
      refine lv_iload hx hb dX11_isSeen_55 (lv_at hl 0 rfl) ?_
      refine lv_aload_n hx hb dX11_isSeen_57 rfl (lv_at hl 1 rfl) ?_
      refine lv_iload_n hx hb dX11_isSeen_58 rfl (lv_at hl 2 rfl) ?_
      refine lv_iconst (v := 0) hx hb dX11_isSeen_59 (by decide) ?_
      obtain ⟨q33, e34, h⟩ := bnd h
      refine call_i C hP hS (c_X11_of e34) mi_X11_of mw_1433 26 (by decide) rfl rfl ⟨Nat.le_of_ble_eq_true rfl, Nat.le_of_ble_eq_true rfl⟩ (As := [.int a1, .int 0]) rfl hl.1 rfl (lv_room (Nat.le_of_ble_eq_true rfl)) dX11_isSeen_60 (fun H locs hP hS => ?_)
      refine lv_iconst (v := 1) hx hb dX11_isSeen_63 (by decide) ?_
      refine lv_icmp_ne (tgt := 73) hx hb dX11_isSeen_64 (by decide) (fun c35 => ?_) (fun c35 => ?_)
      · replace h := h_f c35 h
        refine lv_bipush (v := 100) hx hb dX11_isSeen_73 (by decide) ?_
        exact J75 _ _ _ H locs ls h hP hS (lv_sub hl [] rfl)
      · replace h := h_t c35 h
        refine lv_sipush (v := 400) hx hb dX11_isSeen_67 (by decide) ?_
        refine lv_goto (tgt := 75) hx hb dX11_isSeen_70 (by decide) ?_
        exact J75 _ _ _ H locs ls h hP hS (lv_sub hl [] rfl)
    · replace h := h_t c32 h
      refine lv_aload_n hx hb dX11_isSeen_45 rfl (lv_at hl 1 rfl) ?_
      refine lv_iload_n hx hb dX11_isSeen_46 rfl (lv_at hl 2 rfl) ?_
      refine lv_iload_n hx hb dX11_isSeen_47 rfl (lv_at hl 3 rfl) ?_
      refine lv_iload_n hx hb dX11_isSeen_48 rfl (lv_at hl 4 rfl) ?_
      obtain ⟨q36, e37, h⟩ := bnd h
      refine call_i C hP hS (c_X11_isInSector e37) mi_X11_isInSector mw_1554 26 (by decide) rfl rfl ⟨Nat.le_of_ble_eq_true rfl, Nat.le_of_ble_eq_true rfl⟩ (As := [.int a1, .int a2, .int a3]) rfl hl.1 rfl (lv_room (Nat.le_of_ble_eq_true rfl)) dX11_isSeen_49 (fun H locs hP hS => ?_)
      refine lv_goto (tgt := 83) hx hb dX11_isSeen_52 (by decide) ?_
      obtain ⟨g38, h⟩ := h_g h
      exact ret_z C hr hlocks hP hS h g38 dX11_isSeen_83
  · replace h := h_f c23 h
    refine lv_iconst (v := 0) hx hb dX11_isSeen_11 (by decide) ?_
    exact ret_z C hr hlocks hP hS h (Or.inl rfl) dX11_isSeen_12
set_option maxHeartbeats 4000000 in
set_option maxRecDepth 100000 in
theorem c_X11_isMinute {l : Launch} {G : GT} {lam : Lm} {σ : St} {a1 : Int32} {q : Int32 × St} (h : f_X11_isMinute σ a1 = some q) : Met l yX11_isMinute (Cond.code yX11_isMinute cX11_isMinute 1 ((some .boolean)) :: TB) ({ frames := 1, cells := 0, slots := 0, locals := 25 } : Room) (va_Pc [.int a1] (GW G lam σ)) (Ri q G lam) 0 0 (g_A G) := by
  refine mk_Qi (own := RX11) (by decide) (Nat.le_of_ble_eq_true rfl) rfl (fun p e s m args below meth c C hr hlocks hP ls hl => ?_)
  have hx := C.1
  have hb := C.2.1
  have hl : lv_has ls 1 [(0, .int a1)] := hl
  have hS : va_S (g_A G) s.heap s.heap [] := va_S.rf
  unfold f_X11_isMinute at h
  refine lv_iload_n hx hb dX11_isMinute_0 rfl (lv_at hl 0 rfl) ?_
  refine lv_i2l hx hb dX11_isMinute_1 rfl ?_
  refine lv_lconst (v := 0) hx hb dX11_isMinute_2 (by decide) ?_
  refine lv_ldc2 hx hb C.2.2.2.1 (C.2.2.2.2.1 _ mw_1493) dX11_isMinute_3 ?_
  obtain ⟨q4, e5, h⟩ := bnd h
  refine scall_i C hP hS (c_X11_in e5) ms_X11_in mw_1320 ⟨Nat.le_of_ble_eq_true rfl, Nat.le_of_ble_eq_true rfl⟩ (As := [.long ((a1 : Int32).toInt64), .long (0), .long (9999)]) rfl hl.1 rfl (lv_room (Nat.le_of_ble_eq_true rfl)) dX11_isMinute_6 (fun H locs hP hS => ?_)
  obtain ⟨g6, h⟩ := h_g h
  exact ret_z C hr hlocks hP hS h g6 dX11_isMinute_9
set_option maxHeartbeats 4000000 in
set_option maxRecDepth 100000 in
theorem c_X11_isPlace {l : Launch} {G : GT} {lam : Lm} {σ : St} {a1 : Int32} {a2 : Int32} {q : Int32 × St} (h : f_X11_isPlace σ a1 a2 = some q) : Met l yX11_isPlace (Cond.code yX11_isPlace cX11_isPlace 2 ((some .boolean)) :: TB) ({ frames := 1, cells := 0, slots := 0, locals := 25 } : Room) (va_Pc [.int a1, .int a2] (GW G lam σ)) (Ri q G lam) 0 0 (g_A G) := by
  refine mk_Qi (own := RX11) (by decide) (Nat.le_of_ble_eq_true rfl) rfl (fun p e s m args below meth c C hr hlocks hP ls hl => ?_)
  have hx := C.1
  have hb := C.2.1
  have hl : lv_has ls 2 [(0, .int a1), (1, .int a2)] := hl
  have hS : va_S (g_A G) s.heap s.heap [] := va_S.rf
  unfold f_X11_isPlace at h
  refine lv_iload_n hx hb dX11_isPlace_0 rfl (lv_at hl 0 rfl) ?_
  refine lv_i2l hx hb dX11_isPlace_1 rfl ?_
  refine lv_lconst (v := 0) hx hb dX11_isPlace_2 (by decide) ?_
  refine lv_ldc2 hx hb C.2.2.2.1 (C.2.2.2.2.1 _ mw_1417) dX11_isPlace_3 ?_
  obtain ⟨q7, e8, h⟩ := bnd h
  refine scall_i C hP hS (c_X11_in e8) ms_X11_in mw_1320 ⟨Nat.le_of_ble_eq_true rfl, Nat.le_of_ble_eq_true rfl⟩ (As := [.long ((a1 : Int32).toInt64), .long (0), .long (60)]) rfl hl.1 rfl (lv_room (Nat.le_of_ble_eq_true rfl)) dX11_isPlace_6 (fun H locs hP hS => ?_)
  refine lv_if_eq (tgt := 28) hx hb dX11_isPlace_9 (by decide) (fun c9 => ?_) (fun c9 => ?_)
  · replace h := h_t c9 h
    refine lv_iconst (v := 0) hx hb dX11_isPlace_28 (by decide) ?_
    exact ret_z C hr hlocks hP hS h (Or.inl rfl) dX11_isPlace_29
  · replace h := h_f c9 h
    refine lv_iload_n hx hb dX11_isPlace_12 rfl (lv_at hl 1 rfl) ?_
    refine lv_i2l hx hb dX11_isPlace_13 rfl ?_
    refine lv_lconst (v := 0) hx hb dX11_isPlace_14 (by decide) ?_
    refine lv_ldc2 hx hb C.2.2.2.1 (C.2.2.2.2.1 _ mw_1417) dX11_isPlace_15 ?_
    obtain ⟨q10, e11, h⟩ := bnd h
    refine scall_i C hP hS (c_X11_in e11) ms_X11_in mw_1320 ⟨Nat.le_of_ble_eq_true rfl, Nat.le_of_ble_eq_true rfl⟩ (As := [.long ((a2 : Int32).toInt64), .long (0), .long (60)]) rfl hl.1 rfl (lv_room (Nat.le_of_ble_eq_true rfl)) dX11_isPlace_18 (fun H locs hP hS => ?_)
    refine lv_if_eq (tgt := 28) hx hb dX11_isPlace_21 (by decide) (fun c12 => ?_) (fun c12 => ?_)
    · replace h := h_t c12 h
      refine lv_iconst (v := 0) hx hb dX11_isPlace_28 (by decide) ?_
      exact ret_z C hr hlocks hP hS h (Or.inl rfl) dX11_isPlace_29
    · replace h := h_f c12 h
      refine lv_iconst (v := 1) hx hb dX11_isPlace_24 (by decide) ?_
      refine lv_goto (tgt := 29) hx hb dX11_isPlace_25 (by decide) ?_
      exact ret_z C hr hlocks hP hS h (Or.inr rfl) dX11_isPlace_29
set_option maxHeartbeats 4000000 in
set_option maxRecDepth 100000 in
theorem c_X11_height {l : Launch} {G : GT} {lam : Lm} {σ : St} {a1 : Int32} {q : Int32 × St} (h : f_X11_height σ a1 = some q) : Met l yX11_height (Cond.code yX11_height cX11_height 2 ((some .int)) :: TB) ({ frames := 2, cells := 0, slots := 0, locals := 45 } : Room) (va_Pc [.ref (g_ad G 26), .int a1] (GW G lam σ)) (Ri q G lam) 0 0 (g_A G) := by
  refine mk_Qi (own := RX11) (by decide) (Nat.le_of_ble_eq_true rfl) rfl (fun p e s m args below meth c C hr hlocks hP ls hl => ?_)
  have hx := C.1
  have hb := C.2.1
  have hl : lv_has ls 2 [(0, .ref (g_ad G 26)), (1, .int a1)] := hl
  have hS : va_S (g_A G) s.heap s.heap [] := va_S.rf
  unfold f_X11_height at h
  refine lv_aload_n hx hb dX11_height_0 rfl (lv_at hl 0 rfl) ?_
  obtain ⟨q9, e10, h⟩ := bnd h
  refine call_i C hP hS (c_X11_isSheet e10) mi_X11_isSheet mw_1441 26 (by decide) rfl rfl ⟨Nat.le_of_ble_eq_true rfl, Nat.le_of_ble_eq_true rfl⟩ (As := []) rfl hl.1 rfl (lv_room (Nat.le_of_ble_eq_true rfl)) dX11_height_1 (fun H locs hP hS => ?_)
  refine lv_if_ne (tgt := 12) hx hb dX11_height_4 (by decide) (fun c11 => ?_) (fun c11 => ?_)
  · replace h := h_f c11 h
    refine lv_iload_n hx hb dX11_height_12 rfl (lv_at hl 1 rfl) ?_
    obtain ⟨q12, e13, h⟩ := bnd h
    refine scall_i C hP hS (c_X11_isMinute e13) ms_X11_isMinute mw_1490 ⟨Nat.le_of_ble_eq_true rfl, Nat.le_of_ble_eq_true rfl⟩ (As := [.int a1]) rfl hl.1 rfl (lv_room (Nat.le_of_ble_eq_true rfl)) dX11_height_13 (fun H locs hP hS => ?_)
    refine lv_if_ne (tgt := 24) hx hb dX11_height_16 (by decide) (fun c14 => ?_) (fun c14 => ?_)
    · replace h := h_f c14 h
      refine lv_aload_n hx hb dX11_height_24 rfl (lv_at hl 0 rfl) ?_
      refine lv_iload_n hx hb dX11_height_25 rfl (lv_at hl 1 rfl) ?_
      obtain ⟨q15, e16, h⟩ := bnd h
      refine call_i C hP hS (c_X11_tideAt e16) mi_X11_tideAt mw_1494 26 (by decide) rfl rfl ⟨Nat.le_of_ble_eq_true rfl, Nat.le_of_ble_eq_true rfl⟩ (As := [.int a1]) rfl hl.1 rfl (lv_room (Nat.le_of_ble_eq_true rfl)) dX11_height_26 (fun H locs hP hS => ?_)
      exact ret_i C hr hlocks hP hS h dX11_height_29
    · replace h := h_t c14 h
      refine lv_ldc hx hb C.2.2.2.1 (C.2.2.2.2.1 _ mw_1323) dX11_height_19 ?_
      refine lv_goto (tgt := 29) hx hb dX11_height_21 (by decide) ?_
      exact ret_i C hr hlocks hP hS h dX11_height_29
  · replace h := h_t c11 h
    refine lv_ldc hx hb C.2.2.2.1 (C.2.2.2.2.1 _ mw_1403) dX11_height_7 ?_
    refine lv_goto (tgt := 29) hx hb dX11_height_9 (by decide) ?_
    exact ret_i C hr hlocks hP hS h dX11_height_29
set_option maxHeartbeats 4000000 in
set_option maxRecDepth 100000 in
theorem c_X11_water {l : Launch} {G : GT} {lam : Lm} {σ : St} {a1 : Int32} {a2 : Int32} {a3 : Int32} {q : Int32 × St} (h : f_X11_water σ a1 a2 a3 = some q) : Met l yX11_water (Cond.code yX11_water cX11_water 4 ((some .int)) :: TB) ({ frames := 4, cells := 0, slots := 0, locals := 95 } : Room) (va_Pc [.ref (g_ad G 26), .int a1, .int a2, .int a3] (GW G lam σ)) (Ri q G lam) 0 0 (g_A G) := by
  refine mk_Qi (own := RX11) (by decide) (Nat.le_of_ble_eq_true rfl) rfl (fun p e s m args below meth c C hr hlocks hP ls hl => ?_)
  have hx := C.1
  have hb := C.2.1
  have hl : lv_has ls 4 [(0, .ref (g_ad G 26)), (1, .int a1), (2, .int a2), (3, .int a3)] := hl
  have hS : va_S (g_A G) s.heap s.heap [] := va_S.rf
  unfold f_X11_water at h
  refine lv_aload_n hx hb dX11_water_0 rfl (lv_at hl 0 rfl) ?_
  obtain ⟨q15, e16, h⟩ := bnd h
  refine call_i C hP hS (c_X11_isSheet e16) mi_X11_isSheet mw_1441 26 (by decide) rfl rfl ⟨Nat.le_of_ble_eq_true rfl, Nat.le_of_ble_eq_true rfl⟩ (As := []) rfl hl.1 rfl (lv_room (Nat.le_of_ble_eq_true rfl)) dX11_water_1 (fun H locs hP hS => ?_)
  refine lv_if_ne (tgt := 10) hx hb dX11_water_4 (by decide) (fun c17 => ?_) (fun c17 => ?_)
  · replace h := h_f c17 h
    refine lv_iload_n hx hb dX11_water_10 rfl (lv_at hl 1 rfl) ?_
    refine lv_iload_n hx hb dX11_water_11 rfl (lv_at hl 2 rfl) ?_
    obtain ⟨q18, e19, h⟩ := bnd h
    refine scall_i C hP hS (c_X11_isPlace e19) ms_X11_isPlace mw_1502 ⟨Nat.le_of_ble_eq_true rfl, Nat.le_of_ble_eq_true rfl⟩ (As := [.int a1, .int a2]) rfl hl.1 rfl (lv_room (Nat.le_of_ble_eq_true rfl)) dX11_water_12 (fun H locs hP hS => ?_)
    refine lv_if_eq (tgt := 28) hx hb dX11_water_15 (by decide) (fun c20 => ?_) (fun c20 => ?_)
    · replace h := h_t c20 h
      refine lv_ldc hx hb C.2.2.2.1 (C.2.2.2.2.1 _ mw_1323) dX11_water_28 ?_
      refine lv_goto (tgt := 52) hx hb dX11_water_30 (by decide) ?_
      exact ret_i C hr hlocks hP hS h dX11_water_52
    · replace h := h_f c20 h
      refine lv_iload_n hx hb dX11_water_18 rfl (lv_at hl 3 rfl) ?_
      refine lv_i2l hx hb dX11_water_19 rfl ?_
      refine lv_lconst (v := 0) hx hb dX11_water_20 (by decide) ?_
      refine lv_lconst (v := 1) hx hb dX11_water_21 (by decide) ?_
      obtain ⟨q21, e22, h⟩ := bnd h
      refine scall_i C hP hS (c_X11_in e22) ms_X11_in mw_1320 ⟨Nat.le_of_ble_eq_true rfl, Nat.le_of_ble_eq_true rfl⟩ (As := [.long ((a3 : Int32).toInt64), .long (0), .long (1)]) rfl hl.1 rfl (lv_room (Nat.le_of_ble_eq_true rfl)) dX11_water_22 (fun H locs hP hS => ?_)
      refine lv_if_ne (tgt := 33) hx hb dX11_water_25 (by decide) (fun c23 => ?_) (fun c23 => ?_)
      · replace h := h_f c23 h
        refine lv_iload_n hx hb dX11_water_33 rfl (lv_at hl 3 rfl) ?_
        refine lv_if_ne (tgt := 46) hx hb dX11_water_34 (by decide) (fun c24 => ?_) (fun c24 => ?_)
        · replace h := h_f c24 h
          refine lv_aload_n hx hb dX11_water_46 rfl (lv_at hl 0 rfl) ?_
          refine lv_iload_n hx hb dX11_water_47 rfl (lv_at hl 1 rfl) ?_
          refine lv_iload_n hx hb dX11_water_48 rfl (lv_at hl 2 rfl) ?_
          obtain ⟨q25, e26, h⟩ := bnd h
          refine call_i C hP hS (c_X11_shoalAt e26) mi_X11_shoalAt mw_1509 26 (by decide) rfl rfl ⟨Nat.le_of_ble_eq_true rfl, Nat.le_of_ble_eq_true rfl⟩ (As := [.int a1, .int a2]) rfl hl.1 rfl (lv_room (Nat.le_of_ble_eq_true rfl)) dX11_water_49 (fun H locs hP hS => ?_)
          exact ret_i C hr hlocks hP hS h dX11_water_52
        · replace h := h_t c24 h
          refine lv_aload_n hx hb dX11_water_37 rfl (lv_at hl 0 rfl) ?_
          refine lv_iload_n hx hb dX11_water_38 rfl (lv_at hl 1 rfl) ?_
          refine lv_iload_n hx hb dX11_water_39 rfl (lv_at hl 2 rfl) ?_
          obtain ⟨q27, e28, h⟩ := bnd h
          refine call_i C hP hS (c_X11_charted e28) mi_X11_charted mw_1505 26 (by decide) rfl rfl ⟨Nat.le_of_ble_eq_true rfl, Nat.le_of_ble_eq_true rfl⟩ (As := [.int a1, .int a2]) rfl hl.1 rfl (lv_room (Nat.le_of_ble_eq_true rfl)) dX11_water_40 (fun H locs hP hS => ?_)
          refine lv_goto (tgt := 52) hx hb dX11_water_43 (by decide) ?_
          exact ret_i C hr hlocks hP hS h dX11_water_52
      · replace h := h_t c23 h
        refine lv_ldc hx hb C.2.2.2.1 (C.2.2.2.2.1 _ mw_1323) dX11_water_28 ?_
        refine lv_goto (tgt := 52) hx hb dX11_water_30 (by decide) ?_
        exact ret_i C hr hlocks hP hS h dX11_water_52
  · replace h := h_t c17 h
    refine lv_ldc hx hb C.2.2.2.1 (C.2.2.2.2.1 _ mw_1403) dX11_water_7 ?_
    exact ret_i C hr hlocks hP hS h dX11_water_9
set_option maxHeartbeats 4000000 in
set_option maxRecDepth 100000 in
theorem c_X11_mark {l : Launch} {G : GT} {lam : Lm} {σ : St} {a1 : Int32} {a2 : Int32} {a3 : Int32} {q : Int32 × St} (h : f_X11_mark σ a1 a2 a3 = some q) : Met l yX11_mark (Cond.code yX11_mark cX11_mark 4 ((some .int)) :: TB) ({ frames := 3, cells := 0, slots := 0, locals := 67 } : Room) (va_Pc [.ref (g_ad G 26), .int a1, .int a2, .int a3] (GW G lam σ)) (Ri q G lam) 0 0 (g_A G) := by
  refine mk_Qi (own := RX11) (by decide) (Nat.le_of_ble_eq_true rfl) rfl (fun p e s m args below meth c C hr hlocks hP ls hl => ?_)
  have hx := C.1
  have hb := C.2.1
  have hl : lv_has ls 4 [(0, .ref (g_ad G 26)), (1, .int a1), (2, .int a2), (3, .int a3)] := hl
  have hS : va_S (g_A G) s.heap s.heap [] := va_S.rf
  unfold f_X11_mark at h
  refine lv_aload_n hx hb dX11_mark_0 rfl (lv_at hl 0 rfl) ?_
  refine lv_iload_n hx hb dX11_mark_1 rfl (lv_at hl 1 rfl) ?_
  obtain ⟨q18, e19, h⟩ := bnd h
  refine call_i C hP hS (c_X11_isThing e19) mi_X11_isThing mw_1412 26 (by decide) rfl rfl ⟨Nat.le_of_ble_eq_true rfl, Nat.le_of_ble_eq_true rfl⟩ (As := [.int a1]) rfl hl.1 rfl (lv_room (Nat.le_of_ble_eq_true rfl)) dX11_mark_2 (fun H locs hP hS => ?_)
  refine lv_if_eq (tgt := 25) hx hb dX11_mark_5 (by decide) (fun c20 => ?_) (fun c20 => ?_)
  · replace h := h_t c20 h
    refine lv_ldc hx hb C.2.2.2.1 (C.2.2.2.2.1 _ mw_1323) dX11_mark_25 ?_
    exact ret_i C hr hlocks hP hS h dX11_mark_27
  · replace h := h_f c20 h
    refine lv_iload_n hx hb dX11_mark_8 rfl (lv_at hl 2 rfl) ?_
    obtain ⟨q21, e22, h⟩ := bnd h
    refine scall_i C hP hS (c_X11_isMinute e22) ms_X11_isMinute mw_1490 ⟨Nat.le_of_ble_eq_true rfl, Nat.le_of_ble_eq_true rfl⟩ (As := [.int a2]) rfl hl.1 rfl (lv_room (Nat.le_of_ble_eq_true rfl)) dX11_mark_9 (fun H locs hP hS => ?_)
    refine lv_if_eq (tgt := 25) hx hb dX11_mark_12 (by decide) (fun c23 => ?_) (fun c23 => ?_)
    · replace h := h_t c23 h
      refine lv_ldc hx hb C.2.2.2.1 (C.2.2.2.2.1 _ mw_1323) dX11_mark_25 ?_
      exact ret_i C hr hlocks hP hS h dX11_mark_27
    · replace h := h_f c23 h
      refine lv_iload_n hx hb dX11_mark_15 rfl (lv_at hl 3 rfl) ?_
      refine lv_i2l hx hb dX11_mark_16 rfl ?_
      refine lv_lconst (v := 0) hx hb dX11_mark_17 (by decide) ?_
      refine lv_lconst (v := 1) hx hb dX11_mark_18 (by decide) ?_
      obtain ⟨q24, e25, h⟩ := bnd h
      refine scall_i C hP hS (c_X11_in e25) ms_X11_in mw_1320 ⟨Nat.le_of_ble_eq_true rfl, Nat.le_of_ble_eq_true rfl⟩ (As := [.long ((a3 : Int32).toInt64), .long (0), .long (1)]) rfl hl.1 rfl (lv_room (Nat.le_of_ble_eq_true rfl)) dX11_mark_19 (fun H locs hP hS => ?_)
      refine lv_if_ne (tgt := 28) hx hb dX11_mark_22 (by decide) (fun c26 => ?_) (fun c26 => ?_)
      · replace h := h_f c26 h
        refine lv_aload_n hx hb dX11_mark_28 rfl (lv_at hl 0 rfl) ?_
        refine lv_iload_n hx hb dX11_mark_29 rfl (lv_at hl 1 rfl) ?_
        obtain ⟨q27, e28, h⟩ := bnd h
        refine call_i C hP hS (c_X11_isMark e28) mi_X11_isMark mw_1535 26 (by decide) rfl rfl ⟨Nat.le_of_ble_eq_true rfl, Nat.le_of_ble_eq_true rfl⟩ (As := [.int a1]) rfl hl.1 rfl (lv_room (Nat.le_of_ble_eq_true rfl)) dX11_mark_30 (fun H locs hP hS => ?_)
        refine lv_if_ne (tgt := 41) hx hb dX11_mark_33 (by decide) (fun c29 => ?_) (fun c29 => ?_)
        · replace h := h_f c29 h
          refine lv_iload_n hx hb dX11_mark_41 rfl (lv_at hl 3 rfl) ?_
          refine lv_if_ne (tgt := 54) hx hb dX11_mark_42 (by decide) (fun c30 => ?_) (fun c30 => ?_)
          · replace h := h_f c30 h
            refine lv_aload_n hx hb dX11_mark_54 rfl (lv_at hl 0 rfl) ?_
            refine lv_iload_n hx hb dX11_mark_55 rfl (lv_at hl 1 rfl) ?_
            refine lv_iconst (v := 2) hx hb dX11_mark_56 (by decide) ?_
            obtain ⟨q31, e32, h⟩ := bnd h
            refine call_i C hP hS (c_X11_of e32) mi_X11_of mw_1433 26 (by decide) rfl rfl ⟨Nat.le_of_ble_eq_true rfl, Nat.le_of_ble_eq_true rfl⟩ (As := [.int a1, .int 2]) rfl hl.1 rfl (lv_room (Nat.le_of_ble_eq_true rfl)) dX11_mark_57 (fun H locs hP hS => ?_)
            exact ret_i C hr hlocks hP hS h dX11_mark_60
          · replace h := h_t c30 h
            refine lv_aload_n hx hb dX11_mark_45 rfl (lv_at hl 0 rfl) ?_
            refine lv_iload_n hx hb dX11_mark_46 rfl (lv_at hl 1 rfl) ?_
            refine lv_iload_n hx hb dX11_mark_47 rfl (lv_at hl 2 rfl) ?_
            obtain ⟨q33, e34, h⟩ := bnd h
            refine call_i C hP hS (c_X11_eastOf e34) mi_X11_eastOf mw_1539 26 (by decide) rfl rfl ⟨Nat.le_of_ble_eq_true rfl, Nat.le_of_ble_eq_true rfl⟩ (As := [.int a1, .int a2]) rfl hl.1 rfl (lv_room (Nat.le_of_ble_eq_true rfl)) dX11_mark_48 (fun H locs hP hS => ?_)
            refine lv_goto (tgt := 60) hx hb dX11_mark_51 (by decide) ?_
            exact ret_i C hr hlocks hP hS h dX11_mark_60
        · replace h := h_t c29 h
          refine lv_ldc hx hb C.2.2.2.1 (C.2.2.2.2.1 _ mw_1403) dX11_mark_36 ?_
          refine lv_goto (tgt := 60) hx hb dX11_mark_38 (by decide) ?_
          exact ret_i C hr hlocks hP hS h dX11_mark_60
      · replace h := h_t c26 h
        refine lv_ldc hx hb C.2.2.2.1 (C.2.2.2.2.1 _ mw_1323) dX11_mark_25 ?_
        exact ret_i C hr hlocks hP hS h dX11_mark_27
set_option maxHeartbeats 4000000 in
set_option maxRecDepth 100000 in
theorem c_X11_seen {l : Launch} {G : GT} {lam : Lm} {σ : St} {a1 : Int32} {a2 : Int32} {a3 : Int32} {a4 : Int32} {q : Int32 × St} (h : f_X11_seen σ a1 a2 a3 a4 = some q) : Met l yX11_seen (Cond.code yX11_seen cX11_seen 5 ((some .int)) :: TB) ({ frames := 3, cells := 0, slots := 0, locals := 80 } : Room) (va_Pc [.ref (g_ad G 26), .int a1, .int a2, .int a3, .int a4] (GW G lam σ)) (Ri q G lam) 0 0 (g_A G) := by
  refine mk_Qi (own := RX11) (by decide) (Nat.le_of_ble_eq_true rfl) rfl (fun p e s m args below meth c C hr hlocks hP ls hl => ?_)
  have hx := C.1
  have hb := C.2.1
  have hl : lv_has ls 5 [(0, .ref (g_ad G 26)), (1, .int a1), (2, .int a2), (3, .int a3), (4, .int a4)] := hl
  have hS : va_S (g_A G) s.heap s.heap [] := va_S.rf
  unfold f_X11_seen at h
  refine lv_aload_n hx hb dX11_seen_0 rfl (lv_at hl 0 rfl) ?_
  refine lv_iload_n hx hb dX11_seen_1 rfl (lv_at hl 1 rfl) ?_
  obtain ⟨q16, e17, h⟩ := bnd h
  refine call_i C hP hS (c_X11_isThing e17) mi_X11_isThing mw_1412 26 (by decide) rfl rfl ⟨Nat.le_of_ble_eq_true rfl, Nat.le_of_ble_eq_true rfl⟩ (As := [.int a1]) rfl hl.1 rfl (lv_room (Nat.le_of_ble_eq_true rfl)) dX11_seen_2 (fun H locs hP hS => ?_)
  refine lv_if_eq (tgt := 24) hx hb dX11_seen_5 (by decide) (fun c18 => ?_) (fun c18 => ?_)
  · replace h := h_t c18 h
    refine lv_ldc hx hb C.2.2.2.1 (C.2.2.2.2.1 _ mw_1323) dX11_seen_24 ?_
    exact ret_i C hr hlocks hP hS h dX11_seen_26
  · replace h := h_f c18 h
    refine lv_iload_n hx hb dX11_seen_8 rfl (lv_at hl 2 rfl) ?_
    refine lv_iload_n hx hb dX11_seen_9 rfl (lv_at hl 3 rfl) ?_
    obtain ⟨q19, e20, h⟩ := bnd h
    refine scall_i C hP hS (c_X11_isPlace e20) ms_X11_isPlace mw_1502 ⟨Nat.le_of_ble_eq_true rfl, Nat.le_of_ble_eq_true rfl⟩ (As := [.int a2, .int a3]) rfl hl.1 rfl (lv_room (Nat.le_of_ble_eq_true rfl)) dX11_seen_10 (fun H locs hP hS => ?_)
    refine lv_if_eq (tgt := 24) hx hb dX11_seen_13 (by decide) (fun c21 => ?_) (fun c21 => ?_)
    · replace h := h_t c21 h
      refine lv_ldc hx hb C.2.2.2.1 (C.2.2.2.2.1 _ mw_1323) dX11_seen_24 ?_
      exact ret_i C hr hlocks hP hS h dX11_seen_26
    · replace h := h_f c21 h
      refine lv_iload hx hb dX11_seen_16 (lv_at hl 4 rfl) ?_
      obtain ⟨q22, e23, h⟩ := bnd h
      refine scall_i C hP hS (c_X11_isMinute e23) ms_X11_isMinute mw_1490 ⟨Nat.le_of_ble_eq_true rfl, Nat.le_of_ble_eq_true rfl⟩ (As := [.int a4]) rfl hl.1 rfl (lv_room (Nat.le_of_ble_eq_true rfl)) dX11_seen_18 (fun H locs hP hS => ?_)
      refine lv_if_ne (tgt := 27) hx hb dX11_seen_21 (by decide) (fun c24 => ?_) (fun c24 => ?_)
      · replace h := h_f c24 h
        refine lv_aload_n hx hb dX11_seen_27 rfl (lv_at hl 0 rfl) ?_
        refine lv_iload_n hx hb dX11_seen_28 rfl (lv_at hl 1 rfl) ?_
        obtain ⟨q25, e26, h⟩ := bnd h
        refine call_i C hP hS (c_X11_isMark e26) mi_X11_isMark mw_1535 26 (by decide) rfl rfl ⟨Nat.le_of_ble_eq_true rfl, Nat.le_of_ble_eq_true rfl⟩ (As := [.int a1]) rfl hl.1 rfl (lv_room (Nat.le_of_ble_eq_true rfl)) dX11_seen_29 (fun H locs hP hS => ?_)
        refine lv_if_ne (tgt := 40) hx hb dX11_seen_32 (by decide) (fun c27 => ?_) (fun c27 => ?_)
        · replace h := h_f c27 h
          refine lv_aload_n hx hb dX11_seen_40 rfl (lv_at hl 0 rfl) ?_
          refine lv_iload_n hx hb dX11_seen_41 rfl (lv_at hl 1 rfl) ?_
          refine lv_iload_n hx hb dX11_seen_42 rfl (lv_at hl 2 rfl) ?_
          refine lv_iload_n hx hb dX11_seen_43 rfl (lv_at hl 3 rfl) ?_
          refine lv_iload hx hb dX11_seen_44 (lv_at hl 4 rfl) ?_
          obtain ⟨q28, e29, h⟩ := bnd h
          refine call_i C hP hS (c_X11_isSeen e29) mi_X11_isSeen mw_1547 26 (by decide) rfl rfl ⟨Nat.le_of_ble_eq_true rfl, Nat.le_of_ble_eq_true rfl⟩ (As := [.int a1, .int a2, .int a3, .int a4]) rfl hl.1 rfl (lv_room (Nat.le_of_ble_eq_true rfl)) dX11_seen_46 (fun H locs hP hS => ?_)
          refine lv_if_eq (tgt := 56) hx hb dX11_seen_49 (by decide) (fun c30 => ?_) (fun c30 => ?_)
          · replace h := h_t c30 h
            refine lv_iconst (v := 0) hx hb dX11_seen_56 (by decide) ?_
            exact ret_i C hr hlocks hP hS h dX11_seen_57
          · replace h := h_f c30 h
            refine lv_iconst (v := 1) hx hb dX11_seen_52 (by decide) ?_
            refine lv_goto (tgt := 57) hx hb dX11_seen_53 (by decide) ?_
            exact ret_i C hr hlocks hP hS h dX11_seen_57
        · replace h := h_t c27 h
          refine lv_ldc hx hb C.2.2.2.1 (C.2.2.2.2.1 _ mw_1403) dX11_seen_35 ?_
          refine lv_goto (tgt := 57) hx hb dX11_seen_37 (by decide) ?_
          exact ret_i C hr hlocks hP hS h dX11_seen_57
      · replace h := h_t c24 h
        refine lv_ldc hx hb C.2.2.2.1 (C.2.2.2.2.1 _ mw_1323) dX11_seen_24 ?_
        exact ret_i C hr hlocks hP hS h dX11_seen_26
set_option maxHeartbeats 4000000 in
set_option maxRecDepth 100000 in
theorem c_X11_areTwo {l : Launch} {G : GT} {lam : Lm} {σ : St} {a1 : Int32} {a2 : Int32} {q : Int32 × St} (h : f_X11_areTwo σ a1 a2 = some q) : Met l yX11_areTwo (Cond.code yX11_areTwo cX11_areTwo 3 ((some .boolean)) :: TB) ({ frames := 2, cells := 0, slots := 0, locals := 46 } : Room) (va_Pc [.ref (g_ad G 26), .int a1, .int a2] (GW G lam σ)) (Ri q G lam) 0 0 (g_A G) := by
  refine mk_Qi (own := RX11) (by decide) (Nat.le_of_ble_eq_true rfl) rfl (fun p e s m args below meth c C hr hlocks hP ls hl => ?_)
  have hx := C.1
  have hb := C.2.1
  have hl : lv_has ls 3 [(0, .ref (g_ad G 26)), (1, .int a1), (2, .int a2)] := hl
  have hS : va_S (g_A G) s.heap s.heap [] := va_S.rf
  unfold f_X11_areTwo at h
  refine lv_aload_n hx hb dX11_areTwo_0 rfl (lv_at hl 0 rfl) ?_
  refine lv_iload_n hx hb dX11_areTwo_1 rfl (lv_at hl 1 rfl) ?_
  obtain ⟨q8, e9, h⟩ := bnd h
  refine call_i C hP hS (c_X11_isThing e9) mi_X11_isThing mw_1412 26 (by decide) rfl rfl ⟨Nat.le_of_ble_eq_true rfl, Nat.le_of_ble_eq_true rfl⟩ (As := [.int a1]) rfl hl.1 rfl (lv_room (Nat.le_of_ble_eq_true rfl)) dX11_areTwo_2 (fun H locs hP hS => ?_)
  refine lv_if_eq (tgt := 25) hx hb dX11_areTwo_5 (by decide) (fun c10 => ?_) (fun c10 => ?_)
  · replace h := h_t c10 h
    refine lv_iconst (v := 0) hx hb dX11_areTwo_25 (by decide) ?_
    exact ret_z C hr hlocks hP hS h (Or.inl rfl) dX11_areTwo_26
  · replace h := h_f c10 h
    refine lv_aload_n hx hb dX11_areTwo_8 rfl (lv_at hl 0 rfl) ?_
    refine lv_iload_n hx hb dX11_areTwo_9 rfl (lv_at hl 2 rfl) ?_
    obtain ⟨q11, e12, h⟩ := bnd h
    refine call_i C hP hS (c_X11_isThing e12) mi_X11_isThing mw_1412 26 (by decide) rfl rfl ⟨Nat.le_of_ble_eq_true rfl, Nat.le_of_ble_eq_true rfl⟩ (As := [.int a2]) rfl hl.1 rfl (lv_room (Nat.le_of_ble_eq_true rfl)) dX11_areTwo_10 (fun H locs hP hS => ?_)
    refine lv_if_eq (tgt := 25) hx hb dX11_areTwo_13 (by decide) (fun c13 => ?_) (fun c13 => ?_)
    · replace h := h_t c13 h
      refine lv_iconst (v := 0) hx hb dX11_areTwo_25 (by decide) ?_
      exact ret_z C hr hlocks hP hS h (Or.inl rfl) dX11_areTwo_26
    · replace h := h_f c13 h
      refine lv_iload_n hx hb dX11_areTwo_16 rfl (lv_at hl 1 rfl) ?_
      refine lv_iload_n hx hb dX11_areTwo_17 rfl (lv_at hl 2 rfl) ?_
      refine lv_icmp_eq (tgt := 25) hx hb dX11_areTwo_18 (by decide) (fun c14 => ?_) (fun c14 => ?_)
      · replace h := h_t c14 h
        refine lv_iconst (v := 0) hx hb dX11_areTwo_25 (by decide) ?_
        exact ret_z C hr hlocks hP hS h (Or.inl rfl) dX11_areTwo_26
      · replace h := h_f c14 h
        refine lv_iconst (v := 1) hx hb dX11_areTwo_21 (by decide) ?_
        refine lv_goto (tgt := 26) hx hb dX11_areTwo_22 (by decide) ?_
        exact ret_z C hr hlocks hP hS h (Or.inr rfl) dX11_areTwo_26
set_option maxHeartbeats 4000000 in
set_option maxRecDepth 100000 in
theorem c_X11_areApart {l : Launch} {G : GT} {lam : Lm} {σ : St} {a1 : Int32} {a2 : Int32} {q : Int32 × St} (h : f_X11_areApart σ a1 a2 = some q) : Met l yX11_areApart (Cond.code yX11_areApart cX11_areApart 3 ((some .boolean)) :: TB) ({ frames := 1, cells := 0, slots := 0, locals := 22 } : Room) (va_Pc [.ref (g_ad G 26), .int a1, .int a2] (GW G lam σ)) (Ri q G lam) 0 0 (g_A G) := by
  refine mk_Qi (own := RX11) (by decide) (Nat.le_of_ble_eq_true rfl) rfl (fun p e s m args below meth c C hr hlocks hP ls hl => ?_)
  have hx := C.1
  have hb := C.2.1
  have hl : lv_has ls 3 [(0, .ref (g_ad G 26)), (1, .int a1), (2, .int a2)] := hl
  have hS : va_S (g_A G) s.heap s.heap [] := va_S.rf
  unfold f_X11_areApart at h
  refine lv_aload_n hx hb dX11_areApart_0 rfl (lv_at hl 0 rfl) ?_
  refine lv_iload_n hx hb dX11_areApart_1 rfl (lv_at hl 1 rfl) ?_
  refine lv_iconst (v := 1) hx hb dX11_areApart_2 (by decide) ?_
  obtain ⟨q11, e12, h⟩ := bnd h
  refine call_i C hP hS (c_X11_of e12) mi_X11_of mw_1433 26 (by decide) rfl rfl ⟨Nat.le_of_ble_eq_true rfl, Nat.le_of_ble_eq_true rfl⟩ (As := [.int a1, .int 1]) rfl hl.1 rfl (lv_room (Nat.le_of_ble_eq_true rfl)) dX11_areApart_3 (fun H locs hP hS => ?_)
  refine lv_aload_n hx hb dX11_areApart_6 rfl (lv_at hl 0 rfl) ?_
  refine lv_iload_n hx hb dX11_areApart_7 rfl (lv_at hl 2 rfl) ?_
  refine lv_iconst (v := 1) hx hb dX11_areApart_8 (by decide) ?_
  obtain ⟨q13, e14, h⟩ := bnd h
  refine call_i C hP hS (c_X11_of e14) mi_X11_of mw_1433 26 (by decide) rfl rfl ⟨Nat.le_of_ble_eq_true rfl, Nat.le_of_ble_eq_true rfl⟩ (As := [.int a2, .int 1]) rfl hl.1 rfl (lv_room (Nat.le_of_ble_eq_true rfl)) dX11_areApart_9 (fun H locs hP hS => ?_)
  refine lv_icmp_ne (tgt := 30) hx hb dX11_areApart_12 (by decide) (fun c15 => ?_) (fun c15 => ?_)
  · replace h := h_f c15 h
    refine lv_iconst (v := 1) hx hb dX11_areApart_30 (by decide) ?_
    refine lv_goto (tgt := 35) hx hb dX11_areApart_31 (by decide) ?_
    exact ret_z C hr hlocks hP hS h (Or.inr rfl) dX11_areApart_35
  · replace h := h_t c15 h
    refine lv_aload_n hx hb dX11_areApart_15 rfl (lv_at hl 0 rfl) ?_
    refine lv_iload_n hx hb dX11_areApart_16 rfl (lv_at hl 1 rfl) ?_
    refine lv_iconst (v := 2) hx hb dX11_areApart_17 (by decide) ?_
    obtain ⟨q16, e17, h⟩ := bnd h
    refine call_i C hP hS (c_X11_of e17) mi_X11_of mw_1433 26 (by decide) rfl rfl ⟨Nat.le_of_ble_eq_true rfl, Nat.le_of_ble_eq_true rfl⟩ (As := [.int a1, .int 2]) rfl hl.1 rfl (lv_room (Nat.le_of_ble_eq_true rfl)) dX11_areApart_18 (fun H locs hP hS => ?_)
    refine lv_aload_n hx hb dX11_areApart_21 rfl (lv_at hl 0 rfl) ?_
    refine lv_iload_n hx hb dX11_areApart_22 rfl (lv_at hl 2 rfl) ?_
    refine lv_iconst (v := 2) hx hb dX11_areApart_23 (by decide) ?_
    obtain ⟨q18, e19, h⟩ := bnd h
    refine call_i C hP hS (c_X11_of e19) mi_X11_of mw_1433 26 (by decide) rfl rfl ⟨Nat.le_of_ble_eq_true rfl, Nat.le_of_ble_eq_true rfl⟩ (As := [.int a2, .int 2]) rfl hl.1 rfl (lv_room (Nat.le_of_ble_eq_true rfl)) dX11_areApart_24 (fun H locs hP hS => ?_)
    refine lv_icmp_eq (tgt := 34) hx hb dX11_areApart_27 (by decide) (fun c20 => ?_) (fun c20 => ?_)
    · replace h := h_t c20 h
      refine lv_iconst (v := 0) hx hb dX11_areApart_34 (by decide) ?_
      exact ret_z C hr hlocks hP hS h (Or.inl rfl) dX11_areApart_35
    · replace h := h_f c20 h
      refine lv_iconst (v := 1) hx hb dX11_areApart_30 (by decide) ?_
      refine lv_goto (tgt := 35) hx hb dX11_areApart_31 (by decide) ?_
      exact ret_z C hr hlocks hP hS h (Or.inr rfl) dX11_areApart_35
set_option maxHeartbeats 4000000 in
set_option maxRecDepth 100000 in
theorem c_X11_side {l : Launch} {G : GT} {lam : Lm} {σ : St} {a1 : Int32} {a2 : Int32} {a3 : Int32} {a4 : Int32} {q : Int32 × St} (h : f_X11_side σ a1 a2 a3 a4 = some q) : Met l yX11_side (Cond.code yX11_side cX11_side 5 ((some .int)) :: TB) ({ frames := 1, cells := 0, slots := 0, locals := 22 } : Room) (va_Pc [.ref (g_ad G 26), .int a1, .int a2, .int a3, .int a4] (GW G lam σ)) (Ri q G lam) 0 0 (g_A G) := by
  refine mk_Qi (own := RX11) (by decide) (Nat.le_of_ble_eq_true rfl) rfl (fun p e s m args below meth c C hr hlocks hP ls hl => ?_)
  have hx := C.1
  have hb := C.2.1
  have hl : lv_has ls 5 [(0, .ref (g_ad G 26)), (1, .int a1), (2, .int a2), (3, .int a3), (4, .int a4)] := hl
  have hS : va_S (g_A G) s.heap s.heap [] := va_S.rf
  unfold f_X11_side at h
  refine lv_aload_n hx hb dX11_side_0 rfl (lv_at hl 0 rfl) ?_
  refine lv_iload_n hx hb dX11_side_1 rfl (lv_at hl 2 rfl) ?_
  refine lv_iconst (v := 1) hx hb dX11_side_2 (by decide) ?_
  obtain ⟨q13, e14, h⟩ := bnd h
  refine call_i C hP hS (c_X11_of e14) mi_X11_of mw_1433 26 (by decide) rfl rfl ⟨Nat.le_of_ble_eq_true rfl, Nat.le_of_ble_eq_true rfl⟩ (As := [.int a2, .int 1]) rfl hl.1 rfl (lv_room (Nat.le_of_ble_eq_true rfl)) dX11_side_3 (fun H locs hP hS => ?_)
  refine lv_aload_n hx hb dX11_side_6 rfl (lv_at hl 0 rfl) ?_
  refine lv_iload_n hx hb dX11_side_7 rfl (lv_at hl 1 rfl) ?_
  refine lv_iconst (v := 1) hx hb dX11_side_8 (by decide) ?_
  obtain ⟨q15, e16, h⟩ := bnd h
  refine call_i C hP hS (c_X11_of e16) mi_X11_of mw_1433 26 (by decide) rfl rfl ⟨Nat.le_of_ble_eq_true rfl, Nat.le_of_ble_eq_true rfl⟩ (As := [.int a1, .int 1]) rfl hl.1 rfl (lv_room (Nat.le_of_ble_eq_true rfl)) dX11_side_9 (fun H locs hP hS => ?_)
  refine lv_isub hx hb dX11_side_12 ?_
  refine lv_iload hx hb dX11_side_13 (lv_at hl 4 rfl) ?_
  refine lv_aload_n hx hb dX11_side_15 rfl (lv_at hl 0 rfl) ?_
  refine lv_iload_n hx hb dX11_side_16 rfl (lv_at hl 1 rfl) ?_
  refine lv_iconst (v := 2) hx hb dX11_side_17 (by decide) ?_
  obtain ⟨q17, e18, h⟩ := bnd h
  refine call_i C hP hS (c_X11_of e18) mi_X11_of mw_1433 26 (by decide) rfl rfl ⟨Nat.le_of_ble_eq_true rfl, Nat.le_of_ble_eq_true rfl⟩ (As := [.int a1, .int 2]) rfl hl.1 rfl (lv_room (Nat.le_of_ble_eq_true rfl)) dX11_side_18 (fun H locs hP hS => ?_)
  refine lv_isub hx hb dX11_side_21 ?_
  refine lv_imul hx hb dX11_side_22 ?_
  refine lv_aload_n hx hb dX11_side_23 rfl (lv_at hl 0 rfl) ?_
  refine lv_iload_n hx hb dX11_side_24 rfl (lv_at hl 2 rfl) ?_
  refine lv_iconst (v := 2) hx hb dX11_side_25 (by decide) ?_
  obtain ⟨q19, e20, h⟩ := bnd h
  refine call_i C hP hS (c_X11_of e20) mi_X11_of mw_1433 26 (by decide) rfl rfl ⟨Nat.le_of_ble_eq_true rfl, Nat.le_of_ble_eq_true rfl⟩ (As := [.int a2, .int 2]) rfl hl.1 rfl (lv_room (Nat.le_of_ble_eq_true rfl)) dX11_side_26 (fun H locs hP hS => ?_)
  refine lv_aload_n hx hb dX11_side_29 rfl (lv_at hl 0 rfl) ?_
  refine lv_iload_n hx hb dX11_side_30 rfl (lv_at hl 1 rfl) ?_
  refine lv_iconst (v := 2) hx hb dX11_side_31 (by decide) ?_
  obtain ⟨q21, e22, h⟩ := bnd h
  refine call_i C hP hS (c_X11_of e22) mi_X11_of mw_1433 26 (by decide) rfl rfl ⟨Nat.le_of_ble_eq_true rfl, Nat.le_of_ble_eq_true rfl⟩ (As := [.int a1, .int 2]) rfl hl.1 rfl (lv_room (Nat.le_of_ble_eq_true rfl)) dX11_side_32 (fun H locs hP hS => ?_)
  refine lv_isub hx hb dX11_side_35 ?_
  refine lv_iload_n hx hb dX11_side_36 rfl (lv_at hl 3 rfl) ?_
  refine lv_aload_n hx hb dX11_side_37 rfl (lv_at hl 0 rfl) ?_
  refine lv_iload_n hx hb dX11_side_38 rfl (lv_at hl 1 rfl) ?_
  refine lv_iconst (v := 1) hx hb dX11_side_39 (by decide) ?_
  obtain ⟨q23, e24, h⟩ := bnd h
  refine call_i C hP hS (c_X11_of e24) mi_X11_of mw_1433 26 (by decide) rfl rfl ⟨Nat.le_of_ble_eq_true rfl, Nat.le_of_ble_eq_true rfl⟩ (As := [.int a1, .int 1]) rfl hl.1 rfl (lv_room (Nat.le_of_ble_eq_true rfl)) dX11_side_40 (fun H locs hP hS => ?_)
  refine lv_isub hx hb dX11_side_43 ?_
  refine lv_imul hx hb dX11_side_44 ?_
  refine lv_isub hx hb dX11_side_45 ?_
  exact ret_i C hr hlocks hP hS h dX11_side_46
set_option maxHeartbeats 4000000 in
set_option maxRecDepth 100000 in
theorem c_X11_signOf {l : Launch} {G : GT} {lam : Lm} {σ : St} {a1 : Int32} {q : Int32 × St} (h : f_X11_signOf σ a1 = some q) : Met l yX11_signOf (Cond.code yX11_signOf cX11_signOf 1 ((some .int)) :: TB) ({ frames := 0, cells := 0, slots := 0, locals := 0 } : Room) (va_Pc [.int a1] (GW G lam σ)) (Ri q G lam) 0 0 (g_A G) := by
  refine mk_Qi (own := RX11) (by decide) (Nat.le_of_ble_eq_true rfl) rfl (fun p e s m args below meth c C hr hlocks hP ls hl => ?_)
  have hx := C.1
  have hb := C.2.1
  have hl : lv_has ls 1 [(0, .int a1)] := hl
  have hS : va_S (g_A G) s.heap s.heap [] := va_S.rf
  unfold f_X11_signOf at h
  refine lv_iload_n hx hb dX11_signOf_0 rfl (lv_at hl 0 rfl) ?_
  refine lv_if_ge (tgt := 8) hx hb dX11_signOf_1 (by decide) (fun c3 => ?_) (fun c3 => ?_)
  · replace h := h_t c3 h
    refine lv_iload_n hx hb dX11_signOf_8 rfl (lv_at hl 0 rfl) ?_
    refine lv_if_le (tgt := 16) hx hb dX11_signOf_9 (by decide) (fun c4 => ?_) (fun c4 => ?_)
    · replace h := h_t c4 h
      refine lv_iconst (v := 0) hx hb dX11_signOf_16 (by decide) ?_
      exact ret_i C hr hlocks hP hS h dX11_signOf_17
    · replace h := h_f c4 h
      refine lv_iconst (v := 1) hx hb dX11_signOf_12 (by decide) ?_
      refine lv_goto (tgt := 17) hx hb dX11_signOf_13 (by decide) ?_
      exact ret_i C hr hlocks hP hS h dX11_signOf_17
  · replace h := h_f c3 h
    refine lv_iconst (v := (-1)) hx hb dX11_signOf_4 (by decide) ?_
    refine lv_goto (tgt := 17) hx hb dX11_signOf_5 (by decide) ?_
    exact ret_i C hr hlocks hP hS h dX11_signOf_17
