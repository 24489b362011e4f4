set_option maxHeartbeats 4000000 in
set_option maxRecDepth 100000 in
theorem c_X11_feed {l : Launch} {G : GT} {lam : Lm} {σ : St} {a1 : Int32} {q : Int32 × St} (h : f_X11_feed σ a1 = some q) : Met l yX11_feed (Cond.code yX11_feed cX11_feed 2 ((some .int)) :: TB) ({ frames := 1, cells := 0, slots := 0, locals := 25 } : Room) (va_Pc [.ref (g_ad G 26), .int a1] (GW G lam σ)) (Ri q G lam) 0 0 (g_A G) := by
  refine mk_Qi (own := RX11) (by decide) (Nat.le_of_ble_eq_true rfl) rfl (fun p e s m args below meth c C hr hlocks hP ls hl => ?_)
  have hx := C.1
  have hb := C.2.1
  have hl : lv_has ls 2 [(0, .ref (g_ad G 26)), (1, .int a1)] := hl
  have hS : va_S (g_A G) s.heap s.heap [] := va_S.rf
  unfold f_X11_feed at h
  refine lv_iload_n hx hb dX11_feed_0 rfl (lv_at hl 1 rfl) ?_
  refine lv_i2l hx hb dX11_feed_1 rfl ?_
  refine lv_lconst (v := 0) hx hb dX11_feed_2 (by decide) ?_
  refine lv_ldc2 hx hb C.2.2.2.1 (C.2.2.2.2.1 _ mw_1319) dX11_feed_3 ?_
  obtain ⟨q10, e11, h⟩ := bnd h
  refine scall_i C hP hS (c_X11_in e11) ms_X11_in mw_1320 ⟨Nat.le_of_ble_eq_true rfl, Nat.le_of_ble_eq_true rfl⟩ (As := [.long ((a1 : Int32).toInt64), .long (0), .long (255)]) rfl hl.1 rfl (lv_room (Nat.le_of_ble_eq_true rfl)) dX11_feed_6 (fun H locs hP hS => ?_)
  refine lv_if_ne (tgt := 15) hx hb dX11_feed_9 (by decide) (fun c12 => ?_) (fun c12 => ?_)
  · replace h := h_f c12 h
    refine lv_aload_n hx hb dX11_feed_15 rfl (lv_at hl 0 rfl) ?_
    refine gf_X11_72_26 C hP dX11_feed_16 ?_
    refine lv_sipush (v := 160) hx hb dX11_feed_19 (by decide) ?_
    refine lv_icmp_ne (tgt := 28) hx hb dX11_feed_22 (by decide) (fun c13 => ?_) (fun c13 => ?_)
    · replace h := h_f c13 h
      refine lv_aload_n hx hb dX11_feed_28 rfl (lv_at hl 0 rfl) ?_
      refine gf_X11_17_26 C hP dX11_feed_29 ?_
      refine lv_aload_n hx hb dX11_feed_32 rfl (lv_at hl 0 rfl) ?_
      refine gf_X11_72_26 C hP dX11_feed_33 ?_
      refine lv_iload_n hx hb dX11_feed_36 rfl (lv_at hl 1 rfl) ?_
      obtain ⟨g14, h⟩ := h_g h
      refine r_ast C hP hS 29 (by decide) (fun _ => rfl) (vp_in_iff.mpr g14) dX11_feed_37 (fun H locs hP hS => ?_)
      obtain ⟨σ15, e16, h⟩ := bnd h
      have hP := hPn e16 hP
      refine lv_aload_n hx hb dX11_feed_38 rfl (lv_at hl 0 rfl) ?_
      refine lv_dup hx hb dX11_feed_39 rfl ?_
      refine gf_X11_72_26 C hP dX11_feed_40 ?_
      refine lv_iconst (v := 1) hx hb dX11_feed_43 (by decide) ?_
      refine lv_iadd hx hb dX11_feed_44 ?_
      refine pf_X11_72_26 C hP hS dX11_feed_45 (fun H locs hP hS => ?_)
      obtain ⟨σ17, e18, h⟩ := bnd h
      have hP := hPn e18 hP
      refine lv_aload_n hx hb dX11_feed_48 rfl (lv_at hl 0 rfl) ?_
      refine gf_X11_72_26 C hP dX11_feed_49 ?_
      exact ret_i C hr hlocks hP hS h dX11_feed_52
    · replace h := h_t c13 h
      refine lv_ldc hx hb C.2.2.2.1 (C.2.2.2.2.1 _ mw_1324) dX11_feed_25 ?_
      exact ret_i C hr hlocks hP hS h dX11_feed_27
  · replace h := h_t c12 h
    refine lv_ldc hx hb C.2.2.2.1 (C.2.2.2.2.1 _ mw_1323) dX11_feed_12 ?_
    exact ret_i C hr hlocks hP hS h dX11_feed_14
set_option maxHeartbeats 4000000 in
set_option maxRecDepth 100000 in
theorem c_X11_sheet {l : Launch} {G : GT} {lam : Lm} {σ : St} {q : Int32 × St} (h : f_X11_sheet σ = some q) : Met l yX11_sheet (Cond.code yX11_sheet cX11_sheet 2 ((some .int)) :: TB) ({ frames := 7, cells := 0, slots := 0, locals := 154 } : Room) (va_Pc [.ref (g_ad G 26)] (GW G lam σ)) (Ri q G lam) 0 0 (g_A G) := by
  refine mk_Qi (own := RX11) (by decide) (Nat.le_of_ble_eq_true rfl) rfl (fun p e s m args below meth c C hr hlocks hP ls hl => ?_)
  have hx := C.1
  have hb := C.2.1
  have hl : lv_has ls 2 [(0, .ref (g_ad G 26))] := hl
  have L41 : ∀ (n41 : Nat) (σ : St) (x1 : Int32) (H : Heap) (locs : List Loc) (ls : Array Slot), fx (F_X11_sheet_h41) z_X11_sheet_h41 n41 σ x1 = some q → va_P (g_D G) vwCl (allW G lam σ) H → va_S (g_A G) s.heap H locs → lv_has ls 2 [(0, .ref (g_ad G 26)), (1, .int x1)] → W p l e ({ frames := 7, cells := 0, slots := 0, locals := 154 } : Room) s m args below meth c H locs 0 0 (Qi q below args s G lam) (F0 m 41 ls []) := by
    intro n41
    induction n41 with
    | zero => intro σ x1 H locs ls h hP hS hl; exact absurd h (by intro h9; cases h9)
    | succ n41 ih41 =>
      intro σ x1 H locs ls h hP hS hl
      change F_X11_sheet_h41 (fx (F_X11_sheet_h41) z_X11_sheet_h41 n41) σ x1 = some q at h
      unfold F_X11_sheet_h41 at h
      refine lv_iload_n hx hb dX11_sheet_41 rfl (lv_at hl 1 rfl) ?_
      refine lv_bipush (v := 79) hx hb dX11_sheet_42 (by decide) ?_
      refine lv_icmp_ge (tgt := 65) hx hb dX11_sheet_44 (by decide) (fun c21 => ?_) (fun c21 => ?_)
      · replace h := h_t c21 h
        refine lv_aload_n hx hb dX11_sheet_65 rfl (lv_at hl 0 rfl) ?_
        refine lv_iconst (v := 0) hx hb dX11_sheet_66 (by decide) ?_
        refine pf_X11_50_26 C hP hS dX11_sheet_67 (fun H locs hP hS => ?_)
        obtain ⟨σ22, e23, h⟩ := bnd h
        have hP := hPn e23 hP
        refine lv_aload_n hx hb dX11_sheet_70 rfl (lv_at hl 0 rfl) ?_
        refine gf_X11_7_26 C hP dX11_sheet_71 ?_
        refine lv_bipush (v := 54) hx hb dX11_sheet_74 (by decide) ?_
        refine r_aldc C hP 27 (by decide) rfl (j := 54) (by decide) (vp_in_iff.mpr (by decide)) dX11_sheet_76 ?_
        exact ret_i C hr hlocks hP hS h dX11_sheet_77
      · replace h := h_f c21 h
        refine lv_aload_n hx hb dX11_sheet_47 rfl (lv_at hl 0 rfl) ?_
        refine gf_X11_7_26 C hP dX11_sheet_48 ?_
        refine lv_iload_n hx hb dX11_sheet_51 rfl (lv_at hl 1 rfl) ?_
        refine lv_aload_n hx hb dX11_sheet_52 rfl (lv_at hl 0 rfl) ?_
        refine gf_X11_26_26 C hP dX11_sheet_53 ?_
        refine lv_iload_n hx hb dX11_sheet_56 rfl (lv_at hl 1 rfl) ?_
        obtain ⟨g24, h⟩ := h_g h
        refine r_ald C hP 32 (by decide) rfl (vp_in_iff.mpr g24) dX11_sheet_57 ?_
        obtain ⟨g25, h⟩ := h_g h
        refine r_ast C hP hS 27 (by decide) (fun _ => rfl) (vp_in_iff.mpr g25) dX11_sheet_58 (fun H locs hP hS => ?_)
        obtain ⟨σ26, e27, h⟩ := bnd h
        have hP := hPn e27 hP
        obtain ⟨y28, e29, h⟩ := bnd h
        refine lv_iinc (v := y28) (lv' := [(1, .int y28), (0, .ref (g_ad G 26))]) hx hb dX11_sheet_59 hl (k := 1) rfl (Option.some.inj e29) (by decide) rfl (fun ls hl => ?_)
        refine lv_goto (tgt := 41) hx hb dX11_sheet_62 (by decide) ?_
        exact ih41 _ _ H locs ls h hP hS (lv_sub hl [1, 0] rfl)
  have hS : va_S (g_A G) s.heap s.heap [] := va_S.rf
  unfold f_X11_sheet at h
  obtain ⟨H, hH⟩ : ∃ H, H = s.heap := ⟨_, rfl⟩
  obtain ⟨locs, hlo⟩ : ∃ k : List Loc, k = [] := ⟨_, rfl⟩
  rw [← hH, ← hlo]
  rw [← hH] at hP
  replace hS : va_S (g_A G) s.heap H locs := by rw [hH, hlo]; exact hS
  refine lv_aload_n hx hb dX11_sheet_0 rfl (lv_at hl 0 rfl) ?_
  obtain ⟨q30, e31, h⟩ := bnd h
  refine call_v C hP hS (c_X11_readsAll e31) mi_X11_readsAll mw_1329 26 (by decide) rfl rfl ⟨Nat.le_of_ble_eq_true rfl, Nat.le_of_ble_eq_true rfl⟩ (As := []) rfl hl.1 rfl (lv_room (Nat.le_of_ble_eq_true rfl)) dX11_sheet_1 (fun H locs hP hS => ?_)
  refine lv_aload_n hx hb dX11_sheet_4 rfl (lv_at hl 0 rfl) ?_
  refine lv_iconst (v := 0) hx hb dX11_sheet_5 (by decide) ?_
  refine pf_X11_72_26 C hP hS dX11_sheet_6 (fun H locs hP hS => ?_)
  obtain ⟨σ32, e33, h⟩ := bnd h
  have hP := hPn e33 hP
  refine lv_aload_n hx hb dX11_sheet_9 rfl (lv_at hl 0 rfl) ?_
  obtain ⟨q34, e35, h⟩ := bnd h
  refine call_i C hP hS (c_X11_isWell e35) mi_X11_isWell mw_1353 26 (by decide) rfl rfl ⟨Nat.le_of_ble_eq_true rfl, Nat.le_of_ble_eq_true rfl⟩ (As := []) rfl hl.1 rfl (lv_room (Nat.le_of_ble_eq_true rfl)) dX11_sheet_10 (fun H locs hP hS => ?_)
  refine lv_if_ne (tgt := 32) hx hb dX11_sheet_13 (by decide) (fun c36 => ?_) (fun c36 => ?_)
  · replace h := h_f c36 h
    refine lv_aload_n hx hb dX11_sheet_32 rfl (lv_at hl 0 rfl) ?_
    refine gf_X11_26_26 C hP dX11_sheet_33 ?_
    refine lv_iconst (v := 0) hx hb dX11_sheet_36 (by decide) ?_
    refine lv_iconst (v := 1) hx hb dX11_sheet_37 (by decide) ?_
    refine r_astc C hP hS 32 (by decide) (fun _ => rfl) (j := 0) (by decide) (vp_in_iff.mpr (by decide)) dX11_sheet_38 (fun H locs hP hS => ?_)
    obtain ⟨σ37, e38, h⟩ := bnd h
    have hP := hPn e38 hP
    refine lv_iconst (v := 0) hx hb dX11_sheet_39 (by decide) ?_
    refine lv_istore_n (lv' := [(1, .int 0), (0, .ref (g_ad G 26))]) hx hb dX11_sheet_40 rfl hl (by decide) rfl (fun ls hl => ?_)
    exact L41 FU _ _ H locs ls h hP hS (lv_sub hl [1, 0] rfl)
  · replace h := h_t c36 h
    refine lv_aload_n hx hb dX11_sheet_16 rfl (lv_at hl 0 rfl) ?_
    refine lv_aload_n hx hb dX11_sheet_17 rfl (lv_at hl 0 rfl) ?_
    refine gf_X11_87_26 C hP dX11_sheet_18 ?_
    refine pf_X11_138_26 C hP hS dX11_sheet_21 (fun H locs hP hS => ?_)
    obtain ⟨σ39, e40, h⟩ := bnd h
    have hP := hPn e40 hP
    refine lv_ldc hx hb C.2.2.2.1 (C.2.2.2.2.1 _ mw_1387) dX11_sheet_24 ?_
    refine lv_aload_n hx hb dX11_sheet_26 rfl (lv_at hl 0 rfl) ?_
    refine gf_X11_69_26 C hP dX11_sheet_27 ?_
    refine lv_isub hx hb dX11_sheet_30 ?_
    exact ret_i C hr hlocks hP hS h dX11_sheet_31
set_option maxHeartbeats 4000000 in
set_option maxRecDepth 100000 in
theorem c_X11_fault {l : Launch} {G : GT} {lam : Lm} {σ : St} {q : Int32 × St} (h : f_X11_fault σ = some q) : Met l yX11_fault (Cond.code yX11_fault cX11_fault 1 ((some .int)) :: TB) ({ frames := 0, cells := 0, slots := 0, locals := 0 } : Room) (va_Pc [.ref (g_ad G 26)] (GW G lam σ)) (Ri q G lam) 0 0 (g_A G) := by
  refine mk_Qi (own := RX11) (by decide) (Nat.le_of_ble_eq_true rfl) rfl (fun p e s m args below meth c C hr hlocks hP ls hl => ?_)
  have hx := C.1
  have hb := C.2.1
  have hl : lv_has ls 1 [(0, .ref (g_ad G 26))] := hl
  have hS : va_S (g_A G) s.heap s.heap [] := va_S.rf
  unfold f_X11_fault at h
  refine lv_aload_n hx hb dX11_fault_0 rfl (lv_at hl 0 rfl) ?_
  refine gf_X11_138_26 C hP dX11_fault_1 ?_
  exact ret_i C hr hlocks hP hS h dX11_fault_4
set_option maxHeartbeats 4000000 in
set_option maxRecDepth 100000 in
theorem c_X11_nameAt {l : Launch} {G : GT} {lam : Lm} {σ : St} {a1 : Int32} {a2 : Int32} {q : Int32 × St} (h : f_X11_nameAt σ a1 a2 = some q) : Met l yX11_nameAt (Cond.code yX11_nameAt cX11_nameAt 6 ((some .int)) :: TB) ({ frames := 0, cells := 0, slots := 0, locals := 0 } : Room) (va_Pc [.int a1, .int a2] (GW G lam σ)) (Ri q G lam) 0 0 (g_A G) := by
  refine mk_Qi (own := RX11) (by decide) (Nat.le_of_ble_eq_true rfl) rfl (fun p e s m args below meth c C hr hlocks hP ls hl => ?_)
  have hx := C.1
  have hb := C.2.1
  have hl : lv_has ls 6 [(0, .int a1), (1, .int a2)] := hl
  have J140 : ∀ (σ : St) (x1 : Int32) (x2 : Int32) (x3 : Int32) (t0 : Int32) (H : Heap) (locs : List Loc) (ls : Array Slot), f_X11_nameAt_p140 σ x1 x2 x3 t0 = some q → va_P (g_D G) vwCl (allW G lam σ) H → va_S (g_A G) s.heap H locs → lv_has ls 6 [(1, .int x1), (2, .int x2), (3, .int x3)] → W p l e ({ frames := 0, cells := 0, slots := 0, locals := 0 } : Room) s m args below meth c H locs 0 0 (Qi q below args s G lam) (F0 m 140 ls [.int t0]) := by
    intro σ x1 x2 x3 t0 H locs ls h hP hS hl
    unfold f_X11_nameAt_p140 at h
    refine lv_istore (lv' := [(5, .int t0), (1, .int x1), (2, .int x2), (3, .int x3)]) hx hb dX11_nameAt_140 hl (by decide) rfl (fun ls hl => ?_)
    refine lv_iload_n hx hb dX11_nameAt_142 rfl (lv_at hl 1 rfl) ?_
    refine lv_if_ne (tgt := 159) hx hb dX11_nameAt_143 (by decide) (fun c20 => ?_) (fun c20 => ?_)
    · replace h := h_f c20 h
      refine lv_iload_n hx hb dX11_nameAt_159 rfl (lv_at hl 1 rfl) ?_
      refine lv_iconst (v := 1) hx hb dX11_nameAt_160 (by decide) ?_
      refine lv_icmp_ne (tgt := 168) hx hb dX11_nameAt_161 (by decide) (fun c21 => ?_) (fun c21 => ?_)
      · replace h := h_f c21 h
        refine lv_iload_n hx hb dX11_nameAt_168 rfl (lv_at hl 1 rfl) ?_
        refine lv_iconst (v := 2) hx hb dX11_nameAt_169 (by decide) ?_
        refine lv_icmp_ne (tgt := 177) hx hb dX11_nameAt_170 (by decide) (fun c22 => ?_) (fun c22 => ?_)
        · replace h := h_f c22 h
          refine lv_ldc hx hb C.2.2.2.1 (C.2.2.2.2.1 _ mw_1337) dX11_nameAt_177 ?_
          exact ret_i C hr hlocks hP hS h dX11_nameAt_179
        · replace h := h_t c22 h
          refine lv_iload_n hx hb dX11_nameAt_173 rfl (lv_at hl 3 rfl) ?_
          refine lv_goto (tgt := 179) hx hb dX11_nameAt_174 (by decide) ?_
          exact ret_i C hr hlocks hP hS h dX11_nameAt_179
      · replace h := h_t c21 h
        refine lv_iload_n hx hb dX11_nameAt_164 rfl (lv_at hl 2 rfl) ?_
        refine lv_goto (tgt := 179) hx hb dX11_nameAt_165 (by decide) ?_
        exact ret_i C hr hlocks hP hS h dX11_nameAt_179
    · replace h := h_t c20 h
      refine lv_iload hx hb dX11_nameAt_146 (lv_at hl 0 rfl) ?_
      refine lv_if_eq (tgt := 155) hx hb dX11_nameAt_148 (by decide) (fun c23 => ?_) (fun c23 => ?_)
      · replace h := h_t c23 h
        refine lv_iload_n hx hb dX11_nameAt_155 rfl (lv_at hl 3 rfl) ?_
        refine lv_goto (tgt := 179) hx hb dX11_nameAt_156 (by decide) ?_
        exact ret_i C hr hlocks hP hS h dX11_nameAt_179
      · replace h := h_f c23 h
        refine lv_iload_n hx hb dX11_nameAt_151 rfl (lv_at hl 2 rfl) ?_
        refine lv_goto (tgt := 179) hx hb dX11_nameAt_152 (by decide) ?_
        exact ret_i C hr hlocks hP hS h dX11_nameAt_179
  have J135 : ∀ (σ : St) (x1 : Int32) (x2 : Int32) (x3 : Int32) (H : Heap) (locs : List Loc) (ls : Array Slot), f_X11_nameAt_p135 σ x1 x2 x3 = some q → va_P (g_D G) vwCl (allW G lam σ) H → va_S (g_A G) s.heap H locs → lv_has ls 6 [(1, .int x1), (2, .int x2), (3, .int x3)] → W p l e ({ frames := 0, cells := 0, slots := 0, locals := 0 } : Room) s m args below meth c H locs 0 0 (Qi q below args s G lam) (F0 m 135 ls []) := by
    intro σ x1 x2 x3 H locs ls h hP hS hl
    unfold f_X11_nameAt_p135 at h
    refine lv_iconst (v := 1) hx hb dX11_nameAt_135 (by decide) ?_
    refine lv_goto (tgt := 140) hx hb dX11_nameAt_136 (by decide) ?_
    exact J140 _ _ _ _ _ H locs ls h hP hS (lv_sub hl [0, 1, 2] rfl)
  have J65 : ∀ (σ : St) (x0 : Int32) (x1 : Int32) (x2 : Int32) (x3 : Int32) (t0 : Int32) (H : Heap) (locs : List Loc) (ls : Array Slot), f_X11_nameAt_p65 σ x0 x1 x2 x3 t0 = some q → va_P (g_D G) vwCl (allW G lam σ) H → va_S (g_A G) s.heap H locs → lv_has ls 6 [(0, .int x0), (1, .int x1), (2, .int x2), (3, .int x3)] → W p l e ({ frames := 0, cells := 0, slots := 0, locals := 0 } : Room) s m args below meth c H locs 0 0 (Qi q below args s G lam) (F0 m 65 ls [.int t0]) := by
    intro σ x0 x1 x2 x3 t0 H locs ls h hP hS hl
    unfold f_X11_nameAt_p65 at h
    refine lv_istore (lv' := [(4, .int t0), (0, .int x0), (1, .int x1), (2, .int x2), (3, .int x3)]) hx hb dX11_nameAt_65 hl (by decide) rfl (fun ls hl => ?_)
    refine lv_iload_n hx hb dX11_nameAt_67 rfl (lv_at hl 1 rfl) ?_
    refine lv_iconst (v := 4) hx hb dX11_nameAt_68 (by decide) ?_
    refine lv_irem hx hb dX11_nameAt_69 (by decide) ?_
    refine lv_if_ne (tgt := 85) hx hb dX11_nameAt_70 (by decide) (fun c24 => ?_) (fun c24 => ?_)
    · replace h := h_f c24 h
      refine lv_iload_n hx hb dX11_nameAt_85 rfl (lv_at hl 1 rfl) ?_
      refine lv_iconst (v := 4) hx hb dX11_nameAt_86 (by decide) ?_
      refine lv_irem hx hb dX11_nameAt_87 (by decide) ?_
      refine lv_iconst (v := 2) hx hb dX11_nameAt_88 (by decide) ?_
      refine lv_icmp_ne (tgt := 112) hx hb dX11_nameAt_89 (by decide) (fun c25 => ?_) (fun c25 => ?_)
      · replace h := h_f c25 h
        refine lv_iload_n hx hb dX11_nameAt_112 rfl (lv_at hl 1 rfl) ?_
        refine lv_iconst (v := 1) hx hb dX11_nameAt_113 (by decide) ?_
        refine lv_icmp_eq (tgt := 135) hx hb dX11_nameAt_114 (by decide) (fun c26 => ?_) (fun c26 => ?_)
        · replace h := h_t c26 h
          exact J135 _ _ _ _ H locs ls h hP hS (lv_sub hl [2, 3, 4] rfl)
        · replace h := h_f c26 h
          refine lv_iload_n hx hb dX11_nameAt_117 rfl (lv_at hl 1 rfl) ?_
          refine lv_bipush (v := 15) hx hb dX11_nameAt_118 (by decide) ?_
          refine lv_icmp_eq (tgt := 135) hx hb dX11_nameAt_120 (by decide) (fun c27 => ?_) (fun c27 => ?_)
          · replace h := h_t c27 h
            exact J135 _ _ _ _ H locs ls h hP hS (lv_sub hl [2, 3, 4] rfl)
          · replace h := h_f c27 h
            refine lv_iload_n hx hb dX11_nameAt_123 rfl (lv_at hl 1 rfl) ?_
            refine lv_bipush (v := 7) hx hb dX11_nameAt_124 (by decide) ?_
            refine lv_icmp_eq (tgt := 135) hx hb dX11_nameAt_126 (by decide) (fun c28 => ?_) (fun c28 => ?_)
            · replace h := h_t c28 h
              exact J135 _ _ _ _ H locs ls h hP hS (lv_sub hl [2, 3, 4] rfl)
            · replace h := h_f c28 h
              refine lv_iload_n hx hb dX11_nameAt_129 rfl (lv_at hl 1 rfl) ?_
              refine lv_bipush (v := 9) hx hb dX11_nameAt_130 (by decide) ?_
              refine lv_icmp_ne (tgt := 139) hx hb dX11_nameAt_132 (by decide) (fun c29 => ?_) (fun c29 => ?_)
              · replace h := h_f c29 h
                refine lv_iconst (v := 0) hx hb dX11_nameAt_139 (by decide) ?_
                exact J140 _ _ _ _ _ H locs ls h hP hS (lv_sub hl [2, 3, 4] rfl)
              · replace h := h_t c29 h
                exact J135 _ _ _ _ H locs ls h hP hS (lv_sub hl [2, 3, 4] rfl)
      · replace h := h_t c25 h
        refine lv_iload_n hx hb dX11_nameAt_92 rfl (lv_at hl 2 rfl) ?_
        refine lv_if_ne (tgt := 100) hx hb dX11_nameAt_93 (by decide) (fun c30 => ?_) (fun c30 => ?_)
        · replace h := h_f c30 h
          refine lv_iload_n hx hb dX11_nameAt_100 rfl (lv_at hl 2 rfl) ?_
          refine lv_iconst (v := 1) hx hb dX11_nameAt_101 (by decide) ?_
          refine lv_icmp_ne (tgt := 109) hx hb dX11_nameAt_102 (by decide) (fun c31 => ?_) (fun c31 => ?_)
          · replace h := h_f c31 h
            refine lv_ldc hx hb C.2.2.2.1 (C.2.2.2.2.1 _ mw_1337) dX11_nameAt_109 ?_
            exact ret_i C hr hlocks hP hS h dX11_nameAt_111
          · replace h := h_t c31 h
            refine lv_iload_n hx hb dX11_nameAt_105 rfl (lv_at hl 4 rfl) ?_
            refine lv_goto (tgt := 111) hx hb dX11_nameAt_106 (by decide) ?_
            exact ret_i C hr hlocks hP hS h dX11_nameAt_111
        · replace h := h_t c30 h
          refine lv_iload_n hx hb dX11_nameAt_96 rfl (lv_at hl 3 rfl) ?_
          refine lv_goto (tgt := 111) hx hb dX11_nameAt_97 (by decide) ?_
          exact ret_i C hr hlocks hP hS h dX11_nameAt_111
    · replace h := h_t c24 h
      refine lv_iload_n hx hb dX11_nameAt_73 rfl (lv_at hl 2 rfl) ?_
      refine lv_if_ne (tgt := 82) hx hb dX11_nameAt_74 (by decide) (fun c32 => ?_) (fun c32 => ?_)
      · replace h := h_f c32 h
        refine lv_ldc hx hb C.2.2.2.1 (C.2.2.2.2.1 _ mw_1337) dX11_nameAt_82 ?_
        exact ret_i C hr hlocks hP hS h dX11_nameAt_84
      · replace h := h_t c32 h
        refine lv_iload hx hb dX11_nameAt_77 (lv_at hl 0 rfl) ?_
        refine lv_goto (tgt := 84) hx hb dX11_nameAt_79 (by decide) ?_
        exact ret_i C hr hlocks hP hS h dX11_nameAt_84
  have J32 : ∀ (σ : St) (x0 : Int32) (x1 : Int32) (x2 : Int32) (t0 : Int32) (H : Heap) (locs : List Loc) (ls : Array Slot), f_X11_nameAt_p32 σ x0 x1 x2 t0 = some q → va_P (g_D G) vwCl (allW G lam σ) H → va_S (g_A G) s.heap H locs → lv_has ls 6 [(0, .int x0), (1, .int x1), (2, .int x2)] → W p l e ({ frames := 0, cells := 0, slots := 0, locals := 0 } : Room) s m args below meth c H locs 0 0 (Qi q below args s G lam) (F0 m 32 ls [.int t0]) := by
    intro σ x0 x1 x2 t0 H locs ls h hP hS hl
    unfold f_X11_nameAt_p32 at h
    refine lv_istore_n (lv' := [(3, .int t0), (0, .int x0), (1, .int x1), (2, .int x2)]) hx hb dX11_nameAt_32 rfl hl (by decide) rfl (fun ls hl => ?_)
    refine lv_iload_n hx hb dX11_nameAt_33 rfl (lv_at hl 1 rfl) ?_
    refine lv_if_ne (tgt := 42) hx hb dX11_nameAt_34 (by decide) (fun c33 => ?_) (fun c33 => ?_)
    · replace h := h_f c33 h
      refine lv_iload_n hx hb dX11_nameAt_42 rfl (lv_at hl 1 rfl) ?_
      refine lv_iconst (v := 4) hx hb dX11_nameAt_43 (by decide) ?_
      refine lv_icmp_ne (tgt := 52) hx hb dX11_nameAt_44 (by decide) (fun c34 => ?_) (fun c34 => ?_)
      · replace h := h_f c34 h
        refine lv_iload_n hx hb dX11_nameAt_52 rfl (lv_at hl 1 rfl) ?_
        refine lv_bipush (v := 8) hx hb dX11_nameAt_53 (by decide) ?_
        refine lv_icmp_ne (tgt := 63) hx hb dX11_nameAt_55 (by decide) (fun c35 => ?_) (fun c35 => ?_)
        · replace h := h_f c35 h
          refine lv_bipush (v := 119) hx hb dX11_nameAt_63 (by decide) ?_
          exact J65 _ _ _ _ _ _ H locs ls h hP hS (lv_sub hl [1, 2, 3, 0] rfl)
        · replace h := h_t c35 h
          refine lv_bipush (v := 115) hx hb dX11_nameAt_58 (by decide) ?_
          refine lv_goto (tgt := 65) hx hb dX11_nameAt_60 (by decide) ?_
          exact J65 _ _ _ _ _ _ H locs ls h hP hS (lv_sub hl [1, 2, 3, 0] rfl)
      · replace h := h_t c34 h
        refine lv_bipush (v := 101) hx hb dX11_nameAt_47 (by decide) ?_
        refine lv_goto (tgt := 65) hx hb dX11_nameAt_49 (by decide) ?_
        exact J65 _ _ _ _ _ _ H locs ls h hP hS (lv_sub hl [1, 2, 3, 0] rfl)
    · replace h := h_t c33 h
      refine lv_bipush (v := 110) hx hb dX11_nameAt_37 (by decide) ?_
      refine lv_goto (tgt := 65) hx hb dX11_nameAt_39 (by decide) ?_
      exact J65 _ _ _ _ _ _ H locs ls h hP hS (lv_sub hl [1, 2, 3, 0] rfl)
  have J18 : ∀ (σ : St) (x0 : Int32) (x1 : Int32) (t0 : Int32) (H : Heap) (locs : List Loc) (ls : Array Slot), f_X11_nameAt_p18 σ x0 x1 t0 = some q → va_P (g_D G) vwCl (allW G lam σ) H → va_S (g_A G) s.heap H locs → lv_has ls 6 [(0, .int x0), (1, .int x1)] → W p l e ({ frames := 0, cells := 0, slots := 0, locals := 0 } : Room) s m args below meth c H locs 0 0 (Qi q below args s G lam) (F0 m 18 ls [.int t0]) := by
    intro σ x0 x1 t0 H locs ls h hP hS hl
    unfold f_X11_nameAt_p18 at h
    refine lv_istore_n (lv' := [(2, .int t0), (0, .int x0), (1, .int x1)]) hx hb dX11_nameAt_18 rfl hl (by decide) rfl (fun ls hl => ?_)
    refine lv_iload_n hx hb dX11_nameAt_19 rfl (lv_at hl 1 rfl) ?_
    refine lv_bipush (v := 8) hx hb dX11_nameAt_20 (by decide) ?_
    refine lv_icmp_ge (tgt := 30) hx hb dX11_nameAt_22 (by decide) (fun c36 => ?_) (fun c36 => ?_)
    · replace h := h_t c36 h
      refine lv_bipush (v := 119) hx hb dX11_nameAt_30 (by decide) ?_
      exact J32 _ _ _ _ _ H locs ls h hP hS (lv_sub hl [1, 2, 0] rfl)
    · replace h := h_f c36 h
      refine lv_bipush (v := 101) hx hb dX11_nameAt_25 (by decide) ?_
      refine lv_goto (tgt := 32) hx hb dX11_nameAt_27 (by decide) ?_
      exact J32 _ _ _ _ _ H locs ls h hP hS (lv_sub hl [1, 2, 0] rfl)
  have J11 : ∀ (σ : St) (x0 : Int32) (x1 : Int32) (H : Heap) (locs : List Loc) (ls : Array Slot), f_X11_nameAt_p11 σ x0 x1 = some q → va_P (g_D G) vwCl (allW G lam σ) H → va_S (g_A G) s.heap H locs → lv_has ls 6 [(0, .int x0), (1, .int x1)] → W p l e ({ frames := 0, cells := 0, slots := 0, locals := 0 } : Room) s m args below meth c H locs 0 0 (Qi q below args s G lam) (F0 m 11 ls []) := by
    intro σ x0 x1 H locs ls h hP hS hl
    unfold f_X11_nameAt_p11 at h
    refine lv_bipush (v := 110) hx hb dX11_nameAt_11 (by decide) ?_
    refine lv_goto (tgt := 18) hx hb dX11_nameAt_13 (by decide) ?_
    exact J18 _ _ _ _ H locs ls h hP hS (lv_sub hl [0, 1] rfl)
  have hS : va_S (g_A G) s.heap s.heap [] := va_S.rf
  unfold f_X11_nameAt at h
  obtain ⟨H, hH⟩ : ∃ H, H = s.heap := ⟨_, rfl⟩
  obtain ⟨locs, hlo⟩ : ∃ k : List Loc, k = [] := ⟨_, rfl⟩
  rw [← hH, ← hlo]
  rw [← hH] at hP
  replace hS : va_S (g_A G) s.heap H locs := by rw [hH, hlo]; exact hS
  refine lv_iload_n hx hb dX11_nameAt_0 rfl (lv_at hl 0 rfl) ?_
  refine lv_iconst (v := 4) hx hb dX11_nameAt_1 (by decide) ?_
  refine lv_icmp_lt (tgt := 11) hx hb dX11_nameAt_2 (by decide) (fun c37 => ?_) (fun c37 => ?_)
  · replace h := h_t c37 h
    exact J11 _ _ _ H locs ls h hP hS (lv_sub hl [0, 1] rfl)
  · replace h := h_f c37 h
    refine lv_iload_n hx hb dX11_nameAt_5 rfl (lv_at hl 0 rfl) ?_
    refine lv_bipush (v := 12) hx hb dX11_nameAt_6 (by decide) ?_
    refine lv_icmp_le (tgt := 16) hx hb dX11_nameAt_8 (by decide) (fun c38 => ?_) (fun c38 => ?_)
    · replace h := h_t c38 h
      refine lv_bipush (v := 115) hx hb dX11_nameAt_16 (by decide) ?_
      exact J18 _ _ _ _ H locs ls h hP hS (lv_sub hl [0, 1] rfl)
    · replace h := h_f c38 h
      exact J11 _ _ _ H locs ls h hP hS (lv_sub hl [0, 1] rfl)
set_option maxHeartbeats 4000000 in
set_option maxRecDepth 100000 in
theorem c_X11_course {l : Launch} {G : GT} {lam : Lm} {σ : St} {q : Int32 × St} (h : f_X11_course σ = some q) : Met l yX11_course (Cond.code yX11_course cX11_course 5 ((some .int)) :: TB) ({ frames := 1, cells := 0, slots := 0, locals := 25 } : Room) (va_Pc [.ref (g_ad G 26)] (GW G lam σ)) (Ri q G lam) 0 0 (g_A G) := by
  refine mk_Qi (own := RX11) (by decide) (Nat.le_of_ble_eq_true rfl) rfl (fun p e s m args below meth c C hr hlocks hP ls hl => ?_)
  have hx := C.1
  have hb := C.2.1
  have hl : lv_has ls 5 [(0, .ref (g_ad G 26))] := hl
  have L12 : ∀ (n12 : Nat) (σ : St) (x1 : Int32) (x2 : Int32) (H : Heap) (locs : List Loc) (ls : Array Slot), fx (F_X11_course_h12) z_X11_course_h12 n12 σ x1 x2 = some q → va_P (g_D G) vwCl (allW G lam σ) H → va_S (g_A G) s.heap H locs → lv_has ls 5 [(0, .ref (g_ad G 26)), (1, .int x1), (2, .int x2)] → W p l e ({ frames := 1, cells := 0, slots := 0, locals := 25 } : Room) s m args below meth c H locs 0 0 (Qi q below args s G lam) (F0 m 12 ls []) := by
    intro n12
    induction n12 with
    | zero => intro σ x1 x2 H locs ls h hP hS hl; exact absurd h (by intro h9; cases h9)
    | succ n12 ih12 =>
      have J84 : ∀ (σ : St) (x1 : Int32) (x2 : Int32) (x3 : Int32) (H : Heap) (locs : List Loc) (ls : Array Slot), f_X11_course_p84 (fx (F_X11_course_h12) z_X11_course_h12 n12) σ x1 x2 x3 = some q → va_P (g_D G) vwCl (allW G lam σ) H → va_S (g_A G) s.heap H locs → lv_has ls 5 [(0, .ref (g_ad G 26)), (1, .int x1), (2, .int x2), (3, .int x3)] → W p l e ({ frames := 1, cells := 0, slots := 0, locals := 25 } : Room) s m args below meth c H locs 0 0 (Qi q below args s G lam) (F0 m 84 ls []) := by
        intro σ x1 x2 x3 H locs ls h hP hS hl
        unfold f_X11_course_p84 at h
        refine lv_iload_n hx hb dX11_course_84 rfl (lv_at hl 3 rfl) ?_
        refine lv_if_eq (tgt := 90) hx hb dX11_course_85 (by decide) (fun c20 => ?_) (fun c20 => ?_)
        · replace h := h_t c20 h
          obtain ⟨y21, e22, h⟩ := bnd h
          refine lv_iinc (v := y21) (lv' := [(2, .int y21), (0, .ref (g_ad G 26)), (1, .int x1), (3, .int x3)]) hx hb dX11_course_90 hl (k := 2) rfl (Option.some.inj e22) (by decide) rfl (fun ls hl => ?_)
          refine lv_goto (tgt := 12) hx hb dX11_course_93 (by decide) ?_
          exact ih12 _ _ _ H locs ls h hP hS (lv_sub hl [1, 2, 0] rfl)
        · replace h := h_f c20 h
          refine lv_iload_n hx hb dX11_course_88 rfl (lv_at hl 2 rfl) ?_
          exact ret_i C hr hlocks hP hS h dX11_course_89
      have L46 : ∀ (n46 : Nat) (σ : St) (x1 : Int32) (x2 : Int32) (x3 : Int32) (x4 : Int32) (H : Heap) (locs : List Loc) (ls : Array Slot), fx (F_X11_course_h46 (fx (F_X11_course_h12) z_X11_course_h12 n12)) z_X11_course_h46 n46 σ x1 x2 x3 x4 = some q → va_P (g_D G) vwCl (allW G lam σ) H → va_S (g_A G) s.heap H locs → lv_has ls 5 [(0, .ref (g_ad G 26)), (1, .int x1), (2, .int x2), (3, .int x3), (4, .int x4)] → W p l e ({ frames := 1, cells := 0, slots := 0, locals := 25 } : Room) s m args below meth c H locs 0 0 (Qi q below args s G lam) (F0 m 46 ls []) := by
        intro n46
        induction n46 with
        | zero => intro σ x1 x2 x3 x4 H locs ls h hP hS hl; exact absurd h (by intro h9; cases h9)
        | succ n46 ih46 =>
          have J77 : ∀ (σ : St) (x1 : Int32) (x2 : Int32) (x4 : Int32) (t0 : Int32) (H : Heap) (locs : List Loc) (ls : Array Slot), f_X11_course_p77 (fx (F_X11_course_h12) z_X11_course_h12 n12) (fx (F_X11_course_h46 (fx (F_X11_course_h12) z_X11_course_h12 n12)) z_X11_course_h46 n46) σ x1 x2 x4 t0 = some q → va_P (g_D G) vwCl (allW G lam σ) H → va_S (g_A G) s.heap H locs → lv_has ls 5 [(0, .ref (g_ad G 26)), (1, .int x1), (2, .int x2), (4, .int x4)] → W p l e ({ frames := 1, cells := 0, slots := 0, locals := 25 } : Room) s m args below meth c H locs 0 0 (Qi q below args s G lam) (F0 m 77 ls [.int t0]) := by
            intro σ x1 x2 x4 t0 H locs ls h hP hS hl
            unfold f_X11_course_p77 at h
            refine lv_istore_n (lv' := [(3, .int t0), (0, .ref (g_ad G 26)), (1, .int x1), (2, .int x2), (4, .int x4)]) hx hb dX11_course_77 rfl hl (by decide) rfl (fun ls hl => ?_)
            obtain ⟨y23, e24, h⟩ := bnd h
            refine lv_iinc (v := y23) (lv' := [(4, .int y23), (3, .int t0), (0, .ref (g_ad G 26)), (1, .int x1), (2, .int x2)]) hx hb dX11_course_78 hl (k := 4) rfl (Option.some.inj e24) (by decide) rfl (fun ls hl => ?_)
            refine lv_goto (tgt := 46) hx hb dX11_course_81 (by decide) ?_
            exact ih46 _ _ _ _ _ H locs ls h hP hS (lv_sub hl [2, 3, 4, 1, 0] rfl)
          intro σ x1 x2 x3 x4 H locs ls h hP hS hl
          change F_X11_course_h46 (fx (F_X11_course_h12) z_X11_course_h12 n12) (fx (F_X11_course_h46 (fx (F_X11_course_h12) z_X11_course_h12 n12)) z_X11_course_h46 n46) σ x1 x2 x3 x4 = some q at h
          unfold F_X11_course_h46 at h
          refine lv_iload hx hb dX11_course_46 (lv_at hl 4 rfl) ?_
          refine lv_iload_n hx hb dX11_course_48 rfl (lv_at hl 1 rfl) ?_
          refine lv_icmp_ge (tgt := 84) hx hb dX11_course_49 (by decide) (fun c25 => ?_) (fun c25 => ?_)
          · replace h := h_t c25 h
            exact J84 _ _ _ _ H locs ls h hP hS (lv_sub hl [0, 1, 2, 3] rfl)
          · replace h := h_f c25 h
            refine lv_iload_n hx hb dX11_course_52 rfl (lv_at hl 3 rfl) ?_
            refine lv_if_eq (tgt := 84) hx hb dX11_course_53 (by decide) (fun c26 => ?_) (fun c26 => ?_)
            · replace h := h_t c26 h
              exact J84 _ _ _ _ H locs ls h hP hS (lv_sub hl [0, 1, 2, 3] rfl)
            · replace h := h_f c26 h
              refine lv_iload_n hx hb dX11_course_56 rfl (lv_at hl 2 rfl) ?_
              refine lv_iload hx hb dX11_course_57 (lv_at hl 4 rfl) ?_
              obtain ⟨q27, e28, h⟩ := bnd h
              refine scall_i C hP hS (c_X11_nameAt e28) ms_X11_nameAt mw_1396 ⟨Nat.le_of_ble_eq_true rfl, Nat.le_of_ble_eq_true rfl⟩ (As := [.int x2, .int x4]) rfl hl.1 rfl (lv_room (Nat.le_of_ble_eq_true rfl)) dX11_course_59 (fun H locs hP hS => ?_)
              refine lv_aload_n hx hb dX11_course_62 rfl (lv_at hl 0 rfl) ?_
              refine gf_X11_17_26 C hP dX11_course_63 ?_
              refine lv_iload hx hb dX11_course_66 (lv_at hl 4 rfl) ?_
              obtain ⟨g29, h⟩ := h_g h
              refine r_ald C hP 29 (by decide) rfl (vp_in_iff.mpr g29) dX11_course_68 ?_
              refine lv_icmp_ne (tgt := 76) hx hb dX11_course_69 (by decide) (fun c30 => ?_) (fun c30 => ?_)
              · replace h := h_f c30 h
                refine lv_iconst (v := 0) hx hb dX11_course_76 (by decide) ?_
                exact J77 _ _ _ _ _ H locs ls h hP hS (lv_sub hl [0, 1, 2, 4] rfl)
              · replace h := h_t c30 h
                refine lv_iconst (v := 1) hx hb dX11_course_72 (by decide) ?_
                refine lv_goto (tgt := 77) hx hb dX11_course_73 (by decide) ?_
                exact J77 _ _ _ _ _ H locs ls h hP hS (lv_sub hl [0, 1, 2, 4] rfl)
      have J42 : ∀ (σ : St) (x1 : Int32) (x2 : Int32) (t0 : Int32) (H : Heap) (locs : List Loc) (ls : Array Slot), f_X11_course_p42 (fx (F_X11_course_h12) z_X11_course_h12 n12) σ x1 x2 t0 = some q → va_P (g_D G) vwCl (allW G lam σ) H → va_S (g_A G) s.heap H locs → lv_has ls 5 [(0, .ref (g_ad G 26)), (1, .int x1), (2, .int x2)] → W p l e ({ frames := 1, cells := 0, slots := 0, locals := 25 } : Room) s m args below meth c H locs 0 0 (Qi q below args s G lam) (F0 m 42 ls [.int t0]) := by
        intro σ x1 x2 t0 H locs ls h hP hS hl
        unfold f_X11_course_p42 at h
        refine lv_istore_n (lv' := [(3, .int t0), (0, .ref (g_ad G 26)), (1, .int x1), (2, .int x2)]) hx hb dX11_course_42 rfl hl (by decide) rfl (fun ls hl => ?_)
        refine lv_iconst (v := 0) hx hb dX11_course_43 (by decide) ?_
        refine lv_istore (lv' := [(4, .int 0), (3, .int t0), (0, .ref (g_ad G 26)), (1, .int x1), (2, .int x2)]) hx hb dX11_course_44 hl (by decide) rfl (fun ls hl => ?_)
        exact L46 FU _ _ _ _ _ H locs ls h hP hS (lv_sub hl [2, 3, 4, 1, 0] rfl)
      have J41 : ∀ (σ : St) (x1 : Int32) (x2 : Int32) (H : Heap) (locs : List Loc) (ls : Array Slot), f_X11_course_p41 (fx (F_X11_course_h12) z_X11_course_h12 n12) σ x1 x2 = some q → va_P (g_D G) vwCl (allW G lam σ) H → va_S (g_A G) s.heap H locs → lv_has ls 5 [(0, .ref (g_ad G 26)), (1, .int x1), (2, .int x2)] → W p l e ({ frames := 1, cells := 0, slots := 0, locals := 25 } : Room) s m args below meth c H locs 0 0 (Qi q below args s G lam) (F0 m 41 ls []) := by
        intro σ x1 x2 H locs ls h hP hS hl
        unfold f_X11_course_p41 at h
        refine lv_iconst (v := 0) hx hb dX11_course_41 (by decide) ?_
        exact J42 _ _ _ _ H locs ls h hP hS (lv_sub hl [0, 1, 2] rfl)
      intro σ x1 x2 H locs ls h hP hS hl
      change F_X11_course_h12 (fx (F_X11_course_h12) z_X11_course_h12 n12) σ x1 x2 = some q at h
      unfold F_X11_course_h12 at h
      refine lv_iload_n hx hb dX11_course_12 rfl (lv_at hl 2 rfl) ?_
      refine lv_bipush (v := 16) hx hb dX11_course_13 (by decide) ?_
      refine lv_icmp_ge (tgt := 96) hx hb dX11_course_15 (by decide) (fun c31 => ?_) (fun c31 => ?_)
      · replace h := h_t c31 h
        refine lv_ldc hx hb C.2.2.2.1 (C.2.2.2.2.1 _ mw_1337) dX11_course_96 ?_
        exact ret_i C hr hlocks hP hS h dX11_course_98
      · replace h := h_f c31 h
        refine lv_iload_n hx hb dX11_course_18 rfl (lv_at hl 1 rfl) ?_
        refine lv_if_le (tgt := 41) hx hb dX11_course_19 (by decide) (fun c32 => ?_) (fun c32 => ?_)
        · replace h := h_t c32 h
          exact J41 _ _ _ H locs ls h hP hS (lv_sub hl [0, 1, 2] rfl)
        · replace h := h_f c32 h
          refine lv_iload_n hx hb dX11_course_22 rfl (lv_at hl 1 rfl) ?_
          refine lv_iconst (v := 4) hx hb dX11_course_23 (by decide) ?_
          refine lv_icmp_ge (tgt := 41) hx hb dX11_course_24 (by decide) (fun c33 => ?_) (fun c33 => ?_)
          · replace h := h_t c33 h
            exact J41 _ _ _ H locs ls h hP hS (lv_sub hl [0, 1, 2] rfl)
          · replace h := h_f c33 h
            refine lv_iload_n hx hb dX11_course_27 rfl (lv_at hl 2 rfl) ?_
            refine lv_iload_n hx hb dX11_course_28 rfl (lv_at hl 1 rfl) ?_
            obtain ⟨q34, e35, h⟩ := bnd h
            refine scall_i C hP hS (c_X11_nameAt e35) ms_X11_nameAt mw_1396 ⟨Nat.le_of_ble_eq_true rfl, Nat.le_of_ble_eq_true rfl⟩ (As := [.int x2, .int x1]) rfl hl.1 rfl (lv_room (Nat.le_of_ble_eq_true rfl)) dX11_course_29 (fun H locs hP hS => ?_)
            refine lv_ldc hx hb C.2.2.2.1 (C.2.2.2.2.1 _ mw_1337) dX11_course_32 ?_
            refine lv_icmp_ne (tgt := 41) hx hb dX11_course_34 (by decide) (fun c36 => ?_) (fun c36 => ?_)
            · replace h := h_f c36 h
              exact J41 _ _ _ H locs ls h hP hS (lv_sub hl [0, 1, 2] rfl)
            · replace h := h_t c36 h
              refine lv_iconst (v := 1) hx hb dX11_course_37 (by decide) ?_
              refine lv_goto (tgt := 42) hx hb dX11_course_38 (by decide) ?_
              exact J42 _ _ _ _ H locs ls h hP hS (lv_sub hl [0, 1, 2] rfl)
  have hS : va_S (g_A G) s.heap s.heap [] := va_S.rf
  unfold f_X11_course at h
  obtain ⟨H, hH⟩ : ∃ H, H = s.heap := ⟨_, rfl⟩
  obtain ⟨locs, hlo⟩ : ∃ k : List Loc, k = [] := ⟨_, rfl⟩
  rw [← hH, ← hlo]
  rw [← hH] at hP
  replace hS : va_S (g_A G) s.heap H locs := by rw [hH, hlo]; exact hS
  refine lv_aload_n hx hb dX11_course_0 rfl (lv_at hl 0 rfl) ?_
  refine gf_X11_72_26 C hP dX11_course_1 ?_
  obtain ⟨y37, e38, h⟩ := bnd h
  refine r_nm e38 ?_
  refine lv_istore_n (lv' := [(1, .int y37), (0, .ref (g_ad G 26))]) hx hb dX11_course_4 rfl hl (by decide) rfl (fun ls hl => ?_)
  refine lv_aload_n hx hb dX11_course_5 rfl (lv_at hl 1 rfl) ?_
  refine lv_iconst (v := 0) hx hb dX11_course_6 (by decide) ?_
  refine pf_X11_72_26 C hP hS dX11_course_7 (fun H locs hP hS => ?_)
  obtain ⟨σ39, e40, h⟩ := bnd h
  have hP := hPn e40 hP
  refine lv_iconst (v := 0) hx hb dX11_course_10 (by decide) ?_
  refine lv_istore_n (lv' := [(2, .int 0), (1, .int y37), (0, .ref (g_ad G 26))]) hx hb dX11_course_11 rfl hl (by decide) rfl (fun ls hl => ?_)
  exact L12 FU _ _ _ H locs ls h hP hS (lv_sub hl [2, 1, 0] rfl)
set_option maxHeartbeats 4000000 in
set_option maxRecDepth 100000 in
theorem c_X11_undo {l : Launch} {G : GT} {lam : Lm} {σ : St} {q : Int32 × St} (h : f_X11_undo σ = some q) : Met l yX11_undo (Cond.code yX11_undo cX11_undo 1 ((some .int)) :: TB) ({ frames := 1, cells := 0, slots := 0, locals := 23 } : Room) (va_Pc [.ref (g_ad G 26)] (GW G lam σ)) (Ri q G lam) 0 0 (g_A G) := by
  refine mk_Qi (own := RX11) (by decide) (Nat.le_of_ble_eq_true rfl) rfl (fun p e s m args below meth c C hr hlocks hP ls hl => ?_)
  have hx := C.1
  have hb := C.2.1
  have hl : lv_has ls 1 [(0, .ref (g_ad G 26))] := hl
  have hS : va_S (g_A G) s.heap s.heap [] := va_S.rf
  unfold f_X11_undo at h
  refine lv_aload_n hx hb dX11_undo_0 rfl (lv_at hl 0 rfl) ?_
  refine gf_X11_50_26 C hP dX11_undo_1 ?_
  refine lv_if_ne (tgt := 10) hx hb dX11_undo_4 (by decide) (fun c6 => ?_) (fun c6 => ?_)
  · replace h := h_f c6 h
    refine lv_aload_n hx hb dX11_undo_10 rfl (lv_at hl 0 rfl) ?_
    refine lv_dup hx hb dX11_undo_11 rfl ?_
    refine gf_X11_50_26 C hP dX11_undo_12 ?_
    refine lv_iconst (v := 1) hx hb dX11_undo_15 (by decide) ?_
    refine lv_isub hx hb dX11_undo_16 ?_
    refine pf_X11_50_26 C hP hS dX11_undo_17 (fun H locs hP hS => ?_)
    obtain ⟨σ7, e8, h⟩ := bnd h
    have hP := hPn e8 hP
    refine lv_aload_n hx hb dX11_undo_20 rfl (lv_at hl 0 rfl) ?_
    refine lv_sipush (v := 237) hx hb dX11_undo_21 (by decide) ?_
    refine lv_bipush (v := 79) hx hb dX11_undo_24 (by decide) ?_
    refine lv_aload_n hx hb dX11_undo_26 rfl (lv_at hl 0 rfl) ?_
    refine gf_X11_50_26 C hP dX11_undo_27 ?_
    refine lv_imul hx hb dX11_undo_30 ?_
    refine lv_iadd hx hb dX11_undo_31 ?_
    refine lv_iconst (v := 0) hx hb dX11_undo_32 (by decide) ?_
    obtain ⟨q9, e10, h⟩ := bnd h
    refine call_v C hP hS (c_X11_copy e10) mi_X11_copy mw_1404 26 (by decide) rfl rfl ⟨Nat.le_of_ble_eq_true rfl, Nat.le_of_ble_eq_true rfl⟩ (As := [.int (237 + (79 * (σ7 26 2))), .int 0]) rfl hl.1 rfl (lv_room (Nat.le_of_ble_eq_true rfl)) dX11_undo_33 (fun H locs hP hS => ?_)
    refine lv_aload_n hx hb dX11_undo_36 rfl (lv_at hl 0 rfl) ?_
    refine gf_X11_50_26 C hP dX11_undo_37 ?_
    exact ret_i C hr hlocks hP hS h dX11_undo_40
  · replace h := h_t c6 h
    refine lv_ldc hx hb C.2.2.2.1 (C.2.2.2.2.1 _ mw_1403) dX11_undo_7 ?_
    exact ret_i C hr hlocks hP hS h dX11_undo_9
set_option maxHeartbeats 4000000 in
set_option maxRecDepth 100000 in
theorem c_X11_isSheet {l : Launch} {G : GT} {lam : Lm} {σ : St} {q : Int32 × St} (h : f_X11_isSheet σ = some q) : Met l yX11_isSheet (Cond.code yX11_isSheet cX11_isSheet 1 ((some .boolean)) :: TB) ({ frames := 0, cells := 0, slots := 0, locals := 0 } : Room) (va_Pc [.ref (g_ad G 26)] (GW G lam σ)) (Ri q G lam) 0 0 (g_A G) := by
  refine mk_Qi (own := RX11) (by decide) (Nat.le_of_ble_eq_true rfl) rfl (fun p e s m args below meth c C hr hlocks hP ls hl => ?_)
  have hx := C.1
  have hb := C.2.1
  have hl : lv_has ls 1 [(0, .ref (g_ad G 26))] := hl
  have hS : va_S (g_A G) s.heap s.heap [] := va_S.rf
  unfold f_X11_isSheet at h
  refine lv_aload_n hx hb dX11_isSheet_0 rfl (lv_at hl 0 rfl) ?_
  refine gf_X11_7_26 C hP dX11_isSheet_1 ?_
  refine lv_iconst (v := 0) hx hb dX11_isSheet_4 (by decide) ?_
  refine r_aldc C hP 27 (by decide) rfl (j := 0) (by decide) (vp_in_iff.mpr (by decide)) dX11_isSheet_5 ?_
  refine lv_iconst (v := 1) hx hb dX11_isSheet_6 (by decide) ?_
  refine lv_icmp_ne (tgt := 14) hx hb dX11_isSheet_7 (by decide) (fun c2 => ?_) (fun c2 => ?_)
  · replace h := h_f c2 h
    refine lv_iconst (v := 0) hx hb dX11_isSheet_14 (by decide) ?_
    exact ret_z C hr hlocks hP hS h (Or.inl rfl) dX11_isSheet_15
  · replace h := h_t c2 h
    refine lv_iconst (v := 1) hx hb dX11_isSheet_10 (by decide) ?_
    refine lv_goto (tgt := 15) hx hb dX11_isSheet_11 (by decide) ?_
    exact ret_z C hr hlocks hP hS h (Or.inr rfl) dX11_isSheet_15
set_option maxHeartbeats 4000000 in
set_option maxRecDepth 100000 in
theorem c_X11_isThing {l : Launch} {G : GT} {lam : Lm} {σ : St} {a1 : Int32} {q : Int32 × St} (h : f_X11_isThing σ a1 = some q) : Met l yX11_isThing (Cond.code yX11_isThing cX11_isThing 2 ((some .boolean)) :: TB) ({ frames := 1, cells := 0, slots := 0, locals := 25 } : Room) (va_Pc [.ref (g_ad G 26), .int a1] (GW G lam σ)) (Ri q G lam) 0 0 (g_A G) := by
  refine mk_Qi (own := RX11) (by decide) (Nat.le_of_ble_eq_true rfl) rfl (fun p e s m args below meth c C hr hlocks hP ls hl => ?_)
  have hx := C.1
  have hb := C.2.1
  have hl : lv_has ls 2 [(0, .ref (g_ad G 26)), (1, .int a1)] := hl
  have hS : va_S (g_A G) s.heap s.heap [] := va_S.rf
  unfold f_X11_isThing at h
  refine lv_iload_n hx hb dX11_isThing_0 rfl (lv_at hl 1 rfl) ?_
  refine lv_i2l hx hb dX11_isThing_1 rfl ?_
  refine lv_lconst (v := 0) hx hb dX11_isThing_2 (by decide) ?_
  refine lv_aload_n hx hb dX11_isThing_3 rfl (lv_at hl 0 rfl) ?_
  refine gf_X11_7_26 C hP dX11_isThing_4 ?_
  refine lv_bipush (v := 13) hx hb dX11_isThing_7 (by decide) ?_
  refine r_aldc C hP 27 (by decide) rfl (j := 13) (by decide) (vp_in_iff.mpr (by decide)) dX11_isThing_9 ?_
  refine lv_iconst (v := 1) hx hb dX11_isThing_10 (by decide) ?_
  refine lv_isub hx hb dX11_isThing_11 ?_
  refine lv_i2l hx hb dX11_isThing_12 rfl ?_
  obtain ⟨q4, e5, h⟩ := bnd h
  refine scall_i C hP hS (c_X11_in e5) ms_X11_in mw_1320 ⟨Nat.le_of_ble_eq_true rfl, Nat.le_of_ble_eq_true rfl⟩ (As := [.long ((a1 : Int32).toInt64), .long (0), .long (((σ 27 13) - 1 : Int32).toInt64)]) rfl hl.1 rfl (lv_room (Nat.le_of_ble_eq_true rfl)) dX11_isThing_13 (fun H locs hP hS => ?_)
  obtain ⟨g6, h⟩ := h_g h
  exact ret_z C hr hlocks hP hS h g6 dX11_isThing_16
set_option maxHeartbeats 4000000 in
set_option maxRecDepth 100000 in
theorem c_X11_isLeg {l : Launch} {G : GT} {lam : Lm} {σ : St} {a1 : Int32} {q : Int32 × St} (h : f_X11_isLeg σ a1 = some q) : Met l yX11_isLeg (Cond.code yX11_isLeg cX11_isLeg 2 ((some .boolean)) :: TB) ({ frames := 1, cells := 0, slots := 0, locals := 25 } : Room) (va_Pc [.ref (g_ad G 26), .int a1] (GW G lam σ)) (Ri q G lam) 0 0 (g_A G) := by
  refine mk_Qi (own := RX11) (by decide) (Nat.le_of_ble_eq_true rfl) rfl (fun p e s m args below meth c C hr hlocks hP ls hl => ?_)
  have hx := C.1
  have hb := C.2.1
  have hl : lv_has ls 2 [(0, .ref (g_ad G 26)), (1, .int a1)] := hl
  have hS : va_S (g_A G) s.heap s.heap [] := va_S.rf
  unfold f_X11_isLeg at h
  refine lv_iload_n hx hb dX11_isLeg_0 rfl (lv_at hl 1 rfl) ?_
  refine lv_i2l hx hb dX11_isLeg_1 rfl ?_
  refine lv_lconst (v := 0) hx hb dX11_isLeg_2 (by decide) ?_
  refine lv_aload_n hx hb dX11_isLeg_3 rfl (lv_at hl 0 rfl) ?_
  refine gf_X11_7_26 C hP dX11_isLeg_4 ?_
  refine lv_bipush (v := 54) hx hb dX11_isLeg_7 (by decide) ?_
  refine r_aldc C hP 27 (by decide) rfl (j := 54) (by decide) (vp_in_iff.mpr (by decide)) dX11_isLeg_9 ?_
  refine lv_iconst (v := 1) hx hb dX11_isLeg_10 (by decide) ?_
  refine lv_isub hx hb dX11_isLeg_11 ?_
  refine lv_i2l hx hb dX11_isLeg_12 rfl ?_
  obtain ⟨q4, e5, h⟩ := bnd h
  refine scall_i C hP hS (c_X11_in e5) ms_X11_in mw_1320 ⟨Nat.le_of_ble_eq_true rfl, Nat.le_of_ble_eq_true rfl⟩ (As := [.long ((a1 : Int32).toInt64), .long (0), .long (((σ 27 54) - 1 : Int32).toInt64)]) rfl hl.1 rfl (lv_room (Nat.le_of_ble_eq_true rfl)) dX11_isLeg_13 (fun H locs hP hS => ?_)
  obtain ⟨g6, h⟩ := h_g h
  exact ret_z C hr hlocks hP hS h g6 dX11_isLeg_16
set_option maxHeartbeats 4000000 in
set_option maxRecDepth 100000 in
theorem c_X11_of {l : Launch} {G : GT} {lam : Lm} {σ : St} {a1 : Int32} {a2 : Int32} {q : Int32 × St} (h : f_X11_of σ a1 a2 = some q) : Met l yX11_of (Cond.code yX11_of cX11_of 3 ((some .int)) :: TB) ({ frames := 0, cells := 0, slots := 0, locals := 0 } : Room) (va_Pc [.ref (g_ad G 26), .int a1, .int a2] (GW G lam σ)) (Ri q G lam) 0 0 (g_A G) := by
  refine mk_Qi (own := RX11) (by decide) (Nat.le_of_ble_eq_true rfl) rfl (fun p e s m args below meth c C hr hlocks hP ls hl => ?_)
  have hx := C.1
  have hb := C.2.1
  have hl : lv_has ls 3 [(0, .ref (g_ad G 26)), (1, .int a1), (2, .int a2)] := hl
  have hS : va_S (g_A G) s.heap s.heap [] := va_S.rf
  unfold f_X11_of at h
  refine lv_aload_n hx hb dX11_of_0 rfl (lv_at hl 0 rfl) ?_
  refine gf_X11_7_26 C hP dX11_of_1 ?_
  refine lv_bipush (v := 14) hx hb dX11_of_4 (by decide) ?_
  refine lv_iconst (v := 5) hx hb dX11_of_6 (by decide) ?_
  refine lv_iload_n hx hb dX11_of_7 rfl (lv_at hl 1 rfl) ?_
  refine lv_imul hx hb dX11_of_8 ?_
  refine lv_iadd hx hb dX11_of_9 ?_
  refine lv_iload_n hx hb dX11_of_10 rfl (lv_at hl 2 rfl) ?_
  refine lv_iadd hx hb dX11_of_11 ?_
  obtain ⟨g2, h⟩ := h_g h
  refine r_ald C hP 27 (by decide) rfl (vp_in_iff.mpr g2) dX11_of_12 ?_
  exact ret_i C hr hlocks hP hS h dX11_of_13
set_option maxHeartbeats 4000000 in
set_option maxRecDepth 100000 in
theorem c_X11_acts {l : Launch} {G : GT} {lam : Lm} {σ : St} {a1 : Int32} {a2 : Int32} {q : Int32 × St} (h : f_X11_acts σ a1 a2 = some q) : Met l yX11_acts (Cond.code yX11_acts cX11_acts 4 ((some .int)) :: TB) ({ frames := 2, cells := 0, slots := 0, locals := 44 } : Room) (va_Pc [.ref (g_ad G 26), .int a1, .int a2] (GW G lam σ)) (Ri q G lam) 0 0 (g_A G) := by
  refine mk_Qi (own := RX11) (by decide) (Nat.le_of_ble_eq_true rfl) rfl (fun p e s m args below meth c C hr hlocks hP ls hl => ?_)
  have hx := C.1
  have hb := C.2.1
  have hl : lv_has ls 4 [(0, .ref (g_ad G 26)), (1, .int a1), (2, .int a2)] := hl
  have hS : va_S (g_A G) s.heap s.heap [] := va_S.rf
  unfold f_X11_acts at h
  refine lv_aload_n hx hb dX11_acts_0 rfl (lv_at hl 0 rfl) ?_
  refine gf_X11_7_26 C hP dX11_acts_1 ?_
  refine lv_iload_n hx hb dX11_acts_4 rfl (lv_at hl 1 rfl) ?_
  obtain ⟨g7, h⟩ := h_g h
  refine r_ald C hP 27 (by decide) rfl (vp_in_iff.mpr g7) dX11_acts_5 ?_
  obtain ⟨y8, e9, h⟩ := bnd h
  refine r_nm e9 ?_
  refine lv_istore_n (lv' := [(3, .int y8), (0, .ref (g_ad G 26)), (1, .int a1), (2, .int a2)]) hx hb dX11_acts_6 rfl hl (by decide) rfl (fun ls hl => ?_)
  refine lv_aload_n hx hb dX11_acts_7 rfl (lv_at hl 1 rfl) ?_
  obtain ⟨q10, e11, h⟩ := bnd h
  refine call_v C hP hS (c_X11_minds e11) mi_X11_minds mw_1424 26 (by decide) rfl rfl ⟨Nat.le_of_ble_eq_true rfl, Nat.le_of_ble_eq_true rfl⟩ (As := []) rfl hl.1 rfl (lv_room (Nat.le_of_ble_eq_true rfl)) dX11_acts_8 (fun H locs hP hS => ?_)
  refine lv_aload_n hx hb dX11_acts_11 rfl (lv_at hl 1 rfl) ?_
  refine gf_X11_7_26 C hP dX11_acts_12 ?_
  refine lv_iload_n hx hb dX11_acts_15 rfl (lv_at hl 2 rfl) ?_
  refine lv_iload_n hx hb dX11_acts_16 rfl (lv_at hl 3 rfl) ?_
  obtain ⟨g12, h⟩ := h_g h
  refine r_ast C hP hS 27 (by decide) (fun _ => rfl) (vp_in_iff.mpr g12) dX11_acts_17 (fun H locs hP hS => ?_)
  obtain ⟨σ13, e14, h⟩ := bnd h
  have hP := hPn e14 hP
  refine lv_iload_n hx hb dX11_acts_18 rfl (lv_at hl 0 rfl) ?_
  exact ret_i C hr hlocks hP hS h dX11_acts_19
set_option maxHeartbeats 4000000 in
set_option maxRecDepth 100000 in
theorem c_X11_measure {l : Launch} {G : GT} {lam : Lm} {σ : St} {a1 : Int32} {a2 : Int32} {a3 : Int32} {q : Int32 × St} (h : f_X11_measure σ a1 a2 a3 = some q) : Met l yX11_measure (Cond.code yX11_measure cX11_measure 4 ((some .int)) :: TB) ({ frames := 3, cells := 0, slots := 0, locals := 67 } : Room) (va_Pc [.ref (g_ad G 26), .int a1, .int a2, .int a3] (GW G lam σ)) (Ri q G lam) 0 0 (g_A G) := by
  refine mk_Qi (own := RX11) (by decide) (Nat.le_of_ble_eq_true rfl) rfl (fun p e s m args below meth c C hr hlocks hP ls hl => ?_)
  have hx := C.1
  have hb := C.2.1
  have hl : lv_has ls 4 [(0, .ref (g_ad G 26)), (1, .int a1), (2, .int a2), (3, .int a3)] := hl
  have J48 : ∀ (σ : St) (x1 : Int32) (x2 : Int32) (x3 : Int32) (t0 : Int64) (t1 : Int64) (t2 : Int64) (H : Heap) (locs : List Loc) (ls : Array Slot), f_X11_measure_p48 σ x1 x2 x3 t0 t1 t2 = some q → va_P (g_D G) vwCl (allW G lam σ) H → va_S (g_A G) s.heap H locs → lv_has ls 4 [(0, .ref (g_ad G 26)), (1, .int x1), (2, .int x2), (3, .int x3)] → W p l e ({ frames := 3, cells := 0, slots := 0, locals := 67 } : Room) s m args below meth c H locs 0 0 (Qi q below args s G lam) (F0 m 48 ls [.long (t0), .long (t1), .long (t2)]) := by
    intro σ x1 x2 x3 t0 t1 t2 H locs ls h hP hS hl
    unfold f_X11_measure_p48 at h
    obtain ⟨q14, e15, h⟩ := bnd h
    refine scall_i C hP hS (c_X11_in e15) ms_X11_in mw_1320 ⟨Nat.le_of_ble_eq_true rfl, Nat.le_of_ble_eq_true rfl⟩ (As := [.long (t2), .long (t1), .long (t0)]) rfl hl.1 rfl (lv_room (Nat.le_of_ble_eq_true rfl)) dX11_measure_48 (fun H locs hP hS => ?_)
    refine lv_if_ne (tgt := 57) hx hb dX11_measure_51 (by decide) (fun c16 => ?_) (fun c16 => ?_)
    · replace h := h_f c16 h
      refine lv_aload_n hx hb dX11_measure_57 rfl (lv_at hl 0 rfl) ?_
      refine lv_bipush (v := 14) hx hb dX11_measure_58 (by decide) ?_
      refine lv_iconst (v := 5) hx hb dX11_measure_60 (by decide) ?_
      refine lv_iload_n hx hb dX11_measure_61 rfl (lv_at hl 1 rfl) ?_
      refine lv_imul hx hb dX11_measure_62 ?_
      refine lv_iadd hx hb dX11_measure_63 ?_
      refine lv_iconst (v := 1) hx hb dX11_measure_64 (by decide) ?_
      refine lv_iadd hx hb dX11_measure_65 ?_
      refine lv_iload_n hx hb dX11_measure_66 rfl (lv_at hl 2 rfl) ?_
      refine lv_iadd hx hb dX11_measure_67 ?_
      refine lv_iload_n hx hb dX11_measure_68 rfl (lv_at hl 3 rfl) ?_
      obtain ⟨q17, e18, h⟩ := bnd h
      refine call_i C hP hS (c_X11_acts e18) mi_X11_acts mw_1420 26 (by decide) rfl rfl ⟨Nat.le_of_ble_eq_true rfl, Nat.le_of_ble_eq_true rfl⟩ (As := [.int (((14 + (5 * x1)) + 1) + x2), .int x3]) rfl hl.1 rfl (lv_room (Nat.le_of_ble_eq_true rfl)) dX11_measure_69 (fun H locs hP hS => ?_)
      exact ret_i C hr hlocks hP hS h dX11_measure_72
    · replace h := h_t c16 h
      refine lv_ldc hx hb C.2.2.2.1 (C.2.2.2.2.1 _ mw_1323) dX11_measure_54 ?_
      exact ret_i C hr hlocks hP hS h dX11_measure_56
  have hS : va_S (g_A G) s.heap s.heap [] := va_S.rf
  unfold f_X11_measure at h
  obtain ⟨H, hH⟩ : ∃ H, H = s.heap := ⟨_, rfl⟩
  obtain ⟨locs, hlo⟩ : ∃ k : List Loc, k = [] := ⟨_, rfl⟩
  rw [← hH, ← hlo]
  rw [← hH] at hP
  replace hS : va_S (g_A G) s.heap H locs := by rw [hH, hlo]; exact hS
  refine lv_aload_n hx hb dX11_measure_0 rfl (lv_at hl 0 rfl) ?_
  refine lv_iload_n hx hb dX11_measure_1 rfl (lv_at hl 1 rfl) ?_
  obtain ⟨q19, e20, h⟩ := bnd h
  refine call_i C hP hS (c_X11_isThing e20) mi_X11_isThing mw_1412 26 (by decide) rfl rfl ⟨Nat.le_of_ble_eq_true rfl, Nat.le_of_ble_eq_true rfl⟩ (As := [.int a1]) rfl hl.1 rfl (lv_room (Nat.le_of_ble_eq_true rfl)) dX11_measure_2 (fun H locs hP hS => ?_)
  refine lv_if_eq (tgt := 54) hx hb dX11_measure_5 (by decide) (fun c21 => ?_) (fun c21 => ?_)
  · replace h := h_t c21 h
    refine lv_ldc hx hb C.2.2.2.1 (C.2.2.2.2.1 _ mw_1323) dX11_measure_54 ?_
    exact ret_i C hr hlocks hP hS h dX11_measure_56
  · replace h := h_f c21 h
    refine lv_iload_n hx hb dX11_measure_8 rfl (lv_at hl 2 rfl) ?_
    refine lv_i2l hx hb dX11_measure_9 rfl ?_
    refine lv_lconst (v := 0) hx hb dX11_measure_10 (by decide) ?_
    refine lv_ldc2 hx hb C.2.2.2.1 (C.2.2.2.2.1 _ mw_1416) dX11_measure_11 ?_
    obtain ⟨q22, e23, h⟩ := bnd h
    refine scall_i C hP hS (c_X11_in e23) ms_X11_in mw_1320 ⟨Nat.le_of_ble_eq_true rfl, Nat.le_of_ble_eq_true rfl⟩ (As := [.long ((a2 : Int32).toInt64), .long (0), .long (3)]) rfl hl.1 rfl (lv_room (Nat.le_of_ble_eq_true rfl)) dX11_measure_14 (fun H locs hP hS => ?_)
    refine lv_if_eq (tgt := 54) hx hb dX11_measure_17 (by decide) (fun c24 => ?_) (fun c24 => ?_)
    · replace h := h_t c24 h
      refine lv_ldc hx hb C.2.2.2.1 (C.2.2.2.2.1 _ mw_1323) dX11_measure_54 ?_
      exact ret_i C hr hlocks hP hS h dX11_measure_56
    · replace h := h_f c24 h
      refine lv_iload_n hx hb dX11_measure_20 rfl (lv_at hl 3 rfl) ?_
      refine lv_i2l hx hb dX11_measure_21 rfl ?_
      refine lv_lconst (v := 0) hx hb dX11_measure_22 (by decide) ?_
      refine lv_iload_n hx hb dX11_measure_23 rfl (lv_at hl 2 rfl) ?_
      refine lv_iconst (v := 2) hx hb dX11_measure_24 (by decide) ?_
      refine lv_icmp_ge (tgt := 34) hx hb dX11_measure_25 (by decide) (fun c25 => ?_) (fun c25 => ?_)
      · replace h := h_t c25 h
        refine lv_iload_n hx hb dX11_measure_34 rfl (lv_at hl 2 rfl) ?_
        refine lv_iconst (v := 2) hx hb dX11_measure_35 (by decide) ?_
        refine lv_icmp_ne (tgt := 45) hx hb dX11_measure_36 (by decide) (fun c26 => ?_) (fun c26 => ?_)
        · replace h := h_f c26 h
          refine lv_ldc2 hx hb C.2.2.2.1 (C.2.2.2.2.1 _ mw_1419) dX11_measure_45 ?_
          exact J48 _ _ _ _ _ _ _ H locs ls h hP hS (lv_sub hl [0, 1, 2, 3] rfl)
        · replace h := h_t c26 h
          refine lv_ldc2 hx hb C.2.2.2.1 (C.2.2.2.2.1 _ mw_1418) dX11_measure_39 ?_
          refine lv_goto (tgt := 48) hx hb dX11_measure_42 (by decide) ?_
          exact J48 _ _ _ _ _ _ _ H locs ls h hP hS (lv_sub hl [0, 1, 2, 3] rfl)
      · replace h := h_f c25 h
        refine lv_ldc2 hx hb C.2.2.2.1 (C.2.2.2.2.1 _ mw_1417) dX11_measure_28 ?_
        refine lv_goto (tgt := 48) hx hb dX11_measure_31 (by decide) ?_
        exact J48 _ _ _ _ _ _ _ H locs ls h hP hS (lv_sub hl [0, 1, 2, 3] rfl)
set_option maxHeartbeats 4000000 in
set_option maxRecDepth 100000 in
theorem c_X11_become {l : Launch} {G : GT} {lam : Lm} {σ : St} {a1 : Int32} {a2 : Int32} {q : Int32 × St} (h : f_X11_become σ a1 a2 = some q) : Met l yX11_become (Cond.code yX11_become cX11_become 3 ((some .int)) :: TB) ({ frames := 3, cells := 0, slots := 0, locals := 67 } : Room) (va_Pc [.ref (g_ad G 26), .int a1, .int a2] (GW G lam σ)) (Ri q G lam) 0 0 (g_A G) := by
  refine mk_Qi (own := RX11) (by decide) (Nat.le_of_ble_eq_true rfl) rfl (fun p e s m args below meth c C hr hlocks hP ls hl => ?_)
  have hx := C.1
  have hb := C.2.1
  have hl : lv_has ls 3 [(0, .ref (g_ad G 26)), (1, .int a1), (2, .int a2)] := hl
  have hS : va_S (g_A G) s.heap s.heap [] := va_S.rf
  unfold f_X11_become at h
  refine lv_aload_n hx hb dX11_become_0 rfl (lv_at hl 0 rfl) ?_
  refine lv_iload_n hx hb dX11_become_1 rfl (lv_at hl 1 rfl) ?_
  obtain ⟨q12, e13, h⟩ := bnd h
  refine call_i C hP hS (c_X11_isThing e13) mi_X11_isThing mw_1412 26 (by decide) rfl rfl ⟨Nat.le_of_ble_eq_true rfl, Nat.le_of_ble_eq_true rfl⟩ (As := [.int a1]) rfl hl.1 rfl (lv_room (Nat.le_of_ble_eq_true rfl)) dX11_become_2 (fun H locs hP hS => ?_)
  refine lv_if_eq (tgt := 20) hx hb dX11_become_5 (by decide) (fun c14 => ?_) (fun c14 => ?_)
  · replace h := h_t c14 h
    refine lv_ldc hx hb C.2.2.2.1 (C.2.2.2.2.1 _ mw_1323) dX11_become_20 ?_
    exact ret_i C hr hlocks hP hS h dX11_become_22
  · replace h := h_f c14 h
    refine lv_iload_n hx hb dX11_become_8 rfl (lv_at hl 2 rfl) ?_
    refine lv_i2l hx hb dX11_become_9 rfl ?_
    refine lv_lconst (v := 1) hx hb dX11_become_10 (by decide) ?_
    refine lv_ldc2 hx hb C.2.2.2.1 (C.2.2.2.2.1 _ mw_1432) dX11_become_11 ?_
    obtain ⟨q15, e16, h⟩ := bnd h
    refine scall_i C hP hS (c_X11_in e16) ms_X11_in mw_1320 ⟨Nat.le_of_ble_eq_true rfl, Nat.le_of_ble_eq_true rfl⟩ (As := [.long ((a2 : Int32).toInt64), .long (1), .long (6)]) rfl hl.1 rfl (lv_room (Nat.le_of_ble_eq_true rfl)) dX11_become_14 (fun H locs hP hS => ?_)
    refine lv_if_ne (tgt := 23) hx hb dX11_become_17 (by decide) (fun c17 => ?_) (fun c17 => ?_)
    · replace h := h_f c17 h
      refine lv_aload_n hx hb dX11_become_23 rfl (lv_at hl 0 rfl) ?_
      refine lv_iload_n hx hb dX11_become_24 rfl (lv_at hl 1 rfl) ?_
      refine lv_iconst (v := 0) hx hb dX11_become_25 (by decide) ?_
      obtain ⟨q18, e19, h⟩ := bnd h
      refine call_i C hP hS (c_X11_of e19) mi_X11_of mw_1433 26 (by decide) rfl rfl ⟨Nat.le_of_ble_eq_true rfl, Nat.le_of_ble_eq_true rfl⟩ (As := [.int a1, .int 0]) rfl hl.1 rfl (lv_room (Nat.le_of_ble_eq_true rfl)) dX11_become_26 (fun H locs hP hS => ?_)
      refine lv_iload_n hx hb dX11_become_29 rfl (lv_at hl 2 rfl) ?_
      refine lv_icmp_ne (tgt := 38) hx hb dX11_become_30 (by decide) (fun c20 => ?_) (fun c20 => ?_)
      · replace h := h_f c20 h
        refine lv_aload_n hx hb dX11_become_38 rfl (lv_at hl 0 rfl) ?_
        refine lv_bipush (v := 14) hx hb dX11_become_39 (by decide) ?_
        refine lv_iconst (v := 5) hx hb dX11_become_41 (by decide) ?_
        refine lv_iload_n hx hb dX11_become_42 rfl (lv_at hl 1 rfl) ?_
        refine lv_imul hx hb dX11_become_43 ?_
        refine lv_iadd hx hb dX11_become_44 ?_
        refine lv_iload_n hx hb dX11_become_45 rfl (lv_at hl 2 rfl) ?_
        obtain ⟨q21, e22, h⟩ := bnd h
        refine call_i C hP hS (c_X11_acts e22) mi_X11_acts mw_1420 26 (by decide) rfl rfl ⟨Nat.le_of_ble_eq_true rfl, Nat.le_of_ble_eq_true rfl⟩ (As := [.int (14 + (5 * a1)), .int a2]) rfl hl.1 rfl (lv_room (Nat.le_of_ble_eq_true rfl)) dX11_become_46 (fun H locs hP hS => ?_)
        exact ret_i C hr hlocks hP hS h dX11_become_49
      · replace h := h_t c20 h
        refine lv_ldc hx hb C.2.2.2.1 (C.2.2.2.2.1 _ mw_1403) dX11_become_33 ?_
        refine lv_goto (tgt := 49) hx hb dX11_become_35 (by decide) ?_
        exact ret_i C hr hlocks hP hS h dX11_become_49
    · replace h := h_t c17 h
      refine lv_ldc hx hb C.2.2.2.1 (C.2.2.2.2.1 _ mw_1323) dX11_become_20 ?_
      exact ret_i C hr hlocks hP hS h dX11_become_22
set_option maxHeartbeats 4000000 in
set_option maxRecDepth 100000 in
theorem c_X11_ship {l : Launch} {G : GT} {lam : Lm} {σ : St} {a1 : Int32} {a2 : Int32} {q : Int32 × St} (h : f_X11_ship σ a1 a2 = some q) : Met l yX11_ship (Cond.code yX11_ship cX11_ship 3 ((some .int)) :: TB) ({ frames := 3, cells := 0, slots := 0, locals := 67 } : Room) (va_Pc [.ref (g_ad G 26), .int a1, .int a2] (GW G lam σ)) (Ri q G lam) 0 0 (g_A G) := by
  refine mk_Qi (own := RX11) (by decide) (Nat.le_of_ble_eq_true rfl) rfl (fun p e s m args below meth c C hr hlocks hP ls hl => ?_)
  have hx := C.1
  have hb := C.2.1
  have hl : lv_has ls 3 [(0, .ref (g_ad G 26)), (1, .int a1), (2, .int a2)] := hl
  have J38 : ∀ (σ : St) (x1 : Int32) (x2 : Int32) (t0 : Int64) (t1 : Int64) (t2 : Int64) (H : Heap) (locs : List Loc) (ls : Array Slot), f_X11_ship_p38 σ x1 x2 t0 t1 t2 = some q → va_P (g_D G) vwCl (allW G lam σ) H → va_S (g_A G) s.heap H locs → lv_has ls 3 [(0, .ref (g_ad G 26)), (1, .int x1), (2, .int x2)] → W p l e ({ frames := 3, cells := 0, slots := 0, locals := 67 } : Room) s m args below meth c H locs 0 0 (Qi q below args s G lam) (F0 m 38 ls [.long (t0), .long (t1), .long (t2)]) := by
    intro σ x1 x2 t0 t1 t2 H locs ls h hP hS hl
    unfold f_X11_ship_p38 at h
    obtain ⟨q13, e14, h⟩ := bnd h
    refine scall_i C hP hS (c_X11_in e14) ms_X11_in mw_1320 ⟨Nat.le_of_ble_eq_true rfl, Nat.le_of_ble_eq_true rfl⟩ (As := [.long (t2), .long (t1), .long (t0)]) rfl hl.1 rfl (lv_room (Nat.le_of_ble_eq_true rfl)) dX11_ship_38 (fun H locs hP hS => ?_)
    refine lv_if_ne (tgt := 49) hx hb dX11_ship_41 (by decide) (fun c15 => ?_) (fun c15 => ?_)
    · replace h := h_f c15 h
      refine lv_aload_n hx hb dX11_ship_49 rfl (lv_at hl 0 rfl) ?_
      refine lv_iconst (v := 1) hx hb dX11_ship_50 (by decide) ?_
      refine lv_iload_n hx hb dX11_ship_51 rfl (lv_at hl 1 rfl) ?_
      refine lv_iadd hx hb dX11_ship_52 ?_
      refine lv_iload_n hx hb dX11_ship_53 rfl (lv_at hl 2 rfl) ?_
      obtain ⟨q16, e17, h⟩ := bnd h
      refine call_i C hP hS (c_X11_acts e17) mi_X11_acts mw_1420 26 (by decide) rfl rfl ⟨Nat.le_of_ble_eq_true rfl, Nat.le_of_ble_eq_true rfl⟩ (As := [.int (1 + x1), .int x2]) rfl hl.1 rfl (lv_room (Nat.le_of_ble_eq_true rfl)) dX11_ship_54 (fun H locs hP hS => ?_)
      exact ret_i C hr hlocks hP hS h dX11_ship_57
    · replace h := h_t c15 h
      refine lv_ldc hx hb C.2.2.2.1 (C.2.2.2.2.1 _ mw_1323) dX11_ship_44 ?_
      refine lv_goto (tgt := 57) hx hb dX11_ship_46 (by decide) ?_
      exact ret_i C hr hlocks hP hS h dX11_ship_57
  have hS : va_S (g_A G) s.heap s.heap [] := va_S.rf
  unfold f_X11_ship at h
  obtain ⟨H, hH⟩ : ∃ H, H = s.heap := ⟨_, rfl⟩
  obtain ⟨locs, hlo⟩ : ∃ k : List Loc, k = [] := ⟨_, rfl⟩
  rw [← hH, ← hlo]
  rw [← hH] at hP
  replace hS : va_S (g_A G) s.heap H locs := by rw [hH, hlo]; exact hS
  refine lv_aload_n hx hb dX11_ship_0 rfl (lv_at hl 0 rfl) ?_
  obtain ⟨q18, e19, h⟩ := bnd h
  refine call_i C hP hS (c_X11_isSheet e19) mi_X11_isSheet mw_1441 26 (by decide) rfl rfl ⟨Nat.le_of_ble_eq_true rfl, Nat.le_of_ble_eq_true rfl⟩ (As := []) rfl hl.1 rfl (lv_room (Nat.le_of_ble_eq_true rfl)) dX11_ship_1 (fun H locs hP hS => ?_)
  refine lv_if_ne (tgt := 10) hx hb dX11_ship_4 (by decide) (fun c20 => ?_) (fun c20 => ?_)
  · replace h := h_f c20 h
    refine lv_iload_n hx hb dX11_ship_10 rfl (lv_at hl 1 rfl) ?_
    refine lv_i2l hx hb dX11_ship_11 rfl ?_
    refine lv_lconst (v := 0) hx hb dX11_ship_12 (by decide) ?_
    refine lv_ldc2 hx hb C.2.2.2.1 (C.2.2.2.2.1 _ mw_1445) dX11_ship_13 ?_
    obtain ⟨q21, e22, h⟩ := bnd h
    refine scall_i C hP hS (c_X11_in e22) ms_X11_in mw_1320 ⟨Nat.le_of_ble_eq_true rfl, Nat.le_of_ble_eq_true rfl⟩ (As := [.long ((a1 : Int32).toInt64), .long (0), .long (4)]) rfl hl.1 rfl (lv_room (Nat.le_of_ble_eq_true rfl)) dX11_ship_16 (fun H locs hP hS => ?_)
    refine lv_if_eq (tgt := 44) hx hb dX11_ship_19 (by decide) (fun c23 => ?_) (fun c23 => ?_)
    · replace h := h_t c23 h
      refine lv_ldc hx hb C.2.2.2.1 (C.2.2.2.2.1 _ mw_1323) dX11_ship_44 ?_
      refine lv_goto (tgt := 57) hx hb dX11_ship_46 (by decide) ?_
      exact ret_i C hr hlocks hP hS h dX11_ship_57
    · replace h := h_f c23 h
      refine lv_iload_n hx hb dX11_ship_22 rfl (lv_at hl 2 rfl) ?_
      refine lv_i2l hx hb dX11_ship_23 rfl ?_
      refine lv_lconst (v := 0) hx hb dX11_ship_24 (by decide) ?_
      refine lv_iload_n hx hb dX11_ship_25 rfl (lv_at hl 1 rfl) ?_
      refine lv_if_ne (tgt := 35) hx hb dX11_ship_26 (by decide) (fun c24 => ?_) (fun c24 => ?_)
      · replace h := h_f c24 h
        refine lv_ldc2 hx hb C.2.2.2.1 (C.2.2.2.2.1 _ mw_1417) dX11_ship_35 ?_
        exact J38 _ _ _ _ _ _ H locs ls h hP hS (lv_sub hl [0, 1, 2] rfl)
      · replace h := h_t c24 h
        refine lv_ldc2 hx hb C.2.2.2.1 (C.2.2.2.2.1 _ mw_1419) dX11_ship_29 ?_
        refine lv_goto (tgt := 38) hx hb dX11_ship_32 (by decide) ?_
        exact J38 _ _ _ _ _ _ H locs ls h hP hS (lv_sub hl [0, 1, 2] rfl)
  · replace h := h_t c20 h
    refine lv_ldc hx hb C.2.2.2.1 (C.2.2.2.2.1 _ mw_1403) dX11_ship_7 ?_
    exact ret_i C hr hlocks hP hS h dX11_ship_9
set_option maxHeartbeats 4000000 in
set_option maxRecDepth 100000 in
theorem c_X11_tide {l : Launch} {G : GT} {lam : Lm} {σ : St} {a1 : Int32} {a2 : Int32} {q : Int32 × St} (h : f_X11_tide σ a1 a2 = some q) : Met l yX11_tide (Cond.code yX11_tide cX11_tide 3 ((some .int)) :: TB) ({ frames := 3, cells := 0, slots := 0, locals := 67 } : Room) (va_Pc [.ref (g_ad G 26), .int a1, .int a2] (GW G lam σ)) (Ri q G lam) 0 0 (g_A G) := by
  refine mk_Qi (own := RX11) (by decide) (Nat.le_of_ble_eq_true rfl) rfl (fun p e s m args below meth c C hr hlocks hP ls hl => ?_)
  have hx := C.1
  have hb := C.2.1
  have hl : lv_has ls 3 [(0, .ref (g_ad G 26)), (1, .int a1), (2, .int a2)] := hl
  have hS : va_S (g_A G) s.heap s.heap [] := va_S.rf
  unfold f_X11_tide at h
  refine lv_iload_n hx hb dX11_tide_0 rfl (lv_at hl 1 rfl) ?_
  refine lv_i2l hx hb dX11_tide_1 rfl ?_
  refine lv_lconst (v := 0) hx hb dX11_tide_2 (by decide) ?_
  refine lv_aload_n hx hb dX11_tide_3 rfl (lv_at hl 0 rfl) ?_
  refine gf_X11_7_26 C hP dX11_tide_4 ?_
  refine lv_bipush (v := 6) hx hb dX11_tide_7 (by decide) ?_
  refine r_aldc C hP 27 (by decide) rfl (j := 6) (by decide) (vp_in_iff.mpr (by decide)) dX11_tide_9 ?_
  refine lv_iconst (v := 1) hx hb dX11_tide_10 (by decide) ?_
  refine lv_isub hx hb dX11_tide_11 ?_
  refine lv_i2l hx hb dX11_tide_12 rfl ?_
  obtain ⟨q9, e10, h⟩ := bnd h
  refine scall_i C hP hS (c_X11_in e10) ms_X11_in mw_1320 ⟨Nat.le_of_ble_eq_true rfl, Nat.le_of_ble_eq_true rfl⟩ (As := [.long ((a1 : Int32).toInt64), .long (0), .long (((σ 27 6) - 1 : Int32).toInt64)]) rfl hl.1 rfl (lv_room (Nat.le_of_ble_eq_true rfl)) dX11_tide_13 (fun H locs hP hS => ?_)
  refine lv_if_eq (tgt := 31) hx hb dX11_tide_16 (by decide) (fun c11 => ?_) (fun c11 => ?_)
  · replace h := h_t c11 h
    refine lv_ldc hx hb C.2.2.2.1 (C.2.2.2.2.1 _ mw_1323) dX11_tide_31 ?_
    refine lv_goto (tgt := 45) hx hb dX11_tide_33 (by decide) ?_
    exact ret_i C hr hlocks hP hS h dX11_tide_45
  · replace h := h_f c11 h
    refine lv_iload_n hx hb dX11_tide_19 rfl (lv_at hl 2 rfl) ?_
    refine lv_i2l hx hb dX11_tide_20 rfl ?_
    refine lv_lconst (v := 0) hx hb dX11_tide_21 (by decide) ?_
    refine lv_ldc2 hx hb C.2.2.2.1 (C.2.2.2.2.1 _ mw_1419) dX11_tide_22 ?_
    obtain ⟨q12, e13, h⟩ := bnd h
    refine scall_i C hP hS (c_X11_in e13) ms_X11_in mw_1320 ⟨Nat.le_of_ble_eq_true rfl, Nat.le_of_ble_eq_true rfl⟩ (As := [.long ((a2 : Int32).toInt64), .long (0), .long (20)]) rfl hl.1 rfl (lv_room (Nat.le_of_ble_eq_true rfl)) dX11_tide_25 (fun H locs hP hS => ?_)
    refine lv_if_ne (tgt := 36) hx hb dX11_tide_28 (by decide) (fun c14 => ?_) (fun c14 => ?_)
    · replace h := h_f c14 h
      refine lv_aload_n hx hb dX11_tide_36 rfl (lv_at hl 0 rfl) ?_
      refine lv_bipush (v := 7) hx hb dX11_tide_37 (by decide) ?_
      refine lv_iload_n hx hb dX11_tide_39 rfl (lv_at hl 1 rfl) ?_
      refine lv_iadd hx hb dX11_tide_40 ?_
      refine lv_iload_n hx hb dX11_tide_41 rfl (lv_at hl 2 rfl) ?_
      obtain ⟨q15, e16, h⟩ := bnd h
      refine call_i C hP hS (c_X11_acts e16) mi_X11_acts mw_1420 26 (by decide) rfl rfl ⟨Nat.le_of_ble_eq_true rfl, Nat.le_of_ble_eq_true rfl⟩ (As := [.int (7 + a1), .int a2]) rfl hl.1 rfl (lv_room (Nat.le_of_ble_eq_true rfl)) dX11_tide_42 (fun H locs hP hS => ?_)
      exact ret_i C hr hlocks hP hS h dX11_tide_45
    · replace h := h_t c14 h
      refine lv_ldc hx hb C.2.2.2.1 (C.2.2.2.2.1 _ mw_1323) dX11_tide_31 ?_
      refine lv_goto (tgt := 45) hx hb dX11_tide_33 (by decide) ?_
      exact ret_i C hr hlocks hP hS h dX11_tide_45
set_option maxHeartbeats 4000000 in
set_option maxRecDepth 100000 in
theorem c_X11_steer {l : Launch} {G : GT} {lam : Lm} {σ : St} {a1 : Int32} {a2 : Int32} {q : Int32 × St} (h : f_X11_steer σ a1 a2 = some q) : Met l yX11_steer (Cond.code yX11_steer cX11_steer 3 ((some .int)) :: TB) ({ frames := 3, cells := 0, slots := 0, locals := 67 } : Room) (va_Pc [.ref (g_ad G 26), .int a1, .int a2] (GW G lam σ)) (Ri q G lam) 0 0 (g_A G) := by
  refine mk_Qi (own := RX11) (by decide) (Nat.le_of_ble_eq_true rfl) rfl (fun p e s m args below meth c C hr hlocks hP ls hl => ?_)
  have hx := C.1
  have hb := C.2.1
  have hl : lv_has ls 3 [(0, .ref (g_ad G 26)), (1, .int a1), (2, .int a2)] := hl
  have hS : va_S (g_A G) s.heap s.heap [] := va_S.rf
  unfold f_X11_steer at h
  refine lv_aload_n hx hb dX11_steer_0 rfl (lv_at hl 0 rfl) ?_
  refine lv_iload_n hx hb dX11_steer_1 rfl (lv_at hl 1 rfl) ?_
  obtain ⟨q9, e10, h⟩ := bnd h
  refine call_i C hP hS (c_X11_isLeg e10) mi_X11_isLeg mw_1454 26 (by decide) rfl rfl ⟨Nat.le_of_ble_eq_true rfl, Nat.le_of_ble_eq_true rfl⟩ (As := [.int a1]) rfl hl.1 rfl (lv_room (Nat.le_of_ble_eq_true rfl)) dX11_steer_2 (fun H locs hP hS => ?_)
  refine lv_if_eq (tgt := 20) hx hb dX11_steer_5 (by decide) (fun c11 => ?_) (fun c11 => ?_)
  · replace h := h_t c11 h
    refine lv_ldc hx hb C.2.2.2.1 (C.2.2.2.2.1 _ mw_1323) dX11_steer_20 ?_
    refine lv_goto (tgt := 36) hx hb dX11_steer_22 (by decide) ?_
    exact ret_i C hr hlocks hP hS h dX11_steer_36
  · replace h := h_f c11 h
    refine lv_iload_n hx hb dX11_steer_8 rfl (lv_at hl 2 rfl) ?_
    refine lv_i2l hx hb dX11_steer_9 rfl ?_
    refine lv_lconst (v := 0) hx hb dX11_steer_10 (by decide) ?_
    refine lv_ldc2 hx hb C.2.2.2.1 (C.2.2.2.2.1 _ mw_1418) dX11_steer_11 ?_
    obtain ⟨q12, e13, h⟩ := bnd h
    refine scall_i C hP hS (c_X11_in e13) ms_X11_in mw_1320 ⟨Nat.le_of_ble_eq_true rfl, Nat.le_of_ble_eq_true rfl⟩ (As := [.long ((a2 : Int32).toInt64), .long (0), .long (15)]) rfl hl.1 rfl (lv_room (Nat.le_of_ble_eq_true rfl)) dX11_steer_14 (fun H locs hP hS => ?_)
    refine lv_if_ne (tgt := 25) hx hb dX11_steer_17 (by decide) (fun c14 => ?_) (fun c14 => ?_)
    · replace h := h_f c14 h
      refine lv_aload_n hx hb dX11_steer_25 rfl (lv_at hl 0 rfl) ?_
      refine lv_bipush (v := 55) hx hb dX11_steer_26 (by decide) ?_
      refine lv_iconst (v := 4) hx hb dX11_steer_28 (by decide) ?_
      refine lv_iload_n hx hb dX11_steer_29 rfl (lv_at hl 1 rfl) ?_
      refine lv_imul hx hb dX11_steer_30 ?_
      refine lv_iadd hx hb dX11_steer_31 ?_
      refine lv_iload_n hx hb dX11_steer_32 rfl (lv_at hl 2 rfl) ?_
      obtain ⟨q15, e16, h⟩ := bnd h
      refine call_i C hP hS (c_X11_acts e16) mi_X11_acts mw_1420 26 (by decide) rfl rfl ⟨Nat.le_of_ble_eq_true rfl, Nat.le_of_ble_eq_true rfl⟩ (As := [.int (55 + (4 * a1)), .int a2]) rfl hl.1 rfl (lv_room (Nat.le_of_ble_eq_true rfl)) dX11_steer_33 (fun H locs hP hS => ?_)
      exact ret_i C hr hlocks hP hS h dX11_steer_36
    · replace h := h_t c14 h
      refine lv_ldc hx hb C.2.2.2.1 (C.2.2.2.2.1 _ mw_1323) dX11_steer_20 ?_
      refine lv_goto (tgt := 36) hx hb dX11_steer_22 (by decide) ?_
      exact ret_i C hr hlocks hP hS h dX11_steer_36
set_option maxHeartbeats 4000000 in
set_option maxRecDepth 100000 in
theorem c_X11_isUntil {l : Launch} {G : GT} {lam : Lm} {σ : St} {a1 : Int32} {a2 : Int32} {a3 : Int32} {q : Int32 × St} (h : f_X11_isUntil σ a1 a2 a3 = some q) : Met l yX11_isUntil (Cond.code yX11_isUntil cX11_isUntil 4 ((some .boolean)) :: TB) ({ frames := 1, cells := 0, slots := 0, locals := 25 } : Room) (va_Pc [.int a1, .int a2, .int a3] (GW G lam σ)) (Ri q G lam) 0 0 (g_A G) := by
  refine mk_Qi (own := RX11) (by decide) (Nat.le_of_ble_eq_true rfl) rfl (fun p e s m args below meth c C hr hlocks hP ls hl => ?_)
  have hx := C.1
  have hb := C.2.1
  have hl : lv_has ls 4 [(0, .int a1), (1, .int a2), (2, .int a3)] := hl
  have J52 : ∀ (σ : St) (x0 : Int32) (x2 : Int32) (t0 : Int32) (H : Heap) (locs : List Loc) (ls : Array Slot), f_X11_isUntil_p52 σ x0 x2 t0 = some q → va_P (g_D G) vwCl (allW G lam σ) H → va_S (g_A G) s.heap H locs → lv_has ls 4 [(0, .int x0), (2, .int x2)] → W p l e ({ frames := 1, cells := 0, slots := 0, locals := 25 } : Room) s m args below meth c H locs 0 0 (Qi q below args s G lam) (F0 m 52 ls [.int t0]) := by
    intro σ x0 x2 t0 H locs ls h hP hS hl
    unfold f_X11_isUntil_p52 at h
    refine lv_istore_n (lv' := [(3, .int t0), (0, .int x0), (2, .int x2)]) hx hb dX11_isUntil_52 rfl hl (by decide) rfl (fun ls hl => ?_)
    refine lv_iload_n hx hb dX11_isUntil_53 rfl (lv_at hl 0 rfl) ?_
    refine lv_if_eq (tgt := 78) hx hb dX11_isUntil_54 (by decide) (fun c15 => ?_) (fun c15 => ?_)
    · replace h := h_t c15 h
      refine lv_iconst (v := 0) hx hb dX11_isUntil_78 (by decide) ?_
      exact ret_z C hr hlocks hP hS h (Or.inl rfl) dX11_isUntil_79
    · replace h := h_f c15 h
      refine lv_iload_n hx hb dX11_isUntil_57 rfl (lv_at hl 1 rfl) ?_
      refine lv_iconst (v := 2) hx hb dX11_isUntil_58 (by decide) ?_
      refine lv_icmp_ne (tgt := 74) hx hb dX11_isUntil_59 (by decide) (fun c16 => ?_) (fun c16 => ?_)
      · replace h := h_f c16 h
        refine lv_iconst (v := 1) hx hb dX11_isUntil_74 (by decide) ?_
        refine lv_goto (tgt := 79) hx hb dX11_isUntil_75 (by decide) ?_
        exact ret_z C hr hlocks hP hS h (Or.inr rfl) dX11_isUntil_79
      · replace h := h_t c16 h
        refine lv_iload_n hx hb dX11_isUntil_62 rfl (lv_at hl 2 rfl) ?_
        refine lv_i2l hx hb dX11_isUntil_63 rfl ?_
        refine lv_lconst (v := 0) hx hb dX11_isUntil_64 (by decide) ?_
        refine lv_ldc2 hx hb C.2.2.2.1 (C.2.2.2.2.1 _ mw_1465) dX11_isUntil_65 ?_
        obtain ⟨q17, e18, h⟩ := bnd h
        refine scall_i C hP hS (c_X11_in e18) ms_X11_in mw_1320 ⟨Nat.le_of_ble_eq_true rfl, Nat.le_of_ble_eq_true rfl⟩ (As := [.long ((x2 : Int32).toInt64), .long (0), .long (7)]) rfl hl.1 rfl (lv_room (Nat.le_of_ble_eq_true rfl)) dX11_isUntil_68 (fun H locs hP hS => ?_)
        refine lv_if_eq (tgt := 78) hx hb dX11_isUntil_71 (by decide) (fun c19 => ?_) (fun c19 => ?_)
        · replace h := h_t c19 h
          refine lv_iconst (v := 0) hx hb dX11_isUntil_78 (by decide) ?_
          exact ret_z C hr hlocks hP hS h (Or.inl rfl) dX11_isUntil_79
        · replace h := h_f c19 h
          refine lv_iconst (v := 1) hx hb dX11_isUntil_74 (by decide) ?_
          refine lv_goto (tgt := 79) hx hb dX11_isUntil_75 (by decide) ?_
          exact ret_z C hr hlocks hP hS h (Or.inr rfl) dX11_isUntil_79
  have J51 : ∀ (σ : St) (x0 : Int32) (x2 : Int32) (H : Heap) (locs : List Loc) (ls : Array Slot), f_X11_isUntil_p51 σ x0 x2 = some q → va_P (g_D G) vwCl (allW G lam σ) H → va_S (g_A G) s.heap H locs → lv_has ls 4 [(0, .int x0), (2, .int x2)] → W p l e ({ frames := 1, cells := 0, slots := 0, locals := 25 } : Room) s m args below meth c H locs 0 0 (Qi q below args s G lam) (F0 m 51 ls []) := by
    intro σ x0 x2 H locs ls h hP hS hl
    unfold f_X11_isUntil_p51 at h
    refine lv_iconst (v := 0) hx hb dX11_isUntil_51 (by decide) ?_
    exact J52 _ _ _ _ H locs ls h hP hS (lv_sub hl [0, 1] rfl)
  have J41 : ∀ (σ : St) (x0 : Int32) (x2 : Int32) (t0 : Int64) (t1 : Int64) (t2 : Int64) (H : Heap) (locs : List Loc) (ls : Array Slot), f_X11_isUntil_p41 σ x0 x2 t0 t1 t2 = some q → va_P (g_D G) vwCl (allW G lam σ) H → va_S (g_A G) s.heap H locs → lv_has ls 4 [(0, .int x0), (2, .int x2)] → W p l e ({ frames := 1, cells := 0, slots := 0, locals := 25 } : Room) s m args below meth c H locs 0 0 (Qi q below args s G lam) (F0 m 41 ls [.long (t0), .long (t1), .long (t2)]) := by
    intro σ x0 x2 t0 t1 t2 H locs ls h hP hS hl
    unfold f_X11_isUntil_p41 at h
    obtain ⟨q20, e21, h⟩ := bnd h
    refine scall_i C hP hS (c_X11_in e21) ms_X11_in mw_1320 ⟨Nat.le_of_ble_eq_true rfl, Nat.le_of_ble_eq_true rfl⟩ (As := [.long (t2), .long (t1), .long (t0)]) rfl hl.1 rfl (lv_room (Nat.le_of_ble_eq_true rfl)) dX11_isUntil_41 (fun H locs hP hS => ?_)
    refine lv_if_eq (tgt := 51) hx hb dX11_isUntil_44 (by decide) (fun c22 => ?_) (fun c22 => ?_)
    · replace h := h_t c22 h
      exact J51 _ _ _ H locs ls h hP hS (lv_sub hl [0, 1] rfl)
    · replace h := h_f c22 h
      refine lv_iconst (v := 1) hx hb dX11_isUntil_47 (by decide) ?_
      refine lv_goto (tgt := 52) hx hb dX11_isUntil_48 (by decide) ?_
      exact J52 _ _ _ _ H locs ls h hP hS (lv_sub hl [0, 1] rfl)
  have J32 : ∀ (σ : St) (x0 : Int32) (x2 : Int32) (t0 : Int64) (t1 : Int64) (H : Heap) (locs : List Loc) (ls : Array Slot), f_X11_isUntil_p32 σ x0 x2 t0 t1 = some q → va_P (g_D G) vwCl (allW G lam σ) H → va_S (g_A G) s.heap H locs → lv_has ls 4 [(0, .int x0), (2, .int x2)] → W p l e ({ frames := 1, cells := 0, slots := 0, locals := 25 } : Room) s m args below meth c H locs 0 0 (Qi q below args s G lam) (F0 m 32 ls [.long (t0), .long (t1)]) := by
    intro σ x0 x2 t0 t1 H locs ls h hP hS hl
    unfold f_X11_isUntil_p32 at h
    refine lv_ldc2 hx hb C.2.2.2.1 (C.2.2.2.2.1 _ mw_1417) dX11_isUntil_32 ?_
    refine lv_goto (tgt := 41) hx hb dX11_isUntil_35 (by decide) ?_
    exact J41 _ _ _ _ _ _ H locs ls h hP hS (lv_sub hl [0, 1] rfl)
  have J23 : ∀ (σ : St) (x0 : Int32) (x2 : Int32) (t0 : Int64) (t1 : Int64) (H : Heap) (locs : List Loc) (ls : Array Slot), f_X11_isUntil_p23 σ x0 x2 t0 t1 = some q → va_P (g_D G) vwCl (allW G lam σ) H → va_S (g_A G) s.heap H locs → lv_has ls 4 [(0, .int x0), (2, .int x2)] → W p l e ({ frames := 1, cells := 0, slots := 0, locals := 25 } : Room) s m args below meth c H locs 0 0 (Qi q below args s G lam) (F0 m 23 ls [.long (t0), .long (t1)]) := by
    intro σ x0 x2 t0 t1 H locs ls h hP hS hl
    unfold f_X11_isUntil_p23 at h
    refine lv_iload_n hx hb dX11_isUntil_23 rfl (lv_at hl 0 rfl) ?_
    refine lv_if_eq (tgt := 32) hx hb dX11_isUntil_24 (by decide) (fun c23 => ?_) (fun c23 => ?_)
    · replace h := h_t c23 h
      exact J32 _ _ _ _ _ H locs ls h hP hS (lv_sub hl [0, 1] rfl)
    · replace h := h_f c23 h
      refine lv_iload_n hx hb dX11_isUntil_27 rfl (lv_at hl 0 rfl) ?_
      refine lv_iconst (v := 4) hx hb dX11_isUntil_28 (by decide) ?_
      refine lv_icmp_ne (tgt := 38) hx hb dX11_isUntil_29 (by decide) (fun c24 => ?_) (fun c24 => ?_)
      · replace h := h_f c24 h
        refine lv_ldc2 hx hb C.2.2.2.1 (C.2.2.2.2.1 _ mw_1465) dX11_isUntil_38 ?_
        exact J41 _ _ _ _ _ _ H locs ls h hP hS (lv_sub hl [0, 1] rfl)
      · replace h := h_t c24 h
        exact J32 _ _ _ _ _ H locs ls h hP hS (lv_sub hl [0, 1] rfl)
  have hS : va_S (g_A G) s.heap s.heap [] := va_S.rf
  unfold f_X11_isUntil at h
  obtain ⟨H, hH⟩ : ∃ H, H = s.heap := ⟨_, rfl⟩
  obtain ⟨locs, hlo⟩ : ∃ k : List Loc, k = [] := ⟨_, rfl⟩
  rw [← hH, ← hlo]
  rw [← hH] at hP
  replace hS : va_S (g_A G) s.heap H locs := by rw [hH, hlo]; exact hS
  refine lv_iload_n hx hb dX11_isUntil_0 rfl (lv_at hl 0 rfl) ?_
  refine lv_i2l hx hb dX11_isUntil_1 rfl ?_
  refine lv_lconst (v := 0) hx hb dX11_isUntil_2 (by decide) ?_
  refine lv_ldc2 hx hb C.2.2.2.1 (C.2.2.2.2.1 _ mw_1445) dX11_isUntil_3 ?_
  obtain ⟨q25, e26, h⟩ := bnd h
  refine scall_i C hP hS (c_X11_in e26) ms_X11_in mw_1320 ⟨Nat.le_of_ble_eq_true rfl, Nat.le_of_ble_eq_true rfl⟩ (As := [.long ((a1 : Int32).toInt64), .long (0), .long (4)]) rfl hl.1 rfl (lv_room (Nat.le_of_ble_eq_true rfl)) dX11_isUntil_6 (fun H locs hP hS => ?_)
  refine lv_if_eq (tgt := 51) hx hb dX11_isUntil_9 (by decide) (fun c27 => ?_) (fun c27 => ?_)
  · replace h := h_t c27 h
    exact J51 _ _ _ H locs ls h hP hS (lv_sub hl [0, 2] rfl)
  · replace h := h_f c27 h
    refine lv_iload_n hx hb dX11_isUntil_12 rfl (lv_at hl 1 rfl) ?_
    refine lv_i2l hx hb dX11_isUntil_13 rfl ?_
    refine lv_iload_n hx hb dX11_isUntil_14 rfl (lv_at hl 0 rfl) ?_
    refine lv_if_ne (tgt := 22) hx hb dX11_isUntil_15 (by decide) (fun c28 => ?_) (fun c28 => ?_)
    · replace h := h_f c28 h
      refine lv_lconst (v := 0) hx hb dX11_isUntil_22 (by decide) ?_
      exact J23 _ _ _ _ _ H locs ls h hP hS (lv_sub hl [0, 2] rfl)
    · replace h := h_t c28 h
      refine lv_lconst (v := 1) hx hb dX11_isUntil_18 (by decide) ?_
      refine lv_goto (tgt := 23) hx hb dX11_isUntil_19 (by decide) ?_
      exact J23 _ _ _ _ _ H locs ls h hP hS (lv_sub hl [0, 2] rfl)
set_option maxHeartbeats 4000000 in
set_option maxRecDepth 100000 in
theorem c_X11_lays {l : Launch} {G : GT} {lam : Lm} {σ : St} {a1 : Int32} {a2 : Int32} {a3 : Int32} {a4 : Int32} {q : St} (h : f_X11_lays σ a1 a2 a3 a4 = some q) : Met l yX11_lays (Cond.code yX11_lays cX11_lays 5 none :: TB) ({ frames := 0, cells := 0, slots := 0, locals := 0 } : Room) (va_Pc [.ref (g_ad G 26), .int a1, .int a2, .int a3, .int a4] (GW G lam σ)) (Rv q G lam) 0 0 (g_A G) := by
  refine mk_Qv (own := RX11) (by decide) (Nat.le_of_ble_eq_true rfl) rfl (fun p e s m args below meth c C hr hlocks hP ls hl => ?_)
  have hx := C.1
  have hb := C.2.1
  have hl : lv_has ls 5 [(0, .ref (g_ad G 26)), (1, .int a1), (2, .int a2), (3, .int a3), (4, .int a4)] := hl
  have J52 : ∀ (σ : St) (t0 : Int32) (t1 : Int32) (H : Heap) (locs : List Loc) (ls : Array Slot), f_X11_lays_p52 σ t0 t1 = some q → va_P (g_D G) vwCl (allW G lam σ) H → va_S (g_A G) s.heap H locs → lv_has ls 5 [] → W p l e ({ frames := 0, cells := 0, slots := 0, locals := 0 } : Room) s m args below meth c H locs 0 0 (Qv q below args s G lam) (F0 m 52 ls [.int t0, .int t1, .ref (g_ad G 27)]) := by
    intro σ t0 t1 H locs ls h hP hS hl
    unfold f_X11_lays_p52 at h
    obtain ⟨g11, h⟩ := h_g h
    refine r_ast C hP hS 27 (by decide) (fun _ => rfl) (vp_in_iff.mpr g11) dX11_lays_52 (fun H locs hP hS => ?_)
    obtain ⟨σ12, e13, h⟩ := bnd h
    have hP := hPn e13 hP
    exact ret_v C hr hlocks hP hS h dX11_lays_53
  have hS : va_S (g_A G) s.heap s.heap [] := va_S.rf
  unfold f_X11_lays at h
  obtain ⟨H, hH⟩ : ∃ H, H = s.heap := ⟨_, rfl⟩
  obtain ⟨locs, hlo⟩ : ∃ k : List Loc, k = [] := ⟨_, rfl⟩
  rw [← hH, ← hlo]
  rw [← hH] at hP
  replace hS : va_S (g_A G) s.heap H locs := by rw [hH, hlo]; exact hS
  refine lv_aload_n hx hb dX11_lays_0 rfl (lv_at hl 0 rfl) ?_
  refine gf_X11_7_26 C hP dX11_lays_1 ?_
  refine lv_bipush (v := 55) hx hb dX11_lays_4 (by decide) ?_
  refine lv_iconst (v := 4) hx hb dX11_lays_6 (by decide) ?_
  refine lv_iload_n hx hb dX11_lays_7 rfl (lv_at hl 1 rfl) ?_
  refine lv_imul hx hb dX11_lays_8 ?_
  refine lv_iadd hx hb dX11_lays_9 ?_
  refine lv_iconst (v := 1) hx hb dX11_lays_10 (by decide) ?_
  refine lv_iadd hx hb dX11_lays_11 ?_
  refine lv_iload_n hx hb dX11_lays_12 rfl (lv_at hl 2 rfl) ?_
  obtain ⟨g14, h⟩ := h_g h
  refine r_ast C hP hS 27 (by decide) (fun _ => rfl) (vp_in_iff.mpr g14) dX11_lays_13 (fun H locs hP hS => ?_)
  obtain ⟨σ15, e16, h⟩ := bnd h
  have hP := hPn e16 hP
  refine lv_aload_n hx hb dX11_lays_14 rfl (lv_at hl 0 rfl) ?_
  refine gf_X11_7_26 C hP dX11_lays_15 ?_
  refine lv_bipush (v := 55) hx hb dX11_lays_18 (by decide) ?_
  refine lv_iconst (v := 4) hx hb dX11_lays_20 (by decide) ?_
  refine lv_iload_n hx hb dX11_lays_21 rfl (lv_at hl 1 rfl) ?_
  refine lv_imul hx hb dX11_lays_22 ?_
  refine lv_iadd hx hb dX11_lays_23 ?_
  refine lv_iconst (v := 2) hx hb dX11_lays_24 (by decide) ?_
  refine lv_iadd hx hb dX11_lays_25 ?_
  refine lv_iload_n hx hb dX11_lays_26 rfl (lv_at hl 3 rfl) ?_
  obtain ⟨g17, h⟩ := h_g h
  refine r_ast C hP hS 27 (by decide) (fun _ => rfl) (vp_in_iff.mpr g17) dX11_lays_27 (fun H locs hP hS => ?_)
  obtain ⟨σ18, e19, h⟩ := bnd h
  have hP := hPn e19 hP
  refine lv_aload_n hx hb dX11_lays_28 rfl (lv_at hl 0 rfl) ?_
  refine gf_X11_7_26 C hP dX11_lays_29 ?_
  refine lv_bipush (v := 55) hx hb dX11_lays_32 (by decide) ?_
  refine lv_iconst (v := 4) hx hb dX11_lays_34 (by decide) ?_
  refine lv_iload_n hx hb dX11_lays_35 rfl (lv_at hl 1 rfl) ?_
  refine lv_imul hx hb dX11_lays_36 ?_
  refine lv_iadd hx hb dX11_lays_37 ?_
  refine lv_iconst (v := 3) hx hb dX11_lays_38 (by decide) ?_
  refine lv_iadd hx hb dX11_lays_39 ?_
  refine lv_iload_n hx hb dX11_lays_40 rfl (lv_at hl 2 rfl) ?_
  refine lv_iconst (v := 2) hx hb dX11_lays_41 (by decide) ?_
  refine lv_icmp_ne (tgt := 50) hx hb dX11_lays_42 (by decide) (fun c20 => ?_) (fun c20 => ?_)
  · replace h := h_f c20 h
    refine lv_ldc hx hb C.2.2.2.1 (C.2.2.2.2.1 _ mw_1337) dX11_lays_50 ?_
    exact J52 _ _ _ H locs ls h hP hS (lv_sub hl [] rfl)
  · replace h := h_t c20 h
    refine lv_iload hx hb dX11_lays_45 (lv_at hl 4 rfl) ?_
    refine lv_goto (tgt := 52) hx hb dX11_lays_47 (by decide) ?_
    exact J52 _ _ _ H locs ls h hP hS (lv_sub hl [] rfl)
set_option maxHeartbeats 4000000 in
set_option maxRecDepth 100000 in
theorem c_X11_until {l : Launch} {G : GT} {lam : Lm} {σ : St} {a1 : Int32} {a2 : Int32} {a3 : Int32} {a4 : Int32} {q : Int32 × St} (h : f_X11_until σ a1 a2 a3 a4 = some q) : Met l yX11_until (Cond.code yX11_until cX11_until 6 ((some .int)) :: TB) ({ frames := 2, cells := 0, slots := 0, locals := 48 } : Room) (va_Pc [.ref (g_ad G 26), .int a1, .int a2, .int a3, .int a4] (GW G lam σ)) (Ri q G lam) 0 0 (g_A G) := by
  refine mk_Qi (own := RX11) (by decide) (Nat.le_of_ble_eq_true rfl) rfl (fun p e s m args below meth c C hr hlocks hP ls hl => ?_)
  have hx := C.1
  have hb := C.2.1
  have hl : lv_has ls 6 [(0, .ref (g_ad G 26)), (1, .int a1), (2, .int a2), (3, .int a3), (4, .int a4)] := hl
  have hS : va_S (g_A G) s.heap s.heap [] := va_S.rf
  unfold f_X11_until at h
  refine lv_aload_n hx hb dX11_until_0 rfl (lv_at hl 0 rfl) ?_
  refine lv_iload_n hx hb dX11_until_1 rfl (lv_at hl 1 rfl) ?_
  obtain ⟨q12, e13, h⟩ := bnd h
  refine call_i C hP hS (c_X11_isLeg e13) mi_X11_isLeg mw_1454 26 (by decide) rfl rfl ⟨Nat.le_of_ble_eq_true rfl, Nat.le_of_ble_eq_true rfl⟩ (As := [.int a1]) rfl hl.1 rfl (lv_room (Nat.le_of_ble_eq_true rfl)) dX11_until_2 (fun H locs hP hS => ?_)
  refine lv_if_eq (tgt := 18) hx hb dX11_until_5 (by decide) (fun c14 => ?_) (fun c14 => ?_)
  · replace h := h_t c14 h
    refine lv_ldc hx hb C.2.2.2.1 (C.2.2.2.2.1 _ mw_1323) dX11_until_18 ?_
    exact ret_i C hr hlocks hP hS h dX11_until_20
  · replace h := h_f c14 h
    refine lv_iload_n hx hb dX11_until_8 rfl (lv_at hl 2 rfl) ?_
    refine lv_iload_n hx hb dX11_until_9 rfl (lv_at hl 3 rfl) ?_
    refine lv_iload hx hb dX11_until_10 (lv_at hl 4 rfl) ?_
    obtain ⟨q15, e16, h⟩ := bnd h
    refine scall_i C hP hS (c_X11_isUntil e16) ms_X11_isUntil mw_1462 ⟨Nat.le_of_ble_eq_true rfl, Nat.le_of_ble_eq_true rfl⟩ (As := [.int a2, .int a3, .int a4]) rfl hl.1 rfl (lv_room (Nat.le_of_ble_eq_true rfl)) dX11_until_12 (fun H locs hP hS => ?_)
    refine lv_if_ne (tgt := 21) hx hb dX11_until_15 (by decide) (fun c17 => ?_) (fun c17 => ?_)
    · replace h := h_f c17 h
      refine lv_aload_n hx hb dX11_until_21 rfl (lv_at hl 0 rfl) ?_
      refine gf_X11_7_26 C hP dX11_until_22 ?_
      refine lv_bipush (v := 55) hx hb dX11_until_25 (by decide) ?_
      refine lv_iconst (v := 4) hx hb dX11_until_27 (by decide) ?_
      refine lv_iload_n hx hb dX11_until_28 rfl (lv_at hl 1 rfl) ?_
      refine lv_imul hx hb dX11_until_29 ?_
      refine lv_iadd hx hb dX11_until_30 ?_
      refine lv_iconst (v := 1) hx hb dX11_until_31 (by decide) ?_
      refine lv_iadd hx hb dX11_until_32 ?_
      obtain ⟨g18, h⟩ := h_g h
      refine r_ald C hP 27 (by decide) rfl (vp_in_iff.mpr g18) dX11_until_33 ?_
      obtain ⟨y19, e20, h⟩ := bnd h
      refine r_nm e20 ?_
      refine lv_istore (lv' := [(5, .int y19), (0, .ref (g_ad G 26)), (1, .int a1), (2, .int a2), (3, .int a3), (4, .int a4)]) hx hb dX11_until_34 hl (by decide) rfl (fun ls hl => ?_)
      refine lv_aload_n hx hb dX11_until_36 rfl (lv_at hl 1 rfl) ?_
      obtain ⟨q21, e22, h⟩ := bnd h
      refine call_v C hP hS (c_X11_minds e22) mi_X11_minds mw_1424 26 (by decide) rfl rfl ⟨Nat.le_of_ble_eq_true rfl, Nat.le_of_ble_eq_true rfl⟩ (As := []) rfl hl.1 rfl (lv_room (Nat.le_of_ble_eq_true rfl)) dX11_until_37 (fun H locs hP hS => ?_)
      refine lv_aload_n hx hb dX11_until_40 rfl (lv_at hl 1 rfl) ?_
      refine lv_iload_n hx hb dX11_until_41 rfl (lv_at hl 2 rfl) ?_
      refine lv_iload_n hx hb dX11_until_42 rfl (lv_at hl 3 rfl) ?_
      refine lv_iload_n hx hb dX11_until_43 rfl (lv_at hl 4 rfl) ?_
      refine lv_iload hx hb dX11_until_44 (lv_at hl 5 rfl) ?_
      obtain ⟨q23, e24, h⟩ := bnd h
      refine call_v C hP hS (c_X11_lays e24) mi_X11_lays mw_1466 26 (by decide) rfl rfl ⟨Nat.le_of_ble_eq_true rfl, Nat.le_of_ble_eq_true rfl⟩ (As := [.int a1, .int a2, .int a3, .int a4]) rfl hl.1 rfl (lv_room (Nat.le_of_ble_eq_true rfl)) dX11_until_46 (fun H locs hP hS => ?_)
      refine lv_iload hx hb dX11_until_49 (lv_at hl 0 rfl) ?_
      exact ret_i C hr hlocks hP hS h dX11_until_51
    · replace h := h_t c17 h
      refine lv_ldc hx hb C.2.2.2.1 (C.2.2.2.2.1 _ mw_1323) dX11_until_18 ?_
      exact ret_i C hr hlocks hP hS h dX11_until_20
set_option maxHeartbeats 4000000 in
set_option maxRecDepth 100000 in
theorem c_X11_add {l : Launch} {G : GT} {lam : Lm} {σ : St} {a1 : Int32} {a2 : Int32} {a3 : Int32} {a4 : Int32} {a5 : Int32} {q : Int32 × St} (h : f_X11_add σ a1 a2 a3 a4 a5 = some q) : Met l yX11_add (Cond.code yX11_add cX11_add 7 ((some .int)) :: TB) ({ frames := 2, cells := 0, slots := 0, locals := 48 } : Room) (va_Pc [.ref (g_ad G 26), .int a1, .int a2, .int a3, .int a4, .int a5] (GW G lam σ)) (Ri q G lam) 0 0 (g_A G) := by
  refine mk_Qi (own := RX11) (by decide) (Nat.le_of_ble_eq_true rfl) rfl (fun p e s m args below meth c C hr hlocks hP ls hl => ?_)
  have hx := C.1
  have hb := C.2.1
  have hl : lv_has ls 7 [(0, .ref (g_ad G 26)), (1, .int a1), (2, .int a2), (3, .int a3), (4, .int a4), (5, .int a5)] := hl
  have L85 : ∀ (n85 : Nat) (σ : St) (x1 : Int32) (x2 : Int32) (x3 : Int32) (x4 : Int32) (x5 : Int32) (x6 : Int32) (H : Heap) (locs : List Loc) (ls : Array Slot), fx (F_X11_add_h85) z_X11_add_h85 n85 σ x1 x2 x3 x4 x5 x6 = some q → va_P (g_D G) vwCl (allW G lam σ) H → va_S (g_A G) s.heap H locs → lv_has ls 7 [(0, .ref (g_ad G 26)), (1, .int x1), (2, .int x2), (3, .int x3), (4, .int x4), (5, .int x5), (6, .int x6)] → W p l e ({ frames := 2, cells := 0, slots := 0, locals := 48 } : Room) s m args below meth c H locs 0 0 (Qi q below args s G lam) (F0 m 85 ls []) := by
    intro n85
    induction n85 with
    | zero => intro σ x1 x2 x3 x4 x5 x6 H locs ls h hP hS hl; exact absurd h (by intro h9; cases h9)
    | succ n85 ih85 =>
      intro σ x1 x2 x3 x4 x5 x6 H locs ls h hP hS hl
      change F_X11_add_h85 (fx (F_X11_add_h85) z_X11_add_h85 n85) σ x1 x2 x3 x4 x5 x6 = some q at h
      unfold F_X11_add_h85 at h
      refine lv_iload hx hb dX11_add_85 (lv_at hl 6 rfl) ?_
      refine lv_iconst (v := 4) hx hb dX11_add_87 (by decide) ?_
      refine lv_iload_n hx hb dX11_add_88 rfl (lv_at hl 1 rfl) ?_
      refine lv_imul hx hb dX11_add_89 ?_
      refine lv_iconst (v := 4) hx hb dX11_add_90 (by decide) ?_
      refine lv_iadd hx hb dX11_add_91 ?_
      refine lv_icmp_lt (tgt := 123) hx hb dX11_add_92 (by decide) (fun c30 => ?_) (fun c30 => ?_)
      · replace h := h_t c30 h
        refine lv_aload_n hx hb dX11_add_123 rfl (lv_at hl 0 rfl) ?_
        refine gf_X11_7_26 C hP dX11_add_124 ?_
        refine lv_bipush (v := 55) hx hb dX11_add_127 (by decide) ?_
        refine lv_iconst (v := 4) hx hb dX11_add_129 (by decide) ?_
        refine lv_iload_n hx hb dX11_add_130 rfl (lv_at hl 1 rfl) ?_
        refine lv_imul hx hb dX11_add_131 ?_
        refine lv_iadd hx hb dX11_add_132 ?_
        refine lv_iload_n hx hb dX11_add_133 rfl (lv_at hl 2 rfl) ?_
        obtain ⟨g31, h⟩ := h_g h
        refine r_ast C hP hS 27 (by decide) (fun _ => rfl) (vp_in_iff.mpr g31) dX11_add_134 (fun H locs hP hS => ?_)
        obtain ⟨σ32, e33, h⟩ := bnd h
        have hP := hPn e33 hP
        refine lv_aload_n hx hb dX11_add_135 rfl (lv_at hl 0 rfl) ?_
        refine lv_iload_n hx hb dX11_add_136 rfl (lv_at hl 1 rfl) ?_
        refine lv_iload_n hx hb dX11_add_137 rfl (lv_at hl 3 rfl) ?_
        refine lv_iload hx hb dX11_add_138 (lv_at hl 4 rfl) ?_
        refine lv_iload hx hb dX11_add_140 (lv_at hl 5 rfl) ?_
        obtain ⟨q34, e35, h⟩ := bnd h
        refine call_v C hP hS (c_X11_lays e35) mi_X11_lays mw_1466 26 (by decide) rfl rfl ⟨Nat.le_of_ble_eq_true rfl, Nat.le_of_ble_eq_true rfl⟩ (As := [.int x1, .int x3, .int x4, .int x5]) rfl hl.1 rfl (lv_room (Nat.le_of_ble_eq_true rfl)) dX11_add_142 (fun H locs hP hS => ?_)
        refine lv_aload_n hx hb dX11_add_145 rfl (lv_at hl 0 rfl) ?_
        refine gf_X11_7_26 C hP dX11_add_146 ?_
        refine lv_bipush (v := 54) hx hb dX11_add_149 (by decide) ?_
        refine lv_dup2_11 hx hb dX11_add_151 rfl rfl ?_
        refine r_aldc C hP 27 (by decide) rfl (j := 54) (by decide) (vp_in_iff.mpr (by decide)) dX11_add_152 ?_
        refine lv_iconst (v := 1) hx hb dX11_add_153 (by decide) ?_
        refine lv_iadd hx hb dX11_add_154 ?_
        refine r_astc C hP hS 27 (by decide) (fun _ => rfl) (j := 54) (by decide) (vp_in_iff.mpr (by decide)) dX11_add_155 (fun H locs hP hS => ?_)
        obtain ⟨σ36, e37, h⟩ := bnd h
        have hP := hPn e37 hP
        refine lv_aload_n hx hb dX11_add_156 rfl (lv_at hl 0 rfl) ?_
        refine gf_X11_7_26 C hP dX11_add_157 ?_
        refine lv_bipush (v := 54) hx hb dX11_add_160 (by decide) ?_
        refine r_aldc C hP 27 (by decide) rfl (j := 54) (by decide) (vp_in_iff.mpr (by decide)) dX11_add_162 ?_
        exact ret_i C hr hlocks hP hS h dX11_add_163
      · replace h := h_f c30 h
        refine lv_aload_n hx hb dX11_add_95 rfl (lv_at hl 0 rfl) ?_
        refine gf_X11_7_26 C hP dX11_add_96 ?_
        refine lv_bipush (v := 55) hx hb dX11_add_99 (by decide) ?_
        refine lv_iload hx hb dX11_add_101 (lv_at hl 6 rfl) ?_
        refine lv_iadd hx hb dX11_add_103 ?_
        refine lv_aload_n hx hb dX11_add_104 rfl (lv_at hl 0 rfl) ?_
        refine gf_X11_7_26 C hP dX11_add_105 ?_
        refine lv_bipush (v := 55) hx hb dX11_add_108 (by decide) ?_
        refine lv_iload hx hb dX11_add_110 (lv_at hl 6 rfl) ?_
        refine lv_iadd hx hb dX11_add_112 ?_
        refine lv_iconst (v := 4) hx hb dX11_add_113 (by decide) ?_
        refine lv_isub hx hb dX11_add_114 ?_
        obtain ⟨g38, h⟩ := h_g h
        refine r_ald C hP 27 (by decide) rfl (vp_in_iff.mpr g38) dX11_add_115 ?_
        obtain ⟨g39, h⟩ := h_g h
        refine r_ast C hP hS 27 (by decide) (fun _ => rfl) (vp_in_iff.mpr g39) dX11_add_116 (fun H locs hP hS => ?_)
        obtain ⟨σ40, e41, h⟩ := bnd h
        have hP := hPn e41 hP
        obtain ⟨y42, e43, h⟩ := bnd h
        refine lv_iinc (v := y42) (lv' := [(6, .int y42), (0, .ref (g_ad G 26)), (1, .int x1), (2, .int x2), (3, .int x3), (4, .int x4), (5, .int x5)]) hx hb dX11_add_117 hl (k := 6) rfl (Option.some.inj e43) (by decide) rfl (fun ls hl => ?_)
        refine lv_goto (tgt := 85) hx hb dX11_add_120 (by decide) ?_
        exact ih85 _ _ _ _ _ _ _ H locs ls h hP hS (lv_sub hl [1, 2, 3, 4, 5, 6, 0] rfl)
  have hS : va_S (g_A G) s.heap s.heap [] := va_S.rf
  unfold f_X11_add at h
  obtain ⟨H, hH⟩ : ∃ H, H = s.heap := ⟨_, rfl⟩
  obtain ⟨locs, hlo⟩ : ∃ k : List Loc, k = [] := ⟨_, rfl⟩
  rw [← hH, ← hlo]
  rw [← hH] at hP
  replace hS : va_S (g_A G) s.heap H locs := by rw [hH, hlo]; exact hS
  refine lv_aload_n hx hb dX11_add_0 rfl (lv_at hl 0 rfl) ?_
  obtain ⟨q44, e45, h⟩ := bnd h
  refine call_i C hP hS (c_X11_isSheet e45) mi_X11_isSheet mw_1441 26 (by decide) rfl rfl ⟨Nat.le_of_ble_eq_true rfl, Nat.le_of_ble_eq_true rfl⟩ (As := []) rfl hl.1 rfl (lv_room (Nat.le_of_ble_eq_true rfl)) dX11_add_1 (fun H locs hP hS => ?_)
  refine lv_if_ne (tgt := 10) hx hb dX11_add_4 (by decide) (fun c46 => ?_) (fun c46 => ?_)
  · replace h := h_f c46 h
    refine lv_iload_n hx hb dX11_add_10 rfl (lv_at hl 1 rfl) ?_
    refine lv_i2l hx hb dX11_add_11 rfl ?_
    refine lv_lconst (v := 0) hx hb dX11_add_12 (by decide) ?_
    refine lv_aload_n hx hb dX11_add_13 rfl (lv_at hl 0 rfl) ?_
    refine gf_X11_7_26 C hP dX11_add_14 ?_
    refine lv_bipush (v := 54) hx hb dX11_add_17 (by decide) ?_
    refine r_aldc C hP 27 (by decide) rfl (j := 54) (by decide) (vp_in_iff.mpr (by decide)) dX11_add_19 ?_
    refine lv_i2l hx hb dX11_add_20 rfl ?_
    obtain ⟨q47, e48, h⟩ := bnd h
    refine scall_i C hP hS (c_X11_in e48) ms_X11_in mw_1320 ⟨Nat.le_of_ble_eq_true rfl, Nat.le_of_ble_eq_true rfl⟩ (As := [.long ((a1 : Int32).toInt64), .long (0), .long ((q44.2 27 54 : Int32).toInt64)]) rfl hl.1 rfl (lv_room (Nat.le_of_ble_eq_true rfl)) dX11_add_21 (fun H locs hP hS => ?_)
    refine lv_if_eq (tgt := 50) hx hb dX11_add_24 (by decide) (fun c49 => ?_) (fun c49 => ?_)
    · replace h := h_t c49 h
      refine lv_ldc hx hb C.2.2.2.1 (C.2.2.2.2.1 _ mw_1323) dX11_add_50 ?_
      exact ret_i C hr hlocks hP hS h dX11_add_52
    · replace h := h_f c49 h
      refine lv_iload_n hx hb dX11_add_27 rfl (lv_at hl 2 rfl) ?_
      refine lv_i2l hx hb dX11_add_28 rfl ?_
      refine lv_lconst (v := 0) hx hb dX11_add_29 (by decide) ?_
      refine lv_ldc2 hx hb C.2.2.2.1 (C.2.2.2.2.1 _ mw_1418) dX11_add_30 ?_
      obtain ⟨q50, e51, h⟩ := bnd h
      refine scall_i C hP hS (c_X11_in e51) ms_X11_in mw_1320 ⟨Nat.le_of_ble_eq_true rfl, Nat.le_of_ble_eq_true rfl⟩ (As := [.long ((a2 : Int32).toInt64), .long (0), .long (15)]) rfl hl.1 rfl (lv_room (Nat.le_of_ble_eq_true rfl)) dX11_add_33 (fun H locs hP hS => ?_)
      refine lv_if_eq (tgt := 50) hx hb dX11_add_36 (by decide) (fun c52 => ?_) (fun c52 => ?_)
      · replace h := h_t c52 h
        refine lv_ldc hx hb C.2.2.2.1 (C.2.2.2.2.1 _ mw_1323) dX11_add_50 ?_
        exact ret_i C hr hlocks hP hS h dX11_add_52
      · replace h := h_f c52 h
        refine lv_iload_n hx hb dX11_add_39 rfl (lv_at hl 3 rfl) ?_
        refine lv_iload hx hb dX11_add_40 (lv_at hl 4 rfl) ?_
        refine lv_iload hx hb dX11_add_42 (lv_at hl 5 rfl) ?_
        obtain ⟨q53, e54, h⟩ := bnd h
        refine scall_i C hP hS (c_X11_isUntil e54) ms_X11_isUntil mw_1462 ⟨Nat.le_of_ble_eq_true rfl, Nat.le_of_ble_eq_true rfl⟩ (As := [.int a3, .int a4, .int a5]) rfl hl.1 rfl (lv_room (Nat.le_of_ble_eq_true rfl)) dX11_add_44 (fun H locs hP hS => ?_)
        refine lv_if_ne (tgt := 53) hx hb dX11_add_47 (by decide) (fun c55 => ?_) (fun c55 => ?_)
        · replace h := h_f c55 h
          refine lv_aload_n hx hb dX11_add_53 rfl (lv_at hl 0 rfl) ?_
          refine gf_X11_7_26 C hP dX11_add_54 ?_
          refine lv_bipush (v := 54) hx hb dX11_add_57 (by decide) ?_
          refine r_aldc C hP 27 (by decide) rfl (j := 54) (by decide) (vp_in_iff.mpr (by decide)) dX11_add_59 ?_
          refine lv_bipush (v := 6) hx hb dX11_add_60 (by decide) ?_
          refine lv_icmp_ne (tgt := 68) hx hb dX11_add_62 (by decide) (fun c56 => ?_) (fun c56 => ?_)
          · replace h := h_f c56 h
            refine lv_aload_n hx hb dX11_add_68 rfl (lv_at hl 0 rfl) ?_
            obtain ⟨q57, e58, h⟩ := bnd h
            refine call_v C hP hS (c_X11_minds e58) mi_X11_minds mw_1424 26 (by decide) rfl rfl ⟨Nat.le_of_ble_eq_true rfl, Nat.le_of_ble_eq_true rfl⟩ (As := []) rfl hl.1 rfl (lv_room (Nat.le_of_ble_eq_true rfl)) dX11_add_69 (fun H locs hP hS => ?_)
            refine lv_iconst (v := 4) hx hb dX11_add_72 (by decide) ?_
            refine lv_aload_n hx hb dX11_add_73 rfl (lv_at hl 0 rfl) ?_
            refine gf_X11_7_26 C hP dX11_add_74 ?_
            refine lv_bipush (v := 54) hx hb dX11_add_77 (by decide) ?_
            refine r_aldc C hP 27 (by decide) rfl (j := 54) (by decide) (vp_in_iff.mpr (by decide)) dX11_add_79 ?_
            refine lv_imul hx hb dX11_add_80 ?_
            refine lv_iconst (v := 3) hx hb dX11_add_81 (by decide) ?_
            refine lv_iadd hx hb dX11_add_82 ?_
            obtain ⟨y59, e60, h⟩ := bnd h
            refine r_nm e60 ?_
            refine lv_istore (lv' := [(6, .int y59), (0, .ref (g_ad G 26)), (1, .int a1), (2, .int a2), (3, .int a3), (4, .int a4), (5, .int a5)]) hx hb dX11_add_83 hl (by decide) rfl (fun ls hl => ?_)
            exact L85 FU _ _ _ _ _ _ _ H locs ls h hP hS (lv_sub hl [1, 2, 3, 4, 5, 6, 0] rfl)
          · replace h := h_t c56 h
            refine lv_ldc hx hb C.2.2.2.1 (C.2.2.2.2.1 _ mw_1324) dX11_add_65 ?_
            exact ret_i C hr hlocks hP hS h dX11_add_67
        · replace h := h_t c55 h
          refine lv_ldc hx hb C.2.2.2.1 (C.2.2.2.2.1 _ mw_1323) dX11_add_50 ?_
          exact ret_i C hr hlocks hP hS h dX11_add_52
  · replace h := h_t c46 h
    refine lv_ldc hx hb C.2.2.2.1 (C.2.2.2.2.1 _ mw_1403) dX11_add_7 ?_
    exact ret_i C hr hlocks hP hS h dX11_add_9
set_option maxHeartbeats 4000000 in
set_option maxRecDepth 100000 in
theorem c_X11_cut {l : Launch} {G : GT} {lam : Lm} {σ : St} {a1 : Int32} {q : Int32 × St} (h : f_X11_cut σ a1 = some q) : Met l yX11_cut (Cond.code yX11_cut cX11_cut 3 ((some .int)) :: TB) ({ frames := 2, cells := 0, slots := 0, locals := 46 } : Room) (va_Pc [.ref (g_ad G 26), .int a1] (GW G lam σ)) (Ri q G lam) 0 0 (g_A G) := by
  refine mk_Qi (own := RX11) (by decide) (Nat.le_of_ble_eq_true rfl) rfl (fun p e s m args below meth c C hr hlocks hP ls hl => ?_)
  have hx := C.1
  have hb := C.2.1
  have hl : lv_has ls 3 [(0, .ref (g_ad G 26)), (1, .int a1)] := hl
  have L44 : ∀ (n44 : Nat) (σ : St) (x2 : Int32) (H : Heap) (locs : List Loc) (ls : Array Slot), fx (F_X11_cut_h44) z_X11_cut_h44 n44 σ x2 = some q → va_P (g_D G) vwCl (allW G lam σ) H → va_S (g_A G) s.heap H locs → lv_has ls 3 [(0, .ref (g_ad G 26)), (2, .int x2)] → W p l e ({ frames := 2, cells := 0, slots := 0, locals := 46 } : Room) s m args below meth c H locs 0 0 (Qi q below args s G lam) (F0 m 44 ls []) := by
    intro n44
    induction n44 with
    | zero => intro σ x2 H locs ls h hP hS hl; exact absurd h (by intro h9; cases h9)
    | succ n44 ih44 =>
      intro σ x2 H locs ls h hP hS hl
      change F_X11_cut_h44 (fx (F_X11_cut_h44) z_X11_cut_h44 n44) σ x2 = some q at h
      unfold F_X11_cut_h44 at h
      refine lv_iload_n hx hb dX11_cut_44 rfl (lv_at hl 1 rfl) ?_
      refine lv_iconst (v := 4) hx hb dX11_cut_45 (by decide) ?_
      refine lv_aload_n hx hb dX11_cut_46 rfl (lv_at hl 0 rfl) ?_
      refine gf_X11_7_26 C hP dX11_cut_47 ?_
      refine lv_bipush (v := 54) hx hb dX11_cut_50 (by decide) ?_
      refine r_aldc C hP 27 (by decide) rfl (j := 54) (by decide) (vp_in_iff.mpr (by decide)) dX11_cut_52 ?_
      refine lv_imul hx hb dX11_cut_53 ?_
      refine lv_icmp_ge (tgt := 83) hx hb dX11_cut_54 (by decide) (fun c16 => ?_) (fun c16 => ?_)
      · replace h := h_t c16 h
        refine lv_aload_n hx hb dX11_cut_83 rfl (lv_at hl 0 rfl) ?_
        refine gf_X11_7_26 C hP dX11_cut_84 ?_
        refine lv_bipush (v := 54) hx hb dX11_cut_87 (by decide) ?_
        refine r_aldc C hP 27 (by decide) rfl (j := 54) (by decide) (vp_in_iff.mpr (by decide)) dX11_cut_89 ?_
        exact ret_i C hr hlocks hP hS h dX11_cut_90
      · replace h := h_f c16 h
        refine lv_aload_n hx hb dX11_cut_57 rfl (lv_at hl 0 rfl) ?_
        refine gf_X11_7_26 C hP dX11_cut_58 ?_
        refine lv_bipush (v := 55) hx hb dX11_cut_61 (by decide) ?_
        refine lv_iload_n hx hb dX11_cut_63 rfl (lv_at hl 1 rfl) ?_
        refine lv_iadd hx hb dX11_cut_64 ?_
        refine lv_aload_n hx hb dX11_cut_65 rfl (lv_at hl 0 rfl) ?_
        refine gf_X11_7_26 C hP dX11_cut_66 ?_
        refine lv_bipush (v := 55) hx hb dX11_cut_69 (by decide) ?_
        refine lv_iload_n hx hb dX11_cut_71 rfl (lv_at hl 1 rfl) ?_
        refine lv_iadd hx hb dX11_cut_72 ?_
        refine lv_iconst (v := 4) hx hb dX11_cut_73 (by decide) ?_
        refine lv_iadd hx hb dX11_cut_74 ?_
        obtain ⟨g17, h⟩ := h_g h
        refine r_ald C hP 27 (by decide) rfl (vp_in_iff.mpr g17) dX11_cut_75 ?_
        obtain ⟨g18, h⟩ := h_g h
        refine r_ast C hP hS 27 (by decide) (fun _ => rfl) (vp_in_iff.mpr g18) dX11_cut_76 (fun H locs hP hS => ?_)
        obtain ⟨σ19, e20, h⟩ := bnd h
        have hP := hPn e20 hP
        obtain ⟨y21, e22, h⟩ := bnd h
        refine lv_iinc (v := y21) (lv' := [(2, .int y21), (0, .ref (g_ad G 26))]) hx hb dX11_cut_77 hl (k := 1) rfl (Option.some.inj e22) (by decide) rfl (fun ls hl => ?_)
        refine lv_goto (tgt := 44) hx hb dX11_cut_80 (by decide) ?_
        exact ih44 _ _ H locs ls h hP hS (lv_sub hl [1, 0] rfl)
  have hS : va_S (g_A G) s.heap s.heap [] := va_S.rf
  unfold f_X11_cut at h
  obtain ⟨H, hH⟩ : ∃ H, H = s.heap := ⟨_, rfl⟩
  obtain ⟨locs, hlo⟩ : ∃ k : List Loc, k = [] := ⟨_, rfl⟩
  rw [← hH, ← hlo]
  rw [← hH] at hP
  replace hS : va_S (g_A G) s.heap H locs := by rw [hH, hlo]; exact hS
  refine lv_aload_n hx hb dX11_cut_0 rfl (lv_at hl 0 rfl) ?_
  refine lv_iload_n hx hb dX11_cut_1 rfl (lv_at hl 1 rfl) ?_
  obtain ⟨q23, e24, h⟩ := bnd h
  refine call_i C hP hS (c_X11_isLeg e24) mi_X11_isLeg mw_1454 26 (by decide) rfl rfl ⟨Nat.le_of_ble_eq_true rfl, Nat.le_of_ble_eq_true rfl⟩ (As := [.int a1]) rfl hl.1 rfl (lv_room (Nat.le_of_ble_eq_true rfl)) dX11_cut_2 (fun H locs hP hS => ?_)
  refine lv_if_ne (tgt := 11) hx hb dX11_cut_5 (by decide) (fun c25 => ?_) (fun c25 => ?_)
  · replace h := h_f c25 h
    refine lv_aload_n hx hb dX11_cut_11 rfl (lv_at hl 0 rfl) ?_
    refine gf_X11_7_26 C hP dX11_cut_12 ?_
    refine lv_bipush (v := 54) hx hb dX11_cut_15 (by decide) ?_
    refine r_aldc C hP 27 (by decide) rfl (j := 54) (by decide) (vp_in_iff.mpr (by decide)) dX11_cut_17 ?_
    refine lv_iconst (v := 1) hx hb dX11_cut_18 (by decide) ?_
    refine lv_icmp_ne (tgt := 25) hx hb dX11_cut_19 (by decide) (fun c26 => ?_) (fun c26 => ?_)
    · replace h := h_f c26 h
      refine lv_aload_n hx hb dX11_cut_25 rfl (lv_at hl 0 rfl) ?_
      obtain ⟨q27, e28, h⟩ := bnd h
      refine call_v C hP hS (c_X11_minds e28) mi_X11_minds mw_1424 26 (by decide) rfl rfl ⟨Nat.le_of_ble_eq_true rfl, Nat.le_of_ble_eq_true rfl⟩ (As := []) rfl hl.1 rfl (lv_room (Nat.le_of_ble_eq_true rfl)) dX11_cut_26 (fun H locs hP hS => ?_)
      refine lv_aload_n hx hb dX11_cut_29 rfl (lv_at hl 0 rfl) ?_
      refine gf_X11_7_26 C hP dX11_cut_30 ?_
      refine lv_bipush (v := 54) hx hb dX11_cut_33 (by decide) ?_
      refine lv_dup2_11 hx hb dX11_cut_35 rfl rfl ?_
      refine r_aldc C hP 27 (by decide) rfl (j := 54) (by decide) (vp_in_iff.mpr (by decide)) dX11_cut_36 ?_
      refine lv_iconst (v := 1) hx hb dX11_cut_37 (by decide) ?_
      refine lv_isub hx hb dX11_cut_38 ?_
      refine r_astc C hP hS 27 (by decide) (fun _ => rfl) (j := 54) (by decide) (vp_in_iff.mpr (by decide)) dX11_cut_39 (fun H locs hP hS => ?_)
      obtain ⟨σ29, e30, h⟩ := bnd h
      have hP := hPn e30 hP
      refine lv_iconst (v := 4) hx hb dX11_cut_40 (by decide) ?_
      refine lv_iload_n hx hb dX11_cut_41 rfl (lv_at hl 1 rfl) ?_
      refine lv_imul hx hb dX11_cut_42 ?_
      obtain ⟨y31, e32, h⟩ := bnd h
      refine r_nm e32 ?_
      refine lv_istore_n (lv' := [(2, .int y31), (0, .ref (g_ad G 26)), (1, .int a1)]) hx hb dX11_cut_43 rfl hl (by decide) rfl (fun ls hl => ?_)
      exact L44 FU _ _ H locs ls h hP hS (lv_sub hl [1, 0] rfl)
    · replace h := h_t c26 h
      refine lv_ldc hx hb C.2.2.2.1 (C.2.2.2.2.1 _ mw_1403) dX11_cut_22 ?_
      exact ret_i C hr hlocks hP hS h dX11_cut_24
  · replace h := h_t c25 h
    refine lv_ldc hx hb C.2.2.2.1 (C.2.2.2.2.1 _ mw_1323) dX11_cut_8 ?_
    exact ret_i C hr hlocks hP hS h dX11_cut_10
set_option maxHeartbeats 4000000 in
set_option maxRecDepth 100000 in
theorem c_X11_thing {l : Launch} {G : GT} {lam : Lm} {σ : St} {a1 : Int32} {a2 : Int32} {q : Int32 × St} (h : f_X11_thing σ a1 a2 = some q) : Met l yX11_thing (Cond.code yX11_thing cX11_thing 3 ((some .int)) :: TB) ({ frames := 2, cells := 0, slots := 0, locals := 46 } : Room) (va_Pc [.ref (g_ad G 26), .int a1, .int a2] (GW G lam σ)) (Ri q G lam) 0 0 (g_A G) := by
  refine mk_Qi (own := RX11) (by decide) (Nat.le_of_ble_eq_true rfl) rfl (fun p e s m args below meth c C hr hlocks hP ls hl => ?_)
  have hx := C.1
  have hb := C.2.1
  have hl : lv_has ls 3 [(0, .ref (g_ad G 26)), (1, .int a1), (2, .int a2)] := hl
  have hS : va_S (g_A G) s.heap s.heap [] := va_S.rf
  unfold f_X11_thing at h
  refine lv_aload_n hx hb dX11_thing_0 rfl (lv_at hl 0 rfl) ?_
  refine lv_iload_n hx hb dX11_thing_1 rfl (lv_at hl 1 rfl) ?_
  obtain ⟨q9, e10, h⟩ := bnd h
  refine call_i C hP hS (c_X11_isThing e10) mi_X11_isThing mw_1412 26 (by decide) rfl rfl ⟨Nat.le_of_ble_eq_true rfl, Nat.le_of_ble_eq_true rfl⟩ (As := [.int a1]) rfl hl.1 rfl (lv_room (Nat.le_of_ble_eq_true rfl)) dX11_thing_2 (fun H locs hP hS => ?_)
  refine lv_if_eq (tgt := 20) hx hb dX11_thing_5 (by decide) (fun c11 => ?_) (fun c11 => ?_)
  · replace h := h_t c11 h
    refine lv_ldc hx hb C.2.2.2.1 (C.2.2.2.2.1 _ mw_1323) dX11_thing_20 ?_
    refine lv_goto (tgt := 31) hx hb dX11_thing_22 (by decide) ?_
    exact ret_i C hr hlocks hP hS h dX11_thing_31
  · replace h := h_f c11 h
    refine lv_iload_n hx hb dX11_thing_8 rfl (lv_at hl 2 rfl) ?_
    refine lv_i2l hx hb dX11_thing_9 rfl ?_
    refine lv_lconst (v := 0) hx hb dX11_thing_10 (by decide) ?_
    refine lv_ldc2 hx hb C.2.2.2.1 (C.2.2.2.2.1 _ mw_1445) dX11_thing_11 ?_
    obtain ⟨q12, e13, h⟩ := bnd h
    refine scall_i C hP hS (c_X11_in e13) ms_X11_in mw_1320 ⟨Nat.le_of_ble_eq_true rfl, Nat.le_of_ble_eq_true rfl⟩ (As := [.long ((a2 : Int32).toInt64), .long (0), .long (4)]) rfl hl.1 rfl (lv_room (Nat.le_of_ble_eq_true rfl)) dX11_thing_14 (fun H locs hP hS => ?_)
    refine lv_if_ne (tgt := 25) hx hb dX11_thing_17 (by decide) (fun c14 => ?_) (fun c14 => ?_)
    · replace h := h_f c14 h
      refine lv_aload_n hx hb dX11_thing_25 rfl (lv_at hl 0 rfl) ?_
      refine lv_iload_n hx hb dX11_thing_26 rfl (lv_at hl 1 rfl) ?_
      refine lv_iload_n hx hb dX11_thing_27 rfl (lv_at hl 2 rfl) ?_
      obtain ⟨q15, e16, h⟩ := bnd h
      refine call_i C hP hS (c_X11_of e16) mi_X11_of mw_1433 26 (by decide) rfl rfl ⟨Nat.le_of_ble_eq_true rfl, Nat.le_of_ble_eq_true rfl⟩ (As := [.int a1, .int a2]) rfl hl.1 rfl (lv_room (Nat.le_of_ble_eq_true rfl)) dX11_thing_28 (fun H locs hP hS => ?_)
      exact ret_i C hr hlocks hP hS h dX11_thing_31
    · replace h := h_t c14 h
      refine lv_ldc hx hb C.2.2.2.1 (C.2.2.2.2.1 _ mw_1323) dX11_thing_20 ?_
      refine lv_goto (tgt := 31) hx hb dX11_thing_22 (by decide) ?_
      exact ret_i C hr hlocks hP hS h dX11_thing_31
set_option maxHeartbeats 4000000 in
set_option maxRecDepth 100000 in
theorem c_X11_leg {l : Launch} {G : GT} {lam : Lm} {σ : St} {a1 : Int32} {a2 : Int32} {q : Int32 × St} (h : f_X11_leg σ a1 a2 = some q) : Met l yX11_leg (Cond.code yX11_leg cX11_leg 3 ((some .int)) :: TB) ({ frames := 2, cells := 0, slots := 0, locals := 46 } : Room) (va_Pc [.ref (g_ad G 26), .int a1, .int a2] (GW G lam σ)) (Ri q G lam) 0 0 (g_A G) := by
  refine mk_Qi (own := RX11) (by decide) (Nat.le_of_ble_eq_true rfl) rfl (fun p e s m args below meth c C hr hlocks hP ls hl => ?_)
  have hx := C.1
  have hb := C.2.1
  have hl : lv_has ls 3 [(0, .ref (g_ad G 26)), (1, .int a1), (2, .int a2)] := hl
  have hS : va_S (g_A G) s.heap s.heap [] := va_S.rf
  unfold f_X11_leg at h
  refine lv_aload_n hx hb dX11_leg_0 rfl (lv_at hl 0 rfl) ?_
  refine lv_iload_n hx hb dX11_leg_1 rfl (lv_at hl 1 rfl) ?_
  obtain ⟨q8, e9, h⟩ := bnd h
  refine call_i C hP hS (c_X11_isLeg e9) mi_X11_isLeg mw_1454 26 (by decide) rfl rfl ⟨Nat.le_of_ble_eq_true rfl, Nat.le_of_ble_eq_true rfl⟩ (As := [.int a1]) rfl hl.1 rfl (lv_room (Nat.le_of_ble_eq_true rfl)) dX11_leg_2 (fun H locs hP hS => ?_)
  refine lv_if_eq (tgt := 20) hx hb dX11_leg_5 (by decide) (fun c10 => ?_) (fun c10 => ?_)
  · replace h := h_t c10 h
    refine lv_ldc hx hb C.2.2.2.1 (C.2.2.2.2.1 _ mw_1323) dX11_leg_20 ?_
    refine lv_goto (tgt := 38) hx hb dX11_leg_22 (by decide) ?_
    exact ret_i C hr hlocks hP hS h dX11_leg_38
  · replace h := h_f c10 h
    refine lv_iload_n hx hb dX11_leg_8 rfl (lv_at hl 2 rfl) ?_
    refine lv_i2l hx hb dX11_leg_9 rfl ?_
    refine lv_lconst (v := 0) hx hb dX11_leg_10 (by decide) ?_
    refine lv_ldc2 hx hb C.2.2.2.1 (C.2.2.2.2.1 _ mw_1416) dX11_leg_11 ?_
    obtain ⟨q11, e12, h⟩ := bnd h
    refine scall_i C hP hS (c_X11_in e12) ms_X11_in mw_1320 ⟨Nat.le_of_ble_eq_true rfl, Nat.le_of_ble_eq_true rfl⟩ (As := [.long ((a2 : Int32).toInt64), .long (0), .long (3)]) rfl hl.1 rfl (lv_room (Nat.le_of_ble_eq_true rfl)) dX11_leg_14 (fun H locs hP hS => ?_)
    refine lv_if_ne (tgt := 25) hx hb dX11_leg_17 (by decide) (fun c13 => ?_) (fun c13 => ?_)
    · replace h := h_f c13 h
      refine lv_aload_n hx hb dX11_leg_25 rfl (lv_at hl 0 rfl) ?_
      refine gf_X11_7_26 C hP dX11_leg_26 ?_
      refine lv_bipush (v := 55) hx hb dX11_leg_29 (by decide) ?_
      refine lv_iconst (v := 4) hx hb dX11_leg_31 (by decide) ?_
      refine lv_iload_n hx hb dX11_leg_32 rfl (lv_at hl 1 rfl) ?_
      refine lv_imul hx hb dX11_leg_33 ?_
      refine lv_iadd hx hb dX11_leg_34 ?_
      refine lv_iload_n hx hb dX11_leg_35 rfl (lv_at hl 2 rfl) ?_
      refine lv_iadd hx hb dX11_leg_36 ?_
      obtain ⟨g14, h⟩ := h_g h
      refine r_ald C hP 27 (by decide) rfl (vp_in_iff.mpr g14) dX11_leg_37 ?_
      exact ret_i C hr hlocks hP hS h dX11_leg_38
    · replace h := h_t c13 h
      refine lv_ldc hx hb C.2.2.2.1 (C.2.2.2.2.1 _ mw_1323) dX11_leg_20 ?_
      refine lv_goto (tgt := 38) hx hb dX11_leg_22 (by decide) ?_
      exact ret_i C hr hlocks hP hS h dX11_leg_38
set_option maxHeartbeats 4000000 in
set_option maxRecDepth 100000 in
theorem c_X11_tideAt {l : Launch} {G : GT} {lam : Lm} {σ : St} {a1 : Int32} {q : Int32 × St} (h : f_X11_tideAt σ a1 = some q) : Met l yX11_tideAt (Cond.code yX11_tideAt cX11_tideAt 5 ((some .int)) :: TB) ({ frames := 0, cells := 0, slots := 0, locals := 0 } : Room) (va_Pc [.ref (g_ad G 26), .int a1] (GW G lam σ)) (Ri q G lam) 0 0 (g_A G) := by
  refine mk_Qi (own := RX11) (by decide) (Nat.le_of_ble_eq_true rfl) rfl (fun p e s m args below meth c C hr hlocks hP ls hl => ?_)
  have hx := C.1
  have hb := C.2.1
  have hl : lv_has ls 5 [(0, .ref (g_ad G 26)), (1, .int a1)] := hl
  have hS : va_S (g_A G) s.heap s.heap [] := va_S.rf
  unfold f_X11_tideAt at h
  refine lv_aload_n hx hb dX11_tideAt_0 rfl (lv_at hl 0 rfl) ?_
  refine gf_X11_7_26 C hP dX11_tideAt_1 ?_
  refine lv_bipush (v := 6) hx hb dX11_tideAt_4 (by decide) ?_
  refine r_aldc C hP 27 (by decide) rfl (j := 6) (by decide) (vp_in_iff.mpr (by decide)) dX11_tideAt_6 ?_
  obtain ⟨y5, e6, h⟩ := bnd h
  refine r_nm e6 ?_
  refine lv_istore_n (lv' := [(2, .int y5), (0, .ref (g_ad G 26)), (1, .int a1)]) hx hb dX11_tideAt_7 rfl hl (by decide) rfl (fun ls hl => ?_)
  refine lv_aload_n hx hb dX11_tideAt_8 rfl (lv_at hl 1 rfl) ?_
  refine gf_X11_7_26 C hP dX11_tideAt_9 ?_
  refine lv_bipush (v := 7) hx hb dX11_tideAt_12 (by decide) ?_
  refine lv_iload_n hx hb dX11_tideAt_14 rfl (lv_at hl 2 rfl) ?_
  refine lv_bipush (v := 10) hx hb dX11_tideAt_15 (by decide) ?_
  refine lv_idiv hx hb dX11_tideAt_17 (by decide) ?_
  refine lv_iload_n hx hb dX11_tideAt_18 rfl (lv_at hl 0 rfl) ?_
  obtain ⟨g7, h⟩ := h_nz h
  refine lv_irem hx hb dX11_tideAt_19 g7 ?_
  refine lv_iadd hx hb dX11_tideAt_20 ?_
  obtain ⟨g8, h⟩ := h_g h
  refine r_ald C hP 27 (by decide) rfl (vp_in_iff.mpr g8) dX11_tideAt_21 ?_
  obtain ⟨y9, e10, h⟩ := bnd h
  refine r_nm e10 ?_
  refine lv_istore_n (lv' := [(3, .int y9), (2, .int y5), (0, .ref (g_ad G 26)), (1, .int a1)]) hx hb dX11_tideAt_22 rfl hl (by decide) rfl (fun ls hl => ?_)
  refine lv_aload_n hx hb dX11_tideAt_23 rfl (lv_at hl 2 rfl) ?_
  refine gf_X11_7_26 C hP dX11_tideAt_24 ?_
  refine lv_bipush (v := 7) hx hb dX11_tideAt_27 (by decide) ?_
  refine lv_iload_n hx hb dX11_tideAt_29 rfl (lv_at hl 3 rfl) ?_
  refine lv_bipush (v := 10) hx hb dX11_tideAt_30 (by decide) ?_
  refine lv_idiv hx hb dX11_tideAt_32 (by decide) ?_
  refine lv_iconst (v := 1) hx hb dX11_tideAt_33 (by decide) ?_
  refine lv_iadd hx hb dX11_tideAt_34 ?_
  refine lv_iload_n hx hb dX11_tideAt_35 rfl (lv_at hl 1 rfl) ?_
  obtain ⟨g11, h⟩ := h_nz h
  refine lv_irem hx hb dX11_tideAt_36 g11 ?_
  refine lv_iadd hx hb dX11_tideAt_37 ?_
  obtain ⟨g12, h⟩ := h_g h
  refine r_ald C hP 27 (by decide) rfl (vp_in_iff.mpr g12) dX11_tideAt_38 ?_
  obtain ⟨y13, e14, h⟩ := bnd h
  refine r_nm e14 ?_
  refine lv_istore (lv' := [(4, .int y13), (3, .int y9), (2, .int y5), (0, .ref (g_ad G 26)), (1, .int a1)]) hx hb dX11_tideAt_39 hl (by decide) rfl (fun ls hl => ?_)
  refine lv_iload_n hx hb dX11_tideAt_41 rfl (lv_at hl 1 rfl) ?_
  refine lv_iload hx hb dX11_tideAt_42 (lv_at hl 0 rfl) ?_
  refine lv_iload_n hx hb dX11_tideAt_44 rfl (lv_at hl 1 rfl) ?_
  refine lv_isub hx hb dX11_tideAt_45 ?_
  refine lv_iload_n hx hb dX11_tideAt_46 rfl (lv_at hl 4 rfl) ?_
  refine lv_bipush (v := 10) hx hb dX11_tideAt_47 (by decide) ?_
  refine lv_irem hx hb dX11_tideAt_49 (by decide) ?_
  refine lv_imul hx hb dX11_tideAt_50 ?_
  refine lv_bipush (v := 10) hx hb dX11_tideAt_51 (by decide) ?_
  refine lv_idiv hx hb dX11_tideAt_53 (by decide) ?_
  refine lv_iadd hx hb dX11_tideAt_54 ?_
  exact ret_i C hr hlocks hP hS h dX11_tideAt_55
