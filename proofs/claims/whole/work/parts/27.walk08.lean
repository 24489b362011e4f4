set_option maxHeartbeats 4000000 in
set_option maxRecDepth 100000 in
theorem c_X11_readsUntil {l : Launch} {G : GT} {lam : Lm} {σ : St} {a1 : Int32} {q : St} (h : f_X11_readsUntil σ a1 = some q) : Met l yX11_readsUntil (Cond.code yX11_readsUntil cX11_readsUntil 3 none :: TB) ({ frames := 4, cells := 0, slots := 0, locals := 90 } : Room) (va_Pc [.ref (g_ad G 26), .int a1] (GW G lam σ)) (Rv q G lam) 0 0 (g_A G) := by
  refine mk_Qv (own := RX11) (by decide) (Nat.le_of_ble_eq_true rfl) rfl (fun p e s m args below meth c C hr hlocks hP ls hl => ?_)
  have hx := C.1
  have hb := C.2.1
  have hl : lv_has ls 3 [(0, .ref (g_ad G 26)), (1, .int a1)] := hl
  have J96 : ∀ (σ : St) (x1 : Int32) (x2 : Int32) (t0 : Int32) (t1 : Int32) (t2 : Int32) (H : Heap) (locs : List Loc) (ls : Array Slot), f_X11_readsUntil_p96 σ x1 x2 t0 t1 t2 = some q → va_P (g_D G) vwCl (allW G lam σ) H → va_S (g_A G) s.heap H locs → lv_has ls 3 [(0, .ref (g_ad G 26)), (1, .int x1), (2, .int x2)] → W p l e ({ frames := 4, cells := 0, slots := 0, locals := 90 } : Room) s m args below meth c H locs 0 0 (Qv q below args s G lam) (F0 m 96 ls [.int t0, .int t1, .int t2, .ref (g_ad G 26)]) := by
    intro σ x1 x2 t0 t1 t2 H locs ls h hP hS hl
    unfold f_X11_readsUntil_p96 at h
    obtain ⟨q32, e33, h⟩ := bnd h
    refine call_v C hP hS (c_X11_number e33) mi_X11_number mw_1361 26 (by decide) rfl rfl ⟨Nat.le_of_ble_eq_true rfl, Nat.le_of_ble_eq_true rfl⟩ (As := [.int t2, .int t1, .int t0]) rfl hl.1 rfl (lv_room (Nat.le_of_ble_eq_true rfl)) dX11_readsUntil_96 (fun H locs hP hS => ?_)
    refine lv_iload_n hx hb dX11_readsUntil_99 rfl (lv_at hl 2 rfl) ?_
    refine lv_iconst (v := 2) hx hb dX11_readsUntil_100 (by decide) ?_
    refine lv_icmp_ne (tgt := 120) hx hb dX11_readsUntil_101 (by decide) (fun c34 => ?_) (fun c34 => ?_)
    · replace h := h_f c34 h
      exact ret_v C hr hlocks hP hS h dX11_readsUntil_120
    · replace h := h_t c34 h
      refine lv_aload_n hx hb dX11_readsUntil_104 rfl (lv_at hl 0 rfl) ?_
      refine lv_bipush (v := 44) hx hb dX11_readsUntil_105 (by decide) ?_
      obtain ⟨q35, e36, h⟩ := bnd h
      refine call_v C hP hS (c_X11_reads e36) mi_X11_reads mw_1349 26 (by decide) rfl rfl ⟨Nat.le_of_ble_eq_true rfl, Nat.le_of_ble_eq_true rfl⟩ (As := [.int 44]) rfl hl.1 rfl (lv_room (Nat.le_of_ble_eq_true rfl)) dX11_readsUntil_107 (fun H locs hP hS => ?_)
      refine lv_aload_n hx hb dX11_readsUntil_110 rfl (lv_at hl 0 rfl) ?_
      refine lv_iload_n hx hb dX11_readsUntil_111 rfl (lv_at hl 1 rfl) ?_
      refine lv_iconst (v := 3) hx hb dX11_readsUntil_112 (by decide) ?_
      refine lv_iadd hx hb dX11_readsUntil_113 ?_
      refine lv_iconst (v := 0) hx hb dX11_readsUntil_114 (by decide) ?_
      refine lv_bipush (v := 7) hx hb dX11_readsUntil_115 (by decide) ?_
      obtain ⟨q37, e38, h⟩ := bnd h
      refine call_v C hP hS (c_X11_number e38) mi_X11_number mw_1361 26 (by decide) rfl rfl ⟨Nat.le_of_ble_eq_true rfl, Nat.le_of_ble_eq_true rfl⟩ (As := [.int (x1 + 3), .int 0, .int 7]) rfl hl.1 rfl (lv_room (Nat.le_of_ble_eq_true rfl)) dX11_readsUntil_117 (fun H locs hP hS => ?_)
      exact ret_v C hr hlocks hP hS h dX11_readsUntil_120
  have J89 : ∀ (σ : St) (x1 : Int32) (x2 : Int32) (t0 : Int32) (t1 : Int32) (H : Heap) (locs : List Loc) (ls : Array Slot), f_X11_readsUntil_p89 σ x1 x2 t0 t1 = some q → va_P (g_D G) vwCl (allW G lam σ) H → va_S (g_A G) s.heap H locs → lv_has ls 3 [(0, .ref (g_ad G 26)), (1, .int x1), (2, .int x2)] → W p l e ({ frames := 4, cells := 0, slots := 0, locals := 90 } : Room) s m args below meth c H locs 0 0 (Qv q below args s G lam) (F0 m 89 ls [.int t0, .int t1, .ref (g_ad G 26)]) := by
    intro σ x1 x2 t0 t1 H locs ls h hP hS hl
    unfold f_X11_readsUntil_p89 at h
    refine lv_bipush (v := 60) hx hb dX11_readsUntil_89 (by decide) ?_
    refine lv_goto (tgt := 96) hx hb dX11_readsUntil_91 (by decide) ?_
    exact J96 _ _ _ _ _ _ H locs ls h hP hS (lv_sub hl [0, 1, 2] rfl)
  have J80 : ∀ (σ : St) (x1 : Int32) (x2 : Int32) (t0 : Int32) (t1 : Int32) (H : Heap) (locs : List Loc) (ls : Array Slot), f_X11_readsUntil_p80 σ x1 x2 t0 t1 = some q → va_P (g_D G) vwCl (allW G lam σ) H → va_S (g_A G) s.heap H locs → lv_has ls 3 [(0, .ref (g_ad G 26)), (1, .int x1), (2, .int x2)] → W p l e ({ frames := 4, cells := 0, slots := 0, locals := 90 } : Room) s m args below meth c H locs 0 0 (Qv q below args s G lam) (F0 m 80 ls [.int t0, .int t1, .ref (g_ad G 26)]) := by
    intro σ x1 x2 t0 t1 H locs ls h hP hS hl
    unfold f_X11_readsUntil_p80 at h
    refine lv_iload_n hx hb dX11_readsUntil_80 rfl (lv_at hl 2 rfl) ?_
    refine lv_if_eq (tgt := 89) hx hb dX11_readsUntil_81 (by decide) (fun c39 => ?_) (fun c39 => ?_)
    · replace h := h_t c39 h
      exact J89 _ _ _ _ _ H locs ls h hP hS (lv_sub hl [0, 1, 2] rfl)
    · replace h := h_f c39 h
      refine lv_iload_n hx hb dX11_readsUntil_84 rfl (lv_at hl 2 rfl) ?_
      refine lv_iconst (v := 4) hx hb dX11_readsUntil_85 (by decide) ?_
      refine lv_icmp_ne (tgt := 94) hx hb dX11_readsUntil_86 (by decide) (fun c40 => ?_) (fun c40 => ?_)
      · replace h := h_f c40 h
        refine lv_bipush (v := 7) hx hb dX11_readsUntil_94 (by decide) ?_
        exact J96 _ _ _ _ _ _ H locs ls h hP hS (lv_sub hl [0, 1, 2] rfl)
      · replace h := h_t c40 h
        exact J89 _ _ _ _ _ H locs ls h hP hS (lv_sub hl [0, 1, 2] rfl)
  have J29 : ∀ (σ : St) (x1 : Int32) (H : Heap) (locs : List Loc) (ls : Array Slot), f_X11_readsUntil_p29 σ x1 = some q → va_P (g_D G) vwCl (allW G lam σ) H → va_S (g_A G) s.heap H locs → lv_has ls 3 [(0, .ref (g_ad G 26)), (1, .int x1)] → W p l e ({ frames := 4, cells := 0, slots := 0, locals := 90 } : Room) s m args below meth c H locs 0 0 (Qv q below args s G lam) (F0 m 29 ls []) := by
    intro σ x1 H locs ls h hP hS hl
    unfold f_X11_readsUntil_p29 at h
    refine lv_aload_n hx hb dX11_readsUntil_29 rfl (lv_at hl 0 rfl) ?_
    obtain ⟨q41, e42, h⟩ := bnd h
    refine call_i C hP hS (c_X11_isWell e42) mi_X11_isWell mw_1353 26 (by decide) rfl rfl ⟨Nat.le_of_ble_eq_true rfl, Nat.le_of_ble_eq_true rfl⟩ (As := []) rfl hl.1 rfl (lv_room (Nat.le_of_ble_eq_true rfl)) dX11_readsUntil_30 (fun H locs hP hS => ?_)
    refine lv_if_eq (tgt := 120) hx hb dX11_readsUntil_33 (by decide) (fun c43 => ?_) (fun c43 => ?_)
    · replace h := h_t c43 h
      exact ret_v C hr hlocks hP hS h dX11_readsUntil_120
    · replace h := h_f c43 h
      refine lv_aload_n hx hb dX11_readsUntil_36 rfl (lv_at hl 0 rfl) ?_
      refine gf_X11_76_26 C hP dX11_readsUntil_37 ?_
      obtain ⟨q44, e45, h⟩ := bnd h
      refine scall_i C hP hS (c_X11_untilOf e45) ms_X11_untilOf mw_1384 ⟨Nat.le_of_ble_eq_true rfl, Nat.le_of_ble_eq_true rfl⟩ (As := [.int (q41.2 26 11)]) rfl hl.1 rfl (lv_room (Nat.le_of_ble_eq_true rfl)) dX11_readsUntil_40 (fun H locs hP hS => ?_)
      refine lv_istore_n (lv' := [(2, .int q44.1), (0, .ref (g_ad G 26)), (1, .int x1)]) hx hb dX11_readsUntil_43 rfl hl (by decide) rfl (fun ls hl => ?_)
      refine lv_aload_n hx hb dX11_readsUntil_44 rfl (lv_at hl 1 rfl) ?_
      refine gf_X11_26_26 C hP dX11_readsUntil_45 ?_
      refine lv_iload_n hx hb dX11_readsUntil_48 rfl (lv_at hl 2 rfl) ?_
      refine lv_iconst (v := 1) hx hb dX11_readsUntil_49 (by decide) ?_
      refine lv_iadd hx hb dX11_readsUntil_50 ?_
      refine lv_iload_n hx hb dX11_readsUntil_51 rfl (lv_at hl 0 rfl) ?_
      obtain ⟨g46, h⟩ := h_g h
      refine r_ast C hP hS 32 (by decide) (fun _ => rfl) (vp_in_iff.mpr g46) dX11_readsUntil_52 (fun H locs hP hS => ?_)
      obtain ⟨σ47, e48, h⟩ := bnd h
      have hP := hPn e48 hP
      refine lv_aload_n hx hb dX11_readsUntil_53 rfl (lv_at hl 1 rfl) ?_
      refine gf_X11_26_26 C hP dX11_readsUntil_54 ?_
      refine lv_iload_n hx hb dX11_readsUntil_57 rfl (lv_at hl 2 rfl) ?_
      refine lv_iconst (v := 3) hx hb dX11_readsUntil_58 (by decide) ?_
      refine lv_iadd hx hb dX11_readsUntil_59 ?_
      refine lv_ldc hx hb C.2.2.2.1 (C.2.2.2.2.1 _ mw_1337) dX11_readsUntil_60 ?_
      obtain ⟨g49, h⟩ := h_g h
      refine r_ast C hP hS 32 (by decide) (fun _ => rfl) (vp_in_iff.mpr g49) dX11_readsUntil_62 (fun H locs hP hS => ?_)
      obtain ⟨σ50, e51, h⟩ := bnd h
      have hP := hPn e51 hP
      refine lv_aload_n hx hb dX11_readsUntil_63 rfl (lv_at hl 1 rfl) ?_
      obtain ⟨q52, e53, h⟩ := bnd h
      refine call_v C hP hS (c_X11_take e53) mi_X11_take mw_1333 26 (by decide) rfl rfl ⟨Nat.le_of_ble_eq_true rfl, Nat.le_of_ble_eq_true rfl⟩ (As := []) rfl hl.1 rfl (lv_room (Nat.le_of_ble_eq_true rfl)) dX11_readsUntil_64 (fun H locs hP hS => ?_)
      refine lv_aload_n hx hb dX11_readsUntil_67 rfl (lv_at hl 1 rfl) ?_
      refine lv_iload_n hx hb dX11_readsUntil_68 rfl (lv_at hl 2 rfl) ?_
      refine lv_iconst (v := 2) hx hb dX11_readsUntil_69 (by decide) ?_
      refine lv_iadd hx hb dX11_readsUntil_70 ?_
      refine lv_iload_n hx hb dX11_readsUntil_71 rfl (lv_at hl 0 rfl) ?_
      refine lv_if_ne (tgt := 79) hx hb dX11_readsUntil_72 (by decide) (fun c54 => ?_) (fun c54 => ?_)
      · replace h := h_f c54 h
        refine lv_iconst (v := 0) hx hb dX11_readsUntil_79 (by decide) ?_
        exact J80 _ _ _ _ _ H locs ls h hP hS (lv_sub hl [1, 2, 0] rfl)
      · replace h := h_t c54 h
        refine lv_iconst (v := 1) hx hb dX11_readsUntil_75 (by decide) ?_
        refine lv_goto (tgt := 80) hx hb dX11_readsUntil_76 (by decide) ?_
        exact J80 _ _ _ _ _ H locs ls h hP hS (lv_sub hl [1, 2, 0] rfl)
  have J25 : ∀ (σ : St) (x1 : Int32) (t0 : Int32) (H : Heap) (locs : List Loc) (ls : Array Slot), f_X11_readsUntil_p25 σ x1 t0 = some q → va_P (g_D G) vwCl (allW G lam σ) H → va_S (g_A G) s.heap H locs → lv_has ls 3 [(0, .ref (g_ad G 26)), (1, .int x1)] → W p l e ({ frames := 4, cells := 0, slots := 0, locals := 90 } : Room) s m args below meth c H locs 0 0 (Qv q below args s G lam) (F0 m 25 ls [.int t0, .ref (g_ad G 26)]) := by
    intro σ x1 t0 H locs ls h hP hS hl
    unfold f_X11_readsUntil_p25 at h
    refine lv_iconst (v := 1) hx hb dX11_readsUntil_25 (by decide) ?_
    obtain ⟨q55, e56, h⟩ := bnd h
    refine call_v C hP hS (c_X11_wants e56) mi_X11_wants mw_1357 26 (by decide) rfl rfl ⟨Nat.le_of_ble_eq_true rfl, Nat.le_of_ble_eq_true rfl⟩ (As := [.int t0, .int 1]) rfl hl.1 rfl (lv_room (Nat.le_of_ble_eq_true rfl)) dX11_readsUntil_26 (fun H locs hP hS => ?_)
    exact J29 _ _ H locs ls h hP hS (lv_sub hl [0, 1] rfl)
  have hS : va_S (g_A G) s.heap s.heap [] := va_S.rf
  unfold f_X11_readsUntil at h
  obtain ⟨H, hH⟩ : ∃ H, H = s.heap := ⟨_, rfl⟩
  obtain ⟨locs, hlo⟩ : ∃ k : List Loc, k = [] := ⟨_, rfl⟩
  rw [← hH, ← hlo]
  rw [← hH] at hP
  replace hS : va_S (g_A G) s.heap H locs := by rw [hH, hlo]; exact hS
  refine lv_aload_n hx hb dX11_readsUntil_0 rfl (lv_at hl 0 rfl) ?_
  obtain ⟨q57, e58, h⟩ := bnd h
  refine call_i C hP hS (c_X11_isWell e58) mi_X11_isWell mw_1353 26 (by decide) rfl rfl ⟨Nat.le_of_ble_eq_true rfl, Nat.le_of_ble_eq_true rfl⟩ (As := []) rfl hl.1 rfl (lv_room (Nat.le_of_ble_eq_true rfl)) dX11_readsUntil_1 (fun H locs hP hS => ?_)
  refine lv_if_eq (tgt := 29) hx hb dX11_readsUntil_4 (by decide) (fun c59 => ?_) (fun c59 => ?_)
  · replace h := h_t c59 h
    exact J29 _ _ H locs ls h hP hS (lv_sub hl [0, 1] rfl)
  · replace h := h_f c59 h
    refine lv_aload_n hx hb dX11_readsUntil_7 rfl (lv_at hl 0 rfl) ?_
    refine lv_aload_n hx hb dX11_readsUntil_8 rfl (lv_at hl 0 rfl) ?_
    refine gf_X11_76_26 C hP dX11_readsUntil_9 ?_
    obtain ⟨q60, e61, h⟩ := bnd h
    refine scall_i C hP hS (c_X11_untilOf e61) ms_X11_untilOf mw_1384 ⟨Nat.le_of_ble_eq_true rfl, Nat.le_of_ble_eq_true rfl⟩ (As := [.int (q57.2 26 11)]) rfl hl.1 rfl (lv_room (Nat.le_of_ble_eq_true rfl)) dX11_readsUntil_12 (fun H locs hP hS => ?_)
    refine lv_ldc hx hb C.2.2.2.1 (C.2.2.2.2.1 _ mw_1337) dX11_readsUntil_15 ?_
    refine lv_icmp_eq (tgt := 24) hx hb dX11_readsUntil_17 (by decide) (fun c62 => ?_) (fun c62 => ?_)
    · replace h := h_t c62 h
      refine lv_iconst (v := 0) hx hb dX11_readsUntil_24 (by decide) ?_
      exact J25 _ _ _ H locs ls h hP hS (lv_sub hl [0, 1] rfl)
    · replace h := h_f c62 h
      refine lv_iconst (v := 1) hx hb dX11_readsUntil_20 (by decide) ?_
      refine lv_goto (tgt := 25) hx hb dX11_readsUntil_21 (by decide) ?_
      exact J25 _ _ _ H locs ls h hP hS (lv_sub hl [0, 1] rfl)
set_option maxHeartbeats 4000000 in
set_option maxRecDepth 100000 in
theorem c_X11_readsLeg {l : Launch} {G : GT} {lam : Lm} {σ : St} {q : St} (h : f_X11_readsLeg σ = some q) : Met l yX11_readsLeg (Cond.code yX11_readsLeg cX11_readsLeg 2 none :: TB) ({ frames := 5, cells := 0, slots := 0, locals := 112 } : Room) (va_Pc [.ref (g_ad G 26)] (GW G lam σ)) (Rv q G lam) 0 0 (g_A G) := by
  refine mk_Qv (own := RX11) (by decide) (Nat.le_of_ble_eq_true rfl) rfl (fun p e s m args below meth c C hr hlocks hP ls hl => ?_)
  have hx := C.1
  have hb := C.2.1
  have hl : lv_has ls 2 [(0, .ref (g_ad G 26))] := hl
  have J48 : ∀ (σ : St) (H : Heap) (locs : List Loc) (ls : Array Slot), f_X11_readsLeg_p48 σ = some q → va_P (g_D G) vwCl (allW G lam σ) H → va_S (g_A G) s.heap H locs → lv_has ls 2 [(0, .ref (g_ad G 26))] → W p l e ({ frames := 5, cells := 0, slots := 0, locals := 112 } : Room) s m args below meth c H locs 0 0 (Qv q below args s G lam) (F0 m 48 ls []) := by
    intro σ H locs ls h hP hS hl
    unfold f_X11_readsLeg_p48 at h
    refine lv_aload_n hx hb dX11_readsLeg_48 rfl (lv_at hl 0 rfl) ?_
    obtain ⟨q23, e24, h⟩ := bnd h
    refine call_i C hP hS (c_X11_isWell e24) mi_X11_isWell mw_1353 26 (by decide) rfl rfl ⟨Nat.le_of_ble_eq_true rfl, Nat.le_of_ble_eq_true rfl⟩ (As := []) rfl hl.1 rfl (lv_room (Nat.le_of_ble_eq_true rfl)) dX11_readsLeg_49 (fun H locs hP hS => ?_)
    refine lv_if_eq (tgt := 102) hx hb dX11_readsLeg_52 (by decide) (fun c25 => ?_) (fun c25 => ?_)
    · replace h := h_t c25 h
      exact ret_v C hr hlocks hP hS h dX11_readsLeg_102
    · replace h := h_f c25 h
      refine lv_bipush (v := 55) hx hb dX11_readsLeg_55 (by decide) ?_
      refine lv_iconst (v := 4) hx hb dX11_readsLeg_57 (by decide) ?_
      refine lv_aload_n hx hb dX11_readsLeg_58 rfl (lv_at hl 0 rfl) ?_
      refine gf_X11_26_26 C hP dX11_readsLeg_59 ?_
      refine lv_bipush (v := 54) hx hb dX11_readsLeg_62 (by decide) ?_
      refine r_aldc C hP 32 (by decide) rfl (j := 54) (by decide) (vp_in_iff.mpr (by decide)) dX11_readsLeg_64 ?_
      refine lv_imul hx hb dX11_readsLeg_65 ?_
      refine lv_iadd hx hb dX11_readsLeg_66 ?_
      obtain ⟨y26, e27, h⟩ := bnd h
      refine r_nm e27 ?_
      refine lv_istore_n (lv' := [(1, .int y26), (0, .ref (g_ad G 26))]) hx hb dX11_readsLeg_67 rfl hl (by decide) rfl (fun ls hl => ?_)
      refine lv_aload_n hx hb dX11_readsLeg_68 rfl (lv_at hl 1 rfl) ?_
      obtain ⟨q28, e29, h⟩ := bnd h
      refine call_v C hP hS (c_X11_take e29) mi_X11_take mw_1333 26 (by decide) rfl rfl ⟨Nat.le_of_ble_eq_true rfl, Nat.le_of_ble_eq_true rfl⟩ (As := []) rfl hl.1 rfl (lv_room (Nat.le_of_ble_eq_true rfl)) dX11_readsLeg_69 (fun H locs hP hS => ?_)
      refine lv_aload_n hx hb dX11_readsLeg_72 rfl (lv_at hl 1 rfl) ?_
      refine lv_iload_n hx hb dX11_readsLeg_73 rfl (lv_at hl 0 rfl) ?_
      refine lv_iconst (v := 0) hx hb dX11_readsLeg_74 (by decide) ?_
      refine lv_bipush (v := 15) hx hb dX11_readsLeg_75 (by decide) ?_
      obtain ⟨q30, e31, h⟩ := bnd h
      refine call_v C hP hS (c_X11_number e31) mi_X11_number mw_1361 26 (by decide) rfl rfl ⟨Nat.le_of_ble_eq_true rfl, Nat.le_of_ble_eq_true rfl⟩ (As := [.int y26, .int 0, .int 15]) rfl hl.1 rfl (lv_room (Nat.le_of_ble_eq_true rfl)) dX11_readsLeg_77 (fun H locs hP hS => ?_)
      refine lv_aload_n hx hb dX11_readsLeg_80 rfl (lv_at hl 1 rfl) ?_
      refine lv_iload_n hx hb dX11_readsLeg_81 rfl (lv_at hl 0 rfl) ?_
      obtain ⟨q32, e33, h⟩ := bnd h
      refine call_v C hP hS (c_X11_readsUntil e33) mi_X11_readsUntil mw_1380 26 (by decide) rfl rfl ⟨Nat.le_of_ble_eq_true rfl, Nat.le_of_ble_eq_true rfl⟩ (As := [.int y26]) rfl hl.1 rfl (lv_room (Nat.le_of_ble_eq_true rfl)) dX11_readsLeg_82 (fun H locs hP hS => ?_)
      refine lv_aload_n hx hb dX11_readsLeg_85 rfl (lv_at hl 1 rfl) ?_
      refine lv_bipush (v := 59) hx hb dX11_readsLeg_86 (by decide) ?_
      obtain ⟨q34, e35, h⟩ := bnd h
      refine call_v C hP hS (c_X11_reads e35) mi_X11_reads mw_1349 26 (by decide) rfl rfl ⟨Nat.le_of_ble_eq_true rfl, Nat.le_of_ble_eq_true rfl⟩ (As := [.int 59]) rfl hl.1 rfl (lv_room (Nat.le_of_ble_eq_true rfl)) dX11_readsLeg_88 (fun H locs hP hS => ?_)
      refine lv_aload_n hx hb dX11_readsLeg_91 rfl (lv_at hl 1 rfl) ?_
      refine gf_X11_26_26 C hP dX11_readsLeg_92 ?_
      refine lv_bipush (v := 54) hx hb dX11_readsLeg_95 (by decide) ?_
      refine lv_dup2_11 hx hb dX11_readsLeg_97 rfl rfl ?_
      refine r_aldc C hP 32 (by decide) rfl (j := 54) (by decide) (vp_in_iff.mpr (by decide)) dX11_readsLeg_98 ?_
      refine lv_iconst (v := 1) hx hb dX11_readsLeg_99 (by decide) ?_
      refine lv_iadd hx hb dX11_readsLeg_100 ?_
      refine r_astc C hP hS 32 (by decide) (fun _ => rfl) (j := 54) (by decide) (vp_in_iff.mpr (by decide)) dX11_readsLeg_101 (fun H locs hP hS => ?_)
      obtain ⟨σ36, e37, h⟩ := bnd h
      have hP := hPn e37 hP
      exact ret_v C hr hlocks hP hS h dX11_readsLeg_102
  have J44 : ∀ (σ : St) (t0 : Int32) (H : Heap) (locs : List Loc) (ls : Array Slot), f_X11_readsLeg_p44 σ t0 = some q → va_P (g_D G) vwCl (allW G lam σ) H → va_S (g_A G) s.heap H locs → lv_has ls 2 [(0, .ref (g_ad G 26))] → W p l e ({ frames := 5, cells := 0, slots := 0, locals := 112 } : Room) s m args below meth c H locs 0 0 (Qv q below args s G lam) (F0 m 44 ls [.int t0, .ref (g_ad G 26)]) := by
    intro σ t0 H locs ls h hP hS hl
    unfold f_X11_readsLeg_p44 at h
    refine lv_iconst (v := 3) hx hb dX11_readsLeg_44 (by decide) ?_
    obtain ⟨q38, e39, h⟩ := bnd h
    refine call_v C hP hS (c_X11_wants e39) mi_X11_wants mw_1357 26 (by decide) rfl rfl ⟨Nat.le_of_ble_eq_true rfl, Nat.le_of_ble_eq_true rfl⟩ (As := [.int t0, .int 3]) rfl hl.1 rfl (lv_room (Nat.le_of_ble_eq_true rfl)) dX11_readsLeg_45 (fun H locs hP hS => ?_)
    exact J48 _ H locs ls h hP hS (lv_sub hl [0] rfl)
  have J22 : ∀ (σ : St) (t0 : Int32) (H : Heap) (locs : List Loc) (ls : Array Slot), f_X11_readsLeg_p22 σ t0 = some q → va_P (g_D G) vwCl (allW G lam σ) H → va_S (g_A G) s.heap H locs → lv_has ls 2 [(0, .ref (g_ad G 26))] → W p l e ({ frames := 5, cells := 0, slots := 0, locals := 112 } : Room) s m args below meth c H locs 0 0 (Qv q below args s G lam) (F0 m 22 ls [.int t0, .ref (g_ad G 26)]) := by
    intro σ t0 H locs ls h hP hS hl
    unfold f_X11_readsLeg_p22 at h
    refine lv_iconst (v := 1) hx hb dX11_readsLeg_22 (by decide) ?_
    obtain ⟨q40, e41, h⟩ := bnd h
    refine call_v C hP hS (c_X11_wants e41) mi_X11_wants mw_1357 26 (by decide) rfl rfl ⟨Nat.le_of_ble_eq_true rfl, Nat.le_of_ble_eq_true rfl⟩ (As := [.int t0, .int 1]) rfl hl.1 rfl (lv_room (Nat.le_of_ble_eq_true rfl)) dX11_readsLeg_23 (fun H locs hP hS => ?_)
    refine lv_aload_n hx hb dX11_readsLeg_26 rfl (lv_at hl 0 rfl) ?_
    refine lv_aload_n hx hb dX11_readsLeg_27 rfl (lv_at hl 0 rfl) ?_
    refine gf_X11_26_26 C hP dX11_readsLeg_28 ?_
    refine lv_bipush (v := 54) hx hb dX11_readsLeg_31 (by decide) ?_
    refine r_aldc C hP 32 (by decide) rfl (j := 54) (by decide) (vp_in_iff.mpr (by decide)) dX11_readsLeg_33 ?_
    refine lv_bipush (v := 6) hx hb dX11_readsLeg_34 (by decide) ?_
    refine lv_icmp_ge (tgt := 43) hx hb dX11_readsLeg_36 (by decide) (fun c42 => ?_) (fun c42 => ?_)
    · replace h := h_t c42 h
      refine lv_iconst (v := 0) hx hb dX11_readsLeg_43 (by decide) ?_
      exact J44 _ _ H locs ls h hP hS (lv_sub hl [0] rfl)
    · replace h := h_f c42 h
      refine lv_iconst (v := 1) hx hb dX11_readsLeg_39 (by decide) ?_
      refine lv_goto (tgt := 44) hx hb dX11_readsLeg_40 (by decide) ?_
      exact J44 _ _ H locs ls h hP hS (lv_sub hl [0] rfl)
  have hS : va_S (g_A G) s.heap s.heap [] := va_S.rf
  unfold f_X11_readsLeg at h
  obtain ⟨H, hH⟩ : ∃ H, H = s.heap := ⟨_, rfl⟩
  obtain ⟨locs, hlo⟩ : ∃ k : List Loc, k = [] := ⟨_, rfl⟩
  rw [← hH, ← hlo]
  rw [← hH] at hP
  replace hS : va_S (g_A G) s.heap H locs := by rw [hH, hlo]; exact hS
  refine lv_aload_n hx hb dX11_readsLeg_0 rfl (lv_at hl 0 rfl) ?_
  obtain ⟨q43, e44, h⟩ := bnd h
  refine call_i C hP hS (c_X11_isWell e44) mi_X11_isWell mw_1353 26 (by decide) rfl rfl ⟨Nat.le_of_ble_eq_true rfl, Nat.le_of_ble_eq_true rfl⟩ (As := []) rfl hl.1 rfl (lv_room (Nat.le_of_ble_eq_true rfl)) dX11_readsLeg_1 (fun H locs hP hS => ?_)
  refine lv_if_eq (tgt := 48) hx hb dX11_readsLeg_4 (by decide) (fun c45 => ?_) (fun c45 => ?_)
  · replace h := h_t c45 h
    exact J48 _ H locs ls h hP hS (lv_sub hl [0] rfl)
  · replace h := h_f c45 h
    refine lv_aload_n hx hb dX11_readsLeg_7 rfl (lv_at hl 0 rfl) ?_
    refine lv_aload_n hx hb dX11_readsLeg_8 rfl (lv_at hl 0 rfl) ?_
    refine gf_X11_76_26 C hP dX11_readsLeg_9 ?_
    refine lv_bipush (v := 103) hx hb dX11_readsLeg_12 (by decide) ?_
    refine lv_icmp_ne (tgt := 21) hx hb dX11_readsLeg_14 (by decide) (fun c46 => ?_) (fun c46 => ?_)
    · replace h := h_f c46 h
      refine lv_iconst (v := 0) hx hb dX11_readsLeg_21 (by decide) ?_
      exact J22 _ _ H locs ls h hP hS (lv_sub hl [0] rfl)
    · replace h := h_t c46 h
      refine lv_iconst (v := 1) hx hb dX11_readsLeg_17 (by decide) ?_
      refine lv_goto (tgt := 22) hx hb dX11_readsLeg_18 (by decide) ?_
      exact J22 _ _ H locs ls h hP hS (lv_sub hl [0] rfl)
set_option maxHeartbeats 4000000 in
set_option maxRecDepth 100000 in
theorem c_X11_readsAll {l : Launch} {G : GT} {lam : Lm} {σ : St} {q : St} (h : f_X11_readsAll σ = some q) : Met l yX11_readsAll (Cond.code yX11_readsAll cX11_readsAll 2 none :: TB) ({ frames := 6, cells := 0, slots := 0, locals := 133 } : Room) (va_Pc [.ref (g_ad G 26)] (GW G lam σ)) (Rv q G lam) 0 0 (g_A G) := by
  refine mk_Qv (own := RX11) (by decide) (Nat.le_of_ble_eq_true rfl) rfl (fun p e s m args below meth c C hr hlocks hP ls hl => ?_)
  have hx := C.1
  have hb := C.2.1
  have hl : lv_has ls 2 [(0, .ref (g_ad G 26))] := hl
  have L105 : ∀ (n105 : Nat) (σ : St) (H : Heap) (locs : List Loc) (ls : Array Slot), fx (F_X11_readsAll_h105) z_X11_readsAll_h105 n105 σ = some q → va_P (g_D G) vwCl (allW G lam σ) H → va_S (g_A G) s.heap H locs → lv_has ls 2 [(0, .ref (g_ad G 26))] → W p l e ({ frames := 6, cells := 0, slots := 0, locals := 133 } : Room) s m args below meth c H locs 0 0 (Qv q below args s G lam) (F0 m 105 ls []) := by
    intro n105
    induction n105 with
    | zero => intro σ H locs ls h hP hS hl; exact absurd h (by intro h9; cases h9)
    | succ n105 ih105 =>
      intro σ H locs ls h hP hS hl
      change F_X11_readsAll_h105 (fx (F_X11_readsAll_h105) z_X11_readsAll_h105 n105) σ = some q at h
      unfold F_X11_readsAll_h105 at h
      refine lv_aload_n hx hb dX11_readsAll_105 rfl (lv_at hl 0 rfl) ?_
      obtain ⟨q43, e44, h⟩ := bnd h
      refine call_i C hP hS (c_X11_isWell e44) mi_X11_isWell mw_1353 26 (by decide) rfl rfl ⟨Nat.le_of_ble_eq_true rfl, Nat.le_of_ble_eq_true rfl⟩ (As := []) rfl hl.1 rfl (lv_room (Nat.le_of_ble_eq_true rfl)) dX11_readsAll_106 (fun H locs hP hS => ?_)
      refine lv_if_eq (tgt := 128) hx hb dX11_readsAll_109 (by decide) (fun c45 => ?_) (fun c45 => ?_)
      · replace h := h_t c45 h
        exact ret_v C hr hlocks hP hS h dX11_readsAll_128
      · replace h := h_f c45 h
        refine lv_aload_n hx hb dX11_readsAll_112 rfl (lv_at hl 0 rfl) ?_
        refine gf_X11_76_26 C hP dX11_readsAll_113 ?_
        refine lv_ldc hx hb C.2.2.2.1 (C.2.2.2.2.1 _ mw_1337) dX11_readsAll_116 ?_
        refine lv_icmp_eq (tgt := 128) hx hb dX11_readsAll_118 (by decide) (fun c46 => ?_) (fun c46 => ?_)
        · replace h := h_t c46 h
          exact ret_v C hr hlocks hP hS h dX11_readsAll_128
        · replace h := h_f c46 h
          refine lv_aload_n hx hb dX11_readsAll_121 rfl (lv_at hl 0 rfl) ?_
          obtain ⟨q47, e48, h⟩ := bnd h
          refine call_v C hP hS (c_X11_readsLeg e48) mi_X11_readsLeg mw_1376 26 (by decide) rfl rfl ⟨Nat.le_of_ble_eq_true rfl, Nat.le_of_ble_eq_true rfl⟩ (As := []) rfl hl.1 rfl (lv_room (Nat.le_of_ble_eq_true rfl)) dX11_readsAll_122 (fun H locs hP hS => ?_)
          refine lv_goto (tgt := 105) hx hb dX11_readsAll_125 (by decide) ?_
          exact ih105 _ H locs ls h hP hS (lv_sub hl [0] rfl)
  have J101 : ∀ (σ : St) (H : Heap) (locs : List Loc) (ls : Array Slot), f_X11_readsAll_p101 σ = some q → va_P (g_D G) vwCl (allW G lam σ) H → va_S (g_A G) s.heap H locs → lv_has ls 2 [(0, .ref (g_ad G 26))] → W p l e ({ frames := 6, cells := 0, slots := 0, locals := 133 } : Room) s m args below meth c H locs 0 0 (Qv q below args s G lam) (F0 m 101 ls []) := by
    intro σ H locs ls h hP hS hl
    unfold f_X11_readsAll_p101 at h
    refine lv_aload_n hx hb dX11_readsAll_101 rfl (lv_at hl 0 rfl) ?_
    obtain ⟨q49, e50, h⟩ := bnd h
    refine call_v C hP hS (c_X11_readsLeg e50) mi_X11_readsLeg mw_1376 26 (by decide) rfl rfl ⟨Nat.le_of_ble_eq_true rfl, Nat.le_of_ble_eq_true rfl⟩ (As := []) rfl hl.1 rfl (lv_room (Nat.le_of_ble_eq_true rfl)) dX11_readsAll_102 (fun H locs hP hS => ?_)
    exact L105 FU _ H locs ls h hP hS (lv_sub hl [0] rfl)
  have L77 : ∀ (n77 : Nat) (σ : St) (H : Heap) (locs : List Loc) (ls : Array Slot), fx (F_X11_readsAll_h77) z_X11_readsAll_h77 n77 σ = some q → va_P (g_D G) vwCl (allW G lam σ) H → va_S (g_A G) s.heap H locs → lv_has ls 2 [(0, .ref (g_ad G 26))] → W p l e ({ frames := 6, cells := 0, slots := 0, locals := 133 } : Room) s m args below meth c H locs 0 0 (Qv q below args s G lam) (F0 m 77 ls []) := by
    intro n77
    induction n77 with
    | zero => intro σ H locs ls h hP hS hl; exact absurd h (by intro h9; cases h9)
    | succ n77 ih77 =>
      intro σ H locs ls h hP hS hl
      change F_X11_readsAll_h77 (fx (F_X11_readsAll_h77) z_X11_readsAll_h77 n77) σ = some q at h
      unfold F_X11_readsAll_h77 at h
      refine lv_aload_n hx hb dX11_readsAll_77 rfl (lv_at hl 0 rfl) ?_
      obtain ⟨q51, e52, h⟩ := bnd h
      refine call_i C hP hS (c_X11_isWell e52) mi_X11_isWell mw_1353 26 (by decide) rfl rfl ⟨Nat.le_of_ble_eq_true rfl, Nat.le_of_ble_eq_true rfl⟩ (As := []) rfl hl.1 rfl (lv_room (Nat.le_of_ble_eq_true rfl)) dX11_readsAll_78 (fun H locs hP hS => ?_)
      refine lv_if_eq (tgt := 101) hx hb dX11_readsAll_81 (by decide) (fun c53 => ?_) (fun c53 => ?_)
      · replace h := h_t c53 h
        exact J101 _ H locs ls h hP hS (lv_sub hl [0] rfl)
      · replace h := h_f c53 h
        refine lv_aload_n hx hb dX11_readsAll_84 rfl (lv_at hl 0 rfl) ?_
        refine gf_X11_76_26 C hP dX11_readsAll_85 ?_
        obtain ⟨q54, e55, h⟩ := bnd h
        refine scall_i C hP hS (c_X11_sortOf e55) ms_X11_sortOf mw_1369 ⟨Nat.le_of_ble_eq_true rfl, Nat.le_of_ble_eq_true rfl⟩ (As := [.int (q51.2 26 11)]) rfl hl.1 rfl (lv_room (Nat.le_of_ble_eq_true rfl)) dX11_readsAll_88 (fun H locs hP hS => ?_)
        refine lv_if_le (tgt := 101) hx hb dX11_readsAll_91 (by decide) (fun c56 => ?_) (fun c56 => ?_)
        · replace h := h_t c56 h
          exact J101 _ H locs ls h hP hS (lv_sub hl [0] rfl)
        · replace h := h_f c56 h
          refine lv_aload_n hx hb dX11_readsAll_94 rfl (lv_at hl 0 rfl) ?_
          obtain ⟨q57, e58, h⟩ := bnd h
          refine call_v C hP hS (c_X11_readsThing e58) mi_X11_readsThing mw_1372 26 (by decide) rfl rfl ⟨Nat.le_of_ble_eq_true rfl, Nat.le_of_ble_eq_true rfl⟩ (As := []) rfl hl.1 rfl (lv_room (Nat.le_of_ble_eq_true rfl)) dX11_readsAll_95 (fun H locs hP hS => ?_)
          refine lv_goto (tgt := 77) hx hb dX11_readsAll_98 (by decide) ?_
          exact ih77 _ H locs ls h hP hS (lv_sub hl [0] rfl)
  have L2 : ∀ (n2 : Nat) (σ : St) (x1 : Int32) (H : Heap) (locs : List Loc) (ls : Array Slot), fx (F_X11_readsAll_h2) z_X11_readsAll_h2 n2 σ x1 = some q → va_P (g_D G) vwCl (allW G lam σ) H → va_S (g_A G) s.heap H locs → lv_has ls 2 [(0, .ref (g_ad G 26)), (1, .int x1)] → W p l e ({ frames := 6, cells := 0, slots := 0, locals := 133 } : Room) s m args below meth c H locs 0 0 (Qv q below args s G lam) (F0 m 2 ls []) := by
    intro n2
    induction n2 with
    | zero => intro σ x1 H locs ls h hP hS hl; exact absurd h (by intro h9; cases h9)
    | succ n2 ih2 =>
      intro σ x1 H locs ls h hP hS hl
      change F_X11_readsAll_h2 (fx (F_X11_readsAll_h2) z_X11_readsAll_h2 n2) σ x1 = some q at h
      unfold F_X11_readsAll_h2 at h
      refine lv_iload_n hx hb dX11_readsAll_2 rfl (lv_at hl 1 rfl) ?_
      refine lv_bipush (v := 79) hx hb dX11_readsAll_3 (by decide) ?_
      refine lv_icmp_ge (tgt := 21) hx hb dX11_readsAll_5 (by decide) (fun c59 => ?_) (fun c59 => ?_)
      · replace h := h_t c59 h
        refine lv_aload_n hx hb dX11_readsAll_21 rfl (lv_at hl 0 rfl) ?_
        refine lv_iconst (v := 0) hx hb dX11_readsAll_22 (by decide) ?_
        refine pf_X11_66_26 C hP hS dX11_readsAll_23 (fun H locs hP hS => ?_)
        obtain ⟨σ60, e61, h⟩ := bnd h
        have hP := hPn e61 hP
        refine lv_aload_n hx hb dX11_readsAll_26 rfl (lv_at hl 0 rfl) ?_
        refine lv_iconst (v := 0) hx hb dX11_readsAll_27 (by decide) ?_
        refine pf_X11_87_26 C hP hS dX11_readsAll_28 (fun H locs hP hS => ?_)
        obtain ⟨σ62, e63, h⟩ := bnd h
        have hP := hPn e63 hP
        refine lv_aload_n hx hb dX11_readsAll_31 rfl (lv_at hl 0 rfl) ?_
        obtain ⟨q64, e65, h⟩ := bnd h
        refine call_v C hP hS (c_X11_take e65) mi_X11_take mw_1333 26 (by decide) rfl rfl ⟨Nat.le_of_ble_eq_true rfl, Nat.le_of_ble_eq_true rfl⟩ (As := []) rfl hl.1 rfl (lv_room (Nat.le_of_ble_eq_true rfl)) dX11_readsAll_32 (fun H locs hP hS => ?_)
        refine lv_aload_n hx hb dX11_readsAll_35 rfl (lv_at hl 0 rfl) ?_
        obtain ⟨q66, e67, h⟩ := bnd h
        refine call_v C hP hS (c_X11_readsShip e67) mi_X11_readsShip mw_1345 26 (by decide) rfl rfl ⟨Nat.le_of_ble_eq_true rfl, Nat.le_of_ble_eq_true rfl⟩ (As := []) rfl hl.1 rfl (lv_room (Nat.le_of_ble_eq_true rfl)) dX11_readsAll_36 (fun H locs hP hS => ?_)
        refine lv_aload_n hx hb dX11_readsAll_39 rfl (lv_at hl 0 rfl) ?_
        obtain ⟨q68, e69, h⟩ := bnd h
        refine call_v C hP hS (c_X11_readsTide e69) mi_X11_readsTide mw_1365 26 (by decide) rfl rfl ⟨Nat.le_of_ble_eq_true rfl, Nat.le_of_ble_eq_true rfl⟩ (As := []) rfl hl.1 rfl (lv_room (Nat.le_of_ble_eq_true rfl)) dX11_readsAll_40 (fun H locs hP hS => ?_)
        refine lv_aload_n hx hb dX11_readsAll_43 rfl (lv_at hl 0 rfl) ?_
        refine lv_bipush (v := 122) hx hb dX11_readsAll_44 (by decide) ?_
        obtain ⟨q70, e71, h⟩ := bnd h
        refine call_v C hP hS (c_X11_reads e71) mi_X11_reads mw_1349 26 (by decide) rfl rfl ⟨Nat.le_of_ble_eq_true rfl, Nat.le_of_ble_eq_true rfl⟩ (As := [.int 122]) rfl hl.1 rfl (lv_room (Nat.le_of_ble_eq_true rfl)) dX11_readsAll_46 (fun H locs hP hS => ?_)
        refine lv_aload_n hx hb dX11_readsAll_49 rfl (lv_at hl 0 rfl) ?_
        refine lv_iconst (v := 4) hx hb dX11_readsAll_50 (by decide) ?_
        refine lv_iconst (v := 0) hx hb dX11_readsAll_51 (by decide) ?_
        refine lv_bipush (v := 60) hx hb dX11_readsAll_52 (by decide) ?_
        obtain ⟨q72, e73, h⟩ := bnd h
        refine call_v C hP hS (c_X11_number e73) mi_X11_number mw_1361 26 (by decide) rfl rfl ⟨Nat.le_of_ble_eq_true rfl, Nat.le_of_ble_eq_true rfl⟩ (As := [.int 4, .int 0, .int 60]) rfl hl.1 rfl (lv_room (Nat.le_of_ble_eq_true rfl)) dX11_readsAll_54 (fun H locs hP hS => ?_)
        refine lv_aload_n hx hb dX11_readsAll_57 rfl (lv_at hl 0 rfl) ?_
        refine lv_bipush (v := 44) hx hb dX11_readsAll_58 (by decide) ?_
        obtain ⟨q74, e75, h⟩ := bnd h
        refine call_v C hP hS (c_X11_reads e75) mi_X11_reads mw_1349 26 (by decide) rfl rfl ⟨Nat.le_of_ble_eq_true rfl, Nat.le_of_ble_eq_true rfl⟩ (As := [.int 44]) rfl hl.1 rfl (lv_room (Nat.le_of_ble_eq_true rfl)) dX11_readsAll_60 (fun H locs hP hS => ?_)
        refine lv_aload_n hx hb dX11_readsAll_63 rfl (lv_at hl 0 rfl) ?_
        refine lv_iconst (v := 5) hx hb dX11_readsAll_64 (by decide) ?_
        refine lv_iconst (v := 0) hx hb dX11_readsAll_65 (by decide) ?_
        refine lv_bipush (v := 60) hx hb dX11_readsAll_66 (by decide) ?_
        obtain ⟨q76, e77, h⟩ := bnd h
        refine call_v C hP hS (c_X11_number e77) mi_X11_number mw_1361 26 (by decide) rfl rfl ⟨Nat.le_of_ble_eq_true rfl, Nat.le_of_ble_eq_true rfl⟩ (As := [.int 5, .int 0, .int 60]) rfl hl.1 rfl (lv_room (Nat.le_of_ble_eq_true rfl)) dX11_readsAll_68 (fun H locs hP hS => ?_)
        refine lv_aload_n hx hb dX11_readsAll_71 rfl (lv_at hl 0 rfl) ?_
        refine lv_bipush (v := 59) hx hb dX11_readsAll_72 (by decide) ?_
        obtain ⟨q78, e79, h⟩ := bnd h
        refine call_v C hP hS (c_X11_reads e79) mi_X11_reads mw_1349 26 (by decide) rfl rfl ⟨Nat.le_of_ble_eq_true rfl, Nat.le_of_ble_eq_true rfl⟩ (As := [.int 59]) rfl hl.1 rfl (lv_room (Nat.le_of_ble_eq_true rfl)) dX11_readsAll_74 (fun H locs hP hS => ?_)
        exact L77 FU _ H locs ls h hP hS (lv_sub hl [0] rfl)
      · replace h := h_f c59 h
        refine lv_aload_n hx hb dX11_readsAll_8 rfl (lv_at hl 0 rfl) ?_
        refine gf_X11_26_26 C hP dX11_readsAll_9 ?_
        refine lv_iload_n hx hb dX11_readsAll_12 rfl (lv_at hl 1 rfl) ?_
        refine lv_iconst (v := 0) hx hb dX11_readsAll_13 (by decide) ?_
        obtain ⟨g80, h⟩ := h_g h
        refine r_ast C hP hS 32 (by decide) (fun _ => rfl) (vp_in_iff.mpr g80) dX11_readsAll_14 (fun H locs hP hS => ?_)
        obtain ⟨σ81, e82, h⟩ := bnd h
        have hP := hPn e82 hP
        obtain ⟨y83, e84, h⟩ := bnd h
        refine lv_iinc (v := y83) (lv' := [(1, .int y83), (0, .ref (g_ad G 26))]) hx hb dX11_readsAll_15 hl (k := 1) rfl (Option.some.inj e84) (by decide) rfl (fun ls hl => ?_)
        refine lv_goto (tgt := 2) hx hb dX11_readsAll_18 (by decide) ?_
        exact ih2 _ _ H locs ls h hP hS (lv_sub hl [1, 0] rfl)
  have hS : va_S (g_A G) s.heap s.heap [] := va_S.rf
  unfold f_X11_readsAll at h
  obtain ⟨H, hH⟩ : ∃ H, H = s.heap := ⟨_, rfl⟩
  obtain ⟨locs, hlo⟩ : ∃ k : List Loc, k = [] := ⟨_, rfl⟩
  rw [← hH, ← hlo]
  rw [← hH] at hP
  replace hS : va_S (g_A G) s.heap H locs := by rw [hH, hlo]; exact hS
  refine lv_iconst (v := 0) hx hb dX11_readsAll_0 (by decide) ?_
  refine lv_istore_n (lv' := [(1, .int 0), (0, .ref (g_ad G 26))]) hx hb dX11_readsAll_1 rfl hl (by decide) rfl (fun ls hl => ?_)
  exact L2 FU _ _ H locs ls h hP hS (lv_sub hl [1, 0] rfl)
set_option maxHeartbeats 4000000 in
set_option maxRecDepth 100000 in
theorem c_X11_feed {l : Launch} {G : GT} {lam : Lm} {σ : St} {a1 : Int32} {q : Int32 × St} (h : f_X11_feed σ a1 = some q) : Met l yX11_feed (Cond.code yX11_feed cX11_feed 2 ((some .int)) :: TB) ({ frames := 1, cells := 0, slots := 0, locals := 25 } : Room) (va_Pc [.ref (g_ad G 26), .int a1] (GW G lam σ)) (Ri q G lam) 0 0 (g_A G) := by
  refine mk_Qi (own := RX11) (by decide) (Nat.le_of_ble_eq_true rfl) rfl (fun p e s m args below meth c C hr hlocks hP ls hl => ?_)
  have hx := C.1
  have hb := C.2.1
  have hl : lv_has ls 2 [(0, .ref (g_ad G 26)), (1, .int a1)] := hl
  have hS : va_S (g_A G) s.heap s.heap [] := va_S.rf
  unfold f_X11_feed at h
  refine lv_iload_n hx hb dX11_feed_0 rfl (lv_at hl 1 rfl) ?_
  refine lv_i2l hx hb dX11_feed_1 rfl ?_
  refine lv_lconst (v := 0) hx hb dX11_feed_2 (by decide) ?_
  refine lv_ldc2 hx hb C.2.2.2.1 (C.2.2.2.2.1 _ mw_1319) dX11_feed_3 ?_
  obtain ⟨q10, e11, h⟩ := bnd h
  refine scall_i C hP hS (c_X11_in e11) ms_X11_in mw_1320 ⟨Nat.le_of_ble_eq_true rfl, Nat.le_of_ble_eq_true rfl⟩ (As := [.long ((a1 : Int32).toInt64), .long (0), .long (255)]) rfl hl.1 rfl (lv_room (Nat.le_of_ble_eq_true rfl)) dX11_feed_6 (fun H locs hP hS => ?_)
  refine lv_if_ne (tgt := 15) hx hb dX11_feed_9 (by decide) (fun c12 => ?_) (fun c12 => ?_)
  · replace h := h_f c12 h
    refine lv_aload_n hx hb dX11_feed_15 rfl (lv_at hl 0 rfl) ?_
    refine gf_X11_72_26 C hP dX11_feed_16 ?_
    refine lv_sipush (v := 160) hx hb dX11_feed_19 (by decide) ?_
    refine lv_icmp_ne (tgt := 28) hx hb dX11_feed_22 (by decide) (fun c13 => ?_) (fun c13 => ?_)
    · replace h := h_f c13 h
      refine lv_aload_n hx hb dX11_feed_28 rfl (lv_at hl 0 rfl) ?_
      refine gf_X11_17_26 C hP dX11_feed_29 ?_
      refine lv_aload_n hx hb dX11_feed_32 rfl (lv_at hl 0 rfl) ?_
      refine gf_X11_72_26 C hP dX11_feed_33 ?_
      refine lv_iload_n hx hb dX11_feed_36 rfl (lv_at hl 1 rfl) ?_
      obtain ⟨g14, h⟩ := h_g h
      refine r_ast C hP hS 29 (by decide) (fun _ => rfl) (vp_in_iff.mpr g14) dX11_feed_37 (fun H locs hP hS => ?_)
      obtain ⟨σ15, e16, h⟩ := bnd h
      have hP := hPn e16 hP
      refine lv_aload_n hx hb dX11_feed_38 rfl (lv_at hl 0 rfl) ?_
      refine lv_dup hx hb dX11_feed_39 rfl ?_
      refine gf_X11_72_26 C hP dX11_feed_40 ?_
      refine lv_iconst (v := 1) hx hb dX11_feed_43 (by decide) ?_
      refine lv_iadd hx hb dX11_feed_44 ?_
      refine pf_X11_72_26 C hP hS dX11_feed_45 (fun H locs hP hS => ?_)
      obtain ⟨σ17, e18, h⟩ := bnd h
      have hP := hPn e18 hP
      refine lv_aload_n hx hb dX11_feed_48 rfl (lv_at hl 0 rfl) ?_
      refine gf_X11_72_26 C hP dX11_feed_49 ?_
      exact ret_i C hr hlocks hP hS h dX11_feed_52
    · replace h := h_t c13 h
      refine lv_ldc hx hb C.2.2.2.1 (C.2.2.2.2.1 _ mw_1324) dX11_feed_25 ?_
      exact ret_i C hr hlocks hP hS h dX11_feed_27
  · replace h := h_t c12 h
    refine lv_ldc hx hb C.2.2.2.1 (C.2.2.2.2.1 _ mw_1323) dX11_feed_12 ?_
    exact ret_i C hr hlocks hP hS h dX11_feed_14
set_option maxHeartbeats 4000000 in
set_option maxRecDepth 100000 in
theorem c_X11_sheet {l : Launch} {G : GT} {lam : Lm} {σ : St} {q : Int32 × St} (h : f_X11_sheet σ = some q) : Met l yX11_sheet (Cond.code yX11_sheet cX11_sheet 2 ((some .int)) :: TB) ({ frames := 7, cells := 0, slots := 0, locals := 154 } : Room) (va_Pc [.ref (g_ad G 26)] (GW G lam σ)) (Ri q G lam) 0 0 (g_A G) := by
  refine mk_Qi (own := RX11) (by decide) (Nat.le_of_ble_eq_true rfl) rfl (fun p e s m args below meth c C hr hlocks hP ls hl => ?_)
  have hx := C.1
  have hb := C.2.1
  have hl : lv_has ls 2 [(0, .ref (g_ad G 26))] := hl
  have L41 : ∀ (n41 : Nat) (σ : St) (x1 : Int32) (H : Heap) (locs : List Loc) (ls : Array Slot), fx (F_X11_sheet_h41) z_X11_sheet_h41 n41 σ x1 = some q → va_P (g_D G) vwCl (allW G lam σ) H → va_S (g_A G) s.heap H locs → lv_has ls 2 [(0, .ref (g_ad G 26)), (1, .int x1)] → W p l e ({ frames := 7, cells := 0, slots := 0, locals := 154 } : Room) s m args below meth c H locs 0 0 (Qi q below args s G lam) (F0 m 41 ls []) := by
    intro n41
    induction n41 with
    | zero => intro σ x1 H locs ls h hP hS hl; exact absurd h (by intro h9; cases h9)
    | succ n41 ih41 =>
      intro σ x1 H locs ls h hP hS hl
      change F_X11_sheet_h41 (fx (F_X11_sheet_h41) z_X11_sheet_h41 n41) σ x1 = some q at h
      unfold F_X11_sheet_h41 at h
      refine lv_iload_n hx hb dX11_sheet_41 rfl (lv_at hl 1 rfl) ?_
      refine lv_bipush (v := 79) hx hb dX11_sheet_42 (by decide) ?_
      refine lv_icmp_ge (tgt := 65) hx hb dX11_sheet_44 (by decide) (fun c21 => ?_) (fun c21 => ?_)
      · replace h := h_t c21 h
        refine lv_aload_n hx hb dX11_sheet_65 rfl (lv_at hl 0 rfl) ?_
        refine lv_iconst (v := 0) hx hb dX11_sheet_66 (by decide) ?_
        refine pf_X11_50_26 C hP hS dX11_sheet_67 (fun H locs hP hS => ?_)
        obtain ⟨σ22, e23, h⟩ := bnd h
        have hP := hPn e23 hP
        refine lv_aload_n hx hb dX11_sheet_70 rfl (lv_at hl 0 rfl) ?_
        refine gf_X11_7_26 C hP dX11_sheet_71 ?_
        refine lv_bipush (v := 54) hx hb dX11_sheet_74 (by decide) ?_
        refine r_aldc C hP 27 (by decide) rfl (j := 54) (by decide) (vp_in_iff.mpr (by decide)) dX11_sheet_76 ?_
        exact ret_i C hr hlocks hP hS h dX11_sheet_77
      · replace h := h_f c21 h
        refine lv_aload_n hx hb dX11_sheet_47 rfl (lv_at hl 0 rfl) ?_
        refine gf_X11_7_26 C hP dX11_sheet_48 ?_
        refine lv_iload_n hx hb dX11_sheet_51 rfl (lv_at hl 1 rfl) ?_
        refine lv_aload_n hx hb dX11_sheet_52 rfl (lv_at hl 0 rfl) ?_
        refine gf_X11_26_26 C hP dX11_sheet_53 ?_
        refine lv_iload_n hx hb dX11_sheet_56 rfl (lv_at hl 1 rfl) ?_
        obtain ⟨g24, h⟩ := h_g h
        refine r_ald C hP 32 (by decide) rfl (vp_in_iff.mpr g24) dX11_sheet_57 ?_
        obtain ⟨g25, h⟩ := h_g h
        refine r_ast C hP hS 27 (by decide) (fun _ => rfl) (vp_in_iff.mpr g25) dX11_sheet_58 (fun H locs hP hS => ?_)
        obtain ⟨σ26, e27, h⟩ := bnd h
        have hP := hPn e27 hP
        obtain ⟨y28, e29, h⟩ := bnd h
        refine lv_iinc (v := y28) (lv' := [(1, .int y28), (0, .ref (g_ad G 26))]) hx hb dX11_sheet_59 hl (k := 1) rfl (Option.some.inj e29) (by decide) rfl (fun ls hl => ?_)
        refine lv_goto (tgt := 41) hx hb dX11_sheet_62 (by decide) ?_
        exact ih41 _ _ H locs ls h hP hS (lv_sub hl [1, 0] rfl)
  have hS : va_S (g_A G) s.heap s.heap [] := va_S.rf
  unfold f_X11_sheet at h
  obtain ⟨H, hH⟩ : ∃ H, H = s.heap := ⟨_, rfl⟩
  obtain ⟨locs, hlo⟩ : ∃ k : List Loc, k = [] := ⟨_, rfl⟩
  rw [← hH, ← hlo]
  rw [← hH] at hP
  replace hS : va_S (g_A G) s.heap H locs := by rw [hH, hlo]; exact hS
  refine lv_aload_n hx hb dX11_sheet_0 rfl (lv_at hl 0 rfl) ?_
  obtain ⟨q30, e31, h⟩ := bnd h
  refine call_v C hP hS (c_X11_readsAll e31) mi_X11_readsAll mw_1329 26 (by decide) rfl rfl ⟨Nat.le_of_ble_eq_true rfl, Nat.le_of_ble_eq_true rfl⟩ (As := []) rfl hl.1 rfl (lv_room (Nat.le_of_ble_eq_true rfl)) dX11_sheet_1 (fun H locs hP hS => ?_)
  refine lv_aload_n hx hb dX11_sheet_4 rfl (lv_at hl 0 rfl) ?_
  refine lv_iconst (v := 0) hx hb dX11_sheet_5 (by decide) ?_
  refine pf_X11_72_26 C hP hS dX11_sheet_6 (fun H locs hP hS => ?_)
  obtain ⟨σ32, e33, h⟩ := bnd h
  have hP := hPn e33 hP
  refine lv_aload_n hx hb dX11_sheet_9 rfl (lv_at hl 0 rfl) ?_
  obtain ⟨q34, e35, h⟩ := bnd h
  refine call_i C hP hS (c_X11_isWell e35) mi_X11_isWell mw_1353 26 (by decide) rfl rfl ⟨Nat.le_of_ble_eq_true rfl, Nat.le_of_ble_eq_true rfl⟩ (As := []) rfl hl.1 rfl (lv_room (Nat.le_of_ble_eq_true rfl)) dX11_sheet_10 (fun H locs hP hS => ?_)
  refine lv_if_ne (tgt := 32) hx hb dX11_sheet_13 (by decide) (fun c36 => ?_) (fun c36 => ?_)
  · replace h := h_f c36 h
    refine lv_aload_n hx hb dX11_sheet_32 rfl (lv_at hl 0 rfl) ?_
    refine gf_X11_26_26 C hP dX11_sheet_33 ?_
    refine lv_iconst (v := 0) hx hb dX11_sheet_36 (by decide) ?_
    refine lv_iconst (v := 1) hx hb dX11_sheet_37 (by decide) ?_
    refine r_astc C hP hS 32 (by decide) (fun _ => rfl) (j := 0) (by decide) (vp_in_iff.mpr (by decide)) dX11_sheet_38 (fun H locs hP hS => ?_)
    obtain ⟨σ37, e38, h⟩ := bnd h
    have hP := hPn e38 hP
    refine lv_iconst (v := 0) hx hb dX11_sheet_39 (by decide) ?_
    refine lv_istore_n (lv' := [(1, .int 0), (0, .ref (g_ad G 26))]) hx hb dX11_sheet_40 rfl hl (by decide) rfl (fun ls hl => ?_)
    exact L41 FU _ _ H locs ls h hP hS (lv_sub hl [1, 0] rfl)
  · replace h := h_t c36 h
    refine lv_aload_n hx hb dX11_sheet_16 rfl (lv_at hl 0 rfl) ?_
    refine lv_aload_n hx hb dX11_sheet_17 rfl (lv_at hl 0 rfl) ?_
    refine gf_X11_87_26 C hP dX11_sheet_18 ?_
    refine pf_X11_138_26 C hP hS dX11_sheet_21 (fun H locs hP hS => ?_)
    obtain ⟨σ39, e40, h⟩ := bnd h
    have hP := hPn e40 hP
    refine lv_ldc hx hb C.2.2.2.1 (C.2.2.2.2.1 _ mw_1387) dX11_sheet_24 ?_
    refine lv_aload_n hx hb dX11_sheet_26 rfl (lv_at hl 0 rfl) ?_
    refine gf_X11_69_26 C hP dX11_sheet_27 ?_
    refine lv_isub hx hb dX11_sheet_30 ?_
    exact ret_i C hr hlocks hP hS h dX11_sheet_31
set_option maxHeartbeats 4000000 in
set_option maxRecDepth 100000 in
theorem c_X11_fault {l : Launch} {G : GT} {lam : Lm} {σ : St} {q : Int32 × St} (h : f_X11_fault σ = some q) : Met l yX11_fault (Cond.code yX11_fault cX11_fault 1 ((some .int)) :: TB) ({ frames := 0, cells := 0, slots := 0, locals := 0 } : Room) (va_Pc [.ref (g_ad G 26)] (GW G lam σ)) (Ri q G lam) 0 0 (g_A G) := by
  refine mk_Qi (own := RX11) (by decide) (Nat.le_of_ble_eq_true rfl) rfl (fun p e s m args below meth c C hr hlocks hP ls hl => ?_)
  have hx := C.1
  have hb := C.2.1
  have hl : lv_has ls 1 [(0, .ref (g_ad G 26))] := hl
  have hS : va_S (g_A G) s.heap s.heap [] := va_S.rf
  unfold f_X11_fault at h
  refine lv_aload_n hx hb dX11_fault_0 rfl (lv_at hl 0 rfl) ?_
  refine gf_X11_138_26 C hP dX11_fault_1 ?_
  exact ret_i C hr hlocks hP hS h dX11_fault_4
set_option maxHeartbeats 4000000 in
set_option maxRecDepth 100000 in
theorem c_X11_nameAt {l : Launch} {G : GT} {lam : Lm} {σ : St} {a1 : Int32} {a2 : Int32} {q : Int32 × St} (h : f_X11_nameAt σ a1 a2 = some q) : Met l yX11_nameAt (Cond.code yX11_nameAt cX11_nameAt 6 ((some .int)) :: TB) ({ frames := 0, cells := 0, slots := 0, locals := 0 } : Room) (va_Pc [.int a1, .int a2] (GW G lam σ)) (Ri q G lam) 0 0 (g_A G) := by
  refine mk_Qi (own := RX11) (by decide) (Nat.le_of_ble_eq_true rfl) rfl (fun p e s m args below meth c C hr hlocks hP ls hl => ?_)
  have hx := C.1
  have hb := C.2.1
  have hl : lv_has ls 6 [(0, .int a1), (1, .int a2)] := hl
  have J140 : ∀ (σ : St) (x1 : Int32) (x2 : Int32) (x3 : Int32) (t0 : Int32) (H : Heap) (locs : List Loc) (ls : Array Slot), f_X11_nameAt_p140 σ x1 x2 x3 t0 = some q → va_P (g_D G) vwCl (allW G lam σ) H → va_S (g_A G) s.heap H locs → lv_has ls 6 [(1, .int x1), (2, .int x2), (3, .int x3)] → W p l e ({ frames := 0, cells := 0, slots := 0, locals := 0 } : Room) s m args below meth c H locs 0 0 (Qi q below args s G lam) (F0 m 140 ls [.int t0]) := by
    intro σ x1 x2 x3 t0 H locs ls h hP hS hl
    unfold f_X11_nameAt_p140 at h
    refine lv_istore (lv' := [(5, .int t0), (1, .int x1), (2, .int x2), (3, .int x3)]) hx hb dX11_nameAt_140 hl (by decide) rfl (fun ls hl => ?_)
    refine lv_iload_n hx hb dX11_nameAt_142 rfl (lv_at hl 1 rfl) ?_
    refine lv_if_ne (tgt := 159) hx hb dX11_nameAt_143 (by decide) (fun c20 => ?_) (fun c20 => ?_)
    · replace h := h_f c20 h
      refine lv_iload_n hx hb dX11_nameAt_159 rfl (lv_at hl 1 rfl) ?_
      refine lv_iconst (v := 1) hx hb dX11_nameAt_160 (by decide) ?_
      refine lv_icmp_ne (tgt := 168) hx hb dX11_nameAt_161 (by decide) (fun c21 => ?_) (fun c21 => ?_)
      · replace h := h_f c21 h
        refine lv_iload_n hx hb dX11_nameAt_168 rfl (lv_at hl 1 rfl) ?_
        refine lv_iconst (v := 2) hx hb dX11_nameAt_169 (by decide) ?_
        refine lv_icmp_ne (tgt := 177) hx hb dX11_nameAt_170 (by decide) (fun c22 => ?_) (fun c22 => ?_)
        · replace h := h_f c22 h
          refine lv_ldc hx hb C.2.2.2.1 (C.2.2.2.2.1 _ mw_1337) dX11_nameAt_177 ?_
          exact ret_i C hr hlocks hP hS h dX11_nameAt_179
        · replace h := h_t c22 h
          refine lv_iload_n hx hb dX11_nameAt_173 rfl (lv_at hl 3 rfl) ?_
          refine lv_goto (tgt := 179) hx hb dX11_nameAt_174 (by decide) ?_
          exact ret_i C hr hlocks hP hS h dX11_nameAt_179
      · replace h := h_t c21 h
        refine lv_iload_n hx hb dX11_nameAt_164 rfl (lv_at hl 2 rfl) ?_
        refine lv_goto (tgt := 179) hx hb dX11_nameAt_165 (by decide) ?_
        exact ret_i C hr hlocks hP hS h dX11_nameAt_179
    · replace h := h_t c20 h
      refine lv_iload hx hb dX11_nameAt_146 (lv_at hl 0 rfl) ?_
      refine lv_if_eq (tgt := 155) hx hb dX11_nameAt_148 (by decide) (fun c23 => ?_) (fun c23 => ?_)
      · replace h := h_t c23 h
        refine lv_iload_n hx hb dX11_nameAt_155 rfl (lv_at hl 3 rfl) ?_
        refine lv_goto (tgt := 179) hx hb dX11_nameAt_156 (by decide) ?_
        exact ret_i C hr hlocks hP hS h dX11_nameAt_179
      · replace h := h_f c23 h
        refine lv_iload_n hx hb dX11_nameAt_151 rfl (lv_at hl 2 rfl) ?_
        refine lv_goto (tgt := 179) hx hb dX11_nameAt_152 (by decide) ?_
        exact ret_i C hr hlocks hP hS h dX11_nameAt_179
  have J135 : ∀ (σ : St) (x1 : Int32) (x2 : Int32) (x3 : Int32) (H : Heap) (locs : List Loc) (ls : Array Slot), f_X11_nameAt_p135 σ x1 x2 x3 = some q → va_P (g_D G) vwCl (allW G lam σ) H → va_S (g_A G) s.heap H locs → lv_has ls 6 [(1, .int x1), (2, .int x2), (3, .int x3)] → W p l e ({ frames := 0, cells := 0, slots := 0, locals := 0 } : Room) s m args below meth c H locs 0 0 (Qi q below args s G lam) (F0 m 135 ls []) := by
    intro σ x1 x2 x3 H locs ls h hP hS hl
    unfold f_X11_nameAt_p135 at h
    refine lv_iconst (v := 1) hx hb dX11_nameAt_135 (by decide) ?_
    refine lv_goto (tgt := 140) hx hb dX11_nameAt_136 (by decide) ?_
    exact J140 _ _ _ _ _ H locs ls h hP hS (lv_sub hl [0, 1, 2] rfl)
  have J65 : ∀ (σ : St) (x0 : Int32) (x1 : Int32) (x2 : Int32) (x3 : Int32) (t0 : Int32) (H : Heap) (locs : List Loc) (ls : Array Slot), f_X11_nameAt_p65 σ x0 x1 x2 x3 t0 = some q → va_P (g_D G) vwCl (allW G lam σ) H → va_S (g_A G) s.heap H locs → lv_has ls 6 [(0, .int x0), (1, .int x1), (2, .int x2), (3, .int x3)] → W p l e ({ frames := 0, cells := 0, slots := 0, locals := 0 } : Room) s m args below meth c H locs 0 0 (Qi q below args s G lam) (F0 m 65 ls [.int t0]) := by
    intro σ x0 x1 x2 x3 t0 H locs ls h hP hS hl
    unfold f_X11_nameAt_p65 at h
    refine lv_istore (lv' := [(4, .int t0), (0, .int x0), (1, .int x1), (2, .int x2), (3, .int x3)]) hx hb dX11_nameAt_65 hl (by decide) rfl (fun ls hl => ?_)
    refine lv_iload_n hx hb dX11_nameAt_67 rfl (lv_at hl 1 rfl) ?_
    refine lv_iconst (v := 4) hx hb dX11_nameAt_68 (by decide) ?_
    refine lv_irem hx hb dX11_nameAt_69 (by decide) ?_
    refine lv_if_ne (tgt := 85) hx hb dX11_nameAt_70 (by decide) (fun c24 => ?_) (fun c24 => ?_)
    · replace h := h_f c24 h
      refine lv_iload_n hx hb dX11_nameAt_85 rfl (lv_at hl 1 rfl) ?_
      refine lv_iconst (v := 4) hx hb dX11_nameAt_86 (by decide) ?_
      refine lv_irem hx hb dX11_nameAt_87 (by decide) ?_
      refine lv_iconst (v := 2) hx hb dX11_nameAt_88 (by decide) ?_
      refine lv_icmp_ne (tgt := 112) hx hb dX11_nameAt_89 (by decide) (fun c25 => ?_) (fun c25 => ?_)
      · replace h := h_f c25 h
        refine lv_iload_n hx hb dX11_nameAt_112 rfl (lv_at hl 1 rfl) ?_
        refine lv_iconst (v := 1) hx hb dX11_nameAt_113 (by decide) ?_
        refine lv_icmp_eq (tgt := 135) hx hb dX11_nameAt_114 (by decide) (fun c26 => ?_) (fun c26 => ?_)
        · replace h := h_t c26 h
          exact J135 _ _ _ _ H locs ls h hP hS (lv_sub hl [2, 3, 4] rfl)
        · replace h := h_f c26 h
          refine lv_iload_n hx hb dX11_nameAt_117 rfl (lv_at hl 1 rfl) ?_
          refine lv_bipush (v := 15) hx hb dX11_nameAt_118 (by decide) ?_
          refine lv_icmp_eq (tgt := 135) hx hb dX11_nameAt_120 (by decide) (fun c27 => ?_) (fun c27 => ?_)
          · replace h := h_t c27 h
            exact J135 _ _ _ _ H locs ls h hP hS (lv_sub hl [2, 3, 4] rfl)
          · replace h := h_f c27 h
            refine lv_iload_n hx hb dX11_nameAt_123 rfl (lv_at hl 1 rfl) ?_
            refine lv_bipush (v := 7) hx hb dX11_nameAt_124 (by decide) ?_
            refine lv_icmp_eq (tgt := 135) hx hb dX11_nameAt_126 (by decide) (fun c28 => ?_) (fun c28 => ?_)
            · replace h := h_t c28 h
              exact J135 _ _ _ _ H locs ls h hP hS (lv_sub hl [2, 3, 4] rfl)
            · replace h := h_f c28 h
              refine lv_iload_n hx hb dX11_nameAt_129 rfl (lv_at hl 1 rfl) ?_
              refine lv_bipush (v := 9) hx hb dX11_nameAt_130 (by decide) ?_
              refine lv_icmp_ne (tgt := 139) hx hb dX11_nameAt_132 (by decide) (fun c29 => ?_) (fun c29 => ?_)
              · replace h := h_f c29 h
                refine lv_iconst (v := 0) hx hb dX11_nameAt_139 (by decide) ?_
                exact J140 _ _ _ _ _ H locs ls h hP hS (lv_sub hl [2, 3, 4] rfl)
              · replace h := h_t c29 h
                exact J135 _ _ _ _ H locs ls h hP hS (lv_sub hl [2, 3, 4] rfl)
      · replace h := h_t c25 h
        refine lv_iload_n hx hb dX11_nameAt_92 rfl (lv_at hl 2 rfl) ?_
        refine lv_if_ne (tgt := 100) hx hb dX11_nameAt_93 (by decide) (fun c30 => ?_) (fun c30 => ?_)
        · replace h := h_f c30 h
          refine lv_iload_n hx hb dX11_nameAt_100 rfl (lv_at hl 2 rfl) ?_
          refine lv_iconst (v := 1) hx hb dX11_nameAt_101 (by decide) ?_
          refine lv_icmp_ne (tgt := 109) hx hb dX11_nameAt_102 (by decide) (fun c31 => ?_) (fun c31 => ?_)
          · replace h := h_f c31 h
            refine lv_ldc hx hb C.2.2.2.1 (C.2.2.2.2.1 _ mw_1337) dX11_nameAt_109 ?_
            exact ret_i C hr hlocks hP hS h dX11_nameAt_111
          · replace h := h_t c31 h
            refine lv_iload_n hx hb dX11_nameAt_105 rfl (lv_at hl 4 rfl) ?_
            refine lv_goto (tgt := 111) hx hb dX11_nameAt_106 (by decide) ?_
            exact ret_i C hr hlocks hP hS h dX11_nameAt_111
        · replace h := h_t c30 h
          refine lv_iload_n hx hb dX11_nameAt_96 rfl (lv_at hl 3 rfl) ?_
          refine lv_goto (tgt := 111) hx hb dX11_nameAt_97 (by decide) ?_
          exact ret_i C hr hlocks hP hS h dX11_nameAt_111
    · replace h := h_t c24 h
      refine lv_iload_n hx hb dX11_nameAt_73 rfl (lv_at hl 2 rfl) ?_
      refine lv_if_ne (tgt := 82) hx hb dX11_nameAt_74 (by decide) (fun c32 => ?_) (fun c32 => ?_)
      · replace h := h_f c32 h
        refine lv_ldc hx hb C.2.2.2.1 (C.2.2.2.2.1 _ mw_1337) dX11_nameAt_82 ?_
        exact ret_i C hr hlocks hP hS h dX11_nameAt_84
      · replace h := h_t c32 h
        refine lv_iload hx hb dX11_nameAt_77 (lv_at hl 0 rfl) ?_
        refine lv_goto (tgt := 84) hx hb dX11_nameAt_79 (by decide) ?_
        exact ret_i C hr hlocks hP hS h dX11_nameAt_84
  have J32 : ∀ (σ : St) (x0 : Int32) (x1 : Int32) (x2 : Int32) (t0 : Int32) (H : Heap) (locs : List Loc) (ls : Array Slot), f_X11_nameAt_p32 σ x0 x1 x2 t0 = some q → va_P (g_D G) vwCl (allW G lam σ) H → va_S (g_A G) s.heap H locs → lv_has ls 6 [(0, .int x0), (1, .int x1), (2, .int x2)] → W p l e ({ frames := 0, cells := 0, slots := 0, locals := 0 } : Room) s m args below meth c H locs 0 0 (Qi q below args s G lam) (F0 m 32 ls [.int t0]) := by
    intro σ x0 x1 x2 t0 H locs ls h hP hS hl
    unfold f_X11_nameAt_p32 at h
    refine lv_istore_n (lv' := [(3, .int t0), (0, .int x0), (1, .int x1), (2, .int x2)]) hx hb dX11_nameAt_32 rfl hl (by decide) rfl (fun ls hl => ?_)
    refine lv_iload_n hx hb dX11_nameAt_33 rfl (lv_at hl 1 rfl) ?_
    refine lv_if_ne (tgt := 42) hx hb dX11_nameAt_34 (by decide) (fun c33 => ?_) (fun c33 => ?_)
    · replace h := h_f c33 h
      refine lv_iload_n hx hb dX11_nameAt_42 rfl (lv_at hl 1 rfl) ?_
      refine lv_iconst (v := 4) hx hb dX11_nameAt_43 (by decide) ?_
      refine lv_icmp_ne (tgt := 52) hx hb dX11_nameAt_44 (by decide) (fun c34 => ?_) (fun c34 => ?_)
      · replace h := h_f c34 h
        refine lv_iload_n hx hb dX11_nameAt_52 rfl (lv_at hl 1 rfl) ?_
        refine lv_bipush (v := 8) hx hb dX11_nameAt_53 (by decide) ?_
        refine lv_icmp_ne (tgt := 63) hx hb dX11_nameAt_55 (by decide) (fun c35 => ?_) (fun c35 => ?_)
        · replace h := h_f c35 h
          refine lv_bipush (v := 119) hx hb dX11_nameAt_63 (by decide) ?_
          exact J65 _ _ _ _ _ _ H locs ls h hP hS (lv_sub hl [1, 2, 3, 0] rfl)
        · replace h := h_t c35 h
          refine lv_bipush (v := 115) hx hb dX11_nameAt_58 (by decide) ?_
          refine lv_goto (tgt := 65) hx hb dX11_nameAt_60 (by decide) ?_
          exact J65 _ _ _ _ _ _ H locs ls h hP hS (lv_sub hl [1, 2, 3, 0] rfl)
      · replace h := h_t c34 h
        refine lv_bipush (v := 101) hx hb dX11_nameAt_47 (by decide) ?_
        refine lv_goto (tgt := 65) hx hb dX11_nameAt_49 (by decide) ?_
        exact J65 _ _ _ _ _ _ H locs ls h hP hS (lv_sub hl [1, 2, 3, 0] rfl)
    · replace h := h_t c33 h
      refine lv_bipush (v := 110) hx hb dX11_nameAt_37 (by decide) ?_
      refine lv_goto (tgt := 65) hx hb dX11_nameAt_39 (by decide) ?_
      exact J65 _ _ _ _ _ _ H locs ls h hP hS (lv_sub hl [1, 2, 3, 0] rfl)
  have J18 : ∀ (σ : St) (x0 : Int32) (x1 : Int32) (t0 : Int32) (H : Heap) (locs : List Loc) (ls : Array Slot), f_X11_nameAt_p18 σ x0 x1 t0 = some q → va_P (g_D G) vwCl (allW G lam σ) H → va_S (g_A G) s.heap H locs → lv_has ls 6 [(0, .int x0), (1, .int x1)] → W p l e ({ frames := 0, cells := 0, slots := 0, locals := 0 } : Room) s m args below meth c H locs 0 0 (Qi q below args s G lam) (F0 m 18 ls [.int t0]) := by
    intro σ x0 x1 t0 H locs ls h hP hS hl
    unfold f_X11_nameAt_p18 at h
    refine lv_istore_n (lv' := [(2, .int t0), (0, .int x0), (1, .int x1)]) hx hb dX11_nameAt_18 rfl hl (by decide) rfl (fun ls hl => ?_)
    refine lv_iload_n hx hb dX11_nameAt_19 rfl (lv_at hl 1 rfl) ?_
    refine lv_bipush (v := 8) hx hb dX11_nameAt_20 (by decide) ?_
    refine lv_icmp_ge (tgt := 30) hx hb dX11_nameAt_22 (by decide) (fun c36 => ?_) (fun c36 => ?_)
    · replace h := h_t c36 h
      refine lv_bipush (v := 119) hx hb dX11_nameAt_30 (by decide) ?_
      exact J32 _ _ _ _ _ H locs ls h hP hS (lv_sub hl [1, 2, 0] rfl)
    · replace h := h_f c36 h
      refine lv_bipush (v := 101) hx hb dX11_nameAt_25 (by decide) ?_
      refine lv_goto (tgt := 32) hx hb dX11_nameAt_27 (by decide) ?_
      exact J32 _ _ _ _ _ H locs ls h hP hS (lv_sub hl [1, 2, 0] rfl)
  have J11 : ∀ (σ : St) (x0 : Int32) (x1 : Int32) (H : Heap) (locs : List Loc) (ls : Array Slot), f_X11_nameAt_p11 σ x0 x1 = some q → va_P (g_D G) vwCl (allW G lam σ) H → va_S (g_A G) s.heap H locs → lv_has ls 6 [(0, .int x0), (1, .int x1)] → W p l e ({ frames := 0, cells := 0, slots := 0, locals := 0 } : Room) s m args below meth c H locs 0 0 (Qi q below args s G lam) (F0 m 11 ls []) := by
    intro σ x0 x1 H locs ls h hP hS hl
    unfold f_X11_nameAt_p11 at h
    refine lv_bipush (v := 110) hx hb dX11_nameAt_11 (by decide) ?_
    refine lv_goto (tgt := 18) hx hb dX11_nameAt_13 (by decide) ?_
    exact J18 _ _ _ _ H locs ls h hP hS (lv_sub hl [0, 1] rfl)
  have hS : va_S (g_A G) s.heap s.heap [] := va_S.rf
  unfold f_X11_nameAt at h
  obtain ⟨H, hH⟩ : ∃ H, H = s.heap := ⟨_, rfl⟩
  obtain ⟨locs, hlo⟩ : ∃ k : List Loc, k = [] := ⟨_, rfl⟩
  rw [← hH, ← hlo]
  rw [← hH] at hP
  replace hS : va_S (g_A G) s.heap H locs := by rw [hH, hlo]; exact hS
  refine lv_iload_n hx hb dX11_nameAt_0 rfl (lv_at hl 0 rfl) ?_
  refine lv_iconst (v := 4) hx hb dX11_nameAt_1 (by decide) ?_
  refine lv_icmp_lt (tgt := 11) hx hb dX11_nameAt_2 (by decide) (fun c37 => ?_) (fun c37 => ?_)
  · replace h := h_t c37 h
    exact J11 _ _ _ H locs ls h hP hS (lv_sub hl [0, 1] rfl)
  · replace h := h_f c37 h
    refine lv_iload_n hx hb dX11_nameAt_5 rfl (lv_at hl 0 rfl) ?_
    refine lv_bipush (v := 12) hx hb dX11_nameAt_6 (by decide) ?_
    refine lv_icmp_le (tgt := 16) hx hb dX11_nameAt_8 (by decide) (fun c38 => ?_) (fun c38 => ?_)
    · replace h := h_t c38 h
      refine lv_bipush (v := 115) hx hb dX11_nameAt_16 (by decide) ?_
      exact J18 _ _ _ _ H locs ls h hP hS (lv_sub hl [0, 1] rfl)
    · replace h := h_f c38 h
      exact J11 _ _ _ H locs ls h hP hS (lv_sub hl [0, 1] rfl)
set_option maxHeartbeats 4000000 in
set_option maxRecDepth 100000 in
theorem c_X11_course {l : Launch} {G : GT} {lam : Lm} {σ : St} {q : Int32 × St} (h : f_X11_course σ = some q) : Met l yX11_course (Cond.code yX11_course cX11_course 5 ((some .int)) :: TB) ({ frames := 1, cells := 0, slots := 0, locals := 25 } : Room) (va_Pc [.ref (g_ad G 26)] (GW G lam σ)) (Ri q G lam) 0 0 (g_A G) := by
  refine mk_Qi (own := RX11) (by decide) (Nat.le_of_ble_eq_true rfl) rfl (fun p e s m args below meth c C hr hlocks hP ls hl => ?_)
  have hx := C.1
  have hb := C.2.1
  have hl : lv_has ls 5 [(0, .ref (g_ad G 26))] := hl
  have L12 : ∀ (n12 : Nat) (σ : St) (x1 : Int32) (x2 : Int32) (H : Heap) (locs : List Loc) (ls : Array Slot), fx (F_X11_course_h12) z_X11_course_h12 n12 σ x1 x2 = some q → va_P (g_D G) vwCl (allW G lam σ) H → va_S (g_A G) s.heap H locs → lv_has ls 5 [(0, .ref (g_ad G 26)), (1, .int x1), (2, .int x2)] → W p l e ({ frames := 1, cells := 0, slots := 0, locals := 25 } : Room) s m args below meth c H locs 0 0 (Qi q below args s G lam) (F0 m 12 ls []) := by
    intro n12
    induction n12 with
    | zero => intro σ x1 x2 H locs ls h hP hS hl; exact absurd h (by intro h9; cases h9)
    | succ n12 ih12 =>
      have J84 : ∀ (σ : St) (x1 : Int32) (x2 : Int32) (x3 : Int32) (H : Heap) (locs : List Loc) (ls : Array Slot), f_X11_course_p84 (fx (F_X11_course_h12) z_X11_course_h12 n12) σ x1 x2 x3 = some q → va_P (g_D G) vwCl (allW G lam σ) H → va_S (g_A G) s.heap H locs → lv_has ls 5 [(0, .ref (g_ad G 26)), (1, .int x1), (2, .int x2), (3, .int x3)] → W p l e ({ frames := 1, cells := 0, slots := 0, locals := 25 } : Room) s m args below meth c H locs 0 0 (Qi q below args s G lam) (F0 m 84 ls []) := by
        intro σ x1 x2 x3 H locs ls h hP hS hl
        unfold f_X11_course_p84 at h
        refine lv_iload_n hx hb dX11_course_84 rfl (lv_at hl 3 rfl) ?_
        refine lv_if_eq (tgt := 90) hx hb dX11_course_85 (by decide) (fun c20 => ?_) (fun c20 => ?_)
        · replace h := h_t c20 h
          obtain ⟨y21, e22, h⟩ := bnd h
          refine lv_iinc (v := y21) (lv' := [(2, .int y21), (0, .ref (g_ad G 26)), (1, .int x1), (3, .int x3)]) hx hb dX11_course_90 hl (k := 2) rfl (Option.some.inj e22) (by decide) rfl (fun ls hl => ?_)
          refine lv_goto (tgt := 12) hx hb dX11_course_93 (by decide) ?_
          exact ih12 _ _ _ H locs ls h hP hS (lv_sub hl [1, 2, 0] rfl)
        · replace h := h_f c20 h
          refine lv_iload_n hx hb dX11_course_88 rfl (lv_at hl 2 rfl) ?_
          exact ret_i C hr hlocks hP hS h dX11_course_89
      have L46 : ∀ (n46 : Nat) (σ : St) (x1 : Int32) (x2 : Int32) (x3 : Int32) (x4 : Int32) (H : Heap) (locs : List Loc) (ls : Array Slot), fx (F_X11_course_h46 (fx (F_X11_course_h12) z_X11_course_h12 n12)) z_X11_course_h46 n46 σ x1 x2 x3 x4 = some q → va_P (g_D G) vwCl (allW G lam σ) H → va_S (g_A G) s.heap H locs → lv_has ls 5 [(0, .ref (g_ad G 26)), (1, .int x1), (2, .int x2), (3, .int x3), (4, .int x4)] → W p l e ({ frames := 1, cells := 0, slots := 0, locals := 25 } : Room) s m args below meth c H locs 0 0 (Qi q below args s G lam) (F0 m 46 ls []) := by
        intro n46
        induction n46 with
        | zero => intro σ x1 x2 x3 x4 H locs ls h hP hS hl; exact absurd h (by intro h9; cases h9)
        | succ n46 ih46 =>
          have J77 : ∀ (σ : St) (x1 : Int32) (x2 : Int32) (x4 : Int32) (t0 : Int32) (H : Heap) (locs : List Loc) (ls : Array Slot), f_X11_course_p77 (fx (F_X11_course_h12) z_X11_course_h12 n12) (fx (F_X11_course_h46 (fx (F_X11_course_h12) z_X11_course_h12 n12)) z_X11_course_h46 n46) σ x1 x2 x4 t0 = some q → va_P (g_D G) vwCl (allW G lam σ) H → va_S (g_A G) s.heap H locs → lv_has ls 5 [(0, .ref (g_ad G 26)), (1, .int x1), (2, .int x2), (4, .int x4)] → W p l e ({ frames := 1, cells := 0, slots := 0, locals := 25 } : Room) s m args below meth c H locs 0 0 (Qi q below args s G lam) (F0 m 77 ls [.int t0]) := by
            intro σ x1 x2 x4 t0 H locs ls h hP hS hl
            unfold f_X11_course_p77 at h
            refine lv_istore_n (lv' := [(3, .int t0), (0, .ref (g_ad G 26)), (1, .int x1), (2, .int x2), (4, .int x4)]) hx hb dX11_course_77 rfl hl (by decide) rfl (fun ls hl => ?_)
            obtain ⟨y23, e24, h⟩ := bnd h
            refine lv_iinc (v := y23) (lv' := [(4, .int y23), (3, .int t0), (0, .ref (g_ad G 26)), (1, .int x1), (2, .int x2)]) hx hb dX11_course_78 hl (k := 4) rfl (Option.some.inj e24) (by decide) rfl (fun ls hl => ?_)
            refine lv_goto (tgt := 46) hx hb dX11_course_81 (by decide) ?_
            exact ih46 _ _ _ _ _ H locs ls h hP hS (lv_sub hl [2, 3, 4, 1, 0] rfl)
          intro σ x1 x2 x3 x4 H locs ls h hP hS hl
          change F_X11_course_h46 (fx (F_X11_course_h12) z_X11_course_h12 n12) (fx (F_X11_course_h46 (fx (F_X11_course_h12) z_X11_course_h12 n12)) z_X11_course_h46 n46) σ x1 x2 x3 x4 = some q at h
          unfold F_X11_course_h46 at h
          refine lv_iload hx hb dX11_course_46 (lv_at hl 4 rfl) ?_
          refine lv_iload_n hx hb dX11_course_48 rfl (lv_at hl 1 rfl) ?_
          refine lv_icmp_ge (tgt := 84) hx hb dX11_course_49 (by decide) (fun c25 => ?_) (fun c25 => ?_)
          · replace h := h_t c25 h
            exact J84 _ _ _ _ H locs ls h hP hS (lv_sub hl [0, 1, 2, 3] rfl)
          · replace h := h_f c25 h
            refine lv_iload_n hx hb dX11_course_52 rfl (lv_at hl 3 rfl) ?_
            refine lv_if_eq (tgt := 84) hx hb dX11_course_53 (by decide) (fun c26 => ?_) (fun c26 => ?_)
            · replace h := h_t c26 h
              exact J84 _ _ _ _ H locs ls h hP hS (lv_sub hl [0, 1, 2, 3] rfl)
            · replace h := h_f c26 h
              refine lv_iload_n hx hb dX11_course_56 rfl (lv_at hl 2 rfl) ?_
              refine lv_iload hx hb dX11_course_57 (lv_at hl 4 rfl) ?_
              obtain ⟨q27, e28, h⟩ := bnd h
              refine scall_i C hP hS (c_X11_nameAt e28) ms_X11_nameAt mw_1396 ⟨Nat.le_of_ble_eq_true rfl, Nat.le_of_ble_eq_true rfl⟩ (As := [.int x2, .int x4]) rfl hl.1 rfl (lv_room (Nat.le_of_ble_eq_true rfl)) dX11_course_59 (fun H locs hP hS => ?_)
              refine lv_aload_n hx hb dX11_course_62 rfl (lv_at hl 0 rfl) ?_
              refine gf_X11_17_26 C hP dX11_course_63 ?_
              refine lv_iload hx hb dX11_course_66 (lv_at hl 4 rfl) ?_
              obtain ⟨g29, h⟩ := h_g h
              refine r_ald C hP 29 (by decide) rfl (vp_in_iff.mpr g29) dX11_course_68 ?_
              refine lv_icmp_ne (tgt := 76) hx hb dX11_course_69 (by decide) (fun c30 => ?_) (fun c30 => ?_)
              · replace h := h_f c30 h
                refine lv_iconst (v := 0) hx hb dX11_course_76 (by decide) ?_
                exact J77 _ _ _ _ _ H locs ls h hP hS (lv_sub hl [0, 1, 2, 4] rfl)
              · replace h := h_t c30 h
                refine lv_iconst (v := 1) hx hb dX11_course_72 (by decide) ?_
                refine lv_goto (tgt := 77) hx hb dX11_course_73 (by decide) ?_
                exact J77 _ _ _ _ _ H locs ls h hP hS (lv_sub hl [0, 1, 2, 4] rfl)
      have J42 : ∀ (σ : St) (x1 : Int32) (x2 : Int32) (t0 : Int32) (H : Heap) (locs : List Loc) (ls : Array Slot), f_X11_course_p42 (fx (F_X11_course_h12) z_X11_course_h12 n12) σ x1 x2 t0 = some q → va_P (g_D G) vwCl (allW G lam σ) H → va_S (g_A G) s.heap H locs → lv_has ls 5 [(0, .ref (g_ad G 26)), (1, .int x1), (2, .int x2)] → W p l e ({ frames := 1, cells := 0, slots := 0, locals := 25 } : Room) s m args below meth c H locs 0 0 (Qi q below args s G lam) (F0 m 42 ls [.int t0]) := by
        intro σ x1 x2 t0 H locs ls h hP hS hl
        unfold f_X11_course_p42 at h
        refine lv_istore_n (lv' := [(3, .int t0), (0, .ref (g_ad G 26)), (1, .int x1), (2, .int x2)]) hx hb dX11_course_42 rfl hl (by decide) rfl (fun ls hl => ?_)
        refine lv_iconst (v := 0) hx hb dX11_course_43 (by decide) ?_
        refine lv_istore (lv' := [(4, .int 0), (3, .int t0), (0, .ref (g_ad G 26)), (1, .int x1), (2, .int x2)]) hx hb dX11_course_44 hl (by decide) rfl (fun ls hl => ?_)
        exact L46 FU _ _ _ _ _ H locs ls h hP hS (lv_sub hl [2, 3, 4, 1, 0] rfl)
      have J41 : ∀ (σ : St) (x1 : Int32) (x2 : Int32) (H : Heap) (locs : List Loc) (ls : Array Slot), f_X11_course_p41 (fx (F_X11_course_h12) z_X11_course_h12 n12) σ x1 x2 = some q → va_P (g_D G) vwCl (allW G lam σ) H → va_S (g_A G) s.heap H locs → lv_has ls 5 [(0, .ref (g_ad G 26)), (1, .int x1), (2, .int x2)] → W p l e ({ frames := 1, cells := 0, slots := 0, locals := 25 } : Room) s m args below meth c H locs 0 0 (Qi q below args s G lam) (F0 m 41 ls []) := by
        intro σ x1 x2 H locs ls h hP hS hl
        unfold f_X11_course_p41 at h
        refine lv_iconst (v := 0) hx hb dX11_course_41 (by decide) ?_
        exact J42 _ _ _ _ H locs ls h hP hS (lv_sub hl [0, 1, 2] rfl)
      intro σ x1 x2 H locs ls h hP hS hl
      change F_X11_course_h12 (fx (F_X11_course_h12) z_X11_course_h12 n12) σ x1 x2 = some q at h
      unfold F_X11_course_h12 at h
      refine lv_iload_n hx hb dX11_course_12 rfl (lv_at hl 2 rfl) ?_
      refine lv_bipush (v := 16) hx hb dX11_course_13 (by decide) ?_
      refine lv_icmp_ge (tgt := 96) hx hb dX11_course_15 (by decide) (fun c31 => ?_) (fun c31 => ?_)
      · replace h := h_t c31 h
        refine lv_ldc hx hb C.2.2.2.1 (C.2.2.2.2.1 _ mw_1337) dX11_course_96 ?_
        exact ret_i C hr hlocks hP hS h dX11_course_98
      · replace h := h_f c31 h
        refine lv_iload_n hx hb dX11_course_18 rfl (lv_at hl 1 rfl) ?_
        refine lv_if_le (tgt := 41) hx hb dX11_course_19 (by decide) (fun c32 => ?_) (fun c32 => ?_)
        · replace h := h_t c32 h
          exact J41 _ _ _ H locs ls h hP hS (lv_sub hl [0, 1, 2] rfl)
        · replace h := h_f c32 h
          refine lv_iload_n hx hb dX11_course_22 rfl (lv_at hl 1 rfl) ?_
          refine lv_iconst (v := 4) hx hb dX11_course_23 (by decide) ?_
          refine lv_icmp_ge (tgt := 41) hx hb dX11_course_24 (by decide) (fun c33 => ?_) (fun c33 => ?_)
          · replace h := h_t c33 h
            exact J41 _ _ _ H locs ls h hP hS (lv_sub hl [0, 1, 2] rfl)
          · replace h := h_f c33 h
            refine lv_iload_n hx hb dX11_course_27 rfl (lv_at hl 2 rfl) ?_
            refine lv_iload_n hx hb dX11_course_28 rfl (lv_at hl 1 rfl) ?_
            obtain ⟨q34, e35, h⟩ := bnd h
            refine scall_i C hP hS (c_X11_nameAt e35) ms_X11_nameAt mw_1396 ⟨Nat.le_of_ble_eq_true rfl, Nat.le_of_ble_eq_true rfl⟩ (As := [.int x2, .int x1]) rfl hl.1 rfl (lv_room (Nat.le_of_ble_eq_true rfl)) dX11_course_29 (fun H locs hP hS => ?_)
            refine lv_ldc hx hb C.2.2.2.1 (C.2.2.2.2.1 _ mw_1337) dX11_course_32 ?_
            refine lv_icmp_ne (tgt := 41) hx hb dX11_course_34 (by decide) (fun c36 => ?_) (fun c36 => ?_)
            · replace h := h_f c36 h
              exact J41 _ _ _ H locs ls h hP hS (lv_sub hl [0, 1, 2] rfl)
            · replace h := h_t c36 h
              refine lv_iconst (v := 1) hx hb dX11_course_37 (by decide) ?_
              refine lv_goto (tgt := 42) hx hb dX11_course_38 (by decide) ?_
              exact J42 _ _ _ _ H locs ls h hP hS (lv_sub hl [0, 1, 2] rfl)
  have hS : va_S (g_A G) s.heap s.heap [] := va_S.rf
  unfold f_X11_course at h
  obtain ⟨H, hH⟩ : ∃ H, H = s.heap := ⟨_, rfl⟩
  obtain ⟨locs, hlo⟩ : ∃ k : List Loc, k = [] := ⟨_, rfl⟩
  rw [← hH, ← hlo]
  rw [← hH] at hP
  replace hS : va_S (g_A G) s.heap H locs := by rw [hH, hlo]; exact hS
  refine lv_aload_n hx hb dX11_course_0 rfl (lv_at hl 0 rfl) ?_
  refine gf_X11_72_26 C hP dX11_course_1 ?_
  obtain ⟨y37, e38, h⟩ := bnd h
  refine r_nm e38 ?_
  refine lv_istore_n (lv' := [(1, .int y37), (0, .ref (g_ad G 26))]) hx hb dX11_course_4 rfl hl (by decide) rfl (fun ls hl => ?_)
  refine lv_aload_n hx hb dX11_course_5 rfl (lv_at hl 1 rfl) ?_
  refine lv_iconst (v := 0) hx hb dX11_course_6 (by decide) ?_
  refine pf_X11_72_26 C hP hS dX11_course_7 (fun H locs hP hS => ?_)
  obtain ⟨σ39, e40, h⟩ := bnd h
  have hP := hPn e40 hP
  refine lv_iconst (v := 0) hx hb dX11_course_10 (by decide) ?_
  refine lv_istore_n (lv' := [(2, .int 0), (1, .int y37), (0, .ref (g_ad G 26))]) hx hb dX11_course_11 rfl hl (by decide) rfl (fun ls hl => ?_)
  exact L12 FU _ _ _ H locs ls h hP hS (lv_sub hl [2, 1, 0] rfl)
set_option maxHeartbeats 4000000 in
set_option maxRecDepth 100000 in
theorem c_X11_undo {l : Launch} {G : GT} {lam : Lm} {σ : St} {q : Int32 × St} (h : f_X11_undo σ = some q) : Met l yX11_undo (Cond.code yX11_undo cX11_undo 1 ((some .int)) :: TB) ({ frames := 1, cells := 0, slots := 0, locals := 23 } : Room) (va_Pc [.ref (g_ad G 26)] (GW G lam σ)) (Ri q G lam) 0 0 (g_A G) := by
  refine mk_Qi (own := RX11) (by decide) (Nat.le_of_ble_eq_true rfl) rfl (fun p e s m args below meth c C hr hlocks hP ls hl => ?_)
  have hx := C.1
  have hb := C.2.1
  have hl : lv_has ls 1 [(0, .ref (g_ad G 26))] := hl
  have hS : va_S (g_A G) s.heap s.heap [] := va_S.rf
  unfold f_X11_undo at h
  refine lv_aload_n hx hb dX11_undo_0 rfl (lv_at hl 0 rfl) ?_
  refine gf_X11_50_26 C hP dX11_undo_1 ?_
  refine lv_if_ne (tgt := 10) hx hb dX11_undo_4 (by decide) (fun c6 => ?_) (fun c6 => ?_)
  · replace h := h_f c6 h
    refine lv_aload_n hx hb dX11_undo_10 rfl (lv_at hl 0 rfl) ?_
    refine lv_dup hx hb dX11_undo_11 rfl ?_
    refine gf_X11_50_26 C hP dX11_undo_12 ?_
    refine lv_iconst (v := 1) hx hb dX11_undo_15 (by decide) ?_
    refine lv_isub hx hb dX11_undo_16 ?_
    refine pf_X11_50_26 C hP hS dX11_undo_17 (fun H locs hP hS => ?_)
    obtain ⟨σ7, e8, h⟩ := bnd h
    have hP := hPn e8 hP
    refine lv_aload_n hx hb dX11_undo_20 rfl (lv_at hl 0 rfl) ?_
    refine lv_sipush (v := 237) hx hb dX11_undo_21 (by decide) ?_
    refine lv_bipush (v := 79) hx hb dX11_undo_24 (by decide) ?_
    refine lv_aload_n hx hb dX11_undo_26 rfl (lv_at hl 0 rfl) ?_
    refine gf_X11_50_26 C hP dX11_undo_27 ?_
    refine lv_imul hx hb dX11_undo_30 ?_
    refine lv_iadd hx hb dX11_undo_31 ?_
    refine lv_iconst (v := 0) hx hb dX11_undo_32 (by decide) ?_
    obtain ⟨q9, e10, h⟩ := bnd h
    refine call_v C hP hS (c_X11_copy e10) mi_X11_copy mw_1404 26 (by decide) rfl rfl ⟨Nat.le_of_ble_eq_true rfl, Nat.le_of_ble_eq_true rfl⟩ (As := [.int (237 + (79 * (σ7 26 2))), .int 0]) rfl hl.1 rfl (lv_room (Nat.le_of_ble_eq_true rfl)) dX11_undo_33 (fun H locs hP hS => ?_)
    refine lv_aload_n hx hb dX11_undo_36 rfl (lv_at hl 0 rfl) ?_
    refine gf_X11_50_26 C hP dX11_undo_37 ?_
    exact ret_i C hr hlocks hP hS h dX11_undo_40
  · replace h := h_t c6 h
    refine lv_ldc hx hb C.2.2.2.1 (C.2.2.2.2.1 _ mw_1403) dX11_undo_7 ?_
    exact ret_i C hr hlocks hP hS h dX11_undo_9
set_option maxHeartbeats 4000000 in
set_option maxRecDepth 100000 in
theorem c_X11_isSheet {l : Launch} {G : GT} {lam : Lm} {σ : St} {q : Int32 × St} (h : f_X11_isSheet σ = some q) : Met l yX11_isSheet (Cond.code yX11_isSheet cX11_isSheet 1 ((some .boolean)) :: TB) ({ frames := 0, cells := 0, slots := 0, locals := 0 } : Room) (va_Pc [.ref (g_ad G 26)] (GW G lam σ)) (Ri q G lam) 0 0 (g_A G) := by
  refine mk_Qi (own := RX11) (by decide) (Nat.le_of_ble_eq_true rfl) rfl (fun p e s m args below meth c C hr hlocks hP ls hl => ?_)
  have hx := C.1
  have hb := C.2.1
  have hl : lv_has ls 1 [(0, .ref (g_ad G 26))] := hl
  have hS : va_S (g_A G) s.heap s.heap [] := va_S.rf
  unfold f_X11_isSheet at h
  refine lv_aload_n hx hb dX11_isSheet_0 rfl (lv_at hl 0 rfl) ?_
  refine gf_X11_7_26 C hP dX11_isSheet_1 ?_
  refine lv_iconst (v := 0) hx hb dX11_isSheet_4 (by decide) ?_
  refine r_aldc C hP 27 (by decide) rfl (j := 0) (by decide) (vp_in_iff.mpr (by decide)) dX11_isSheet_5 ?_
  refine lv_iconst (v := 1) hx hb dX11_isSheet_6 (by decide) ?_
  refine lv_icmp_ne (tgt := 14) hx hb dX11_isSheet_7 (by decide) (fun c2 => ?_) (fun c2 => ?_)
  · replace h := h_f c2 h
    refine lv_iconst (v := 0) hx hb dX11_isSheet_14 (by decide) ?_
    exact ret_z C hr hlocks hP hS h (Or.inl rfl) dX11_isSheet_15
  · replace h := h_t c2 h
    refine lv_iconst (v := 1) hx hb dX11_isSheet_10 (by decide) ?_
    refine lv_goto (tgt := 15) hx hb dX11_isSheet_11 (by decide) ?_
    exact ret_z C hr hlocks hP hS h (Or.inr rfl) dX11_isSheet_15
set_option maxHeartbeats 4000000 in
set_option maxRecDepth 100000 in
theorem c_X11_isThing {l : Launch} {G : GT} {lam : Lm} {σ : St} {a1 : Int32} {q : Int32 × St} (h : f_X11_isThing σ a1 = some q) : Met l yX11_isThing (Cond.code yX11_isThing cX11_isThing 2 ((some .boolean)) :: TB) ({ frames := 1, cells := 0, slots := 0, locals := 25 } : Room) (va_Pc [.ref (g_ad G 26), .int a1] (GW G lam σ)) (Ri q G lam) 0 0 (g_A G) := by
  refine mk_Qi (own := RX11) (by decide) (Nat.le_of_ble_eq_true rfl) rfl (fun p e s m args below meth c C hr hlocks hP ls hl => ?_)
  have hx := C.1
  have hb := C.2.1
  have hl : lv_has ls 2 [(0, .ref (g_ad G 26)), (1, .int a1)] := hl
  have hS : va_S (g_A G) s.heap s.heap [] := va_S.rf
  unfold f_X11_isThing at h
  refine lv_iload_n hx hb dX11_isThing_0 rfl (lv_at hl 1 rfl) ?_
  refine lv_i2l hx hb dX11_isThing_1 rfl ?_
  refine lv_lconst (v := 0) hx hb dX11_isThing_2 (by decide) ?_
  refine lv_aload_n hx hb dX11_isThing_3 rfl (lv_at hl 0 rfl) ?_
  refine gf_X11_7_26 C hP dX11_isThing_4 ?_
  refine lv_bipush (v := 13) hx hb dX11_isThing_7 (by decide) ?_
  refine r_aldc C hP 27 (by decide) rfl (j := 13) (by decide) (vp_in_iff.mpr (by decide)) dX11_isThing_9 ?_
  refine lv_iconst (v := 1) hx hb dX11_isThing_10 (by decide) ?_
  refine lv_isub hx hb dX11_isThing_11 ?_
  refine lv_i2l hx hb dX11_isThing_12 rfl ?_
  obtain ⟨q4, e5, h⟩ := bnd h
  refine scall_i C hP hS (c_X11_in e5) ms_X11_in mw_1320 ⟨Nat.le_of_ble_eq_true rfl, Nat.le_of_ble_eq_true rfl⟩ (As := [.long ((a1 : Int32).toInt64), .long (0), .long (((σ 27 13) - 1 : Int32).toInt64)]) rfl hl.1 rfl (lv_room (Nat.le_of_ble_eq_true rfl)) dX11_isThing_13 (fun H locs hP hS => ?_)
  obtain ⟨g6, h⟩ := h_g h
  exact ret_z C hr hlocks hP hS h g6 dX11_isThing_16
set_option maxHeartbeats 4000000 in
set_option maxRecDepth 100000 in
theorem c_X11_isLeg {l : Launch} {G : GT} {lam : Lm} {σ : St} {a1 : Int32} {q : Int32 × St} (h : f_X11_isLeg σ a1 = some q) : Met l yX11_isLeg (Cond.code yX11_isLeg cX11_isLeg 2 ((some .boolean)) :: TB) ({ frames := 1, cells := 0, slots := 0, locals := 25 } : Room) (va_Pc [.ref (g_ad G 26), .int a1] (GW G lam σ)) (Ri q G lam) 0 0 (g_A G) := by
  refine mk_Qi (own := RX11) (by decide) (Nat.le_of_ble_eq_true rfl) rfl (fun p e s m args below meth c C hr hlocks hP ls hl => ?_)
  have hx := C.1
  have hb := C.2.1
  have hl : lv_has ls 2 [(0, .ref (g_ad G 26)), (1, .int a1)] := hl
  have hS : va_S (g_A G) s.heap s.heap [] := va_S.rf
  unfold f_X11_isLeg at h
  refine lv_iload_n hx hb dX11_isLeg_0 rfl (lv_at hl 1 rfl) ?_
  refine lv_i2l hx hb dX11_isLeg_1 rfl ?_
  refine lv_lconst (v := 0) hx hb dX11_isLeg_2 (by decide) ?_
  refine lv_aload_n hx hb dX11_isLeg_3 rfl (lv_at hl 0 rfl) ?_
  refine gf_X11_7_26 C hP dX11_isLeg_4 ?_
  refine lv_bipush (v := 54) hx hb dX11_isLeg_7 (by decide) ?_
  refine r_aldc C hP 27 (by decide) rfl (j := 54) (by decide) (vp_in_iff.mpr (by decide)) dX11_isLeg_9 ?_
  refine lv_iconst (v := 1) hx hb dX11_isLeg_10 (by decide) ?_
  refine lv_isub hx hb dX11_isLeg_11 ?_
  refine lv_i2l hx hb dX11_isLeg_12 rfl ?_
  obtain ⟨q4, e5, h⟩ := bnd h
  refine scall_i C hP hS (c_X11_in e5) ms_X11_in mw_1320 ⟨Nat.le_of_ble_eq_true rfl, Nat.le_of_ble_eq_true rfl⟩ (As := [.long ((a1 : Int32).toInt64), .long (0), .long (((σ 27 54) - 1 : Int32).toInt64)]) rfl hl.1 rfl (lv_room (Nat.le_of_ble_eq_true rfl)) dX11_isLeg_13 (fun H locs hP hS => ?_)
  obtain ⟨g6, h⟩ := h_g h
  exact ret_z C hr hlocks hP hS h g6 dX11_isLeg_16
set_option maxHeartbeats 4000000 in
set_option maxRecDepth 100000 in
theorem c_X11_of {l : Launch} {G : GT} {lam : Lm} {σ : St} {a1 : Int32} {a2 : Int32} {q : Int32 × St} (h : f_X11_of σ a1 a2 = some q) : Met l yX11_of (Cond.code yX11_of cX11_of 3 ((some .int)) :: TB) ({ frames := 0, cells := 0, slots := 0, locals := 0 } : Room) (va_Pc [.ref (g_ad G 26), .int a1, .int a2] (GW G lam σ)) (Ri q G lam) 0 0 (g_A G) := by
  refine mk_Qi (own := RX11) (by decide) (Nat.le_of_ble_eq_true rfl) rfl (fun p e s m args below meth c C hr hlocks hP ls hl => ?_)
  have hx := C.1
  have hb := C.2.1
  have hl : lv_has ls 3 [(0, .ref (g_ad G 26)), (1, .int a1), (2, .int a2)] := hl
  have hS : va_S (g_A G) s.heap s.heap [] := va_S.rf
  unfold f_X11_of at h
  refine lv_aload_n hx hb dX11_of_0 rfl (lv_at hl 0 rfl) ?_
  refine gf_X11_7_26 C hP dX11_of_1 ?_
  refine lv_bipush (v := 14) hx hb dX11_of_4 (by decide) ?_
  refine lv_iconst (v := 5) hx hb dX11_of_6 (by decide) ?_
  refine lv_iload_n hx hb dX11_of_7 rfl (lv_at hl 1 rfl) ?_
  refine lv_imul hx hb dX11_of_8 ?_
  refine lv_iadd hx hb dX11_of_9 ?_
  refine lv_iload_n hx hb dX11_of_10 rfl (lv_at hl 2 rfl) ?_
  refine lv_iadd hx hb dX11_of_11 ?_
  obtain ⟨g2, h⟩ := h_g h
  refine r_ald C hP 27 (by decide) rfl (vp_in_iff.mpr g2) dX11_of_12 ?_
  exact ret_i C hr hlocks hP hS h dX11_of_13
set_option maxHeartbeats 4000000 in
set_option maxRecDepth 100000 in
theorem c_X11_acts {l : Launch} {G : GT} {lam : Lm} {σ : St} {a1 : Int32} {a2 : Int32} {q : Int32 × St} (h : f_X11_acts σ a1 a2 = some q) : Met l yX11_acts (Cond.code yX11_acts cX11_acts 4 ((some .int)) :: TB) ({ frames := 2, cells := 0, slots := 0, locals := 44 } : Room) (va_Pc [.ref (g_ad G 26), .int a1, .int a2] (GW G lam σ)) (Ri q G lam) 0 0 (g_A G) := by
  refine mk_Qi (own := RX11) (by decide) (Nat.le_of_ble_eq_true rfl) rfl (fun p e s m args below meth c C hr hlocks hP ls hl => ?_)
  have hx := C.1
  have hb := C.2.1
  have hl : lv_has ls 4 [(0, .ref (g_ad G 26)), (1, .int a1), (2, .int a2)] := hl
  have hS : va_S (g_A G) s.heap s.heap [] := va_S.rf
  unfold f_X11_acts at h
  refine lv_aload_n hx hb dX11_acts_0 rfl (lv_at hl 0 rfl) ?_
  refine gf_X11_7_26 C hP dX11_acts_1 ?_
  refine lv_iload_n hx hb dX11_acts_4 rfl (lv_at hl 1 rfl) ?_
  obtain ⟨g7, h⟩ := h_g h
  refine r_ald C hP 27 (by decide) rfl (vp_in_iff.mpr g7) dX11_acts_5 ?_
  obtain ⟨y8, e9, h⟩ := bnd h
  refine r_nm e9 ?_
  refine lv_istore_n (lv' := [(3, .int y8), (0, .ref (g_ad G 26)), (1, .int a1), (2, .int a2)]) hx hb dX11_acts_6 rfl hl (by decide) rfl (fun ls hl => ?_)
  refine lv_aload_n hx hb dX11_acts_7 rfl (lv_at hl 1 rfl) ?_
  obtain ⟨q10, e11, h⟩ := bnd h
  refine call_v C hP hS (c_X11_minds e11) mi_X11_minds mw_1424 26 (by decide) rfl rfl ⟨Nat.le_of_ble_eq_true rfl, Nat.le_of_ble_eq_true rfl⟩ (As := []) rfl hl.1 rfl (lv_room (Nat.le_of_ble_eq_true rfl)) dX11_acts_8 (fun H locs hP hS => ?_)
  refine lv_aload_n hx hb dX11_acts_11 rfl (lv_at hl 1 rfl) ?_
  refine gf_X11_7_26 C hP dX11_acts_12 ?_
  refine lv_iload_n hx hb dX11_acts_15 rfl (lv_at hl 2 rfl) ?_
  refine lv_iload_n hx hb dX11_acts_16 rfl (lv_at hl 3 rfl) ?_
  obtain ⟨g12, h⟩ := h_g h
  refine r_ast C hP hS 27 (by decide) (fun _ => rfl) (vp_in_iff.mpr g12) dX11_acts_17 (fun H locs hP hS => ?_)
  obtain ⟨σ13, e14, h⟩ := bnd h
  have hP := hPn e14 hP
  refine lv_iload_n hx hb dX11_acts_18 rfl (lv_at hl 0 rfl) ?_
  exact ret_i C hr hlocks hP hS h dX11_acts_19
set_option maxHeartbeats 4000000 in
set_option maxRecDepth 100000 in
theorem c_X11_measure {l : Launch} {G : GT} {lam : Lm} {σ : St} {a1 : Int32} {a2 : Int32} {a3 : Int32} {q : Int32 × St} (h : f_X11_measure σ a1 a2 a3 = some q) : Met l yX11_measure (Cond.code yX11_measure cX11_measure 4 ((some .int)) :: TB) ({ frames := 3, cells := 0, slots := 0, locals := 67 } : Room) (va_Pc [.ref (g_ad G 26), .int a1, .int a2, .int a3] (GW G lam σ)) (Ri q G lam) 0 0 (g_A G) := by
  refine mk_Qi (own := RX11) (by decide) (Nat.le_of_ble_eq_true rfl) rfl (fun p e s m args below meth c C hr hlocks hP ls hl => ?_)
  have hx := C.1
  have hb := C.2.1
  have hl : lv_has ls 4 [(0, .ref (g_ad G 26)), (1, .int a1), (2, .int a2), (3, .int a3)] := hl
  have J48 : ∀ (σ : St) (x1 : Int32) (x2 : Int32) (x3 : Int32) (t0 : Int64) (t1 : Int64) (t2 : Int64) (H : Heap) (locs : List Loc) (ls : Array Slot), f_X11_measure_p48 σ x1 x2 x3 t0 t1 t2 = some q → va_P (g_D G) vwCl (allW G lam σ) H → va_S (g_A G) s.heap H locs → lv_has ls 4 [(0, .ref (g_ad G 26)), (1, .int x1), (2, .int x2), (3, .int x3)] → W p l e ({ frames := 3, cells := 0, slots := 0, locals := 67 } : Room) s m args below meth c H locs 0 0 (Qi q below args s G lam) (F0 m 48 ls [.long (t0), .long (t1), .long (t2)]) := by
    intro σ x1 x2 x3 t0 t1 t2 H locs ls h hP hS hl
    unfold f_X11_measure_p48 at h
    obtain ⟨q14, e15, h⟩ := bnd h
    refine scall_i C hP hS (c_X11_in e15) ms_X11_in mw_1320 ⟨Nat.le_of_ble_eq_true rfl, Nat.le_of_ble_eq_true rfl⟩ (As := [.long (t2), .long (t1), .long (t0)]) rfl hl.1 rfl (lv_room (Nat.le_of_ble_eq_true rfl)) dX11_measure_48 (fun H locs hP hS => ?_)
    refine lv_if_ne (tgt := 57) hx hb dX11_measure_51 (by decide) (fun c16 => ?_) (fun c16 => ?_)
    · replace h := h_f c16 h
      refine lv_aload_n hx hb dX11_measure_57 rfl (lv_at hl 0 rfl) ?_
      refine lv_bipush (v := 14) hx hb dX11_measure_58 (by decide) ?_
      refine lv_iconst (v := 5) hx hb dX11_measure_60 (by decide) ?_
      refine lv_iload_n hx hb dX11_measure_61 rfl (lv_at hl 1 rfl) ?_
      refine lv_imul hx hb dX11_measure_62 ?_
      refine lv_iadd hx hb dX11_measure_63 ?_
      refine lv_iconst (v := 1) hx hb dX11_measure_64 (by decide) ?_
      refine lv_iadd hx hb dX11_measure_65 ?_
      refine lv_iload_n hx hb dX11_measure_66 rfl (lv_at hl 2 rfl) ?_
      refine lv_iadd hx hb dX11_measure_67 ?_
      refine lv_iload_n hx hb dX11_measure_68 rfl (lv_at hl 3 rfl) ?_
      obtain ⟨q17, e18, h⟩ := bnd h
      refine call_i C hP hS (c_X11_acts e18) mi_X11_acts mw_1420 26 (by decide) rfl rfl ⟨Nat.le_of_ble_eq_true rfl, Nat.le_of_ble_eq_true rfl⟩ (As := [.int (((14 + (5 * x1)) + 1) + x2), .int x3]) rfl hl.1 rfl (lv_room (Nat.le_of_ble_eq_true rfl)) dX11_measure_69 (fun H locs hP hS => ?_)
      exact ret_i C hr hlocks hP hS h dX11_measure_72
    · replace h := h_t c16 h
      refine lv_ldc hx hb C.2.2.2.1 (C.2.2.2.2.1 _ mw_1323) dX11_measure_54 ?_
      exact ret_i C hr hlocks hP hS h dX11_measure_56
  have hS : va_S (g_A G) s.heap s.heap [] := va_S.rf
  unfold f_X11_measure at h
  obtain ⟨H, hH⟩ : ∃ H, H = s.heap := ⟨_, rfl⟩
  obtain ⟨locs, hlo⟩ : ∃ k : List Loc, k = [] := ⟨_, rfl⟩
  rw [← hH, ← hlo]
  rw [← hH] at hP
  replace hS : va_S (g_A G) s.heap H locs := by rw [hH, hlo]; exact hS
  refine lv_aload_n hx hb dX11_measure_0 rfl (lv_at hl 0 rfl) ?_
  refine lv_iload_n hx hb dX11_measure_1 rfl (lv_at hl 1 rfl) ?_
  obtain ⟨q19, e20, h⟩ := bnd h
  refine call_i C hP hS (c_X11_isThing e20) mi_X11_isThing mw_1412 26 (by decide) rfl rfl ⟨Nat.le_of_ble_eq_true rfl, Nat.le_of_ble_eq_true rfl⟩ (As := [.int a1]) rfl hl.1 rfl (lv_room (Nat.le_of_ble_eq_true rfl)) dX11_measure_2 (fun H locs hP hS => ?_)
  refine lv_if_eq (tgt := 54) hx hb dX11_measure_5 (by decide) (fun c21 => ?_) (fun c21 => ?_)
  · replace h := h_t c21 h
    refine lv_ldc hx hb C.2.2.2.1 (C.2.2.2.2.1 _ mw_1323) dX11_measure_54 ?_
    exact ret_i C hr hlocks hP hS h dX11_measure_56
  · replace h := h_f c21 h
    refine lv_iload_n hx hb dX11_measure_8 rfl (lv_at hl 2 rfl) ?_
    refine lv_i2l hx hb dX11_measure_9 rfl ?_
    refine lv_lconst (v := 0) hx hb dX11_measure_10 (by decide) ?_
    refine lv_ldc2 hx hb C.2.2.2.1 (C.2.2.2.2.1 _ mw_1416) dX11_measure_11 ?_
    obtain ⟨q22, e23, h⟩ := bnd h
    refine scall_i C hP hS (c_X11_in e23) ms_X11_in mw_1320 ⟨Nat.le_of_ble_eq_true rfl, Nat.le_of_ble_eq_true rfl⟩ (As := [.long ((a2 : Int32).toInt64), .long (0), .long (3)]) rfl hl.1 rfl (lv_room (Nat.le_of_ble_eq_true rfl)) dX11_measure_14 (fun H locs hP hS => ?_)
    refine lv_if_eq (tgt := 54) hx hb dX11_measure_17 (by decide) (fun c24 => ?_) (fun c24 => ?_)
    · replace h := h_t c24 h
      refine lv_ldc hx hb C.2.2.2.1 (C.2.2.2.2.1 _ mw_1323) dX11_measure_54 ?_
      exact ret_i C hr hlocks hP hS h dX11_measure_56
    · replace h := h_f c24 h
      refine lv_iload_n hx hb dX11_measure_20 rfl (lv_at hl 3 rfl) ?_
      refine lv_i2l hx hb dX11_measure_21 rfl ?_
      refine lv_lconst (v := 0) hx hb dX11_measure_22 (by decide) ?_
      refine lv_iload_n hx hb dX11_measure_23 rfl (lv_at hl 2 rfl) ?_
      refine lv_iconst (v := 2) hx hb dX11_measure_24 (by decide) ?_
      refine lv_icmp_ge (tgt := 34) hx hb dX11_measure_25 (by decide) (fun c25 => ?_) (fun c25 => ?_)
      · replace h := h_t c25 h
        refine lv_iload_n hx hb dX11_measure_34 rfl (lv_at hl 2 rfl) ?_
        refine lv_iconst (v := 2) hx hb dX11_measure_35 (by decide) ?_
        refine lv_icmp_ne (tgt := 45) hx hb dX11_measure_36 (by decide) (fun c26 => ?_) (fun c26 => ?_)
        · replace h := h_f c26 h
          refine lv_ldc2 hx hb C.2.2.2.1 (C.2.2.2.2.1 _ mw_1419) dX11_measure_45 ?_
          exact J48 _ _ _ _ _ _ _ H locs ls h hP hS (lv_sub hl [0, 1, 2, 3] rfl)
        · replace h := h_t c26 h
          refine lv_ldc2 hx hb C.2.2.2.1 (C.2.2.2.2.1 _ mw_1418) dX11_measure_39 ?_
          refine lv_goto (tgt := 48) hx hb dX11_measure_42 (by decide) ?_
          exact J48 _ _ _ _ _ _ _ H locs ls h hP hS (lv_sub hl [0, 1, 2, 3] rfl)
      · replace h := h_f c25 h
        refine lv_ldc2 hx hb C.2.2.2.1 (C.2.2.2.2.1 _ mw_1417) dX11_measure_28 ?_
        refine lv_goto (tgt := 48) hx hb dX11_measure_31 (by decide) ?_
        exact J48 _ _ _ _ _ _ _ H locs ls h hP hS (lv_sub hl [0, 1, 2, 3] rfl)
set_option maxHeartbeats 4000000 in
set_option maxRecDepth 100000 in
theorem c_X11_become {l : Launch} {G : GT} {lam : Lm} {σ : St} {a1 : Int32} {a2 : Int32} {q : Int32 × St} (h : f_X11_become σ a1 a2 = some q) : Met l yX11_become (Cond.code yX11_become cX11_become 3 ((some .int)) :: TB) ({ frames := 3, cells := 0, slots := 0, locals := 67 } : Room) (va_Pc [.ref (g_ad G 26), .int a1, .int a2] (GW G lam σ)) (Ri q G lam) 0 0 (g_A G) := by
  refine mk_Qi (own := RX11) (by decide) (Nat.le_of_ble_eq_true rfl) rfl (fun p e s m args below meth c C hr hlocks hP ls hl => ?_)
  have hx := C.1
  have hb := C.2.1
  have hl : lv_has ls 3 [(0, .ref (g_ad G 26)), (1, .int a1), (2, .int a2)] := hl
  have hS : va_S (g_A G) s.heap s.heap [] := va_S.rf
  unfold f_X11_become at h
  refine lv_aload_n hx hb dX11_become_0 rfl (lv_at hl 0 rfl) ?_
  refine lv_iload_n hx hb dX11_become_1 rfl (lv_at hl 1 rfl) ?_
  obtain ⟨q12, e13, h⟩ := bnd h
  refine call_i C hP hS (c_X11_isThing e13) mi_X11_isThing mw_1412 26 (by decide) rfl rfl ⟨Nat.le_of_ble_eq_true rfl, Nat.le_of_ble_eq_true rfl⟩ (As := [.int a1]) rfl hl.1 rfl (lv_room (Nat.le_of_ble_eq_true rfl)) dX11_become_2 (fun H locs hP hS => ?_)
  refine lv_if_eq (tgt := 20) hx hb dX11_become_5 (by decide) (fun c14 => ?_) (fun c14 => ?_)
  · replace h := h_t c14 h
    refine lv_ldc hx hb C.2.2.2.1 (C.2.2.2.2.1 _ mw_1323) dX11_become_20 ?_
    exact ret_i C hr hlocks hP hS h dX11_become_22
  · replace h := h_f c14 h
    refine lv_iload_n hx hb dX11_become_8 rfl (lv_at hl 2 rfl) ?_
    refine lv_i2l hx hb dX11_become_9 rfl ?_
    refine lv_lconst (v := 1) hx hb dX11_become_10 (by decide) ?_
    refine lv_ldc2 hx hb C.2.2.2.1 (C.2.2.2.2.1 _ mw_1432) dX11_become_11 ?_
    obtain ⟨q15, e16, h⟩ := bnd h
    refine scall_i C hP hS (c_X11_in e16) ms_X11_in mw_1320 ⟨Nat.le_of_ble_eq_true rfl, Nat.le_of_ble_eq_true rfl⟩ (As := [.long ((a2 : Int32).toInt64), .long (1), .long (6)]) rfl hl.1 rfl (lv_room (Nat.le_of_ble_eq_true rfl)) dX11_become_14 (fun H locs hP hS => ?_)
    refine lv_if_ne (tgt := 23) hx hb dX11_become_17 (by decide) (fun c17 => ?_) (fun c17 => ?_)
    · replace h := h_f c17 h
      refine lv_aload_n hx hb dX11_become_23 rfl (lv_at hl 0 rfl) ?_
      refine lv_iload_n hx hb dX11_become_24 rfl (lv_at hl 1 rfl) ?_
      refine lv_iconst (v := 0) hx hb dX11_become_25 (by decide) ?_
      obtain ⟨q18, e19, h⟩ := bnd h
      refine call_i C hP hS (c_X11_of e19) mi_X11_of mw_1433 26 (by decide) rfl rfl ⟨Nat.le_of_ble_eq_true rfl, Nat.le_of_ble_eq_true rfl⟩ (As := [.int a1, .int 0]) rfl hl.1 rfl (lv_room (Nat.le_of_ble_eq_true rfl)) dX11_become_26 (fun H locs hP hS => ?_)
      refine lv_iload_n hx hb dX11_become_29 rfl (lv_at hl 2 rfl) ?_
      refine lv_icmp_ne (tgt := 38) hx hb dX11_become_30 (by decide) (fun c20 => ?_) (fun c20 => ?_)
      · replace h := h_f c20 h
        refine lv_aload_n hx hb dX11_become_38 rfl (lv_at hl 0 rfl) ?_
        refine lv_bipush (v := 14) hx hb dX11_become_39 (by decide) ?_
        refine lv_iconst (v := 5) hx hb dX11_become_41 (by decide) ?_
        refine lv_iload_n hx hb dX11_become_42 rfl (lv_at hl 1 rfl) ?_
        refine lv_imul hx hb dX11_become_43 ?_
        refine lv_iadd hx hb dX11_become_44 ?_
        refine lv_iload_n hx hb dX11_become_45 rfl (lv_at hl 2 rfl) ?_
        obtain ⟨q21, e22, h⟩ := bnd h
        refine call_i C hP hS (c_X11_acts e22) mi_X11_acts mw_1420 26 (by decide) rfl rfl ⟨Nat.le_of_ble_eq_true rfl, Nat.le_of_ble_eq_true rfl⟩ (As := [.int (14 + (5 * a1)), .int a2]) rfl hl.1 rfl (lv_room (Nat.le_of_ble_eq_true rfl)) dX11_become_46 (fun H locs hP hS => ?_)
        exact ret_i C hr hlocks hP hS h dX11_become_49
      · replace h := h_t c20 h
        refine lv_ldc hx hb C.2.2.2.1 (C.2.2.2.2.1 _ mw_1403) dX11_become_33 ?_
        refine lv_goto (tgt := 49) hx hb dX11_become_35 (by decide) ?_
        exact ret_i C hr hlocks hP hS h dX11_become_49
    · replace h := h_t c17 h
      refine lv_ldc hx hb C.2.2.2.1 (C.2.2.2.2.1 _ mw_1323) dX11_become_20 ?_
      exact ret_i C hr hlocks hP hS h dX11_become_22
set_option maxHeartbeats 4000000 in
set_option maxRecDepth 100000 in
theorem c_X11_ship {l : Launch} {G : GT} {lam : Lm} {σ : St} {a1 : Int32} {a2 : Int32} {q : Int32 × St} (h : f_X11_ship σ a1 a2 = some q) : Met l yX11_ship (Cond.code yX11_ship cX11_ship 3 ((some .int)) :: TB) ({ frames := 3, cells := 0, slots := 0, locals := 67 } : Room) (va_Pc [.ref (g_ad G 26), .int a1, .int a2] (GW G lam σ)) (Ri q G lam) 0 0 (g_A G) := by
  refine mk_Qi (own := RX11) (by decide) (Nat.le_of_ble_eq_true rfl) rfl (fun p e s m args below meth c C hr hlocks hP ls hl => ?_)
  have hx := C.1
  have hb := C.2.1
  have hl : lv_has ls 3 [(0, .ref (g_ad G 26)), (1, .int a1), (2, .int a2)] := hl
  have J38 : ∀ (σ : St) (x1 : Int32) (x2 : Int32) (t0 : Int64) (t1 : Int64) (t2 : Int64) (H : Heap) (locs : List Loc) (ls : Array Slot), f_X11_ship_p38 σ x1 x2 t0 t1 t2 = some q → va_P (g_D G) vwCl (allW G lam σ) H → va_S (g_A G) s.heap H locs → lv_has ls 3 [(0, .ref (g_ad G 26)), (1, .int x1), (2, .int x2)] → W p l e ({ frames := 3, cells := 0, slots := 0, locals := 67 } : Room) s m args below meth c H locs 0 0 (Qi q below args s G lam) (F0 m 38 ls [.long (t0), .long (t1), .long (t2)]) := by
    intro σ x1 x2 t0 t1 t2 H locs ls h hP hS hl
    unfold f_X11_ship_p38 at h
    obtain ⟨q13, e14, h⟩ := bnd h
    refine scall_i C hP hS (c_X11_in e14) ms_X11_in mw_1320 ⟨Nat.le_of_ble_eq_true rfl, Nat.le_of_ble_eq_true rfl⟩ (As := [.long (t2), .long (t1), .long (t0)]) rfl hl.1 rfl (lv_room (Nat.le_of_ble_eq_true rfl)) dX11_ship_38 (fun H locs hP hS => ?_)
    refine lv_if_ne (tgt := 49) hx hb dX11_ship_41 (by decide) (fun c15 => ?_) (fun c15 => ?_)
    · replace h := h_f c15 h
      refine lv_aload_n hx hb dX11_ship_49 rfl (lv_at hl 0 rfl) ?_
      refine lv_iconst (v := 1) hx hb dX11_ship_50 (by decide) ?_
      refine lv_iload_n hx hb dX11_ship_51 rfl (lv_at hl 1 rfl) ?_
      refine lv_iadd hx hb dX11_ship_52 ?_
      refine lv_iload_n hx hb dX11_ship_53 rfl (lv_at hl 2 rfl) ?_
      obtain ⟨q16, e17, h⟩ := bnd h
      refine call_i C hP hS (c_X11_acts e17) mi_X11_acts mw_1420 26 (by decide) rfl rfl ⟨Nat.le_of_ble_eq_true rfl, Nat.le_of_ble_eq_true rfl⟩ (As := [.int (1 + x1), .int x2]) rfl hl.1 rfl (lv_room (Nat.le_of_ble_eq_true rfl)) dX11_ship_54 (fun H locs hP hS => ?_)
      exact ret_i C hr hlocks hP hS h dX11_ship_57
    · replace h := h_t c15 h
      refine lv_ldc hx hb C.2.2.2.1 (C.2.2.2.2.1 _ mw_1323) dX11_ship_44 ?_
      refine lv_goto (tgt := 57) hx hb dX11_ship_46 (by decide) ?_
      exact ret_i C hr hlocks hP hS h dX11_ship_57
  have hS : va_S (g_A G) s.heap s.heap [] := va_S.rf
  unfold f_X11_ship at h
  obtain ⟨H, hH⟩ : ∃ H, H = s.heap := ⟨_, rfl⟩
  obtain ⟨locs, hlo⟩ : ∃ k : List Loc, k = [] := ⟨_, rfl⟩
  rw [← hH, ← hlo]
  rw [← hH] at hP
  replace hS : va_S (g_A G) s.heap H locs := by rw [hH, hlo]; exact hS
  refine lv_aload_n hx hb dX11_ship_0 rfl (lv_at hl 0 rfl) ?_
  obtain ⟨q18, e19, h⟩ := bnd h
  refine call_i C hP hS (c_X11_isSheet e19) mi_X11_isSheet mw_1441 26 (by decide) rfl rfl ⟨Nat.le_of_ble_eq_true rfl, Nat.le_of_ble_eq_true rfl⟩ (As := []) rfl hl.1 rfl (lv_room (Nat.le_of_ble_eq_true rfl)) dX11_ship_1 (fun H locs hP hS => ?_)
  refine lv_if_ne (tgt := 10) hx hb dX11_ship_4 (by decide) (fun c20 => ?_) (fun c20 => ?_)
  · replace h := h_f c20 h
    refine lv_iload_n hx hb dX11_ship_10 rfl (lv_at hl 1 rfl) ?_
    refine lv_i2l hx hb dX11_ship_11 rfl ?_
    refine lv_lconst (v := 0) hx hb dX11_ship_12 (by decide) ?_
    refine lv_ldc2 hx hb C.2.2.2.1 (C.2.2.2.2.1 _ mw_1445) dX11_ship_13 ?_
    obtain ⟨q21, e22, h⟩ := bnd h
    refine scall_i C hP hS (c_X11_in e22) ms_X11_in mw_1320 ⟨Nat.le_of_ble_eq_true rfl, Nat.le_of_ble_eq_true rfl⟩ (As := [.long ((a1 : Int32).toInt64), .long (0), .long (4)]) rfl hl.1 rfl (lv_room (Nat.le_of_ble_eq_true rfl)) dX11_ship_16 (fun H locs hP hS => ?_)
    refine lv_if_eq (tgt := 44) hx hb dX11_ship_19 (by decide) (fun c23 => ?_) (fun c23 => ?_)
    · replace h := h_t c23 h
      refine lv_ldc hx hb C.2.2.2.1 (C.2.2.2.2.1 _ mw_1323) dX11_ship_44 ?_
      refine lv_goto (tgt := 57) hx hb dX11_ship_46 (by decide) ?_
      exact ret_i C hr hlocks hP hS h dX11_ship_57
    · replace h := h_f c23 h
      refine lv_iload_n hx hb dX11_ship_22 rfl (lv_at hl 2 rfl) ?_
      refine lv_i2l hx hb dX11_ship_23 rfl ?_
      refine lv_lconst (v := 0) hx hb dX11_ship_24 (by decide) ?_
      refine lv_iload_n hx hb dX11_ship_25 rfl (lv_at hl 1 rfl) ?_
      refine lv_if_ne (tgt := 35) hx hb dX11_ship_26 (by decide) (fun c24 => ?_) (fun c24 => ?_)
      · replace h := h_f c24 h
        refine lv_ldc2 hx hb C.2.2.2.1 (C.2.2.2.2.1 _ mw_1417) dX11_ship_35 ?_
        exact J38 _ _ _ _ _ _ H locs ls h hP hS (lv_sub hl [0, 1, 2] rfl)
      · replace h := h_t c24 h
        refine lv_ldc2 hx hb C.2.2.2.1 (C.2.2.2.2.1 _ mw_1419) dX11_ship_29 ?_
        refine lv_goto (tgt := 38) hx hb dX11_ship_32 (by decide) ?_
        exact J38 _ _ _ _ _ _ H locs ls h hP hS (lv_sub hl [0, 1, 2] rfl)
  · replace h := h_t c20 h
    refine lv_ldc hx hb C.2.2.2.1 (C.2.2.2.2.1 _ mw_1403) dX11_ship_7 ?_
    exact ret_i C hr hlocks hP hS h dX11_ship_9
set_option maxHeartbeats 4000000 in
set_option maxRecDepth 100000 in
theorem c_X11_tide {l : Launch} {G : GT} {lam : Lm} {σ : St} {a1 : Int32} {a2 : Int32} {q : Int32 × St} (h : f_X11_tide σ a1 a2 = some q) : Met l yX11_tide (Cond.code yX11_tide cX11_tide 3 ((some .int)) :: TB) ({ frames := 3, cells := 0, slots := 0, locals := 67 } : Room) (va_Pc [.ref (g_ad G 26), .int a1, .int a2] (GW G lam σ)) (Ri q G lam) 0 0 (g_A G) := by
  refine mk_Qi (own := RX11) (by decide) (Nat.le_of_ble_eq_true rfl) rfl (fun p e s m args below meth c C hr hlocks hP ls hl => ?_)
  have hx := C.1
  have hb := C.2.1
  have hl : lv_has ls 3 [(0, .ref (g_ad G 26)), (1, .int a1), (2, .int a2)] := hl
  have hS : va_S (g_A G) s.heap s.heap [] := va_S.rf
  unfold f_X11_tide at h
  refine lv_iload_n hx hb dX11_tide_0 rfl (lv_at hl 1 rfl) ?_
  refine lv_i2l hx hb dX11_tide_1 rfl ?_
  refine lv_lconst (v := 0) hx hb dX11_tide_2 (by decide) ?_
  refine lv_aload_n hx hb dX11_tide_3 rfl (lv_at hl 0 rfl) ?_
  refine gf_X11_7_26 C hP dX11_tide_4 ?_
  refine lv_bipush (v := 6) hx hb dX11_tide_7 (by decide) ?_
  refine r_aldc C hP 27 (by decide) rfl (j := 6) (by decide) (vp_in_iff.mpr (by decide)) dX11_tide_9 ?_
  refine lv_iconst (v := 1) hx hb dX11_tide_10 (by decide) ?_
  refine lv_isub hx hb dX11_tide_11 ?_
  refine lv_i2l hx hb dX11_tide_12 rfl ?_
  obtain ⟨q9, e10, h⟩ := bnd h
  refine scall_i C hP hS (c_X11_in e10) ms_X11_in mw_1320 ⟨Nat.le_of_ble_eq_true rfl, Nat.le_of_ble_eq_true rfl⟩ (As := [.long ((a1 : Int32).toInt64), .long (0), .long (((σ 27 6) - 1 : Int32).toInt64)]) rfl hl.1 rfl (lv_room (Nat.le_of_ble_eq_true rfl)) dX11_tide_13 (fun H locs hP hS => ?_)
  refine lv_if_eq (tgt := 31) hx hb dX11_tide_16 (by decide) (fun c11 => ?_) (fun c11 => ?_)
  · replace h := h_t c11 h
    refine lv_ldc hx hb C.2.2.2.1 (C.2.2.2.2.1 _ mw_1323) dX11_tide_31 ?_
    refine lv_goto (tgt := 45) hx hb dX11_tide_33 (by decide) ?_
    exact ret_i C hr hlocks hP hS h dX11_tide_45
  · replace h := h_f c11 h
    refine lv_iload_n hx hb dX11_tide_19 rfl (lv_at hl 2 rfl) ?_
    refine lv_i2l hx hb dX11_tide_20 rfl ?_
    refine lv_lconst (v := 0) hx hb dX11_tide_21 (by decide) ?_
    refine lv_ldc2 hx hb C.2.2.2.1 (C.2.2.2.2.1 _ mw_1419) dX11_tide_22 ?_
    obtain ⟨q12, e13, h⟩ := bnd h
    refine scall_i C hP hS (c_X11_in e13) ms_X11_in mw_1320 ⟨Nat.le_of_ble_eq_true rfl, Nat.le_of_ble_eq_true rfl⟩ (As := [.long ((a2 : Int32).toInt64), .long (0), .long (20)]) rfl hl.1 rfl (lv_room (Nat.le_of_ble_eq_true rfl)) dX11_tide_25 (fun H locs hP hS => ?_)
    refine lv_if_ne (tgt := 36) hx hb dX11_tide_28 (by decide) (fun c14 => ?_) (fun c14 => ?_)
    · replace h := h_f c14 h
      refine lv_aload_n hx hb dX11_tide_36 rfl (lv_at hl 0 rfl) ?_
      refine lv_bipush (v := 7) hx hb dX11_tide_37 (by decide) ?_
      refine lv_iload_n hx hb dX11_tide_39 rfl (lv_at hl 1 rfl) ?_
      refine lv_iadd hx hb dX11_tide_40 ?_
      refine lv_iload_n hx hb dX11_tide_41 rfl (lv_at hl 2 rfl) ?_
      obtain ⟨q15, e16, h⟩ := bnd h
      refine call_i C hP hS (c_X11_acts e16) mi_X11_acts mw_1420 26 (by decide) rfl rfl ⟨Nat.le_of_ble_eq_true rfl, Nat.le_of_ble_eq_true rfl⟩ (As := [.int (7 + a1), .int a2]) rfl hl.1 rfl (lv_room (Nat.le_of_ble_eq_true rfl)) dX11_tide_42 (fun H locs hP hS => ?_)
      exact ret_i C hr hlocks hP hS h dX11_tide_45
    · replace h := h_t c14 h
      refine lv_ldc hx hb C.2.2.2.1 (C.2.2.2.2.1 _ mw_1323) dX11_tide_31 ?_
      refine lv_goto (tgt := 45) hx hb dX11_tide_33 (by decide) ?_
      exact ret_i C hr hlocks hP hS h dX11_tide_45
set_option maxHeartbeats 4000000 in
set_option maxRecDepth 100000 in
theorem c_X11_steer {l : Launch} {G : GT} {lam : Lm} {σ : St} {a1 : Int32} {a2 : Int32} {q : Int32 × St} (h : f_X11_steer σ a1 a2 = some q) : Met l yX11_steer (Cond.code yX11_steer cX11_steer 3 ((some .int)) :: TB) ({ frames := 3, cells := 0, slots := 0, locals := 67 } : Room) (va_Pc [.ref (g_ad G 26), .int a1, .int a2] (GW G lam σ)) (Ri q G lam) 0 0 (g_A G) := by
  refine mk_Qi (own := RX11) (by decide) (Nat.le_of_ble_eq_true rfl) rfl (fun p e s m args below meth c C hr hlocks hP ls hl => ?_)
  have hx := C.1
  have hb := C.2.1
  have hl : lv_has ls 3 [(0, .ref (g_ad G 26)), (1, .int a1), (2, .int a2)] := hl
  have hS : va_S (g_A G) s.heap s.heap [] := va_S.rf
  unfold f_X11_steer at h
  refine lv_aload_n hx hb dX11_steer_0 rfl (lv_at hl 0 rfl) ?_
  refine lv_iload_n hx hb dX11_steer_1 rfl (lv_at hl 1 rfl) ?_
  obtain ⟨q9, e10, h⟩ := bnd h
  refine call_i C hP hS (c_X11_isLeg e10) mi_X11_isLeg mw_1454 26 (by decide) rfl rfl ⟨Nat.le_of_ble_eq_true rfl, Nat.le_of_ble_eq_true rfl⟩ (As := [.int a1]) rfl hl.1 rfl (lv_room (Nat.le_of_ble_eq_true rfl)) dX11_steer_2 (fun H locs hP hS => ?_)
  refine lv_if_eq (tgt := 20) hx hb dX11_steer_5 (by decide) (fun c11 => ?_) (fun c11 => ?_)
  · replace h := h_t c11 h
    refine lv_ldc hx hb C.2.2.2.1 (C.2.2.2.2.1 _ mw_1323) dX11_steer_20 ?_
    refine lv_goto (tgt := 36) hx hb dX11_steer_22 (by decide) ?_
    exact ret_i C hr hlocks hP hS h dX11_steer_36
  · replace h := h_f c11 h
    refine lv_iload_n hx hb dX11_steer_8 rfl (lv_at hl 2 rfl) ?_
    refine lv_i2l hx hb dX11_steer_9 rfl ?_
    refine lv_lconst (v := 0) hx hb dX11_steer_10 (by decide) ?_
    refine lv_ldc2 hx hb C.2.2.2.1 (C.2.2.2.2.1 _ mw_1418) dX11_steer_11 ?_
    obtain ⟨q12, e13, h⟩ := bnd h
    refine scall_i C hP hS (c_X11_in e13) ms_X11_in mw_1320 ⟨Nat.le_of_ble_eq_true rfl, Nat.le_of_ble_eq_true rfl⟩ (As := [.long ((a2 : Int32).toInt64), .long (0), .long (15)]) rfl hl.1 rfl (lv_room (Nat.le_of_ble_eq_true rfl)) dX11_steer_14 (fun H locs hP hS => ?_)
    refine lv_if_ne (tgt := 25) hx hb dX11_steer_17 (by decide) (fun c14 => ?_) (fun c14 => ?_)
    · replace h := h_f c14 h
      refine lv_aload_n hx hb dX11_steer_25 rfl (lv_at hl 0 rfl) ?_
      refine lv_bipush (v := 55) hx hb dX11_steer_26 (by decide) ?_
      refine lv_iconst (v := 4) hx hb dX11_steer_28 (by decide) ?_
      refine lv_iload_n hx hb dX11_steer_29 rfl (lv_at hl 1 rfl) ?_
      refine lv_imul hx hb dX11_steer_30 ?_
      refine lv_iadd hx hb dX11_steer_31 ?_
      refine lv_iload_n hx hb dX11_steer_32 rfl (lv_at hl 2 rfl) ?_
      obtain ⟨q15, e16, h⟩ := bnd h
      refine call_i C hP hS (c_X11_acts e16) mi_X11_acts mw_1420 26 (by decide) rfl rfl ⟨Nat.le_of_ble_eq_true rfl, Nat.le_of_ble_eq_true rfl⟩ (As := [.int (55 + (4 * a1)), .int a2]) rfl hl.1 rfl (lv_room (Nat.le_of_ble_eq_true rfl)) dX11_steer_33 (fun H locs hP hS => ?_)
      exact ret_i C hr hlocks hP hS h dX11_steer_36
    · replace h := h_t c14 h
      refine lv_ldc hx hb C.2.2.2.1 (C.2.2.2.2.1 _ mw_1323) dX11_steer_20 ?_
      refine lv_goto (tgt := 36) hx hb dX11_steer_22 (by decide) ?_
      exact ret_i C hr hlocks hP hS h dX11_steer_36
set_option maxHeartbeats 4000000 in
set_option maxRecDepth 100000 in
theorem c_X11_isUntil {l : Launch} {G : GT} {lam : Lm} {σ : St} {a1 : Int32} {a2 : Int32} {a3 : Int32} {q : Int32 × St} (h : f_X11_isUntil σ a1 a2 a3 = some q) : Met l yX11_isUntil (Cond.code yX11_isUntil cX11_isUntil 4 ((some .boolean)) :: TB) ({ frames := 1, cells := 0, slots := 0, locals := 25 } : Room) (va_Pc [.int a1, .int a2, .int a3] (GW G lam σ)) (Ri q G lam) 0 0 (g_A G) := by
  refine mk_Qi (own := RX11) (by decide) (Nat.le_of_ble_eq_true rfl) rfl (fun p e s m args below meth c C hr hlocks hP ls hl => ?_)
  have hx := C.1
  have hb := C.2.1
  have hl : lv_has ls 4 [(0, .int a1), (1, .int a2), (2, .int a3)] := hl
  have J52 : ∀ (σ : St) (x0 : Int32) (x2 : Int32) (t0 : Int32) (H : Heap) (locs : List Loc) (ls : Array Slot), f_X11_isUntil_p52 σ x0 x2 t0 = some q → va_P (g_D G) vwCl (allW G lam σ) H → va_S (g_A G) s.heap H locs → lv_has ls 4 [(0, .int x0), (2, .int x2)] → W p l e ({ frames := 1, cells := 0, slots := 0, locals := 25 } : Room) s m args below meth c H locs 0 0 (Qi q below args s G lam) (F0 m 52 ls [.int t0]) := by
    intro σ x0 x2 t0 H locs ls h hP hS hl
    unfold f_X11_isUntil_p52 at h
    refine lv_istore_n (lv' := [(3, .int t0), (0, .int x0), (2, .int x2)]) hx hb dX11_isUntil_52 rfl hl (by decide) rfl (fun ls hl => ?_)
    refine lv_iload_n hx hb dX11_isUntil_53 rfl (lv_at hl 0 rfl) ?_
    refine lv_if_eq (tgt := 78) hx hb dX11_isUntil_54 (by decide) (fun c15 => ?_) (fun c15 => ?_)
    · replace h := h_t c15 h
      refine lv_iconst (v := 0) hx hb dX11_isUntil_78 (by decide) ?_
      exact ret_z C hr hlocks hP hS h (Or.inl rfl) dX11_isUntil_79
    · replace h := h_f c15 h
      refine lv_iload_n hx hb dX11_isUntil_57 rfl (lv_at hl 1 rfl) ?_
      refine lv_iconst (v := 2) hx hb dX11_isUntil_58 (by decide) ?_
      refine lv_icmp_ne (tgt := 74) hx hb dX11_isUntil_59 (by decide) (fun c16 => ?_) (fun c16 => ?_)
      · replace h := h_f c16 h
        refine lv_iconst (v := 1) hx hb dX11_isUntil_74 (by decide) ?_
        refine lv_goto (tgt := 79) hx hb dX11_isUntil_75 (by decide) ?_
        exact ret_z C hr hlocks hP hS h (Or.inr rfl) dX11_isUntil_79
      · replace h := h_t c16 h
        refine lv_iload_n hx hb dX11_isUntil_62 rfl (lv_at hl 2 rfl) ?_
        refine lv_i2l hx hb dX11_isUntil_63 rfl ?_
        refine lv_lconst (v := 0) hx hb dX11_isUntil_64 (by decide) ?_
        refine lv_ldc2 hx hb C.2.2.2.1 (C.2.2.2.2.1 _ mw_1465) dX11_isUntil_65 ?_
        obtain ⟨q17, e18, h⟩ := bnd h
        refine scall_i C hP hS (c_X11_in e18) ms_X11_in mw_1320 ⟨Nat.le_of_ble_eq_true rfl, Nat.le_of_ble_eq_true rfl⟩ (As := [.long ((x2 : Int32).toInt64), .long (0), .long (7)]) rfl hl.1 rfl (lv_room (Nat.le_of_ble_eq_true rfl)) dX11_isUntil_68 (fun H locs hP hS => ?_)
        refine lv_if_eq (tgt := 78) hx hb dX11_isUntil_71 (by decide) (fun c19 => ?_) (fun c19 => ?_)
        · replace h := h_t c19 h
          refine lv_iconst (v := 0) hx hb dX11_isUntil_78 (by decide) ?_
          exact ret_z C hr hlocks hP hS h (Or.inl rfl) dX11_isUntil_79
        · replace h := h_f c19 h
          refine lv_iconst (v := 1) hx hb dX11_isUntil_74 (by decide) ?_
          refine lv_goto (tgt := 79) hx hb dX11_isUntil_75 (by decide) ?_
          exact ret_z C hr hlocks hP hS h (Or.inr rfl) dX11_isUntil_79
  have J51 : ∀ (σ : St) (x0 : Int32) (x2 : Int32) (H : Heap) (locs : List Loc) (ls : Array Slot), f_X11_isUntil_p51 σ x0 x2 = some q → va_P (g_D G) vwCl (allW G lam σ) H → va_S (g_A G) s.heap H locs → lv_has ls 4 [(0, .int x0), (2, .int x2)] → W p l e ({ frames := 1, cells := 0, slots := 0, locals := 25 } : Room) s m args below meth c H locs 0 0 (Qi q below args s G lam) (F0 m 51 ls []) := by
    intro σ x0 x2 H locs ls h hP hS hl
    unfold f_X11_isUntil_p51 at h
    refine lv_iconst (v := 0) hx hb dX11_isUntil_51 (by decide) ?_
    exact J52 _ _ _ _ H locs ls h hP hS (lv_sub hl [0, 1] rfl)
  have J41 : ∀ (σ : St) (x0 : Int32) (x2 : Int32) (t0 : Int64) (t1 : Int64) (t2 : Int64) (H : Heap) (locs : List Loc) (ls : Array Slot), f_X11_isUntil_p41 σ x0 x2 t0 t1 t2 = some q → va_P (g_D G) vwCl (allW G lam σ) H → va_S (g_A G) s.heap H locs → lv_has ls 4 [(0, .int x0), (2, .int x2)] → W p l e ({ frames := 1, cells := 0, slots := 0, locals := 25 } : Room) s m args below meth c H locs 0 0 (Qi q below args s G lam) (F0 m 41 ls [.long (t0), .long (t1), .long (t2)]) := by
    intro σ x0 x2 t0 t1 t2 H locs ls h hP hS hl
    unfold f_X11_isUntil_p41 at h
    obtain ⟨q20, e21, h⟩ := bnd h
    refine scall_i C hP hS (c_X11_in e21) ms_X11_in mw_1320 ⟨Nat.le_of_ble_eq_true rfl, Nat.le_of_ble_eq_true rfl⟩ (As := [.long (t2), .long (t1), .long (t0)]) rfl hl.1 rfl (lv_room (Nat.le_of_ble_eq_true rfl)) dX11_isUntil_41 (fun H locs hP hS => ?_)
    refine lv_if_eq (tgt := 51) hx hb dX11_isUntil_44 (by decide) (fun c22 => ?_) (fun c22 => ?_)
    · replace h := h_t c22 h
      exact J51 _ _ _ H locs ls h hP hS (lv_sub hl [0, 1] rfl)
    · replace h := h_f c22 h
      refine lv_iconst (v := 1) hx hb dX11_isUntil_47 (by decide) ?_
      refine lv_goto (tgt := 52) hx hb dX11_isUntil_48 (by decide) ?_
      exact J52 _ _ _ _ H locs ls h hP hS (lv_sub hl [0, 1] rfl)
  have J32 : ∀ (σ : St) (x0 : Int32) (x2 : Int32) (t0 : Int64) (t1 : Int64) (H : Heap) (locs : List Loc) (ls : Array Slot), f_X11_isUntil_p32 σ x0 x2 t0 t1 = some q → va_P (g_D G) vwCl (allW G lam σ) H → va_S (g_A G) s.heap H locs → lv_has ls 4 [(0, .int x0), (2, .int x2)] → W p l e ({ frames := 1, cells := 0, slots := 0, locals := 25 } : Room) s m args below meth c H locs 0 0 (Qi q below args s G lam) (F0 m 32 ls [.long (t0), .long (t1)]) := by
    intro σ x0 x2 t0 t1 H locs ls h hP hS hl
    unfold f_X11_isUntil_p32 at h
    refine lv_ldc2 hx hb C.2.2.2.1 (C.2.2.2.2.1 _ mw_1417) dX11_isUntil_32 ?_
    refine lv_goto (tgt := 41) hx hb dX11_isUntil_35 (by decide) ?_
    exact J41 _ _ _ _ _ _ H locs ls h hP hS (lv_sub hl [0, 1] rfl)
  have J23 : ∀ (σ : St) (x0 : Int32) (x2 : Int32) (t0 : Int64) (t1 : Int64) (H : Heap) (locs : List Loc) (ls : Array Slot), f_X11_isUntil_p23 σ x0 x2 t0 t1 = some q → va_P (g_D G) vwCl (allW G lam σ) H → va_S (g_A G) s.heap H locs → lv_has ls 4 [(0, .int x0), (2, .int x2)] → W p l e ({ frames := 1, cells := 0, slots := 0, locals := 25 } : Room) s m args below meth c H locs 0 0 (Qi q below args s G lam) (F0 m 23 ls [.long (t0), .long (t1)]) := by
    intro σ x0 x2 t0 t1 H locs ls h hP hS hl
    unfold f_X11_isUntil_p23 at h
    refine lv_iload_n hx hb dX11_isUntil_23 rfl (lv_at hl 0 rfl) ?_
    refine lv_if_eq (tgt := 32) hx hb dX11_isUntil_24 (by decide) (fun c23 => ?_) (fun c23 => ?_)
    · replace h := h_t c23 h
      exact J32 _ _ _ _ _ H locs ls h hP hS (lv_sub hl [0, 1] rfl)
    · replace h := h_f c23 h
      refine lv_iload_n hx hb dX11_isUntil_27 rfl (lv_at hl 0 rfl) ?_
      refine lv_iconst (v := 4) hx hb dX11_isUntil_28 (by decide) ?_
      refine lv_icmp_ne (tgt := 38) hx hb dX11_isUntil_29 (by decide) (fun c24 => ?_) (fun c24 => ?_)
      · replace h := h_f c24 h
        refine lv_ldc2 hx hb C.2.2.2.1 (C.2.2.2.2.1 _ mw_1465) dX11_isUntil_38 ?_
        exact J41 _ _ _ _ _ _ H locs ls h hP hS (lv_sub hl [0, 1] rfl)
      · replace h := h_t c24 h
        exact J32 _ _ _ _ _ H locs ls h hP hS (lv_sub hl [0, 1] rfl)
  have hS : va_S (g_A G) s.heap s.heap [] := va_S.rf
  unfold f_X11_isUntil at h
  obtain ⟨H, hH⟩ : ∃ H, H = s.heap := ⟨_, rfl⟩
  obtain ⟨locs, hlo⟩ : ∃ k : List Loc, k = [] := ⟨_, rfl⟩
  rw [← hH, ← hlo]
  rw [← hH] at hP
  replace hS : va_S (g_A G) s.heap H locs := by rw [hH, hlo]; exact hS
  refine lv_iload_n hx hb dX11_isUntil_0 rfl (lv_at hl 0 rfl) ?_
  refine lv_i2l hx hb dX11_isUntil_1 rfl ?_
  refine lv_lconst (v := 0) hx hb dX11_isUntil_2 (by decide) ?_
  refine lv_ldc2 hx hb C.2.2.2.1 (C.2.2.2.2.1 _ mw_1445) dX11_isUntil_3 ?_
  obtain ⟨q25, e26, h⟩ := bnd h
  refine scall_i C hP hS (c_X11_in e26) ms_X11_in mw_1320 ⟨Nat.le_of_ble_eq_true rfl, Nat.le_of_ble_eq_true rfl⟩ (As := [.long ((a1 : Int32).toInt64), .long (0), .long (4)]) rfl hl.1 rfl (lv_room (Nat.le_of_ble_eq_true rfl)) dX11_isUntil_6 (fun H locs hP hS => ?_)
  refine lv_if_eq (tgt := 51) hx hb dX11_isUntil_9 (by decide) (fun c27 => ?_) (fun c27 => ?_)
  · replace h := h_t c27 h
    exact J51 _ _ _ H locs ls h hP hS (lv_sub hl [0, 2] rfl)
  · replace h := h_f c27 h
    refine lv_iload_n hx hb dX11_isUntil_12 rfl (lv_at hl 1 rfl) ?_
    refine lv_i2l hx hb dX11_isUntil_13 rfl ?_
    refine lv_iload_n hx hb dX11_isUntil_14 rfl (lv_at hl 0 rfl) ?_
    refine lv_if_ne (tgt := 22) hx hb dX11_isUntil_15 (by decide) (fun c28 => ?_) (fun c28 => ?_)
    · replace h := h_f c28 h
      refine lv_lconst (v := 0) hx hb dX11_isUntil_22 (by decide) ?_
      exact J23 _ _ _ _ _ H locs ls h hP hS (lv_sub hl [0, 2] rfl)
    · replace h := h_t c28 h
      refine lv_lconst (v := 1) hx hb dX11_isUntil_18 (by decide) ?_
      refine lv_goto (tgt := 23) hx hb dX11_isUntil_19 (by decide) ?_
      exact J23 _ _ _ _ _ H locs ls h hP hS (lv_sub hl [0, 2] rfl)
set_option maxHeartbeats 4000000 in
set_option maxRecDepth 100000 in
theorem c_X11_lays {l : Launch} {G : GT} {lam : Lm} {σ : St} {a1 : Int32} {a2 : Int32} {a3 : Int32} {a4 : Int32} {q : St} (h : f_X11_lays σ a1 a2 a3 a4 = some q) : Met l yX11_lays (Cond.code yX11_lays cX11_lays 5 none :: TB) ({ frames := 0, cells := 0, slots := 0, locals := 0 } : Room) (va_Pc [.ref (g_ad G 26), .int a1, .int a2, .int a3, .int a4] (GW G lam σ)) (Rv q G lam) 0 0 (g_A G) := by
  refine mk_Qv (own := RX11) (by decide) (Nat.le_of_ble_eq_true rfl) rfl (fun p e s m args below meth c C hr hlocks hP ls hl => ?_)
  have hx := C.1
  have hb := C.2.1
  have hl : lv_has ls 5 [(0, .ref (g_ad G 26)), (1, .int a1), (2, .int a2), (3, .int a3), (4, .int a4)] := hl
  have J52 : ∀ (σ : St) (t0 : Int32) (t1 : Int32) (H : Heap) (locs : List Loc) (ls : Array Slot), f_X11_lays_p52 σ t0 t1 = some q → va_P (g_D G) vwCl (allW G lam σ) H → va_S (g_A G) s.heap H locs → lv_has ls 5 [] → W p l e ({ frames := 0, cells := 0, slots := 0, locals := 0 } : Room) s m args below meth c H locs 0 0 (Qv q below args s G lam) (F0 m 52 ls [.int t0, .int t1, .ref (g_ad G 27)]) := by
    intro σ t0 t1 H locs ls h hP hS hl
    unfold f_X11_lays_p52 at h
    obtain ⟨g11, h⟩ := h_g h
    refine r_ast C hP hS 27 (by decide) (fun _ => rfl) (vp_in_iff.mpr g11) dX11_lays_52 (fun H locs hP hS => ?_)
    obtain ⟨σ12, e13, h⟩ := bnd h
    have hP := hPn e13 hP
    exact ret_v C hr hlocks hP hS h dX11_lays_53
  have hS : va_S (g_A G) s.heap s.heap [] := va_S.rf
  unfold f_X11_lays at h
  obtain ⟨H, hH⟩ : ∃ H, H = s.heap := ⟨_, rfl⟩
  obtain ⟨locs, hlo⟩ : ∃ k : List Loc, k = [] := ⟨_, rfl⟩
  rw [← hH, ← hlo]
  rw [← hH] at hP
  replace hS : va_S (g_A G) s.heap H locs := by rw [hH, hlo]; exact hS
  refine lv_aload_n hx hb dX11_lays_0 rfl (lv_at hl 0 rfl) ?_
  refine gf_X11_7_26 C hP dX11_lays_1 ?_
  refine lv_bipush (v := 55) hx hb dX11_lays_4 (by decide) ?_
  refine lv_iconst (v := 4) hx hb dX11_lays_6 (by decide) ?_
  refine lv_iload_n hx hb dX11_lays_7 rfl (lv_at hl 1 rfl) ?_
  refine lv_imul hx hb dX11_lays_8 ?_
  refine lv_iadd hx hb dX11_lays_9 ?_
  refine lv_iconst (v := 1) hx hb dX11_lays_10 (by decide) ?_
  refine lv_iadd hx hb dX11_lays_11 ?_
  refine lv_iload_n hx hb dX11_lays_12 rfl (lv_at hl 2 rfl) ?_
  obtain ⟨g14, h⟩ := h_g h
  refine r_ast C hP hS 27 (by decide) (fun _ => rfl) (vp_in_iff.mpr g14) dX11_lays_13 (fun H locs hP hS => ?_)
  obtain ⟨σ15, e16, h⟩ := bnd h
  have hP := hPn e16 hP
  refine lv_aload_n hx hb dX11_lays_14 rfl (lv_at hl 0 rfl) ?_
  refine gf_X11_7_26 C hP dX11_lays_15 ?_
  refine lv_bipush (v := 55) hx hb dX11_lays_18 (by decide) ?_
  refine lv_iconst (v := 4) hx hb dX11_lays_20 (by decide) ?_
  refine lv_iload_n hx hb dX11_lays_21 rfl (lv_at hl 1 rfl) ?_
  refine lv_imul hx hb dX11_lays_22 ?_
  refine lv_iadd hx hb dX11_lays_23 ?_
  refine lv_iconst (v := 2) hx hb dX11_lays_24 (by decide) ?_
  refine lv_iadd hx hb dX11_lays_25 ?_
  refine lv_iload_n hx hb dX11_lays_26 rfl (lv_at hl 3 rfl) ?_
  obtain ⟨g17, h⟩ := h_g h
  refine r_ast C hP hS 27 (by decide) (fun _ => rfl) (vp_in_iff.mpr g17) dX11_lays_27 (fun H locs hP hS => ?_)
  obtain ⟨σ18, e19, h⟩ := bnd h
  have hP := hPn e19 hP
  refine lv_aload_n hx hb dX11_lays_28 rfl (lv_at hl 0 rfl) ?_
  refine gf_X11_7_26 C hP dX11_lays_29 ?_
  refine lv_bipush (v := 55) hx hb dX11_lays_32 (by decide) ?_
  refine lv_iconst (v := 4) hx hb dX11_lays_34 (by decide) ?_
  refine lv_iload_n hx hb dX11_lays_35 rfl (lv_at hl 1 rfl) ?_
  refine lv_imul hx hb dX11_lays_36 ?_
  refine lv_iadd hx hb dX11_lays_37 ?_
  refine lv_iconst (v := 3) hx hb dX11_lays_38 (by decide) ?_
  refine lv_iadd hx hb dX11_lays_39 ?_
  refine lv_iload_n hx hb dX11_lays_40 rfl (lv_at hl 2 rfl) ?_
  refine lv_iconst (v := 2) hx hb dX11_lays_41 (by decide) ?_
  refine lv_icmp_ne (tgt := 50) hx hb dX11_lays_42 (by decide) (fun c20 => ?_) (fun c20 => ?_)
  · replace h := h_f c20 h
    refine lv_ldc hx hb C.2.2.2.1 (C.2.2.2.2.1 _ mw_1337) dX11_lays_50 ?_
    exact J52 _ _ _ H locs ls h hP hS (lv_sub hl [] rfl)
  · replace h := h_t c20 h
    refine lv_iload hx hb dX11_lays_45 (lv_at hl 4 rfl) ?_
    refine lv_goto (tgt := 52) hx hb dX11_lays_47 (by decide) ?_
    exact J52 _ _ _ H locs ls h hP hS (lv_sub hl [] rfl)
set_option maxHeartbeats 4000000 in
set_option maxRecDepth 100000 in
theorem c_X11_until {l : Launch} {G : GT} {lam : Lm} {σ : St} {a1 : Int32} {a2 : Int32} {a3 : Int32} {a4 : Int32} {q : Int32 × St} (h : f_X11_until σ a1 a2 a3 a4 = some q) : Met l yX11_until (Cond.code yX11_until cX11_until 6 ((some .int)) :: TB) ({ frames := 2, cells := 0, slots := 0, locals := 48 } : Room) (va_Pc [.ref (g_ad G 26), .int a1, .int a2, .int a3, .int a4] (GW G lam σ)) (Ri q G lam) 0 0 (g_A G) := by
  refine mk_Qi (own := RX11) (by decide) (Nat.le_of_ble_eq_true rfl) rfl (fun p e s m args below meth c C hr hlocks hP ls hl => ?_)
  have hx := C.1
  have hb := C.2.1
  have hl : lv_has ls 6 [(0, .ref (g_ad G 26)), (1, .int a1), (2, .int a2), (3, .int a3), (4, .int a4)] := hl
  have hS : va_S (g_A G) s.heap s.heap [] := va_S.rf
  unfold f_X11_until at h
  refine lv_aload_n hx hb dX11_until_0 rfl (lv_at hl 0 rfl) ?_
  refine lv_iload_n hx hb dX11_until_1 rfl (lv_at hl 1 rfl) ?_
  obtain ⟨q12, e13, h⟩ := bnd h
  refine call_i C hP hS (c_X11_isLeg e13) mi_X11_isLeg mw_1454 26 (by decide) rfl rfl ⟨Nat.le_of_ble_eq_true rfl, Nat.le_of_ble_eq_true rfl⟩ (As := [.int a1]) rfl hl.1 rfl (lv_room (Nat.le_of_ble_eq_true rfl)) dX11_until_2 (fun H locs hP hS => ?_)
  refine lv_if_eq (tgt := 18) hx hb dX11_until_5 (by decide) (fun c14 => ?_) (fun c14 => ?_)
  · replace h := h_t c14 h
    refine lv_ldc hx hb C.2.2.2.1 (C.2.2.2.2.1 _ mw_1323) dX11_until_18 ?_
    exact ret_i C hr hlocks hP hS h dX11_until_20
  · replace h := h_f c14 h
    refine lv_iload_n hx hb dX11_until_8 rfl (lv_at hl 2 rfl) ?_
    refine lv_iload_n hx hb dX11_until_9 rfl (lv_at hl 3 rfl) ?_
    refine lv_iload hx hb dX11_until_10 (lv_at hl 4 rfl) ?_
    obtain ⟨q15, e16, h⟩ := bnd h
    refine scall_i C hP hS (c_X11_isUntil e16) ms_X11_isUntil mw_1462 ⟨Nat.le_of_ble_eq_true rfl, Nat.le_of_ble_eq_true rfl⟩ (As := [.int a2, .int a3, .int a4]) rfl hl.1 rfl (lv_room (Nat.le_of_ble_eq_true rfl)) dX11_until_12 (fun H locs hP hS => ?_)
    refine lv_if_ne (tgt := 21) hx hb dX11_until_15 (by decide) (fun c17 => ?_) (fun c17 => ?_)
    · replace h := h_f c17 h
      refine lv_aload_n hx hb dX11_until_21 rfl (lv_at hl 0 rfl) ?_
      refine gf_X11_7_26 C hP dX11_until_22 ?_
      refine lv_bipush (v := 55) hx hb dX11_until_25 (by decide) ?_
      refine lv_iconst (v := 4) hx hb dX11_until_27 (by decide) ?_
      refine lv_iload_n hx hb dX11_until_28 rfl (lv_at hl 1 rfl) ?_
      refine lv_imul hx hb dX11_until_29 ?_
      refine lv_iadd hx hb dX11_until_30 ?_
      refine lv_iconst (v := 1) hx hb dX11_until_31 (by decide) ?_
      refine lv_iadd hx hb dX11_until_32 ?_
      obtain ⟨g18, h⟩ := h_g h
      refine r_ald C hP 27 (by decide) rfl (vp_in_iff.mpr g18) dX11_until_33 ?_
      obtain ⟨y19, e20, h⟩ := bnd h
      refine r_nm e20 ?_
      refine lv_istore (lv' := [(5, .int y19), (0, .ref (g_ad G 26)), (1, .int a1), (2, .int a2), (3, .int a3), (4, .int a4)]) hx hb dX11_until_34 hl (by decide) rfl (fun ls hl => ?_)
      refine lv_aload_n hx hb dX11_until_36 rfl (lv_at hl 1 rfl) ?_
      obtain ⟨q21, e22, h⟩ := bnd h
      refine call_v C hP hS (c_X11_minds e22) mi_X11_minds mw_1424 26 (by decide) rfl rfl ⟨Nat.le_of_ble_eq_true rfl, Nat.le_of_ble_eq_true rfl⟩ (As := []) rfl hl.1 rfl (lv_room (Nat.le_of_ble_eq_true rfl)) dX11_until_37 (fun H locs hP hS => ?_)
      refine lv_aload_n hx hb dX11_until_40 rfl (lv_at hl 1 rfl) ?_
      refine lv_iload_n hx hb dX11_until_41 rfl (lv_at hl 2 rfl) ?_
      refine lv_iload_n hx hb dX11_until_42 rfl (lv_at hl 3 rfl) ?_
      refine lv_iload_n hx hb dX11_until_43 rfl (lv_at hl 4 rfl) ?_
      refine lv_iload hx hb dX11_until_44 (lv_at hl 5 rfl) ?_
      obtain ⟨q23, e24, h⟩ := bnd h
      refine call_v C hP hS (c_X11_lays e24) mi_X11_lays mw_1466 26 (by decide) rfl rfl ⟨Nat.le_of_ble_eq_true rfl, Nat.le_of_ble_eq_true rfl⟩ (As := [.int a1, .int a2, .int a3, .int a4]) rfl hl.1 rfl (lv_room (Nat.le_of_ble_eq_true rfl)) dX11_until_46 (fun H locs hP hS => ?_)
      refine lv_iload hx hb dX11_until_49 (lv_at hl 0 rfl) ?_
      exact ret_i C hr hlocks hP hS h dX11_until_51
    · replace h := h_t c17 h
      refine lv_ldc hx hb C.2.2.2.1 (C.2.2.2.2.1 _ mw_1323) dX11_until_18 ?_
      exact ret_i C hr hlocks hP hS h dX11_until_20
