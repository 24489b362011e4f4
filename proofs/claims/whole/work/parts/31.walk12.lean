set_option maxHeartbeats 4000000 in
set_option maxRecDepth 100000 in
theorem c_X11_marks {l : Launch} {G : GT} {lam : Lm} {σ : St} {q : Int32 × St} (h : f_X11_marks σ = some q) : Met l yX11_marks (Cond.code yX11_marks cX11_marks 3 ((some .int)) :: TB) ({ frames := 3, cells := 0, slots := 0, locals := 67 } : Room) (va_Pc [.ref (g_ad G 26)] (GW G lam σ)) (Ri q G lam) 0 0 (g_A G) := by
  refine mk_Qi (own := RX11) (by decide) (Nat.le_of_ble_eq_true rfl) rfl (fun p e s m args below meth c C hr hlocks hP ls hl => ?_)
  have hx := C.1
  have hb := C.2.1
  have hl : lv_has ls 3 [(0, .ref (g_ad G 26))] := hl
  have L4 : ∀ (n4 : Nat) (σ : St) (x1 : Int32) (x2 : Int32) (H : Heap) (locs : List Loc) (ls : Array Slot), fx (F_X11_marks_h4) z_X11_marks_h4 n4 σ x1 x2 = some q → va_P (g_D G) vwCl (allW G lam σ) H → va_S (g_A G) s.heap H locs → lv_has ls 3 [(0, .ref (g_ad G 26)), (1, .int x1), (2, .int x2)] → W p l e ({ frames := 3, cells := 0, slots := 0, locals := 67 } : Room) s m args below meth c H locs 0 0 (Qi q below args s G lam) (F0 m 4 ls []) := by
    intro n4
    induction n4 with
    | zero => intro σ x1 x2 H locs ls h hP hS hl; exact absurd h (by intro h9; cases h9)
    | succ n4 ih4 =>
      have J29 : ∀ (σ : St) (x2 : Int32) (t0 : Int32) (t1 : Int32) (H : Heap) (locs : List Loc) (ls : Array Slot), f_X11_marks_p29 (fx (F_X11_marks_h4) z_X11_marks_h4 n4) σ x2 t0 t1 = some q → va_P (g_D G) vwCl (allW G lam σ) H → va_S (g_A G) s.heap H locs → lv_has ls 3 [(0, .ref (g_ad G 26)), (2, .int x2)] → W p l e ({ frames := 3, cells := 0, slots := 0, locals := 67 } : Room) s m args below meth c H locs 0 0 (Qi q below args s G lam) (F0 m 29 ls [.int t0, .int t1]) := by
        intro σ x2 t0 t1 H locs ls h hP hS hl
        unfold f_X11_marks_p29 at h
        refine lv_iadd hx hb dX11_marks_29 ?_
        obtain ⟨y7, e8, h⟩ := bnd h
        refine r_nm e8 ?_
        refine lv_istore_n (lv' := [(1, .int y7), (0, .ref (g_ad G 26)), (2, .int x2)]) hx hb dX11_marks_30 rfl hl (by decide) rfl (fun ls hl => ?_)
        obtain ⟨y9, e10, h⟩ := bnd h
        refine lv_iinc (v := y9) (lv' := [(2, .int y9), (1, .int y7), (0, .ref (g_ad G 26))]) hx hb dX11_marks_31 hl (k := 2) rfl (Option.some.inj e10) (by decide) rfl (fun ls hl => ?_)
        refine lv_goto (tgt := 4) hx hb dX11_marks_34 (by decide) ?_
        exact ih4 _ _ _ H locs ls h hP hS (lv_sub hl [2, 1, 0] rfl)
      intro σ x1 x2 H locs ls h hP hS hl
      change F_X11_marks_h4 (fx (F_X11_marks_h4) z_X11_marks_h4 n4) σ x1 x2 = some q at h
      unfold F_X11_marks_h4 at h
      refine lv_iload_n hx hb dX11_marks_4 rfl (lv_at hl 2 rfl) ?_
      refine lv_aload_n hx hb dX11_marks_5 rfl (lv_at hl 0 rfl) ?_
      refine gf_X11_7_26 C hP dX11_marks_6 ?_
      refine lv_bipush (v := 13) hx hb dX11_marks_9 (by decide) ?_
      refine r_aldc C hP 27 (by decide) rfl (j := 13) (by decide) (vp_in_iff.mpr (by decide)) dX11_marks_11 ?_
      refine lv_icmp_ge (tgt := 37) hx hb dX11_marks_12 (by decide) (fun c11 => ?_) (fun c11 => ?_)
      · replace h := h_t c11 h
        refine lv_iload_n hx hb dX11_marks_37 rfl (lv_at hl 1 rfl) ?_
        exact ret_i C hr hlocks hP hS h dX11_marks_38
      · replace h := h_f c11 h
        refine lv_iload_n hx hb dX11_marks_15 rfl (lv_at hl 1 rfl) ?_
        refine lv_aload_n hx hb dX11_marks_16 rfl (lv_at hl 0 rfl) ?_
        refine lv_iload_n hx hb dX11_marks_17 rfl (lv_at hl 2 rfl) ?_
        obtain ⟨q12, e13, h⟩ := bnd h
        refine call_i C hP hS (c_X11_isMark e13) mi_X11_isMark mw_1535 26 (by decide) rfl rfl ⟨Nat.le_of_ble_eq_true rfl, Nat.le_of_ble_eq_true rfl⟩ (As := [.int x2]) rfl hl.1 rfl (lv_room (Nat.le_of_ble_eq_true rfl)) dX11_marks_18 (fun H locs hP hS => ?_)
        refine lv_if_eq (tgt := 28) hx hb dX11_marks_21 (by decide) (fun c14 => ?_) (fun c14 => ?_)
        · replace h := h_t c14 h
          refine lv_iconst (v := 0) hx hb dX11_marks_28 (by decide) ?_
          exact J29 _ _ _ _ H locs ls h hP hS (lv_sub hl [0, 2] rfl)
        · replace h := h_f c14 h
          refine lv_iconst (v := 1) hx hb dX11_marks_24 (by decide) ?_
          refine lv_goto (tgt := 29) hx hb dX11_marks_25 (by decide) ?_
          exact J29 _ _ _ _ H locs ls h hP hS (lv_sub hl [0, 2] rfl)
  have hS : va_S (g_A G) s.heap s.heap [] := va_S.rf
  unfold f_X11_marks at h
  obtain ⟨H, hH⟩ : ∃ H, H = s.heap := ⟨_, rfl⟩
  obtain ⟨locs, hlo⟩ : ∃ k : List Loc, k = [] := ⟨_, rfl⟩
  rw [← hH, ← hlo]
  rw [← hH] at hP
  replace hS : va_S (g_A G) s.heap H locs := by rw [hH, hlo]; exact hS
  refine lv_iconst (v := 0) hx hb dX11_marks_0 (by decide) ?_
  refine lv_istore_n (lv' := [(1, .int 0), (0, .ref (g_ad G 26))]) hx hb dX11_marks_1 rfl hl (by decide) rfl (fun ls hl => ?_)
  refine lv_iconst (v := 0) hx hb dX11_marks_2 (by decide) ?_
  refine lv_istore_n (lv' := [(2, .int 0), (1, .int 0), (0, .ref (g_ad G 26))]) hx hb dX11_marks_3 rfl hl (by decide) rfl (fun ls hl => ?_)
  exact L4 FU _ _ _ H locs ls h hP hS (lv_sub hl [2, 1, 0] rfl)
set_option maxHeartbeats 4000000 in
set_option maxRecDepth 100000 in
theorem c_X11_count {l : Launch} {G : GT} {lam : Lm} {σ : St} {a1 : Int32} {q : Int32 × St} (h : f_X11_count σ a1 = some q) : Met l yX11_count (Cond.code yX11_count cX11_count 2 ((some .int)) :: TB) ({ frames := 4, cells := 0, slots := 0, locals := 89 } : Room) (va_Pc [.ref (g_ad G 26), .int a1] (GW G lam σ)) (Ri q G lam) 0 0 (g_A G) := by
  refine mk_Qi (own := RX11) (by decide) (Nat.le_of_ble_eq_true rfl) rfl (fun p e s m args below meth c C hr hlocks hP ls hl => ?_)
  have hx := C.1
  have hb := C.2.1
  have hl : lv_has ls 2 [(0, .ref (g_ad G 26)), (1, .int a1)] := hl
  have hS : va_S (g_A G) s.heap s.heap [] := va_S.rf
  unfold f_X11_count at h
  refine lv_iload_n hx hb dX11_count_0 rfl (lv_at hl 1 rfl) ?_
  by_cases c12 : a1 = 0
  · replace h := h_t c12 h
    refine r_eq c12 ?_
    refine lv_tableIn (off := 43) (tgt := 44) hx hb dX11_count_1 (by decide) (by decide) (by decide) (by decide) ?_
    refine lv_aload_n hx hb dX11_count_44 rfl (lv_at hl 0 rfl) ?_
    refine gf_X11_7_26 C hP dX11_count_45 ?_
    refine lv_bipush (v := 13) hx hb dX11_count_48 (by decide) ?_
    refine r_aldc C hP 27 (by decide) rfl (j := 13) (by decide) (vp_in_iff.mpr (by decide)) dX11_count_50 ?_
    exact ret_i C hr hlocks hP hS h dX11_count_51
  replace h := h_f c12 h
  by_cases c15 : a1 = 1
  · replace h := h_t c15 h
    refine r_eq c15 ?_
    refine lv_tableIn (off := 51) (tgt := 52) hx hb dX11_count_1 (by decide) (by decide) (by decide) (by decide) ?_
    refine lv_aload_n hx hb dX11_count_52 rfl (lv_at hl 0 rfl) ?_
    obtain ⟨q13, e14, h⟩ := bnd h
    refine call_i C hP hS (c_X11_marks e14) mi_X11_marks mw_1722 26 (by decide) rfl rfl ⟨Nat.le_of_ble_eq_true rfl, Nat.le_of_ble_eq_true rfl⟩ (As := []) rfl hl.1 rfl (lv_room (Nat.le_of_ble_eq_true rfl)) dX11_count_53 (fun H locs hP hS => ?_)
    exact ret_i C hr hlocks hP hS h dX11_count_56
  replace h := h_f c15 h
  by_cases c18 : a1 = 2
  · replace h := h_t c18 h
    refine r_eq c18 ?_
    refine lv_tableIn (off := 56) (tgt := 57) hx hb dX11_count_1 (by decide) (by decide) (by decide) (by decide) ?_
    refine lv_aload_n hx hb dX11_count_57 rfl (lv_at hl 0 rfl) ?_
    refine gf_X11_7_26 C hP dX11_count_58 ?_
    refine lv_bipush (v := 13) hx hb dX11_count_61 (by decide) ?_
    refine r_aldc C hP 27 (by decide) rfl (j := 13) (by decide) (vp_in_iff.mpr (by decide)) dX11_count_63 ?_
    refine lv_aload_n hx hb dX11_count_64 rfl (lv_at hl 0 rfl) ?_
    obtain ⟨q16, e17, h⟩ := bnd h
    refine call_i C hP hS (c_X11_marks e17) mi_X11_marks mw_1722 26 (by decide) rfl rfl ⟨Nat.le_of_ble_eq_true rfl, Nat.le_of_ble_eq_true rfl⟩ (As := []) rfl hl.1 rfl (lv_room (Nat.le_of_ble_eq_true rfl)) dX11_count_65 (fun H locs hP hS => ?_)
    refine lv_isub hx hb dX11_count_68 ?_
    exact ret_i C hr hlocks hP hS h dX11_count_69
  replace h := h_f c18 h
  by_cases c19 : a1 = 3
  · replace h := h_t c19 h
    refine r_eq c19 ?_
    refine lv_tableIn (off := 69) (tgt := 70) hx hb dX11_count_1 (by decide) (by decide) (by decide) (by decide) ?_
    refine lv_aload_n hx hb dX11_count_70 rfl (lv_at hl 0 rfl) ?_
    refine gf_X11_7_26 C hP dX11_count_71 ?_
    refine lv_bipush (v := 54) hx hb dX11_count_74 (by decide) ?_
    refine r_aldc C hP 27 (by decide) rfl (j := 54) (by decide) (vp_in_iff.mpr (by decide)) dX11_count_76 ?_
    exact ret_i C hr hlocks hP hS h dX11_count_77
  replace h := h_f c19 h
  by_cases c20 : a1 = 4
  · replace h := h_t c20 h
    refine r_eq c20 ?_
    refine lv_tableIn (off := 77) (tgt := 78) hx hb dX11_count_1 (by decide) (by decide) (by decide) (by decide) ?_
    refine lv_aload_n hx hb dX11_count_78 rfl (lv_at hl 0 rfl) ?_
    refine gf_X11_7_26 C hP dX11_count_79 ?_
    refine lv_bipush (v := 6) hx hb dX11_count_82 (by decide) ?_
    refine r_aldc C hP 27 (by decide) rfl (j := 6) (by decide) (vp_in_iff.mpr (by decide)) dX11_count_84 ?_
    exact ret_i C hr hlocks hP hS h dX11_count_85
  replace h := h_f c20 h
  by_cases c21 : a1 = 5
  · replace h := h_t c21 h
    refine r_eq c21 ?_
    refine lv_tableIn (off := 85) (tgt := 86) hx hb dX11_count_1 (by decide) (by decide) (by decide) (by decide) ?_
    refine lv_aload_n hx hb dX11_count_86 rfl (lv_at hl 0 rfl) ?_
    refine gf_X11_50_26 C hP dX11_count_87 ?_
    exact ret_i C hr hlocks hP hS h dX11_count_90
  replace h := h_f c21 h
  by_cases c22 : a1 = 6
  · replace h := h_t c22 h
    refine r_eq c22 ?_
    refine lv_tableIn (off := 90) (tgt := 91) hx hb dX11_count_1 (by decide) (by decide) (by decide) (by decide) ?_
    refine lv_aload_n hx hb dX11_count_91 rfl (lv_at hl 0 rfl) ?_
    refine gf_X11_72_26 C hP dX11_count_92 ?_
    exact ret_i C hr hlocks hP hS h dX11_count_95
  replace h := h_f c22 h
  refine lv_tableOut (tgt := 96) hx hb dX11_count_1 (by have hz := And.intro (ne_i (z := 0) (by decide) c12) (And.intro (ne_i (z := 1) (by decide) c15) (And.intro (ne_i (z := 2) (by decide) c18) (And.intro (ne_i (z := 3) (by decide) c19) (And.intro (ne_i (z := 4) (by decide) c20) (And.intro (ne_i (z := 5) (by decide) c21) (ne_i (z := 6) (by decide) c22)))))); omega) (by decide) ?_
  refine lv_ldc hx hb C.2.2.2.1 (C.2.2.2.2.1 _ mw_1323) dX11_count_96 ?_
  exact ret_i C hr hlocks hP hS h dX11_count_98
set_option maxHeartbeats 4000000 in
set_option maxRecDepth 100000 in
theorem c_X3_markBit {l : Launch} {G : GT} {lam : Lm} {σ : St} {a1 : Int32} {q : Int32 × St} (h : f_X3_markBit σ a1 = some q) : Met l yX3_markBit (Cond.code yX3_markBit cX3_markBit 2 ((some .int)) :: TB) ({ frames := 2, cells := 0, slots := 0, locals := 43 } : Room) (va_Pc [.ref (g_ad G 10), .int a1] (GW G lam σ)) (Ri q G lam) 0 0 (g_A G) := by
  refine mk_Qi (own := RX3) (by decide) (Nat.le_of_ble_eq_true rfl) rfl (fun p e s m args below meth c C hr hlocks hP ls hl => ?_)
  have hx := C.1
  have hb := C.2.1
  have hl : lv_has ls 2 [(0, .ref (g_ad G 10)), (1, .int a1)] := hl
  have hS : va_S (g_A G) s.heap s.heap [] := va_S.rf
  unfold f_X3_markBit at h
  refine lv_aload_n hx hb dX3_markBit_0 rfl (lv_at hl 0 rfl) ?_
  refine gf_X3_25_10 C hP dX3_markBit_1 ?_
  refine lv_iload_n hx hb dX3_markBit_4 rfl (lv_at hl 1 rfl) ?_
  obtain ⟨q4, e5, h⟩ := bnd h
  refine call_i C hP hS (c_X6_isMark_2 e5) mi_X6_isMark mw_1136 2 (by decide) rfl rfl ⟨Nat.le_of_ble_eq_true rfl, Nat.le_of_ble_eq_true rfl⟩ (As := [.int a1]) rfl hl.1 rfl (lv_room (Nat.le_of_ble_eq_true rfl)) dX3_markBit_5 (fun H locs hP hS => ?_)
  refine lv_if_eq (tgt := 17) hx hb dX3_markBit_8 (by decide) (fun c6 => ?_) (fun c6 => ?_)
  · replace h := h_t c6 h
    refine lv_iconst (v := 0) hx hb dX3_markBit_17 (by decide) ?_
    exact ret_i C hr hlocks hP hS h dX3_markBit_18
  · replace h := h_f c6 h
    refine lv_iconst (v := 1) hx hb dX3_markBit_11 (by decide) ?_
    refine lv_iload_n hx hb dX3_markBit_12 rfl (lv_at hl 1 rfl) ?_
    refine lv_ishl hx hb dX3_markBit_13 ?_
    refine lv_goto (tgt := 18) hx hb dX3_markBit_14 (by decide) ?_
    exact ret_i C hr hlocks hP hS h dX3_markBit_18
set_option maxHeartbeats 4000000 in
set_option maxRecDepth 100000 in
theorem c_X3_marksAwaited {l : Launch} {G : GT} {lam : Lm} {σ : St} {q : Int32 × St} (h : f_X3_marksAwaited σ = some q) : Met l yX3_marksAwaited (Cond.code yX3_marksAwaited cX3_marksAwaited 5 ((some .int)) :: TB) ({ frames := 3, cells := 0, slots := 0, locals := 64 } : Room) (va_Pc [.ref (g_ad G 10)] (GW G lam σ)) (Ri q G lam) 0 0 (g_A G) := by
  refine mk_Qi (own := RX3) (by decide) (Nat.le_of_ble_eq_true rfl) rfl (fun p e s m args below meth c C hr hlocks hP ls hl => ?_)
  have hx := C.1
  have hb := C.2.1
  have hl : lv_has ls 5 [(0, .ref (g_ad G 10))] := hl
  have L4 : ∀ (n4 : Nat) (σ : St) (x1 : Int32) (x2 : Int32) (H : Heap) (locs : List Loc) (ls : Array Slot), fx (F_X3_marksAwaited_h4) z_X3_marksAwaited_h4 n4 σ x1 x2 = some q → va_P (g_D G) vwCl (allW G lam σ) H → va_S (g_A G) s.heap H locs → lv_has ls 5 [(0, .ref (g_ad G 10)), (1, .int x1), (2, .int x2)] → W p l e ({ frames := 3, cells := 0, slots := 0, locals := 64 } : Room) s m args below meth c H locs 0 0 (Qi q below args s G lam) (F0 m 4 ls []) := by
    intro n4
    induction n4 with
    | zero => intro σ x1 x2 H locs ls h hP hS hl; exact absurd h (by intro h9; cases h9)
    | succ n4 ih4 =>
      have J89 : ∀ (σ : St) (x1 : Int32) (x2 : Int32) (H : Heap) (locs : List Loc) (ls : Array Slot), f_X3_marksAwaited_p89 (fx (F_X3_marksAwaited_h4) z_X3_marksAwaited_h4 n4) σ x1 x2 = some q → va_P (g_D G) vwCl (allW G lam σ) H → va_S (g_A G) s.heap H locs → lv_has ls 5 [(0, .ref (g_ad G 10)), (1, .int x1), (2, .int x2)] → W p l e ({ frames := 3, cells := 0, slots := 0, locals := 64 } : Room) s m args below meth c H locs 0 0 (Qi q below args s G lam) (F0 m 89 ls []) := by
        intro σ x1 x2 H locs ls h hP hS hl
        unfold f_X3_marksAwaited_p89 at h
        obtain ⟨y21, e22, h⟩ := bnd h
        refine lv_iinc (v := y21) (lv' := [(2, .int y21), (0, .ref (g_ad G 10)), (1, .int x1)]) hx hb dX3_marksAwaited_89 hl (k := 2) rfl (Option.some.inj e22) (by decide) rfl (fun ls hl => ?_)
        refine lv_goto (tgt := 4) hx hb dX3_marksAwaited_92 (by decide) ?_
        exact ih4 _ _ _ H locs ls h hP hS (lv_sub hl [1, 2, 0] rfl)
      have J68 : ∀ (σ : St) (x1 : Int32) (x2 : Int32) (x3 : Int32) (H : Heap) (locs : List Loc) (ls : Array Slot), f_X3_marksAwaited_p68 (fx (F_X3_marksAwaited_h4) z_X3_marksAwaited_h4 n4) σ x1 x2 x3 = some q → va_P (g_D G) vwCl (allW G lam σ) H → va_S (g_A G) s.heap H locs → lv_has ls 5 [(0, .ref (g_ad G 10)), (1, .int x1), (2, .int x2), (3, .int x3)] → W p l e ({ frames := 3, cells := 0, slots := 0, locals := 64 } : Room) s m args below meth c H locs 0 0 (Qi q below args s G lam) (F0 m 68 ls []) := by
        intro σ x1 x2 x3 H locs ls h hP hS hl
        unfold f_X3_marksAwaited_p68 at h
        refine lv_iload_n hx hb dX3_marksAwaited_68 rfl (lv_at hl 3 rfl) ?_
        refine lv_iconst (v := 2) hx hb dX3_marksAwaited_69 (by decide) ?_
        refine lv_icmp_ne (tgt := 89) hx hb dX3_marksAwaited_70 (by decide) (fun c23 => ?_) (fun c23 => ?_)
        · replace h := h_f c23 h
          exact J89 _ _ _ H locs ls h hP hS (lv_sub hl [0, 1, 2] rfl)
        · replace h := h_t c23 h
          refine lv_iload_n hx hb dX3_marksAwaited_73 rfl (lv_at hl 1 rfl) ?_
          refine lv_aload_n hx hb dX3_marksAwaited_74 rfl (lv_at hl 0 rfl) ?_
          refine lv_aload_n hx hb dX3_marksAwaited_75 rfl (lv_at hl 0 rfl) ?_
          refine gf_X3_25_10 C hP dX3_marksAwaited_76 ?_
          refine lv_iload_n hx hb dX3_marksAwaited_79 rfl (lv_at hl 2 rfl) ?_
          refine lv_iconst (v := 3) hx hb dX3_marksAwaited_80 (by decide) ?_
          obtain ⟨q24, e25, h⟩ := bnd h
          refine call_i C hP hS (c_X6_legCell_2 e25) mi_X6_legCell mw_1162 2 (by decide) rfl rfl ⟨Nat.le_of_ble_eq_true rfl, Nat.le_of_ble_eq_true rfl⟩ (As := [.int x2, .int 3]) rfl hl.1 rfl (lv_room (Nat.le_of_ble_eq_true rfl)) dX3_marksAwaited_81 (fun H locs hP hS => ?_)
          obtain ⟨q26, e27, h⟩ := bnd h
          refine call_i C hP hS (c_X3_markBit e27) mi_X3_markBit mw_1163 10 (by decide) rfl rfl ⟨Nat.le_of_ble_eq_true rfl, Nat.le_of_ble_eq_true rfl⟩ (As := [.int q24.1]) rfl hl.1 rfl (lv_room (Nat.le_of_ble_eq_true rfl)) dX3_marksAwaited_84 (fun H locs hP hS => ?_)
          refine lv_ior hx hb dX3_marksAwaited_87 ?_
          obtain ⟨y28, e29, h⟩ := bnd h
          refine r_nm e29 ?_
          refine lv_istore_n (lv' := [(1, .int y28), (0, .ref (g_ad G 10)), (2, .int x2), (3, .int x3)]) hx hb dX3_marksAwaited_88 rfl hl (by decide) rfl (fun ls hl => ?_)
          exact J89 _ _ _ H locs ls h hP hS (lv_sub hl [1, 0, 2] rfl)
      have J45 : ∀ (σ : St) (x1 : Int32) (x2 : Int32) (x3 : Int32) (t0 : Int32) (H : Heap) (locs : List Loc) (ls : Array Slot), f_X3_marksAwaited_p45 (fx (F_X3_marksAwaited_h4) z_X3_marksAwaited_h4 n4) σ x1 x2 x3 t0 = some q → va_P (g_D G) vwCl (allW G lam σ) H → va_S (g_A G) s.heap H locs → lv_has ls 5 [(0, .ref (g_ad G 10)), (1, .int x1), (2, .int x2), (3, .int x3)] → W p l e ({ frames := 3, cells := 0, slots := 0, locals := 64 } : Room) s m args below meth c H locs 0 0 (Qi q below args s G lam) (F0 m 45 ls [.int t0]) := by
        intro σ x1 x2 x3 t0 H locs ls h hP hS hl
        unfold f_X3_marksAwaited_p45 at h
        refine lv_istore (lv' := [(4, .int t0), (0, .ref (g_ad G 10)), (1, .int x1), (2, .int x2), (3, .int x3)]) hx hb dX3_marksAwaited_45 hl (by decide) rfl (fun ls hl => ?_)
        refine lv_iload hx hb dX3_marksAwaited_47 (lv_at hl 0 rfl) ?_
        refine lv_if_eq (tgt := 68) hx hb dX3_marksAwaited_49 (by decide) (fun c30 => ?_) (fun c30 => ?_)
        · replace h := h_t c30 h
          exact J68 _ _ _ _ H locs ls h hP hS (lv_sub hl [1, 2, 3, 4] rfl)
        · replace h := h_f c30 h
          refine lv_iload_n hx hb dX3_marksAwaited_52 rfl (lv_at hl 2 rfl) ?_
          refine lv_aload_n hx hb dX3_marksAwaited_53 rfl (lv_at hl 1 rfl) ?_
          refine lv_aload_n hx hb dX3_marksAwaited_54 rfl (lv_at hl 1 rfl) ?_
          refine gf_X3_25_10 C hP dX3_marksAwaited_55 ?_
          refine lv_iload_n hx hb dX3_marksAwaited_58 rfl (lv_at hl 3 rfl) ?_
          refine lv_iconst (v := 2) hx hb dX3_marksAwaited_59 (by decide) ?_
          obtain ⟨q31, e32, h⟩ := bnd h
          refine call_i C hP hS (c_X6_legCell_2 e32) mi_X6_legCell mw_1162 2 (by decide) rfl rfl ⟨Nat.le_of_ble_eq_true rfl, Nat.le_of_ble_eq_true rfl⟩ (As := [.int x2, .int 2]) rfl hl.1 rfl (lv_room (Nat.le_of_ble_eq_true rfl)) dX3_marksAwaited_60 (fun H locs hP hS => ?_)
          obtain ⟨q33, e34, h⟩ := bnd h
          refine call_i C hP hS (c_X3_markBit e34) mi_X3_markBit mw_1163 10 (by decide) rfl rfl ⟨Nat.le_of_ble_eq_true rfl, Nat.le_of_ble_eq_true rfl⟩ (As := [.int q31.1]) rfl hl.1 rfl (lv_room (Nat.le_of_ble_eq_true rfl)) dX3_marksAwaited_63 (fun H locs hP hS => ?_)
          refine lv_ior hx hb dX3_marksAwaited_66 ?_
          obtain ⟨y35, e36, h⟩ := bnd h
          refine r_nm e36 ?_
          refine lv_istore_n (lv' := [(1, .int y35), (4, .int t0), (0, .ref (g_ad G 10)), (2, .int x2), (3, .int x3)]) hx hb dX3_marksAwaited_67 rfl hl (by decide) rfl (fun ls hl => ?_)
          exact J68 _ _ _ _ H locs ls h hP hS (lv_sub hl [2, 0, 3, 4] rfl)
      have J40 : ∀ (σ : St) (x1 : Int32) (x2 : Int32) (x3 : Int32) (H : Heap) (locs : List Loc) (ls : Array Slot), f_X3_marksAwaited_p40 (fx (F_X3_marksAwaited_h4) z_X3_marksAwaited_h4 n4) σ x1 x2 x3 = some q → va_P (g_D G) vwCl (allW G lam σ) H → va_S (g_A G) s.heap H locs → lv_has ls 5 [(0, .ref (g_ad G 10)), (1, .int x1), (2, .int x2), (3, .int x3)] → W p l e ({ frames := 3, cells := 0, slots := 0, locals := 64 } : Room) s m args below meth c H locs 0 0 (Qi q below args s G lam) (F0 m 40 ls []) := by
        intro σ x1 x2 x3 H locs ls h hP hS hl
        unfold f_X3_marksAwaited_p40 at h
        refine lv_iconst (v := 1) hx hb dX3_marksAwaited_40 (by decide) ?_
        refine lv_goto (tgt := 45) hx hb dX3_marksAwaited_41 (by decide) ?_
        exact J45 _ _ _ _ _ H locs ls h hP hS (lv_sub hl [0, 1, 2, 3] rfl)
      intro σ x1 x2 H locs ls h hP hS hl
      change F_X3_marksAwaited_h4 (fx (F_X3_marksAwaited_h4) z_X3_marksAwaited_h4 n4) σ x1 x2 = some q at h
      unfold F_X3_marksAwaited_h4 at h
      refine lv_iload_n hx hb dX3_marksAwaited_4 rfl (lv_at hl 2 rfl) ?_
      refine lv_aload_n hx hb dX3_marksAwaited_5 rfl (lv_at hl 0 rfl) ?_
      refine gf_X3_25_10 C hP dX3_marksAwaited_6 ?_
      obtain ⟨q37, e38, h⟩ := bnd h
      refine call_i C hP hS (c_X6_legCount_2 e38) mi_X6_legCount mw_1161 2 (by decide) rfl rfl ⟨Nat.le_of_ble_eq_true rfl, Nat.le_of_ble_eq_true rfl⟩ (As := []) rfl hl.1 rfl (lv_room (Nat.le_of_ble_eq_true rfl)) dX3_marksAwaited_9 (fun H locs hP hS => ?_)
      refine lv_icmp_ge (tgt := 95) hx hb dX3_marksAwaited_12 (by decide) (fun c39 => ?_) (fun c39 => ?_)
      · replace h := h_t c39 h
        refine lv_iload_n hx hb dX3_marksAwaited_95 rfl (lv_at hl 1 rfl) ?_
        exact ret_i C hr hlocks hP hS h dX3_marksAwaited_96
      · replace h := h_f c39 h
        refine lv_aload_n hx hb dX3_marksAwaited_15 rfl (lv_at hl 0 rfl) ?_
        refine gf_X3_25_10 C hP dX3_marksAwaited_16 ?_
        refine lv_iload_n hx hb dX3_marksAwaited_19 rfl (lv_at hl 2 rfl) ?_
        refine lv_iconst (v := 1) hx hb dX3_marksAwaited_20 (by decide) ?_
        obtain ⟨q40, e41, h⟩ := bnd h
        refine call_i C hP hS (c_X6_legCell_2 e41) mi_X6_legCell mw_1162 2 (by decide) rfl rfl ⟨Nat.le_of_ble_eq_true rfl, Nat.le_of_ble_eq_true rfl⟩ (As := [.int x2, .int 1]) rfl hl.1 rfl (lv_room (Nat.le_of_ble_eq_true rfl)) dX3_marksAwaited_21 (fun H locs hP hS => ?_)
        refine lv_istore_n (lv' := [(3, .int q40.1), (0, .ref (g_ad G 10)), (1, .int x1), (2, .int x2)]) hx hb dX3_marksAwaited_24 rfl hl (by decide) rfl (fun ls hl => ?_)
        refine lv_iload_n hx hb dX3_marksAwaited_25 rfl (lv_at hl 0 rfl) ?_
        refine lv_iconst (v := 1) hx hb dX3_marksAwaited_26 (by decide) ?_
        refine lv_icmp_eq (tgt := 40) hx hb dX3_marksAwaited_27 (by decide) (fun c42 => ?_) (fun c42 => ?_)
        · replace h := h_t c42 h
          exact J40 _ _ _ _ H locs ls h hP hS (lv_sub hl [1, 2, 3, 0] rfl)
        · replace h := h_f c42 h
          refine lv_iload_n hx hb dX3_marksAwaited_30 rfl (lv_at hl 0 rfl) ?_
          refine lv_iconst (v := 2) hx hb dX3_marksAwaited_31 (by decide) ?_
          refine lv_icmp_eq (tgt := 40) hx hb dX3_marksAwaited_32 (by decide) (fun c43 => ?_) (fun c43 => ?_)
          · replace h := h_t c43 h
            exact J40 _ _ _ _ H locs ls h hP hS (lv_sub hl [1, 2, 3, 0] rfl)
          · replace h := h_f c43 h
            refine lv_iload_n hx hb dX3_marksAwaited_35 rfl (lv_at hl 0 rfl) ?_
            refine lv_iconst (v := 3) hx hb dX3_marksAwaited_36 (by decide) ?_
            refine lv_icmp_ne (tgt := 44) hx hb dX3_marksAwaited_37 (by decide) (fun c44 => ?_) (fun c44 => ?_)
            · replace h := h_f c44 h
              refine lv_iconst (v := 0) hx hb dX3_marksAwaited_44 (by decide) ?_
              exact J45 _ _ _ _ _ H locs ls h hP hS (lv_sub hl [1, 2, 3, 0] rfl)
            · replace h := h_t c44 h
              exact J40 _ _ _ _ H locs ls h hP hS (lv_sub hl [1, 2, 3, 0] rfl)
  have hS : va_S (g_A G) s.heap s.heap [] := va_S.rf
  unfold f_X3_marksAwaited at h
  obtain ⟨H, hH⟩ : ∃ H, H = s.heap := ⟨_, rfl⟩
  obtain ⟨locs, hlo⟩ : ∃ k : List Loc, k = [] := ⟨_, rfl⟩
  rw [← hH, ← hlo]
  rw [← hH] at hP
  replace hS : va_S (g_A G) s.heap H locs := by rw [hH, hlo]; exact hS
  refine lv_iconst (v := 0) hx hb dX3_marksAwaited_0 (by decide) ?_
  refine lv_istore_n (lv' := [(1, .int 0), (0, .ref (g_ad G 10))]) hx hb dX3_marksAwaited_1 rfl hl (by decide) rfl (fun ls hl => ?_)
  refine lv_iconst (v := 0) hx hb dX3_marksAwaited_2 (by decide) ?_
  refine lv_istore_n (lv' := [(2, .int 0), (1, .int 0), (0, .ref (g_ad G 10))]) hx hb dX3_marksAwaited_3 rfl hl (by decide) rfl (fun ls hl => ?_)
  exact L4 FU _ _ _ H locs ls h hP hS (lv_sub hl [2, 1, 0] rfl)
set_option maxHeartbeats 4000000 in
set_option maxRecDepth 100000 in
theorem c_J6_bitCount_0f7a4 {l : Launch} {G : GT} {lam : Lm} {σ : St} {a1 : Int32} {q : Int32 × St} (h : f_J6_bitCount_0f7a4 σ a1 = some q) : Met l yJ6_bitCount_0f7a4 (Cond.code yJ6_bitCount_0f7a4 cJ6_bitCount_0f7a4 1 ((some .int)) :: TB) ({ frames := 0, cells := 0, slots := 0, locals := 0 } : Room) (va_Pc [.int a1] (GW G lam σ)) (Ri q G lam) 0 0 (g_A G) := by
  refine mk_Qi (own := RJ6) (by decide) (Nat.le_of_ble_eq_true rfl) rfl (fun p e s m args below meth c C hr hlocks hP ls hl => ?_)
  have hx := C.1
  have hb := C.2.1
  have hl : lv_has ls 1 [(0, .int a1)] := hl
  have hS : va_S (g_A G) s.heap s.heap [] := va_S.rf
  unfold f_J6_bitCount_0f7a4 at h
  refine lv_iload_n hx hb dJ6_bitCount_0f7a4_0 rfl (lv_at hl 0 rfl) ?_
  refine lv_iload_n hx hb dJ6_bitCount_0f7a4_1 rfl (lv_at hl 0 rfl) ?_
  refine lv_iconst (v := 1) hx hb dJ6_bitCount_0f7a4_2 (by decide) ?_
  refine lv_iushr hx hb dJ6_bitCount_0f7a4_3 rfl ?_
  refine lv_ldcw hx hb C.2.2.2.1 (C.2.2.2.2.1 _ mw_1170) dJ6_bitCount_0f7a4_4 ?_
  refine lv_iand hx hb dJ6_bitCount_0f7a4_7 ?_
  refine lv_isub hx hb dJ6_bitCount_0f7a4_8 ?_
  obtain ⟨y1, e2, h⟩ := bnd h
  refine r_nm e2 ?_
  refine lv_istore_n (lv' := [(0, .int y1)]) hx hb dJ6_bitCount_0f7a4_9 rfl hl (by decide) rfl (fun ls hl => ?_)
  refine lv_iload_n hx hb dJ6_bitCount_0f7a4_10 rfl (lv_at hl 0 rfl) ?_
  refine lv_ldcw hx hb C.2.2.2.1 (C.2.2.2.2.1 _ mw_1171) dJ6_bitCount_0f7a4_11 ?_
  refine lv_iand hx hb dJ6_bitCount_0f7a4_14 ?_
  refine lv_iload_n hx hb dJ6_bitCount_0f7a4_15 rfl (lv_at hl 0 rfl) ?_
  refine lv_iconst (v := 2) hx hb dJ6_bitCount_0f7a4_16 (by decide) ?_
  refine lv_iushr hx hb dJ6_bitCount_0f7a4_17 rfl ?_
  refine lv_ldcw hx hb C.2.2.2.1 (C.2.2.2.2.1 _ mw_1171) dJ6_bitCount_0f7a4_18 ?_
  refine lv_iand hx hb dJ6_bitCount_0f7a4_21 ?_
  refine lv_iadd hx hb dJ6_bitCount_0f7a4_22 ?_
  obtain ⟨y3, e4, h⟩ := bnd h
  refine r_nm e4 ?_
  refine lv_istore_n (lv' := [(0, .int y3)]) hx hb dJ6_bitCount_0f7a4_23 rfl hl (by decide) rfl (fun ls hl => ?_)
  refine lv_iload_n hx hb dJ6_bitCount_0f7a4_24 rfl (lv_at hl 0 rfl) ?_
  refine lv_iload_n hx hb dJ6_bitCount_0f7a4_25 rfl (lv_at hl 0 rfl) ?_
  refine lv_iconst (v := 4) hx hb dJ6_bitCount_0f7a4_26 (by decide) ?_
  refine lv_iushr hx hb dJ6_bitCount_0f7a4_27 rfl ?_
  refine lv_iadd hx hb dJ6_bitCount_0f7a4_28 ?_
  refine lv_ldcw hx hb C.2.2.2.1 (C.2.2.2.2.1 _ mw_1172) dJ6_bitCount_0f7a4_29 ?_
  refine lv_iand hx hb dJ6_bitCount_0f7a4_32 ?_
  obtain ⟨y5, e6, h⟩ := bnd h
  refine r_nm e6 ?_
  refine lv_istore_n (lv' := [(0, .int y5)]) hx hb dJ6_bitCount_0f7a4_33 rfl hl (by decide) rfl (fun ls hl => ?_)
  refine lv_iload_n hx hb dJ6_bitCount_0f7a4_34 rfl (lv_at hl 0 rfl) ?_
  refine lv_iload_n hx hb dJ6_bitCount_0f7a4_35 rfl (lv_at hl 0 rfl) ?_
  refine lv_bipush (v := 8) hx hb dJ6_bitCount_0f7a4_36 (by decide) ?_
  refine lv_iushr hx hb dJ6_bitCount_0f7a4_38 rfl ?_
  refine lv_iadd hx hb dJ6_bitCount_0f7a4_39 ?_
  obtain ⟨y7, e8, h⟩ := bnd h
  refine r_nm e8 ?_
  refine lv_istore_n (lv' := [(0, .int y7)]) hx hb dJ6_bitCount_0f7a4_40 rfl hl (by decide) rfl (fun ls hl => ?_)
  refine lv_iload_n hx hb dJ6_bitCount_0f7a4_41 rfl (lv_at hl 0 rfl) ?_
  refine lv_iload_n hx hb dJ6_bitCount_0f7a4_42 rfl (lv_at hl 0 rfl) ?_
  refine lv_bipush (v := 16) hx hb dJ6_bitCount_0f7a4_43 (by decide) ?_
  refine lv_iushr hx hb dJ6_bitCount_0f7a4_45 rfl ?_
  refine lv_iadd hx hb dJ6_bitCount_0f7a4_46 ?_
  obtain ⟨y9, e10, h⟩ := bnd h
  refine r_nm e10 ?_
  refine lv_istore_n (lv' := [(0, .int y9)]) hx hb dJ6_bitCount_0f7a4_47 rfl hl (by decide) rfl (fun ls hl => ?_)
  refine lv_iload_n hx hb dJ6_bitCount_0f7a4_48 rfl (lv_at hl 0 rfl) ?_
  refine lv_bipush (v := 63) hx hb dJ6_bitCount_0f7a4_49 (by decide) ?_
  refine lv_iand hx hb dJ6_bitCount_0f7a4_51 ?_
  exact ret_i C hr hlocks hP hS h dJ6_bitCount_0f7a4_52
set_option maxHeartbeats 4000000 in
set_option maxRecDepth 100000 in
theorem c_X3_sharedWithCases {l : Launch} {G : GT} {lam : Lm} {σ : St} {a1 : Int32} {q : Int32 × St} (h : f_X3_sharedWithCases σ a1 = some q) : Met l yX3_sharedWithCases (Cond.code yX3_sharedWithCases cX3_sharedWithCases 2 ((some .int)) :: TB) ({ frames := 0, cells := 0, slots := 0, locals := 0 } : Room) (va_Pc [.int a1] (GW G lam σ)) (Ri q G lam) 0 0 (g_A G) := by
  refine mk_Qi (own := RX3) (by decide) (Nat.le_of_ble_eq_true rfl) rfl (fun p e s m args below meth c C hr hlocks hP ls hl => ?_)
  have hx := C.1
  have hb := C.2.1
  have hl : lv_has ls 2 [(0, .int a1)] := hl
  have L3 : ∀ (n3 : Nat) (σ : St) (x0 : Int32) (x1 : Int32) (H : Heap) (locs : List Loc) (ls : Array Slot), fx (F_X3_sharedWithCases_h3) z_X3_sharedWithCases_h3 n3 σ x0 x1 = some q → va_P (g_D G) vwCl (allW G lam σ) H → va_S (g_A G) s.heap H locs → lv_has ls 2 [(0, .int x0), (1, .int x1)] → W p l e ({ frames := 0, cells := 0, slots := 0, locals := 0 } : Room) s m args below meth c H locs 0 0 (Qi q below args s G lam) (F0 m 3 ls []) := by
    intro n3
    induction n3 with
    | zero => intro σ x0 x1 H locs ls h hP hS hl; exact absurd h (by intro h9; cases h9)
    | succ n3 ih3 =>
      have J23 : ∀ (σ : St) (x0 : Int32) (x1 : Int32) (H : Heap) (locs : List Loc) (ls : Array Slot), f_X3_sharedWithCases_p23 (fx (F_X3_sharedWithCases_h3) z_X3_sharedWithCases_h3 n3) σ x0 x1 = some q → va_P (g_D G) vwCl (allW G lam σ) H → va_S (g_A G) s.heap H locs → lv_has ls 2 [(0, .int x0), (1, .int x1)] → W p l e ({ frames := 0, cells := 0, slots := 0, locals := 0 } : Room) s m args below meth c H locs 0 0 (Qi q below args s G lam) (F0 m 23 ls []) := by
        intro σ x0 x1 H locs ls h hP hS hl
        unfold f_X3_sharedWithCases_p23 at h
        obtain ⟨y8, e9, h⟩ := bnd h
        refine lv_iinc (v := y8) (lv' := [(1, .int y8), (0, .int x0)]) hx hb dX3_sharedWithCases_23 hl (k := 1) rfl (Option.some.inj e9) (by decide) rfl (fun ls hl => ?_)
        refine lv_goto (tgt := 3) hx hb dX3_sharedWithCases_26 (by decide) ?_
        exact ih3 _ _ _ H locs ls h hP hS (lv_sub hl [1, 0] rfl)
      intro σ x0 x1 H locs ls h hP hS hl
      change F_X3_sharedWithCases_h3 (fx (F_X3_sharedWithCases_h3) z_X3_sharedWithCases_h3 n3) σ x0 x1 = some q at h
      unfold F_X3_sharedWithCases_h3 at h
      refine lv_iload_n hx hb dX3_sharedWithCases_3 rfl (lv_at hl 1 rfl) ?_
      refine lv_iconst (v := 1) hx hb dX3_sharedWithCases_4 (by decide) ?_
      refine lv_icmp_le (tgt := 29) hx hb dX3_sharedWithCases_5 (by decide) (fun c10 => ?_) (fun c10 => ?_)
      · replace h := h_t c10 h
        refine lv_iconst (v := 1) hx hb dX3_sharedWithCases_29 (by decide) ?_
        exact ret_i C hr hlocks hP hS h dX3_sharedWithCases_30
      · replace h := h_f c10 h
        refine lv_bipush (v := 10) hx hb dX3_sharedWithCases_8 (by decide) ?_
        refine lv_iload_n hx hb dX3_sharedWithCases_10 rfl (lv_at hl 1 rfl) ?_
        obtain ⟨g11, h⟩ := h_nz h
        refine lv_irem hx hb dX3_sharedWithCases_11 g11 ?_
        refine lv_if_ne (tgt := 23) hx hb dX3_sharedWithCases_12 (by decide) (fun c12 => ?_) (fun c12 => ?_)
        · replace h := h_f c12 h
          exact J23 _ _ _ H locs ls h hP hS (lv_sub hl [0, 1] rfl)
        · replace h := h_t c12 h
          refine lv_iload_n hx hb dX3_sharedWithCases_15 rfl (lv_at hl 0 rfl) ?_
          refine lv_iload_n hx hb dX3_sharedWithCases_16 rfl (lv_at hl 1 rfl) ?_
          obtain ⟨g13, h⟩ := h_nz h
          refine lv_irem hx hb dX3_sharedWithCases_17 g13 ?_
          refine lv_if_ne (tgt := 23) hx hb dX3_sharedWithCases_18 (by decide) (fun c14 => ?_) (fun c14 => ?_)
          · replace h := h_f c14 h
            exact J23 _ _ _ H locs ls h hP hS (lv_sub hl [0, 1] rfl)
          · replace h := h_t c14 h
            refine lv_iload_n hx hb dX3_sharedWithCases_21 rfl (lv_at hl 1 rfl) ?_
            exact ret_i C hr hlocks hP hS h dX3_sharedWithCases_22
  have hS : va_S (g_A G) s.heap s.heap [] := va_S.rf
  unfold f_X3_sharedWithCases at h
  obtain ⟨H, hH⟩ : ∃ H, H = s.heap := ⟨_, rfl⟩
  obtain ⟨locs, hlo⟩ : ∃ k : List Loc, k = [] := ⟨_, rfl⟩
  rw [← hH, ← hlo]
  rw [← hH] at hP
  replace hS : va_S (g_A G) s.heap H locs := by rw [hH, hlo]; exact hS
  refine lv_bipush (v := 10) hx hb dX3_sharedWithCases_0 (by decide) ?_
  refine lv_istore_n (lv' := [(1, .int 10), (0, .int a1)]) hx hb dX3_sharedWithCases_2 rfl hl (by decide) rfl (fun ls hl => ?_)
  exact L3 FU _ _ _ H locs ls h hP hS (lv_sub hl [1, 0] rfl)
