set_option maxHeartbeats 8000000 in
set_option maxRecDepth 100000 in
theorem law_loop {p : Program} {l : Launch} {e : Env} {s : State} {m : MethodId} {below : List Frame} {meth : Method} {c : Code} {b L : Nat} {xs : Nat → Int32} {G : GT} {Inv : St → Prop} (hPur : Pur Inv) (hL : L ≤ 3072) (C0 : lw_At p s m meth c b L xs) (C : Cx p s m c #[Value.ref b] code 4 RL G) (hG : ∀ q, g_A G q → s.heap.size ≤ q) :
    ∀ (n i : Nat) (x3 : Int32), i ≤ L + 6 → L + 7 ≤ i + n → x3 = nI i → ∀ (lam : Lm) (σ : St), Inv σ → ∀ (H : Heap) (locs : List Loc), va_P (g_D G) vwCl (allW G lam σ) H → va_S (fun q : Nat => s.heap.size ≤ q) s.heap H locs → ∀ (ls : Array Slot), lv_has ls 4 [(0, .ref b), (1, .ref (g_ad G 0)), (2, .ref (g_ad G 26)), (3, .int x3)] → W p l e room_1 s m #[Value.ref b] below meth c H locs 40 6541 (lw_Z below #[Value.ref b] s) (F0 m 18 ls []) := by
  obtain ⟨hx, hb, hr, hml, hown, hts0, hX, hbl, hlocks, hgv⟩ := C0
  obtain ⟨pp0, pp1, pp2, pp3, pp4, pp5, pp6, pp7, pp8, pp9, pp10, pp11, pp12, pp13, pp14, pp15, pp16, pp17, pp18, pp19, pp20, pp21, pp22, pp23, pp24, pp25, pp26, pp27, pp28, pp29, pp30, pp31, pp32, pp33, pp34⟩ := hPur
  have hbA : ¬ (fun q : Nat => s.heap.size ≤ q) b := Nat.not_le.mpr hbl
  intro n
  induction n with
  | zero => intro i x3 h1 h2; exact absurd h2 (by omega)
  | succ n ih =>
    intro i x3 hi hin ex3 lam σ hInv H locs hP hS ls hl
    refine lv_iload_n hx hb dL_law_18 rfl (lv_at hl 3 rfl) ?_
    refine lv_aload_n hx hb dL_law_19 rfl (lv_at hl 0 rfl) ?_
    refine va_slen hx hb hX hbl hbA hS dL_law_20 ?_
    refine lv_bipush (v := 6) hx hb dL_law_21 (by decide) ?_
    refine lv_isub hx hb dL_law_23 ?_
    refine lv_icmp_gt (tgt := 1340) hx hb dL_law_24 (by decide) (fun c0 => ?_) (fun c0 => ?_)
    · refine lv_iconst (v := 1) hx hb dL_law_1340 (by decide) ?_
      refine va_forget (fun q hq => hS.2.2 q hq) ?_
      refine W.widen (k := 40) (n := 6541) (Nat.le_refl 40) (Nat.le_refl 6541) ?_
      exact lw_ret hx hb hr hlocks dL_law_1341
    · have hlt : i + 6 ≤ L := law_lt hL hi ex3 c0
      have h_0 : vp_in x3 L := by rw [ex3]; exact vp_in_nI (by omega) (by omega)
      have h_1 : vp_in (x3 + 1) L := by rw [ex3, show (1 : Int32) = nI 1 from rfl, nI_add]; exact vp_in_nI (by omega) (by omega)
      have h_2 : vp_in (x3 + 2) L := by rw [ex3, show (2 : Int32) = nI 2 from rfl, nI_add]; exact vp_in_nI (by omega) (by omega)
      have h_3 : vp_in (x3 + 3) L := by rw [ex3, show (3 : Int32) = nI 3 from rfl, nI_add]; exact vp_in_nI (by omega) (by omega)
      have h_4 : vp_in (x3 + 4) L := by rw [ex3, show (4 : Int32) = nI 4 from rfl, nI_add]; exact vp_in_nI (by omega) (by omega)
      have h_5 : vp_in (x3 + 5) L := by rw [ex3, show (5 : Int32) = nI 5 from rfl, nI_add]; exact vp_in_nI (by omega) (by omega)
      have turn : ∀ (lam : Lm) (σ : St), Inv σ → ∀ (H : Heap) (locs : List Loc), va_P (g_D G) vwCl (allW G lam σ) H → va_S (fun q : Nat => s.heap.size ≤ q) s.heap H locs → W p l e room_1 s m #[Value.ref b] below meth c H locs 40 6541 (lw_Z below #[Value.ref b] s) (F0 m 1334 ls []) := by
        intro lam σ hInv H locs hP hS
        obtain ⟨y3, ey3⟩ : ∃ y : Int32, y = x3 + 6 := ⟨_, rfl⟩
        refine lv_iinc (v := y3) (lv' := [(3, .int y3), (0, .ref b), (1, .ref (g_ad G 0)), (2, .ref (g_ad G 26))]) hx hb dL_law_1334 hl (k := 3) rfl (by rw [ey3]; rfl) (by decide) rfl (fun ls hl => ?_)
        refine lv_goto (tgt := 18) hx hb dL_law_1337 (by decide) ?_
        exact ih (i + 6) y3 (by omega) (by omega) (by rw [ey3, ex3, show (6 : Int32) = nI 6 from rfl, nI_add]) lam σ hInv H locs hP hS ls (lv_sub hl [1, 2, 3, 0] rfl)
      refine lv_aload_n hx hb dL_law_27 rfl (lv_at hl 0 rfl) ?_
      refine lv_iload_n hx hb dL_law_28 rfl (lv_at hl 3 rfl) ?_
      refine va_sld hx hb hX hbl hbA hS h_0 dL_law_29 ?_
      refine lv_bipush (v := 63) hx hb dL_law_30 (by decide) ?_
      refine lv_iand hx hb dL_law_32 ?_
      refine lv_topi (fun w0 ew0 => ?_)
      by_cases c_0 : w0 = 0
      · refine r_eqL c_0 ?_
        refine lv_tableIn (off := 155) (tgt := 188) hx hb dL_law_33 (by decide) (by decide) (by decide) (by decide) ?_
        obtain ⟨qx, qm, e1, e2, e3, e4⟩ := pp0 σ (xs (x3 + 1).toNatClampNeg) hInv
        refine lv_aload_n hx hb dL_law_188 rfl (lv_at hl 1 rfl) ?_
        refine lv_aload_n hx hb dL_law_189 rfl (lv_at hl 0 rfl) ?_
        refine lv_iload_n hx hb dL_law_190 rfl (lv_at hl 3 rfl) ?_
        refine lv_iconst (v := 1) hx hb dL_law_191 (by decide) ?_
        refine lv_iadd hx hb dL_law_192 ?_
        refine va_sld hx hb hX hbl hbA hS h_1 dL_law_193 ?_
        refine lcall_i (k := 0) C hG hP hS (c_X10_feed e1) mi_X10_feed mw_404 (by decide) rfl rfl ⟨Nat.le_of_ble_eq_true rfl, Nat.le_of_ble_eq_true rfl⟩ (As := [.int (xs (x3 + 1).toNatClampNeg)]) rfl hl.1 rfl (lv_room (Nat.le_of_ble_eq_true rfl)) ⟨Nat.le_of_ble_eq_true rfl, Nat.le_of_ble_eq_true rfl⟩ dL_law_194 (fun H locs hP hS => ?_)
        refine lv_aload_n hx hb dL_law_197 rfl (lv_at hl 2 rfl) ?_
        refine lv_aload_n hx hb dL_law_198 rfl (lv_at hl 0 rfl) ?_
        refine lv_iload_n hx hb dL_law_199 rfl (lv_at hl 3 rfl) ?_
        refine lv_iconst (v := 1) hx hb dL_law_200 (by decide) ?_
        refine lv_iadd hx hb dL_law_201 ?_
        refine va_sld hx hb hX hbl hbA hS h_1 dL_law_202 ?_
        refine lcall_i (k := 26) C hG hP hS (c_X11_feed e2) mi_X11_feed mw_1315 (by decide) rfl rfl ⟨Nat.le_of_ble_eq_true rfl, Nat.le_of_ble_eq_true rfl⟩ (As := [.int (xs (x3 + 1).toNatClampNeg)]) rfl hl.1 rfl (lv_room (Nat.le_of_ble_eq_true rfl)) ⟨Nat.le_of_ble_eq_true rfl, Nat.le_of_ble_eq_true rfl⟩ dL_law_203 (fun H locs hP hS => ?_)
        refine lv_icmp_eq (tgt := 1334) hx hb dL_law_206 (by decide) (fun c1 => ?_) (fun c1 => ?_)
        · exact turn _ _ e4 _ _ hP hS
        · exact absurd e3 c1
      by_cases c_1 : w0 = 1
      · refine r_eqL c_1 ?_
        refine lv_tableIn (off := 178) (tgt := 211) hx hb dL_law_33 (by decide) (by decide) (by decide) (by decide) ?_
        obtain ⟨qx, qm, e1, e2, e3, e4⟩ := pp1 σ  hInv
        refine lv_aload_n hx hb dL_law_211 rfl (lv_at hl 1 rfl) ?_
        refine lcall_i (k := 0) C hG hP hS (c_X10_sheet e1) mi_X10_sheet mw_421 (by decide) rfl rfl ⟨Nat.le_of_ble_eq_true rfl, Nat.le_of_ble_eq_true rfl⟩ (As := []) rfl hl.1 rfl (lv_room (Nat.le_of_ble_eq_true rfl)) ⟨Nat.le_of_ble_eq_true rfl, Nat.le_of_ble_eq_true rfl⟩ dL_law_212 (fun H locs hP hS => ?_)
        refine lv_aload_n hx hb dL_law_215 rfl (lv_at hl 2 rfl) ?_
        refine lcall_i (k := 26) C hG hP hS (c_X11_sheet e2) mi_X11_sheet mw_1325 (by decide) rfl rfl ⟨Nat.le_of_ble_eq_true rfl, Nat.le_of_ble_eq_true rfl⟩ (As := []) rfl hl.1 rfl (lv_room (Nat.le_of_ble_eq_true rfl)) ⟨Nat.le_of_ble_eq_true rfl, Nat.le_of_ble_eq_true rfl⟩ dL_law_216 (fun H locs hP hS => ?_)
        refine lv_icmp_eq (tgt := 1334) hx hb dL_law_219 (by decide) (fun c1 => ?_) (fun c1 => ?_)
        · exact turn _ _ e4 _ _ hP hS
        · exact absurd e3 c1
      by_cases c_2 : w0 = 2
      · refine r_eqL c_2 ?_
        refine lv_tableIn (off := 191) (tgt := 224) hx hb dL_law_33 (by decide) (by decide) (by decide) (by decide) ?_
        obtain ⟨qx, qm, e1, e2, e3, e4⟩ := pp2 σ  hInv
        refine lv_aload_n hx hb dL_law_224 rfl (lv_at hl 1 rfl) ?_
        refine lcall_i (k := 0) C hG hP hS (c_X10_fault e1) mi_X10_fault mw_654 (by decide) rfl rfl ⟨Nat.le_of_ble_eq_true rfl, Nat.le_of_ble_eq_true rfl⟩ (As := []) rfl hl.1 rfl (lv_room (Nat.le_of_ble_eq_true rfl)) ⟨Nat.le_of_ble_eq_true rfl, Nat.le_of_ble_eq_true rfl⟩ dL_law_225 (fun H locs hP hS => ?_)
        refine lv_aload_n hx hb dL_law_228 rfl (lv_at hl 2 rfl) ?_
        refine lcall_i (k := 26) C hG hP hS (c_X11_fault e2) mi_X11_fault mw_1388 (by decide) rfl rfl ⟨Nat.le_of_ble_eq_true rfl, Nat.le_of_ble_eq_true rfl⟩ (As := []) rfl hl.1 rfl (lv_room (Nat.le_of_ble_eq_true rfl)) ⟨Nat.le_of_ble_eq_true rfl, Nat.le_of_ble_eq_true rfl⟩ dL_law_229 (fun H locs hP hS => ?_)
        refine lv_icmp_eq (tgt := 1334) hx hb dL_law_232 (by decide) (fun c1 => ?_) (fun c1 => ?_)
        · exact turn _ _ e4 _ _ hP hS
        · exact absurd e3 c1
      by_cases c_3 : w0 = 3
      · refine r_eqL c_3 ?_
        refine lv_tableIn (off := 204) (tgt := 237) hx hb dL_law_33 (by decide) (by decide) (by decide) (by decide) ?_
        obtain ⟨qx, qm, e1, e2, e3, e4⟩ := pp3 σ  hInv
        refine lv_aload_n hx hb dL_law_237 rfl (lv_at hl 1 rfl) ?_
        refine lcall_i (k := 0) C hG hP hS (c_X10_course e1) mi_X10_course mw_658 (by decide) rfl rfl ⟨Nat.le_of_ble_eq_true rfl, Nat.le_of_ble_eq_true rfl⟩ (As := []) rfl hl.1 rfl (lv_room (Nat.le_of_ble_eq_true rfl)) ⟨Nat.le_of_ble_eq_true rfl, Nat.le_of_ble_eq_true rfl⟩ dL_law_238 (fun H locs hP hS => ?_)
        refine lv_aload_n hx hb dL_law_241 rfl (lv_at hl 2 rfl) ?_
        refine lcall_i (k := 26) C hG hP hS (c_X11_course e2) mi_X11_course mw_1392 (by decide) rfl rfl ⟨Nat.le_of_ble_eq_true rfl, Nat.le_of_ble_eq_true rfl⟩ (As := []) rfl hl.1 rfl (lv_room (Nat.le_of_ble_eq_true rfl)) ⟨Nat.le_of_ble_eq_true rfl, Nat.le_of_ble_eq_true rfl⟩ dL_law_242 (fun H locs hP hS => ?_)
        refine lv_icmp_eq (tgt := 1334) hx hb dL_law_245 (by decide) (fun c1 => ?_) (fun c1 => ?_)
        · exact turn _ _ e4 _ _ hP hS
        · exact absurd e3 c1
      by_cases c_4 : w0 = 4
      · refine r_eqL c_4 ?_
        refine lv_tableIn (off := 217) (tgt := 250) hx hb dL_law_33 (by decide) (by decide) (by decide) (by decide) ?_
        obtain ⟨qx, qm, e1, e2, e3, e4⟩ := pp4 σ  hInv
        refine lv_aload_n hx hb dL_law_250 rfl (lv_at hl 1 rfl) ?_
        refine lcall_i (k := 0) C hG hP hS (c_X10_undo e1) mi_X10_undo mw_708 (by decide) rfl rfl ⟨Nat.le_of_ble_eq_true rfl, Nat.le_of_ble_eq_true rfl⟩ (As := []) rfl hl.1 rfl (lv_room (Nat.le_of_ble_eq_true rfl)) ⟨Nat.le_of_ble_eq_true rfl, Nat.le_of_ble_eq_true rfl⟩ dL_law_251 (fun H locs hP hS => ?_)
        refine lv_aload_n hx hb dL_law_254 rfl (lv_at hl 2 rfl) ?_
        refine lcall_i (k := 26) C hG hP hS (c_X11_undo e2) mi_X11_undo mw_1399 (by decide) rfl rfl ⟨Nat.le_of_ble_eq_true rfl, Nat.le_of_ble_eq_true rfl⟩ (As := []) rfl hl.1 rfl (lv_room (Nat.le_of_ble_eq_true rfl)) ⟨Nat.le_of_ble_eq_true rfl, Nat.le_of_ble_eq_true rfl⟩ dL_law_255 (fun H locs hP hS => ?_)
        refine lv_icmp_eq (tgt := 1334) hx hb dL_law_258 (by decide) (fun c1 => ?_) (fun c1 => ?_)
        · exact turn _ _ e4 _ _ hP hS
        · exact absurd e3 c1
      by_cases c_5 : w0 = 5
      · refine r_eqL c_5 ?_
        refine lv_tableIn (off := 230) (tgt := 263) hx hb dL_law_33 (by decide) (by decide) (by decide) (by decide) ?_
        obtain ⟨qx, qm, e1, e2, e3, e4⟩ := pp5 σ (xs (x3 + 1).toNatClampNeg) (xs (x3 + 2).toNatClampNeg) (xs (x3 + 3).toNatClampNeg) hInv
        refine lv_aload_n hx hb dL_law_263 rfl (lv_at hl 1 rfl) ?_
        refine lv_aload_n hx hb dL_law_264 rfl (lv_at hl 0 rfl) ?_
        refine lv_iload_n hx hb dL_law_265 rfl (lv_at hl 3 rfl) ?_
        refine lv_iconst (v := 1) hx hb dL_law_266 (by decide) ?_
        refine lv_iadd hx hb dL_law_267 ?_
        refine va_sld hx hb hX hbl hbA hS h_1 dL_law_268 ?_
        refine lv_aload_n hx hb dL_law_269 rfl (lv_at hl 0 rfl) ?_
        refine lv_iload_n hx hb dL_law_270 rfl (lv_at hl 3 rfl) ?_
        refine lv_iconst (v := 2) hx hb dL_law_271 (by decide) ?_
        refine lv_iadd hx hb dL_law_272 ?_
        refine va_sld hx hb hX hbl hbA hS h_2 dL_law_273 ?_
        refine lv_aload_n hx hb dL_law_274 rfl (lv_at hl 0 rfl) ?_
        refine lv_iload_n hx hb dL_law_275 rfl (lv_at hl 3 rfl) ?_
        refine lv_iconst (v := 3) hx hb dL_law_276 (by decide) ?_
        refine lv_iadd hx hb dL_law_277 ?_
        refine va_sld hx hb hX hbl hbA hS h_3 dL_law_278 ?_
        refine lcall_i (k := 0) C hG hP hS (c_X10_measure e1) mi_X10_measure mw_725 (by decide) rfl rfl ⟨Nat.le_of_ble_eq_true rfl, Nat.le_of_ble_eq_true rfl⟩ (As := [.int (xs (x3 + 1).toNatClampNeg), .int (xs (x3 + 2).toNatClampNeg), .int (xs (x3 + 3).toNatClampNeg)]) rfl hl.1 rfl (lv_room (Nat.le_of_ble_eq_true rfl)) ⟨Nat.le_of_ble_eq_true rfl, Nat.le_of_ble_eq_true rfl⟩ dL_law_279 (fun H locs hP hS => ?_)
        refine lv_aload_n hx hb dL_law_282 rfl (lv_at hl 2 rfl) ?_
        refine lv_aload_n hx hb dL_law_283 rfl (lv_at hl 0 rfl) ?_
        refine lv_iload_n hx hb dL_law_284 rfl (lv_at hl 3 rfl) ?_
        refine lv_iconst (v := 1) hx hb dL_law_285 (by decide) ?_
        refine lv_iadd hx hb dL_law_286 ?_
        refine va_sld hx hb hX hbl hbA hS h_1 dL_law_287 ?_
        refine lv_aload_n hx hb dL_law_288 rfl (lv_at hl 0 rfl) ?_
        refine lv_iload_n hx hb dL_law_289 rfl (lv_at hl 3 rfl) ?_
        refine lv_iconst (v := 2) hx hb dL_law_290 (by decide) ?_
        refine lv_iadd hx hb dL_law_291 ?_
        refine va_sld hx hb hX hbl hbA hS h_2 dL_law_292 ?_
        refine lv_aload_n hx hb dL_law_293 rfl (lv_at hl 0 rfl) ?_
        refine lv_iload_n hx hb dL_law_294 rfl (lv_at hl 3 rfl) ?_
        refine lv_iconst (v := 3) hx hb dL_law_295 (by decide) ?_
        refine lv_iadd hx hb dL_law_296 ?_
        refine va_sld hx hb hX hbl hbA hS h_3 dL_law_297 ?_
        refine lcall_i (k := 26) C hG hP hS (c_X11_measure e2) mi_X11_measure mw_1408 (by decide) rfl rfl ⟨Nat.le_of_ble_eq_true rfl, Nat.le_of_ble_eq_true rfl⟩ (As := [.int (xs (x3 + 1).toNatClampNeg), .int (xs (x3 + 2).toNatClampNeg), .int (xs (x3 + 3).toNatClampNeg)]) rfl hl.1 rfl (lv_room (Nat.le_of_ble_eq_true rfl)) ⟨Nat.le_of_ble_eq_true rfl, Nat.le_of_ble_eq_true rfl⟩ dL_law_298 (fun H locs hP hS => ?_)
        refine lv_icmp_eq (tgt := 1334) hx hb dL_law_301 (by decide) (fun c1 => ?_) (fun c1 => ?_)
        · exact turn _ _ e4 _ _ hP hS
        · exact absurd e3 c1
      by_cases c_6 : w0 = 6
      · refine r_eqL c_6 ?_
        refine lv_tableIn (off := 273) (tgt := 306) hx hb dL_law_33 (by decide) (by decide) (by decide) (by decide) ?_
        obtain ⟨qx, qm, e1, e2, e3, e4⟩ := pp6 σ (xs (x3 + 1).toNatClampNeg) (xs (x3 + 2).toNatClampNeg) hInv
        refine lv_aload_n hx hb dL_law_306 rfl (lv_at hl 1 rfl) ?_
        refine lv_aload_n hx hb dL_law_307 rfl (lv_at hl 0 rfl) ?_
        refine lv_iload_n hx hb dL_law_308 rfl (lv_at hl 3 rfl) ?_
        refine lv_iconst (v := 1) hx hb dL_law_309 (by decide) ?_
        refine lv_iadd hx hb dL_law_310 ?_
        refine va_sld hx hb hX hbl hbA hS h_1 dL_law_311 ?_
        refine lv_aload_n hx hb dL_law_312 rfl (lv_at hl 0 rfl) ?_
        refine lv_iload_n hx hb dL_law_313 rfl (lv_at hl 3 rfl) ?_
        refine lv_iconst (v := 2) hx hb dL_law_314 (by decide) ?_
        refine lv_iadd hx hb dL_law_315 ?_
        refine va_sld hx hb hX hbl hbA hS h_2 dL_law_316 ?_
        refine lcall_i (k := 0) C hG hP hS (c_X10_become e1) mi_X10_become mw_744 (by decide) rfl rfl ⟨Nat.le_of_ble_eq_true rfl, Nat.le_of_ble_eq_true rfl⟩ (As := [.int (xs (x3 + 1).toNatClampNeg), .int (xs (x3 + 2).toNatClampNeg)]) rfl hl.1 rfl (lv_room (Nat.le_of_ble_eq_true rfl)) ⟨Nat.le_of_ble_eq_true rfl, Nat.le_of_ble_eq_true rfl⟩ dL_law_317 (fun H locs hP hS => ?_)
        refine lv_aload_n hx hb dL_law_320 rfl (lv_at hl 2 rfl) ?_
        refine lv_aload_n hx hb dL_law_321 rfl (lv_at hl 0 rfl) ?_
        refine lv_iload_n hx hb dL_law_322 rfl (lv_at hl 3 rfl) ?_
        refine lv_iconst (v := 1) hx hb dL_law_323 (by decide) ?_
        refine lv_iadd hx hb dL_law_324 ?_
        refine va_sld hx hb hX hbl hbA hS h_1 dL_law_325 ?_
        refine lv_aload_n hx hb dL_law_326 rfl (lv_at hl 0 rfl) ?_
        refine lv_iload_n hx hb dL_law_327 rfl (lv_at hl 3 rfl) ?_
        refine lv_iconst (v := 2) hx hb dL_law_328 (by decide) ?_
        refine lv_iadd hx hb dL_law_329 ?_
        refine va_sld hx hb hX hbl hbA hS h_2 dL_law_330 ?_
        refine lcall_i (k := 26) C hG hP hS (c_X11_become e2) mi_X11_become mw_1428 (by decide) rfl rfl ⟨Nat.le_of_ble_eq_true rfl, Nat.le_of_ble_eq_true rfl⟩ (As := [.int (xs (x3 + 1).toNatClampNeg), .int (xs (x3 + 2).toNatClampNeg)]) rfl hl.1 rfl (lv_room (Nat.le_of_ble_eq_true rfl)) ⟨Nat.le_of_ble_eq_true rfl, Nat.le_of_ble_eq_true rfl⟩ dL_law_331 (fun H locs hP hS => ?_)
        refine lv_icmp_eq (tgt := 1334) hx hb dL_law_334 (by decide) (fun c1 => ?_) (fun c1 => ?_)
        · exact turn _ _ e4 _ _ hP hS
        · exact absurd e3 c1
      by_cases c_7 : w0 = 7
      · refine r_eqL c_7 ?_
        refine lv_tableIn (off := 306) (tgt := 339) hx hb dL_law_33 (by decide) (by decide) (by decide) (by decide) ?_
        obtain ⟨qx, qm, e1, e2, e3, e4⟩ := pp7 σ (xs (x3 + 1).toNatClampNeg) (xs (x3 + 2).toNatClampNeg) hInv
        refine lv_aload_n hx hb dL_law_339 rfl (lv_at hl 1 rfl) ?_
        refine lv_aload_n hx hb dL_law_340 rfl (lv_at hl 0 rfl) ?_
        refine lv_iload_n hx hb dL_law_341 rfl (lv_at hl 3 rfl) ?_
        refine lv_iconst (v := 1) hx hb dL_law_342 (by decide) ?_
        refine lv_iadd hx hb dL_law_343 ?_
        refine va_sld hx hb hX hbl hbA hS h_1 dL_law_344 ?_
        refine lv_aload_n hx hb dL_law_345 rfl (lv_at hl 0 rfl) ?_
        refine lv_iload_n hx hb dL_law_346 rfl (lv_at hl 3 rfl) ?_
        refine lv_iconst (v := 2) hx hb dL_law_347 (by decide) ?_
        refine lv_iadd hx hb dL_law_348 ?_
        refine va_sld hx hb hX hbl hbA hS h_2 dL_law_349 ?_
        refine lcall_i (k := 0) C hG hP hS (c_X10_ship e1) mi_X10_ship mw_749 (by decide) rfl rfl ⟨Nat.le_of_ble_eq_true rfl, Nat.le_of_ble_eq_true rfl⟩ (As := [.int (xs (x3 + 1).toNatClampNeg), .int (xs (x3 + 2).toNatClampNeg)]) rfl hl.1 rfl (lv_room (Nat.le_of_ble_eq_true rfl)) ⟨Nat.le_of_ble_eq_true rfl, Nat.le_of_ble_eq_true rfl⟩ dL_law_350 (fun H locs hP hS => ?_)
        refine lv_aload_n hx hb dL_law_353 rfl (lv_at hl 2 rfl) ?_
        refine lv_aload_n hx hb dL_law_354 rfl (lv_at hl 0 rfl) ?_
        refine lv_iload_n hx hb dL_law_355 rfl (lv_at hl 3 rfl) ?_
        refine lv_iconst (v := 1) hx hb dL_law_356 (by decide) ?_
        refine lv_iadd hx hb dL_law_357 ?_
        refine va_sld hx hb hX hbl hbA hS h_1 dL_law_358 ?_
        refine lv_aload_n hx hb dL_law_359 rfl (lv_at hl 0 rfl) ?_
        refine lv_iload_n hx hb dL_law_360 rfl (lv_at hl 3 rfl) ?_
        refine lv_iconst (v := 2) hx hb dL_law_361 (by decide) ?_
        refine lv_iadd hx hb dL_law_362 ?_
        refine va_sld hx hb hX hbl hbA hS h_2 dL_law_363 ?_
        refine lcall_i (k := 26) C hG hP hS (c_X11_ship e2) mi_X11_ship mw_1437 (by decide) rfl rfl ⟨Nat.le_of_ble_eq_true rfl, Nat.le_of_ble_eq_true rfl⟩ (As := [.int (xs (x3 + 1).toNatClampNeg), .int (xs (x3 + 2).toNatClampNeg)]) rfl hl.1 rfl (lv_room (Nat.le_of_ble_eq_true rfl)) ⟨Nat.le_of_ble_eq_true rfl, Nat.le_of_ble_eq_true rfl⟩ dL_law_364 (fun H locs hP hS => ?_)
        refine lv_icmp_eq (tgt := 1334) hx hb dL_law_367 (by decide) (fun c1 => ?_) (fun c1 => ?_)
        · exact turn _ _ e4 _ _ hP hS
        · exact absurd e3 c1
      by_cases c_8 : w0 = 8
      · refine r_eqL c_8 ?_
        refine lv_tableIn (off := 339) (tgt := 372) hx hb dL_law_33 (by decide) (by decide) (by decide) (by decide) ?_
        obtain ⟨qx, qm, e1, e2, e3, e4⟩ := pp8 σ (xs (x3 + 1).toNatClampNeg) (xs (x3 + 2).toNatClampNeg) hInv
        refine lv_aload_n hx hb dL_law_372 rfl (lv_at hl 1 rfl) ?_
        refine lv_aload_n hx hb dL_law_373 rfl (lv_at hl 0 rfl) ?_
        refine lv_iload_n hx hb dL_law_374 rfl (lv_at hl 3 rfl) ?_
        refine lv_iconst (v := 1) hx hb dL_law_375 (by decide) ?_
        refine lv_iadd hx hb dL_law_376 ?_
        refine va_sld hx hb hX hbl hbA hS h_1 dL_law_377 ?_
        refine lv_aload_n hx hb dL_law_378 rfl (lv_at hl 0 rfl) ?_
        refine lv_iload_n hx hb dL_law_379 rfl (lv_at hl 3 rfl) ?_
        refine lv_iconst (v := 2) hx hb dL_law_380 (by decide) ?_
        refine lv_iadd hx hb dL_law_381 ?_
        refine va_sld hx hb hX hbl hbA hS h_2 dL_law_382 ?_
        refine lcall_i (k := 0) C hG hP hS (c_X10_tide e1) mi_X10_tide mw_758 (by decide) rfl rfl ⟨Nat.le_of_ble_eq_true rfl, Nat.le_of_ble_eq_true rfl⟩ (As := [.int (xs (x3 + 1).toNatClampNeg), .int (xs (x3 + 2).toNatClampNeg)]) rfl hl.1 rfl (lv_room (Nat.le_of_ble_eq_true rfl)) ⟨Nat.le_of_ble_eq_true rfl, Nat.le_of_ble_eq_true rfl⟩ dL_law_383 (fun H locs hP hS => ?_)
        refine lv_aload_n hx hb dL_law_386 rfl (lv_at hl 2 rfl) ?_
        refine lv_aload_n hx hb dL_law_387 rfl (lv_at hl 0 rfl) ?_
        refine lv_iload_n hx hb dL_law_388 rfl (lv_at hl 3 rfl) ?_
        refine lv_iconst (v := 1) hx hb dL_law_389 (by decide) ?_
        refine lv_iadd hx hb dL_law_390 ?_
        refine va_sld hx hb hX hbl hbA hS h_1 dL_law_391 ?_
        refine lv_aload_n hx hb dL_law_392 rfl (lv_at hl 0 rfl) ?_
        refine lv_iload_n hx hb dL_law_393 rfl (lv_at hl 3 rfl) ?_
        refine lv_iconst (v := 2) hx hb dL_law_394 (by decide) ?_
        refine lv_iadd hx hb dL_law_395 ?_
        refine va_sld hx hb hX hbl hbA hS h_2 dL_law_396 ?_
        refine lcall_i (k := 26) C hG hP hS (c_X11_tide e2) mi_X11_tide mw_1446 (by decide) rfl rfl ⟨Nat.le_of_ble_eq_true rfl, Nat.le_of_ble_eq_true rfl⟩ (As := [.int (xs (x3 + 1).toNatClampNeg), .int (xs (x3 + 2).toNatClampNeg)]) rfl hl.1 rfl (lv_room (Nat.le_of_ble_eq_true rfl)) ⟨Nat.le_of_ble_eq_true rfl, Nat.le_of_ble_eq_true rfl⟩ dL_law_397 (fun H locs hP hS => ?_)
        refine lv_icmp_eq (tgt := 1334) hx hb dL_law_400 (by decide) (fun c1 => ?_) (fun c1 => ?_)
        · exact turn _ _ e4 _ _ hP hS
        · exact absurd e3 c1
      by_cases c_9 : w0 = 9
      · refine r_eqL c_9 ?_
        refine lv_tableIn (off := 372) (tgt := 405) hx hb dL_law_33 (by decide) (by decide) (by decide) (by decide) ?_
        obtain ⟨qx, qm, e1, e2, e3, e4⟩ := pp9 σ (xs (x3 + 1).toNatClampNeg) (xs (x3 + 2).toNatClampNeg) hInv
        refine lv_aload_n hx hb dL_law_405 rfl (lv_at hl 1 rfl) ?_
        refine lv_aload_n hx hb dL_law_406 rfl (lv_at hl 0 rfl) ?_
        refine lv_iload_n hx hb dL_law_407 rfl (lv_at hl 3 rfl) ?_
        refine lv_iconst (v := 1) hx hb dL_law_408 (by decide) ?_
        refine lv_iadd hx hb dL_law_409 ?_
        refine va_sld hx hb hX hbl hbA hS h_1 dL_law_410 ?_
        refine lv_aload_n hx hb dL_law_411 rfl (lv_at hl 0 rfl) ?_
        refine lv_iload_n hx hb dL_law_412 rfl (lv_at hl 3 rfl) ?_
        refine lv_iconst (v := 2) hx hb dL_law_413 (by decide) ?_
        refine lv_iadd hx hb dL_law_414 ?_
        refine va_sld hx hb hX hbl hbA hS h_2 dL_law_415 ?_
        refine lcall_i (k := 0) C hG hP hS (c_X10_steer e1) mi_X10_steer mw_767 (by decide) rfl rfl ⟨Nat.le_of_ble_eq_true rfl, Nat.le_of_ble_eq_true rfl⟩ (As := [.int (xs (x3 + 1).toNatClampNeg), .int (xs (x3 + 2).toNatClampNeg)]) rfl hl.1 rfl (lv_room (Nat.le_of_ble_eq_true rfl)) ⟨Nat.le_of_ble_eq_true rfl, Nat.le_of_ble_eq_true rfl⟩ dL_law_416 (fun H locs hP hS => ?_)
        refine lv_aload_n hx hb dL_law_419 rfl (lv_at hl 2 rfl) ?_
        refine lv_aload_n hx hb dL_law_420 rfl (lv_at hl 0 rfl) ?_
        refine lv_iload_n hx hb dL_law_421 rfl (lv_at hl 3 rfl) ?_
        refine lv_iconst (v := 1) hx hb dL_law_422 (by decide) ?_
        refine lv_iadd hx hb dL_law_423 ?_
        refine va_sld hx hb hX hbl hbA hS h_1 dL_law_424 ?_
        refine lv_aload_n hx hb dL_law_425 rfl (lv_at hl 0 rfl) ?_
        refine lv_iload_n hx hb dL_law_426 rfl (lv_at hl 3 rfl) ?_
        refine lv_iconst (v := 2) hx hb dL_law_427 (by decide) ?_
        refine lv_iadd hx hb dL_law_428 ?_
        refine va_sld hx hb hX hbl hbA hS h_2 dL_law_429 ?_
        refine lcall_i (k := 26) C hG hP hS (c_X11_steer e2) mi_X11_steer mw_1450 (by decide) rfl rfl ⟨Nat.le_of_ble_eq_true rfl, Nat.le_of_ble_eq_true rfl⟩ (As := [.int (xs (x3 + 1).toNatClampNeg), .int (xs (x3 + 2).toNatClampNeg)]) rfl hl.1 rfl (lv_room (Nat.le_of_ble_eq_true rfl)) ⟨Nat.le_of_ble_eq_true rfl, Nat.le_of_ble_eq_true rfl⟩ dL_law_430 (fun H locs hP hS => ?_)
        refine lv_icmp_eq (tgt := 1334) hx hb dL_law_433 (by decide) (fun c1 => ?_) (fun c1 => ?_)
        · exact turn _ _ e4 _ _ hP hS
        · exact absurd e3 c1
      by_cases c_10 : w0 = 10
      · refine r_eqL c_10 ?_
        refine lv_tableIn (off := 405) (tgt := 438) hx hb dL_law_33 (by decide) (by decide) (by decide) (by decide) ?_
        obtain ⟨qx, qm, e1, e2, e3, e4⟩ := pp10 σ (xs (x3 + 1).toNatClampNeg) (xs (x3 + 2).toNatClampNeg) (xs (x3 + 3).toNatClampNeg) (xs (x3 + 4).toNatClampNeg) hInv
        refine lv_aload_n hx hb dL_law_438 rfl (lv_at hl 1 rfl) ?_
        refine lv_aload_n hx hb dL_law_439 rfl (lv_at hl 0 rfl) ?_
        refine lv_iload_n hx hb dL_law_440 rfl (lv_at hl 3 rfl) ?_
        refine lv_iconst (v := 1) hx hb dL_law_441 (by decide) ?_
        refine lv_iadd hx hb dL_law_442 ?_
        refine va_sld hx hb hX hbl hbA hS h_1 dL_law_443 ?_
        refine lv_aload_n hx hb dL_law_444 rfl (lv_at hl 0 rfl) ?_
        refine lv_iload_n hx hb dL_law_445 rfl (lv_at hl 3 rfl) ?_
        refine lv_iconst (v := 2) hx hb dL_law_446 (by decide) ?_
        refine lv_iadd hx hb dL_law_447 ?_
        refine va_sld hx hb hX hbl hbA hS h_2 dL_law_448 ?_
        refine lv_aload_n hx hb dL_law_449 rfl (lv_at hl 0 rfl) ?_
        refine lv_iload_n hx hb dL_law_450 rfl (lv_at hl 3 rfl) ?_
        refine lv_iconst (v := 3) hx hb dL_law_451 (by decide) ?_
        refine lv_iadd hx hb dL_law_452 ?_
        refine va_sld hx hb hX hbl hbA hS h_3 dL_law_453 ?_
        refine lv_aload_n hx hb dL_law_454 rfl (lv_at hl 0 rfl) ?_
        refine lv_iload_n hx hb dL_law_455 rfl (lv_at hl 3 rfl) ?_
        refine lv_iconst (v := 4) hx hb dL_law_456 (by decide) ?_
        refine lv_iadd hx hb dL_law_457 ?_
        refine va_sld hx hb hX hbl hbA hS h_4 dL_law_458 ?_
        refine lcall_i (k := 0) C hG hP hS (c_X10_until e1) mi_X10_until mw_779 (by decide) rfl rfl ⟨Nat.le_of_ble_eq_true rfl, Nat.le_of_ble_eq_true rfl⟩ (As := [.int (xs (x3 + 1).toNatClampNeg), .int (xs (x3 + 2).toNatClampNeg), .int (xs (x3 + 3).toNatClampNeg), .int (xs (x3 + 4).toNatClampNeg)]) rfl hl.1 rfl (lv_room (Nat.le_of_ble_eq_true rfl)) ⟨Nat.le_of_ble_eq_true rfl, Nat.le_of_ble_eq_true rfl⟩ dL_law_459 (fun H locs hP hS => ?_)
        refine lv_aload_n hx hb dL_law_462 rfl (lv_at hl 2 rfl) ?_
        refine lv_aload_n hx hb dL_law_463 rfl (lv_at hl 0 rfl) ?_
        refine lv_iload_n hx hb dL_law_464 rfl (lv_at hl 3 rfl) ?_
        refine lv_iconst (v := 1) hx hb dL_law_465 (by decide) ?_
        refine lv_iadd hx hb dL_law_466 ?_
        refine va_sld hx hb hX hbl hbA hS h_1 dL_law_467 ?_
        refine lv_aload_n hx hb dL_law_468 rfl (lv_at hl 0 rfl) ?_
        refine lv_iload_n hx hb dL_law_469 rfl (lv_at hl 3 rfl) ?_
        refine lv_iconst (v := 2) hx hb dL_law_470 (by decide) ?_
        refine lv_iadd hx hb dL_law_471 ?_
        refine va_sld hx hb hX hbl hbA hS h_2 dL_law_472 ?_
        refine lv_aload_n hx hb dL_law_473 rfl (lv_at hl 0 rfl) ?_
        refine lv_iload_n hx hb dL_law_474 rfl (lv_at hl 3 rfl) ?_
        refine lv_iconst (v := 3) hx hb dL_law_475 (by decide) ?_
        refine lv_iadd hx hb dL_law_476 ?_
        refine va_sld hx hb hX hbl hbA hS h_3 dL_law_477 ?_
        refine lv_aload_n hx hb dL_law_478 rfl (lv_at hl 0 rfl) ?_
        refine lv_iload_n hx hb dL_law_479 rfl (lv_at hl 3 rfl) ?_
        refine lv_iconst (v := 4) hx hb dL_law_480 (by decide) ?_
        refine lv_iadd hx hb dL_law_481 ?_
        refine va_sld hx hb hX hbl hbA hS h_4 dL_law_482 ?_
        refine lcall_i (k := 26) C hG hP hS (c_X11_until e2) mi_X11_until mw_1458 (by decide) rfl rfl ⟨Nat.le_of_ble_eq_true rfl, Nat.le_of_ble_eq_true rfl⟩ (As := [.int (xs (x3 + 1).toNatClampNeg), .int (xs (x3 + 2).toNatClampNeg), .int (xs (x3 + 3).toNatClampNeg), .int (xs (x3 + 4).toNatClampNeg)]) rfl hl.1 rfl (lv_room (Nat.le_of_ble_eq_true rfl)) ⟨Nat.le_of_ble_eq_true rfl, Nat.le_of_ble_eq_true rfl⟩ dL_law_483 (fun H locs hP hS => ?_)
        refine lv_icmp_eq (tgt := 1334) hx hb dL_law_486 (by decide) (fun c1 => ?_) (fun c1 => ?_)
        · exact turn _ _ e4 _ _ hP hS
        · exact absurd e3 c1
      by_cases c_11 : w0 = 11
      · refine r_eqL c_11 ?_
        refine lv_tableIn (off := 458) (tgt := 491) hx hb dL_law_33 (by decide) (by decide) (by decide) (by decide) ?_
        obtain ⟨qx, qm, e1, e2, e3, e4⟩ := pp11 σ (xs (x3 + 1).toNatClampNeg) (xs (x3 + 2).toNatClampNeg) (xs (x3 + 3).toNatClampNeg) (xs (x3 + 4).toNatClampNeg) (xs (x3 + 5).toNatClampNeg) hInv
        refine lv_aload_n hx hb dL_law_491 rfl (lv_at hl 1 rfl) ?_
        refine lv_aload_n hx hb dL_law_492 rfl (lv_at hl 0 rfl) ?_
        refine lv_iload_n hx hb dL_law_493 rfl (lv_at hl 3 rfl) ?_
        refine lv_iconst (v := 1) hx hb dL_law_494 (by decide) ?_
        refine lv_iadd hx hb dL_law_495 ?_
        refine va_sld hx hb hX hbl hbA hS h_1 dL_law_496 ?_
        refine lv_aload_n hx hb dL_law_497 rfl (lv_at hl 0 rfl) ?_
        refine lv_iload_n hx hb dL_law_498 rfl (lv_at hl 3 rfl) ?_
        refine lv_iconst (v := 2) hx hb dL_law_499 (by decide) ?_
        refine lv_iadd hx hb dL_law_500 ?_
        refine va_sld hx hb hX hbl hbA hS h_2 dL_law_501 ?_
        refine lv_aload_n hx hb dL_law_502 rfl (lv_at hl 0 rfl) ?_
        refine lv_iload_n hx hb dL_law_503 rfl (lv_at hl 3 rfl) ?_
        refine lv_iconst (v := 3) hx hb dL_law_504 (by decide) ?_
        refine lv_iadd hx hb dL_law_505 ?_
        refine va_sld hx hb hX hbl hbA hS h_3 dL_law_506 ?_
        refine lv_aload_n hx hb dL_law_507 rfl (lv_at hl 0 rfl) ?_
        refine lv_iload_n hx hb dL_law_508 rfl (lv_at hl 3 rfl) ?_
        refine lv_iconst (v := 4) hx hb dL_law_509 (by decide) ?_
        refine lv_iadd hx hb dL_law_510 ?_
        refine va_sld hx hb hX hbl hbA hS h_4 dL_law_511 ?_
        refine lv_aload_n hx hb dL_law_512 rfl (lv_at hl 0 rfl) ?_
        refine lv_iload_n hx hb dL_law_513 rfl (lv_at hl 3 rfl) ?_
        refine lv_iconst (v := 5) hx hb dL_law_514 (by decide) ?_
        refine lv_iadd hx hb dL_law_515 ?_
        refine va_sld hx hb hX hbl hbA hS h_5 dL_law_516 ?_
        refine lcall_i (k := 0) C hG hP hS (c_X10_add e1) mi_X10_add mw_789 (by decide) rfl rfl ⟨Nat.le_of_ble_eq_true rfl, Nat.le_of_ble_eq_true rfl⟩ (As := [.int (xs (x3 + 1).toNatClampNeg), .int (xs (x3 + 2).toNatClampNeg), .int (xs (x3 + 3).toNatClampNeg), .int (xs (x3 + 4).toNatClampNeg), .int (xs (x3 + 5).toNatClampNeg)]) rfl hl.1 rfl (lv_room (Nat.le_of_ble_eq_true rfl)) ⟨Nat.le_of_ble_eq_true rfl, Nat.le_of_ble_eq_true rfl⟩ dL_law_517 (fun H locs hP hS => ?_)
        refine lv_aload_n hx hb dL_law_520 rfl (lv_at hl 2 rfl) ?_
        refine lv_aload_n hx hb dL_law_521 rfl (lv_at hl 0 rfl) ?_
        refine lv_iload_n hx hb dL_law_522 rfl (lv_at hl 3 rfl) ?_
        refine lv_iconst (v := 1) hx hb dL_law_523 (by decide) ?_
        refine lv_iadd hx hb dL_law_524 ?_
        refine va_sld hx hb hX hbl hbA hS h_1 dL_law_525 ?_
        refine lv_aload_n hx hb dL_law_526 rfl (lv_at hl 0 rfl) ?_
        refine lv_iload_n hx hb dL_law_527 rfl (lv_at hl 3 rfl) ?_
        refine lv_iconst (v := 2) hx hb dL_law_528 (by decide) ?_
        refine lv_iadd hx hb dL_law_529 ?_
        refine va_sld hx hb hX hbl hbA hS h_2 dL_law_530 ?_
        refine lv_aload_n hx hb dL_law_531 rfl (lv_at hl 0 rfl) ?_
        refine lv_iload_n hx hb dL_law_532 rfl (lv_at hl 3 rfl) ?_
        refine lv_iconst (v := 3) hx hb dL_law_533 (by decide) ?_
        refine lv_iadd hx hb dL_law_534 ?_
        refine va_sld hx hb hX hbl hbA hS h_3 dL_law_535 ?_
        refine lv_aload_n hx hb dL_law_536 rfl (lv_at hl 0 rfl) ?_
        refine lv_iload_n hx hb dL_law_537 rfl (lv_at hl 3 rfl) ?_
        refine lv_iconst (v := 4) hx hb dL_law_538 (by decide) ?_
        refine lv_iadd hx hb dL_law_539 ?_
        refine va_sld hx hb hX hbl hbA hS h_4 dL_law_540 ?_
        refine lv_aload_n hx hb dL_law_541 rfl (lv_at hl 0 rfl) ?_
        refine lv_iload_n hx hb dL_law_542 rfl (lv_at hl 3 rfl) ?_
        refine lv_iconst (v := 5) hx hb dL_law_543 (by decide) ?_
        refine lv_iadd hx hb dL_law_544 ?_
        refine va_sld hx hb hX hbl hbA hS h_5 dL_law_545 ?_
        refine lcall_i (k := 26) C hG hP hS (c_X11_add e2) mi_X11_add mw_1470 (by decide) rfl rfl ⟨Nat.le_of_ble_eq_true rfl, Nat.le_of_ble_eq_true rfl⟩ (As := [.int (xs (x3 + 1).toNatClampNeg), .int (xs (x3 + 2).toNatClampNeg), .int (xs (x3 + 3).toNatClampNeg), .int (xs (x3 + 4).toNatClampNeg), .int (xs (x3 + 5).toNatClampNeg)]) rfl hl.1 rfl (lv_room (Nat.le_of_ble_eq_true rfl)) ⟨Nat.le_of_ble_eq_true rfl, Nat.le_of_ble_eq_true rfl⟩ dL_law_546 (fun H locs hP hS => ?_)
        refine lv_icmp_eq (tgt := 1334) hx hb dL_law_549 (by decide) (fun c1 => ?_) (fun c1 => ?_)
        · exact turn _ _ e4 _ _ hP hS
        · exact absurd e3 c1
      by_cases c_12 : w0 = 12
      · refine r_eqL c_12 ?_
        refine lv_tableIn (off := 521) (tgt := 554) hx hb dL_law_33 (by decide) (by decide) (by decide) (by decide) ?_
        obtain ⟨qx, qm, e1, e2, e3, e4⟩ := pp12 σ (xs (x3 + 1).toNatClampNeg) hInv
        refine lv_aload_n hx hb dL_law_554 rfl (lv_at hl 1 rfl) ?_
        refine lv_aload_n hx hb dL_law_555 rfl (lv_at hl 0 rfl) ?_
        refine lv_iload_n hx hb dL_law_556 rfl (lv_at hl 3 rfl) ?_
        refine lv_iconst (v := 1) hx hb dL_law_557 (by decide) ?_
        refine lv_iadd hx hb dL_law_558 ?_
        refine va_sld hx hb hX hbl hbA hS h_1 dL_law_559 ?_
        refine lcall_i (k := 0) C hG hP hS (c_X10_cut e1) mi_X10_cut mw_798 (by decide) rfl rfl ⟨Nat.le_of_ble_eq_true rfl, Nat.le_of_ble_eq_true rfl⟩ (As := [.int (xs (x3 + 1).toNatClampNeg)]) rfl hl.1 rfl (lv_room (Nat.le_of_ble_eq_true rfl)) ⟨Nat.le_of_ble_eq_true rfl, Nat.le_of_ble_eq_true rfl⟩ dL_law_560 (fun H locs hP hS => ?_)
        refine lv_aload_n hx hb dL_law_563 rfl (lv_at hl 2 rfl) ?_
        refine lv_aload_n hx hb dL_law_564 rfl (lv_at hl 0 rfl) ?_
        refine lv_iload_n hx hb dL_law_565 rfl (lv_at hl 3 rfl) ?_
        refine lv_iconst (v := 1) hx hb dL_law_566 (by decide) ?_
        refine lv_iadd hx hb dL_law_567 ?_
        refine va_sld hx hb hX hbl hbA hS h_1 dL_law_568 ?_
        refine lcall_i (k := 26) C hG hP hS (c_X11_cut e2) mi_X11_cut mw_1474 (by decide) rfl rfl ⟨Nat.le_of_ble_eq_true rfl, Nat.le_of_ble_eq_true rfl⟩ (As := [.int (xs (x3 + 1).toNatClampNeg)]) rfl hl.1 rfl (lv_room (Nat.le_of_ble_eq_true rfl)) ⟨Nat.le_of_ble_eq_true rfl, Nat.le_of_ble_eq_true rfl⟩ dL_law_569 (fun H locs hP hS => ?_)
        refine lv_icmp_eq (tgt := 1334) hx hb dL_law_572 (by decide) (fun c1 => ?_) (fun c1 => ?_)
        · exact turn _ _ e4 _ _ hP hS
        · exact absurd e3 c1
      by_cases c_13 : w0 = 13
      · refine r_eqL c_13 ?_
        refine lv_tableIn (off := 544) (tgt := 577) hx hb dL_law_33 (by decide) (by decide) (by decide) (by decide) ?_
        obtain ⟨qx, qm, e1, e2, e3, e4⟩ := pp13 σ (xs (x3 + 1).toNatClampNeg) (xs (x3 + 2).toNatClampNeg) hInv
        refine lv_aload_n hx hb dL_law_577 rfl (lv_at hl 1 rfl) ?_
        refine lv_aload_n hx hb dL_law_578 rfl (lv_at hl 0 rfl) ?_
        refine lv_iload_n hx hb dL_law_579 rfl (lv_at hl 3 rfl) ?_
        refine lv_iconst (v := 1) hx hb dL_law_580 (by decide) ?_
        refine lv_iadd hx hb dL_law_581 ?_
        refine va_sld hx hb hX hbl hbA hS h_1 dL_law_582 ?_
        refine lv_aload_n hx hb dL_law_583 rfl (lv_at hl 0 rfl) ?_
        refine lv_iload_n hx hb dL_law_584 rfl (lv_at hl 3 rfl) ?_
        refine lv_iconst (v := 2) hx hb dL_law_585 (by decide) ?_
        refine lv_iadd hx hb dL_law_586 ?_
        refine va_sld hx hb hX hbl hbA hS h_2 dL_law_587 ?_
        refine lcall_i (k := 0) C hG hP hS (c_X10_thing e1) mi_X10_thing mw_806 (by decide) rfl rfl ⟨Nat.le_of_ble_eq_true rfl, Nat.le_of_ble_eq_true rfl⟩ (As := [.int (xs (x3 + 1).toNatClampNeg), .int (xs (x3 + 2).toNatClampNeg)]) rfl hl.1 rfl (lv_room (Nat.le_of_ble_eq_true rfl)) ⟨Nat.le_of_ble_eq_true rfl, Nat.le_of_ble_eq_true rfl⟩ dL_law_588 (fun H locs hP hS => ?_)
        refine lv_aload_n hx hb dL_law_591 rfl (lv_at hl 2 rfl) ?_
        refine lv_aload_n hx hb dL_law_592 rfl (lv_at hl 0 rfl) ?_
        refine lv_iload_n hx hb dL_law_593 rfl (lv_at hl 3 rfl) ?_
        refine lv_iconst (v := 1) hx hb dL_law_594 (by decide) ?_
        refine lv_iadd hx hb dL_law_595 ?_
        refine va_sld hx hb hX hbl hbA hS h_1 dL_law_596 ?_
        refine lv_aload_n hx hb dL_law_597 rfl (lv_at hl 0 rfl) ?_
        refine lv_iload_n hx hb dL_law_598 rfl (lv_at hl 3 rfl) ?_
        refine lv_iconst (v := 2) hx hb dL_law_599 (by decide) ?_
        refine lv_iadd hx hb dL_law_600 ?_
        refine va_sld hx hb hX hbl hbA hS h_2 dL_law_601 ?_
        refine lcall_i (k := 26) C hG hP hS (c_X11_thing e2) mi_X11_thing mw_1478 (by decide) rfl rfl ⟨Nat.le_of_ble_eq_true rfl, Nat.le_of_ble_eq_true rfl⟩ (As := [.int (xs (x3 + 1).toNatClampNeg), .int (xs (x3 + 2).toNatClampNeg)]) rfl hl.1 rfl (lv_room (Nat.le_of_ble_eq_true rfl)) ⟨Nat.le_of_ble_eq_true rfl, Nat.le_of_ble_eq_true rfl⟩ dL_law_602 (fun H locs hP hS => ?_)
        refine lv_icmp_eq (tgt := 1334) hx hb dL_law_605 (by decide) (fun c1 => ?_) (fun c1 => ?_)
        · exact turn _ _ e4 _ _ hP hS
        · exact absurd e3 c1
      by_cases c_14 : w0 = 14
      · refine r_eqL c_14 ?_
        refine lv_tableIn (off := 577) (tgt := 610) hx hb dL_law_33 (by decide) (by decide) (by decide) (by decide) ?_
        obtain ⟨qx, qm, e1, e2, e3, e4⟩ := pp14 σ (xs (x3 + 1).toNatClampNeg) (xs (x3 + 2).toNatClampNeg) hInv
        refine lv_aload_n hx hb dL_law_610 rfl (lv_at hl 1 rfl) ?_
        refine lv_aload_n hx hb dL_law_611 rfl (lv_at hl 0 rfl) ?_
        refine lv_iload_n hx hb dL_law_612 rfl (lv_at hl 3 rfl) ?_
        refine lv_iconst (v := 1) hx hb dL_law_613 (by decide) ?_
        refine lv_iadd hx hb dL_law_614 ?_
        refine va_sld hx hb hX hbl hbA hS h_1 dL_law_615 ?_
        refine lv_aload_n hx hb dL_law_616 rfl (lv_at hl 0 rfl) ?_
        refine lv_iload_n hx hb dL_law_617 rfl (lv_at hl 3 rfl) ?_
        refine lv_iconst (v := 2) hx hb dL_law_618 (by decide) ?_
        refine lv_iadd hx hb dL_law_619 ?_
        refine va_sld hx hb hX hbl hbA hS h_2 dL_law_620 ?_
        refine lcall_i (k := 0) C hG hP hS (c_X10_leg e1) mi_X10_leg mw_810 (by decide) rfl rfl ⟨Nat.le_of_ble_eq_true rfl, Nat.le_of_ble_eq_true rfl⟩ (As := [.int (xs (x3 + 1).toNatClampNeg), .int (xs (x3 + 2).toNatClampNeg)]) rfl hl.1 rfl (lv_room (Nat.le_of_ble_eq_true rfl)) ⟨Nat.le_of_ble_eq_true rfl, Nat.le_of_ble_eq_true rfl⟩ dL_law_621 (fun H locs hP hS => ?_)
        refine lv_aload_n hx hb dL_law_624 rfl (lv_at hl 2 rfl) ?_
        refine lv_aload_n hx hb dL_law_625 rfl (lv_at hl 0 rfl) ?_
        refine lv_iload_n hx hb dL_law_626 rfl (lv_at hl 3 rfl) ?_
        refine lv_iconst (v := 1) hx hb dL_law_627 (by decide) ?_
        refine lv_iadd hx hb dL_law_628 ?_
        refine va_sld hx hb hX hbl hbA hS h_1 dL_law_629 ?_
        refine lv_aload_n hx hb dL_law_630 rfl (lv_at hl 0 rfl) ?_
        refine lv_iload_n hx hb dL_law_631 rfl (lv_at hl 3 rfl) ?_
        refine lv_iconst (v := 2) hx hb dL_law_632 (by decide) ?_
        refine lv_iadd hx hb dL_law_633 ?_
        refine va_sld hx hb hX hbl hbA hS h_2 dL_law_634 ?_
        refine lcall_i (k := 26) C hG hP hS (c_X11_leg e2) mi_X11_leg mw_1482 (by decide) rfl rfl ⟨Nat.le_of_ble_eq_true rfl, Nat.le_of_ble_eq_true rfl⟩ (As := [.int (xs (x3 + 1).toNatClampNeg), .int (xs (x3 + 2).toNatClampNeg)]) rfl hl.1 rfl (lv_room (Nat.le_of_ble_eq_true rfl)) ⟨Nat.le_of_ble_eq_true rfl, Nat.le_of_ble_eq_true rfl⟩ dL_law_635 (fun H locs hP hS => ?_)
        refine lv_icmp_eq (tgt := 1334) hx hb dL_law_638 (by decide) (fun c1 => ?_) (fun c1 => ?_)
        · exact turn _ _ e4 _ _ hP hS
        · exact absurd e3 c1
      by_cases c_15 : w0 = 15
      · refine r_eqL c_15 ?_
        refine lv_tableIn (off := 610) (tgt := 643) hx hb dL_law_33 (by decide) (by decide) (by decide) (by decide) ?_
        obtain ⟨qx, qm, e1, e2, e3, e4⟩ := pp15 σ (xs (x3 + 1).toNatClampNeg) hInv
        refine lv_aload_n hx hb dL_law_643 rfl (lv_at hl 1 rfl) ?_
        refine lv_aload_n hx hb dL_law_644 rfl (lv_at hl 0 rfl) ?_
        refine lv_iload_n hx hb dL_law_645 rfl (lv_at hl 3 rfl) ?_
        refine lv_iconst (v := 1) hx hb dL_law_646 (by decide) ?_
        refine lv_iadd hx hb dL_law_647 ?_
        refine va_sld hx hb hX hbl hbA hS h_1 dL_law_648 ?_
        refine lcall_i (k := 0) C hG hP hS (c_X10_height e1) mi_X10_height mw_815 (by decide) rfl rfl ⟨Nat.le_of_ble_eq_true rfl, Nat.le_of_ble_eq_true rfl⟩ (As := [.int (xs (x3 + 1).toNatClampNeg)]) rfl hl.1 rfl (lv_room (Nat.le_of_ble_eq_true rfl)) ⟨Nat.le_of_ble_eq_true rfl, Nat.le_of_ble_eq_true rfl⟩ dL_law_649 (fun H locs hP hS => ?_)
        refine lv_aload_n hx hb dL_law_652 rfl (lv_at hl 2 rfl) ?_
        refine lv_aload_n hx hb dL_law_653 rfl (lv_at hl 0 rfl) ?_
        refine lv_iload_n hx hb dL_law_654 rfl (lv_at hl 3 rfl) ?_
        refine lv_iconst (v := 1) hx hb dL_law_655 (by decide) ?_
        refine lv_iadd hx hb dL_law_656 ?_
        refine va_sld hx hb hX hbl hbA hS h_1 dL_law_657 ?_
        refine lcall_i (k := 26) C hG hP hS (c_X11_height e2) mi_X11_height mw_1486 (by decide) rfl rfl ⟨Nat.le_of_ble_eq_true rfl, Nat.le_of_ble_eq_true rfl⟩ (As := [.int (xs (x3 + 1).toNatClampNeg)]) rfl hl.1 rfl (lv_room (Nat.le_of_ble_eq_true rfl)) ⟨Nat.le_of_ble_eq_true rfl, Nat.le_of_ble_eq_true rfl⟩ dL_law_658 (fun H locs hP hS => ?_)
        refine lv_icmp_eq (tgt := 1334) hx hb dL_law_661 (by decide) (fun c1 => ?_) (fun c1 => ?_)
        · exact turn _ _ e4 _ _ hP hS
        · exact absurd e3 c1
      by_cases c_16 : w0 = 16
      · refine r_eqL c_16 ?_
        refine lv_tableIn (off := 633) (tgt := 666) hx hb dL_law_33 (by decide) (by decide) (by decide) (by decide) ?_
        obtain ⟨qx, qm, e1, e2, e3, e4⟩ := pp16 σ (xs (x3 + 1).toNatClampNeg) (xs (x3 + 2).toNatClampNeg) (xs (x3 + 3).toNatClampNeg) hInv
        refine lv_aload_n hx hb dL_law_666 rfl (lv_at hl 1 rfl) ?_
        refine lv_aload_n hx hb dL_law_667 rfl (lv_at hl 0 rfl) ?_
        refine lv_iload_n hx hb dL_law_668 rfl (lv_at hl 3 rfl) ?_
        refine lv_iconst (v := 1) hx hb dL_law_669 (by decide) ?_
        refine lv_iadd hx hb dL_law_670 ?_
        refine va_sld hx hb hX hbl hbA hS h_1 dL_law_671 ?_
        refine lv_aload_n hx hb dL_law_672 rfl (lv_at hl 0 rfl) ?_
        refine lv_iload_n hx hb dL_law_673 rfl (lv_at hl 3 rfl) ?_
        refine lv_iconst (v := 2) hx hb dL_law_674 (by decide) ?_
        refine lv_iadd hx hb dL_law_675 ?_
        refine va_sld hx hb hX hbl hbA hS h_2 dL_law_676 ?_
        refine lv_aload_n hx hb dL_law_677 rfl (lv_at hl 0 rfl) ?_
        refine lv_iload_n hx hb dL_law_678 rfl (lv_at hl 3 rfl) ?_
        refine lv_iconst (v := 3) hx hb dL_law_679 (by decide) ?_
        refine lv_iadd hx hb dL_law_680 ?_
        refine va_sld hx hb hX hbl hbA hS h_3 dL_law_681 ?_
        refine lcall_i (k := 0) C hG hP hS (c_X10_water e1) mi_X10_water mw_825 (by decide) rfl rfl ⟨Nat.le_of_ble_eq_true rfl, Nat.le_of_ble_eq_true rfl⟩ (As := [.int (xs (x3 + 1).toNatClampNeg), .int (xs (x3 + 2).toNatClampNeg), .int (xs (x3 + 3).toNatClampNeg)]) rfl hl.1 rfl (lv_room (Nat.le_of_ble_eq_true rfl)) ⟨Nat.le_of_ble_eq_true rfl, Nat.le_of_ble_eq_true rfl⟩ dL_law_682 (fun H locs hP hS => ?_)
        refine lv_aload_n hx hb dL_law_685 rfl (lv_at hl 2 rfl) ?_
        refine lv_aload_n hx hb dL_law_686 rfl (lv_at hl 0 rfl) ?_
        refine lv_iload_n hx hb dL_law_687 rfl (lv_at hl 3 rfl) ?_
        refine lv_iconst (v := 1) hx hb dL_law_688 (by decide) ?_
        refine lv_iadd hx hb dL_law_689 ?_
        refine va_sld hx hb hX hbl hbA hS h_1 dL_law_690 ?_
        refine lv_aload_n hx hb dL_law_691 rfl (lv_at hl 0 rfl) ?_
        refine lv_iload_n hx hb dL_law_692 rfl (lv_at hl 3 rfl) ?_
        refine lv_iconst (v := 2) hx hb dL_law_693 (by decide) ?_
        refine lv_iadd hx hb dL_law_694 ?_
        refine va_sld hx hb hX hbl hbA hS h_2 dL_law_695 ?_
        refine lv_aload_n hx hb dL_law_696 rfl (lv_at hl 0 rfl) ?_
        refine lv_iload_n hx hb dL_law_697 rfl (lv_at hl 3 rfl) ?_
        refine lv_iconst (v := 3) hx hb dL_law_698 (by decide) ?_
        refine lv_iadd hx hb dL_law_699 ?_
        refine va_sld hx hb hX hbl hbA hS h_3 dL_law_700 ?_
        refine lcall_i (k := 26) C hG hP hS (c_X11_water e2) mi_X11_water mw_1498 (by decide) rfl rfl ⟨Nat.le_of_ble_eq_true rfl, Nat.le_of_ble_eq_true rfl⟩ (As := [.int (xs (x3 + 1).toNatClampNeg), .int (xs (x3 + 2).toNatClampNeg), .int (xs (x3 + 3).toNatClampNeg)]) rfl hl.1 rfl (lv_room (Nat.le_of_ble_eq_true rfl)) ⟨Nat.le_of_ble_eq_true rfl, Nat.le_of_ble_eq_true rfl⟩ dL_law_701 (fun H locs hP hS => ?_)
        refine lv_icmp_eq (tgt := 1334) hx hb dL_law_704 (by decide) (fun c1 => ?_) (fun c1 => ?_)
        · exact turn _ _ e4 _ _ hP hS
        · exact absurd e3 c1
      by_cases c_17 : w0 = 17
      · refine r_eqL c_17 ?_
        refine lv_tableIn (off := 676) (tgt := 709) hx hb dL_law_33 (by decide) (by decide) (by decide) (by decide) ?_
        obtain ⟨qx, qm, e1, e2, e3, e4⟩ := pp17 σ (xs (x3 + 1).toNatClampNeg) (xs (x3 + 2).toNatClampNeg) (xs (x3 + 3).toNatClampNeg) hInv
        refine lv_aload_n hx hb dL_law_709 rfl (lv_at hl 1 rfl) ?_
        refine lv_aload_n hx hb dL_law_710 rfl (lv_at hl 0 rfl) ?_
        refine lv_iload_n hx hb dL_law_711 rfl (lv_at hl 3 rfl) ?_
        refine lv_iconst (v := 1) hx hb dL_law_712 (by decide) ?_
        refine lv_iadd hx hb dL_law_713 ?_
        refine va_sld hx hb hX hbl hbA hS h_1 dL_law_714 ?_
        refine lv_aload_n hx hb dL_law_715 rfl (lv_at hl 0 rfl) ?_
        refine lv_iload_n hx hb dL_law_716 rfl (lv_at hl 3 rfl) ?_
        refine lv_iconst (v := 2) hx hb dL_law_717 (by decide) ?_
        refine lv_iadd hx hb dL_law_718 ?_
        refine va_sld hx hb hX hbl hbA hS h_2 dL_law_719 ?_
        refine lv_aload_n hx hb dL_law_720 rfl (lv_at hl 0 rfl) ?_
        refine lv_iload_n hx hb dL_law_721 rfl (lv_at hl 3 rfl) ?_
        refine lv_iconst (v := 3) hx hb dL_law_722 (by decide) ?_
        refine lv_iadd hx hb dL_law_723 ?_
        refine va_sld hx hb hX hbl hbA hS h_3 dL_law_724 ?_
        refine lcall_i (k := 0) C hG hP hS (c_X10_mark e1) mi_X10_mark mw_859 (by decide) rfl rfl ⟨Nat.le_of_ble_eq_true rfl, Nat.le_of_ble_eq_true rfl⟩ (As := [.int (xs (x3 + 1).toNatClampNeg), .int (xs (x3 + 2).toNatClampNeg), .int (xs (x3 + 3).toNatClampNeg)]) rfl hl.1 rfl (lv_room (Nat.le_of_ble_eq_true rfl)) ⟨Nat.le_of_ble_eq_true rfl, Nat.le_of_ble_eq_true rfl⟩ dL_law_725 (fun H locs hP hS => ?_)
        refine lv_aload_n hx hb dL_law_728 rfl (lv_at hl 2 rfl) ?_
        refine lv_aload_n hx hb dL_law_729 rfl (lv_at hl 0 rfl) ?_
        refine lv_iload_n hx hb dL_law_730 rfl (lv_at hl 3 rfl) ?_
        refine lv_iconst (v := 1) hx hb dL_law_731 (by decide) ?_
        refine lv_iadd hx hb dL_law_732 ?_
        refine va_sld hx hb hX hbl hbA hS h_1 dL_law_733 ?_
        refine lv_aload_n hx hb dL_law_734 rfl (lv_at hl 0 rfl) ?_
        refine lv_iload_n hx hb dL_law_735 rfl (lv_at hl 3 rfl) ?_
        refine lv_iconst (v := 2) hx hb dL_law_736 (by decide) ?_
        refine lv_iadd hx hb dL_law_737 ?_
        refine va_sld hx hb hX hbl hbA hS h_2 dL_law_738 ?_
        refine lv_aload_n hx hb dL_law_739 rfl (lv_at hl 0 rfl) ?_
        refine lv_iload_n hx hb dL_law_740 rfl (lv_at hl 3 rfl) ?_
        refine lv_iconst (v := 3) hx hb dL_law_741 (by decide) ?_
        refine lv_iadd hx hb dL_law_742 ?_
        refine va_sld hx hb hX hbl hbA hS h_3 dL_law_743 ?_
        refine lcall_i (k := 26) C hG hP hS (c_X11_mark e2) mi_X11_mark mw_1531 (by decide) rfl rfl ⟨Nat.le_of_ble_eq_true rfl, Nat.le_of_ble_eq_true rfl⟩ (As := [.int (xs (x3 + 1).toNatClampNeg), .int (xs (x3 + 2).toNatClampNeg), .int (xs (x3 + 3).toNatClampNeg)]) rfl hl.1 rfl (lv_room (Nat.le_of_ble_eq_true rfl)) ⟨Nat.le_of_ble_eq_true rfl, Nat.le_of_ble_eq_true rfl⟩ dL_law_744 (fun H locs hP hS => ?_)
        refine lv_icmp_eq (tgt := 1334) hx hb dL_law_747 (by decide) (fun c1 => ?_) (fun c1 => ?_)
        · exact turn _ _ e4 _ _ hP hS
        · exact absurd e3 c1
      by_cases c_18 : w0 = 18
      · refine r_eqL c_18 ?_
        refine lv_tableIn (off := 719) (tgt := 752) hx hb dL_law_33 (by decide) (by decide) (by decide) (by decide) ?_
        obtain ⟨qx, qm, e1, e2, e3, e4⟩ := pp18 σ (xs (x3 + 1).toNatClampNeg) (xs (x3 + 2).toNatClampNeg) (xs (x3 + 3).toNatClampNeg) (xs (x3 + 4).toNatClampNeg) hInv
        refine lv_aload_n hx hb dL_law_752 rfl (lv_at hl 1 rfl) ?_
        refine lv_aload_n hx hb dL_law_753 rfl (lv_at hl 0 rfl) ?_
        refine lv_iload_n hx hb dL_law_754 rfl (lv_at hl 3 rfl) ?_
        refine lv_iconst (v := 1) hx hb dL_law_755 (by decide) ?_
        refine lv_iadd hx hb dL_law_756 ?_
        refine va_sld hx hb hX hbl hbA hS h_1 dL_law_757 ?_
        refine lv_aload_n hx hb dL_law_758 rfl (lv_at hl 0 rfl) ?_
        refine lv_iload_n hx hb dL_law_759 rfl (lv_at hl 3 rfl) ?_
        refine lv_iconst (v := 2) hx hb dL_law_760 (by decide) ?_
        refine lv_iadd hx hb dL_law_761 ?_
        refine va_sld hx hb hX hbl hbA hS h_2 dL_law_762 ?_
        refine lv_aload_n hx hb dL_law_763 rfl (lv_at hl 0 rfl) ?_
        refine lv_iload_n hx hb dL_law_764 rfl (lv_at hl 3 rfl) ?_
        refine lv_iconst (v := 3) hx hb dL_law_765 (by decide) ?_
        refine lv_iadd hx hb dL_law_766 ?_
        refine va_sld hx hb hX hbl hbA hS h_3 dL_law_767 ?_
        refine lv_aload_n hx hb dL_law_768 rfl (lv_at hl 0 rfl) ?_
        refine lv_iload_n hx hb dL_law_769 rfl (lv_at hl 3 rfl) ?_
        refine lv_iconst (v := 4) hx hb dL_law_770 (by decide) ?_
        refine lv_iadd hx hb dL_law_771 ?_
        refine va_sld hx hb hX hbl hbA hS h_4 dL_law_772 ?_
        refine lcall_i (k := 0) C hG hP hS (c_X10_seen e1) mi_X10_seen mw_872 (by decide) rfl rfl ⟨Nat.le_of_ble_eq_true rfl, Nat.le_of_ble_eq_true rfl⟩ (As := [.int (xs (x3 + 1).toNatClampNeg), .int (xs (x3 + 2).toNatClampNeg), .int (xs (x3 + 3).toNatClampNeg), .int (xs (x3 + 4).toNatClampNeg)]) rfl hl.1 rfl (lv_room (Nat.le_of_ble_eq_true rfl)) ⟨Nat.le_of_ble_eq_true rfl, Nat.le_of_ble_eq_true rfl⟩ dL_law_773 (fun H locs hP hS => ?_)
        refine lv_aload_n hx hb dL_law_776 rfl (lv_at hl 2 rfl) ?_
        refine lv_aload_n hx hb dL_law_777 rfl (lv_at hl 0 rfl) ?_
        refine lv_iload_n hx hb dL_law_778 rfl (lv_at hl 3 rfl) ?_
        refine lv_iconst (v := 1) hx hb dL_law_779 (by decide) ?_
        refine lv_iadd hx hb dL_law_780 ?_
        refine va_sld hx hb hX hbl hbA hS h_1 dL_law_781 ?_
        refine lv_aload_n hx hb dL_law_782 rfl (lv_at hl 0 rfl) ?_
        refine lv_iload_n hx hb dL_law_783 rfl (lv_at hl 3 rfl) ?_
        refine lv_iconst (v := 2) hx hb dL_law_784 (by decide) ?_
        refine lv_iadd hx hb dL_law_785 ?_
        refine va_sld hx hb hX hbl hbA hS h_2 dL_law_786 ?_
        refine lv_aload_n hx hb dL_law_787 rfl (lv_at hl 0 rfl) ?_
        refine lv_iload_n hx hb dL_law_788 rfl (lv_at hl 3 rfl) ?_
        refine lv_iconst (v := 3) hx hb dL_law_789 (by decide) ?_
        refine lv_iadd hx hb dL_law_790 ?_
        refine va_sld hx hb hX hbl hbA hS h_3 dL_law_791 ?_
        refine lv_aload_n hx hb dL_law_792 rfl (lv_at hl 0 rfl) ?_
        refine lv_iload_n hx hb dL_law_793 rfl (lv_at hl 3 rfl) ?_
        refine lv_iconst (v := 4) hx hb dL_law_794 (by decide) ?_
        refine lv_iadd hx hb dL_law_795 ?_
        refine va_sld hx hb hX hbl hbA hS h_4 dL_law_796 ?_
        refine lcall_i (k := 26) C hG hP hS (c_X11_seen e2) mi_X11_seen mw_1543 (by decide) rfl rfl ⟨Nat.le_of_ble_eq_true rfl, Nat.le_of_ble_eq_true rfl⟩ (As := [.int (xs (x3 + 1).toNatClampNeg), .int (xs (x3 + 2).toNatClampNeg), .int (xs (x3 + 3).toNatClampNeg), .int (xs (x3 + 4).toNatClampNeg)]) rfl hl.1 rfl (lv_room (Nat.le_of_ble_eq_true rfl)) ⟨Nat.le_of_ble_eq_true rfl, Nat.le_of_ble_eq_true rfl⟩ dL_law_797 (fun H locs hP hS => ?_)
        refine lv_icmp_eq (tgt := 1334) hx hb dL_law_800 (by decide) (fun c1 => ?_) (fun c1 => ?_)
        · exact turn _ _ e4 _ _ hP hS
        · exact absurd e3 c1
      by_cases c_19 : w0 = 19
      · refine r_eqL c_19 ?_
        refine lv_tableIn (off := 772) (tgt := 805) hx hb dL_law_33 (by decide) (by decide) (by decide) (by decide) ?_
        obtain ⟨qx, qm, e1, e2, e3, e4⟩ := pp19 σ (xs (x3 + 1).toNatClampNeg) (xs (x3 + 2).toNatClampNeg) (xs (x3 + 3).toNatClampNeg) (xs (x3 + 4).toNatClampNeg) hInv
        refine lv_aload_n hx hb dL_law_805 rfl (lv_at hl 1 rfl) ?_
        refine lv_aload_n hx hb dL_law_806 rfl (lv_at hl 0 rfl) ?_
        refine lv_iload_n hx hb dL_law_807 rfl (lv_at hl 3 rfl) ?_
        refine lv_iconst (v := 1) hx hb dL_law_808 (by decide) ?_
        refine lv_iadd hx hb dL_law_809 ?_
        refine va_sld hx hb hX hbl hbA hS h_1 dL_law_810 ?_
        refine lv_aload_n hx hb dL_law_811 rfl (lv_at hl 0 rfl) ?_
        refine lv_iload_n hx hb dL_law_812 rfl (lv_at hl 3 rfl) ?_
        refine lv_iconst (v := 2) hx hb dL_law_813 (by decide) ?_
        refine lv_iadd hx hb dL_law_814 ?_
        refine va_sld hx hb hX hbl hbA hS h_2 dL_law_815 ?_
        refine lv_aload_n hx hb dL_law_816 rfl (lv_at hl 0 rfl) ?_
        refine lv_iload_n hx hb dL_law_817 rfl (lv_at hl 3 rfl) ?_
        refine lv_iconst (v := 3) hx hb dL_law_818 (by decide) ?_
        refine lv_iadd hx hb dL_law_819 ?_
        refine va_sld hx hb hX hbl hbA hS h_3 dL_law_820 ?_
        refine lv_aload_n hx hb dL_law_821 rfl (lv_at hl 0 rfl) ?_
        refine lv_iload_n hx hb dL_law_822 rfl (lv_at hl 3 rfl) ?_
        refine lv_iconst (v := 4) hx hb dL_law_823 (by decide) ?_
        refine lv_iadd hx hb dL_law_824 ?_
        refine va_sld hx hb hX hbl hbA hS h_4 dL_law_825 ?_
        refine lcall_i (k := 0) C hG hP hS (c_X10_line e1) mi_X10_line mw_888 (by decide) rfl rfl ⟨Nat.le_of_ble_eq_true rfl, Nat.le_of_ble_eq_true rfl⟩ (As := [.int (xs (x3 + 1).toNatClampNeg), .int (xs (x3 + 2).toNatClampNeg), .int (xs (x3 + 3).toNatClampNeg), .int (xs (x3 + 4).toNatClampNeg)]) rfl hl.1 rfl (lv_room (Nat.le_of_ble_eq_true rfl)) ⟨Nat.le_of_ble_eq_true rfl, Nat.le_of_ble_eq_true rfl⟩ dL_law_826 (fun H locs hP hS => ?_)
        refine lv_aload_n hx hb dL_law_829 rfl (lv_at hl 2 rfl) ?_
        refine lv_aload_n hx hb dL_law_830 rfl (lv_at hl 0 rfl) ?_
        refine lv_iload_n hx hb dL_law_831 rfl (lv_at hl 3 rfl) ?_
        refine lv_iconst (v := 1) hx hb dL_law_832 (by decide) ?_
        refine lv_iadd hx hb dL_law_833 ?_
        refine va_sld hx hb hX hbl hbA hS h_1 dL_law_834 ?_
        refine lv_aload_n hx hb dL_law_835 rfl (lv_at hl 0 rfl) ?_
        refine lv_iload_n hx hb dL_law_836 rfl (lv_at hl 3 rfl) ?_
        refine lv_iconst (v := 2) hx hb dL_law_837 (by decide) ?_
        refine lv_iadd hx hb dL_law_838 ?_
        refine va_sld hx hb hX hbl hbA hS h_2 dL_law_839 ?_
        refine lv_aload_n hx hb dL_law_840 rfl (lv_at hl 0 rfl) ?_
        refine lv_iload_n hx hb dL_law_841 rfl (lv_at hl 3 rfl) ?_
        refine lv_iconst (v := 3) hx hb dL_law_842 (by decide) ?_
        refine lv_iadd hx hb dL_law_843 ?_
        refine va_sld hx hb hX hbl hbA hS h_3 dL_law_844 ?_
        refine lv_aload_n hx hb dL_law_845 rfl (lv_at hl 0 rfl) ?_
        refine lv_iload_n hx hb dL_law_846 rfl (lv_at hl 3 rfl) ?_
        refine lv_iconst (v := 4) hx hb dL_law_847 (by decide) ?_
        refine lv_iadd hx hb dL_law_848 ?_
        refine va_sld hx hb hX hbl hbA hS h_4 dL_law_849 ?_
        refine lcall_i (k := 26) C hG hP hS (c_X11_line e2) mi_X11_line mw_1562 (by decide) rfl rfl ⟨Nat.le_of_ble_eq_true rfl, Nat.le_of_ble_eq_true rfl⟩ (As := [.int (xs (x3 + 1).toNatClampNeg), .int (xs (x3 + 2).toNatClampNeg), .int (xs (x3 + 3).toNatClampNeg), .int (xs (x3 + 4).toNatClampNeg)]) rfl hl.1 rfl (lv_room (Nat.le_of_ble_eq_true rfl)) ⟨Nat.le_of_ble_eq_true rfl, Nat.le_of_ble_eq_true rfl⟩ dL_law_850 (fun H locs hP hS => ?_)
        refine lv_icmp_eq (tgt := 1334) hx hb dL_law_853 (by decide) (fun c1 => ?_) (fun c1 => ?_)
        · exact turn _ _ e4 _ _ hP hS
        · exact absurd e3 c1
      by_cases c_20 : w0 = 20
      · refine r_eqL c_20 ?_
        refine lv_tableIn (off := 825) (tgt := 858) hx hb dL_law_33 (by decide) (by decide) (by decide) (by decide) ?_
        obtain ⟨qx, qm, e1, e2, e3, e4⟩ := pp20 σ (xs (x3 + 1).toNatClampNeg) (xs (x3 + 2).toNatClampNeg) (xs (x3 + 3).toNatClampNeg) hInv
        refine lv_aload_n hx hb dL_law_858 rfl (lv_at hl 1 rfl) ?_
        refine lv_aload_n hx hb dL_law_859 rfl (lv_at hl 0 rfl) ?_
        refine lv_iload_n hx hb dL_law_860 rfl (lv_at hl 3 rfl) ?_
        refine lv_iconst (v := 1) hx hb dL_law_861 (by decide) ?_
        refine lv_iadd hx hb dL_law_862 ?_
        refine va_sld hx hb hX hbl hbA hS h_1 dL_law_863 ?_
        refine lv_aload_n hx hb dL_law_864 rfl (lv_at hl 0 rfl) ?_
        refine lv_iload_n hx hb dL_law_865 rfl (lv_at hl 3 rfl) ?_
        refine lv_iconst (v := 2) hx hb dL_law_866 (by decide) ?_
        refine lv_iadd hx hb dL_law_867 ?_
        refine va_sld hx hb hX hbl hbA hS h_2 dL_law_868 ?_
        refine lv_aload_n hx hb dL_law_869 rfl (lv_at hl 0 rfl) ?_
        refine lv_iload_n hx hb dL_law_870 rfl (lv_at hl 3 rfl) ?_
        refine lv_iconst (v := 3) hx hb dL_law_871 (by decide) ?_
        refine lv_iadd hx hb dL_law_872 ?_
        refine va_sld hx hb hX hbl hbA hS h_3 dL_law_873 ?_
        refine lcall_i (k := 0) C hG hP hS (c_X10_lines e1) mi_X10_lines mw_907 (by decide) rfl rfl ⟨Nat.le_of_ble_eq_true rfl, Nat.le_of_ble_eq_true rfl⟩ (As := [.int (xs (x3 + 1).toNatClampNeg), .int (xs (x3 + 2).toNatClampNeg), .int (xs (x3 + 3).toNatClampNeg)]) rfl hl.1 rfl (lv_room (Nat.le_of_ble_eq_true rfl)) ⟨Nat.le_of_ble_eq_true rfl, Nat.le_of_ble_eq_true rfl⟩ dL_law_874 (fun H locs hP hS => ?_)
        refine lv_aload_n hx hb dL_law_877 rfl (lv_at hl 2 rfl) ?_
        refine lv_aload_n hx hb dL_law_878 rfl (lv_at hl 0 rfl) ?_
        refine lv_iload_n hx hb dL_law_879 rfl (lv_at hl 3 rfl) ?_
        refine lv_iconst (v := 1) hx hb dL_law_880 (by decide) ?_
        refine lv_iadd hx hb dL_law_881 ?_
        refine va_sld hx hb hX hbl hbA hS h_1 dL_law_882 ?_
        refine lv_aload_n hx hb dL_law_883 rfl (lv_at hl 0 rfl) ?_
        refine lv_iload_n hx hb dL_law_884 rfl (lv_at hl 3 rfl) ?_
        refine lv_iconst (v := 2) hx hb dL_law_885 (by decide) ?_
        refine lv_iadd hx hb dL_law_886 ?_
        refine va_sld hx hb hX hbl hbA hS h_2 dL_law_887 ?_
        refine lv_aload_n hx hb dL_law_888 rfl (lv_at hl 0 rfl) ?_
        refine lv_iload_n hx hb dL_law_889 rfl (lv_at hl 3 rfl) ?_
        refine lv_iconst (v := 3) hx hb dL_law_890 (by decide) ?_
        refine lv_iadd hx hb dL_law_891 ?_
        refine va_sld hx hb hX hbl hbA hS h_3 dL_law_892 ?_
        refine lcall_i (k := 26) C hG hP hS (c_X11_lines e2) mi_X11_lines mw_1581 (by decide) rfl rfl ⟨Nat.le_of_ble_eq_true rfl, Nat.le_of_ble_eq_true rfl⟩ (As := [.int (xs (x3 + 1).toNatClampNeg), .int (xs (x3 + 2).toNatClampNeg), .int (xs (x3 + 3).toNatClampNeg)]) rfl hl.1 rfl (lv_room (Nat.le_of_ble_eq_true rfl)) ⟨Nat.le_of_ble_eq_true rfl, Nat.le_of_ble_eq_true rfl⟩ dL_law_893 (fun H locs hP hS => ?_)
        refine lv_icmp_eq (tgt := 1334) hx hb dL_law_896 (by decide) (fun c1 => ?_) (fun c1 => ?_)
        · exact turn _ _ e4 _ _ hP hS
        · exact absurd e3 c1
      by_cases c_21 : w0 = 21
      · refine r_eqL c_21 ?_
        refine lv_tableIn (off := 868) (tgt := 901) hx hb dL_law_33 (by decide) (by decide) (by decide) (by decide) ?_
        obtain ⟨qx, qm, e1, e2, e3, e4⟩ := pp21 σ (xs (x3 + 1).toNatClampNeg) (xs (x3 + 2).toNatClampNeg) hInv
        refine lv_aload_n hx hb dL_law_901 rfl (lv_at hl 1 rfl) ?_
        refine lv_aload_n hx hb dL_law_902 rfl (lv_at hl 0 rfl) ?_
        refine lv_iload_n hx hb dL_law_903 rfl (lv_at hl 3 rfl) ?_
        refine lv_iconst (v := 1) hx hb dL_law_904 (by decide) ?_
        refine lv_iadd hx hb dL_law_905 ?_
        refine va_sld hx hb hX hbl hbA hS h_1 dL_law_906 ?_
        refine lv_aload_n hx hb dL_law_907 rfl (lv_at hl 0 rfl) ?_
        refine lv_iload_n hx hb dL_law_908 rfl (lv_at hl 3 rfl) ?_
        refine lv_iconst (v := 2) hx hb dL_law_909 (by decide) ?_
        refine lv_iadd hx hb dL_law_910 ?_
        refine va_sld hx hb hX hbl hbA hS h_2 dL_law_911 ?_
        refine lcall_i (k := 0) C hG hP hS (c_X10_sail e1) mi_X10_sail mw_921 (by decide) rfl rfl ⟨Nat.le_of_ble_eq_true rfl, Nat.le_of_ble_eq_true rfl⟩ (As := [.int (xs (x3 + 1).toNatClampNeg), .int (xs (x3 + 2).toNatClampNeg)]) rfl hl.1 rfl (lv_room (Nat.le_of_ble_eq_true rfl)) ⟨Nat.le_of_ble_eq_true rfl, Nat.le_of_ble_eq_true rfl⟩ dL_law_912 (fun H locs hP hS => ?_)
        refine lv_aload_n hx hb dL_law_915 rfl (lv_at hl 2 rfl) ?_
        refine lv_aload_n hx hb dL_law_916 rfl (lv_at hl 0 rfl) ?_
        refine lv_iload_n hx hb dL_law_917 rfl (lv_at hl 3 rfl) ?_
        refine lv_iconst (v := 1) hx hb dL_law_918 (by decide) ?_
        refine lv_iadd hx hb dL_law_919 ?_
        refine va_sld hx hb hX hbl hbA hS h_1 dL_law_920 ?_
        refine lv_aload_n hx hb dL_law_921 rfl (lv_at hl 0 rfl) ?_
        refine lv_iload_n hx hb dL_law_922 rfl (lv_at hl 3 rfl) ?_
        refine lv_iconst (v := 2) hx hb dL_law_923 (by decide) ?_
        refine lv_iadd hx hb dL_law_924 ?_
        refine va_sld hx hb hX hbl hbA hS h_2 dL_law_925 ?_
        refine lcall_i (k := 26) C hG hP hS (c_X11_sail e2) mi_X11_sail mw_1590 (by decide) rfl rfl ⟨Nat.le_of_ble_eq_true rfl, Nat.le_of_ble_eq_true rfl⟩ (As := [.int (xs (x3 + 1).toNatClampNeg), .int (xs (x3 + 2).toNatClampNeg)]) rfl hl.1 rfl (lv_room (Nat.le_of_ble_eq_true rfl)) ⟨Nat.le_of_ble_eq_true rfl, Nat.le_of_ble_eq_true rfl⟩ dL_law_926 (fun H locs hP hS => ?_)
        refine lv_icmp_eq (tgt := 1334) hx hb dL_law_929 (by decide) (fun c1 => ?_) (fun c1 => ?_)
        · exact turn _ _ e4 _ _ hP hS
        · exact absurd e3 c1
      by_cases c_22 : w0 = 22
      · refine r_eqL c_22 ?_
        refine lv_tableIn (off := 901) (tgt := 934) hx hb dL_law_33 (by decide) (by decide) (by decide) (by decide) ?_
        obtain ⟨qx, qm, e1, e2, e3, e4⟩ := pp22 σ (xs (x3 + 1).toNatClampNeg) (xs (x3 + 2).toNatClampNeg) (xs (x3 + 3).toNatClampNeg) hInv
        refine lv_aload_n hx hb dL_law_934 rfl (lv_at hl 1 rfl) ?_
        refine lv_aload_n hx hb dL_law_935 rfl (lv_at hl 0 rfl) ?_
        refine lv_iload_n hx hb dL_law_936 rfl (lv_at hl 3 rfl) ?_
        refine lv_iconst (v := 1) hx hb dL_law_937 (by decide) ?_
        refine lv_iadd hx hb dL_law_938 ?_
        refine va_sld hx hb hX hbl hbA hS h_1 dL_law_939 ?_
        refine lv_aload_n hx hb dL_law_940 rfl (lv_at hl 0 rfl) ?_
        refine lv_iload_n hx hb dL_law_941 rfl (lv_at hl 3 rfl) ?_
        refine lv_iconst (v := 2) hx hb dL_law_942 (by decide) ?_
        refine lv_iadd hx hb dL_law_943 ?_
        refine va_sld hx hb hX hbl hbA hS h_2 dL_law_944 ?_
        refine lv_aload_n hx hb dL_law_945 rfl (lv_at hl 0 rfl) ?_
        refine lv_iload_n hx hb dL_law_946 rfl (lv_at hl 3 rfl) ?_
        refine lv_iconst (v := 3) hx hb dL_law_947 (by decide) ?_
        refine lv_iadd hx hb dL_law_948 ?_
        refine va_sld hx hb hX hbl hbA hS h_3 dL_law_949 ?_
        refine lcall_i (k := 0) C hG hP hS (c_X10_track e1) mi_X10_track mw_1005 (by decide) rfl rfl ⟨Nat.le_of_ble_eq_true rfl, Nat.le_of_ble_eq_true rfl⟩ (As := [.int (xs (x3 + 1).toNatClampNeg), .int (xs (x3 + 2).toNatClampNeg), .int (xs (x3 + 3).toNatClampNeg)]) rfl hl.1 rfl (lv_room (Nat.le_of_ble_eq_true rfl)) ⟨Nat.le_of_ble_eq_true rfl, Nat.le_of_ble_eq_true rfl⟩ dL_law_950 (fun H locs hP hS => ?_)
        refine lv_aload_n hx hb dL_law_953 rfl (lv_at hl 2 rfl) ?_
        refine lv_aload_n hx hb dL_law_954 rfl (lv_at hl 0 rfl) ?_
        refine lv_iload_n hx hb dL_law_955 rfl (lv_at hl 3 rfl) ?_
        refine lv_iconst (v := 1) hx hb dL_law_956 (by decide) ?_
        refine lv_iadd hx hb dL_law_957 ?_
        refine va_sld hx hb hX hbl hbA hS h_1 dL_law_958 ?_
        refine lv_aload_n hx hb dL_law_959 rfl (lv_at hl 0 rfl) ?_
        refine lv_iload_n hx hb dL_law_960 rfl (lv_at hl 3 rfl) ?_
        refine lv_iconst (v := 2) hx hb dL_law_961 (by decide) ?_
        refine lv_iadd hx hb dL_law_962 ?_
        refine va_sld hx hb hX hbl hbA hS h_2 dL_law_963 ?_
        refine lv_aload_n hx hb dL_law_964 rfl (lv_at hl 0 rfl) ?_
        refine lv_iload_n hx hb dL_law_965 rfl (lv_at hl 3 rfl) ?_
        refine lv_iconst (v := 3) hx hb dL_law_966 (by decide) ?_
        refine lv_iadd hx hb dL_law_967 ?_
        refine va_sld hx hb hX hbl hbA hS h_3 dL_law_968 ?_
        refine lcall_i (k := 26) C hG hP hS (c_X11_track e2) mi_X11_track mw_1634 (by decide) rfl rfl ⟨Nat.le_of_ble_eq_true rfl, Nat.le_of_ble_eq_true rfl⟩ (As := [.int (xs (x3 + 1).toNatClampNeg), .int (xs (x3 + 2).toNatClampNeg), .int (xs (x3 + 3).toNatClampNeg)]) rfl hl.1 rfl (lv_room (Nat.le_of_ble_eq_true rfl)) ⟨Nat.le_of_ble_eq_true rfl, Nat.le_of_ble_eq_true rfl⟩ dL_law_969 (fun H locs hP hS => ?_)
        refine lv_icmp_eq (tgt := 1334) hx hb dL_law_972 (by decide) (fun c1 => ?_) (fun c1 => ?_)
        · exact turn _ _ e4 _ _ hP hS
        · exact absurd e3 c1
      by_cases c_23 : w0 = 23
      · refine r_eqL c_23 ?_
        refine lv_tableIn (off := 944) (tgt := 977) hx hb dL_law_33 (by decide) (by decide) (by decide) (by decide) ?_
        obtain ⟨qx, qm, e1, e2, e3, e4⟩ := pp23 σ (xs (x3 + 1).toNatClampNeg) (xs (x3 + 2).toNatClampNeg) (xs (x3 + 3).toNatClampNeg) hInv
        refine lv_aload_n hx hb dL_law_977 rfl (lv_at hl 1 rfl) ?_
        refine lv_aload_n hx hb dL_law_978 rfl (lv_at hl 0 rfl) ?_
        refine lv_iload_n hx hb dL_law_979 rfl (lv_at hl 3 rfl) ?_
        refine lv_iconst (v := 1) hx hb dL_law_980 (by decide) ?_
        refine lv_iadd hx hb dL_law_981 ?_
        refine va_sld hx hb hX hbl hbA hS h_1 dL_law_982 ?_
        refine lv_aload_n hx hb dL_law_983 rfl (lv_at hl 0 rfl) ?_
        refine lv_iload_n hx hb dL_law_984 rfl (lv_at hl 3 rfl) ?_
        refine lv_iconst (v := 2) hx hb dL_law_985 (by decide) ?_
        refine lv_iadd hx hb dL_law_986 ?_
        refine va_sld hx hb hX hbl hbA hS h_2 dL_law_987 ?_
        refine lv_aload_n hx hb dL_law_988 rfl (lv_at hl 0 rfl) ?_
        refine lv_iload_n hx hb dL_law_989 rfl (lv_at hl 3 rfl) ?_
        refine lv_iconst (v := 3) hx hb dL_law_990 (by decide) ?_
        refine lv_iadd hx hb dL_law_991 ?_
        refine va_sld hx hb hX hbl hbA hS h_3 dL_law_992 ?_
        refine lcall_i (k := 0) C hG hP hS (c_X10_why e1) mi_X10_why mw_1013 (by decide) rfl rfl ⟨Nat.le_of_ble_eq_true rfl, Nat.le_of_ble_eq_true rfl⟩ (As := [.int (xs (x3 + 1).toNatClampNeg), .int (xs (x3 + 2).toNatClampNeg), .int (xs (x3 + 3).toNatClampNeg)]) rfl hl.1 rfl (lv_room (Nat.le_of_ble_eq_true rfl)) ⟨Nat.le_of_ble_eq_true rfl, Nat.le_of_ble_eq_true rfl⟩ dL_law_993 (fun H locs hP hS => ?_)
        refine lv_aload_n hx hb dL_law_996 rfl (lv_at hl 2 rfl) ?_
        refine lv_aload_n hx hb dL_law_997 rfl (lv_at hl 0 rfl) ?_
        refine lv_iload_n hx hb dL_law_998 rfl (lv_at hl 3 rfl) ?_
        refine lv_iconst (v := 1) hx hb dL_law_999 (by decide) ?_
        refine lv_iadd hx hb dL_law_1000 ?_
        refine va_sld hx hb hX hbl hbA hS h_1 dL_law_1001 ?_
        refine lv_aload_n hx hb dL_law_1002 rfl (lv_at hl 0 rfl) ?_
        refine lv_iload_n hx hb dL_law_1003 rfl (lv_at hl 3 rfl) ?_
        refine lv_iconst (v := 2) hx hb dL_law_1004 (by decide) ?_
        refine lv_iadd hx hb dL_law_1005 ?_
        refine va_sld hx hb hX hbl hbA hS h_2 dL_law_1006 ?_
        refine lv_aload_n hx hb dL_law_1007 rfl (lv_at hl 0 rfl) ?_
        refine lv_iload_n hx hb dL_law_1008 rfl (lv_at hl 3 rfl) ?_
        refine lv_iconst (v := 3) hx hb dL_law_1009 (by decide) ?_
        refine lv_iadd hx hb dL_law_1010 ?_
        refine va_sld hx hb hX hbl hbA hS h_3 dL_law_1011 ?_
        refine lcall_i (k := 26) C hG hP hS (c_X11_why e2) mi_X11_why mw_1638 (by decide) rfl rfl ⟨Nat.le_of_ble_eq_true rfl, Nat.le_of_ble_eq_true rfl⟩ (As := [.int (xs (x3 + 1).toNatClampNeg), .int (xs (x3 + 2).toNatClampNeg), .int (xs (x3 + 3).toNatClampNeg)]) rfl hl.1 rfl (lv_room (Nat.le_of_ble_eq_true rfl)) ⟨Nat.le_of_ble_eq_true rfl, Nat.le_of_ble_eq_true rfl⟩ dL_law_1012 (fun H locs hP hS => ?_)
        refine lv_icmp_eq (tgt := 1334) hx hb dL_law_1015 (by decide) (fun c1 => ?_) (fun c1 => ?_)
        · exact turn _ _ e4 _ _ hP hS
        · exact absurd e3 c1
      by_cases c_24 : w0 = 24
      · refine r_eqL c_24 ?_
        refine lv_tableIn (off := 987) (tgt := 1020) hx hb dL_law_33 (by decide) (by decide) (by decide) (by decide) ?_
        obtain ⟨qx, qm, e1, e2, e3, e4⟩ := pp24 σ (xs (x3 + 1).toNatClampNeg) (xs (x3 + 2).toNatClampNeg) hInv
        refine lv_aload_n hx hb dL_law_1020 rfl (lv_at hl 1 rfl) ?_
        refine lv_aload_n hx hb dL_law_1021 rfl (lv_at hl 0 rfl) ?_
        refine lv_iload_n hx hb dL_law_1022 rfl (lv_at hl 3 rfl) ?_
        refine lv_iconst (v := 1) hx hb dL_law_1023 (by decide) ?_
        refine lv_iadd hx hb dL_law_1024 ?_
        refine va_sld hx hb hX hbl hbA hS h_1 dL_law_1025 ?_
        refine lv_aload_n hx hb dL_law_1026 rfl (lv_at hl 0 rfl) ?_
        refine lv_iload_n hx hb dL_law_1027 rfl (lv_at hl 3 rfl) ?_
        refine lv_iconst (v := 2) hx hb dL_law_1028 (by decide) ?_
        refine lv_iadd hx hb dL_law_1029 ?_
        refine va_sld hx hb hX hbl hbA hS h_2 dL_law_1030 ?_
        refine lcall_i (k := 0) C hG hP hS (c_X10_sign e1) mi_X10_sign mw_1064 (by decide) rfl rfl ⟨Nat.le_of_ble_eq_true rfl, Nat.le_of_ble_eq_true rfl⟩ (As := [.int (xs (x3 + 1).toNatClampNeg), .int (xs (x3 + 2).toNatClampNeg)]) rfl hl.1 rfl (lv_room (Nat.le_of_ble_eq_true rfl)) ⟨Nat.le_of_ble_eq_true rfl, Nat.le_of_ble_eq_true rfl⟩ dL_law_1031 (fun H locs hP hS => ?_)
        refine lv_aload_n hx hb dL_law_1034 rfl (lv_at hl 2 rfl) ?_
        refine lv_aload_n hx hb dL_law_1035 rfl (lv_at hl 0 rfl) ?_
        refine lv_iload_n hx hb dL_law_1036 rfl (lv_at hl 3 rfl) ?_
        refine lv_iconst (v := 1) hx hb dL_law_1037 (by decide) ?_
        refine lv_iadd hx hb dL_law_1038 ?_
        refine va_sld hx hb hX hbl hbA hS h_1 dL_law_1039 ?_
        refine lv_aload_n hx hb dL_law_1040 rfl (lv_at hl 0 rfl) ?_
        refine lv_iload_n hx hb dL_law_1041 rfl (lv_at hl 3 rfl) ?_
        refine lv_iconst (v := 2) hx hb dL_law_1042 (by decide) ?_
        refine lv_iadd hx hb dL_law_1043 ?_
        refine va_sld hx hb hX hbl hbA hS h_2 dL_law_1044 ?_
        refine lcall_i (k := 26) C hG hP hS (c_X11_sign e2) mi_X11_sign mw_1642 (by decide) rfl rfl ⟨Nat.le_of_ble_eq_true rfl, Nat.le_of_ble_eq_true rfl⟩ (As := [.int (xs (x3 + 1).toNatClampNeg), .int (xs (x3 + 2).toNatClampNeg)]) rfl hl.1 rfl (lv_room (Nat.le_of_ble_eq_true rfl)) ⟨Nat.le_of_ble_eq_true rfl, Nat.le_of_ble_eq_true rfl⟩ dL_law_1045 (fun H locs hP hS => ?_)
        refine lv_icmp_eq (tgt := 1334) hx hb dL_law_1048 (by decide) (fun c1 => ?_) (fun c1 => ?_)
        · exact turn _ _ e4 _ _ hP hS
        · exact absurd e3 c1
      by_cases c_25 : w0 = 25
      · refine r_eqL c_25 ?_
        refine lv_tableIn (off := 1020) (tgt := 1053) hx hb dL_law_33 (by decide) (by decide) (by decide) (by decide) ?_
        obtain ⟨qx, qm, e1, e2, e3, e4⟩ := pp25 σ  hInv
        refine lv_aload_n hx hb dL_law_1053 rfl (lv_at hl 1 rfl) ?_
        refine lcall_i (k := 0) C hG hP hS (c_X10_times e1) mi_X10_times mw_1098 (by decide) rfl rfl ⟨Nat.le_of_ble_eq_true rfl, Nat.le_of_ble_eq_true rfl⟩ (As := []) rfl hl.1 rfl (lv_room (Nat.le_of_ble_eq_true rfl)) ⟨Nat.le_of_ble_eq_true rfl, Nat.le_of_ble_eq_true rfl⟩ dL_law_1054 (fun H locs hP hS => ?_)
        refine lv_aload_n hx hb dL_law_1057 rfl (lv_at hl 2 rfl) ?_
        refine lcall_i (k := 26) C hG hP hS (c_X11_times e2) mi_X11_times mw_1658 (by decide) rfl rfl ⟨Nat.le_of_ble_eq_true rfl, Nat.le_of_ble_eq_true rfl⟩ (As := []) rfl hl.1 rfl (lv_room (Nat.le_of_ble_eq_true rfl)) ⟨Nat.le_of_ble_eq_true rfl, Nat.le_of_ble_eq_true rfl⟩ dL_law_1058 (fun H locs hP hS => ?_)
        refine lv_icmp_eq (tgt := 1334) hx hb dL_law_1061 (by decide) (fun c1 => ?_) (fun c1 => ?_)
        · exact turn _ _ e4 _ _ hP hS
        · exact absurd e3 c1
      by_cases c_26 : w0 = 26
      · refine r_eqL c_26 ?_
        refine lv_tableIn (off := 1033) (tgt := 1066) hx hb dL_law_33 (by decide) (by decide) (by decide) (by decide) ?_
        obtain ⟨qx, qm, e1, e2, e3, e4⟩ := pp26 σ (xs (x3 + 1).toNatClampNeg) hInv
        refine lv_aload_n hx hb dL_law_1066 rfl (lv_at hl 1 rfl) ?_
        refine lv_aload_n hx hb dL_law_1067 rfl (lv_at hl 0 rfl) ?_
        refine lv_iload_n hx hb dL_law_1068 rfl (lv_at hl 3 rfl) ?_
        refine lv_iconst (v := 1) hx hb dL_law_1069 (by decide) ?_
        refine lv_iadd hx hb dL_law_1070 ?_
        refine va_sld hx hb hX hbl hbA hS h_1 dL_law_1071 ?_
        refine lcall_i (k := 0) C hG hP hS (c_X10_deepest e1) mi_X10_deepest mw_1109 (by decide) rfl rfl ⟨Nat.le_of_ble_eq_true rfl, Nat.le_of_ble_eq_true rfl⟩ (As := [.int (xs (x3 + 1).toNatClampNeg)]) rfl hl.1 rfl (lv_room (Nat.le_of_ble_eq_true rfl)) ⟨Nat.le_of_ble_eq_true rfl, Nat.le_of_ble_eq_true rfl⟩ dL_law_1072 (fun H locs hP hS => ?_)
        refine lv_aload_n hx hb dL_law_1075 rfl (lv_at hl 2 rfl) ?_
        refine lv_aload_n hx hb dL_law_1076 rfl (lv_at hl 0 rfl) ?_
        refine lv_iload_n hx hb dL_law_1077 rfl (lv_at hl 3 rfl) ?_
        refine lv_iconst (v := 1) hx hb dL_law_1078 (by decide) ?_
        refine lv_iadd hx hb dL_law_1079 ?_
        refine va_sld hx hb hX hbl hbA hS h_1 dL_law_1080 ?_
        refine lcall_i (k := 26) C hG hP hS (c_X11_deepest e2) mi_X11_deepest mw_1666 (by decide) rfl rfl ⟨Nat.le_of_ble_eq_true rfl, Nat.le_of_ble_eq_true rfl⟩ (As := [.int (xs (x3 + 1).toNatClampNeg)]) rfl hl.1 rfl (lv_room (Nat.le_of_ble_eq_true rfl)) ⟨Nat.le_of_ble_eq_true rfl, Nat.le_of_ble_eq_true rfl⟩ dL_law_1081 (fun H locs hP hS => ?_)
        refine lv_icmp_eq (tgt := 1334) hx hb dL_law_1084 (by decide) (fun c1 => ?_) (fun c1 => ?_)
        · exact turn _ _ e4 _ _ hP hS
        · exact absurd e3 c1
      by_cases c_27 : w0 = 27
      · refine r_eqL c_27 ?_
        refine lv_tableIn (off := 1056) (tgt := 1089) hx hb dL_law_33 (by decide) (by decide) (by decide) (by decide) ?_
        obtain ⟨qx, qm, e1, e2, e3, e4⟩ := pp27 σ (xs (x3 + 1).toNatClampNeg) (xs (x3 + 2).toNatClampNeg) hInv
        refine lv_aload_n hx hb dL_law_1089 rfl (lv_at hl 1 rfl) ?_
        refine lv_aload_n hx hb dL_law_1090 rfl (lv_at hl 0 rfl) ?_
        refine lv_iload_n hx hb dL_law_1091 rfl (lv_at hl 3 rfl) ?_
        refine lv_iconst (v := 1) hx hb dL_law_1092 (by decide) ?_
        refine lv_iadd hx hb dL_law_1093 ?_
        refine va_sld hx hb hX hbl hbA hS h_1 dL_law_1094 ?_
        refine lv_aload_n hx hb dL_law_1095 rfl (lv_at hl 0 rfl) ?_
        refine lv_iload_n hx hb dL_law_1096 rfl (lv_at hl 3 rfl) ?_
        refine lv_iconst (v := 2) hx hb dL_law_1097 (by decide) ?_
        refine lv_iadd hx hb dL_law_1098 ?_
        refine va_sld hx hb hX hbl hbA hS h_2 dL_law_1099 ?_
        refine lcall_i (k := 0) C hG hP hS (c_X10_courses e1) mi_X10_courses mw_1119 (by decide) rfl rfl ⟨Nat.le_of_ble_eq_true rfl, Nat.le_of_ble_eq_true rfl⟩ (As := [.int (xs (x3 + 1).toNatClampNeg), .int (xs (x3 + 2).toNatClampNeg)]) rfl hl.1 rfl (lv_room (Nat.le_of_ble_eq_true rfl)) ⟨Nat.le_of_ble_eq_true rfl, Nat.le_of_ble_eq_true rfl⟩ dL_law_1100 (fun H locs hP hS => ?_)
        refine lv_aload_n hx hb dL_law_1103 rfl (lv_at hl 2 rfl) ?_
        refine lv_aload_n hx hb dL_law_1104 rfl (lv_at hl 0 rfl) ?_
        refine lv_iload_n hx hb dL_law_1105 rfl (lv_at hl 3 rfl) ?_
        refine lv_iconst (v := 1) hx hb dL_law_1106 (by decide) ?_
        refine lv_iadd hx hb dL_law_1107 ?_
        refine va_sld hx hb hX hbl hbA hS h_1 dL_law_1108 ?_
        refine lv_aload_n hx hb dL_law_1109 rfl (lv_at hl 0 rfl) ?_
        refine lv_iload_n hx hb dL_law_1110 rfl (lv_at hl 3 rfl) ?_
        refine lv_iconst (v := 2) hx hb dL_law_1111 (by decide) ?_
        refine lv_iadd hx hb dL_law_1112 ?_
        refine va_sld hx hb hX hbl hbA hS h_2 dL_law_1113 ?_
        refine lcall_i (k := 26) C hG hP hS (c_X11_courses e2) mi_X11_courses mw_1670 (by decide) rfl rfl ⟨Nat.le_of_ble_eq_true rfl, Nat.le_of_ble_eq_true rfl⟩ (As := [.int (xs (x3 + 1).toNatClampNeg), .int (xs (x3 + 2).toNatClampNeg)]) rfl hl.1 rfl (lv_room (Nat.le_of_ble_eq_true rfl)) ⟨Nat.le_of_ble_eq_true rfl, Nat.le_of_ble_eq_true rfl⟩ dL_law_1114 (fun H locs hP hS => ?_)
        refine lv_icmp_eq (tgt := 1334) hx hb dL_law_1117 (by decide) (fun c1 => ?_) (fun c1 => ?_)
        · exact turn _ _ e4 _ _ hP hS
        · exact absurd e3 c1
      by_cases c_28 : w0 = 28
      · refine r_eqL c_28 ?_
        refine lv_tableIn (off := 1089) (tgt := 1122) hx hb dL_law_33 (by decide) (by decide) (by decide) (by decide) ?_
        obtain ⟨qx, qm, e1, e2, e3, e4⟩ := pp28 σ (xs (x3 + 1).toNatClampNeg) hInv
        refine lv_aload_n hx hb dL_law_1122 rfl (lv_at hl 1 rfl) ?_
        refine lv_aload_n hx hb dL_law_1123 rfl (lv_at hl 0 rfl) ?_
        refine lv_iload_n hx hb dL_law_1124 rfl (lv_at hl 3 rfl) ?_
        refine lv_iconst (v := 1) hx hb dL_law_1125 (by decide) ?_
        refine lv_iadd hx hb dL_law_1126 ?_
        refine va_sld hx hb hX hbl hbA hS h_1 dL_law_1127 ?_
        refine lcall_i (k := 0) C hG hP hS (c_X10_needed e1) mi_X10_needed mw_1127 (by decide) rfl rfl ⟨Nat.le_of_ble_eq_true rfl, Nat.le_of_ble_eq_true rfl⟩ (As := [.int (xs (x3 + 1).toNatClampNeg)]) rfl hl.1 rfl (lv_room (Nat.le_of_ble_eq_true rfl)) ⟨Nat.le_of_ble_eq_true rfl, Nat.le_of_ble_eq_true rfl⟩ dL_law_1128 (fun H locs hP hS => ?_)
        refine lv_aload_n hx hb dL_law_1131 rfl (lv_at hl 2 rfl) ?_
        refine lv_aload_n hx hb dL_law_1132 rfl (lv_at hl 0 rfl) ?_
        refine lv_iload_n hx hb dL_law_1133 rfl (lv_at hl 3 rfl) ?_
        refine lv_iconst (v := 1) hx hb dL_law_1134 (by decide) ?_
        refine lv_iadd hx hb dL_law_1135 ?_
        refine va_sld hx hb hX hbl hbA hS h_1 dL_law_1136 ?_
        refine lcall_i (k := 26) C hG hP hS (c_X11_needed e2) mi_X11_needed mw_1674 (by decide) rfl rfl ⟨Nat.le_of_ble_eq_true rfl, Nat.le_of_ble_eq_true rfl⟩ (As := [.int (xs (x3 + 1).toNatClampNeg)]) rfl hl.1 rfl (lv_room (Nat.le_of_ble_eq_true rfl)) ⟨Nat.le_of_ble_eq_true rfl, Nat.le_of_ble_eq_true rfl⟩ dL_law_1137 (fun H locs hP hS => ?_)
        refine lv_icmp_eq (tgt := 1334) hx hb dL_law_1140 (by decide) (fun c1 => ?_) (fun c1 => ?_)
        · exact turn _ _ e4 _ _ hP hS
        · exact absurd e3 c1
      by_cases c_29 : w0 = 29
      · refine r_eqL c_29 ?_
        refine lv_tableIn (off := 1112) (tgt := 1145) hx hb dL_law_33 (by decide) (by decide) (by decide) (by decide) ?_
        obtain ⟨qx, qm, e1, e2, e3, e4⟩ := pp29 σ (xs (x3 + 1).toNatClampNeg) (xs (x3 + 2).toNatClampNeg) hInv
        refine lv_aload_n hx hb dL_law_1145 rfl (lv_at hl 1 rfl) ?_
        refine lv_aload_n hx hb dL_law_1146 rfl (lv_at hl 0 rfl) ?_
        refine lv_iload_n hx hb dL_law_1147 rfl (lv_at hl 3 rfl) ?_
        refine lv_iconst (v := 1) hx hb dL_law_1148 (by decide) ?_
        refine lv_iadd hx hb dL_law_1149 ?_
        refine va_sld hx hb hX hbl hbA hS h_1 dL_law_1150 ?_
        refine lv_aload_n hx hb dL_law_1151 rfl (lv_at hl 0 rfl) ?_
        refine lv_iload_n hx hb dL_law_1152 rfl (lv_at hl 3 rfl) ?_
        refine lv_iconst (v := 2) hx hb dL_law_1153 (by decide) ?_
        refine lv_iadd hx hb dL_law_1154 ?_
        refine va_sld hx hb hX hbl hbA hS h_2 dL_law_1155 ?_
        refine lcall_i (k := 0) C hG hP hS (c_X10_near e1) mi_X10_near mw_1137 (by decide) rfl rfl ⟨Nat.le_of_ble_eq_true rfl, Nat.le_of_ble_eq_true rfl⟩ (As := [.int (xs (x3 + 1).toNatClampNeg), .int (xs (x3 + 2).toNatClampNeg)]) rfl hl.1 rfl (lv_room (Nat.le_of_ble_eq_true rfl)) ⟨Nat.le_of_ble_eq_true rfl, Nat.le_of_ble_eq_true rfl⟩ dL_law_1156 (fun H locs hP hS => ?_)
        refine lv_aload_n hx hb dL_law_1159 rfl (lv_at hl 2 rfl) ?_
        refine lv_aload_n hx hb dL_law_1160 rfl (lv_at hl 0 rfl) ?_
        refine lv_iload_n hx hb dL_law_1161 rfl (lv_at hl 3 rfl) ?_
        refine lv_iconst (v := 1) hx hb dL_law_1162 (by decide) ?_
        refine lv_iadd hx hb dL_law_1163 ?_
        refine va_sld hx hb hX hbl hbA hS h_1 dL_law_1164 ?_
        refine lv_aload_n hx hb dL_law_1165 rfl (lv_at hl 0 rfl) ?_
        refine lv_iload_n hx hb dL_law_1166 rfl (lv_at hl 3 rfl) ?_
        refine lv_iconst (v := 2) hx hb dL_law_1167 (by decide) ?_
        refine lv_iadd hx hb dL_law_1168 ?_
        refine va_sld hx hb hX hbl hbA hS h_2 dL_law_1169 ?_
        refine lcall_i (k := 26) C hG hP hS (c_X11_near e2) mi_X11_near mw_1678 (by decide) rfl rfl ⟨Nat.le_of_ble_eq_true rfl, Nat.le_of_ble_eq_true rfl⟩ (As := [.int (xs (x3 + 1).toNatClampNeg), .int (xs (x3 + 2).toNatClampNeg)]) rfl hl.1 rfl (lv_room (Nat.le_of_ble_eq_true rfl)) ⟨Nat.le_of_ble_eq_true rfl, Nat.le_of_ble_eq_true rfl⟩ dL_law_1170 (fun H locs hP hS => ?_)
        refine lv_icmp_eq (tgt := 1334) hx hb dL_law_1173 (by decide) (fun c1 => ?_) (fun c1 => ?_)
        · exact turn _ _ e4 _ _ hP hS
        · exact absurd e3 c1
      by_cases c_30 : w0 = 30
      · refine r_eqL c_30 ?_
        refine lv_tableIn (off := 1145) (tgt := 1178) hx hb dL_law_33 (by decide) (by decide) (by decide) (by decide) ?_
        obtain ⟨qx, qm, e1, e2, e3, e4⟩ := pp30 lam σ (xs (x3 + 1).toNatClampNeg) (xs (x3 + 2).toNatClampNeg) (xs (x3 + 3).toNatClampNeg) hInv
        refine lv_aload_n hx hb dL_law_1178 rfl (lv_at hl 1 rfl) ?_
        refine lv_aload_n hx hb dL_law_1179 rfl (lv_at hl 0 rfl) ?_
        refine lv_iload_n hx hb dL_law_1180 rfl (lv_at hl 3 rfl) ?_
        refine lv_iconst (v := 1) hx hb dL_law_1181 (by decide) ?_
        refine lv_iadd hx hb dL_law_1182 ?_
        refine va_sld hx hb hX hbl hbA hS h_1 dL_law_1183 ?_
        refine lv_aload_n hx hb dL_law_1184 rfl (lv_at hl 0 rfl) ?_
        refine lv_iload_n hx hb dL_law_1185 rfl (lv_at hl 3 rfl) ?_
        refine lv_iconst (v := 2) hx hb dL_law_1186 (by decide) ?_
        refine lv_iadd hx hb dL_law_1187 ?_
        refine va_sld hx hb hX hbl hbA hS h_2 dL_law_1188 ?_
        refine lv_aload_n hx hb dL_law_1189 rfl (lv_at hl 0 rfl) ?_
        refine lv_iload_n hx hb dL_law_1190 rfl (lv_at hl 3 rfl) ?_
        refine lv_iconst (v := 3) hx hb dL_law_1191 (by decide) ?_
        refine lv_iadd hx hb dL_law_1192 ?_
        refine va_sld hx hb hX hbl hbA hS h_3 dL_law_1193 ?_
        refine lcall_lL (k := 0) C hG hP hS (c_X10_out e1) mi_X10_out mw_1151 (by decide) rfl rfl ⟨Nat.le_of_ble_eq_true rfl, Nat.le_of_ble_eq_true rfl⟩ (As := [.int (xs (x3 + 1).toNatClampNeg), .int (xs (x3 + 2).toNatClampNeg), .int (xs (x3 + 3).toNatClampNeg)]) rfl hl.1 rfl (lv_room (Nat.le_of_ble_eq_true rfl)) ⟨Nat.le_of_ble_eq_true rfl, Nat.le_of_ble_eq_true rfl⟩ dL_law_1194 (fun H locs hP hS => ?_)
        refine lv_aload_n hx hb dL_law_1197 rfl (lv_at hl 2 rfl) ?_
        refine lv_aload_n hx hb dL_law_1198 rfl (lv_at hl 0 rfl) ?_
        refine lv_iload_n hx hb dL_law_1199 rfl (lv_at hl 3 rfl) ?_
        refine lv_iconst (v := 1) hx hb dL_law_1200 (by decide) ?_
        refine lv_iadd hx hb dL_law_1201 ?_
        refine va_sld hx hb hX hbl hbA hS h_1 dL_law_1202 ?_
        refine lv_aload_n hx hb dL_law_1203 rfl (lv_at hl 0 rfl) ?_
        refine lv_iload_n hx hb dL_law_1204 rfl (lv_at hl 3 rfl) ?_
        refine lv_iconst (v := 2) hx hb dL_law_1205 (by decide) ?_
        refine lv_iadd hx hb dL_law_1206 ?_
        refine va_sld hx hb hX hbl hbA hS h_2 dL_law_1207 ?_
        refine lv_aload_n hx hb dL_law_1208 rfl (lv_at hl 0 rfl) ?_
        refine lv_iload_n hx hb dL_law_1209 rfl (lv_at hl 3 rfl) ?_
        refine lv_iconst (v := 3) hx hb dL_law_1210 (by decide) ?_
        refine lv_iadd hx hb dL_law_1211 ?_
        refine va_sld hx hb hX hbl hbA hS h_3 dL_law_1212 ?_
        refine lcall_l (k := 26) C hG hP hS (c_X11_out e2) mi_X11_out mw_1682 (by decide) rfl rfl ⟨Nat.le_of_ble_eq_true rfl, Nat.le_of_ble_eq_true rfl⟩ (As := [.int (xs (x3 + 1).toNatClampNeg), .int (xs (x3 + 2).toNatClampNeg), .int (xs (x3 + 3).toNatClampNeg)]) rfl hl.1 rfl (lv_room (Nat.le_of_ble_eq_true rfl)) ⟨Nat.le_of_ble_eq_true rfl, Nat.le_of_ble_eq_true rfl⟩ dL_law_1213 (fun H locs hP hS => ?_)
        refine W.lcmp hx hb dL_law_1216 ?_
        refine lv_if_eq (tgt := 1334) hx hb dL_law_1217 (by decide) (fun c1 => ?_) (fun c1 => ?_)
        · exact turn _ _ e4 _ _ hP hS
        · exact absurd (by rw [e3]; exact lg_cmp_self _) c1
      by_cases c_31 : w0 = 31
      · refine r_eqL c_31 ?_
        refine lv_tableIn (off := 1189) (tgt := 1222) hx hb dL_law_33 (by decide) (by decide) (by decide) (by decide) ?_
        obtain ⟨qx, qm, e1, e2, e3, e4⟩ := pp31 σ (xs (x3 + 1).toNatClampNeg) (xs (x3 + 2).toNatClampNeg) (xs (x3 + 3).toNatClampNeg) hInv
        refine lv_aload_n hx hb dL_law_1222 rfl (lv_at hl 1 rfl) ?_
        refine lv_aload_n hx hb dL_law_1223 rfl (lv_at hl 0 rfl) ?_
        refine lv_iload_n hx hb dL_law_1224 rfl (lv_at hl 3 rfl) ?_
        refine lv_iconst (v := 1) hx hb dL_law_1225 (by decide) ?_
        refine lv_iadd hx hb dL_law_1226 ?_
        refine va_sld hx hb hX hbl hbA hS h_1 dL_law_1227 ?_
        refine lv_aload_n hx hb dL_law_1228 rfl (lv_at hl 0 rfl) ?_
        refine lv_iload_n hx hb dL_law_1229 rfl (lv_at hl 3 rfl) ?_
        refine lv_iconst (v := 2) hx hb dL_law_1230 (by decide) ?_
        refine lv_iadd hx hb dL_law_1231 ?_
        refine va_sld hx hb hX hbl hbA hS h_2 dL_law_1232 ?_
        refine lv_aload_n hx hb dL_law_1233 rfl (lv_at hl 0 rfl) ?_
        refine lv_iload_n hx hb dL_law_1234 rfl (lv_at hl 3 rfl) ?_
        refine lv_iconst (v := 3) hx hb dL_law_1235 (by decide) ?_
        refine lv_iadd hx hb dL_law_1236 ?_
        refine va_sld hx hb hX hbl hbA hS h_3 dL_law_1237 ?_
        refine lcall_i (k := 0) C hG hP hS (c_X10_drawn e1) mi_X10_drawn mw_1183 (by decide) rfl rfl ⟨Nat.le_of_ble_eq_true rfl, Nat.le_of_ble_eq_true rfl⟩ (As := [.int (xs (x3 + 1).toNatClampNeg), .int (xs (x3 + 2).toNatClampNeg), .int (xs (x3 + 3).toNatClampNeg)]) rfl hl.1 rfl (lv_room (Nat.le_of_ble_eq_true rfl)) ⟨Nat.le_of_ble_eq_true rfl, Nat.le_of_ble_eq_true rfl⟩ dL_law_1238 (fun H locs hP hS => ?_)
        refine lv_aload_n hx hb dL_law_1241 rfl (lv_at hl 2 rfl) ?_
        refine lv_aload_n hx hb dL_law_1242 rfl (lv_at hl 0 rfl) ?_
        refine lv_iload_n hx hb dL_law_1243 rfl (lv_at hl 3 rfl) ?_
        refine lv_iconst (v := 1) hx hb dL_law_1244 (by decide) ?_
        refine lv_iadd hx hb dL_law_1245 ?_
        refine va_sld hx hb hX hbl hbA hS h_1 dL_law_1246 ?_
        refine lv_aload_n hx hb dL_law_1247 rfl (lv_at hl 0 rfl) ?_
        refine lv_iload_n hx hb dL_law_1248 rfl (lv_at hl 3 rfl) ?_
        refine lv_iconst (v := 2) hx hb dL_law_1249 (by decide) ?_
        refine lv_iadd hx hb dL_law_1250 ?_
        refine va_sld hx hb hX hbl hbA hS h_2 dL_law_1251 ?_
        refine lv_aload_n hx hb dL_law_1252 rfl (lv_at hl 0 rfl) ?_
        refine lv_iload_n hx hb dL_law_1253 rfl (lv_at hl 3 rfl) ?_
        refine lv_iconst (v := 3) hx hb dL_law_1254 (by decide) ?_
        refine lv_iadd hx hb dL_law_1255 ?_
        refine va_sld hx hb hX hbl hbA hS h_3 dL_law_1256 ?_
        refine lcall_i (k := 26) C hG hP hS (c_X11_drawn e2) mi_X11_drawn mw_1699 (by decide) rfl rfl ⟨Nat.le_of_ble_eq_true rfl, Nat.le_of_ble_eq_true rfl⟩ (As := [.int (xs (x3 + 1).toNatClampNeg), .int (xs (x3 + 2).toNatClampNeg), .int (xs (x3 + 3).toNatClampNeg)]) rfl hl.1 rfl (lv_room (Nat.le_of_ble_eq_true rfl)) ⟨Nat.le_of_ble_eq_true rfl, Nat.le_of_ble_eq_true rfl⟩ dL_law_1257 (fun H locs hP hS => ?_)
        refine lv_icmp_eq (tgt := 1334) hx hb dL_law_1260 (by decide) (fun c1 => ?_) (fun c1 => ?_)
        · exact turn _ _ e4 _ _ hP hS
        · exact absurd e3 c1
      by_cases c_32 : w0 = 32
      · refine r_eqL c_32 ?_
        refine lv_tableIn (off := 1232) (tgt := 1265) hx hb dL_law_33 (by decide) (by decide) (by decide) (by decide) ?_
        obtain ⟨qx, qm, e1, e2, e3, e4⟩ := pp32 σ (xs (x3 + 1).toNatClampNeg) hInv
        refine lv_aload_n hx hb dL_law_1265 rfl (lv_at hl 1 rfl) ?_
        refine lv_aload_n hx hb dL_law_1266 rfl (lv_at hl 0 rfl) ?_
        refine lv_iload_n hx hb dL_law_1267 rfl (lv_at hl 3 rfl) ?_
        refine lv_iconst (v := 1) hx hb dL_law_1268 (by decide) ?_
        refine lv_iadd hx hb dL_law_1269 ?_
        refine va_sld hx hb hX hbl hbA hS h_1 dL_law_1270 ?_
        refine lcall_i (k := 0) C hG hP hS (c_X10_image e1) mi_X10_image mw_1197 (by decide) rfl rfl ⟨Nat.le_of_ble_eq_true rfl, Nat.le_of_ble_eq_true rfl⟩ (As := [.int (xs (x3 + 1).toNatClampNeg)]) rfl hl.1 rfl (lv_room (Nat.le_of_ble_eq_true rfl)) ⟨Nat.le_of_ble_eq_true rfl, Nat.le_of_ble_eq_true rfl⟩ dL_law_1271 (fun H locs hP hS => ?_)
        refine lv_aload_n hx hb dL_law_1274 rfl (lv_at hl 2 rfl) ?_
        refine lv_aload_n hx hb dL_law_1275 rfl (lv_at hl 0 rfl) ?_
        refine lv_iload_n hx hb dL_law_1276 rfl (lv_at hl 3 rfl) ?_
        refine lv_iconst (v := 1) hx hb dL_law_1277 (by decide) ?_
        refine lv_iadd hx hb dL_law_1278 ?_
        refine va_sld hx hb hX hbl hbA hS h_1 dL_law_1279 ?_
        refine lcall_i (k := 26) C hG hP hS (c_X11_image e2) mi_X11_image mw_1710 (by decide) rfl rfl ⟨Nat.le_of_ble_eq_true rfl, Nat.le_of_ble_eq_true rfl⟩ (As := [.int (xs (x3 + 1).toNatClampNeg)]) rfl hl.1 rfl (lv_room (Nat.le_of_ble_eq_true rfl)) ⟨Nat.le_of_ble_eq_true rfl, Nat.le_of_ble_eq_true rfl⟩ dL_law_1280 (fun H locs hP hS => ?_)
        refine lv_icmp_eq (tgt := 1334) hx hb dL_law_1283 (by decide) (fun c1 => ?_) (fun c1 => ?_)
        · exact turn _ _ e4 _ _ hP hS
        · exact absurd e3 c1
      by_cases c_33 : w0 = 33
      · refine r_eqL c_33 ?_
        refine lv_tableIn (off := 1255) (tgt := 1288) hx hb dL_law_33 (by decide) (by decide) (by decide) (by decide) ?_
        obtain ⟨qx, qm, e1, e2, e3, e4⟩ := pp33 σ (xs (x3 + 1).toNatClampNeg) hInv
        refine lv_aload_n hx hb dL_law_1288 rfl (lv_at hl 1 rfl) ?_
        refine lv_aload_n hx hb dL_law_1289 rfl (lv_at hl 0 rfl) ?_
        refine lv_iload_n hx hb dL_law_1290 rfl (lv_at hl 3 rfl) ?_
        refine lv_iconst (v := 1) hx hb dL_law_1291 (by decide) ?_
        refine lv_iadd hx hb dL_law_1292 ?_
        refine va_sld hx hb hX hbl hbA hS h_1 dL_law_1293 ?_
        refine lcall_i (k := 0) C hG hP hS (c_X10_restore e1) mi_X10_restore mw_1205 (by decide) rfl rfl ⟨Nat.le_of_ble_eq_true rfl, Nat.le_of_ble_eq_true rfl⟩ (As := [.int (xs (x3 + 1).toNatClampNeg)]) rfl hl.1 rfl (lv_room (Nat.le_of_ble_eq_true rfl)) ⟨Nat.le_of_ble_eq_true rfl, Nat.le_of_ble_eq_true rfl⟩ dL_law_1294 (fun H locs hP hS => ?_)
        refine lv_aload_n hx hb dL_law_1297 rfl (lv_at hl 2 rfl) ?_
        refine lv_aload_n hx hb dL_law_1298 rfl (lv_at hl 0 rfl) ?_
        refine lv_iload_n hx hb dL_law_1299 rfl (lv_at hl 3 rfl) ?_
        refine lv_iconst (v := 1) hx hb dL_law_1300 (by decide) ?_
        refine lv_iadd hx hb dL_law_1301 ?_
        refine va_sld hx hb hX hbl hbA hS h_1 dL_law_1302 ?_
        refine lcall_i (k := 26) C hG hP hS (c_X11_restore e2) mi_X11_restore mw_1714 (by decide) rfl rfl ⟨Nat.le_of_ble_eq_true rfl, Nat.le_of_ble_eq_true rfl⟩ (As := [.int (xs (x3 + 1).toNatClampNeg)]) rfl hl.1 rfl (lv_room (Nat.le_of_ble_eq_true rfl)) ⟨Nat.le_of_ble_eq_true rfl, Nat.le_of_ble_eq_true rfl⟩ dL_law_1303 (fun H locs hP hS => ?_)
        refine lv_icmp_eq (tgt := 1334) hx hb dL_law_1306 (by decide) (fun c1 => ?_) (fun c1 => ?_)
        · exact turn _ _ e4 _ _ hP hS
        · exact absurd e3 c1
      by_cases c_34 : w0 = 34
      · refine r_eqL c_34 ?_
        refine lv_tableIn (off := 1278) (tgt := 1311) hx hb dL_law_33 (by decide) (by decide) (by decide) (by decide) ?_
        obtain ⟨qx, qm, e1, e2, e3, e4⟩ := pp34 σ (xs (x3 + 1).toNatClampNeg) hInv
        refine lv_aload_n hx hb dL_law_1311 rfl (lv_at hl 1 rfl) ?_
        refine lv_aload_n hx hb dL_law_1312 rfl (lv_at hl 0 rfl) ?_
        refine lv_iload_n hx hb dL_law_1313 rfl (lv_at hl 3 rfl) ?_
        refine lv_iconst (v := 1) hx hb dL_law_1314 (by decide) ?_
        refine lv_iadd hx hb dL_law_1315 ?_
        refine va_sld hx hb hX hbl hbA hS h_1 dL_law_1316 ?_
        refine lcall_i (k := 0) C hG hP hS (c_X10_count e1) mi_X10_count mw_1209 (by decide) rfl rfl ⟨Nat.le_of_ble_eq_true rfl, Nat.le_of_ble_eq_true rfl⟩ (As := [.int (xs (x3 + 1).toNatClampNeg)]) rfl hl.1 rfl (lv_room (Nat.le_of_ble_eq_true rfl)) ⟨Nat.le_of_ble_eq_true rfl, Nat.le_of_ble_eq_true rfl⟩ dL_law_1317 (fun H locs hP hS => ?_)
        refine lv_aload_n hx hb dL_law_1320 rfl (lv_at hl 2 rfl) ?_
        refine lv_aload_n hx hb dL_law_1321 rfl (lv_at hl 0 rfl) ?_
        refine lv_iload_n hx hb dL_law_1322 rfl (lv_at hl 3 rfl) ?_
        refine lv_iconst (v := 1) hx hb dL_law_1323 (by decide) ?_
        refine lv_iadd hx hb dL_law_1324 ?_
        refine va_sld hx hb hX hbl hbA hS h_1 dL_law_1325 ?_
        refine lcall_i (k := 26) C hG hP hS (c_X11_count e2) mi_X11_count mw_1718 (by decide) rfl rfl ⟨Nat.le_of_ble_eq_true rfl, Nat.le_of_ble_eq_true rfl⟩ (As := [.int (xs (x3 + 1).toNatClampNeg)]) rfl hl.1 rfl (lv_room (Nat.le_of_ble_eq_true rfl)) ⟨Nat.le_of_ble_eq_true rfl, Nat.le_of_ble_eq_true rfl⟩ dL_law_1326 (fun H locs hP hS => ?_)
        refine lv_icmp_eq (tgt := 1334) hx hb dL_law_1329 (by decide) (fun c1 => ?_) (fun c1 => ?_)
        · exact turn _ _ e4 _ _ hP hS
        · exact absurd e3 c1
      refine lv_tableOut (tgt := 1334) hx hb dL_law_33 (by have hz := And.intro (ne_i (z := 0) (by decide) c_0) (And.intro (ne_i (z := 1) (by decide) c_1) (And.intro (ne_i (z := 2) (by decide) c_2) (And.intro (ne_i (z := 3) (by decide) c_3) (And.intro (ne_i (z := 4) (by decide) c_4) (And.intro (ne_i (z := 5) (by decide) c_5) (And.intro (ne_i (z := 6) (by decide) c_6) (And.intro (ne_i (z := 7) (by decide) c_7) (And.intro (ne_i (z := 8) (by decide) c_8) (And.intro (ne_i (z := 9) (by decide) c_9) (And.intro (ne_i (z := 10) (by decide) c_10) (And.intro (ne_i (z := 11) (by decide) c_11) (And.intro (ne_i (z := 12) (by decide) c_12) (And.intro (ne_i (z := 13) (by decide) c_13) (And.intro (ne_i (z := 14) (by decide) c_14) (And.intro (ne_i (z := 15) (by decide) c_15) (And.intro (ne_i (z := 16) (by decide) c_16) (And.intro (ne_i (z := 17) (by decide) c_17) (And.intro (ne_i (z := 18) (by decide) c_18) (And.intro (ne_i (z := 19) (by decide) c_19) (And.intro (ne_i (z := 20) (by decide) c_20) (And.intro (ne_i (z := 21) (by decide) c_21) (And.intro (ne_i (z := 22) (by decide) c_22) (And.intro (ne_i (z := 23) (by decide) c_23) (And.intro (ne_i (z := 24) (by decide) c_24) (And.intro (ne_i (z := 25) (by decide) c_25) (And.intro (ne_i (z := 26) (by decide) c_26) (And.intro (ne_i (z := 27) (by decide) c_27) (And.intro (ne_i (z := 28) (by decide) c_28) (And.intro (ne_i (z := 29) (by decide) c_29) (And.intro (ne_i (z := 30) (by decide) c_30) (And.intro (ne_i (z := 31) (by decide) c_31) (And.intro (ne_i (z := 32) (by decide) c_32) (And.intro (ne_i (z := 33) (by decide) c_33) (ne_i (z := 34) (by decide) c_34)))))))))))))))))))))))))))))))))); omega) (by decide) ?_
      exact turn _ _ hInv _ _ hP hS
