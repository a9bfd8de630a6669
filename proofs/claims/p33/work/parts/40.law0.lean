set_option maxHeartbeats 2000000 in
set_option maxRecDepth 10000 in
theorem lc_offer {p : Program} {e : Env} {s : State} {m : MethodId} {below : List Frame} {meth : Method} {c0 : Code} {Q : State → Prop} (l : Launch) (hfl : l.stackTraces = false) (D : va_G) (cA : Nat → ClassId) (N : Nat) (ad : Nat → Nat) (c : Nat → va_E) (b n : Nat) (sc : Nat → Nat → Nat) (st : Nat → Nat → Nat → Int32) (B tm i j w cells slots : Nat) (x : Int32) (C0 : Cx p s m c0 cL_law 17 RL D cA N ad (fun q => s.heap.size ≤ q)) (hI : Inv ad cA c N n sc st B) (hB : B ≤ 100000) (hi : i < n) (hj : j < n) (hw1 : 1 ≤ w) (hw9 : w ≤ 9) (hce : cells + 1 ≤ 600104) (hsl : slots + 6 ≤ 7301314) (hT : LTail p l e s m below meth c0 Q D cA N ad b n cells slots tm B) {H : Heap} {locs : List Loc} {ls : Array Slot} (hP : va_P D vwCl (wl N ad c) H) (hS : va_S (fun q => s.heap.size ≤ q) s.heap H locs) (hl : lv_has ls 17 [(10, .int (nI (sc i 5))), (9, .int (nI (sc i 4 + sc j 4))), (8, .int (nI (sc i 3 + sc j 3))), (7, .int (nI w)), (6, .int (nI j)), (5, .int (nI i)), (4, .int x), (0, .ref b), (1, .ref (ad 0)), (2, .int (nI n)), (3, .int (nI tm))]) : W p l e room_1 s m #[Value.ref b] below meth c0 H locs cells slots Q (F0 m 224 ls []) := by
  have hx := C0.1
  have hb := C0.2.1
  have hN := hI.hN
  have hn5 := hI.n5
  obtain ⟨a1, a2, a3, a4, a5, a6, a7, a8, a9⟩ := (hI.hok (by omega)) i hi
  obtain ⟨b1, b2, b3, b4, b5, b6, b7, b8, b9⟩ := (hI.hok (by omega)) j hj
  refine lv_aload_n hx hb dL_law_224 rfl (lv_at hl 8 rfl) ?_
  refine lv_iload hx hb dL_law_225 (lv_at hl 5 rfl) ?_
  refine lv_iload hx hb dL_law_227 (lv_at hl 3 rfl) ?_
  refine k0_i (rn_L_36 (As := [.int (nI i), .int (nI w)]) (rest := []) (r := 0) C0 (m_X1_wouldTake l D cA N ad (c) n i (sc i 0) (sc i 1) (sc i 2) (sc i 3) (sc i 4) (sc i 5) (st i) w (by omega) hI.fh hI.tr hi (hI.hs i hi) ((hI.hok (by omega)) i hi) hw1 hw9 _) hP hS (by omega) hI.fh.1 rfl ⟨rfl, rfl⟩ ⟨Nat.le_of_ble_eq_true rfl, Nat.le_of_ble_eq_true rfl⟩ hl.1 rfl (Nat.le_of_ble_eq_true rfl) dL_law_229 ⟨rm_c hce (by omega), rm_s hsl (by omega)⟩) C0 hP hS (fun v229 c229 H locs hp hP hS => ?_)
  obtain ⟨rfl, t1⟩ := hp
  have hI := hI.trial t1
  refine lv_istore (lv' := [(11, .int (oI (pk (sc i 0) (sc i 1) (sc i 2) (sc i 3 + 1) (sc i 4 + w) (sc i 5) w).1)), (10, .int (nI (sc i 5))), (9, .int (nI (sc i 4 + sc j 4))), (8, .int (nI (sc i 3 + sc j 3))), (7, .int (nI w)), (6, .int (nI j)), (5, .int (nI i)), (4, .int x), (0, .ref b), (1, .ref (ad 0)), (2, .int (nI n)), (3, .int (nI tm))]) hx hb dL_law_232 hl (by decide) rfl (fun ls hl => ?_)
  refine lv_aload_n hx hb dL_law_234 rfl (lv_at hl 9 rfl) ?_
  refine lv_iload hx hb dL_law_235 (lv_at hl 6 rfl) ?_
  refine lv_iload hx hb dL_law_237 (lv_at hl 7 rfl) ?_
  refine lv_bipush (v := nI 7) hx hb dL_law_239 rfl ?_
  refine lv_ishr hx hb dL_law_241 ?_
  refine lv_sipush (v := nI 1000) hx hb dL_law_242 rfl ?_
  refine k0_i (rn_L_18 (As := [.int ((x) >>> ((nI 7) &&& 31)), .int (nI 1000)]) (rest := [.int (nI i), .ref (ad 0)]) C0 (m_L_below l D cA N ad (c229) ((x) >>> ((nI 7) &&& 31)) 1000 (by omega) (by omega) _) hP hS rfl ⟨rfl, rfl⟩ ⟨Nat.le_of_ble_eq_true rfl, Nat.le_of_ble_eq_true rfl⟩ hl.1 rfl (Nat.le_of_ble_eq_true rfl) dL_law_245 ⟨rm_c hce (by omega), rm_s hsl (by omega)⟩) C0 hP hS (fun v245 c245 H locs hp hP hS => ?_)
  obtain ⟨⟨u245, hu245, rfl⟩, rfl⟩ := hp
  refine lv_iload hx hb dL_law_248 (lv_at hl 4 rfl) ?_
  refine k0_i (rn_L_39 (As := [.int (nI i), .int (nI u245), .int (nI w)]) (rest := []) (r := 0) C0 (m_X1_offer l D cA N ad (c229) n i (sc i 0) (sc i 1) (sc i 2) (sc i 3) (sc i 4) (sc i 5) (st i) u245 w (by omega) hI.fh hi (hI.hs i hi) ((hI.hok (by omega)) i hi) (by omega) hw1 hw9 _) hP hS (by omega) hI.fh.1 rfl ⟨rfl, rfl⟩ ⟨Nat.le_of_ble_eq_true rfl, Nat.le_of_ble_eq_true rfl⟩ hl.1 rfl (Nat.le_of_ble_eq_true rfl) dL_law_250 ⟨rm_c hce (by omega), rm_s hsl (by omega)⟩) C0 hP hS (fun v250 c250 H locs hp hP hS => ?_)
  obtain ⟨rfl, hc2⟩ := hp
  obtain ⟨sc2, st2, hI2, e1, e2⟩ := ch_offer (x := u245) hI hi (by omega) hw1 hw9
  rw [hc2] at hI2
  refine lv_iload hx hb dL_law_253 (lv_at hl 0 rfl) ?_
  refine lv_icmp_ne (tgt := 289) hx hb dL_law_255 (by decide) (fun h255 => ?_) (fun h255 => ?_)
  · exact absurd rfl h255
  refine lv_aload_n hx hb dL_law_258 rfl (lv_at hl 9 rfl) ?_
  refine lv_iload hx hb dL_law_259 (lv_at hl 6 rfl) ?_
  refine k0_i (rn_L_26 (As := [.int (nI i)]) (rest := []) (r := 0) C0 (m_X1_seenBy l D cA N ad (c250) n i (sc2 i 0) (sc2 i 1) (sc2 i 2) (sc2 i 3) (sc2 i 4) (sc2 i 5) (st2 i) (by omega) hI2.fh hi (hI2.hs i hi) ((hI2.hok (by omega)) i hi) _) hP hS (by omega) hI2.fh.1 rfl ⟨rfl, rfl⟩ ⟨Nat.le_of_ble_eq_true rfl, Nat.le_of_ble_eq_true rfl⟩ hl.1 rfl (Nat.le_of_ble_eq_true rfl) dL_law_261 ⟨rm_c hce (by omega), rm_s hsl (by omega)⟩) C0 hP hS (fun v261 c261 H locs hp hP hS => ?_)
  obtain ⟨rfl, rfl⟩ := hp
  refine lv_aload_n hx hb dL_law_264 rfl (lv_at hl 9 rfl) ?_
  refine lv_iload hx hb dL_law_265 (lv_at hl 5 rfl) ?_
  refine k0_i (rn_L_26 (As := [.int (nI j)]) (rest := [.int (nI (sc2 i 3))]) (r := 0) C0 (m_X1_seenBy l D cA N ad (c250) n j (sc2 j 0) (sc2 j 1) (sc2 j 2) (sc2 j 3) (sc2 j 4) (sc2 j 5) (st2 j) (by omega) hI2.fh hj (hI2.hs j hj) ((hI2.hok (by omega)) j hj) _) hP hS (by omega) hI2.fh.1 rfl ⟨rfl, rfl⟩ ⟨Nat.le_of_ble_eq_true rfl, Nat.le_of_ble_eq_true rfl⟩ hl.1 rfl (Nat.le_of_ble_eq_true rfl) dL_law_267 ⟨rm_c hce (by omega), rm_s hsl (by omega)⟩) C0 hP hS (fun v267 c267 H locs hp hP hS => ?_)
  obtain ⟨rfl, rfl⟩ := hp
  refine n_iadd hx hb dL_law_270 ?_
  refine lv_iload hx hb dL_law_271 (lv_at hl 3 rfl) ?_
  refine lv_iload hx hb dL_law_273 (lv_at hl 6 rfl) ?_
  refine lv_iload hx hb dL_law_275 (lv_at hl 5 rfl) ?_
  refine n_icmp_ne (tgt := 284) hx hb (by omega) (by omega) dL_law_277 (by decide) (fun h277 => ?_) (fun h277 => ?_)
  · have e3 := e2 j (fun q => h277 q.symm)
    refine lv_iconst (v := nI 1) hx hb dL_law_284 rfl ?_
    refine n_iadd hx hb dL_law_285 ?_
    refine n_icmp_eq (tgt := 543) hx hb (by omega) (by omega) dL_law_286 (by decide) (fun h286 => ?_) (fun h286 => ?_)
    rotate_left
    · exfalso; omega
    exact W.widen (k := cells + 1) (n := slots + 6) (by omega) (by omega) (hT (c250) sc2 st2 hI2 _ _ _ hP hS (lv_sub hl [8, 9, 10, 11] rfl))
  · have e3 : sc2 j 3 = sc j 3 + 1 := by rw [← h277]; exact e1
    refine lv_iconst (v := nI 2) hx hb dL_law_280 rfl ?_
    refine lv_goto (tgt := 285) hx hb dL_law_281 (by decide) ?_
    refine n_iadd hx hb dL_law_285 ?_
    refine n_icmp_eq (tgt := 543) hx hb (by omega) (by omega) dL_law_286 (by decide) (fun h286 => ?_) (fun h286 => ?_)
    rotate_left
    · exfalso; omega
    exact W.widen (k := cells + 1) (n := slots + 6) (by omega) (by omega) (hT (c250) sc2 st2 hI2 _ _ _ hP hS (lv_sub hl [8, 9, 10, 11] rfl))
set_option maxHeartbeats 2000000 in
set_option maxRecDepth 10000 in
theorem lc_row {p : Program} {e : Env} {s : State} {m : MethodId} {below : List Frame} {meth : Method} {c0 : Code} {Q : State → Prop} (l : Launch) (hfl : l.stackTraces = false) (D : va_G) (cA : Nat → ClassId) (N : Nat) (ad : Nat → Nat) (c : Nat → va_E) (b n : Nat) (sc : Nat → Nat → Nat) (st : Nat → Nat → Nat → Int32) (B tm i j w cells slots : Nat) (x : Int32) (C0 : Cx p s m c0 cL_law 17 RL D cA N ad (fun q => s.heap.size ≤ q)) (hI : Inv ad cA c N n sc st B) (hB : B ≤ 100000) (hi : i < n) (hj : j < n) (hw1 : 1 ≤ w) (hw9 : w ≤ 9) (hce : cells + 1 ≤ 600104) (hsl : slots + 6 ≤ 7301314) (hT : LTail p l e s m below meth c0 Q D cA N ad b n cells slots tm B) {H : Heap} {locs : List Loc} {ls : Array Slot} (hP : va_P D vwCl (wl N ad c) H) (hS : va_S (fun q => s.heap.size ≤ q) s.heap H locs) (hl : lv_has ls 17 [(10, .int (nI (sc i 5))), (9, .int (nI (sc i 4 + sc j 4))), (8, .int (nI (sc i 3 + sc j 3))), (7, .int (nI w)), (6, .int (nI j)), (5, .int (nI i)), (4, .int x), (0, .ref b), (1, .ref (ad 0)), (2, .int (nI n)), (3, .int (nI tm))]) : W p l e room_1 s m #[Value.ref b] below meth c0 H locs cells slots Q (F0 m 291 ls []) := by
  have hx := C0.1
  have hb := C0.2.1
  have hN := hI.hN
  have hn5 := hI.n5
  obtain ⟨a1, a2, a3, a4, a5, a6, a7, a8, a9⟩ := (hI.hok (by omega)) i hi
  obtain ⟨b1, b2, b3, b4, b5, b6, b7, b8, b9⟩ := (hI.hok (by omega)) j hj
  refine lv_aload_n hx hb dL_law_291 rfl (lv_at hl 8 rfl) ?_
  refine lv_iload hx hb dL_law_292 (lv_at hl 5 rfl) ?_
  refine lv_iload hx hb dL_law_294 (lv_at hl 6 rfl) ?_
  refine lv_bipush (v := nI 7) hx hb dL_law_296 rfl ?_
  refine lv_ishr hx hb dL_law_298 ?_
  refine lv_sipush (v := nI 1000) hx hb dL_law_299 rfl ?_
  refine k0_i (rn_L_18 (As := [.int ((x) >>> ((nI 7) &&& 31)), .int (nI 1000)]) (rest := [.int (nI i), .ref (ad 0)]) C0 (m_L_below l D cA N ad (c) ((x) >>> ((nI 7) &&& 31)) 1000 (by omega) (by omega) _) hP hS rfl ⟨rfl, rfl⟩ ⟨Nat.le_of_ble_eq_true rfl, Nat.le_of_ble_eq_true rfl⟩ hl.1 rfl (Nat.le_of_ble_eq_true rfl) dL_law_302 ⟨rm_c hce (by omega), rm_s hsl (by omega)⟩) C0 hP hS (fun v302 c302 H locs hp hP hS => ?_)
  obtain ⟨⟨u302, hu302, rfl⟩, rfl⟩ := hp
  refine lv_iload hx hb dL_law_305 (lv_at hl 3 rfl) ?_
  refine lv_iconst (v := nI 1) hx hb dL_law_307 rfl ?_
  refine lv_iload hx hb dL_law_308 (lv_at hl 6 rfl) ?_
  refine lv_bipush (v := nI 12) hx hb dL_law_310 rfl ?_
  refine lv_ishr hx hb dL_law_312 ?_
  refine lv_bipush (v := nI 30) hx hb dL_law_313 rfl ?_
  refine k0_i (rn_L_18 (As := [.int ((x) >>> ((nI 12) &&& 31)), .int (nI 30)]) (rest := [.int (nI 1), .int (nI w), .int (nI u302), .int (nI i), .ref (ad 0)]) C0 (m_L_below l D cA N ad (c) ((x) >>> ((nI 12) &&& 31)) 30 (by omega) (by omega) _) hP hS rfl ⟨rfl, rfl⟩ ⟨Nat.le_of_ble_eq_true rfl, Nat.le_of_ble_eq_true rfl⟩ hl.1 rfl (Nat.le_of_ble_eq_true rfl) dL_law_315 ⟨rm_c hce (by omega), rm_s hsl (by omega)⟩) C0 hP hS (fun v315 c315 H locs hp hP hS => ?_)
  obtain ⟨⟨u315, hu315, rfl⟩, rfl⟩ := hp
  refine n_iadd hx hb dL_law_318 ?_
  refine k0_i (rn_L_42 (As := [.int (nI i), .int (nI u302), .int (nI w), .int (nI (1 + u315))]) (rest := []) (r := 0) C0 (m_X1_offerRow l D cA N ad (c) n i (sc i 0) (sc i 1) (sc i 2) (sc i 3) (sc i 4) (sc i 5) (st i) u302 w (1 + u315) (by omega) hI.fh hi (hI.hs i hi) ((hI.hok (by omega)) i hi) (by omega) hw1 hw9 (by omega) (by omega) _) hP hS (by omega) hI.fh.1 rfl ⟨rfl, rfl⟩ ⟨Nat.le_of_ble_eq_true rfl, Nat.le_of_ble_eq_true rfl⟩ hl.1 rfl (Nat.le_of_ble_eq_true rfl) dL_law_319 ⟨rm_c hce (by omega), rm_s hsl (by omega)⟩) C0 hP hS (fun v319 c319 H locs hp hP hS => ?_)
  obtain ⟨rfl, hc2⟩ := hp
  obtain ⟨sc2, st2, hI2, e1, e2, e3⟩ := ch_row (x := u302) (w := w) (many := 1 + u315) hI hi (by omega)
  rw [hc2] at hI2
  refine lv_istore (lv' := [(12, .int (nI (rwC (sc i 0) (sc i 1) w (sc i 2, sc i 3, sc i 4, sc i 5) (1 + u315)))), (10, .int (nI (sc i 5))), (9, .int (nI (sc i 4 + sc j 4))), (8, .int (nI (sc i 3 + sc j 3))), (7, .int (nI w)), (6, .int (nI j)), (5, .int (nI i)), (4, .int x), (0, .ref b), (1, .ref (ad 0)), (2, .int (nI n)), (3, .int (nI tm))]) hx hb dL_law_322 hl (by decide) rfl (fun ls hl => ?_)
  refine lv_aload_n hx hb dL_law_324 rfl (lv_at hl 9 rfl) ?_
  refine lv_iload hx hb dL_law_325 (lv_at hl 6 rfl) ?_
  refine k0_i (rn_L_33 (As := [.int (nI i)]) (rest := []) (r := 0) C0 (m_X1_holds l D cA N ad (c319) n i (sc2 i 0) (sc2 i 1) (sc2 i 2) (sc2 i 3) (sc2 i 4) (sc2 i 5) (st2 i) (by omega) hI2.fh hi (hI2.hs i hi) ((hI2.hok (by omega)) i hi) _) hP hS (by omega) hI2.fh.1 rfl ⟨rfl, rfl⟩ ⟨Nat.le_of_ble_eq_true rfl, Nat.le_of_ble_eq_true rfl⟩ hl.1 rfl (Nat.le_of_ble_eq_true rfl) dL_law_327 ⟨rm_c hce (by omega), rm_s hsl (by omega)⟩) C0 hP hS (fun v327 c327 H locs hp hP hS => ?_)
  obtain ⟨rfl, rfl⟩ := hp
  refine lv_iload hx hb dL_law_330 (lv_at hl 1 rfl) ?_
  refine n_icmp_lt (tgt := 349) hx hb (by omega) (by omega) dL_law_332 (by decide) (fun h332 => ?_) (fun h332 => ?_)
  · exfalso; omega
  refine lv_aload_n hx hb dL_law_335 rfl (lv_at hl 9 rfl) ?_
  refine lv_iload hx hb dL_law_336 (lv_at hl 6 rfl) ?_
  refine k0_i (rn_L_33 (As := [.int (nI i)]) (rest := []) (r := 0) C0 (m_X1_holds l D cA N ad (c319) n i (sc2 i 0) (sc2 i 1) (sc2 i 2) (sc2 i 3) (sc2 i 4) (sc2 i 5) (st2 i) (by omega) hI2.fh hi (hI2.hs i hi) ((hI2.hok (by omega)) i hi) _) hP hS (by omega) hI2.fh.1 rfl ⟨rfl, rfl⟩ ⟨Nat.le_of_ble_eq_true rfl, Nat.le_of_ble_eq_true rfl⟩ hl.1 rfl (Nat.le_of_ble_eq_true rfl) dL_law_338 ⟨rm_c hce (by omega), rm_s hsl (by omega)⟩) C0 hP hS (fun v338 c338 H locs hp hP hS => ?_)
  obtain ⟨rfl, rfl⟩ := hp
  refine lv_iload hx hb dL_law_341 (lv_at hl 1 rfl) ?_
  refine n_isub hx hb (by omega) dL_law_343 ?_
  refine lv_iload hx hb dL_law_344 (lv_at hl 0 rfl) ?_
  refine n_icmp_le (tgt := 543) hx hb (by omega) (by omega) dL_law_346 (by decide) (fun h346 => ?_) (fun h346 => ?_)
  rotate_left
  · exfalso; omega
  exact W.widen (k := cells + 1) (n := slots + 6) (by omega) (by omega) (hT (c319) sc2 st2 hI2 _ _ _ hP hS (lv_sub hl [8, 9, 10, 11] rfl))
set_option maxHeartbeats 2000000 in
set_option maxRecDepth 10000 in
theorem lc_mix {p : Program} {e : Env} {s : State} {m : MethodId} {below : List Frame} {meth : Method} {c0 : Code} {Q : State → Prop} (l : Launch) (hfl : l.stackTraces = false) (D : va_G) (cA : Nat → ClassId) (N : Nat) (ad : Nat → Nat) (c : Nat → va_E) (b n : Nat) (sc : Nat → Nat → Nat) (st : Nat → Nat → Nat → Int32) (B tm i j w cells slots : Nat) (x : Int32) (C0 : Cx p s m c0 cL_law 17 RL D cA N ad (fun q => s.heap.size ≤ q)) (hI : Inv ad cA c N n sc st B) (hB : B ≤ 100000) (hi : i < n) (hj : j < n) (hw1 : 1 ≤ w) (hw9 : w ≤ 9) (hce : cells + 1 ≤ 600104) (hsl : slots + 6 ≤ 7301314) (hT : LTail p l e s m below meth c0 Q D cA N ad b n cells slots tm B) {H : Heap} {locs : List Loc} {ls : Array Slot} (hP : va_P D vwCl (wl N ad c) H) (hS : va_S (fun q => s.heap.size ≤ q) s.heap H locs) (hl : lv_has ls 17 [(10, .int (nI (sc i 5))), (9, .int (nI (sc i 4 + sc j 4))), (8, .int (nI (sc i 3 + sc j 3))), (7, .int (nI w)), (6, .int (nI j)), (5, .int (nI i)), (4, .int x), (0, .ref b), (1, .ref (ad 0)), (2, .int (nI n)), (3, .int (nI tm))]) : W p l e room_1 s m #[Value.ref b] below meth c0 H locs cells slots Q (F0 m 351 ls []) := by
  have hx := C0.1
  have hb := C0.2.1
  have hN := hI.hN
  have hn5 := hI.n5
  obtain ⟨a1, a2, a3, a4, a5, a6, a7, a8, a9⟩ := (hI.hok (by omega)) i hi
  obtain ⟨b1, b2, b3, b4, b5, b6, b7, b8, b9⟩ := (hI.hok (by omega)) j hj
  refine lv_aload_n hx hb dL_law_351 rfl (lv_at hl 8 rfl) ?_
  refine lv_iload hx hb dL_law_352 (lv_at hl 5 rfl) ?_
  refine k0_i (rn_L_46 (As := [.int (nI i)]) (rest := []) (r := 0) C0 (m_X1_sum l D cA N ad (c) n i (sc i 0) (sc i 1) (sc i 2) (sc i 3) (sc i 4) (sc i 5) (st i) (by omega) hI.fh hi (hI.hs i hi) ((hI.hok (by omega)) i hi) _) hP hS (by omega) hI.fh.1 rfl ⟨rfl, rfl⟩ ⟨Nat.le_of_ble_eq_true rfl, Nat.le_of_ble_eq_true rfl⟩ hl.1 rfl (Nat.le_of_ble_eq_true rfl) dL_law_354 ⟨rm_c hce (by omega), rm_s hsl (by omega)⟩) C0 hP hS (fun v354 c354 H locs hp hP hS => ?_)
  obtain ⟨rfl, rfl⟩ := hp
  refine lv_istore (lv' := [(13, .int (tot (st i 0) (sc i 5))), (10, .int (nI (sc i 5))), (9, .int (nI (sc i 4 + sc j 4))), (8, .int (nI (sc i 3 + sc j 3))), (7, .int (nI w)), (6, .int (nI j)), (5, .int (nI i)), (4, .int x), (0, .ref b), (1, .ref (ad 0)), (2, .int (nI n)), (3, .int (nI tm))]) hx hb dL_law_357 hl (by decide) rfl (fun ls hl => ?_)
  refine lv_aload_n hx hb dL_law_359 rfl (lv_at hl 9 rfl) ?_
  refine lv_iload hx hb dL_law_360 (lv_at hl 6 rfl) ?_
  refine k0_i (rn_L_49 (As := [.int (nI i)]) (rest := []) (r := 0) C0 (m_X1_mix l D cA N ad (c) n i (sc i 0) (sc i 1) (sc i 2) (sc i 3) (sc i 4) (sc i 5) (st i) (by omega) hI.fh hi (hI.hs i hi) ((hI.hok (by omega)) i hi) _) hP hS (by omega) hI.fh.1 rfl ⟨rfl, rfl⟩ ⟨Nat.le_of_ble_eq_true rfl, Nat.le_of_ble_eq_true rfl⟩ hl.1 rfl (Nat.le_of_ble_eq_true rfl) dL_law_362 ⟨rm_c hce (by omega), rm_s hsl (by omega)⟩) C0 hP hS (fun v362 c362 H locs hp hP hS => ?_)
  obtain ⟨rfl, hc2⟩ := hp
  obtain ⟨sc2, st2, hI2, e1, e2, e3⟩ := ch_mix hI hi
  rw [hc2] at hI2
  refine lv_iconst (v := nI 0) hx hb dL_law_365 rfl ?_
  refine lv_iload hx hb dL_law_366 (lv_at hl 1 rfl) ?_
  refine lv_iconst (v := nI 1) hx hb dL_law_368 rfl ?_
  refine lv_isub hx hb dL_law_369 ?_
  refine va_mmax hx hb (C0.2.2.1.trans hl.1.symm) C0.2.2.2.1 (wd_ml_L_52 C0.2.2.2.2.1 _) (wd_st_J9_max C0.2.2.2.2.1 _) (wd_ini_J9 C0.2.2.2.2.1 _) (wd_code_J9_max C0.2.2.2.2.1 _) (Nat.le_of_ble_eq_true rfl) (Nat.le_of_ble_eq_true rfl) (by have := rm_c (x := cells) (y := 0) hce (by omega); omega) (by have := rm_s (x := slots) (y := 0) hsl (by omega); omega) dL_law_370 ?_
  rw [max_less (by omega)]
  refine n_icmp_gt (tgt := 398) hx hb (by omega) (by omega) dL_law_373 (by decide) (fun h373 => ?_) (fun h373 => ?_)
  · exfalso; omega
  refine lv_aload_n hx hb dL_law_376 rfl (lv_at hl 9 rfl) ?_
  refine lv_iload hx hb dL_law_377 (lv_at hl 6 rfl) ?_
  refine k0_i (rn_L_46 (As := [.int (nI i)]) (rest := []) (r := 0) C0 (m_X1_sum l D cA N ad (c362) n i (sc2 i 0) (sc2 i 1) (sc2 i 2) (sc2 i 3) (sc2 i 4) (sc2 i 5) (st2 i) (by omega) hI2.fh hi (hI2.hs i hi) ((hI2.hok (by omega)) i hi) _) hP hS (by omega) hI2.fh.1 rfl ⟨rfl, rfl⟩ ⟨Nat.le_of_ble_eq_true rfl, Nat.le_of_ble_eq_true rfl⟩ hl.1 rfl (Nat.le_of_ble_eq_true rfl) dL_law_379 ⟨rm_c hce (by omega), rm_s hsl (by omega)⟩) C0 hP hS (fun v379 c379 H locs hp hP hS => ?_)
  obtain ⟨rfl, rfl⟩ := hp
  refine lv_iload hx hb dL_law_382 (lv_at hl 0 rfl) ?_
  refine lv_icmp_ne (tgt := 398) hx hb dL_law_384 (by decide) (fun h384 => ?_) (fun h384 => ?_)
  · exact absurd e2 h384
  refine lv_aload_n hx hb dL_law_387 rfl (lv_at hl 9 rfl) ?_
  refine lv_iload hx hb dL_law_388 (lv_at hl 6 rfl) ?_
  refine k0_i (rn_L_33 (As := [.int (nI i)]) (rest := []) (r := 0) C0 (m_X1_holds l D cA N ad (c362) n i (sc2 i 0) (sc2 i 1) (sc2 i 2) (sc2 i 3) (sc2 i 4) (sc2 i 5) (st2 i) (by omega) hI2.fh hi (hI2.hs i hi) ((hI2.hok (by omega)) i hi) _) hP hS (by omega) hI2.fh.1 rfl ⟨rfl, rfl⟩ ⟨Nat.le_of_ble_eq_true rfl, Nat.le_of_ble_eq_true rfl⟩ hl.1 rfl (Nat.le_of_ble_eq_true rfl) dL_law_390 ⟨rm_c hce (by omega), rm_s hsl (by omega)⟩) C0 hP hS (fun v390 c390 H locs hp hP hS => ?_)
  obtain ⟨rfl, rfl⟩ := hp
  refine lv_iload hx hb dL_law_393 (lv_at hl 1 rfl) ?_
  refine n_icmp_eq (tgt := 543) hx hb (by omega) (by omega) dL_law_395 (by decide) (fun h395 => ?_) (fun h395 => ?_)
  rotate_left
  · exfalso; omega
  exact W.widen (k := cells + 1) (n := slots + 6) (by omega) (by omega) (hT (c362) sc2 st2 hI2 _ _ _ hP hS (lv_sub hl [8, 9, 10, 11] rfl))
set_option maxHeartbeats 2000000 in
set_option maxRecDepth 10000 in
theorem lc_luck {p : Program} {e : Env} {s : State} {m : MethodId} {below : List Frame} {meth : Method} {c0 : Code} {Q : State → Prop} (l : Launch) (hfl : l.stackTraces = false) (D : va_G) (cA : Nat → ClassId) (N : Nat) (ad : Nat → Nat) (c : Nat → va_E) (b n : Nat) (sc : Nat → Nat → Nat) (st : Nat → Nat → Nat → Int32) (B tm i j w cells slots : Nat) (x : Int32) (C0 : Cx p s m c0 cL_law 17 RL D cA N ad (fun q => s.heap.size ≤ q)) (hI : Inv ad cA c N n sc st B) (hB : B ≤ 100000) (hi : i < n) (hj : j < n) (hw1 : 1 ≤ w) (hw9 : w ≤ 9) (hce : cells + 1 ≤ 600104) (hsl : slots + 6 ≤ 7301314) (hT : LTail p l e s m below meth c0 Q D cA N ad b n cells slots tm B) {H : Heap} {locs : List Loc} {ls : Array Slot} (hP : va_P D vwCl (wl N ad c) H) (hS : va_S (fun q => s.heap.size ≤ q) s.heap H locs) (hl : lv_has ls 17 [(10, .int (nI (sc i 5))), (9, .int (nI (sc i 4 + sc j 4))), (8, .int (nI (sc i 3 + sc j 3))), (7, .int (nI w)), (6, .int (nI j)), (5, .int (nI i)), (4, .int x), (0, .ref b), (1, .ref (ad 0)), (2, .int (nI n)), (3, .int (nI tm))]) : W p l e room_1 s m #[Value.ref b] below meth c0 H locs cells slots Q (F0 m 525 ls []) := by
  have hx := C0.1
  have hb := C0.2.1
  have hN := hI.hN
  have hn5 := hI.n5
  obtain ⟨a1, a2, a3, a4, a5, a6, a7, a8, a9⟩ := (hI.hok (by omega)) i hi
  obtain ⟨b1, b2, b3, b4, b5, b6, b7, b8, b9⟩ := (hI.hok (by omega)) j hj
  refine lv_aload_n hx hb dL_law_525 rfl (lv_at hl 8 rfl) ?_
  refine lv_iload hx hb dL_law_526 (lv_at hl 5 rfl) ?_
  refine lv_iload hx hb dL_law_528 (lv_at hl 6 rfl) ?_
  refine lv_bipush (v := nI 7) hx hb dL_law_530 rfl ?_
  refine lv_ishr hx hb dL_law_532 ?_
  refine lv_sipush (v := nI 10000) hx hb dL_law_533 rfl ?_
  refine k0_i (rn_L_18 (As := [.int ((x) >>> ((nI 7) &&& 31)), .int (nI 10000)]) (rest := [.int (nI i), .ref (ad 0)]) C0 (m_L_below l D cA N ad (c) ((x) >>> ((nI 7) &&& 31)) 10000 (by omega) (by omega) _) hP hS rfl ⟨rfl, rfl⟩ ⟨Nat.le_of_ble_eq_true rfl, Nat.le_of_ble_eq_true rfl⟩ hl.1 rfl (Nat.le_of_ble_eq_true rfl) dL_law_536 ⟨rm_c hce (by omega), rm_s hsl (by omega)⟩) C0 hP hS (fun v536 c536 H locs hp hP hS => ?_)
  obtain ⟨⟨u536, hu536, rfl⟩, rfl⟩ := hp
  refine k0_i (rn_L_70 (As := [.int (nI i), .int (nI u536)]) (rest := []) (r := 0) C0 (m_X1_setLuck l D cA N ad (c) n i (sc i 0) (sc i 1) (sc i 2) (sc i 3) (sc i 4) (sc i 5) (st i) u536 (by omega) hI.fh hi (hI.hs i hi) ((hI.hok (by omega)) i hi) (by omega) _) hP hS (by omega) hI.fh.1 rfl ⟨rfl, rfl⟩ ⟨Nat.le_of_ble_eq_true rfl, Nat.le_of_ble_eq_true rfl⟩ hl.1 rfl (Nat.le_of_ble_eq_true rfl) dL_law_539 ⟨rm_c hce (by omega), rm_s hsl (by omega)⟩) C0 hP hS (fun v539 c539 H locs hp hP hS => ?_)
  obtain ⟨rfl, hc2⟩ := hp
  obtain ⟨sc2, st2, hI2⟩ := ch_luck (y := u536) hI hi (by omega)
  rw [hc2] at hI2
  refine lv_pop hx hb dL_law_542 rfl ?_
  exact W.widen (k := cells + 1) (n := slots + 6) (by omega) (by omega) (hT (c539) sc2 st2 hI2 _ _ _ hP hS (lv_sub hl [7, 8, 9, 10] rfl))
set_option maxHeartbeats 2000000 in
set_option maxRecDepth 10000 in
theorem lc_join__a {p : Program} {e : Env} {s : State} {m : MethodId} {below : List Frame} {meth : Method} {c0 : Code} {Q : State → Prop} (l : Launch) (hfl : l.stackTraces = false) (D : va_G) (cA : Nat → ClassId) (N : Nat) (ad : Nat → Nat) (c : Nat → va_E) (b n : Nat) (sc : Nat → Nat → Nat) (st : Nat → Nat → Nat → Int32) (B tm i j w cells slots : Nat) (x : Int32) (C0 : Cx p s m c0 cL_law 17 RL D cA N ad (fun q => s.heap.size ≤ q)) (hI : Inv ad cA c N n sc st B) (hB : B ≤ 100000) (hi : i < n) (hj : j < n) (hw1 : 1 ≤ w) (hw9 : w ≤ 9) (hce : cells + 1 ≤ 600104) (hsl : slots + 6 ≤ 7301314) (hT : LTail p l e s m below meth c0 Q D cA N ad b n cells slots tm B) (hij : i = j) (hno : ¬ (i ≠ j ∧ CanJ sc i j)) {H : Heap} {locs : List Loc} {ls : Array Slot} (hP : va_P D vwCl (wl N ad c) H) (hS : va_S (fun q => s.heap.size ≤ q) s.heap H locs) (hl : lv_has ls 17 [(10, .int (nI (sc i 5))), (9, .int (nI (sc i 4 + sc j 4))), (8, .int (nI (sc i 3 + sc j 3))), (7, .int (nI w)), (6, .int (nI j)), (5, .int (nI i)), (4, .int x), (0, .ref b), (1, .ref (ad 0)), (2, .int (nI n)), (3, .int (nI tm))]) : W p l e room_1 s m #[Value.ref b] below meth c0 H locs cells slots Q (F0 m 400 ls []) := by
  have hx := C0.1
  have hb := C0.2.1
  have hN := hI.hN
  have hn5 := hI.n5
  obtain ⟨a1, a2, a3, a4, a5, a6, a7, a8, a9⟩ := (hI.hok (by omega)) i hi
  obtain ⟨b1, b2, b3, b4, b5, b6, b7, b8, b9⟩ := (hI.hok (by omega)) j hj
  refine lv_aload_n hx hb dL_law_400 rfl (lv_at hl 8 rfl) ?_
  refine lv_iload hx hb dL_law_401 (lv_at hl 5 rfl) ?_
  refine lv_iload hx hb dL_law_403 (lv_at hl 4 rfl) ?_
  refine k0_i (rn_L_57 (As := [.int (nI i), .int (nI j)]) (rest := []) (r := 0) C0 (m_X1_wouldJoin l D cA N ad (c) n i j sc st (by omega) hI.fh hI.tr hI.hs (hI.hok (by omega)) C0.inj hi hj _) hP hS (by omega) hI.fh.1 rfl ⟨rfl, rfl⟩ ⟨Nat.le_of_ble_eq_true rfl, Nat.le_of_ble_eq_true rfl⟩ hl.1 rfl (Nat.le_of_ble_eq_true rfl) dL_law_405 ⟨rm_c hce (by omega), rm_s hsl (by omega)⟩) C0 hP hS (fun v405 c405 H locs hp hP hS => ?_)
  obtain ⟨hvj, t1⟩ := hp
  obtain rfl : v405 = -1 := by
    rcases hvj with ⟨_, h⟩ | ⟨h1, h2, _⟩
    · exact h
    · exact absurd ⟨h1, h2⟩ hno
  have hI := hI.trial t1
  refine lv_istore (lv' := [(14, .int ((-1))), (10, .int (nI (sc i 5))), (9, .int (nI (sc i 4 + sc j 4))), (8, .int (nI (sc i 3 + sc j 3))), (7, .int (nI w)), (6, .int (nI j)), (5, .int (nI i)), (4, .int x), (0, .ref b), (1, .ref (ad 0)), (2, .int (nI n)), (3, .int (nI tm))]) hx hb dL_law_408 hl (by decide) rfl (fun ls hl => ?_)
  refine lv_aload_n hx hb dL_law_410 rfl (lv_at hl 9 rfl) ?_
  refine lv_iload hx hb dL_law_411 (lv_at hl 6 rfl) ?_
  refine k0_i (rn_L_60 (As := [.int (nI i)]) (rest := []) (r := 0) C0 (m_X1_roomOf l D cA N ad (c405) n i (sc i 0) (sc i 1) (sc i 2) (sc i 3) (sc i 4) (sc i 5) (st i) (by omega) hI.fh hi (hI.hs i hi) ((hI.hok (by omega)) i hi) _) hP hS (by omega) hI.fh.1 rfl ⟨rfl, rfl⟩ ⟨Nat.le_of_ble_eq_true rfl, Nat.le_of_ble_eq_true rfl⟩ hl.1 rfl (Nat.le_of_ble_eq_true rfl) dL_law_413 ⟨rm_c hce (by omega), rm_s hsl (by omega)⟩) C0 hP hS (fun v413 c413 H locs hp hP hS => ?_)
  obtain ⟨rfl, rfl⟩ := hp
  refine lv_aload_n hx hb dL_law_416 rfl (lv_at hl 9 rfl) ?_
  refine lv_iload hx hb dL_law_417 (lv_at hl 6 rfl) ?_
  refine k0_i (rn_L_33 (As := [.int (nI i)]) (rest := [.int (nI (sc i 0))]) (r := 0) C0 (m_X1_holds l D cA N ad (c405) n i (sc i 0) (sc i 1) (sc i 2) (sc i 3) (sc i 4) (sc i 5) (st i) (by omega) hI.fh hi (hI.hs i hi) ((hI.hok (by omega)) i hi) _) hP hS (by omega) hI.fh.1 rfl ⟨rfl, rfl⟩ ⟨Nat.le_of_ble_eq_true rfl, Nat.le_of_ble_eq_true rfl⟩ hl.1 rfl (Nat.le_of_ble_eq_true rfl) dL_law_419 ⟨rm_c hce (by omega), rm_s hsl (by omega)⟩) C0 hP hS (fun v419 c419 H locs hp hP hS => ?_)
  obtain ⟨rfl, rfl⟩ := hp
  refine lv_aload_n hx hb dL_law_422 rfl (lv_at hl 9 rfl) ?_
  refine lv_iload hx hb dL_law_423 (lv_at hl 5 rfl) ?_
  refine k0_i (rn_L_33 (As := [.int (nI j)]) (rest := [.int (nI (sc i 5)), .int (nI (sc i 0))]) (r := 0) C0 (m_X1_holds l D cA N ad (c405) n j (sc j 0) (sc j 1) (sc j 2) (sc j 3) (sc j 4) (sc j 5) (st j) (by omega) hI.fh hj (hI.hs j hj) ((hI.hok (by omega)) j hj) _) hP hS (by omega) hI.fh.1 rfl ⟨rfl, rfl⟩ ⟨Nat.le_of_ble_eq_true rfl, Nat.le_of_ble_eq_true rfl⟩ hl.1 rfl (Nat.le_of_ble_eq_true rfl) dL_law_425 ⟨rm_c hce (by omega), rm_s hsl (by omega)⟩) C0 hP hS (fun v425 c425 H locs hp hP hS => ?_)
  obtain ⟨rfl, rfl⟩ := hp
  refine n_iadd hx hb dL_law_428 ?_
  refine va_mmin hx hb (C0.2.2.1.trans hl.1.symm) C0.2.2.2.1 (wd_ml_L_63 C0.2.2.2.2.1 _) (wd_st_J9_min C0.2.2.2.2.1 _) (wd_ini_J9 C0.2.2.2.2.1 _) (wd_code_J9_min C0.2.2.2.2.1 _) (Nat.le_of_ble_eq_true rfl) (Nat.le_of_ble_eq_true rfl) (by have := rm_c (x := cells) (y := 0) hce (by omega); omega) (by have := rm_s (x := slots) (y := 0) hsl (by omega); omega) dL_law_429 ?_
  rw [min_is (by omega) (by omega)]
  refine lv_istore (lv' := [(15, .int (nI (min (sc i 0) (sc i 5 + sc j 5)))), (14, .int ((-1))), (10, .int (nI (sc i 5))), (9, .int (nI (sc i 4 + sc j 4))), (8, .int (nI (sc i 3 + sc j 3))), (7, .int (nI w)), (6, .int (nI j)), (5, .int (nI i)), (4, .int x), (0, .ref b), (1, .ref (ad 0)), (2, .int (nI n)), (3, .int (nI tm))]) hx hb dL_law_432 hl (by decide) rfl (fun ls hl => ?_)
  refine lv_aload_n hx hb dL_law_434 rfl (lv_at hl 10 rfl) ?_
  refine lv_iload hx hb dL_law_435 (lv_at hl 7 rfl) ?_
  refine lv_iload hx hb dL_law_437 (lv_at hl 6 rfl) ?_
  refine k_i (rn_L_66 (As := [.ref (ad 0), .int (nI i), .int (nI j)]) (rest := []) C0 (w_L_joined__a l D cA N ad (c405) (nI i) (nI j) (by omega) hI.fh.1 (by rw [← hij]; exact t_X1_join__a l D cA N ad (c405) hfl n i (sc i 0) (sc i 1) (sc i 2) (sc i 3) (sc i 4) (sc i 5) (st i) (by omega) hI.fh hi (hI.hs i hi) ((hI.hok (by omega)) i hi)) _) hP hS rfl ⟨rfl, rfl⟩ ⟨Nat.le_of_ble_eq_true rfl, Nat.le_of_ble_eq_true rfl⟩ hl.1 rfl (Nat.le_of_ble_eq_true rfl) dL_law_439 ⟨rm_c hce (by omega), rm_s hsl (by omega)⟩) C0 hP hS (fun v439 c439 H locs hp hP hS => ?_)
  obtain ⟨rfl, rfl⟩ := hp
  refine lv_istore (lv' := [(16, .int ((-1))), (15, .int (nI (min (sc i 0) (sc i 5 + sc j 5)))), (14, .int ((-1))), (10, .int (nI (sc i 5))), (9, .int (nI (sc i 4 + sc j 4))), (8, .int (nI (sc i 3 + sc j 3))), (7, .int (nI w)), (6, .int (nI j)), (5, .int (nI i)), (4, .int x), (0, .ref b), (1, .ref (ad 0)), (2, .int (nI n)), (3, .int (nI tm))]) hx hb dL_law_442 hl (by decide) rfl (fun ls hl => ?_)
  refine lv_iload hx hb dL_law_444 (lv_at hl 0 rfl) ?_
  refine lv_iload hx hb dL_law_446 (lv_at hl 2 rfl) ?_
  refine lv_icmp_ne (tgt := 523) hx hb dL_law_448 (by decide) (fun h448 => ?_) (fun h448 => ?_)
  · exact absurd rfl h448
  refine lv_iload hx hb dL_law_451 (lv_at hl 0 rfl) ?_
  refine lv_if_lt (tgt := 543) hx hb dL_law_453 (by decide) (fun h453 => ?_) (fun h453 => ?_)
  rotate_left
  · exact absurd (by decide) h453
  exact W.widen (k := cells + 1) (n := slots + 6) (by omega) (by omega) (hT (c405) sc st (hI.up (by omega)) _ _ _ hP hS (lv_sub hl [10, 11, 12, 13] rfl))
set_option maxHeartbeats 2000000 in
set_option maxRecDepth 10000 in
theorem lc_join__s {p : Program} {e : Env} {s : State} {m : MethodId} {below : List Frame} {meth : Method} {c0 : Code} {Q : State → Prop} (l : Launch) (hfl : l.stackTraces = false) (D : va_G) (cA : Nat → ClassId) (N : Nat) (ad : Nat → Nat) (c : Nat → va_E) (b n : Nat) (sc : Nat → Nat → Nat) (st : Nat → Nat → Nat → Int32) (B tm i j w cells slots : Nat) (x : Int32) (C0 : Cx p s m c0 cL_law 17 RL D cA N ad (fun q => s.heap.size ≤ q)) (hI : Inv ad cA c N n sc st B) (hB : B ≤ 100000) (hi : i < n) (hj : j < n) (hw1 : 1 ≤ w) (hw9 : w ≤ 9) (hce : cells + 1 ≤ 600104) (hsl : slots + 6 ≤ 7301314) (hT : LTail p l e s m below meth c0 Q D cA N ad b n cells slots tm B) (hijA : ad (6 + 4 * i) ≠ ad (6 + 4 * j)) (hna : ¬ (sc i 1 = 0 ∧ sc j 1 = 0 ∧ sc i 0 = sc j 0)) (hno : ¬ (i ≠ j ∧ CanJ sc i j)) {H : Heap} {locs : List Loc} {ls : Array Slot} (hP : va_P D vwCl (wl N ad c) H) (hS : va_S (fun q => s.heap.size ≤ q) s.heap H locs) (hl : lv_has ls 17 [(10, .int (nI (sc i 5))), (9, .int (nI (sc i 4 + sc j 4))), (8, .int (nI (sc i 3 + sc j 3))), (7, .int (nI w)), (6, .int (nI j)), (5, .int (nI i)), (4, .int x), (0, .ref b), (1, .ref (ad 0)), (2, .int (nI n)), (3, .int (nI tm))]) : W p l e room_1 s m #[Value.ref b] below meth c0 H locs cells slots Q (F0 m 400 ls []) := by
  have hx := C0.1
  have hb := C0.2.1
  have hN := hI.hN
  have hn5 := hI.n5
  obtain ⟨a1, a2, a3, a4, a5, a6, a7, a8, a9⟩ := (hI.hok (by omega)) i hi
  obtain ⟨b1, b2, b3, b4, b5, b6, b7, b8, b9⟩ := (hI.hok (by omega)) j hj
  refine lv_aload_n hx hb dL_law_400 rfl (lv_at hl 8 rfl) ?_
  refine lv_iload hx hb dL_law_401 (lv_at hl 5 rfl) ?_
  refine lv_iload hx hb dL_law_403 (lv_at hl 4 rfl) ?_
  refine k0_i (rn_L_57 (As := [.int (nI i), .int (nI j)]) (rest := []) (r := 0) C0 (m_X1_wouldJoin l D cA N ad (c) n i j sc st (by omega) hI.fh hI.tr hI.hs (hI.hok (by omega)) C0.inj hi hj _) hP hS (by omega) hI.fh.1 rfl ⟨rfl, rfl⟩ ⟨Nat.le_of_ble_eq_true rfl, Nat.le_of_ble_eq_true rfl⟩ hl.1 rfl (Nat.le_of_ble_eq_true rfl) dL_law_405 ⟨rm_c hce (by omega), rm_s hsl (by omega)⟩) C0 hP hS (fun v405 c405 H locs hp hP hS => ?_)
  obtain ⟨hvj, t1⟩ := hp
  obtain rfl : v405 = -1 := by
    rcases hvj with ⟨_, h⟩ | ⟨h1, h2, _⟩
    · exact h
    · exact absurd ⟨h1, h2⟩ hno
  have hI := hI.trial t1
  refine lv_istore (lv' := [(14, .int ((-1))), (10, .int (nI (sc i 5))), (9, .int (nI (sc i 4 + sc j 4))), (8, .int (nI (sc i 3 + sc j 3))), (7, .int (nI w)), (6, .int (nI j)), (5, .int (nI i)), (4, .int x), (0, .ref b), (1, .ref (ad 0)), (2, .int (nI n)), (3, .int (nI tm))]) hx hb dL_law_408 hl (by decide) rfl (fun ls hl => ?_)
  refine lv_aload_n hx hb dL_law_410 rfl (lv_at hl 9 rfl) ?_
  refine lv_iload hx hb dL_law_411 (lv_at hl 6 rfl) ?_
  refine k0_i (rn_L_60 (As := [.int (nI i)]) (rest := []) (r := 0) C0 (m_X1_roomOf l D cA N ad (c405) n i (sc i 0) (sc i 1) (sc i 2) (sc i 3) (sc i 4) (sc i 5) (st i) (by omega) hI.fh hi (hI.hs i hi) ((hI.hok (by omega)) i hi) _) hP hS (by omega) hI.fh.1 rfl ⟨rfl, rfl⟩ ⟨Nat.le_of_ble_eq_true rfl, Nat.le_of_ble_eq_true rfl⟩ hl.1 rfl (Nat.le_of_ble_eq_true rfl) dL_law_413 ⟨rm_c hce (by omega), rm_s hsl (by omega)⟩) C0 hP hS (fun v413 c413 H locs hp hP hS => ?_)
  obtain ⟨rfl, rfl⟩ := hp
  refine lv_aload_n hx hb dL_law_416 rfl (lv_at hl 9 rfl) ?_
  refine lv_iload hx hb dL_law_417 (lv_at hl 6 rfl) ?_
  refine k0_i (rn_L_33 (As := [.int (nI i)]) (rest := [.int (nI (sc i 0))]) (r := 0) C0 (m_X1_holds l D cA N ad (c405) n i (sc i 0) (sc i 1) (sc i 2) (sc i 3) (sc i 4) (sc i 5) (st i) (by omega) hI.fh hi (hI.hs i hi) ((hI.hok (by omega)) i hi) _) hP hS (by omega) hI.fh.1 rfl ⟨rfl, rfl⟩ ⟨Nat.le_of_ble_eq_true rfl, Nat.le_of_ble_eq_true rfl⟩ hl.1 rfl (Nat.le_of_ble_eq_true rfl) dL_law_419 ⟨rm_c hce (by omega), rm_s hsl (by omega)⟩) C0 hP hS (fun v419 c419 H locs hp hP hS => ?_)
  obtain ⟨rfl, rfl⟩ := hp
  refine lv_aload_n hx hb dL_law_422 rfl (lv_at hl 9 rfl) ?_
  refine lv_iload hx hb dL_law_423 (lv_at hl 5 rfl) ?_
  refine k0_i (rn_L_33 (As := [.int (nI j)]) (rest := [.int (nI (sc i 5)), .int (nI (sc i 0))]) (r := 0) C0 (m_X1_holds l D cA N ad (c405) n j (sc j 0) (sc j 1) (sc j 2) (sc j 3) (sc j 4) (sc j 5) (st j) (by omega) hI.fh hj (hI.hs j hj) ((hI.hok (by omega)) j hj) _) hP hS (by omega) hI.fh.1 rfl ⟨rfl, rfl⟩ ⟨Nat.le_of_ble_eq_true rfl, Nat.le_of_ble_eq_true rfl⟩ hl.1 rfl (Nat.le_of_ble_eq_true rfl) dL_law_425 ⟨rm_c hce (by omega), rm_s hsl (by omega)⟩) C0 hP hS (fun v425 c425 H locs hp hP hS => ?_)
  obtain ⟨rfl, rfl⟩ := hp
  refine n_iadd hx hb dL_law_428 ?_
  refine va_mmin hx hb (C0.2.2.1.trans hl.1.symm) C0.2.2.2.1 (wd_ml_L_63 C0.2.2.2.2.1 _) (wd_st_J9_min C0.2.2.2.2.1 _) (wd_ini_J9 C0.2.2.2.2.1 _) (wd_code_J9_min C0.2.2.2.2.1 _) (Nat.le_of_ble_eq_true rfl) (Nat.le_of_ble_eq_true rfl) (by have := rm_c (x := cells) (y := 0) hce (by omega); omega) (by have := rm_s (x := slots) (y := 0) hsl (by omega); omega) dL_law_429 ?_
  rw [min_is (by omega) (by omega)]
  refine lv_istore (lv' := [(15, .int (nI (min (sc i 0) (sc i 5 + sc j 5)))), (14, .int ((-1))), (10, .int (nI (sc i 5))), (9, .int (nI (sc i 4 + sc j 4))), (8, .int (nI (sc i 3 + sc j 3))), (7, .int (nI w)), (6, .int (nI j)), (5, .int (nI i)), (4, .int x), (0, .ref b), (1, .ref (ad 0)), (2, .int (nI n)), (3, .int (nI tm))]) hx hb dL_law_432 hl (by decide) rfl (fun ls hl => ?_)
  refine lv_aload_n hx hb dL_law_434 rfl (lv_at hl 10 rfl) ?_
  refine lv_iload hx hb dL_law_435 (lv_at hl 7 rfl) ?_
  refine lv_iload hx hb dL_law_437 (lv_at hl 6 rfl) ?_
  refine k_i (rn_L_66 (As := [.ref (ad 0), .int (nI i), .int (nI j)]) (rest := []) C0 (w_L_joined__s l D cA N ad (c405) (nI i) (nI j) (by omega) hI.fh.1 (t_X1_join__s l D cA N ad (c405) hfl n i (sc i 0) (sc i 1) (sc i 2) (sc i 3) (sc i 4) (sc i 5) (st i) j (sc j 0) (sc j 1) (sc j 2) (sc j 3) (sc j 4) (sc j 5) (st j) (by omega) hI.fh hi (hI.hs i hi) ((hI.hok (by omega)) i hi) hj (hI.hs j hj) ((hI.hok (by omega)) j hj) hijA hna) _) hP hS rfl ⟨rfl, rfl⟩ ⟨Nat.le_of_ble_eq_true rfl, Nat.le_of_ble_eq_true rfl⟩ hl.1 rfl (Nat.le_of_ble_eq_true rfl) dL_law_439 ⟨rm_c hce (by omega), rm_s hsl (by omega)⟩) C0 hP hS (fun v439 c439 H locs hp hP hS => ?_)
  obtain ⟨rfl, rfl⟩ := hp
  refine lv_istore (lv' := [(16, .int ((-1))), (15, .int (nI (min (sc i 0) (sc i 5 + sc j 5)))), (14, .int ((-1))), (10, .int (nI (sc i 5))), (9, .int (nI (sc i 4 + sc j 4))), (8, .int (nI (sc i 3 + sc j 3))), (7, .int (nI w)), (6, .int (nI j)), (5, .int (nI i)), (4, .int x), (0, .ref b), (1, .ref (ad 0)), (2, .int (nI n)), (3, .int (nI tm))]) hx hb dL_law_442 hl (by decide) rfl (fun ls hl => ?_)
  refine lv_iload hx hb dL_law_444 (lv_at hl 0 rfl) ?_
  refine lv_iload hx hb dL_law_446 (lv_at hl 2 rfl) ?_
  refine lv_icmp_ne (tgt := 523) hx hb dL_law_448 (by decide) (fun h448 => ?_) (fun h448 => ?_)
  · exact absurd rfl h448
  refine lv_iload hx hb dL_law_451 (lv_at hl 0 rfl) ?_
  refine lv_if_lt (tgt := 543) hx hb dL_law_453 (by decide) (fun h453 => ?_) (fun h453 => ?_)
  rotate_left
  · exact absurd (by decide) h453
  exact W.widen (k := cells + 1) (n := slots + 6) (by omega) (by omega) (hT (c405) sc st (hI.up (by omega)) _ _ _ hP hS (lv_sub hl [10, 11, 12, 13] rfl))
set_option maxHeartbeats 2000000 in
set_option maxRecDepth 10000 in
theorem lc_join__j {p : Program} {e : Env} {s : State} {m : MethodId} {below : List Frame} {meth : Method} {c0 : Code} {Q : State → Prop} (l : Launch) (hfl : l.stackTraces = false) (D : va_G) (cA : Nat → ClassId) (N : Nat) (ad : Nat → Nat) (c : Nat → va_E) (b n : Nat) (sc : Nat → Nat → Nat) (st : Nat → Nat → Nat → Int32) (B tm i j w cells slots : Nat) (x : Int32) (C0 : Cx p s m c0 cL_law 17 RL D cA N ad (fun q => s.heap.size ≤ q)) (hI : Inv ad cA c N n sc st B) (hB : B ≤ 100000) (hi : i < n) (hj : j < n) (hw1 : 1 ≤ w) (hw9 : w ≤ 9) (hce : cells + 1 ≤ 600104) (hsl : slots + 6 ≤ 7301314) (hT : LTail p l e s m below meth c0 Q D cA N ad b n cells slots tm B) (hijA : ad (6 + 4 * i) ≠ ad (6 + 4 * j)) (hij : i ≠ j) (hal : sc i 1 = 0 ∧ sc j 1 = 0 ∧ sc i 0 = sc j 0) {H : Heap} {locs : List Loc} {ls : Array Slot} (hP : va_P D vwCl (wl N ad c) H) (hS : va_S (fun q => s.heap.size ≤ q) s.heap H locs) (hl : lv_has ls 17 [(10, .int (nI (sc i 5))), (9, .int (nI (sc i 4 + sc j 4))), (8, .int (nI (sc i 3 + sc j 3))), (7, .int (nI w)), (6, .int (nI j)), (5, .int (nI i)), (4, .int x), (0, .ref b), (1, .ref (ad 0)), (2, .int (nI n)), (3, .int (nI tm))]) : W p l e room_1 s m #[Value.ref b] below meth c0 H locs cells slots Q (F0 m 400 ls []) := by
  have hx := C0.1
  have hb := C0.2.1
  have hN := hI.hN
  have hn5 := hI.n5
  obtain ⟨a1, a2, a3, a4, a5, a6, a7, a8, a9⟩ := (hI.hok (by omega)) i hi
  obtain ⟨b1, b2, b3, b4, b5, b6, b7, b8, b9⟩ := (hI.hok (by omega)) j hj
  refine lv_aload_n hx hb dL_law_400 rfl (lv_at hl 8 rfl) ?_
  refine lv_iload hx hb dL_law_401 (lv_at hl 5 rfl) ?_
  refine lv_iload hx hb dL_law_403 (lv_at hl 4 rfl) ?_
  refine k0_i (rn_L_57 (As := [.int (nI i), .int (nI j)]) (rest := []) (r := 0) C0 (m_X1_wouldJoin__j l D cA N ad (c) n i (sc i 0) (sc i 1) (sc i 2) (sc i 3) (sc i 4) (sc i 5) (st i) j (sc j 0) (sc j 1) (sc j 2) (sc j 3) (sc j 4) (sc j 5) (st j) (by omega) hI.fh hI.tr hi (hI.hs i hi) ((hI.hok (by omega)) i hi) hj (hI.hs j hj) ((hI.hok (by omega)) j hj) hijA hij hal _) hP hS (by omega) hI.fh.1 rfl ⟨rfl, rfl⟩ ⟨Nat.le_of_ble_eq_true rfl, Nat.le_of_ble_eq_true rfl⟩ hl.1 rfl (Nat.le_of_ble_eq_true rfl) dL_law_405 ⟨rm_c hce (by omega), rm_s hsl (by omega)⟩) C0 hP hS (fun v405 c405 H locs hp hP hS => ?_)
  obtain ⟨stt9, hv9, t1⟩ := hp
  have hvj : JoinP (sc i 0) (sc i 2) (sc i 3) (sc j 3) (sc i 5) (sc j 5) (st i) (st j) v405 := ⟨stt9, hv9⟩
  have hI := hI.trial t1
  refine lv_istore (lv' := [(14, .int v405), (10, .int (nI (sc i 5))), (9, .int (nI (sc i 4 + sc j 4))), (8, .int (nI (sc i 3 + sc j 3))), (7, .int (nI w)), (6, .int (nI j)), (5, .int (nI i)), (4, .int x), (0, .ref b), (1, .ref (ad 0)), (2, .int (nI n)), (3, .int (nI tm))]) hx hb dL_law_408 hl (by decide) rfl (fun ls hl => ?_)
  refine lv_aload_n hx hb dL_law_410 rfl (lv_at hl 9 rfl) ?_
  refine lv_iload hx hb dL_law_411 (lv_at hl 6 rfl) ?_
  refine k0_i (rn_L_60 (As := [.int (nI i)]) (rest := []) (r := 0) C0 (m_X1_roomOf l D cA N ad (c405) n i (sc i 0) (sc i 1) (sc i 2) (sc i 3) (sc i 4) (sc i 5) (st i) (by omega) hI.fh hi (hI.hs i hi) ((hI.hok (by omega)) i hi) _) hP hS (by omega) hI.fh.1 rfl ⟨rfl, rfl⟩ ⟨Nat.le_of_ble_eq_true rfl, Nat.le_of_ble_eq_true rfl⟩ hl.1 rfl (Nat.le_of_ble_eq_true rfl) dL_law_413 ⟨rm_c hce (by omega), rm_s hsl (by omega)⟩) C0 hP hS (fun v413 c413 H locs hp hP hS => ?_)
  obtain ⟨rfl, rfl⟩ := hp
  refine lv_aload_n hx hb dL_law_416 rfl (lv_at hl 9 rfl) ?_
  refine lv_iload hx hb dL_law_417 (lv_at hl 6 rfl) ?_
  refine k0_i (rn_L_33 (As := [.int (nI i)]) (rest := [.int (nI (sc i 0))]) (r := 0) C0 (m_X1_holds l D cA N ad (c405) n i (sc i 0) (sc i 1) (sc i 2) (sc i 3) (sc i 4) (sc i 5) (st i) (by omega) hI.fh hi (hI.hs i hi) ((hI.hok (by omega)) i hi) _) hP hS (by omega) hI.fh.1 rfl ⟨rfl, rfl⟩ ⟨Nat.le_of_ble_eq_true rfl, Nat.le_of_ble_eq_true rfl⟩ hl.1 rfl (Nat.le_of_ble_eq_true rfl) dL_law_419 ⟨rm_c hce (by omega), rm_s hsl (by omega)⟩) C0 hP hS (fun v419 c419 H locs hp hP hS => ?_)
  obtain ⟨rfl, rfl⟩ := hp
  refine lv_aload_n hx hb dL_law_422 rfl (lv_at hl 9 rfl) ?_
  refine lv_iload hx hb dL_law_423 (lv_at hl 5 rfl) ?_
  refine k0_i (rn_L_33 (As := [.int (nI j)]) (rest := [.int (nI (sc i 5)), .int (nI (sc i 0))]) (r := 0) C0 (m_X1_holds l D cA N ad (c405) n j (sc j 0) (sc j 1) (sc j 2) (sc j 3) (sc j 4) (sc j 5) (st j) (by omega) hI.fh hj (hI.hs j hj) ((hI.hok (by omega)) j hj) _) hP hS (by omega) hI.fh.1 rfl ⟨rfl, rfl⟩ ⟨Nat.le_of_ble_eq_true rfl, Nat.le_of_ble_eq_true rfl⟩ hl.1 rfl (Nat.le_of_ble_eq_true rfl) dL_law_425 ⟨rm_c hce (by omega), rm_s hsl (by omega)⟩) C0 hP hS (fun v425 c425 H locs hp hP hS => ?_)
  obtain ⟨rfl, rfl⟩ := hp
  refine n_iadd hx hb dL_law_428 ?_
  refine va_mmin hx hb (C0.2.2.1.trans hl.1.symm) C0.2.2.2.1 (wd_ml_L_63 C0.2.2.2.2.1 _) (wd_st_J9_min C0.2.2.2.2.1 _) (wd_ini_J9 C0.2.2.2.2.1 _) (wd_code_J9_min C0.2.2.2.2.1 _) (Nat.le_of_ble_eq_true rfl) (Nat.le_of_ble_eq_true rfl) (by have := rm_c (x := cells) (y := 0) hce (by omega); omega) (by have := rm_s (x := slots) (y := 0) hsl (by omega); omega) dL_law_429 ?_
  rw [min_is (by omega) (by omega)]
  refine lv_istore (lv' := [(15, .int (nI (min (sc i 0) (sc i 5 + sc j 5)))), (14, .int v405), (10, .int (nI (sc i 5))), (9, .int (nI (sc i 4 + sc j 4))), (8, .int (nI (sc i 3 + sc j 3))), (7, .int (nI w)), (6, .int (nI j)), (5, .int (nI i)), (4, .int x), (0, .ref b), (1, .ref (ad 0)), (2, .int (nI n)), (3, .int (nI tm))]) hx hb dL_law_432 hl (by decide) rfl (fun ls hl => ?_)
  refine lv_aload_n hx hb dL_law_434 rfl (lv_at hl 10 rfl) ?_
  refine lv_iload hx hb dL_law_435 (lv_at hl 7 rfl) ?_
  refine lv_iload hx hb dL_law_437 (lv_at hl 6 rfl) ?_
  refine k0_i (rn_L_66 (As := [.ref (ad 0), .int (nI i), .int (nI j)]) (rest := []) C0 (w_L_joined l D cA N ad (c405) (nI i) (nI j) (by omega) hI.fh.1 _ (m_X1_join l D cA N ad (c405) n i (sc i 0) (sc i 1) (sc i 2) (sc i 3) (sc i 4) (sc i 5) (st i) j (sc j 0) (sc j 1) (sc j 2) (sc j 3) (sc j 4) (sc j 5) (st j) (by omega) hI.fh hI.tr hi (hI.hs i hi) ((hI.hok (by omega)) i hi) hj (hI.hs j hj) ((hI.hok (by omega)) j hj) hijA hij hal) _) hP hS rfl ⟨rfl, rfl⟩ ⟨Nat.le_of_ble_eq_true rfl, Nat.le_of_ble_eq_true rfl⟩ hl.1 rfl (Nat.le_of_ble_eq_true rfl) dL_law_439 ⟨rm_c hce (by omega), rm_s hsl (by omega)⟩) C0 hP hS (fun v439 c439 H locs hp hP hS => ?_)
  obtain ⟨stt, c9, t9, rfl, hc2⟩ := hp
  obtain ⟨J, hJ⟩ : ∃ J, J = jn (sc i 3) (sc j 3) (sc i 5) (sc j 5) (st i) (st j) (sc i 0) (0, 0, sc i 2, stB stt (st i) (sc i 5)) := ⟨_, rfl⟩
  obtain rfl : v405 = nI J.2.1 := hvj.uniq ⟨stt, by rw [hJ]⟩
  rw [← hJ] at hc2 ⊢
  obtain ⟨sc2, st2, hI2, e1, e2, e3, e4, e5, e6, e7⟩ := ch_join hJ hI t9 hi hj hij
  rw [hc2] at hI2
  refine lv_istore (lv' := [(16, .int (nI J.2.1)), (15, .int (nI (min (sc i 0) (sc i 5 + sc j 5)))), (14, .int (nI J.2.1)), (10, .int (nI (sc i 5))), (9, .int (nI (sc i 4 + sc j 4))), (8, .int (nI (sc i 3 + sc j 3))), (7, .int (nI w)), (6, .int (nI j)), (5, .int (nI i)), (4, .int x), (0, .ref b), (1, .ref (ad 0)), (2, .int (nI n)), (3, .int (nI tm))]) hx hb dL_law_442 hl (by decide) rfl (fun ls hl => ?_)
  refine lv_iload hx hb dL_law_444 (lv_at hl 0 rfl) ?_
  refine lv_iload hx hb dL_law_446 (lv_at hl 2 rfl) ?_
  refine n_icmp_ne (tgt := 523) hx hb (by omega) (by omega) dL_law_448 (by decide) (fun h448 => ?_) (fun h448 => ?_)
  · exfalso; omega
  refine lv_iload hx hb dL_law_451 (lv_at hl 0 rfl) ?_
  refine n_if_lt (tgt := 543) hx hb (by omega) dL_law_453 (by decide) (fun h453 => ?_) (fun h453 => ?_)
  · exfalso; omega
  refine lv_aload_n hx hb dL_law_456 rfl (lv_at hl 11 rfl) ?_
  refine lv_iload hx hb dL_law_457 (lv_at hl 8 rfl) ?_
  refine k0_i (rn_L_33 (As := [.int (nI i)]) (rest := []) (r := 0) C0 (m_X1_holds l D cA N ad (c439) n i (sc2 i 0) (sc2 i 1) (sc2 i 2) (sc2 i 3) (sc2 i 4) (sc2 i 5) (st2 i) (by omega) hI2.fh hi (hI2.hs i hi) ((hI2.hok (by omega)) i hi) _) hP hS (by omega) hI2.fh.1 rfl ⟨rfl, rfl⟩ ⟨Nat.le_of_ble_eq_true rfl, Nat.le_of_ble_eq_true rfl⟩ hl.1 rfl (Nat.le_of_ble_eq_true rfl) dL_law_459 ⟨rm_c hce (by omega), rm_s hsl (by omega)⟩) C0 hP hS (fun v459 c459 H locs hp hP hS => ?_)
  obtain ⟨rfl, rfl⟩ := hp
  refine lv_iload hx hb dL_law_462 (lv_at hl 1 rfl) ?_
  refine n_icmp_ne (tgt := 523) hx hb (by omega) (by omega) dL_law_464 (by decide) (fun h464 => ?_) (fun h464 => ?_)
  · exfalso; omega
  refine lv_aload_n hx hb dL_law_467 rfl (lv_at hl 11 rfl) ?_
  refine lv_iload hx hb dL_law_468 (lv_at hl 8 rfl) ?_
  refine k0_i (rn_L_26 (As := [.int (nI i)]) (rest := []) (r := 0) C0 (m_X1_seenBy l D cA N ad (c439) n i (sc2 i 0) (sc2 i 1) (sc2 i 2) (sc2 i 3) (sc2 i 4) (sc2 i 5) (st2 i) (by omega) hI2.fh hi (hI2.hs i hi) ((hI2.hok (by omega)) i hi) _) hP hS (by omega) hI2.fh.1 rfl ⟨rfl, rfl⟩ ⟨Nat.le_of_ble_eq_true rfl, Nat.le_of_ble_eq_true rfl⟩ hl.1 rfl (Nat.le_of_ble_eq_true rfl) dL_law_470 ⟨rm_c hce (by omega), rm_s hsl (by omega)⟩) C0 hP hS (fun v470 c470 H locs hp hP hS => ?_)
  obtain ⟨rfl, rfl⟩ := hp
  refine lv_iload hx hb dL_law_473 (lv_at hl 5 rfl) ?_
  refine n_icmp_ne (tgt := 523) hx hb (by omega) (by omega) dL_law_475 (by decide) (fun h475 => ?_) (fun h475 => ?_)
  · exfalso; omega
  refine lv_aload_n hx hb dL_law_478 rfl (lv_at hl 11 rfl) ?_
  refine lv_iload hx hb dL_law_479 (lv_at hl 8 rfl) ?_
  refine k0_i (rn_L_30 (As := [.int (nI i)]) (rest := []) (r := 0) C0 (m_X1_loadOf l D cA N ad (c439) n i (sc2 i 0) (sc2 i 1) (sc2 i 2) (sc2 i 3) (sc2 i 4) (sc2 i 5) (st2 i) (by omega) hI2.fh hi (hI2.hs i hi) ((hI2.hok (by omega)) i hi) _) hP hS (by omega) hI2.fh.1 rfl ⟨rfl, rfl⟩ ⟨Nat.le_of_ble_eq_true rfl, Nat.le_of_ble_eq_true rfl⟩ hl.1 rfl (Nat.le_of_ble_eq_true rfl) dL_law_481 ⟨rm_c hce (by omega), rm_s hsl (by omega)⟩) C0 hP hS (fun v481 c481 H locs hp hP hS => ?_)
  obtain ⟨rfl, rfl⟩ := hp
  refine lv_iload hx hb dL_law_484 (lv_at hl 4 rfl) ?_
  refine n_icmp_ne (tgt := 523) hx hb (by omega) (by omega) dL_law_486 (by decide) (fun h486 => ?_) (fun h486 => ?_)
  · exfalso; omega
  refine lv_aload_n hx hb dL_law_489 rfl (lv_at hl 11 rfl) ?_
  refine lv_iload hx hb dL_law_490 (lv_at hl 7 rfl) ?_
  refine k0_i (rn_L_33 (As := [.int (nI j)]) (rest := []) (r := 0) C0 (m_X1_holds l D cA N ad (c439) n j (sc2 j 0) (sc2 j 1) (sc2 j 2) (sc2 j 3) (sc2 j 4) (sc2 j 5) (st2 j) (by omega) hI2.fh hj (hI2.hs j hj) ((hI2.hok (by omega)) j hj) _) hP hS (by omega) hI2.fh.1 rfl ⟨rfl, rfl⟩ ⟨Nat.le_of_ble_eq_true rfl, Nat.le_of_ble_eq_true rfl⟩ hl.1 rfl (Nat.le_of_ble_eq_true rfl) dL_law_492 ⟨rm_c hce (by omega), rm_s hsl (by omega)⟩) C0 hP hS (fun v492 c492 H locs hp hP hS => ?_)
  obtain ⟨rfl, rfl⟩ := hp
  refine n_if_ne (tgt := 523) hx hb (by omega) dL_law_495 (by decide) (fun h495 => ?_) (fun h495 => ?_)
  · exfalso; omega
  refine lv_aload_n hx hb dL_law_498 rfl (lv_at hl 11 rfl) ?_
  refine lv_iload hx hb dL_law_499 (lv_at hl 7 rfl) ?_
  refine k0_i (rn_L_26 (As := [.int (nI j)]) (rest := []) (r := 0) C0 (m_X1_seenBy l D cA N ad (c439) n j (sc2 j 0) (sc2 j 1) (sc2 j 2) (sc2 j 3) (sc2 j 4) (sc2 j 5) (st2 j) (by omega) hI2.fh hj (hI2.hs j hj) ((hI2.hok (by omega)) j hj) _) hP hS (by omega) hI2.fh.1 rfl ⟨rfl, rfl⟩ ⟨Nat.le_of_ble_eq_true rfl, Nat.le_of_ble_eq_true rfl⟩ hl.1 rfl (Nat.le_of_ble_eq_true rfl) dL_law_501 ⟨rm_c hce (by omega), rm_s hsl (by omega)⟩) C0 hP hS (fun v501 c501 H locs hp hP hS => ?_)
  obtain ⟨rfl, rfl⟩ := hp
  refine n_if_ne (tgt := 523) hx hb (by omega) dL_law_504 (by decide) (fun h504 => ?_) (fun h504 => ?_)
  · exfalso; omega
  refine lv_aload_n hx hb dL_law_507 rfl (lv_at hl 11 rfl) ?_
  refine lv_iload hx hb dL_law_508 (lv_at hl 7 rfl) ?_
  refine k0_i (rn_L_30 (As := [.int (nI j)]) (rest := []) (r := 0) C0 (m_X1_loadOf l D cA N ad (c439) n j (sc2 j 0) (sc2 j 1) (sc2 j 2) (sc2 j 3) (sc2 j 4) (sc2 j 5) (st2 j) (by omega) hI2.fh hj (hI2.hs j hj) ((hI2.hok (by omega)) j hj) _) hP hS (by omega) hI2.fh.1 rfl ⟨rfl, rfl⟩ ⟨Nat.le_of_ble_eq_true rfl, Nat.le_of_ble_eq_true rfl⟩ hl.1 rfl (Nat.le_of_ble_eq_true rfl) dL_law_510 ⟨rm_c hce (by omega), rm_s hsl (by omega)⟩) C0 hP hS (fun v510 c510 H locs hp hP hS => ?_)
  obtain ⟨rfl, rfl⟩ := hp
  refine n_if_ne (tgt := 523) hx hb (by omega) dL_law_513 (by decide) (fun h513 => ?_) (fun h513 => ?_)
  · exfalso; omega
  refine lv_iload hx hb dL_law_516 (lv_at hl 0 rfl) ?_
  refine lv_iload hx hb dL_law_518 (lv_at hl 1 rfl) ?_
  refine n_icmp_le (tgt := 543) hx hb (by omega) (by omega) dL_law_520 (by decide) (fun h520 => ?_) (fun h520 => ?_)
  rotate_left
  · exfalso; omega
  exact W.widen (k := cells + 1) (n := slots + 6) (by omega) (by omega) (hT (c439) sc2 st2 hI2 _ _ _ hP hS (lv_sub hl [10, 11, 12, 13] rfl))
