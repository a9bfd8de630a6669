set_option maxHeartbeats 1000000 in
set_option maxRecDepth 10000 in
theorem lc_mix {p : Program} {e : Env} {s : State} {m : MethodId} {below : List Frame} {meth : Method} {c0 : Code} {H : Heap} {locs : List Loc} {ls : Array Slot} {Q : State → Prop} (l : Launch) (hfl : l.stackTraces = false) (D : va_G) (cA : Nat → ClassId) (N : Nat) (ad : Nat → Nat) (c : Nat → va_E) (b L : Nat) (xs : Nat → Int32) (n : Nat) (sc : Nat → Nat → Nat) (st : Nat → Nat → Nat → Int32) (th : Int32) (nw ah rw : Nat → Int32) (fo : Nat → Int64) (fd : Nat → UInt64) (B i cells slots : Nat) (C0 : Cx p s m c0 cL_law 9 RL D cA N ad (fun q => s.heap.size ≤ q)) (hX : va_X b L xs s s.heap) (hbl : b < s.heap.size) (hi : i + 5 ≤ L) (hL : L ≤ 2560) (hI : Inv ad cA c N n sc st th nw ah rw fo fd B) (hB : B ≤ 110000) (hc1 : cells + 5 ≤ 601024) (hs1 : slots + 65 ≤ 7293034) (hT : LTail p l e s m below meth c0 Q D cA b (cells + 5) (slots + 65) i (B + 200)) (hP : va_P D vwCl (wl N ad c) H) (hS : va_S (fun q => s.heap.size ≤ q) s.heap H locs) (hl : lv_has ls 9 [(0, .ref b), (1, .ref (ad 0)), (2, .ref (ad 6)), (3, .ref (ad 10)), (4, .ref (ad 11)), (5, .int (nI i))]) : W p l e room_1 s m #[Value.ref b] below meth c0 H locs cells slots Q (F0 m 432 ls []) := by
  have hx := C0.1
  have hb := C0.2.1
  have hN := hI.hN
  have hn5 := hI.n5
  obtain ⟨rm, mc, ms, k, R1, r1, r2, r3, r4, r5, r6, r7, M, M2⟩ := s_mix l D cA N ad c hfl n sc st th nw ah rw fo fd B hI hB (xs (i + 1))
  refine lv_aload_n hx hb dL_law_432 rfl (lv_at hl 1 rfl) ?_
  refine lv_aload_n hx hb dL_law_433 rfl (lv_at hl 0 rfl) ?_
  refine lv_iload hx hb dL_law_434 (lv_at hl 5 rfl) ?_
  refine lv_iconst (v := nI 1) hx hb dL_law_436 rfl ?_
  refine n_iadd hx hb dL_law_437 ?_
  refine l_sld C0 hX hbl hS (j := i + 1) (by omega) hL dL_law_438 ?_
  refine lv_aload_n hx hb dL_law_439 rfl (lv_at hl 3 rfl) ?_
  refine k_i (rn_L_125 (As := [.ref (ad 0), .int (xs (i + 1)), .ref (ad 10)]) (rest := []) C0 (M _) hP hS rfl ⟨r1, r2⟩ ⟨rm_f r3, rm_l r4 (by decide)⟩ hl.1 rfl (Nat.le_of_ble_eq_true rfl) dL_law_440 ⟨rm_c hc1 (by omega), rm_s hs1 (by omega)⟩) C0 hP hS (fun v1 c1 H locs hp hP hS => ?_)
  obtain ⟨rfl, hR1⟩ := hp
  obtain ⟨⟨fs, h6⟩, rm2, R2, g1, g2, g3, g4, M2, M3⟩ := M2 _ hR1
  refine W.widen (k := cells + 5) (n := slots + 65) (by omega) (by omega) ?_
  refine lv_istore (lv' := [(6, .int (nI k)), (0, .ref b), (1, .ref (ad 0)), (2, .ref (ad 6)), (3, .ref (ad 10)), (4, .ref (ad 11)), (5, .int (nI i))]) hx hb dL_law_443 hl (by decide) rfl (fun ls hl => ?_)
  refine lv_aload_n hx hb dL_law_445 rfl (lv_at hl 3 rfl) ?_
  refine lv_aload_n hx hb dL_law_446 rfl (lv_at hl 1 rfl) ?_
  refine lv_iload hx hb dL_law_447 (lv_at hl 6 rfl) ?_
  refine lv_iconst (v := nI 1) hx hb dL_law_449 rfl ?_
  refine n_iadd hx hb dL_law_450 ?_
  refine l_sld C0 hX hbl hS (j := i + 1) (by omega) hL dL_law_451 ?_
  refine k0_i (rn_L_128 (As := [.int (xs (i + 1))]) (rest := []) (r := 6) C0 (M2 _) hP hS (by omega) h6 rfl ⟨g1, g2⟩ ⟨rm_f g3, rm_l g4 (by decide)⟩ hl.1 rfl (Nat.le_of_ble_eq_true rfl) dL_law_452 ⟨hc1, hs1⟩) C0 hP hS (fun v2 c2 H locs hp hP hS => ?_)
  obtain ⟨sc', st', nw', ah', rw', fo', hI', hk⟩ := M3 _ _ hp
  refine lv_istore (lv' := [(7, .int v2), (6, .int (nI k)), (0, .ref b), (1, .ref (ad 0)), (2, .ref (ad 6)), (3, .ref (ad 10)), (4, .ref (ad 11)), (5, .int (nI i))]) hx hb dL_law_455 hl (by decide) rfl (fun ls hl => ?_)
  refine lv_aload_n hx hb dL_law_457 rfl (lv_at hl 4 rfl) ?_
  refine k0_i (rn_L_114 (As := []) (rest := []) (r := 6) C0 (m_X2_thrown l D cA N ad c2 (nI k) n nw' ah' rw' (by omega) hI'.mo hI'.n5 _) hP hS (by omega) hI'.mo.1 rfl ⟨rfl, rfl⟩ ⟨Nat.le_of_ble_eq_true rfl, Nat.le_of_ble_eq_true rfl⟩ hl.1 rfl (Nat.le_of_ble_eq_true rfl) dL_law_458 ⟨hc1, hs1⟩) C0 hP hS (fun v3 c3 H locs hp hP hS => ?_)
  obtain ⟨rfl, rfl⟩ := hp
  refine lv_iload hx hb dL_law_461 (lv_at hl 1 rfl) ?_
  refine lv_icmp_eq (tgt := 468) hx hb dL_law_463 (by decide) (fun _ => ?_) (fun h => absurd rfl h)
  refine lv_iload hx hb dL_law_468 (lv_at hl 1 rfl) ?_
  refine lv_if_ne (tgt := 485) hx hb dL_law_470 (by decide) (fun _ => ?_) (fun h => ?_)
  · skip
    refine lv_goto (tgt := 2048) hx hb dL_law_485 (by decide) ?_
    exact hT N n ad c2 sc' st' (nI k) nw' ah' rw' fo' fd C0 hI' _ _ _ hP hS (lv_sub hl [2, 3, 4, 5, 6, 7] rfl)
  · skip
    refine lv_aload_n hx hb dL_law_473 rfl (lv_at hl 5 rfl) ?_
    refine lv_iconst (v := nI 0) hx hb dL_law_474 rfl ?_
    refine a_lld C0 hP (r := 10) (by omega) hI'.out (by decide) (by decide) dL_law_475 ?_
    refine lv_iload hx hb dL_law_476 (lv_at hl 0 rfl) ?_
    refine lv_i2l (v := v2.toInt64) hx hb dL_law_478 rfl ?_
    refine W.lcmp hx hb dL_law_479 ?_
    rw [lg_same (hk (k0_of r7 h))]
    refine lv_if_eq (tgt := 485) hx hb dL_law_480 (by decide) (fun _ => ?_) (fun h => absurd rfl h)
    refine lv_goto (tgt := 2048) hx hb dL_law_485 (by decide) ?_
    exact hT N n ad c2 sc' st' (nI k) nw' ah' rw' fo' fd C0 hI' _ _ _ hP hS (lv_sub hl [2, 3, 4, 5, 6, 7] rfl)
set_option maxHeartbeats 1000000 in
set_option maxRecDepth 10000 in
theorem lc_join {p : Program} {e : Env} {s : State} {m : MethodId} {below : List Frame} {meth : Method} {c0 : Code} {H : Heap} {locs : List Loc} {ls : Array Slot} {Q : State → Prop} (l : Launch) (hfl : l.stackTraces = false) (D : va_G) (cA : Nat → ClassId) (N : Nat) (ad : Nat → Nat) (c : Nat → va_E) (b L : Nat) (xs : Nat → Int32) (n : Nat) (sc : Nat → Nat → Nat) (st : Nat → Nat → Nat → Int32) (th : Int32) (nw ah rw : Nat → Int32) (fo : Nat → Int64) (fd : Nat → UInt64) (B i cells slots : Nat) (C0 : Cx p s m c0 cL_law 9 RL D cA N ad (fun q => s.heap.size ≤ q)) (hX : va_X b L xs s s.heap) (hbl : b < s.heap.size) (hi : i + 5 ≤ L) (hL : L ≤ 2560) (hI : Inv ad cA c N n sc st th nw ah rw fo fd B) (hB : B ≤ 110000) (hc1 : cells + 5 ≤ 601024) (hs1 : slots + 65 ≤ 7293034) (hT : LTail p l e s m below meth c0 Q D cA b (cells + 5) (slots + 65) i (B + 200)) (hP : va_P D vwCl (wl N ad c) H) (hS : va_S (fun q => s.heap.size ≤ q) s.heap H locs) (hl : lv_has ls 9 [(0, .ref b), (1, .ref (ad 0)), (2, .ref (ad 6)), (3, .ref (ad 10)), (4, .ref (ad 11)), (5, .int (nI i))]) : W p l e room_1 s m #[Value.ref b] below meth c0 H locs cells slots Q (F0 m 488 ls []) := by
  have hx := C0.1
  have hb := C0.2.1
  have hN := hI.hN
  have hn5 := hI.n5
  obtain ⟨rm, mc, ms, k, R1, r1, r2, r3, r4, r5, r6, r7, M, M2⟩ := s_join l D cA N ad c hfl n sc st th nw ah rw fo fd B hI hB C0.2.2.2.2.2.2.1.1 (xs (i + 1)) (xs (i + 2))
  refine lv_aload_n hx hb dL_law_488 rfl (lv_at hl 1 rfl) ?_
  refine lv_aload_n hx hb dL_law_489 rfl (lv_at hl 0 rfl) ?_
  refine lv_iload hx hb dL_law_490 (lv_at hl 5 rfl) ?_
  refine lv_iconst (v := nI 1) hx hb dL_law_492 rfl ?_
  refine n_iadd hx hb dL_law_493 ?_
  refine l_sld C0 hX hbl hS (j := i + 1) (by omega) hL dL_law_494 ?_
  refine lv_aload_n hx hb dL_law_495 rfl (lv_at hl 0 rfl) ?_
  refine lv_iload hx hb dL_law_496 (lv_at hl 5 rfl) ?_
  refine lv_iconst (v := nI 2) hx hb dL_law_498 rfl ?_
  refine n_iadd hx hb dL_law_499 ?_
  refine l_sld C0 hX hbl hS (j := i + 2) (by omega) hL dL_law_500 ?_
  refine lv_aload_n hx hb dL_law_501 rfl (lv_at hl 3 rfl) ?_
  refine k_i (rn_L_129 (As := [.ref (ad 0), .int (xs (i + 1)), .int (xs (i + 2)), .ref (ad 10)]) (rest := []) C0 (M _) hP hS rfl ⟨r1, r2⟩ ⟨rm_f r3, rm_l r4 (by decide)⟩ hl.1 rfl (Nat.le_of_ble_eq_true rfl) dL_law_502 ⟨rm_c hc1 (by omega), rm_s hs1 (by omega)⟩) C0 hP hS (fun v1 c1 H locs hp hP hS => ?_)
  obtain ⟨rfl, hR1⟩ := hp
  obtain ⟨⟨fs, h6⟩, rm2, R2, g1, g2, g3, g4, M2, M3⟩ := M2 _ hR1
  refine W.widen (k := cells + 5) (n := slots + 65) (by omega) (by omega) ?_
  refine lv_istore (lv' := [(6, .int (nI k)), (0, .ref b), (1, .ref (ad 0)), (2, .ref (ad 6)), (3, .ref (ad 10)), (4, .ref (ad 11)), (5, .int (nI i))]) hx hb dL_law_505 hl (by decide) rfl (fun ls hl => ?_)
  refine lv_aload_n hx hb dL_law_507 rfl (lv_at hl 3 rfl) ?_
  refine lv_aload_n hx hb dL_law_508 rfl (lv_at hl 1 rfl) ?_
  refine lv_iload hx hb dL_law_509 (lv_at hl 6 rfl) ?_
  refine lv_iconst (v := nI 1) hx hb dL_law_511 rfl ?_
  refine n_iadd hx hb dL_law_512 ?_
  refine l_sld C0 hX hbl hS (j := i + 1) (by omega) hL dL_law_513 ?_
  refine lv_aload_n hx hb dL_law_514 rfl (lv_at hl 1 rfl) ?_
  refine lv_iload hx hb dL_law_515 (lv_at hl 6 rfl) ?_
  refine lv_iconst (v := nI 2) hx hb dL_law_517 rfl ?_
  refine n_iadd hx hb dL_law_518 ?_
  refine l_sld C0 hX hbl hS (j := i + 2) (by omega) hL dL_law_519 ?_
  refine k0_i (rn_L_132 (As := [.int (xs (i + 1)), .int (xs (i + 2))]) (rest := []) (r := 6) C0 (M2 _) hP hS (by omega) h6 rfl ⟨g1, g2⟩ ⟨rm_f g3, rm_l g4 (by decide)⟩ hl.1 rfl (Nat.le_of_ble_eq_true rfl) dL_law_520 ⟨hc1, hs1⟩) C0 hP hS (fun v2 c2 H locs hp hP hS => ?_)
  obtain ⟨sc', st', nw', ah', rw', fo', hI', hk⟩ := M3 _ _ hp
  refine lv_istore (lv' := [(7, .int v2), (6, .int (nI k)), (0, .ref b), (1, .ref (ad 0)), (2, .ref (ad 6)), (3, .ref (ad 10)), (4, .ref (ad 11)), (5, .int (nI i))]) hx hb dL_law_523 hl (by decide) rfl (fun ls hl => ?_)
  refine lv_aload_n hx hb dL_law_525 rfl (lv_at hl 4 rfl) ?_
  refine k0_i (rn_L_114 (As := []) (rest := []) (r := 6) C0 (m_X2_thrown l D cA N ad c2 (nI k) n nw' ah' rw' (by omega) hI'.mo hI'.n5 _) hP hS (by omega) hI'.mo.1 rfl ⟨rfl, rfl⟩ ⟨Nat.le_of_ble_eq_true rfl, Nat.le_of_ble_eq_true rfl⟩ hl.1 rfl (Nat.le_of_ble_eq_true rfl) dL_law_526 ⟨hc1, hs1⟩) C0 hP hS (fun v3 c3 H locs hp hP hS => ?_)
  obtain ⟨rfl, rfl⟩ := hp
  refine lv_iload hx hb dL_law_529 (lv_at hl 1 rfl) ?_
  refine lv_icmp_eq (tgt := 536) hx hb dL_law_531 (by decide) (fun _ => ?_) (fun h => absurd rfl h)
  refine lv_iload hx hb dL_law_536 (lv_at hl 1 rfl) ?_
  refine lv_if_ne (tgt := 553) hx hb dL_law_538 (by decide) (fun _ => ?_) (fun h => ?_)
  · skip
    refine lv_goto (tgt := 2048) hx hb dL_law_553 (by decide) ?_
    exact hT N n ad c2 sc' st' (nI k) nw' ah' rw' fo' fd C0 hI' _ _ _ hP hS (lv_sub hl [2, 3, 4, 5, 6, 7] rfl)
  · skip
    refine lv_aload_n hx hb dL_law_541 rfl (lv_at hl 5 rfl) ?_
    refine lv_iconst (v := nI 0) hx hb dL_law_542 rfl ?_
    refine a_lld C0 hP (r := 10) (by omega) hI'.out (by decide) (by decide) dL_law_543 ?_
    refine lv_iload hx hb dL_law_544 (lv_at hl 0 rfl) ?_
    refine lv_i2l (v := v2.toInt64) hx hb dL_law_546 rfl ?_
    refine W.lcmp hx hb dL_law_547 ?_
    rw [lg_same (hk (k0_of r7 h))]
    refine lv_if_eq (tgt := 553) hx hb dL_law_548 (by decide) (fun _ => ?_) (fun h => absurd rfl h)
    refine lv_goto (tgt := 2048) hx hb dL_law_553 (by decide) ?_
    exact hT N n ad c2 sc' st' (nI k) nw' ah' rw' fo' fd C0 hI' _ _ _ hP hS (lv_sub hl [2, 3, 4, 5, 6, 7] rfl)
set_option maxHeartbeats 1000000 in
set_option maxRecDepth 10000 in
theorem lc_setLuck {p : Program} {e : Env} {s : State} {m : MethodId} {below : List Frame} {meth : Method} {c0 : Code} {H : Heap} {locs : List Loc} {ls : Array Slot} {Q : State → Prop} (l : Launch) (hfl : l.stackTraces = false) (D : va_G) (cA : Nat → ClassId) (N : Nat) (ad : Nat → Nat) (c : Nat → va_E) (b L : Nat) (xs : Nat → Int32) (n : Nat) (sc : Nat → Nat → Nat) (st : Nat → Nat → Nat → Int32) (th : Int32) (nw ah rw : Nat → Int32) (fo : Nat → Int64) (fd : Nat → UInt64) (B i cells slots : Nat) (C0 : Cx p s m c0 cL_law 9 RL D cA N ad (fun q => s.heap.size ≤ q)) (hX : va_X b L xs s s.heap) (hbl : b < s.heap.size) (hi : i + 5 ≤ L) (hL : L ≤ 2560) (hI : Inv ad cA c N n sc st th nw ah rw fo fd B) (hB : B ≤ 110000) (hc1 : cells + 5 ≤ 601024) (hs1 : slots + 65 ≤ 7293034) (hT : LTail p l e s m below meth c0 Q D cA b (cells + 5) (slots + 65) i (B + 200)) (hP : va_P D vwCl (wl N ad c) H) (hS : va_S (fun q => s.heap.size ≤ q) s.heap H locs) (hl : lv_has ls 9 [(0, .ref b), (1, .ref (ad 0)), (2, .ref (ad 6)), (3, .ref (ad 10)), (4, .ref (ad 11)), (5, .int (nI i))]) : W p l e room_1 s m #[Value.ref b] below meth c0 H locs cells slots Q (F0 m 556 ls []) := by
  have hx := C0.1
  have hb := C0.2.1
  have hN := hI.hN
  have hn5 := hI.n5
  obtain ⟨rm, mc, ms, k, R1, r1, r2, r3, r4, r5, r6, r7, M, M2⟩ := s_setLuck l D cA N ad c hfl n sc st th nw ah rw fo fd B hI hB (xs (i + 1)) (xs (i + 2))
  refine lv_aload_n hx hb dL_law_556 rfl (lv_at hl 1 rfl) ?_
  refine lv_aload_n hx hb dL_law_557 rfl (lv_at hl 0 rfl) ?_
  refine lv_iload hx hb dL_law_558 (lv_at hl 5 rfl) ?_
  refine lv_iconst (v := nI 1) hx hb dL_law_560 rfl ?_
  refine n_iadd hx hb dL_law_561 ?_
  refine l_sld C0 hX hbl hS (j := i + 1) (by omega) hL dL_law_562 ?_
  refine lv_aload_n hx hb dL_law_563 rfl (lv_at hl 0 rfl) ?_
  refine lv_iload hx hb dL_law_564 (lv_at hl 5 rfl) ?_
  refine lv_iconst (v := nI 2) hx hb dL_law_566 rfl ?_
  refine n_iadd hx hb dL_law_567 ?_
  refine l_sld C0 hX hbl hS (j := i + 2) (by omega) hL dL_law_568 ?_
  refine lv_aload_n hx hb dL_law_569 rfl (lv_at hl 3 rfl) ?_
  refine k_i (rn_L_133 (As := [.ref (ad 0), .int (xs (i + 1)), .int (xs (i + 2)), .ref (ad 10)]) (rest := []) C0 (M _) hP hS rfl ⟨r1, r2⟩ ⟨rm_f r3, rm_l r4 (by decide)⟩ hl.1 rfl (Nat.le_of_ble_eq_true rfl) dL_law_570 ⟨rm_c hc1 (by omega), rm_s hs1 (by omega)⟩) C0 hP hS (fun v1 c1 H locs hp hP hS => ?_)
  obtain ⟨rfl, hR1⟩ := hp
  obtain ⟨⟨fs, h6⟩, rm2, R2, g1, g2, g3, g4, M2, M3⟩ := M2 _ hR1
  refine W.widen (k := cells + 5) (n := slots + 65) (by omega) (by omega) ?_
  refine lv_istore (lv' := [(6, .int (nI k)), (0, .ref b), (1, .ref (ad 0)), (2, .ref (ad 6)), (3, .ref (ad 10)), (4, .ref (ad 11)), (5, .int (nI i))]) hx hb dL_law_573 hl (by decide) rfl (fun ls hl => ?_)
  refine lv_aload_n hx hb dL_law_575 rfl (lv_at hl 3 rfl) ?_
  refine lv_aload_n hx hb dL_law_576 rfl (lv_at hl 1 rfl) ?_
  refine lv_iload hx hb dL_law_577 (lv_at hl 6 rfl) ?_
  refine lv_iconst (v := nI 1) hx hb dL_law_579 rfl ?_
  refine n_iadd hx hb dL_law_580 ?_
  refine l_sld C0 hX hbl hS (j := i + 1) (by omega) hL dL_law_581 ?_
  refine lv_aload_n hx hb dL_law_582 rfl (lv_at hl 1 rfl) ?_
  refine lv_iload hx hb dL_law_583 (lv_at hl 6 rfl) ?_
  refine lv_iconst (v := nI 2) hx hb dL_law_585 rfl ?_
  refine n_iadd hx hb dL_law_586 ?_
  refine l_sld C0 hX hbl hS (j := i + 2) (by omega) hL dL_law_587 ?_
  refine k0_i (rn_L_135 (As := [.int (xs (i + 1)), .int (xs (i + 2))]) (rest := []) (r := 6) C0 (M2 _) hP hS (by omega) h6 rfl ⟨g1, g2⟩ ⟨rm_f g3, rm_l g4 (by decide)⟩ hl.1 rfl (Nat.le_of_ble_eq_true rfl) dL_law_588 ⟨hc1, hs1⟩) C0 hP hS (fun v2 c2 H locs hp hP hS => ?_)
  obtain ⟨sc', st', nw', ah', rw', fo', hI', hk⟩ := M3 _ _ hp
  refine lv_istore (lv' := [(7, .int v2), (6, .int (nI k)), (0, .ref b), (1, .ref (ad 0)), (2, .ref (ad 6)), (3, .ref (ad 10)), (4, .ref (ad 11)), (5, .int (nI i))]) hx hb dL_law_591 hl (by decide) rfl (fun ls hl => ?_)
  refine lv_aload_n hx hb dL_law_593 rfl (lv_at hl 4 rfl) ?_
  refine k0_i (rn_L_114 (As := []) (rest := []) (r := 6) C0 (m_X2_thrown l D cA N ad c2 (nI k) n nw' ah' rw' (by omega) hI'.mo hI'.n5 _) hP hS (by omega) hI'.mo.1 rfl ⟨rfl, rfl⟩ ⟨Nat.le_of_ble_eq_true rfl, Nat.le_of_ble_eq_true rfl⟩ hl.1 rfl (Nat.le_of_ble_eq_true rfl) dL_law_594 ⟨hc1, hs1⟩) C0 hP hS (fun v3 c3 H locs hp hP hS => ?_)
  obtain ⟨rfl, rfl⟩ := hp
  refine lv_iload hx hb dL_law_597 (lv_at hl 1 rfl) ?_
  refine lv_icmp_eq (tgt := 604) hx hb dL_law_599 (by decide) (fun _ => ?_) (fun h => absurd rfl h)
  refine lv_iload hx hb dL_law_604 (lv_at hl 1 rfl) ?_
  refine lv_if_ne (tgt := 621) hx hb dL_law_606 (by decide) (fun _ => ?_) (fun h => ?_)
  · skip
    refine lv_goto (tgt := 2048) hx hb dL_law_621 (by decide) ?_
    exact hT N n ad c2 sc' st' (nI k) nw' ah' rw' fo' fd C0 hI' _ _ _ hP hS (lv_sub hl [2, 3, 4, 5, 6, 7] rfl)
  · skip
    refine lv_aload_n hx hb dL_law_609 rfl (lv_at hl 5 rfl) ?_
    refine lv_iconst (v := nI 0) hx hb dL_law_610 rfl ?_
    refine a_lld C0 hP (r := 10) (by omega) hI'.out (by decide) (by decide) dL_law_611 ?_
    refine lv_iload hx hb dL_law_612 (lv_at hl 0 rfl) ?_
    refine lv_i2l (v := v2.toInt64) hx hb dL_law_614 rfl ?_
    refine W.lcmp hx hb dL_law_615 ?_
    rw [lg_same (hk (k0_of r7 h))]
    refine lv_if_eq (tgt := 621) hx hb dL_law_616 (by decide) (fun _ => ?_) (fun h => absurd rfl h)
    refine lv_goto (tgt := 2048) hx hb dL_law_621 (by decide) ?_
    exact hT N n ad c2 sc' st' (nI k) nw' ah' rw' fo' fd C0 hI' _ _ _ hP hS (lv_sub hl [2, 3, 4, 5, 6, 7] rfl)
set_option maxHeartbeats 1000000 in
set_option maxRecDepth 10000 in
theorem lc_holds {p : Program} {e : Env} {s : State} {m : MethodId} {below : List Frame} {meth : Method} {c0 : Code} {H : Heap} {locs : List Loc} {ls : Array Slot} {Q : State → Prop} (l : Launch) (hfl : l.stackTraces = false) (D : va_G) (cA : Nat → ClassId) (N : Nat) (ad : Nat → Nat) (c : Nat → va_E) (b L : Nat) (xs : Nat → Int32) (n : Nat) (sc : Nat → Nat → Nat) (st : Nat → Nat → Nat → Int32) (th : Int32) (nw ah rw : Nat → Int32) (fo : Nat → Int64) (fd : Nat → UInt64) (B i cells slots : Nat) (C0 : Cx p s m c0 cL_law 9 RL D cA N ad (fun q => s.heap.size ≤ q)) (hX : va_X b L xs s s.heap) (hbl : b < s.heap.size) (hi : i + 5 ≤ L) (hL : L ≤ 2560) (hI : Inv ad cA c N n sc st th nw ah rw fo fd B) (hB : B ≤ 110000) (hc1 : cells + 5 ≤ 601024) (hs1 : slots + 65 ≤ 7293034) (hT : LTail p l e s m below meth c0 Q D cA b (cells + 5) (slots + 65) i (B + 200)) (hP : va_P D vwCl (wl N ad c) H) (hS : va_S (fun q => s.heap.size ≤ q) s.heap H locs) (hl : lv_has ls 9 [(0, .ref b), (1, .ref (ad 0)), (2, .ref (ad 6)), (3, .ref (ad 10)), (4, .ref (ad 11)), (5, .int (nI i))]) : W p l e room_1 s m #[Value.ref b] below meth c0 H locs cells slots Q (F0 m 637 ls []) := by
  have hx := C0.1
  have hb := C0.2.1
  have hN := hI.hN
  have hn5 := hI.n5
  obtain ⟨rm, mc, ms, k, R1, r1, r2, r3, r4, r5, r6, r7, M, M2⟩ := s_holds l D cA N ad c hfl n sc st th nw ah rw fo fd B hI hB (xs (i + 1))
  refine lv_aload_n hx hb dL_law_637 rfl (lv_at hl 1 rfl) ?_
  refine lv_aload_n hx hb dL_law_638 rfl (lv_at hl 0 rfl) ?_
  refine lv_iload hx hb dL_law_639 (lv_at hl 5 rfl) ?_
  refine lv_iconst (v := nI 1) hx hb dL_law_641 rfl ?_
  refine n_iadd hx hb dL_law_642 ?_
  refine l_sld C0 hX hbl hS (j := i + 1) (by omega) hL dL_law_643 ?_
  refine lv_aload_n hx hb dL_law_644 rfl (lv_at hl 3 rfl) ?_
  refine k_i (rn_L_140 (As := [.ref (ad 0), .int (xs (i + 1)), .ref (ad 10)]) (rest := []) C0 (M _) hP hS rfl ⟨r1, r2⟩ ⟨rm_f r3, rm_l r4 (by decide)⟩ hl.1 rfl (Nat.le_of_ble_eq_true rfl) dL_law_645 ⟨rm_c hc1 (by omega), rm_s hs1 (by omega)⟩) C0 hP hS (fun v1 c1 H locs hp hP hS => ?_)
  obtain ⟨rfl, hR1⟩ := hp
  obtain ⟨⟨fs, h6⟩, rm2, R2, g1, g2, g3, g4, M2, M3⟩ := M2 _ hR1
  refine W.widen (k := cells + 5) (n := slots + 65) (by omega) (by omega) ?_
  refine lv_istore (lv' := [(6, .int (nI k)), (0, .ref b), (1, .ref (ad 0)), (2, .ref (ad 6)), (3, .ref (ad 10)), (4, .ref (ad 11)), (5, .int (nI i))]) hx hb dL_law_648 hl (by decide) rfl (fun ls hl => ?_)
  refine lv_aload_n hx hb dL_law_650 rfl (lv_at hl 3 rfl) ?_
  refine lv_aload_n hx hb dL_law_651 rfl (lv_at hl 1 rfl) ?_
  refine lv_iload hx hb dL_law_652 (lv_at hl 6 rfl) ?_
  refine lv_iconst (v := nI 1) hx hb dL_law_654 rfl ?_
  refine n_iadd hx hb dL_law_655 ?_
  refine l_sld C0 hX hbl hS (j := i + 1) (by omega) hL dL_law_656 ?_
  refine k0_i (rn_L_142 (As := [.int (xs (i + 1))]) (rest := []) (r := 6) C0 (M2 _) hP hS (by omega) h6 rfl ⟨g1, g2⟩ ⟨rm_f g3, rm_l g4 (by decide)⟩ hl.1 rfl (Nat.le_of_ble_eq_true rfl) dL_law_657 ⟨hc1, hs1⟩) C0 hP hS (fun v2 c2 H locs hp hP hS => ?_)
  obtain ⟨sc', st', nw', ah', rw', fo', hI', hk⟩ := M3 _ _ hp
  refine lv_istore (lv' := [(7, .int v2), (6, .int (nI k)), (0, .ref b), (1, .ref (ad 0)), (2, .ref (ad 6)), (3, .ref (ad 10)), (4, .ref (ad 11)), (5, .int (nI i))]) hx hb dL_law_660 hl (by decide) rfl (fun ls hl => ?_)
  refine lv_aload_n hx hb dL_law_662 rfl (lv_at hl 4 rfl) ?_
  refine k0_i (rn_L_114 (As := []) (rest := []) (r := 6) C0 (m_X2_thrown l D cA N ad c2 (nI k) n nw' ah' rw' (by omega) hI'.mo hI'.n5 _) hP hS (by omega) hI'.mo.1 rfl ⟨rfl, rfl⟩ ⟨Nat.le_of_ble_eq_true rfl, Nat.le_of_ble_eq_true rfl⟩ hl.1 rfl (Nat.le_of_ble_eq_true rfl) dL_law_663 ⟨hc1, hs1⟩) C0 hP hS (fun v3 c3 H locs hp hP hS => ?_)
  obtain ⟨rfl, rfl⟩ := hp
  refine lv_iload hx hb dL_law_666 (lv_at hl 1 rfl) ?_
  refine lv_icmp_eq (tgt := 673) hx hb dL_law_668 (by decide) (fun _ => ?_) (fun h => absurd rfl h)
  refine lv_iload hx hb dL_law_673 (lv_at hl 1 rfl) ?_
  refine lv_if_ne (tgt := 690) hx hb dL_law_675 (by decide) (fun _ => ?_) (fun h => ?_)
  · skip
    refine lv_goto (tgt := 2048) hx hb dL_law_690 (by decide) ?_
    exact hT N n ad c2 sc' st' (nI k) nw' ah' rw' fo' fd C0 hI' _ _ _ hP hS (lv_sub hl [2, 3, 4, 5, 6, 7] rfl)
  · skip
    refine lv_aload_n hx hb dL_law_678 rfl (lv_at hl 5 rfl) ?_
    refine lv_iconst (v := nI 0) hx hb dL_law_679 rfl ?_
    refine a_lld C0 hP (r := 10) (by omega) hI'.out (by decide) (by decide) dL_law_680 ?_
    refine lv_iload hx hb dL_law_681 (lv_at hl 0 rfl) ?_
    refine lv_i2l (v := v2.toInt64) hx hb dL_law_683 rfl ?_
    refine W.lcmp hx hb dL_law_684 ?_
    rw [lg_same (hk (k0_of r7 h))]
    refine lv_if_eq (tgt := 690) hx hb dL_law_685 (by decide) (fun _ => ?_) (fun h => absurd rfl h)
    refine lv_goto (tgt := 2048) hx hb dL_law_690 (by decide) ?_
    exact hT N n ad c2 sc' st' (nI k) nw' ah' rw' fo' fd C0 hI' _ _ _ hP hS (lv_sub hl [2, 3, 4, 5, 6, 7] rfl)
set_option maxHeartbeats 1000000 in
set_option maxRecDepth 10000 in
theorem lc_roomOf {p : Program} {e : Env} {s : State} {m : MethodId} {below : List Frame} {meth : Method} {c0 : Code} {H : Heap} {locs : List Loc} {ls : Array Slot} {Q : State → Prop} (l : Launch) (hfl : l.stackTraces = false) (D : va_G) (cA : Nat → ClassId) (N : Nat) (ad : Nat → Nat) (c : Nat → va_E) (b L : Nat) (xs : Nat → Int32) (n : Nat) (sc : Nat → Nat → Nat) (st : Nat → Nat → Nat → Int32) (th : Int32) (nw ah rw : Nat → Int32) (fo : Nat → Int64) (fd : Nat → UInt64) (B i cells slots : Nat) (C0 : Cx p s m c0 cL_law 9 RL D cA N ad (fun q => s.heap.size ≤ q)) (hX : va_X b L xs s s.heap) (hbl : b < s.heap.size) (hi : i + 5 ≤ L) (hL : L ≤ 2560) (hI : Inv ad cA c N n sc st th nw ah rw fo fd B) (hB : B ≤ 110000) (hc1 : cells + 5 ≤ 601024) (hs1 : slots + 65 ≤ 7293034) (hT : LTail p l e s m below meth c0 Q D cA b (cells + 5) (slots + 65) i (B + 200)) (hP : va_P D vwCl (wl N ad c) H) (hS : va_S (fun q => s.heap.size ≤ q) s.heap H locs) (hl : lv_has ls 9 [(0, .ref b), (1, .ref (ad 0)), (2, .ref (ad 6)), (3, .ref (ad 10)), (4, .ref (ad 11)), (5, .int (nI i))]) : W p l e room_1 s m #[Value.ref b] below meth c0 H locs cells slots Q (F0 m 693 ls []) := by
  have hx := C0.1
  have hb := C0.2.1
  have hN := hI.hN
  have hn5 := hI.n5
  obtain ⟨rm, mc, ms, k, R1, r1, r2, r3, r4, r5, r6, r7, M, M2⟩ := s_roomOf l D cA N ad c hfl n sc st th nw ah rw fo fd B hI hB (xs (i + 1))
  refine lv_aload_n hx hb dL_law_693 rfl (lv_at hl 1 rfl) ?_
  refine lv_aload_n hx hb dL_law_694 rfl (lv_at hl 0 rfl) ?_
  refine lv_iload hx hb dL_law_695 (lv_at hl 5 rfl) ?_
  refine lv_iconst (v := nI 1) hx hb dL_law_697 rfl ?_
  refine n_iadd hx hb dL_law_698 ?_
  refine l_sld C0 hX hbl hS (j := i + 1) (by omega) hL dL_law_699 ?_
  refine lv_aload_n hx hb dL_law_700 rfl (lv_at hl 3 rfl) ?_
  refine k_i (rn_L_143 (As := [.ref (ad 0), .int (xs (i + 1)), .ref (ad 10)]) (rest := []) C0 (M _) hP hS rfl ⟨r1, r2⟩ ⟨rm_f r3, rm_l r4 (by decide)⟩ hl.1 rfl (Nat.le_of_ble_eq_true rfl) dL_law_701 ⟨rm_c hc1 (by omega), rm_s hs1 (by omega)⟩) C0 hP hS (fun v1 c1 H locs hp hP hS => ?_)
  obtain ⟨rfl, hR1⟩ := hp
  obtain ⟨⟨fs, h6⟩, rm2, R2, g1, g2, g3, g4, M2, M3⟩ := M2 _ hR1
  refine W.widen (k := cells + 5) (n := slots + 65) (by omega) (by omega) ?_
  refine lv_istore (lv' := [(6, .int (nI k)), (0, .ref b), (1, .ref (ad 0)), (2, .ref (ad 6)), (3, .ref (ad 10)), (4, .ref (ad 11)), (5, .int (nI i))]) hx hb dL_law_704 hl (by decide) rfl (fun ls hl => ?_)
  refine lv_aload_n hx hb dL_law_706 rfl (lv_at hl 3 rfl) ?_
  refine lv_aload_n hx hb dL_law_707 rfl (lv_at hl 1 rfl) ?_
  refine lv_iload hx hb dL_law_708 (lv_at hl 6 rfl) ?_
  refine lv_iconst (v := nI 1) hx hb dL_law_710 rfl ?_
  refine n_iadd hx hb dL_law_711 ?_
  refine l_sld C0 hX hbl hS (j := i + 1) (by omega) hL dL_law_712 ?_
  refine k0_i (rn_L_145 (As := [.int (xs (i + 1))]) (rest := []) (r := 6) C0 (M2 _) hP hS (by omega) h6 rfl ⟨g1, g2⟩ ⟨rm_f g3, rm_l g4 (by decide)⟩ hl.1 rfl (Nat.le_of_ble_eq_true rfl) dL_law_713 ⟨hc1, hs1⟩) C0 hP hS (fun v2 c2 H locs hp hP hS => ?_)
  obtain ⟨sc', st', nw', ah', rw', fo', hI', hk⟩ := M3 _ _ hp
  refine lv_istore (lv' := [(7, .int v2), (6, .int (nI k)), (0, .ref b), (1, .ref (ad 0)), (2, .ref (ad 6)), (3, .ref (ad 10)), (4, .ref (ad 11)), (5, .int (nI i))]) hx hb dL_law_716 hl (by decide) rfl (fun ls hl => ?_)
  refine lv_aload_n hx hb dL_law_718 rfl (lv_at hl 4 rfl) ?_
  refine k0_i (rn_L_114 (As := []) (rest := []) (r := 6) C0 (m_X2_thrown l D cA N ad c2 (nI k) n nw' ah' rw' (by omega) hI'.mo hI'.n5 _) hP hS (by omega) hI'.mo.1 rfl ⟨rfl, rfl⟩ ⟨Nat.le_of_ble_eq_true rfl, Nat.le_of_ble_eq_true rfl⟩ hl.1 rfl (Nat.le_of_ble_eq_true rfl) dL_law_719 ⟨hc1, hs1⟩) C0 hP hS (fun v3 c3 H locs hp hP hS => ?_)
  obtain ⟨rfl, rfl⟩ := hp
  refine lv_iload hx hb dL_law_722 (lv_at hl 1 rfl) ?_
  refine lv_icmp_eq (tgt := 729) hx hb dL_law_724 (by decide) (fun _ => ?_) (fun h => absurd rfl h)
  refine lv_iload hx hb dL_law_729 (lv_at hl 1 rfl) ?_
  refine lv_if_ne (tgt := 746) hx hb dL_law_731 (by decide) (fun _ => ?_) (fun h => ?_)
  · skip
    refine lv_goto (tgt := 2048) hx hb dL_law_746 (by decide) ?_
    exact hT N n ad c2 sc' st' (nI k) nw' ah' rw' fo' fd C0 hI' _ _ _ hP hS (lv_sub hl [2, 3, 4, 5, 6, 7] rfl)
  · skip
    refine lv_aload_n hx hb dL_law_734 rfl (lv_at hl 5 rfl) ?_
    refine lv_iconst (v := nI 0) hx hb dL_law_735 rfl ?_
    refine a_lld C0 hP (r := 10) (by omega) hI'.out (by decide) (by decide) dL_law_736 ?_
    refine lv_iload hx hb dL_law_737 (lv_at hl 0 rfl) ?_
    refine lv_i2l (v := v2.toInt64) hx hb dL_law_739 rfl ?_
    refine W.lcmp hx hb dL_law_740 ?_
    rw [lg_same (hk (k0_of r7 h))]
    refine lv_if_eq (tgt := 746) hx hb dL_law_741 (by decide) (fun _ => ?_) (fun h => absurd rfl h)
    refine lv_goto (tgt := 2048) hx hb dL_law_746 (by decide) ?_
    exact hT N n ad c2 sc' st' (nI k) nw' ah' rw' fo' fd C0 hI' _ _ _ hP hS (lv_sub hl [2, 3, 4, 5, 6, 7] rfl)
set_option maxHeartbeats 1000000 in
set_option maxRecDepth 10000 in
theorem lc_seenBy {p : Program} {e : Env} {s : State} {m : MethodId} {below : List Frame} {meth : Method} {c0 : Code} {H : Heap} {locs : List Loc} {ls : Array Slot} {Q : State → Prop} (l : Launch) (hfl : l.stackTraces = false) (D : va_G) (cA : Nat → ClassId) (N : Nat) (ad : Nat → Nat) (c : Nat → va_E) (b L : Nat) (xs : Nat → Int32) (n : Nat) (sc : Nat → Nat → Nat) (st : Nat → Nat → Nat → Int32) (th : Int32) (nw ah rw : Nat → Int32) (fo : Nat → Int64) (fd : Nat → UInt64) (B i cells slots : Nat) (C0 : Cx p s m c0 cL_law 9 RL D cA N ad (fun q => s.heap.size ≤ q)) (hX : va_X b L xs s s.heap) (hbl : b < s.heap.size) (hi : i + 5 ≤ L) (hL : L ≤ 2560) (hI : Inv ad cA c N n sc st th nw ah rw fo fd B) (hB : B ≤ 110000) (hc1 : cells + 5 ≤ 601024) (hs1 : slots + 65 ≤ 7293034) (hT : LTail p l e s m below meth c0 Q D cA b (cells + 5) (slots + 65) i (B + 200)) (hP : va_P D vwCl (wl N ad c) H) (hS : va_S (fun q => s.heap.size ≤ q) s.heap H locs) (hl : lv_has ls 9 [(0, .ref b), (1, .ref (ad 0)), (2, .ref (ad 6)), (3, .ref (ad 10)), (4, .ref (ad 11)), (5, .int (nI i))]) : W p l e room_1 s m #[Value.ref b] below meth c0 H locs cells slots Q (F0 m 749 ls []) := by
  have hx := C0.1
  have hb := C0.2.1
  have hN := hI.hN
  have hn5 := hI.n5
  obtain ⟨rm, mc, ms, k, R1, r1, r2, r3, r4, r5, r6, r7, M, M2⟩ := s_seenBy l D cA N ad c hfl n sc st th nw ah rw fo fd B hI hB (xs (i + 1))
  refine lv_aload_n hx hb dL_law_749 rfl (lv_at hl 1 rfl) ?_
  refine lv_aload_n hx hb dL_law_750 rfl (lv_at hl 0 rfl) ?_
  refine lv_iload hx hb dL_law_751 (lv_at hl 5 rfl) ?_
  refine lv_iconst (v := nI 1) hx hb dL_law_753 rfl ?_
  refine n_iadd hx hb dL_law_754 ?_
  refine l_sld C0 hX hbl hS (j := i + 1) (by omega) hL dL_law_755 ?_
  refine lv_aload_n hx hb dL_law_756 rfl (lv_at hl 3 rfl) ?_
  refine k_i (rn_L_146 (As := [.ref (ad 0), .int (xs (i + 1)), .ref (ad 10)]) (rest := []) C0 (M _) hP hS rfl ⟨r1, r2⟩ ⟨rm_f r3, rm_l r4 (by decide)⟩ hl.1 rfl (Nat.le_of_ble_eq_true rfl) dL_law_757 ⟨rm_c hc1 (by omega), rm_s hs1 (by omega)⟩) C0 hP hS (fun v1 c1 H locs hp hP hS => ?_)
  obtain ⟨rfl, hR1⟩ := hp
  obtain ⟨⟨fs, h6⟩, rm2, R2, g1, g2, g3, g4, M2, M3⟩ := M2 _ hR1
  refine W.widen (k := cells + 5) (n := slots + 65) (by omega) (by omega) ?_
  refine lv_istore (lv' := [(6, .int (nI k)), (0, .ref b), (1, .ref (ad 0)), (2, .ref (ad 6)), (3, .ref (ad 10)), (4, .ref (ad 11)), (5, .int (nI i))]) hx hb dL_law_760 hl (by decide) rfl (fun ls hl => ?_)
  refine lv_aload_n hx hb dL_law_762 rfl (lv_at hl 3 rfl) ?_
  refine lv_aload_n hx hb dL_law_763 rfl (lv_at hl 1 rfl) ?_
  refine lv_iload hx hb dL_law_764 (lv_at hl 6 rfl) ?_
  refine lv_iconst (v := nI 1) hx hb dL_law_766 rfl ?_
  refine n_iadd hx hb dL_law_767 ?_
  refine l_sld C0 hX hbl hS (j := i + 1) (by omega) hL dL_law_768 ?_
  refine k0_i (rn_L_148 (As := [.int (xs (i + 1))]) (rest := []) (r := 6) C0 (M2 _) hP hS (by omega) h6 rfl ⟨g1, g2⟩ ⟨rm_f g3, rm_l g4 (by decide)⟩ hl.1 rfl (Nat.le_of_ble_eq_true rfl) dL_law_769 ⟨hc1, hs1⟩) C0 hP hS (fun v2 c2 H locs hp hP hS => ?_)
  obtain ⟨sc', st', nw', ah', rw', fo', hI', hk⟩ := M3 _ _ hp
  refine lv_istore (lv' := [(7, .int v2), (6, .int (nI k)), (0, .ref b), (1, .ref (ad 0)), (2, .ref (ad 6)), (3, .ref (ad 10)), (4, .ref (ad 11)), (5, .int (nI i))]) hx hb dL_law_772 hl (by decide) rfl (fun ls hl => ?_)
  refine lv_aload_n hx hb dL_law_774 rfl (lv_at hl 4 rfl) ?_
  refine k0_i (rn_L_114 (As := []) (rest := []) (r := 6) C0 (m_X2_thrown l D cA N ad c2 (nI k) n nw' ah' rw' (by omega) hI'.mo hI'.n5 _) hP hS (by omega) hI'.mo.1 rfl ⟨rfl, rfl⟩ ⟨Nat.le_of_ble_eq_true rfl, Nat.le_of_ble_eq_true rfl⟩ hl.1 rfl (Nat.le_of_ble_eq_true rfl) dL_law_775 ⟨hc1, hs1⟩) C0 hP hS (fun v3 c3 H locs hp hP hS => ?_)
  obtain ⟨rfl, rfl⟩ := hp
  refine lv_iload hx hb dL_law_778 (lv_at hl 1 rfl) ?_
  refine lv_icmp_eq (tgt := 785) hx hb dL_law_780 (by decide) (fun _ => ?_) (fun h => absurd rfl h)
  refine lv_iload hx hb dL_law_785 (lv_at hl 1 rfl) ?_
  refine lv_if_ne (tgt := 802) hx hb dL_law_787 (by decide) (fun _ => ?_) (fun h => ?_)
  · skip
    refine lv_goto (tgt := 2048) hx hb dL_law_802 (by decide) ?_
    exact hT N n ad c2 sc' st' (nI k) nw' ah' rw' fo' fd C0 hI' _ _ _ hP hS (lv_sub hl [2, 3, 4, 5, 6, 7] rfl)
  · skip
    refine lv_aload_n hx hb dL_law_790 rfl (lv_at hl 5 rfl) ?_
    refine lv_iconst (v := nI 0) hx hb dL_law_791 rfl ?_
    refine a_lld C0 hP (r := 10) (by omega) hI'.out (by decide) (by decide) dL_law_792 ?_
    refine lv_iload hx hb dL_law_793 (lv_at hl 0 rfl) ?_
    refine lv_i2l (v := v2.toInt64) hx hb dL_law_795 rfl ?_
    refine W.lcmp hx hb dL_law_796 ?_
    rw [lg_same (hk (k0_of r7 h))]
    refine lv_if_eq (tgt := 802) hx hb dL_law_797 (by decide) (fun _ => ?_) (fun h => absurd rfl h)
    refine lv_goto (tgt := 2048) hx hb dL_law_802 (by decide) ?_
    exact hT N n ad c2 sc' st' (nI k) nw' ah' rw' fo' fd C0 hI' _ _ _ hP hS (lv_sub hl [2, 3, 4, 5, 6, 7] rfl)
set_option maxHeartbeats 1000000 in
set_option maxRecDepth 10000 in
theorem lc_loadOf {p : Program} {e : Env} {s : State} {m : MethodId} {below : List Frame} {meth : Method} {c0 : Code} {H : Heap} {locs : List Loc} {ls : Array Slot} {Q : State → Prop} (l : Launch) (hfl : l.stackTraces = false) (D : va_G) (cA : Nat → ClassId) (N : Nat) (ad : Nat → Nat) (c : Nat → va_E) (b L : Nat) (xs : Nat → Int32) (n : Nat) (sc : Nat → Nat → Nat) (st : Nat → Nat → Nat → Int32) (th : Int32) (nw ah rw : Nat → Int32) (fo : Nat → Int64) (fd : Nat → UInt64) (B i cells slots : Nat) (C0 : Cx p s m c0 cL_law 9 RL D cA N ad (fun q => s.heap.size ≤ q)) (hX : va_X b L xs s s.heap) (hbl : b < s.heap.size) (hi : i + 5 ≤ L) (hL : L ≤ 2560) (hI : Inv ad cA c N n sc st th nw ah rw fo fd B) (hB : B ≤ 110000) (hc1 : cells + 5 ≤ 601024) (hs1 : slots + 65 ≤ 7293034) (hT : LTail p l e s m below meth c0 Q D cA b (cells + 5) (slots + 65) i (B + 200)) (hP : va_P D vwCl (wl N ad c) H) (hS : va_S (fun q => s.heap.size ≤ q) s.heap H locs) (hl : lv_has ls 9 [(0, .ref b), (1, .ref (ad 0)), (2, .ref (ad 6)), (3, .ref (ad 10)), (4, .ref (ad 11)), (5, .int (nI i))]) : W p l e room_1 s m #[Value.ref b] below meth c0 H locs cells slots Q (F0 m 805 ls []) := by
  have hx := C0.1
  have hb := C0.2.1
  have hN := hI.hN
  have hn5 := hI.n5
  obtain ⟨rm, mc, ms, k, R1, r1, r2, r3, r4, r5, r6, r7, M, M2⟩ := s_loadOf l D cA N ad c hfl n sc st th nw ah rw fo fd B hI hB (xs (i + 1))
  refine lv_aload_n hx hb dL_law_805 rfl (lv_at hl 1 rfl) ?_
  refine lv_aload_n hx hb dL_law_806 rfl (lv_at hl 0 rfl) ?_
  refine lv_iload hx hb dL_law_807 (lv_at hl 5 rfl) ?_
  refine lv_iconst (v := nI 1) hx hb dL_law_809 rfl ?_
  refine n_iadd hx hb dL_law_810 ?_
  refine l_sld C0 hX hbl hS (j := i + 1) (by omega) hL dL_law_811 ?_
  refine lv_aload_n hx hb dL_law_812 rfl (lv_at hl 3 rfl) ?_
  refine k_i (rn_L_149 (As := [.ref (ad 0), .int (xs (i + 1)), .ref (ad 10)]) (rest := []) C0 (M _) hP hS rfl ⟨r1, r2⟩ ⟨rm_f r3, rm_l r4 (by decide)⟩ hl.1 rfl (Nat.le_of_ble_eq_true rfl) dL_law_813 ⟨rm_c hc1 (by omega), rm_s hs1 (by omega)⟩) C0 hP hS (fun v1 c1 H locs hp hP hS => ?_)
  obtain ⟨rfl, hR1⟩ := hp
  obtain ⟨⟨fs, h6⟩, rm2, R2, g1, g2, g3, g4, M2, M3⟩ := M2 _ hR1
  refine W.widen (k := cells + 5) (n := slots + 65) (by omega) (by omega) ?_
  refine lv_istore (lv' := [(6, .int (nI k)), (0, .ref b), (1, .ref (ad 0)), (2, .ref (ad 6)), (3, .ref (ad 10)), (4, .ref (ad 11)), (5, .int (nI i))]) hx hb dL_law_816 hl (by decide) rfl (fun ls hl => ?_)
  refine lv_aload_n hx hb dL_law_818 rfl (lv_at hl 3 rfl) ?_
  refine lv_aload_n hx hb dL_law_819 rfl (lv_at hl 1 rfl) ?_
  refine lv_iload hx hb dL_law_820 (lv_at hl 6 rfl) ?_
  refine lv_iconst (v := nI 1) hx hb dL_law_822 rfl ?_
  refine n_iadd hx hb dL_law_823 ?_
  refine l_sld C0 hX hbl hS (j := i + 1) (by omega) hL dL_law_824 ?_
  refine k0_i (rn_L_151 (As := [.int (xs (i + 1))]) (rest := []) (r := 6) C0 (M2 _) hP hS (by omega) h6 rfl ⟨g1, g2⟩ ⟨rm_f g3, rm_l g4 (by decide)⟩ hl.1 rfl (Nat.le_of_ble_eq_true rfl) dL_law_825 ⟨hc1, hs1⟩) C0 hP hS (fun v2 c2 H locs hp hP hS => ?_)
  obtain ⟨sc', st', nw', ah', rw', fo', hI', hk⟩ := M3 _ _ hp
  refine lv_istore (lv' := [(7, .int v2), (6, .int (nI k)), (0, .ref b), (1, .ref (ad 0)), (2, .ref (ad 6)), (3, .ref (ad 10)), (4, .ref (ad 11)), (5, .int (nI i))]) hx hb dL_law_828 hl (by decide) rfl (fun ls hl => ?_)
  refine lv_aload_n hx hb dL_law_830 rfl (lv_at hl 4 rfl) ?_
  refine k0_i (rn_L_114 (As := []) (rest := []) (r := 6) C0 (m_X2_thrown l D cA N ad c2 (nI k) n nw' ah' rw' (by omega) hI'.mo hI'.n5 _) hP hS (by omega) hI'.mo.1 rfl ⟨rfl, rfl⟩ ⟨Nat.le_of_ble_eq_true rfl, Nat.le_of_ble_eq_true rfl⟩ hl.1 rfl (Nat.le_of_ble_eq_true rfl) dL_law_831 ⟨hc1, hs1⟩) C0 hP hS (fun v3 c3 H locs hp hP hS => ?_)
  obtain ⟨rfl, rfl⟩ := hp
  refine lv_iload hx hb dL_law_834 (lv_at hl 1 rfl) ?_
  refine lv_icmp_eq (tgt := 841) hx hb dL_law_836 (by decide) (fun _ => ?_) (fun h => absurd rfl h)
  refine lv_iload hx hb dL_law_841 (lv_at hl 1 rfl) ?_
  refine lv_if_ne (tgt := 858) hx hb dL_law_843 (by decide) (fun _ => ?_) (fun h => ?_)
  · skip
    refine lv_goto (tgt := 2048) hx hb dL_law_858 (by decide) ?_
    exact hT N n ad c2 sc' st' (nI k) nw' ah' rw' fo' fd C0 hI' _ _ _ hP hS (lv_sub hl [2, 3, 4, 5, 6, 7] rfl)
  · skip
    refine lv_aload_n hx hb dL_law_846 rfl (lv_at hl 5 rfl) ?_
    refine lv_iconst (v := nI 0) hx hb dL_law_847 rfl ?_
    refine a_lld C0 hP (r := 10) (by omega) hI'.out (by decide) (by decide) dL_law_848 ?_
    refine lv_iload hx hb dL_law_849 (lv_at hl 0 rfl) ?_
    refine lv_i2l (v := v2.toInt64) hx hb dL_law_851 rfl ?_
    refine W.lcmp hx hb dL_law_852 ?_
    rw [lg_same (hk (k0_of r7 h))]
    refine lv_if_eq (tgt := 858) hx hb dL_law_853 (by decide) (fun _ => ?_) (fun h => absurd rfl h)
    refine lv_goto (tgt := 2048) hx hb dL_law_858 (by decide) ?_
    exact hT N n ad c2 sc' st' (nI k) nw' ah' rw' fo' fd C0 hI' _ _ _ hP hS (lv_sub hl [2, 3, 4, 5, 6, 7] rfl)
set_option maxHeartbeats 1000000 in
set_option maxRecDepth 10000 in
theorem lc_luckOf {p : Program} {e : Env} {s : State} {m : MethodId} {below : List Frame} {meth : Method} {c0 : Code} {H : Heap} {locs : List Loc} {ls : Array Slot} {Q : State → Prop} (l : Launch) (hfl : l.stackTraces = false) (D : va_G) (cA : Nat → ClassId) (N : Nat) (ad : Nat → Nat) (c : Nat → va_E) (b L : Nat) (xs : Nat → Int32) (n : Nat) (sc : Nat → Nat → Nat) (st : Nat → Nat → Nat → Int32) (th : Int32) (nw ah rw : Nat → Int32) (fo : Nat → Int64) (fd : Nat → UInt64) (B i cells slots : Nat) (C0 : Cx p s m c0 cL_law 9 RL D cA N ad (fun q => s.heap.size ≤ q)) (hX : va_X b L xs s s.heap) (hbl : b < s.heap.size) (hi : i + 5 ≤ L) (hL : L ≤ 2560) (hI : Inv ad cA c N n sc st th nw ah rw fo fd B) (hB : B ≤ 110000) (hc1 : cells + 5 ≤ 601024) (hs1 : slots + 65 ≤ 7293034) (hT : LTail p l e s m below meth c0 Q D cA b (cells + 5) (slots + 65) i (B + 200)) (hP : va_P D vwCl (wl N ad c) H) (hS : va_S (fun q => s.heap.size ≤ q) s.heap H locs) (hl : lv_has ls 9 [(0, .ref b), (1, .ref (ad 0)), (2, .ref (ad 6)), (3, .ref (ad 10)), (4, .ref (ad 11)), (5, .int (nI i))]) : W p l e room_1 s m #[Value.ref b] below meth c0 H locs cells slots Q (F0 m 861 ls []) := by
  have hx := C0.1
  have hb := C0.2.1
  have hN := hI.hN
  have hn5 := hI.n5
  obtain ⟨rm, mc, ms, k, R1, r1, r2, r3, r4, r5, r6, r7, M, M2⟩ := s_luckOf l D cA N ad c hfl n sc st th nw ah rw fo fd B hI hB (xs (i + 1))
  refine lv_aload_n hx hb dL_law_861 rfl (lv_at hl 1 rfl) ?_
  refine lv_aload_n hx hb dL_law_862 rfl (lv_at hl 0 rfl) ?_
  refine lv_iload hx hb dL_law_863 (lv_at hl 5 rfl) ?_
  refine lv_iconst (v := nI 1) hx hb dL_law_865 rfl ?_
  refine n_iadd hx hb dL_law_866 ?_
  refine l_sld C0 hX hbl hS (j := i + 1) (by omega) hL dL_law_867 ?_
  refine lv_aload_n hx hb dL_law_868 rfl (lv_at hl 3 rfl) ?_
  refine k_i (rn_L_152 (As := [.ref (ad 0), .int (xs (i + 1)), .ref (ad 10)]) (rest := []) C0 (M _) hP hS rfl ⟨r1, r2⟩ ⟨rm_f r3, rm_l r4 (by decide)⟩ hl.1 rfl (Nat.le_of_ble_eq_true rfl) dL_law_869 ⟨rm_c hc1 (by omega), rm_s hs1 (by omega)⟩) C0 hP hS (fun v1 c1 H locs hp hP hS => ?_)
  obtain ⟨rfl, hR1⟩ := hp
  obtain ⟨⟨fs, h6⟩, rm2, R2, g1, g2, g3, g4, M2, M3⟩ := M2 _ hR1
  refine W.widen (k := cells + 5) (n := slots + 65) (by omega) (by omega) ?_
  refine lv_istore (lv' := [(6, .int (nI k)), (0, .ref b), (1, .ref (ad 0)), (2, .ref (ad 6)), (3, .ref (ad 10)), (4, .ref (ad 11)), (5, .int (nI i))]) hx hb dL_law_872 hl (by decide) rfl (fun ls hl => ?_)
  refine lv_aload_n hx hb dL_law_874 rfl (lv_at hl 3 rfl) ?_
  refine lv_aload_n hx hb dL_law_875 rfl (lv_at hl 1 rfl) ?_
  refine lv_iload hx hb dL_law_876 (lv_at hl 6 rfl) ?_
  refine lv_iconst (v := nI 1) hx hb dL_law_878 rfl ?_
  refine n_iadd hx hb dL_law_879 ?_
  refine l_sld C0 hX hbl hS (j := i + 1) (by omega) hL dL_law_880 ?_
  refine k0_i (rn_L_154 (As := [.int (xs (i + 1))]) (rest := []) (r := 6) C0 (M2 _) hP hS (by omega) h6 rfl ⟨g1, g2⟩ ⟨rm_f g3, rm_l g4 (by decide)⟩ hl.1 rfl (Nat.le_of_ble_eq_true rfl) dL_law_881 ⟨hc1, hs1⟩) C0 hP hS (fun v2 c2 H locs hp hP hS => ?_)
  obtain ⟨sc', st', nw', ah', rw', fo', hI', hk⟩ := M3 _ _ hp
  refine lv_istore (lv' := [(7, .int v2), (6, .int (nI k)), (0, .ref b), (1, .ref (ad 0)), (2, .ref (ad 6)), (3, .ref (ad 10)), (4, .ref (ad 11)), (5, .int (nI i))]) hx hb dL_law_884 hl (by decide) rfl (fun ls hl => ?_)
  refine lv_aload_n hx hb dL_law_886 rfl (lv_at hl 4 rfl) ?_
  refine k0_i (rn_L_114 (As := []) (rest := []) (r := 6) C0 (m_X2_thrown l D cA N ad c2 (nI k) n nw' ah' rw' (by omega) hI'.mo hI'.n5 _) hP hS (by omega) hI'.mo.1 rfl ⟨rfl, rfl⟩ ⟨Nat.le_of_ble_eq_true rfl, Nat.le_of_ble_eq_true rfl⟩ hl.1 rfl (Nat.le_of_ble_eq_true rfl) dL_law_887 ⟨hc1, hs1⟩) C0 hP hS (fun v3 c3 H locs hp hP hS => ?_)
  obtain ⟨rfl, rfl⟩ := hp
  refine lv_iload hx hb dL_law_890 (lv_at hl 1 rfl) ?_
  refine lv_icmp_eq (tgt := 897) hx hb dL_law_892 (by decide) (fun _ => ?_) (fun h => absurd rfl h)
  refine lv_iload hx hb dL_law_897 (lv_at hl 1 rfl) ?_
  refine lv_if_ne (tgt := 914) hx hb dL_law_899 (by decide) (fun _ => ?_) (fun h => ?_)
  · skip
    refine lv_goto (tgt := 2048) hx hb dL_law_914 (by decide) ?_
    exact hT N n ad c2 sc' st' (nI k) nw' ah' rw' fo' fd C0 hI' _ _ _ hP hS (lv_sub hl [2, 3, 4, 5, 6, 7] rfl)
  · skip
    refine lv_aload_n hx hb dL_law_902 rfl (lv_at hl 5 rfl) ?_
    refine lv_iconst (v := nI 0) hx hb dL_law_903 rfl ?_
    refine a_lld C0 hP (r := 10) (by omega) hI'.out (by decide) (by decide) dL_law_904 ?_
    refine lv_iload hx hb dL_law_905 (lv_at hl 0 rfl) ?_
    refine lv_i2l (v := v2.toInt64) hx hb dL_law_907 rfl ?_
    refine W.lcmp hx hb dL_law_908 ?_
    rw [lg_same (hk (k0_of r7 h))]
    refine lv_if_eq (tgt := 914) hx hb dL_law_909 (by decide) (fun _ => ?_) (fun h => absurd rfl h)
    refine lv_goto (tgt := 2048) hx hb dL_law_914 (by decide) ?_
    exact hT N n ad c2 sc' st' (nI k) nw' ah' rw' fo' fd C0 hI' _ _ _ hP hS (lv_sub hl [2, 3, 4, 5, 6, 7] rfl)
set_option maxHeartbeats 1000000 in
set_option maxRecDepth 10000 in
theorem lc_valueAt {p : Program} {e : Env} {s : State} {m : MethodId} {below : List Frame} {meth : Method} {c0 : Code} {H : Heap} {locs : List Loc} {ls : Array Slot} {Q : State → Prop} (l : Launch) (hfl : l.stackTraces = false) (D : va_G) (cA : Nat → ClassId) (N : Nat) (ad : Nat → Nat) (c : Nat → va_E) (b L : Nat) (xs : Nat → Int32) (n : Nat) (sc : Nat → Nat → Nat) (st : Nat → Nat → Nat → Int32) (th : Int32) (nw ah rw : Nat → Int32) (fo : Nat → Int64) (fd : Nat → UInt64) (B i cells slots : Nat) (C0 : Cx p s m c0 cL_law 9 RL D cA N ad (fun q => s.heap.size ≤ q)) (hX : va_X b L xs s s.heap) (hbl : b < s.heap.size) (hi : i + 5 ≤ L) (hL : L ≤ 2560) (hI : Inv ad cA c N n sc st th nw ah rw fo fd B) (hB : B ≤ 110000) (hc1 : cells + 5 ≤ 601024) (hs1 : slots + 65 ≤ 7293034) (hT : LTail p l e s m below meth c0 Q D cA b (cells + 5) (slots + 65) i (B + 200)) (hP : va_P D vwCl (wl N ad c) H) (hS : va_S (fun q => s.heap.size ≤ q) s.heap H locs) (hl : lv_has ls 9 [(0, .ref b), (1, .ref (ad 0)), (2, .ref (ad 6)), (3, .ref (ad 10)), (4, .ref (ad 11)), (5, .int (nI i))]) : W p l e room_1 s m #[Value.ref b] below meth c0 H locs cells slots Q (F0 m 917 ls []) := by
  have hx := C0.1
  have hb := C0.2.1
  have hN := hI.hN
  have hn5 := hI.n5
  obtain ⟨rm, mc, ms, k, R1, r1, r2, r3, r4, r5, r6, r7, M, M2⟩ := s_valueAt l D cA N ad c hfl n sc st th nw ah rw fo fd B hI hB (xs (i + 1)) (xs (i + 2))
  refine lv_aload_n hx hb dL_law_917 rfl (lv_at hl 1 rfl) ?_
  refine lv_aload_n hx hb dL_law_918 rfl (lv_at hl 0 rfl) ?_
  refine lv_iload hx hb dL_law_919 (lv_at hl 5 rfl) ?_
  refine lv_iconst (v := nI 1) hx hb dL_law_921 rfl ?_
  refine n_iadd hx hb dL_law_922 ?_
  refine l_sld C0 hX hbl hS (j := i + 1) (by omega) hL dL_law_923 ?_
  refine lv_aload_n hx hb dL_law_924 rfl (lv_at hl 0 rfl) ?_
  refine lv_iload hx hb dL_law_925 (lv_at hl 5 rfl) ?_
  refine lv_iconst (v := nI 2) hx hb dL_law_927 rfl ?_
  refine n_iadd hx hb dL_law_928 ?_
  refine l_sld C0 hX hbl hS (j := i + 2) (by omega) hL dL_law_929 ?_
  refine lv_aload_n hx hb dL_law_930 rfl (lv_at hl 3 rfl) ?_
  refine k_i (rn_L_155 (As := [.ref (ad 0), .int (xs (i + 1)), .int (xs (i + 2)), .ref (ad 10)]) (rest := []) C0 (M _) hP hS rfl ⟨r1, r2⟩ ⟨rm_f r3, rm_l r4 (by decide)⟩ hl.1 rfl (Nat.le_of_ble_eq_true rfl) dL_law_931 ⟨rm_c hc1 (by omega), rm_s hs1 (by omega)⟩) C0 hP hS (fun v1 c1 H locs hp hP hS => ?_)
  obtain ⟨rfl, hR1⟩ := hp
  obtain ⟨⟨fs, h6⟩, rm2, R2, g1, g2, g3, g4, M2, M3⟩ := M2 _ hR1
  refine W.widen (k := cells + 5) (n := slots + 65) (by omega) (by omega) ?_
  refine lv_istore (lv' := [(6, .int (nI k)), (0, .ref b), (1, .ref (ad 0)), (2, .ref (ad 6)), (3, .ref (ad 10)), (4, .ref (ad 11)), (5, .int (nI i))]) hx hb dL_law_934 hl (by decide) rfl (fun ls hl => ?_)
  refine lv_aload_n hx hb dL_law_936 rfl (lv_at hl 3 rfl) ?_
  refine lv_aload_n hx hb dL_law_937 rfl (lv_at hl 1 rfl) ?_
  refine lv_iload hx hb dL_law_938 (lv_at hl 6 rfl) ?_
  refine lv_iconst (v := nI 1) hx hb dL_law_940 rfl ?_
  refine n_iadd hx hb dL_law_941 ?_
  refine l_sld C0 hX hbl hS (j := i + 1) (by omega) hL dL_law_942 ?_
  refine lv_aload_n hx hb dL_law_943 rfl (lv_at hl 1 rfl) ?_
  refine lv_iload hx hb dL_law_944 (lv_at hl 6 rfl) ?_
  refine lv_iconst (v := nI 2) hx hb dL_law_946 rfl ?_
  refine n_iadd hx hb dL_law_947 ?_
  refine l_sld C0 hX hbl hS (j := i + 2) (by omega) hL dL_law_948 ?_
  refine k0_i (rn_L_157 (As := [.int (xs (i + 1)), .int (xs (i + 2))]) (rest := []) (r := 6) C0 (M2 _) hP hS (by omega) h6 rfl ⟨g1, g2⟩ ⟨rm_f g3, rm_l g4 (by decide)⟩ hl.1 rfl (Nat.le_of_ble_eq_true rfl) dL_law_949 ⟨hc1, hs1⟩) C0 hP hS (fun v2 c2 H locs hp hP hS => ?_)
  obtain ⟨sc', st', nw', ah', rw', fo', hI', hk⟩ := M3 _ _ hp
  refine lv_istore (lv' := [(7, .int v2), (6, .int (nI k)), (0, .ref b), (1, .ref (ad 0)), (2, .ref (ad 6)), (3, .ref (ad 10)), (4, .ref (ad 11)), (5, .int (nI i))]) hx hb dL_law_952 hl (by decide) rfl (fun ls hl => ?_)
  refine lv_aload_n hx hb dL_law_954 rfl (lv_at hl 4 rfl) ?_
  refine k0_i (rn_L_114 (As := []) (rest := []) (r := 6) C0 (m_X2_thrown l D cA N ad c2 (nI k) n nw' ah' rw' (by omega) hI'.mo hI'.n5 _) hP hS (by omega) hI'.mo.1 rfl ⟨rfl, rfl⟩ ⟨Nat.le_of_ble_eq_true rfl, Nat.le_of_ble_eq_true rfl⟩ hl.1 rfl (Nat.le_of_ble_eq_true rfl) dL_law_955 ⟨hc1, hs1⟩) C0 hP hS (fun v3 c3 H locs hp hP hS => ?_)
  obtain ⟨rfl, rfl⟩ := hp
  refine lv_iload hx hb dL_law_958 (lv_at hl 1 rfl) ?_
  refine lv_icmp_eq (tgt := 965) hx hb dL_law_960 (by decide) (fun _ => ?_) (fun h => absurd rfl h)
  refine lv_iload hx hb dL_law_965 (lv_at hl 1 rfl) ?_
  refine lv_if_ne (tgt := 982) hx hb dL_law_967 (by decide) (fun _ => ?_) (fun h => ?_)
  · skip
    refine lv_goto (tgt := 2048) hx hb dL_law_982 (by decide) ?_
    exact hT N n ad c2 sc' st' (nI k) nw' ah' rw' fo' fd C0 hI' _ _ _ hP hS (lv_sub hl [2, 3, 4, 5, 6, 7] rfl)
  · skip
    refine lv_aload_n hx hb dL_law_970 rfl (lv_at hl 5 rfl) ?_
    refine lv_iconst (v := nI 0) hx hb dL_law_971 rfl ?_
    refine a_lld C0 hP (r := 10) (by omega) hI'.out (by decide) (by decide) dL_law_972 ?_
    refine lv_iload hx hb dL_law_973 (lv_at hl 0 rfl) ?_
    refine lv_i2l (v := v2.toInt64) hx hb dL_law_975 rfl ?_
    refine W.lcmp hx hb dL_law_976 ?_
    rw [lg_same (hk (k0_of r7 h))]
    refine lv_if_eq (tgt := 982) hx hb dL_law_977 (by decide) (fun _ => ?_) (fun h => absurd rfl h)
    refine lv_goto (tgt := 2048) hx hb dL_law_982 (by decide) ?_
    exact hT N n ad c2 sc' st' (nI k) nw' ah' rw' fo' fd C0 hI' _ _ _ hP hS (lv_sub hl [2, 3, 4, 5, 6, 7] rfl)
set_option maxHeartbeats 1000000 in
set_option maxRecDepth 10000 in
theorem lc_weightAt {p : Program} {e : Env} {s : State} {m : MethodId} {below : List Frame} {meth : Method} {c0 : Code} {H : Heap} {locs : List Loc} {ls : Array Slot} {Q : State → Prop} (l : Launch) (hfl : l.stackTraces = false) (D : va_G) (cA : Nat → ClassId) (N : Nat) (ad : Nat → Nat) (c : Nat → va_E) (b L : Nat) (xs : Nat → Int32) (n : Nat) (sc : Nat → Nat → Nat) (st : Nat → Nat → Nat → Int32) (th : Int32) (nw ah rw : Nat → Int32) (fo : Nat → Int64) (fd : Nat → UInt64) (B i cells slots : Nat) (C0 : Cx p s m c0 cL_law 9 RL D cA N ad (fun q => s.heap.size ≤ q)) (hX : va_X b L xs s s.heap) (hbl : b < s.heap.size) (hi : i + 5 ≤ L) (hL : L ≤ 2560) (hI : Inv ad cA c N n sc st th nw ah rw fo fd B) (hB : B ≤ 110000) (hc1 : cells + 5 ≤ 601024) (hs1 : slots + 65 ≤ 7293034) (hT : LTail p l e s m below meth c0 Q D cA b (cells + 5) (slots + 65) i (B + 200)) (hP : va_P D vwCl (wl N ad c) H) (hS : va_S (fun q => s.heap.size ≤ q) s.heap H locs) (hl : lv_has ls 9 [(0, .ref b), (1, .ref (ad 0)), (2, .ref (ad 6)), (3, .ref (ad 10)), (4, .ref (ad 11)), (5, .int (nI i))]) : W p l e room_1 s m #[Value.ref b] below meth c0 H locs cells slots Q (F0 m 985 ls []) := by
  have hx := C0.1
  have hb := C0.2.1
  have hN := hI.hN
  have hn5 := hI.n5
  obtain ⟨rm, mc, ms, k, R1, r1, r2, r3, r4, r5, r6, r7, M, M2⟩ := s_weightAt l D cA N ad c hfl n sc st th nw ah rw fo fd B hI hB (xs (i + 1)) (xs (i + 2))
  refine lv_aload_n hx hb dL_law_985 rfl (lv_at hl 1 rfl) ?_
  refine lv_aload_n hx hb dL_law_986 rfl (lv_at hl 0 rfl) ?_
  refine lv_iload hx hb dL_law_987 (lv_at hl 5 rfl) ?_
  refine lv_iconst (v := nI 1) hx hb dL_law_989 rfl ?_
  refine n_iadd hx hb dL_law_990 ?_
  refine l_sld C0 hX hbl hS (j := i + 1) (by omega) hL dL_law_991 ?_
  refine lv_aload_n hx hb dL_law_992 rfl (lv_at hl 0 rfl) ?_
  refine lv_iload hx hb dL_law_993 (lv_at hl 5 rfl) ?_
  refine lv_iconst (v := nI 2) hx hb dL_law_995 rfl ?_
  refine n_iadd hx hb dL_law_996 ?_
  refine l_sld C0 hX hbl hS (j := i + 2) (by omega) hL dL_law_997 ?_
  refine lv_aload_n hx hb dL_law_998 rfl (lv_at hl 3 rfl) ?_
  refine k_i (rn_L_158 (As := [.ref (ad 0), .int (xs (i + 1)), .int (xs (i + 2)), .ref (ad 10)]) (rest := []) C0 (M _) hP hS rfl ⟨r1, r2⟩ ⟨rm_f r3, rm_l r4 (by decide)⟩ hl.1 rfl (Nat.le_of_ble_eq_true rfl) dL_law_999 ⟨rm_c hc1 (by omega), rm_s hs1 (by omega)⟩) C0 hP hS (fun v1 c1 H locs hp hP hS => ?_)
  obtain ⟨rfl, hR1⟩ := hp
  obtain ⟨⟨fs, h6⟩, rm2, R2, g1, g2, g3, g4, M2, M3⟩ := M2 _ hR1
  refine W.widen (k := cells + 5) (n := slots + 65) (by omega) (by omega) ?_
  refine lv_istore (lv' := [(6, .int (nI k)), (0, .ref b), (1, .ref (ad 0)), (2, .ref (ad 6)), (3, .ref (ad 10)), (4, .ref (ad 11)), (5, .int (nI i))]) hx hb dL_law_1002 hl (by decide) rfl (fun ls hl => ?_)
  refine lv_aload_n hx hb dL_law_1004 rfl (lv_at hl 3 rfl) ?_
  refine lv_aload_n hx hb dL_law_1005 rfl (lv_at hl 1 rfl) ?_
  refine lv_iload hx hb dL_law_1006 (lv_at hl 6 rfl) ?_
  refine lv_iconst (v := nI 1) hx hb dL_law_1008 rfl ?_
  refine n_iadd hx hb dL_law_1009 ?_
  refine l_sld C0 hX hbl hS (j := i + 1) (by omega) hL dL_law_1010 ?_
  refine lv_aload_n hx hb dL_law_1011 rfl (lv_at hl 1 rfl) ?_
  refine lv_iload hx hb dL_law_1012 (lv_at hl 6 rfl) ?_
  refine lv_iconst (v := nI 2) hx hb dL_law_1014 rfl ?_
  refine n_iadd hx hb dL_law_1015 ?_
  refine l_sld C0 hX hbl hS (j := i + 2) (by omega) hL dL_law_1016 ?_
  refine k0_i (rn_L_160 (As := [.int (xs (i + 1)), .int (xs (i + 2))]) (rest := []) (r := 6) C0 (M2 _) hP hS (by omega) h6 rfl ⟨g1, g2⟩ ⟨rm_f g3, rm_l g4 (by decide)⟩ hl.1 rfl (Nat.le_of_ble_eq_true rfl) dL_law_1017 ⟨hc1, hs1⟩) C0 hP hS (fun v2 c2 H locs hp hP hS => ?_)
  obtain ⟨sc', st', nw', ah', rw', fo', hI', hk⟩ := M3 _ _ hp
  refine lv_istore (lv' := [(7, .int v2), (6, .int (nI k)), (0, .ref b), (1, .ref (ad 0)), (2, .ref (ad 6)), (3, .ref (ad 10)), (4, .ref (ad 11)), (5, .int (nI i))]) hx hb dL_law_1020 hl (by decide) rfl (fun ls hl => ?_)
  refine lv_aload_n hx hb dL_law_1022 rfl (lv_at hl 4 rfl) ?_
  refine k0_i (rn_L_114 (As := []) (rest := []) (r := 6) C0 (m_X2_thrown l D cA N ad c2 (nI k) n nw' ah' rw' (by omega) hI'.mo hI'.n5 _) hP hS (by omega) hI'.mo.1 rfl ⟨rfl, rfl⟩ ⟨Nat.le_of_ble_eq_true rfl, Nat.le_of_ble_eq_true rfl⟩ hl.1 rfl (Nat.le_of_ble_eq_true rfl) dL_law_1023 ⟨hc1, hs1⟩) C0 hP hS (fun v3 c3 H locs hp hP hS => ?_)
  obtain ⟨rfl, rfl⟩ := hp
  refine lv_iload hx hb dL_law_1026 (lv_at hl 1 rfl) ?_
  refine lv_icmp_eq (tgt := 1033) hx hb dL_law_1028 (by decide) (fun _ => ?_) (fun h => absurd rfl h)
  refine lv_iload hx hb dL_law_1033 (lv_at hl 1 rfl) ?_
  refine lv_if_ne (tgt := 1050) hx hb dL_law_1035 (by decide) (fun _ => ?_) (fun h => ?_)
  · skip
    refine lv_goto (tgt := 2048) hx hb dL_law_1050 (by decide) ?_
    exact hT N n ad c2 sc' st' (nI k) nw' ah' rw' fo' fd C0 hI' _ _ _ hP hS (lv_sub hl [2, 3, 4, 5, 6, 7] rfl)
  · skip
    refine lv_aload_n hx hb dL_law_1038 rfl (lv_at hl 5 rfl) ?_
    refine lv_iconst (v := nI 0) hx hb dL_law_1039 rfl ?_
    refine a_lld C0 hP (r := 10) (by omega) hI'.out (by decide) (by decide) dL_law_1040 ?_
    refine lv_iload hx hb dL_law_1041 (lv_at hl 0 rfl) ?_
    refine lv_i2l (v := v2.toInt64) hx hb dL_law_1043 rfl ?_
    refine W.lcmp hx hb dL_law_1044 ?_
    rw [lg_same (hk (k0_of r7 h))]
    refine lv_if_eq (tgt := 1050) hx hb dL_law_1045 (by decide) (fun _ => ?_) (fun h => absurd rfl h)
    refine lv_goto (tgt := 2048) hx hb dL_law_1050 (by decide) ?_
    exact hT N n ad c2 sc' st' (nI k) nw' ah' rw' fo' fd C0 hI' _ _ _ hP hS (lv_sub hl [2, 3, 4, 5, 6, 7] rfl)
