set_option maxHeartbeats 1000000 in
set_option maxRecDepth 10000 in
theorem t_X1_handAt (l : Launch) (D : va_G) (cA : Nat → ClassId) (N : Nat) (ad : Nat → Nat) (c : Nat → va_E) (hfl : l.stackTraces = false) (n : Nat) (x : Int32) (hN : 12 + 4 * n ≤ N) (hF : FH ad cA c n) (hbad : ∀ i, i < n → x ≠ nI i) : Ct l yX1_handAt wX1_handAt { frames := 6, cells := 1, slots := 6, locals := 82 } [.ref (ad 0), .int x] D cA N ad c 1 6 nIOB := by
  intro sz9
  refine bd_ofT (cc := cX1_handAt) (maxL := 3) (ret := some (Jvm.ClassFile.FieldType.object "FairHandful$Hand")) (by decide) rfl (Nat.le_of_ble_eq_true rfl) ?_
  intro p e s m below meth c0 C0 hr hlk hT hP hS hsz ls hl
  subst hsz
  have hx := C0.1
  have hb := C0.2.1
  have hl : lv_has ls 3 [(0, .ref (ad 0)), (1, .int x)] := hl
  have hn5 := hF.2.2
  refine lv_iload_n hx hb dX1_handAt_0 rfl (lv_at hl 1 rfl) ?_
  refine lv_if_lt (tgt := 22) hx hb dX1_handAt_1 (by decide) (fun h1 => ?_) (fun h1 => ?_)
  · refine lv_null hx hb dX1_handAt_22 ?_
    refine lv_astore_nN (lv' := [(2, .null), (0, .ref (ad 0)), (1, .int x)]) hx hb dX1_handAt_23 rfl hl (by decide) rfl (fun ls hl => ?_)
    refine lv_aload_nN hx hb dX1_handAt_24 rfl (lv_at hl 0 rfl) ?_
    refine lv_ifnonnullN hx hb dX1_handAt_25 ?_
    exact th_S (text := "no such hand") (rest := []) C0 hfl hP hS hlk hT hl (by decide +kernel) ln_IOB at_IOB gd_IOB (by decide +kernel) dX1_handAt_28 dX1_handAt_31 dX1_handAt_32 dX1_handAt_34 dX1_handAt_37 (by decide) (Nat.le_of_ble_eq_true rfl) (by decide) (by decide) (by decide) (by decide)
  · refine lv_iload_n hx hb dX1_handAt_4 rfl (lv_at hl 1 rfl) ?_
    refine lv_aload_n hx hb dX1_handAt_5 rfl (lv_at hl 0 rfl) ?_
    refine gf_X1_11 C0 hP (by omega) hF.1 rfl dX1_handAt_6 ?_
    refine a_lenq C0 hP (by omega) hF.2.1 dX1_handAt_9 ?_
    refine lv_icmp_ge (tgt := 22) hx hb dX1_handAt_10 (by decide) (fun h10 => ?_) (fun h10 => ?_)
    · refine lv_null hx hb dX1_handAt_22 ?_
      refine lv_astore_nN (lv' := [(2, .null), (0, .ref (ad 0)), (1, .int x)]) hx hb dX1_handAt_23 rfl hl (by decide) rfl (fun ls hl => ?_)
      refine lv_aload_nN hx hb dX1_handAt_24 rfl (lv_at hl 0 rfl) ?_
      refine lv_ifnonnullN hx hb dX1_handAt_25 ?_
      exact th_S (text := "no such hand") (rest := []) C0 hfl hP hS hlk hT hl (by decide +kernel) ln_IOB at_IOB gd_IOB (by decide +kernel) dX1_handAt_28 dX1_handAt_31 dX1_handAt_32 dX1_handAt_34 dX1_handAt_37 (by decide) (Nat.le_of_ble_eq_true rfl) (by decide) (by decide) (by decide) (by decide)
    · obtain ⟨j, hj, rfl⟩ := nI_small h1 h10 (by decide)
      have hnj : n ≤ j := Nat.not_lt.mp (fun h => hbad j h rfl)
      refine lv_aload_n hx hb dX1_handAt_13 rfl (lv_at hl 0 rfl) ?_
      refine gf_X1_11 C0 hP (by omega) hF.1 rfl dX1_handAt_14 ?_
      refine lv_iload_n hx hb dX1_handAt_17 rfl (lv_at hl 1 rfl) ?_
      refine a_qld C0 hP (by omega) hF.2.1 (by omega) (by omega) dX1_handAt_18 ?_
      rw [tbl_null hnj]
      refine lv_goto (tgt := 23) hx hb dX1_handAt_19 (by decide) ?_
      refine lv_astore_nN (lv' := [(2, .null), (0, .ref (ad 0)), (1, .int (nI j))]) hx hb dX1_handAt_23 rfl hl (by decide) rfl (fun ls hl => ?_)
      refine lv_aload_nN hx hb dX1_handAt_24 rfl (lv_at hl 0 rfl) ?_
      refine lv_ifnonnullN hx hb dX1_handAt_25 ?_
      exact th_S (text := "no such hand") (rest := []) C0 hfl hP hS hlk hT hl (by decide +kernel) ln_IOB at_IOB gd_IOB (by decide +kernel) dX1_handAt_28 dX1_handAt_31 dX1_handAt_32 dX1_handAt_34 dX1_handAt_37 (by decide) (Nat.le_of_ble_eq_true rfl) (by decide) (by decide) (by decide) (by decide)
set_option maxHeartbeats 1000000 in
set_option maxRecDepth 10000 in
theorem t_X1_handHolding__h (l : Launch) (D : va_G) (cA : Nat → ClassId) (N : Nat) (ad : Nat → Nat) (c : Nat → va_E) (hfl : l.stackTraces = false) (n : Nat) (x y : Int32) (hN : 12 + 4 * n ≤ N) (hF : FH ad cA c n) (hbad : ∀ i, i < n → x ≠ nI i) : Ct l yX1_handHolding wX1_handHolding { frames := 7, cells := 1, slots := 6, locals := 104 } [.ref (ad 0), .int x, .int y] D cA N ad c 1 6 nIOB := by
  intro sz9
  refine bd_ofT (cc := cX1_handHolding) (maxL := 4) (ret := some (Jvm.ClassFile.FieldType.object "FairHandful$Hand")) (by decide) rfl (Nat.le_of_ble_eq_true rfl) ?_
  intro p e s m below meth c0 C0 hr hlk hT hP hS hsz ls hl
  subst hsz
  have hx := C0.1
  have hb := C0.2.1
  have hl : lv_has ls 4 [(0, .ref (ad 0)), (1, .int x), (2, .int y)] := hl
  refine lv_aload_n hx hb dX1_handHolding_0 rfl (lv_at hl 0 rfl) ?_
  refine lv_iload_n hx hb dX1_handHolding_1 rfl (lv_at hl 1 rfl) ?_
  exact kt_out (rx_X1_42 (As := [.int x]) (rest := []) (r := 0) C0 (t_X1_handAt l D cA N ad (c) hfl n (x) hN hF hbad _) hP hS (by omega) hF.1 rfl ⟨rfl, rfl⟩ ⟨by decide, by decide⟩ hl.1 rfl (Nat.le_of_ble_eq_true rfl) dX1_handHolding_2 (by decide)) C0 hP hS hlk hT (by decide) (by decide)
set_option maxHeartbeats 1000000 in
set_option maxRecDepth 10000 in
theorem t_X1_handHolding__p (l : Launch) (D : va_G) (cA : Nat → ClassId) (N : Nat) (ad : Nat → Nat) (c : Nat → va_E) (hfl : l.stackTraces = false) (n : Nat) (i R Y L S D9 K : Nat) (st : Nat → Nat → Int32) (y : Int32) (hN : 12 + 4 * n ≤ N) (hF : FH ad cA c n) (hi : i < n) (hH : HandAt ad cA c (12 + 4 * i) R Y L S D9 K st) (hok : Hok R Y L S D9 K) (hbad : ¬ (¬ y < 0 ∧ y < nI K)) : Ct l yX1_handHolding wX1_handHolding { frames := 6, cells := 1, slots := 6, locals := 82 } [.ref (ad 0), .int (nI i), .int y] D cA N ad c 1 6 nIOB := by
  intro sz9
  refine bd_ofT (cc := cX1_handHolding) (maxL := 4) (ret := some (Jvm.ClassFile.FieldType.object "FairHandful$Hand")) (by decide) rfl (Nat.le_of_ble_eq_true rfl) ?_
  intro p e s m below meth c0 C0 hr hlk hT hP hS hsz ls hl
  subst hsz
  have hx := C0.1
  have hb := C0.2.1
  have hl : lv_has ls 4 [(0, .ref (ad 0)), (1, .int (nI i)), (2, .int y)] := hl
  obtain ⟨q1, q2, q3, q4, q5, q6, q7, q8, q9⟩ := id hok
  refine lv_aload_n hx hb dX1_handHolding_0 rfl (lv_at hl 0 rfl) ?_
  refine lv_iload_n hx hb dX1_handHolding_1 rfl (lv_at hl 1 rfl) ?_
  refine k0_r (rn_X1_42 (As := [.int (nI i)]) (rest := []) (r := 0) C0 (m_X1_handAt l D cA N ad (c) n i (by omega) hF (by omega) (by omega) _) hP hS (by omega) hF.1 rfl ⟨rfl, rfl⟩ ⟨by decide, by decide⟩ hl.1 rfl (Nat.le_of_ble_eq_true rfl) dX1_handHolding_2 ⟨Nat.le_of_ble_eq_true rfl, Nat.le_of_ble_eq_true rfl⟩) C0 hP hS (fun H locs hP hS => ?_)
  refine lv_astore_n (lv' := [(3, .ref (ad (12 + 4 * i))), (0, .ref (ad 0)), (1, .int (nI i)), (2, .int y)]) hx hb dX1_handHolding_5 rfl hl (by decide) rfl (fun ls hl => ?_)
  refine lv_iload_n hx hb dX1_handHolding_6 rfl (lv_at hl 3 rfl) ?_
  refine lv_if_lt (tgt := 18) hx hb dX1_handHolding_7 (by decide) (fun h7 => ?_) (fun h7 => ?_)
  · exact th_S (text := "nothing on this place") (rest := []) C0 hfl hP hS hlk hT hl (by decide +kernel) ln_IOB at_IOB gd_IOB (by decide +kernel) dX1_handHolding_18 dX1_handHolding_21 dX1_handHolding_22 dX1_handHolding_24 dX1_handHolding_27 (by decide) (Nat.le_of_ble_eq_true rfl) (by decide) (by decide) (by decide) (by decide)
  · refine lv_iload_n hx hb dX1_handHolding_10 rfl (lv_at hl 3 rfl) ?_
    refine lv_aload_n hx hb dX1_handHolding_11 rfl (lv_at hl 0 rfl) ?_
    refine gh_X1_81 C0 hP hH (by omega) dX1_handHolding_12 ?_
    refine lv_icmp_lt (tgt := 28) hx hb dX1_handHolding_15 (by decide) (fun h15 => ?_) (fun h15 => ?_)
    · exact absurd ⟨h7, h15⟩ hbad
    · exact th_S (text := "nothing on this place") (rest := []) C0 hfl hP hS hlk hT hl (by decide +kernel) ln_IOB at_IOB gd_IOB (by decide +kernel) dX1_handHolding_18 dX1_handHolding_21 dX1_handHolding_22 dX1_handHolding_24 dX1_handHolding_27 (by decide) (Nat.le_of_ble_eq_true rfl) (by decide) (by decide) (by decide) (by decide)
set_option maxHeartbeats 1000000 in
set_option maxRecDepth 10000 in
theorem t_X1_offer__h (l : Launch) (D : va_G) (cA : Nat → ClassId) (N : Nat) (ad : Nat → Nat) (c : Nat → va_E) (hfl : l.stackTraces = false) (n : Nat) (x y z : Int32) (hN : 12 + 4 * n ≤ N) (hF : FH ad cA c n) (hbad : ∀ i, i < n → x ≠ nI i) : Ct l yX1_offer wX1_offer { frames := 7, cells := 1, slots := 6, locals := 104 } [.ref (ad 0), .int x, .int y, .int z] D cA N ad c 1 6 nIOB := by
  intro sz9
  refine bd_ofT (cc := cX1_offer) (maxL := 5) (ret := some Jvm.ClassFile.FieldType.int) (by decide) rfl (Nat.le_of_ble_eq_true rfl) ?_
  intro p e s m below meth c0 C0 hr hlk hT hP hS hsz ls hl
  subst hsz
  have hx := C0.1
  have hb := C0.2.1
  have hl : lv_has ls 5 [(0, .ref (ad 0)), (1, .int x), (2, .int y), (3, .int z)] := hl
  refine lv_aload_n hx hb dX1_offer_0 rfl (lv_at hl 0 rfl) ?_
  refine lv_iload_n hx hb dX1_offer_1 rfl (lv_at hl 1 rfl) ?_
  exact kt_out (rx_X1_42 (As := [.int x]) (rest := []) (r := 0) C0 (t_X1_handAt l D cA N ad (c) hfl n (x) hN hF hbad _) hP hS (by omega) hF.1 rfl ⟨rfl, rfl⟩ ⟨by decide, by decide⟩ hl.1 rfl (Nat.le_of_ble_eq_true rfl) dX1_offer_2 (by decide)) C0 hP hS hlk hT (by decide) (by decide)
set_option maxHeartbeats 1000000 in
set_option maxRecDepth 10000 in
theorem t_X1_offerRow__h (l : Launch) (D : va_G) (cA : Nat → ClassId) (N : Nat) (ad : Nat → Nat) (c : Nat → va_E) (hfl : l.stackTraces = false) (n : Nat) (x y z u : Int32) (hN : 12 + 4 * n ≤ N) (hF : FH ad cA c n) (hbad : ∀ i, i < n → x ≠ nI i) : Ct l yX1_offerRow wX1_offerRow { frames := 7, cells := 1, slots := 6, locals := 104 } [.ref (ad 0), .int x, .int y, .int z, .int u] D cA N ad c 1 6 nIOB := by
  intro sz9
  refine bd_ofT (cc := cX1_offerRow) (maxL := 10) (ret := some Jvm.ClassFile.FieldType.int) (by decide) rfl (Nat.le_of_ble_eq_true rfl) ?_
  intro p e s m below meth c0 C0 hr hlk hT hP hS hsz ls hl
  subst hsz
  have hx := C0.1
  have hb := C0.2.1
  have hl : lv_has ls 10 [(0, .ref (ad 0)), (1, .int x), (2, .int y), (3, .int z), (4, .int u)] := hl
  refine lv_aload_n hx hb dX1_offerRow_0 rfl (lv_at hl 0 rfl) ?_
  refine lv_iload_n hx hb dX1_offerRow_1 rfl (lv_at hl 1 rfl) ?_
  exact kt_out (rx_X1_42 (As := [.int x]) (rest := []) (r := 0) C0 (t_X1_handAt l D cA N ad (c) hfl n (x) hN hF hbad _) hP hS (by omega) hF.1 rfl ⟨rfl, rfl⟩ ⟨by decide, by decide⟩ hl.1 rfl (Nat.le_of_ble_eq_true rfl) dX1_offerRow_2 (by decide)) C0 hP hS hlk hT (by decide) (by decide)
set_option maxHeartbeats 1000000 in
set_option maxRecDepth 10000 in
theorem t_X1_mix__h (l : Launch) (D : va_G) (cA : Nat → ClassId) (N : Nat) (ad : Nat → Nat) (c : Nat → va_E) (hfl : l.stackTraces = false) (n : Nat) (x : Int32) (hN : 12 + 4 * n ≤ N) (hF : FH ad cA c n) (hbad : ∀ i, i < n → x ≠ nI i) : Ct l yX1_mix wX1_mix { frames := 7, cells := 1, slots := 6, locals := 104 } [.ref (ad 0), .int x] D cA N ad c 1 6 nIOB := by
  intro sz9
  refine bd_ofT (cc := cX1_mix) (maxL := 2) (ret := some Jvm.ClassFile.FieldType.int) (by decide) rfl (Nat.le_of_ble_eq_true rfl) ?_
  intro p e s m below meth c0 C0 hr hlk hT hP hS hsz ls hl
  subst hsz
  have hx := C0.1
  have hb := C0.2.1
  have hl : lv_has ls 2 [(0, .ref (ad 0)), (1, .int x)] := hl
  refine lv_aload_n hx hb dX1_mix_0 rfl (lv_at hl 0 rfl) ?_
  refine lv_iload_n hx hb dX1_mix_1 rfl (lv_at hl 1 rfl) ?_
  exact kt_out (rx_X1_42 (As := [.int x]) (rest := []) (r := 0) C0 (t_X1_handAt l D cA N ad (c) hfl n (x) hN hF hbad _) hP hS (by omega) hF.1 rfl ⟨rfl, rfl⟩ ⟨by decide, by decide⟩ hl.1 rfl (Nat.le_of_ble_eq_true rfl) dX1_mix_2 (by decide)) C0 hP hS hlk hT (by decide) (by decide)
set_option maxHeartbeats 1000000 in
set_option maxRecDepth 10000 in
theorem t_X1_join__h (l : Launch) (D : va_G) (cA : Nat → ClassId) (N : Nat) (ad : Nat → Nat) (c : Nat → va_E) (hfl : l.stackTraces = false) (n : Nat) (x y : Int32) (hN : 12 + 4 * n ≤ N) (hF : FH ad cA c n) (hbad : ∀ i, i < n → x ≠ nI i) : Ct l yX1_join wX1_join { frames := 7, cells := 1, slots := 6, locals := 104 } [.ref (ad 0), .int x, .int y] D cA N ad c 1 6 nIOB := by
  intro sz9
  refine bd_ofT (cc := cX1_join) (maxL := 6) (ret := some Jvm.ClassFile.FieldType.int) (by decide) rfl (Nat.le_of_ble_eq_true rfl) ?_
  intro p e s m below meth c0 C0 hr hlk hT hP hS hsz ls hl
  subst hsz
  have hx := C0.1
  have hb := C0.2.1
  have hl : lv_has ls 6 [(0, .ref (ad 0)), (1, .int x), (2, .int y)] := hl
  refine lv_aload_n hx hb dX1_join_0 rfl (lv_at hl 0 rfl) ?_
  refine lv_iload_n hx hb dX1_join_1 rfl (lv_at hl 1 rfl) ?_
  exact kt_out (rx_X1_42 (As := [.int x]) (rest := []) (r := 0) C0 (t_X1_handAt l D cA N ad (c) hfl n (x) hN hF hbad _) hP hS (by omega) hF.1 rfl ⟨rfl, rfl⟩ ⟨by decide, by decide⟩ hl.1 rfl (Nat.le_of_ble_eq_true rfl) dX1_join_2 (by decide)) C0 hP hS hlk hT (by decide) (by decide)
set_option maxHeartbeats 1000000 in
set_option maxRecDepth 10000 in
theorem t_X1_join__g (l : Launch) (D : va_G) (cA : Nat → ClassId) (N : Nat) (ad : Nat → Nat) (c : Nat → va_E) (hfl : l.stackTraces = false) (n : Nat) (i R Y L S D9 K : Nat) (st : Nat → Nat → Int32) (y : Int32) (hN : 12 + 4 * n ≤ N) (hF : FH ad cA c n) (hi : i < n) (hH : HandAt ad cA c (12 + 4 * i) R Y L S D9 K st) (hok : Hok R Y L S D9 K) (hbad : ∀ i, i < n → y ≠ nI i) : Ct l yX1_join wX1_join { frames := 7, cells := 1, slots := 6, locals := 104 } [.ref (ad 0), .int (nI i), .int y] D cA N ad c 1 6 nIOB := by
  intro sz9
  refine bd_ofT (cc := cX1_join) (maxL := 6) (ret := some Jvm.ClassFile.FieldType.int) (by decide) rfl (Nat.le_of_ble_eq_true rfl) ?_
  intro p e s m below meth c0 C0 hr hlk hT hP hS hsz ls hl
  subst hsz
  have hx := C0.1
  have hb := C0.2.1
  have hl : lv_has ls 6 [(0, .ref (ad 0)), (1, .int (nI i)), (2, .int y)] := hl
  obtain ⟨q1, q2, q3, q4, q5, q6, q7, q8, q9⟩ := id hok
  refine lv_aload_n hx hb dX1_join_0 rfl (lv_at hl 0 rfl) ?_
  refine lv_iload_n hx hb dX1_join_1 rfl (lv_at hl 1 rfl) ?_
  refine k0_r (rn_X1_42 (As := [.int (nI i)]) (rest := []) (r := 0) C0 (m_X1_handAt l D cA N ad (c) n i (by omega) hF (by omega) (by omega) _) hP hS (by omega) hF.1 rfl ⟨rfl, rfl⟩ ⟨by decide, by decide⟩ hl.1 rfl (Nat.le_of_ble_eq_true rfl) dX1_join_2 ⟨Nat.le_of_ble_eq_true rfl, Nat.le_of_ble_eq_true rfl⟩) C0 hP hS (fun H locs hP hS => ?_)
  refine lv_astore_n (lv' := [(3, .ref (ad (12 + 4 * i))), (0, .ref (ad 0)), (1, .int (nI i)), (2, .int y)]) hx hb dX1_join_5 rfl hl (by decide) rfl (fun ls hl => ?_)
  refine lv_aload_n hx hb dX1_join_6 rfl (lv_at hl 1 rfl) ?_
  refine lv_iload_n hx hb dX1_join_7 rfl (lv_at hl 3 rfl) ?_
  exact kt_out (rx_X1_42 (As := [.int y]) (rest := []) (r := 0) C0 (t_X1_handAt l D cA N ad (c) hfl n (y) hN hF hbad _) hP hS (by omega) hF.1 rfl ⟨rfl, rfl⟩ ⟨by decide, by decide⟩ hl.1 rfl (Nat.le_of_ble_eq_true rfl) dX1_join_8 (by decide)) C0 hP hS hlk hT (by decide) (by decide)
set_option maxHeartbeats 1000000 in
set_option maxRecDepth 10000 in
theorem t_X1_setLuck__h (l : Launch) (D : va_G) (cA : Nat → ClassId) (N : Nat) (ad : Nat → Nat) (c : Nat → va_E) (hfl : l.stackTraces = false) (n : Nat) (x y : Int32) (hN : 12 + 4 * n ≤ N) (hF : FH ad cA c n) (hbad : ∀ i, i < n → x ≠ nI i) : Ct l yX1_setLuck wX1_setLuck { frames := 7, cells := 1, slots := 6, locals := 104 } [.ref (ad 0), .int x, .int y] D cA N ad c 1 6 nIOB := by
  intro sz9
  refine bd_ofT (cc := cX1_setLuck) (maxL := 5) (ret := some Jvm.ClassFile.FieldType.int) (by decide) rfl (Nat.le_of_ble_eq_true rfl) ?_
  intro p e s m below meth c0 C0 hr hlk hT hP hS hsz ls hl
  subst hsz
  have hx := C0.1
  have hb := C0.2.1
  have hl : lv_has ls 5 [(0, .ref (ad 0)), (1, .int x), (2, .int y)] := hl
  refine lv_aload_n hx hb dX1_setLuck_0 rfl (lv_at hl 0 rfl) ?_
  refine lv_iload_n hx hb dX1_setLuck_1 rfl (lv_at hl 1 rfl) ?_
  exact kt_out (rx_X1_42 (As := [.int x]) (rest := []) (r := 0) C0 (t_X1_handAt l D cA N ad (c) hfl n (x) hN hF hbad _) hP hS (by omega) hF.1 rfl ⟨rfl, rfl⟩ ⟨by decide, by decide⟩ hl.1 rfl (Nat.le_of_ble_eq_true rfl) dX1_setLuck_2 (by decide)) C0 hP hS hlk hT (by decide) (by decide)
set_option maxHeartbeats 1000000 in
set_option maxRecDepth 10000 in
theorem t_X1_holds__h (l : Launch) (D : va_G) (cA : Nat → ClassId) (N : Nat) (ad : Nat → Nat) (c : Nat → va_E) (hfl : l.stackTraces = false) (n : Nat) (x : Int32) (hN : 12 + 4 * n ≤ N) (hF : FH ad cA c n) (hbad : ∀ i, i < n → x ≠ nI i) : Ct l yX1_holds wX1_holds { frames := 7, cells := 1, slots := 6, locals := 104 } [.ref (ad 0), .int x] D cA N ad c 1 6 nIOB := by
  intro sz9
  refine bd_ofT (cc := cX1_holds) (maxL := 2) (ret := some Jvm.ClassFile.FieldType.int) (by decide) rfl (Nat.le_of_ble_eq_true rfl) ?_
  intro p e s m below meth c0 C0 hr hlk hT hP hS hsz ls hl
  subst hsz
  have hx := C0.1
  have hb := C0.2.1
  have hl : lv_has ls 2 [(0, .ref (ad 0)), (1, .int x)] := hl
  refine lv_aload_n hx hb dX1_holds_0 rfl (lv_at hl 0 rfl) ?_
  refine lv_iload_n hx hb dX1_holds_1 rfl (lv_at hl 1 rfl) ?_
  exact kt_out (rx_X1_42 (As := [.int x]) (rest := []) (r := 0) C0 (t_X1_handAt l D cA N ad (c) hfl n (x) hN hF hbad _) hP hS (by omega) hF.1 rfl ⟨rfl, rfl⟩ ⟨by decide, by decide⟩ hl.1 rfl (Nat.le_of_ble_eq_true rfl) dX1_holds_2 (by decide)) C0 hP hS hlk hT (by decide) (by decide)
set_option maxHeartbeats 1000000 in
set_option maxRecDepth 10000 in
theorem t_X1_roomOf__h (l : Launch) (D : va_G) (cA : Nat → ClassId) (N : Nat) (ad : Nat → Nat) (c : Nat → va_E) (hfl : l.stackTraces = false) (n : Nat) (x : Int32) (hN : 12 + 4 * n ≤ N) (hF : FH ad cA c n) (hbad : ∀ i, i < n → x ≠ nI i) : Ct l yX1_roomOf wX1_roomOf { frames := 7, cells := 1, slots := 6, locals := 104 } [.ref (ad 0), .int x] D cA N ad c 1 6 nIOB := by
  intro sz9
  refine bd_ofT (cc := cX1_roomOf) (maxL := 2) (ret := some Jvm.ClassFile.FieldType.int) (by decide) rfl (Nat.le_of_ble_eq_true rfl) ?_
  intro p e s m below meth c0 C0 hr hlk hT hP hS hsz ls hl
  subst hsz
  have hx := C0.1
  have hb := C0.2.1
  have hl : lv_has ls 2 [(0, .ref (ad 0)), (1, .int x)] := hl
  refine lv_aload_n hx hb dX1_roomOf_0 rfl (lv_at hl 0 rfl) ?_
  refine lv_iload_n hx hb dX1_roomOf_1 rfl (lv_at hl 1 rfl) ?_
  exact kt_out (rx_X1_42 (As := [.int x]) (rest := []) (r := 0) C0 (t_X1_handAt l D cA N ad (c) hfl n (x) hN hF hbad _) hP hS (by omega) hF.1 rfl ⟨rfl, rfl⟩ ⟨by decide, by decide⟩ hl.1 rfl (Nat.le_of_ble_eq_true rfl) dX1_roomOf_2 (by decide)) C0 hP hS hlk hT (by decide) (by decide)
set_option maxHeartbeats 1000000 in
set_option maxRecDepth 10000 in
theorem t_X1_seenBy__h (l : Launch) (D : va_G) (cA : Nat → ClassId) (N : Nat) (ad : Nat → Nat) (c : Nat → va_E) (hfl : l.stackTraces = false) (n : Nat) (x : Int32) (hN : 12 + 4 * n ≤ N) (hF : FH ad cA c n) (hbad : ∀ i, i < n → x ≠ nI i) : Ct l yX1_seenBy wX1_seenBy { frames := 7, cells := 1, slots := 6, locals := 104 } [.ref (ad 0), .int x] D cA N ad c 1 6 nIOB := by
  intro sz9
  refine bd_ofT (cc := cX1_seenBy) (maxL := 2) (ret := some Jvm.ClassFile.FieldType.int) (by decide) rfl (Nat.le_of_ble_eq_true rfl) ?_
  intro p e s m below meth c0 C0 hr hlk hT hP hS hsz ls hl
  subst hsz
  have hx := C0.1
  have hb := C0.2.1
  have hl : lv_has ls 2 [(0, .ref (ad 0)), (1, .int x)] := hl
  refine lv_aload_n hx hb dX1_seenBy_0 rfl (lv_at hl 0 rfl) ?_
  refine lv_iload_n hx hb dX1_seenBy_1 rfl (lv_at hl 1 rfl) ?_
  exact kt_out (rx_X1_42 (As := [.int x]) (rest := []) (r := 0) C0 (t_X1_handAt l D cA N ad (c) hfl n (x) hN hF hbad _) hP hS (by omega) hF.1 rfl ⟨rfl, rfl⟩ ⟨by decide, by decide⟩ hl.1 rfl (Nat.le_of_ble_eq_true rfl) dX1_seenBy_2 (by decide)) C0 hP hS hlk hT (by decide) (by decide)
set_option maxHeartbeats 1000000 in
set_option maxRecDepth 10000 in
theorem t_X1_loadOf__h (l : Launch) (D : va_G) (cA : Nat → ClassId) (N : Nat) (ad : Nat → Nat) (c : Nat → va_E) (hfl : l.stackTraces = false) (n : Nat) (x : Int32) (hN : 12 + 4 * n ≤ N) (hF : FH ad cA c n) (hbad : ∀ i, i < n → x ≠ nI i) : Ct l yX1_loadOf wX1_loadOf { frames := 7, cells := 1, slots := 6, locals := 104 } [.ref (ad 0), .int x] D cA N ad c 1 6 nIOB := by
  intro sz9
  refine bd_ofT (cc := cX1_loadOf) (maxL := 2) (ret := some Jvm.ClassFile.FieldType.int) (by decide) rfl (Nat.le_of_ble_eq_true rfl) ?_
  intro p e s m below meth c0 C0 hr hlk hT hP hS hsz ls hl
  subst hsz
  have hx := C0.1
  have hb := C0.2.1
  have hl : lv_has ls 2 [(0, .ref (ad 0)), (1, .int x)] := hl
  refine lv_aload_n hx hb dX1_loadOf_0 rfl (lv_at hl 0 rfl) ?_
  refine lv_iload_n hx hb dX1_loadOf_1 rfl (lv_at hl 1 rfl) ?_
  exact kt_out (rx_X1_42 (As := [.int x]) (rest := []) (r := 0) C0 (t_X1_handAt l D cA N ad (c) hfl n (x) hN hF hbad _) hP hS (by omega) hF.1 rfl ⟨rfl, rfl⟩ ⟨by decide, by decide⟩ hl.1 rfl (Nat.le_of_ble_eq_true rfl) dX1_loadOf_2 (by decide)) C0 hP hS hlk hT (by decide) (by decide)
set_option maxHeartbeats 1000000 in
set_option maxRecDepth 10000 in
theorem t_X1_luckOf__h (l : Launch) (D : va_G) (cA : Nat → ClassId) (N : Nat) (ad : Nat → Nat) (c : Nat → va_E) (hfl : l.stackTraces = false) (n : Nat) (x : Int32) (hN : 12 + 4 * n ≤ N) (hF : FH ad cA c n) (hbad : ∀ i, i < n → x ≠ nI i) : Ct l yX1_luckOf wX1_luckOf { frames := 7, cells := 1, slots := 6, locals := 104 } [.ref (ad 0), .int x] D cA N ad c 1 6 nIOB := by
  intro sz9
  refine bd_ofT (cc := cX1_luckOf) (maxL := 2) (ret := some Jvm.ClassFile.FieldType.int) (by decide) rfl (Nat.le_of_ble_eq_true rfl) ?_
  intro p e s m below meth c0 C0 hr hlk hT hP hS hsz ls hl
  subst hsz
  have hx := C0.1
  have hb := C0.2.1
  have hl : lv_has ls 2 [(0, .ref (ad 0)), (1, .int x)] := hl
  refine lv_aload_n hx hb dX1_luckOf_0 rfl (lv_at hl 0 rfl) ?_
  refine lv_iload_n hx hb dX1_luckOf_1 rfl (lv_at hl 1 rfl) ?_
  exact kt_out (rx_X1_42 (As := [.int x]) (rest := []) (r := 0) C0 (t_X1_handAt l D cA N ad (c) hfl n (x) hN hF hbad _) hP hS (by omega) hF.1 rfl ⟨rfl, rfl⟩ ⟨by decide, by decide⟩ hl.1 rfl (Nat.le_of_ble_eq_true rfl) dX1_luckOf_2 (by decide)) C0 hP hS hlk hT (by decide) (by decide)
set_option maxHeartbeats 1000000 in
set_option maxRecDepth 10000 in
theorem t_X1_valueAt__h (l : Launch) (D : va_G) (cA : Nat → ClassId) (N : Nat) (ad : Nat → Nat) (c : Nat → va_E) (hfl : l.stackTraces = false) (n : Nat) (x y : Int32) (hN : 12 + 4 * n ≤ N) (hF : FH ad cA c n) (hbad : ∀ i, i < n → x ≠ nI i) : Ct l yX1_valueAt wX1_valueAt { frames := 8, cells := 1, slots := 6, locals := 127 } [.ref (ad 0), .int x, .int y] D cA N ad c 1 6 nIOB := by
  intro sz9
  refine bd_ofT (cc := cX1_valueAt) (maxL := 3) (ret := some Jvm.ClassFile.FieldType.int) (by decide) rfl (Nat.le_of_ble_eq_true rfl) ?_
  intro p e s m below meth c0 C0 hr hlk hT hP hS hsz ls hl
  subst hsz
  have hx := C0.1
  have hb := C0.2.1
  have hl : lv_has ls 3 [(0, .ref (ad 0)), (1, .int x), (2, .int y)] := hl
  refine lv_aload_n hx hb dX1_valueAt_0 rfl (lv_at hl 0 rfl) ?_
  refine lv_iload_n hx hb dX1_valueAt_1 rfl (lv_at hl 1 rfl) ?_
  refine lv_iload_n hx hb dX1_valueAt_2 rfl (lv_at hl 2 rfl) ?_
  exact kt_out (rx_X1_93 (As := [.int x, .int y]) (rest := []) (r := 0) C0 (t_X1_handHolding__h l D cA N ad (c) hfl n (x) (y) hN hF hbad _) hP hS (by omega) hF.1 rfl ⟨rfl, rfl⟩ ⟨by decide, by decide⟩ hl.1 rfl (Nat.le_of_ble_eq_true rfl) dX1_valueAt_3 (by decide)) C0 hP hS hlk hT (by decide) (by decide)
set_option maxHeartbeats 1000000 in
set_option maxRecDepth 10000 in
theorem t_X1_valueAt__p (l : Launch) (D : va_G) (cA : Nat → ClassId) (N : Nat) (ad : Nat → Nat) (c : Nat → va_E) (hfl : l.stackTraces = false) (n : Nat) (i R Y L S D9 K : Nat) (st : Nat → Nat → Int32) (y : Int32) (hN : 12 + 4 * n ≤ N) (hF : FH ad cA c n) (hi : i < n) (hH : HandAt ad cA c (12 + 4 * i) R Y L S D9 K st) (hok : Hok R Y L S D9 K) (hbad : ¬ (¬ y < 0 ∧ y < nI K)) : Ct l yX1_valueAt wX1_valueAt { frames := 7, cells := 1, slots := 6, locals := 105 } [.ref (ad 0), .int (nI i), .int y] D cA N ad c 1 6 nIOB := by
  intro sz9
  refine bd_ofT (cc := cX1_valueAt) (maxL := 3) (ret := some Jvm.ClassFile.FieldType.int) (by decide) rfl (Nat.le_of_ble_eq_true rfl) ?_
  intro p e s m below meth c0 C0 hr hlk hT hP hS hsz ls hl
  subst hsz
  have hx := C0.1
  have hb := C0.2.1
  have hl : lv_has ls 3 [(0, .ref (ad 0)), (1, .int (nI i)), (2, .int y)] := hl
  obtain ⟨q1, q2, q3, q4, q5, q6, q7, q8, q9⟩ := id hok
  refine lv_aload_n hx hb dX1_valueAt_0 rfl (lv_at hl 0 rfl) ?_
  refine lv_iload_n hx hb dX1_valueAt_1 rfl (lv_at hl 1 rfl) ?_
  refine lv_iload_n hx hb dX1_valueAt_2 rfl (lv_at hl 2 rfl) ?_
  exact kt_out (rx_X1_93 (As := [.int (nI i), .int y]) (rest := []) (r := 0) C0 (t_X1_handHolding__p l D cA N ad (c) hfl n i R Y L S D9 K st (y) hN hF hi hH hok hbad _) hP hS (by omega) hF.1 rfl ⟨rfl, rfl⟩ ⟨by decide, by decide⟩ hl.1 rfl (Nat.le_of_ble_eq_true rfl) dX1_valueAt_3 (by decide)) C0 hP hS hlk hT (by decide) (by decide)
set_option maxHeartbeats 1000000 in
set_option maxRecDepth 10000 in
theorem t_X1_weightAt__h (l : Launch) (D : va_G) (cA : Nat → ClassId) (N : Nat) (ad : Nat → Nat) (c : Nat → va_E) (hfl : l.stackTraces = false) (n : Nat) (x y : Int32) (hN : 12 + 4 * n ≤ N) (hF : FH ad cA c n) (hbad : ∀ i, i < n → x ≠ nI i) : Ct l yX1_weightAt wX1_weightAt { frames := 8, cells := 1, slots := 6, locals := 127 } [.ref (ad 0), .int x, .int y] D cA N ad c 1 6 nIOB := by
  intro sz9
  refine bd_ofT (cc := cX1_weightAt) (maxL := 3) (ret := some Jvm.ClassFile.FieldType.int) (by decide) rfl (Nat.le_of_ble_eq_true rfl) ?_
  intro p e s m below meth c0 C0 hr hlk hT hP hS hsz ls hl
  subst hsz
  have hx := C0.1
  have hb := C0.2.1
  have hl : lv_has ls 3 [(0, .ref (ad 0)), (1, .int x), (2, .int y)] := hl
  refine lv_aload_n hx hb dX1_weightAt_0 rfl (lv_at hl 0 rfl) ?_
  refine lv_iload_n hx hb dX1_weightAt_1 rfl (lv_at hl 1 rfl) ?_
  refine lv_iload_n hx hb dX1_weightAt_2 rfl (lv_at hl 2 rfl) ?_
  exact kt_out (rx_X1_93 (As := [.int x, .int y]) (rest := []) (r := 0) C0 (t_X1_handHolding__h l D cA N ad (c) hfl n (x) (y) hN hF hbad _) hP hS (by omega) hF.1 rfl ⟨rfl, rfl⟩ ⟨by decide, by decide⟩ hl.1 rfl (Nat.le_of_ble_eq_true rfl) dX1_weightAt_3 (by decide)) C0 hP hS hlk hT (by decide) (by decide)
set_option maxHeartbeats 1000000 in
set_option maxRecDepth 10000 in
theorem t_X1_weightAt__p (l : Launch) (D : va_G) (cA : Nat → ClassId) (N : Nat) (ad : Nat → Nat) (c : Nat → va_E) (hfl : l.stackTraces = false) (n : Nat) (i R Y L S D9 K : Nat) (st : Nat → Nat → Int32) (y : Int32) (hN : 12 + 4 * n ≤ N) (hF : FH ad cA c n) (hi : i < n) (hH : HandAt ad cA c (12 + 4 * i) R Y L S D9 K st) (hok : Hok R Y L S D9 K) (hbad : ¬ (¬ y < 0 ∧ y < nI K)) : Ct l yX1_weightAt wX1_weightAt { frames := 7, cells := 1, slots := 6, locals := 105 } [.ref (ad 0), .int (nI i), .int y] D cA N ad c 1 6 nIOB := by
  intro sz9
  refine bd_ofT (cc := cX1_weightAt) (maxL := 3) (ret := some Jvm.ClassFile.FieldType.int) (by decide) rfl (Nat.le_of_ble_eq_true rfl) ?_
  intro p e s m below meth c0 C0 hr hlk hT hP hS hsz ls hl
  subst hsz
  have hx := C0.1
  have hb := C0.2.1
  have hl : lv_has ls 3 [(0, .ref (ad 0)), (1, .int (nI i)), (2, .int y)] := hl
  obtain ⟨q1, q2, q3, q4, q5, q6, q7, q8, q9⟩ := id hok
  refine lv_aload_n hx hb dX1_weightAt_0 rfl (lv_at hl 0 rfl) ?_
  refine lv_iload_n hx hb dX1_weightAt_1 rfl (lv_at hl 1 rfl) ?_
  refine lv_iload_n hx hb dX1_weightAt_2 rfl (lv_at hl 2 rfl) ?_
  exact kt_out (rx_X1_93 (As := [.int (nI i), .int y]) (rest := []) (r := 0) C0 (t_X1_handHolding__p l D cA N ad (c) hfl n i R Y L S D9 K st (y) hN hF hi hH hok hbad _) hP hS (by omega) hF.1 rfl ⟨rfl, rfl⟩ ⟨by decide, by decide⟩ hl.1 rfl (Nat.le_of_ble_eq_true rfl) dX1_weightAt_3 (by decide)) C0 hP hS hlk hT (by decide) (by decide)
set_option maxHeartbeats 1000000 in
set_option maxRecDepth 10000 in
theorem t_X1_cameAs__h (l : Launch) (D : va_G) (cA : Nat → ClassId) (N : Nat) (ad : Nat → Nat) (c : Nat → va_E) (hfl : l.stackTraces = false) (n : Nat) (x y : Int32) (hN : 12 + 4 * n ≤ N) (hF : FH ad cA c n) (hbad : ∀ i, i < n → x ≠ nI i) : Ct l yX1_cameAs wX1_cameAs { frames := 8, cells := 1, slots := 6, locals := 127 } [.ref (ad 0), .int x, .int y] D cA N ad c 1 6 nIOB := by
  intro sz9
  refine bd_ofT (cc := cX1_cameAs) (maxL := 3) (ret := some Jvm.ClassFile.FieldType.int) (by decide) rfl (Nat.le_of_ble_eq_true rfl) ?_
  intro p e s m below meth c0 C0 hr hlk hT hP hS hsz ls hl
  subst hsz
  have hx := C0.1
  have hb := C0.2.1
  have hl : lv_has ls 3 [(0, .ref (ad 0)), (1, .int x), (2, .int y)] := hl
  refine lv_aload_n hx hb dX1_cameAs_0 rfl (lv_at hl 0 rfl) ?_
  refine lv_iload_n hx hb dX1_cameAs_1 rfl (lv_at hl 1 rfl) ?_
  refine lv_iload_n hx hb dX1_cameAs_2 rfl (lv_at hl 2 rfl) ?_
  exact kt_out (rx_X1_93 (As := [.int x, .int y]) (rest := []) (r := 0) C0 (t_X1_handHolding__h l D cA N ad (c) hfl n (x) (y) hN hF hbad _) hP hS (by omega) hF.1 rfl ⟨rfl, rfl⟩ ⟨by decide, by decide⟩ hl.1 rfl (Nat.le_of_ble_eq_true rfl) dX1_cameAs_3 (by decide)) C0 hP hS hlk hT (by decide) (by decide)
set_option maxHeartbeats 1000000 in
set_option maxRecDepth 10000 in
theorem t_X1_cameAs__p (l : Launch) (D : va_G) (cA : Nat → ClassId) (N : Nat) (ad : Nat → Nat) (c : Nat → va_E) (hfl : l.stackTraces = false) (n : Nat) (i R Y L S D9 K : Nat) (st : Nat → Nat → Int32) (y : Int32) (hN : 12 + 4 * n ≤ N) (hF : FH ad cA c n) (hi : i < n) (hH : HandAt ad cA c (12 + 4 * i) R Y L S D9 K st) (hok : Hok R Y L S D9 K) (hbad : ¬ (¬ y < 0 ∧ y < nI K)) : Ct l yX1_cameAs wX1_cameAs { frames := 7, cells := 1, slots := 6, locals := 105 } [.ref (ad 0), .int (nI i), .int y] D cA N ad c 1 6 nIOB := by
  intro sz9
  refine bd_ofT (cc := cX1_cameAs) (maxL := 3) (ret := some Jvm.ClassFile.FieldType.int) (by decide) rfl (Nat.le_of_ble_eq_true rfl) ?_
  intro p e s m below meth c0 C0 hr hlk hT hP hS hsz ls hl
  subst hsz
  have hx := C0.1
  have hb := C0.2.1
  have hl : lv_has ls 3 [(0, .ref (ad 0)), (1, .int (nI i)), (2, .int y)] := hl
  obtain ⟨q1, q2, q3, q4, q5, q6, q7, q8, q9⟩ := id hok
  refine lv_aload_n hx hb dX1_cameAs_0 rfl (lv_at hl 0 rfl) ?_
  refine lv_iload_n hx hb dX1_cameAs_1 rfl (lv_at hl 1 rfl) ?_
  refine lv_iload_n hx hb dX1_cameAs_2 rfl (lv_at hl 2 rfl) ?_
  exact kt_out (rx_X1_93 (As := [.int (nI i), .int y]) (rest := []) (r := 0) C0 (t_X1_handHolding__p l D cA N ad (c) hfl n i R Y L S D9 K st (y) hN hF hi hH hok hbad _) hP hS (by omega) hF.1 rfl ⟨rfl, rfl⟩ ⟨by decide, by decide⟩ hl.1 rfl (Nat.le_of_ble_eq_true rfl) dX1_cameAs_3 (by decide)) C0 hP hS hlk hT (by decide) (by decide)
set_option maxHeartbeats 1000000 in
set_option maxRecDepth 10000 in
theorem t_X1_placeOf__h (l : Launch) (D : va_G) (cA : Nat → ClassId) (N : Nat) (ad : Nat → Nat) (c : Nat → va_E) (hfl : l.stackTraces = false) (n : Nat) (x y : Int32) (hN : 12 + 4 * n ≤ N) (hF : FH ad cA c n) (hbad : ∀ i, i < n → x ≠ nI i) : Ct l yX1_placeOf wX1_placeOf { frames := 7, cells := 1, slots := 6, locals := 104 } [.ref (ad 0), .int x, .int y] D cA N ad c 1 6 nIOB := by
  intro sz9
  refine bd_ofT (cc := cX1_placeOf) (maxL := 5) (ret := some Jvm.ClassFile.FieldType.int) (by decide) rfl (Nat.le_of_ble_eq_true rfl) ?_
  intro p e s m below meth c0 C0 hr hlk hT hP hS hsz ls hl
  subst hsz
  have hx := C0.1
  have hb := C0.2.1
  have hl : lv_has ls 5 [(0, .ref (ad 0)), (1, .int x), (2, .int y)] := hl
  refine lv_aload_n hx hb dX1_placeOf_0 rfl (lv_at hl 0 rfl) ?_
  refine lv_iload_n hx hb dX1_placeOf_1 rfl (lv_at hl 1 rfl) ?_
  exact kt_out (rx_X1_42 (As := [.int x]) (rest := []) (r := 0) C0 (t_X1_handAt l D cA N ad (c) hfl n (x) hN hF hbad _) hP hS (by omega) hF.1 rfl ⟨rfl, rfl⟩ ⟨by decide, by decide⟩ hl.1 rfl (Nat.le_of_ble_eq_true rfl) dX1_placeOf_2 (by decide)) C0 hP hS hlk hT (by decide) (by decide)
set_option maxHeartbeats 1000000 in
set_option maxRecDepth 10000 in
theorem t_X1_sum__h (l : Launch) (D : va_G) (cA : Nat → ClassId) (N : Nat) (ad : Nat → Nat) (c : Nat → va_E) (hfl : l.stackTraces = false) (n : Nat) (x : Int32) (hN : 12 + 4 * n ≤ N) (hF : FH ad cA c n) (hbad : ∀ i, i < n → x ≠ nI i) : Ct l yX1_sum wX1_sum { frames := 7, cells := 1, slots := 6, locals := 104 } [.ref (ad 0), .int x] D cA N ad c 1 6 nIOB := by
  intro sz9
  refine bd_ofT (cc := cX1_sum) (maxL := 2) (ret := some Jvm.ClassFile.FieldType.int) (by decide) rfl (Nat.le_of_ble_eq_true rfl) ?_
  intro p e s m below meth c0 C0 hr hlk hT hP hS hsz ls hl
  subst hsz
  have hx := C0.1
  have hb := C0.2.1
  have hl : lv_has ls 2 [(0, .ref (ad 0)), (1, .int x)] := hl
  refine lv_aload_n hx hb dX1_sum_0 rfl (lv_at hl 0 rfl) ?_
  refine lv_iload_n hx hb dX1_sum_1 rfl (lv_at hl 1 rfl) ?_
  exact kt_out (rx_X1_42 (As := [.int x]) (rest := []) (r := 0) C0 (t_X1_handAt l D cA N ad (c) hfl n (x) hN hF hbad _) hP hS (by omega) hF.1 rfl ⟨rfl, rfl⟩ ⟨by decide, by decide⟩ hl.1 rfl (Nat.le_of_ble_eq_true rfl) dX1_sum_2 (by decide)) C0 hP hS hlk hT (by decide) (by decide)
set_option maxHeartbeats 1000000 in
set_option maxRecDepth 10000 in
theorem t_X1_lowest__h (l : Launch) (D : va_G) (cA : Nat → ClassId) (N : Nat) (ad : Nat → Nat) (c : Nat → va_E) (hfl : l.stackTraces = false) (n : Nat) (x : Int32) (hN : 12 + 4 * n ≤ N) (hF : FH ad cA c n) (hbad : ∀ i, i < n → x ≠ nI i) : Ct l yX1_lowest wX1_lowest { frames := 7, cells := 1, slots := 6, locals := 104 } [.ref (ad 0), .int x] D cA N ad c 1 6 nIOB := by
  intro sz9
  refine bd_ofT (cc := cX1_lowest) (maxL := 2) (ret := some Jvm.ClassFile.FieldType.int) (by decide) rfl (Nat.le_of_ble_eq_true rfl) ?_
  intro p e s m below meth c0 C0 hr hlk hT hP hS hsz ls hl
  subst hsz
  have hx := C0.1
  have hb := C0.2.1
  have hl : lv_has ls 2 [(0, .ref (ad 0)), (1, .int x)] := hl
  refine lv_aload_n hx hb dX1_lowest_0 rfl (lv_at hl 0 rfl) ?_
  refine lv_iload_n hx hb dX1_lowest_1 rfl (lv_at hl 1 rfl) ?_
  exact kt_out (rx_X1_42 (As := [.int x]) (rest := []) (r := 0) C0 (t_X1_handAt l D cA N ad (c) hfl n (x) hN hF hbad _) hP hS (by omega) hF.1 rfl ⟨rfl, rfl⟩ ⟨by decide, by decide⟩ hl.1 rfl (Nat.le_of_ble_eq_true rfl) dX1_lowest_2 (by decide)) C0 hP hS hlk hT (by decide) (by decide)
set_option maxHeartbeats 1000000 in
set_option maxRecDepth 10000 in
theorem t_X1_rankOf__h (l : Launch) (D : va_G) (cA : Nat → ClassId) (N : Nat) (ad : Nat → Nat) (c : Nat → va_E) (hfl : l.stackTraces = false) (n : Nat) (x y : Int32) (hN : 12 + 4 * n ≤ N) (hF : FH ad cA c n) (hbad : ∀ i, i < n → x ≠ nI i) : Ct l yX1_rankOf wX1_rankOf { frames := 8, cells := 1, slots := 6, locals := 127 } [.ref (ad 0), .int x, .int y] D cA N ad c 1 6 nIOB := by
  intro sz9
  refine bd_ofT (cc := cX1_rankOf) (maxL := 3) (ret := some Jvm.ClassFile.FieldType.int) (by decide) rfl (Nat.le_of_ble_eq_true rfl) ?_
  intro p e s m below meth c0 C0 hr hlk hT hP hS hsz ls hl
  subst hsz
  have hx := C0.1
  have hb := C0.2.1
  have hl : lv_has ls 3 [(0, .ref (ad 0)), (1, .int x), (2, .int y)] := hl
  refine lv_aload_n hx hb dX1_rankOf_0 rfl (lv_at hl 0 rfl) ?_
  refine lv_iload_n hx hb dX1_rankOf_1 rfl (lv_at hl 1 rfl) ?_
  refine lv_iload_n hx hb dX1_rankOf_2 rfl (lv_at hl 2 rfl) ?_
  exact kt_out (rx_X1_93 (As := [.int x, .int y]) (rest := []) (r := 0) C0 (t_X1_handHolding__h l D cA N ad (c) hfl n (x) (y) hN hF hbad _) hP hS (by omega) hF.1 rfl ⟨rfl, rfl⟩ ⟨by decide, by decide⟩ hl.1 rfl (Nat.le_of_ble_eq_true rfl) dX1_rankOf_3 (by decide)) C0 hP hS hlk hT (by decide) (by decide)
set_option maxHeartbeats 1000000 in
set_option maxRecDepth 10000 in
theorem t_X1_rankOf__p (l : Launch) (D : va_G) (cA : Nat → ClassId) (N : Nat) (ad : Nat → Nat) (c : Nat → va_E) (hfl : l.stackTraces = false) (n : Nat) (i R Y L S D9 K : Nat) (st : Nat → Nat → Int32) (y : Int32) (hN : 12 + 4 * n ≤ N) (hF : FH ad cA c n) (hi : i < n) (hH : HandAt ad cA c (12 + 4 * i) R Y L S D9 K st) (hok : Hok R Y L S D9 K) (hbad : ¬ (¬ y < 0 ∧ y < nI K)) : Ct l yX1_rankOf wX1_rankOf { frames := 7, cells := 1, slots := 6, locals := 105 } [.ref (ad 0), .int (nI i), .int y] D cA N ad c 1 6 nIOB := by
  intro sz9
  refine bd_ofT (cc := cX1_rankOf) (maxL := 3) (ret := some Jvm.ClassFile.FieldType.int) (by decide) rfl (Nat.le_of_ble_eq_true rfl) ?_
  intro p e s m below meth c0 C0 hr hlk hT hP hS hsz ls hl
  subst hsz
  have hx := C0.1
  have hb := C0.2.1
  have hl : lv_has ls 3 [(0, .ref (ad 0)), (1, .int (nI i)), (2, .int y)] := hl
  obtain ⟨q1, q2, q3, q4, q5, q6, q7, q8, q9⟩ := id hok
  refine lv_aload_n hx hb dX1_rankOf_0 rfl (lv_at hl 0 rfl) ?_
  refine lv_iload_n hx hb dX1_rankOf_1 rfl (lv_at hl 1 rfl) ?_
  refine lv_iload_n hx hb dX1_rankOf_2 rfl (lv_at hl 2 rfl) ?_
  exact kt_out (rx_X1_93 (As := [.int (nI i), .int y]) (rest := []) (r := 0) C0 (t_X1_handHolding__p l D cA N ad (c) hfl n i R Y L S D9 K st (y) hN hF hi hH hok hbad _) hP hS (by omega) hF.1 rfl ⟨rfl, rfl⟩ ⟨by decide, by decide⟩ hl.1 rfl (Nat.le_of_ble_eq_true rfl) dX1_rankOf_3 (by decide)) C0 hP hS hlk hT (by decide) (by decide)
set_option maxHeartbeats 1000000 in
set_option maxRecDepth 10000 in
theorem t_X1_middle__h (l : Launch) (D : va_G) (cA : Nat → ClassId) (N : Nat) (ad : Nat → Nat) (c : Nat → va_E) (hfl : l.stackTraces = false) (n : Nat) (x : Int32) (hN : 12 + 4 * n ≤ N) (hF : FH ad cA c n) (hbad : ∀ i, i < n → x ≠ nI i) : Ct l yX1_middle wX1_middle { frames := 7, cells := 1, slots := 6, locals := 104 } [.ref (ad 0), .int x] D cA N ad c 1 6 nIOB := by
  intro sz9
  refine bd_ofT (cc := cX1_middle) (maxL := 2) (ret := some Jvm.ClassFile.FieldType.int) (by decide) rfl (Nat.le_of_ble_eq_true rfl) ?_
  intro p e s m below meth c0 C0 hr hlk hT hP hS hsz ls hl
  subst hsz
  have hx := C0.1
  have hb := C0.2.1
  have hl : lv_has ls 2 [(0, .ref (ad 0)), (1, .int x)] := hl
  refine lv_aload_n hx hb dX1_middle_0 rfl (lv_at hl 0 rfl) ?_
  refine lv_iload_n hx hb dX1_middle_1 rfl (lv_at hl 1 rfl) ?_
  exact kt_out (rx_X1_42 (As := [.int x]) (rest := []) (r := 0) C0 (t_X1_handAt l D cA N ad (c) hfl n (x) hN hF hbad _) hP hS (by omega) hF.1 rfl ⟨rfl, rfl⟩ ⟨by decide, by decide⟩ hl.1 rfl (Nat.le_of_ble_eq_true rfl) dX1_middle_2 (by decide)) C0 hP hS hlk hT (by decide) (by decide)
set_option maxHeartbeats 1000000 in
set_option maxRecDepth 10000 in
theorem t_X1_shared__h (l : Launch) (D : va_G) (cA : Nat → ClassId) (N : Nat) (ad : Nat → Nat) (c : Nat → va_E) (hfl : l.stackTraces = false) (n : Nat) (x y : Int32) (hN : 12 + 4 * n ≤ N) (hF : FH ad cA c n) (hbad : ∀ i, i < n → x ≠ nI i) : Ct l yX1_shared wX1_shared { frames := 7, cells := 1, slots := 6, locals := 104 } [.ref (ad 0), .int x, .int y] D cA N ad c 1 6 nIOB := by
  intro sz9
  refine bd_ofT (cc := cX1_shared) (maxL := 3) (ret := some Jvm.ClassFile.FieldType.int) (by decide) rfl (Nat.le_of_ble_eq_true rfl) ?_
  intro p e s m below meth c0 C0 hr hlk hT hP hS hsz ls hl
  subst hsz
  have hx := C0.1
  have hb := C0.2.1
  have hl : lv_has ls 3 [(0, .ref (ad 0)), (1, .int x), (2, .int y)] := hl
  refine lv_aload_n hx hb dX1_shared_0 rfl (lv_at hl 0 rfl) ?_
  refine lv_iload_n hx hb dX1_shared_1 rfl (lv_at hl 1 rfl) ?_
  exact kt_out (rx_X1_42 (As := [.int x]) (rest := []) (r := 0) C0 (t_X1_handAt l D cA N ad (c) hfl n (x) hN hF hbad _) hP hS (by omega) hF.1 rfl ⟨rfl, rfl⟩ ⟨by decide, by decide⟩ hl.1 rfl (Nat.le_of_ble_eq_true rfl) dX1_shared_2 (by decide)) C0 hP hS hlk hT (by decide) (by decide)
set_option maxHeartbeats 1000000 in
set_option maxRecDepth 10000 in
theorem t_X1_shared__g (l : Launch) (D : va_G) (cA : Nat → ClassId) (N : Nat) (ad : Nat → Nat) (c : Nat → va_E) (hfl : l.stackTraces = false) (n : Nat) (i R Y L S D9 K : Nat) (st : Nat → Nat → Int32) (y : Int32) (hN : 12 + 4 * n ≤ N) (hF : FH ad cA c n) (hi : i < n) (hH : HandAt ad cA c (12 + 4 * i) R Y L S D9 K st) (hok : Hok R Y L S D9 K) (hbad : ∀ i, i < n → y ≠ nI i) : Ct l yX1_shared wX1_shared { frames := 7, cells := 1, slots := 6, locals := 104 } [.ref (ad 0), .int (nI i), .int y] D cA N ad c 1 6 nIOB := by
  intro sz9
  refine bd_ofT (cc := cX1_shared) (maxL := 3) (ret := some Jvm.ClassFile.FieldType.int) (by decide) rfl (Nat.le_of_ble_eq_true rfl) ?_
  intro p e s m below meth c0 C0 hr hlk hT hP hS hsz ls hl
  subst hsz
  have hx := C0.1
  have hb := C0.2.1
  have hl : lv_has ls 3 [(0, .ref (ad 0)), (1, .int (nI i)), (2, .int y)] := hl
  obtain ⟨q1, q2, q3, q4, q5, q6, q7, q8, q9⟩ := id hok
  refine lv_aload_n hx hb dX1_shared_0 rfl (lv_at hl 0 rfl) ?_
  refine lv_iload_n hx hb dX1_shared_1 rfl (lv_at hl 1 rfl) ?_
  refine k0_r (rn_X1_42 (As := [.int (nI i)]) (rest := []) (r := 0) C0 (m_X1_handAt l D cA N ad (c) n i (by omega) hF (by omega) (by omega) _) hP hS (by omega) hF.1 rfl ⟨rfl, rfl⟩ ⟨by decide, by decide⟩ hl.1 rfl (Nat.le_of_ble_eq_true rfl) dX1_shared_2 ⟨Nat.le_of_ble_eq_true rfl, Nat.le_of_ble_eq_true rfl⟩) C0 hP hS (fun H locs hP hS => ?_)
  refine lv_aload_n hx hb dX1_shared_5 rfl (lv_at hl 0 rfl) ?_
  refine lv_iload_n hx hb dX1_shared_6 rfl (lv_at hl 2 rfl) ?_
  exact kt_out (rx_X1_42 (As := [.int y]) (rest := [.ref (ad (12 + 4 * i))]) (r := 0) C0 (t_X1_handAt l D cA N ad (c) hfl n (y) hN hF hbad _) hP hS (by omega) hF.1 rfl ⟨rfl, rfl⟩ ⟨by decide, by decide⟩ hl.1 rfl (Nat.le_of_ble_eq_true rfl) dX1_shared_7 (by decide)) C0 hP hS hlk hT (by decide) (by decide)
set_option maxHeartbeats 1000000 in
set_option maxRecDepth 10000 in
theorem t_X1_luckIn__h (l : Launch) (D : va_G) (cA : Nat → ClassId) (N : Nat) (ad : Nat → Nat) (c : Nat → va_E) (hfl : l.stackTraces = false) (n : Nat) (x y : Int32) (hN : 12 + 4 * n ≤ N) (hF : FH ad cA c n) (hbad : ∀ i, i < n → x ≠ nI i) : Ct l yX1_luckIn wX1_luckIn { frames := 7, cells := 1, slots := 6, locals := 104 } [.ref (ad 0), .int x, .int y] D cA N ad c 1 6 nIOB := by
  intro sz9
  refine bd_ofT (cc := cX1_luckIn) (maxL := 4) (ret := some Jvm.ClassFile.FieldType.int) (by decide) rfl (Nat.le_of_ble_eq_true rfl) ?_
  intro p e s m below meth c0 C0 hr hlk hT hP hS hsz ls hl
  subst hsz
  have hx := C0.1
  have hb := C0.2.1
  have hl : lv_has ls 4 [(0, .ref (ad 0)), (1, .int x), (2, .int y)] := hl
  refine lv_aload_n hx hb dX1_luckIn_0 rfl (lv_at hl 0 rfl) ?_
  refine lv_iload_n hx hb dX1_luckIn_1 rfl (lv_at hl 1 rfl) ?_
  exact kt_out (rx_X1_42 (As := [.int x]) (rest := []) (r := 0) C0 (t_X1_handAt l D cA N ad (c) hfl n (x) hN hF hbad _) hP hS (by omega) hF.1 rfl ⟨rfl, rfl⟩ ⟨by decide, by decide⟩ hl.1 rfl (Nat.le_of_ble_eq_true rfl) dX1_luckIn_2 (by decide)) C0 hP hS hlk hT (by decide) (by decide)
set_option maxHeartbeats 1000000 in
set_option maxRecDepth 10000 in
theorem t_X1_drawsUntil__h (l : Launch) (D : va_G) (cA : Nat → ClassId) (N : Nat) (ad : Nat → Nat) (c : Nat → va_E) (hfl : l.stackTraces = false) (n : Nat) (x y z : Int32) (hN : 12 + 4 * n ≤ N) (hF : FH ad cA c n) (hbad : ∀ i, i < n → x ≠ nI i) : Ct l yX1_drawsUntil wX1_drawsUntil { frames := 7, cells := 1, slots := 6, locals := 104 } [.ref (ad 0), .int x, .int y, .int z] D cA N ad c 1 6 nIOB := by
  intro sz9
  refine bd_ofT (cc := cX1_drawsUntil) (maxL := 6) (ret := some Jvm.ClassFile.FieldType.int) (by decide) rfl (Nat.le_of_ble_eq_true rfl) ?_
  intro p e s m below meth c0 C0 hr hlk hT hP hS hsz ls hl
  subst hsz
  have hx := C0.1
  have hb := C0.2.1
  have hl : lv_has ls 6 [(0, .ref (ad 0)), (1, .int x), (2, .int y), (3, .int z)] := hl
  refine lv_aload_n hx hb dX1_drawsUntil_0 rfl (lv_at hl 0 rfl) ?_
  refine lv_iload_n hx hb dX1_drawsUntil_1 rfl (lv_at hl 1 rfl) ?_
  exact kt_out (rx_X1_42 (As := [.int x]) (rest := []) (r := 0) C0 (t_X1_handAt l D cA N ad (c) hfl n (x) hN hF hbad _) hP hS (by omega) hF.1 rfl ⟨rfl, rfl⟩ ⟨by decide, by decide⟩ hl.1 rfl (Nat.le_of_ble_eq_true rfl) dX1_drawsUntil_2 (by decide)) C0 hP hS hlk hT (by decide) (by decide)
set_option maxHeartbeats 1000000 in
set_option maxRecDepth 10000 in
theorem t_X1_wouldTake__h (l : Launch) (D : va_G) (cA : Nat → ClassId) (N : Nat) (ad : Nat → Nat) (c : Nat → va_E) (hfl : l.stackTraces = false) (n : Nat) (x y : Int32) (hN : 12 + 4 * n ≤ N) (hF : FH ad cA c n) (hbad : ∀ i, i < n → x ≠ nI i) : Ct l yX1_wouldTake wX1_wouldTake { frames := 7, cells := 1, slots := 6, locals := 104 } [.ref (ad 0), .int x, .int y] D cA N ad c 1 6 nIOB := by
  intro sz9
  refine bd_ofT (cc := cX1_wouldTake) (maxL := 4) (ret := some Jvm.ClassFile.FieldType.int) (by decide) rfl (Nat.le_of_ble_eq_true rfl) ?_
  intro p e s m below meth c0 C0 hr hlk hT hP hS hsz ls hl
  subst hsz
  have hx := C0.1
  have hb := C0.2.1
  have hl : lv_has ls 4 [(0, .ref (ad 0)), (1, .int x), (2, .int y)] := hl
  refine lv_aload_n hx hb dX1_wouldTake_0 rfl (lv_at hl 0 rfl) ?_
  refine lv_iload_n hx hb dX1_wouldTake_1 rfl (lv_at hl 1 rfl) ?_
  exact kt_out (rx_X1_42 (As := [.int x]) (rest := []) (r := 0) C0 (t_X1_handAt l D cA N ad (c) hfl n (x) hN hF hbad _) hP hS (by omega) hF.1 rfl ⟨rfl, rfl⟩ ⟨by decide, by decide⟩ hl.1 rfl (Nat.le_of_ble_eq_true rfl) dX1_wouldTake_2 (by decide)) C0 hP hS hlk hT (by decide) (by decide)
set_option maxHeartbeats 1000000 in
set_option maxRecDepth 10000 in
theorem t_X1_wouldStay__h (l : Launch) (D : va_G) (cA : Nat → ClassId) (N : Nat) (ad : Nat → Nat) (c : Nat → va_E) (hfl : l.stackTraces = false) (n : Nat) (x y : Int32) (hN : 12 + 4 * n ≤ N) (hF : FH ad cA c n) (hbad : ∀ i, i < n → x ≠ nI i) : Ct l yX1_wouldStay wX1_wouldStay { frames := 7, cells := 1, slots := 6, locals := 104 } [.ref (ad 0), .int x, .int y] D cA N ad c 1 6 nIOB := by
  intro sz9
  refine bd_ofT (cc := cX1_wouldStay) (maxL := 4) (ret := some Jvm.ClassFile.FieldType.int) (by decide) rfl (Nat.le_of_ble_eq_true rfl) ?_
  intro p e s m below meth c0 C0 hr hlk hT hP hS hsz ls hl
  subst hsz
  have hx := C0.1
  have hb := C0.2.1
  have hl : lv_has ls 4 [(0, .ref (ad 0)), (1, .int x), (2, .int y)] := hl
  refine lv_aload_n hx hb dX1_wouldStay_0 rfl (lv_at hl 0 rfl) ?_
  refine lv_iload_n hx hb dX1_wouldStay_1 rfl (lv_at hl 1 rfl) ?_
  exact kt_out (rx_X1_42 (As := [.int x]) (rest := []) (r := 0) C0 (t_X1_handAt l D cA N ad (c) hfl n (x) hN hF hbad _) hP hS (by omega) hF.1 rfl ⟨rfl, rfl⟩ ⟨by decide, by decide⟩ hl.1 rfl (Nat.le_of_ble_eq_true rfl) dX1_wouldStay_2 (by decide)) C0 hP hS hlk hT (by decide) (by decide)
set_option maxHeartbeats 1000000 in
set_option maxRecDepth 10000 in
theorem t_X1_untilTaken__h (l : Launch) (D : va_G) (cA : Nat → ClassId) (N : Nat) (ad : Nat → Nat) (c : Nat → va_E) (hfl : l.stackTraces = false) (n : Nat) (x : Int32) (hN : 12 + 4 * n ≤ N) (hF : FH ad cA c n) (hbad : ∀ i, i < n → x ≠ nI i) : Ct l yX1_untilTaken wX1_untilTaken { frames := 7, cells := 1, slots := 6, locals := 104 } [.ref (ad 0), .int x] D cA N ad c 1 6 nIOB := by
  intro sz9
  refine bd_ofT (cc := cX1_untilTaken) (maxL := 2) (ret := some Jvm.ClassFile.FieldType.int) (by decide) rfl (Nat.le_of_ble_eq_true rfl) ?_
  intro p e s m below meth c0 C0 hr hlk hT hP hS hsz ls hl
  subst hsz
  have hx := C0.1
  have hb := C0.2.1
  have hl : lv_has ls 2 [(0, .ref (ad 0)), (1, .int x)] := hl
  refine lv_aload_n hx hb dX1_untilTaken_0 rfl (lv_at hl 0 rfl) ?_
  refine lv_aload_n hx hb dX1_untilTaken_1 rfl (lv_at hl 0 rfl) ?_
  refine lv_iload_n hx hb dX1_untilTaken_2 rfl (lv_at hl 1 rfl) ?_
  exact kt_out (rx_X1_42 (As := [.int x]) (rest := [.ref (ad 0)]) (r := 0) C0 (t_X1_handAt l D cA N ad (c) hfl n (x) hN hF hbad _) hP hS (by omega) hF.1 rfl ⟨rfl, rfl⟩ ⟨by decide, by decide⟩ hl.1 rfl (Nat.le_of_ble_eq_true rfl) dX1_untilTaken_3 (by decide)) C0 hP hS hlk hT (by decide) (by decide)
set_option maxHeartbeats 1000000 in
set_option maxRecDepth 10000 in
theorem t_X1_weightWanted__h (l : Launch) (D : va_G) (cA : Nat → ClassId) (N : Nat) (ad : Nat → Nat) (c : Nat → va_E) (hfl : l.stackTraces = false) (n : Nat) (x : Int32) (hN : 12 + 4 * n ≤ N) (hF : FH ad cA c n) (hbad : ∀ i, i < n → x ≠ nI i) : Ct l yX1_weightWanted wX1_weightWanted { frames := 7, cells := 1, slots := 6, locals := 104 } [.ref (ad 0), .int x] D cA N ad c 1 6 nIOB := by
  intro sz9
  refine bd_ofT (cc := cX1_weightWanted) (maxL := 2) (ret := some Jvm.ClassFile.FieldType.int) (by decide) rfl (Nat.le_of_ble_eq_true rfl) ?_
  intro p e s m below meth c0 C0 hr hlk hT hP hS hsz ls hl
  subst hsz
  have hx := C0.1
  have hb := C0.2.1
  have hl : lv_has ls 2 [(0, .ref (ad 0)), (1, .int x)] := hl
  refine lv_aload_n hx hb dX1_weightWanted_0 rfl (lv_at hl 0 rfl) ?_
  refine lv_aload_n hx hb dX1_weightWanted_1 rfl (lv_at hl 0 rfl) ?_
  refine lv_iload_n hx hb dX1_weightWanted_2 rfl (lv_at hl 1 rfl) ?_
  exact kt_out (rx_X1_42 (As := [.int x]) (rest := [.ref (ad 0)]) (r := 0) C0 (t_X1_handAt l D cA N ad (c) hfl n (x) hN hF hbad _) hP hS (by omega) hF.1 rfl ⟨rfl, rfl⟩ ⟨by decide, by decide⟩ hl.1 rfl (Nat.le_of_ble_eq_true rfl) dX1_weightWanted_3 (by decide)) C0 hP hS hlk hT (by decide) (by decide)
set_option maxHeartbeats 1000000 in
set_option maxRecDepth 10000 in
theorem t_X1_wouldJoin__h (l : Launch) (D : va_G) (cA : Nat → ClassId) (N : Nat) (ad : Nat → Nat) (c : Nat → va_E) (hfl : l.stackTraces = false) (n : Nat) (x y : Int32) (hN : 12 + 4 * n ≤ N) (hF : FH ad cA c n) (hbad : ∀ i, i < n → x ≠ nI i) : Ct l yX1_wouldJoin wX1_wouldJoin { frames := 7, cells := 1, slots := 6, locals := 104 } [.ref (ad 0), .int x, .int y] D cA N ad c 1 6 nIOB := by
  intro sz9
  refine bd_ofT (cc := cX1_wouldJoin) (maxL := 3) (ret := some Jvm.ClassFile.FieldType.int) (by decide) rfl (Nat.le_of_ble_eq_true rfl) ?_
  intro p e s m below meth c0 C0 hr hlk hT hP hS hsz ls hl
  subst hsz
  have hx := C0.1
  have hb := C0.2.1
  have hl : lv_has ls 3 [(0, .ref (ad 0)), (1, .int x), (2, .int y)] := hl
  refine lv_aload_n hx hb dX1_wouldJoin_0 rfl (lv_at hl 0 rfl) ?_
  refine lv_aload_n hx hb dX1_wouldJoin_1 rfl (lv_at hl 0 rfl) ?_
  refine lv_iload_n hx hb dX1_wouldJoin_2 rfl (lv_at hl 1 rfl) ?_
  exact kt_out (rx_X1_42 (As := [.int x]) (rest := [.ref (ad 0)]) (r := 0) C0 (t_X1_handAt l D cA N ad (c) hfl n (x) hN hF hbad _) hP hS (by omega) hF.1 rfl ⟨rfl, rfl⟩ ⟨by decide, by decide⟩ hl.1 rfl (Nat.le_of_ble_eq_true rfl) dX1_wouldJoin_3 (by decide)) C0 hP hS hlk hT (by decide) (by decide)
set_option maxHeartbeats 1000000 in
set_option maxRecDepth 10000 in
theorem t_X1_wouldJoin__g (l : Launch) (D : va_G) (cA : Nat → ClassId) (N : Nat) (ad : Nat → Nat) (c : Nat → va_E) (hfl : l.stackTraces = false) (n : Nat) (i R Y L S D9 K : Nat) (st : Nat → Nat → Int32) (y : Int32) (hN : 12 + 4 * n ≤ N) (hF : FH ad cA c n) (hi : i < n) (hH : HandAt ad cA c (12 + 4 * i) R Y L S D9 K st) (hok : Hok R Y L S D9 K) (hbad : ∀ i, i < n → y ≠ nI i) : Ct l yX1_wouldJoin wX1_wouldJoin { frames := 7, cells := 1, slots := 6, locals := 104 } [.ref (ad 0), .int (nI i), .int y] D cA N ad c 1 6 nIOB := by
  intro sz9
  refine bd_ofT (cc := cX1_wouldJoin) (maxL := 3) (ret := some Jvm.ClassFile.FieldType.int) (by decide) rfl (Nat.le_of_ble_eq_true rfl) ?_
  intro p e s m below meth c0 C0 hr hlk hT hP hS hsz ls hl
  subst hsz
  have hx := C0.1
  have hb := C0.2.1
  have hl : lv_has ls 3 [(0, .ref (ad 0)), (1, .int (nI i)), (2, .int y)] := hl
  obtain ⟨q1, q2, q3, q4, q5, q6, q7, q8, q9⟩ := id hok
  refine lv_aload_n hx hb dX1_wouldJoin_0 rfl (lv_at hl 0 rfl) ?_
  refine lv_aload_n hx hb dX1_wouldJoin_1 rfl (lv_at hl 0 rfl) ?_
  refine lv_iload_n hx hb dX1_wouldJoin_2 rfl (lv_at hl 1 rfl) ?_
  refine k0_r (rn_X1_42 (As := [.int (nI i)]) (rest := [.ref (ad 0)]) (r := 0) C0 (m_X1_handAt l D cA N ad (c) n i (by omega) hF (by omega) (by omega) _) hP hS (by omega) hF.1 rfl ⟨rfl, rfl⟩ ⟨by decide, by decide⟩ hl.1 rfl (Nat.le_of_ble_eq_true rfl) dX1_wouldJoin_3 ⟨Nat.le_of_ble_eq_true rfl, Nat.le_of_ble_eq_true rfl⟩) C0 hP hS (fun H locs hP hS => ?_)
  refine lv_aload_n hx hb dX1_wouldJoin_6 rfl (lv_at hl 0 rfl) ?_
  refine lv_iload_n hx hb dX1_wouldJoin_7 rfl (lv_at hl 2 rfl) ?_
  exact kt_out (rx_X1_42 (As := [.int y]) (rest := [.ref (ad (12 + 4 * i)), .ref (ad 0)]) (r := 0) C0 (t_X1_handAt l D cA N ad (c) hfl n (y) hN hF hbad _) hP hS (by omega) hF.1 rfl ⟨rfl, rfl⟩ ⟨by decide, by decide⟩ hl.1 rfl (Nat.le_of_ble_eq_true rfl) dX1_wouldJoin_8 (by decide)) C0 hP hS hlk hT (by decide) (by decide)
set_option maxHeartbeats 1000000 in
set_option maxRecDepth 10000 in
theorem t_X1_meanValue__h (l : Launch) (D : va_G) (cA : Nat → ClassId) (N : Nat) (ad : Nat → Nat) (c : Nat → va_E) (hfl : l.stackTraces = false) (n : Nat) (x : Int32) (hN : 12 + 4 * n ≤ N) (hF : FH ad cA c n) (hbad : ∀ i, i < n → x ≠ nI i) : Ct l yX1_meanValue wX1_meanValue { frames := 7, cells := 1, slots := 6, locals := 104 } [.ref (ad 0), .int x] D cA N ad c 1 6 nIOB := by
  intro sz9
  refine bd_ofT (cc := cX1_meanValue) (maxL := 3) (ret := some Jvm.ClassFile.FieldType.double) (by decide) rfl (Nat.le_of_ble_eq_true rfl) ?_
  intro p e s m below meth c0 C0 hr hlk hT hP hS hsz ls hl
  subst hsz
  have hx := C0.1
  have hb := C0.2.1
  have hl : lv_has ls 3 [(0, .ref (ad 0)), (1, .int x)] := hl
  refine lv_aload_n hx hb dX1_meanValue_0 rfl (lv_at hl 0 rfl) ?_
  refine lv_iload_n hx hb dX1_meanValue_1 rfl (lv_at hl 1 rfl) ?_
  exact kt_out (rx_X1_42 (As := [.int x]) (rest := []) (r := 0) C0 (t_X1_handAt l D cA N ad (c) hfl n (x) hN hF hbad _) hP hS (by omega) hF.1 rfl ⟨rfl, rfl⟩ ⟨by decide, by decide⟩ hl.1 rfl (Nat.le_of_ble_eq_true rfl) dX1_meanValue_2 (by decide)) C0 hP hS hlk hT (by decide) (by decide)
set_option maxHeartbeats 1000000 in
set_option maxRecDepth 10000 in
theorem t_X1_offer__a (l : Launch) (D : va_G) (cA : Nat → ClassId) (N : Nat) (ad : Nat → Nat) (c : Nat → va_E) (hfl : l.stackTraces = false) (n : Nat) (i R Y L S D9 K : Nat) (st : Nat → Nat → Int32) (y z : Int32) (hN : 12 + 4 * n ≤ N) (hF : FH ad cA c n) (hi : i < n) (hH : HandAt ad cA c (12 + 4 * i) R Y L S D9 K st) (hok : Hok R Y L S D9 K) (hbad : ¬ ((nI 0 ≤ y ∧ y ≤ nI 999) ∧ (nI 1 ≤ z ∧ z ≤ nI 9))) : Ct l yX1_offer wX1_offer { frames := 6, cells := 1, slots := 6, locals := 82 } [.ref (ad 0), .int (nI i), .int y, .int z] D cA N ad c 1 6 nIAE := by
  intro sz9
  refine bd_ofT (cc := cX1_offer) (maxL := 5) (ret := some Jvm.ClassFile.FieldType.int) (by decide) rfl (Nat.le_of_ble_eq_true rfl) ?_
  intro p e s m below meth c0 C0 hr hlk hT hP hS hsz ls hl
  subst hsz
  have hx := C0.1
  have hb := C0.2.1
  have hl : lv_has ls 5 [(0, .ref (ad 0)), (1, .int (nI i)), (2, .int y), (3, .int z)] := hl
  obtain ⟨q1, q2, q3, q4, q5, q6, q7, q8, q9⟩ := id hok
  refine lv_aload_n hx hb dX1_offer_0 rfl (lv_at hl 0 rfl) ?_
  refine lv_iload_n hx hb dX1_offer_1 rfl (lv_at hl 1 rfl) ?_
  refine k0_r (rn_X1_42 (As := [.int (nI i)]) (rest := []) (r := 0) C0 (m_X1_handAt l D cA N ad (c) n i (by omega) hF (by omega) (by omega) _) hP hS (by omega) hF.1 rfl ⟨rfl, rfl⟩ ⟨by decide, by decide⟩ hl.1 rfl (Nat.le_of_ble_eq_true rfl) dX1_offer_2 ⟨Nat.le_of_ble_eq_true rfl, Nat.le_of_ble_eq_true rfl⟩) C0 hP hS (fun H locs hP hS => ?_)
  refine lv_astore (lv' := [(4, .ref (ad (12 + 4 * i))), (0, .ref (ad 0)), (1, .int (nI i)), (2, .int y), (3, .int z)]) hx hb dX1_offer_5 hl (by decide) rfl (fun ls hl => ?_)
  refine lv_iload_n hx hb dX1_offer_7 rfl (lv_at hl 3 rfl) ?_
  refine lv_iconst (v := nI 0) hx hb dX1_offer_8 rfl ?_
  refine lv_sipush (v := nI 999) hx hb dX1_offer_9 rfl ?_
  refine k0_i (rn_X1_22 (As := [.int y, .int (nI 0), .int (nI 999)]) (rest := []) C0 (m_X1_isWithin l D cA N ad (c) (y) (nI 0) (nI 999) _) hP hS rfl ⟨rfl, rfl⟩ ⟨by decide, by decide⟩ hl.1 rfl (Nat.le_of_ble_eq_true rfl) dX1_offer_12 ⟨Nat.le_of_ble_eq_true rfl, Nat.le_of_ble_eq_true rfl⟩) C0 hP hS (fun v12 c12 H locs hp hP hS => ?_)
  obtain ⟨hv, rfl⟩ := hp
  by_cases hw12 : nI 0 ≤ y ∧ y ≤ nI 999
  · obtain rfl : v12 = nI 1 := by rw [hv, if_pos hw12]; rfl
    refine n_if_eq (tgt := 28) hx hb (by omega) dX1_offer_15 (by decide) (fun h15 => ?_) (fun h15 => ?_)
    · exfalso; omega
    refine lv_iload_n hx hb dX1_offer_18 rfl (lv_at hl 4 rfl) ?_
    refine lv_iconst (v := nI 1) hx hb dX1_offer_19 rfl ?_
    refine lv_bipush (v := nI 9) hx hb dX1_offer_20 rfl ?_
    refine k0_i (rn_X1_22 (As := [.int z, .int (nI 1), .int (nI 9)]) (rest := []) C0 (m_X1_isWithin l D cA N ad (c) (z) (nI 1) (nI 9) _) hP hS rfl ⟨rfl, rfl⟩ ⟨by decide, by decide⟩ hl.1 rfl (Nat.le_of_ble_eq_true rfl) dX1_offer_22 ⟨Nat.le_of_ble_eq_true rfl, Nat.le_of_ble_eq_true rfl⟩) C0 hP hS (fun v22 c22 H locs hp hP hS => ?_)
    obtain ⟨hv, rfl⟩ := hp
    by_cases hw22 : nI 1 ≤ z ∧ z ≤ nI 9
    · obtain rfl : v22 = nI 1 := by rw [hv, if_pos hw22]; rfl
      refine n_if_ne (tgt := 38) hx hb (by omega) dX1_offer_25 (by decide) (fun h25 => ?_) (fun h25 => ?_)
      rotate_left
      · exfalso; omega
      exact absurd ⟨hw12, hw22⟩ hbad
    · obtain rfl : v22 = nI 0 := by rw [hv, if_neg hw22]; rfl
      refine n_if_ne (tgt := 38) hx hb (by omega) dX1_offer_25 (by decide) (fun h25 => ?_) (fun h25 => ?_)
      · exfalso; omega
      exact th_S (text := "value or weight") (rest := []) C0 hfl hP hS hlk hT hl (by decide +kernel) ln_IAE at_IAE gd_IAE (by decide +kernel) dX1_offer_28 dX1_offer_31 dX1_offer_32 dX1_offer_34 dX1_offer_37 (by decide) (Nat.le_of_ble_eq_true rfl) (by decide) (by decide) (by decide) (by decide)
  · obtain rfl : v12 = nI 0 := by rw [hv, if_neg hw12]; rfl
    refine n_if_eq (tgt := 28) hx hb (by omega) dX1_offer_15 (by decide) (fun h15 => ?_) (fun h15 => ?_)
    rotate_left
    · exfalso; omega
    exact th_S (text := "value or weight") (rest := []) C0 hfl hP hS hlk hT hl (by decide +kernel) ln_IAE at_IAE gd_IAE (by decide +kernel) dX1_offer_28 dX1_offer_31 dX1_offer_32 dX1_offer_34 dX1_offer_37 (by decide) (Nat.le_of_ble_eq_true rfl) (by decide) (by decide) (by decide) (by decide)
set_option maxHeartbeats 1000000 in
set_option maxRecDepth 10000 in
theorem t_X1_offerRow__a (l : Launch) (D : va_G) (cA : Nat → ClassId) (N : Nat) (ad : Nat → Nat) (c : Nat → va_E) (hfl : l.stackTraces = false) (n : Nat) (i R Y L S D9 K : Nat) (st : Nat → Nat → Int32) (y z u : Int32) (hN : 12 + 4 * n ≤ N) (hF : FH ad cA c n) (hi : i < n) (hH : HandAt ad cA c (12 + 4 * i) R Y L S D9 K st) (hok : Hok R Y L S D9 K) (hbad : ¬ ((nI 0 ≤ y ∧ y ≤ nI 999) ∧ (nI 1 ≤ z ∧ z ≤ nI 9) ∧ (nI 1 ≤ u ∧ u ≤ nI 200))) : Ct l yX1_offerRow wX1_offerRow { frames := 6, cells := 1, slots := 6, locals := 82 } [.ref (ad 0), .int (nI i), .int y, .int z, .int u] D cA N ad c 1 6 nIAE := by
  intro sz9
  refine bd_ofT (cc := cX1_offerRow) (maxL := 10) (ret := some Jvm.ClassFile.FieldType.int) (by decide) rfl (Nat.le_of_ble_eq_true rfl) ?_
  intro p e s m below meth c0 C0 hr hlk hT hP hS hsz ls hl
  subst hsz
  have hx := C0.1
  have hb := C0.2.1
  have hl : lv_has ls 10 [(0, .ref (ad 0)), (1, .int (nI i)), (2, .int y), (3, .int z), (4, .int u)] := hl
  obtain ⟨q1, q2, q3, q4, q5, q6, q7, q8, q9⟩ := id hok
  refine lv_aload_n hx hb dX1_offerRow_0 rfl (lv_at hl 0 rfl) ?_
  refine lv_iload_n hx hb dX1_offerRow_1 rfl (lv_at hl 1 rfl) ?_
  refine k0_r (rn_X1_42 (As := [.int (nI i)]) (rest := []) (r := 0) C0 (m_X1_handAt l D cA N ad (c) n i (by omega) hF (by omega) (by omega) _) hP hS (by omega) hF.1 rfl ⟨rfl, rfl⟩ ⟨by decide, by decide⟩ hl.1 rfl (Nat.le_of_ble_eq_true rfl) dX1_offerRow_2 ⟨Nat.le_of_ble_eq_true rfl, Nat.le_of_ble_eq_true rfl⟩) C0 hP hS (fun H locs hP hS => ?_)
  refine lv_astore (lv' := [(5, .ref (ad (12 + 4 * i))), (0, .ref (ad 0)), (1, .int (nI i)), (2, .int y), (3, .int z), (4, .int u)]) hx hb dX1_offerRow_5 hl (by decide) rfl (fun ls hl => ?_)
  refine lv_iload_n hx hb dX1_offerRow_7 rfl (lv_at hl 3 rfl) ?_
  refine lv_iconst (v := nI 0) hx hb dX1_offerRow_8 rfl ?_
  refine lv_sipush (v := nI 999) hx hb dX1_offerRow_9 rfl ?_
  refine k0_i (rn_X1_22 (As := [.int y, .int (nI 0), .int (nI 999)]) (rest := []) C0 (m_X1_isWithin l D cA N ad (c) (y) (nI 0) (nI 999) _) hP hS rfl ⟨rfl, rfl⟩ ⟨by decide, by decide⟩ hl.1 rfl (Nat.le_of_ble_eq_true rfl) dX1_offerRow_12 ⟨Nat.le_of_ble_eq_true rfl, Nat.le_of_ble_eq_true rfl⟩) C0 hP hS (fun v12 c12 H locs hp hP hS => ?_)
  obtain ⟨hv, rfl⟩ := hp
  by_cases hw12 : nI 0 ≤ y ∧ y ≤ nI 999
  · obtain rfl : v12 = nI 1 := by rw [hv, if_pos hw12]; rfl
    refine n_if_eq (tgt := 40) hx hb (by omega) dX1_offerRow_15 (by decide) (fun h15 => ?_) (fun h15 => ?_)
    · exfalso; omega
    refine lv_iload_n hx hb dX1_offerRow_18 rfl (lv_at hl 4 rfl) ?_
    refine lv_iconst (v := nI 1) hx hb dX1_offerRow_19 rfl ?_
    refine lv_bipush (v := nI 9) hx hb dX1_offerRow_20 rfl ?_
    refine k0_i (rn_X1_22 (As := [.int z, .int (nI 1), .int (nI 9)]) (rest := []) C0 (m_X1_isWithin l D cA N ad (c) (z) (nI 1) (nI 9) _) hP hS rfl ⟨rfl, rfl⟩ ⟨by decide, by decide⟩ hl.1 rfl (Nat.le_of_ble_eq_true rfl) dX1_offerRow_22 ⟨Nat.le_of_ble_eq_true rfl, Nat.le_of_ble_eq_true rfl⟩) C0 hP hS (fun v22 c22 H locs hp hP hS => ?_)
    obtain ⟨hv, rfl⟩ := hp
    by_cases hw22 : nI 1 ≤ z ∧ z ≤ nI 9
    · obtain rfl : v22 = nI 1 := by rw [hv, if_pos hw22]; rfl
      refine n_if_eq (tgt := 40) hx hb (by omega) dX1_offerRow_25 (by decide) (fun h25 => ?_) (fun h25 => ?_)
      · exfalso; omega
      refine lv_iload hx hb dX1_offerRow_28 (lv_at hl 5 rfl) ?_
      refine lv_iconst (v := nI 1) hx hb dX1_offerRow_30 rfl ?_
      refine lv_sipush (v := nI 200) hx hb dX1_offerRow_31 rfl ?_
      refine k0_i (rn_X1_22 (As := [.int u, .int (nI 1), .int (nI 200)]) (rest := []) C0 (m_X1_isWithin l D cA N ad (c) (u) (nI 1) (nI 200) _) hP hS rfl ⟨rfl, rfl⟩ ⟨by decide, by decide⟩ hl.1 rfl (Nat.le_of_ble_eq_true rfl) dX1_offerRow_34 ⟨Nat.le_of_ble_eq_true rfl, Nat.le_of_ble_eq_true rfl⟩) C0 hP hS (fun v34 c34 H locs hp hP hS => ?_)
      obtain ⟨hv, rfl⟩ := hp
      by_cases hw34 : nI 1 ≤ u ∧ u ≤ nI 200
      · obtain rfl : v34 = nI 1 := by rw [hv, if_pos hw34]; rfl
        refine n_if_ne (tgt := 50) hx hb (by omega) dX1_offerRow_37 (by decide) (fun h37 => ?_) (fun h37 => ?_)
        rotate_left
        · exfalso; omega
        exact absurd ⟨hw12, hw22, hw34⟩ hbad
      · obtain rfl : v34 = nI 0 := by rw [hv, if_neg hw34]; rfl
        refine n_if_ne (tgt := 50) hx hb (by omega) dX1_offerRow_37 (by decide) (fun h37 => ?_) (fun h37 => ?_)
        · exfalso; omega
        exact th_S (text := "value, weight or many") (rest := []) C0 hfl hP hS hlk hT hl (by decide +kernel) ln_IAE at_IAE gd_IAE (by decide +kernel) dX1_offerRow_40 dX1_offerRow_43 dX1_offerRow_44 dX1_offerRow_46 dX1_offerRow_49 (by decide) (Nat.le_of_ble_eq_true rfl) (by decide) (by decide) (by decide) (by decide)
    · obtain rfl : v22 = nI 0 := by rw [hv, if_neg hw22]; rfl
      refine n_if_eq (tgt := 40) hx hb (by omega) dX1_offerRow_25 (by decide) (fun h25 => ?_) (fun h25 => ?_)
      rotate_left
      · exfalso; omega
      exact th_S (text := "value, weight or many") (rest := []) C0 hfl hP hS hlk hT hl (by decide +kernel) ln_IAE at_IAE gd_IAE (by decide +kernel) dX1_offerRow_40 dX1_offerRow_43 dX1_offerRow_44 dX1_offerRow_46 dX1_offerRow_49 (by decide) (Nat.le_of_ble_eq_true rfl) (by decide) (by decide) (by decide) (by decide)
  · obtain rfl : v12 = nI 0 := by rw [hv, if_neg hw12]; rfl
    refine n_if_eq (tgt := 40) hx hb (by omega) dX1_offerRow_15 (by decide) (fun h15 => ?_) (fun h15 => ?_)
    rotate_left
    · exfalso; omega
    exact th_S (text := "value, weight or many") (rest := []) C0 hfl hP hS hlk hT hl (by decide +kernel) ln_IAE at_IAE gd_IAE (by decide +kernel) dX1_offerRow_40 dX1_offerRow_43 dX1_offerRow_44 dX1_offerRow_46 dX1_offerRow_49 (by decide) (Nat.le_of_ble_eq_true rfl) (by decide) (by decide) (by decide) (by decide)
set_option maxHeartbeats 1000000 in
set_option maxRecDepth 10000 in
theorem t_X1_setLuck__a (l : Launch) (D : va_G) (cA : Nat → ClassId) (N : Nat) (ad : Nat → Nat) (c : Nat → va_E) (hfl : l.stackTraces = false) (n : Nat) (i R Y L S D9 K : Nat) (st : Nat → Nat → Int32) (y : Int32) (hN : 12 + 4 * n ≤ N) (hF : FH ad cA c n) (hi : i < n) (hH : HandAt ad cA c (12 + 4 * i) R Y L S D9 K st) (hok : Hok R Y L S D9 K) (hbad : ¬ (nI 0 ≤ y ∧ y ≤ nI 9999)) : Ct l yX1_setLuck wX1_setLuck { frames := 6, cells := 1, slots := 6, locals := 82 } [.ref (ad 0), .int (nI i), .int y] D cA N ad c 1 6 nIAE := by
  intro sz9
  refine bd_ofT (cc := cX1_setLuck) (maxL := 5) (ret := some Jvm.ClassFile.FieldType.int) (by decide) rfl (Nat.le_of_ble_eq_true rfl) ?_
  intro p e s m below meth c0 C0 hr hlk hT hP hS hsz ls hl
  subst hsz
  have hx := C0.1
  have hb := C0.2.1
  have hl : lv_has ls 5 [(0, .ref (ad 0)), (1, .int (nI i)), (2, .int y)] := hl
  obtain ⟨q1, q2, q3, q4, q5, q6, q7, q8, q9⟩ := id hok
  refine lv_aload_n hx hb dX1_setLuck_0 rfl (lv_at hl 0 rfl) ?_
  refine lv_iload_n hx hb dX1_setLuck_1 rfl (lv_at hl 1 rfl) ?_
  refine k0_r (rn_X1_42 (As := [.int (nI i)]) (rest := []) (r := 0) C0 (m_X1_handAt l D cA N ad (c) n i (by omega) hF (by omega) (by omega) _) hP hS (by omega) hF.1 rfl ⟨rfl, rfl⟩ ⟨by decide, by decide⟩ hl.1 rfl (Nat.le_of_ble_eq_true rfl) dX1_setLuck_2 ⟨Nat.le_of_ble_eq_true rfl, Nat.le_of_ble_eq_true rfl⟩) C0 hP hS (fun H locs hP hS => ?_)
  refine lv_astore_n (lv' := [(3, .ref (ad (12 + 4 * i))), (0, .ref (ad 0)), (1, .int (nI i)), (2, .int y)]) hx hb dX1_setLuck_5 rfl hl (by decide) rfl (fun ls hl => ?_)
  refine lv_iload_n hx hb dX1_setLuck_6 rfl (lv_at hl 3 rfl) ?_
  refine lv_iconst (v := nI 0) hx hb dX1_setLuck_7 rfl ?_
  refine lv_sipush (v := nI 9999) hx hb dX1_setLuck_8 rfl ?_
  refine k0_i (rn_X1_22 (As := [.int y, .int (nI 0), .int (nI 9999)]) (rest := []) C0 (m_X1_isWithin l D cA N ad (c) (y) (nI 0) (nI 9999) _) hP hS rfl ⟨rfl, rfl⟩ ⟨by decide, by decide⟩ hl.1 rfl (Nat.le_of_ble_eq_true rfl) dX1_setLuck_11 ⟨Nat.le_of_ble_eq_true rfl, Nat.le_of_ble_eq_true rfl⟩) C0 hP hS (fun v11 c11 H locs hp hP hS => ?_)
  obtain ⟨hv, rfl⟩ := hp
  by_cases hw11 : nI 0 ≤ y ∧ y ≤ nI 9999
  · obtain rfl : v11 = nI 1 := by rw [hv, if_pos hw11]; rfl
    refine n_if_ne (tgt := 27) hx hb (by omega) dX1_setLuck_14 (by decide) (fun h14 => ?_) (fun h14 => ?_)
    rotate_left
    · exfalso; omega
    exact absurd hw11 hbad
  · obtain rfl : v11 = nI 0 := by rw [hv, if_neg hw11]; rfl
    refine n_if_ne (tgt := 27) hx hb (by omega) dX1_setLuck_14 (by decide) (fun h14 => ?_) (fun h14 => ?_)
    · exfalso; omega
    exact th_S (text := "luck") (rest := []) C0 hfl hP hS hlk hT hl (by decide +kernel) ln_IAE at_IAE gd_IAE (by decide +kernel) dX1_setLuck_17 dX1_setLuck_20 dX1_setLuck_21 dX1_setLuck_23 dX1_setLuck_26 (by decide) (Nat.le_of_ble_eq_true rfl) (by decide) (by decide) (by decide) (by decide)
set_option maxHeartbeats 1000000 in
set_option maxRecDepth 10000 in
theorem t_X1_luckIn__a (l : Launch) (D : va_G) (cA : Nat → ClassId) (N : Nat) (ad : Nat → Nat) (c : Nat → va_E) (hfl : l.stackTraces = false) (n : Nat) (i R Y L S D9 K : Nat) (st : Nat → Nat → Int32) (y : Int32) (hN : 12 + 4 * n ≤ N) (hF : FH ad cA c n) (hi : i < n) (hH : HandAt ad cA c (12 + 4 * i) R Y L S D9 K st) (hok : Hok R Y L S D9 K) (hbad : ¬ (nI 0 ≤ y ∧ y ≤ nI 1000)) : Ct l yX1_luckIn wX1_luckIn { frames := 6, cells := 1, slots := 6, locals := 82 } [.ref (ad 0), .int (nI i), .int y] D cA N ad c 1 6 nIAE := by
  intro sz9
  refine bd_ofT (cc := cX1_luckIn) (maxL := 4) (ret := some Jvm.ClassFile.FieldType.int) (by decide) rfl (Nat.le_of_ble_eq_true rfl) ?_
  intro p e s m below meth c0 C0 hr hlk hT hP hS hsz ls hl
  subst hsz
  have hx := C0.1
  have hb := C0.2.1
  have hl : lv_has ls 4 [(0, .ref (ad 0)), (1, .int (nI i)), (2, .int y)] := hl
  obtain ⟨q1, q2, q3, q4, q5, q6, q7, q8, q9⟩ := id hok
  refine lv_aload_n hx hb dX1_luckIn_0 rfl (lv_at hl 0 rfl) ?_
  refine lv_iload_n hx hb dX1_luckIn_1 rfl (lv_at hl 1 rfl) ?_
  refine k0_r (rn_X1_42 (As := [.int (nI i)]) (rest := []) (r := 0) C0 (m_X1_handAt l D cA N ad (c) n i (by omega) hF (by omega) (by omega) _) hP hS (by omega) hF.1 rfl ⟨rfl, rfl⟩ ⟨by decide, by decide⟩ hl.1 rfl (Nat.le_of_ble_eq_true rfl) dX1_luckIn_2 ⟨Nat.le_of_ble_eq_true rfl, Nat.le_of_ble_eq_true rfl⟩) C0 hP hS (fun H locs hP hS => ?_)
  refine lv_astore_n (lv' := [(3, .ref (ad (12 + 4 * i))), (0, .ref (ad 0)), (1, .int (nI i)), (2, .int y)]) hx hb dX1_luckIn_5 rfl hl (by decide) rfl (fun ls hl => ?_)
  refine lv_iload_n hx hb dX1_luckIn_6 rfl (lv_at hl 3 rfl) ?_
  refine lv_iconst (v := nI 0) hx hb dX1_luckIn_7 rfl ?_
  refine lv_sipush (v := nI 1000) hx hb dX1_luckIn_8 rfl ?_
  refine k0_i (rn_X1_22 (As := [.int y, .int (nI 0), .int (nI 1000)]) (rest := []) C0 (m_X1_isWithin l D cA N ad (c) (y) (nI 0) (nI 1000) _) hP hS rfl ⟨rfl, rfl⟩ ⟨by decide, by decide⟩ hl.1 rfl (Nat.le_of_ble_eq_true rfl) dX1_luckIn_11 ⟨Nat.le_of_ble_eq_true rfl, Nat.le_of_ble_eq_true rfl⟩) C0 hP hS (fun v11 c11 H locs hp hP hS => ?_)
  obtain ⟨hv, rfl⟩ := hp
  by_cases hw11 : nI 0 ≤ y ∧ y ≤ nI 1000
  · obtain rfl : v11 = nI 1 := by rw [hv, if_pos hw11]; rfl
    refine n_if_ne (tgt := 27) hx hb (by omega) dX1_luckIn_14 (by decide) (fun h14 => ?_) (fun h14 => ?_)
    rotate_left
    · exfalso; omega
    exact absurd hw11 hbad
  · obtain rfl : v11 = nI 0 := by rw [hv, if_neg hw11]; rfl
    refine n_if_ne (tgt := 27) hx hb (by omega) dX1_luckIn_14 (by decide) (fun h14 => ?_) (fun h14 => ?_)
    · exfalso; omega
    exact th_S (text := "draws") (rest := []) C0 hfl hP hS hlk hT hl (by decide +kernel) ln_IAE at_IAE gd_IAE (by decide +kernel) dX1_luckIn_17 dX1_luckIn_20 dX1_luckIn_21 dX1_luckIn_23 dX1_luckIn_26 (by decide) (Nat.le_of_ble_eq_true rfl) (by decide) (by decide) (by decide) (by decide)
set_option maxHeartbeats 1000000 in
set_option maxRecDepth 10000 in
theorem t_X1_wouldTake__a (l : Launch) (D : va_G) (cA : Nat → ClassId) (N : Nat) (ad : Nat → Nat) (c : Nat → va_E) (hfl : l.stackTraces = false) (n : Nat) (i R Y L S D9 K : Nat) (st : Nat → Nat → Int32) (y : Int32) (hN : 12 + 4 * n ≤ N) (hF : FH ad cA c n) (hi : i < n) (hH : HandAt ad cA c (12 + 4 * i) R Y L S D9 K st) (hok : Hok R Y L S D9 K) (hbad : ¬ (nI 1 ≤ y ∧ y ≤ nI 9)) : Ct l yX1_wouldTake wX1_wouldTake { frames := 6, cells := 1, slots := 6, locals := 82 } [.ref (ad 0), .int (nI i), .int y] D cA N ad c 1 6 nIAE := by
  intro sz9
  refine bd_ofT (cc := cX1_wouldTake) (maxL := 4) (ret := some Jvm.ClassFile.FieldType.int) (by decide) rfl (Nat.le_of_ble_eq_true rfl) ?_
  intro p e s m below meth c0 C0 hr hlk hT hP hS hsz ls hl
  subst hsz
  have hx := C0.1
  have hb := C0.2.1
  have hl : lv_has ls 4 [(0, .ref (ad 0)), (1, .int (nI i)), (2, .int y)] := hl
  obtain ⟨q1, q2, q3, q4, q5, q6, q7, q8, q9⟩ := id hok
  refine lv_aload_n hx hb dX1_wouldTake_0 rfl (lv_at hl 0 rfl) ?_
  refine lv_iload_n hx hb dX1_wouldTake_1 rfl (lv_at hl 1 rfl) ?_
  refine k0_r (rn_X1_42 (As := [.int (nI i)]) (rest := []) (r := 0) C0 (m_X1_handAt l D cA N ad (c) n i (by omega) hF (by omega) (by omega) _) hP hS (by omega) hF.1 rfl ⟨rfl, rfl⟩ ⟨by decide, by decide⟩ hl.1 rfl (Nat.le_of_ble_eq_true rfl) dX1_wouldTake_2 ⟨Nat.le_of_ble_eq_true rfl, Nat.le_of_ble_eq_true rfl⟩) C0 hP hS (fun H locs hP hS => ?_)
  refine lv_astore_n (lv' := [(3, .ref (ad (12 + 4 * i))), (0, .ref (ad 0)), (1, .int (nI i)), (2, .int y)]) hx hb dX1_wouldTake_5 rfl hl (by decide) rfl (fun ls hl => ?_)
  refine lv_iload_n hx hb dX1_wouldTake_6 rfl (lv_at hl 3 rfl) ?_
  refine lv_iconst (v := nI 1) hx hb dX1_wouldTake_7 rfl ?_
  refine lv_bipush (v := nI 9) hx hb dX1_wouldTake_8 rfl ?_
  refine k0_i (rn_X1_22 (As := [.int y, .int (nI 1), .int (nI 9)]) (rest := []) C0 (m_X1_isWithin l D cA N ad (c) (y) (nI 1) (nI 9) _) hP hS rfl ⟨rfl, rfl⟩ ⟨by decide, by decide⟩ hl.1 rfl (Nat.le_of_ble_eq_true rfl) dX1_wouldTake_10 ⟨Nat.le_of_ble_eq_true rfl, Nat.le_of_ble_eq_true rfl⟩) C0 hP hS (fun v10 c10 H locs hp hP hS => ?_)
  obtain ⟨hv, rfl⟩ := hp
  by_cases hw10 : nI 1 ≤ y ∧ y ≤ nI 9
  · obtain rfl : v10 = nI 1 := by rw [hv, if_pos hw10]; rfl
    refine n_if_ne (tgt := 26) hx hb (by omega) dX1_wouldTake_13 (by decide) (fun h13 => ?_) (fun h13 => ?_)
    rotate_left
    · exfalso; omega
    exact absurd hw10 hbad
  · obtain rfl : v10 = nI 0 := by rw [hv, if_neg hw10]; rfl
    refine n_if_ne (tgt := 26) hx hb (by omega) dX1_wouldTake_13 (by decide) (fun h13 => ?_) (fun h13 => ?_)
    · exfalso; omega
    exact th_S (text := "weight") (rest := []) C0 hfl hP hS hlk hT hl (by decide +kernel) ln_IAE at_IAE gd_IAE (by decide +kernel) dX1_wouldTake_16 dX1_wouldTake_19 dX1_wouldTake_20 dX1_wouldTake_22 dX1_wouldTake_25 (by decide) (Nat.le_of_ble_eq_true rfl) (by decide) (by decide) (by decide) (by decide)
set_option maxHeartbeats 1000000 in
set_option maxRecDepth 10000 in
theorem t_X1_wouldStay__a (l : Launch) (D : va_G) (cA : Nat → ClassId) (N : Nat) (ad : Nat → Nat) (c : Nat → va_E) (hfl : l.stackTraces = false) (n : Nat) (i R Y L S D9 K : Nat) (st : Nat → Nat → Int32) (y : Int32) (hN : 12 + 4 * n ≤ N) (hF : FH ad cA c n) (hi : i < n) (hH : HandAt ad cA c (12 + 4 * i) R Y L S D9 K st) (hok : Hok R Y L S D9 K) (hbad : ¬ (nI 1 ≤ y ∧ y ≤ nI 200)) : Ct l yX1_wouldStay wX1_wouldStay { frames := 6, cells := 1, slots := 6, locals := 82 } [.ref (ad 0), .int (nI i), .int y] D cA N ad c 1 6 nIAE := by
  intro sz9
  refine bd_ofT (cc := cX1_wouldStay) (maxL := 4) (ret := some Jvm.ClassFile.FieldType.int) (by decide) rfl (Nat.le_of_ble_eq_true rfl) ?_
  intro p e s m below meth c0 C0 hr hlk hT hP hS hsz ls hl
  subst hsz
  have hx := C0.1
  have hb := C0.2.1
  have hl : lv_has ls 4 [(0, .ref (ad 0)), (1, .int (nI i)), (2, .int y)] := hl
  obtain ⟨q1, q2, q3, q4, q5, q6, q7, q8, q9⟩ := id hok
  refine lv_aload_n hx hb dX1_wouldStay_0 rfl (lv_at hl 0 rfl) ?_
  refine lv_iload_n hx hb dX1_wouldStay_1 rfl (lv_at hl 1 rfl) ?_
  refine k0_r (rn_X1_42 (As := [.int (nI i)]) (rest := []) (r := 0) C0 (m_X1_handAt l D cA N ad (c) n i (by omega) hF (by omega) (by omega) _) hP hS (by omega) hF.1 rfl ⟨rfl, rfl⟩ ⟨by decide, by decide⟩ hl.1 rfl (Nat.le_of_ble_eq_true rfl) dX1_wouldStay_2 ⟨Nat.le_of_ble_eq_true rfl, Nat.le_of_ble_eq_true rfl⟩) C0 hP hS (fun H locs hP hS => ?_)
  refine lv_astore_n (lv' := [(3, .ref (ad (12 + 4 * i))), (0, .ref (ad 0)), (1, .int (nI i)), (2, .int y)]) hx hb dX1_wouldStay_5 rfl hl (by decide) rfl (fun ls hl => ?_)
  refine lv_iload_n hx hb dX1_wouldStay_6 rfl (lv_at hl 3 rfl) ?_
  refine lv_iconst (v := nI 1) hx hb dX1_wouldStay_7 rfl ?_
  refine lv_sipush (v := nI 200) hx hb dX1_wouldStay_8 rfl ?_
  refine k0_i (rn_X1_22 (As := [.int y, .int (nI 1), .int (nI 200)]) (rest := []) C0 (m_X1_isWithin l D cA N ad (c) (y) (nI 1) (nI 200) _) hP hS rfl ⟨rfl, rfl⟩ ⟨by decide, by decide⟩ hl.1 rfl (Nat.le_of_ble_eq_true rfl) dX1_wouldStay_11 ⟨Nat.le_of_ble_eq_true rfl, Nat.le_of_ble_eq_true rfl⟩) C0 hP hS (fun v11 c11 H locs hp hP hS => ?_)
  obtain ⟨hv, rfl⟩ := hp
  by_cases hw11 : nI 1 ≤ y ∧ y ≤ nI 200
  · obtain rfl : v11 = nI 1 := by rw [hv, if_pos hw11]; rfl
    refine n_if_ne (tgt := 27) hx hb (by omega) dX1_wouldStay_14 (by decide) (fun h14 => ?_) (fun h14 => ?_)
    rotate_left
    · exfalso; omega
    exact absurd hw11 hbad
  · obtain rfl : v11 = nI 0 := by rw [hv, if_neg hw11]; rfl
    refine n_if_ne (tgt := 27) hx hb (by omega) dX1_wouldStay_14 (by decide) (fun h14 => ?_) (fun h14 => ?_)
    · exfalso; omega
    exact th_S (text := "many") (rest := []) C0 hfl hP hS hlk hT hl (by decide +kernel) ln_IAE at_IAE gd_IAE (by decide +kernel) dX1_wouldStay_17 dX1_wouldStay_20 dX1_wouldStay_21 dX1_wouldStay_23 dX1_wouldStay_26 (by decide) (Nat.le_of_ble_eq_true rfl) (by decide) (by decide) (by decide) (by decide)
set_option maxHeartbeats 1000000 in
set_option maxRecDepth 10000 in
theorem t_X1_drawsUntil__a (l : Launch) (D : va_G) (cA : Nat → ClassId) (N : Nat) (ad : Nat → Nat) (c : Nat → va_E) (hfl : l.stackTraces = false) (n : Nat) (i R Y L S D9 K : Nat) (st : Nat → Nat → Int32) (y z : Int32) (hN : 12 + 4 * n ≤ N) (hF : FH ad cA c n) (hi : i < n) (hH : HandAt ad cA c (12 + 4 * i) R Y L S D9 K st) (hok : Hok R Y L S D9 K) (hbad : ¬ ((nI 1 ≤ y ∧ y ≤ nI 100) ∧ (nI 0 ≤ z ∧ z ≤ y - nI 1))) : Ct l yX1_drawsUntil wX1_drawsUntil { frames := 6, cells := 1, slots := 6, locals := 82 } [.ref (ad 0), .int (nI i), .int y, .int z] D cA N ad c 1 6 nIAE := by
  intro sz9
  refine bd_ofT (cc := cX1_drawsUntil) (maxL := 6) (ret := some Jvm.ClassFile.FieldType.int) (by decide) rfl (Nat.le_of_ble_eq_true rfl) ?_
  intro p e s m below meth c0 C0 hr hlk hT hP hS hsz ls hl
  subst hsz
  have hx := C0.1
  have hb := C0.2.1
  have hl : lv_has ls 6 [(0, .ref (ad 0)), (1, .int (nI i)), (2, .int y), (3, .int z)] := hl
  obtain ⟨q1, q2, q3, q4, q5, q6, q7, q8, q9⟩ := id hok
  refine lv_aload_n hx hb dX1_drawsUntil_0 rfl (lv_at hl 0 rfl) ?_
  refine lv_iload_n hx hb dX1_drawsUntil_1 rfl (lv_at hl 1 rfl) ?_
  refine k0_r (rn_X1_42 (As := [.int (nI i)]) (rest := []) (r := 0) C0 (m_X1_handAt l D cA N ad (c) n i (by omega) hF (by omega) (by omega) _) hP hS (by omega) hF.1 rfl ⟨rfl, rfl⟩ ⟨by decide, by decide⟩ hl.1 rfl (Nat.le_of_ble_eq_true rfl) dX1_drawsUntil_2 ⟨Nat.le_of_ble_eq_true rfl, Nat.le_of_ble_eq_true rfl⟩) C0 hP hS (fun H locs hP hS => ?_)
  refine lv_astore (lv' := [(4, .ref (ad (12 + 4 * i))), (0, .ref (ad 0)), (1, .int (nI i)), (2, .int y), (3, .int z)]) hx hb dX1_drawsUntil_5 hl (by decide) rfl (fun ls hl => ?_)
  refine lv_iload_n hx hb dX1_drawsUntil_7 rfl (lv_at hl 3 rfl) ?_
  refine lv_iconst (v := nI 1) hx hb dX1_drawsUntil_8 rfl ?_
  refine lv_bipush (v := nI 100) hx hb dX1_drawsUntil_9 rfl ?_
  refine k0_i (rn_X1_22 (As := [.int y, .int (nI 1), .int (nI 100)]) (rest := []) C0 (m_X1_isWithin l D cA N ad (c) (y) (nI 1) (nI 100) _) hP hS rfl ⟨rfl, rfl⟩ ⟨by decide, by decide⟩ hl.1 rfl (Nat.le_of_ble_eq_true rfl) dX1_drawsUntil_11 ⟨Nat.le_of_ble_eq_true rfl, Nat.le_of_ble_eq_true rfl⟩) C0 hP hS (fun v11 c11 H locs hp hP hS => ?_)
  obtain ⟨hv, rfl⟩ := hp
  by_cases hw11 : nI 1 ≤ y ∧ y ≤ nI 100
  · obtain rfl : v11 = nI 1 := by rw [hv, if_pos hw11]; rfl
    refine n_if_eq (tgt := 28) hx hb (by omega) dX1_drawsUntil_14 (by decide) (fun h14 => ?_) (fun h14 => ?_)
    · exfalso; omega
    refine lv_iload_n hx hb dX1_drawsUntil_17 rfl (lv_at hl 4 rfl) ?_
    refine lv_iconst (v := nI 0) hx hb dX1_drawsUntil_18 rfl ?_
    refine lv_iload_n hx hb dX1_drawsUntil_19 rfl (lv_at hl 3 rfl) ?_
    refine lv_iconst (v := nI 1) hx hb dX1_drawsUntil_20 rfl ?_
    refine lv_isub hx hb dX1_drawsUntil_21 ?_
    refine k0_i (rn_X1_22 (As := [.int z, .int (nI 0), .int ((y) - (nI 1))]) (rest := []) C0 (m_X1_isWithin l D cA N ad (c) (z) (nI 0) ((y) - (nI 1)) _) hP hS rfl ⟨rfl, rfl⟩ ⟨by decide, by decide⟩ hl.1 rfl (Nat.le_of_ble_eq_true rfl) dX1_drawsUntil_22 ⟨Nat.le_of_ble_eq_true rfl, Nat.le_of_ble_eq_true rfl⟩) C0 hP hS (fun v22 c22 H locs hp hP hS => ?_)
    obtain ⟨hv, rfl⟩ := hp
    by_cases hw22 : nI 0 ≤ z ∧ z ≤ (y) - (nI 1)
    · obtain rfl : v22 = nI 1 := by rw [hv, if_pos hw22]; rfl
      refine n_if_ne (tgt := 38) hx hb (by omega) dX1_drawsUntil_25 (by decide) (fun h25 => ?_) (fun h25 => ?_)
      rotate_left
      · exfalso; omega
      exact absurd ⟨hw11, hw22⟩ hbad
    · obtain rfl : v22 = nI 0 := by rw [hv, if_neg hw22]; rfl
      refine n_if_ne (tgt := 38) hx hb (by omega) dX1_drawsUntil_25 (by decide) (fun h25 => ?_) (fun h25 => ?_)
      · exfalso; omega
      exact th_S (text := "below or drawn") (rest := []) C0 hfl hP hS hlk hT hl (by decide +kernel) ln_IAE at_IAE gd_IAE (by decide +kernel) dX1_drawsUntil_28 dX1_drawsUntil_31 dX1_drawsUntil_32 dX1_drawsUntil_34 dX1_drawsUntil_37 (by decide) (Nat.le_of_ble_eq_true rfl) (by decide) (by decide) (by decide) (by decide)
  · obtain rfl : v11 = nI 0 := by rw [hv, if_neg hw11]; rfl
    refine n_if_eq (tgt := 28) hx hb (by omega) dX1_drawsUntil_14 (by decide) (fun h14 => ?_) (fun h14 => ?_)
    rotate_left
    · exfalso; omega
    exact th_S (text := "below or drawn") (rest := []) C0 hfl hP hS hlk hT hl (by decide +kernel) ln_IAE at_IAE gd_IAE (by decide +kernel) dX1_drawsUntil_28 dX1_drawsUntil_31 dX1_drawsUntil_32 dX1_drawsUntil_34 dX1_drawsUntil_37 (by decide) (Nat.le_of_ble_eq_true rfl) (by decide) (by decide) (by decide) (by decide)
set_option maxHeartbeats 1000000 in
set_option maxRecDepth 10000 in
theorem t_X1_addHand__a (l : Launch) (D : va_G) (cA : Nat → ClassId) (N : Nat) (ad : Nat → Nat) (c : Nat → va_E) (hfl : l.stackTraces = false) (n : Nat) (x y z : Int32) (hN : 12 + 4 * n ≤ N) (hF : FH ad cA c n) (hbad : ¬ ((nI 1 ≤ x ∧ x ≤ nI 8) ∧ (nI 0 ≤ y ∧ y ≤ nI 1) ∧ (nI 0 ≤ z ∧ z ≤ nI 9999))) : Ct l yX1_addHand wX1_addHand { frames := 6, cells := 1, slots := 6, locals := 82 } [.ref (ad 0), .int x, .int y, .int z] D cA N ad c 1 6 nIAE := by
  intro sz9
  refine bd_ofT (cc := cX1_addHand) (maxL := 5) (ret := some Jvm.ClassFile.FieldType.int) (by decide) rfl (Nat.le_of_ble_eq_true rfl) ?_
  intro p e s m below meth c0 C0 hr hlk hT hP hS hsz ls hl
  subst hsz
  have hx := C0.1
  have hb := C0.2.1
  have hl : lv_has ls 5 [(0, .ref (ad 0)), (1, .int x), (2, .int y), (3, .int z)] := hl
  have hn5 := hF.2.2
  refine lv_iload_n hx hb dX1_addHand_0 rfl (lv_at hl 1 rfl) ?_
  refine lv_iconst (v := nI 1) hx hb dX1_addHand_1 rfl ?_
  refine lv_bipush (v := nI 8) hx hb dX1_addHand_2 rfl ?_
  refine k0_i (rn_X1_22 (As := [.int x, .int (nI 1), .int (nI 8)]) (rest := []) C0 (m_X1_isWithin l D cA N ad (c) (x) (nI 1) (nI 8) _) hP hS rfl ⟨rfl, rfl⟩ ⟨by decide, by decide⟩ hl.1 rfl (Nat.le_of_ble_eq_true rfl) dX1_addHand_4 ⟨Nat.le_of_ble_eq_true rfl, Nat.le_of_ble_eq_true rfl⟩) C0 hP hS (fun v4 c4 H locs hp hP hS => ?_)
  obtain ⟨hv, rfl⟩ := hp
  by_cases hw4 : nI 1 ≤ x ∧ x ≤ nI 8
  · obtain rfl : v4 = nI 1 := by rw [hv, if_pos hw4]; rfl
    refine n_if_eq (tgt := 30) hx hb (by omega) dX1_addHand_7 (by decide) (fun h7 => ?_) (fun h7 => ?_)
    · exfalso; omega
    refine lv_iload_n hx hb dX1_addHand_10 rfl (lv_at hl 2 rfl) ?_
    refine lv_iconst (v := nI 0) hx hb dX1_addHand_11 rfl ?_
    refine lv_iconst (v := nI 1) hx hb dX1_addHand_12 rfl ?_
    refine k0_i (rn_X1_22 (As := [.int y, .int (nI 0), .int (nI 1)]) (rest := []) C0 (m_X1_isWithin l D cA N ad (c) (y) (nI 0) (nI 1) _) hP hS rfl ⟨rfl, rfl⟩ ⟨by decide, by decide⟩ hl.1 rfl (Nat.le_of_ble_eq_true rfl) dX1_addHand_13 ⟨Nat.le_of_ble_eq_true rfl, Nat.le_of_ble_eq_true rfl⟩) C0 hP hS (fun v13 c13 H locs hp hP hS => ?_)
    obtain ⟨hv, rfl⟩ := hp
    by_cases hw13 : nI 0 ≤ y ∧ y ≤ nI 1
    · obtain rfl : v13 = nI 1 := by rw [hv, if_pos hw13]; rfl
      refine n_if_eq (tgt := 30) hx hb (by omega) dX1_addHand_16 (by decide) (fun h16 => ?_) (fun h16 => ?_)
      · exfalso; omega
      refine lv_iload_n hx hb dX1_addHand_19 rfl (lv_at hl 3 rfl) ?_
      refine lv_iconst (v := nI 0) hx hb dX1_addHand_20 rfl ?_
      refine lv_sipush (v := nI 9999) hx hb dX1_addHand_21 rfl ?_
      refine k0_i (rn_X1_22 (As := [.int z, .int (nI 0), .int (nI 9999)]) (rest := []) C0 (m_X1_isWithin l D cA N ad (c) (z) (nI 0) (nI 9999) _) hP hS rfl ⟨rfl, rfl⟩ ⟨by decide, by decide⟩ hl.1 rfl (Nat.le_of_ble_eq_true rfl) dX1_addHand_24 ⟨Nat.le_of_ble_eq_true rfl, Nat.le_of_ble_eq_true rfl⟩) C0 hP hS (fun v24 c24 H locs hp hP hS => ?_)
      obtain ⟨hv, rfl⟩ := hp
      by_cases hw24 : nI 0 ≤ z ∧ z ≤ nI 9999
      · obtain rfl : v24 = nI 1 := by rw [hv, if_pos hw24]; rfl
        refine n_if_ne (tgt := 40) hx hb (by omega) dX1_addHand_27 (by decide) (fun h27 => ?_) (fun h27 => ?_)
        rotate_left
        · exfalso; omega
        exact absurd ⟨hw4, hw13, hw24⟩ hbad
      · obtain rfl : v24 = nI 0 := by rw [hv, if_neg hw24]; rfl
        refine n_if_ne (tgt := 40) hx hb (by omega) dX1_addHand_27 (by decide) (fun h27 => ?_) (fun h27 => ?_)
        · exfalso; omega
        exact th_S (text := "room, way or luck") (rest := []) C0 hfl hP hS hlk hT hl (by decide +kernel) ln_IAE at_IAE gd_IAE (by decide +kernel) dX1_addHand_30 dX1_addHand_33 dX1_addHand_34 dX1_addHand_36 dX1_addHand_39 (by decide) (Nat.le_of_ble_eq_true rfl) (by decide) (by decide) (by decide) (by decide)
    · obtain rfl : v13 = nI 0 := by rw [hv, if_neg hw13]; rfl
      refine n_if_eq (tgt := 30) hx hb (by omega) dX1_addHand_16 (by decide) (fun h16 => ?_) (fun h16 => ?_)
      rotate_left
      · exfalso; omega
      exact th_S (text := "room, way or luck") (rest := []) C0 hfl hP hS hlk hT hl (by decide +kernel) ln_IAE at_IAE gd_IAE (by decide +kernel) dX1_addHand_30 dX1_addHand_33 dX1_addHand_34 dX1_addHand_36 dX1_addHand_39 (by decide) (Nat.le_of_ble_eq_true rfl) (by decide) (by decide) (by decide) (by decide)
  · obtain rfl : v4 = nI 0 := by rw [hv, if_neg hw4]; rfl
    refine n_if_eq (tgt := 30) hx hb (by omega) dX1_addHand_7 (by decide) (fun h7 => ?_) (fun h7 => ?_)
    rotate_left
    · exfalso; omega
    exact th_S (text := "room, way or luck") (rest := []) C0 hfl hP hS hlk hT hl (by decide +kernel) ln_IAE at_IAE gd_IAE (by decide +kernel) dX1_addHand_30 dX1_addHand_33 dX1_addHand_34 dX1_addHand_36 dX1_addHand_39 (by decide) (Nat.le_of_ble_eq_true rfl) (by decide) (by decide) (by decide) (by decide)
set_option maxHeartbeats 1000000 in
set_option maxRecDepth 10000 in
theorem t_X1_addHand__s (l : Launch) (D : va_G) (cA : Nat → ClassId) (N : Nat) (ad : Nat → Nat) (c : Nat → va_E) (hfl : l.stackTraces = false) (n : Nat) (x y z : Int32) (hN : 12 + 4 * n ≤ N) (hF : FH ad cA c n) (hgood : (nI 1 ≤ x ∧ x ≤ nI 8) ∧ (nI 0 ≤ y ∧ y ≤ nI 1) ∧ (nI 0 ≤ z ∧ z ≤ nI 9999)) (hfull : n = 5) : Ct l yX1_addHand wX1_addHand { frames := 6, cells := 1, slots := 6, locals := 82 } [.ref (ad 0), .int x, .int y, .int z] D cA N ad c 1 6 nISE := by
  intro sz9
  refine bd_ofT (cc := cX1_addHand) (maxL := 5) (ret := some Jvm.ClassFile.FieldType.int) (by decide) rfl (Nat.le_of_ble_eq_true rfl) ?_
  intro p e s m below meth c0 C0 hr hlk hT hP hS hsz ls hl
  subst hsz
  have hx := C0.1
  have hb := C0.2.1
  have hl : lv_has ls 5 [(0, .ref (ad 0)), (1, .int x), (2, .int y), (3, .int z)] := hl
  have hn5 := hF.2.2
  refine lv_iload_n hx hb dX1_addHand_0 rfl (lv_at hl 1 rfl) ?_
  refine lv_iconst (v := nI 1) hx hb dX1_addHand_1 rfl ?_
  refine lv_bipush (v := nI 8) hx hb dX1_addHand_2 rfl ?_
  refine k0_i (rn_X1_22 (As := [.int x, .int (nI 1), .int (nI 8)]) (rest := []) C0 (m_X1_isWithin l D cA N ad (c) (x) (nI 1) (nI 8) _) hP hS rfl ⟨rfl, rfl⟩ ⟨by decide, by decide⟩ hl.1 rfl (Nat.le_of_ble_eq_true rfl) dX1_addHand_4 ⟨Nat.le_of_ble_eq_true rfl, Nat.le_of_ble_eq_true rfl⟩) C0 hP hS (fun v4 c4 H locs hp hP hS => ?_)
  obtain ⟨hv, rfl⟩ := hp
  by_cases hw4 : nI 1 ≤ x ∧ x ≤ nI 8
  · obtain rfl : v4 = nI 1 := by rw [hv, if_pos hw4]; rfl
    refine n_if_eq (tgt := 30) hx hb (by omega) dX1_addHand_7 (by decide) (fun h7 => ?_) (fun h7 => ?_)
    · exfalso; omega
    refine lv_iload_n hx hb dX1_addHand_10 rfl (lv_at hl 2 rfl) ?_
    refine lv_iconst (v := nI 0) hx hb dX1_addHand_11 rfl ?_
    refine lv_iconst (v := nI 1) hx hb dX1_addHand_12 rfl ?_
    refine k0_i (rn_X1_22 (As := [.int y, .int (nI 0), .int (nI 1)]) (rest := []) C0 (m_X1_isWithin l D cA N ad (c) (y) (nI 0) (nI 1) _) hP hS rfl ⟨rfl, rfl⟩ ⟨by decide, by decide⟩ hl.1 rfl (Nat.le_of_ble_eq_true rfl) dX1_addHand_13 ⟨Nat.le_of_ble_eq_true rfl, Nat.le_of_ble_eq_true rfl⟩) C0 hP hS (fun v13 c13 H locs hp hP hS => ?_)
    obtain ⟨hv, rfl⟩ := hp
    by_cases hw13 : nI 0 ≤ y ∧ y ≤ nI 1
    · obtain rfl : v13 = nI 1 := by rw [hv, if_pos hw13]; rfl
      refine n_if_eq (tgt := 30) hx hb (by omega) dX1_addHand_16 (by decide) (fun h16 => ?_) (fun h16 => ?_)
      · exfalso; omega
      refine lv_iload_n hx hb dX1_addHand_19 rfl (lv_at hl 3 rfl) ?_
      refine lv_iconst (v := nI 0) hx hb dX1_addHand_20 rfl ?_
      refine lv_sipush (v := nI 9999) hx hb dX1_addHand_21 rfl ?_
      refine k0_i (rn_X1_22 (As := [.int z, .int (nI 0), .int (nI 9999)]) (rest := []) C0 (m_X1_isWithin l D cA N ad (c) (z) (nI 0) (nI 9999) _) hP hS rfl ⟨rfl, rfl⟩ ⟨by decide, by decide⟩ hl.1 rfl (Nat.le_of_ble_eq_true rfl) dX1_addHand_24 ⟨Nat.le_of_ble_eq_true rfl, Nat.le_of_ble_eq_true rfl⟩) C0 hP hS (fun v24 c24 H locs hp hP hS => ?_)
      obtain ⟨hv, rfl⟩ := hp
      by_cases hw24 : nI 0 ≤ z ∧ z ≤ nI 9999
      · obtain rfl : v24 = nI 1 := by rw [hv, if_pos hw24]; rfl
        refine n_if_ne (tgt := 40) hx hb (by omega) dX1_addHand_27 (by decide) (fun h27 => ?_) (fun h27 => ?_)
        rotate_left
        · exfalso; omega
        refine lv_aload_n hx hb dX1_addHand_40 rfl (lv_at hl 0 rfl) ?_
        refine k0_i (rn_X1_33 (As := []) (rest := []) (r := 0) C0 (m_X1_hands l D cA N ad (c) n (by omega) hF _) hP hS (by omega) hF.1 rfl ⟨rfl, rfl⟩ ⟨by decide, by decide⟩ hl.1 rfl (Nat.le_of_ble_eq_true rfl) dX1_addHand_41 ⟨Nat.le_of_ble_eq_true rfl, Nat.le_of_ble_eq_true rfl⟩) C0 hP hS (fun v41 c41 H locs hp hP hS => ?_)
        obtain ⟨rfl, rfl⟩ := hp
        refine lv_istore (lv' := [(4, .int (nI n)), (0, .ref (ad 0)), (1, .int x), (2, .int y), (3, .int z)]) hx hb dX1_addHand_44 hl (by decide) rfl (fun ls hl => ?_)
        refine lv_iload hx hb dX1_addHand_46 (lv_at hl 0 rfl) ?_
        refine lv_aload_n hx hb dX1_addHand_48 rfl (lv_at hl 1 rfl) ?_
        refine gf_X1_11 C0 hP (by omega) hF.1 rfl dX1_addHand_49 ?_
        refine a_lenq C0 hP (by omega) hF.2.1 dX1_addHand_52 ?_
        refine n_icmp_lt (tgt := 66) hx hb (by omega) (by omega) dX1_addHand_53 (by decide) (fun h53 => ?_) (fun h53 => ?_)
        · exfalso; omega
        · exact th_S (text := "there are enough hands") (rest := []) C0 hfl hP hS hlk hT hl (by decide +kernel) ln_ISE at_ISE gd_ISE (by decide +kernel) dX1_addHand_56 dX1_addHand_59 dX1_addHand_60 dX1_addHand_62 dX1_addHand_65 (by decide) (Nat.le_of_ble_eq_true rfl) (by decide) (by decide) (by decide) (by decide)
      · obtain rfl : v24 = nI 0 := by rw [hv, if_neg hw24]; rfl
        refine n_if_ne (tgt := 40) hx hb (by omega) dX1_addHand_27 (by decide) (fun h27 => ?_) (fun h27 => ?_)
        · exfalso; omega
        exact absurd hgood (fun q => by first | exact hw4 q.1 | exact hw13 q.2.1 | exact hw24 q.2.2)
    · obtain rfl : v13 = nI 0 := by rw [hv, if_neg hw13]; rfl
      refine n_if_eq (tgt := 30) hx hb (by omega) dX1_addHand_16 (by decide) (fun h16 => ?_) (fun h16 => ?_)
      rotate_left
      · exfalso; omega
      exact absurd hgood (fun q => by first | exact hw4 q.1 | exact hw13 q.2.1 | exact hw24 q.2.2)
  · obtain rfl : v4 = nI 0 := by rw [hv, if_neg hw4]; rfl
    refine n_if_eq (tgt := 30) hx hb (by omega) dX1_addHand_7 (by decide) (fun h7 => ?_) (fun h7 => ?_)
    rotate_left
    · exfalso; omega
    exact absurd hgood (fun q => by first | exact hw4 q.1 | exact hw13 q.2.1 | exact hw24 q.2.2)
set_option maxHeartbeats 1000000 in
set_option maxRecDepth 10000 in
theorem t_X1_join__a (l : Launch) (D : va_G) (cA : Nat → ClassId) (N : Nat) (ad : Nat → Nat) (c : Nat → va_E) (hfl : l.stackTraces = false) (n : Nat) (i R Y L S D9 K : Nat) (st : Nat → Nat → Int32)  (hN : 12 + 4 * n ≤ N) (hF : FH ad cA c n) (hi : i < n) (hH : HandAt ad cA c (12 + 4 * i) R Y L S D9 K st) (hok : Hok R Y L S D9 K) : Ct l yX1_join wX1_join { frames := 6, cells := 1, slots := 6, locals := 82 } [.ref (ad 0), .int (nI i), .int (nI i)] D cA N ad c 1 6 nIAE := by
  intro sz9
  refine bd_ofT (cc := cX1_join) (maxL := 6) (ret := some Jvm.ClassFile.FieldType.int) (by decide) rfl (Nat.le_of_ble_eq_true rfl) ?_
  intro p e s m below meth c0 C0 hr hlk hT hP hS hsz ls hl
  subst hsz
  have hx := C0.1
  have hb := C0.2.1
  have hl : lv_has ls 6 [(0, .ref (ad 0)), (1, .int (nI i)), (2, .int (nI i))] := hl
  obtain ⟨q1, q2, q3, q4, q5, q6, q7, q8, q9⟩ := id hok
  refine lv_aload_n hx hb dX1_join_0 rfl (lv_at hl 0 rfl) ?_
  refine lv_iload_n hx hb dX1_join_1 rfl (lv_at hl 1 rfl) ?_
  refine k0_r (rn_X1_42 (As := [.int (nI i)]) (rest := []) (r := 0) C0 (m_X1_handAt l D cA N ad (c) n i (by omega) hF (by omega) (by omega) _) hP hS (by omega) hF.1 rfl ⟨rfl, rfl⟩ ⟨by decide, by decide⟩ hl.1 rfl (Nat.le_of_ble_eq_true rfl) dX1_join_2 ⟨Nat.le_of_ble_eq_true rfl, Nat.le_of_ble_eq_true rfl⟩) C0 hP hS (fun H locs hP hS => ?_)
  refine lv_astore_n (lv' := [(3, .ref (ad (12 + 4 * i))), (0, .ref (ad 0)), (1, .int (nI i)), (2, .int (nI i))]) hx hb dX1_join_5 rfl hl (by decide) rfl (fun ls hl => ?_)
  refine lv_aload_n hx hb dX1_join_6 rfl (lv_at hl 1 rfl) ?_
  refine lv_iload_n hx hb dX1_join_7 rfl (lv_at hl 3 rfl) ?_
  refine k0_r (rn_X1_42 (As := [.int (nI i)]) (rest := []) (r := 0) C0 (m_X1_handAt l D cA N ad (c) n i (by omega) hF (by omega) (by omega) _) hP hS (by omega) hF.1 rfl ⟨rfl, rfl⟩ ⟨by decide, by decide⟩ hl.1 rfl (Nat.le_of_ble_eq_true rfl) dX1_join_8 ⟨Nat.le_of_ble_eq_true rfl, Nat.le_of_ble_eq_true rfl⟩) C0 hP hS (fun H locs hP hS => ?_)
  refine lv_astore (lv' := [(4, .ref (ad (12 + 4 * i))), (3, .ref (ad (12 + 4 * i))), (0, .ref (ad 0)), (1, .int (nI i)), (2, .int (nI i))]) hx hb dX1_join_11 hl (by decide) rfl (fun ls hl => ?_)
  refine lv_aload_n hx hb dX1_join_13 rfl (lv_at hl 1 rfl) ?_
  refine lv_aload hx hb dX1_join_14 (lv_at hl 0 rfl) ?_
  refine lv_acmp_ne (rx := (some (ad (12 + 4 * i)))) (ry := (some (ad (12 + 4 * i)))) (tgt := 29) hx hb dX1_join_16 (by decide) (fun h16 => ?_) (fun h16 => ?_)
  · exact absurd rfl h16
  exact th_S (text := "a hand with itself") (rest := []) C0 hfl hP hS hlk hT hl (by decide +kernel) ln_IAE at_IAE gd_IAE (by decide +kernel) dX1_join_19 dX1_join_22 dX1_join_23 dX1_join_25 dX1_join_28 (by decide) (Nat.le_of_ble_eq_true rfl) (by decide) (by decide) (by decide) (by decide)
set_option maxHeartbeats 1000000 in
set_option maxRecDepth 10000 in
theorem t_X1_join__s (l : Launch) (D : va_G) (cA : Nat → ClassId) (N : Nat) (ad : Nat → Nat) (c : Nat → va_E) (hfl : l.stackTraces = false) (n : Nat) (i R Y L S D9 K : Nat) (st : Nat → Nat → Int32) (j Ro Yo Lo So Do Ko : Nat) (sto : Nat → Nat → Int32) (hN : 12 + 4 * n ≤ N) (hF : FH ad cA c n) (hi : i < n) (hH : HandAt ad cA c (12 + 4 * i) R Y L S D9 K st) (hok : Hok R Y L S D9 K) (hj : j < n) (hO : HandAt ad cA c (12 + 4 * j) Ro Yo Lo So Do Ko sto) (hoo : Hok Ro Yo Lo So Do Ko) (hij : ad (12 + 4 * i) ≠ ad (12 + 4 * j)) (hna : ¬ (Y = 0 ∧ Yo = 0 ∧ R = Ro)) : Ct l yX1_join wX1_join { frames := 6, cells := 1, slots := 6, locals := 82 } [.ref (ad 0), .int (nI i), .int (nI j)] D cA N ad c 1 6 nISE := by
  intro sz9
  refine bd_ofT (cc := cX1_join) (maxL := 6) (ret := some Jvm.ClassFile.FieldType.int) (by decide) rfl (Nat.le_of_ble_eq_true rfl) ?_
  intro p e s m below meth c0 C0 hr hlk hT hP hS hsz ls hl
  subst hsz
  have hx := C0.1
  have hb := C0.2.1
  have hl : lv_has ls 6 [(0, .ref (ad 0)), (1, .int (nI i)), (2, .int (nI j))] := hl
  obtain ⟨q1, q2, q3, q4, q5, q6, q7, q8, q9⟩ := id hok
  obtain ⟨o1, o2, o3, o4, o5, o6, o7, o8, o9⟩ := id hoo
  refine lv_aload_n hx hb dX1_join_0 rfl (lv_at hl 0 rfl) ?_
  refine lv_iload_n hx hb dX1_join_1 rfl (lv_at hl 1 rfl) ?_
  refine k0_r (rn_X1_42 (As := [.int (nI i)]) (rest := []) (r := 0) C0 (m_X1_handAt l D cA N ad (c) n i (by omega) hF (by omega) (by omega) _) hP hS (by omega) hF.1 rfl ⟨rfl, rfl⟩ ⟨by decide, by decide⟩ hl.1 rfl (Nat.le_of_ble_eq_true rfl) dX1_join_2 ⟨Nat.le_of_ble_eq_true rfl, Nat.le_of_ble_eq_true rfl⟩) C0 hP hS (fun H locs hP hS => ?_)
  refine lv_astore_n (lv' := [(3, .ref (ad (12 + 4 * i))), (0, .ref (ad 0)), (1, .int (nI i)), (2, .int (nI j))]) hx hb dX1_join_5 rfl hl (by decide) rfl (fun ls hl => ?_)
  refine lv_aload_n hx hb dX1_join_6 rfl (lv_at hl 1 rfl) ?_
  refine lv_iload_n hx hb dX1_join_7 rfl (lv_at hl 3 rfl) ?_
  refine k0_r (rn_X1_42 (As := [.int (nI j)]) (rest := []) (r := 0) C0 (m_X1_handAt l D cA N ad (c) n j (by omega) hF (by omega) (by omega) _) hP hS (by omega) hF.1 rfl ⟨rfl, rfl⟩ ⟨by decide, by decide⟩ hl.1 rfl (Nat.le_of_ble_eq_true rfl) dX1_join_8 ⟨Nat.le_of_ble_eq_true rfl, Nat.le_of_ble_eq_true rfl⟩) C0 hP hS (fun H locs hP hS => ?_)
  refine lv_astore (lv' := [(4, .ref (ad (12 + 4 * j))), (3, .ref (ad (12 + 4 * i))), (0, .ref (ad 0)), (1, .int (nI i)), (2, .int (nI j))]) hx hb dX1_join_11 hl (by decide) rfl (fun ls hl => ?_)
  refine lv_aload_n hx hb dX1_join_13 rfl (lv_at hl 1 rfl) ?_
  refine lv_aload hx hb dX1_join_14 (lv_at hl 0 rfl) ?_
  refine lv_acmp_ne (rx := (some (ad (12 + 4 * i)))) (ry := (some (ad (12 + 4 * j)))) (tgt := 29) hx hb dX1_join_16 (by decide) (fun h16 => ?_) (fun h16 => ?_)
  rotate_left
  · exact absurd (Option.some.inj h16) hij
  refine lv_aload_n hx hb dX1_join_29 rfl (lv_at hl 1 rfl) ?_
  refine lv_aload hx hb dX1_join_30 (lv_at hl 0 rfl) ?_
  refine k0_i (rn_X1_59 (As := [.ref (ad (12 + 4 * i)), .ref (ad (12 + 4 * j))]) (rest := []) C0 (m_X1_areAlike l D cA N ad (c) (12 + 4 * i) R Y L S D9 K st (12 + 4 * j) Ro Yo Lo So Do Ko sto (by omega) (by omega) hH hok (by omega) (by omega) hO hoo _) hP hS rfl ⟨rfl, rfl⟩ ⟨by decide, by decide⟩ hl.1 rfl (Nat.le_of_ble_eq_true rfl) dX1_join_32 ⟨Nat.le_of_ble_eq_true rfl, Nat.le_of_ble_eq_true rfl⟩) C0 hP hS (fun v32 c32 H locs hp hP hS => ?_)
  obtain ⟨rfl, rfl⟩ := hp
  refine lv_if_ne (tgt := 48) hx hb dX1_join_35 (by decide) (fun h35 => ?_) (fun h35 => ?_)
  · exact absurd (if_neg hna) h35
  exact th_S (text := "not both fair with as much room") (rest := []) C0 hfl hP hS hlk hT hl (by decide +kernel) ln_ISE at_ISE gd_ISE (by decide +kernel) dX1_join_38 dX1_join_41 dX1_join_42 dX1_join_44 dX1_join_47 (by decide) (Nat.le_of_ble_eq_true rfl) (by decide) (by decide) (by decide) (by decide)
