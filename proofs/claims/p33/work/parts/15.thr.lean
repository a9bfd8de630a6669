set_option maxHeartbeats 1000000 in
set_option maxRecDepth 10000 in
theorem t_X1_handAt (l : Launch) (D : va_G) (cA : Nat → ClassId) (N : Nat) (ad : Nat → Nat) (c : Nat → va_E) (hfl : l.stackTraces = false) (n : Nat) (x : Int32) (hN : 6 + 4 * n ≤ N) (hF : FH ad cA c n) (hbad : ∀ i, i < n → x ≠ nI i) : Ct l yX1_handAt wX1_handAt { frames := 6, cells := 1, slots := 6, locals := 82 } [.ref (ad 0), .int x] D cA N ad c 1 6 nIOB := by
  intro sz9
  refine bd_ofT (cc := cX1_handAt) (maxL := 3) (ret := some (Jvm.ClassFile.FieldType.object "FairHandful$Hand")) (by decide) rfl (Nat.le_of_ble_eq_true rfl) ?_
  intro p e s m below meth c0 C0 hr hlk hT hP hS hsz ls hl
  subst hsz
  have hx := C0.1
  have hb := C0.2.1
  have hl : lv_has ls 3 [(0, .ref (ad 0)), (1, .int x)] := hl
  have hn5 := hF.2.2
  refine lv_iload_n hx hb dX1_handAt_0 rfl (lv_at hl 1 rfl) ?_
  refine lv_if_lt (tgt := 22) hx hb dX1_handAt_1 (by decide) (fun h1 => ?_) (fun h1 => ?_)
  · refine lv_null hx hb dX1_handAt_22 ?_
    refine lv_astore_nN (lv' := [(2, .null), (0, .ref (ad 0)), (1, .int x)]) hx hb dX1_handAt_23 rfl hl (by decide) rfl (fun ls hl => ?_)
    refine lv_aload_nN hx hb dX1_handAt_24 rfl (lv_at hl 0 rfl) ?_
    refine lv_ifnonnullN hx hb dX1_handAt_25 ?_
    exact th_S (text := "no such hand") (rest := []) C0 hfl hP hS hlk hT hl (by decide +kernel) ln_IOB at_IOB gd_IOB (by decide +kernel) dX1_handAt_28 dX1_handAt_31 dX1_handAt_32 dX1_handAt_34 dX1_handAt_37 (by decide) (Nat.le_of_ble_eq_true rfl) (by decide) (by decide) (by decide) (by decide)
  · refine lv_iload_n hx hb dX1_handAt_4 rfl (lv_at hl 1 rfl) ?_
    refine lv_aload_n hx hb dX1_handAt_5 rfl (lv_at hl 0 rfl) ?_
    refine gf_X1_11 C0 hP (by omega) hF.1 rfl dX1_handAt_6 ?_
    refine a_lenq C0 hP (by omega) hF.2.1 dX1_handAt_9 ?_
    refine lv_icmp_ge (tgt := 22) hx hb dX1_handAt_10 (by decide) (fun h10 => ?_) (fun h10 => ?_)
    · refine lv_null hx hb dX1_handAt_22 ?_
      refine lv_astore_nN (lv' := [(2, .null), (0, .ref (ad 0)), (1, .int x)]) hx hb dX1_handAt_23 rfl hl (by decide) rfl (fun ls hl => ?_)
      refine lv_aload_nN hx hb dX1_handAt_24 rfl (lv_at hl 0 rfl) ?_
      refine lv_ifnonnullN hx hb dX1_handAt_25 ?_
      exact th_S (text := "no such hand") (rest := []) C0 hfl hP hS hlk hT hl (by decide +kernel) ln_IOB at_IOB gd_IOB (by decide +kernel) dX1_handAt_28 dX1_handAt_31 dX1_handAt_32 dX1_handAt_34 dX1_handAt_37 (by decide) (Nat.le_of_ble_eq_true rfl) (by decide) (by decide) (by decide) (by decide)
    · obtain ⟨j, hj, rfl⟩ := nI_small h1 h10 (by decide)
      have hnj : n ≤ j := Nat.not_lt.mp (fun h => hbad j h rfl)
      refine lv_aload_n hx hb dX1_handAt_13 rfl (lv_at hl 0 rfl) ?_
      refine gf_X1_11 C0 hP (by omega) hF.1 rfl dX1_handAt_14 ?_
      refine lv_iload_n hx hb dX1_handAt_17 rfl (lv_at hl 1 rfl) ?_
      refine a_qld C0 hP (by omega) hF.2.1 (by omega) (by omega) dX1_handAt_18 ?_
      rw [tbl_null hnj]
      refine lv_goto (tgt := 23) hx hb dX1_handAt_19 (by decide) ?_
      refine lv_astore_nN (lv' := [(2, .null), (0, .ref (ad 0)), (1, .int (nI j))]) hx hb dX1_handAt_23 rfl hl (by decide) rfl (fun ls hl => ?_)
      refine lv_aload_nN hx hb dX1_handAt_24 rfl (lv_at hl 0 rfl) ?_
      refine lv_ifnonnullN hx hb dX1_handAt_25 ?_
      exact th_S (text := "no such hand") (rest := []) C0 hfl hP hS hlk hT hl (by decide +kernel) ln_IOB at_IOB gd_IOB (by decide +kernel) dX1_handAt_28 dX1_handAt_31 dX1_handAt_32 dX1_handAt_34 dX1_handAt_37 (by decide) (Nat.le_of_ble_eq_true rfl) (by decide) (by decide) (by decide) (by decide)
set_option maxHeartbeats 1000000 in
set_option maxRecDepth 10000 in
theorem t_X1_join__a (l : Launch) (D : va_G) (cA : Nat → ClassId) (N : Nat) (ad : Nat → Nat) (c : Nat → va_E) (hfl : l.stackTraces = false) (n : Nat) (i R Y L S D9 K : Nat) (st : Nat → Nat → Int32)  (hN : 6 + 4 * n ≤ N) (hF : FH ad cA c n) (hi : i < n) (hH : HandAt ad cA c (6 + 4 * i) R Y L S D9 K st) (hok : Hok R Y L S D9 K) : Ct l yX1_join wX1_join { frames := 6, cells := 1, slots := 6, locals := 82 } [.ref (ad 0), .int (nI i), .int (nI i)] D cA N ad c 1 6 nIAE := by
  intro sz9
  refine bd_ofT (cc := cX1_join) (maxL := 6) (ret := some Jvm.ClassFile.FieldType.int) (by decide) rfl (Nat.le_of_ble_eq_true rfl) ?_
  intro p e s m below meth c0 C0 hr hlk hT hP hS hsz ls hl
  subst hsz
  have hx := C0.1
  have hb := C0.2.1
  have hl : lv_has ls 6 [(0, .ref (ad 0)), (1, .int (nI i)), (2, .int (nI i))] := hl
  obtain ⟨q1, q2, q3, q4, q5, q6, q7, q8, q9⟩ := id hok
  refine lv_aload_n hx hb dX1_join_0 rfl (lv_at hl 0 rfl) ?_
  refine lv_iload_n hx hb dX1_join_1 rfl (lv_at hl 1 rfl) ?_
  refine k0_r (rn_X1_42 (As := [.int (nI i)]) (rest := []) (r := 0) C0 (m_X1_handAt l D cA N ad (c) n i (by omega) hF (by omega) (by omega) _) hP hS (by omega) hF.1 rfl ⟨rfl, rfl⟩ ⟨by decide, by decide⟩ hl.1 rfl (Nat.le_of_ble_eq_true rfl) dX1_join_2 ⟨Nat.le_of_ble_eq_true rfl, Nat.le_of_ble_eq_true rfl⟩) C0 hP hS (fun H locs hP hS => ?_)
  refine lv_astore_n (lv' := [(3, .ref (ad (6 + 4 * i))), (0, .ref (ad 0)), (1, .int (nI i)), (2, .int (nI i))]) hx hb dX1_join_5 rfl hl (by decide) rfl (fun ls hl => ?_)
  refine lv_aload_n hx hb dX1_join_6 rfl (lv_at hl 1 rfl) ?_
  refine lv_iload_n hx hb dX1_join_7 rfl (lv_at hl 3 rfl) ?_
  refine k0_r (rn_X1_42 (As := [.int (nI i)]) (rest := []) (r := 0) C0 (m_X1_handAt l D cA N ad (c) n i (by omega) hF (by omega) (by omega) _) hP hS (by omega) hF.1 rfl ⟨rfl, rfl⟩ ⟨by decide, by decide⟩ hl.1 rfl (Nat.le_of_ble_eq_true rfl) dX1_join_8 ⟨Nat.le_of_ble_eq_true rfl, Nat.le_of_ble_eq_true rfl⟩) C0 hP hS (fun H locs hP hS => ?_)
  refine lv_astore (lv' := [(4, .ref (ad (6 + 4 * i))), (3, .ref (ad (6 + 4 * i))), (0, .ref (ad 0)), (1, .int (nI i)), (2, .int (nI i))]) hx hb dX1_join_11 hl (by decide) rfl (fun ls hl => ?_)
  refine lv_aload_n hx hb dX1_join_13 rfl (lv_at hl 1 rfl) ?_
  refine lv_aload hx hb dX1_join_14 (lv_at hl 0 rfl) ?_
  refine lv_acmp_ne (rx := (some (ad (6 + 4 * i)))) (ry := (some (ad (6 + 4 * i)))) (tgt := 29) hx hb dX1_join_16 (by decide) (fun h16 => ?_) (fun h16 => ?_)
  · exact absurd rfl h16
  exact th_S (text := "a hand with itself") (rest := []) C0 hfl hP hS hlk hT hl (by decide +kernel) ln_IAE at_IAE gd_IAE (by decide +kernel) dX1_join_19 dX1_join_22 dX1_join_23 dX1_join_25 dX1_join_28 (by decide) (Nat.le_of_ble_eq_true rfl) (by decide) (by decide) (by decide) (by decide)
set_option maxHeartbeats 1000000 in
set_option maxRecDepth 10000 in
theorem t_X1_join__s (l : Launch) (D : va_G) (cA : Nat → ClassId) (N : Nat) (ad : Nat → Nat) (c : Nat → va_E) (hfl : l.stackTraces = false) (n : Nat) (i R Y L S D9 K : Nat) (st : Nat → Nat → Int32) (j Ro Yo Lo So Do Ko : Nat) (sto : Nat → Nat → Int32) (hN : 6 + 4 * n ≤ N) (hF : FH ad cA c n) (hi : i < n) (hH : HandAt ad cA c (6 + 4 * i) R Y L S D9 K st) (hok : Hok R Y L S D9 K) (hj : j < n) (hO : HandAt ad cA c (6 + 4 * j) Ro Yo Lo So Do Ko sto) (hoo : Hok Ro Yo Lo So Do Ko) (hij : ad (6 + 4 * i) ≠ ad (6 + 4 * j)) (hna : ¬ (Y = 0 ∧ Yo = 0 ∧ R = Ro)) : Ct l yX1_join wX1_join { frames := 6, cells := 1, slots := 6, locals := 82 } [.ref (ad 0), .int (nI i), .int (nI j)] D cA N ad c 1 6 nISE := by
  intro sz9
  refine bd_ofT (cc := cX1_join) (maxL := 6) (ret := some Jvm.ClassFile.FieldType.int) (by decide) rfl (Nat.le_of_ble_eq_true rfl) ?_
  intro p e s m below meth c0 C0 hr hlk hT hP hS hsz ls hl
  subst hsz
  have hx := C0.1
  have hb := C0.2.1
  have hl : lv_has ls 6 [(0, .ref (ad 0)), (1, .int (nI i)), (2, .int (nI j))] := hl
  obtain ⟨q1, q2, q3, q4, q5, q6, q7, q8, q9⟩ := id hok
  obtain ⟨o1, o2, o3, o4, o5, o6, o7, o8, o9⟩ := id hoo
  refine lv_aload_n hx hb dX1_join_0 rfl (lv_at hl 0 rfl) ?_
  refine lv_iload_n hx hb dX1_join_1 rfl (lv_at hl 1 rfl) ?_
  refine k0_r (rn_X1_42 (As := [.int (nI i)]) (rest := []) (r := 0) C0 (m_X1_handAt l D cA N ad (c) n i (by omega) hF (by omega) (by omega) _) hP hS (by omega) hF.1 rfl ⟨rfl, rfl⟩ ⟨by decide, by decide⟩ hl.1 rfl (Nat.le_of_ble_eq_true rfl) dX1_join_2 ⟨Nat.le_of_ble_eq_true rfl, Nat.le_of_ble_eq_true rfl⟩) C0 hP hS (fun H locs hP hS => ?_)
  refine lv_astore_n (lv' := [(3, .ref (ad (6 + 4 * i))), (0, .ref (ad 0)), (1, .int (nI i)), (2, .int (nI j))]) hx hb dX1_join_5 rfl hl (by decide) rfl (fun ls hl => ?_)
  refine lv_aload_n hx hb dX1_join_6 rfl (lv_at hl 1 rfl) ?_
  refine lv_iload_n hx hb dX1_join_7 rfl (lv_at hl 3 rfl) ?_
  refine k0_r (rn_X1_42 (As := [.int (nI j)]) (rest := []) (r := 0) C0 (m_X1_handAt l D cA N ad (c) n j (by omega) hF (by omega) (by omega) _) hP hS (by omega) hF.1 rfl ⟨rfl, rfl⟩ ⟨by decide, by decide⟩ hl.1 rfl (Nat.le_of_ble_eq_true rfl) dX1_join_8 ⟨Nat.le_of_ble_eq_true rfl, Nat.le_of_ble_eq_true rfl⟩) C0 hP hS (fun H locs hP hS => ?_)
  refine lv_astore (lv' := [(4, .ref (ad (6 + 4 * j))), (3, .ref (ad (6 + 4 * i))), (0, .ref (ad 0)), (1, .int (nI i)), (2, .int (nI j))]) hx hb dX1_join_11 hl (by decide) rfl (fun ls hl => ?_)
  refine lv_aload_n hx hb dX1_join_13 rfl (lv_at hl 1 rfl) ?_
  refine lv_aload hx hb dX1_join_14 (lv_at hl 0 rfl) ?_
  refine lv_acmp_ne (rx := (some (ad (6 + 4 * i)))) (ry := (some (ad (6 + 4 * j)))) (tgt := 29) hx hb dX1_join_16 (by decide) (fun h16 => ?_) (fun h16 => ?_)
  rotate_left
  · exact absurd (Option.some.inj h16) hij
  refine lv_aload_n hx hb dX1_join_29 rfl (lv_at hl 1 rfl) ?_
  refine lv_aload hx hb dX1_join_30 (lv_at hl 0 rfl) ?_
  refine k0_i (rn_X1_59 (As := [.ref (ad (6 + 4 * i)), .ref (ad (6 + 4 * j))]) (rest := []) C0 (m_X1_areAlike l D cA N ad (c) (6 + 4 * i) R Y L S D9 K st (6 + 4 * j) Ro Yo Lo So Do Ko sto (by omega) (by omega) hH hok (by omega) (by omega) hO hoo _) hP hS rfl ⟨rfl, rfl⟩ ⟨by decide, by decide⟩ hl.1 rfl (Nat.le_of_ble_eq_true rfl) dX1_join_32 ⟨Nat.le_of_ble_eq_true rfl, Nat.le_of_ble_eq_true rfl⟩) C0 hP hS (fun v32 c32 H locs hp hP hS => ?_)
  obtain ⟨rfl, rfl⟩ := hp
  refine lv_if_ne (tgt := 48) hx hb dX1_join_35 (by decide) (fun h35 => ?_) (fun h35 => ?_)
  · exact absurd (if_neg hna) h35
  exact th_S (text := "not both fair with as much room") (rest := []) C0 hfl hP hS hlk hT hl (by decide +kernel) ln_ISE at_ISE gd_ISE (by decide +kernel) dX1_join_38 dX1_join_41 dX1_join_42 dX1_join_44 dX1_join_47 (by decide) (Nat.le_of_ble_eq_true rfl) (by decide) (by decide) (by decide) (by decide)
