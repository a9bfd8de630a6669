set_option maxHeartbeats 1000000 in
set_option maxRecDepth 10000 in
theorem m_X2_of__t (l : Launch) (D : va_G) (cA : Nat → ClassId) (N : Nat) (ad : Nat → Nat) (c : Nat → va_E) (th : Int32) (n : Nat) (nw ah rw : Nat → Int32) (i k9 z : Nat) (hN10 : 10 ≤ N) (hM : MoAt ad cA c th n nw ah rw) (hn5 : n ≤ 5) (hi : i < n) (hk9 : k9 < 30) (hz : nw (30 * i + k9) = nI z) : Ci l yX2_of wX2_of { frames := 1, cells := 0, slots := 0, locals := 21 } [.ref (ad 6), .int (nI i), .int (nI k9)] D cA N ad c 0 0 (fun v c' => v = nI z ∧ mw ad cA c (nI 0) n nw ah rw = c') := by
  intro sz9
  refine bd_of (cc := cX2_of) (maxL := 3) (ret := some Jvm.ClassFile.FieldType.int) (by decide) rfl (Nat.le_of_ble_eq_true rfl) ?_
  intro p e s m below meth c0 C0 hr hlk hnm hP hS hsz ls hl
  subst hsz
  have hx := C0.1
  have hb := C0.2.1
  have hl : lv_has ls 3 [(0, .ref (ad 6)), (1, .int (nI i)), (2, .int (nI k9))] := hl
  rw [← mw_self hM] at hP
  refine lv_aload_n hx hb dX2_of_0 rfl (lv_at hl 0 rfl) ?_
  refine lv_iconst (v := nI 0) hx hb dX2_of_1 rfl ?_
  refine pm_th C0 hN10 hP hS dX2_of_2 (fun H locs hP hS => ?_)
  refine lv_aload_n hx hb dX2_of_5 rfl (lv_at hl 0 rfl) ?_
  refine lv_iload_n hx hb dX2_of_6 rfl (lv_at hl 1 rfl) ?_
  refine k0_i (rn_X2_48 (As := [.int (nI i)]) (rest := []) (r := 6) C0 (m_X2_isHand__t l D cA N ad (mw ad cA c (nI 0) n nw ah rw) (nI 0) n nw ah rw i hN10 mw_at (by omega) hi _) hP hS (by omega) mw_at.1 rfl ⟨rfl, rfl⟩ ⟨by decide, by decide⟩ hl.1 rfl (Nat.le_of_ble_eq_true rfl) dX2_of_7 ⟨Nat.le_of_ble_eq_true rfl, Nat.le_of_ble_eq_true rfl⟩) C0 hP hS (fun v7 c7 H locs hp hP hS => ?_)
  obtain ⟨rfl, rfl⟩ := hp
  refine n_if_eq (tgt := 27) hx hb (by omega) dX2_of_10 (by decide) (fun h10 => ?_) (fun h10 => ?_)
  · exfalso; omega
  refine lv_aload_n hx hb dX2_of_13 rfl (lv_at hl 0 rfl) ?_
  refine gf_X2_9 C0 hP (by omega) mw_at.1 rfl dX2_of_14 ?_
  refine lv_bipush (v := nI 30) hx hb dX2_of_17 rfl ?_
  refine lv_iload_n hx hb dX2_of_19 rfl (lv_at hl 1 rfl) ?_
  refine n_imul hx hb dX2_of_20 ?_
  refine lv_iload_n hx hb dX2_of_21 rfl (lv_at hl 2 rfl) ?_
  refine n_iadd hx hb dX2_of_22 ?_
  refine a_ildE C0 hP (by omega) mw_at.2.1 (by omega) (by omega) hz dX2_of_23 ?_
  refine lv_goto (tgt := 32) hx hb dX2_of_24 (by decide) ?_
  exact e_i C0 hr hlk hP hS dX2_of_32 (by decide) (by decide) ⟨rfl, rfl⟩
set_option maxHeartbeats 1000000 in
set_option maxRecDepth 10000 in
theorem m_X2_of__h (l : Launch) (D : va_G) (cA : Nat → ClassId) (N : Nat) (ad : Nat → Nat) (c : Nat → va_E) (th : Int32) (n : Nat) (nw ah rw : Nat → Int32) (x k9 : Int32) (hN10 : 10 ≤ N) (hM : MoAt ad cA c th n nw ah rw) (hn5 : n ≤ 5) (hbad : ∀ i, i < n → x ≠ nI i) : Ci l yX2_of wX2_of { frames := 1, cells := 0, slots := 0, locals := 21 } [.ref (ad 6), .int x, .int k9] D cA N ad c 0 0 (fun v c' => mw ad cA c (nI 1) n nw ah rw = c') := by
  intro sz9
  refine bd_of (cc := cX2_of) (maxL := 3) (ret := some Jvm.ClassFile.FieldType.int) (by decide) rfl (Nat.le_of_ble_eq_true rfl) ?_
  intro p e s m below meth c0 C0 hr hlk hnm hP hS hsz ls hl
  subst hsz
  have hx := C0.1
  have hb := C0.2.1
  have hl : lv_has ls 3 [(0, .ref (ad 6)), (1, .int x), (2, .int k9)] := hl
  rw [← mw_self hM] at hP
  refine lv_aload_n hx hb dX2_of_0 rfl (lv_at hl 0 rfl) ?_
  refine lv_iconst (v := nI 0) hx hb dX2_of_1 rfl ?_
  refine pm_th C0 hN10 hP hS dX2_of_2 (fun H locs hP hS => ?_)
  refine lv_aload_n hx hb dX2_of_5 rfl (lv_at hl 0 rfl) ?_
  refine lv_iload_n hx hb dX2_of_6 rfl (lv_at hl 1 rfl) ?_
  refine k0_i (rn_X2_48 (As := [.int x]) (rest := []) (r := 6) C0 (m_X2_isHand__f l D cA N ad (mw ad cA c (nI 0) n nw ah rw) (nI 0) n nw ah rw x hN10 mw_at (by omega) hbad _) hP hS (by omega) mw_at.1 rfl ⟨rfl, rfl⟩ ⟨by decide, by decide⟩ hl.1 rfl (Nat.le_of_ble_eq_true rfl) dX2_of_7 ⟨Nat.le_of_ble_eq_true rfl, Nat.le_of_ble_eq_true rfl⟩) C0 hP hS (fun v7 c7 H locs hp hP hS => ?_)
  obtain ⟨rfl, rfl⟩ := hp
  refine n_if_eq (tgt := 27) hx hb (by omega) dX2_of_10 (by decide) (fun h10 => ?_) (fun h10 => ?_)
  rotate_left
  · exfalso; omega
  refine lv_aload_n hx hb dX2_of_27 rfl (lv_at hl 0 rfl) ?_
  refine lv_iconst (v := nI 1) hx hb dX2_of_28 rfl ?_
  refine k0_i (rn_X2_44 (As := [.int (nI 1)]) (rest := []) (r := 6) C0 (m_X2_refuse l D cA N ad (mw ad cA c (nI 0) n nw ah rw) (nI 0) n nw ah rw (nI 1) hN10 mw_at (by omega) _) hP hS (by omega) mw_at.1 rfl ⟨rfl, rfl⟩ ⟨by decide, by decide⟩ hl.1 rfl (Nat.le_of_ble_eq_true rfl) dX2_of_29 ⟨Nat.le_of_ble_eq_true rfl, Nat.le_of_ble_eq_true rfl⟩) C0 hP hS (fun v29 c29 H locs hp hP hS => ?_)
  obtain ⟨rfl, rfl⟩ := hp
  rw [mw_mw] at hP
  exact e_i C0 hr hlk hP hS dX2_of_32 (by decide) (by decide) rfl
set_option maxHeartbeats 1000000 in
set_option maxRecDepth 10000 in
theorem m_X2_holds (l : Launch) (D : va_G) (cA : Nat → ClassId) (N : Nat) (ad : Nat → Nat) (c : Nat → va_E) (th : Int32) (n : Nat) (nw ah rw : Nat → Int32) (i R Y L S D9 K : Nat)  (hN10 : 10 ≤ N) (hM : MoAt ad cA c th n nw ah rw) (hn5 : n ≤ 5) (hi : i < n) (hrow : RowE nw (30 * i) R Y L S D9 K) (hok : Hok R Y L S D9 K) : Ci l yX2_holds wX2_holds { frames := 2, cells := 0, slots := 0, locals := 43 } [.ref (ad 6), .int (nI i)] D cA N ad c 0 0 (fun v c' => v = nI K ∧ mw ad cA c (nI 0) n nw ah rw = c') := by
  intro sz9
  refine bd_of (cc := cX2_holds) (maxL := 2) (ret := some Jvm.ClassFile.FieldType.int) (by decide) rfl (Nat.le_of_ble_eq_true rfl) ?_
  intro p e s m below meth c0 C0 hr hlk hnm hP hS hsz ls hl
  subst hsz
  have hx := C0.1
  have hb := C0.2.1
  have hl : lv_has ls 2 [(0, .ref (ad 6)), (1, .int (nI i))] := hl
  obtain ⟨r0, r1, r2, r3, r4, r5⟩ := id hrow
  obtain ⟨q1, q2, q3, q4, q5, q6, q7, q8, q9⟩ := id hok
  rw [← mw_self hM] at hP
  refine lv_aload_n hx hb dX2_holds_0 rfl (lv_at hl 0 rfl) ?_
  refine lv_iload_n hx hb dX2_holds_1 rfl (lv_at hl 1 rfl) ?_
  refine lv_iconst (v := nI 5) hx hb dX2_holds_2 rfl ?_
  refine k0_i (rn_X2_63 (As := [.int (nI i), .int (nI 5)]) (rest := []) (r := 6) C0 (m_X2_of__t l D cA N ad (mw ad cA c th n nw ah rw) th n nw ah rw i 5 K hN10 mw_at hn5 hi (by decide) r5 _) hP hS (by omega) mw_at.1 rfl ⟨rfl, rfl⟩ ⟨by decide, by decide⟩ hl.1 rfl (Nat.le_of_ble_eq_true rfl) dX2_holds_3 ⟨Nat.le_of_ble_eq_true rfl, Nat.le_of_ble_eq_true rfl⟩) C0 hP hS (fun v3 c3 H locs hp hP hS => ?_)
  obtain ⟨rfl, rfl⟩ := hp
  rw [mw_mw] at hP
  exact e_i C0 hr hlk hP hS dX2_holds_6 (by decide) (by decide) ⟨rfl, rfl⟩
set_option maxHeartbeats 1000000 in
set_option maxRecDepth 10000 in
theorem m_X2_holds__h (l : Launch) (D : va_G) (cA : Nat → ClassId) (N : Nat) (ad : Nat → Nat) (c : Nat → va_E) (th : Int32) (n : Nat) (nw ah rw : Nat → Int32) (x : Int32) (hN10 : 10 ≤ N) (hM : MoAt ad cA c th n nw ah rw) (hn5 : n ≤ 5) (hbad : ∀ i, i < n → x ≠ nI i) : Ci l yX2_holds wX2_holds { frames := 2, cells := 0, slots := 0, locals := 43 } [.ref (ad 6), .int x] D cA N ad c 0 0 (fun v c' => mw ad cA c (nI 1) n nw ah rw = c') := by
  intro sz9
  refine bd_of (cc := cX2_holds) (maxL := 2) (ret := some Jvm.ClassFile.FieldType.int) (by decide) rfl (Nat.le_of_ble_eq_true rfl) ?_
  intro p e s m below meth c0 C0 hr hlk hnm hP hS hsz ls hl
  subst hsz
  have hx := C0.1
  have hb := C0.2.1
  have hl : lv_has ls 2 [(0, .ref (ad 6)), (1, .int x)] := hl
  rw [← mw_self hM] at hP
  refine lv_aload_n hx hb dX2_holds_0 rfl (lv_at hl 0 rfl) ?_
  refine lv_iload_n hx hb dX2_holds_1 rfl (lv_at hl 1 rfl) ?_
  refine lv_iconst (v := nI 5) hx hb dX2_holds_2 rfl ?_
  refine k0_i (rn_X2_63 (As := [.int x, .int (nI 5)]) (rest := []) (r := 6) C0 (m_X2_of__h l D cA N ad (mw ad cA c th n nw ah rw) th n nw ah rw x (nI 5) hN10 mw_at hn5 hbad _) hP hS (by omega) mw_at.1 rfl ⟨rfl, rfl⟩ ⟨by decide, by decide⟩ hl.1 rfl (Nat.le_of_ble_eq_true rfl) dX2_holds_3 ⟨Nat.le_of_ble_eq_true rfl, Nat.le_of_ble_eq_true rfl⟩) C0 hP hS (fun v3 c3 H locs hp hP hS => ?_)
  have hof := hp
  rw [mw_mw] at hof
  subst hof
  exact e_i C0 hr hlk hP hS dX2_holds_6 (by decide) (by decide) rfl
set_option maxHeartbeats 1000000 in
set_option maxRecDepth 10000 in
theorem m_X2_roomOf (l : Launch) (D : va_G) (cA : Nat → ClassId) (N : Nat) (ad : Nat → Nat) (c : Nat → va_E) (th : Int32) (n : Nat) (nw ah rw : Nat → Int32) (i R Y L S D9 K : Nat)  (hN10 : 10 ≤ N) (hM : MoAt ad cA c th n nw ah rw) (hn5 : n ≤ 5) (hi : i < n) (hrow : RowE nw (30 * i) R Y L S D9 K) (hok : Hok R Y L S D9 K) : Ci l yX2_roomOf wX2_roomOf { frames := 2, cells := 0, slots := 0, locals := 43 } [.ref (ad 6), .int (nI i)] D cA N ad c 0 0 (fun v c' => v = nI R ∧ mw ad cA c (nI 0) n nw ah rw = c') := by
  intro sz9
  refine bd_of (cc := cX2_roomOf) (maxL := 2) (ret := some Jvm.ClassFile.FieldType.int) (by decide) rfl (Nat.le_of_ble_eq_true rfl) ?_
  intro p e s m below meth c0 C0 hr hlk hnm hP hS hsz ls hl
  subst hsz
  have hx := C0.1
  have hb := C0.2.1
  have hl : lv_has ls 2 [(0, .ref (ad 6)), (1, .int (nI i))] := hl
  obtain ⟨r0, r1, r2, r3, r4, r5⟩ := id hrow
  obtain ⟨q1, q2, q3, q4, q5, q6, q7, q8, q9⟩ := id hok
  rw [← mw_self hM] at hP
  refine lv_aload_n hx hb dX2_roomOf_0 rfl (lv_at hl 0 rfl) ?_
  refine lv_iload_n hx hb dX2_roomOf_1 rfl (lv_at hl 1 rfl) ?_
  refine lv_iconst (v := nI 0) hx hb dX2_roomOf_2 rfl ?_
  refine k0_i (rn_X2_63 (As := [.int (nI i), .int (nI 0)]) (rest := []) (r := 6) C0 (m_X2_of__t l D cA N ad (mw ad cA c th n nw ah rw) th n nw ah rw i 0 R hN10 mw_at hn5 hi (by decide) r0 _) hP hS (by omega) mw_at.1 rfl ⟨rfl, rfl⟩ ⟨by decide, by decide⟩ hl.1 rfl (Nat.le_of_ble_eq_true rfl) dX2_roomOf_3 ⟨Nat.le_of_ble_eq_true rfl, Nat.le_of_ble_eq_true rfl⟩) C0 hP hS (fun v3 c3 H locs hp hP hS => ?_)
  obtain ⟨rfl, rfl⟩ := hp
  rw [mw_mw] at hP
  exact e_i C0 hr hlk hP hS dX2_roomOf_6 (by decide) (by decide) ⟨rfl, rfl⟩
set_option maxHeartbeats 1000000 in
set_option maxRecDepth 10000 in
theorem m_X2_roomOf__h (l : Launch) (D : va_G) (cA : Nat → ClassId) (N : Nat) (ad : Nat → Nat) (c : Nat → va_E) (th : Int32) (n : Nat) (nw ah rw : Nat → Int32) (x : Int32) (hN10 : 10 ≤ N) (hM : MoAt ad cA c th n nw ah rw) (hn5 : n ≤ 5) (hbad : ∀ i, i < n → x ≠ nI i) : Ci l yX2_roomOf wX2_roomOf { frames := 2, cells := 0, slots := 0, locals := 43 } [.ref (ad 6), .int x] D cA N ad c 0 0 (fun v c' => mw ad cA c (nI 1) n nw ah rw = c') := by
  intro sz9
  refine bd_of (cc := cX2_roomOf) (maxL := 2) (ret := some Jvm.ClassFile.FieldType.int) (by decide) rfl (Nat.le_of_ble_eq_true rfl) ?_
  intro p e s m below meth c0 C0 hr hlk hnm hP hS hsz ls hl
  subst hsz
  have hx := C0.1
  have hb := C0.2.1
  have hl : lv_has ls 2 [(0, .ref (ad 6)), (1, .int x)] := hl
  rw [← mw_self hM] at hP
  refine lv_aload_n hx hb dX2_roomOf_0 rfl (lv_at hl 0 rfl) ?_
  refine lv_iload_n hx hb dX2_roomOf_1 rfl (lv_at hl 1 rfl) ?_
  refine lv_iconst (v := nI 0) hx hb dX2_roomOf_2 rfl ?_
  refine k0_i (rn_X2_63 (As := [.int x, .int (nI 0)]) (rest := []) (r := 6) C0 (m_X2_of__h l D cA N ad (mw ad cA c th n nw ah rw) th n nw ah rw x (nI 0) hN10 mw_at hn5 hbad _) hP hS (by omega) mw_at.1 rfl ⟨rfl, rfl⟩ ⟨by decide, by decide⟩ hl.1 rfl (Nat.le_of_ble_eq_true rfl) dX2_roomOf_3 ⟨Nat.le_of_ble_eq_true rfl, Nat.le_of_ble_eq_true rfl⟩) C0 hP hS (fun v3 c3 H locs hp hP hS => ?_)
  have hof := hp
  rw [mw_mw] at hof
  subst hof
  exact e_i C0 hr hlk hP hS dX2_roomOf_6 (by decide) (by decide) rfl
set_option maxHeartbeats 1000000 in
set_option maxRecDepth 10000 in
theorem m_X2_seenBy (l : Launch) (D : va_G) (cA : Nat → ClassId) (N : Nat) (ad : Nat → Nat) (c : Nat → va_E) (th : Int32) (n : Nat) (nw ah rw : Nat → Int32) (i R Y L S D9 K : Nat)  (hN10 : 10 ≤ N) (hM : MoAt ad cA c th n nw ah rw) (hn5 : n ≤ 5) (hi : i < n) (hrow : RowE nw (30 * i) R Y L S D9 K) (hok : Hok R Y L S D9 K) : Ci l yX2_seenBy wX2_seenBy { frames := 2, cells := 0, slots := 0, locals := 43 } [.ref (ad 6), .int (nI i)] D cA N ad c 0 0 (fun v c' => v = nI S ∧ mw ad cA c (nI 0) n nw ah rw = c') := by
  intro sz9
  refine bd_of (cc := cX2_seenBy) (maxL := 2) (ret := some Jvm.ClassFile.FieldType.int) (by decide) rfl (Nat.le_of_ble_eq_true rfl) ?_
  intro p e s m below meth c0 C0 hr hlk hnm hP hS hsz ls hl
  subst hsz
  have hx := C0.1
  have hb := C0.2.1
  have hl : lv_has ls 2 [(0, .ref (ad 6)), (1, .int (nI i))] := hl
  obtain ⟨r0, r1, r2, r3, r4, r5⟩ := id hrow
  obtain ⟨q1, q2, q3, q4, q5, q6, q7, q8, q9⟩ := id hok
  rw [← mw_self hM] at hP
  refine lv_aload_n hx hb dX2_seenBy_0 rfl (lv_at hl 0 rfl) ?_
  refine lv_iload_n hx hb dX2_seenBy_1 rfl (lv_at hl 1 rfl) ?_
  refine lv_iconst (v := nI 3) hx hb dX2_seenBy_2 rfl ?_
  refine k0_i (rn_X2_63 (As := [.int (nI i), .int (nI 3)]) (rest := []) (r := 6) C0 (m_X2_of__t l D cA N ad (mw ad cA c th n nw ah rw) th n nw ah rw i 3 S hN10 mw_at hn5 hi (by decide) r3 _) hP hS (by omega) mw_at.1 rfl ⟨rfl, rfl⟩ ⟨by decide, by decide⟩ hl.1 rfl (Nat.le_of_ble_eq_true rfl) dX2_seenBy_3 ⟨Nat.le_of_ble_eq_true rfl, Nat.le_of_ble_eq_true rfl⟩) C0 hP hS (fun v3 c3 H locs hp hP hS => ?_)
  obtain ⟨rfl, rfl⟩ := hp
  rw [mw_mw] at hP
  exact e_i C0 hr hlk hP hS dX2_seenBy_6 (by decide) (by decide) ⟨rfl, rfl⟩
set_option maxHeartbeats 1000000 in
set_option maxRecDepth 10000 in
theorem m_X2_seenBy__h (l : Launch) (D : va_G) (cA : Nat → ClassId) (N : Nat) (ad : Nat → Nat) (c : Nat → va_E) (th : Int32) (n : Nat) (nw ah rw : Nat → Int32) (x : Int32) (hN10 : 10 ≤ N) (hM : MoAt ad cA c th n nw ah rw) (hn5 : n ≤ 5) (hbad : ∀ i, i < n → x ≠ nI i) : Ci l yX2_seenBy wX2_seenBy { frames := 2, cells := 0, slots := 0, locals := 43 } [.ref (ad 6), .int x] D cA N ad c 0 0 (fun v c' => mw ad cA c (nI 1) n nw ah rw = c') := by
  intro sz9
  refine bd_of (cc := cX2_seenBy) (maxL := 2) (ret := some Jvm.ClassFile.FieldType.int) (by decide) rfl (Nat.le_of_ble_eq_true rfl) ?_
  intro p e s m below meth c0 C0 hr hlk hnm hP hS hsz ls hl
  subst hsz
  have hx := C0.1
  have hb := C0.2.1
  have hl : lv_has ls 2 [(0, .ref (ad 6)), (1, .int x)] := hl
  rw [← mw_self hM] at hP
  refine lv_aload_n hx hb dX2_seenBy_0 rfl (lv_at hl 0 rfl) ?_
  refine lv_iload_n hx hb dX2_seenBy_1 rfl (lv_at hl 1 rfl) ?_
  refine lv_iconst (v := nI 3) hx hb dX2_seenBy_2 rfl ?_
  refine k0_i (rn_X2_63 (As := [.int x, .int (nI 3)]) (rest := []) (r := 6) C0 (m_X2_of__h l D cA N ad (mw ad cA c th n nw ah rw) th n nw ah rw x (nI 3) hN10 mw_at hn5 hbad _) hP hS (by omega) mw_at.1 rfl ⟨rfl, rfl⟩ ⟨by decide, by decide⟩ hl.1 rfl (Nat.le_of_ble_eq_true rfl) dX2_seenBy_3 ⟨Nat.le_of_ble_eq_true rfl, Nat.le_of_ble_eq_true rfl⟩) C0 hP hS (fun v3 c3 H locs hp hP hS => ?_)
  have hof := hp
  rw [mw_mw] at hof
  subst hof
  exact e_i C0 hr hlk hP hS dX2_seenBy_6 (by decide) (by decide) rfl
set_option maxHeartbeats 1000000 in
set_option maxRecDepth 10000 in
theorem m_X2_loadOf (l : Launch) (D : va_G) (cA : Nat → ClassId) (N : Nat) (ad : Nat → Nat) (c : Nat → va_E) (th : Int32) (n : Nat) (nw ah rw : Nat → Int32) (i R Y L S D9 K : Nat)  (hN10 : 10 ≤ N) (hM : MoAt ad cA c th n nw ah rw) (hn5 : n ≤ 5) (hi : i < n) (hrow : RowE nw (30 * i) R Y L S D9 K) (hok : Hok R Y L S D9 K) : Ci l yX2_loadOf wX2_loadOf { frames := 2, cells := 0, slots := 0, locals := 43 } [.ref (ad 6), .int (nI i)] D cA N ad c 0 0 (fun v c' => v = nI D9 ∧ mw ad cA c (nI 0) n nw ah rw = c') := by
  intro sz9
  refine bd_of (cc := cX2_loadOf) (maxL := 2) (ret := some Jvm.ClassFile.FieldType.int) (by decide) rfl (Nat.le_of_ble_eq_true rfl) ?_
  intro p e s m below meth c0 C0 hr hlk hnm hP hS hsz ls hl
  subst hsz
  have hx := C0.1
  have hb := C0.2.1
  have hl : lv_has ls 2 [(0, .ref (ad 6)), (1, .int (nI i))] := hl
  obtain ⟨r0, r1, r2, r3, r4, r5⟩ := id hrow
  obtain ⟨q1, q2, q3, q4, q5, q6, q7, q8, q9⟩ := id hok
  rw [← mw_self hM] at hP
  refine lv_aload_n hx hb dX2_loadOf_0 rfl (lv_at hl 0 rfl) ?_
  refine lv_iload_n hx hb dX2_loadOf_1 rfl (lv_at hl 1 rfl) ?_
  refine lv_iconst (v := nI 4) hx hb dX2_loadOf_2 rfl ?_
  refine k0_i (rn_X2_63 (As := [.int (nI i), .int (nI 4)]) (rest := []) (r := 6) C0 (m_X2_of__t l D cA N ad (mw ad cA c th n nw ah rw) th n nw ah rw i 4 D9 hN10 mw_at hn5 hi (by decide) r4 _) hP hS (by omega) mw_at.1 rfl ⟨rfl, rfl⟩ ⟨by decide, by decide⟩ hl.1 rfl (Nat.le_of_ble_eq_true rfl) dX2_loadOf_3 ⟨Nat.le_of_ble_eq_true rfl, Nat.le_of_ble_eq_true rfl⟩) C0 hP hS (fun v3 c3 H locs hp hP hS => ?_)
  obtain ⟨rfl, rfl⟩ := hp
  rw [mw_mw] at hP
  exact e_i C0 hr hlk hP hS dX2_loadOf_6 (by decide) (by decide) ⟨rfl, rfl⟩
set_option maxHeartbeats 1000000 in
set_option maxRecDepth 10000 in
theorem m_X2_loadOf__h (l : Launch) (D : va_G) (cA : Nat → ClassId) (N : Nat) (ad : Nat → Nat) (c : Nat → va_E) (th : Int32) (n : Nat) (nw ah rw : Nat → Int32) (x : Int32) (hN10 : 10 ≤ N) (hM : MoAt ad cA c th n nw ah rw) (hn5 : n ≤ 5) (hbad : ∀ i, i < n → x ≠ nI i) : Ci l yX2_loadOf wX2_loadOf { frames := 2, cells := 0, slots := 0, locals := 43 } [.ref (ad 6), .int x] D cA N ad c 0 0 (fun v c' => mw ad cA c (nI 1) n nw ah rw = c') := by
  intro sz9
  refine bd_of (cc := cX2_loadOf) (maxL := 2) (ret := some Jvm.ClassFile.FieldType.int) (by decide) rfl (Nat.le_of_ble_eq_true rfl) ?_
  intro p e s m below meth c0 C0 hr hlk hnm hP hS hsz ls hl
  subst hsz
  have hx := C0.1
  have hb := C0.2.1
  have hl : lv_has ls 2 [(0, .ref (ad 6)), (1, .int x)] := hl
  rw [← mw_self hM] at hP
  refine lv_aload_n hx hb dX2_loadOf_0 rfl (lv_at hl 0 rfl) ?_
  refine lv_iload_n hx hb dX2_loadOf_1 rfl (lv_at hl 1 rfl) ?_
  refine lv_iconst (v := nI 4) hx hb dX2_loadOf_2 rfl ?_
  refine k0_i (rn_X2_63 (As := [.int x, .int (nI 4)]) (rest := []) (r := 6) C0 (m_X2_of__h l D cA N ad (mw ad cA c th n nw ah rw) th n nw ah rw x (nI 4) hN10 mw_at hn5 hbad _) hP hS (by omega) mw_at.1 rfl ⟨rfl, rfl⟩ ⟨by decide, by decide⟩ hl.1 rfl (Nat.le_of_ble_eq_true rfl) dX2_loadOf_3 ⟨Nat.le_of_ble_eq_true rfl, Nat.le_of_ble_eq_true rfl⟩) C0 hP hS (fun v3 c3 H locs hp hP hS => ?_)
  have hof := hp
  rw [mw_mw] at hof
  subst hof
  exact e_i C0 hr hlk hP hS dX2_loadOf_6 (by decide) (by decide) rfl
set_option maxHeartbeats 1000000 in
set_option maxRecDepth 10000 in
theorem m_X2_luckOf (l : Launch) (D : va_G) (cA : Nat → ClassId) (N : Nat) (ad : Nat → Nat) (c : Nat → va_E) (th : Int32) (n : Nat) (nw ah rw : Nat → Int32) (i R Y L S D9 K : Nat)  (hN10 : 10 ≤ N) (hM : MoAt ad cA c th n nw ah rw) (hn5 : n ≤ 5) (hi : i < n) (hrow : RowE nw (30 * i) R Y L S D9 K) (hok : Hok R Y L S D9 K) : Ci l yX2_luckOf wX2_luckOf { frames := 2, cells := 0, slots := 0, locals := 43 } [.ref (ad 6), .int (nI i)] D cA N ad c 0 0 (fun v c' => v = nI L ∧ mw ad cA c (nI 0) n nw ah rw = c') := by
  intro sz9
  refine bd_of (cc := cX2_luckOf) (maxL := 2) (ret := some Jvm.ClassFile.FieldType.int) (by decide) rfl (Nat.le_of_ble_eq_true rfl) ?_
  intro p e s m below meth c0 C0 hr hlk hnm hP hS hsz ls hl
  subst hsz
  have hx := C0.1
  have hb := C0.2.1
  have hl : lv_has ls 2 [(0, .ref (ad 6)), (1, .int (nI i))] := hl
  obtain ⟨r0, r1, r2, r3, r4, r5⟩ := id hrow
  obtain ⟨q1, q2, q3, q4, q5, q6, q7, q8, q9⟩ := id hok
  rw [← mw_self hM] at hP
  refine lv_aload_n hx hb dX2_luckOf_0 rfl (lv_at hl 0 rfl) ?_
  refine lv_iload_n hx hb dX2_luckOf_1 rfl (lv_at hl 1 rfl) ?_
  refine lv_iconst (v := nI 2) hx hb dX2_luckOf_2 rfl ?_
  refine k0_i (rn_X2_63 (As := [.int (nI i), .int (nI 2)]) (rest := []) (r := 6) C0 (m_X2_of__t l D cA N ad (mw ad cA c th n nw ah rw) th n nw ah rw i 2 L hN10 mw_at hn5 hi (by decide) r2 _) hP hS (by omega) mw_at.1 rfl ⟨rfl, rfl⟩ ⟨by decide, by decide⟩ hl.1 rfl (Nat.le_of_ble_eq_true rfl) dX2_luckOf_3 ⟨Nat.le_of_ble_eq_true rfl, Nat.le_of_ble_eq_true rfl⟩) C0 hP hS (fun v3 c3 H locs hp hP hS => ?_)
  obtain ⟨rfl, rfl⟩ := hp
  rw [mw_mw] at hP
  exact e_i C0 hr hlk hP hS dX2_luckOf_6 (by decide) (by decide) ⟨rfl, rfl⟩
set_option maxHeartbeats 1000000 in
set_option maxRecDepth 10000 in
theorem m_X2_luckOf__h (l : Launch) (D : va_G) (cA : Nat → ClassId) (N : Nat) (ad : Nat → Nat) (c : Nat → va_E) (th : Int32) (n : Nat) (nw ah rw : Nat → Int32) (x : Int32) (hN10 : 10 ≤ N) (hM : MoAt ad cA c th n nw ah rw) (hn5 : n ≤ 5) (hbad : ∀ i, i < n → x ≠ nI i) : Ci l yX2_luckOf wX2_luckOf { frames := 2, cells := 0, slots := 0, locals := 43 } [.ref (ad 6), .int x] D cA N ad c 0 0 (fun v c' => mw ad cA c (nI 1) n nw ah rw = c') := by
  intro sz9
  refine bd_of (cc := cX2_luckOf) (maxL := 2) (ret := some Jvm.ClassFile.FieldType.int) (by decide) rfl (Nat.le_of_ble_eq_true rfl) ?_
  intro p e s m below meth c0 C0 hr hlk hnm hP hS hsz ls hl
  subst hsz
  have hx := C0.1
  have hb := C0.2.1
  have hl : lv_has ls 2 [(0, .ref (ad 6)), (1, .int x)] := hl
  rw [← mw_self hM] at hP
  refine lv_aload_n hx hb dX2_luckOf_0 rfl (lv_at hl 0 rfl) ?_
  refine lv_iload_n hx hb dX2_luckOf_1 rfl (lv_at hl 1 rfl) ?_
  refine lv_iconst (v := nI 2) hx hb dX2_luckOf_2 rfl ?_
  refine k0_i (rn_X2_63 (As := [.int x, .int (nI 2)]) (rest := []) (r := 6) C0 (m_X2_of__h l D cA N ad (mw ad cA c th n nw ah rw) th n nw ah rw x (nI 2) hN10 mw_at hn5 hbad _) hP hS (by omega) mw_at.1 rfl ⟨rfl, rfl⟩ ⟨by decide, by decide⟩ hl.1 rfl (Nat.le_of_ble_eq_true rfl) dX2_luckOf_3 ⟨Nat.le_of_ble_eq_true rfl, Nat.le_of_ble_eq_true rfl⟩) C0 hP hS (fun v3 c3 H locs hp hP hS => ?_)
  have hof := hp
  rw [mw_mw] at hof
  subst hof
  exact e_i C0 hr hlk hP hS dX2_luckOf_6 (by decide) (by decide) rfl
set_option maxHeartbeats 1000000 in
set_option maxRecDepth 10000 in
theorem m_X2_isStone__t (l : Launch) (D : va_G) (cA : Nat → ClassId) (N : Nat) (ad : Nat → Nat) (c : Nat → va_E) (th : Int32) (n : Nat) (nw ah rw : Nat → Int32) (i R Y L S D9 K : Nat) (y : Nat) (hN10 : 10 ≤ N) (hM : MoAt ad cA c th n nw ah rw) (hn5 : n ≤ 5) (hi : i < n) (hrow : RowE nw (30 * i) R Y L S D9 K) (hok : Hok R Y L S D9 K) (hy : y < K) : Ci l yX2_isStone wX2_isStone { frames := 1, cells := 0, slots := 0, locals := 21 } [.ref (ad 6), .int (nI i), .int (nI y)] D cA N ad c 0 0 (fun v c' => v = nI 1 ∧ c = c') := by
  intro sz9
  refine bd_of (cc := cX2_isStone) (maxL := 3) (ret := some Jvm.ClassFile.FieldType.boolean) (by decide) rfl (Nat.le_of_ble_eq_true rfl) ?_
  intro p e s m below meth c0 C0 hr hlk hnm hP hS hsz ls hl
  subst hsz
  have hx := C0.1
  have hb := C0.2.1
  have hl : lv_has ls 3 [(0, .ref (ad 6)), (1, .int (nI i)), (2, .int (nI y))] := hl
  obtain ⟨r0, r1, r2, r3, r4, r5⟩ := id hrow
  obtain ⟨q1, q2, q3, q4, q5, q6, q7, q8, q9⟩ := id hok
  refine lv_aload_n hx hb dX2_isStone_0 rfl (lv_at hl 0 rfl) ?_
  refine lv_iload_n hx hb dX2_isStone_1 rfl (lv_at hl 1 rfl) ?_
  refine k0_i (rn_X2_48 (As := [.int (nI i)]) (rest := []) (r := 6) C0 (m_X2_isHand__t l D cA N ad (c) th n nw ah rw i hN10 hM (by omega) hi _) hP hS (by omega) hM.1 rfl ⟨rfl, rfl⟩ ⟨by decide, by decide⟩ hl.1 rfl (Nat.le_of_ble_eq_true rfl) dX2_isStone_2 ⟨Nat.le_of_ble_eq_true rfl, Nat.le_of_ble_eq_true rfl⟩) C0 hP hS (fun v2 c2 H locs hp hP hS => ?_)
  obtain ⟨rfl, rfl⟩ := hp
  refine n_if_eq (tgt := 25) hx hb (by omega) dX2_isStone_5 (by decide) (fun h5 => ?_) (fun h5 => ?_)
  · exfalso; omega
  refine lv_iload_n hx hb dX2_isStone_8 rfl (lv_at hl 2 rfl) ?_
  refine n_if_lt (tgt := 25) hx hb (by omega) dX2_isStone_9 (by decide) (fun h9 => ?_) (fun h9 => ?_)
  · exfalso; omega
  refine lv_iload_n hx hb dX2_isStone_12 rfl (lv_at hl 2 rfl) ?_
  refine lv_aload_n hx hb dX2_isStone_13 rfl (lv_at hl 0 rfl) ?_
  refine lv_iload_n hx hb dX2_isStone_14 rfl (lv_at hl 1 rfl) ?_
  refine k0_i (rn_X2_67 (As := [.int (nI i)]) (rest := [.int (nI y)]) (r := 6) C0 (m_X2_held l D cA N ad (c) th n nw ah rw i R Y L S D9 K hN10 hM (by omega) hi hrow hok _) hP hS (by omega) hM.1 rfl ⟨rfl, rfl⟩ ⟨by decide, by decide⟩ hl.1 rfl (Nat.le_of_ble_eq_true rfl) dX2_isStone_15 ⟨Nat.le_of_ble_eq_true rfl, Nat.le_of_ble_eq_true rfl⟩) C0 hP hS (fun v15 c15 H locs hp hP hS => ?_)
  obtain ⟨rfl, rfl⟩ := hp
  refine n_icmp_ge (tgt := 25) hx hb (by omega) (by omega) dX2_isStone_18 (by decide) (fun h18 => ?_) (fun h18 => ?_)
  · exfalso; omega
  refine lv_iconst (v := nI 1) hx hb dX2_isStone_21 rfl ?_
  refine lv_goto (tgt := 26) hx hb dX2_isStone_22 (by decide) ?_
  exact e_z C0 hr hlk hP hS dX2_isStone_26 (by decide) (by decide) (by decide +kernel) ⟨rfl, rfl⟩
set_option maxHeartbeats 1000000 in
set_option maxRecDepth 10000 in
theorem m_X2_isStone__h (l : Launch) (D : va_G) (cA : Nat → ClassId) (N : Nat) (ad : Nat → Nat) (c : Nat → va_E) (th : Int32) (n : Nat) (nw ah rw : Nat → Int32) (x y : Int32) (hN10 : 10 ≤ N) (hM : MoAt ad cA c th n nw ah rw) (hn5 : n ≤ 5) (hbad : ∀ i, i < n → x ≠ nI i) : Ci l yX2_isStone wX2_isStone { frames := 1, cells := 0, slots := 0, locals := 21 } [.ref (ad 6), .int x, .int y] D cA N ad c 0 0 (fun v c' => v = nI 0 ∧ c = c') := by
  intro sz9
  refine bd_of (cc := cX2_isStone) (maxL := 3) (ret := some Jvm.ClassFile.FieldType.boolean) (by decide) rfl (Nat.le_of_ble_eq_true rfl) ?_
  intro p e s m below meth c0 C0 hr hlk hnm hP hS hsz ls hl
  subst hsz
  have hx := C0.1
  have hb := C0.2.1
  have hl : lv_has ls 3 [(0, .ref (ad 6)), (1, .int x), (2, .int y)] := hl
  refine lv_aload_n hx hb dX2_isStone_0 rfl (lv_at hl 0 rfl) ?_
  refine lv_iload_n hx hb dX2_isStone_1 rfl (lv_at hl 1 rfl) ?_
  refine k0_i (rn_X2_48 (As := [.int x]) (rest := []) (r := 6) C0 (m_X2_isHand__f l D cA N ad (c) th n nw ah rw x hN10 hM (by omega) hbad _) hP hS (by omega) hM.1 rfl ⟨rfl, rfl⟩ ⟨by decide, by decide⟩ hl.1 rfl (Nat.le_of_ble_eq_true rfl) dX2_isStone_2 ⟨Nat.le_of_ble_eq_true rfl, Nat.le_of_ble_eq_true rfl⟩) C0 hP hS (fun v2 c2 H locs hp hP hS => ?_)
  obtain ⟨rfl, rfl⟩ := hp
  refine n_if_eq (tgt := 25) hx hb (by omega) dX2_isStone_5 (by decide) (fun h5 => ?_) (fun h5 => ?_)
  rotate_left
  · exfalso; omega
  refine lv_iconst (v := nI 0) hx hb dX2_isStone_25 rfl ?_
  exact e_z C0 hr hlk hP hS dX2_isStone_26 (by decide) (by decide) (by decide +kernel) ⟨rfl, rfl⟩
set_option maxHeartbeats 1000000 in
set_option maxRecDepth 10000 in
theorem m_X2_isStone__p (l : Launch) (D : va_G) (cA : Nat → ClassId) (N : Nat) (ad : Nat → Nat) (c : Nat → va_E) (th : Int32) (n : Nat) (nw ah rw : Nat → Int32) (i R Y L S D9 K : Nat) (y : Int32) (hN10 : 10 ≤ N) (hM : MoAt ad cA c th n nw ah rw) (hn5 : n ≤ 5) (hi : i < n) (hrow : RowE nw (30 * i) R Y L S D9 K) (hok : Hok R Y L S D9 K) (hbad : ¬ (¬ y < 0 ∧ y < nI K)) : Ci l yX2_isStone wX2_isStone { frames := 1, cells := 0, slots := 0, locals := 21 } [.ref (ad 6), .int (nI i), .int y] D cA N ad c 0 0 (fun v c' => v = nI 0 ∧ c = c') := by
  intro sz9
  refine bd_of (cc := cX2_isStone) (maxL := 3) (ret := some Jvm.ClassFile.FieldType.boolean) (by decide) rfl (Nat.le_of_ble_eq_true rfl) ?_
  intro p e s m below meth c0 C0 hr hlk hnm hP hS hsz ls hl
  subst hsz
  have hx := C0.1
  have hb := C0.2.1
  have hl : lv_has ls 3 [(0, .ref (ad 6)), (1, .int (nI i)), (2, .int y)] := hl
  obtain ⟨r0, r1, r2, r3, r4, r5⟩ := id hrow
  obtain ⟨q1, q2, q3, q4, q5, q6, q7, q8, q9⟩ := id hok
  refine lv_aload_n hx hb dX2_isStone_0 rfl (lv_at hl 0 rfl) ?_
  refine lv_iload_n hx hb dX2_isStone_1 rfl (lv_at hl 1 rfl) ?_
  refine k0_i (rn_X2_48 (As := [.int (nI i)]) (rest := []) (r := 6) C0 (m_X2_isHand__t l D cA N ad (c) th n nw ah rw i hN10 hM (by omega) hi _) hP hS (by omega) hM.1 rfl ⟨rfl, rfl⟩ ⟨by decide, by decide⟩ hl.1 rfl (Nat.le_of_ble_eq_true rfl) dX2_isStone_2 ⟨Nat.le_of_ble_eq_true rfl, Nat.le_of_ble_eq_true rfl⟩) C0 hP hS (fun v2 c2 H locs hp hP hS => ?_)
  obtain ⟨rfl, rfl⟩ := hp
  refine n_if_eq (tgt := 25) hx hb (by omega) dX2_isStone_5 (by decide) (fun h5 => ?_) (fun h5 => ?_)
  · exfalso; omega
  refine lv_iload_n hx hb dX2_isStone_8 rfl (lv_at hl 2 rfl) ?_
  refine lv_if_lt (tgt := 25) hx hb dX2_isStone_9 (by decide) (fun h9 => ?_) (fun h9 => ?_)
  · refine lv_iconst (v := nI 0) hx hb dX2_isStone_25 rfl ?_
    exact e_z C0 hr hlk hP hS dX2_isStone_26 (by decide) (by decide) (by decide +kernel) ⟨rfl, rfl⟩
  · refine lv_iload_n hx hb dX2_isStone_12 rfl (lv_at hl 2 rfl) ?_
    refine lv_aload_n hx hb dX2_isStone_13 rfl (lv_at hl 0 rfl) ?_
    refine lv_iload_n hx hb dX2_isStone_14 rfl (lv_at hl 1 rfl) ?_
    refine k0_i (rn_X2_67 (As := [.int (nI i)]) (rest := [.int y]) (r := 6) C0 (m_X2_held l D cA N ad (c) th n nw ah rw i R Y L S D9 K hN10 hM (by omega) hi hrow hok _) hP hS (by omega) hM.1 rfl ⟨rfl, rfl⟩ ⟨by decide, by decide⟩ hl.1 rfl (Nat.le_of_ble_eq_true rfl) dX2_isStone_15 ⟨Nat.le_of_ble_eq_true rfl, Nat.le_of_ble_eq_true rfl⟩) C0 hP hS (fun v15 c15 H locs hp hP hS => ?_)
    obtain ⟨rfl, rfl⟩ := hp
    refine lv_icmp_ge (tgt := 25) hx hb dX2_isStone_18 (by decide) (fun h18 => ?_) (fun h18 => ?_)
    rotate_left
    · exact absurd ⟨h9, i_lt h18⟩ hbad
    refine lv_iconst (v := nI 0) hx hb dX2_isStone_25 rfl ?_
    exact e_z C0 hr hlk hP hS dX2_isStone_26 (by decide) (by decide) (by decide +kernel) ⟨rfl, rfl⟩
set_option maxHeartbeats 1000000 in
set_option maxRecDepth 10000 in
theorem m_X2_ofStone__t (l : Launch) (D : va_G) (cA : Nat → ClassId) (N : Nat) (ad : Nat → Nat) (c : Nat → va_E) (th : Int32) (n : Nat) (nw ah rw : Nat → Int32) (i R Y L S D9 K : Nat) (y k9 : Nat) (hN10 : 10 ≤ N) (hM : MoAt ad cA c th n nw ah rw) (hn5 : n ≤ 5) (hi : i < n) (hrow : RowE nw (30 * i) R Y L S D9 K) (hok : Hok R Y L S D9 K) (hy : y < K) (hk9 : k9 < 3) : Ci l yX2_ofStone wX2_ofStone { frames := 2, cells := 0, slots := 0, locals := 43 } [.ref (ad 6), .int (nI i), .int (nI y), .int (nI k9)] D cA N ad c 0 0 (fun v c' => v = sto nw (30 * i) k9 y ∧ mw ad cA c (nI 0) n nw ah rw = c') := by
  intro sz9
  refine bd_of (cc := cX2_ofStone) (maxL := 4) (ret := some Jvm.ClassFile.FieldType.int) (by decide) rfl (Nat.le_of_ble_eq_true rfl) ?_
  intro p e s m below meth c0 C0 hr hlk hnm hP hS hsz ls hl
  subst hsz
  have hx := C0.1
  have hb := C0.2.1
  have hl : lv_has ls 4 [(0, .ref (ad 6)), (1, .int (nI i)), (2, .int (nI y)), (3, .int (nI k9))] := hl
  obtain ⟨r0, r1, r2, r3, r4, r5⟩ := id hrow
  obtain ⟨q1, q2, q3, q4, q5, q6, q7, q8, q9⟩ := id hok
  rw [← mw_self hM] at hP
  refine lv_aload_n hx hb dX2_ofStone_0 rfl (lv_at hl 0 rfl) ?_
  refine lv_iconst (v := nI 0) hx hb dX2_ofStone_1 rfl ?_
  refine pm_th C0 hN10 hP hS dX2_ofStone_2 (fun H locs hP hS => ?_)
  refine lv_aload_n hx hb dX2_ofStone_5 rfl (lv_at hl 0 rfl) ?_
  refine lv_iload_n hx hb dX2_ofStone_6 rfl (lv_at hl 1 rfl) ?_
  refine lv_iload_n hx hb dX2_ofStone_7 rfl (lv_at hl 2 rfl) ?_
  refine k0_i (rn_X2_70 (As := [.int (nI i), .int (nI y)]) (rest := []) (r := 6) C0 (m_X2_isStone__t l D cA N ad (mw ad cA c (nI 0) n nw ah rw) (nI 0) n nw ah rw i R Y L S D9 K (y) hN10 mw_at hn5 hi hrow hok hy _) hP hS (by omega) mw_at.1 rfl ⟨rfl, rfl⟩ ⟨by decide, by decide⟩ hl.1 rfl (Nat.le_of_ble_eq_true rfl) dX2_ofStone_8 ⟨Nat.le_of_ble_eq_true rfl, Nat.le_of_ble_eq_true rfl⟩) C0 hP hS (fun v8 c8 H locs hp hP hS => ?_)
  obtain ⟨rfl, rfl⟩ := hp
  refine n_if_eq (tgt := 35) hx hb (by omega) dX2_ofStone_11 (by decide) (fun h11 => ?_) (fun h11 => ?_)
  · exfalso; omega
  refine lv_aload_n hx hb dX2_ofStone_14 rfl (lv_at hl 0 rfl) ?_
  refine gf_X2_9 C0 hP (by omega) mw_at.1 rfl dX2_ofStone_15 ?_
  refine lv_bipush (v := nI 30) hx hb dX2_ofStone_18 rfl ?_
  refine lv_iload_n hx hb dX2_ofStone_20 rfl (lv_at hl 1 rfl) ?_
  refine n_imul hx hb dX2_ofStone_21 ?_
  refine lv_bipush (v := nI 6) hx hb dX2_ofStone_22 rfl ?_
  refine n_iadd hx hb dX2_ofStone_24 ?_
  refine lv_iconst (v := nI 3) hx hb dX2_ofStone_25 rfl ?_
  refine lv_iload_n hx hb dX2_ofStone_26 rfl (lv_at hl 2 rfl) ?_
  refine n_imul hx hb dX2_ofStone_27 ?_
  refine n_iadd hx hb dX2_ofStone_28 ?_
  refine lv_iload_n hx hb dX2_ofStone_29 rfl (lv_at hl 3 rfl) ?_
  refine n_iadd hx hb dX2_ofStone_30 ?_
  refine a_ild C0 hP (by omega) mw_at.2.1 (by omega) (by omega) dX2_ofStone_31 ?_
  refine lv_goto (tgt := 40) hx hb dX2_ofStone_32 (by decide) ?_
  exact e_i C0 hr hlk hP hS dX2_ofStone_40 (by decide) (by decide) ⟨rfl, rfl⟩
set_option maxHeartbeats 1000000 in
set_option maxRecDepth 10000 in
theorem m_X2_ofStone__h (l : Launch) (D : va_G) (cA : Nat → ClassId) (N : Nat) (ad : Nat → Nat) (c : Nat → va_E) (th : Int32) (n : Nat) (nw ah rw : Nat → Int32) (x y k9 : Int32) (hN10 : 10 ≤ N) (hM : MoAt ad cA c th n nw ah rw) (hn5 : n ≤ 5) (hbad : ∀ i, i < n → x ≠ nI i) : Ci l yX2_ofStone wX2_ofStone { frames := 2, cells := 0, slots := 0, locals := 43 } [.ref (ad 6), .int x, .int y, .int k9] D cA N ad c 0 0 (fun v c' => mw ad cA c (nI 1) n nw ah rw = c') := by
  intro sz9
  refine bd_of (cc := cX2_ofStone) (maxL := 4) (ret := some Jvm.ClassFile.FieldType.int) (by decide) rfl (Nat.le_of_ble_eq_true rfl) ?_
  intro p e s m below meth c0 C0 hr hlk hnm hP hS hsz ls hl
  subst hsz
  have hx := C0.1
  have hb := C0.2.1
  have hl : lv_has ls 4 [(0, .ref (ad 6)), (1, .int x), (2, .int y), (3, .int k9)] := hl
  rw [← mw_self hM] at hP
  refine lv_aload_n hx hb dX2_ofStone_0 rfl (lv_at hl 0 rfl) ?_
  refine lv_iconst (v := nI 0) hx hb dX2_ofStone_1 rfl ?_
  refine pm_th C0 hN10 hP hS dX2_ofStone_2 (fun H locs hP hS => ?_)
  refine lv_aload_n hx hb dX2_ofStone_5 rfl (lv_at hl 0 rfl) ?_
  refine lv_iload_n hx hb dX2_ofStone_6 rfl (lv_at hl 1 rfl) ?_
  refine lv_iload_n hx hb dX2_ofStone_7 rfl (lv_at hl 2 rfl) ?_
  refine k0_i (rn_X2_70 (As := [.int x, .int y]) (rest := []) (r := 6) C0 (m_X2_isStone__h l D cA N ad (mw ad cA c (nI 0) n nw ah rw) (nI 0) n nw ah rw (x) (y) hN10 mw_at hn5 hbad _) hP hS (by omega) mw_at.1 rfl ⟨rfl, rfl⟩ ⟨by decide, by decide⟩ hl.1 rfl (Nat.le_of_ble_eq_true rfl) dX2_ofStone_8 ⟨Nat.le_of_ble_eq_true rfl, Nat.le_of_ble_eq_true rfl⟩) C0 hP hS (fun v8 c8 H locs hp hP hS => ?_)
  obtain ⟨rfl, rfl⟩ := hp
  refine n_if_eq (tgt := 35) hx hb (by omega) dX2_ofStone_11 (by decide) (fun h11 => ?_) (fun h11 => ?_)
  rotate_left
  · exfalso; omega
  refine lv_aload_n hx hb dX2_ofStone_35 rfl (lv_at hl 0 rfl) ?_
  refine lv_iconst (v := nI 1) hx hb dX2_ofStone_36 rfl ?_
  refine k0_i (rn_X2_44 (As := [.int (nI 1)]) (rest := []) (r := 6) C0 (m_X2_refuse l D cA N ad (mw ad cA c (nI 0) n nw ah rw) (nI 0) n nw ah rw (nI 1) hN10 mw_at (by omega) _) hP hS (by omega) mw_at.1 rfl ⟨rfl, rfl⟩ ⟨by decide, by decide⟩ hl.1 rfl (Nat.le_of_ble_eq_true rfl) dX2_ofStone_37 ⟨Nat.le_of_ble_eq_true rfl, Nat.le_of_ble_eq_true rfl⟩) C0 hP hS (fun v37 c37 H locs hp hP hS => ?_)
  obtain ⟨rfl, rfl⟩ := hp
  rw [mw_mw] at hP
  exact e_i C0 hr hlk hP hS dX2_ofStone_40 (by decide) (by decide) rfl
set_option maxHeartbeats 1000000 in
set_option maxRecDepth 10000 in
theorem m_X2_ofStone__p (l : Launch) (D : va_G) (cA : Nat → ClassId) (N : Nat) (ad : Nat → Nat) (c : Nat → va_E) (th : Int32) (n : Nat) (nw ah rw : Nat → Int32) (i R Y L S D9 K : Nat) (y k9 : Int32) (hN10 : 10 ≤ N) (hM : MoAt ad cA c th n nw ah rw) (hn5 : n ≤ 5) (hi : i < n) (hrow : RowE nw (30 * i) R Y L S D9 K) (hok : Hok R Y L S D9 K) (hbad : ¬ (¬ y < 0 ∧ y < nI K)) : Ci l yX2_ofStone wX2_ofStone { frames := 2, cells := 0, slots := 0, locals := 43 } [.ref (ad 6), .int (nI i), .int y, .int k9] D cA N ad c 0 0 (fun v c' => mw ad cA c (nI 1) n nw ah rw = c') := by
  intro sz9
  refine bd_of (cc := cX2_ofStone) (maxL := 4) (ret := some Jvm.ClassFile.FieldType.int) (by decide) rfl (Nat.le_of_ble_eq_true rfl) ?_
  intro p e s m below meth c0 C0 hr hlk hnm hP hS hsz ls hl
  subst hsz
  have hx := C0.1
  have hb := C0.2.1
  have hl : lv_has ls 4 [(0, .ref (ad 6)), (1, .int (nI i)), (2, .int y), (3, .int k9)] := hl
  obtain ⟨r0, r1, r2, r3, r4, r5⟩ := id hrow
  obtain ⟨q1, q2, q3, q4, q5, q6, q7, q8, q9⟩ := id hok
  rw [← mw_self hM] at hP
  refine lv_aload_n hx hb dX2_ofStone_0 rfl (lv_at hl 0 rfl) ?_
  refine lv_iconst (v := nI 0) hx hb dX2_ofStone_1 rfl ?_
  refine pm_th C0 hN10 hP hS dX2_ofStone_2 (fun H locs hP hS => ?_)
  refine lv_aload_n hx hb dX2_ofStone_5 rfl (lv_at hl 0 rfl) ?_
  refine lv_iload_n hx hb dX2_ofStone_6 rfl (lv_at hl 1 rfl) ?_
  refine lv_iload_n hx hb dX2_ofStone_7 rfl (lv_at hl 2 rfl) ?_
  refine k0_i (rn_X2_70 (As := [.int (nI i), .int y]) (rest := []) (r := 6) C0 (m_X2_isStone__p l D cA N ad (mw ad cA c (nI 0) n nw ah rw) (nI 0) n nw ah rw i R Y L S D9 K (y) hN10 mw_at hn5 hi hrow hok hbad _) hP hS (by omega) mw_at.1 rfl ⟨rfl, rfl⟩ ⟨by decide, by decide⟩ hl.1 rfl (Nat.le_of_ble_eq_true rfl) dX2_ofStone_8 ⟨Nat.le_of_ble_eq_true rfl, Nat.le_of_ble_eq_true rfl⟩) C0 hP hS (fun v8 c8 H locs hp hP hS => ?_)
  obtain ⟨rfl, rfl⟩ := hp
  refine n_if_eq (tgt := 35) hx hb (by omega) dX2_ofStone_11 (by decide) (fun h11 => ?_) (fun h11 => ?_)
  rotate_left
  · exfalso; omega
  refine lv_aload_n hx hb dX2_ofStone_35 rfl (lv_at hl 0 rfl) ?_
  refine lv_iconst (v := nI 1) hx hb dX2_ofStone_36 rfl ?_
  refine k0_i (rn_X2_44 (As := [.int (nI 1)]) (rest := []) (r := 6) C0 (m_X2_refuse l D cA N ad (mw ad cA c (nI 0) n nw ah rw) (nI 0) n nw ah rw (nI 1) hN10 mw_at (by omega) _) hP hS (by omega) mw_at.1 rfl ⟨rfl, rfl⟩ ⟨by decide, by decide⟩ hl.1 rfl (Nat.le_of_ble_eq_true rfl) dX2_ofStone_37 ⟨Nat.le_of_ble_eq_true rfl, Nat.le_of_ble_eq_true rfl⟩) C0 hP hS (fun v37 c37 H locs hp hP hS => ?_)
  obtain ⟨rfl, rfl⟩ := hp
  rw [mw_mw] at hP
  exact e_i C0 hr hlk hP hS dX2_ofStone_40 (by decide) (by decide) rfl
set_option maxHeartbeats 1000000 in
set_option maxRecDepth 10000 in
theorem m_X2_valueAt (l : Launch) (D : va_G) (cA : Nat → ClassId) (N : Nat) (ad : Nat → Nat) (c : Nat → va_E) (th : Int32) (n : Nat) (nw ah rw : Nat → Int32) (i R Y L S D9 K : Nat) (y : Nat) (hN10 : 10 ≤ N) (hM : MoAt ad cA c th n nw ah rw) (hn5 : n ≤ 5) (hi : i < n) (hrow : RowE nw (30 * i) R Y L S D9 K) (hok : Hok R Y L S D9 K) (hy : y < K) : Ci l yX2_valueAt wX2_valueAt { frames := 3, cells := 0, slots := 0, locals := 66 } [.ref (ad 6), .int (nI i), .int (nI y)] D cA N ad c 0 0 (fun v c' => v = sto nw (30 * i) 0 y ∧ mw ad cA c (nI 0) n nw ah rw = c') := by
  intro sz9
  refine bd_of (cc := cX2_valueAt) (maxL := 3) (ret := some Jvm.ClassFile.FieldType.int) (by decide) rfl (Nat.le_of_ble_eq_true rfl) ?_
  intro p e s m below meth c0 C0 hr hlk hnm hP hS hsz ls hl
  subst hsz
  have hx := C0.1
  have hb := C0.2.1
  have hl : lv_has ls 3 [(0, .ref (ad 6)), (1, .int (nI i)), (2, .int (nI y))] := hl
  obtain ⟨r0, r1, r2, r3, r4, r5⟩ := id hrow
  obtain ⟨q1, q2, q3, q4, q5, q6, q7, q8, q9⟩ := id hok
  rw [← mw_self hM] at hP
  refine lv_aload_n hx hb dX2_valueAt_0 rfl (lv_at hl 0 rfl) ?_
  refine lv_iload_n hx hb dX2_valueAt_1 rfl (lv_at hl 1 rfl) ?_
  refine lv_iload_n hx hb dX2_valueAt_2 rfl (lv_at hl 2 rfl) ?_
  refine lv_iconst (v := nI 0) hx hb dX2_valueAt_3 rfl ?_
  refine k0_i (rn_X2_74 (As := [.int (nI i), .int (nI y), .int (nI 0)]) (rest := []) (r := 6) C0 (m_X2_ofStone__t l D cA N ad (mw ad cA c th n nw ah rw) th n nw ah rw i R Y L S D9 K y 0 hN10 mw_at hn5 hi hrow hok hy (by decide) _) hP hS (by omega) mw_at.1 rfl ⟨rfl, rfl⟩ ⟨by decide, by decide⟩ hl.1 rfl (Nat.le_of_ble_eq_true rfl) dX2_valueAt_4 ⟨Nat.le_of_ble_eq_true rfl, Nat.le_of_ble_eq_true rfl⟩) C0 hP hS (fun v4 c4 H locs hp hP hS => ?_)
  obtain ⟨rfl, rfl⟩ := hp
  rw [mw_mw] at hP
  exact e_i C0 hr hlk hP hS dX2_valueAt_7 (by decide) (by decide) ⟨rfl, rfl⟩
set_option maxHeartbeats 1000000 in
set_option maxRecDepth 10000 in
theorem m_X2_valueAt__h (l : Launch) (D : va_G) (cA : Nat → ClassId) (N : Nat) (ad : Nat → Nat) (c : Nat → va_E) (th : Int32) (n : Nat) (nw ah rw : Nat → Int32) (x y : Int32) (hN10 : 10 ≤ N) (hM : MoAt ad cA c th n nw ah rw) (hn5 : n ≤ 5) (hbad : ∀ i, i < n → x ≠ nI i) : Ci l yX2_valueAt wX2_valueAt { frames := 3, cells := 0, slots := 0, locals := 66 } [.ref (ad 6), .int x, .int y] D cA N ad c 0 0 (fun v c' => mw ad cA c (nI 1) n nw ah rw = c') := by
  intro sz9
  refine bd_of (cc := cX2_valueAt) (maxL := 3) (ret := some Jvm.ClassFile.FieldType.int) (by decide) rfl (Nat.le_of_ble_eq_true rfl) ?_
  intro p e s m below meth c0 C0 hr hlk hnm hP hS hsz ls hl
  subst hsz
  have hx := C0.1
  have hb := C0.2.1
  have hl : lv_has ls 3 [(0, .ref (ad 6)), (1, .int x), (2, .int y)] := hl
  rw [← mw_self hM] at hP
  refine lv_aload_n hx hb dX2_valueAt_0 rfl (lv_at hl 0 rfl) ?_
  refine lv_iload_n hx hb dX2_valueAt_1 rfl (lv_at hl 1 rfl) ?_
  refine lv_iload_n hx hb dX2_valueAt_2 rfl (lv_at hl 2 rfl) ?_
  refine lv_iconst (v := nI 0) hx hb dX2_valueAt_3 rfl ?_
  refine k0_i (rn_X2_74 (As := [.int x, .int y, .int (nI 0)]) (rest := []) (r := 6) C0 (m_X2_ofStone__h l D cA N ad (mw ad cA c th n nw ah rw) th n nw ah rw x y (nI 0) hN10 mw_at hn5 hbad _) hP hS (by omega) mw_at.1 rfl ⟨rfl, rfl⟩ ⟨by decide, by decide⟩ hl.1 rfl (Nat.le_of_ble_eq_true rfl) dX2_valueAt_4 ⟨Nat.le_of_ble_eq_true rfl, Nat.le_of_ble_eq_true rfl⟩) C0 hP hS (fun v4 c4 H locs hp hP hS => ?_)
  have hof := hp
  rw [mw_mw] at hof
  subst hof
  exact e_i C0 hr hlk hP hS dX2_valueAt_7 (by decide) (by decide) rfl
set_option maxHeartbeats 1000000 in
set_option maxRecDepth 10000 in
theorem m_X2_valueAt__p (l : Launch) (D : va_G) (cA : Nat → ClassId) (N : Nat) (ad : Nat → Nat) (c : Nat → va_E) (th : Int32) (n : Nat) (nw ah rw : Nat → Int32) (i R Y L S D9 K : Nat) (y : Int32) (hN10 : 10 ≤ N) (hM : MoAt ad cA c th n nw ah rw) (hn5 : n ≤ 5) (hi : i < n) (hrow : RowE nw (30 * i) R Y L S D9 K) (hok : Hok R Y L S D9 K) (hbad : ¬ (¬ y < 0 ∧ y < nI K)) : Ci l yX2_valueAt wX2_valueAt { frames := 3, cells := 0, slots := 0, locals := 66 } [.ref (ad 6), .int (nI i), .int y] D cA N ad c 0 0 (fun v c' => mw ad cA c (nI 1) n nw ah rw = c') := by
  intro sz9
  refine bd_of (cc := cX2_valueAt) (maxL := 3) (ret := some Jvm.ClassFile.FieldType.int) (by decide) rfl (Nat.le_of_ble_eq_true rfl) ?_
  intro p e s m below meth c0 C0 hr hlk hnm hP hS hsz ls hl
  subst hsz
  have hx := C0.1
  have hb := C0.2.1
  have hl : lv_has ls 3 [(0, .ref (ad 6)), (1, .int (nI i)), (2, .int y)] := hl
  obtain ⟨r0, r1, r2, r3, r4, r5⟩ := id hrow
  obtain ⟨q1, q2, q3, q4, q5, q6, q7, q8, q9⟩ := id hok
  rw [← mw_self hM] at hP
  refine lv_aload_n hx hb dX2_valueAt_0 rfl (lv_at hl 0 rfl) ?_
  refine lv_iload_n hx hb dX2_valueAt_1 rfl (lv_at hl 1 rfl) ?_
  refine lv_iload_n hx hb dX2_valueAt_2 rfl (lv_at hl 2 rfl) ?_
  refine lv_iconst (v := nI 0) hx hb dX2_valueAt_3 rfl ?_
  refine k0_i (rn_X2_74 (As := [.int (nI i), .int y, .int (nI 0)]) (rest := []) (r := 6) C0 (m_X2_ofStone__p l D cA N ad (mw ad cA c th n nw ah rw) th n nw ah rw i R Y L S D9 K y (nI 0) hN10 mw_at hn5 hi hrow hok hbad _) hP hS (by omega) mw_at.1 rfl ⟨rfl, rfl⟩ ⟨by decide, by decide⟩ hl.1 rfl (Nat.le_of_ble_eq_true rfl) dX2_valueAt_4 ⟨Nat.le_of_ble_eq_true rfl, Nat.le_of_ble_eq_true rfl⟩) C0 hP hS (fun v4 c4 H locs hp hP hS => ?_)
  have hof := hp
  rw [mw_mw] at hof
  subst hof
  exact e_i C0 hr hlk hP hS dX2_valueAt_7 (by decide) (by decide) rfl
set_option maxHeartbeats 1000000 in
set_option maxRecDepth 10000 in
theorem m_X2_weightAt (l : Launch) (D : va_G) (cA : Nat → ClassId) (N : Nat) (ad : Nat → Nat) (c : Nat → va_E) (th : Int32) (n : Nat) (nw ah rw : Nat → Int32) (i R Y L S D9 K : Nat) (y : Nat) (hN10 : 10 ≤ N) (hM : MoAt ad cA c th n nw ah rw) (hn5 : n ≤ 5) (hi : i < n) (hrow : RowE nw (30 * i) R Y L S D9 K) (hok : Hok R Y L S D9 K) (hy : y < K) : Ci l yX2_weightAt wX2_weightAt { frames := 3, cells := 0, slots := 0, locals := 66 } [.ref (ad 6), .int (nI i), .int (nI y)] D cA N ad c 0 0 (fun v c' => v = sto nw (30 * i) 1 y ∧ mw ad cA c (nI 0) n nw ah rw = c') := by
  intro sz9
  refine bd_of (cc := cX2_weightAt) (maxL := 3) (ret := some Jvm.ClassFile.FieldType.int) (by decide) rfl (Nat.le_of_ble_eq_true rfl) ?_
  intro p e s m below meth c0 C0 hr hlk hnm hP hS hsz ls hl
  subst hsz
  have hx := C0.1
  have hb := C0.2.1
  have hl : lv_has ls 3 [(0, .ref (ad 6)), (1, .int (nI i)), (2, .int (nI y))] := hl
  obtain ⟨r0, r1, r2, r3, r4, r5⟩ := id hrow
  obtain ⟨q1, q2, q3, q4, q5, q6, q7, q8, q9⟩ := id hok
  rw [← mw_self hM] at hP
  refine lv_aload_n hx hb dX2_weightAt_0 rfl (lv_at hl 0 rfl) ?_
  refine lv_iload_n hx hb dX2_weightAt_1 rfl (lv_at hl 1 rfl) ?_
  refine lv_iload_n hx hb dX2_weightAt_2 rfl (lv_at hl 2 rfl) ?_
  refine lv_iconst (v := nI 1) hx hb dX2_weightAt_3 rfl ?_
  refine k0_i (rn_X2_74 (As := [.int (nI i), .int (nI y), .int (nI 1)]) (rest := []) (r := 6) C0 (m_X2_ofStone__t l D cA N ad (mw ad cA c th n nw ah rw) th n nw ah rw i R Y L S D9 K y 1 hN10 mw_at hn5 hi hrow hok hy (by decide) _) hP hS (by omega) mw_at.1 rfl ⟨rfl, rfl⟩ ⟨by decide, by decide⟩ hl.1 rfl (Nat.le_of_ble_eq_true rfl) dX2_weightAt_4 ⟨Nat.le_of_ble_eq_true rfl, Nat.le_of_ble_eq_true rfl⟩) C0 hP hS (fun v4 c4 H locs hp hP hS => ?_)
  obtain ⟨rfl, rfl⟩ := hp
  rw [mw_mw] at hP
  exact e_i C0 hr hlk hP hS dX2_weightAt_7 (by decide) (by decide) ⟨rfl, rfl⟩
set_option maxHeartbeats 1000000 in
set_option maxRecDepth 10000 in
theorem m_X2_weightAt__h (l : Launch) (D : va_G) (cA : Nat → ClassId) (N : Nat) (ad : Nat → Nat) (c : Nat → va_E) (th : Int32) (n : Nat) (nw ah rw : Nat → Int32) (x y : Int32) (hN10 : 10 ≤ N) (hM : MoAt ad cA c th n nw ah rw) (hn5 : n ≤ 5) (hbad : ∀ i, i < n → x ≠ nI i) : Ci l yX2_weightAt wX2_weightAt { frames := 3, cells := 0, slots := 0, locals := 66 } [.ref (ad 6), .int x, .int y] D cA N ad c 0 0 (fun v c' => mw ad cA c (nI 1) n nw ah rw = c') := by
  intro sz9
  refine bd_of (cc := cX2_weightAt) (maxL := 3) (ret := some Jvm.ClassFile.FieldType.int) (by decide) rfl (Nat.le_of_ble_eq_true rfl) ?_
  intro p e s m below meth c0 C0 hr hlk hnm hP hS hsz ls hl
  subst hsz
  have hx := C0.1
  have hb := C0.2.1
  have hl : lv_has ls 3 [(0, .ref (ad 6)), (1, .int x), (2, .int y)] := hl
  rw [← mw_self hM] at hP
  refine lv_aload_n hx hb dX2_weightAt_0 rfl (lv_at hl 0 rfl) ?_
  refine lv_iload_n hx hb dX2_weightAt_1 rfl (lv_at hl 1 rfl) ?_
  refine lv_iload_n hx hb dX2_weightAt_2 rfl (lv_at hl 2 rfl) ?_
  refine lv_iconst (v := nI 1) hx hb dX2_weightAt_3 rfl ?_
  refine k0_i (rn_X2_74 (As := [.int x, .int y, .int (nI 1)]) (rest := []) (r := 6) C0 (m_X2_ofStone__h l D cA N ad (mw ad cA c th n nw ah rw) th n nw ah rw x y (nI 1) hN10 mw_at hn5 hbad _) hP hS (by omega) mw_at.1 rfl ⟨rfl, rfl⟩ ⟨by decide, by decide⟩ hl.1 rfl (Nat.le_of_ble_eq_true rfl) dX2_weightAt_4 ⟨Nat.le_of_ble_eq_true rfl, Nat.le_of_ble_eq_true rfl⟩) C0 hP hS (fun v4 c4 H locs hp hP hS => ?_)
  have hof := hp
  rw [mw_mw] at hof
  subst hof
  exact e_i C0 hr hlk hP hS dX2_weightAt_7 (by decide) (by decide) rfl
set_option maxHeartbeats 1000000 in
set_option maxRecDepth 10000 in
theorem m_X2_weightAt__p (l : Launch) (D : va_G) (cA : Nat → ClassId) (N : Nat) (ad : Nat → Nat) (c : Nat → va_E) (th : Int32) (n : Nat) (nw ah rw : Nat → Int32) (i R Y L S D9 K : Nat) (y : Int32) (hN10 : 10 ≤ N) (hM : MoAt ad cA c th n nw ah rw) (hn5 : n ≤ 5) (hi : i < n) (hrow : RowE nw (30 * i) R Y L S D9 K) (hok : Hok R Y L S D9 K) (hbad : ¬ (¬ y < 0 ∧ y < nI K)) : Ci l yX2_weightAt wX2_weightAt { frames := 3, cells := 0, slots := 0, locals := 66 } [.ref (ad 6), .int (nI i), .int y] D cA N ad c 0 0 (fun v c' => mw ad cA c (nI 1) n nw ah rw = c') := by
  intro sz9
  refine bd_of (cc := cX2_weightAt) (maxL := 3) (ret := some Jvm.ClassFile.FieldType.int) (by decide) rfl (Nat.le_of_ble_eq_true rfl) ?_
  intro p e s m below meth c0 C0 hr hlk hnm hP hS hsz ls hl
  subst hsz
  have hx := C0.1
  have hb := C0.2.1
  have hl : lv_has ls 3 [(0, .ref (ad 6)), (1, .int (nI i)), (2, .int y)] := hl
  obtain ⟨r0, r1, r2, r3, r4, r5⟩ := id hrow
  obtain ⟨q1, q2, q3, q4, q5, q6, q7, q8, q9⟩ := id hok
  rw [← mw_self hM] at hP
  refine lv_aload_n hx hb dX2_weightAt_0 rfl (lv_at hl 0 rfl) ?_
  refine lv_iload_n hx hb dX2_weightAt_1 rfl (lv_at hl 1 rfl) ?_
  refine lv_iload_n hx hb dX2_weightAt_2 rfl (lv_at hl 2 rfl) ?_
  refine lv_iconst (v := nI 1) hx hb dX2_weightAt_3 rfl ?_
  refine k0_i (rn_X2_74 (As := [.int (nI i), .int y, .int (nI 1)]) (rest := []) (r := 6) C0 (m_X2_ofStone__p l D cA N ad (mw ad cA c th n nw ah rw) th n nw ah rw i R Y L S D9 K y (nI 1) hN10 mw_at hn5 hi hrow hok hbad _) hP hS (by omega) mw_at.1 rfl ⟨rfl, rfl⟩ ⟨by decide, by decide⟩ hl.1 rfl (Nat.le_of_ble_eq_true rfl) dX2_weightAt_4 ⟨Nat.le_of_ble_eq_true rfl, Nat.le_of_ble_eq_true rfl⟩) C0 hP hS (fun v4 c4 H locs hp hP hS => ?_)
  have hof := hp
  rw [mw_mw] at hof
  subst hof
  exact e_i C0 hr hlk hP hS dX2_weightAt_7 (by decide) (by decide) rfl
set_option maxHeartbeats 1000000 in
set_option maxRecDepth 10000 in
theorem m_X2_cameAs (l : Launch) (D : va_G) (cA : Nat → ClassId) (N : Nat) (ad : Nat → Nat) (c : Nat → va_E) (th : Int32) (n : Nat) (nw ah rw : Nat → Int32) (i R Y L S D9 K : Nat) (y : Nat) (hN10 : 10 ≤ N) (hM : MoAt ad cA c th n nw ah rw) (hn5 : n ≤ 5) (hi : i < n) (hrow : RowE nw (30 * i) R Y L S D9 K) (hok : Hok R Y L S D9 K) (hy : y < K) : Ci l yX2_cameAs wX2_cameAs { frames := 3, cells := 0, slots := 0, locals := 66 } [.ref (ad 6), .int (nI i), .int (nI y)] D cA N ad c 0 0 (fun v c' => v = sto nw (30 * i) 2 y ∧ mw ad cA c (nI 0) n nw ah rw = c') := by
  intro sz9
  refine bd_of (cc := cX2_cameAs) (maxL := 3) (ret := some Jvm.ClassFile.FieldType.int) (by decide) rfl (Nat.le_of_ble_eq_true rfl) ?_
  intro p e s m below meth c0 C0 hr hlk hnm hP hS hsz ls hl
  subst hsz
  have hx := C0.1
  have hb := C0.2.1
  have hl : lv_has ls 3 [(0, .ref (ad 6)), (1, .int (nI i)), (2, .int (nI y))] := hl
  obtain ⟨r0, r1, r2, r3, r4, r5⟩ := id hrow
  obtain ⟨q1, q2, q3, q4, q5, q6, q7, q8, q9⟩ := id hok
  rw [← mw_self hM] at hP
  refine lv_aload_n hx hb dX2_cameAs_0 rfl (lv_at hl 0 rfl) ?_
  refine lv_iload_n hx hb dX2_cameAs_1 rfl (lv_at hl 1 rfl) ?_
  refine lv_iload_n hx hb dX2_cameAs_2 rfl (lv_at hl 2 rfl) ?_
  refine lv_iconst (v := nI 2) hx hb dX2_cameAs_3 rfl ?_
  refine k0_i (rn_X2_74 (As := [.int (nI i), .int (nI y), .int (nI 2)]) (rest := []) (r := 6) C0 (m_X2_ofStone__t l D cA N ad (mw ad cA c th n nw ah rw) th n nw ah rw i R Y L S D9 K y 2 hN10 mw_at hn5 hi hrow hok hy (by decide) _) hP hS (by omega) mw_at.1 rfl ⟨rfl, rfl⟩ ⟨by decide, by decide⟩ hl.1 rfl (Nat.le_of_ble_eq_true rfl) dX2_cameAs_4 ⟨Nat.le_of_ble_eq_true rfl, Nat.le_of_ble_eq_true rfl⟩) C0 hP hS (fun v4 c4 H locs hp hP hS => ?_)
  obtain ⟨rfl, rfl⟩ := hp
  rw [mw_mw] at hP
  exact e_i C0 hr hlk hP hS dX2_cameAs_7 (by decide) (by decide) ⟨rfl, rfl⟩
set_option maxHeartbeats 1000000 in
set_option maxRecDepth 10000 in
theorem m_X2_cameAs__h (l : Launch) (D : va_G) (cA : Nat → ClassId) (N : Nat) (ad : Nat → Nat) (c : Nat → va_E) (th : Int32) (n : Nat) (nw ah rw : Nat → Int32) (x y : Int32) (hN10 : 10 ≤ N) (hM : MoAt ad cA c th n nw ah rw) (hn5 : n ≤ 5) (hbad : ∀ i, i < n → x ≠ nI i) : Ci l yX2_cameAs wX2_cameAs { frames := 3, cells := 0, slots := 0, locals := 66 } [.ref (ad 6), .int x, .int y] D cA N ad c 0 0 (fun v c' => mw ad cA c (nI 1) n nw ah rw = c') := by
  intro sz9
  refine bd_of (cc := cX2_cameAs) (maxL := 3) (ret := some Jvm.ClassFile.FieldType.int) (by decide) rfl (Nat.le_of_ble_eq_true rfl) ?_
  intro p e s m below meth c0 C0 hr hlk hnm hP hS hsz ls hl
  subst hsz
  have hx := C0.1
  have hb := C0.2.1
  have hl : lv_has ls 3 [(0, .ref (ad 6)), (1, .int x), (2, .int y)] := hl
  rw [← mw_self hM] at hP
  refine lv_aload_n hx hb dX2_cameAs_0 rfl (lv_at hl 0 rfl) ?_
  refine lv_iload_n hx hb dX2_cameAs_1 rfl (lv_at hl 1 rfl) ?_
  refine lv_iload_n hx hb dX2_cameAs_2 rfl (lv_at hl 2 rfl) ?_
  refine lv_iconst (v := nI 2) hx hb dX2_cameAs_3 rfl ?_
  refine k0_i (rn_X2_74 (As := [.int x, .int y, .int (nI 2)]) (rest := []) (r := 6) C0 (m_X2_ofStone__h l D cA N ad (mw ad cA c th n nw ah rw) th n nw ah rw x y (nI 2) hN10 mw_at hn5 hbad _) hP hS (by omega) mw_at.1 rfl ⟨rfl, rfl⟩ ⟨by decide, by decide⟩ hl.1 rfl (Nat.le_of_ble_eq_true rfl) dX2_cameAs_4 ⟨Nat.le_of_ble_eq_true rfl, Nat.le_of_ble_eq_true rfl⟩) C0 hP hS (fun v4 c4 H locs hp hP hS => ?_)
  have hof := hp
  rw [mw_mw] at hof
  subst hof
  exact e_i C0 hr hlk hP hS dX2_cameAs_7 (by decide) (by decide) rfl
set_option maxHeartbeats 1000000 in
set_option maxRecDepth 10000 in
theorem m_X2_cameAs__p (l : Launch) (D : va_G) (cA : Nat → ClassId) (N : Nat) (ad : Nat → Nat) (c : Nat → va_E) (th : Int32) (n : Nat) (nw ah rw : Nat → Int32) (i R Y L S D9 K : Nat) (y : Int32) (hN10 : 10 ≤ N) (hM : MoAt ad cA c th n nw ah rw) (hn5 : n ≤ 5) (hi : i < n) (hrow : RowE nw (30 * i) R Y L S D9 K) (hok : Hok R Y L S D9 K) (hbad : ¬ (¬ y < 0 ∧ y < nI K)) : Ci l yX2_cameAs wX2_cameAs { frames := 3, cells := 0, slots := 0, locals := 66 } [.ref (ad 6), .int (nI i), .int y] D cA N ad c 0 0 (fun v c' => mw ad cA c (nI 1) n nw ah rw = c') := by
  intro sz9
  refine bd_of (cc := cX2_cameAs) (maxL := 3) (ret := some Jvm.ClassFile.FieldType.int) (by decide) rfl (Nat.le_of_ble_eq_true rfl) ?_
  intro p e s m below meth c0 C0 hr hlk hnm hP hS hsz ls hl
  subst hsz
  have hx := C0.1
  have hb := C0.2.1
  have hl : lv_has ls 3 [(0, .ref (ad 6)), (1, .int (nI i)), (2, .int y)] := hl
  obtain ⟨r0, r1, r2, r3, r4, r5⟩ := id hrow
  obtain ⟨q1, q2, q3, q4, q5, q6, q7, q8, q9⟩ := id hok
  rw [← mw_self hM] at hP
  refine lv_aload_n hx hb dX2_cameAs_0 rfl (lv_at hl 0 rfl) ?_
  refine lv_iload_n hx hb dX2_cameAs_1 rfl (lv_at hl 1 rfl) ?_
  refine lv_iload_n hx hb dX2_cameAs_2 rfl (lv_at hl 2 rfl) ?_
  refine lv_iconst (v := nI 2) hx hb dX2_cameAs_3 rfl ?_
  refine k0_i (rn_X2_74 (As := [.int (nI i), .int y, .int (nI 2)]) (rest := []) (r := 6) C0 (m_X2_ofStone__p l D cA N ad (mw ad cA c th n nw ah rw) th n nw ah rw i R Y L S D9 K y (nI 2) hN10 mw_at hn5 hi hrow hok hbad _) hP hS (by omega) mw_at.1 rfl ⟨rfl, rfl⟩ ⟨by decide, by decide⟩ hl.1 rfl (Nat.le_of_ble_eq_true rfl) dX2_cameAs_4 ⟨Nat.le_of_ble_eq_true rfl, Nat.le_of_ble_eq_true rfl⟩) C0 hP hS (fun v4 c4 H locs hp hP hS => ?_)
  have hof := hp
  rw [mw_mw] at hof
  subst hof
  exact e_i C0 hr hlk hP hS dX2_cameAs_7 (by decide) (by decide) rfl
set_option maxHeartbeats 1000000 in
set_option maxRecDepth 10000 in
theorem m_X2_rankOf (l : Launch) (D : va_G) (cA : Nat → ClassId) (N : Nat) (ad : Nat → Nat) (c : Nat → va_E) (th : Int32) (n : Nat) (nw ah rw : Nat → Int32) (i R Y L S D9 K : Nat) (y : Nat) (hN10 : 10 ≤ N) (hM : MoAt ad cA c th n nw ah rw) (hn5 : n ≤ 5) (hi : i < n) (hrow : RowE nw (30 * i) R Y L S D9 K) (hok : Hok R Y L S D9 K) (hy : y < K) : Ci l yX2_rankOf wX2_rankOf { frames := 2, cells := 0, slots := 0, locals := 46 } [.ref (ad 6), .int (nI i), .int (nI y)] D cA N ad c 0 0 (fun v c' => v = nI (rk (sto nw (30 * i) 0) K y) ∧ mw ad cA c (nI 0) n nw ah rw = c') := by
  intro sz9
  refine bd_of (cc := cX2_rankOf) (maxL := 3) (ret := some Jvm.ClassFile.FieldType.int) (by decide) rfl (Nat.le_of_ble_eq_true rfl) ?_
  intro p e s m below meth c0 C0 hr hlk hnm hP hS hsz ls hl
  subst hsz
  have hx := C0.1
  have hb := C0.2.1
  have hl : lv_has ls 3 [(0, .ref (ad 6)), (1, .int (nI i)), (2, .int (nI y))] := hl
  obtain ⟨r0, r1, r2, r3, r4, r5⟩ := id hrow
  obtain ⟨q1, q2, q3, q4, q5, q6, q7, q8, q9⟩ := id hok
  rw [← mw_self hM] at hP
  refine lv_aload_n hx hb dX2_rankOf_0 rfl (lv_at hl 0 rfl) ?_
  refine lv_iconst (v := nI 0) hx hb dX2_rankOf_1 rfl ?_
  refine pm_th C0 hN10 hP hS dX2_rankOf_2 (fun H locs hP hS => ?_)
  refine lv_aload_n hx hb dX2_rankOf_5 rfl (lv_at hl 0 rfl) ?_
  refine lv_iload_n hx hb dX2_rankOf_6 rfl (lv_at hl 1 rfl) ?_
  refine lv_iload_n hx hb dX2_rankOf_7 rfl (lv_at hl 2 rfl) ?_
  refine k0_i (rn_X2_70 (As := [.int (nI i), .int (nI y)]) (rest := []) (r := 6) C0 (m_X2_isStone__t l D cA N ad (mw ad cA c (nI 0) n nw ah rw) (nI 0) n nw ah rw i R Y L S D9 K (y) hN10 mw_at hn5 hi hrow hok hy _) hP hS (by omega) mw_at.1 rfl ⟨rfl, rfl⟩ ⟨by decide, by decide⟩ hl.1 rfl (Nat.le_of_ble_eq_true rfl) dX2_rankOf_8 ⟨Nat.le_of_ble_eq_true rfl, Nat.le_of_ble_eq_true rfl⟩) C0 hP hS (fun v8 c8 H locs hp hP hS => ?_)
  obtain ⟨rfl, rfl⟩ := hp
  refine n_if_eq (tgt := 23) hx hb (by omega) dX2_rankOf_11 (by decide) (fun h11 => ?_) (fun h11 => ?_)
  · exfalso; omega
  refine lv_aload_n hx hb dX2_rankOf_14 rfl (lv_at hl 0 rfl) ?_
  refine lv_iload_n hx hb dX2_rankOf_15 rfl (lv_at hl 1 rfl) ?_
  refine lv_iload_n hx hb dX2_rankOf_16 rfl (lv_at hl 2 rfl) ?_
  refine k0_i (rn_X2_84 (As := [.int (nI i), .int (nI y)]) (rest := []) (r := 6) C0 (m_X2_rank l D cA N ad (mw ad cA c (nI 0) n nw ah rw) (nI 0) n nw ah rw i R Y L S D9 K y hN10 mw_at (by omega) hi hrow hok (by omega) _) hP hS (by omega) mw_at.1 rfl ⟨rfl, rfl⟩ ⟨by decide, by decide⟩ hl.1 rfl (Nat.le_of_ble_eq_true rfl) dX2_rankOf_17 ⟨Nat.le_of_ble_eq_true rfl, Nat.le_of_ble_eq_true rfl⟩) C0 hP hS (fun v17 c17 H locs hp hP hS => ?_)
  obtain ⟨rfl, rfl⟩ := hp
  refine lv_goto (tgt := 28) hx hb dX2_rankOf_20 (by decide) ?_
  exact e_i C0 hr hlk hP hS dX2_rankOf_28 (by decide) (by decide) ⟨by rw [mrk_rk (by omega)], rfl⟩
set_option maxHeartbeats 1000000 in
set_option maxRecDepth 10000 in
theorem m_X2_rankOf__h (l : Launch) (D : va_G) (cA : Nat → ClassId) (N : Nat) (ad : Nat → Nat) (c : Nat → va_E) (th : Int32) (n : Nat) (nw ah rw : Nat → Int32) (x y : Int32) (hN10 : 10 ≤ N) (hM : MoAt ad cA c th n nw ah rw) (hn5 : n ≤ 5) (hbad : ∀ i, i < n → x ≠ nI i) : Ci l yX2_rankOf wX2_rankOf { frames := 2, cells := 0, slots := 0, locals := 43 } [.ref (ad 6), .int x, .int y] D cA N ad c 0 0 (fun v c' => mw ad cA c (nI 1) n nw ah rw = c') := by
  intro sz9
  refine bd_of (cc := cX2_rankOf) (maxL := 3) (ret := some Jvm.ClassFile.FieldType.int) (by decide) rfl (Nat.le_of_ble_eq_true rfl) ?_
  intro p e s m below meth c0 C0 hr hlk hnm hP hS hsz ls hl
  subst hsz
  have hx := C0.1
  have hb := C0.2.1
  have hl : lv_has ls 3 [(0, .ref (ad 6)), (1, .int x), (2, .int y)] := hl
  rw [← mw_self hM] at hP
  refine lv_aload_n hx hb dX2_rankOf_0 rfl (lv_at hl 0 rfl) ?_
  refine lv_iconst (v := nI 0) hx hb dX2_rankOf_1 rfl ?_
  refine pm_th C0 hN10 hP hS dX2_rankOf_2 (fun H locs hP hS => ?_)
  refine lv_aload_n hx hb dX2_rankOf_5 rfl (lv_at hl 0 rfl) ?_
  refine lv_iload_n hx hb dX2_rankOf_6 rfl (lv_at hl 1 rfl) ?_
  refine lv_iload_n hx hb dX2_rankOf_7 rfl (lv_at hl 2 rfl) ?_
  refine k0_i (rn_X2_70 (As := [.int x, .int y]) (rest := []) (r := 6) C0 (m_X2_isStone__h l D cA N ad (mw ad cA c (nI 0) n nw ah rw) (nI 0) n nw ah rw (x) (y) hN10 mw_at hn5 hbad _) hP hS (by omega) mw_at.1 rfl ⟨rfl, rfl⟩ ⟨by decide, by decide⟩ hl.1 rfl (Nat.le_of_ble_eq_true rfl) dX2_rankOf_8 ⟨Nat.le_of_ble_eq_true rfl, Nat.le_of_ble_eq_true rfl⟩) C0 hP hS (fun v8 c8 H locs hp hP hS => ?_)
  obtain ⟨rfl, rfl⟩ := hp
  refine n_if_eq (tgt := 23) hx hb (by omega) dX2_rankOf_11 (by decide) (fun h11 => ?_) (fun h11 => ?_)
  rotate_left
  · exfalso; omega
  refine lv_aload_n hx hb dX2_rankOf_23 rfl (lv_at hl 0 rfl) ?_
  refine lv_iconst (v := nI 1) hx hb dX2_rankOf_24 rfl ?_
  refine k0_i (rn_X2_44 (As := [.int (nI 1)]) (rest := []) (r := 6) C0 (m_X2_refuse l D cA N ad (mw ad cA c (nI 0) n nw ah rw) (nI 0) n nw ah rw (nI 1) hN10 mw_at (by omega) _) hP hS (by omega) mw_at.1 rfl ⟨rfl, rfl⟩ ⟨by decide, by decide⟩ hl.1 rfl (Nat.le_of_ble_eq_true rfl) dX2_rankOf_25 ⟨Nat.le_of_ble_eq_true rfl, Nat.le_of_ble_eq_true rfl⟩) C0 hP hS (fun v25 c25 H locs hp hP hS => ?_)
  obtain ⟨rfl, rfl⟩ := hp
  rw [mw_mw] at hP
  exact e_i C0 hr hlk hP hS dX2_rankOf_28 (by decide) (by decide) rfl
set_option maxHeartbeats 1000000 in
set_option maxRecDepth 10000 in
theorem m_X2_rankOf__p (l : Launch) (D : va_G) (cA : Nat → ClassId) (N : Nat) (ad : Nat → Nat) (c : Nat → va_E) (th : Int32) (n : Nat) (nw ah rw : Nat → Int32) (i R Y L S D9 K : Nat) (y : Int32) (hN10 : 10 ≤ N) (hM : MoAt ad cA c th n nw ah rw) (hn5 : n ≤ 5) (hi : i < n) (hrow : RowE nw (30 * i) R Y L S D9 K) (hok : Hok R Y L S D9 K) (hbad : ¬ (¬ y < 0 ∧ y < nI K)) : Ci l yX2_rankOf wX2_rankOf { frames := 2, cells := 0, slots := 0, locals := 43 } [.ref (ad 6), .int (nI i), .int y] D cA N ad c 0 0 (fun v c' => mw ad cA c (nI 1) n nw ah rw = c') := by
  intro sz9
  refine bd_of (cc := cX2_rankOf) (maxL := 3) (ret := some Jvm.ClassFile.FieldType.int) (by decide) rfl (Nat.le_of_ble_eq_true rfl) ?_
  intro p e s m below meth c0 C0 hr hlk hnm hP hS hsz ls hl
  subst hsz
  have hx := C0.1
  have hb := C0.2.1
  have hl : lv_has ls 3 [(0, .ref (ad 6)), (1, .int (nI i)), (2, .int y)] := hl
  obtain ⟨r0, r1, r2, r3, r4, r5⟩ := id hrow
  obtain ⟨q1, q2, q3, q4, q5, q6, q7, q8, q9⟩ := id hok
  rw [← mw_self hM] at hP
  refine lv_aload_n hx hb dX2_rankOf_0 rfl (lv_at hl 0 rfl) ?_
  refine lv_iconst (v := nI 0) hx hb dX2_rankOf_1 rfl ?_
  refine pm_th C0 hN10 hP hS dX2_rankOf_2 (fun H locs hP hS => ?_)
  refine lv_aload_n hx hb dX2_rankOf_5 rfl (lv_at hl 0 rfl) ?_
  refine lv_iload_n hx hb dX2_rankOf_6 rfl (lv_at hl 1 rfl) ?_
  refine lv_iload_n hx hb dX2_rankOf_7 rfl (lv_at hl 2 rfl) ?_
  refine k0_i (rn_X2_70 (As := [.int (nI i), .int y]) (rest := []) (r := 6) C0 (m_X2_isStone__p l D cA N ad (mw ad cA c (nI 0) n nw ah rw) (nI 0) n nw ah rw i R Y L S D9 K (y) hN10 mw_at hn5 hi hrow hok hbad _) hP hS (by omega) mw_at.1 rfl ⟨rfl, rfl⟩ ⟨by decide, by decide⟩ hl.1 rfl (Nat.le_of_ble_eq_true rfl) dX2_rankOf_8 ⟨Nat.le_of_ble_eq_true rfl, Nat.le_of_ble_eq_true rfl⟩) C0 hP hS (fun v8 c8 H locs hp hP hS => ?_)
  obtain ⟨rfl, rfl⟩ := hp
  refine n_if_eq (tgt := 23) hx hb (by omega) dX2_rankOf_11 (by decide) (fun h11 => ?_) (fun h11 => ?_)
  rotate_left
  · exfalso; omega
  refine lv_aload_n hx hb dX2_rankOf_23 rfl (lv_at hl 0 rfl) ?_
  refine lv_iconst (v := nI 1) hx hb dX2_rankOf_24 rfl ?_
  refine k0_i (rn_X2_44 (As := [.int (nI 1)]) (rest := []) (r := 6) C0 (m_X2_refuse l D cA N ad (mw ad cA c (nI 0) n nw ah rw) (nI 0) n nw ah rw (nI 1) hN10 mw_at (by omega) _) hP hS (by omega) mw_at.1 rfl ⟨rfl, rfl⟩ ⟨by decide, by decide⟩ hl.1 rfl (Nat.le_of_ble_eq_true rfl) dX2_rankOf_25 ⟨Nat.le_of_ble_eq_true rfl, Nat.le_of_ble_eq_true rfl⟩) C0 hP hS (fun v25 c25 H locs hp hP hS => ?_)
  obtain ⟨rfl, rfl⟩ := hp
  rw [mw_mw] at hP
  exact e_i C0 hr hlk hP hS dX2_rankOf_28 (by decide) (by decide) rfl
set_option maxHeartbeats 1000000 in
set_option maxRecDepth 10000 in
theorem m_X2_offer__h (l : Launch) (D : va_G) (cA : Nat → ClassId) (N : Nat) (ad : Nat → Nat) (c : Nat → va_E) (th : Int32) (n : Nat) (nw ah rw : Nat → Int32) (x y z : Int32) (hN10 : 10 ≤ N) (hM : MoAt ad cA c th n nw ah rw) (hn5 : n ≤ 5) (hbad : ∀ i, i < n → x ≠ nI i) : Ci l yX2_offer wX2_offer { frames := 1, cells := 0, slots := 0, locals := 21 } [.ref (ad 6), .int x, .int y, .int z] D cA N ad c 0 0 (fun v c' => mw ad cA c (nI 1) n nw ah rw = c') := by
  intro sz9
  refine bd_of (cc := cX2_offer) (maxL := 4) (ret := some Jvm.ClassFile.FieldType.int) (by decide) rfl (Nat.le_of_ble_eq_true rfl) ?_
  intro p e s m below meth c0 C0 hr hlk hnm hP hS hsz ls hl
  subst hsz
  have hx := C0.1
  have hb := C0.2.1
  have hl : lv_has ls 4 [(0, .ref (ad 6)), (1, .int x), (2, .int y), (3, .int z)] := hl
  rw [← mw_self hM] at hP
  refine lv_aload_n hx hb dX2_offer_0 rfl (lv_at hl 0 rfl) ?_
  refine lv_iconst (v := nI 0) hx hb dX2_offer_1 rfl ?_
  refine pm_th C0 hN10 hP hS dX2_offer_2 (fun H locs hP hS => ?_)
  refine lv_aload_n hx hb dX2_offer_5 rfl (lv_at hl 0 rfl) ?_
  refine lv_iload_n hx hb dX2_offer_6 rfl (lv_at hl 1 rfl) ?_
  refine k0_i (rn_X2_48 (As := [.int x]) (rest := []) (r := 6) C0 (m_X2_isHand__f l D cA N ad (mw ad cA c (nI 0) n nw ah rw) (nI 0) n nw ah rw x hN10 mw_at (by omega) hbad _) hP hS (by omega) mw_at.1 rfl ⟨rfl, rfl⟩ ⟨by decide, by decide⟩ hl.1 rfl (Nat.le_of_ble_eq_true rfl) dX2_offer_7 ⟨Nat.le_of_ble_eq_true rfl, Nat.le_of_ble_eq_true rfl⟩) C0 hP hS (fun v7 c7 H locs hp hP hS => ?_)
  obtain ⟨rfl, rfl⟩ := hp
  refine n_if_ne (tgt := 19) hx hb (by omega) dX2_offer_10 (by decide) (fun h10 => ?_) (fun h10 => ?_)
  · exfalso; omega
  refine lv_aload_n hx hb dX2_offer_13 rfl (lv_at hl 0 rfl) ?_
  refine lv_iconst (v := nI 1) hx hb dX2_offer_14 rfl ?_
  refine k0_i (rn_X2_44 (As := [.int (nI 1)]) (rest := []) (r := 6) C0 (m_X2_refuse l D cA N ad (mw ad cA c (nI 0) n nw ah rw) (nI 0) n nw ah rw (nI 1) hN10 mw_at (by omega) _) hP hS (by omega) mw_at.1 rfl ⟨rfl, rfl⟩ ⟨by decide, by decide⟩ hl.1 rfl (Nat.le_of_ble_eq_true rfl) dX2_offer_15 ⟨Nat.le_of_ble_eq_true rfl, Nat.le_of_ble_eq_true rfl⟩) C0 hP hS (fun v15 c15 H locs hp hP hS => ?_)
  obtain ⟨rfl, rfl⟩ := hp
  rw [mw_mw] at hP
  exact e_i C0 hr hlk hP hS dX2_offer_18 (by decide) (by decide) rfl
set_option maxHeartbeats 1000000 in
set_option maxRecDepth 10000 in
theorem m_X2_offerRow__h (l : Launch) (D : va_G) (cA : Nat → ClassId) (N : Nat) (ad : Nat → Nat) (c : Nat → va_E) (th : Int32) (n : Nat) (nw ah rw : Nat → Int32) (x y z u : Int32) (hN10 : 10 ≤ N) (hM : MoAt ad cA c th n nw ah rw) (hn5 : n ≤ 5) (hbad : ∀ i, i < n → x ≠ nI i) : Ci l yX2_offerRow wX2_offerRow { frames := 1, cells := 0, slots := 0, locals := 21 } [.ref (ad 6), .int x, .int y, .int z, .int u] D cA N ad c 0 0 (fun v c' => mw ad cA c (nI 1) n nw ah rw = c') := by
  intro sz9
  refine bd_of (cc := cX2_offerRow) (maxL := 7) (ret := some Jvm.ClassFile.FieldType.int) (by decide) rfl (Nat.le_of_ble_eq_true rfl) ?_
  intro p e s m below meth c0 C0 hr hlk hnm hP hS hsz ls hl
  subst hsz
  have hx := C0.1
  have hb := C0.2.1
  have hl : lv_has ls 7 [(0, .ref (ad 6)), (1, .int x), (2, .int y), (3, .int z), (4, .int u)] := hl
  rw [← mw_self hM] at hP
  refine lv_aload_n hx hb dX2_offerRow_0 rfl (lv_at hl 0 rfl) ?_
  refine lv_iconst (v := nI 0) hx hb dX2_offerRow_1 rfl ?_
  refine pm_th C0 hN10 hP hS dX2_offerRow_2 (fun H locs hP hS => ?_)
  refine lv_aload_n hx hb dX2_offerRow_5 rfl (lv_at hl 0 rfl) ?_
  refine lv_iload_n hx hb dX2_offerRow_6 rfl (lv_at hl 1 rfl) ?_
  refine k0_i (rn_X2_48 (As := [.int x]) (rest := []) (r := 6) C0 (m_X2_isHand__f l D cA N ad (mw ad cA c (nI 0) n nw ah rw) (nI 0) n nw ah rw x hN10 mw_at (by omega) hbad _) hP hS (by omega) mw_at.1 rfl ⟨rfl, rfl⟩ ⟨by decide, by decide⟩ hl.1 rfl (Nat.le_of_ble_eq_true rfl) dX2_offerRow_7 ⟨Nat.le_of_ble_eq_true rfl, Nat.le_of_ble_eq_true rfl⟩) C0 hP hS (fun v7 c7 H locs hp hP hS => ?_)
  obtain ⟨rfl, rfl⟩ := hp
  refine n_if_ne (tgt := 19) hx hb (by omega) dX2_offerRow_10 (by decide) (fun h10 => ?_) (fun h10 => ?_)
  · exfalso; omega
  refine lv_aload_n hx hb dX2_offerRow_13 rfl (lv_at hl 0 rfl) ?_
  refine lv_iconst (v := nI 1) hx hb dX2_offerRow_14 rfl ?_
  refine k0_i (rn_X2_44 (As := [.int (nI 1)]) (rest := []) (r := 6) C0 (m_X2_refuse l D cA N ad (mw ad cA c (nI 0) n nw ah rw) (nI 0) n nw ah rw (nI 1) hN10 mw_at (by omega) _) hP hS (by omega) mw_at.1 rfl ⟨rfl, rfl⟩ ⟨by decide, by decide⟩ hl.1 rfl (Nat.le_of_ble_eq_true rfl) dX2_offerRow_15 ⟨Nat.le_of_ble_eq_true rfl, Nat.le_of_ble_eq_true rfl⟩) C0 hP hS (fun v15 c15 H locs hp hP hS => ?_)
  obtain ⟨rfl, rfl⟩ := hp
  rw [mw_mw] at hP
  exact e_i C0 hr hlk hP hS dX2_offerRow_18 (by decide) (by decide) rfl
set_option maxHeartbeats 1000000 in
set_option maxRecDepth 10000 in
theorem m_X2_mix__h (l : Launch) (D : va_G) (cA : Nat → ClassId) (N : Nat) (ad : Nat → Nat) (c : Nat → va_E) (th : Int32) (n : Nat) (nw ah rw : Nat → Int32) (x : Int32) (hN10 : 10 ≤ N) (hM : MoAt ad cA c th n nw ah rw) (hn5 : n ≤ 5) (hbad : ∀ i, i < n → x ≠ nI i) : Ci l yX2_mix wX2_mix { frames := 1, cells := 0, slots := 0, locals := 21 } [.ref (ad 6), .int x] D cA N ad c 0 0 (fun v c' => mw ad cA c (nI 1) n nw ah rw = c') := by
  intro sz9
  refine bd_of (cc := cX2_mix) (maxL := 8) (ret := some Jvm.ClassFile.FieldType.int) (by decide) rfl (Nat.le_of_ble_eq_true rfl) ?_
  intro p e s m below meth c0 C0 hr hlk hnm hP hS hsz ls hl
  subst hsz
  have hx := C0.1
  have hb := C0.2.1
  have hl : lv_has ls 8 [(0, .ref (ad 6)), (1, .int x)] := hl
  rw [← mw_self hM] at hP
  refine lv_aload_n hx hb dX2_mix_0 rfl (lv_at hl 0 rfl) ?_
  refine lv_iconst (v := nI 0) hx hb dX2_mix_1 rfl ?_
  refine pm_th C0 hN10 hP hS dX2_mix_2 (fun H locs hP hS => ?_)
  refine lv_aload_n hx hb dX2_mix_5 rfl (lv_at hl 0 rfl) ?_
  refine lv_iload_n hx hb dX2_mix_6 rfl (lv_at hl 1 rfl) ?_
  refine k0_i (rn_X2_48 (As := [.int x]) (rest := []) (r := 6) C0 (m_X2_isHand__f l D cA N ad (mw ad cA c (nI 0) n nw ah rw) (nI 0) n nw ah rw x hN10 mw_at (by omega) hbad _) hP hS (by omega) mw_at.1 rfl ⟨rfl, rfl⟩ ⟨by decide, by decide⟩ hl.1 rfl (Nat.le_of_ble_eq_true rfl) dX2_mix_7 ⟨Nat.le_of_ble_eq_true rfl, Nat.le_of_ble_eq_true rfl⟩) C0 hP hS (fun v7 c7 H locs hp hP hS => ?_)
  obtain ⟨rfl, rfl⟩ := hp
  refine n_if_ne (tgt := 19) hx hb (by omega) dX2_mix_10 (by decide) (fun h10 => ?_) (fun h10 => ?_)
  · exfalso; omega
  refine lv_aload_n hx hb dX2_mix_13 rfl (lv_at hl 0 rfl) ?_
  refine lv_iconst (v := nI 1) hx hb dX2_mix_14 rfl ?_
  refine k0_i (rn_X2_44 (As := [.int (nI 1)]) (rest := []) (r := 6) C0 (m_X2_refuse l D cA N ad (mw ad cA c (nI 0) n nw ah rw) (nI 0) n nw ah rw (nI 1) hN10 mw_at (by omega) _) hP hS (by omega) mw_at.1 rfl ⟨rfl, rfl⟩ ⟨by decide, by decide⟩ hl.1 rfl (Nat.le_of_ble_eq_true rfl) dX2_mix_15 ⟨Nat.le_of_ble_eq_true rfl, Nat.le_of_ble_eq_true rfl⟩) C0 hP hS (fun v15 c15 H locs hp hP hS => ?_)
  obtain ⟨rfl, rfl⟩ := hp
  rw [mw_mw] at hP
  exact e_i C0 hr hlk hP hS dX2_mix_18 (by decide) (by decide) rfl
set_option maxHeartbeats 1000000 in
set_option maxRecDepth 10000 in
theorem m_X2_join__h (l : Launch) (D : va_G) (cA : Nat → ClassId) (N : Nat) (ad : Nat → Nat) (c : Nat → va_E) (th : Int32) (n : Nat) (nw ah rw : Nat → Int32) (x y : Int32) (hN10 : 10 ≤ N) (hM : MoAt ad cA c th n nw ah rw) (hn5 : n ≤ 5) (hbad : ∀ i, i < n → x ≠ nI i) : Ci l yX2_join wX2_join { frames := 1, cells := 0, slots := 0, locals := 21 } [.ref (ad 6), .int x, .int y] D cA N ad c 0 0 (fun v c' => mw ad cA c (nI 1) n nw ah rw = c') := by
  intro sz9
  refine bd_of (cc := cX2_join) (maxL := 3) (ret := some Jvm.ClassFile.FieldType.int) (by decide) rfl (Nat.le_of_ble_eq_true rfl) ?_
  intro p e s m below meth c0 C0 hr hlk hnm hP hS hsz ls hl
  subst hsz
  have hx := C0.1
  have hb := C0.2.1
  have hl : lv_has ls 3 [(0, .ref (ad 6)), (1, .int x), (2, .int y)] := hl
  rw [← mw_self hM] at hP
  refine lv_aload_n hx hb dX2_join_0 rfl (lv_at hl 0 rfl) ?_
  refine lv_iconst (v := nI 0) hx hb dX2_join_1 rfl ?_
  refine pm_th C0 hN10 hP hS dX2_join_2 (fun H locs hP hS => ?_)
  refine lv_aload_n hx hb dX2_join_5 rfl (lv_at hl 0 rfl) ?_
  refine lv_iload_n hx hb dX2_join_6 rfl (lv_at hl 1 rfl) ?_
  refine k0_i (rn_X2_48 (As := [.int x]) (rest := []) (r := 6) C0 (m_X2_isHand__f l D cA N ad (mw ad cA c (nI 0) n nw ah rw) (nI 0) n nw ah rw x hN10 mw_at (by omega) hbad _) hP hS (by omega) mw_at.1 rfl ⟨rfl, rfl⟩ ⟨by decide, by decide⟩ hl.1 rfl (Nat.le_of_ble_eq_true rfl) dX2_join_7 ⟨Nat.le_of_ble_eq_true rfl, Nat.le_of_ble_eq_true rfl⟩) C0 hP hS (fun v7 c7 H locs hp hP hS => ?_)
  obtain ⟨rfl, rfl⟩ := hp
  refine n_if_eq (tgt := 21) hx hb (by omega) dX2_join_10 (by decide) (fun h10 => ?_) (fun h10 => ?_)
  rotate_left
  · exfalso; omega
  refine lv_aload_n hx hb dX2_join_21 rfl (lv_at hl 0 rfl) ?_
  refine lv_iconst (v := nI 1) hx hb dX2_join_22 rfl ?_
  refine k0_i (rn_X2_44 (As := [.int (nI 1)]) (rest := []) (r := 6) C0 (m_X2_refuse l D cA N ad (mw ad cA c (nI 0) n nw ah rw) (nI 0) n nw ah rw (nI 1) hN10 mw_at (by omega) _) hP hS (by omega) mw_at.1 rfl ⟨rfl, rfl⟩ ⟨by decide, by decide⟩ hl.1 rfl (Nat.le_of_ble_eq_true rfl) dX2_join_23 ⟨Nat.le_of_ble_eq_true rfl, Nat.le_of_ble_eq_true rfl⟩) C0 hP hS (fun v23 c23 H locs hp hP hS => ?_)
  obtain ⟨rfl, rfl⟩ := hp
  rw [mw_mw] at hP
  exact e_i C0 hr hlk hP hS dX2_join_26 (by decide) (by decide) rfl
set_option maxHeartbeats 1000000 in
set_option maxRecDepth 10000 in
theorem m_X2_join__g (l : Launch) (D : va_G) (cA : Nat → ClassId) (N : Nat) (ad : Nat → Nat) (c : Nat → va_E) (th : Int32) (n : Nat) (nw ah rw : Nat → Int32) (i R Y L S D9 K : Nat) (y : Int32) (hN10 : 10 ≤ N) (hM : MoAt ad cA c th n nw ah rw) (hn5 : n ≤ 5) (hi : i < n) (hrow : RowE nw (30 * i) R Y L S D9 K) (hok : Hok R Y L S D9 K) (hbad : ∀ i, i < n → y ≠ nI i) : Ci l yX2_join wX2_join { frames := 1, cells := 0, slots := 0, locals := 21 } [.ref (ad 6), .int (nI i), .int y] D cA N ad c 0 0 (fun v c' => mw ad cA c (nI 1) n nw ah rw = c') := by
  intro sz9
  refine bd_of (cc := cX2_join) (maxL := 3) (ret := some Jvm.ClassFile.FieldType.int) (by decide) rfl (Nat.le_of_ble_eq_true rfl) ?_
  intro p e s m below meth c0 C0 hr hlk hnm hP hS hsz ls hl
  subst hsz
  have hx := C0.1
  have hb := C0.2.1
  have hl : lv_has ls 3 [(0, .ref (ad 6)), (1, .int (nI i)), (2, .int y)] := hl
  obtain ⟨r0, r1, r2, r3, r4, r5⟩ := id hrow
  obtain ⟨q1, q2, q3, q4, q5, q6, q7, q8, q9⟩ := id hok
  rw [← mw_self hM] at hP
  refine lv_aload_n hx hb dX2_join_0 rfl (lv_at hl 0 rfl) ?_
  refine lv_iconst (v := nI 0) hx hb dX2_join_1 rfl ?_
  refine pm_th C0 hN10 hP hS dX2_join_2 (fun H locs hP hS => ?_)
  refine lv_aload_n hx hb dX2_join_5 rfl (lv_at hl 0 rfl) ?_
  refine lv_iload_n hx hb dX2_join_6 rfl (lv_at hl 1 rfl) ?_
  refine k0_i (rn_X2_48 (As := [.int (nI i)]) (rest := []) (r := 6) C0 (m_X2_isHand__t l D cA N ad (mw ad cA c (nI 0) n nw ah rw) (nI 0) n nw ah rw i hN10 mw_at (by omega) hi _) hP hS (by omega) mw_at.1 rfl ⟨rfl, rfl⟩ ⟨by decide, by decide⟩ hl.1 rfl (Nat.le_of_ble_eq_true rfl) dX2_join_7 ⟨Nat.le_of_ble_eq_true rfl, Nat.le_of_ble_eq_true rfl⟩) C0 hP hS (fun v7 c7 H locs hp hP hS => ?_)
  obtain ⟨rfl, rfl⟩ := hp
  refine n_if_eq (tgt := 21) hx hb (by omega) dX2_join_10 (by decide) (fun h10 => ?_) (fun h10 => ?_)
  · exfalso; omega
  refine lv_aload_n hx hb dX2_join_13 rfl (lv_at hl 0 rfl) ?_
  refine lv_iload_n hx hb dX2_join_14 rfl (lv_at hl 2 rfl) ?_
  refine k0_i (rn_X2_48 (As := [.int y]) (rest := []) (r := 6) C0 (m_X2_isHand__f l D cA N ad (mw ad cA c (nI 0) n nw ah rw) (nI 0) n nw ah rw y hN10 mw_at (by omega) hbad _) hP hS (by omega) mw_at.1 rfl ⟨rfl, rfl⟩ ⟨by decide, by decide⟩ hl.1 rfl (Nat.le_of_ble_eq_true rfl) dX2_join_15 ⟨Nat.le_of_ble_eq_true rfl, Nat.le_of_ble_eq_true rfl⟩) C0 hP hS (fun v15 c15 H locs hp hP hS => ?_)
  obtain ⟨rfl, rfl⟩ := hp
  refine n_if_ne (tgt := 27) hx hb (by omega) dX2_join_18 (by decide) (fun h18 => ?_) (fun h18 => ?_)
  · exfalso; omega
  refine lv_aload_n hx hb dX2_join_21 rfl (lv_at hl 0 rfl) ?_
  refine lv_iconst (v := nI 1) hx hb dX2_join_22 rfl ?_
  refine k0_i (rn_X2_44 (As := [.int (nI 1)]) (rest := []) (r := 6) C0 (m_X2_refuse l D cA N ad (mw ad cA c (nI 0) n nw ah rw) (nI 0) n nw ah rw (nI 1) hN10 mw_at (by omega) _) hP hS (by omega) mw_at.1 rfl ⟨rfl, rfl⟩ ⟨by decide, by decide⟩ hl.1 rfl (Nat.le_of_ble_eq_true rfl) dX2_join_23 ⟨Nat.le_of_ble_eq_true rfl, Nat.le_of_ble_eq_true rfl⟩) C0 hP hS (fun v23 c23 H locs hp hP hS => ?_)
  obtain ⟨rfl, rfl⟩ := hp
  rw [mw_mw] at hP
  exact e_i C0 hr hlk hP hS dX2_join_26 (by decide) (by decide) rfl
set_option maxHeartbeats 1000000 in
set_option maxRecDepth 10000 in
theorem m_X2_setLuck__h (l : Launch) (D : va_G) (cA : Nat → ClassId) (N : Nat) (ad : Nat → Nat) (c : Nat → va_E) (th : Int32) (n : Nat) (nw ah rw : Nat → Int32) (x y : Int32) (hN10 : 10 ≤ N) (hM : MoAt ad cA c th n nw ah rw) (hn5 : n ≤ 5) (hbad : ∀ i, i < n → x ≠ nI i) : Ci l yX2_setLuck wX2_setLuck { frames := 1, cells := 0, slots := 0, locals := 21 } [.ref (ad 6), .int x, .int y] D cA N ad c 0 0 (fun v c' => mw ad cA c (nI 1) n nw ah rw = c') := by
  intro sz9
  refine bd_of (cc := cX2_setLuck) (maxL := 4) (ret := some Jvm.ClassFile.FieldType.int) (by decide) rfl (Nat.le_of_ble_eq_true rfl) ?_
  intro p e s m below meth c0 C0 hr hlk hnm hP hS hsz ls hl
  subst hsz
  have hx := C0.1
  have hb := C0.2.1
  have hl : lv_has ls 4 [(0, .ref (ad 6)), (1, .int x), (2, .int y)] := hl
  rw [← mw_self hM] at hP
  refine lv_aload_n hx hb dX2_setLuck_0 rfl (lv_at hl 0 rfl) ?_
  refine lv_iconst (v := nI 0) hx hb dX2_setLuck_1 rfl ?_
  refine pm_th C0 hN10 hP hS dX2_setLuck_2 (fun H locs hP hS => ?_)
  refine lv_aload_n hx hb dX2_setLuck_5 rfl (lv_at hl 0 rfl) ?_
  refine lv_iload_n hx hb dX2_setLuck_6 rfl (lv_at hl 1 rfl) ?_
  refine k0_i (rn_X2_48 (As := [.int x]) (rest := []) (r := 6) C0 (m_X2_isHand__f l D cA N ad (mw ad cA c (nI 0) n nw ah rw) (nI 0) n nw ah rw x hN10 mw_at (by omega) hbad _) hP hS (by omega) mw_at.1 rfl ⟨rfl, rfl⟩ ⟨by decide, by decide⟩ hl.1 rfl (Nat.le_of_ble_eq_true rfl) dX2_setLuck_7 ⟨Nat.le_of_ble_eq_true rfl, Nat.le_of_ble_eq_true rfl⟩) C0 hP hS (fun v7 c7 H locs hp hP hS => ?_)
  obtain ⟨rfl, rfl⟩ := hp
  refine n_if_ne (tgt := 19) hx hb (by omega) dX2_setLuck_10 (by decide) (fun h10 => ?_) (fun h10 => ?_)
  · exfalso; omega
  refine lv_aload_n hx hb dX2_setLuck_13 rfl (lv_at hl 0 rfl) ?_
  refine lv_iconst (v := nI 1) hx hb dX2_setLuck_14 rfl ?_
  refine k0_i (rn_X2_44 (As := [.int (nI 1)]) (rest := []) (r := 6) C0 (m_X2_refuse l D cA N ad (mw ad cA c (nI 0) n nw ah rw) (nI 0) n nw ah rw (nI 1) hN10 mw_at (by omega) _) hP hS (by omega) mw_at.1 rfl ⟨rfl, rfl⟩ ⟨by decide, by decide⟩ hl.1 rfl (Nat.le_of_ble_eq_true rfl) dX2_setLuck_15 ⟨Nat.le_of_ble_eq_true rfl, Nat.le_of_ble_eq_true rfl⟩) C0 hP hS (fun v15 c15 H locs hp hP hS => ?_)
  obtain ⟨rfl, rfl⟩ := hp
  rw [mw_mw] at hP
  exact e_i C0 hr hlk hP hS dX2_setLuck_18 (by decide) (by decide) rfl
set_option maxHeartbeats 1000000 in
set_option maxRecDepth 10000 in
theorem m_X2_placeOf__h (l : Launch) (D : va_G) (cA : Nat → ClassId) (N : Nat) (ad : Nat → Nat) (c : Nat → va_E) (th : Int32) (n : Nat) (nw ah rw : Nat → Int32) (x y : Int32) (hN10 : 10 ≤ N) (hM : MoAt ad cA c th n nw ah rw) (hn5 : n ≤ 5) (hbad : ∀ i, i < n → x ≠ nI i) : Ci l yX2_placeOf wX2_placeOf { frames := 1, cells := 0, slots := 0, locals := 21 } [.ref (ad 6), .int x, .int y] D cA N ad c 0 0 (fun v c' => mw ad cA c (nI 1) n nw ah rw = c') := by
  intro sz9
  refine bd_of (cc := cX2_placeOf) (maxL := 4) (ret := some Jvm.ClassFile.FieldType.int) (by decide) rfl (Nat.le_of_ble_eq_true rfl) ?_
  intro p e s m below meth c0 C0 hr hlk hnm hP hS hsz ls hl
  subst hsz
  have hx := C0.1
  have hb := C0.2.1
  have hl : lv_has ls 4 [(0, .ref (ad 6)), (1, .int x), (2, .int y)] := hl
  rw [← mw_self hM] at hP
  refine lv_aload_n hx hb dX2_placeOf_0 rfl (lv_at hl 0 rfl) ?_
  refine lv_iconst (v := nI 0) hx hb dX2_placeOf_1 rfl ?_
  refine pm_th C0 hN10 hP hS dX2_placeOf_2 (fun H locs hP hS => ?_)
  refine lv_aload_n hx hb dX2_placeOf_5 rfl (lv_at hl 0 rfl) ?_
  refine lv_iload_n hx hb dX2_placeOf_6 rfl (lv_at hl 1 rfl) ?_
  refine k0_i (rn_X2_48 (As := [.int x]) (rest := []) (r := 6) C0 (m_X2_isHand__f l D cA N ad (mw ad cA c (nI 0) n nw ah rw) (nI 0) n nw ah rw x hN10 mw_at (by omega) hbad _) hP hS (by omega) mw_at.1 rfl ⟨rfl, rfl⟩ ⟨by decide, by decide⟩ hl.1 rfl (Nat.le_of_ble_eq_true rfl) dX2_placeOf_7 ⟨Nat.le_of_ble_eq_true rfl, Nat.le_of_ble_eq_true rfl⟩) C0 hP hS (fun v7 c7 H locs hp hP hS => ?_)
  obtain ⟨rfl, rfl⟩ := hp
  refine n_if_ne (tgt := 19) hx hb (by omega) dX2_placeOf_10 (by decide) (fun h10 => ?_) (fun h10 => ?_)
  · exfalso; omega
  refine lv_aload_n hx hb dX2_placeOf_13 rfl (lv_at hl 0 rfl) ?_
  refine lv_iconst (v := nI 1) hx hb dX2_placeOf_14 rfl ?_
  refine k0_i (rn_X2_44 (As := [.int (nI 1)]) (rest := []) (r := 6) C0 (m_X2_refuse l D cA N ad (mw ad cA c (nI 0) n nw ah rw) (nI 0) n nw ah rw (nI 1) hN10 mw_at (by omega) _) hP hS (by omega) mw_at.1 rfl ⟨rfl, rfl⟩ ⟨by decide, by decide⟩ hl.1 rfl (Nat.le_of_ble_eq_true rfl) dX2_placeOf_15 ⟨Nat.le_of_ble_eq_true rfl, Nat.le_of_ble_eq_true rfl⟩) C0 hP hS (fun v15 c15 H locs hp hP hS => ?_)
  obtain ⟨rfl, rfl⟩ := hp
  rw [mw_mw] at hP
  exact e_i C0 hr hlk hP hS dX2_placeOf_18 (by decide) (by decide) rfl
set_option maxHeartbeats 1000000 in
set_option maxRecDepth 10000 in
theorem m_X2_sum__h (l : Launch) (D : va_G) (cA : Nat → ClassId) (N : Nat) (ad : Nat → Nat) (c : Nat → va_E) (th : Int32) (n : Nat) (nw ah rw : Nat → Int32) (x : Int32) (hN10 : 10 ≤ N) (hM : MoAt ad cA c th n nw ah rw) (hn5 : n ≤ 5) (hbad : ∀ i, i < n → x ≠ nI i) : Ci l yX2_sum wX2_sum { frames := 1, cells := 0, slots := 0, locals := 21 } [.ref (ad 6), .int x] D cA N ad c 0 0 (fun v c' => mw ad cA c (nI 1) n nw ah rw = c') := by
  intro sz9
  refine bd_of (cc := cX2_sum) (maxL := 2) (ret := some Jvm.ClassFile.FieldType.int) (by decide) rfl (Nat.le_of_ble_eq_true rfl) ?_
  intro p e s m below meth c0 C0 hr hlk hnm hP hS hsz ls hl
  subst hsz
  have hx := C0.1
  have hb := C0.2.1
  have hl : lv_has ls 2 [(0, .ref (ad 6)), (1, .int x)] := hl
  rw [← mw_self hM] at hP
  refine lv_aload_n hx hb dX2_sum_0 rfl (lv_at hl 0 rfl) ?_
  refine lv_iconst (v := nI 0) hx hb dX2_sum_1 rfl ?_
  refine pm_th C0 hN10 hP hS dX2_sum_2 (fun H locs hP hS => ?_)
  refine lv_aload_n hx hb dX2_sum_5 rfl (lv_at hl 0 rfl) ?_
  refine lv_iload_n hx hb dX2_sum_6 rfl (lv_at hl 1 rfl) ?_
  refine k0_i (rn_X2_48 (As := [.int x]) (rest := []) (r := 6) C0 (m_X2_isHand__f l D cA N ad (mw ad cA c (nI 0) n nw ah rw) (nI 0) n nw ah rw x hN10 mw_at (by omega) hbad _) hP hS (by omega) mw_at.1 rfl ⟨rfl, rfl⟩ ⟨by decide, by decide⟩ hl.1 rfl (Nat.le_of_ble_eq_true rfl) dX2_sum_7 ⟨Nat.le_of_ble_eq_true rfl, Nat.le_of_ble_eq_true rfl⟩) C0 hP hS (fun v7 c7 H locs hp hP hS => ?_)
  obtain ⟨rfl, rfl⟩ := hp
  refine n_if_eq (tgt := 21) hx hb (by omega) dX2_sum_10 (by decide) (fun h10 => ?_) (fun h10 => ?_)
  rotate_left
  · exfalso; omega
  refine lv_aload_n hx hb dX2_sum_21 rfl (lv_at hl 0 rfl) ?_
  refine lv_iconst (v := nI 1) hx hb dX2_sum_22 rfl ?_
  refine k0_i (rn_X2_44 (As := [.int (nI 1)]) (rest := []) (r := 6) C0 (m_X2_refuse l D cA N ad (mw ad cA c (nI 0) n nw ah rw) (nI 0) n nw ah rw (nI 1) hN10 mw_at (by omega) _) hP hS (by omega) mw_at.1 rfl ⟨rfl, rfl⟩ ⟨by decide, by decide⟩ hl.1 rfl (Nat.le_of_ble_eq_true rfl) dX2_sum_23 ⟨Nat.le_of_ble_eq_true rfl, Nat.le_of_ble_eq_true rfl⟩) C0 hP hS (fun v23 c23 H locs hp hP hS => ?_)
  obtain ⟨rfl, rfl⟩ := hp
  rw [mw_mw] at hP
  exact e_i C0 hr hlk hP hS dX2_sum_26 (by decide) (by decide) rfl
set_option maxHeartbeats 1000000 in
set_option maxRecDepth 10000 in
theorem m_X2_lowest__h (l : Launch) (D : va_G) (cA : Nat → ClassId) (N : Nat) (ad : Nat → Nat) (c : Nat → va_E) (th : Int32) (n : Nat) (nw ah rw : Nat → Int32) (x : Int32) (hN10 : 10 ≤ N) (hM : MoAt ad cA c th n nw ah rw) (hn5 : n ≤ 5) (hbad : ∀ i, i < n → x ≠ nI i) : Ci l yX2_lowest wX2_lowest { frames := 1, cells := 0, slots := 0, locals := 21 } [.ref (ad 6), .int x] D cA N ad c 0 0 (fun v c' => mw ad cA c (nI 1) n nw ah rw = c') := by
  intro sz9
  refine bd_of (cc := cX2_lowest) (maxL := 2) (ret := some Jvm.ClassFile.FieldType.int) (by decide) rfl (Nat.le_of_ble_eq_true rfl) ?_
  intro p e s m below meth c0 C0 hr hlk hnm hP hS hsz ls hl
  subst hsz
  have hx := C0.1
  have hb := C0.2.1
  have hl : lv_has ls 2 [(0, .ref (ad 6)), (1, .int x)] := hl
  rw [← mw_self hM] at hP
  refine lv_aload_n hx hb dX2_lowest_0 rfl (lv_at hl 0 rfl) ?_
  refine lv_iconst (v := nI 0) hx hb dX2_lowest_1 rfl ?_
  refine pm_th C0 hN10 hP hS dX2_lowest_2 (fun H locs hP hS => ?_)
  refine lv_aload_n hx hb dX2_lowest_5 rfl (lv_at hl 0 rfl) ?_
  refine lv_iload_n hx hb dX2_lowest_6 rfl (lv_at hl 1 rfl) ?_
  refine k0_i (rn_X2_48 (As := [.int x]) (rest := []) (r := 6) C0 (m_X2_isHand__f l D cA N ad (mw ad cA c (nI 0) n nw ah rw) (nI 0) n nw ah rw x hN10 mw_at (by omega) hbad _) hP hS (by omega) mw_at.1 rfl ⟨rfl, rfl⟩ ⟨by decide, by decide⟩ hl.1 rfl (Nat.le_of_ble_eq_true rfl) dX2_lowest_7 ⟨Nat.le_of_ble_eq_true rfl, Nat.le_of_ble_eq_true rfl⟩) C0 hP hS (fun v7 c7 H locs hp hP hS => ?_)
  obtain ⟨rfl, rfl⟩ := hp
  refine n_if_eq (tgt := 22) hx hb (by omega) dX2_lowest_10 (by decide) (fun h10 => ?_) (fun h10 => ?_)
  rotate_left
  · exfalso; omega
  refine lv_aload_n hx hb dX2_lowest_22 rfl (lv_at hl 0 rfl) ?_
  refine lv_iconst (v := nI 1) hx hb dX2_lowest_23 rfl ?_
  refine k0_i (rn_X2_44 (As := [.int (nI 1)]) (rest := []) (r := 6) C0 (m_X2_refuse l D cA N ad (mw ad cA c (nI 0) n nw ah rw) (nI 0) n nw ah rw (nI 1) hN10 mw_at (by omega) _) hP hS (by omega) mw_at.1 rfl ⟨rfl, rfl⟩ ⟨by decide, by decide⟩ hl.1 rfl (Nat.le_of_ble_eq_true rfl) dX2_lowest_24 ⟨Nat.le_of_ble_eq_true rfl, Nat.le_of_ble_eq_true rfl⟩) C0 hP hS (fun v24 c24 H locs hp hP hS => ?_)
  obtain ⟨rfl, rfl⟩ := hp
  rw [mw_mw] at hP
  exact e_i C0 hr hlk hP hS dX2_lowest_27 (by decide) (by decide) rfl
set_option maxHeartbeats 1000000 in
set_option maxRecDepth 10000 in
theorem m_X2_middle__h (l : Launch) (D : va_G) (cA : Nat → ClassId) (N : Nat) (ad : Nat → Nat) (c : Nat → va_E) (th : Int32) (n : Nat) (nw ah rw : Nat → Int32) (x : Int32) (hN10 : 10 ≤ N) (hM : MoAt ad cA c th n nw ah rw) (hn5 : n ≤ 5) (hbad : ∀ i, i < n → x ≠ nI i) : Ci l yX2_middle wX2_middle { frames := 1, cells := 0, slots := 0, locals := 21 } [.ref (ad 6), .int x] D cA N ad c 0 0 (fun v c' => mw ad cA c (nI 1) n nw ah rw = c') := by
  intro sz9
  refine bd_of (cc := cX2_middle) (maxL := 2) (ret := some Jvm.ClassFile.FieldType.int) (by decide) rfl (Nat.le_of_ble_eq_true rfl) ?_
  intro p e s m below meth c0 C0 hr hlk hnm hP hS hsz ls hl
  subst hsz
  have hx := C0.1
  have hb := C0.2.1
  have hl : lv_has ls 2 [(0, .ref (ad 6)), (1, .int x)] := hl
  rw [← mw_self hM] at hP
  refine lv_aload_n hx hb dX2_middle_0 rfl (lv_at hl 0 rfl) ?_
  refine lv_iconst (v := nI 0) hx hb dX2_middle_1 rfl ?_
  refine pm_th C0 hN10 hP hS dX2_middle_2 (fun H locs hP hS => ?_)
  refine lv_aload_n hx hb dX2_middle_5 rfl (lv_at hl 0 rfl) ?_
  refine lv_iload_n hx hb dX2_middle_6 rfl (lv_at hl 1 rfl) ?_
  refine k0_i (rn_X2_48 (As := [.int x]) (rest := []) (r := 6) C0 (m_X2_isHand__f l D cA N ad (mw ad cA c (nI 0) n nw ah rw) (nI 0) n nw ah rw x hN10 mw_at (by omega) hbad _) hP hS (by omega) mw_at.1 rfl ⟨rfl, rfl⟩ ⟨by decide, by decide⟩ hl.1 rfl (Nat.le_of_ble_eq_true rfl) dX2_middle_7 ⟨Nat.le_of_ble_eq_true rfl, Nat.le_of_ble_eq_true rfl⟩) C0 hP hS (fun v7 c7 H locs hp hP hS => ?_)
  obtain ⟨rfl, rfl⟩ := hp
  refine n_if_eq (tgt := 21) hx hb (by omega) dX2_middle_10 (by decide) (fun h10 => ?_) (fun h10 => ?_)
  rotate_left
  · exfalso; omega
  refine lv_aload_n hx hb dX2_middle_21 rfl (lv_at hl 0 rfl) ?_
  refine lv_iconst (v := nI 1) hx hb dX2_middle_22 rfl ?_
  refine k0_i (rn_X2_44 (As := [.int (nI 1)]) (rest := []) (r := 6) C0 (m_X2_refuse l D cA N ad (mw ad cA c (nI 0) n nw ah rw) (nI 0) n nw ah rw (nI 1) hN10 mw_at (by omega) _) hP hS (by omega) mw_at.1 rfl ⟨rfl, rfl⟩ ⟨by decide, by decide⟩ hl.1 rfl (Nat.le_of_ble_eq_true rfl) dX2_middle_23 ⟨Nat.le_of_ble_eq_true rfl, Nat.le_of_ble_eq_true rfl⟩) C0 hP hS (fun v23 c23 H locs hp hP hS => ?_)
  obtain ⟨rfl, rfl⟩ := hp
  rw [mw_mw] at hP
  exact e_i C0 hr hlk hP hS dX2_middle_26 (by decide) (by decide) rfl
set_option maxHeartbeats 1000000 in
set_option maxRecDepth 10000 in
theorem m_X2_shared__h (l : Launch) (D : va_G) (cA : Nat → ClassId) (N : Nat) (ad : Nat → Nat) (c : Nat → va_E) (th : Int32) (n : Nat) (nw ah rw : Nat → Int32) (x y : Int32) (hN10 : 10 ≤ N) (hM : MoAt ad cA c th n nw ah rw) (hn5 : n ≤ 5) (hbad : ∀ i, i < n → x ≠ nI i) : Ci l yX2_shared wX2_shared { frames := 1, cells := 0, slots := 0, locals := 21 } [.ref (ad 6), .int x, .int y] D cA N ad c 0 0 (fun v c' => mw ad cA c (nI 1) n nw ah rw = c') := by
  intro sz9
  refine bd_of (cc := cX2_shared) (maxL := 3) (ret := some Jvm.ClassFile.FieldType.int) (by decide) rfl (Nat.le_of_ble_eq_true rfl) ?_
  intro p e s m below meth c0 C0 hr hlk hnm hP hS hsz ls hl
  subst hsz
  have hx := C0.1
  have hb := C0.2.1
  have hl : lv_has ls 3 [(0, .ref (ad 6)), (1, .int x), (2, .int y)] := hl
  rw [← mw_self hM] at hP
  refine lv_aload_n hx hb dX2_shared_0 rfl (lv_at hl 0 rfl) ?_
  refine lv_iconst (v := nI 0) hx hb dX2_shared_1 rfl ?_
  refine pm_th C0 hN10 hP hS dX2_shared_2 (fun H locs hP hS => ?_)
  refine lv_aload_n hx hb dX2_shared_5 rfl (lv_at hl 0 rfl) ?_
  refine lv_iload_n hx hb dX2_shared_6 rfl (lv_at hl 1 rfl) ?_
  refine k0_i (rn_X2_48 (As := [.int x]) (rest := []) (r := 6) C0 (m_X2_isHand__f l D cA N ad (mw ad cA c (nI 0) n nw ah rw) (nI 0) n nw ah rw x hN10 mw_at (by omega) hbad _) hP hS (by omega) mw_at.1 rfl ⟨rfl, rfl⟩ ⟨by decide, by decide⟩ hl.1 rfl (Nat.le_of_ble_eq_true rfl) dX2_shared_7 ⟨Nat.le_of_ble_eq_true rfl, Nat.le_of_ble_eq_true rfl⟩) C0 hP hS (fun v7 c7 H locs hp hP hS => ?_)
  obtain ⟨rfl, rfl⟩ := hp
  refine n_if_eq (tgt := 30) hx hb (by omega) dX2_shared_10 (by decide) (fun h10 => ?_) (fun h10 => ?_)
  rotate_left
  · exfalso; omega
  refine lv_aload_n hx hb dX2_shared_30 rfl (lv_at hl 0 rfl) ?_
  refine lv_iconst (v := nI 1) hx hb dX2_shared_31 rfl ?_
  refine k0_i (rn_X2_44 (As := [.int (nI 1)]) (rest := []) (r := 6) C0 (m_X2_refuse l D cA N ad (mw ad cA c (nI 0) n nw ah rw) (nI 0) n nw ah rw (nI 1) hN10 mw_at (by omega) _) hP hS (by omega) mw_at.1 rfl ⟨rfl, rfl⟩ ⟨by decide, by decide⟩ hl.1 rfl (Nat.le_of_ble_eq_true rfl) dX2_shared_32 ⟨Nat.le_of_ble_eq_true rfl, Nat.le_of_ble_eq_true rfl⟩) C0 hP hS (fun v32 c32 H locs hp hP hS => ?_)
  obtain ⟨rfl, rfl⟩ := hp
  rw [mw_mw] at hP
  exact e_i C0 hr hlk hP hS dX2_shared_35 (by decide) (by decide) rfl
set_option maxHeartbeats 1000000 in
set_option maxRecDepth 10000 in
theorem m_X2_shared__g (l : Launch) (D : va_G) (cA : Nat → ClassId) (N : Nat) (ad : Nat → Nat) (c : Nat → va_E) (th : Int32) (n : Nat) (nw ah rw : Nat → Int32) (i R Y L S D9 K : Nat) (y : Int32) (hN10 : 10 ≤ N) (hM : MoAt ad cA c th n nw ah rw) (hn5 : n ≤ 5) (hi : i < n) (hrow : RowE nw (30 * i) R Y L S D9 K) (hok : Hok R Y L S D9 K) (hbad : ∀ i, i < n → y ≠ nI i) : Ci l yX2_shared wX2_shared { frames := 1, cells := 0, slots := 0, locals := 21 } [.ref (ad 6), .int (nI i), .int y] D cA N ad c 0 0 (fun v c' => mw ad cA c (nI 1) n nw ah rw = c') := by
  intro sz9
  refine bd_of (cc := cX2_shared) (maxL := 3) (ret := some Jvm.ClassFile.FieldType.int) (by decide) rfl (Nat.le_of_ble_eq_true rfl) ?_
  intro p e s m below meth c0 C0 hr hlk hnm hP hS hsz ls hl
  subst hsz
  have hx := C0.1
  have hb := C0.2.1
  have hl : lv_has ls 3 [(0, .ref (ad 6)), (1, .int (nI i)), (2, .int y)] := hl
  obtain ⟨r0, r1, r2, r3, r4, r5⟩ := id hrow
  obtain ⟨q1, q2, q3, q4, q5, q6, q7, q8, q9⟩ := id hok
  rw [← mw_self hM] at hP
  refine lv_aload_n hx hb dX2_shared_0 rfl (lv_at hl 0 rfl) ?_
  refine lv_iconst (v := nI 0) hx hb dX2_shared_1 rfl ?_
  refine pm_th C0 hN10 hP hS dX2_shared_2 (fun H locs hP hS => ?_)
  refine lv_aload_n hx hb dX2_shared_5 rfl (lv_at hl 0 rfl) ?_
  refine lv_iload_n hx hb dX2_shared_6 rfl (lv_at hl 1 rfl) ?_
  refine k0_i (rn_X2_48 (As := [.int (nI i)]) (rest := []) (r := 6) C0 (m_X2_isHand__t l D cA N ad (mw ad cA c (nI 0) n nw ah rw) (nI 0) n nw ah rw i hN10 mw_at (by omega) hi _) hP hS (by omega) mw_at.1 rfl ⟨rfl, rfl⟩ ⟨by decide, by decide⟩ hl.1 rfl (Nat.le_of_ble_eq_true rfl) dX2_shared_7 ⟨Nat.le_of_ble_eq_true rfl, Nat.le_of_ble_eq_true rfl⟩) C0 hP hS (fun v7 c7 H locs hp hP hS => ?_)
  obtain ⟨rfl, rfl⟩ := hp
  refine n_if_eq (tgt := 30) hx hb (by omega) dX2_shared_10 (by decide) (fun h10 => ?_) (fun h10 => ?_)
  · exfalso; omega
  refine lv_aload_n hx hb dX2_shared_13 rfl (lv_at hl 0 rfl) ?_
  refine lv_iload_n hx hb dX2_shared_14 rfl (lv_at hl 2 rfl) ?_
  refine k0_i (rn_X2_48 (As := [.int y]) (rest := []) (r := 6) C0 (m_X2_isHand__f l D cA N ad (mw ad cA c (nI 0) n nw ah rw) (nI 0) n nw ah rw y hN10 mw_at (by omega) hbad _) hP hS (by omega) mw_at.1 rfl ⟨rfl, rfl⟩ ⟨by decide, by decide⟩ hl.1 rfl (Nat.le_of_ble_eq_true rfl) dX2_shared_15 ⟨Nat.le_of_ble_eq_true rfl, Nat.le_of_ble_eq_true rfl⟩) C0 hP hS (fun v15 c15 H locs hp hP hS => ?_)
  obtain ⟨rfl, rfl⟩ := hp
  refine n_if_eq (tgt := 30) hx hb (by omega) dX2_shared_18 (by decide) (fun h18 => ?_) (fun h18 => ?_)
  rotate_left
  · exfalso; omega
  refine lv_aload_n hx hb dX2_shared_30 rfl (lv_at hl 0 rfl) ?_
  refine lv_iconst (v := nI 1) hx hb dX2_shared_31 rfl ?_
  refine k0_i (rn_X2_44 (As := [.int (nI 1)]) (rest := []) (r := 6) C0 (m_X2_refuse l D cA N ad (mw ad cA c (nI 0) n nw ah rw) (nI 0) n nw ah rw (nI 1) hN10 mw_at (by omega) _) hP hS (by omega) mw_at.1 rfl ⟨rfl, rfl⟩ ⟨by decide, by decide⟩ hl.1 rfl (Nat.le_of_ble_eq_true rfl) dX2_shared_32 ⟨Nat.le_of_ble_eq_true rfl, Nat.le_of_ble_eq_true rfl⟩) C0 hP hS (fun v32 c32 H locs hp hP hS => ?_)
  obtain ⟨rfl, rfl⟩ := hp
  rw [mw_mw] at hP
  exact e_i C0 hr hlk hP hS dX2_shared_35 (by decide) (by decide) rfl
set_option maxHeartbeats 1000000 in
set_option maxRecDepth 10000 in
theorem m_X2_luckIn__h (l : Launch) (D : va_G) (cA : Nat → ClassId) (N : Nat) (ad : Nat → Nat) (c : Nat → va_E) (th : Int32) (n : Nat) (nw ah rw : Nat → Int32) (x y : Int32) (hN10 : 10 ≤ N) (hM : MoAt ad cA c th n nw ah rw) (hn5 : n ≤ 5) (hbad : ∀ i, i < n → x ≠ nI i) : Ci l yX2_luckIn wX2_luckIn { frames := 1, cells := 0, slots := 0, locals := 21 } [.ref (ad 6), .int x, .int y] D cA N ad c 0 0 (fun v c' => mw ad cA c (nI 1) n nw ah rw = c') := by
  intro sz9
  refine bd_of (cc := cX2_luckIn) (maxL := 3) (ret := some Jvm.ClassFile.FieldType.int) (by decide) rfl (Nat.le_of_ble_eq_true rfl) ?_
  intro p e s m below meth c0 C0 hr hlk hnm hP hS hsz ls hl
  subst hsz
  have hx := C0.1
  have hb := C0.2.1
  have hl : lv_has ls 3 [(0, .ref (ad 6)), (1, .int x), (2, .int y)] := hl
  rw [← mw_self hM] at hP
  refine lv_aload_n hx hb dX2_luckIn_0 rfl (lv_at hl 0 rfl) ?_
  refine lv_iconst (v := nI 0) hx hb dX2_luckIn_1 rfl ?_
  refine pm_th C0 hN10 hP hS dX2_luckIn_2 (fun H locs hP hS => ?_)
  refine lv_aload_n hx hb dX2_luckIn_5 rfl (lv_at hl 0 rfl) ?_
  refine lv_iload_n hx hb dX2_luckIn_6 rfl (lv_at hl 1 rfl) ?_
  refine k0_i (rn_X2_48 (As := [.int x]) (rest := []) (r := 6) C0 (m_X2_isHand__f l D cA N ad (mw ad cA c (nI 0) n nw ah rw) (nI 0) n nw ah rw x hN10 mw_at (by omega) hbad _) hP hS (by omega) mw_at.1 rfl ⟨rfl, rfl⟩ ⟨by decide, by decide⟩ hl.1 rfl (Nat.le_of_ble_eq_true rfl) dX2_luckIn_7 ⟨Nat.le_of_ble_eq_true rfl, Nat.le_of_ble_eq_true rfl⟩) C0 hP hS (fun v7 c7 H locs hp hP hS => ?_)
  obtain ⟨rfl, rfl⟩ := hp
  refine n_if_ne (tgt := 19) hx hb (by omega) dX2_luckIn_10 (by decide) (fun h10 => ?_) (fun h10 => ?_)
  · exfalso; omega
  refine lv_aload_n hx hb dX2_luckIn_13 rfl (lv_at hl 0 rfl) ?_
  refine lv_iconst (v := nI 1) hx hb dX2_luckIn_14 rfl ?_
  refine k0_i (rn_X2_44 (As := [.int (nI 1)]) (rest := []) (r := 6) C0 (m_X2_refuse l D cA N ad (mw ad cA c (nI 0) n nw ah rw) (nI 0) n nw ah rw (nI 1) hN10 mw_at (by omega) _) hP hS (by omega) mw_at.1 rfl ⟨rfl, rfl⟩ ⟨by decide, by decide⟩ hl.1 rfl (Nat.le_of_ble_eq_true rfl) dX2_luckIn_15 ⟨Nat.le_of_ble_eq_true rfl, Nat.le_of_ble_eq_true rfl⟩) C0 hP hS (fun v15 c15 H locs hp hP hS => ?_)
  obtain ⟨rfl, rfl⟩ := hp
  rw [mw_mw] at hP
  exact e_i C0 hr hlk hP hS dX2_luckIn_18 (by decide) (by decide) rfl
set_option maxHeartbeats 1000000 in
set_option maxRecDepth 10000 in
theorem m_X2_drawsUntil__h (l : Launch) (D : va_G) (cA : Nat → ClassId) (N : Nat) (ad : Nat → Nat) (c : Nat → va_E) (th : Int32) (n : Nat) (nw ah rw : Nat → Int32) (x y z : Int32) (hN10 : 10 ≤ N) (hM : MoAt ad cA c th n nw ah rw) (hn5 : n ≤ 5) (hbad : ∀ i, i < n → x ≠ nI i) : Ci l yX2_drawsUntil wX2_drawsUntil { frames := 1, cells := 0, slots := 0, locals := 21 } [.ref (ad 6), .int x, .int y, .int z] D cA N ad c 0 0 (fun v c' => mw ad cA c (nI 1) n nw ah rw = c') := by
  intro sz9
  refine bd_of (cc := cX2_drawsUntil) (maxL := 6) (ret := some Jvm.ClassFile.FieldType.int) (by decide) rfl (Nat.le_of_ble_eq_true rfl) ?_
  intro p e s m below meth c0 C0 hr hlk hnm hP hS hsz ls hl
  subst hsz
  have hx := C0.1
  have hb := C0.2.1
  have hl : lv_has ls 6 [(0, .ref (ad 6)), (1, .int x), (2, .int y), (3, .int z)] := hl
  rw [← mw_self hM] at hP
  refine lv_aload_n hx hb dX2_drawsUntil_0 rfl (lv_at hl 0 rfl) ?_
  refine lv_iconst (v := nI 0) hx hb dX2_drawsUntil_1 rfl ?_
  refine pm_th C0 hN10 hP hS dX2_drawsUntil_2 (fun H locs hP hS => ?_)
  refine lv_aload_n hx hb dX2_drawsUntil_5 rfl (lv_at hl 0 rfl) ?_
  refine lv_iload_n hx hb dX2_drawsUntil_6 rfl (lv_at hl 1 rfl) ?_
  refine k0_i (rn_X2_48 (As := [.int x]) (rest := []) (r := 6) C0 (m_X2_isHand__f l D cA N ad (mw ad cA c (nI 0) n nw ah rw) (nI 0) n nw ah rw x hN10 mw_at (by omega) hbad _) hP hS (by omega) mw_at.1 rfl ⟨rfl, rfl⟩ ⟨by decide, by decide⟩ hl.1 rfl (Nat.le_of_ble_eq_true rfl) dX2_drawsUntil_7 ⟨Nat.le_of_ble_eq_true rfl, Nat.le_of_ble_eq_true rfl⟩) C0 hP hS (fun v7 c7 H locs hp hP hS => ?_)
  obtain ⟨rfl, rfl⟩ := hp
  refine n_if_ne (tgt := 19) hx hb (by omega) dX2_drawsUntil_10 (by decide) (fun h10 => ?_) (fun h10 => ?_)
  · exfalso; omega
  refine lv_aload_n hx hb dX2_drawsUntil_13 rfl (lv_at hl 0 rfl) ?_
  refine lv_iconst (v := nI 1) hx hb dX2_drawsUntil_14 rfl ?_
  refine k0_i (rn_X2_44 (As := [.int (nI 1)]) (rest := []) (r := 6) C0 (m_X2_refuse l D cA N ad (mw ad cA c (nI 0) n nw ah rw) (nI 0) n nw ah rw (nI 1) hN10 mw_at (by omega) _) hP hS (by omega) mw_at.1 rfl ⟨rfl, rfl⟩ ⟨by decide, by decide⟩ hl.1 rfl (Nat.le_of_ble_eq_true rfl) dX2_drawsUntil_15 ⟨Nat.le_of_ble_eq_true rfl, Nat.le_of_ble_eq_true rfl⟩) C0 hP hS (fun v15 c15 H locs hp hP hS => ?_)
  obtain ⟨rfl, rfl⟩ := hp
  rw [mw_mw] at hP
  exact e_i C0 hr hlk hP hS dX2_drawsUntil_18 (by decide) (by decide) rfl
set_option maxHeartbeats 1000000 in
set_option maxRecDepth 10000 in
theorem m_X2_wouldTake__h (l : Launch) (D : va_G) (cA : Nat → ClassId) (N : Nat) (ad : Nat → Nat) (c : Nat → va_E) (th : Int32) (n : Nat) (nw ah rw : Nat → Int32) (x y : Int32) (hN10 : 10 ≤ N) (hM : MoAt ad cA c th n nw ah rw) (hn5 : n ≤ 5) (hbad : ∀ i, i < n → x ≠ nI i) : Ci l yX2_wouldTake wX2_wouldTake { frames := 1, cells := 0, slots := 0, locals := 21 } [.ref (ad 6), .int x, .int y] D cA N ad c 0 0 (fun v c' => mw ad cA c (nI 1) n nw ah rw = c') := by
  intro sz9
  refine bd_of (cc := cX2_wouldTake) (maxL := 3) (ret := some Jvm.ClassFile.FieldType.int) (by decide) rfl (Nat.le_of_ble_eq_true rfl) ?_
  intro p e s m below meth c0 C0 hr hlk hnm hP hS hsz ls hl
  subst hsz
  have hx := C0.1
  have hb := C0.2.1
  have hl : lv_has ls 3 [(0, .ref (ad 6)), (1, .int x), (2, .int y)] := hl
  rw [← mw_self hM] at hP
  refine lv_aload_n hx hb dX2_wouldTake_0 rfl (lv_at hl 0 rfl) ?_
  refine lv_iconst (v := nI 0) hx hb dX2_wouldTake_1 rfl ?_
  refine pm_th C0 hN10 hP hS dX2_wouldTake_2 (fun H locs hP hS => ?_)
  refine lv_aload_n hx hb dX2_wouldTake_5 rfl (lv_at hl 0 rfl) ?_
  refine lv_iload_n hx hb dX2_wouldTake_6 rfl (lv_at hl 1 rfl) ?_
  refine k0_i (rn_X2_48 (As := [.int x]) (rest := []) (r := 6) C0 (m_X2_isHand__f l D cA N ad (mw ad cA c (nI 0) n nw ah rw) (nI 0) n nw ah rw x hN10 mw_at (by omega) hbad _) hP hS (by omega) mw_at.1 rfl ⟨rfl, rfl⟩ ⟨by decide, by decide⟩ hl.1 rfl (Nat.le_of_ble_eq_true rfl) dX2_wouldTake_7 ⟨Nat.le_of_ble_eq_true rfl, Nat.le_of_ble_eq_true rfl⟩) C0 hP hS (fun v7 c7 H locs hp hP hS => ?_)
  obtain ⟨rfl, rfl⟩ := hp
  refine n_if_ne (tgt := 19) hx hb (by omega) dX2_wouldTake_10 (by decide) (fun h10 => ?_) (fun h10 => ?_)
  · exfalso; omega
  refine lv_aload_n hx hb dX2_wouldTake_13 rfl (lv_at hl 0 rfl) ?_
  refine lv_iconst (v := nI 1) hx hb dX2_wouldTake_14 rfl ?_
  refine k0_i (rn_X2_44 (As := [.int (nI 1)]) (rest := []) (r := 6) C0 (m_X2_refuse l D cA N ad (mw ad cA c (nI 0) n nw ah rw) (nI 0) n nw ah rw (nI 1) hN10 mw_at (by omega) _) hP hS (by omega) mw_at.1 rfl ⟨rfl, rfl⟩ ⟨by decide, by decide⟩ hl.1 rfl (Nat.le_of_ble_eq_true rfl) dX2_wouldTake_15 ⟨Nat.le_of_ble_eq_true rfl, Nat.le_of_ble_eq_true rfl⟩) C0 hP hS (fun v15 c15 H locs hp hP hS => ?_)
  obtain ⟨rfl, rfl⟩ := hp
  rw [mw_mw] at hP
  exact e_i C0 hr hlk hP hS dX2_wouldTake_18 (by decide) (by decide) rfl
set_option maxHeartbeats 1000000 in
set_option maxRecDepth 10000 in
theorem m_X2_wouldStay__h (l : Launch) (D : va_G) (cA : Nat → ClassId) (N : Nat) (ad : Nat → Nat) (c : Nat → va_E) (th : Int32) (n : Nat) (nw ah rw : Nat → Int32) (x y : Int32) (hN10 : 10 ≤ N) (hM : MoAt ad cA c th n nw ah rw) (hn5 : n ≤ 5) (hbad : ∀ i, i < n → x ≠ nI i) : Ci l yX2_wouldStay wX2_wouldStay { frames := 1, cells := 0, slots := 0, locals := 21 } [.ref (ad 6), .int x, .int y] D cA N ad c 0 0 (fun v c' => mw ad cA c (nI 1) n nw ah rw = c') := by
  intro sz9
  refine bd_of (cc := cX2_wouldStay) (maxL := 3) (ret := some Jvm.ClassFile.FieldType.int) (by decide) rfl (Nat.le_of_ble_eq_true rfl) ?_
  intro p e s m below meth c0 C0 hr hlk hnm hP hS hsz ls hl
  subst hsz
  have hx := C0.1
  have hb := C0.2.1
  have hl : lv_has ls 3 [(0, .ref (ad 6)), (1, .int x), (2, .int y)] := hl
  rw [← mw_self hM] at hP
  refine lv_aload_n hx hb dX2_wouldStay_0 rfl (lv_at hl 0 rfl) ?_
  refine lv_iconst (v := nI 0) hx hb dX2_wouldStay_1 rfl ?_
  refine pm_th C0 hN10 hP hS dX2_wouldStay_2 (fun H locs hP hS => ?_)
  refine lv_aload_n hx hb dX2_wouldStay_5 rfl (lv_at hl 0 rfl) ?_
  refine lv_iload_n hx hb dX2_wouldStay_6 rfl (lv_at hl 1 rfl) ?_
  refine k0_i (rn_X2_48 (As := [.int x]) (rest := []) (r := 6) C0 (m_X2_isHand__f l D cA N ad (mw ad cA c (nI 0) n nw ah rw) (nI 0) n nw ah rw x hN10 mw_at (by omega) hbad _) hP hS (by omega) mw_at.1 rfl ⟨rfl, rfl⟩ ⟨by decide, by decide⟩ hl.1 rfl (Nat.le_of_ble_eq_true rfl) dX2_wouldStay_7 ⟨Nat.le_of_ble_eq_true rfl, Nat.le_of_ble_eq_true rfl⟩) C0 hP hS (fun v7 c7 H locs hp hP hS => ?_)
  obtain ⟨rfl, rfl⟩ := hp
  refine n_if_ne (tgt := 19) hx hb (by omega) dX2_wouldStay_10 (by decide) (fun h10 => ?_) (fun h10 => ?_)
  · exfalso; omega
  refine lv_aload_n hx hb dX2_wouldStay_13 rfl (lv_at hl 0 rfl) ?_
  refine lv_iconst (v := nI 1) hx hb dX2_wouldStay_14 rfl ?_
  refine k0_i (rn_X2_44 (As := [.int (nI 1)]) (rest := []) (r := 6) C0 (m_X2_refuse l D cA N ad (mw ad cA c (nI 0) n nw ah rw) (nI 0) n nw ah rw (nI 1) hN10 mw_at (by omega) _) hP hS (by omega) mw_at.1 rfl ⟨rfl, rfl⟩ ⟨by decide, by decide⟩ hl.1 rfl (Nat.le_of_ble_eq_true rfl) dX2_wouldStay_15 ⟨Nat.le_of_ble_eq_true rfl, Nat.le_of_ble_eq_true rfl⟩) C0 hP hS (fun v15 c15 H locs hp hP hS => ?_)
  obtain ⟨rfl, rfl⟩ := hp
  rw [mw_mw] at hP
  exact e_i C0 hr hlk hP hS dX2_wouldStay_18 (by decide) (by decide) rfl
set_option maxHeartbeats 1000000 in
set_option maxRecDepth 10000 in
theorem m_X2_untilTaken__h (l : Launch) (D : va_G) (cA : Nat → ClassId) (N : Nat) (ad : Nat → Nat) (c : Nat → va_E) (th : Int32) (n : Nat) (nw ah rw : Nat → Int32) (x : Int32) (hN10 : 10 ≤ N) (hM : MoAt ad cA c th n nw ah rw) (hn5 : n ≤ 5) (hbad : ∀ i, i < n → x ≠ nI i) : Ci l yX2_untilTaken wX2_untilTaken { frames := 1, cells := 0, slots := 0, locals := 21 } [.ref (ad 6), .int x] D cA N ad c 0 0 (fun v c' => mw ad cA c (nI 1) n nw ah rw = c') := by
  intro sz9
  refine bd_of (cc := cX2_untilTaken) (maxL := 2) (ret := some Jvm.ClassFile.FieldType.int) (by decide) rfl (Nat.le_of_ble_eq_true rfl) ?_
  intro p e s m below meth c0 C0 hr hlk hnm hP hS hsz ls hl
  subst hsz
  have hx := C0.1
  have hb := C0.2.1
  have hl : lv_has ls 2 [(0, .ref (ad 6)), (1, .int x)] := hl
  rw [← mw_self hM] at hP
  refine lv_aload_n hx hb dX2_untilTaken_0 rfl (lv_at hl 0 rfl) ?_
  refine lv_iconst (v := nI 0) hx hb dX2_untilTaken_1 rfl ?_
  refine pm_th C0 hN10 hP hS dX2_untilTaken_2 (fun H locs hP hS => ?_)
  refine lv_aload_n hx hb dX2_untilTaken_5 rfl (lv_at hl 0 rfl) ?_
  refine lv_iload_n hx hb dX2_untilTaken_6 rfl (lv_at hl 1 rfl) ?_
  refine k0_i (rn_X2_48 (As := [.int x]) (rest := []) (r := 6) C0 (m_X2_isHand__f l D cA N ad (mw ad cA c (nI 0) n nw ah rw) (nI 0) n nw ah rw x hN10 mw_at (by omega) hbad _) hP hS (by omega) mw_at.1 rfl ⟨rfl, rfl⟩ ⟨by decide, by decide⟩ hl.1 rfl (Nat.le_of_ble_eq_true rfl) dX2_untilTaken_7 ⟨Nat.le_of_ble_eq_true rfl, Nat.le_of_ble_eq_true rfl⟩) C0 hP hS (fun v7 c7 H locs hp hP hS => ?_)
  obtain ⟨rfl, rfl⟩ := hp
  refine n_if_eq (tgt := 21) hx hb (by omega) dX2_untilTaken_10 (by decide) (fun h10 => ?_) (fun h10 => ?_)
  rotate_left
  · exfalso; omega
  refine lv_aload_n hx hb dX2_untilTaken_21 rfl (lv_at hl 0 rfl) ?_
  refine lv_iconst (v := nI 1) hx hb dX2_untilTaken_22 rfl ?_
  refine k0_i (rn_X2_44 (As := [.int (nI 1)]) (rest := []) (r := 6) C0 (m_X2_refuse l D cA N ad (mw ad cA c (nI 0) n nw ah rw) (nI 0) n nw ah rw (nI 1) hN10 mw_at (by omega) _) hP hS (by omega) mw_at.1 rfl ⟨rfl, rfl⟩ ⟨by decide, by decide⟩ hl.1 rfl (Nat.le_of_ble_eq_true rfl) dX2_untilTaken_23 ⟨Nat.le_of_ble_eq_true rfl, Nat.le_of_ble_eq_true rfl⟩) C0 hP hS (fun v23 c23 H locs hp hP hS => ?_)
  obtain ⟨rfl, rfl⟩ := hp
  rw [mw_mw] at hP
  exact e_i C0 hr hlk hP hS dX2_untilTaken_26 (by decide) (by decide) rfl
set_option maxHeartbeats 1000000 in
set_option maxRecDepth 10000 in
theorem m_X2_weightWanted__h (l : Launch) (D : va_G) (cA : Nat → ClassId) (N : Nat) (ad : Nat → Nat) (c : Nat → va_E) (th : Int32) (n : Nat) (nw ah rw : Nat → Int32) (x : Int32) (hN10 : 10 ≤ N) (hM : MoAt ad cA c th n nw ah rw) (hn5 : n ≤ 5) (hbad : ∀ i, i < n → x ≠ nI i) : Ci l yX2_weightWanted wX2_weightWanted { frames := 1, cells := 0, slots := 0, locals := 21 } [.ref (ad 6), .int x] D cA N ad c 0 0 (fun v c' => mw ad cA c (nI 1) n nw ah rw = c') := by
  intro sz9
  refine bd_of (cc := cX2_weightWanted) (maxL := 2) (ret := some Jvm.ClassFile.FieldType.int) (by decide) rfl (Nat.le_of_ble_eq_true rfl) ?_
  intro p e s m below meth c0 C0 hr hlk hnm hP hS hsz ls hl
  subst hsz
  have hx := C0.1
  have hb := C0.2.1
  have hl : lv_has ls 2 [(0, .ref (ad 6)), (1, .int x)] := hl
  rw [← mw_self hM] at hP
  refine lv_aload_n hx hb dX2_weightWanted_0 rfl (lv_at hl 0 rfl) ?_
  refine lv_iconst (v := nI 0) hx hb dX2_weightWanted_1 rfl ?_
  refine pm_th C0 hN10 hP hS dX2_weightWanted_2 (fun H locs hP hS => ?_)
  refine lv_aload_n hx hb dX2_weightWanted_5 rfl (lv_at hl 0 rfl) ?_
  refine lv_iload_n hx hb dX2_weightWanted_6 rfl (lv_at hl 1 rfl) ?_
  refine k0_i (rn_X2_48 (As := [.int x]) (rest := []) (r := 6) C0 (m_X2_isHand__f l D cA N ad (mw ad cA c (nI 0) n nw ah rw) (nI 0) n nw ah rw x hN10 mw_at (by omega) hbad _) hP hS (by omega) mw_at.1 rfl ⟨rfl, rfl⟩ ⟨by decide, by decide⟩ hl.1 rfl (Nat.le_of_ble_eq_true rfl) dX2_weightWanted_7 ⟨Nat.le_of_ble_eq_true rfl, Nat.le_of_ble_eq_true rfl⟩) C0 hP hS (fun v7 c7 H locs hp hP hS => ?_)
  obtain ⟨rfl, rfl⟩ := hp
  refine n_if_eq (tgt := 21) hx hb (by omega) dX2_weightWanted_10 (by decide) (fun h10 => ?_) (fun h10 => ?_)
  rotate_left
  · exfalso; omega
  refine lv_aload_n hx hb dX2_weightWanted_21 rfl (lv_at hl 0 rfl) ?_
  refine lv_iconst (v := nI 1) hx hb dX2_weightWanted_22 rfl ?_
  refine k0_i (rn_X2_44 (As := [.int (nI 1)]) (rest := []) (r := 6) C0 (m_X2_refuse l D cA N ad (mw ad cA c (nI 0) n nw ah rw) (nI 0) n nw ah rw (nI 1) hN10 mw_at (by omega) _) hP hS (by omega) mw_at.1 rfl ⟨rfl, rfl⟩ ⟨by decide, by decide⟩ hl.1 rfl (Nat.le_of_ble_eq_true rfl) dX2_weightWanted_23 ⟨Nat.le_of_ble_eq_true rfl, Nat.le_of_ble_eq_true rfl⟩) C0 hP hS (fun v23 c23 H locs hp hP hS => ?_)
  obtain ⟨rfl, rfl⟩ := hp
  rw [mw_mw] at hP
  exact e_i C0 hr hlk hP hS dX2_weightWanted_26 (by decide) (by decide) rfl
set_option maxHeartbeats 1000000 in
set_option maxRecDepth 10000 in
theorem m_X2_wouldJoin__h (l : Launch) (D : va_G) (cA : Nat → ClassId) (N : Nat) (ad : Nat → Nat) (c : Nat → va_E) (th : Int32) (n : Nat) (nw ah rw : Nat → Int32) (x y : Int32) (hN10 : 10 ≤ N) (hM : MoAt ad cA c th n nw ah rw) (hn5 : n ≤ 5) (hbad : ∀ i, i < n → x ≠ nI i) : Ci l yX2_wouldJoin wX2_wouldJoin { frames := 1, cells := 0, slots := 0, locals := 21 } [.ref (ad 6), .int x, .int y] D cA N ad c 0 0 (fun v c' => mw ad cA c (nI 1) n nw ah rw = c') := by
  intro sz9
  refine bd_of (cc := cX2_wouldJoin) (maxL := 3) (ret := some Jvm.ClassFile.FieldType.int) (by decide) rfl (Nat.le_of_ble_eq_true rfl) ?_
  intro p e s m below meth c0 C0 hr hlk hnm hP hS hsz ls hl
  subst hsz
  have hx := C0.1
  have hb := C0.2.1
  have hl : lv_has ls 3 [(0, .ref (ad 6)), (1, .int x), (2, .int y)] := hl
  rw [← mw_self hM] at hP
  refine lv_aload_n hx hb dX2_wouldJoin_0 rfl (lv_at hl 0 rfl) ?_
  refine lv_iconst (v := nI 0) hx hb dX2_wouldJoin_1 rfl ?_
  refine pm_th C0 hN10 hP hS dX2_wouldJoin_2 (fun H locs hP hS => ?_)
  refine lv_aload_n hx hb dX2_wouldJoin_5 rfl (lv_at hl 0 rfl) ?_
  refine lv_iload_n hx hb dX2_wouldJoin_6 rfl (lv_at hl 1 rfl) ?_
  refine k0_i (rn_X2_48 (As := [.int x]) (rest := []) (r := 6) C0 (m_X2_isHand__f l D cA N ad (mw ad cA c (nI 0) n nw ah rw) (nI 0) n nw ah rw x hN10 mw_at (by omega) hbad _) hP hS (by omega) mw_at.1 rfl ⟨rfl, rfl⟩ ⟨by decide, by decide⟩ hl.1 rfl (Nat.le_of_ble_eq_true rfl) dX2_wouldJoin_7 ⟨Nat.le_of_ble_eq_true rfl, Nat.le_of_ble_eq_true rfl⟩) C0 hP hS (fun v7 c7 H locs hp hP hS => ?_)
  obtain ⟨rfl, rfl⟩ := hp
  refine n_if_eq (tgt := 30) hx hb (by omega) dX2_wouldJoin_10 (by decide) (fun h10 => ?_) (fun h10 => ?_)
  rotate_left
  · exfalso; omega
  refine lv_aload_n hx hb dX2_wouldJoin_30 rfl (lv_at hl 0 rfl) ?_
  refine lv_iconst (v := nI 1) hx hb dX2_wouldJoin_31 rfl ?_
  refine k0_i (rn_X2_44 (As := [.int (nI 1)]) (rest := []) (r := 6) C0 (m_X2_refuse l D cA N ad (mw ad cA c (nI 0) n nw ah rw) (nI 0) n nw ah rw (nI 1) hN10 mw_at (by omega) _) hP hS (by omega) mw_at.1 rfl ⟨rfl, rfl⟩ ⟨by decide, by decide⟩ hl.1 rfl (Nat.le_of_ble_eq_true rfl) dX2_wouldJoin_32 ⟨Nat.le_of_ble_eq_true rfl, Nat.le_of_ble_eq_true rfl⟩) C0 hP hS (fun v32 c32 H locs hp hP hS => ?_)
  obtain ⟨rfl, rfl⟩ := hp
  rw [mw_mw] at hP
  exact e_i C0 hr hlk hP hS dX2_wouldJoin_35 (by decide) (by decide) rfl
set_option maxHeartbeats 1000000 in
set_option maxRecDepth 10000 in
theorem m_X2_wouldJoin__g (l : Launch) (D : va_G) (cA : Nat → ClassId) (N : Nat) (ad : Nat → Nat) (c : Nat → va_E) (th : Int32) (n : Nat) (nw ah rw : Nat → Int32) (i R Y L S D9 K : Nat) (y : Int32) (hN10 : 10 ≤ N) (hM : MoAt ad cA c th n nw ah rw) (hn5 : n ≤ 5) (hi : i < n) (hrow : RowE nw (30 * i) R Y L S D9 K) (hok : Hok R Y L S D9 K) (hbad : ∀ i, i < n → y ≠ nI i) : Ci l yX2_wouldJoin wX2_wouldJoin { frames := 1, cells := 0, slots := 0, locals := 21 } [.ref (ad 6), .int (nI i), .int y] D cA N ad c 0 0 (fun v c' => mw ad cA c (nI 1) n nw ah rw = c') := by
  intro sz9
  refine bd_of (cc := cX2_wouldJoin) (maxL := 3) (ret := some Jvm.ClassFile.FieldType.int) (by decide) rfl (Nat.le_of_ble_eq_true rfl) ?_
  intro p e s m below meth c0 C0 hr hlk hnm hP hS hsz ls hl
  subst hsz
  have hx := C0.1
  have hb := C0.2.1
  have hl : lv_has ls 3 [(0, .ref (ad 6)), (1, .int (nI i)), (2, .int y)] := hl
  obtain ⟨r0, r1, r2, r3, r4, r5⟩ := id hrow
  obtain ⟨q1, q2, q3, q4, q5, q6, q7, q8, q9⟩ := id hok
  rw [← mw_self hM] at hP
  refine lv_aload_n hx hb dX2_wouldJoin_0 rfl (lv_at hl 0 rfl) ?_
  refine lv_iconst (v := nI 0) hx hb dX2_wouldJoin_1 rfl ?_
  refine pm_th C0 hN10 hP hS dX2_wouldJoin_2 (fun H locs hP hS => ?_)
  refine lv_aload_n hx hb dX2_wouldJoin_5 rfl (lv_at hl 0 rfl) ?_
  refine lv_iload_n hx hb dX2_wouldJoin_6 rfl (lv_at hl 1 rfl) ?_
  refine k0_i (rn_X2_48 (As := [.int (nI i)]) (rest := []) (r := 6) C0 (m_X2_isHand__t l D cA N ad (mw ad cA c (nI 0) n nw ah rw) (nI 0) n nw ah rw i hN10 mw_at (by omega) hi _) hP hS (by omega) mw_at.1 rfl ⟨rfl, rfl⟩ ⟨by decide, by decide⟩ hl.1 rfl (Nat.le_of_ble_eq_true rfl) dX2_wouldJoin_7 ⟨Nat.le_of_ble_eq_true rfl, Nat.le_of_ble_eq_true rfl⟩) C0 hP hS (fun v7 c7 H locs hp hP hS => ?_)
  obtain ⟨rfl, rfl⟩ := hp
  refine n_if_eq (tgt := 30) hx hb (by omega) dX2_wouldJoin_10 (by decide) (fun h10 => ?_) (fun h10 => ?_)
  · exfalso; omega
  refine lv_aload_n hx hb dX2_wouldJoin_13 rfl (lv_at hl 0 rfl) ?_
  refine lv_iload_n hx hb dX2_wouldJoin_14 rfl (lv_at hl 2 rfl) ?_
  refine k0_i (rn_X2_48 (As := [.int y]) (rest := []) (r := 6) C0 (m_X2_isHand__f l D cA N ad (mw ad cA c (nI 0) n nw ah rw) (nI 0) n nw ah rw y hN10 mw_at (by omega) hbad _) hP hS (by omega) mw_at.1 rfl ⟨rfl, rfl⟩ ⟨by decide, by decide⟩ hl.1 rfl (Nat.le_of_ble_eq_true rfl) dX2_wouldJoin_15 ⟨Nat.le_of_ble_eq_true rfl, Nat.le_of_ble_eq_true rfl⟩) C0 hP hS (fun v15 c15 H locs hp hP hS => ?_)
  obtain ⟨rfl, rfl⟩ := hp
  refine n_if_eq (tgt := 30) hx hb (by omega) dX2_wouldJoin_18 (by decide) (fun h18 => ?_) (fun h18 => ?_)
  rotate_left
  · exfalso; omega
  refine lv_aload_n hx hb dX2_wouldJoin_30 rfl (lv_at hl 0 rfl) ?_
  refine lv_iconst (v := nI 1) hx hb dX2_wouldJoin_31 rfl ?_
  refine k0_i (rn_X2_44 (As := [.int (nI 1)]) (rest := []) (r := 6) C0 (m_X2_refuse l D cA N ad (mw ad cA c (nI 0) n nw ah rw) (nI 0) n nw ah rw (nI 1) hN10 mw_at (by omega) _) hP hS (by omega) mw_at.1 rfl ⟨rfl, rfl⟩ ⟨by decide, by decide⟩ hl.1 rfl (Nat.le_of_ble_eq_true rfl) dX2_wouldJoin_32 ⟨Nat.le_of_ble_eq_true rfl, Nat.le_of_ble_eq_true rfl⟩) C0 hP hS (fun v32 c32 H locs hp hP hS => ?_)
  obtain ⟨rfl, rfl⟩ := hp
  rw [mw_mw] at hP
  exact e_i C0 hr hlk hP hS dX2_wouldJoin_35 (by decide) (by decide) rfl
set_option maxHeartbeats 1000000 in
set_option maxRecDepth 10000 in
theorem m_X2_meanValue__h (l : Launch) (D : va_G) (cA : Nat → ClassId) (N : Nat) (ad : Nat → Nat) (c : Nat → va_E) (th : Int32) (n : Nat) (nw ah rw : Nat → Int32) (x : Int32) (hN10 : 10 ≤ N) (hM : MoAt ad cA c th n nw ah rw) (hn5 : n ≤ 5) (hbad : ∀ i, i < n → x ≠ nI i) : Cd l yX2_meanValue wX2_meanValue { frames := 1, cells := 0, slots := 0, locals := 21 } [.ref (ad 6), .int x] D cA N ad c 0 0 (fun v c' => mw ad cA c (nI 1) n nw ah rw = c') := by
  intro sz9
  refine bd_of (cc := cX2_meanValue) (maxL := 2) (ret := some Jvm.ClassFile.FieldType.double) (by decide) rfl (Nat.le_of_ble_eq_true rfl) ?_
  intro p e s m below meth c0 C0 hr hlk hnm hP hS hsz ls hl
  subst hsz
  have hx := C0.1
  have hb := C0.2.1
  have hl : lv_has ls 2 [(0, .ref (ad 6)), (1, .int x)] := hl
  rw [← mw_self hM] at hP
  refine lv_aload_n hx hb dX2_meanValue_0 rfl (lv_at hl 0 rfl) ?_
  refine lv_iconst (v := nI 0) hx hb dX2_meanValue_1 rfl ?_
  refine pm_th C0 hN10 hP hS dX2_meanValue_2 (fun H locs hP hS => ?_)
  refine lv_aload_n hx hb dX2_meanValue_5 rfl (lv_at hl 0 rfl) ?_
  refine lv_iload_n hx hb dX2_meanValue_6 rfl (lv_at hl 1 rfl) ?_
  refine k0_i (rn_X2_48 (As := [.int x]) (rest := []) (r := 6) C0 (m_X2_isHand__f l D cA N ad (mw ad cA c (nI 0) n nw ah rw) (nI 0) n nw ah rw x hN10 mw_at (by omega) hbad _) hP hS (by omega) mw_at.1 rfl ⟨rfl, rfl⟩ ⟨by decide, by decide⟩ hl.1 rfl (Nat.le_of_ble_eq_true rfl) dX2_meanValue_7 ⟨Nat.le_of_ble_eq_true rfl, Nat.le_of_ble_eq_true rfl⟩) C0 hP hS (fun v7 c7 H locs hp hP hS => ?_)
  obtain ⟨rfl, rfl⟩ := hp
  refine n_if_ne (tgt := 20) hx hb (by omega) dX2_meanValue_10 (by decide) (fun h10 => ?_) (fun h10 => ?_)
  · exfalso; omega
  refine lv_aload_n hx hb dX2_meanValue_13 rfl (lv_at hl 0 rfl) ?_
  refine lv_iconst (v := nI 1) hx hb dX2_meanValue_14 rfl ?_
  refine k0_i (rn_X2_44 (As := [.int (nI 1)]) (rest := []) (r := 6) C0 (m_X2_refuse l D cA N ad (mw ad cA c (nI 0) n nw ah rw) (nI 0) n nw ah rw (nI 1) hN10 mw_at (by omega) _) hP hS (by omega) mw_at.1 rfl ⟨rfl, rfl⟩ ⟨by decide, by decide⟩ hl.1 rfl (Nat.le_of_ble_eq_true rfl) dX2_meanValue_15 ⟨Nat.le_of_ble_eq_true rfl, Nat.le_of_ble_eq_true rfl⟩) C0 hP hS (fun v15 c15 H locs hp hP hS => ?_)
  obtain ⟨rfl, rfl⟩ := hp
  rw [mw_mw] at hP
  refine lv_i2d hx hb dX2_meanValue_18 ?_
  exact e_d C0 hr hlk hP hS dX2_meanValue_19 (by decide) (by decide) rfl
set_option maxHeartbeats 1000000 in
set_option maxRecDepth 10000 in
theorem m_X2_offer__a (l : Launch) (D : va_G) (cA : Nat → ClassId) (N : Nat) (ad : Nat → Nat) (c : Nat → va_E) (th : Int32) (n : Nat) (nw ah rw : Nat → Int32) (i R Y L S D9 K : Nat) (y z : Int32) (hN10 : 10 ≤ N) (hM : MoAt ad cA c th n nw ah rw) (hn5 : n ≤ 5) (hi : i < n) (hrow : RowE nw (30 * i) R Y L S D9 K) (hok : Hok R Y L S D9 K) (hbad : ¬ ((nI 0 ≤ y ∧ y ≤ nI 999) ∧ (nI 1 ≤ z ∧ z ≤ nI 9))) : Ci l yX2_offer wX2_offer { frames := 1, cells := 0, slots := 0, locals := 22 } [.ref (ad 6), .int (nI i), .int y, .int z] D cA N ad c 0 0 (fun v c' => mw ad cA c (nI 2) n nw ah rw = c') := by
  intro sz9
  refine bd_of (cc := cX2_offer) (maxL := 4) (ret := some Jvm.ClassFile.FieldType.int) (by decide) rfl (Nat.le_of_ble_eq_true rfl) ?_
  intro p e s m below meth c0 C0 hr hlk hnm hP hS hsz ls hl
  subst hsz
  have hx := C0.1
  have hb := C0.2.1
  have hl : lv_has ls 4 [(0, .ref (ad 6)), (1, .int (nI i)), (2, .int y), (3, .int z)] := hl
  obtain ⟨r0, r1, r2, r3, r4, r5⟩ := id hrow
  obtain ⟨q1, q2, q3, q4, q5, q6, q7, q8, q9⟩ := id hok
  rw [← mw_self hM] at hP
  refine lv_aload_n hx hb dX2_offer_0 rfl (lv_at hl 0 rfl) ?_
  refine lv_iconst (v := nI 0) hx hb dX2_offer_1 rfl ?_
  refine pm_th C0 hN10 hP hS dX2_offer_2 (fun H locs hP hS => ?_)
  refine lv_aload_n hx hb dX2_offer_5 rfl (lv_at hl 0 rfl) ?_
  refine lv_iload_n hx hb dX2_offer_6 rfl (lv_at hl 1 rfl) ?_
  refine k0_i (rn_X2_48 (As := [.int (nI i)]) (rest := []) (r := 6) C0 (m_X2_isHand__t l D cA N ad (mw ad cA c (nI 0) n nw ah rw) (nI 0) n nw ah rw i hN10 mw_at (by omega) hi _) hP hS (by omega) mw_at.1 rfl ⟨rfl, rfl⟩ ⟨by decide, by decide⟩ hl.1 rfl (Nat.le_of_ble_eq_true rfl) dX2_offer_7 ⟨Nat.le_of_ble_eq_true rfl, Nat.le_of_ble_eq_true rfl⟩) C0 hP hS (fun v7 c7 H locs hp hP hS => ?_)
  obtain ⟨rfl, rfl⟩ := hp
  refine n_if_ne (tgt := 19) hx hb (by omega) dX2_offer_10 (by decide) (fun h10 => ?_) (fun h10 => ?_)
  rotate_left
  · exfalso; omega
  refine lv_iload_n hx hb dX2_offer_19 rfl (lv_at hl 2 rfl) ?_
  refine lv_iconst (v := nI 0) hx hb dX2_offer_20 rfl ?_
  refine lv_sipush (v := nI 999) hx hb dX2_offer_21 rfl ?_
  refine k0_i (rn_X2_40 (As := [.int y, .int (nI 0), .int (nI 999)]) (rest := []) C0 (m_X2_isWithin l D cA N ad (mw ad cA c (nI 0) n nw ah rw) (y) (nI 0) (nI 999) _) hP hS rfl ⟨rfl, rfl⟩ ⟨by decide, by decide⟩ hl.1 rfl (Nat.le_of_ble_eq_true rfl) dX2_offer_24 ⟨Nat.le_of_ble_eq_true rfl, Nat.le_of_ble_eq_true rfl⟩) C0 hP hS (fun v24 c24 H locs hp hP hS => ?_)
  obtain ⟨hv, rfl⟩ := hp
  by_cases hw24 : nI 0 ≤ y ∧ y ≤ nI 999
  · obtain rfl : v24 = nI 1 := by rw [hv, if_pos hw24]; rfl
    refine n_if_eq (tgt := 40) hx hb (by omega) dX2_offer_27 (by decide) (fun h27 => ?_) (fun h27 => ?_)
    · exfalso; omega
    refine lv_iload_n hx hb dX2_offer_30 rfl (lv_at hl 3 rfl) ?_
    refine lv_iconst (v := nI 1) hx hb dX2_offer_31 rfl ?_
    refine lv_bipush (v := nI 9) hx hb dX2_offer_32 rfl ?_
    refine k0_i (rn_X2_40 (As := [.int z, .int (nI 1), .int (nI 9)]) (rest := []) C0 (m_X2_isWithin l D cA N ad (mw ad cA c (nI 0) n nw ah rw) (z) (nI 1) (nI 9) _) hP hS rfl ⟨rfl, rfl⟩ ⟨by decide, by decide⟩ hl.1 rfl (Nat.le_of_ble_eq_true rfl) dX2_offer_34 ⟨Nat.le_of_ble_eq_true rfl, Nat.le_of_ble_eq_true rfl⟩) C0 hP hS (fun v34 c34 H locs hp hP hS => ?_)
    obtain ⟨hv, rfl⟩ := hp
    by_cases hw34 : nI 1 ≤ z ∧ z ≤ nI 9
    · obtain rfl : v34 = nI 1 := by rw [hv, if_pos hw34]; rfl
      refine n_if_ne (tgt := 46) hx hb (by omega) dX2_offer_37 (by decide) (fun h37 => ?_) (fun h37 => ?_)
      rotate_left
      · exfalso; omega
      exact absurd ⟨hw24, hw34⟩ hbad
    · obtain rfl : v34 = nI 0 := by rw [hv, if_neg hw34]; rfl
      refine n_if_ne (tgt := 46) hx hb (by omega) dX2_offer_37 (by decide) (fun h37 => ?_) (fun h37 => ?_)
      · exfalso; omega
      refine lv_aload_n hx hb dX2_offer_40 rfl (lv_at hl 0 rfl) ?_
      refine lv_iconst (v := nI 2) hx hb dX2_offer_41 rfl ?_
      refine k0_i (rn_X2_44 (As := [.int (nI 2)]) (rest := []) (r := 6) C0 (m_X2_refuse l D cA N ad (mw ad cA c (nI 0) n nw ah rw) (nI 0) n nw ah rw (nI 2) hN10 mw_at (by omega) _) hP hS (by omega) mw_at.1 rfl ⟨rfl, rfl⟩ ⟨by decide, by decide⟩ hl.1 rfl (Nat.le_of_ble_eq_true rfl) dX2_offer_42 ⟨Nat.le_of_ble_eq_true rfl, Nat.le_of_ble_eq_true rfl⟩) C0 hP hS (fun v42 c42 H locs hp hP hS => ?_)
      obtain ⟨rfl, rfl⟩ := hp
      rw [mw_mw] at hP
      exact e_i C0 hr hlk hP hS dX2_offer_45 (by decide) (by decide) rfl
  · obtain rfl : v24 = nI 0 := by rw [hv, if_neg hw24]; rfl
    refine n_if_eq (tgt := 40) hx hb (by omega) dX2_offer_27 (by decide) (fun h27 => ?_) (fun h27 => ?_)
    rotate_left
    · exfalso; omega
    refine lv_aload_n hx hb dX2_offer_40 rfl (lv_at hl 0 rfl) ?_
    refine lv_iconst (v := nI 2) hx hb dX2_offer_41 rfl ?_
    refine k0_i (rn_X2_44 (As := [.int (nI 2)]) (rest := []) (r := 6) C0 (m_X2_refuse l D cA N ad (mw ad cA c (nI 0) n nw ah rw) (nI 0) n nw ah rw (nI 2) hN10 mw_at (by omega) _) hP hS (by omega) mw_at.1 rfl ⟨rfl, rfl⟩ ⟨by decide, by decide⟩ hl.1 rfl (Nat.le_of_ble_eq_true rfl) dX2_offer_42 ⟨Nat.le_of_ble_eq_true rfl, Nat.le_of_ble_eq_true rfl⟩) C0 hP hS (fun v42 c42 H locs hp hP hS => ?_)
    obtain ⟨rfl, rfl⟩ := hp
    rw [mw_mw] at hP
    exact e_i C0 hr hlk hP hS dX2_offer_45 (by decide) (by decide) rfl
set_option maxHeartbeats 1000000 in
set_option maxRecDepth 10000 in
theorem m_X2_offerRow__a (l : Launch) (D : va_G) (cA : Nat → ClassId) (N : Nat) (ad : Nat → Nat) (c : Nat → va_E) (th : Int32) (n : Nat) (nw ah rw : Nat → Int32) (i R Y L S D9 K : Nat) (y z u : Int32) (hN10 : 10 ≤ N) (hM : MoAt ad cA c th n nw ah rw) (hn5 : n ≤ 5) (hi : i < n) (hrow : RowE nw (30 * i) R Y L S D9 K) (hok : Hok R Y L S D9 K) (hbad : ¬ ((nI 0 ≤ y ∧ y ≤ nI 999) ∧ (nI 1 ≤ z ∧ z ≤ nI 9) ∧ (nI 1 ≤ u ∧ u ≤ nI 200))) : Ci l yX2_offerRow wX2_offerRow { frames := 1, cells := 0, slots := 0, locals := 22 } [.ref (ad 6), .int (nI i), .int y, .int z, .int u] D cA N ad c 0 0 (fun v c' => mw ad cA c (nI 2) n nw ah rw = c') := by
  intro sz9
  refine bd_of (cc := cX2_offerRow) (maxL := 7) (ret := some Jvm.ClassFile.FieldType.int) (by decide) rfl (Nat.le_of_ble_eq_true rfl) ?_
  intro p e s m below meth c0 C0 hr hlk hnm hP hS hsz ls hl
  subst hsz
  have hx := C0.1
  have hb := C0.2.1
  have hl : lv_has ls 7 [(0, .ref (ad 6)), (1, .int (nI i)), (2, .int y), (3, .int z), (4, .int u)] := hl
  obtain ⟨r0, r1, r2, r3, r4, r5⟩ := id hrow
  obtain ⟨q1, q2, q3, q4, q5, q6, q7, q8, q9⟩ := id hok
  rw [← mw_self hM] at hP
  refine lv_aload_n hx hb dX2_offerRow_0 rfl (lv_at hl 0 rfl) ?_
  refine lv_iconst (v := nI 0) hx hb dX2_offerRow_1 rfl ?_
  refine pm_th C0 hN10 hP hS dX2_offerRow_2 (fun H locs hP hS => ?_)
  refine lv_aload_n hx hb dX2_offerRow_5 rfl (lv_at hl 0 rfl) ?_
  refine lv_iload_n hx hb dX2_offerRow_6 rfl (lv_at hl 1 rfl) ?_
  refine k0_i (rn_X2_48 (As := [.int (nI i)]) (rest := []) (r := 6) C0 (m_X2_isHand__t l D cA N ad (mw ad cA c (nI 0) n nw ah rw) (nI 0) n nw ah rw i hN10 mw_at (by omega) hi _) hP hS (by omega) mw_at.1 rfl ⟨rfl, rfl⟩ ⟨by decide, by decide⟩ hl.1 rfl (Nat.le_of_ble_eq_true rfl) dX2_offerRow_7 ⟨Nat.le_of_ble_eq_true rfl, Nat.le_of_ble_eq_true rfl⟩) C0 hP hS (fun v7 c7 H locs hp hP hS => ?_)
  obtain ⟨rfl, rfl⟩ := hp
  refine n_if_ne (tgt := 19) hx hb (by omega) dX2_offerRow_10 (by decide) (fun h10 => ?_) (fun h10 => ?_)
  rotate_left
  · exfalso; omega
  refine lv_iload_n hx hb dX2_offerRow_19 rfl (lv_at hl 2 rfl) ?_
  refine lv_iconst (v := nI 0) hx hb dX2_offerRow_20 rfl ?_
  refine lv_sipush (v := nI 999) hx hb dX2_offerRow_21 rfl ?_
  refine k0_i (rn_X2_40 (As := [.int y, .int (nI 0), .int (nI 999)]) (rest := []) C0 (m_X2_isWithin l D cA N ad (mw ad cA c (nI 0) n nw ah rw) (y) (nI 0) (nI 999) _) hP hS rfl ⟨rfl, rfl⟩ ⟨by decide, by decide⟩ hl.1 rfl (Nat.le_of_ble_eq_true rfl) dX2_offerRow_24 ⟨Nat.le_of_ble_eq_true rfl, Nat.le_of_ble_eq_true rfl⟩) C0 hP hS (fun v24 c24 H locs hp hP hS => ?_)
  obtain ⟨hv, rfl⟩ := hp
  by_cases hw24 : nI 0 ≤ y ∧ y ≤ nI 999
  · obtain rfl : v24 = nI 1 := by rw [hv, if_pos hw24]; rfl
    refine n_if_eq (tgt := 52) hx hb (by omega) dX2_offerRow_27 (by decide) (fun h27 => ?_) (fun h27 => ?_)
    · exfalso; omega
    refine lv_iload_n hx hb dX2_offerRow_30 rfl (lv_at hl 3 rfl) ?_
    refine lv_iconst (v := nI 1) hx hb dX2_offerRow_31 rfl ?_
    refine lv_bipush (v := nI 9) hx hb dX2_offerRow_32 rfl ?_
    refine k0_i (rn_X2_40 (As := [.int z, .int (nI 1), .int (nI 9)]) (rest := []) C0 (m_X2_isWithin l D cA N ad (mw ad cA c (nI 0) n nw ah rw) (z) (nI 1) (nI 9) _) hP hS rfl ⟨rfl, rfl⟩ ⟨by decide, by decide⟩ hl.1 rfl (Nat.le_of_ble_eq_true rfl) dX2_offerRow_34 ⟨Nat.le_of_ble_eq_true rfl, Nat.le_of_ble_eq_true rfl⟩) C0 hP hS (fun v34 c34 H locs hp hP hS => ?_)
    obtain ⟨hv, rfl⟩ := hp
    by_cases hw34 : nI 1 ≤ z ∧ z ≤ nI 9
    · obtain rfl : v34 = nI 1 := by rw [hv, if_pos hw34]; rfl
      refine n_if_eq (tgt := 52) hx hb (by omega) dX2_offerRow_37 (by decide) (fun h37 => ?_) (fun h37 => ?_)
      · exfalso; omega
      refine lv_iload hx hb dX2_offerRow_40 (lv_at hl 4 rfl) ?_
      refine lv_iconst (v := nI 1) hx hb dX2_offerRow_42 rfl ?_
      refine lv_sipush (v := nI 200) hx hb dX2_offerRow_43 rfl ?_
      refine k0_i (rn_X2_40 (As := [.int u, .int (nI 1), .int (nI 200)]) (rest := []) C0 (m_X2_isWithin l D cA N ad (mw ad cA c (nI 0) n nw ah rw) (u) (nI 1) (nI 200) _) hP hS rfl ⟨rfl, rfl⟩ ⟨by decide, by decide⟩ hl.1 rfl (Nat.le_of_ble_eq_true rfl) dX2_offerRow_46 ⟨Nat.le_of_ble_eq_true rfl, Nat.le_of_ble_eq_true rfl⟩) C0 hP hS (fun v46 c46 H locs hp hP hS => ?_)
      obtain ⟨hv, rfl⟩ := hp
      by_cases hw46 : nI 1 ≤ u ∧ u ≤ nI 200
      · obtain rfl : v46 = nI 1 := by rw [hv, if_pos hw46]; rfl
        refine n_if_ne (tgt := 58) hx hb (by omega) dX2_offerRow_49 (by decide) (fun h49 => ?_) (fun h49 => ?_)
        rotate_left
        · exfalso; omega
        exact absurd ⟨hw24, hw34, hw46⟩ hbad
      · obtain rfl : v46 = nI 0 := by rw [hv, if_neg hw46]; rfl
        refine n_if_ne (tgt := 58) hx hb (by omega) dX2_offerRow_49 (by decide) (fun h49 => ?_) (fun h49 => ?_)
        · exfalso; omega
        refine lv_aload_n hx hb dX2_offerRow_52 rfl (lv_at hl 0 rfl) ?_
        refine lv_iconst (v := nI 2) hx hb dX2_offerRow_53 rfl ?_
        refine k0_i (rn_X2_44 (As := [.int (nI 2)]) (rest := []) (r := 6) C0 (m_X2_refuse l D cA N ad (mw ad cA c (nI 0) n nw ah rw) (nI 0) n nw ah rw (nI 2) hN10 mw_at (by omega) _) hP hS (by omega) mw_at.1 rfl ⟨rfl, rfl⟩ ⟨by decide, by decide⟩ hl.1 rfl (Nat.le_of_ble_eq_true rfl) dX2_offerRow_54 ⟨Nat.le_of_ble_eq_true rfl, Nat.le_of_ble_eq_true rfl⟩) C0 hP hS (fun v54 c54 H locs hp hP hS => ?_)
        obtain ⟨rfl, rfl⟩ := hp
        rw [mw_mw] at hP
        exact e_i C0 hr hlk hP hS dX2_offerRow_57 (by decide) (by decide) rfl
    · obtain rfl : v34 = nI 0 := by rw [hv, if_neg hw34]; rfl
      refine n_if_eq (tgt := 52) hx hb (by omega) dX2_offerRow_37 (by decide) (fun h37 => ?_) (fun h37 => ?_)
      rotate_left
      · exfalso; omega
      refine lv_aload_n hx hb dX2_offerRow_52 rfl (lv_at hl 0 rfl) ?_
      refine lv_iconst (v := nI 2) hx hb dX2_offerRow_53 rfl ?_
      refine k0_i (rn_X2_44 (As := [.int (nI 2)]) (rest := []) (r := 6) C0 (m_X2_refuse l D cA N ad (mw ad cA c (nI 0) n nw ah rw) (nI 0) n nw ah rw (nI 2) hN10 mw_at (by omega) _) hP hS (by omega) mw_at.1 rfl ⟨rfl, rfl⟩ ⟨by decide, by decide⟩ hl.1 rfl (Nat.le_of_ble_eq_true rfl) dX2_offerRow_54 ⟨Nat.le_of_ble_eq_true rfl, Nat.le_of_ble_eq_true rfl⟩) C0 hP hS (fun v54 c54 H locs hp hP hS => ?_)
      obtain ⟨rfl, rfl⟩ := hp
      rw [mw_mw] at hP
      exact e_i C0 hr hlk hP hS dX2_offerRow_57 (by decide) (by decide) rfl
  · obtain rfl : v24 = nI 0 := by rw [hv, if_neg hw24]; rfl
    refine n_if_eq (tgt := 52) hx hb (by omega) dX2_offerRow_27 (by decide) (fun h27 => ?_) (fun h27 => ?_)
    rotate_left
    · exfalso; omega
    refine lv_aload_n hx hb dX2_offerRow_52 rfl (lv_at hl 0 rfl) ?_
    refine lv_iconst (v := nI 2) hx hb dX2_offerRow_53 rfl ?_
    refine k0_i (rn_X2_44 (As := [.int (nI 2)]) (rest := []) (r := 6) C0 (m_X2_refuse l D cA N ad (mw ad cA c (nI 0) n nw ah rw) (nI 0) n nw ah rw (nI 2) hN10 mw_at (by omega) _) hP hS (by omega) mw_at.1 rfl ⟨rfl, rfl⟩ ⟨by decide, by decide⟩ hl.1 rfl (Nat.le_of_ble_eq_true rfl) dX2_offerRow_54 ⟨Nat.le_of_ble_eq_true rfl, Nat.le_of_ble_eq_true rfl⟩) C0 hP hS (fun v54 c54 H locs hp hP hS => ?_)
    obtain ⟨rfl, rfl⟩ := hp
    rw [mw_mw] at hP
    exact e_i C0 hr hlk hP hS dX2_offerRow_57 (by decide) (by decide) rfl
set_option maxHeartbeats 1000000 in
set_option maxRecDepth 10000 in
theorem m_X2_setLuck__a (l : Launch) (D : va_G) (cA : Nat → ClassId) (N : Nat) (ad : Nat → Nat) (c : Nat → va_E) (th : Int32) (n : Nat) (nw ah rw : Nat → Int32) (i R Y L S D9 K : Nat) (y : Int32) (hN10 : 10 ≤ N) (hM : MoAt ad cA c th n nw ah rw) (hn5 : n ≤ 5) (hi : i < n) (hrow : RowE nw (30 * i) R Y L S D9 K) (hok : Hok R Y L S D9 K) (hbad : ¬ (nI 0 ≤ y ∧ y ≤ nI 9999)) : Ci l yX2_setLuck wX2_setLuck { frames := 1, cells := 0, slots := 0, locals := 22 } [.ref (ad 6), .int (nI i), .int y] D cA N ad c 0 0 (fun v c' => mw ad cA c (nI 2) n nw ah rw = c') := by
  intro sz9
  refine bd_of (cc := cX2_setLuck) (maxL := 4) (ret := some Jvm.ClassFile.FieldType.int) (by decide) rfl (Nat.le_of_ble_eq_true rfl) ?_
  intro p e s m below meth c0 C0 hr hlk hnm hP hS hsz ls hl
  subst hsz
  have hx := C0.1
  have hb := C0.2.1
  have hl : lv_has ls 4 [(0, .ref (ad 6)), (1, .int (nI i)), (2, .int y)] := hl
  obtain ⟨r0, r1, r2, r3, r4, r5⟩ := id hrow
  obtain ⟨q1, q2, q3, q4, q5, q6, q7, q8, q9⟩ := id hok
  rw [← mw_self hM] at hP
  refine lv_aload_n hx hb dX2_setLuck_0 rfl (lv_at hl 0 rfl) ?_
  refine lv_iconst (v := nI 0) hx hb dX2_setLuck_1 rfl ?_
  refine pm_th C0 hN10 hP hS dX2_setLuck_2 (fun H locs hP hS => ?_)
  refine lv_aload_n hx hb dX2_setLuck_5 rfl (lv_at hl 0 rfl) ?_
  refine lv_iload_n hx hb dX2_setLuck_6 rfl (lv_at hl 1 rfl) ?_
  refine k0_i (rn_X2_48 (As := [.int (nI i)]) (rest := []) (r := 6) C0 (m_X2_isHand__t l D cA N ad (mw ad cA c (nI 0) n nw ah rw) (nI 0) n nw ah rw i hN10 mw_at (by omega) hi _) hP hS (by omega) mw_at.1 rfl ⟨rfl, rfl⟩ ⟨by decide, by decide⟩ hl.1 rfl (Nat.le_of_ble_eq_true rfl) dX2_setLuck_7 ⟨Nat.le_of_ble_eq_true rfl, Nat.le_of_ble_eq_true rfl⟩) C0 hP hS (fun v7 c7 H locs hp hP hS => ?_)
  obtain ⟨rfl, rfl⟩ := hp
  refine n_if_ne (tgt := 19) hx hb (by omega) dX2_setLuck_10 (by decide) (fun h10 => ?_) (fun h10 => ?_)
  rotate_left
  · exfalso; omega
  refine lv_iload_n hx hb dX2_setLuck_19 rfl (lv_at hl 2 rfl) ?_
  refine lv_iconst (v := nI 0) hx hb dX2_setLuck_20 rfl ?_
  refine lv_sipush (v := nI 9999) hx hb dX2_setLuck_21 rfl ?_
  refine k0_i (rn_X2_40 (As := [.int y, .int (nI 0), .int (nI 9999)]) (rest := []) C0 (m_X2_isWithin l D cA N ad (mw ad cA c (nI 0) n nw ah rw) (y) (nI 0) (nI 9999) _) hP hS rfl ⟨rfl, rfl⟩ ⟨by decide, by decide⟩ hl.1 rfl (Nat.le_of_ble_eq_true rfl) dX2_setLuck_24 ⟨Nat.le_of_ble_eq_true rfl, Nat.le_of_ble_eq_true rfl⟩) C0 hP hS (fun v24 c24 H locs hp hP hS => ?_)
  obtain ⟨hv, rfl⟩ := hp
  by_cases hw24 : nI 0 ≤ y ∧ y ≤ nI 9999
  · obtain rfl : v24 = nI 1 := by rw [hv, if_pos hw24]; rfl
    refine n_if_ne (tgt := 36) hx hb (by omega) dX2_setLuck_27 (by decide) (fun h27 => ?_) (fun h27 => ?_)
    rotate_left
    · exfalso; omega
    exact absurd hw24 hbad
  · obtain rfl : v24 = nI 0 := by rw [hv, if_neg hw24]; rfl
    refine n_if_ne (tgt := 36) hx hb (by omega) dX2_setLuck_27 (by decide) (fun h27 => ?_) (fun h27 => ?_)
    · exfalso; omega
    refine lv_aload_n hx hb dX2_setLuck_30 rfl (lv_at hl 0 rfl) ?_
    refine lv_iconst (v := nI 2) hx hb dX2_setLuck_31 rfl ?_
    refine k0_i (rn_X2_44 (As := [.int (nI 2)]) (rest := []) (r := 6) C0 (m_X2_refuse l D cA N ad (mw ad cA c (nI 0) n nw ah rw) (nI 0) n nw ah rw (nI 2) hN10 mw_at (by omega) _) hP hS (by omega) mw_at.1 rfl ⟨rfl, rfl⟩ ⟨by decide, by decide⟩ hl.1 rfl (Nat.le_of_ble_eq_true rfl) dX2_setLuck_32 ⟨Nat.le_of_ble_eq_true rfl, Nat.le_of_ble_eq_true rfl⟩) C0 hP hS (fun v32 c32 H locs hp hP hS => ?_)
    obtain ⟨rfl, rfl⟩ := hp
    rw [mw_mw] at hP
    exact e_i C0 hr hlk hP hS dX2_setLuck_35 (by decide) (by decide) rfl
set_option maxHeartbeats 1000000 in
set_option maxRecDepth 10000 in
theorem m_X2_luckIn__a (l : Launch) (D : va_G) (cA : Nat → ClassId) (N : Nat) (ad : Nat → Nat) (c : Nat → va_E) (th : Int32) (n : Nat) (nw ah rw : Nat → Int32) (i R Y L S D9 K : Nat) (y : Int32) (hN10 : 10 ≤ N) (hM : MoAt ad cA c th n nw ah rw) (hn5 : n ≤ 5) (hi : i < n) (hrow : RowE nw (30 * i) R Y L S D9 K) (hok : Hok R Y L S D9 K) (hbad : ¬ (nI 0 ≤ y ∧ y ≤ nI 1000)) : Ci l yX2_luckIn wX2_luckIn { frames := 1, cells := 0, slots := 0, locals := 22 } [.ref (ad 6), .int (nI i), .int y] D cA N ad c 0 0 (fun v c' => mw ad cA c (nI 2) n nw ah rw = c') := by
  intro sz9
  refine bd_of (cc := cX2_luckIn) (maxL := 3) (ret := some Jvm.ClassFile.FieldType.int) (by decide) rfl (Nat.le_of_ble_eq_true rfl) ?_
  intro p e s m below meth c0 C0 hr hlk hnm hP hS hsz ls hl
  subst hsz
  have hx := C0.1
  have hb := C0.2.1
  have hl : lv_has ls 3 [(0, .ref (ad 6)), (1, .int (nI i)), (2, .int y)] := hl
  obtain ⟨r0, r1, r2, r3, r4, r5⟩ := id hrow
  obtain ⟨q1, q2, q3, q4, q5, q6, q7, q8, q9⟩ := id hok
  rw [← mw_self hM] at hP
  refine lv_aload_n hx hb dX2_luckIn_0 rfl (lv_at hl 0 rfl) ?_
  refine lv_iconst (v := nI 0) hx hb dX2_luckIn_1 rfl ?_
  refine pm_th C0 hN10 hP hS dX2_luckIn_2 (fun H locs hP hS => ?_)
  refine lv_aload_n hx hb dX2_luckIn_5 rfl (lv_at hl 0 rfl) ?_
  refine lv_iload_n hx hb dX2_luckIn_6 rfl (lv_at hl 1 rfl) ?_
  refine k0_i (rn_X2_48 (As := [.int (nI i)]) (rest := []) (r := 6) C0 (m_X2_isHand__t l D cA N ad (mw ad cA c (nI 0) n nw ah rw) (nI 0) n nw ah rw i hN10 mw_at (by omega) hi _) hP hS (by omega) mw_at.1 rfl ⟨rfl, rfl⟩ ⟨by decide, by decide⟩ hl.1 rfl (Nat.le_of_ble_eq_true rfl) dX2_luckIn_7 ⟨Nat.le_of_ble_eq_true rfl, Nat.le_of_ble_eq_true rfl⟩) C0 hP hS (fun v7 c7 H locs hp hP hS => ?_)
  obtain ⟨rfl, rfl⟩ := hp
  refine n_if_ne (tgt := 19) hx hb (by omega) dX2_luckIn_10 (by decide) (fun h10 => ?_) (fun h10 => ?_)
  rotate_left
  · exfalso; omega
  refine lv_iload_n hx hb dX2_luckIn_19 rfl (lv_at hl 2 rfl) ?_
  refine lv_iconst (v := nI 0) hx hb dX2_luckIn_20 rfl ?_
  refine lv_sipush (v := nI 1000) hx hb dX2_luckIn_21 rfl ?_
  refine k0_i (rn_X2_40 (As := [.int y, .int (nI 0), .int (nI 1000)]) (rest := []) C0 (m_X2_isWithin l D cA N ad (mw ad cA c (nI 0) n nw ah rw) (y) (nI 0) (nI 1000) _) hP hS rfl ⟨rfl, rfl⟩ ⟨by decide, by decide⟩ hl.1 rfl (Nat.le_of_ble_eq_true rfl) dX2_luckIn_24 ⟨Nat.le_of_ble_eq_true rfl, Nat.le_of_ble_eq_true rfl⟩) C0 hP hS (fun v24 c24 H locs hp hP hS => ?_)
  obtain ⟨hv, rfl⟩ := hp
  by_cases hw24 : nI 0 ≤ y ∧ y ≤ nI 1000
  · obtain rfl : v24 = nI 1 := by rw [hv, if_pos hw24]; rfl
    refine n_if_eq (tgt := 39) hx hb (by omega) dX2_luckIn_27 (by decide) (fun h27 => ?_) (fun h27 => ?_)
    · exfalso; omega
    exact absurd hw24 hbad
  · obtain rfl : v24 = nI 0 := by rw [hv, if_neg hw24]; rfl
    refine n_if_eq (tgt := 39) hx hb (by omega) dX2_luckIn_27 (by decide) (fun h27 => ?_) (fun h27 => ?_)
    rotate_left
    · exfalso; omega
    refine lv_aload_n hx hb dX2_luckIn_39 rfl (lv_at hl 0 rfl) ?_
    refine lv_iconst (v := nI 2) hx hb dX2_luckIn_40 rfl ?_
    refine k0_i (rn_X2_44 (As := [.int (nI 2)]) (rest := []) (r := 6) C0 (m_X2_refuse l D cA N ad (mw ad cA c (nI 0) n nw ah rw) (nI 0) n nw ah rw (nI 2) hN10 mw_at (by omega) _) hP hS (by omega) mw_at.1 rfl ⟨rfl, rfl⟩ ⟨by decide, by decide⟩ hl.1 rfl (Nat.le_of_ble_eq_true rfl) dX2_luckIn_41 ⟨Nat.le_of_ble_eq_true rfl, Nat.le_of_ble_eq_true rfl⟩) C0 hP hS (fun v41 c41 H locs hp hP hS => ?_)
    obtain ⟨rfl, rfl⟩ := hp
    rw [mw_mw] at hP
    exact e_i C0 hr hlk hP hS dX2_luckIn_44 (by decide) (by decide) rfl
set_option maxHeartbeats 1000000 in
set_option maxRecDepth 10000 in
theorem m_X2_wouldTake__a (l : Launch) (D : va_G) (cA : Nat → ClassId) (N : Nat) (ad : Nat → Nat) (c : Nat → va_E) (th : Int32) (n : Nat) (nw ah rw : Nat → Int32) (i R Y L S D9 K : Nat) (y : Int32) (hN10 : 10 ≤ N) (hM : MoAt ad cA c th n nw ah rw) (hn5 : n ≤ 5) (hi : i < n) (hrow : RowE nw (30 * i) R Y L S D9 K) (hok : Hok R Y L S D9 K) (hbad : ¬ (nI 1 ≤ y ∧ y ≤ nI 9)) : Ci l yX2_wouldTake wX2_wouldTake { frames := 1, cells := 0, slots := 0, locals := 22 } [.ref (ad 6), .int (nI i), .int y] D cA N ad c 0 0 (fun v c' => mw ad cA c (nI 2) n nw ah rw = c') := by
  intro sz9
  refine bd_of (cc := cX2_wouldTake) (maxL := 3) (ret := some Jvm.ClassFile.FieldType.int) (by decide) rfl (Nat.le_of_ble_eq_true rfl) ?_
  intro p e s m below meth c0 C0 hr hlk hnm hP hS hsz ls hl
  subst hsz
  have hx := C0.1
  have hb := C0.2.1
  have hl : lv_has ls 3 [(0, .ref (ad 6)), (1, .int (nI i)), (2, .int y)] := hl
  obtain ⟨r0, r1, r2, r3, r4, r5⟩ := id hrow
  obtain ⟨q1, q2, q3, q4, q5, q6, q7, q8, q9⟩ := id hok
  rw [← mw_self hM] at hP
  refine lv_aload_n hx hb dX2_wouldTake_0 rfl (lv_at hl 0 rfl) ?_
  refine lv_iconst (v := nI 0) hx hb dX2_wouldTake_1 rfl ?_
  refine pm_th C0 hN10 hP hS dX2_wouldTake_2 (fun H locs hP hS => ?_)
  refine lv_aload_n hx hb dX2_wouldTake_5 rfl (lv_at hl 0 rfl) ?_
  refine lv_iload_n hx hb dX2_wouldTake_6 rfl (lv_at hl 1 rfl) ?_
  refine k0_i (rn_X2_48 (As := [.int (nI i)]) (rest := []) (r := 6) C0 (m_X2_isHand__t l D cA N ad (mw ad cA c (nI 0) n nw ah rw) (nI 0) n nw ah rw i hN10 mw_at (by omega) hi _) hP hS (by omega) mw_at.1 rfl ⟨rfl, rfl⟩ ⟨by decide, by decide⟩ hl.1 rfl (Nat.le_of_ble_eq_true rfl) dX2_wouldTake_7 ⟨Nat.le_of_ble_eq_true rfl, Nat.le_of_ble_eq_true rfl⟩) C0 hP hS (fun v7 c7 H locs hp hP hS => ?_)
  obtain ⟨rfl, rfl⟩ := hp
  refine n_if_ne (tgt := 19) hx hb (by omega) dX2_wouldTake_10 (by decide) (fun h10 => ?_) (fun h10 => ?_)
  rotate_left
  · exfalso; omega
  refine lv_iload_n hx hb dX2_wouldTake_19 rfl (lv_at hl 2 rfl) ?_
  refine lv_iconst (v := nI 1) hx hb dX2_wouldTake_20 rfl ?_
  refine lv_bipush (v := nI 9) hx hb dX2_wouldTake_21 rfl ?_
  refine k0_i (rn_X2_40 (As := [.int y, .int (nI 1), .int (nI 9)]) (rest := []) C0 (m_X2_isWithin l D cA N ad (mw ad cA c (nI 0) n nw ah rw) (y) (nI 1) (nI 9) _) hP hS rfl ⟨rfl, rfl⟩ ⟨by decide, by decide⟩ hl.1 rfl (Nat.le_of_ble_eq_true rfl) dX2_wouldTake_23 ⟨Nat.le_of_ble_eq_true rfl, Nat.le_of_ble_eq_true rfl⟩) C0 hP hS (fun v23 c23 H locs hp hP hS => ?_)
  obtain ⟨hv, rfl⟩ := hp
  by_cases hw23 : nI 1 ≤ y ∧ y ≤ nI 9
  · obtain rfl : v23 = nI 1 := by rw [hv, if_pos hw23]; rfl
    refine n_if_eq (tgt := 38) hx hb (by omega) dX2_wouldTake_26 (by decide) (fun h26 => ?_) (fun h26 => ?_)
    · exfalso; omega
    exact absurd hw23 hbad
  · obtain rfl : v23 = nI 0 := by rw [hv, if_neg hw23]; rfl
    refine n_if_eq (tgt := 38) hx hb (by omega) dX2_wouldTake_26 (by decide) (fun h26 => ?_) (fun h26 => ?_)
    rotate_left
    · exfalso; omega
    refine lv_aload_n hx hb dX2_wouldTake_38 rfl (lv_at hl 0 rfl) ?_
    refine lv_iconst (v := nI 2) hx hb dX2_wouldTake_39 rfl ?_
    refine k0_i (rn_X2_44 (As := [.int (nI 2)]) (rest := []) (r := 6) C0 (m_X2_refuse l D cA N ad (mw ad cA c (nI 0) n nw ah rw) (nI 0) n nw ah rw (nI 2) hN10 mw_at (by omega) _) hP hS (by omega) mw_at.1 rfl ⟨rfl, rfl⟩ ⟨by decide, by decide⟩ hl.1 rfl (Nat.le_of_ble_eq_true rfl) dX2_wouldTake_40 ⟨Nat.le_of_ble_eq_true rfl, Nat.le_of_ble_eq_true rfl⟩) C0 hP hS (fun v40 c40 H locs hp hP hS => ?_)
    obtain ⟨rfl, rfl⟩ := hp
    rw [mw_mw] at hP
    exact e_i C0 hr hlk hP hS dX2_wouldTake_43 (by decide) (by decide) rfl
set_option maxHeartbeats 1000000 in
set_option maxRecDepth 10000 in
theorem m_X2_wouldStay__a (l : Launch) (D : va_G) (cA : Nat → ClassId) (N : Nat) (ad : Nat → Nat) (c : Nat → va_E) (th : Int32) (n : Nat) (nw ah rw : Nat → Int32) (i R Y L S D9 K : Nat) (y : Int32) (hN10 : 10 ≤ N) (hM : MoAt ad cA c th n nw ah rw) (hn5 : n ≤ 5) (hi : i < n) (hrow : RowE nw (30 * i) R Y L S D9 K) (hok : Hok R Y L S D9 K) (hbad : ¬ (nI 1 ≤ y ∧ y ≤ nI 200)) : Ci l yX2_wouldStay wX2_wouldStay { frames := 1, cells := 0, slots := 0, locals := 22 } [.ref (ad 6), .int (nI i), .int y] D cA N ad c 0 0 (fun v c' => mw ad cA c (nI 2) n nw ah rw = c') := by
  intro sz9
  refine bd_of (cc := cX2_wouldStay) (maxL := 3) (ret := some Jvm.ClassFile.FieldType.int) (by decide) rfl (Nat.le_of_ble_eq_true rfl) ?_
  intro p e s m below meth c0 C0 hr hlk hnm hP hS hsz ls hl
  subst hsz
  have hx := C0.1
  have hb := C0.2.1
  have hl : lv_has ls 3 [(0, .ref (ad 6)), (1, .int (nI i)), (2, .int y)] := hl
  obtain ⟨r0, r1, r2, r3, r4, r5⟩ := id hrow
  obtain ⟨q1, q2, q3, q4, q5, q6, q7, q8, q9⟩ := id hok
  rw [← mw_self hM] at hP
  refine lv_aload_n hx hb dX2_wouldStay_0 rfl (lv_at hl 0 rfl) ?_
  refine lv_iconst (v := nI 0) hx hb dX2_wouldStay_1 rfl ?_
  refine pm_th C0 hN10 hP hS dX2_wouldStay_2 (fun H locs hP hS => ?_)
  refine lv_aload_n hx hb dX2_wouldStay_5 rfl (lv_at hl 0 rfl) ?_
  refine lv_iload_n hx hb dX2_wouldStay_6 rfl (lv_at hl 1 rfl) ?_
  refine k0_i (rn_X2_48 (As := [.int (nI i)]) (rest := []) (r := 6) C0 (m_X2_isHand__t l D cA N ad (mw ad cA c (nI 0) n nw ah rw) (nI 0) n nw ah rw i hN10 mw_at (by omega) hi _) hP hS (by omega) mw_at.1 rfl ⟨rfl, rfl⟩ ⟨by decide, by decide⟩ hl.1 rfl (Nat.le_of_ble_eq_true rfl) dX2_wouldStay_7 ⟨Nat.le_of_ble_eq_true rfl, Nat.le_of_ble_eq_true rfl⟩) C0 hP hS (fun v7 c7 H locs hp hP hS => ?_)
  obtain ⟨rfl, rfl⟩ := hp
  refine n_if_ne (tgt := 19) hx hb (by omega) dX2_wouldStay_10 (by decide) (fun h10 => ?_) (fun h10 => ?_)
  rotate_left
  · exfalso; omega
  refine lv_iload_n hx hb dX2_wouldStay_19 rfl (lv_at hl 2 rfl) ?_
  refine lv_iconst (v := nI 1) hx hb dX2_wouldStay_20 rfl ?_
  refine lv_sipush (v := nI 200) hx hb dX2_wouldStay_21 rfl ?_
  refine k0_i (rn_X2_40 (As := [.int y, .int (nI 1), .int (nI 200)]) (rest := []) C0 (m_X2_isWithin l D cA N ad (mw ad cA c (nI 0) n nw ah rw) (y) (nI 1) (nI 200) _) hP hS rfl ⟨rfl, rfl⟩ ⟨by decide, by decide⟩ hl.1 rfl (Nat.le_of_ble_eq_true rfl) dX2_wouldStay_24 ⟨Nat.le_of_ble_eq_true rfl, Nat.le_of_ble_eq_true rfl⟩) C0 hP hS (fun v24 c24 H locs hp hP hS => ?_)
  obtain ⟨hv, rfl⟩ := hp
  by_cases hw24 : nI 1 ≤ y ∧ y ≤ nI 200
  · obtain rfl : v24 = nI 1 := by rw [hv, if_pos hw24]; rfl
    refine n_if_eq (tgt := 39) hx hb (by omega) dX2_wouldStay_27 (by decide) (fun h27 => ?_) (fun h27 => ?_)
    · exfalso; omega
    exact absurd hw24 hbad
  · obtain rfl : v24 = nI 0 := by rw [hv, if_neg hw24]; rfl
    refine n_if_eq (tgt := 39) hx hb (by omega) dX2_wouldStay_27 (by decide) (fun h27 => ?_) (fun h27 => ?_)
    rotate_left
    · exfalso; omega
    refine lv_aload_n hx hb dX2_wouldStay_39 rfl (lv_at hl 0 rfl) ?_
    refine lv_iconst (v := nI 2) hx hb dX2_wouldStay_40 rfl ?_
    refine k0_i (rn_X2_44 (As := [.int (nI 2)]) (rest := []) (r := 6) C0 (m_X2_refuse l D cA N ad (mw ad cA c (nI 0) n nw ah rw) (nI 0) n nw ah rw (nI 2) hN10 mw_at (by omega) _) hP hS (by omega) mw_at.1 rfl ⟨rfl, rfl⟩ ⟨by decide, by decide⟩ hl.1 rfl (Nat.le_of_ble_eq_true rfl) dX2_wouldStay_41 ⟨Nat.le_of_ble_eq_true rfl, Nat.le_of_ble_eq_true rfl⟩) C0 hP hS (fun v41 c41 H locs hp hP hS => ?_)
    obtain ⟨rfl, rfl⟩ := hp
    rw [mw_mw] at hP
    exact e_i C0 hr hlk hP hS dX2_wouldStay_44 (by decide) (by decide) rfl
set_option maxHeartbeats 1000000 in
set_option maxRecDepth 10000 in
theorem m_X2_drawsUntil__a (l : Launch) (D : va_G) (cA : Nat → ClassId) (N : Nat) (ad : Nat → Nat) (c : Nat → va_E) (th : Int32) (n : Nat) (nw ah rw : Nat → Int32) (i R Y L S D9 K : Nat) (y z : Int32) (hN10 : 10 ≤ N) (hM : MoAt ad cA c th n nw ah rw) (hn5 : n ≤ 5) (hi : i < n) (hrow : RowE nw (30 * i) R Y L S D9 K) (hok : Hok R Y L S D9 K) (hbad : ¬ ((nI 1 ≤ y ∧ y ≤ nI 100) ∧ (nI 0 ≤ z ∧ z ≤ y - nI 1))) : Ci l yX2_drawsUntil wX2_drawsUntil { frames := 1, cells := 0, slots := 0, locals := 22 } [.ref (ad 6), .int (nI i), .int y, .int z] D cA N ad c 0 0 (fun v c' => mw ad cA c (nI 2) n nw ah rw = c') := by
  intro sz9
  refine bd_of (cc := cX2_drawsUntil) (maxL := 6) (ret := some Jvm.ClassFile.FieldType.int) (by decide) rfl (Nat.le_of_ble_eq_true rfl) ?_
  intro p e s m below meth c0 C0 hr hlk hnm hP hS hsz ls hl
  subst hsz
  have hx := C0.1
  have hb := C0.2.1
  have hl : lv_has ls 6 [(0, .ref (ad 6)), (1, .int (nI i)), (2, .int y), (3, .int z)] := hl
  obtain ⟨r0, r1, r2, r3, r4, r5⟩ := id hrow
  obtain ⟨q1, q2, q3, q4, q5, q6, q7, q8, q9⟩ := id hok
  rw [← mw_self hM] at hP
  refine lv_aload_n hx hb dX2_drawsUntil_0 rfl (lv_at hl 0 rfl) ?_
  refine lv_iconst (v := nI 0) hx hb dX2_drawsUntil_1 rfl ?_
  refine pm_th C0 hN10 hP hS dX2_drawsUntil_2 (fun H locs hP hS => ?_)
  refine lv_aload_n hx hb dX2_drawsUntil_5 rfl (lv_at hl 0 rfl) ?_
  refine lv_iload_n hx hb dX2_drawsUntil_6 rfl (lv_at hl 1 rfl) ?_
  refine k0_i (rn_X2_48 (As := [.int (nI i)]) (rest := []) (r := 6) C0 (m_X2_isHand__t l D cA N ad (mw ad cA c (nI 0) n nw ah rw) (nI 0) n nw ah rw i hN10 mw_at (by omega) hi _) hP hS (by omega) mw_at.1 rfl ⟨rfl, rfl⟩ ⟨by decide, by decide⟩ hl.1 rfl (Nat.le_of_ble_eq_true rfl) dX2_drawsUntil_7 ⟨Nat.le_of_ble_eq_true rfl, Nat.le_of_ble_eq_true rfl⟩) C0 hP hS (fun v7 c7 H locs hp hP hS => ?_)
  obtain ⟨rfl, rfl⟩ := hp
  refine n_if_ne (tgt := 19) hx hb (by omega) dX2_drawsUntil_10 (by decide) (fun h10 => ?_) (fun h10 => ?_)
  rotate_left
  · exfalso; omega
  refine lv_iload_n hx hb dX2_drawsUntil_19 rfl (lv_at hl 2 rfl) ?_
  refine lv_iconst (v := nI 1) hx hb dX2_drawsUntil_20 rfl ?_
  refine lv_bipush (v := nI 100) hx hb dX2_drawsUntil_21 rfl ?_
  refine k0_i (rn_X2_40 (As := [.int y, .int (nI 1), .int (nI 100)]) (rest := []) C0 (m_X2_isWithin l D cA N ad (mw ad cA c (nI 0) n nw ah rw) (y) (nI 1) (nI 100) _) hP hS rfl ⟨rfl, rfl⟩ ⟨by decide, by decide⟩ hl.1 rfl (Nat.le_of_ble_eq_true rfl) dX2_drawsUntil_23 ⟨Nat.le_of_ble_eq_true rfl, Nat.le_of_ble_eq_true rfl⟩) C0 hP hS (fun v23 c23 H locs hp hP hS => ?_)
  obtain ⟨hv, rfl⟩ := hp
  by_cases hw23 : nI 1 ≤ y ∧ y ≤ nI 100
  · obtain rfl : v23 = nI 1 := by rw [hv, if_pos hw23]; rfl
    refine n_if_eq (tgt := 40) hx hb (by omega) dX2_drawsUntil_26 (by decide) (fun h26 => ?_) (fun h26 => ?_)
    · exfalso; omega
    refine lv_iload_n hx hb dX2_drawsUntil_29 rfl (lv_at hl 3 rfl) ?_
    refine lv_iconst (v := nI 0) hx hb dX2_drawsUntil_30 rfl ?_
    refine lv_iload_n hx hb dX2_drawsUntil_31 rfl (lv_at hl 2 rfl) ?_
    refine lv_iconst (v := nI 1) hx hb dX2_drawsUntil_32 rfl ?_
    refine lv_isub hx hb dX2_drawsUntil_33 ?_
    refine k0_i (rn_X2_40 (As := [.int z, .int (nI 0), .int ((y) - (nI 1))]) (rest := []) C0 (m_X2_isWithin l D cA N ad (mw ad cA c (nI 0) n nw ah rw) (z) (nI 0) ((y) - (nI 1)) _) hP hS rfl ⟨rfl, rfl⟩ ⟨by decide, by decide⟩ hl.1 rfl (Nat.le_of_ble_eq_true rfl) dX2_drawsUntil_34 ⟨Nat.le_of_ble_eq_true rfl, Nat.le_of_ble_eq_true rfl⟩) C0 hP hS (fun v34 c34 H locs hp hP hS => ?_)
    obtain ⟨hv, rfl⟩ := hp
    by_cases hw34 : nI 0 ≤ z ∧ z ≤ (y) - (nI 1)
    · obtain rfl : v34 = nI 1 := by rw [hv, if_pos hw34]; rfl
      refine n_if_ne (tgt := 46) hx hb (by omega) dX2_drawsUntil_37 (by decide) (fun h37 => ?_) (fun h37 => ?_)
      rotate_left
      · exfalso; omega
      exact absurd ⟨hw23, hw34⟩ hbad
    · obtain rfl : v34 = nI 0 := by rw [hv, if_neg hw34]; rfl
      refine n_if_ne (tgt := 46) hx hb (by omega) dX2_drawsUntil_37 (by decide) (fun h37 => ?_) (fun h37 => ?_)
      · exfalso; omega
      refine lv_aload_n hx hb dX2_drawsUntil_40 rfl (lv_at hl 0 rfl) ?_
      refine lv_iconst (v := nI 2) hx hb dX2_drawsUntil_41 rfl ?_
      refine k0_i (rn_X2_44 (As := [.int (nI 2)]) (rest := []) (r := 6) C0 (m_X2_refuse l D cA N ad (mw ad cA c (nI 0) n nw ah rw) (nI 0) n nw ah rw (nI 2) hN10 mw_at (by omega) _) hP hS (by omega) mw_at.1 rfl ⟨rfl, rfl⟩ ⟨by decide, by decide⟩ hl.1 rfl (Nat.le_of_ble_eq_true rfl) dX2_drawsUntil_42 ⟨Nat.le_of_ble_eq_true rfl, Nat.le_of_ble_eq_true rfl⟩) C0 hP hS (fun v42 c42 H locs hp hP hS => ?_)
      obtain ⟨rfl, rfl⟩ := hp
      rw [mw_mw] at hP
      exact e_i C0 hr hlk hP hS dX2_drawsUntil_45 (by decide) (by decide) rfl
  · obtain rfl : v23 = nI 0 := by rw [hv, if_neg hw23]; rfl
    refine n_if_eq (tgt := 40) hx hb (by omega) dX2_drawsUntil_26 (by decide) (fun h26 => ?_) (fun h26 => ?_)
    rotate_left
    · exfalso; omega
    refine lv_aload_n hx hb dX2_drawsUntil_40 rfl (lv_at hl 0 rfl) ?_
    refine lv_iconst (v := nI 2) hx hb dX2_drawsUntil_41 rfl ?_
    refine k0_i (rn_X2_44 (As := [.int (nI 2)]) (rest := []) (r := 6) C0 (m_X2_refuse l D cA N ad (mw ad cA c (nI 0) n nw ah rw) (nI 0) n nw ah rw (nI 2) hN10 mw_at (by omega) _) hP hS (by omega) mw_at.1 rfl ⟨rfl, rfl⟩ ⟨by decide, by decide⟩ hl.1 rfl (Nat.le_of_ble_eq_true rfl) dX2_drawsUntil_42 ⟨Nat.le_of_ble_eq_true rfl, Nat.le_of_ble_eq_true rfl⟩) C0 hP hS (fun v42 c42 H locs hp hP hS => ?_)
    obtain ⟨rfl, rfl⟩ := hp
    rw [mw_mw] at hP
    exact e_i C0 hr hlk hP hS dX2_drawsUntil_45 (by decide) (by decide) rfl
set_option maxHeartbeats 1000000 in
set_option maxRecDepth 10000 in
theorem m_X2_addHand__a (l : Launch) (D : va_G) (cA : Nat → ClassId) (N : Nat) (ad : Nat → Nat) (c : Nat → va_E) (th : Int32) (n : Nat) (nw ah rw : Nat → Int32) (x y z : Int32) (hN10 : 10 ≤ N) (hM : MoAt ad cA c th n nw ah rw) (hn5 : n ≤ 5) (hbad : ¬ ((nI 1 ≤ x ∧ x ≤ nI 8) ∧ (nI 0 ≤ y ∧ y ≤ nI 1) ∧ (nI 0 ≤ z ∧ z ≤ nI 9999))) : Ci l yX2_addHand wX2_addHand { frames := 1, cells := 0, slots := 0, locals := 22 } [.ref (ad 6), .int x, .int y, .int z] D cA N ad c 0 0 (fun v c' => mw ad cA c (nI 1) n nw ah rw = c') := by
  intro sz9
  refine bd_of (cc := cX2_addHand) (maxL := 4) (ret := some Jvm.ClassFile.FieldType.int) (by decide) rfl (Nat.le_of_ble_eq_true rfl) ?_
  intro p e s m below meth c0 C0 hr hlk hnm hP hS hsz ls hl
  subst hsz
  have hx := C0.1
  have hb := C0.2.1
  have hl : lv_has ls 4 [(0, .ref (ad 6)), (1, .int x), (2, .int y), (3, .int z)] := hl
  rw [← mw_self hM] at hP
  refine lv_aload_n hx hb dX2_addHand_0 rfl (lv_at hl 0 rfl) ?_
  refine lv_iconst (v := nI 0) hx hb dX2_addHand_1 rfl ?_
  refine pm_th C0 hN10 hP hS dX2_addHand_2 (fun H locs hP hS => ?_)
  refine lv_iload_n hx hb dX2_addHand_5 rfl (lv_at hl 1 rfl) ?_
  refine lv_iconst (v := nI 1) hx hb dX2_addHand_6 rfl ?_
  refine lv_bipush (v := nI 8) hx hb dX2_addHand_7 rfl ?_
  refine k0_i (rn_X2_40 (As := [.int x, .int (nI 1), .int (nI 8)]) (rest := []) C0 (m_X2_isWithin l D cA N ad (mw ad cA c (nI 0) n nw ah rw) (x) (nI 1) (nI 8) _) hP hS rfl ⟨rfl, rfl⟩ ⟨by decide, by decide⟩ hl.1 rfl (Nat.le_of_ble_eq_true rfl) dX2_addHand_9 ⟨Nat.le_of_ble_eq_true rfl, Nat.le_of_ble_eq_true rfl⟩) C0 hP hS (fun v9 c9 H locs hp hP hS => ?_)
  obtain ⟨hv, rfl⟩ := hp
  by_cases hw9 : nI 1 ≤ x ∧ x ≤ nI 8
  · obtain rfl : v9 = nI 1 := by rw [hv, if_pos hw9]; rfl
    refine n_if_eq (tgt := 35) hx hb (by omega) dX2_addHand_12 (by decide) (fun h12 => ?_) (fun h12 => ?_)
    · exfalso; omega
    refine lv_iload_n hx hb dX2_addHand_15 rfl (lv_at hl 2 rfl) ?_
    refine lv_iconst (v := nI 0) hx hb dX2_addHand_16 rfl ?_
    refine lv_iconst (v := nI 1) hx hb dX2_addHand_17 rfl ?_
    refine k0_i (rn_X2_40 (As := [.int y, .int (nI 0), .int (nI 1)]) (rest := []) C0 (m_X2_isWithin l D cA N ad (mw ad cA c (nI 0) n nw ah rw) (y) (nI 0) (nI 1) _) hP hS rfl ⟨rfl, rfl⟩ ⟨by decide, by decide⟩ hl.1 rfl (Nat.le_of_ble_eq_true rfl) dX2_addHand_18 ⟨Nat.le_of_ble_eq_true rfl, Nat.le_of_ble_eq_true rfl⟩) C0 hP hS (fun v18 c18 H locs hp hP hS => ?_)
    obtain ⟨hv, rfl⟩ := hp
    by_cases hw18 : nI 0 ≤ y ∧ y ≤ nI 1
    · obtain rfl : v18 = nI 1 := by rw [hv, if_pos hw18]; rfl
      refine n_if_eq (tgt := 35) hx hb (by omega) dX2_addHand_21 (by decide) (fun h21 => ?_) (fun h21 => ?_)
      · exfalso; omega
      refine lv_iload_n hx hb dX2_addHand_24 rfl (lv_at hl 3 rfl) ?_
      refine lv_iconst (v := nI 0) hx hb dX2_addHand_25 rfl ?_
      refine lv_sipush (v := nI 9999) hx hb dX2_addHand_26 rfl ?_
      refine k0_i (rn_X2_40 (As := [.int z, .int (nI 0), .int (nI 9999)]) (rest := []) C0 (m_X2_isWithin l D cA N ad (mw ad cA c (nI 0) n nw ah rw) (z) (nI 0) (nI 9999) _) hP hS rfl ⟨rfl, rfl⟩ ⟨by decide, by decide⟩ hl.1 rfl (Nat.le_of_ble_eq_true rfl) dX2_addHand_29 ⟨Nat.le_of_ble_eq_true rfl, Nat.le_of_ble_eq_true rfl⟩) C0 hP hS (fun v29 c29 H locs hp hP hS => ?_)
      obtain ⟨hv, rfl⟩ := hp
      by_cases hw29 : nI 0 ≤ z ∧ z ≤ nI 9999
      · obtain rfl : v29 = nI 1 := by rw [hv, if_pos hw29]; rfl
        refine n_if_ne (tgt := 41) hx hb (by omega) dX2_addHand_32 (by decide) (fun h32 => ?_) (fun h32 => ?_)
        rotate_left
        · exfalso; omega
        exact absurd ⟨hw9, hw18, hw29⟩ hbad
      · obtain rfl : v29 = nI 0 := by rw [hv, if_neg hw29]; rfl
        refine n_if_ne (tgt := 41) hx hb (by omega) dX2_addHand_32 (by decide) (fun h32 => ?_) (fun h32 => ?_)
        · exfalso; omega
        refine lv_aload_n hx hb dX2_addHand_35 rfl (lv_at hl 0 rfl) ?_
        refine lv_iconst (v := nI 1) hx hb dX2_addHand_36 rfl ?_
        refine k0_i (rn_X2_44 (As := [.int (nI 1)]) (rest := []) (r := 6) C0 (m_X2_refuse l D cA N ad (mw ad cA c (nI 0) n nw ah rw) (nI 0) n nw ah rw (nI 1) hN10 mw_at (by omega) _) hP hS (by omega) mw_at.1 rfl ⟨rfl, rfl⟩ ⟨by decide, by decide⟩ hl.1 rfl (Nat.le_of_ble_eq_true rfl) dX2_addHand_37 ⟨Nat.le_of_ble_eq_true rfl, Nat.le_of_ble_eq_true rfl⟩) C0 hP hS (fun v37 c37 H locs hp hP hS => ?_)
        obtain ⟨rfl, rfl⟩ := hp
        rw [mw_mw] at hP
        exact e_i C0 hr hlk hP hS dX2_addHand_40 (by decide) (by decide) rfl
    · obtain rfl : v18 = nI 0 := by rw [hv, if_neg hw18]; rfl
      refine n_if_eq (tgt := 35) hx hb (by omega) dX2_addHand_21 (by decide) (fun h21 => ?_) (fun h21 => ?_)
      rotate_left
      · exfalso; omega
      refine lv_aload_n hx hb dX2_addHand_35 rfl (lv_at hl 0 rfl) ?_
      refine lv_iconst (v := nI 1) hx hb dX2_addHand_36 rfl ?_
      refine k0_i (rn_X2_44 (As := [.int (nI 1)]) (rest := []) (r := 6) C0 (m_X2_refuse l D cA N ad (mw ad cA c (nI 0) n nw ah rw) (nI 0) n nw ah rw (nI 1) hN10 mw_at (by omega) _) hP hS (by omega) mw_at.1 rfl ⟨rfl, rfl⟩ ⟨by decide, by decide⟩ hl.1 rfl (Nat.le_of_ble_eq_true rfl) dX2_addHand_37 ⟨Nat.le_of_ble_eq_true rfl, Nat.le_of_ble_eq_true rfl⟩) C0 hP hS (fun v37 c37 H locs hp hP hS => ?_)
      obtain ⟨rfl, rfl⟩ := hp
      rw [mw_mw] at hP
      exact e_i C0 hr hlk hP hS dX2_addHand_40 (by decide) (by decide) rfl
  · obtain rfl : v9 = nI 0 := by rw [hv, if_neg hw9]; rfl
    refine n_if_eq (tgt := 35) hx hb (by omega) dX2_addHand_12 (by decide) (fun h12 => ?_) (fun h12 => ?_)
    rotate_left
    · exfalso; omega
    refine lv_aload_n hx hb dX2_addHand_35 rfl (lv_at hl 0 rfl) ?_
    refine lv_iconst (v := nI 1) hx hb dX2_addHand_36 rfl ?_
    refine k0_i (rn_X2_44 (As := [.int (nI 1)]) (rest := []) (r := 6) C0 (m_X2_refuse l D cA N ad (mw ad cA c (nI 0) n nw ah rw) (nI 0) n nw ah rw (nI 1) hN10 mw_at (by omega) _) hP hS (by omega) mw_at.1 rfl ⟨rfl, rfl⟩ ⟨by decide, by decide⟩ hl.1 rfl (Nat.le_of_ble_eq_true rfl) dX2_addHand_37 ⟨Nat.le_of_ble_eq_true rfl, Nat.le_of_ble_eq_true rfl⟩) C0 hP hS (fun v37 c37 H locs hp hP hS => ?_)
    obtain ⟨rfl, rfl⟩ := hp
    rw [mw_mw] at hP
    exact e_i C0 hr hlk hP hS dX2_addHand_40 (by decide) (by decide) rfl
set_option maxHeartbeats 1000000 in
set_option maxRecDepth 10000 in
theorem m_X2_addHand__s (l : Launch) (D : va_G) (cA : Nat → ClassId) (N : Nat) (ad : Nat → Nat) (c : Nat → va_E) (th : Int32) (n : Nat) (nw ah rw : Nat → Int32) (x y z : Int32) (hN10 : 10 ≤ N) (hM : MoAt ad cA c th n nw ah rw) (hn5 : n ≤ 5) (hgood : (nI 1 ≤ x ∧ x ≤ nI 8) ∧ (nI 0 ≤ y ∧ y ≤ nI 1) ∧ (nI 0 ≤ z ∧ z ≤ nI 9999)) (hfull : n = 5) : Ci l yX2_addHand wX2_addHand { frames := 1, cells := 0, slots := 0, locals := 22 } [.ref (ad 6), .int x, .int y, .int z] D cA N ad c 0 0 (fun v c' => mw ad cA c (nI 2) n nw ah rw = c') := by
  intro sz9
  refine bd_of (cc := cX2_addHand) (maxL := 4) (ret := some Jvm.ClassFile.FieldType.int) (by decide) rfl (Nat.le_of_ble_eq_true rfl) ?_
  intro p e s m below meth c0 C0 hr hlk hnm hP hS hsz ls hl
  subst hsz
  have hx := C0.1
  have hb := C0.2.1
  have hl : lv_has ls 4 [(0, .ref (ad 6)), (1, .int x), (2, .int y), (3, .int z)] := hl
  rw [← mw_self hM] at hP
  refine lv_aload_n hx hb dX2_addHand_0 rfl (lv_at hl 0 rfl) ?_
  refine lv_iconst (v := nI 0) hx hb dX2_addHand_1 rfl ?_
  refine pm_th C0 hN10 hP hS dX2_addHand_2 (fun H locs hP hS => ?_)
  refine lv_iload_n hx hb dX2_addHand_5 rfl (lv_at hl 1 rfl) ?_
  refine lv_iconst (v := nI 1) hx hb dX2_addHand_6 rfl ?_
  refine lv_bipush (v := nI 8) hx hb dX2_addHand_7 rfl ?_
  refine k0_i (rn_X2_40 (As := [.int x, .int (nI 1), .int (nI 8)]) (rest := []) C0 (m_X2_isWithin l D cA N ad (mw ad cA c (nI 0) n nw ah rw) (x) (nI 1) (nI 8) _) hP hS rfl ⟨rfl, rfl⟩ ⟨by decide, by decide⟩ hl.1 rfl (Nat.le_of_ble_eq_true rfl) dX2_addHand_9 ⟨Nat.le_of_ble_eq_true rfl, Nat.le_of_ble_eq_true rfl⟩) C0 hP hS (fun v9 c9 H locs hp hP hS => ?_)
  obtain ⟨hv, rfl⟩ := hp
  by_cases hw9 : nI 1 ≤ x ∧ x ≤ nI 8
  · obtain rfl : v9 = nI 1 := by rw [hv, if_pos hw9]; rfl
    refine n_if_eq (tgt := 35) hx hb (by omega) dX2_addHand_12 (by decide) (fun h12 => ?_) (fun h12 => ?_)
    · exfalso; omega
    refine lv_iload_n hx hb dX2_addHand_15 rfl (lv_at hl 2 rfl) ?_
    refine lv_iconst (v := nI 0) hx hb dX2_addHand_16 rfl ?_
    refine lv_iconst (v := nI 1) hx hb dX2_addHand_17 rfl ?_
    refine k0_i (rn_X2_40 (As := [.int y, .int (nI 0), .int (nI 1)]) (rest := []) C0 (m_X2_isWithin l D cA N ad (mw ad cA c (nI 0) n nw ah rw) (y) (nI 0) (nI 1) _) hP hS rfl ⟨rfl, rfl⟩ ⟨by decide, by decide⟩ hl.1 rfl (Nat.le_of_ble_eq_true rfl) dX2_addHand_18 ⟨Nat.le_of_ble_eq_true rfl, Nat.le_of_ble_eq_true rfl⟩) C0 hP hS (fun v18 c18 H locs hp hP hS => ?_)
    obtain ⟨hv, rfl⟩ := hp
    by_cases hw18 : nI 0 ≤ y ∧ y ≤ nI 1
    · obtain rfl : v18 = nI 1 := by rw [hv, if_pos hw18]; rfl
      refine n_if_eq (tgt := 35) hx hb (by omega) dX2_addHand_21 (by decide) (fun h21 => ?_) (fun h21 => ?_)
      · exfalso; omega
      refine lv_iload_n hx hb dX2_addHand_24 rfl (lv_at hl 3 rfl) ?_
      refine lv_iconst (v := nI 0) hx hb dX2_addHand_25 rfl ?_
      refine lv_sipush (v := nI 9999) hx hb dX2_addHand_26 rfl ?_
      refine k0_i (rn_X2_40 (As := [.int z, .int (nI 0), .int (nI 9999)]) (rest := []) C0 (m_X2_isWithin l D cA N ad (mw ad cA c (nI 0) n nw ah rw) (z) (nI 0) (nI 9999) _) hP hS rfl ⟨rfl, rfl⟩ ⟨by decide, by decide⟩ hl.1 rfl (Nat.le_of_ble_eq_true rfl) dX2_addHand_29 ⟨Nat.le_of_ble_eq_true rfl, Nat.le_of_ble_eq_true rfl⟩) C0 hP hS (fun v29 c29 H locs hp hP hS => ?_)
      obtain ⟨hv, rfl⟩ := hp
      by_cases hw29 : nI 0 ≤ z ∧ z ≤ nI 9999
      · obtain rfl : v29 = nI 1 := by rw [hv, if_pos hw29]; rfl
        refine n_if_ne (tgt := 41) hx hb (by omega) dX2_addHand_32 (by decide) (fun h32 => ?_) (fun h32 => ?_)
        rotate_left
        · exfalso; omega
        refine lv_aload_n hx hb dX2_addHand_41 rfl (lv_at hl 0 rfl) ?_
        refine gf_X2_23 C0 hP (by omega) mw_at.1 rfl dX2_addHand_42 ?_
        refine lv_iconst (v := nI 5) hx hb dX2_addHand_45 rfl ?_
        refine n_icmp_ne (tgt := 55) hx hb (by omega) (by omega) dX2_addHand_46 (by decide) (fun h46 => ?_) (fun h46 => ?_)
        · exfalso; omega
        refine lv_aload_n hx hb dX2_addHand_49 rfl (lv_at hl 0 rfl) ?_
        refine lv_iconst (v := nI 2) hx hb dX2_addHand_50 rfl ?_
        refine k0_i (rn_X2_44 (As := [.int (nI 2)]) (rest := []) (r := 6) C0 (m_X2_refuse l D cA N ad (mw ad cA c (nI 0) n nw ah rw) (nI 0) n nw ah rw (nI 2) hN10 mw_at (by omega) _) hP hS (by omega) mw_at.1 rfl ⟨rfl, rfl⟩ ⟨by decide, by decide⟩ hl.1 rfl (Nat.le_of_ble_eq_true rfl) dX2_addHand_51 ⟨Nat.le_of_ble_eq_true rfl, Nat.le_of_ble_eq_true rfl⟩) C0 hP hS (fun v51 c51 H locs hp hP hS => ?_)
        obtain ⟨rfl, rfl⟩ := hp
        rw [mw_mw] at hP
        exact e_i C0 hr hlk hP hS dX2_addHand_54 (by decide) (by decide) rfl
      · obtain rfl : v29 = nI 0 := by rw [hv, if_neg hw29]; rfl
        refine n_if_ne (tgt := 41) hx hb (by omega) dX2_addHand_32 (by decide) (fun h32 => ?_) (fun h32 => ?_)
        · exfalso; omega
        exact absurd hgood (fun q => by first | exact hw9 q.1 | exact hw18 q.2.1 | exact hw29 q.2.2)
    · obtain rfl : v18 = nI 0 := by rw [hv, if_neg hw18]; rfl
      refine n_if_eq (tgt := 35) hx hb (by omega) dX2_addHand_21 (by decide) (fun h21 => ?_) (fun h21 => ?_)
      rotate_left
      · exfalso; omega
      exact absurd hgood (fun q => by first | exact hw9 q.1 | exact hw18 q.2.1 | exact hw29 q.2.2)
  · obtain rfl : v9 = nI 0 := by rw [hv, if_neg hw9]; rfl
    refine n_if_eq (tgt := 35) hx hb (by omega) dX2_addHand_12 (by decide) (fun h12 => ?_) (fun h12 => ?_)
    rotate_left
    · exfalso; omega
    exact absurd hgood (fun q => by first | exact hw9 q.1 | exact hw18 q.2.1 | exact hw29 q.2.2)
set_option maxHeartbeats 1000000 in
set_option maxRecDepth 10000 in
theorem m_X2_join__a (l : Launch) (D : va_G) (cA : Nat → ClassId) (N : Nat) (ad : Nat → Nat) (c : Nat → va_E) (th : Int32) (n : Nat) (nw ah rw : Nat → Int32) (i R Y L S D9 K : Nat)  (hN10 : 10 ≤ N) (hM : MoAt ad cA c th n nw ah rw) (hn5 : n ≤ 5) (hi : i < n) (hrow : RowE nw (30 * i) R Y L S D9 K) (hok : Hok R Y L S D9 K) : Ci l yX2_join wX2_join { frames := 1, cells := 0, slots := 0, locals := 21 } [.ref (ad 6), .int (nI i), .int (nI i)] D cA N ad c 0 0 (fun v c' => mw ad cA c (nI 2) n nw ah rw = c') := by
  intro sz9
  refine bd_of (cc := cX2_join) (maxL := 3) (ret := some Jvm.ClassFile.FieldType.int) (by decide) rfl (Nat.le_of_ble_eq_true rfl) ?_
  intro p e s m below meth c0 C0 hr hlk hnm hP hS hsz ls hl
  subst hsz
  have hx := C0.1
  have hb := C0.2.1
  have hl : lv_has ls 3 [(0, .ref (ad 6)), (1, .int (nI i)), (2, .int (nI i))] := hl
  obtain ⟨r0, r1, r2, r3, r4, r5⟩ := id hrow
  obtain ⟨q1, q2, q3, q4, q5, q6, q7, q8, q9⟩ := id hok
  rw [← mw_self hM] at hP
  refine lv_aload_n hx hb dX2_join_0 rfl (lv_at hl 0 rfl) ?_
  refine lv_iconst (v := nI 0) hx hb dX2_join_1 rfl ?_
  refine pm_th C0 hN10 hP hS dX2_join_2 (fun H locs hP hS => ?_)
  refine lv_aload_n hx hb dX2_join_5 rfl (lv_at hl 0 rfl) ?_
  refine lv_iload_n hx hb dX2_join_6 rfl (lv_at hl 1 rfl) ?_
  refine k0_i (rn_X2_48 (As := [.int (nI i)]) (rest := []) (r := 6) C0 (m_X2_isHand__t l D cA N ad (mw ad cA c (nI 0) n nw ah rw) (nI 0) n nw ah rw i hN10 mw_at (by omega) hi _) hP hS (by omega) mw_at.1 rfl ⟨rfl, rfl⟩ ⟨by decide, by decide⟩ hl.1 rfl (Nat.le_of_ble_eq_true rfl) dX2_join_7 ⟨Nat.le_of_ble_eq_true rfl, Nat.le_of_ble_eq_true rfl⟩) C0 hP hS (fun v7 c7 H locs hp hP hS => ?_)
  obtain ⟨rfl, rfl⟩ := hp
  refine n_if_eq (tgt := 21) hx hb (by omega) dX2_join_10 (by decide) (fun h10 => ?_) (fun h10 => ?_)
  · exfalso; omega
  refine lv_aload_n hx hb dX2_join_13 rfl (lv_at hl 0 rfl) ?_
  refine lv_iload_n hx hb dX2_join_14 rfl (lv_at hl 2 rfl) ?_
  refine k0_i (rn_X2_48 (As := [.int (nI i)]) (rest := []) (r := 6) C0 (m_X2_isHand__t l D cA N ad (mw ad cA c (nI 0) n nw ah rw) (nI 0) n nw ah rw i hN10 mw_at (by omega) hi _) hP hS (by omega) mw_at.1 rfl ⟨rfl, rfl⟩ ⟨by decide, by decide⟩ hl.1 rfl (Nat.le_of_ble_eq_true rfl) dX2_join_15 ⟨Nat.le_of_ble_eq_true rfl, Nat.le_of_ble_eq_true rfl⟩) C0 hP hS (fun v15 c15 H locs hp hP hS => ?_)
  obtain ⟨rfl, rfl⟩ := hp
  refine n_if_ne (tgt := 27) hx hb (by omega) dX2_join_18 (by decide) (fun h18 => ?_) (fun h18 => ?_)
  rotate_left
  · exfalso; omega
  refine lv_iload_n hx hb dX2_join_27 rfl (lv_at hl 1 rfl) ?_
  refine lv_iload_n hx hb dX2_join_28 rfl (lv_at hl 2 rfl) ?_
  refine n_icmp_ne (tgt := 38) hx hb (by omega) (by omega) dX2_join_29 (by decide) (fun h29 => ?_) (fun h29 => ?_)
  · exfalso; omega
  refine lv_aload_n hx hb dX2_join_32 rfl (lv_at hl 0 rfl) ?_
  refine lv_iconst (v := nI 2) hx hb dX2_join_33 rfl ?_
  refine k0_i (rn_X2_44 (As := [.int (nI 2)]) (rest := []) (r := 6) C0 (m_X2_refuse l D cA N ad (mw ad cA c (nI 0) n nw ah rw) (nI 0) n nw ah rw (nI 2) hN10 mw_at (by omega) _) hP hS (by omega) mw_at.1 rfl ⟨rfl, rfl⟩ ⟨by decide, by decide⟩ hl.1 rfl (Nat.le_of_ble_eq_true rfl) dX2_join_34 ⟨Nat.le_of_ble_eq_true rfl, Nat.le_of_ble_eq_true rfl⟩) C0 hP hS (fun v34 c34 H locs hp hP hS => ?_)
  obtain ⟨rfl, rfl⟩ := hp
  rw [mw_mw] at hP
  exact e_i C0 hr hlk hP hS dX2_join_37 (by decide) (by decide) rfl
set_option maxHeartbeats 1000000 in
set_option maxRecDepth 10000 in
theorem m_X2_join__s (l : Launch) (D : va_G) (cA : Nat → ClassId) (N : Nat) (ad : Nat → Nat) (c : Nat → va_E) (th : Int32) (n : Nat) (nw ah rw : Nat → Int32) (i R Y L S D9 K : Nat) (j Ro Yo Lo So Do Ko : Nat)  (hN10 : 10 ≤ N) (hM : MoAt ad cA c th n nw ah rw) (hn5 : n ≤ 5) (hi : i < n) (hrow : RowE nw (30 * i) R Y L S D9 K) (hok : Hok R Y L S D9 K) (hj : j < n) (hrowo : RowE nw (30 * j) Ro Yo Lo So Do Ko) (hoo : Hok Ro Yo Lo So Do Ko) (hij : i ≠ j) (hna : ¬ (Y = 0 ∧ Yo = 0 ∧ R = Ro)) : Ci l yX2_join wX2_join { frames := 1, cells := 0, slots := 0, locals := 22 } [.ref (ad 6), .int (nI i), .int (nI j)] D cA N ad c 0 0 (fun v c' => mw ad cA c (nI 3) n nw ah rw = c') := by
  intro sz9
  refine bd_of (cc := cX2_join) (maxL := 3) (ret := some Jvm.ClassFile.FieldType.int) (by decide) rfl (Nat.le_of_ble_eq_true rfl) ?_
  intro p e s m below meth c0 C0 hr hlk hnm hP hS hsz ls hl
  subst hsz
  have hx := C0.1
  have hb := C0.2.1
  have hl : lv_has ls 3 [(0, .ref (ad 6)), (1, .int (nI i)), (2, .int (nI j))] := hl
  obtain ⟨r0, r1, r2, r3, r4, r5⟩ := id hrow
  obtain ⟨q1, q2, q3, q4, q5, q6, q7, q8, q9⟩ := id hok
  obtain ⟨t0, t1, t2, t3, t4, t5⟩ := id hrowo
  obtain ⟨o1, o2, o3, o4, o5, o6, o7, o8, o9⟩ := id hoo
  rw [← mw_self hM] at hP
  refine lv_aload_n hx hb dX2_join_0 rfl (lv_at hl 0 rfl) ?_
  refine lv_iconst (v := nI 0) hx hb dX2_join_1 rfl ?_
  refine pm_th C0 hN10 hP hS dX2_join_2 (fun H locs hP hS => ?_)
  refine lv_aload_n hx hb dX2_join_5 rfl (lv_at hl 0 rfl) ?_
  refine lv_iload_n hx hb dX2_join_6 rfl (lv_at hl 1 rfl) ?_
  refine k0_i (rn_X2_48 (As := [.int (nI i)]) (rest := []) (r := 6) C0 (m_X2_isHand__t l D cA N ad (mw ad cA c (nI 0) n nw ah rw) (nI 0) n nw ah rw i hN10 mw_at (by omega) hi _) hP hS (by omega) mw_at.1 rfl ⟨rfl, rfl⟩ ⟨by decide, by decide⟩ hl.1 rfl (Nat.le_of_ble_eq_true rfl) dX2_join_7 ⟨Nat.le_of_ble_eq_true rfl, Nat.le_of_ble_eq_true rfl⟩) C0 hP hS (fun v7 c7 H locs hp hP hS => ?_)
  obtain ⟨rfl, rfl⟩ := hp
  refine n_if_eq (tgt := 21) hx hb (by omega) dX2_join_10 (by decide) (fun h10 => ?_) (fun h10 => ?_)
  · exfalso; omega
  refine lv_aload_n hx hb dX2_join_13 rfl (lv_at hl 0 rfl) ?_
  refine lv_iload_n hx hb dX2_join_14 rfl (lv_at hl 2 rfl) ?_
  refine k0_i (rn_X2_48 (As := [.int (nI j)]) (rest := []) (r := 6) C0 (m_X2_isHand__t l D cA N ad (mw ad cA c (nI 0) n nw ah rw) (nI 0) n nw ah rw j hN10 mw_at (by omega) hj _) hP hS (by omega) mw_at.1 rfl ⟨rfl, rfl⟩ ⟨by decide, by decide⟩ hl.1 rfl (Nat.le_of_ble_eq_true rfl) dX2_join_15 ⟨Nat.le_of_ble_eq_true rfl, Nat.le_of_ble_eq_true rfl⟩) C0 hP hS (fun v15 c15 H locs hp hP hS => ?_)
  obtain ⟨rfl, rfl⟩ := hp
  refine n_if_ne (tgt := 27) hx hb (by omega) dX2_join_18 (by decide) (fun h18 => ?_) (fun h18 => ?_)
  rotate_left
  · exfalso; omega
  refine lv_iload_n hx hb dX2_join_27 rfl (lv_at hl 1 rfl) ?_
  refine lv_iload_n hx hb dX2_join_28 rfl (lv_at hl 2 rfl) ?_
  refine n_icmp_ne (tgt := 38) hx hb (by omega) (by omega) dX2_join_29 (by decide) (fun h29 => ?_) (fun h29 => ?_)
  rotate_left
  · exfalso; omega
  refine lv_aload_n hx hb dX2_join_38 rfl (lv_at hl 0 rfl) ?_
  refine gf_X2_9 C0 hP (by omega) mw_at.1 rfl dX2_join_39 ?_
  refine lv_bipush (v := nI 30) hx hb dX2_join_42 rfl ?_
  refine lv_iload_n hx hb dX2_join_44 rfl (lv_at hl 1 rfl) ?_
  refine n_imul hx hb dX2_join_45 ?_
  refine lv_bipush (v := nI 30) hx hb dX2_join_46 rfl ?_
  refine lv_iload_n hx hb dX2_join_48 rfl (lv_at hl 2 rfl) ?_
  refine n_imul hx hb dX2_join_49 ?_
  refine k0_i (rn_X2_56 (As := [.ref (ad 7), .int (nI (30 * i)), .int (nI (30 * j))]) (rest := []) C0 (m_X2_canJoin l D cA N ad (mw ad cA c (nI 0) n nw ah rw) 7 (30 * i) (30 * j) nw R Y Ro Yo (by omega) mw_at.2.1 (by omega) (by omega) r0 r1 t0 t1 (by omega) (by omega) (by omega) (by omega) _) hP hS rfl ⟨rfl, rfl⟩ ⟨by decide, by decide⟩ hl.1 rfl (Nat.le_of_ble_eq_true rfl) dX2_join_50 ⟨Nat.le_of_ble_eq_true rfl, Nat.le_of_ble_eq_true rfl⟩) C0 hP hS (fun v50 c50 H locs hp hP hS => ?_)
  obtain ⟨rfl, rfl⟩ := hp
  refine lv_if_ne (tgt := 62) hx hb dX2_join_53 (by decide) (fun h53 => ?_) (fun h53 => ?_)
  · exact absurd (if_neg hna) h53
  refine lv_aload_n hx hb dX2_join_56 rfl (lv_at hl 0 rfl) ?_
  refine lv_iconst (v := nI 3) hx hb dX2_join_57 rfl ?_
  refine k0_i (rn_X2_44 (As := [.int (nI 3)]) (rest := []) (r := 6) C0 (m_X2_refuse l D cA N ad (mw ad cA c (nI 0) n nw ah rw) (nI 0) n nw ah rw (nI 3) hN10 mw_at (by omega) _) hP hS (by omega) mw_at.1 rfl ⟨rfl, rfl⟩ ⟨by decide, by decide⟩ hl.1 rfl (Nat.le_of_ble_eq_true rfl) dX2_join_58 ⟨Nat.le_of_ble_eq_true rfl, Nat.le_of_ble_eq_true rfl⟩) C0 hP hS (fun v58 c58 H locs hp hP hS => ?_)
  obtain ⟨rfl, rfl⟩ := hp
  rw [mw_mw] at hP
  exact e_i C0 hr hlk hP hS dX2_join_61 (by decide) (by decide) rfl
set_option maxHeartbeats 1000000 in
set_option maxRecDepth 10000 in
theorem m_X2_hands (l : Launch) (D : va_G) (cA : Nat → ClassId) (N : Nat) (ad : Nat → Nat) (c : Nat → va_E) (th : Int32) (n : Nat) (nw ah rw : Nat → Int32)  (hN10 : 10 ≤ N) (hM : MoAt ad cA c th n nw ah rw) (hn5 : n ≤ 5) : Ci l yX2_hands wX2_hands { frames := 0, cells := 0, slots := 0, locals := 0 } [.ref (ad 6)] D cA N ad c 0 0 (fun v c' => v = nI n ∧ mw ad cA c (nI 0) n nw ah rw = c') := by
  intro sz9
  refine bd_of (cc := cX2_hands) (maxL := 1) (ret := some Jvm.ClassFile.FieldType.int) (by decide) rfl (Nat.le_of_ble_eq_true rfl) ?_
  intro p e s m below meth c0 C0 hr hlk hnm hP hS hsz ls hl
  subst hsz
  have hx := C0.1
  have hb := C0.2.1
  have hl : lv_has ls 1 [(0, .ref (ad 6))] := hl
  rw [← mw_self hM] at hP
  refine lv_aload_n hx hb dX2_hands_0 rfl (lv_at hl 0 rfl) ?_
  refine lv_iconst (v := nI 0) hx hb dX2_hands_1 rfl ?_
  refine pm_th C0 hN10 hP hS dX2_hands_2 (fun H locs hP hS => ?_)
  refine lv_aload_n hx hb dX2_hands_5 rfl (lv_at hl 0 rfl) ?_
  refine gf_X2_23 C0 hP (by omega) mw_at.1 rfl dX2_hands_6 ?_
  exact e_i C0 hr hlk hP hS dX2_hands_9 (by decide) (by decide) ⟨rfl, rfl⟩
set_option maxHeartbeats 1000000 in
set_option maxRecDepth 10000 in
theorem m_X2_thrown (l : Launch) (D : va_G) (cA : Nat → ClassId) (N : Nat) (ad : Nat → Nat) (c : Nat → va_E) (th : Int32) (n : Nat) (nw ah rw : Nat → Int32)  (hN10 : 10 ≤ N) (hM : MoAt ad cA c th n nw ah rw) (hn5 : n ≤ 5) : Ci l yX2_thrown wX2_thrown { frames := 0, cells := 0, slots := 0, locals := 0 } [.ref (ad 6)] D cA N ad c 0 0 (fun v c' => v = th ∧ c = c') := by
  intro sz9
  refine bd_of (cc := cX2_thrown) (maxL := 1) (ret := some Jvm.ClassFile.FieldType.int) (by decide) rfl (Nat.le_of_ble_eq_true rfl) ?_
  intro p e s m below meth c0 C0 hr hlk hnm hP hS hsz ls hl
  subst hsz
  have hx := C0.1
  have hb := C0.2.1
  have hl : lv_has ls 1 [(0, .ref (ad 6))] := hl
  refine lv_aload_n hx hb dX2_thrown_0 rfl (lv_at hl 0 rfl) ?_
  refine gf_X2_19 C0 hP (by omega) hM.1 rfl dX2_thrown_1 ?_
  exact e_i C0 hr hlk hP hS dX2_thrown_4 (by decide) (by decide) ⟨rfl, rfl⟩
set_option maxHeartbeats 1000000 in
set_option maxRecDepth 10000 in
theorem m_X2_sum (l : Launch) (D : va_G) (cA : Nat → ClassId) (N : Nat) (ad : Nat → Nat) (c : Nat → va_E) (th : Int32) (n : Nat) (nw ah rw : Nat → Int32) (i R Y L S D9 K : Nat)  (hN10 : 10 ≤ N) (hM : MoAt ad cA c th n nw ah rw) (hn5 : n ≤ 5) (hi : i < n) (hrow : RowE nw (30 * i) R Y L S D9 K) (hok : Hok R Y L S D9 K) : Ci l yX2_sum wX2_sum { frames := 2, cells := 0, slots := 0, locals := 45 } [.ref (ad 6), .int (nI i)] D cA N ad c 0 0 (fun v c' => v = tot (sto nw (30 * i) 0) K ∧ mw ad cA c (nI 0) n nw ah rw = c') := by
  intro sz9
  refine bd_of (cc := cX2_sum) (maxL := 2) (ret := some Jvm.ClassFile.FieldType.int) (by decide) rfl (Nat.le_of_ble_eq_true rfl) ?_
  intro p e s m below meth c0 C0 hr hlk hnm hP hS hsz ls hl
  subst hsz
  have hx := C0.1
  have hb := C0.2.1
  have hl : lv_has ls 2 [(0, .ref (ad 6)), (1, .int (nI i))] := hl
  obtain ⟨r0, r1, r2, r3, r4, r5⟩ := id hrow
  obtain ⟨q1, q2, q3, q4, q5, q6, q7, q8, q9⟩ := id hok
  rw [← mw_self hM] at hP
  refine lv_aload_n hx hb dX2_sum_0 rfl (lv_at hl 0 rfl) ?_
  refine lv_iconst (v := nI 0) hx hb dX2_sum_1 rfl ?_
  refine pm_th C0 hN10 hP hS dX2_sum_2 (fun H locs hP hS => ?_)
  refine lv_aload_n hx hb dX2_sum_5 rfl (lv_at hl 0 rfl) ?_
  refine lv_iload_n hx hb dX2_sum_6 rfl (lv_at hl 1 rfl) ?_
  refine k0_i (rn_X2_48 (As := [.int (nI i)]) (rest := []) (r := 6) C0 (m_X2_isHand__t l D cA N ad (mw ad cA c (nI 0) n nw ah rw) (nI 0) n nw ah rw i hN10 mw_at (by omega) hi _) hP hS (by omega) mw_at.1 rfl ⟨rfl, rfl⟩ ⟨by decide, by decide⟩ hl.1 rfl (Nat.le_of_ble_eq_true rfl) dX2_sum_7 ⟨Nat.le_of_ble_eq_true rfl, Nat.le_of_ble_eq_true rfl⟩) C0 hP hS (fun v7 c7 H locs hp hP hS => ?_)
  obtain ⟨rfl, rfl⟩ := hp
  refine n_if_eq (tgt := 21) hx hb (by omega) dX2_sum_10 (by decide) (fun h10 => ?_) (fun h10 => ?_)
  · exfalso; omega
  refine lv_aload_n hx hb dX2_sum_13 rfl (lv_at hl 0 rfl) ?_
  refine lv_iload_n hx hb dX2_sum_14 rfl (lv_at hl 1 rfl) ?_
  refine k0_i (rn_X2_81 (As := [.int (nI i)]) (rest := []) (r := 6) C0 (m_X2_total l D cA N ad (mw ad cA c (nI 0) n nw ah rw) (nI 0) n nw ah rw i R Y L S D9 K hN10 mw_at hn5 hi hrow hok _) hP hS (by omega) mw_at.1 rfl ⟨rfl, rfl⟩ ⟨by decide, by decide⟩ hl.1 rfl (Nat.le_of_ble_eq_true rfl) dX2_sum_15 ⟨Nat.le_of_ble_eq_true rfl, Nat.le_of_ble_eq_true rfl⟩) C0 hP hS (fun v15 c15 H locs hp hP hS => ?_)
  obtain ⟨rfl, rfl⟩ := hp
  refine lv_goto (tgt := 26) hx hb dX2_sum_18 (by decide) ?_
  exact e_i C0 hr hlk hP hS dX2_sum_26 (by decide) (by decide) ⟨rfl, rfl⟩
set_option maxHeartbeats 1000000 in
set_option maxRecDepth 10000 in
theorem m_X2_lowest (l : Launch) (D : va_G) (cA : Nat → ClassId) (N : Nat) (ad : Nat → Nat) (c : Nat → va_E) (th : Int32) (n : Nat) (nw ah rw : Nat → Int32) (i R Y L S D9 K : Nat)  (hN10 : 10 ≤ N) (hM : MoAt ad cA c th n nw ah rw) (hn5 : n ≤ 5) (hi : i < n) (hrow : RowE nw (30 * i) R Y L S D9 K) (hok : Hok R Y L S D9 K) : Ci l yX2_lowest wX2_lowest { frames := 3, cells := 0, slots := 0, locals := 69 } [.ref (ad 6), .int (nI i)] D cA N ad c 0 0 (fun v c' => RkP (sto nw (30 * i) 0) K 0 v ∧ mw ad cA c (nI 0) n nw ah rw = c') := by
  intro sz9
  refine bd_of (cc := cX2_lowest) (maxL := 2) (ret := some Jvm.ClassFile.FieldType.int) (by decide) rfl (Nat.le_of_ble_eq_true rfl) ?_
  intro p e s m below meth c0 C0 hr hlk hnm hP hS hsz ls hl
  subst hsz
  have hx := C0.1
  have hb := C0.2.1
  have hl : lv_has ls 2 [(0, .ref (ad 6)), (1, .int (nI i))] := hl
  obtain ⟨r0, r1, r2, r3, r4, r5⟩ := id hrow
  obtain ⟨q1, q2, q3, q4, q5, q6, q7, q8, q9⟩ := id hok
  rw [← mw_self hM] at hP
  refine lv_aload_n hx hb dX2_lowest_0 rfl (lv_at hl 0 rfl) ?_
  refine lv_iconst (v := nI 0) hx hb dX2_lowest_1 rfl ?_
  refine pm_th C0 hN10 hP hS dX2_lowest_2 (fun H locs hP hS => ?_)
  refine lv_aload_n hx hb dX2_lowest_5 rfl (lv_at hl 0 rfl) ?_
  refine lv_iload_n hx hb dX2_lowest_6 rfl (lv_at hl 1 rfl) ?_
  refine k0_i (rn_X2_48 (As := [.int (nI i)]) (rest := []) (r := 6) C0 (m_X2_isHand__t l D cA N ad (mw ad cA c (nI 0) n nw ah rw) (nI 0) n nw ah rw i hN10 mw_at (by omega) hi _) hP hS (by omega) mw_at.1 rfl ⟨rfl, rfl⟩ ⟨by decide, by decide⟩ hl.1 rfl (Nat.le_of_ble_eq_true rfl) dX2_lowest_7 ⟨Nat.le_of_ble_eq_true rfl, Nat.le_of_ble_eq_true rfl⟩) C0 hP hS (fun v7 c7 H locs hp hP hS => ?_)
  obtain ⟨rfl, rfl⟩ := hp
  refine n_if_eq (tgt := 22) hx hb (by omega) dX2_lowest_10 (by decide) (fun h10 => ?_) (fun h10 => ?_)
  · exfalso; omega
  refine lv_aload_n hx hb dX2_lowest_13 rfl (lv_at hl 0 rfl) ?_
  refine lv_iload_n hx hb dX2_lowest_14 rfl (lv_at hl 1 rfl) ?_
  refine lv_iconst (v := nI 0) hx hb dX2_lowest_15 rfl ?_
  refine k0_i (rn_X2_87 (As := [.int (nI i), .int (nI 0)]) (rest := []) (r := 6) C0 (m_X2_ranked l D cA N ad (mw ad cA c (nI 0) n nw ah rw) (nI 0) n nw ah rw i R Y L S D9 K 0 hN10 mw_at (by omega) hi hrow hok (by omega) _) hP hS (by omega) mw_at.1 rfl ⟨rfl, rfl⟩ ⟨by decide, by decide⟩ hl.1 rfl (Nat.le_of_ble_eq_true rfl) dX2_lowest_16 ⟨Nat.le_of_ble_eq_true rfl, Nat.le_of_ble_eq_true rfl⟩) C0 hP hS (fun v16 c16 H locs hp hP hS => ?_)
  obtain ⟨hrkp, rfl⟩ := hp
  refine lv_goto (tgt := 27) hx hb dX2_lowest_19 (by decide) ?_
  exact e_i C0 hr hlk hP hS dX2_lowest_27 (by decide) (by decide) ⟨hrkp, rfl⟩
set_option maxHeartbeats 1000000 in
set_option maxRecDepth 10000 in
theorem m_X2_middle (l : Launch) (D : va_G) (cA : Nat → ClassId) (N : Nat) (ad : Nat → Nat) (c : Nat → va_E) (th : Int32) (n : Nat) (nw ah rw : Nat → Int32) (i R Y L S D9 K : Nat)  (hN10 : 10 ≤ N) (hM : MoAt ad cA c th n nw ah rw) (hn5 : n ≤ 5) (hi : i < n) (hrow : RowE nw (30 * i) R Y L S D9 K) (hok : Hok R Y L S D9 K) : Ci l yX2_middle wX2_middle { frames := 4, cells := 0, slots := 0, locals := 90 } [.ref (ad 6), .int (nI i)] D cA N ad c 0 0 (fun v c' => MidP (sto nw (30 * i) 0) K v ∧ mw ad cA c (nI 0) n nw ah rw = c') := by
  intro sz9
  refine bd_of (cc := cX2_middle) (maxL := 2) (ret := some Jvm.ClassFile.FieldType.int) (by decide) rfl (Nat.le_of_ble_eq_true rfl) ?_
  intro p e s m below meth c0 C0 hr hlk hnm hP hS hsz ls hl
  subst hsz
  have hx := C0.1
  have hb := C0.2.1
  have hl : lv_has ls 2 [(0, .ref (ad 6)), (1, .int (nI i))] := hl
  obtain ⟨r0, r1, r2, r3, r4, r5⟩ := id hrow
  obtain ⟨q1, q2, q3, q4, q5, q6, q7, q8, q9⟩ := id hok
  rw [← mw_self hM] at hP
  refine lv_aload_n hx hb dX2_middle_0 rfl (lv_at hl 0 rfl) ?_
  refine lv_iconst (v := nI 0) hx hb dX2_middle_1 rfl ?_
  refine pm_th C0 hN10 hP hS dX2_middle_2 (fun H locs hP hS => ?_)
  refine lv_aload_n hx hb dX2_middle_5 rfl (lv_at hl 0 rfl) ?_
  refine lv_iload_n hx hb dX2_middle_6 rfl (lv_at hl 1 rfl) ?_
  refine k0_i (rn_X2_48 (As := [.int (nI i)]) (rest := []) (r := 6) C0 (m_X2_isHand__t l D cA N ad (mw ad cA c (nI 0) n nw ah rw) (nI 0) n nw ah rw i hN10 mw_at (by omega) hi _) hP hS (by omega) mw_at.1 rfl ⟨rfl, rfl⟩ ⟨by decide, by decide⟩ hl.1 rfl (Nat.le_of_ble_eq_true rfl) dX2_middle_7 ⟨Nat.le_of_ble_eq_true rfl, Nat.le_of_ble_eq_true rfl⟩) C0 hP hS (fun v7 c7 H locs hp hP hS => ?_)
  obtain ⟨rfl, rfl⟩ := hp
  refine n_if_eq (tgt := 21) hx hb (by omega) dX2_middle_10 (by decide) (fun h10 => ?_) (fun h10 => ?_)
  · exfalso; omega
  refine lv_aload_n hx hb dX2_middle_13 rfl (lv_at hl 0 rfl) ?_
  refine lv_iload_n hx hb dX2_middle_14 rfl (lv_at hl 1 rfl) ?_
  refine k0_i (rn_X2_90 (As := [.int (nI i)]) (rest := []) (r := 6) C0 (m_X2_middleOf l D cA N ad (mw ad cA c (nI 0) n nw ah rw) (nI 0) n nw ah rw i R Y L S D9 K hN10 mw_at hn5 hi hrow hok _) hP hS (by omega) mw_at.1 rfl ⟨rfl, rfl⟩ ⟨by decide, by decide⟩ hl.1 rfl (Nat.le_of_ble_eq_true rfl) dX2_middle_15 ⟨Nat.le_of_ble_eq_true rfl, Nat.le_of_ble_eq_true rfl⟩) C0 hP hS (fun v15 c15 H locs hp hP hS => ?_)
  obtain ⟨hmid, rfl⟩ := hp
  refine lv_goto (tgt := 26) hx hb dX2_middle_18 (by decide) ?_
  exact e_i C0 hr hlk hP hS dX2_middle_26 (by decide) (by decide) ⟨hmid, rfl⟩
set_option maxHeartbeats 1000000 in
set_option maxRecDepth 10000 in
theorem m_X2_shared (l : Launch) (D : va_G) (cA : Nat → ClassId) (N : Nat) (ad : Nat → Nat) (c : Nat → va_E) (th : Int32) (n : Nat) (nw ah rw : Nat → Int32) (i R Y L S D9 K : Nat) (j Ro Yo Lo So Do Ko : Nat)  (hN10 : 10 ≤ N) (hM : MoAt ad cA c th n nw ah rw) (hn5 : n ≤ 5) (hi : i < n) (hrow : RowE nw (30 * i) R Y L S D9 K) (hok : Hok R Y L S D9 K) (hj : j < n) (hrowo : RowE nw (30 * j) Ro Yo Lo So Do Ko) (hoo : Hok Ro Yo Lo So Do Ko) : Ci l yX2_shared wX2_shared { frames := 2, cells := 0, slots := 0, locals := 48 } [.ref (ad 6), .int (nI i), .int (nI j)] D cA N ad c 0 0 (fun v c' => v = nI (com (sto nw (30 * i) 0) (sto nw (30 * j) 0) Ko K) ∧ mw ad cA c (nI 0) n nw ah rw = c') := by
  intro sz9
  refine bd_of (cc := cX2_shared) (maxL := 3) (ret := some Jvm.ClassFile.FieldType.int) (by decide) rfl (Nat.le_of_ble_eq_true rfl) ?_
  intro p e s m below meth c0 C0 hr hlk hnm hP hS hsz ls hl
  subst hsz
  have hx := C0.1
  have hb := C0.2.1
  have hl : lv_has ls 3 [(0, .ref (ad 6)), (1, .int (nI i)), (2, .int (nI j))] := hl
  obtain ⟨r0, r1, r2, r3, r4, r5⟩ := id hrow
  obtain ⟨q1, q2, q3, q4, q5, q6, q7, q8, q9⟩ := id hok
  obtain ⟨t0, t1, t2, t3, t4, t5⟩ := id hrowo
  obtain ⟨o1, o2, o3, o4, o5, o6, o7, o8, o9⟩ := id hoo
  rw [← mw_self hM] at hP
  refine lv_aload_n hx hb dX2_shared_0 rfl (lv_at hl 0 rfl) ?_
  refine lv_iconst (v := nI 0) hx hb dX2_shared_1 rfl ?_
  refine pm_th C0 hN10 hP hS dX2_shared_2 (fun H locs hP hS => ?_)
  refine lv_aload_n hx hb dX2_shared_5 rfl (lv_at hl 0 rfl) ?_
  refine lv_iload_n hx hb dX2_shared_6 rfl (lv_at hl 1 rfl) ?_
  refine k0_i (rn_X2_48 (As := [.int (nI i)]) (rest := []) (r := 6) C0 (m_X2_isHand__t l D cA N ad (mw ad cA c (nI 0) n nw ah rw) (nI 0) n nw ah rw i hN10 mw_at (by omega) hi _) hP hS (by omega) mw_at.1 rfl ⟨rfl, rfl⟩ ⟨by decide, by decide⟩ hl.1 rfl (Nat.le_of_ble_eq_true rfl) dX2_shared_7 ⟨Nat.le_of_ble_eq_true rfl, Nat.le_of_ble_eq_true rfl⟩) C0 hP hS (fun v7 c7 H locs hp hP hS => ?_)
  obtain ⟨rfl, rfl⟩ := hp
  refine n_if_eq (tgt := 30) hx hb (by omega) dX2_shared_10 (by decide) (fun h10 => ?_) (fun h10 => ?_)
  · exfalso; omega
  refine lv_aload_n hx hb dX2_shared_13 rfl (lv_at hl 0 rfl) ?_
  refine lv_iload_n hx hb dX2_shared_14 rfl (lv_at hl 2 rfl) ?_
  refine k0_i (rn_X2_48 (As := [.int (nI j)]) (rest := []) (r := 6) C0 (m_X2_isHand__t l D cA N ad (mw ad cA c (nI 0) n nw ah rw) (nI 0) n nw ah rw j hN10 mw_at (by omega) hj _) hP hS (by omega) mw_at.1 rfl ⟨rfl, rfl⟩ ⟨by decide, by decide⟩ hl.1 rfl (Nat.le_of_ble_eq_true rfl) dX2_shared_15 ⟨Nat.le_of_ble_eq_true rfl, Nat.le_of_ble_eq_true rfl⟩) C0 hP hS (fun v15 c15 H locs hp hP hS => ?_)
  obtain ⟨rfl, rfl⟩ := hp
  refine n_if_eq (tgt := 30) hx hb (by omega) dX2_shared_18 (by decide) (fun h18 => ?_) (fun h18 => ?_)
  · exfalso; omega
  refine lv_aload_n hx hb dX2_shared_21 rfl (lv_at hl 0 rfl) ?_
  refine lv_iload_n hx hb dX2_shared_22 rfl (lv_at hl 1 rfl) ?_
  refine lv_iload_n hx hb dX2_shared_23 rfl (lv_at hl 2 rfl) ?_
  refine k0_i (rn_X2_93 (As := [.int (nI i), .int (nI j)]) (rest := []) (r := 6) C0 (m_X2_matched l D cA N ad (mw ad cA c (nI 0) n nw ah rw) (nI 0) n nw ah rw i R Y L S D9 K j Ro Yo Lo So Do Ko hN10 mw_at hn5 hi hrow hok hj hrowo hoo _) hP hS (by omega) mw_at.1 rfl ⟨rfl, rfl⟩ ⟨by decide, by decide⟩ hl.1 rfl (Nat.le_of_ble_eq_true rfl) dX2_shared_24 ⟨Nat.le_of_ble_eq_true rfl, Nat.le_of_ble_eq_true rfl⟩) C0 hP hS (fun v24 c24 H locs hp hP hS => ?_)
  obtain ⟨rfl, rfl⟩ := hp
  refine lv_goto (tgt := 35) hx hb dX2_shared_27 (by decide) ?_
  exact e_i C0 hr hlk hP hS dX2_shared_35 (by decide) (by decide) ⟨rfl, rfl⟩
set_option maxHeartbeats 1000000 in
set_option maxRecDepth 10000 in
theorem m_X2_luckIn (l : Launch) (D : va_G) (cA : Nat → ClassId) (N : Nat) (ad : Nat → Nat) (c : Nat → va_E) (th : Int32) (n : Nat) (nw ah rw : Nat → Int32) (i R Y L S D9 K : Nat) (y : Nat) (hN10 : 10 ≤ N) (hM : MoAt ad cA c th n nw ah rw) (hn5 : n ≤ 5) (hi : i < n) (hrow : RowE nw (30 * i) R Y L S D9 K) (hok : Hok R Y L S D9 K) (hy : y ≤ 1000) : Ci l yX2_luckIn wX2_luckIn { frames := 1, cells := 0, slots := 0, locals := 24 } [.ref (ad 6), .int (nI i), .int (nI y)] D cA N ad c 0 0 (fun v c' => v = nI (nlI y L) ∧ mw ad cA c (nI 0) n nw ah rw = c') := by
  intro sz9
  refine bd_of (cc := cX2_luckIn) (maxL := 3) (ret := some Jvm.ClassFile.FieldType.int) (by decide) rfl (Nat.le_of_ble_eq_true rfl) ?_
  intro p e s m below meth c0 C0 hr hlk hnm hP hS hsz ls hl
  subst hsz
  have hx := C0.1
  have hb := C0.2.1
  have hl : lv_has ls 3 [(0, .ref (ad 6)), (1, .int (nI i)), (2, .int (nI y))] := hl
  obtain ⟨r0, r1, r2, r3, r4, r5⟩ := id hrow
  obtain ⟨q1, q2, q3, q4, q5, q6, q7, q8, q9⟩ := id hok
  rw [← mw_self hM] at hP
  refine lv_aload_n hx hb dX2_luckIn_0 rfl (lv_at hl 0 rfl) ?_
  refine lv_iconst (v := nI 0) hx hb dX2_luckIn_1 rfl ?_
  refine pm_th C0 hN10 hP hS dX2_luckIn_2 (fun H locs hP hS => ?_)
  refine lv_aload_n hx hb dX2_luckIn_5 rfl (lv_at hl 0 rfl) ?_
  refine lv_iload_n hx hb dX2_luckIn_6 rfl (lv_at hl 1 rfl) ?_
  refine k0_i (rn_X2_48 (As := [.int (nI i)]) (rest := []) (r := 6) C0 (m_X2_isHand__t l D cA N ad (mw ad cA c (nI 0) n nw ah rw) (nI 0) n nw ah rw i hN10 mw_at (by omega) hi _) hP hS (by omega) mw_at.1 rfl ⟨rfl, rfl⟩ ⟨by decide, by decide⟩ hl.1 rfl (Nat.le_of_ble_eq_true rfl) dX2_luckIn_7 ⟨Nat.le_of_ble_eq_true rfl, Nat.le_of_ble_eq_true rfl⟩) C0 hP hS (fun v7 c7 H locs hp hP hS => ?_)
  obtain ⟨rfl, rfl⟩ := hp
  refine n_if_ne (tgt := 19) hx hb (by omega) dX2_luckIn_10 (by decide) (fun h10 => ?_) (fun h10 => ?_)
  rotate_left
  · exfalso; omega
  refine lv_iload_n hx hb dX2_luckIn_19 rfl (lv_at hl 2 rfl) ?_
  refine lv_iconst (v := nI 0) hx hb dX2_luckIn_20 rfl ?_
  refine lv_sipush (v := nI 1000) hx hb dX2_luckIn_21 rfl ?_
  refine k0_i (rn_X2_40 (As := [.int (nI y), .int (nI 0), .int (nI 1000)]) (rest := []) C0 (m_X2_isWithin l D cA N ad (mw ad cA c (nI 0) n nw ah rw) (nI y) (nI 0) (nI 1000) _) hP hS rfl ⟨rfl, rfl⟩ ⟨by decide, by decide⟩ hl.1 rfl (Nat.le_of_ble_eq_true rfl) dX2_luckIn_24 ⟨Nat.le_of_ble_eq_true rfl, Nat.le_of_ble_eq_true rfl⟩) C0 hP hS (fun v24 c24 H locs hp hP hS => ?_)
  obtain ⟨hv, rfl⟩ := hp
  obtain rfl : v24 = nI 1 := by rw [hv, if_pos ⟨nI_le (by omega) (by omega), nI_le (by omega) (by omega)⟩]; rfl
  refine n_if_eq (tgt := 39) hx hb (by omega) dX2_luckIn_27 (by decide) (fun h27 => ?_) (fun h27 => ?_)
  · exfalso; omega
  refine lv_aload_n hx hb dX2_luckIn_30 rfl (lv_at hl 0 rfl) ?_
  refine lv_iload_n hx hb dX2_luckIn_31 rfl (lv_at hl 1 rfl) ?_
  refine lv_iload_n hx hb dX2_luckIn_32 rfl (lv_at hl 2 rfl) ?_
  refine k0_i (rn_X2_96 (As := [.int (nI i), .int (nI y)]) (rest := []) (r := 6) C0 (m_X2_luckBehind l D cA N ad (mw ad cA c (nI 0) n nw ah rw) (nI 0) n nw ah rw i R Y L S D9 K y hN10 mw_at hn5 hi hrow hok (by omega) _) hP hS (by omega) mw_at.1 rfl ⟨rfl, rfl⟩ ⟨by decide, by decide⟩ hl.1 rfl (Nat.le_of_ble_eq_true rfl) dX2_luckIn_33 ⟨Nat.le_of_ble_eq_true rfl, Nat.le_of_ble_eq_true rfl⟩) C0 hP hS (fun v33 c33 H locs hp hP hS => ?_)
  obtain ⟨rfl, rfl⟩ := hp
  refine lv_goto (tgt := 44) hx hb dX2_luckIn_36 (by decide) ?_
  exact e_i C0 hr hlk hP hS dX2_luckIn_44 (by decide) (by decide) ⟨rfl, rfl⟩
set_option maxHeartbeats 1000000 in
set_option maxRecDepth 10000 in
theorem m_X2_wouldTake (l : Launch) (D : va_G) (cA : Nat → ClassId) (N : Nat) (ad : Nat → Nat) (c : Nat → va_E) (th : Int32) (n : Nat) (nw ah rw : Nat → Int32) (i R Y L S D9 K : Nat) (w : Nat) (hN10 : 10 ≤ N) (hM : MoAt ad cA c th n nw ah rw) (hn5 : n ≤ 5) (hi : i < n) (hrow : RowE nw (30 * i) R Y L S D9 K) (hok : Hok R Y L S D9 K) (hw0 : 1 ≤ w) (hw9 : w ≤ 9) : Ci l yX2_wouldTake wX2_wouldTake { frames := 3, cells := 0, slots := 0, locals := 82 } [.ref (ad 6), .int (nI i), .int (nI w)] D cA N ad c 0 0 (fun v c' => v = oI (pk R Y L (S + 1) (D9 + w) K w).1 ∧ ∃ ah', mw ad cA c (nI 0) n nw ah' rw = c') := by
  intro sz9
  refine bd_of (cc := cX2_wouldTake) (maxL := 3) (ret := some Jvm.ClassFile.FieldType.int) (by decide) rfl (Nat.le_of_ble_eq_true rfl) ?_
  intro p e s m below meth c0 C0 hr hlk hnm hP hS hsz ls hl
  subst hsz
  have hx := C0.1
  have hb := C0.2.1
  have hl : lv_has ls 3 [(0, .ref (ad 6)), (1, .int (nI i)), (2, .int (nI w))] := hl
  obtain ⟨r0, r1, r2, r3, r4, r5⟩ := id hrow
  obtain ⟨q1, q2, q3, q4, q5, q6, q7, q8, q9⟩ := id hok
  rw [← mw_self hM] at hP
  refine lv_aload_n hx hb dX2_wouldTake_0 rfl (lv_at hl 0 rfl) ?_
  refine lv_iconst (v := nI 0) hx hb dX2_wouldTake_1 rfl ?_
  refine pm_th C0 hN10 hP hS dX2_wouldTake_2 (fun H locs hP hS => ?_)
  refine lv_aload_n hx hb dX2_wouldTake_5 rfl (lv_at hl 0 rfl) ?_
  refine lv_iload_n hx hb dX2_wouldTake_6 rfl (lv_at hl 1 rfl) ?_
  refine k0_i (rn_X2_48 (As := [.int (nI i)]) (rest := []) (r := 6) C0 (m_X2_isHand__t l D cA N ad (mw ad cA c (nI 0) n nw ah rw) (nI 0) n nw ah rw i hN10 mw_at (by omega) hi _) hP hS (by omega) mw_at.1 rfl ⟨rfl, rfl⟩ ⟨by decide, by decide⟩ hl.1 rfl (Nat.le_of_ble_eq_true rfl) dX2_wouldTake_7 ⟨Nat.le_of_ble_eq_true rfl, Nat.le_of_ble_eq_true rfl⟩) C0 hP hS (fun v7 c7 H locs hp hP hS => ?_)
  obtain ⟨rfl, rfl⟩ := hp
  refine n_if_ne (tgt := 19) hx hb (by omega) dX2_wouldTake_10 (by decide) (fun h10 => ?_) (fun h10 => ?_)
  rotate_left
  · exfalso; omega
  refine lv_iload_n hx hb dX2_wouldTake_19 rfl (lv_at hl 2 rfl) ?_
  refine lv_iconst (v := nI 1) hx hb dX2_wouldTake_20 rfl ?_
  refine lv_bipush (v := nI 9) hx hb dX2_wouldTake_21 rfl ?_
  refine k0_i (rn_X2_40 (As := [.int (nI w), .int (nI 1), .int (nI 9)]) (rest := []) C0 (m_X2_isWithin l D cA N ad (mw ad cA c (nI 0) n nw ah rw) (nI w) (nI 1) (nI 9) _) hP hS rfl ⟨rfl, rfl⟩ ⟨by decide, by decide⟩ hl.1 rfl (Nat.le_of_ble_eq_true rfl) dX2_wouldTake_23 ⟨Nat.le_of_ble_eq_true rfl, Nat.le_of_ble_eq_true rfl⟩) C0 hP hS (fun v23 c23 H locs hp hP hS => ?_)
  obtain ⟨hv, rfl⟩ := hp
  obtain rfl : v23 = nI 1 := by rw [hv, if_pos ⟨nI_le (by omega) (by omega), nI_le (by omega) (by omega)⟩]; rfl
  refine n_if_eq (tgt := 38) hx hb (by omega) dX2_wouldTake_26 (by decide) (fun h26 => ?_) (fun h26 => ?_)
  · exfalso; omega
  refine lv_aload_n hx hb dX2_wouldTake_29 rfl (lv_at hl 0 rfl) ?_
  refine lv_iload_n hx hb dX2_wouldTake_30 rfl (lv_at hl 1 rfl) ?_
  refine lv_iload_n hx hb dX2_wouldTake_31 rfl (lv_at hl 2 rfl) ?_
  refine k0_i (rn_X2_102 (As := [.int (nI i), .int (nI w)]) (rest := []) (r := 6) C0 (m_X2_tried l D cA N ad (mw ad cA c (nI 0) n nw ah rw) (nI 0) n nw ah rw i R Y L S D9 K w hN10 mw_at (by omega) hi hrow hok (by omega) (by omega) _) hP hS (by omega) mw_at.1 rfl ⟨rfl, rfl⟩ ⟨by decide, by decide⟩ hl.1 rfl (Nat.le_of_ble_eq_true rfl) dX2_wouldTake_32 ⟨Nat.le_of_ble_eq_true rfl, Nat.le_of_ble_eq_true rfl⟩) C0 hP hS (fun v32 c32 H locs hp hP hS => ?_)
  obtain ⟨rfl, ah32, rfl⟩ := hp
  rw [mw_mw] at hP
  refine lv_goto (tgt := 43) hx hb dX2_wouldTake_35 (by decide) ?_
  exact e_i C0 hr hlk hP hS dX2_wouldTake_43 (by decide) (by decide) ⟨rfl, _, rfl⟩
set_option maxHeartbeats 1000000 in
set_option maxRecDepth 10000 in
theorem m_X2_wouldStay (l : Launch) (D : va_G) (cA : Nat → ClassId) (N : Nat) (ad : Nat → Nat) (c : Nat → va_E) (th : Int32) (n : Nat) (nw ah rw : Nat → Int32) (i R Y L S D9 K : Nat) (many : Nat) (hN10 : 10 ≤ N) (hM : MoAt ad cA c th n nw ah rw) (hn5 : n ≤ 5) (hi : i < n) (hrow : RowE nw (30 * i) R Y L S D9 K) (hok : Hok R Y L S D9 K) (hm0 : 1 ≤ many) (hm : many ≤ 200) : Ci l yX2_wouldStay wX2_wouldStay { frames := 3, cells := 0, slots := 0, locals := 85 } [.ref (ad 6), .int (nI i), .int (nI many)] D cA N ad c 0 0 (fun v c' => v = nI (stayC R Y (L, S, D9, K) many K) ∧ ∃ ah', mw ad cA c (nI 0) n nw ah' rw = c') := by
  intro sz9
  refine bd_of (cc := cX2_wouldStay) (maxL := 3) (ret := some Jvm.ClassFile.FieldType.int) (by decide) rfl (Nat.le_of_ble_eq_true rfl) ?_
  intro p e s m below meth c0 C0 hr hlk hnm hP hS hsz ls hl
  subst hsz
  have hx := C0.1
  have hb := C0.2.1
  have hl : lv_has ls 3 [(0, .ref (ad 6)), (1, .int (nI i)), (2, .int (nI many))] := hl
  obtain ⟨r0, r1, r2, r3, r4, r5⟩ := id hrow
  obtain ⟨q1, q2, q3, q4, q5, q6, q7, q8, q9⟩ := id hok
  rw [← mw_self hM] at hP
  refine lv_aload_n hx hb dX2_wouldStay_0 rfl (lv_at hl 0 rfl) ?_
  refine lv_iconst (v := nI 0) hx hb dX2_wouldStay_1 rfl ?_
  refine pm_th C0 hN10 hP hS dX2_wouldStay_2 (fun H locs hP hS => ?_)
  refine lv_aload_n hx hb dX2_wouldStay_5 rfl (lv_at hl 0 rfl) ?_
  refine lv_iload_n hx hb dX2_wouldStay_6 rfl (lv_at hl 1 rfl) ?_
  refine k0_i (rn_X2_48 (As := [.int (nI i)]) (rest := []) (r := 6) C0 (m_X2_isHand__t l D cA N ad (mw ad cA c (nI 0) n nw ah rw) (nI 0) n nw ah rw i hN10 mw_at (by omega) hi _) hP hS (by omega) mw_at.1 rfl ⟨rfl, rfl⟩ ⟨by decide, by decide⟩ hl.1 rfl (Nat.le_of_ble_eq_true rfl) dX2_wouldStay_7 ⟨Nat.le_of_ble_eq_true rfl, Nat.le_of_ble_eq_true rfl⟩) C0 hP hS (fun v7 c7 H locs hp hP hS => ?_)
  obtain ⟨rfl, rfl⟩ := hp
  refine n_if_ne (tgt := 19) hx hb (by omega) dX2_wouldStay_10 (by decide) (fun h10 => ?_) (fun h10 => ?_)
  rotate_left
  · exfalso; omega
  refine lv_iload_n hx hb dX2_wouldStay_19 rfl (lv_at hl 2 rfl) ?_
  refine lv_iconst (v := nI 1) hx hb dX2_wouldStay_20 rfl ?_
  refine lv_sipush (v := nI 200) hx hb dX2_wouldStay_21 rfl ?_
  refine k0_i (rn_X2_40 (As := [.int (nI many), .int (nI 1), .int (nI 200)]) (rest := []) C0 (m_X2_isWithin l D cA N ad (mw ad cA c (nI 0) n nw ah rw) (nI many) (nI 1) (nI 200) _) hP hS rfl ⟨rfl, rfl⟩ ⟨by decide, by decide⟩ hl.1 rfl (Nat.le_of_ble_eq_true rfl) dX2_wouldStay_24 ⟨Nat.le_of_ble_eq_true rfl, Nat.le_of_ble_eq_true rfl⟩) C0 hP hS (fun v24 c24 H locs hp hP hS => ?_)
  obtain ⟨hv, rfl⟩ := hp
  obtain rfl : v24 = nI 1 := by rw [hv, if_pos ⟨nI_le (by omega) (by omega), nI_le (by omega) (by omega)⟩]; rfl
  refine n_if_eq (tgt := 39) hx hb (by omega) dX2_wouldStay_27 (by decide) (fun h27 => ?_) (fun h27 => ?_)
  · exfalso; omega
  refine lv_aload_n hx hb dX2_wouldStay_30 rfl (lv_at hl 0 rfl) ?_
  refine lv_iload_n hx hb dX2_wouldStay_31 rfl (lv_at hl 1 rfl) ?_
  refine lv_iload_n hx hb dX2_wouldStay_32 rfl (lv_at hl 2 rfl) ?_
  refine k0_i (rn_X2_105 (As := [.int (nI i), .int (nI many)]) (rest := []) (r := 6) C0 (m_X2_staying l D cA N ad (mw ad cA c (nI 0) n nw ah rw) (nI 0) n nw ah rw i R Y L S D9 K many hN10 mw_at hn5 hi hrow hok (by omega) _) hP hS (by omega) mw_at.1 rfl ⟨rfl, rfl⟩ ⟨by decide, by decide⟩ hl.1 rfl (Nat.le_of_ble_eq_true rfl) dX2_wouldStay_33 ⟨Nat.le_of_ble_eq_true rfl, Nat.le_of_ble_eq_true rfl⟩) C0 hP hS (fun v33 c33 H locs hp hP hS => ?_)
  obtain ⟨rfl, ah33, rfl⟩ := hp
  rw [mw_mw] at hP
  refine lv_goto (tgt := 44) hx hb dX2_wouldStay_36 (by decide) ?_
  exact e_i C0 hr hlk hP hS dX2_wouldStay_44 (by decide) (by decide) ⟨rfl, _, rfl⟩
set_option maxHeartbeats 1000000 in
set_option maxRecDepth 10000 in
theorem m_X2_untilTaken (l : Launch) (D : va_G) (cA : Nat → ClassId) (N : Nat) (ad : Nat → Nat) (c : Nat → va_E) (th : Int32) (n : Nat) (nw ah rw : Nat → Int32) (i R Y L S D9 K : Nat)  (hN10 : 10 ≤ N) (hM : MoAt ad cA c th n nw ah rw) (hn5 : n ≤ 5) (hi : i < n) (hrow : RowE nw (30 * i) R Y L S D9 K) (hok : Hok R Y L S D9 K) : Ci l yX2_untilTaken wX2_untilTaken { frames := 3, cells := 0, slots := 0, locals := 82 } [.ref (ad 6), .int (nI i)] D cA N ad c 0 0 (fun v c' => UntP R Y L S D9 K v ∧ ∃ ah', mw ad cA c (nI 0) n nw ah' rw = c') := by
  intro sz9
  refine bd_of (cc := cX2_untilTaken) (maxL := 2) (ret := some Jvm.ClassFile.FieldType.int) (by decide) rfl (Nat.le_of_ble_eq_true rfl) ?_
  intro p e s m below meth c0 C0 hr hlk hnm hP hS hsz ls hl
  subst hsz
  have hx := C0.1
  have hb := C0.2.1
  have hl : lv_has ls 2 [(0, .ref (ad 6)), (1, .int (nI i))] := hl
  obtain ⟨r0, r1, r2, r3, r4, r5⟩ := id hrow
  obtain ⟨q1, q2, q3, q4, q5, q6, q7, q8, q9⟩ := id hok
  rw [← mw_self hM] at hP
  refine lv_aload_n hx hb dX2_untilTaken_0 rfl (lv_at hl 0 rfl) ?_
  refine lv_iconst (v := nI 0) hx hb dX2_untilTaken_1 rfl ?_
  refine pm_th C0 hN10 hP hS dX2_untilTaken_2 (fun H locs hP hS => ?_)
  refine lv_aload_n hx hb dX2_untilTaken_5 rfl (lv_at hl 0 rfl) ?_
  refine lv_iload_n hx hb dX2_untilTaken_6 rfl (lv_at hl 1 rfl) ?_
  refine k0_i (rn_X2_48 (As := [.int (nI i)]) (rest := []) (r := 6) C0 (m_X2_isHand__t l D cA N ad (mw ad cA c (nI 0) n nw ah rw) (nI 0) n nw ah rw i hN10 mw_at (by omega) hi _) hP hS (by omega) mw_at.1 rfl ⟨rfl, rfl⟩ ⟨by decide, by decide⟩ hl.1 rfl (Nat.le_of_ble_eq_true rfl) dX2_untilTaken_7 ⟨Nat.le_of_ble_eq_true rfl, Nat.le_of_ble_eq_true rfl⟩) C0 hP hS (fun v7 c7 H locs hp hP hS => ?_)
  obtain ⟨rfl, rfl⟩ := hp
  refine n_if_eq (tgt := 21) hx hb (by omega) dX2_untilTaken_10 (by decide) (fun h10 => ?_) (fun h10 => ?_)
  · exfalso; omega
  refine lv_aload_n hx hb dX2_untilTaken_13 rfl (lv_at hl 0 rfl) ?_
  refine lv_iload_n hx hb dX2_untilTaken_14 rfl (lv_at hl 1 rfl) ?_
  refine k0_i (rn_X2_108 (As := [.int (nI i)]) (rest := []) (r := 6) C0 (m_X2_taken l D cA N ad (mw ad cA c (nI 0) n nw ah rw) (nI 0) n nw ah rw i R Y L S D9 K  hN10 mw_at hn5 hi hrow hok  _) hP hS (by omega) mw_at.1 rfl ⟨rfl, rfl⟩ ⟨by decide, by decide⟩ hl.1 rfl (Nat.le_of_ble_eq_true rfl) dX2_untilTaken_15 ⟨Nat.le_of_ble_eq_true rfl, Nat.le_of_ble_eq_true rfl⟩) C0 hP hS (fun v15 c15 H locs hp hP hS => ?_)
  obtain ⟨hunt, ah15, rfl⟩ := hp
  rw [mw_mw] at hP
  refine lv_goto (tgt := 26) hx hb dX2_untilTaken_18 (by decide) ?_
  exact e_i C0 hr hlk hP hS dX2_untilTaken_26 (by decide) (by decide) ⟨hunt, _, rfl⟩
set_option maxHeartbeats 1000000 in
set_option maxRecDepth 10000 in
theorem m_X2_weightWanted (l : Launch) (D : va_G) (cA : Nat → ClassId) (N : Nat) (ad : Nat → Nat) (c : Nat → va_E) (th : Int32) (n : Nat) (nw ah rw : Nat → Int32) (i R Y L S D9 K : Nat)  (hN10 : 10 ≤ N) (hM : MoAt ad cA c th n nw ah rw) (hn5 : n ≤ 5) (hi : i < n) (hrow : RowE nw (30 * i) R Y L S D9 K) (hok : Hok R Y L S D9 K) : Ci l yX2_weightWanted wX2_weightWanted { frames := 4, cells := 0, slots := 0, locals := 104 } [.ref (ad 6), .int (nI i)] D cA N ad c 0 0 (fun v c' => WanP R Y L S D9 K v ∧ ∃ ah', mw ad cA c (nI 0) n nw ah' rw = c') := by
  intro sz9
  refine bd_of (cc := cX2_weightWanted) (maxL := 2) (ret := some Jvm.ClassFile.FieldType.int) (by decide) rfl (Nat.le_of_ble_eq_true rfl) ?_
  intro p e s m below meth c0 C0 hr hlk hnm hP hS hsz ls hl
  subst hsz
  have hx := C0.1
  have hb := C0.2.1
  have hl : lv_has ls 2 [(0, .ref (ad 6)), (1, .int (nI i))] := hl
  obtain ⟨r0, r1, r2, r3, r4, r5⟩ := id hrow
  obtain ⟨q1, q2, q3, q4, q5, q6, q7, q8, q9⟩ := id hok
  rw [← mw_self hM] at hP
  refine lv_aload_n hx hb dX2_weightWanted_0 rfl (lv_at hl 0 rfl) ?_
  refine lv_iconst (v := nI 0) hx hb dX2_weightWanted_1 rfl ?_
  refine pm_th C0 hN10 hP hS dX2_weightWanted_2 (fun H locs hP hS => ?_)
  refine lv_aload_n hx hb dX2_weightWanted_5 rfl (lv_at hl 0 rfl) ?_
  refine lv_iload_n hx hb dX2_weightWanted_6 rfl (lv_at hl 1 rfl) ?_
  refine k0_i (rn_X2_48 (As := [.int (nI i)]) (rest := []) (r := 6) C0 (m_X2_isHand__t l D cA N ad (mw ad cA c (nI 0) n nw ah rw) (nI 0) n nw ah rw i hN10 mw_at (by omega) hi _) hP hS (by omega) mw_at.1 rfl ⟨rfl, rfl⟩ ⟨by decide, by decide⟩ hl.1 rfl (Nat.le_of_ble_eq_true rfl) dX2_weightWanted_7 ⟨Nat.le_of_ble_eq_true rfl, Nat.le_of_ble_eq_true rfl⟩) C0 hP hS (fun v7 c7 H locs hp hP hS => ?_)
  obtain ⟨rfl, rfl⟩ := hp
  refine n_if_eq (tgt := 21) hx hb (by omega) dX2_weightWanted_10 (by decide) (fun h10 => ?_) (fun h10 => ?_)
  · exfalso; omega
  refine lv_aload_n hx hb dX2_weightWanted_13 rfl (lv_at hl 0 rfl) ?_
  refine lv_iload_n hx hb dX2_weightWanted_14 rfl (lv_at hl 1 rfl) ?_
  refine k0_i (rn_X2_111 (As := [.int (nI i)]) (rest := []) (r := 6) C0 (m_X2_wanted l D cA N ad (mw ad cA c (nI 0) n nw ah rw) (nI 0) n nw ah rw i R Y L S D9 K  hN10 mw_at hn5 hi hrow hok  _) hP hS (by omega) mw_at.1 rfl ⟨rfl, rfl⟩ ⟨by decide, by decide⟩ hl.1 rfl (Nat.le_of_ble_eq_true rfl) dX2_weightWanted_15 ⟨Nat.le_of_ble_eq_true rfl, Nat.le_of_ble_eq_true rfl⟩) C0 hP hS (fun v15 c15 H locs hp hP hS => ?_)
  obtain ⟨hwan, ah15, rfl⟩ := hp
  rw [mw_mw] at hP
  refine lv_goto (tgt := 26) hx hb dX2_weightWanted_18 (by decide) ?_
  exact e_i C0 hr hlk hP hS dX2_weightWanted_26 (by decide) (by decide) ⟨hwan, _, rfl⟩
set_option maxHeartbeats 1000000 in
set_option maxRecDepth 10000 in
theorem m_X2_placeOf (l : Launch) (D : va_G) (cA : Nat → ClassId) (N : Nat) (ad : Nat → Nat) (c : Nat → va_E) (th : Int32) (n : Nat) (nw ah rw : Nat → Int32) (i R Y L S D9 K : Nat) (y : Int32) (hN10 : 10 ≤ N) (hM : MoAt ad cA c th n nw ah rw) (hn5 : n ≤ 5) (hi : i < n) (hrow : RowE nw (30 * i) R Y L S D9 K) (hok : Hok R Y L S D9 K) : Ci l yX2_placeOf wX2_placeOf { frames := 1, cells := 0, slots := 0, locals := 22 } [.ref (ad 6), .int (nI i), .int y] D cA N ad c 0 0 (fun v c' => Fst (fun p => (sto nw (30 * i) 0) p = y) 0 K v ∧ mw ad cA c (nI 0) n nw ah rw = c') := by
  intro sz9
  refine bd_of (cc := cX2_placeOf) (maxL := 4) (ret := some Jvm.ClassFile.FieldType.int) (by decide) rfl (Nat.le_of_ble_eq_true rfl) ?_
  intro p e s m below meth c0 C0 hr hlk hnm hP hS hsz ls hl
  subst hsz
  have hx := C0.1
  have hb := C0.2.1
  have hl : lv_has ls 4 [(0, .ref (ad 6)), (1, .int (nI i)), (2, .int y)] := hl
  obtain ⟨r0, r1, r2, r3, r4, r5⟩ := id hrow
  obtain ⟨q1, q2, q3, q4, q5, q6, q7, q8, q9⟩ := id hok
  rw [← mw_self hM] at hP
  refine lv_aload_n hx hb dX2_placeOf_0 rfl (lv_at hl 0 rfl) ?_
  refine lv_iconst (v := nI 0) hx hb dX2_placeOf_1 rfl ?_
  refine pm_th C0 hN10 hP hS dX2_placeOf_2 (fun H locs hP hS => ?_)
  refine lv_aload_n hx hb dX2_placeOf_5 rfl (lv_at hl 0 rfl) ?_
  refine lv_iload_n hx hb dX2_placeOf_6 rfl (lv_at hl 1 rfl) ?_
  refine k0_i (rn_X2_48 (As := [.int (nI i)]) (rest := []) (r := 6) C0 (m_X2_isHand__t l D cA N ad (mw ad cA c (nI 0) n nw ah rw) (nI 0) n nw ah rw i hN10 mw_at (by omega) hi _) hP hS (by omega) mw_at.1 rfl ⟨rfl, rfl⟩ ⟨by decide, by decide⟩ hl.1 rfl (Nat.le_of_ble_eq_true rfl) dX2_placeOf_7 ⟨Nat.le_of_ble_eq_true rfl, Nat.le_of_ble_eq_true rfl⟩) C0 hP hS (fun v7 c7 H locs hp hP hS => ?_)
  obtain ⟨rfl, rfl⟩ := hp
  refine n_if_ne (tgt := 19) hx hb (by omega) dX2_placeOf_10 (by decide) (fun h10 => ?_) (fun h10 => ?_)
  rotate_left
  · exfalso; omega
  refine lv_iconst (v := nI 0) hx hb dX2_placeOf_19 rfl ?_
  refine lv_istore_n (lv' := [(3, .int (nI 0)), (0, .ref (ad 6)), (1, .int (nI i)), (2, .int y)]) hx hb dX2_placeOf_20 rfl hl (by decide) rfl (fun ls hl => ?_)
  have loop21 : ∀ (n9 : Nat) (k : Nat), (k ≤ K) → (∀ q, q < k → ¬ ((sto nw (30 * i) 0) q = y)) → K - k < n9 → ∀ (H : Heap) (locs : List Loc) (ls : Array Slot), va_P D vwCl (wl N ad (mw ad cA c (nI 0) n nw ah rw)) H → va_S (wA N ad s.heap.size) s.heap H locs → lv_has ls 4 [(0, .ref (ad 6)), (1, .int (nI i)), (2, .int y), (3, .int (nI k))] → W p l e { frames := 1, cells := 0, slots := 0, locals := 22 } s m [.ref (ad 6), .int (nI i), .int y].toArray below meth c0 H locs 0 0 (MQ below (va_Qi (fun v c' => Fst (fun p => (sto nw (30 * i) 0) p = y) 0 K v ∧ mw ad cA c (nI 0) n nw ah rw = c') (fun c' t => va_P D vwCl (wl N ad c') t.heap) (wA N ad s.heap.size)) [.ref (ad 6), .int (nI i), .int y].toArray s 0 0 (wA N ad s.heap.size)) (F0 m 21 ls []) := by
    intro n9
    induction n9 with
    | zero => intro k hk hno hlt9; exact absurd hlt9 (Nat.not_lt_zero _)
    | succ n9 ih21 =>
      intro k hk hno hlt9 H locs ls hP hS hl
      refine lv_iload_n hx hb dX2_placeOf_21 rfl (lv_at hl 3 rfl) ?_
      refine lv_aload_n hx hb dX2_placeOf_22 rfl (lv_at hl 0 rfl) ?_
      refine lv_iload_n hx hb dX2_placeOf_23 rfl (lv_at hl 1 rfl) ?_
      refine k0_i (rn_X2_67 (As := [.int (nI i)]) (rest := [.int (nI k)]) (r := 6) C0 (m_X2_held l D cA N ad (mw ad cA c (nI 0) n nw ah rw) ((nI 0)) n nw ah rw i R Y L S D9 K hN10 mw_at (by omega) hi hrow hok _) hP hS (by omega) mw_at.1 rfl ⟨rfl, rfl⟩ ⟨by decide, by decide⟩ hl.1 rfl (Nat.le_of_ble_eq_true rfl) dX2_placeOf_24 ⟨Nat.le_of_ble_eq_true rfl, Nat.le_of_ble_eq_true rfl⟩) C0 hP hS (fun v24 c24 H locs hp hP hS => ?_)
      obtain ⟨rfl, rfl⟩ := hp
      refine n_icmp_ge (tgt := 46) hx hb (by omega) (by omega) dX2_placeOf_27 (by decide) (fun h27 => ?_) (fun h27 => ?_)
      · refine lv_iload_n hx hb dX2_placeOf_46 rfl (lv_at hl 3 rfl) ?_
        refine lv_aload_n hx hb dX2_placeOf_47 rfl (lv_at hl 0 rfl) ?_
        refine lv_iload_n hx hb dX2_placeOf_48 rfl (lv_at hl 1 rfl) ?_
        refine k0_i (rn_X2_67 (As := [.int (nI i)]) (rest := [.int (nI k)]) (r := 6) C0 (m_X2_held l D cA N ad (mw ad cA c (nI 0) n nw ah rw) ((nI 0)) n nw ah rw i R Y L S D9 K hN10 mw_at (by omega) hi hrow hok _) hP hS (by omega) mw_at.1 rfl ⟨rfl, rfl⟩ ⟨by decide, by decide⟩ hl.1 rfl (Nat.le_of_ble_eq_true rfl) dX2_placeOf_49 ⟨Nat.le_of_ble_eq_true rfl, Nat.le_of_ble_eq_true rfl⟩) C0 hP hS (fun v49 c49 H locs hp hP hS => ?_)
        obtain ⟨rfl, rfl⟩ := hp
        refine n_icmp_ge (tgt := 59) hx hb (by omega) (by omega) dX2_placeOf_52 (by decide) (fun h52 => ?_) (fun h52 => ?_)
        rotate_left
        · exfalso; omega
        refine lv_iconst (v := (-1)) hx hb dX2_placeOf_59 rfl ?_
        exact e_i C0 hr hlk hP hS dX2_placeOf_60 (by decide) (by decide) ⟨Or.inr ⟨rfl, fun q hq => hno q (by omega)⟩, rfl⟩
      · refine lv_aload_n hx hb dX2_placeOf_30 rfl (lv_at hl 0 rfl) ?_
        refine lv_iload_n hx hb dX2_placeOf_31 rfl (lv_at hl 1 rfl) ?_
        refine lv_iload_n hx hb dX2_placeOf_32 rfl (lv_at hl 3 rfl) ?_
        refine k0_i (rn_X2_78 (As := [.int (nI i), .int (nI k)]) (rest := []) (r := 6) C0 (m_X2_value l D cA N ad (mw ad cA c (nI 0) n nw ah rw) ((nI 0)) n nw ah rw i k hN10 mw_at (by omega) (by omega) (by omega) _) hP hS (by omega) mw_at.1 rfl ⟨rfl, rfl⟩ ⟨by decide, by decide⟩ hl.1 rfl (Nat.le_of_ble_eq_true rfl) dX2_placeOf_33 ⟨Nat.le_of_ble_eq_true rfl, Nat.le_of_ble_eq_true rfl⟩) C0 hP hS (fun v33 c33 H locs hp hP hS => ?_)
        obtain ⟨rfl, rfl⟩ := hp
        refine lv_iload_n hx hb dX2_placeOf_36 rfl (lv_at hl 2 rfl) ?_
        refine lv_icmp_eq (tgt := 46) hx hb dX2_placeOf_37 (by decide) (fun h37 => ?_) (fun h37 => ?_)
        · refine lv_iload_n hx hb dX2_placeOf_46 rfl (lv_at hl 3 rfl) ?_
          refine lv_aload_n hx hb dX2_placeOf_47 rfl (lv_at hl 0 rfl) ?_
          refine lv_iload_n hx hb dX2_placeOf_48 rfl (lv_at hl 1 rfl) ?_
          refine k0_i (rn_X2_67 (As := [.int (nI i)]) (rest := [.int (nI k)]) (r := 6) C0 (m_X2_held l D cA N ad (mw ad cA c (nI 0) n nw ah rw) ((nI 0)) n nw ah rw i R Y L S D9 K hN10 mw_at (by omega) hi hrow hok _) hP hS (by omega) mw_at.1 rfl ⟨rfl, rfl⟩ ⟨by decide, by decide⟩ hl.1 rfl (Nat.le_of_ble_eq_true rfl) dX2_placeOf_49 ⟨Nat.le_of_ble_eq_true rfl, Nat.le_of_ble_eq_true rfl⟩) C0 hP hS (fun v49 c49 H locs hp hP hS => ?_)
          obtain ⟨rfl, rfl⟩ := hp
          refine n_icmp_ge (tgt := 59) hx hb (by omega) (by omega) dX2_placeOf_52 (by decide) (fun h52 => ?_) (fun h52 => ?_)
          · exfalso; omega
          refine lv_iload_n hx hb dX2_placeOf_55 rfl (lv_at hl 3 rfl) ?_
          refine lv_goto (tgt := 60) hx hb dX2_placeOf_56 (by decide) ?_
          exact e_i C0 hr hlk hP hS dX2_placeOf_60 (by decide) (by decide) ⟨Or.inl ⟨k, by omega, h37, hno, by rw [Nat.zero_add]⟩, rfl⟩
        · refine lv_iinc (v := nI (k + 1)) (lv' := [(3, .int (nI (k + 1))), (0, .ref (ad 6)), (1, .int (nI i)), (2, .int y)]) hx hb dX2_placeOf_40 hl (k := 3) rfl (nI_add k 1) (by decide) rfl (fun ls hl => ?_)
          refine lv_goto (tgt := 21) hx hb dX2_placeOf_43 (by decide) ?_
          exact ih21 (k + 1) (by omega) (fun q hq => (Nat.lt_or_ge q k).elim (fun e => hno q e) (fun e => by rw [show q = k from by omega]; exact h37)) (by omega) _ _ _ hP hS (lv_sub hl [1, 2, 3, 0] rfl)
  exact loop21 (_ + 1) 0 (Nat.zero_le _) (fun q h => absurd h (Nat.not_lt_zero _)) (Nat.lt_succ_self _) _ _ _ hP hS (lv_sub hl [1, 2, 3, 0] rfl)
set_option maxHeartbeats 1000000 in
set_option maxRecDepth 10000 in
theorem m_X2_drawsUntil (l : Launch) (D : va_G) (cA : Nat → ClassId) (N : Nat) (ad : Nat → Nat) (c : Nat → va_E) (th : Int32) (n : Nat) (nw ah rw : Nat → Int32) (i R Y L S D9 K : Nat) (y z : Nat) (hN10 : 10 ≤ N) (hM : MoAt ad cA c th n nw ah rw) (hn5 : n ≤ 5) (hi : i < n) (hrow : RowE nw (30 * i) R Y L S D9 K) (hok : Hok R Y L S D9 K) (hy0 : 1 ≤ y) (hy : y ≤ 100) (hz : z < y) : Ci l yX2_drawsUntil wX2_drawsUntil { frames := 1, cells := 0, slots := 0, locals := 22 } [.ref (ad 6), .int (nI i), .int (nI y), .int (nI z)] D cA N ad c 0 0 (fun v c' => Fst (fun k => nlI (k + 1) L % y = z) 1 500 v ∧ mw ad cA c (nI 0) n nw ah rw = c') := by
  intro sz9
  refine bd_of (cc := cX2_drawsUntil) (maxL := 6) (ret := some Jvm.ClassFile.FieldType.int) (by decide) rfl (Nat.le_of_ble_eq_true rfl) ?_
  intro p e s m below meth c0 C0 hr hlk hnm hP hS hsz ls hl
  subst hsz
  have hx := C0.1
  have hb := C0.2.1
  have hl : lv_has ls 6 [(0, .ref (ad 6)), (1, .int (nI i)), (2, .int (nI y)), (3, .int (nI z))] := hl
  obtain ⟨r0, r1, r2, r3, r4, r5⟩ := id hrow
  obtain ⟨q1, q2, q3, q4, q5, q6, q7, q8, q9⟩ := id hok
  rw [← mw_self hM] at hP
  refine lv_aload_n hx hb dX2_drawsUntil_0 rfl (lv_at hl 0 rfl) ?_
  refine lv_iconst (v := nI 0) hx hb dX2_drawsUntil_1 rfl ?_
  refine pm_th C0 hN10 hP hS dX2_drawsUntil_2 (fun H locs hP hS => ?_)
  refine lv_aload_n hx hb dX2_drawsUntil_5 rfl (lv_at hl 0 rfl) ?_
  refine lv_iload_n hx hb dX2_drawsUntil_6 rfl (lv_at hl 1 rfl) ?_
  refine k0_i (rn_X2_48 (As := [.int (nI i)]) (rest := []) (r := 6) C0 (m_X2_isHand__t l D cA N ad (mw ad cA c (nI 0) n nw ah rw) (nI 0) n nw ah rw i hN10 mw_at (by omega) hi _) hP hS (by omega) mw_at.1 rfl ⟨rfl, rfl⟩ ⟨by decide, by decide⟩ hl.1 rfl (Nat.le_of_ble_eq_true rfl) dX2_drawsUntil_7 ⟨Nat.le_of_ble_eq_true rfl, Nat.le_of_ble_eq_true rfl⟩) C0 hP hS (fun v7 c7 H locs hp hP hS => ?_)
  obtain ⟨rfl, rfl⟩ := hp
  refine n_if_ne (tgt := 19) hx hb (by omega) dX2_drawsUntil_10 (by decide) (fun h10 => ?_) (fun h10 => ?_)
  rotate_left
  · exfalso; omega
  refine lv_iload_n hx hb dX2_drawsUntil_19 rfl (lv_at hl 2 rfl) ?_
  refine lv_iconst (v := nI 1) hx hb dX2_drawsUntil_20 rfl ?_
  refine lv_bipush (v := nI 100) hx hb dX2_drawsUntil_21 rfl ?_
  refine k0_i (rn_X2_40 (As := [.int (nI y), .int (nI 1), .int (nI 100)]) (rest := []) C0 (m_X2_isWithin l D cA N ad (mw ad cA c (nI 0) n nw ah rw) (nI y) (nI 1) (nI 100) _) hP hS rfl ⟨rfl, rfl⟩ ⟨by decide, by decide⟩ hl.1 rfl (Nat.le_of_ble_eq_true rfl) dX2_drawsUntil_23 ⟨Nat.le_of_ble_eq_true rfl, Nat.le_of_ble_eq_true rfl⟩) C0 hP hS (fun v23 c23 H locs hp hP hS => ?_)
  obtain ⟨hv, rfl⟩ := hp
  obtain rfl : v23 = nI 1 := by rw [hv, if_pos ⟨nI_le (by omega) (by omega), nI_le (by omega) (by omega)⟩]; rfl
  refine n_if_eq (tgt := 40) hx hb (by omega) dX2_drawsUntil_26 (by decide) (fun h26 => ?_) (fun h26 => ?_)
  · exfalso; omega
  refine lv_iload_n hx hb dX2_drawsUntil_29 rfl (lv_at hl 3 rfl) ?_
  refine lv_iconst (v := nI 0) hx hb dX2_drawsUntil_30 rfl ?_
  refine lv_iload_n hx hb dX2_drawsUntil_31 rfl (lv_at hl 2 rfl) ?_
  refine lv_iconst (v := nI 1) hx hb dX2_drawsUntil_32 rfl ?_
  refine n_isub hx hb (by omega) dX2_drawsUntil_33 ?_
  refine k0_i (rn_X2_40 (As := [.int (nI z), .int (nI 0), .int (nI (y - 1))]) (rest := []) C0 (m_X2_isWithin l D cA N ad (mw ad cA c (nI 0) n nw ah rw) (nI z) (nI 0) (nI (y - 1)) _) hP hS rfl ⟨rfl, rfl⟩ ⟨by decide, by decide⟩ hl.1 rfl (Nat.le_of_ble_eq_true rfl) dX2_drawsUntil_34 ⟨Nat.le_of_ble_eq_true rfl, Nat.le_of_ble_eq_true rfl⟩) C0 hP hS (fun v34 c34 H locs hp hP hS => ?_)
  obtain ⟨hv, rfl⟩ := hp
  obtain rfl : v34 = nI 1 := by rw [hv, if_pos ⟨nI_le (by omega) (by omega), nI_le (by omega) (by omega)⟩]; rfl
  refine n_if_ne (tgt := 46) hx hb (by omega) dX2_drawsUntil_37 (by decide) (fun h37 => ?_) (fun h37 => ?_)
  rotate_left
  · exfalso; omega
  refine lv_aload_n hx hb dX2_drawsUntil_46 rfl (lv_at hl 0 rfl) ?_
  refine gf_X2_9 C0 hP (by omega) mw_at.1 rfl dX2_drawsUntil_47 ?_
  refine lv_bipush (v := nI 30) hx hb dX2_drawsUntil_50 rfl ?_
  refine lv_iload_n hx hb dX2_drawsUntil_52 rfl (lv_at hl 1 rfl) ?_
  refine n_imul hx hb dX2_drawsUntil_53 ?_
  refine lv_iconst (v := nI 2) hx hb dX2_drawsUntil_54 rfl ?_
  refine n_iadd hx hb dX2_drawsUntil_55 ?_
  refine a_ildE C0 hP (by omega) mw_at.2.1 (by omega) (by omega) r2 dX2_drawsUntil_56 ?_
  refine lv_istore (lv' := [(4, .int (nI L)), (0, .ref (ad 6)), (1, .int (nI i)), (2, .int (nI y)), (3, .int (nI z))]) hx hb dX2_drawsUntil_57 hl (by decide) rfl (fun ls hl => ?_)
  refine lv_iconst (v := nI 1) hx hb dX2_drawsUntil_59 rfl ?_
  refine lv_istore (lv' := [(5, .int (nI 1)), (4, .int (nI L)), (0, .ref (ad 6)), (1, .int (nI i)), (2, .int (nI y)), (3, .int (nI z))]) hx hb dX2_drawsUntil_60 hl (by decide) rfl (fun ls hl => ?_)
  have loop62 : ∀ (n9 : Nat) (k : Nat), (k ≤ 500) → (∀ q, q < k → ¬ (nlI (q + 1) L % y = z)) → 500 - k < n9 → ∀ (H : Heap) (locs : List Loc) (ls : Array Slot), va_P D vwCl (wl N ad (mw ad cA c (nI 0) n nw ah rw)) H → va_S (wA N ad s.heap.size) s.heap H locs → lv_has ls 6 [(0, .ref (ad 6)), (1, .int (nI i)), (2, .int (nI y)), (3, .int (nI z)), (4, .int (nI (nlI k L))), (5, .int (nI (1 + k)))] → W p l e { frames := 1, cells := 0, slots := 0, locals := 22 } s m [.ref (ad 6), .int (nI i), .int (nI y), .int (nI z)].toArray below meth c0 H locs 0 0 (MQ below (va_Qi (fun v c' => Fst (fun k => nlI (k + 1) L % y = z) 1 500 v ∧ mw ad cA c (nI 0) n nw ah rw = c') (fun c' t => va_P D vwCl (wl N ad c') t.heap) (wA N ad s.heap.size)) [.ref (ad 6), .int (nI i), .int (nI y), .int (nI z)].toArray s 0 0 (wA N ad s.heap.size)) (F0 m 62 ls []) := by
    intro n9
    induction n9 with
    | zero => intro k hk hno hlt9; exact absurd hlt9 (Nat.not_lt_zero _)
    | succ n9 ih62 =>
      intro k hk hno hlt9 H locs ls hP hS hl
      have hnl := nlI_le q4 k
      have hnl2 : (nlI k L * 4621 + 2777) % 10000 < 10000 := Nat.mod_lt _ (by decide)
      have hmd : (nlI k L * 4621 + 2777) % 10000 % y < y := Nat.mod_lt _ hy0
      refine lv_iload hx hb dX2_drawsUntil_62 (lv_at hl 5 rfl) ?_
      refine lv_sipush (v := nI 500) hx hb dX2_drawsUntil_64 rfl ?_
      refine n_icmp_gt (tgt := 103) hx hb (by omega) (by omega) dX2_drawsUntil_67 (by decide) (fun h67 => ?_) (fun h67 => ?_)
      · refine lv_iconst (v := (-1)) hx hb dX2_drawsUntil_103 rfl ?_
        exact e_i C0 hr hlk hP hS dX2_drawsUntil_104 (by decide) (by decide) ⟨Or.inr ⟨rfl, fun q hq => hno q (by omega)⟩, rfl⟩
      · refine lv_iload hx hb dX2_drawsUntil_70 (lv_at hl 4 rfl) ?_
        refine lv_sipush (v := nI 4621) hx hb dX2_drawsUntil_72 rfl ?_
        refine n_imul hx hb dX2_drawsUntil_75 ?_
        refine lv_sipush (v := nI 2777) hx hb dX2_drawsUntil_76 rfl ?_
        refine n_iadd hx hb dX2_drawsUntil_79 ?_
        refine lv_sipush (v := nI 10000) hx hb dX2_drawsUntil_80 rfl ?_
        refine n_irem hx hb (by omega) (by omega) (by omega) dX2_drawsUntil_83 ?_
        refine lv_istore (lv' := [(4, .int (nI (((nlI k L) * 4621 + 2777) % 10000))), (0, .ref (ad 6)), (1, .int (nI i)), (2, .int (nI y)), (3, .int (nI z)), (5, .int (nI (1 + k)))]) hx hb dX2_drawsUntil_84 hl (by decide) rfl (fun ls hl => ?_)
        refine lv_iload hx hb dX2_drawsUntil_86 (lv_at hl 0 rfl) ?_
        refine lv_iload_n hx hb dX2_drawsUntil_88 rfl (lv_at hl 3 rfl) ?_
        refine n_irem hx hb (by omega) (by omega) (by omega) dX2_drawsUntil_89 ?_
        refine lv_iload_n hx hb dX2_drawsUntil_90 rfl (lv_at hl 4 rfl) ?_
        refine n_icmp_ne (tgt := 97) hx hb (by omega) (by omega) dX2_drawsUntil_91 (by decide) (fun h91 => ?_) (fun h91 => ?_)
        · refine lv_iinc (v := nI (1 + k + 1)) (lv' := [(5, .int (nI (1 + k + 1))), (4, .int (nI (((nlI k L) * 4621 + 2777) % 10000))), (0, .ref (ad 6)), (1, .int (nI i)), (2, .int (nI y)), (3, .int (nI z))]) hx hb dX2_drawsUntil_97 hl (k := 5) rfl (nI_add (1 + k) 1) (by decide) rfl (fun ls hl => ?_)
          refine lv_goto (tgt := 62) hx hb dX2_drawsUntil_100 (by decide) ?_
          exact ih62 (k + 1) (by omega) (fun q hq => (Nat.lt_or_ge q k).elim (fun e => hno q e) (fun e => by rw [show q = k from by omega]; exact h91)) (by omega) _ _ _ hP hS (lv_sub hl [2, 3, 4, 5, 1, 0] rfl)
        · refine lv_iload hx hb dX2_drawsUntil_94 (lv_at hl 5 rfl) ?_
          exact e_i C0 hr hlk hP hS dX2_drawsUntil_96 (by decide) (by decide) ⟨Or.inl ⟨k, by omega, h91, hno, rfl⟩, rfl⟩
  exact loop62 (_ + 1) 0 (Nat.zero_le _) (fun q h => absurd h (Nat.not_lt_zero _)) (Nat.lt_succ_self _) _ _ _ hP hS (lv_sub hl [2, 3, 4, 5, 1, 0] rfl)
set_option maxHeartbeats 1000000 in
set_option maxRecDepth 10000 in
theorem m_X2_meanValue (l : Launch) (D : va_G) (cA : Nat → ClassId) (N : Nat) (ad : Nat → Nat) (c : Nat → va_E) (th : Int32) (n : Nat) (nw ah rw : Nat → Int32) (i R Y L S D9 K : Nat)  (hN10 : 10 ≤ N) (hM : MoAt ad cA c th n nw ah rw) (hn5 : n ≤ 5) (hi : i < n) (hrow : RowE nw (30 * i) R Y L S D9 K) (hok : Hok R Y L S D9 K) (hnan : 1 ≤ K → vf_n64 (FP.ddiv (FP.i2d (tot (sto nw (30 * i) 0) K)) (FP.i2d (nI K)))) : Cd l yX2_meanValue wX2_meanValue { frames := 2, cells := 0, slots := 0, locals := 45 } [.ref (ad 6), .int (nI i)] D cA N ad c 0 0 (fun v c' => v = (if K = 0 then FP.dconst0 else FP.ddiv (FP.i2d (tot (sto nw (30 * i) 0) K)) (FP.i2d (nI K))) ∧ mw ad cA c (nI 0) n nw ah rw = c') := by
  intro sz9
  refine bd_of (cc := cX2_meanValue) (maxL := 2) (ret := some Jvm.ClassFile.FieldType.double) (by decide) rfl (Nat.le_of_ble_eq_true rfl) ?_
  intro p e s m below meth c0 C0 hr hlk hnm hP hS hsz ls hl
  subst hsz
  have hx := C0.1
  have hb := C0.2.1
  have hl : lv_has ls 2 [(0, .ref (ad 6)), (1, .int (nI i))] := hl
  obtain ⟨r0, r1, r2, r3, r4, r5⟩ := id hrow
  obtain ⟨q1, q2, q3, q4, q5, q6, q7, q8, q9⟩ := id hok
  rw [← mw_self hM] at hP
  refine lv_aload_n hx hb dX2_meanValue_0 rfl (lv_at hl 0 rfl) ?_
  refine lv_iconst (v := nI 0) hx hb dX2_meanValue_1 rfl ?_
  refine pm_th C0 hN10 hP hS dX2_meanValue_2 (fun H locs hP hS => ?_)
  refine lv_aload_n hx hb dX2_meanValue_5 rfl (lv_at hl 0 rfl) ?_
  refine lv_iload_n hx hb dX2_meanValue_6 rfl (lv_at hl 1 rfl) ?_
  refine k0_i (rn_X2_48 (As := [.int (nI i)]) (rest := []) (r := 6) C0 (m_X2_isHand__t l D cA N ad (mw ad cA c (nI 0) n nw ah rw) (nI 0) n nw ah rw i hN10 mw_at (by omega) hi _) hP hS (by omega) mw_at.1 rfl ⟨rfl, rfl⟩ ⟨by decide, by decide⟩ hl.1 rfl (Nat.le_of_ble_eq_true rfl) dX2_meanValue_7 ⟨Nat.le_of_ble_eq_true rfl, Nat.le_of_ble_eq_true rfl⟩) C0 hP hS (fun v7 c7 H locs hp hP hS => ?_)
  obtain ⟨rfl, rfl⟩ := hp
  refine n_if_ne (tgt := 20) hx hb (by omega) dX2_meanValue_10 (by decide) (fun h10 => ?_) (fun h10 => ?_)
  rotate_left
  · exfalso; omega
  refine lv_aload_n hx hb dX2_meanValue_20 rfl (lv_at hl 0 rfl) ?_
  refine lv_iload_n hx hb dX2_meanValue_21 rfl (lv_at hl 1 rfl) ?_
  refine k0_i (rn_X2_67 (As := [.int (nI i)]) (rest := []) (r := 6) C0 (m_X2_held l D cA N ad (mw ad cA c (nI 0) n nw ah rw) (nI 0) n nw ah rw i R Y L S D9 K hN10 mw_at (by omega) hi hrow hok _) hP hS (by omega) mw_at.1 rfl ⟨rfl, rfl⟩ ⟨by decide, by decide⟩ hl.1 rfl (Nat.le_of_ble_eq_true rfl) dX2_meanValue_22 ⟨Nat.le_of_ble_eq_true rfl, Nat.le_of_ble_eq_true rfl⟩) C0 hP hS (fun v22 c22 H locs hp hP hS => ?_)
  obtain ⟨rfl, rfl⟩ := hp
  refine n_if_ne (tgt := 32) hx hb (by omega) dX2_meanValue_25 (by decide) (fun h25 => ?_) (fun h25 => ?_)
  · refine lv_aload_n hx hb dX2_meanValue_32 rfl (lv_at hl 0 rfl) ?_
    refine lv_iload_n hx hb dX2_meanValue_33 rfl (lv_at hl 1 rfl) ?_
    refine k0_i (rn_X2_81 (As := [.int (nI i)]) (rest := []) (r := 6) C0 (m_X2_total l D cA N ad (mw ad cA c (nI 0) n nw ah rw) (nI 0) n nw ah rw i R Y L S D9 K hN10 mw_at hn5 hi hrow hok _) hP hS (by omega) mw_at.1 rfl ⟨rfl, rfl⟩ ⟨by decide, by decide⟩ hl.1 rfl (Nat.le_of_ble_eq_true rfl) dX2_meanValue_34 ⟨Nat.le_of_ble_eq_true rfl, Nat.le_of_ble_eq_true rfl⟩) C0 hP hS (fun v34 c34 H locs hp hP hS => ?_)
    obtain ⟨rfl, rfl⟩ := hp
    refine lv_i2d hx hb dX2_meanValue_37 ?_
    refine lv_aload_n hx hb dX2_meanValue_38 rfl (lv_at hl 0 rfl) ?_
    refine lv_iload_n hx hb dX2_meanValue_39 rfl (lv_at hl 1 rfl) ?_
    refine k0_i (rn_X2_67 (As := [.int (nI i)]) (rest := [.double (FP.i2d (tot (sto nw (30 * i) 0) K))]) (r := 6) C0 (m_X2_held l D cA N ad (mw ad cA c (nI 0) n nw ah rw) (nI 0) n nw ah rw i R Y L S D9 K hN10 mw_at (by omega) hi hrow hok _) hP hS (by omega) mw_at.1 rfl ⟨rfl, rfl⟩ ⟨by decide, by decide⟩ hl.1 rfl (Nat.le_of_ble_eq_true rfl) dX2_meanValue_40 ⟨Nat.le_of_ble_eq_true rfl, Nat.le_of_ble_eq_true rfl⟩) C0 hP hS (fun v40 c40 H locs hp hP hS => ?_)
    obtain ⟨rfl, rfl⟩ := hp
    refine lv_i2d hx hb dX2_meanValue_43 ?_
    refine lv_ddiv hx hb dX2_meanValue_44 (hnan (by omega)) ?_
    exact e_d C0 hr hlk hP hS dX2_meanValue_45 (by decide) (by decide) ⟨by rw [if_neg (by omega)], rfl⟩
  · refine lv_dconst0 hx hb dX2_meanValue_28 ?_
    refine lv_goto (tgt := 45) hx hb dX2_meanValue_29 (by decide) ?_
    exact e_d C0 hr hlk hP hS dX2_meanValue_45 (by decide) (by decide) ⟨by rw [if_pos (by omega)], rfl⟩
