/-! a row of stones: the k-th has the value (x + k) % 1000 and the weight (w - 1 + k) % 9 + 1 -/
def wtR (w k : Nat) : Nat := (w - 1 + k) % 9 + 1
theorem wtR_in (w k : Nat) : 1 ≤ wtR w k ∧ wtR w k ≤ 9 := by unfold wtR; omega
def rwS (R Y w : Nat) : Nat → Nat × Nat × Nat × Nat → Nat × Nat × Nat × Nat
  | 0, x => x
  | k + 1, x => let y := rwS R Y w k x; ((pk R Y y.1 (y.2.1 + 1) (y.2.2.1 + wtR w k) y.2.2.2 (wtR w k)).2.1, y.2.1 + 1, y.2.2.1 + wtR w k, (pk R Y y.1 (y.2.1 + 1) (y.2.2.1 + wtR w k) y.2.2.2 (wtR w k)).2.2)
def rwP (R Y w k : Nat) (x : Nat × Nat × Nat × Nat) : Option Nat := (pk R Y (rwS R Y w k x).1 ((rwS R Y w k x).2.1 + 1) ((rwS R Y w k x).2.2.1 + wtR w k) (rwS R Y w k x).2.2.2 (wtR w k)).1
def rwT (R Y w : Nat) (x : Nat × Nat × Nat × Nat) (st : Nat → Nat → Int32) (v : Nat) : Nat → Nat → Nat → Int32
  | 0 => st
  | k + 1 => stT (rwT R Y w x st v k) (rwP R Y w k x) (nI ((v + k) % 1000)) (nI (wtR w k)) (nI ((rwS R Y w k x).2.1 + 1))
def rwC (R Y w : Nat) (x : Nat × Nat × Nat × Nat) : Nat → Nat
  | 0 => 0
  | k + 1 => rwC R Y w x k + (if rwP R Y w k x = none then 0 else 1)
theorem rwC_le {R Y w : Nat} {x : Nat × Nat × Nat × Nat} : ∀ k, rwC R Y w x k ≤ k
  | 0 => Nat.le_refl 0
  | k + 1 => by have := rwC_le (R := R) (Y := Y) (w := w) (x := x) k; unfold rwC; split <;> omega
theorem rwS_in {R Y w : Nat} (hR : 0 < R) {x : Nat × Nat × Nat × Nat} (hL : x.1 ≤ 9999) (hK : x.2.2.2 ≤ R) : ∀ k, (rwS R Y w k x).1 ≤ 9999 ∧ (rwS R Y w k x).2.1 = x.2.1 + k ∧ (rwS R Y w k x).2.2.1 ≤ x.2.2.1 + k * 9 ∧ x.2.2.1 + k ≤ (rwS R Y w k x).2.2.1 ∧ (rwS R Y w k x).2.2.2 ≤ R
  | 0 => ⟨hL, rfl, Nat.le_refl _, Nat.le_refl _, hK⟩
  | k + 1 => by
    obtain ⟨h1, h2, h3, h5, h4⟩ := rwS_in (w := w) (Y := Y) hR hL hK k
    obtain ⟨w1, w2⟩ := wtR_in w k
    obtain ⟨-, p2, p3⟩ := pk9_in (R := R) (Y := Y) (L := (rwS R Y w k x).1) (S := (rwS R Y w k x).2.1 + 1) (D := (rwS R Y w k x).2.2.1 + wtR w k) (K := (rwS R Y w k x).2.2.2) (w := wtR w k) hR h4
    refine ⟨p3 h1, by show (rwS R Y w k x).2.1 + 1 = _; omega, by show (rwS R Y w k x).2.2.1 + wtR w k ≤ _; omega, by show _ ≤ (rwS R Y w k x).2.2.1 + wtR w k; omega, p2⟩
set_option maxHeartbeats 1000000 in
set_option maxRecDepth 10000 in
theorem m_X1_handHolding (l : Launch) (D : va_G) (cA : Nat → ClassId) (N : Nat) (ad : Nat → Nat) (c : Nat → va_E) (n i R Y L S D9 K : Nat) (st : Nat → Nat → Int32) (y : Nat) (hN : 6 + 4 * n ≤ N) (hF : FH ad cA c n) (hi : i < n) (hH : HandAt ad cA c (6 + 4 * i) R Y L S D9 K st) (hok : Hok R Y L S D9 K) (hy : y < K) : Cr l yX1_handHolding wX1_handHolding { frames := 1, cells := 0, slots := 0, locals := 22 } [.ref (ad 0), .int (nI i), .int (nI y)] D cA N ad c 0 0 (6 + 4 * i) := by
  intro sz9
  refine bd_of (cc := cX1_handHolding) (maxL := 4) (ret := some (Jvm.ClassFile.FieldType.object "FairHandful$Hand")) (by decide) rfl (Nat.le_of_ble_eq_true rfl) ?_
  intro p e s m below meth c0 C0 hr hlk hnm hP hS hsz ls hl
  subst hsz
  have hx := C0.1
  have hb := C0.2.1
  have hl : lv_has ls 4 [(0, .ref (ad 0)), (1, .int (nI i)), (2, .int (nI y))] := hl
  obtain ⟨q1, q2, q3, q4, q5, q6, q7, q8, q9⟩ := id hok
  have hn5 := hF.2.2
  refine lv_aload_n hx hb dX1_handHolding_0 rfl (lv_at hl 0 rfl) ?_
  refine lv_iload_n hx hb dX1_handHolding_1 rfl (lv_at hl 1 rfl) ?_
  refine k0_r (rn_X1_42 (As := [.int (nI i)]) (rest := []) (r := 0) C0 (m_X1_handAt l D cA N ad (c) n i (by omega) hF (by omega) (by omega) _) hP hS (by omega) hF.1 rfl ⟨rfl, rfl⟩ ⟨by decide, by decide⟩ hl.1 rfl (Nat.le_of_ble_eq_true rfl) dX1_handHolding_2 ⟨Nat.le_of_ble_eq_true rfl, Nat.le_of_ble_eq_true rfl⟩) C0 hP hS (fun H locs hP hS => ?_)
  refine lv_astore_n (lv' := [(3, .ref (ad (6 + 4 * i))), (0, .ref (ad 0)), (1, .int (nI i)), (2, .int (nI y))]) hx hb dX1_handHolding_5 rfl hl (by decide) rfl (fun ls hl => ?_)
  refine lv_iload_n hx hb dX1_handHolding_6 rfl (lv_at hl 3 rfl) ?_
  refine n_if_lt (tgt := 18) hx hb (by omega) dX1_handHolding_7 (by decide) (fun h7 => ?_) (fun h7 => ?_)
  · exfalso; omega
  refine lv_iload_n hx hb dX1_handHolding_10 rfl (lv_at hl 3 rfl) ?_
  refine lv_aload_n hx hb dX1_handHolding_11 rfl (lv_at hl 0 rfl) ?_
  refine gh_X1_81 C0 hP hH (by omega) dX1_handHolding_12 ?_
  refine n_icmp_lt (tgt := 28) hx hb (by omega) (by omega) dX1_handHolding_15 (by decide) (fun h15 => ?_) (fun h15 => ?_)
  rotate_left
  · exfalso; omega
  refine lv_aload_n hx hb dX1_handHolding_28 rfl (lv_at hl 0 rfl) ?_
  exact e_r C0 hr ⟨_, rfl⟩ hlk hP hS dX1_handHolding_29 (by decide) (by decide)
set_option maxHeartbeats 1000000 in
set_option maxRecDepth 10000 in
theorem m_X1_holds (l : Launch) (D : va_G) (cA : Nat → ClassId) (N : Nat) (ad : Nat → Nat) (c : Nat → va_E) (n i R Y L S D9 K : Nat) (st : Nat → Nat → Int32)  (hN : 6 + 4 * n ≤ N) (hF : FH ad cA c n) (hi : i < n) (hH : HandAt ad cA c (6 + 4 * i) R Y L S D9 K st) (hok : Hok R Y L S D9 K) : Ci l yX1_holds wX1_holds { frames := 1, cells := 0, slots := 0, locals := 22 } [.ref (ad 0), .int (nI i)] D cA N ad c 0 0 (fun v c' => v = nI K ∧ c = c') := by
  intro sz9
  refine bd_of (cc := cX1_holds) (maxL := 2) (ret := some Jvm.ClassFile.FieldType.int) (by decide) rfl (Nat.le_of_ble_eq_true rfl) ?_
  intro p e s m below meth c0 C0 hr hlk hnm hP hS hsz ls hl
  subst hsz
  have hx := C0.1
  have hb := C0.2.1
  have hl : lv_has ls 2 [(0, .ref (ad 0)), (1, .int (nI i))] := hl
  obtain ⟨q1, q2, q3, q4, q5, q6, q7, q8, q9⟩ := id hok
  have hn5 := hF.2.2
  refine lv_aload_n hx hb dX1_holds_0 rfl (lv_at hl 0 rfl) ?_
  refine lv_iload_n hx hb dX1_holds_1 rfl (lv_at hl 1 rfl) ?_
  refine k0_r (rn_X1_42 (As := [.int (nI i)]) (rest := []) (r := 0) C0 (m_X1_handAt l D cA N ad (c) n i (by omega) hF (by omega) (by omega) _) hP hS (by omega) hF.1 rfl ⟨rfl, rfl⟩ ⟨by decide, by decide⟩ hl.1 rfl (Nat.le_of_ble_eq_true rfl) dX1_holds_2 ⟨Nat.le_of_ble_eq_true rfl, Nat.le_of_ble_eq_true rfl⟩) C0 hP hS (fun H locs hP hS => ?_)
  refine gh_X1_81 C0 hP hH (by omega) dX1_holds_5 ?_
  exact e_i C0 hr hlk hP hS dX1_holds_8 (by decide) (by decide) ⟨rfl, rfl⟩
set_option maxHeartbeats 1000000 in
set_option maxRecDepth 10000 in
theorem m_X1_roomOf (l : Launch) (D : va_G) (cA : Nat → ClassId) (N : Nat) (ad : Nat → Nat) (c : Nat → va_E) (n i R Y L S D9 K : Nat) (st : Nat → Nat → Int32)  (hN : 6 + 4 * n ≤ N) (hF : FH ad cA c n) (hi : i < n) (hH : HandAt ad cA c (6 + 4 * i) R Y L S D9 K st) (hok : Hok R Y L S D9 K) : Ci l yX1_roomOf wX1_roomOf { frames := 1, cells := 0, slots := 0, locals := 22 } [.ref (ad 0), .int (nI i)] D cA N ad c 0 0 (fun v c' => v = nI R ∧ c = c') := by
  intro sz9
  refine bd_of (cc := cX1_roomOf) (maxL := 2) (ret := some Jvm.ClassFile.FieldType.int) (by decide) rfl (Nat.le_of_ble_eq_true rfl) ?_
  intro p e s m below meth c0 C0 hr hlk hnm hP hS hsz ls hl
  subst hsz
  have hx := C0.1
  have hb := C0.2.1
  have hl : lv_has ls 2 [(0, .ref (ad 0)), (1, .int (nI i))] := hl
  obtain ⟨q1, q2, q3, q4, q5, q6, q7, q8, q9⟩ := id hok
  have hn5 := hF.2.2
  refine lv_aload_n hx hb dX1_roomOf_0 rfl (lv_at hl 0 rfl) ?_
  refine lv_iload_n hx hb dX1_roomOf_1 rfl (lv_at hl 1 rfl) ?_
  refine k0_r (rn_X1_42 (As := [.int (nI i)]) (rest := []) (r := 0) C0 (m_X1_handAt l D cA N ad (c) n i (by omega) hF (by omega) (by omega) _) hP hS (by omega) hF.1 rfl ⟨rfl, rfl⟩ ⟨by decide, by decide⟩ hl.1 rfl (Nat.le_of_ble_eq_true rfl) dX1_roomOf_2 ⟨Nat.le_of_ble_eq_true rfl, Nat.le_of_ble_eq_true rfl⟩) C0 hP hS (fun H locs hP hS => ?_)
  refine gh_X1_84 C0 hP hH (by omega) dX1_roomOf_5 ?_
  exact e_i C0 hr hlk hP hS dX1_roomOf_8 (by decide) (by decide) ⟨rfl, rfl⟩
set_option maxHeartbeats 1000000 in
set_option maxRecDepth 10000 in
theorem m_X1_seenBy (l : Launch) (D : va_G) (cA : Nat → ClassId) (N : Nat) (ad : Nat → Nat) (c : Nat → va_E) (n i R Y L S D9 K : Nat) (st : Nat → Nat → Int32)  (hN : 6 + 4 * n ≤ N) (hF : FH ad cA c n) (hi : i < n) (hH : HandAt ad cA c (6 + 4 * i) R Y L S D9 K st) (hok : Hok R Y L S D9 K) : Ci l yX1_seenBy wX1_seenBy { frames := 1, cells := 0, slots := 0, locals := 22 } [.ref (ad 0), .int (nI i)] D cA N ad c 0 0 (fun v c' => v = nI S ∧ c = c') := by
  intro sz9
  refine bd_of (cc := cX1_seenBy) (maxL := 2) (ret := some Jvm.ClassFile.FieldType.int) (by decide) rfl (Nat.le_of_ble_eq_true rfl) ?_
  intro p e s m below meth c0 C0 hr hlk hnm hP hS hsz ls hl
  subst hsz
  have hx := C0.1
  have hb := C0.2.1
  have hl : lv_has ls 2 [(0, .ref (ad 0)), (1, .int (nI i))] := hl
  obtain ⟨q1, q2, q3, q4, q5, q6, q7, q8, q9⟩ := id hok
  have hn5 := hF.2.2
  refine lv_aload_n hx hb dX1_seenBy_0 rfl (lv_at hl 0 rfl) ?_
  refine lv_iload_n hx hb dX1_seenBy_1 rfl (lv_at hl 1 rfl) ?_
  refine k0_r (rn_X1_42 (As := [.int (nI i)]) (rest := []) (r := 0) C0 (m_X1_handAt l D cA N ad (c) n i (by omega) hF (by omega) (by omega) _) hP hS (by omega) hF.1 rfl ⟨rfl, rfl⟩ ⟨by decide, by decide⟩ hl.1 rfl (Nat.le_of_ble_eq_true rfl) dX1_seenBy_2 ⟨Nat.le_of_ble_eq_true rfl, Nat.le_of_ble_eq_true rfl⟩) C0 hP hS (fun H locs hP hS => ?_)
  refine gh_X1_87 C0 hP hH (by omega) dX1_seenBy_5 ?_
  exact e_i C0 hr hlk hP hS dX1_seenBy_8 (by decide) (by decide) ⟨rfl, rfl⟩
set_option maxHeartbeats 1000000 in
set_option maxRecDepth 10000 in
theorem m_X1_loadOf (l : Launch) (D : va_G) (cA : Nat → ClassId) (N : Nat) (ad : Nat → Nat) (c : Nat → va_E) (n i R Y L S D9 K : Nat) (st : Nat → Nat → Int32)  (hN : 6 + 4 * n ≤ N) (hF : FH ad cA c n) (hi : i < n) (hH : HandAt ad cA c (6 + 4 * i) R Y L S D9 K st) (hok : Hok R Y L S D9 K) : Ci l yX1_loadOf wX1_loadOf { frames := 1, cells := 0, slots := 0, locals := 22 } [.ref (ad 0), .int (nI i)] D cA N ad c 0 0 (fun v c' => v = nI D9 ∧ c = c') := by
  intro sz9
  refine bd_of (cc := cX1_loadOf) (maxL := 2) (ret := some Jvm.ClassFile.FieldType.int) (by decide) rfl (Nat.le_of_ble_eq_true rfl) ?_
  intro p e s m below meth c0 C0 hr hlk hnm hP hS hsz ls hl
  subst hsz
  have hx := C0.1
  have hb := C0.2.1
  have hl : lv_has ls 2 [(0, .ref (ad 0)), (1, .int (nI i))] := hl
  obtain ⟨q1, q2, q3, q4, q5, q6, q7, q8, q9⟩ := id hok
  have hn5 := hF.2.2
  refine lv_aload_n hx hb dX1_loadOf_0 rfl (lv_at hl 0 rfl) ?_
  refine lv_iload_n hx hb dX1_loadOf_1 rfl (lv_at hl 1 rfl) ?_
  refine k0_r (rn_X1_42 (As := [.int (nI i)]) (rest := []) (r := 0) C0 (m_X1_handAt l D cA N ad (c) n i (by omega) hF (by omega) (by omega) _) hP hS (by omega) hF.1 rfl ⟨rfl, rfl⟩ ⟨by decide, by decide⟩ hl.1 rfl (Nat.le_of_ble_eq_true rfl) dX1_loadOf_2 ⟨Nat.le_of_ble_eq_true rfl, Nat.le_of_ble_eq_true rfl⟩) C0 hP hS (fun H locs hP hS => ?_)
  refine gh_X1_90 C0 hP hH (by omega) dX1_loadOf_5 ?_
  exact e_i C0 hr hlk hP hS dX1_loadOf_8 (by decide) (by decide) ⟨rfl, rfl⟩
set_option maxHeartbeats 1000000 in
set_option maxRecDepth 10000 in
theorem m_X1_luckOf (l : Launch) (D : va_G) (cA : Nat → ClassId) (N : Nat) (ad : Nat → Nat) (c : Nat → va_E) (n i R Y L S D9 K : Nat) (st : Nat → Nat → Int32)  (hN : 6 + 4 * n ≤ N) (hF : FH ad cA c n) (hi : i < n) (hH : HandAt ad cA c (6 + 4 * i) R Y L S D9 K st) (hok : Hok R Y L S D9 K) : Ci l yX1_luckOf wX1_luckOf { frames := 1, cells := 0, slots := 0, locals := 22 } [.ref (ad 0), .int (nI i)] D cA N ad c 0 0 (fun v c' => v = nI L ∧ c = c') := by
  intro sz9
  refine bd_of (cc := cX1_luckOf) (maxL := 2) (ret := some Jvm.ClassFile.FieldType.int) (by decide) rfl (Nat.le_of_ble_eq_true rfl) ?_
  intro p e s m below meth c0 C0 hr hlk hnm hP hS hsz ls hl
  subst hsz
  have hx := C0.1
  have hb := C0.2.1
  have hl : lv_has ls 2 [(0, .ref (ad 0)), (1, .int (nI i))] := hl
  obtain ⟨q1, q2, q3, q4, q5, q6, q7, q8, q9⟩ := id hok
  have hn5 := hF.2.2
  refine lv_aload_n hx hb dX1_luckOf_0 rfl (lv_at hl 0 rfl) ?_
  refine lv_iload_n hx hb dX1_luckOf_1 rfl (lv_at hl 1 rfl) ?_
  refine k0_r (rn_X1_42 (As := [.int (nI i)]) (rest := []) (r := 0) C0 (m_X1_handAt l D cA N ad (c) n i (by omega) hF (by omega) (by omega) _) hP hS (by omega) hF.1 rfl ⟨rfl, rfl⟩ ⟨by decide, by decide⟩ hl.1 rfl (Nat.le_of_ble_eq_true rfl) dX1_luckOf_2 ⟨Nat.le_of_ble_eq_true rfl, Nat.le_of_ble_eq_true rfl⟩) C0 hP hS (fun H locs hP hS => ?_)
  refine gh_X1_78 C0 hP hH (by omega) dX1_luckOf_5 ?_
  exact e_i C0 hr hlk hP hS dX1_luckOf_8 (by decide) (by decide) ⟨rfl, rfl⟩
set_option maxHeartbeats 1000000 in
set_option maxRecDepth 10000 in
theorem m_X1_valueAt (l : Launch) (D : va_G) (cA : Nat → ClassId) (N : Nat) (ad : Nat → Nat) (c : Nat → va_E) (n i R Y L S D9 K : Nat) (st : Nat → Nat → Int32) (y : Nat) (hN : 6 + 4 * n ≤ N) (hF : FH ad cA c n) (hi : i < n) (hH : HandAt ad cA c (6 + 4 * i) R Y L S D9 K st) (hok : Hok R Y L S D9 K) (hy : y < K) : Ci l yX1_valueAt wX1_valueAt { frames := 2, cells := 0, slots := 0, locals := 45 } [.ref (ad 0), .int (nI i), .int (nI y)] D cA N ad c 0 0 (fun v c' => v = st 0 y ∧ c = c') := by
  intro sz9
  refine bd_of (cc := cX1_valueAt) (maxL := 3) (ret := some Jvm.ClassFile.FieldType.int) (by decide) rfl (Nat.le_of_ble_eq_true rfl) ?_
  intro p e s m below meth c0 C0 hr hlk hnm hP hS hsz ls hl
  subst hsz
  have hx := C0.1
  have hb := C0.2.1
  have hl : lv_has ls 3 [(0, .ref (ad 0)), (1, .int (nI i)), (2, .int (nI y))] := hl
  obtain ⟨q1, q2, q3, q4, q5, q6, q7, q8, q9⟩ := id hok
  have hn5 := hF.2.2
  refine lv_aload_n hx hb dX1_valueAt_0 rfl (lv_at hl 0 rfl) ?_
  refine lv_iload_n hx hb dX1_valueAt_1 rfl (lv_at hl 1 rfl) ?_
  refine lv_iload_n hx hb dX1_valueAt_2 rfl (lv_at hl 2 rfl) ?_
  refine k0_r (rn_X1_93 (As := [.int (nI i), .int (nI y)]) (rest := []) (r := 0) C0 (m_X1_handHolding l D cA N ad (c) n i R Y L S D9 K st y hN hF hi hH hok (by omega) _) hP hS (by omega) hF.1 rfl ⟨rfl, rfl⟩ ⟨by decide, by decide⟩ hl.1 rfl (Nat.le_of_ble_eq_true rfl) dX1_valueAt_3 ⟨Nat.le_of_ble_eq_true rfl, Nat.le_of_ble_eq_true rfl⟩) C0 hP hS (fun H locs hP hS => ?_)
  refine gh_X1_97 C0 hP hH (by omega) dX1_valueAt_6 ?_
  refine lv_iload_n hx hb dX1_valueAt_9 rfl (lv_at hl 2 rfl) ?_
  refine k0_i (rn_X1_101 (As := [.ref (ad (6 + 4 * i + 1)), .int (nI y)]) (rest := []) C0 (m_X1_at l D cA N ad (c) (6 + 4 * i + 1) 8 y ((st 0)) (by omega) (hH.2.1) (by omega) (by omega) _) hP hS rfl ⟨rfl, rfl⟩ ⟨by decide, by decide⟩ hl.1 rfl (Nat.le_of_ble_eq_true rfl) dX1_valueAt_10 ⟨Nat.le_of_ble_eq_true rfl, Nat.le_of_ble_eq_true rfl⟩) C0 hP hS (fun v10 c10 H locs hp hP hS => ?_)
  obtain ⟨rfl, rfl⟩ := hp
  exact e_i C0 hr hlk hP hS dX1_valueAt_13 (by decide) (by decide) ⟨rfl, rfl⟩
set_option maxHeartbeats 1000000 in
set_option maxRecDepth 10000 in
theorem m_X1_weightAt (l : Launch) (D : va_G) (cA : Nat → ClassId) (N : Nat) (ad : Nat → Nat) (c : Nat → va_E) (n i R Y L S D9 K : Nat) (st : Nat → Nat → Int32) (y : Nat) (hN : 6 + 4 * n ≤ N) (hF : FH ad cA c n) (hi : i < n) (hH : HandAt ad cA c (6 + 4 * i) R Y L S D9 K st) (hok : Hok R Y L S D9 K) (hy : y < K) : Ci l yX1_weightAt wX1_weightAt { frames := 2, cells := 0, slots := 0, locals := 45 } [.ref (ad 0), .int (nI i), .int (nI y)] D cA N ad c 0 0 (fun v c' => v = st 1 y ∧ c = c') := by
  intro sz9
  refine bd_of (cc := cX1_weightAt) (maxL := 3) (ret := some Jvm.ClassFile.FieldType.int) (by decide) rfl (Nat.le_of_ble_eq_true rfl) ?_
  intro p e s m below meth c0 C0 hr hlk hnm hP hS hsz ls hl
  subst hsz
  have hx := C0.1
  have hb := C0.2.1
  have hl : lv_has ls 3 [(0, .ref (ad 0)), (1, .int (nI i)), (2, .int (nI y))] := hl
  obtain ⟨q1, q2, q3, q4, q5, q6, q7, q8, q9⟩ := id hok
  have hn5 := hF.2.2
  refine lv_aload_n hx hb dX1_weightAt_0 rfl (lv_at hl 0 rfl) ?_
  refine lv_iload_n hx hb dX1_weightAt_1 rfl (lv_at hl 1 rfl) ?_
  refine lv_iload_n hx hb dX1_weightAt_2 rfl (lv_at hl 2 rfl) ?_
  refine k0_r (rn_X1_93 (As := [.int (nI i), .int (nI y)]) (rest := []) (r := 0) C0 (m_X1_handHolding l D cA N ad (c) n i R Y L S D9 K st y hN hF hi hH hok (by omega) _) hP hS (by omega) hF.1 rfl ⟨rfl, rfl⟩ ⟨by decide, by decide⟩ hl.1 rfl (Nat.le_of_ble_eq_true rfl) dX1_weightAt_3 ⟨Nat.le_of_ble_eq_true rfl, Nat.le_of_ble_eq_true rfl⟩) C0 hP hS (fun H locs hP hS => ?_)
  refine gh_X1_105 C0 hP hH (by omega) dX1_weightAt_6 ?_
  refine lv_iload_n hx hb dX1_weightAt_9 rfl (lv_at hl 2 rfl) ?_
  refine k0_i (rn_X1_101 (As := [.ref (ad (6 + 4 * i + 2)), .int (nI y)]) (rest := []) C0 (m_X1_at l D cA N ad (c) (6 + 4 * i + 2) 8 y ((st 1)) (by omega) (hH.2.2.1) (by omega) (by omega) _) hP hS rfl ⟨rfl, rfl⟩ ⟨by decide, by decide⟩ hl.1 rfl (Nat.le_of_ble_eq_true rfl) dX1_weightAt_10 ⟨Nat.le_of_ble_eq_true rfl, Nat.le_of_ble_eq_true rfl⟩) C0 hP hS (fun v10 c10 H locs hp hP hS => ?_)
  obtain ⟨rfl, rfl⟩ := hp
  exact e_i C0 hr hlk hP hS dX1_weightAt_13 (by decide) (by decide) ⟨rfl, rfl⟩
set_option maxHeartbeats 1000000 in
set_option maxRecDepth 10000 in
theorem m_X1_cameAs (l : Launch) (D : va_G) (cA : Nat → ClassId) (N : Nat) (ad : Nat → Nat) (c : Nat → va_E) (n i R Y L S D9 K : Nat) (st : Nat → Nat → Int32) (y : Nat) (hN : 6 + 4 * n ≤ N) (hF : FH ad cA c n) (hi : i < n) (hH : HandAt ad cA c (6 + 4 * i) R Y L S D9 K st) (hok : Hok R Y L S D9 K) (hy : y < K) : Ci l yX1_cameAs wX1_cameAs { frames := 2, cells := 0, slots := 0, locals := 45 } [.ref (ad 0), .int (nI i), .int (nI y)] D cA N ad c 0 0 (fun v c' => v = st 2 y ∧ c = c') := by
  intro sz9
  refine bd_of (cc := cX1_cameAs) (maxL := 3) (ret := some Jvm.ClassFile.FieldType.int) (by decide) rfl (Nat.le_of_ble_eq_true rfl) ?_
  intro p e s m below meth c0 C0 hr hlk hnm hP hS hsz ls hl
  subst hsz
  have hx := C0.1
  have hb := C0.2.1
  have hl : lv_has ls 3 [(0, .ref (ad 0)), (1, .int (nI i)), (2, .int (nI y))] := hl
  obtain ⟨q1, q2, q3, q4, q5, q6, q7, q8, q9⟩ := id hok
  have hn5 := hF.2.2
  refine lv_aload_n hx hb dX1_cameAs_0 rfl (lv_at hl 0 rfl) ?_
  refine lv_iload_n hx hb dX1_cameAs_1 rfl (lv_at hl 1 rfl) ?_
  refine lv_iload_n hx hb dX1_cameAs_2 rfl (lv_at hl 2 rfl) ?_
  refine k0_r (rn_X1_93 (As := [.int (nI i), .int (nI y)]) (rest := []) (r := 0) C0 (m_X1_handHolding l D cA N ad (c) n i R Y L S D9 K st y hN hF hi hH hok (by omega) _) hP hS (by omega) hF.1 rfl ⟨rfl, rfl⟩ ⟨by decide, by decide⟩ hl.1 rfl (Nat.le_of_ble_eq_true rfl) dX1_cameAs_3 ⟨Nat.le_of_ble_eq_true rfl, Nat.le_of_ble_eq_true rfl⟩) C0 hP hS (fun H locs hP hS => ?_)
  refine gh_X1_108 C0 hP hH (by omega) dX1_cameAs_6 ?_
  refine lv_iload_n hx hb dX1_cameAs_9 rfl (lv_at hl 2 rfl) ?_
  refine k0_i (rn_X1_101 (As := [.ref (ad (6 + 4 * i + 3)), .int (nI y)]) (rest := []) C0 (m_X1_at l D cA N ad (c) (6 + 4 * i + 3) 8 y ((st 2)) (by omega) (hH.2.2.2) (by omega) (by omega) _) hP hS rfl ⟨rfl, rfl⟩ ⟨by decide, by decide⟩ hl.1 rfl (Nat.le_of_ble_eq_true rfl) dX1_cameAs_10 ⟨Nat.le_of_ble_eq_true rfl, Nat.le_of_ble_eq_true rfl⟩) C0 hP hS (fun v10 c10 H locs hp hP hS => ?_)
  obtain ⟨rfl, rfl⟩ := hp
  exact e_i C0 hr hlk hP hS dX1_cameAs_13 (by decide) (by decide) ⟨rfl, rfl⟩
set_option maxHeartbeats 1000000 in
set_option maxRecDepth 10000 in
theorem m_X1_rankOf (l : Launch) (D : va_G) (cA : Nat → ClassId) (N : Nat) (ad : Nat → Nat) (c : Nat → va_E) (n i R Y L S D9 K : Nat) (st : Nat → Nat → Int32) (y : Nat) (hN : 6 + 4 * n ≤ N) (hF : FH ad cA c n) (hi : i < n) (hH : HandAt ad cA c (6 + 4 * i) R Y L S D9 K st) (hok : Hok R Y L S D9 K) (hy : y < K) : Ci l yX1_rankOf wX1_rankOf { frames := 3, cells := 0, slots := 0, locals := 69 } [.ref (ad 0), .int (nI i), .int (nI y)] D cA N ad c 0 0 (fun v c' => v = nI (rk (st 0) K y) ∧ c = c') := by
  intro sz9
  refine bd_of (cc := cX1_rankOf) (maxL := 3) (ret := some Jvm.ClassFile.FieldType.int) (by decide) rfl (Nat.le_of_ble_eq_true rfl) ?_
  intro p e s m below meth c0 C0 hr hlk hnm hP hS hsz ls hl
  subst hsz
  have hx := C0.1
  have hb := C0.2.1
  have hl : lv_has ls 3 [(0, .ref (ad 0)), (1, .int (nI i)), (2, .int (nI y))] := hl
  obtain ⟨q1, q2, q3, q4, q5, q6, q7, q8, q9⟩ := id hok
  have hn5 := hF.2.2
  refine lv_aload_n hx hb dX1_rankOf_0 rfl (lv_at hl 0 rfl) ?_
  refine lv_iload_n hx hb dX1_rankOf_1 rfl (lv_at hl 1 rfl) ?_
  refine lv_iload_n hx hb dX1_rankOf_2 rfl (lv_at hl 2 rfl) ?_
  refine k0_r (rn_X1_93 (As := [.int (nI i), .int (nI y)]) (rest := []) (r := 0) C0 (m_X1_handHolding l D cA N ad (c) n i R Y L S D9 K st y hN hF hi hH hok (by omega) _) hP hS (by omega) hF.1 rfl ⟨rfl, rfl⟩ ⟨by decide, by decide⟩ hl.1 rfl (Nat.le_of_ble_eq_true rfl) dX1_rankOf_3 ⟨Nat.le_of_ble_eq_true rfl, Nat.le_of_ble_eq_true rfl⟩) C0 hP hS (fun H locs hP hS => ?_)
  refine lv_iload_n hx hb dX1_rankOf_6 rfl (lv_at hl 2 rfl) ?_
  refine k0_i (rn_X1_118 (As := [.int (nI y)]) (rest := []) (r := 6 + 4 * i) C0 (m_X0_rank l D cA N ad (c) (6 + 4 * i) R Y L S D9 K st y (by omega) hH (by omega) (by omega) _) hP hS (by omega) hH.1 rfl ⟨rfl, rfl⟩ ⟨by decide, by decide⟩ hl.1 rfl (Nat.le_of_ble_eq_true rfl) dX1_rankOf_7 ⟨Nat.le_of_ble_eq_true rfl, Nat.le_of_ble_eq_true rfl⟩) C0 hP hS (fun v7 c7 H locs hp hP hS => ?_)
  obtain ⟨rfl, rfl⟩ := hp
  exact e_i C0 hr hlk hP hS dX1_rankOf_10 (by decide) (by decide) ⟨rfl, rfl⟩
set_option maxHeartbeats 1000000 in
set_option maxRecDepth 10000 in
theorem m_X1_sum (l : Launch) (D : va_G) (cA : Nat → ClassId) (N : Nat) (ad : Nat → Nat) (c : Nat → va_E) (n i R Y L S D9 K : Nat) (st : Nat → Nat → Int32)  (hN : 6 + 4 * n ≤ N) (hF : FH ad cA c n) (hi : i < n) (hH : HandAt ad cA c (6 + 4 * i) R Y L S D9 K st) (hok : Hok R Y L S D9 K) : Ci l yX1_sum wX1_sum { frames := 2, cells := 0, slots := 0, locals := 43 } [.ref (ad 0), .int (nI i)] D cA N ad c 0 0 (fun v c' => v = tot (st 0) K ∧ c = c') := by
  intro sz9
  refine bd_of (cc := cX1_sum) (maxL := 2) (ret := some Jvm.ClassFile.FieldType.int) (by decide) rfl (Nat.le_of_ble_eq_true rfl) ?_
  intro p e s m below meth c0 C0 hr hlk hnm hP hS hsz ls hl
  subst hsz
  have hx := C0.1
  have hb := C0.2.1
  have hl : lv_has ls 2 [(0, .ref (ad 0)), (1, .int (nI i))] := hl
  obtain ⟨q1, q2, q3, q4, q5, q6, q7, q8, q9⟩ := id hok
  have hn5 := hF.2.2
  refine lv_aload_n hx hb dX1_sum_0 rfl (lv_at hl 0 rfl) ?_
  refine lv_iload_n hx hb dX1_sum_1 rfl (lv_at hl 1 rfl) ?_
  refine k0_r (rn_X1_42 (As := [.int (nI i)]) (rest := []) (r := 0) C0 (m_X1_handAt l D cA N ad (c) n i (by omega) hF (by omega) (by omega) _) hP hS (by omega) hF.1 rfl ⟨rfl, rfl⟩ ⟨by decide, by decide⟩ hl.1 rfl (Nat.le_of_ble_eq_true rfl) dX1_sum_2 ⟨Nat.le_of_ble_eq_true rfl, Nat.le_of_ble_eq_true rfl⟩) C0 hP hS (fun H locs hP hS => ?_)
  refine k0_i (rn_X1_111 (As := []) (rest := []) (r := 6 + 4 * i) C0 (m_X0_total l D cA N ad (c) (6 + 4 * i) R Y L S D9 K st (by omega) hH (by omega) _) hP hS (by omega) hH.1 rfl ⟨rfl, rfl⟩ ⟨by decide, by decide⟩ hl.1 rfl (Nat.le_of_ble_eq_true rfl) dX1_sum_5 ⟨Nat.le_of_ble_eq_true rfl, Nat.le_of_ble_eq_true rfl⟩) C0 hP hS (fun v5 c5 H locs hp hP hS => ?_)
  obtain ⟨rfl, rfl⟩ := hp
  exact e_i C0 hr hlk hP hS dX1_sum_8 (by decide) (by decide) ⟨rfl, rfl⟩
set_option maxHeartbeats 1000000 in
set_option maxRecDepth 10000 in
theorem m_X1_lowest (l : Launch) (D : va_G) (cA : Nat → ClassId) (N : Nat) (ad : Nat → Nat) (c : Nat → va_E) (n i R Y L S D9 K : Nat) (st : Nat → Nat → Int32)  (hN : 6 + 4 * n ≤ N) (hF : FH ad cA c n) (hi : i < n) (hH : HandAt ad cA c (6 + 4 * i) R Y L S D9 K st) (hok : Hok R Y L S D9 K) : Ci l yX1_lowest wX1_lowest { frames := 4, cells := 0, slots := 0, locals := 91 } [.ref (ad 0), .int (nI i)] D cA N ad c 0 0 (fun v c' => ((∃ p, p < K ∧ rk (st 0) K p = 0 ∧ v = nI p) ∨ (v = -1 ∧ ∀ p, p < K → rk (st 0) K p ≠ 0)) ∧ c = c') := by
  intro sz9
  refine bd_of (cc := cX1_lowest) (maxL := 2) (ret := some Jvm.ClassFile.FieldType.int) (by decide) rfl (Nat.le_of_ble_eq_true rfl) ?_
  intro p e s m below meth c0 C0 hr hlk hnm hP hS hsz ls hl
  subst hsz
  have hx := C0.1
  have hb := C0.2.1
  have hl : lv_has ls 2 [(0, .ref (ad 0)), (1, .int (nI i))] := hl
  obtain ⟨q1, q2, q3, q4, q5, q6, q7, q8, q9⟩ := id hok
  have hn5 := hF.2.2
  refine lv_aload_n hx hb dX1_lowest_0 rfl (lv_at hl 0 rfl) ?_
  refine lv_iload_n hx hb dX1_lowest_1 rfl (lv_at hl 1 rfl) ?_
  refine k0_r (rn_X1_42 (As := [.int (nI i)]) (rest := []) (r := 0) C0 (m_X1_handAt l D cA N ad (c) n i (by omega) hF (by omega) (by omega) _) hP hS (by omega) hF.1 rfl ⟨rfl, rfl⟩ ⟨by decide, by decide⟩ hl.1 rfl (Nat.le_of_ble_eq_true rfl) dX1_lowest_2 ⟨Nat.le_of_ble_eq_true rfl, Nat.le_of_ble_eq_true rfl⟩) C0 hP hS (fun H locs hP hS => ?_)
  refine lv_iconst (v := nI 0) hx hb dX1_lowest_5 rfl ?_
  refine k0_i (rn_X1_114 (As := [.int (nI 0)]) (rest := []) (r := 6 + 4 * i) C0 (m_X0_placeRanked l D cA N ad (c) (6 + 4 * i) R Y L S D9 K st 0 (by omega) hH (by omega) (by omega) _) hP hS (by omega) hH.1 rfl ⟨rfl, rfl⟩ ⟨by decide, by decide⟩ hl.1 rfl (Nat.le_of_ble_eq_true rfl) dX1_lowest_6 ⟨Nat.le_of_ble_eq_true rfl, Nat.le_of_ble_eq_true rfl⟩) C0 hP hS (fun v6 c6 H locs hp hP hS => ?_)
  obtain ⟨hv, rfl⟩ := hp
  exact e_i C0 hr hlk hP hS dX1_lowest_9 (by decide) (by decide) ⟨hv, rfl⟩
set_option maxHeartbeats 1000000 in
set_option maxRecDepth 10000 in
theorem m_X1_shared (l : Launch) (D : va_G) (cA : Nat → ClassId) (N : Nat) (ad : Nat → Nat) (c : Nat → va_E) (n i R Y L S D9 K : Nat) (st : Nat → Nat → Int32) (j Ro Yo Lo So Do Ko : Nat) (sto : Nat → Nat → Int32)  (hN : 6 + 4 * n ≤ N) (hF : FH ad cA c n) (hi : i < n) (hH : HandAt ad cA c (6 + 4 * i) R Y L S D9 K st) (hok : Hok R Y L S D9 K) (hj : j < n) (hO : HandAt ad cA c (6 + 4 * j) Ro Yo Lo So Do Ko sto) (hoo : Hok Ro Yo Lo So Do Ko) : Ci l yX1_shared wX1_shared { frames := 3, cells := 0, slots := 0, locals := 69 } [.ref (ad 0), .int (nI i), .int (nI j)] D cA N ad c 0 0 (fun v c' => v = nI (com (st 0) (sto 0) Ko K) ∧ c = c') := by
  intro sz9
  refine bd_of (cc := cX1_shared) (maxL := 3) (ret := some Jvm.ClassFile.FieldType.int) (by decide) rfl (Nat.le_of_ble_eq_true rfl) ?_
  intro p e s m below meth c0 C0 hr hlk hnm hP hS hsz ls hl
  subst hsz
  have hx := C0.1
  have hb := C0.2.1
  have hl : lv_has ls 3 [(0, .ref (ad 0)), (1, .int (nI i)), (2, .int (nI j))] := hl
  obtain ⟨q1, q2, q3, q4, q5, q6, q7, q8, q9⟩ := id hok
  obtain ⟨o1, o2, o3, o4, o5, o6, o7, o8, o9⟩ := id hoo
  have hn5 := hF.2.2
  refine lv_aload_n hx hb dX1_shared_0 rfl (lv_at hl 0 rfl) ?_
  refine lv_iload_n hx hb dX1_shared_1 rfl (lv_at hl 1 rfl) ?_
  refine k0_r (rn_X1_42 (As := [.int (nI i)]) (rest := []) (r := 0) C0 (m_X1_handAt l D cA N ad (c) n i (by omega) hF (by omega) (by omega) _) hP hS (by omega) hF.1 rfl ⟨rfl, rfl⟩ ⟨by decide, by decide⟩ hl.1 rfl (Nat.le_of_ble_eq_true rfl) dX1_shared_2 ⟨Nat.le_of_ble_eq_true rfl, Nat.le_of_ble_eq_true rfl⟩) C0 hP hS (fun H locs hP hS => ?_)
  refine lv_aload_n hx hb dX1_shared_5 rfl (lv_at hl 0 rfl) ?_
  refine lv_iload_n hx hb dX1_shared_6 rfl (lv_at hl 2 rfl) ?_
  refine k0_r (rn_X1_42 (As := [.int (nI j)]) (rest := [.ref (ad (6 + 4 * i))]) (r := 0) C0 (m_X1_handAt l D cA N ad (c) n j (by omega) hF (by omega) (by omega) _) hP hS (by omega) hF.1 rfl ⟨rfl, rfl⟩ ⟨by decide, by decide⟩ hl.1 rfl (Nat.le_of_ble_eq_true rfl) dX1_shared_7 ⟨Nat.le_of_ble_eq_true rfl, Nat.le_of_ble_eq_true rfl⟩) C0 hP hS (fun H locs hP hS => ?_)
  refine k0_i (rn_X1_124 (As := [.ref (ad (6 + 4 * i)), .ref (ad (6 + 4 * j))]) (rest := []) C0 (m_X1_commonValues l D cA N ad (c) (6 + 4 * i) R Y L S D9 K st (6 + 4 * j) Ro Yo Lo So Do Ko sto (by omega) (by omega) hH hok (by omega) (by omega) hO hoo _) hP hS rfl ⟨rfl, rfl⟩ ⟨by decide, by decide⟩ hl.1 rfl (Nat.le_of_ble_eq_true rfl) dX1_shared_10 ⟨Nat.le_of_ble_eq_true rfl, Nat.le_of_ble_eq_true rfl⟩) C0 hP hS (fun v10 c10 H locs hp hP hS => ?_)
  obtain ⟨rfl, rfl⟩ := hp
  exact e_i C0 hr hlk hP hS dX1_shared_13 (by decide) (by decide) ⟨rfl, rfl⟩
set_option maxHeartbeats 1000000 in
set_option maxRecDepth 10000 in
theorem m_X1_wouldTake (l : Launch) (D : va_G) (cA : Nat → ClassId) (N : Nat) (ad : Nat → Nat) (c : Nat → va_E) (n i R Y L S D9 K : Nat) (st : Nat → Nat → Int32) (w : Nat) (hN : 6 + 4 * n ≤ N) (hF : FH ad cA c n) (ht : TrAt ad cA c) (hi : i < n) (hH : HandAt ad cA c (6 + 4 * i) R Y L S D9 K st) (hok : Hok R Y L S D9 K) (hw0 : 1 ≤ w) (hw9 : w ≤ 9) : Ci l yX1_wouldTake wX1_wouldTake { frames := 4, cells := 0, slots := 0, locals := 89 } [.ref (ad 0), .int (nI i), .int (nI w)] D cA N ad c 0 0 (fun v c' => v = oI (pk R Y L (S + 1) (D9 + w) K w).1 ∧ Tr ad cA c c') := by
  intro sz9
  refine bd_of (cc := cX1_wouldTake) (maxL := 4) (ret := some Jvm.ClassFile.FieldType.int) (by decide) rfl (Nat.le_of_ble_eq_true rfl) ?_
  intro p e s m below meth c0 C0 hr hlk hnm hP hS hsz ls hl
  subst hsz
  have hx := C0.1
  have hb := C0.2.1
  have hl : lv_has ls 4 [(0, .ref (ad 0)), (1, .int (nI i)), (2, .int (nI w))] := hl
  obtain ⟨q1, q2, q3, q4, q5, q6, q7, q8, q9⟩ := id hok
  have hn5 := hF.2.2
  refine lv_aload_n hx hb dX1_wouldTake_0 rfl (lv_at hl 0 rfl) ?_
  refine lv_iload_n hx hb dX1_wouldTake_1 rfl (lv_at hl 1 rfl) ?_
  refine k0_r (rn_X1_42 (As := [.int (nI i)]) (rest := []) (r := 0) C0 (m_X1_handAt l D cA N ad (c) n i (by omega) hF (by omega) (by omega) _) hP hS (by omega) hF.1 rfl ⟨rfl, rfl⟩ ⟨by decide, by decide⟩ hl.1 rfl (Nat.le_of_ble_eq_true rfl) dX1_wouldTake_2 ⟨Nat.le_of_ble_eq_true rfl, Nat.le_of_ble_eq_true rfl⟩) C0 hP hS (fun H locs hP hS => ?_)
  refine lv_astore_n (lv' := [(3, .ref (ad (6 + 4 * i))), (0, .ref (ad 0)), (1, .int (nI i)), (2, .int (nI w))]) hx hb dX1_wouldTake_5 rfl hl (by decide) rfl (fun ls hl => ?_)
  refine lv_iload_n hx hb dX1_wouldTake_6 rfl (lv_at hl 3 rfl) ?_
  refine lv_iconst (v := nI 1) hx hb dX1_wouldTake_7 rfl ?_
  refine lv_bipush (v := nI 9) hx hb dX1_wouldTake_8 rfl ?_
  refine k0_i (rn_X1_22 (As := [.int (nI w), .int (nI 1), .int (nI 9)]) (rest := []) C0 (m_X1_isWithin l D cA N ad (c) (nI w) (nI 1) (nI 9) _) hP hS rfl ⟨rfl, rfl⟩ ⟨by decide, by decide⟩ hl.1 rfl (Nat.le_of_ble_eq_true rfl) dX1_wouldTake_10 ⟨Nat.le_of_ble_eq_true rfl, Nat.le_of_ble_eq_true rfl⟩) C0 hP hS (fun v10 c10 H locs hp hP hS => ?_)
  obtain ⟨hv, rfl⟩ := hp
  obtain rfl : v10 = nI 1 := by rw [hv, if_pos ⟨nI_le (by omega) (by omega), nI_le (by omega) (by omega)⟩]; rfl
  refine n_if_ne (tgt := 26) hx hb (by omega) dX1_wouldTake_13 (by decide) (fun h13 => ?_) (fun h13 => ?_)
  rotate_left
  · exfalso; omega
  refine lv_aload_n hx hb dX1_wouldTake_26 rfl (lv_at hl 1 rfl) ?_
  refine lv_aload_n hx hb dX1_wouldTake_27 rfl (lv_at hl 0 rfl) ?_
  refine lv_iload_n hx hb dX1_wouldTake_28 rfl (lv_at hl 3 rfl) ?_
  refine k0_i (rn_X1_140 (As := [.ref (ad (6 + 4 * i)), .int (nI w)]) (rest := []) (r := 0) C0 (m_X1_placeForWeight l D cA N ad (c) n (6 + 4 * i) R Y L S D9 K st w (by omega) hF ht (by omega) (by omega) hH hok (by omega) (by omega) _) hP hS (by omega) hF.1 rfl ⟨rfl, rfl⟩ ⟨by decide, by decide⟩ hl.1 rfl (Nat.le_of_ble_eq_true rfl) dX1_wouldTake_29 ⟨Nat.le_of_ble_eq_true rfl, Nat.le_of_ble_eq_true rfl⟩) C0 hP hS (fun v29 c29 H locs hp hP hS => ?_)
  obtain ⟨rfl, ht29⟩ := hp
  exact e_i C0 hr hlk hP hS dX1_wouldTake_32 (by decide) (by decide) ⟨rfl, ht29⟩
set_option maxHeartbeats 1000000 in
set_option maxRecDepth 10000 in
theorem m_X1_wouldStay (l : Launch) (D : va_G) (cA : Nat → ClassId) (N : Nat) (ad : Nat → Nat) (c : Nat → va_E) (n i R Y L S D9 K : Nat) (st : Nat → Nat → Int32) (many : Nat) (hN : 6 + 4 * n ≤ N) (hF : FH ad cA c n) (ht : TrAt ad cA c) (hi : i < n) (hH : HandAt ad cA c (6 + 4 * i) R Y L S D9 K st) (hok : Hok R Y L S D9 K) (hm0 : 1 ≤ many) (hm : many ≤ 200) : Ci l yX1_wouldStay wX1_wouldStay { frames := 4, cells := 0, slots := 0, locals := 91 } [.ref (ad 0), .int (nI i), .int (nI many)] D cA N ad c 0 0 (fun v c' => (∃ stt, v = nI (cntN ((itT R Y 1 (L, S, D9, K) (stB stt st K) (nI 0) many) 2) (nI S) (itS R Y 1 many (L, S, D9, K)).2.2.2)) ∧ Tr ad cA c c') := by
  intro sz9
  refine bd_of (cc := cX1_wouldStay) (maxL := 4) (ret := some Jvm.ClassFile.FieldType.int) (by decide) rfl (Nat.le_of_ble_eq_true rfl) ?_
  intro p e s m below meth c0 C0 hr hlk hnm hP hS hsz ls hl
  subst hsz
  have hx := C0.1
  have hb := C0.2.1
  have hl : lv_has ls 4 [(0, .ref (ad 0)), (1, .int (nI i)), (2, .int (nI many))] := hl
  obtain ⟨q1, q2, q3, q4, q5, q6, q7, q8, q9⟩ := id hok
  have hn5 := hF.2.2
  refine lv_aload_n hx hb dX1_wouldStay_0 rfl (lv_at hl 0 rfl) ?_
  refine lv_iload_n hx hb dX1_wouldStay_1 rfl (lv_at hl 1 rfl) ?_
  refine k0_r (rn_X1_42 (As := [.int (nI i)]) (rest := []) (r := 0) C0 (m_X1_handAt l D cA N ad (c) n i (by omega) hF (by omega) (by omega) _) hP hS (by omega) hF.1 rfl ⟨rfl, rfl⟩ ⟨by decide, by decide⟩ hl.1 rfl (Nat.le_of_ble_eq_true rfl) dX1_wouldStay_2 ⟨Nat.le_of_ble_eq_true rfl, Nat.le_of_ble_eq_true rfl⟩) C0 hP hS (fun H locs hP hS => ?_)
  refine lv_astore_n (lv' := [(3, .ref (ad (6 + 4 * i))), (0, .ref (ad 0)), (1, .int (nI i)), (2, .int (nI many))]) hx hb dX1_wouldStay_5 rfl hl (by decide) rfl (fun ls hl => ?_)
  refine lv_iload_n hx hb dX1_wouldStay_6 rfl (lv_at hl 3 rfl) ?_
  refine lv_iconst (v := nI 1) hx hb dX1_wouldStay_7 rfl ?_
  refine lv_sipush (v := nI 200) hx hb dX1_wouldStay_8 rfl ?_
  refine k0_i (rn_X1_22 (As := [.int (nI many), .int (nI 1), .int (nI 200)]) (rest := []) C0 (m_X1_isWithin l D cA N ad (c) (nI many) (nI 1) (nI 200) _) hP hS rfl ⟨rfl, rfl⟩ ⟨by decide, by decide⟩ hl.1 rfl (Nat.le_of_ble_eq_true rfl) dX1_wouldStay_11 ⟨Nat.le_of_ble_eq_true rfl, Nat.le_of_ble_eq_true rfl⟩) C0 hP hS (fun v11 c11 H locs hp hP hS => ?_)
  obtain ⟨hv, rfl⟩ := hp
  obtain rfl : v11 = nI 1 := by rw [hv, if_pos ⟨nI_le (by omega) (by omega), nI_le (by omega) (by omega)⟩]; rfl
  refine n_if_ne (tgt := 27) hx hb (by omega) dX1_wouldStay_14 (by decide) (fun h14 => ?_) (fun h14 => ?_)
  rotate_left
  · exfalso; omega
  refine lv_aload_n hx hb dX1_wouldStay_27 rfl (lv_at hl 1 rfl) ?_
  refine lv_aload_n hx hb dX1_wouldStay_28 rfl (lv_at hl 0 rfl) ?_
  refine lv_iload_n hx hb dX1_wouldStay_29 rfl (lv_at hl 3 rfl) ?_
  refine k0_i (rn_X1_145 (As := [.ref (ad (6 + 4 * i)), .int (nI many)]) (rest := []) (r := 0) C0 (m_X1_stayingAfter l D cA N ad (c) n (6 + 4 * i) R Y L S D9 K st many (by omega) hF ht (by omega) (by omega) hH hok (by omega) _) hP hS (by omega) hF.1 rfl ⟨rfl, rfl⟩ ⟨by decide, by decide⟩ hl.1 rfl (Nat.le_of_ble_eq_true rfl) dX1_wouldStay_30 ⟨Nat.le_of_ble_eq_true rfl, Nat.le_of_ble_eq_true rfl⟩) C0 hP hS (fun v30 c30 H locs hp hP hS => ?_)
  obtain ⟨hv, ht30⟩ := hp
  exact e_i C0 hr hlk hP hS dX1_wouldStay_33 (by decide) (by decide) ⟨hv, ht30⟩
set_option maxHeartbeats 1000000 in
set_option maxRecDepth 10000 in
theorem m_X1_untilTaken (l : Launch) (D : va_G) (cA : Nat → ClassId) (N : Nat) (ad : Nat → Nat) (c : Nat → va_E) (n i R Y L S D9 K : Nat) (st : Nat → Nat → Int32)  (hN : 6 + 4 * n ≤ N) (hF : FH ad cA c n) (ht : TrAt ad cA c) (hi : i < n) (hH : HandAt ad cA c (6 + 4 * i) R Y L S D9 K st) (hok : Hok R Y L S D9 K) : Ci l yX1_untilTaken wX1_untilTaken { frames := 4, cells := 0, slots := 0, locals := 89 } [.ref (ad 0), .int (nI i)] D cA N ad c 0 0 (fun v c' => Fst (fun k => itP R Y 1 k (L, S, D9, K) ≠ none) 1 200 v ∧ Tr ad cA c c') := by
  intro sz9
  refine bd_of (cc := cX1_untilTaken) (maxL := 2) (ret := some Jvm.ClassFile.FieldType.int) (by decide) rfl (Nat.le_of_ble_eq_true rfl) ?_
  intro p e s m below meth c0 C0 hr hlk hnm hP hS hsz ls hl
  subst hsz
  have hx := C0.1
  have hb := C0.2.1
  have hl : lv_has ls 2 [(0, .ref (ad 0)), (1, .int (nI i))] := hl
  obtain ⟨q1, q2, q3, q4, q5, q6, q7, q8, q9⟩ := id hok
  have hn5 := hF.2.2
  refine lv_aload_n hx hb dX1_untilTaken_0 rfl (lv_at hl 0 rfl) ?_
  refine lv_aload_n hx hb dX1_untilTaken_1 rfl (lv_at hl 0 rfl) ?_
  refine lv_iload_n hx hb dX1_untilTaken_2 rfl (lv_at hl 1 rfl) ?_
  refine k0_r (rn_X1_42 (As := [.int (nI i)]) (rest := [.ref (ad 0)]) (r := 0) C0 (m_X1_handAt l D cA N ad (c) n i (by omega) hF (by omega) (by omega) _) hP hS (by omega) hF.1 rfl ⟨rfl, rfl⟩ ⟨by decide, by decide⟩ hl.1 rfl (Nat.le_of_ble_eq_true rfl) dX1_untilTaken_3 ⟨Nat.le_of_ble_eq_true rfl, Nat.le_of_ble_eq_true rfl⟩) C0 hP hS (fun H locs hP hS => ?_)
  refine k0_i (rn_X1_148 (As := [.ref (ad (6 + 4 * i))]) (rest := []) (r := 0) C0 (m_X1_stonesUntilPlaced l D cA N ad (c) n (6 + 4 * i) R Y L S D9 K st  (by omega) hF ht (by omega) (by omega) hH hok  _) hP hS (by omega) hF.1 rfl ⟨rfl, rfl⟩ ⟨by decide, by decide⟩ hl.1 rfl (Nat.le_of_ble_eq_true rfl) dX1_untilTaken_6 ⟨Nat.le_of_ble_eq_true rfl, Nat.le_of_ble_eq_true rfl⟩) C0 hP hS (fun v6 c6 H locs hp hP hS => ?_)
  obtain ⟨hv, ht6⟩ := hp
  exact e_i C0 hr hlk hP hS dX1_untilTaken_9 (by decide) (by decide) ⟨hv, ht6⟩
set_option maxHeartbeats 1000000 in
set_option maxRecDepth 10000 in
theorem m_X1_weightWanted (l : Launch) (D : va_G) (cA : Nat → ClassId) (N : Nat) (ad : Nat → Nat) (c : Nat → va_E) (n i R Y L S D9 K : Nat) (st : Nat → Nat → Int32)  (hN : 6 + 4 * n ≤ N) (hF : FH ad cA c n) (ht : TrAt ad cA c) (hi : i < n) (hH : HandAt ad cA c (6 + 4 * i) R Y L S D9 K st) (hok : Hok R Y L S D9 K) : Ci l yX1_weightWanted wX1_weightWanted { frames := 5, cells := 0, slots := 0, locals := 111 } [.ref (ad 0), .int (nI i)] D cA N ad c 0 0 (fun v c' => Fst (fun k => (pk R Y L (S + 1) (D9 + (1 + k)) K (1 + k)).1 ≠ none) 1 9 v ∧ Tr ad cA c c') := by
  intro sz9
  refine bd_of (cc := cX1_weightWanted) (maxL := 2) (ret := some Jvm.ClassFile.FieldType.int) (by decide) rfl (Nat.le_of_ble_eq_true rfl) ?_
  intro p e s m below meth c0 C0 hr hlk hnm hP hS hsz ls hl
  subst hsz
  have hx := C0.1
  have hb := C0.2.1
  have hl : lv_has ls 2 [(0, .ref (ad 0)), (1, .int (nI i))] := hl
  obtain ⟨q1, q2, q3, q4, q5, q6, q7, q8, q9⟩ := id hok
  have hn5 := hF.2.2
  refine lv_aload_n hx hb dX1_weightWanted_0 rfl (lv_at hl 0 rfl) ?_
  refine lv_aload_n hx hb dX1_weightWanted_1 rfl (lv_at hl 0 rfl) ?_
  refine lv_iload_n hx hb dX1_weightWanted_2 rfl (lv_at hl 1 rfl) ?_
  refine k0_r (rn_X1_42 (As := [.int (nI i)]) (rest := [.ref (ad 0)]) (r := 0) C0 (m_X1_handAt l D cA N ad (c) n i (by omega) hF (by omega) (by omega) _) hP hS (by omega) hF.1 rfl ⟨rfl, rfl⟩ ⟨by decide, by decide⟩ hl.1 rfl (Nat.le_of_ble_eq_true rfl) dX1_weightWanted_3 ⟨Nat.le_of_ble_eq_true rfl, Nat.le_of_ble_eq_true rfl⟩) C0 hP hS (fun H locs hP hS => ?_)
  refine k0_i (rn_X1_152 (As := [.ref (ad (6 + 4 * i))]) (rest := []) (r := 0) C0 (m_X1_leastWeightPlaced l D cA N ad (c) n (6 + 4 * i) R Y L S D9 K st  (by omega) hF ht (by omega) (by omega) hH hok  _) hP hS (by omega) hF.1 rfl ⟨rfl, rfl⟩ ⟨by decide, by decide⟩ hl.1 rfl (Nat.le_of_ble_eq_true rfl) dX1_weightWanted_6 ⟨Nat.le_of_ble_eq_true rfl, Nat.le_of_ble_eq_true rfl⟩) C0 hP hS (fun v6 c6 H locs hp hP hS => ?_)
  obtain ⟨hv, ht6⟩ := hp
  exact e_i C0 hr hlk hP hS dX1_weightWanted_9 (by decide) (by decide) ⟨hv, ht6⟩
set_option maxHeartbeats 1000000 in
set_option maxRecDepth 10000 in
theorem m_X1_wouldJoin__s (l : Launch) (D : va_G) (cA : Nat → ClassId) (N : Nat) (ad : Nat → Nat) (c : Nat → va_E) (n i R Y L S D9 K : Nat) (st : Nat → Nat → Int32)  (hN : 6 + 4 * n ≤ N) (hF : FH ad cA c n) (ht : TrAt ad cA c) (hi : i < n) (hH : HandAt ad cA c (6 + 4 * i) R Y L S D9 K st) (hok : Hok R Y L S D9 K) : Ci l yX1_wouldJoin wX1_wouldJoin { frames := 5, cells := 0, slots := 0, locals := 117 } [.ref (ad 0), .int (nI i), .int (nI i)] D cA N ad c 0 0 (fun v c' => v = -1 ∧ Tr ad cA c c') := by
  intro sz9
  refine bd_of (cc := cX1_wouldJoin) (maxL := 3) (ret := some Jvm.ClassFile.FieldType.int) (by decide) rfl (Nat.le_of_ble_eq_true rfl) ?_
  intro p e s m below meth c0 C0 hr hlk hnm hP hS hsz ls hl
  subst hsz
  have hx := C0.1
  have hb := C0.2.1
  have hl : lv_has ls 3 [(0, .ref (ad 0)), (1, .int (nI i)), (2, .int (nI i))] := hl
  obtain ⟨q1, q2, q3, q4, q5, q6, q7, q8, q9⟩ := id hok
  have hn5 := hF.2.2
  refine lv_aload_n hx hb dX1_wouldJoin_0 rfl (lv_at hl 0 rfl) ?_
  refine lv_aload_n hx hb dX1_wouldJoin_1 rfl (lv_at hl 0 rfl) ?_
  refine lv_iload_n hx hb dX1_wouldJoin_2 rfl (lv_at hl 1 rfl) ?_
  refine k0_r (rn_X1_42 (As := [.int (nI i)]) (rest := [.ref (ad 0)]) (r := 0) C0 (m_X1_handAt l D cA N ad (c) n i (by omega) hF (by omega) (by omega) _) hP hS (by omega) hF.1 rfl ⟨rfl, rfl⟩ ⟨by decide, by decide⟩ hl.1 rfl (Nat.le_of_ble_eq_true rfl) dX1_wouldJoin_3 ⟨Nat.le_of_ble_eq_true rfl, Nat.le_of_ble_eq_true rfl⟩) C0 hP hS (fun H locs hP hS => ?_)
  refine lv_aload_n hx hb dX1_wouldJoin_6 rfl (lv_at hl 0 rfl) ?_
  refine lv_iload_n hx hb dX1_wouldJoin_7 rfl (lv_at hl 2 rfl) ?_
  refine k0_r (rn_X1_42 (As := [.int (nI i)]) (rest := [.ref (ad (6 + 4 * i)), .ref (ad 0)]) (r := 0) C0 (m_X1_handAt l D cA N ad (c) n i (by omega) hF (by omega) (by omega) _) hP hS (by omega) hF.1 rfl ⟨rfl, rfl⟩ ⟨by decide, by decide⟩ hl.1 rfl (Nat.le_of_ble_eq_true rfl) dX1_wouldJoin_8 ⟨Nat.le_of_ble_eq_true rfl, Nat.le_of_ble_eq_true rfl⟩) C0 hP hS (fun H locs hP hS => ?_)
  refine k0_i (rn_X1_155 (As := [.ref (ad (6 + 4 * i)), .ref (ad (6 + 4 * i))]) (rest := []) (r := 0) C0 (m_X1_takenIfJoined__s l D cA N ad (c) n (6 + 4 * i) R Y L S D9 K st (by omega) hF ht (by omega) (by omega) hH hok _) hP hS (by omega) hF.1 rfl ⟨rfl, rfl⟩ ⟨by decide, by decide⟩ hl.1 rfl (Nat.le_of_ble_eq_true rfl) dX1_wouldJoin_11 ⟨Nat.le_of_ble_eq_true rfl, Nat.le_of_ble_eq_true rfl⟩) C0 hP hS (fun v11 c11 H locs hp hP hS => ?_)
  obtain ⟨hv, htt⟩ := hp
  exact e_i C0 hr hlk hP hS dX1_wouldJoin_14 (by decide) (by decide) ⟨hv, htt⟩
set_option maxHeartbeats 1000000 in
set_option maxRecDepth 10000 in
theorem m_X1_wouldJoin__n (l : Launch) (D : va_G) (cA : Nat → ClassId) (N : Nat) (ad : Nat → Nat) (c : Nat → va_E) (n i R Y L S D9 K : Nat) (st : Nat → Nat → Int32) (j Ro Yo Lo So Do Ko : Nat) (sto : Nat → Nat → Int32)  (hN : 6 + 4 * n ≤ N) (hF : FH ad cA c n) (ht : TrAt ad cA c) (hi : i < n) (hH : HandAt ad cA c (6 + 4 * i) R Y L S D9 K st) (hok : Hok R Y L S D9 K) (hj : j < n) (hO : HandAt ad cA c (6 + 4 * j) Ro Yo Lo So Do Ko sto) (hoo : Hok Ro Yo Lo So Do Ko) (hij : ad (6 + 4 * i) ≠ ad (6 + 4 * j)) (hijn : i ≠ j) (hna : ¬ (Y = 0 ∧ Yo = 0 ∧ R = Ro)) : Ci l yX1_wouldJoin wX1_wouldJoin { frames := 5, cells := 0, slots := 0, locals := 117 } [.ref (ad 0), .int (nI i), .int (nI j)] D cA N ad c 0 0 (fun v c' => v = -1 ∧ Tr ad cA c c') := by
  intro sz9
  refine bd_of (cc := cX1_wouldJoin) (maxL := 3) (ret := some Jvm.ClassFile.FieldType.int) (by decide) rfl (Nat.le_of_ble_eq_true rfl) ?_
  intro p e s m below meth c0 C0 hr hlk hnm hP hS hsz ls hl
  subst hsz
  have hx := C0.1
  have hb := C0.2.1
  have hl : lv_has ls 3 [(0, .ref (ad 0)), (1, .int (nI i)), (2, .int (nI j))] := hl
  obtain ⟨q1, q2, q3, q4, q5, q6, q7, q8, q9⟩ := id hok
  obtain ⟨o1, o2, o3, o4, o5, o6, o7, o8, o9⟩ := id hoo
  have hn5 := hF.2.2
  refine lv_aload_n hx hb dX1_wouldJoin_0 rfl (lv_at hl 0 rfl) ?_
  refine lv_aload_n hx hb dX1_wouldJoin_1 rfl (lv_at hl 0 rfl) ?_
  refine lv_iload_n hx hb dX1_wouldJoin_2 rfl (lv_at hl 1 rfl) ?_
  refine k0_r (rn_X1_42 (As := [.int (nI i)]) (rest := [.ref (ad 0)]) (r := 0) C0 (m_X1_handAt l D cA N ad (c) n i (by omega) hF (by omega) (by omega) _) hP hS (by omega) hF.1 rfl ⟨rfl, rfl⟩ ⟨by decide, by decide⟩ hl.1 rfl (Nat.le_of_ble_eq_true rfl) dX1_wouldJoin_3 ⟨Nat.le_of_ble_eq_true rfl, Nat.le_of_ble_eq_true rfl⟩) C0 hP hS (fun H locs hP hS => ?_)
  refine lv_aload_n hx hb dX1_wouldJoin_6 rfl (lv_at hl 0 rfl) ?_
  refine lv_iload_n hx hb dX1_wouldJoin_7 rfl (lv_at hl 2 rfl) ?_
  refine k0_r (rn_X1_42 (As := [.int (nI j)]) (rest := [.ref (ad (6 + 4 * i)), .ref (ad 0)]) (r := 0) C0 (m_X1_handAt l D cA N ad (c) n j (by omega) hF (by omega) (by omega) _) hP hS (by omega) hF.1 rfl ⟨rfl, rfl⟩ ⟨by decide, by decide⟩ hl.1 rfl (Nat.le_of_ble_eq_true rfl) dX1_wouldJoin_8 ⟨Nat.le_of_ble_eq_true rfl, Nat.le_of_ble_eq_true rfl⟩) C0 hP hS (fun H locs hP hS => ?_)
  refine k0_i (rn_X1_155 (As := [.ref (ad (6 + 4 * i)), .ref (ad (6 + 4 * j))]) (rest := []) (r := 0) C0 (m_X1_takenIfJoined__n l D cA N ad (c) n (6 + 4 * i) R Y L S D9 K st (6 + 4 * j) Ro Yo Lo So Do Ko sto (by omega) hF ht (by omega) (by omega) hH hok (by omega) (by omega) hO hoo (by omega) hij hna _) hP hS (by omega) hF.1 rfl ⟨rfl, rfl⟩ ⟨by decide, by decide⟩ hl.1 rfl (Nat.le_of_ble_eq_true rfl) dX1_wouldJoin_11 ⟨Nat.le_of_ble_eq_true rfl, Nat.le_of_ble_eq_true rfl⟩) C0 hP hS (fun v11 c11 H locs hp hP hS => ?_)
  obtain ⟨hv, htt⟩ := hp
  exact e_i C0 hr hlk hP hS dX1_wouldJoin_14 (by decide) (by decide) ⟨hv, htt⟩
set_option maxHeartbeats 1000000 in
set_option maxRecDepth 10000 in
theorem m_X1_wouldJoin__j (l : Launch) (D : va_G) (cA : Nat → ClassId) (N : Nat) (ad : Nat → Nat) (c : Nat → va_E) (n i R Y L S D9 K : Nat) (st : Nat → Nat → Int32) (j Ro Yo Lo So Do Ko : Nat) (sto : Nat → Nat → Int32)  (hN : 6 + 4 * n ≤ N) (hF : FH ad cA c n) (ht : TrAt ad cA c) (hi : i < n) (hH : HandAt ad cA c (6 + 4 * i) R Y L S D9 K st) (hok : Hok R Y L S D9 K) (hj : j < n) (hO : HandAt ad cA c (6 + 4 * j) Ro Yo Lo So Do Ko sto) (hoo : Hok Ro Yo Lo So Do Ko) (hij : ad (6 + 4 * i) ≠ ad (6 + 4 * j)) (hijn : i ≠ j) (hal : Y = 0 ∧ Yo = 0 ∧ R = Ro) : Ci l yX1_wouldJoin wX1_wouldJoin { frames := 5, cells := 0, slots := 0, locals := 117 } [.ref (ad 0), .int (nI i), .int (nI j)] D cA N ad c 0 0 (fun v c' => ∃ stt, v = nI (jn S So K Ko st sto R (0, 0, L, stB stt st K)).2.1 ∧ Tr ad cA c c') := by
  intro sz9
  refine bd_of (cc := cX1_wouldJoin) (maxL := 3) (ret := some Jvm.ClassFile.FieldType.int) (by decide) rfl (Nat.le_of_ble_eq_true rfl) ?_
  intro p e s m below meth c0 C0 hr hlk hnm hP hS hsz ls hl
  subst hsz
  have hx := C0.1
  have hb := C0.2.1
  have hl : lv_has ls 3 [(0, .ref (ad 0)), (1, .int (nI i)), (2, .int (nI j))] := hl
  obtain ⟨q1, q2, q3, q4, q5, q6, q7, q8, q9⟩ := id hok
  obtain ⟨o1, o2, o3, o4, o5, o6, o7, o8, o9⟩ := id hoo
  have hn5 := hF.2.2
  refine lv_aload_n hx hb dX1_wouldJoin_0 rfl (lv_at hl 0 rfl) ?_
  refine lv_aload_n hx hb dX1_wouldJoin_1 rfl (lv_at hl 0 rfl) ?_
  refine lv_iload_n hx hb dX1_wouldJoin_2 rfl (lv_at hl 1 rfl) ?_
  refine k0_r (rn_X1_42 (As := [.int (nI i)]) (rest := [.ref (ad 0)]) (r := 0) C0 (m_X1_handAt l D cA N ad (c) n i (by omega) hF (by omega) (by omega) _) hP hS (by omega) hF.1 rfl ⟨rfl, rfl⟩ ⟨by decide, by decide⟩ hl.1 rfl (Nat.le_of_ble_eq_true rfl) dX1_wouldJoin_3 ⟨Nat.le_of_ble_eq_true rfl, Nat.le_of_ble_eq_true rfl⟩) C0 hP hS (fun H locs hP hS => ?_)
  refine lv_aload_n hx hb dX1_wouldJoin_6 rfl (lv_at hl 0 rfl) ?_
  refine lv_iload_n hx hb dX1_wouldJoin_7 rfl (lv_at hl 2 rfl) ?_
  refine k0_r (rn_X1_42 (As := [.int (nI j)]) (rest := [.ref (ad (6 + 4 * i)), .ref (ad 0)]) (r := 0) C0 (m_X1_handAt l D cA N ad (c) n j (by omega) hF (by omega) (by omega) _) hP hS (by omega) hF.1 rfl ⟨rfl, rfl⟩ ⟨by decide, by decide⟩ hl.1 rfl (Nat.le_of_ble_eq_true rfl) dX1_wouldJoin_8 ⟨Nat.le_of_ble_eq_true rfl, Nat.le_of_ble_eq_true rfl⟩) C0 hP hS (fun H locs hP hS => ?_)
  refine k0_i (rn_X1_155 (As := [.ref (ad (6 + 4 * i)), .ref (ad (6 + 4 * j))]) (rest := []) (r := 0) C0 (m_X1_takenIfJoined__j l D cA N ad (c) n (6 + 4 * i) R Y L S D9 K st (6 + 4 * j) Ro Yo Lo So Do Ko sto (by omega) hF ht (by omega) (by omega) hH hok (by omega) (by omega) hO hoo (by omega) hij hal _) hP hS (by omega) hF.1 rfl ⟨rfl, rfl⟩ ⟨by decide, by decide⟩ hl.1 rfl (Nat.le_of_ble_eq_true rfl) dX1_wouldJoin_11 ⟨Nat.le_of_ble_eq_true rfl, Nat.le_of_ble_eq_true rfl⟩) C0 hP hS (fun v11 c11 H locs hp hP hS => ?_)
  obtain ⟨stj, hv, htt⟩ := hp
  exact e_i C0 hr hlk hP hS dX1_wouldJoin_14 (by decide) (by decide) ⟨stj, hv, htt⟩
set_option maxHeartbeats 1000000 in
set_option maxRecDepth 10000 in
theorem m_X1_offer (l : Launch) (D : va_G) (cA : Nat → ClassId) (N : Nat) (ad : Nat → Nat) (c : Nat → va_E) (n i R Y L S D9 K : Nat) (st : Nat → Nat → Int32) (x w : Nat) (hN : 6 + 4 * n ≤ N) (hF : FH ad cA c n) (hi : i < n) (hH : HandAt ad cA c (6 + 4 * i) R Y L S D9 K st) (hok : Hok R Y L S D9 K) (hx9 : x ≤ 999) (hw0 : 1 ≤ w) (hw9 : w ≤ 9) : Ci l yX1_offer wX1_offer { frames := 3, cells := 0, slots := 0, locals := 66 } [.ref (ad 0), .int (nI i), .int (nI x), .int (nI w)] D cA N ad c 0 0 (fun v c' => v = oI (pk R Y L (S + 1) (D9 + w) K w).1 ∧ hw ad cA c (6 + 4 * i) R Y ((pk R Y L (S + 1) (D9 + w) K w).2.1) (S + 1) (D9 + w) ((pk R Y L (S + 1) (D9 + w) K w).2.2) (stT st (pk R Y L (S + 1) (D9 + w) K w).1 (nI x) (nI w) (nI (S + 1))) = c') := by
  intro sz9
  refine bd_of (cc := cX1_offer) (maxL := 5) (ret := some Jvm.ClassFile.FieldType.int) (by decide) rfl (Nat.le_of_ble_eq_true rfl) ?_
  intro p e s m below meth c0 C0 hr hlk hnm hP hS hsz ls hl
  subst hsz
  have hx := C0.1
  have hb := C0.2.1
  have hl : lv_has ls 5 [(0, .ref (ad 0)), (1, .int (nI i)), (2, .int (nI x)), (3, .int (nI w))] := hl
  obtain ⟨q1, q2, q3, q4, q5, q6, q7, q8, q9⟩ := id hok
  have hn5 := hF.2.2
  refine lv_aload_n hx hb dX1_offer_0 rfl (lv_at hl 0 rfl) ?_
  refine lv_iload_n hx hb dX1_offer_1 rfl (lv_at hl 1 rfl) ?_
  refine k0_r (rn_X1_42 (As := [.int (nI i)]) (rest := []) (r := 0) C0 (m_X1_handAt l D cA N ad (c) n i (by omega) hF (by omega) (by omega) _) hP hS (by omega) hF.1 rfl ⟨rfl, rfl⟩ ⟨by decide, by decide⟩ hl.1 rfl (Nat.le_of_ble_eq_true rfl) dX1_offer_2 ⟨Nat.le_of_ble_eq_true rfl, Nat.le_of_ble_eq_true rfl⟩) C0 hP hS (fun H locs hP hS => ?_)
  refine lv_astore (lv' := [(4, .ref (ad (6 + 4 * i))), (0, .ref (ad 0)), (1, .int (nI i)), (2, .int (nI x)), (3, .int (nI w))]) hx hb dX1_offer_5 hl (by decide) rfl (fun ls hl => ?_)
  refine lv_iload_n hx hb dX1_offer_7 rfl (lv_at hl 3 rfl) ?_
  refine lv_iconst (v := nI 0) hx hb dX1_offer_8 rfl ?_
  refine lv_sipush (v := nI 999) hx hb dX1_offer_9 rfl ?_
  refine k0_i (rn_X1_22 (As := [.int (nI x), .int (nI 0), .int (nI 999)]) (rest := []) C0 (m_X1_isWithin l D cA N ad (c) (nI x) (nI 0) (nI 999) _) hP hS rfl ⟨rfl, rfl⟩ ⟨by decide, by decide⟩ hl.1 rfl (Nat.le_of_ble_eq_true rfl) dX1_offer_12 ⟨Nat.le_of_ble_eq_true rfl, Nat.le_of_ble_eq_true rfl⟩) C0 hP hS (fun v12 c12 H locs hp hP hS => ?_)
  obtain ⟨hv, rfl⟩ := hp
  obtain rfl : v12 = nI 1 := by rw [hv, if_pos ⟨nI_le (by omega) (by omega), nI_le (by omega) (by omega)⟩]; rfl
  refine n_if_eq (tgt := 28) hx hb (by omega) dX1_offer_15 (by decide) (fun h15 => ?_) (fun h15 => ?_)
  · exfalso; omega
  refine lv_iload_n hx hb dX1_offer_18 rfl (lv_at hl 4 rfl) ?_
  refine lv_iconst (v := nI 1) hx hb dX1_offer_19 rfl ?_
  refine lv_bipush (v := nI 9) hx hb dX1_offer_20 rfl ?_
  refine k0_i (rn_X1_22 (As := [.int (nI w), .int (nI 1), .int (nI 9)]) (rest := []) C0 (m_X1_isWithin l D cA N ad (c) (nI w) (nI 1) (nI 9) _) hP hS rfl ⟨rfl, rfl⟩ ⟨by decide, by decide⟩ hl.1 rfl (Nat.le_of_ble_eq_true rfl) dX1_offer_22 ⟨Nat.le_of_ble_eq_true rfl, Nat.le_of_ble_eq_true rfl⟩) C0 hP hS (fun v22 c22 H locs hp hP hS => ?_)
  obtain ⟨hv, rfl⟩ := hp
  obtain rfl : v22 = nI 1 := by rw [hv, if_pos ⟨nI_le (by omega) (by omega), nI_le (by omega) (by omega)⟩]; rfl
  refine n_if_ne (tgt := 38) hx hb (by omega) dX1_offer_25 (by decide) (fun h25 => ?_) (fun h25 => ?_)
  rotate_left
  · exfalso; omega
  refine lv_aload hx hb dX1_offer_38 (lv_at hl 0 rfl) ?_
  refine lv_iload_n hx hb dX1_offer_40 rfl (lv_at hl 3 rfl) ?_
  refine lv_iload_n hx hb dX1_offer_41 rfl (lv_at hl 4 rfl) ?_
  refine k0_i (rn_X1_48 (As := [.int (nI x), .int (nI w)]) (rest := []) (r := 6 + 4 * i) C0 (m_X0_take l D cA N ad (c) (6 + 4 * i) R Y L S D9 K st (nI x) w (by omega) hH (by omega) (by omega) (by omega) (by omega) (by omega) (by omega) (by omega) (by omega) (by omega) _) hP hS (by omega) hH.1 rfl ⟨rfl, rfl⟩ ⟨by decide, by decide⟩ hl.1 rfl (Nat.le_of_ble_eq_true rfl) dX1_offer_42 ⟨Nat.le_of_ble_eq_true rfl, Nat.le_of_ble_eq_true rfl⟩) C0 hP hS (fun v42 c42 H locs hp hP hS => ?_)
  obtain ⟨rfl, rfl⟩ := hp
  skip
  exact e_i C0 hr hlk hP hS dX1_offer_45 (by decide) (by decide) ⟨rfl, rfl⟩
set_option maxHeartbeats 1000000 in
set_option maxRecDepth 10000 in
theorem m_X1_setLuck (l : Launch) (D : va_G) (cA : Nat → ClassId) (N : Nat) (ad : Nat → Nat) (c : Nat → va_E) (n i R Y L S D9 K : Nat) (st : Nat → Nat → Int32) (y : Nat) (hN : 6 + 4 * n ≤ N) (hF : FH ad cA c n) (hi : i < n) (hH : HandAt ad cA c (6 + 4 * i) R Y L S D9 K st) (hok : Hok R Y L S D9 K) (hy : y ≤ 9999) : Ci l yX1_setLuck wX1_setLuck { frames := 1, cells := 0, slots := 0, locals := 22 } [.ref (ad 0), .int (nI i), .int (nI y)] D cA N ad c 0 0 (fun v c' => v = nI L ∧ hw ad cA c (6 + 4 * i) R Y y S D9 K st = c') := by
  intro sz9
  refine bd_of (cc := cX1_setLuck) (maxL := 5) (ret := some Jvm.ClassFile.FieldType.int) (by decide) rfl (Nat.le_of_ble_eq_true rfl) ?_
  intro p e s m below meth c0 C0 hr hlk hnm hP hS hsz ls hl
  subst hsz
  have hx := C0.1
  have hb := C0.2.1
  have hl : lv_has ls 5 [(0, .ref (ad 0)), (1, .int (nI i)), (2, .int (nI y))] := hl
  obtain ⟨q1, q2, q3, q4, q5, q6, q7, q8, q9⟩ := id hok
  have hn5 := hF.2.2
  refine lv_aload_n hx hb dX1_setLuck_0 rfl (lv_at hl 0 rfl) ?_
  refine lv_iload_n hx hb dX1_setLuck_1 rfl (lv_at hl 1 rfl) ?_
  refine k0_r (rn_X1_42 (As := [.int (nI i)]) (rest := []) (r := 0) C0 (m_X1_handAt l D cA N ad (c) n i (by omega) hF (by omega) (by omega) _) hP hS (by omega) hF.1 rfl ⟨rfl, rfl⟩ ⟨by decide, by decide⟩ hl.1 rfl (Nat.le_of_ble_eq_true rfl) dX1_setLuck_2 ⟨Nat.le_of_ble_eq_true rfl, Nat.le_of_ble_eq_true rfl⟩) C0 hP hS (fun H locs hP hS => ?_)
  refine lv_astore_n (lv' := [(3, .ref (ad (6 + 4 * i))), (0, .ref (ad 0)), (1, .int (nI i)), (2, .int (nI y))]) hx hb dX1_setLuck_5 rfl hl (by decide) rfl (fun ls hl => ?_)
  refine lv_iload_n hx hb dX1_setLuck_6 rfl (lv_at hl 3 rfl) ?_
  refine lv_iconst (v := nI 0) hx hb dX1_setLuck_7 rfl ?_
  refine lv_sipush (v := nI 9999) hx hb dX1_setLuck_8 rfl ?_
  refine k0_i (rn_X1_22 (As := [.int (nI y), .int (nI 0), .int (nI 9999)]) (rest := []) C0 (m_X1_isWithin l D cA N ad (c) (nI y) (nI 0) (nI 9999) _) hP hS rfl ⟨rfl, rfl⟩ ⟨by decide, by decide⟩ hl.1 rfl (Nat.le_of_ble_eq_true rfl) dX1_setLuck_11 ⟨Nat.le_of_ble_eq_true rfl, Nat.le_of_ble_eq_true rfl⟩) C0 hP hS (fun v11 c11 H locs hp hP hS => ?_)
  obtain ⟨hv, rfl⟩ := hp
  obtain rfl : v11 = nI 1 := by rw [hv, if_pos ⟨nI_le (by omega) (by omega), nI_le (by omega) (by omega)⟩]; rfl
  refine n_if_ne (tgt := 27) hx hb (by omega) dX1_setLuck_14 (by decide) (fun h14 => ?_) (fun h14 => ?_)
  rotate_left
  · exfalso; omega
  rw [← hw_self hH] at hP
  refine lv_aload_n hx hb dX1_setLuck_27 rfl (lv_at hl 0 rfl) ?_
  refine gh_X1_78 C0 hP hw_at (by omega) dX1_setLuck_28 ?_
  refine lv_istore (lv' := [(4, .int (nI L)), (3, .ref (ad (6 + 4 * i))), (0, .ref (ad 0)), (1, .int (nI i)), (2, .int (nI y))]) hx hb dX1_setLuck_31 hl (by decide) rfl (fun ls hl => ?_)
  refine lv_aload_n hx hb dX1_setLuck_33 rfl (lv_at hl 1 rfl) ?_
  refine lv_iload_n hx hb dX1_setLuck_34 rfl (lv_at hl 4 rfl) ?_
  refine ph_X1_78 C0 hP hS (by omega) dX1_setLuck_35 (fun H locs hP hS => ?_)
  refine lv_iload hx hb dX1_setLuck_38 (lv_at hl 0 rfl) ?_
  exact e_i C0 hr hlk hP hS dX1_setLuck_40 (by decide) (by decide) ⟨rfl, rfl⟩
set_option maxHeartbeats 1000000 in
set_option maxRecDepth 10000 in
theorem m_X1_mix (l : Launch) (D : va_G) (cA : Nat → ClassId) (N : Nat) (ad : Nat → Nat) (c : Nat → va_E) (n i R Y L S D9 K : Nat) (st : Nat → Nat → Int32)  (hN : 6 + 4 * n ≤ N) (hF : FH ad cA c n) (hi : i < n) (hH : HandAt ad cA c (6 + 4 * i) R Y L S D9 K st) (hok : Hok R Y L S D9 K) : Ci l yX1_mix wX1_mix { frames := 3, cells := 0, slots := 0, locals := 68 } [.ref (ad 0), .int (nI i)] D cA N ad c 0 0 (fun v c' => v = nI (mixF (K - 1) (L, st, 0)).2.2 ∧ hw ad cA c (6 + 4 * i) R Y ((mixF (K - 1) (L, st, 0)).1) S D9 K ((mixF (K - 1) (L, st, 0)).2.1) = c') := by
  intro sz9
  refine bd_of (cc := cX1_mix) (maxL := 2) (ret := some Jvm.ClassFile.FieldType.int) (by decide) rfl (Nat.le_of_ble_eq_true rfl) ?_
  intro p e s m below meth c0 C0 hr hlk hnm hP hS hsz ls hl
  subst hsz
  have hx := C0.1
  have hb := C0.2.1
  have hl : lv_has ls 2 [(0, .ref (ad 0)), (1, .int (nI i))] := hl
  obtain ⟨q1, q2, q3, q4, q5, q6, q7, q8, q9⟩ := id hok
  have hn5 := hF.2.2
  refine lv_aload_n hx hb dX1_mix_0 rfl (lv_at hl 0 rfl) ?_
  refine lv_iload_n hx hb dX1_mix_1 rfl (lv_at hl 1 rfl) ?_
  refine k0_r (rn_X1_42 (As := [.int (nI i)]) (rest := []) (r := 0) C0 (m_X1_handAt l D cA N ad (c) n i (by omega) hF (by omega) (by omega) _) hP hS (by omega) hF.1 rfl ⟨rfl, rfl⟩ ⟨by decide, by decide⟩ hl.1 rfl (Nat.le_of_ble_eq_true rfl) dX1_mix_2 ⟨Nat.le_of_ble_eq_true rfl, Nat.le_of_ble_eq_true rfl⟩) C0 hP hS (fun H locs hP hS => ?_)
  refine k0_i (rn_X1_54 (As := []) (rest := []) (r := 6 + 4 * i) C0 (m_X0_shuffle l D cA N ad (c) (6 + 4 * i) R Y L S D9 K st (by omega) hH (by omega) (by omega) _) hP hS (by omega) hH.1 rfl ⟨rfl, rfl⟩ ⟨by decide, by decide⟩ hl.1 rfl (Nat.le_of_ble_eq_true rfl) dX1_mix_5 ⟨Nat.le_of_ble_eq_true rfl, Nat.le_of_ble_eq_true rfl⟩) C0 hP hS (fun v5 c5 H locs hp hP hS => ?_)
  obtain ⟨rfl, rfl⟩ := hp
  exact e_i C0 hr hlk hP hS dX1_mix_8 (by decide) (by decide) ⟨rfl, rfl⟩
