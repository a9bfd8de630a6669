/-! the mathematics of one hand -/
/-- luck's next -/
def nl (a : Nat) : Nat := (a * 4621 + 2777) % 10000
theorem nl_lt (a : Nat) : nl a < 10000 := Nat.mod_lt _ (by decide)
theorem nI_dec {k : Nat} (h : 1 ≤ k) : nI k + Int32.ofInt (-1) = nI (k - 1) := by
  obtain ⟨j, rfl⟩ : ∃ j, k = j + 1 := ⟨k - 1, by omega⟩
  rw [Nat.add_sub_cancel]
  exact pk_m1 j
theorem i_le {x y : Int32} (h : ¬ x < y) : y ≤ x := by
  rw [Int32.lt_iff_toInt_lt] at h
  rw [Int32.le_iff_toInt_le]
  omega
theorem i_nle {x y : Int32} (h : x < y) : ¬ y ≤ x := by
  rw [Int32.lt_iff_toInt_lt] at h
  rw [Int32.le_iff_toInt_le]
  omega
set_option maxHeartbeats 1000000 in
set_option maxRecDepth 10000 in
theorem m_X1_isWithin (l : Launch) (D : va_G) (cA : Nat → ClassId) (N : Nat) (ad : Nat → Nat) (c : Nat → va_E) (x lo hi : Int32)  : Ci l yX1_isWithin wX1_isWithin { frames := 0, cells := 0, slots := 0, locals := 0 } [.int x, .int lo, .int hi] D cA N ad c 0 0 (fun v c' => v = (if lo ≤ x ∧ x ≤ hi then 1 else 0) ∧ c = c') := by
  intro sz9
  refine bd_of (cc := cX1_isWithin) (maxL := 3) (ret := some Jvm.ClassFile.FieldType.boolean) (by decide) rfl (Nat.le_of_ble_eq_true rfl) ?_
  intro p e s m below meth c0 C0 hr hlk hnm hP hS hsz ls hl
  subst hsz
  have hx := C0.1
  have hb := C0.2.1
  have hl : lv_has ls 3 [(0, .int x), (1, .int lo), (2, .int hi)] := hl
  refine lv_iload_n hx hb dX1_isWithin_0 rfl (lv_at hl 0 rfl) ?_
  refine lv_iload_n hx hb dX1_isWithin_1 rfl (lv_at hl 1 rfl) ?_
  refine lv_icmp_lt (tgt := 14) hx hb dX1_isWithin_2 (by decide) (fun h2 => ?_) (fun h2 => ?_)
  · refine lv_iconst (v := nI 0) hx hb dX1_isWithin_14 rfl ?_
    exact e_z C0 hr hlk hP hS dX1_isWithin_15 (by decide) (by decide) (by decide +kernel) ⟨by rw [if_neg (fun q => i_nle h2 q.1)]; rfl, rfl⟩
  · refine lv_iload_n hx hb dX1_isWithin_5 rfl (lv_at hl 0 rfl) ?_
    refine lv_iload_n hx hb dX1_isWithin_6 rfl (lv_at hl 2 rfl) ?_
    refine lv_icmp_gt (tgt := 14) hx hb dX1_isWithin_7 (by decide) (fun h7 => ?_) (fun h7 => ?_)
    · refine lv_iconst (v := nI 0) hx hb dX1_isWithin_14 rfl ?_
      exact e_z C0 hr hlk hP hS dX1_isWithin_15 (by decide) (by decide) (by decide +kernel) ⟨by rw [if_neg (fun q => i_nle h7 q.2)]; rfl, rfl⟩
    · refine lv_iconst (v := nI 1) hx hb dX1_isWithin_10 rfl ?_
      refine lv_goto (tgt := 15) hx hb dX1_isWithin_11 (by decide) ?_
      exact e_z C0 hr hlk hP hS dX1_isWithin_15 (by decide) (by decide) (by decide +kernel) ⟨by rw [if_pos ⟨i_le h2, i_le h7⟩]; rfl, rfl⟩
set_option maxHeartbeats 1000000 in
set_option maxRecDepth 10000 in
theorem m_X1_at (l : Launch) (D : va_G) (cA : Nat → ClassId) (N : Nat) (ad : Nat → Nat) (c : Nat → va_E) (r n j : Nat) (f : Nat → Int32) (hrN : r < N) (hc : c r = .inl (cA 0, n, .inl f)) (hn : n < 2 ^ 31) (hj : j < n) : Ci l yX1_at wX1_at { frames := 0, cells := 0, slots := 0, locals := 0 } [.ref (ad r), .int (nI j)] D cA N ad c 0 0 (fun v c' => v = f j ∧ c = c') := by
  intro sz9
  refine bd_of (cc := cX1_at) (maxL := 2) (ret := some Jvm.ClassFile.FieldType.int) (by decide) rfl (Nat.le_of_ble_eq_true rfl) ?_
  intro p e s m below meth c0 C0 hr hlk hnm hP hS hsz ls hl
  subst hsz
  have hx := C0.1
  have hb := C0.2.1
  have hl : lv_has ls 2 [(0, .ref (ad r)), (1, .int (nI j))] := hl
  refine lv_iload_n hx hb dX1_at_0 rfl (lv_at hl 1 rfl) ?_
  refine n_if_lt (tgt := 16) hx hb (by omega) dX1_at_1 (by decide) (fun h1 => ?_) (fun h1 => ?_)
  · exfalso; omega
  refine lv_iload_n hx hb dX1_at_4 rfl (lv_at hl 1 rfl) ?_
  refine lv_aload_n hx hb dX1_at_5 rfl (lv_at hl 0 rfl) ?_
  refine a_len C0 hP (by omega) hc dX1_at_6 ?_
  refine n_icmp_ge (tgt := 16) hx hb (by omega) (by omega) dX1_at_7 (by decide) (fun h7 => ?_) (fun h7 => ?_)
  · exfalso; omega
  refine lv_aload_n hx hb dX1_at_10 rfl (lv_at hl 0 rfl) ?_
  refine lv_iload_n hx hb dX1_at_11 rfl (lv_at hl 1 rfl) ?_
  refine a_ild C0 hP (by omega) hc (by omega) (by omega) dX1_at_12 ?_
  refine lv_goto (tgt := 17) hx hb dX1_at_13 (by decide) ?_
  exact e_i C0 hr hlk hP hS dX1_at_17 (by decide) (by decide) ⟨rfl, rfl⟩
set_option maxHeartbeats 1000000 in
set_option maxRecDepth 10000 in
theorem m_X1_put (l : Launch) (D : va_G) (cA : Nat → ClassId) (N : Nat) (ad : Nat → Nat) (c : Nat → va_E) (r n j : Nat) (f : Nat → Int32) (x : Int32) (hrN : r < N) (hc : c r = .inl (cA 0, n, .inl f)) (hn : n < 2 ^ 31) (hj : j < n) : Cv l yX1_put wX1_put { frames := 0, cells := 0, slots := 0, locals := 0 } [.ref (ad r), .int (nI j), .int x] D cA N ad c 0 0 (fun c' => va_up c r (.inl (cA 0, n, .inl (upd f j x))) = c') := by
  intro sz9
  refine bd_of (cc := cX1_put) (maxL := 3) (ret := none) (by decide) rfl (Nat.le_of_ble_eq_true rfl) ?_
  intro p e s m below meth c0 C0 hr hlk hnm hP hS hsz ls hl
  subst hsz
  have hx := C0.1
  have hb := C0.2.1
  have hl : lv_has ls 3 [(0, .ref (ad r)), (1, .int (nI j)), (2, .int x)] := hl
  refine lv_iload_n hx hb dX1_put_0 rfl (lv_at hl 1 rfl) ?_
  refine n_if_lt (tgt := 14) hx hb (by omega) dX1_put_1 (by decide) (fun h1 => ?_) (fun h1 => ?_)
  · exfalso; omega
  refine lv_iload_n hx hb dX1_put_4 rfl (lv_at hl 1 rfl) ?_
  refine lv_aload_n hx hb dX1_put_5 rfl (lv_at hl 0 rfl) ?_
  refine a_len C0 hP (by omega) hc dX1_put_6 ?_
  refine n_icmp_ge (tgt := 14) hx hb (by omega) (by omega) dX1_put_7 (by decide) (fun h7 => ?_) (fun h7 => ?_)
  · exfalso; omega
  refine lv_aload_n hx hb dX1_put_10 rfl (lv_at hl 0 rfl) ?_
  refine lv_iload_n hx hb dX1_put_11 rfl (lv_at hl 1 rfl) ?_
  refine lv_iload_n hx hb dX1_put_12 rfl (lv_at hl 2 rfl) ?_
  refine a_ist C0 hP hS hrN hc hn hj dX1_put_13 (fun H locs hP hS => ?_)
  exact e_v C0 hr hlk hP hS dX1_put_14 (by decide) (by decide) rfl
