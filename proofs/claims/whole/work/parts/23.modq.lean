/-- a stone more: the numbers on the places of those that were there -/
theorem hitstep {R Y : Nat} {x : Nat × Nat × Nat × Nat} {A2 A3 : Nat → Int32} {a k t9 : Nat} {v w : Int32} (ht9 : t9 < 2 ^ 31) (hst : ∀ k9 q, k9 < 3 → sto A3 a k9 q = stT (sto A2 a) (itP R Y 1 k x) v w (nI t9) k9 q) (h8 : True ∨ k < 1000) (htn : ∀ p, p < 8 → (hit R Y x p k = false → A2 (a + 6 + 3 * p + 2) = -1) ∧ (hit R Y x p k = true → ∃ t, t < 2 ^ 31 ∧ A2 (a + 6 + 3 * p + 2) = nI t)) : ∀ p, p < 8 → (hit R Y x p (k + 1) = false → A3 (a + 6 + 3 * p + 2) = -1) ∧ (hit R Y x p (k + 1) = true → ∃ t, t < 2 ^ 31 ∧ A3 (a + 6 + 3 * p + 2) = nI t) := by
  intro p hp
  have e : A3 (a + 6 + 3 * p + 2) = if itP R Y 1 k x = some p then nI t9 else A2 (a + 6 + 3 * p + 2) := by
    have h := hst 2 p (by omega)
    have h : A3 (a + 6 + 3 * p + 2) = stT (sto A2 a) (itP R Y 1 k x) v w (nI t9) 2 p := h
    rw [h]
    cases hq : itP R Y 1 k x with
    | none => simp [stT, sto]
    | some q =>
      by_cases hpq : p = q
      · subst hpq; simp [stT, stU, upd]
      · have h2 : ¬ q = p := fun e => hpq e.symm
        simp [stT, stU, upd, hpq, h2, sto]
  obtain ⟨h1, h2⟩ := htn p hp
  constructor
  · intro h
    have h : (hit R Y x p k || (itP R Y 1 k x == some p)) = false := h
    rw [Bool.or_eq_false_iff] at h
    rw [e, if_neg (fun q => by rw [q] at h; simp at h)]
    exact h1 h.1
  · intro h
    have h : (hit R Y x p k || (itP R Y 1 k x == some p)) = true := h
    rw [e]
    by_cases hq : itP R Y 1 k x = some p
    · rw [if_pos hq]; exact ⟨t9, ht9, rfl⟩
    · rw [if_neg hq]
      refine h2 ?_
      rcases Bool.or_eq_true_iff.mp h with q | q
      · exact q
      · exact absurd (by simpa using q) hq
set_option maxHeartbeats 1000000 in
set_option maxRecDepth 10000 in
theorem m_X2_luckBehind (l : Launch) (D : va_G) (cA : Nat → ClassId) (N : Nat) (ad : Nat → Nat) (c : Nat → va_E) (th : Int32) (n : Nat) (nw ah rw : Nat → Int32) (i R Y L S D9 K : Nat) (k9 : Nat) (hN10 : 10 ≤ N) (hM : MoAt ad cA c th n nw ah rw) (hn5 : n ≤ 5) (hi : i < n) (hrow : RowE nw (30 * i) R Y L S D9 K) (hok : Hok R Y L S D9 K) (hk9 : k9 < 2 ^ 30) : Ci l yX2_luckBehind wX2_luckBehind { frames := 0, cells := 0, slots := 0, locals := 0 } [.ref (ad 6), .int (nI i), .int (nI k9)] D cA N ad c 0 0 (fun v c' => v = nI (nlI k9 L) ∧ c = c') := by
  intro sz9
  refine bd_of (cc := cX2_luckBehind) (maxL := 5) (ret := some Jvm.ClassFile.FieldType.int) (by decide) rfl (Nat.le_of_ble_eq_true rfl) ?_
  intro p e s m below meth c0 C0 hr hlk hnm hP hS hsz ls hl
  subst hsz
  have hx := C0.1
  have hb := C0.2.1
  have hl : lv_has ls 5 [(0, .ref (ad 6)), (1, .int (nI i)), (2, .int (nI k9))] := hl
  obtain ⟨r0, r1, r2, r3, r4, r5⟩ := id hrow
  obtain ⟨q1, q2, q3, q4, q5, q6, q7, q8, q9⟩ := id hok
  refine lv_aload_n hx hb dX2_luckBehind_0 rfl (lv_at hl 0 rfl) ?_
  refine gf_X2_9 C0 hP (by omega) hM.1 rfl dX2_luckBehind_1 ?_
  refine lv_bipush (v := nI 30) hx hb dX2_luckBehind_4 rfl ?_
  refine lv_iload_n hx hb dX2_luckBehind_6 rfl (lv_at hl 1 rfl) ?_
  refine n_imul hx hb dX2_luckBehind_7 ?_
  refine lv_iconst (v := nI 2) hx hb dX2_luckBehind_8 rfl ?_
  refine n_iadd hx hb dX2_luckBehind_9 ?_
  refine a_ildE C0 hP (by omega) hM.2.1 (by omega) (by omega) r2 dX2_luckBehind_10 ?_
  refine lv_istore_n (lv' := [(3, .int (nI L)), (0, .ref (ad 6)), (1, .int (nI i)), (2, .int (nI k9))]) hx hb dX2_luckBehind_11 rfl hl (by decide) rfl (fun ls hl => ?_)
  refine lv_iconst (v := nI 0) hx hb dX2_luckBehind_12 rfl ?_
  refine lv_istore (lv' := [(4, .int (nI 0)), (3, .int (nI L)), (0, .ref (ad 6)), (1, .int (nI i)), (2, .int (nI k9))]) hx hb dX2_luckBehind_13 hl (by decide) rfl (fun ls hl => ?_)
  have loop15 : ∀ (n9 : Nat) (k : Nat), (k ≤ k9) → k9 - k < n9 → ∀ (H : Heap) (locs : List Loc) (ls : Array Slot), va_P D vwCl (wl N ad (c)) H → va_S (wA N ad s.heap.size) s.heap H locs → lv_has ls 5 [(0, .ref (ad 6)), (1, .int (nI i)), (2, .int (nI k9)), (3, .int (nI (nlI k L))), (4, .int (nI k))] → W p l e { frames := 0, cells := 0, slots := 0, locals := 0 } s m [.ref (ad 6), .int (nI i), .int (nI k9)].toArray below meth c0 H locs 0 0 (MQ below (va_Qi (fun v c' => v = nI (nlI k9 L) ∧ c = c') (fun c' t => va_P D vwCl (wl N ad c') t.heap) (wA N ad s.heap.size)) [.ref (ad 6), .int (nI i), .int (nI k9)].toArray s 0 0 (wA N ad s.heap.size)) (F0 m 15 ls []) := by
    intro n9
    induction n9 with
    | zero => intro k hk hlt9; exact absurd hlt9 (Nat.not_lt_zero _)
    | succ n9 ih15 =>
      intro k hk hlt9 H locs ls hP hS hl
      have hnl := nlI_le q4 k
      refine lv_iload hx hb dX2_luckBehind_15 (lv_at hl 4 rfl) ?_
      refine lv_iload_n hx hb dX2_luckBehind_17 rfl (lv_at hl 2 rfl) ?_
      refine n_icmp_ge (tgt := 41) hx hb (by omega) (by omega) dX2_luckBehind_18 (by decide) (fun h18 => ?_) (fun h18 => ?_)
      · obtain rfl : k9 = k := by omega
        refine lv_iload_n hx hb dX2_luckBehind_41 rfl (lv_at hl 3 rfl) ?_
        exact e_i C0 hr hlk hP hS dX2_luckBehind_42 (by decide) (by decide) ⟨rfl, rfl⟩
      · refine lv_iload_n hx hb dX2_luckBehind_21 rfl (lv_at hl 3 rfl) ?_
        refine lv_sipush (v := nI 4621) hx hb dX2_luckBehind_22 rfl ?_
        refine n_imul hx hb dX2_luckBehind_25 ?_
        refine lv_sipush (v := nI 2777) hx hb dX2_luckBehind_26 rfl ?_
        refine n_iadd hx hb dX2_luckBehind_29 ?_
        refine lv_sipush (v := nI 10000) hx hb dX2_luckBehind_30 rfl ?_
        refine n_irem hx hb (by omega) (by omega) (by omega) dX2_luckBehind_33 ?_
        refine lv_istore_n (lv' := [(3, .int (nI (((nlI k L) * 4621 + 2777) % 10000))), (0, .ref (ad 6)), (1, .int (nI i)), (2, .int (nI k9)), (4, .int (nI k))]) hx hb dX2_luckBehind_34 rfl hl (by decide) rfl (fun ls hl => ?_)
        refine lv_iinc (v := nI (k + 1)) (lv' := [(4, .int (nI (k + 1))), (3, .int (nI (((nlI k L) * 4621 + 2777) % 10000))), (0, .ref (ad 6)), (1, .int (nI i)), (2, .int (nI k9))]) hx hb dX2_luckBehind_35 hl (k := 4) rfl (nI_add k 1) (by decide) rfl (fun ls hl => ?_)
        refine lv_goto (tgt := 15) hx hb dX2_luckBehind_38 (by decide) ?_
        exact ih15 (k + 1) (by omega) (by omega) _ _ _ hP hS (lv_sub hl [2, 3, 4, 1, 0] rfl)
  exact loop15 (_ + 1) 0 (Nat.zero_le _) (Nat.lt_succ_self _) _ _ _ hP hS (lv_sub hl [2, 3, 4, 1, 0] rfl)
set_option maxHeartbeats 1000000 in
set_option maxRecDepth 10000 in
theorem m_X2_matched (l : Launch) (D : va_G) (cA : Nat → ClassId) (N : Nat) (ad : Nat → Nat) (c : Nat → va_E) (th : Int32) (n : Nat) (nw ah rw : Nat → Int32) (i R Y L S D9 K : Nat) (j Ro Yo Lo So Do Ko : Nat)  (hN10 : 10 ≤ N) (hM : MoAt ad cA c th n nw ah rw) (hn5 : n ≤ 5) (hi : i < n) (hrow : RowE nw (30 * i) R Y L S D9 K) (hok : Hok R Y L S D9 K) (hj : j < n) (hrowo : RowE nw (30 * j) Ro Yo Lo So Do Ko) (hoo : Hok Ro Yo Lo So Do Ko) : Ci l yX2_matched wX2_matched { frames := 1, cells := 0, slots := 0, locals := 22 } [.ref (ad 6), .int (nI i), .int (nI j)] D cA N ad c 0 0 (fun v c' => v = nI (com (sto nw (30 * i) 0) (sto nw (30 * j) 0) Ko K) ∧ c = c') := by
  intro sz9
  refine bd_of (cc := cX2_matched) (maxL := 7) (ret := some Jvm.ClassFile.FieldType.int) (by decide) rfl (Nat.le_of_ble_eq_true rfl) ?_
  intro p e s m below meth c0 C0 hr hlk hnm hP hS hsz ls hl
  subst hsz
  have hx := C0.1
  have hb := C0.2.1
  have hl : lv_has ls 7 [(0, .ref (ad 6)), (1, .int (nI i)), (2, .int (nI j))] := hl
  obtain ⟨r0, r1, r2, r3, r4, r5⟩ := id hrow
  obtain ⟨q1, q2, q3, q4, q5, q6, q7, q8, q9⟩ := id hok
  obtain ⟨t0, t1, t2, t3, t4, t5⟩ := id hrowo
  obtain ⟨o1, o2, o3, o4, o5, o6, o7, o8, o9⟩ := id hoo
  refine lv_iconst (v := nI 0) hx hb dX2_matched_0 rfl ?_
  refine lv_istore_n (lv' := [(3, .int (nI 0)), (0, .ref (ad 6)), (1, .int (nI i)), (2, .int (nI j))]) hx hb dX2_matched_1 rfl hl (by decide) rfl (fun ls hl => ?_)
  refine lv_iconst (v := nI 0) hx hb dX2_matched_2 rfl ?_
  refine lv_istore (lv' := [(4, .int (nI 0)), (3, .int (nI 0)), (0, .ref (ad 6)), (1, .int (nI i)), (2, .int (nI j))]) hx hb dX2_matched_3 hl (by decide) rfl (fun ls hl => ?_)
  refine lv_iconst (v := nI 0) hx hb dX2_matched_5 rfl ?_
  refine lv_istore (lv' := [(5, .int (nI 0)), (4, .int (nI 0)), (3, .int (nI 0)), (0, .ref (ad 6)), (1, .int (nI i)), (2, .int (nI j))]) hx hb dX2_matched_6 hl (by decide) rfl (fun ls hl => ?_)
  have loop8 : ∀ (n9 : Nat) (k : Nat) (t : Nat) (q : Nat), (k ≤ K) → (MInv (sto nw (30 * i) 0) (sto nw (30 * j) 0) Ko k t q) → K - k < n9 → ∀ (H : Heap) (locs : List Loc) (ls : Array Slot), va_P D vwCl (wl N ad (c)) H → va_S (wA N ad s.heap.size) s.heap H locs → lv_has ls 7 [(0, .ref (ad 6)), (1, .int (nI i)), (2, .int (nI j)), (3, .int (nI t)), (4, .int (nI q)), (5, .int (nI k))] → W p l e { frames := 1, cells := 0, slots := 0, locals := 22 } s m [.ref (ad 6), .int (nI i), .int (nI j)].toArray below meth c0 H locs 0 0 (MQ below (va_Qi (fun v c' => v = nI (com (sto nw (30 * i) 0) (sto nw (30 * j) 0) Ko K) ∧ c = c') (fun c' t => va_P D vwCl (wl N ad c') t.heap) (wA N ad s.heap.size)) [.ref (ad 6), .int (nI i), .int (nI j)].toArray s 0 0 (wA N ad s.heap.size)) (F0 m 8 ls []) := by
    intro n9
    induction n9 with
    | zero => intro k t q hk hinv hlt9; exact absurd hlt9 (Nat.not_lt_zero _)
    | succ n9 ih8 =>
      intro k t q hk hinv hlt9 H locs ls hP hS hl
      have ht2 := hinv.2.1
      have hqc : q ≤ k := by rw [hinv.1]; exact com_le _ _ _ k
      refine lv_iload hx hb dX2_matched_8 (lv_at hl 5 rfl) ?_
      refine lv_aload_n hx hb dX2_matched_10 rfl (lv_at hl 0 rfl) ?_
      refine lv_iload_n hx hb dX2_matched_11 rfl (lv_at hl 1 rfl) ?_
      refine k0_i (rn_X2_67 (As := [.int (nI i)]) (rest := [.int (nI k)]) (r := 6) C0 (m_X2_held l D cA N ad (c) th n nw ah rw i R Y L S D9 K hN10 hM (by omega) hi hrow hok _) hP hS (by omega) hM.1 rfl ⟨rfl, rfl⟩ ⟨by decide, by decide⟩ hl.1 rfl (Nat.le_of_ble_eq_true rfl) dX2_matched_12 ⟨Nat.le_of_ble_eq_true rfl, Nat.le_of_ble_eq_true rfl⟩) C0 hP hS (fun v12 c12 H locs hp hP hS => ?_)
      obtain ⟨rfl, rfl⟩ := hp
      refine n_icmp_ge (tgt := 92) hx hb (by omega) (by omega) dX2_matched_15 (by decide) (fun h15 => ?_) (fun h15 => ?_)
      · obtain rfl : K = k := by omega
        refine lv_iload hx hb dX2_matched_92 (lv_at hl 4 rfl) ?_
        exact e_i C0 hr hlk hP hS dX2_matched_94 (by decide) (by decide) ⟨by rw [hinv.1], rfl⟩
      · refine lv_iconst (v := nI 0) hx hb dX2_matched_18 rfl ?_
        refine lv_istore (lv' := [(6, .int (nI 0)), (0, .ref (ad 6)), (1, .int (nI i)), (2, .int (nI j)), (3, .int (nI t)), (4, .int (nI q)), (5, .int (nI k))]) hx hb dX2_matched_19 hl (by decide) rfl (fun ls hl => ?_)
        have loop21 : ∀ (n9 : Nat) (y : Nat), (y ≤ Ko) → (∀ z, z < y → ¬ (¬ t.testBit z = true ∧ (sto nw (30 * j) 0) z = (sto nw (30 * i) 0) k)) → Ko - y < n9 → ∀ (H : Heap) (locs : List Loc) (ls : Array Slot), va_P D vwCl (wl N ad (c)) H → va_S (wA N ad s.heap.size) s.heap H locs → lv_has ls 7 [(0, .ref (ad 6)), (1, .int (nI i)), (2, .int (nI j)), (3, .int (nI t)), (4, .int (nI q)), (5, .int (nI k)), (6, .int (nI y))] → W p l e { frames := 1, cells := 0, slots := 0, locals := 22 } s m [.ref (ad 6), .int (nI i), .int (nI j)].toArray below meth c0 H locs 0 0 (MQ below (va_Qi (fun v c' => v = nI (com (sto nw (30 * i) 0) (sto nw (30 * j) 0) Ko K) ∧ c = c') (fun c' t => va_P D vwCl (wl N ad c') t.heap) (wA N ad s.heap.size)) [.ref (ad 6), .int (nI i), .int (nI j)].toArray s 0 0 (wA N ad s.heap.size)) (F0 m 21 ls []) := by
          intro n9
          induction n9 with
          | zero => intro y hyK hfree hlt9; exact absurd hlt9 (Nat.not_lt_zero _)
          | succ n9 ih21 =>
            intro y hyK hfree hlt9 H locs ls hP hS hl
            refine lv_iload hx hb dX2_matched_21 (lv_at hl 6 rfl) ?_
            refine lv_aload_n hx hb dX2_matched_23 rfl (lv_at hl 0 rfl) ?_
            refine lv_iload_n hx hb dX2_matched_24 rfl (lv_at hl 2 rfl) ?_
            refine k0_i (rn_X2_67 (As := [.int (nI j)]) (rest := [.int (nI y)]) (r := 6) C0 (m_X2_held l D cA N ad (c) th n nw ah rw j Ro Yo Lo So Do Ko hN10 hM (by omega) hj hrowo hoo _) hP hS (by omega) hM.1 rfl ⟨rfl, rfl⟩ ⟨by decide, by decide⟩ hl.1 rfl (Nat.le_of_ble_eq_true rfl) dX2_matched_25 ⟨Nat.le_of_ble_eq_true rfl, Nat.le_of_ble_eq_true rfl⟩) C0 hP hS (fun v25 c25 H locs hp hP hS => ?_)
            obtain ⟨rfl, rfl⟩ := hp
            refine n_icmp_ge (tgt := 63) hx hb (by omega) (by omega) dX2_matched_28 (by decide) (fun h28 => ?_) (fun h28 => ?_)
            · refine lv_iload hx hb dX2_matched_63 (lv_at hl 6 rfl) ?_
              refine lv_aload_n hx hb dX2_matched_65 rfl (lv_at hl 0 rfl) ?_
              refine lv_iload_n hx hb dX2_matched_66 rfl (lv_at hl 2 rfl) ?_
              refine k0_i (rn_X2_67 (As := [.int (nI j)]) (rest := [.int (nI y)]) (r := 6) C0 (m_X2_held l D cA N ad (c) th n nw ah rw j Ro Yo Lo So Do Ko hN10 hM (by omega) hj hrowo hoo _) hP hS (by omega) hM.1 rfl ⟨rfl, rfl⟩ ⟨by decide, by decide⟩ hl.1 rfl (Nat.le_of_ble_eq_true rfl) dX2_matched_67 ⟨Nat.le_of_ble_eq_true rfl, Nat.le_of_ble_eq_true rfl⟩) C0 hP hS (fun v67 c67 H locs hp hP hS => ?_)
              obtain ⟨rfl, rfl⟩ := hp
              refine n_icmp_ne (tgt := 76) hx hb (by omega) (by omega) dX2_matched_70 (by decide) (fun h70 => ?_) (fun h70 => ?_)
              · exfalso; omega
              refine lv_goto (tgt := 86) hx hb dX2_matched_73 (by decide) ?_
              refine lv_iinc (v := nI (k + 1)) (lv' := [(5, .int (nI (k + 1))), (0, .ref (ad 6)), (1, .int (nI i)), (2, .int (nI j)), (3, .int (nI t)), (4, .int (nI q)), (6, .int (nI y))]) hx hb dX2_matched_86 hl (k := 5) rfl (nI_add k 1) (by decide) rfl (fun ls hl => ?_)
              refine lv_goto (tgt := 8) hx hb dX2_matched_89 (by decide) ?_
              exact ih8 (k + 1) t q (by omega) (hinv.miss (fun z hz => hfree z (by omega))) (by omega) _ _ _ hP hS (lv_sub hl [1, 2, 3, 4, 5, 0] rfl)
            · refine lv_iload_n hx hb dX2_matched_31 rfl (lv_at hl 3 rfl) ?_
              refine lv_iload hx hb dX2_matched_32 (lv_at hl 6 rfl) ?_
              refine lv_ishr hx hb dX2_matched_34 ?_
              refine lv_iconst (v := nI 1) hx hb dX2_matched_35 rfl ?_
              refine lv_iand hx hb dX2_matched_36 ?_
              rw [bitq t ht2 y (by omega)]
              refine n_if_ne (tgt := 57) hx hb (by split <;> omega) dX2_matched_37 (by decide) (fun h37 => ?_) (fun h37 => ?_)
              · have hty : t.testBit y = true := by
                  rcases Classical.em (t.testBit y = true) with q | q
                  · exact q
                  · rw [if_neg q] at h37; exact absurd rfl h37
                have hnot : ¬ (¬ t.testBit y = true ∧ (sto nw (30 * j) 0) y = (sto nw (30 * i) 0) k) := fun q => q.1 hty
                refine lv_iinc (v := nI (y + 1)) (lv' := [(6, .int (nI (y + 1))), (0, .ref (ad 6)), (1, .int (nI i)), (2, .int (nI j)), (3, .int (nI t)), (4, .int (nI q)), (5, .int (nI k))]) hx hb dX2_matched_57 hl (k := 6) rfl (nI_add y 1) (by decide) rfl (fun ls hl => ?_)
                refine lv_goto (tgt := 21) hx hb dX2_matched_60 (by decide) ?_
                exact ih21 (y + 1) (by omega) (fun z hz => (Nat.lt_or_ge z y).elim (fun e => hfree z e) (fun e => by rw [show z = y from by omega]; exact hnot)) (by omega) _ _ _ hP hS (lv_sub hl [1, 2, 3, 4, 5, 6, 0] rfl)
              · have hby : ¬ t.testBit y = true := fun q => by rw [if_pos q] at h37; cases h37
                refine lv_aload_n hx hb dX2_matched_40 rfl (lv_at hl 0 rfl) ?_
                refine lv_iload_n hx hb dX2_matched_41 rfl (lv_at hl 2 rfl) ?_
                refine lv_iload hx hb dX2_matched_42 (lv_at hl 6 rfl) ?_
                refine k0_i (rn_X2_78 (As := [.int (nI j), .int (nI y)]) (rest := []) (r := 6) C0 (m_X2_value l D cA N ad (c) th n nw ah rw j y hN10 hM (by omega) (by omega) (by omega) _) hP hS (by omega) hM.1 rfl ⟨rfl, rfl⟩ ⟨by decide, by decide⟩ hl.1 rfl (Nat.le_of_ble_eq_true rfl) dX2_matched_44 ⟨Nat.le_of_ble_eq_true rfl, Nat.le_of_ble_eq_true rfl⟩) C0 hP hS (fun v44 c44 H locs hp hP hS => ?_)
                obtain ⟨rfl, rfl⟩ := hp
                refine lv_aload_n hx hb dX2_matched_47 rfl (lv_at hl 0 rfl) ?_
                refine lv_iload_n hx hb dX2_matched_48 rfl (lv_at hl 1 rfl) ?_
                refine lv_iload hx hb dX2_matched_49 (lv_at hl 5 rfl) ?_
                refine k0_i (rn_X2_78 (As := [.int (nI i), .int (nI k)]) (rest := [.int ((sto nw (30 * j) 0 y))]) (r := 6) C0 (m_X2_value l D cA N ad (c) th n nw ah rw i k hN10 hM (by omega) (by omega) (by omega) _) hP hS (by omega) hM.1 rfl ⟨rfl, rfl⟩ ⟨by decide, by decide⟩ hl.1 rfl (Nat.le_of_ble_eq_true rfl) dX2_matched_51 ⟨Nat.le_of_ble_eq_true rfl, Nat.le_of_ble_eq_true rfl⟩) C0 hP hS (fun v51 c51 H locs hp hP hS => ?_)
                obtain ⟨rfl, rfl⟩ := hp
                refine lv_icmp_eq (tgt := 63) hx hb dX2_matched_54 (by decide) (fun h54 => ?_) (fun h54 => ?_)
                · have hvy := h54
                  refine lv_iload hx hb dX2_matched_63 (lv_at hl 6 rfl) ?_
                  refine lv_aload_n hx hb dX2_matched_65 rfl (lv_at hl 0 rfl) ?_
                  refine lv_iload_n hx hb dX2_matched_66 rfl (lv_at hl 2 rfl) ?_
                  refine k0_i (rn_X2_67 (As := [.int (nI j)]) (rest := [.int (nI y)]) (r := 6) C0 (m_X2_held l D cA N ad (c) th n nw ah rw j Ro Yo Lo So Do Ko hN10 hM (by omega) hj hrowo hoo _) hP hS (by omega) hM.1 rfl ⟨rfl, rfl⟩ ⟨by decide, by decide⟩ hl.1 rfl (Nat.le_of_ble_eq_true rfl) dX2_matched_67 ⟨Nat.le_of_ble_eq_true rfl, Nat.le_of_ble_eq_true rfl⟩) C0 hP hS (fun v67 c67 H locs hp hP hS => ?_)
                  obtain ⟨rfl, rfl⟩ := hp
                  refine n_icmp_ne (tgt := 76) hx hb (by omega) (by omega) dX2_matched_70 (by decide) (fun h70 => ?_) (fun h70 => ?_)
                  rotate_left
                  · exfalso; omega
                  have hy : y < Ko := by omega
                  refine lv_iload_n hx hb dX2_matched_76 rfl (lv_at hl 3 rfl) ?_
                  refine lv_iconst (v := nI 1) hx hb dX2_matched_77 rfl ?_
                  refine lv_iload hx hb dX2_matched_78 (lv_at hl 6 rfl) ?_
                  refine lv_ishl hx hb dX2_matched_80 ?_
                  rw [bits y (by omega)]
                  refine lv_ior hx hb dX2_matched_81 ?_
                  rw [(bito t ht2 y (by omega)).1]
                  refine lv_istore_n (lv' := [(3, .int (nI (t ||| 2 ^ y))), (0, .ref (ad 6)), (1, .int (nI i)), (2, .int (nI j)), (4, .int (nI q)), (5, .int (nI k)), (6, .int (nI y))]) hx hb dX2_matched_82 rfl hl (by decide) rfl (fun ls hl => ?_)
                  refine lv_iinc (v := nI (q + 1)) (lv' := [(4, .int (nI (q + 1))), (3, .int (nI (t ||| 2 ^ y))), (0, .ref (ad 6)), (1, .int (nI i)), (2, .int (nI j)), (5, .int (nI k)), (6, .int (nI y))]) hx hb dX2_matched_83 hl (k := 4) rfl (nI_add q 1) (by decide) rfl (fun ls hl => ?_)
                  refine lv_iinc (v := nI (k + 1)) (lv' := [(5, .int (nI (k + 1))), (4, .int (nI (q + 1))), (3, .int (nI (t ||| 2 ^ y))), (0, .ref (ad 6)), (1, .int (nI i)), (2, .int (nI j)), (6, .int (nI y))]) hx hb dX2_matched_86 hl (k := 5) rfl (nI_add k 1) (by decide) rfl (fun ls hl => ?_)
                  refine lv_goto (tgt := 8) hx hb dX2_matched_89 (by decide) ?_
                  exact ih8 (k + 1) (t ||| 2 ^ y) (q + 1) (by omega) (hinv.hit hy (by omega) hby hvy) (by omega) _ _ _ hP hS (lv_sub hl [3, 4, 5, 2, 1, 0] rfl)
                · have hnot : ¬ (¬ t.testBit y = true ∧ (sto nw (30 * j) 0) y = (sto nw (30 * i) 0) k) := fun q => h54 q.2
                  refine lv_iinc (v := nI (y + 1)) (lv' := [(6, .int (nI (y + 1))), (0, .ref (ad 6)), (1, .int (nI i)), (2, .int (nI j)), (3, .int (nI t)), (4, .int (nI q)), (5, .int (nI k))]) hx hb dX2_matched_57 hl (k := 6) rfl (nI_add y 1) (by decide) rfl (fun ls hl => ?_)
                  refine lv_goto (tgt := 21) hx hb dX2_matched_60 (by decide) ?_
                  exact ih21 (y + 1) (by omega) (fun z hz => (Nat.lt_or_ge z y).elim (fun e => hfree z e) (fun e => by rw [show z = y from by omega]; exact hnot)) (by omega) _ _ _ hP hS (lv_sub hl [1, 2, 3, 4, 5, 6, 0] rfl)
        exact loop21 (_ + 1) 0 (Nat.zero_le _) (fun z h => absurd h (Nat.not_lt_zero _)) (Nat.lt_succ_self _) _ _ _ hP hS (lv_sub hl [1, 2, 3, 4, 5, 6, 0] rfl)
  exact loop8 (_ + 1) 0 0 0 (Nat.zero_le _) (MInv.start) (Nat.lt_succ_self _) _ _ _ hP hS (lv_sub hl [3, 4, 5, 2, 1, 0] rfl)
set_option maxHeartbeats 1000000 in
set_option maxRecDepth 10000 in
theorem m_X2_lookAhead (l : Launch) (D : va_G) (cA : Nat → ClassId) (N : Nat) (ad : Nat → Nat) (c : Nat → va_E) (th : Int32) (n : Nat) (nw ah rw : Nat → Int32)  (hN10 : 10 ≤ N) (hM : MoAt ad cA c th n nw ah rw) (hn5 : n ≤ 5) : Cv l yX2_lookAhead wX2_lookAhead { frames := 1, cells := 0, slots := 0, locals := 40 } [.ref (ad 6)] D cA N ad c 0 0 (fun c' => ∃ ah', mw ad cA c th n nw ah' rw = c' ∧ ∀ k, k < 150 → ah' k = nw k) := by
  intro sz9
  refine bd_of (cc := cX2_lookAhead) (maxL := 1) (ret := none) (by decide) rfl (Nat.le_of_ble_eq_true rfl) ?_
  intro p e s m below meth c0 C0 hr hlk hnm hP hS hsz ls hl
  subst hsz
  have hx := C0.1
  have hb := C0.2.1
  have hl : lv_has ls 1 [(0, .ref (ad 6))] := hl
  rw [← mw_self hM] at hP
  refine lv_aload_n hx hb dX2_lookAhead_0 rfl (lv_at hl 0 rfl) ?_
  refine gf_X2_9 C0 hP (by omega) mw_at.1 rfl dX2_lookAhead_1 ?_
  refine lv_iconst (v := nI 0) hx hb dX2_lookAhead_4 rfl ?_
  refine lv_aload_n hx hb dX2_lookAhead_5 rfl (lv_at hl 0 rfl) ?_
  refine gf_X2_13 C0 hP (by omega) mw_at.1 rfl dX2_lookAhead_6 ?_
  refine lv_iconst (v := nI 0) hx hb dX2_lookAhead_9 rfl ?_
  refine lv_aload_n hx hb dX2_lookAhead_10 rfl (lv_at hl 0 rfl) ?_
  refine gf_X2_9 C0 hP (by omega) mw_at.1 rfl dX2_lookAhead_11 ?_
  refine a_len C0 hP (by omega) mw_at.2.1 dX2_lookAhead_14 ?_
  refine a_copy C0 hl hP hS (by omega) (by omega) mw_at.2.1 mw_at.2.2.1 (by decide) (by decide) (by decide) (by decide) (by decide) (by decide) (by decide) dX2_lookAhead_15 (fun H locs hP hS => ?_)
  rw [mw_8] at hP
  exact e_v C0 hr hlk hP hS dX2_lookAhead_18 (by decide) (by decide) ⟨_, rfl, fun k hk => by show (if 0 ≤ k ∧ k < 0 + 150 then nw (0 + (k - 0)) else ah k) = nw k; rw [if_pos (by omega)]; congr 1; omega⟩
set_option maxHeartbeats 1000000 in
set_option maxRecDepth 10000 in
theorem m_X2_tried (l : Launch) (D : va_G) (cA : Nat → ClassId) (N : Nat) (ad : Nat → Nat) (c : Nat → va_E) (th : Int32) (n : Nat) (nw ah rw : Nat → Int32) (i R Y L S D9 K : Nat) (w : Nat) (hN10 : 10 ≤ N) (hM : MoAt ad cA c th n nw ah rw) (hn5 : n ≤ 5) (hi : i < n) (hrow : RowE nw (30 * i) R Y L S D9 K) (hok : Hok R Y L S D9 K) (hw0 : 1 ≤ w) (hw9 : w ≤ 9) : Ci l yX2_tried wX2_tried { frames := 2, cells := 0, slots := 0, locals := 60 } [.ref (ad 6), .int (nI i), .int (nI w)] D cA N ad c 0 0 (fun v c' => v = oI (pk R Y L (S + 1) (D9 + w) K w).1 ∧ ∃ ah', mw ad cA c th n nw ah' rw = c') := by
  intro sz9
  refine bd_of (cc := cX2_tried) (maxL := 3) (ret := some Jvm.ClassFile.FieldType.int) (by decide) rfl (Nat.le_of_ble_eq_true rfl) ?_
  intro p e s m below meth c0 C0 hr hlk hnm hP hS hsz ls hl
  subst hsz
  have hx := C0.1
  have hb := C0.2.1
  have hl : lv_has ls 3 [(0, .ref (ad 6)), (1, .int (nI i)), (2, .int (nI w))] := hl
  obtain ⟨r0, r1, r2, r3, r4, r5⟩ := id hrow
  obtain ⟨q1, q2, q3, q4, q5, q6, q7, q8, q9⟩ := id hok
  rw [← mw_self hM] at hP
  refine lv_aload_n hx hb dX2_tried_0 rfl (lv_at hl 0 rfl) ?_
  refine k0_v (rn_X2_99 (As := []) (rest := []) (r := 6) C0 (m_X2_lookAhead l D cA N ad (mw ad cA c th n nw ah rw) th n nw ah rw hN10 mw_at (by omega) _) hP hS (by omega) mw_at.1 rfl ⟨rfl, rfl⟩ ⟨by decide, by decide⟩ hl.1 rfl (Nat.le_of_ble_eq_true rfl) dX2_tried_1 ⟨Nat.le_of_ble_eq_true rfl, Nat.le_of_ble_eq_true rfl⟩) C0 hP hS (fun c1 H locs hp hP hS => ?_)
  obtain ⟨ah1, rfl, hah⟩ := hp
  rw [mw_mw] at hP
  refine lv_aload_n hx hb dX2_tried_4 rfl (lv_at hl 0 rfl) ?_
  refine gf_X2_13 C0 hP (by omega) mw_at.1 rfl dX2_tried_5 ?_
  refine lv_bipush (v := nI 30) hx hb dX2_tried_8 rfl ?_
  refine lv_iload_n hx hb dX2_tried_10 rfl (lv_at hl 1 rfl) ?_
  refine n_imul hx hb dX2_tried_11 ?_
  refine lv_iconst (v := nI 0) hx hb dX2_tried_12 rfl ?_
  refine lv_iload_n hx hb dX2_tried_13 rfl (lv_at hl 2 rfl) ?_
  refine k0_i (rn_X2_52 (As := [.ref (ad 8), .int (nI (30 * i)), .int (nI 0), .int (nI w)]) (rest := []) C0 (m_X2_come l D cA N ad (mw ad cA c th n nw ah1 rw) 8 (30 * i) ah1 R Y L S D9 K (nI 0) w (by omega) mw_at.2.2.1 (by omega) (hrow.same (fun z h1 h2 => hah z (by omega))) (by omega) (by omega) (by omega) (by omega) (by omega) (by omega) (by omega) (by omega) (by omega) _) hP hS rfl ⟨rfl, rfl⟩ ⟨by decide, by decide⟩ hl.1 rfl (Nat.le_of_ble_eq_true rfl) dX2_tried_14 ⟨Nat.le_of_ble_eq_true rfl, Nat.le_of_ble_eq_true rfl⟩) C0 hP hS (fun v14 c14 H locs hp hP hS => ?_)
  obtain ⟨ah14, hv14, rfl, hrow14, hst14, hout14⟩ := hp
  rw [mw_8] at hP
  exact e_i C0 hr hlk hP hS dX2_tried_17 (by decide) (by decide) ⟨hv14, _, rfl⟩
set_option maxHeartbeats 1000000 in
set_option maxRecDepth 10000 in
theorem m_X2_staying (l : Launch) (D : va_G) (cA : Nat → ClassId) (N : Nat) (ad : Nat → Nat) (c : Nat → va_E) (th : Int32) (n : Nat) (nw ah rw : Nat → Int32) (i R Y L S D9 K : Nat) (many : Nat) (hN10 : 10 ≤ N) (hM : MoAt ad cA c th n nw ah rw) (hn5 : n ≤ 5) (hi : i < n) (hrow : RowE nw (30 * i) R Y L S D9 K) (hok : Hok R Y L S D9 K) (hm : many ≤ 200) : Ci l yX2_staying wX2_staying { frames := 2, cells := 0, slots := 0, locals := 60 } [.ref (ad 6), .int (nI i), .int (nI many)] D cA N ad c 0 0 (fun v c' => v = nI (stayC R Y (L, S, D9, K) many K) ∧ ∃ ah', mw ad cA c th n nw ah' rw = c') := by
  intro sz9
  refine bd_of (cc := cX2_staying) (maxL := 6) (ret := some Jvm.ClassFile.FieldType.int) (by decide) rfl (Nat.le_of_ble_eq_true rfl) ?_
  intro p e s m below meth c0 C0 hr hlk hnm hP hS hsz ls hl
  subst hsz
  have hx := C0.1
  have hb := C0.2.1
  have hl : lv_has ls 6 [(0, .ref (ad 6)), (1, .int (nI i)), (2, .int (nI many))] := hl
  obtain ⟨r0, r1, r2, r3, r4, r5⟩ := id hrow
  obtain ⟨q1, q2, q3, q4, q5, q6, q7, q8, q9⟩ := id hok
  rw [← mw_self hM] at hP
  refine lv_aload_n hx hb dX2_staying_0 rfl (lv_at hl 0 rfl) ?_
  refine k0_v (rn_X2_99 (As := []) (rest := []) (r := 6) C0 (m_X2_lookAhead l D cA N ad (mw ad cA c th n nw ah rw) th n nw ah rw hN10 mw_at (by omega) _) hP hS (by omega) mw_at.1 rfl ⟨rfl, rfl⟩ ⟨by decide, by decide⟩ hl.1 rfl (Nat.le_of_ble_eq_true rfl) dX2_staying_1 ⟨Nat.le_of_ble_eq_true rfl, Nat.le_of_ble_eq_true rfl⟩) C0 hP hS (fun c1 H locs hp hP hS => ?_)
  obtain ⟨ah1, rfl, hah⟩ := hp
  rw [mw_mw] at hP
  refine lv_bipush (v := nI 30) hx hb dX2_staying_4 rfl ?_
  refine lv_iload_n hx hb dX2_staying_6 rfl (lv_at hl 1 rfl) ?_
  refine n_imul hx hb dX2_staying_7 ?_
  refine lv_istore_n (lv' := [(3, .int (nI (30 * i))), (0, .ref (ad 6)), (1, .int (nI i)), (2, .int (nI many))]) hx hb dX2_staying_8 rfl hl (by decide) rfl (fun ls hl => ?_)
  refine lv_iconst (v := nI 0) hx hb dX2_staying_9 rfl ?_
  refine lv_istore (lv' := [(4, .int (nI 0)), (3, .int (nI (30 * i))), (0, .ref (ad 6)), (1, .int (nI i)), (2, .int (nI many))]) hx hb dX2_staying_10 hl (by decide) rfl (fun ls hl => ?_)
  have loop12 : ∀ (n9 : Nat) (k : Nat) (A1 : Nat → Int32), (k ≤ 8) → (RowE A1 (30 * i) R Y L S D9 K) → (∀ p, p < k → A1 (30 * i + 6 + 3 * p + 2) = -1) → 8 - k < n9 → ∀ (H : Heap) (locs : List Loc) (ls : Array Slot), va_P D vwCl (wl N ad (mw ad cA c th n nw A1 rw)) H → va_S (wA N ad s.heap.size) s.heap H locs → lv_has ls 6 [(0, .ref (ad 6)), (1, .int (nI i)), (2, .int (nI many)), (3, .int (nI (30 * i))), (4, .int (nI k))] → W p l e { frames := 2, cells := 0, slots := 0, locals := 60 } s m [.ref (ad 6), .int (nI i), .int (nI many)].toArray below meth c0 H locs 0 0 (MQ below (va_Qi (fun v c' => v = nI (stayC R Y (L, S, D9, K) many K) ∧ ∃ ah', mw ad cA c th n nw ah' rw = c') (fun c' t => va_P D vwCl (wl N ad c') t.heap) (wA N ad s.heap.size)) [.ref (ad 6), .int (nI i), .int (nI many)].toArray s 0 0 (wA N ad s.heap.size)) (F0 m 12 ls []) := by
    intro n9
    induction n9 with
    | zero => intro k A1 hk hr1 hm1 hlt9; exact absurd hlt9 (Nat.not_lt_zero _)
    | succ n9 ih12 =>
      intro k A1 hk hr1 hm1 hlt9 H locs ls hP hS hl
      refine lv_iload hx hb dX2_staying_12 (lv_at hl 4 rfl) ?_
      refine lv_bipush (v := nI 8) hx hb dX2_staying_14 rfl ?_
      refine n_icmp_ge (tgt := 42) hx hb (by omega) (by omega) dX2_staying_16 (by decide) (fun h16 => ?_) (fun h16 => ?_)
      · obtain rfl : k = 8 := by omega
        refine lv_iconst (v := nI 0) hx hb dX2_staying_42 rfl ?_
        refine lv_istore (lv' := [(4, .int (nI 0)), (0, .ref (ad 6)), (1, .int (nI i)), (2, .int (nI many)), (3, .int (nI (30 * i)))]) hx hb dX2_staying_43 hl (by decide) rfl (fun ls hl => ?_)
        have loop45 : ∀ (n9 : Nat) (k : Nat) (A2 : Nat → Int32), (k ≤ many) → (RowE A2 (30 * i) R Y (itS R Y 1 k (L, S, D9, K)).1 (itS R Y 1 k (L, S, D9, K)).2.1 (itS R Y 1 k (L, S, D9, K)).2.2.1 (itS R Y 1 k (L, S, D9, K)).2.2.2) → (∀ p, p < 8 → (hit R Y (L, S, D9, K) p k = false → A2 (30 * i + 6 + 3 * p + 2) = -1) ∧ (hit R Y (L, S, D9, K) p k = true → ∃ t, t < 2 ^ 31 ∧ A2 (30 * i + 6 + 3 * p + 2) = nI t)) → many - k < n9 → ∀ (H : Heap) (locs : List Loc) (ls : Array Slot), va_P D vwCl (wl N ad (mw ad cA c th n nw A2 rw)) H → va_S (wA N ad s.heap.size) s.heap H locs → lv_has ls 6 [(0, .ref (ad 6)), (1, .int (nI i)), (2, .int (nI many)), (3, .int (nI (30 * i))), (4, .int (nI k))] → W p l e { frames := 2, cells := 0, slots := 0, locals := 60 } s m [.ref (ad 6), .int (nI i), .int (nI many)].toArray below meth c0 H locs 0 0 (MQ below (va_Qi (fun v c' => v = nI (stayC R Y (L, S, D9, K) many K) ∧ ∃ ah', mw ad cA c th n nw ah' rw = c') (fun c' t => va_P D vwCl (wl N ad c') t.heap) (wA N ad s.heap.size)) [.ref (ad 6), .int (nI i), .int (nI many)].toArray s 0 0 (wA N ad s.heap.size)) (F0 m 45 ls []) := by
          intro n9
          induction n9 with
          | zero => intro k A2 hk hrk htn hlt9; exact absurd hlt9 (Nat.not_lt_zero _)
          | succ n9 ih45 =>
            intro k A2 hk hrk htn hlt9 H locs ls hP hS hl
            obtain ⟨i1, i2, i3, i4⟩ := itS_in (R := R) (Y := Y) (w := 1) (by omega) (x := (L, S, D9, K)) (by show L ≤ 9999; omega) (by show K ≤ R; omega) k
            dsimp only at i1 i2 i3 i4
            refine lv_iload hx hb dX2_staying_45 (lv_at hl 4 rfl) ?_
            refine lv_iload_n hx hb dX2_staying_47 rfl (lv_at hl 2 rfl) ?_
            refine n_icmp_ge (tgt := 68) hx hb (by omega) (by omega) dX2_staying_48 (by decide) (fun h48 => ?_) (fun h48 => ?_)
            · obtain rfl : many = k := by omega
              refine lv_iconst (v := nI 0) hx hb dX2_staying_68 rfl ?_
              refine lv_istore (lv' := [(4, .int (nI 0)), (0, .ref (ad 6)), (1, .int (nI i)), (2, .int (nI many)), (3, .int (nI (30 * i)))]) hx hb dX2_staying_69 hl (by decide) rfl (fun ls hl => ?_)
              refine lv_iconst (v := nI 0) hx hb dX2_staying_71 rfl ?_
              refine lv_istore (lv' := [(5, .int (nI 0)), (4, .int (nI 0)), (0, .ref (ad 6)), (1, .int (nI i)), (2, .int (nI many)), (3, .int (nI (30 * i)))]) hx hb dX2_staying_72 hl (by decide) rfl (fun ls hl => ?_)
              have loop74 : ∀ (n9 : Nat) (k : Nat) (q : Nat), (k ≤ K) → (q = stayC R Y (L, S, D9, K) many k) → K - k < n9 → ∀ (H : Heap) (locs : List Loc) (ls : Array Slot), va_P D vwCl (wl N ad (mw ad cA c th n nw A2 rw)) H → va_S (wA N ad s.heap.size) s.heap H locs → lv_has ls 6 [(0, .ref (ad 6)), (1, .int (nI i)), (2, .int (nI many)), (3, .int (nI (30 * i))), (4, .int (nI q)), (5, .int (nI k))] → W p l e { frames := 2, cells := 0, slots := 0, locals := 60 } s m [.ref (ad 6), .int (nI i), .int (nI many)].toArray below meth c0 H locs 0 0 (MQ below (va_Qi (fun v c' => v = nI (stayC R Y (L, S, D9, K) many K) ∧ ∃ ah', mw ad cA c th n nw ah' rw = c') (fun c' t => va_P D vwCl (wl N ad c') t.heap) (wA N ad s.heap.size)) [.ref (ad 6), .int (nI i), .int (nI many)].toArray s 0 0 (wA N ad s.heap.size)) (F0 m 74 ls []) := by
                intro n9
                induction n9 with
                | zero => intro k q hk hq hlt9; exact absurd hlt9 (Nat.not_lt_zero _)
                | succ n9 ih74 =>
                  intro k q hk hq hlt9 H locs ls hP hS hl
                  have hqk : q ≤ k := by rw [hq]; exact stayC_le k
                  refine lv_iload hx hb dX2_staying_74 (lv_at hl 5 rfl) ?_
                  refine lv_aload_n hx hb dX2_staying_76 rfl (lv_at hl 0 rfl) ?_
                  refine lv_iload_n hx hb dX2_staying_77 rfl (lv_at hl 1 rfl) ?_
                  refine k0_i (rn_X2_67 (As := [.int (nI i)]) (rest := [.int (nI k)]) (r := 6) C0 (m_X2_held l D cA N ad (mw ad cA c th n nw A2 rw) th n nw A2 rw i R Y L S D9 K hN10 mw_at (by omega) hi hrow hok _) hP hS (by omega) mw_at.1 rfl ⟨rfl, rfl⟩ ⟨by decide, by decide⟩ hl.1 rfl (Nat.le_of_ble_eq_true rfl) dX2_staying_78 ⟨Nat.le_of_ble_eq_true rfl, Nat.le_of_ble_eq_true rfl⟩) C0 hP hS (fun v78 c78 H locs hp hP hS => ?_)
                  obtain ⟨rfl, rfl⟩ := hp
                  refine n_icmp_ge (tgt := 119) hx hb (by omega) (by omega) dX2_staying_81 (by decide) (fun h81 => ?_) (fun h81 => ?_)
                  · obtain rfl : K = k := by omega
                    refine lv_iload hx hb dX2_staying_119 (lv_at hl 4 rfl) ?_
                    exact e_i C0 hr hlk hP hS dX2_staying_121 (by decide) (by decide) ⟨by rw [hq], _, rfl⟩
                  · refine lv_iload hx hb dX2_staying_84 (lv_at hl 4 rfl) ?_
                    refine lv_aload_n hx hb dX2_staying_86 rfl (lv_at hl 0 rfl) ?_
                    refine gf_X2_13 C0 hP (by omega) mw_at.1 rfl dX2_staying_87 ?_
                    refine lv_iload_n hx hb dX2_staying_90 rfl (lv_at hl 3 rfl) ?_
                    refine lv_bipush (v := nI 6) hx hb dX2_staying_91 rfl ?_
                    refine n_iadd hx hb dX2_staying_93 ?_
                    refine lv_iconst (v := nI 3) hx hb dX2_staying_94 rfl ?_
                    refine lv_iload hx hb dX2_staying_95 (lv_at hl 5 rfl) ?_
                    refine n_imul hx hb dX2_staying_97 ?_
                    refine n_iadd hx hb dX2_staying_98 ?_
                    refine lv_iconst (v := nI 2) hx hb dX2_staying_99 rfl ?_
                    refine n_iadd hx hb dX2_staying_100 ?_
                    cases hh : hit R Y (L, S, D9, K) k many with
                    | false =>
                      refine a_ildE C0 hP (by omega) mw_at.2.2.1 (by omega) (by omega) ((htn k (by omega)).1 hh) dX2_staying_101 ?_
                      refine lv_if_ge (tgt := 109) hx hb dX2_staying_102 (by decide) (fun h102 => ?_) (fun h102 => ?_)
                      · exact absurd h102 (by decide)
                      refine lv_iconst (v := nI 1) hx hb dX2_staying_105 rfl ?_
                      refine lv_goto (tgt := 110) hx hb dX2_staying_106 (by decide) ?_
                      refine n_iadd hx hb dX2_staying_110 ?_
                      refine lv_istore (lv' := [(4, .int (nI (q + 1))), (0, .ref (ad 6)), (1, .int (nI i)), (2, .int (nI many)), (3, .int (nI (30 * i))), (5, .int (nI k))]) hx hb dX2_staying_111 hl (by decide) rfl (fun ls hl => ?_)
                      refine lv_iinc (v := nI (k + 1)) (lv' := [(5, .int (nI (k + 1))), (4, .int (nI (q + 1))), (0, .ref (ad 6)), (1, .int (nI i)), (2, .int (nI many)), (3, .int (nI (30 * i)))]) hx hb dX2_staying_113 hl (k := 5) rfl (nI_add k 1) (by decide) rfl (fun ls hl => ?_)
                      refine lv_goto (tgt := 74) hx hb dX2_staying_116 (by decide) ?_
                      exact ih74 (k + 1) (q + 1) (by omega) (by rw [hq]; show _ = stayC R Y (L, S, D9, K) many k + (if _ then 0 else 1); rw [hh]; rfl) (by omega) _ _ _ hP hS (lv_sub hl [2, 3, 4, 5, 1, 0] rfl)
                    | true =>
                      obtain ⟨t, ht31, ht⟩ := (htn k (by omega)).2 hh
                      refine a_ildE C0 hP (by omega) mw_at.2.2.1 (by omega) (by omega) ht dX2_staying_101 ?_
                      refine n_if_ge (tgt := 109) hx hb (by omega) dX2_staying_102 (by decide) (fun h102 => ?_) (fun h102 => ?_)
                      rotate_left
                      · exfalso; omega
                      refine lv_iconst (v := nI 0) hx hb dX2_staying_109 rfl ?_
                      refine n_iadd hx hb dX2_staying_110 ?_
                      refine lv_istore (lv' := [(4, .int (nI (q + 0))), (0, .ref (ad 6)), (1, .int (nI i)), (2, .int (nI many)), (3, .int (nI (30 * i))), (5, .int (nI k))]) hx hb dX2_staying_111 hl (by decide) rfl (fun ls hl => ?_)
                      refine lv_iinc (v := nI (k + 1)) (lv' := [(5, .int (nI (k + 1))), (4, .int (nI (q + 0))), (0, .ref (ad 6)), (1, .int (nI i)), (2, .int (nI many)), (3, .int (nI (30 * i)))]) hx hb dX2_staying_113 hl (k := 5) rfl (nI_add k 1) (by decide) rfl (fun ls hl => ?_)
                      refine lv_goto (tgt := 74) hx hb dX2_staying_116 (by decide) ?_
                      exact ih74 (k + 1) (q + 0) (by omega) (by rw [hq]; show _ = stayC R Y (L, S, D9, K) many k + (if _ then 0 else 1); rw [hh]; rfl) (by omega) _ _ _ hP hS (lv_sub hl [2, 3, 4, 5, 1, 0] rfl)
              exact loop74 (_ + 1) 0 0 (Nat.zero_le _) (rfl) (Nat.lt_succ_self _) _ _ _ hP hS (lv_sub hl [2, 3, 4, 5, 1, 0] rfl)
            · refine lv_aload_n hx hb dX2_staying_51 rfl (lv_at hl 0 rfl) ?_
              refine gf_X2_13 C0 hP (by omega) mw_at.1 rfl dX2_staying_52 ?_
              refine lv_iload_n hx hb dX2_staying_55 rfl (lv_at hl 3 rfl) ?_
              refine lv_iconst (v := nI 0) hx hb dX2_staying_56 rfl ?_
              refine lv_iconst (v := nI 1) hx hb dX2_staying_57 rfl ?_
              refine k0_i (rn_X2_52 (As := [.ref (ad 8), .int (nI (30 * i)), .int (nI 0), .int (nI 1)]) (rest := []) C0 (m_X2_come l D cA N ad (mw ad cA c th n nw A2 rw) 8 (30 * i) A2 R Y (itS R Y 1 k (L, S, D9, K)).1 (itS R Y 1 k (L, S, D9, K)).2.1 (itS R Y 1 k (L, S, D9, K)).2.2.1 (itS R Y 1 k (L, S, D9, K)).2.2.2 (nI 0) 1 (by omega) mw_at.2.2.1 (by omega) hrk (by omega) (by omega) (by omega) (by omega) (by omega) (by omega) (by omega) (by omega) (by omega) _) hP hS rfl ⟨rfl, rfl⟩ ⟨by decide, by decide⟩ hl.1 rfl (Nat.le_of_ble_eq_true rfl) dX2_staying_58 ⟨Nat.le_of_ble_eq_true rfl, Nat.le_of_ble_eq_true rfl⟩) C0 hP hS (fun v58 c58 H locs hp hP hS => ?_)
              obtain ⟨ah58, hv58, rfl, hrow58, hst58, hout58⟩ := hp
              rw [mw_8] at hP
              refine lv_pop hx hb dX2_staying_61 rfl ?_
              refine lv_iinc (v := nI (k + 1)) (lv' := [(4, .int (nI (k + 1))), (0, .ref (ad 6)), (1, .int (nI i)), (2, .int (nI many)), (3, .int (nI (30 * i)))]) hx hb dX2_staying_62 hl (k := 4) rfl (nI_add k 1) (by decide) rfl (fun ls hl => ?_)
              refine lv_goto (tgt := 45) hx hb dX2_staying_65 (by decide) ?_
              exact ih45 (k + 1) ah58 (by omega) (hrow58) (hitstep (by omega) hst58 (by omega) htn) (by omega) _ _ _ hP hS (lv_sub hl [1, 2, 3, 4, 0] rfl)
        exact loop45 (_ + 1) 0 A1 (Nat.zero_le _) (hr1) (fun p hp => ⟨fun _ => hm1 p (by omega), fun h => by cases h⟩) (Nat.lt_succ_self _) _ _ _ hP hS (lv_sub hl [1, 2, 3, 4, 0] rfl)
      · refine lv_aload_n hx hb dX2_staying_19 rfl (lv_at hl 0 rfl) ?_
        refine gf_X2_13 C0 hP (by omega) mw_at.1 rfl dX2_staying_20 ?_
        refine lv_iload_n hx hb dX2_staying_23 rfl (lv_at hl 3 rfl) ?_
        refine lv_bipush (v := nI 6) hx hb dX2_staying_24 rfl ?_
        refine n_iadd hx hb dX2_staying_26 ?_
        refine lv_iconst (v := nI 3) hx hb dX2_staying_27 rfl ?_
        refine lv_iload hx hb dX2_staying_28 (lv_at hl 4 rfl) ?_
        refine n_imul hx hb dX2_staying_30 ?_
        refine n_iadd hx hb dX2_staying_31 ?_
        refine lv_iconst (v := nI 2) hx hb dX2_staying_32 rfl ?_
        refine n_iadd hx hb dX2_staying_33 ?_
        refine lv_iconst (v := (-1)) hx hb dX2_staying_34 rfl ?_
        refine a_ist C0 hP hS (by omega) mw_at.2.2.1 (by omega) (by omega) dX2_staying_35 (fun H locs hP hS => ?_)
        obtain ⟨F1, hF1⟩ : ∃ z, z = upd A1 (30 * i + 6 + (3 * k) + 2) ((-1)) := ⟨_, rfl⟩
        rw [← hF1] at hP
        rw [mw_8] at hP
        refine lv_iinc (v := nI (k + 1)) (lv' := [(4, .int (nI (k + 1))), (0, .ref (ad 6)), (1, .int (nI i)), (2, .int (nI many)), (3, .int (nI (30 * i)))]) hx hb dX2_staying_36 hl (k := 4) rfl (nI_add k 1) (by decide) rfl (fun ls hl => ?_)
        refine lv_goto (tgt := 12) hx hb dX2_staying_39 (by decide) ?_
        exact ih12 (k + 1) F1 (by omega) (by rw [hF1]; exact hr1.same (fun z h1 h2 => pk_un (by omega))) (fun p hp => (Nat.lt_or_ge p k).elim (fun e => by rw [hF1, pk_un (by omega)]; exact hm1 p e) (fun e => by rw [hF1, show p = k from by omega]; exact pk_us)) (by omega) _ _ _ hP hS (lv_sub hl [1, 2, 3, 4, 0] rfl)
  exact loop12 (_ + 1) 0 ah1 (Nat.zero_le _) (hrow.same (fun z h1 h2 => hah z (by omega))) (fun p h => absurd h (Nat.not_lt_zero _)) (Nat.lt_succ_self _) _ _ _ hP hS (lv_sub hl [2, 3, 4, 1, 0] rfl)
set_option maxHeartbeats 1000000 in
set_option maxRecDepth 10000 in
theorem m_X2_taken (l : Launch) (D : va_G) (cA : Nat → ClassId) (N : Nat) (ad : Nat → Nat) (c : Nat → va_E) (th : Int32) (n : Nat) (nw ah rw : Nat → Int32) (i R Y L S D9 K : Nat)  (hN10 : 10 ≤ N) (hM : MoAt ad cA c th n nw ah rw) (hn5 : n ≤ 5) (hi : i < n) (hrow : RowE nw (30 * i) R Y L S D9 K) (hok : Hok R Y L S D9 K) : Ci l yX2_taken wX2_taken { frames := 2, cells := 0, slots := 0, locals := 60 } [.ref (ad 6), .int (nI i)] D cA N ad c 0 0 (fun v c' => UntP R Y L S D9 K v ∧ ∃ ah', mw ad cA c th n nw ah' rw = c') := by
  intro sz9
  refine bd_of (cc := cX2_taken) (maxL := 3) (ret := some Jvm.ClassFile.FieldType.int) (by decide) rfl (Nat.le_of_ble_eq_true rfl) ?_
  intro p e s m below meth c0 C0 hr hlk hnm hP hS hsz ls hl
  subst hsz
  have hx := C0.1
  have hb := C0.2.1
  have hl : lv_has ls 3 [(0, .ref (ad 6)), (1, .int (nI i))] := hl
  obtain ⟨r0, r1, r2, r3, r4, r5⟩ := id hrow
  obtain ⟨q1, q2, q3, q4, q5, q6, q7, q8, q9⟩ := id hok
  rw [← mw_self hM] at hP
  refine lv_aload_n hx hb dX2_taken_0 rfl (lv_at hl 0 rfl) ?_
  refine k0_v (rn_X2_99 (As := []) (rest := []) (r := 6) C0 (m_X2_lookAhead l D cA N ad (mw ad cA c th n nw ah rw) th n nw ah rw hN10 mw_at (by omega) _) hP hS (by omega) mw_at.1 rfl ⟨rfl, rfl⟩ ⟨by decide, by decide⟩ hl.1 rfl (Nat.le_of_ble_eq_true rfl) dX2_taken_1 ⟨Nat.le_of_ble_eq_true rfl, Nat.le_of_ble_eq_true rfl⟩) C0 hP hS (fun c1 H locs hp hP hS => ?_)
  obtain ⟨ah1, rfl, hah⟩ := hp
  rw [mw_mw] at hP
  refine lv_iconst (v := nI 1) hx hb dX2_taken_4 rfl ?_
  refine lv_istore_n (lv' := [(2, .int (nI 1)), (0, .ref (ad 6)), (1, .int (nI i))]) hx hb dX2_taken_5 rfl hl (by decide) rfl (fun ls hl => ?_)
  have loop6 : ∀ (n9 : Nat) (k : Nat) (A2 : Nat → Int32), (k ≤ 200) → (RowE A2 (30 * i) R Y (itS R Y 1 k (L, S, D9, K)).1 (itS R Y 1 k (L, S, D9, K)).2.1 (itS R Y 1 k (L, S, D9, K)).2.2.1 (itS R Y 1 k (L, S, D9, K)).2.2.2) → (∀ q, q < k → ¬ (itP R Y 1 q (L, S, D9, K) ≠ none)) → 200 - k < n9 → ∀ (H : Heap) (locs : List Loc) (ls : Array Slot), va_P D vwCl (wl N ad (mw ad cA c th n nw A2 rw)) H → va_S (wA N ad s.heap.size) s.heap H locs → lv_has ls 3 [(0, .ref (ad 6)), (1, .int (nI i)), (2, .int (nI (1 + k)))] → W p l e { frames := 2, cells := 0, slots := 0, locals := 60 } s m [.ref (ad 6), .int (nI i)].toArray below meth c0 H locs 0 0 (MQ below (va_Qi (fun v c' => UntP R Y L S D9 K v ∧ ∃ ah', mw ad cA c th n nw ah' rw = c') (fun c' t => va_P D vwCl (wl N ad c') t.heap) (wA N ad s.heap.size)) [.ref (ad 6), .int (nI i)].toArray s 0 0 (wA N ad s.heap.size)) (F0 m 6 ls []) := by
    intro n9
    induction n9 with
    | zero => intro k A2 hk hrk hno hlt9; exact absurd hlt9 (Nat.not_lt_zero _)
    | succ n9 ih6 =>
      intro k A2 hk hrk hno hlt9 H locs ls hP hS hl
      obtain ⟨i1, i2, i3, i4⟩ := itS_in (R := R) (Y := Y) (w := 1) (by omega) (x := (L, S, D9, K)) (by show L ≤ 9999; omega) (by show K ≤ R; omega) k
      dsimp only at i1 i2 i3 i4
      have hpl : ∀ p, itP R Y 1 k (L, S, D9, K) = some p → p < 2 ^ 31 := fun p h => Nat.lt_of_lt_of_le ((pk9_in (by omega) i4).1 p h) (by omega)
      refine lv_iload_n hx hb dX2_taken_6 rfl (lv_at hl 2 rfl) ?_
      refine lv_sipush (v := nI 200) hx hb dX2_taken_7 rfl ?_
      refine n_icmp_gt (tgt := 36) hx hb (by omega) (by omega) dX2_taken_10 (by decide) (fun h10 => ?_) (fun h10 => ?_)
      · refine lv_iload_n hx hb dX2_taken_36 rfl (lv_at hl 2 rfl) ?_
        refine lv_sipush (v := nI 200) hx hb dX2_taken_37 rfl ?_
        refine n_icmp_gt (tgt := 47) hx hb (by omega) (by omega) dX2_taken_40 (by decide) (fun h40 => ?_) (fun h40 => ?_)
        rotate_left
        · exfalso; omega
        refine lv_iconst (v := (-1)) hx hb dX2_taken_47 rfl ?_
        exact e_i C0 hr hlk hP hS dX2_taken_48 (by decide) (by decide) ⟨Or.inr ⟨rfl, fun q hq => hno q (by omega)⟩, _, rfl⟩
      · refine lv_aload_n hx hb dX2_taken_13 rfl (lv_at hl 0 rfl) ?_
        refine gf_X2_13 C0 hP (by omega) mw_at.1 rfl dX2_taken_14 ?_
        refine lv_bipush (v := nI 30) hx hb dX2_taken_17 rfl ?_
        refine lv_iload_n hx hb dX2_taken_19 rfl (lv_at hl 1 rfl) ?_
        refine n_imul hx hb dX2_taken_20 ?_
        refine lv_iconst (v := nI 0) hx hb dX2_taken_21 rfl ?_
        refine lv_iconst (v := nI 1) hx hb dX2_taken_22 rfl ?_
        refine k0_i (rn_X2_52 (As := [.ref (ad 8), .int (nI (30 * i)), .int (nI 0), .int (nI 1)]) (rest := []) C0 (m_X2_come l D cA N ad (mw ad cA c th n nw A2 rw) 8 (30 * i) A2 R Y (itS R Y 1 k (L, S, D9, K)).1 (itS R Y 1 k (L, S, D9, K)).2.1 (itS R Y 1 k (L, S, D9, K)).2.2.1 (itS R Y 1 k (L, S, D9, K)).2.2.2 (nI 0) 1 (by omega) mw_at.2.2.1 (by omega) hrk (by omega) (by omega) (by omega) (by omega) (by omega) (by omega) (by omega) (by omega) (by omega) _) hP hS rfl ⟨rfl, rfl⟩ ⟨by decide, by decide⟩ hl.1 rfl (Nat.le_of_ble_eq_true rfl) dX2_taken_23 ⟨Nat.le_of_ble_eq_true rfl, Nat.le_of_ble_eq_true rfl⟩) C0 hP hS (fun v23 c23 H locs hp hP hS => ?_)
        obtain ⟨ah23, hv23, rfl, hrow23, hst23, hout23⟩ := hp
        rw [mw_8] at hP
        refine lv_iconst (v := (-1)) hx hb dX2_taken_26 rfl ?_
        refine lv_icmp_ne (tgt := 36) hx hb dX2_taken_27 (by decide) (fun h27 => ?_) (fun h27 => ?_)
        · refine lv_iload_n hx hb dX2_taken_36 rfl (lv_at hl 2 rfl) ?_
          refine lv_sipush (v := nI 200) hx hb dX2_taken_37 rfl ?_
          refine n_icmp_gt (tgt := 47) hx hb (by omega) (by omega) dX2_taken_40 (by decide) (fun h40 => ?_) (fun h40 => ?_)
          · exfalso; omega
          refine lv_iload_n hx hb dX2_taken_43 rfl (lv_at hl 2 rfl) ?_
          refine lv_goto (tgt := 48) hx hb dX2_taken_44 (by decide) ?_
          exact e_i C0 hr hlk hP hS dX2_taken_48 (by decide) (by decide) ⟨Or.inl ⟨k, by omega, fun h => h27 (by rw [hv23, show (pk _ _ _ _ _ _ _).1 = none from h]; rfl), hno, rfl⟩, _, rfl⟩
        · refine lv_iinc (v := nI (1 + k + 1)) (lv' := [(2, .int (nI (1 + k + 1))), (0, .ref (ad 6)), (1, .int (nI i))]) hx hb dX2_taken_30 hl (k := 2) rfl (nI_add (1 + k) 1) (by decide) rfl (fun ls hl => ?_)
          refine lv_goto (tgt := 6) hx hb dX2_taken_33 (by decide) ?_
          exact ih6 (k + 1) ah23 (by omega) (hrow23) (fun q hq => (Nat.lt_or_ge q k).elim (fun e => hno q e) (fun e => by rw [show q = k from by omega]; exact fun h => h (oI_none (hv23.symm.trans h27) hpl))) (by omega) _ _ _ hP hS (lv_sub hl [1, 2, 0] rfl)
  exact loop6 (_ + 1) 0 ah1 (Nat.zero_le _) (hrow.same (fun z h1 h2 => hah z (by omega))) (fun q h => absurd h (Nat.not_lt_zero _)) (Nat.lt_succ_self _) _ _ _ hP hS (lv_sub hl [1, 2, 0] rfl)
set_option maxHeartbeats 1000000 in
set_option maxRecDepth 10000 in
theorem m_X2_wanted (l : Launch) (D : va_G) (cA : Nat → ClassId) (N : Nat) (ad : Nat → Nat) (c : Nat → va_E) (th : Int32) (n : Nat) (nw ah rw : Nat → Int32) (i R Y L S D9 K : Nat)  (hN10 : 10 ≤ N) (hM : MoAt ad cA c th n nw ah rw) (hn5 : n ≤ 5) (hi : i < n) (hrow : RowE nw (30 * i) R Y L S D9 K) (hok : Hok R Y L S D9 K) : Ci l yX2_wanted wX2_wanted { frames := 3, cells := 0, slots := 0, locals := 82 } [.ref (ad 6), .int (nI i)] D cA N ad c 0 0 (fun v c' => WanP R Y L S D9 K v ∧ ∃ ah', mw ad cA c th n nw ah' rw = c') := by
  intro sz9
  refine bd_of (cc := cX2_wanted) (maxL := 3) (ret := some Jvm.ClassFile.FieldType.int) (by decide) rfl (Nat.le_of_ble_eq_true rfl) ?_
  intro p e s m below meth c0 C0 hr hlk hnm hP hS hsz ls hl
  subst hsz
  have hx := C0.1
  have hb := C0.2.1
  have hl : lv_has ls 3 [(0, .ref (ad 6)), (1, .int (nI i))] := hl
  obtain ⟨r0, r1, r2, r3, r4, r5⟩ := id hrow
  obtain ⟨q1, q2, q3, q4, q5, q6, q7, q8, q9⟩ := id hok
  rw [← mw_self hM] at hP
  refine lv_iconst (v := nI 1) hx hb dX2_wanted_0 rfl ?_
  refine lv_istore_n (lv' := [(2, .int (nI 1)), (0, .ref (ad 6)), (1, .int (nI i))]) hx hb dX2_wanted_1 rfl hl (by decide) rfl (fun ls hl => ?_)
  have loop2 : ∀ (n9 : Nat) (k : Nat) (A2 : Nat → Int32), (k ≤ 9) → (∀ q, q < k → ¬ ((pk R Y L (S + 1) (D9 + (1 + q)) K (1 + q)).1 ≠ none)) → 9 - k < n9 → ∀ (H : Heap) (locs : List Loc) (ls : Array Slot), va_P D vwCl (wl N ad (mw ad cA c th n nw A2 rw)) H → va_S (wA N ad s.heap.size) s.heap H locs → lv_has ls 3 [(0, .ref (ad 6)), (1, .int (nI i)), (2, .int (nI (1 + k)))] → W p l e { frames := 3, cells := 0, slots := 0, locals := 82 } s m [.ref (ad 6), .int (nI i)].toArray below meth c0 H locs 0 0 (MQ below (va_Qi (fun v c' => WanP R Y L S D9 K v ∧ ∃ ah', mw ad cA c th n nw ah' rw = c') (fun c' t => va_P D vwCl (wl N ad c') t.heap) (wA N ad s.heap.size)) [.ref (ad 6), .int (nI i)].toArray s 0 0 (wA N ad s.heap.size)) (F0 m 2 ls []) := by
    intro n9
    induction n9 with
    | zero => intro k A2 hk hno hlt9; exact absurd hlt9 (Nat.not_lt_zero _)
    | succ n9 ih2 =>
      intro k A2 hk hno hlt9 H locs ls hP hS hl
      have hpl : ∀ p, (pk R Y L (S + 1) (D9 + (1 + k)) K (1 + k)).1 = some p → p < 2 ^ 31 := fun p h => Nat.lt_of_lt_of_le ((pk9_in (by omega) q7).1 p h) (by omega)
      refine lv_iload_n hx hb dX2_wanted_2 rfl (lv_at hl 2 rfl) ?_
      refine lv_bipush (v := nI 9) hx hb dX2_wanted_3 rfl ?_
      refine n_icmp_gt (tgt := 24) hx hb (by omega) (by omega) dX2_wanted_5 (by decide) (fun h5 => ?_) (fun h5 => ?_)
      · refine lv_iload_n hx hb dX2_wanted_24 rfl (lv_at hl 2 rfl) ?_
        refine lv_bipush (v := nI 9) hx hb dX2_wanted_25 rfl ?_
        refine n_icmp_gt (tgt := 34) hx hb (by omega) (by omega) dX2_wanted_27 (by decide) (fun h27 => ?_) (fun h27 => ?_)
        rotate_left
        · exfalso; omega
        refine lv_iconst (v := (-1)) hx hb dX2_wanted_34 rfl ?_
        exact e_i C0 hr hlk hP hS dX2_wanted_35 (by decide) (by decide) ⟨Or.inr ⟨rfl, fun q hq => hno q (by omega)⟩, _, rfl⟩
      · refine lv_aload_n hx hb dX2_wanted_8 rfl (lv_at hl 0 rfl) ?_
        refine lv_iload_n hx hb dX2_wanted_9 rfl (lv_at hl 1 rfl) ?_
        refine lv_iload_n hx hb dX2_wanted_10 rfl (lv_at hl 2 rfl) ?_
        refine k0_i (rn_X2_102 (As := [.int (nI i), .int (nI (1 + k))]) (rest := []) (r := 6) C0 (m_X2_tried l D cA N ad (mw ad cA c th n nw A2 rw) th n nw A2 rw i R Y L S D9 K (1 + k) hN10 mw_at (by omega) hi hrow hok (by omega) (by omega) _) hP hS (by omega) mw_at.1 rfl ⟨rfl, rfl⟩ ⟨by decide, by decide⟩ hl.1 rfl (Nat.le_of_ble_eq_true rfl) dX2_wanted_11 ⟨Nat.le_of_ble_eq_true rfl, Nat.le_of_ble_eq_true rfl⟩) C0 hP hS (fun v11 c11 H locs hp hP hS => ?_)
        obtain ⟨rfl, ah11, rfl⟩ := hp
        rw [mw_mw] at hP
        refine lv_iconst (v := (-1)) hx hb dX2_wanted_14 rfl ?_
        refine lv_icmp_ne (tgt := 24) hx hb dX2_wanted_15 (by decide) (fun h15 => ?_) (fun h15 => ?_)
        · refine lv_iload_n hx hb dX2_wanted_24 rfl (lv_at hl 2 rfl) ?_
          refine lv_bipush (v := nI 9) hx hb dX2_wanted_25 rfl ?_
          refine n_icmp_gt (tgt := 34) hx hb (by omega) (by omega) dX2_wanted_27 (by decide) (fun h27 => ?_) (fun h27 => ?_)
          · exfalso; omega
          refine lv_iload_n hx hb dX2_wanted_30 rfl (lv_at hl 2 rfl) ?_
          refine lv_goto (tgt := 35) hx hb dX2_wanted_31 (by decide) ?_
          exact e_i C0 hr hlk hP hS dX2_wanted_35 (by decide) (by decide) ⟨Or.inl ⟨k, by omega, fun h => h15 (by rw [h]; rfl), hno, rfl⟩, _, rfl⟩
        · refine lv_iinc (v := nI (1 + k + 1)) (lv' := [(2, .int (nI (1 + k + 1))), (0, .ref (ad 6)), (1, .int (nI i))]) hx hb dX2_wanted_18 hl (k := 2) rfl (nI_add (1 + k) 1) (by decide) rfl (fun ls hl => ?_)
          refine lv_goto (tgt := 2) hx hb dX2_wanted_21 (by decide) ?_
          exact ih2 (k + 1) ah11 (by omega) (fun q hq => (Nat.lt_or_ge q k).elim (fun e => hno q e) (fun e => by rw [show q = k from by omega]; exact fun h => h (oI_none h15 hpl))) (by omega) _ _ _ hP hS (lv_sub hl [1, 2, 0] rfl)
  exact loop2 (_ + 1) 0 ah (Nat.zero_le _) (fun q h => absurd h (Nat.not_lt_zero _)) (Nat.lt_succ_self _) _ _ _ hP hS (lv_sub hl [1, 2, 0] rfl)
