set_option maxHeartbeats 1000000 in
set_option maxRecDepth 10000 in
theorem m_X2_digest (l : Launch) (D : va_G) (cA : Nat → ClassId) (N : Nat) (ad : Nat → Nat) (c : Nat → va_E) (th : Int32) (n : Nat) (nw ah rw : Nat → Int32) (sc : Nat → Nat → Nat) (hN10 : 10 ≤ N) (hM : MoAt ad cA c th n nw ah rw) (hn5 : n ≤ 5) (hrows : RowsAt nw n sc) (hOk : HsOk n sc) : Cl l yX2_digest wX2_digest { frames := 5, cells := 5, slots := 65, locals := 141 } [.ref (ad 6)] D cA N ad c 5 65 (fun v c' => DigM n sc (fun j => sto nw (30 * j)) v ∧ ∃ ah' rw', mw ad cA c (nI 0) n nw ah' rw' = c') := by
  intro sz9
  refine bd_of (cc := cX2_digest) (maxL := 4) (ret := some Jvm.ClassFile.FieldType.long) (by decide) rfl (Nat.le_of_ble_eq_true rfl) ?_
  intro p e s m below meth c0 C0 hr hlk hnm hP hS hsz ls hl
  subst hsz
  have hx := C0.1
  have hb := C0.2.1
  have hl : lv_has ls 4 [(0, .ref (ad 6))] := hl
  rw [← mw_self hM] at hP
  refine lv_aload_n hx hb dX2_digest_0 rfl (lv_at hl 0 rfl) ?_
  refine lv_iconst (v := nI 0) hx hb dX2_digest_1 rfl ?_
  refine pm_th C0 hN10 hP hS dX2_digest_2 (fun H locs hP hS => ?_)
  refine lv_ldc2 (v := 73501) hx hb C0.2.2.2.1 (wd_cl_X2_119 C0.2.2.2.2.1 _) dX2_digest_5 ?_
  refine lv_aload_n hx hb dX2_digest_8 rfl (lv_at hl 0 rfl) ?_
  refine gf_X2_23 C0 hP (by omega) mw_at.1 rfl dX2_digest_9 ?_
  refine lv_i2l (v := (nI n).toInt64) hx hb dX2_digest_12 rfl ?_
  refine lv_ladd hx hb dX2_digest_13 ?_
  refine lv_lstore_n (lv' := [(1, .long (73501 + ((nI n).toInt64))), (0, .ref (ad 6))]) hx hb dX2_digest_14 rfl hl (by decide) rfl (fun ls hl => ?_)
  refine lv_iconst (v := nI 0) hx hb dX2_digest_15 rfl ?_
  refine lv_istore_n (lv' := [(3, .int (nI 0)), (1, .long (73501 + ((nI n).toInt64))), (0, .ref (ad 6))]) hx hb dX2_digest_16 rfl hl (by decide) rfl (fun ls hl => ?_)
  have loop17 : ∀ (n9 : Nat) (k : Nat) (dv : Int64) (A2 : Nat → Int32) (B2 : Nat → Int32), (k ≤ n) → (HandsM n sc (fun j => sto nw (30 * j)) k (dg 2371 (nI n)) dv) → n - k < n9 → ∀ (H : Heap) (locs : List Loc) (ls : Array Slot), va_P D vwCl (wl N ad (mw ad cA c (nI 0) n nw A2 B2)) H → va_S (wA N ad s.heap.size) s.heap H locs → lv_has ls 4 [(0, .ref (ad 6)), (1, .long dv), (3, .int (nI k))] → W p l e { frames := 5, cells := 5, slots := 65, locals := 141 } s m [.ref (ad 6)].toArray below meth c0 H locs k (13 * k) (MQ below (va_Ql (fun v c' => DigM n sc (fun j => sto nw (30 * j)) v ∧ ∃ ah' rw', mw ad cA c (nI 0) n nw ah' rw' = c') (fun c' t => va_P D vwCl (wl N ad c') t.heap) (wA N ad s.heap.size)) [.ref (ad 6)].toArray s 5 65 (wA N ad s.heap.size)) (F0 m 17 ls []) := by
    intro n9
    induction n9 with
    | zero => intro k dv A2 B2 hk hdv hlt9; exact absurd hlt9 (Nat.not_lt_zero _)
    | succ n9 ih17 =>
      intro k dv A2 B2 hk hdv hlt9 H locs ls hP hS hl
      refine lv_iload_n hx hb dX2_digest_17 rfl (lv_at hl 2 rfl) ?_
      refine lv_aload_n hx hb dX2_digest_18 rfl (lv_at hl 0 rfl) ?_
      refine gf_X2_23 C0 hP (by omega) mw_at.1 rfl dX2_digest_19 ?_
      refine n_icmp_ge (tgt := 38) hx hb (by omega) (by omega) dX2_digest_22 (by decide) (fun h22 => ?_) (fun h22 => ?_)
      · have hkn : k = n := by omega
        refine lv_lload_n hx hb dX2_digest_38 rfl (lv_at hl 1 rfl) ?_
        exact e_l C0 hr hlk hP hS dX2_digest_39 (by omega) (by omega) ⟨by rw [hkn] at hdv; exact hdv, _, _, rfl⟩
      · refine lv_aload_n hx hb dX2_digest_25 rfl (lv_at hl 0 rfl) ?_
        refine lv_iload_n hx hb dX2_digest_26 rfl (lv_at hl 2 rfl) ?_
        refine lv_lload_n hx hb dX2_digest_27 rfl (lv_at hl 1 rfl) ?_
        refine k_l (rn_X2_121 (As := [.int (nI k), .long dv]) (rest := []) (r := 6) C0 (m_X2_digestOf l D cA N ad (mw ad cA c (nI 0) n nw A2 B2) ((nI 0)) n nw A2 B2 k (sc k 0) (sc k 1) (sc k 2) (sc k 3) (sc k 4) (sc k 5) sc dv hN10 mw_at hn5 (by omega) (hrows k (by omega)) (hOk k (by omega)) hrows hOk rfl rfl rfl rfl rfl rfl _) hP hS (by omega) mw_at.1 rfl ⟨rfl, rfl⟩ ⟨by decide, by decide⟩ hl.1 rfl (Nat.le_of_ble_eq_true rfl) dX2_digest_28 ⟨by show k + 1 ≤ 5; omega, by show 13 * k + 13 ≤ 65; omega⟩) C0 hP hS (fun v28 c28 H locs hp hP hS => ?_)
        obtain ⟨hhp, ah28, rw28, rfl⟩ := hp
        rw [mw_mw] at hP
        refine lv_lstore_n (lv' := [(1, .long v28), (0, .ref (ad 6)), (3, .int (nI k))]) hx hb dX2_digest_31 rfl hl (by decide) rfl (fun ls hl => ?_)
        refine lv_iinc (v := nI (k + 1)) (lv' := [(3, .int (nI (k + 1))), (1, .long v28), (0, .ref (ad 6))]) hx hb dX2_digest_32 hl (k := 2) rfl (nI_add k 1) (by decide) rfl (fun ls hl => ?_)
        refine lv_goto (tgt := 17) hx hb dX2_digest_35 (by decide) ?_
        exact ih17 (k + 1) v28 ah28 rw28 (by omega) (⟨dv, hdv, hhp⟩) (by omega) _ _ _ hP hS (lv_sub hl [2, 1, 0] rfl)
  exact loop17 (_ + 1) 0 (73501 + (nI n).toInt64) ah rw (Nat.zero_le _) (by show (73501 : Int64) + (nI n).toInt64 = 2371 * 31 + (nI n).toInt64; rw [show (2371 : Int64) * 31 = 73501 from by decide]) (Nat.lt_succ_self _) _ _ _ hP hS (lv_sub hl [2, 1, 0] rfl)
