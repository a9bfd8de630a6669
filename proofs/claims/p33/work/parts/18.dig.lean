theorem m_X1_takenIfJoined (l : Launch) (D : va_G) (cA : Nat → ClassId) (N : Nat) (ad : Nat → Nat) (c : Nat → va_E) (n i j : Nat) (sc : Nat → Nat → Nat) (st : Nat → Nat → Nat → Int32) (hN : 6 + 4 * n ≤ N) (hF : FH ad cA c n) (ht : TrAt ad cA c) (hHs : HsAt ad cA c n sc st) (hOk : HsOk n sc) (hinj : Inj N ad) (hi : i < n) (hj : j < n) : Ci l yX1_takenIfJoined wX1_takenIfJoined { frames := 4, cells := 0, slots := 0, locals := 95 } [.ref (ad 0), .ref (ad (6 + 4 * i)), .ref (ad (6 + 4 * j))] D cA N ad c 0 0 (fun v c' => TJ sc st i j v ∧ Tr ad cA c c') := by
  by_cases hij : i = j
  · subst hij
    exact (m_X1_takenIfJoined__s l D cA N ad c n (6 + 4 * i) (sc i 0) (sc i 1) (sc i 2) (sc i 3) (sc i 4) (sc i 5) (st i) (by omega) hF ht (by omega) (by omega) (hHs i hi) (hOk i hi)).mono (fun v c' h => ⟨Or.inl ⟨Or.inl rfl, h.1⟩, h.2⟩)
  · have hne : ad (6 + 4 * i) ≠ ad (6 + 4 * j) := fun e => by have := hinj _ _ (by omega) (by omega) e; omega
    by_cases hc : CanJ sc i j
    · exact (m_X1_takenIfJoined__j l D cA N ad c n (6 + 4 * i) (sc i 0) (sc i 1) (sc i 2) (sc i 3) (sc i 4) (sc i 5) (st i) (6 + 4 * j) (sc j 0) (sc j 1) (sc j 2) (sc j 3) (sc j 4) (sc j 5) (st j) (by omega) hF ht (by omega) (by omega) (hHs i hi) (hOk i hi) (by omega) (by omega) (hHs j hj) (hOk j hj) (by omega) hne hc).mono (fun v c' h => by obtain ⟨stt, h1, h2⟩ := h; exact ⟨Or.inr ⟨hij, hc, stt, h1⟩, h2⟩)
    · exact (m_X1_takenIfJoined__n l D cA N ad c n (6 + 4 * i) (sc i 0) (sc i 1) (sc i 2) (sc i 3) (sc i 4) (sc i 5) (st i) (6 + 4 * j) (sc j 0) (sc j 1) (sc j 2) (sc j 3) (sc j 4) (sc j 5) (st j) (by omega) hF ht (by omega) (by omega) (hHs i hi) (hOk i hi) (by omega) (by omega) (hHs j hj) (hOk j hj) (by omega) hne hc).mono (fun v c' h => ⟨Or.inl ⟨Or.inr hc, h.1⟩, h.2⟩)
theorem m_X1_wouldJoin (l : Launch) (D : va_G) (cA : Nat → ClassId) (N : Nat) (ad : Nat → Nat) (c : Nat → va_E) (n i j : Nat) (sc : Nat → Nat → Nat) (st : Nat → Nat → Nat → Int32) (hN : 6 + 4 * n ≤ N) (hF : FH ad cA c n) (ht : TrAt ad cA c) (hHs : HsAt ad cA c n sc st) (hOk : HsOk n sc) (hinj : Inj N ad) (hi : i < n) (hj : j < n) : Ci l yX1_wouldJoin wX1_wouldJoin { frames := 5, cells := 0, slots := 0, locals := 117 } [.ref (ad 0), .int (nI i), .int (nI j)] D cA N ad c 0 0 (fun v c' => TJ sc st i j v ∧ Tr ad cA c c') := by
  by_cases hij : i = j
  · subst hij
    exact (m_X1_wouldJoin__s l D cA N ad c n i (sc i 0) (sc i 1) (sc i 2) (sc i 3) (sc i 4) (sc i 5) (st i) (by omega) hF ht hi (hHs i hi) (hOk i hi)).mono (fun v c' h => ⟨Or.inl ⟨Or.inl rfl, h.1⟩, h.2⟩)
  · have hne : ad (6 + 4 * i) ≠ ad (6 + 4 * j) := fun e => by have := hinj _ _ (by omega) (by omega) e; omega
    by_cases hc : CanJ sc i j
    · exact (m_X1_wouldJoin__j l D cA N ad c n i (sc i 0) (sc i 1) (sc i 2) (sc i 3) (sc i 4) (sc i 5) (st i) j (sc j 0) (sc j 1) (sc j 2) (sc j 3) (sc j 4) (sc j 5) (st j) (by omega) hF ht hi (hHs i hi) (hOk i hi) hj (hHs j hj) (hOk j hj) hne hij hc).mono (fun v c' h => by obtain ⟨stt, h1, h2⟩ := h; exact ⟨Or.inr ⟨hij, hc, stt, h1⟩, h2⟩)
    · exact (m_X1_wouldJoin__n l D cA N ad c n i (sc i 0) (sc i 1) (sc i 2) (sc i 3) (sc i 4) (sc i 5) (st i) j (sc j 0) (sc j 1) (sc j 2) (sc j 3) (sc j 4) (sc j 5) (st j) (by omega) hF ht hi (hHs i hi) (hOk i hi) hj (hHs j hj) (hOk j hj) hne hij hc).mono (fun v c' h => ⟨Or.inl ⟨Or.inr hc, h.1⟩, h.2⟩)
set_option maxHeartbeats 1000000 in
set_option maxRecDepth 10000 in
theorem m_X1_digestedPairs (l : Launch) (D : va_G) (cA : Nat → ClassId) (N : Nat) (ad : Nat → Nat) (c : Nat → va_E) (n : Nat) (sc : Nat → Nat → Nat) (st : Nat → Nat → Nat → Int32) (i : Nat) (d9 : Int64) (hN : 6 + 4 * n ≤ N) (hF : FH ad cA c n) (ht : TrAt ad cA c) (hHs : HsAt ad cA c n sc st) (hOk : HsOk n sc) (hinj : Inj N ad) (hi : i < n) : Cl l yX1_digestedPairs wX1_digestedPairs { frames := 5, cells := 0, slots := 0, locals := 117 } [.ref (ad 0), .long d9, .ref (ad (6 + 4 * i))] D cA N ad c 0 0 (fun v c' => PairsP sc st i n d9 v ∧ Tr ad cA c c') := by
  intro sz9
  refine bd_of (cc := cX1_digestedPairs) (maxL := 8) (ret := some Jvm.ClassFile.FieldType.long) (by decide) rfl (Nat.le_of_ble_eq_true rfl) ?_
  intro p e s m below meth c0 C0 hr hlk hnm hP hS hsz ls hl
  subst hsz
  have hx := C0.1
  have hb := C0.2.1
  have hl : lv_has ls 8 [(0, .ref (ad 0)), (1, .long d9), (3, .ref (ad (6 + 4 * i)))] := hl
  have hn5 := hF.2.2
  have hT0 := ht.rf
  refine lv_lload_n hx hb dX1_digestedPairs_0 rfl (lv_at hl 1 rfl) ?_
  refine lv_lstore (lv' := [(4, .long d9), (0, .ref (ad 0)), (1, .long d9), (3, .ref (ad (6 + 4 * i)))]) hx hb dX1_digestedPairs_1 hl (by decide) rfl (fun ls hl => ?_)
  refine lv_iconst (v := nI 0) hx hb dX1_digestedPairs_3 rfl ?_
  refine lv_istore (lv' := [(6, .int (nI 0)), (4, .long d9), (0, .ref (ad 0)), (1, .long d9), (3, .ref (ad (6 + 4 * i)))]) hx hb dX1_digestedPairs_4 hl (by decide) rfl (fun ls hl => ?_)
  have loop6 : ∀ (n9 : Nat) (k : Nat) (c1 : Nat → va_E) (dv : Int64), (k ≤ 5) → (Tr ad cA c c1) → (PairsP sc st i (min k n) d9 dv) → 5 - k < n9 → ∀ (H : Heap) (locs : List Loc) (ls : Array Slot), va_P D vwCl (wl N ad (c1)) H → va_S (wA N ad s.heap.size) s.heap H locs → lv_has ls 8 [(0, .ref (ad 0)), (3, .ref (ad (6 + 4 * i))), (4, .long dv), (6, .int (nI k))] → W p l e { frames := 5, cells := 0, slots := 0, locals := 117 } s m [.ref (ad 0), .long d9, .ref (ad (6 + 4 * i))].toArray below meth c0 H locs 0 0 (MQ below (va_Ql (fun v c' => PairsP sc st i n d9 v ∧ Tr ad cA c c') (fun c' t => va_P D vwCl (wl N ad c') t.heap) (wA N ad s.heap.size)) [.ref (ad 0), .long d9, .ref (ad (6 + 4 * i))].toArray s 0 0 (wA N ad s.heap.size)) (F0 m 6 ls []) := by
    intro n9
    induction n9 with
    | zero => intro k c1 dv hk ht1 hdv hlt9; exact absurd hlt9 (Nat.not_lt_zero _)
    | succ n9 ih6 =>
      intro k c1 dv hk ht1 hdv hlt9 H locs ls hP hS hl
      refine lv_iload hx hb dX1_digestedPairs_6 (lv_at hl 3 rfl) ?_
      refine lv_aload_n hx hb dX1_digestedPairs_8 rfl (lv_at hl 0 rfl) ?_
      refine gf_X1_11 C0 hP (by omega) (hF.tr ht1).1 rfl dX1_digestedPairs_9 ?_
      refine a_lenq C0 hP (by omega) (hF.tr ht1).2.1 dX1_digestedPairs_12 ?_
      refine n_icmp_ge (tgt := 63) hx hb (by omega) (by omega) dX1_digestedPairs_13 (by decide) (fun h13 => ?_) (fun h13 => ?_)
      · rw [show min k n = n from by omega] at hdv
        refine lv_lload hx hb dX1_digestedPairs_63 (lv_at hl 2 rfl) ?_
        exact e_l C0 hr hlk hP hS dX1_digestedPairs_65 (by decide) (by decide) ⟨hdv, ht1⟩
      · refine lv_aload_n hx hb dX1_digestedPairs_16 rfl (lv_at hl 0 rfl) ?_
        refine gf_X1_11 C0 hP (by omega) (hF.tr ht1).1 rfl dX1_digestedPairs_17 ?_
        refine lv_iload hx hb dX1_digestedPairs_20 (lv_at hl 3 rfl) ?_
        refine a_qld C0 hP (by omega) (hF.tr ht1).2.1 (by omega) (by omega) dX1_digestedPairs_22 ?_
        rcases Nat.lt_or_ge k n with hkn | hkn
        · rw [tbl_ref hkn]
          refine lv_astore (lv' := [(7, .ref (ad (6 + 4 * k))), (0, .ref (ad 0)), (3, .ref (ad (6 + 4 * i))), (4, .long dv), (6, .int (nI k))]) hx hb dX1_digestedPairs_23 hl (by decide) rfl (fun ls hl => ?_)
          refine lv_aload hx hb dX1_digestedPairs_25 (lv_at hl 0 rfl) ?_
          refine lv_ifnull hx hb dX1_digestedPairs_27 ?_
          refine lv_lload hx hb dX1_digestedPairs_30 (lv_at hl 3 rfl) ?_
          refine lv_aload_n hx hb dX1_digestedPairs_32 rfl (lv_at hl 2 rfl) ?_
          refine lv_aload hx hb dX1_digestedPairs_33 (lv_at hl 0 rfl) ?_
          refine k0_i (rn_X1_124 (As := [.ref (ad (6 + 4 * i)), .ref (ad (6 + 4 * k))]) (rest := [.long dv]) C0 (m_X1_commonValues l D cA N ad (c1) (6 + 4 * i) ((sc i 0)) ((sc i 1)) ((sc i 2)) ((sc i 3)) ((sc i 4)) ((sc i 5)) ((st i)) (6 + 4 * k) ((sc k 0)) ((sc k 1)) ((sc k 2)) ((sc k 3)) ((sc k 4)) ((sc k 5)) ((st k)) (by omega) (by omega) ((hHs i hi).tr (by omega) ht1) (hOk i (by omega)) (by omega) (by omega) ((hHs k hkn).tr (by omega) ht1) (hOk k (by omega)) _) hP hS rfl ⟨rfl, rfl⟩ ⟨by decide, by decide⟩ hl.1 rfl (Nat.le_of_ble_eq_true rfl) dX1_digestedPairs_35 ⟨Nat.le_of_ble_eq_true rfl, Nat.le_of_ble_eq_true rfl⟩) C0 hP hS (fun v35 c35 H locs hp hP hS => ?_)
          obtain ⟨rfl, rfl⟩ := hp
          refine k0_l (rn_X1_160 (As := [.long dv, .int (nI (com (st i 0) (st k 0) (sc k 5) (sc i 5)))]) (rest := []) C0 (m_X1_digested l D cA N ad (c1) (dv) (nI (com (st i 0) (st k 0) (sc k 5) (sc i 5))) _) hP hS rfl ⟨rfl, rfl⟩ ⟨by decide, by decide⟩ hl.1 rfl (Nat.le_of_ble_eq_true rfl) dX1_digestedPairs_38 ⟨Nat.le_of_ble_eq_true rfl, Nat.le_of_ble_eq_true rfl⟩) C0 hP hS (fun v38 c38 H locs hp hP hS => ?_)
          obtain ⟨rfl, rfl⟩ := hp
          refine lv_lstore (lv' := [(4, .long (dg (dv) (nI (com (st i 0) (st k 0) (sc k 5) (sc i 5))))), (7, .ref (ad (6 + 4 * k))), (0, .ref (ad 0)), (3, .ref (ad (6 + 4 * i))), (6, .int (nI k))]) hx hb dX1_digestedPairs_41 hl (by decide) rfl (fun ls hl => ?_)
          refine lv_lload hx hb dX1_digestedPairs_43 (lv_at hl 0 rfl) ?_
          refine lv_aload_n hx hb dX1_digestedPairs_45 rfl (lv_at hl 2 rfl) ?_
          refine lv_aload_n hx hb dX1_digestedPairs_46 rfl (lv_at hl 3 rfl) ?_
          refine lv_aload hx hb dX1_digestedPairs_47 (lv_at hl 1 rfl) ?_
          refine k0_i (rn_X1_155 (As := [.ref (ad (6 + 4 * i)), .ref (ad (6 + 4 * k))]) (rest := [.long (dg (dv) (nI (com (st i 0) (st k 0) (sc k 5) (sc i 5))))]) (r := 0) C0 (m_X1_takenIfJoined l D cA N ad (c1) n i k sc st hN (hF.tr ht1) ht1.at (hHs.tr ht1) hOk hinj hi hkn _) hP hS (by omega) (hF.tr ht1).1 rfl ⟨rfl, rfl⟩ ⟨by decide, by decide⟩ hl.1 rfl (Nat.le_of_ble_eq_true rfl) dX1_digestedPairs_49 ⟨Nat.le_of_ble_eq_true rfl, Nat.le_of_ble_eq_true rfl⟩) C0 hP hS (fun v49 c49 H locs hp hP hS => ?_)
          obtain ⟨htj, ht49⟩ := hp
          refine k0_l (rn_X1_160 (As := [.long (dg (dv) (nI (com (st i 0) (st k 0) (sc k 5) (sc i 5)))), .int v49]) (rest := []) C0 (m_X1_digested l D cA N ad (c49) (dg (dv) (nI (com (st i 0) (st k 0) (sc k 5) (sc i 5)))) (v49) _) hP hS rfl ⟨rfl, rfl⟩ ⟨by decide, by decide⟩ hl.1 rfl (Nat.le_of_ble_eq_true rfl) dX1_digestedPairs_52 ⟨Nat.le_of_ble_eq_true rfl, Nat.le_of_ble_eq_true rfl⟩) C0 hP hS (fun v52 c52 H locs hp hP hS => ?_)
          obtain ⟨rfl, rfl⟩ := hp
          refine lv_lstore (lv' := [(4, .long (dg (dg (dv) (nI (com (st i 0) (st k 0) (sc k 5) (sc i 5)))) (v49))), (7, .ref (ad (6 + 4 * k))), (0, .ref (ad 0)), (3, .ref (ad (6 + 4 * i))), (6, .int (nI k))]) hx hb dX1_digestedPairs_55 hl (by decide) rfl (fun ls hl => ?_)
          refine lv_iinc (v := nI (k + 1)) (lv' := [(6, .int (nI (k + 1))), (4, .long (dg (dg (dv) (nI (com (st i 0) (st k 0) (sc k 5) (sc i 5)))) (v49))), (7, .ref (ad (6 + 4 * k))), (0, .ref (ad 0)), (3, .ref (ad (6 + 4 * i)))]) hx hb dX1_digestedPairs_57 hl (k := 4) rfl (nI_add k 1) (by decide) rfl (fun ls hl => ?_)
          refine lv_goto (tgt := 6) hx hb dX1_digestedPairs_60 (by decide) ?_
          exact ih6 (k + 1) c49 (dg (dg (dv) (nI (com (st i 0) (st k 0) (sc k 5) (sc i 5)))) (v49)) (by omega) ((ht1.trans ht49)) (by rw [show min (k + 1) n = k + 1 from by omega]; rw [show min k n = k from by omega] at hdv; exact ⟨_, _, hdv, htj, rfl⟩) (by omega) _ _ _ hP hS (lv_sub hl [3, 4, 1, 0] rfl)
        · rw [tbl_null hkn]
          refine lv_astoreN (lv' := [(7, .null), (0, .ref (ad 0)), (3, .ref (ad (6 + 4 * i))), (4, .long dv), (6, .int (nI k))]) hx hb dX1_digestedPairs_23 hl (by decide) rfl (fun ls hl => ?_)
          refine lv_aloadN hx hb dX1_digestedPairs_25 (lv_at hl 0 rfl) ?_
          refine lv_ifnullN (tgt := 57) hx hb dX1_digestedPairs_27 (by decide) ?_
          refine lv_iinc (v := nI (k + 1)) (lv' := [(6, .int (nI (k + 1))), (7, .null), (0, .ref (ad 0)), (3, .ref (ad (6 + 4 * i))), (4, .long dv)]) hx hb dX1_digestedPairs_57 hl (k := 4) rfl (nI_add k 1) (by decide) rfl (fun ls hl => ?_)
          refine lv_goto (tgt := 6) hx hb dX1_digestedPairs_60 (by decide) ?_
          exact ih6 (k + 1) c1 dv (by omega) (ht1) (by rw [show min (k + 1) n = min k n from by omega]; exact hdv) (by omega) _ _ _ hP hS (lv_sub hl [2, 3, 4, 0] rfl)
  exact loop6 (_ + 1) 0 c d9 (Nat.zero_le _) (hT0) (by rw [show min 0 n = 0 from by omega]; rfl) (Nat.lt_succ_self _) _ _ _ hP hS (lv_sub hl [2, 4, 1, 0] rfl)
set_option maxHeartbeats 1000000 in
set_option maxRecDepth 10000 in
theorem m_X1_digest (l : Launch) (D : va_G) (cA : Nat → ClassId) (N : Nat) (ad : Nat → Nat) (c : Nat → va_E) (n : Nat) (sc : Nat → Nat → Nat) (st : Nat → Nat → Nat → Int32)  (hN : 6 + 4 * n ≤ N) (hF : FH ad cA c n) (ht : TrAt ad cA c) (hHs : HsAt ad cA c n sc st) (hOk : HsOk n sc) (hinj : Inj N ad) : Cl l yX1_digest wX1_digest { frames := 6, cells := 0, slots := 0, locals := 144 } [.ref (ad 0)] D cA N ad c 0 0 (fun v c' => DigP n sc st v ∧ Tr ad cA c c') := by
  intro sz9
  refine bd_of (cc := cX1_digest) (maxL := 5) (ret := some Jvm.ClassFile.FieldType.long) (by decide) rfl (Nat.le_of_ble_eq_true rfl) ?_
  intro p e s m below meth c0 C0 hr hlk hnm hP hS hsz ls hl
  subst hsz
  have hx := C0.1
  have hb := C0.2.1
  have hl : lv_has ls 5 [(0, .ref (ad 0))] := hl
  have hn5 := hF.2.2
  have hT0 := ht.rf
  refine lv_ldc2 (v := 2371) hx hb C0.2.2.2.1 (wd_cl_X1_158 C0.2.2.2.2.1 _) dX1_digest_0 ?_
  refine lv_aload_n hx hb dX1_digest_3 rfl (lv_at hl 0 rfl) ?_
  refine k0_i (rn_X1_33 (As := []) (rest := [.long 2371]) (r := 0) C0 (m_X1_hands l D cA N ad (c) n (by omega) hF _) hP hS (by omega) hF.1 rfl ⟨rfl, rfl⟩ ⟨by decide, by decide⟩ hl.1 rfl (Nat.le_of_ble_eq_true rfl) dX1_digest_4 ⟨Nat.le_of_ble_eq_true rfl, Nat.le_of_ble_eq_true rfl⟩) C0 hP hS (fun v4 c4 H locs hp hP hS => ?_)
  obtain ⟨rfl, rfl⟩ := hp
  refine k0_l (rn_X1_160 (As := [.long 2371, .int (nI n)]) (rest := []) C0 (m_X1_digested l D cA N ad (c) (2371) (nI n) _) hP hS rfl ⟨rfl, rfl⟩ ⟨by decide, by decide⟩ hl.1 rfl (Nat.le_of_ble_eq_true rfl) dX1_digest_7 ⟨Nat.le_of_ble_eq_true rfl, Nat.le_of_ble_eq_true rfl⟩) C0 hP hS (fun v7 c7 H locs hp hP hS => ?_)
  obtain ⟨rfl, rfl⟩ := hp
  refine lv_lstore_n (lv' := [(1, .long (dg (2371) (nI n))), (0, .ref (ad 0))]) hx hb dX1_digest_10 rfl hl (by decide) rfl (fun ls hl => ?_)
  refine lv_iconst (v := nI 0) hx hb dX1_digest_11 rfl ?_
  refine lv_istore_n (lv' := [(3, .int (nI 0)), (1, .long (dg (2371) (nI n))), (0, .ref (ad 0))]) hx hb dX1_digest_12 rfl hl (by decide) rfl (fun ls hl => ?_)
  have loop13 : ∀ (n9 : Nat) (k : Nat) (c1 : Nat → va_E) (dv : Int64), (k ≤ 5) → (Tr ad cA c c1) → (HandsP n sc st (min k n) (dg 2371 (nI n)) dv) → 5 - k < n9 → ∀ (H : Heap) (locs : List Loc) (ls : Array Slot), va_P D vwCl (wl N ad (c1)) H → va_S (wA N ad s.heap.size) s.heap H locs → lv_has ls 5 [(0, .ref (ad 0)), (1, .long dv), (3, .int (nI k))] → W p l e { frames := 6, cells := 0, slots := 0, locals := 144 } s m [.ref (ad 0)].toArray below meth c0 H locs 0 0 (MQ below (va_Ql (fun v c' => DigP n sc st v ∧ Tr ad cA c c') (fun c' t => va_P D vwCl (wl N ad c') t.heap) (wA N ad s.heap.size)) [.ref (ad 0)].toArray s 0 0 (wA N ad s.heap.size)) (F0 m 13 ls []) := by
    intro n9
    induction n9 with
    | zero => intro k c1 dv hk ht1 hdv hlt9; exact absurd hlt9 (Nat.not_lt_zero _)
    | succ n9 ih13 =>
      intro k c1 dv hk ht1 hdv hlt9 H locs ls hP hS hl
      refine lv_iload_n hx hb dX1_digest_13 rfl (lv_at hl 2 rfl) ?_
      refine lv_aload_n hx hb dX1_digest_14 rfl (lv_at hl 0 rfl) ?_
      refine gf_X1_11 C0 hP (by omega) (hF.tr ht1).1 rfl dX1_digest_15 ?_
      refine a_lenq C0 hP (by omega) (hF.tr ht1).2.1 dX1_digest_18 ?_
      refine n_icmp_ge (tgt := 71) hx hb (by omega) (by omega) dX1_digest_19 (by decide) (fun h19 => ?_) (fun h19 => ?_)
      · rw [show min k n = n from by omega] at hdv
        refine lv_lload_n hx hb dX1_digest_71 rfl (lv_at hl 1 rfl) ?_
        exact e_l C0 hr hlk hP hS dX1_digest_72 (by decide) (by decide) ⟨hdv, ht1⟩
      · refine lv_aload_n hx hb dX1_digest_22 rfl (lv_at hl 0 rfl) ?_
        refine gf_X1_11 C0 hP (by omega) (hF.tr ht1).1 rfl dX1_digest_23 ?_
        refine lv_iload_n hx hb dX1_digest_26 rfl (lv_at hl 2 rfl) ?_
        refine a_qld C0 hP (by omega) (hF.tr ht1).2.1 (by omega) (by omega) dX1_digest_27 ?_
        rcases Nat.lt_or_ge k n with hkn | hkn
        · rw [tbl_ref hkn]
          refine lv_astore (lv' := [(4, .ref (ad (6 + 4 * k))), (0, .ref (ad 0)), (1, .long dv), (3, .int (nI k))]) hx hb dX1_digest_28 hl (by decide) rfl (fun ls hl => ?_)
          refine lv_aload hx hb dX1_digest_30 (lv_at hl 0 rfl) ?_
          refine lv_ifnull hx hb dX1_digest_32 ?_
          refine lv_lload_n hx hb dX1_digest_35 rfl (lv_at hl 2 rfl) ?_
          refine lv_aload hx hb dX1_digest_36 (lv_at hl 0 rfl) ?_
          refine k0_l (rn_X1_164 (As := [.long dv, .ref (ad (6 + 4 * k))]) (rest := []) C0 (m_X1_digestedCounts l D cA N ad (c1) (6 + 4 * k) ((sc k 0)) ((sc k 1)) ((sc k 2)) ((sc k 3)) ((sc k 4)) ((sc k 5)) ((st k)) (dv) (by omega) (by omega) ((hHs k hkn).tr (by omega) ht1) (hOk k (by omega)) _) hP hS rfl ⟨rfl, rfl⟩ ⟨by decide, by decide⟩ hl.1 rfl (Nat.le_of_ble_eq_true rfl) dX1_digest_38 ⟨Nat.le_of_ble_eq_true rfl, Nat.le_of_ble_eq_true rfl⟩) C0 hP hS (fun v38 c38 H locs hp hP hS => ?_)
          obtain ⟨hcn, rfl⟩ := hp
          refine lv_lstore_n (lv' := [(1, .long v38), (4, .ref (ad (6 + 4 * k))), (0, .ref (ad 0)), (3, .int (nI k))]) hx hb dX1_digest_41 rfl hl (by decide) rfl (fun ls hl => ?_)
          refine lv_aload_n hx hb dX1_digest_42 rfl (lv_at hl 2 rfl) ?_
          refine lv_lload_n hx hb dX1_digest_43 rfl (lv_at hl 0 rfl) ?_
          refine lv_aload hx hb dX1_digest_44 (lv_at hl 1 rfl) ?_
          refine k0_l (rn_X1_168 (As := [.long v38, .ref (ad (6 + 4 * k))]) (rest := []) (r := 0) C0 (m_X1_digestedForecasts l D cA N ad (c1) n (6 + 4 * k) ((sc k 0)) ((sc k 1)) ((sc k 2)) ((sc k 3)) ((sc k 4)) ((sc k 5)) ((st k)) (v38) (by omega) (hF.tr ht1) ht1.at (by omega) (by omega) ((hHs k hkn).tr (by omega) ht1) (hOk k (by omega)) _) hP hS (by omega) (hF.tr ht1).1 rfl ⟨rfl, rfl⟩ ⟨by decide, by decide⟩ hl.1 rfl (Nat.le_of_ble_eq_true rfl) dX1_digest_46 ⟨Nat.le_of_ble_eq_true rfl, Nat.le_of_ble_eq_true rfl⟩) C0 hP hS (fun v46 c46 H locs hp hP hS => ?_)
          obtain ⟨hfo, ht46⟩ := hp
          refine lv_lstore_n (lv' := [(1, .long v46), (4, .ref (ad (6 + 4 * k))), (0, .ref (ad 0)), (3, .int (nI k))]) hx hb dX1_digest_49 rfl hl (by decide) rfl (fun ls hl => ?_)
          refine lv_lload_n hx hb dX1_digest_50 rfl (lv_at hl 0 rfl) ?_
          refine lv_aload hx hb dX1_digest_51 (lv_at hl 1 rfl) ?_
          refine k0_l (rn_X1_171 (As := [.long v46, .ref (ad (6 + 4 * k))]) (rest := []) C0 (m_X1_digestedStones l D cA N ad (c46) (6 + 4 * k) ((sc k 0)) ((sc k 1)) ((sc k 2)) ((sc k 3)) ((sc k 4)) ((sc k 5)) ((st k)) (v46) (by omega) (by omega) ((hHs k hkn).tr (by omega) (ht1.trans ht46)) (hOk k (by omega)) _) hP hS rfl ⟨rfl, rfl⟩ ⟨by decide, by decide⟩ hl.1 rfl (Nat.le_of_ble_eq_true rfl) dX1_digest_53 ⟨Nat.le_of_ble_eq_true rfl, Nat.le_of_ble_eq_true rfl⟩) C0 hP hS (fun v53 c53 H locs hp hP hS => ?_)
          obtain ⟨rfl, rfl⟩ := hp
          refine lv_lstore_n (lv' := [(1, .long (dgS (st k) (sc k 5) (sc k 5) (v46))), (4, .ref (ad (6 + 4 * k))), (0, .ref (ad 0)), (3, .int (nI k))]) hx hb dX1_digest_56 rfl hl (by decide) rfl (fun ls hl => ?_)
          refine lv_aload_n hx hb dX1_digest_57 rfl (lv_at hl 2 rfl) ?_
          refine lv_lload_n hx hb dX1_digest_58 rfl (lv_at hl 0 rfl) ?_
          refine lv_aload hx hb dX1_digest_59 (lv_at hl 1 rfl) ?_
          refine k0_l (rn_X1_174 (As := [.long (dgS (st k) (sc k 5) (sc k 5) (v46)), .ref (ad (6 + 4 * k))]) (rest := []) (r := 0) C0 (m_X1_digestedPairs l D cA N ad (c46) n sc st k (dgS (st k) (sc k 5) (sc k 5) (v46)) hN (hF.tr (ht1.trans ht46)) (ht1.trans ht46).at (hHs.tr (ht1.trans ht46)) hOk hinj hkn _) hP hS (by omega) (hF.tr (ht1.trans ht46)).1 rfl ⟨rfl, rfl⟩ ⟨by decide, by decide⟩ hl.1 rfl (Nat.le_of_ble_eq_true rfl) dX1_digest_61 ⟨Nat.le_of_ble_eq_true rfl, Nat.le_of_ble_eq_true rfl⟩) C0 hP hS (fun v61 c61 H locs hp hP hS => ?_)
          obtain ⟨hpa, ht61⟩ := hp
          refine lv_lstore_n (lv' := [(1, .long v61), (4, .ref (ad (6 + 4 * k))), (0, .ref (ad 0)), (3, .int (nI k))]) hx hb dX1_digest_64 rfl hl (by decide) rfl (fun ls hl => ?_)
          refine lv_iinc (v := nI (k + 1)) (lv' := [(3, .int (nI (k + 1))), (1, .long v61), (4, .ref (ad (6 + 4 * k))), (0, .ref (ad 0))]) hx hb dX1_digest_65 hl (k := 3) rfl (nI_add k 1) (by decide) rfl (fun ls hl => ?_)
          refine lv_goto (tgt := 13) hx hb dX1_digest_68 (by decide) ?_
          exact ih13 (k + 1) c61 v61 (by omega) (((ht1.trans ht46).trans ht61)) (by rw [show min (k + 1) n = k + 1 from by omega]; rw [show min k n = k from by omega] at hdv; exact ⟨_, hdv, _, _, hcn, hfo, hpa⟩) (by omega) _ _ _ hP hS (lv_sub hl [3, 1, 0] rfl)
        · rw [tbl_null hkn]
          refine lv_astoreN (lv' := [(4, .null), (0, .ref (ad 0)), (1, .long dv), (3, .int (nI k))]) hx hb dX1_digest_28 hl (by decide) rfl (fun ls hl => ?_)
          refine lv_aloadN hx hb dX1_digest_30 (lv_at hl 0 rfl) ?_
          refine lv_ifnullN (tgt := 65) hx hb dX1_digest_32 (by decide) ?_
          refine lv_iinc (v := nI (k + 1)) (lv' := [(3, .int (nI (k + 1))), (4, .null), (0, .ref (ad 0)), (1, .long dv)]) hx hb dX1_digest_65 hl (k := 3) rfl (nI_add k 1) (by decide) rfl (fun ls hl => ?_)
          refine lv_goto (tgt := 13) hx hb dX1_digest_68 (by decide) ?_
          exact ih13 (k + 1) c1 dv (by omega) (ht1) (by rw [show min (k + 1) n = min k n from by omega]; exact hdv) (by omega) _ _ _ hP hS (lv_sub hl [2, 3, 0] rfl)
  exact loop13 (_ + 1) 0 c (dg 2371 (nI n)) (Nat.zero_le _) (hT0) (by rw [show min 0 n = 0 from by omega]; rfl) (Nat.lt_succ_self _) _ _ _ hP hS (lv_sub hl [2, 1, 0] rfl)
