theorem wl_cut {D : va_G} {N : Nat} {ad ad1 : Nat → Nat} {c c1 : Nat → va_E} {H : Heap} (hP : va_P D vwCl (wl (N + 1) ad1 c1) H) (h : ∀ r, r < N → ad1 r = ad r ∧ c1 r = c r) : va_P D vwCl (wl N ad c) H := by
  have e : wl N ad c = (List.range N).map (fun r => (ad1 r, c1 r)) := List.map_congr_left (fun r hr => by rw [(h r (List.mem_range.mp hr)).1, (h r (List.mem_range.mp hr)).2])
  have e2 : wl (N + 1) ad1 c1 = wl N ad c ++ [(ad1 N, c1 N)] := by
    rw [e]
    show (List.range (N + 1)).map _ = _
    rw [List.range_succ, List.map_append]
    rfl
  rw [e2] at hP
  intro k q hk
  exact hP k q (by rw [List.getElem?_append_left (List.getElem?_eq_some_iff.mp hk).1]; exact hk)
theorem mw_out {ad : Nat → Nat} {cA : Nat → ClassId} {c : Nat → va_E} {th : Int32} {n : Nat} {nw ah rw : Nat → Int32} {r : Nat} {x : va_E} (h : r < 6 ∨ 10 ≤ r) : va_up (mw ad cA c th n nw ah rw) r x = mw ad cA (va_up c r x) th n nw ah rw := by
  funext z
  by_cases e : z = r
  · subst e
    rw [mw_ne h, up_at, up_at]
  · rw [va_up_ne _ _ e]
    by_cases h2 : z < 6 ∨ 10 ≤ z
    · rw [mw_ne h2, mw_ne h2, va_up_ne _ _ e]
    · rcases (show z = 6 ∨ z = 7 ∨ z = 8 ∨ z = 9 by omega) with e | e | e | e <;> subst e <;> simp [mw]
theorem mw_grow {ad : Nat → Nat} {cA : Nat → ClassId} {c : Nat → va_E} {th : Int32} {n N q : Nat} {nw ah rw : Nat → Int32} {x : va_E} (h : 10 ≤ N) : va_up (mw ad cA c th n nw ah rw) N x = mw (va_up ad N q) cA (va_up c N x) th n nw ah rw := by
  rw [mw_out (Or.inr h)]
  funext z
  have h7 : va_up ad N q 7 = ad 7 := va_up_ne _ _ (by omega)
  have h8 : va_up ad N q 8 = ad 8 := va_up_ne _ _ (by omega)
  have h9 : va_up ad N q 9 = ad 9 := va_up_ne _ _ (by omega)
  simp only [mw, mOb, h7, h8, h9]
theorem mw_cut {ad ad1 : Nat → Nat} {cA : Nat → ClassId} {c c1 : Nat → va_E} {th : Int32} {n N : Nat} {nw ah rw : Nat → Int32} (hN : 10 ≤ N) (h : ∀ r, r < N → ad1 r = ad r) (hc : ∀ r, r < N → c1 r = c r) : ∀ r, r < N → ad1 r = ad r ∧ mw ad1 cA c1 th n nw ah rw r = mw ad cA c th n nw ah rw r := by
  intro r hr
  refine ⟨h r hr, ?_⟩
  simp only [mw, mOb, h 7 (by omega), h 8 (by omega), h 9 (by omega), hc r hr]
/-! the checksum's rows, as the reference tells them -/
def ForeM (R Y L S D K : Nat) (d v : Int64) : Prop := ∃ un we, UntP R Y L S D K un ∧ WanP R Y L S D K we ∧ v = dg (dg (dg (dg (dg d (nI (nlI 7 L))) (oI (pk R Y L (S + 1) (D + 1) K 1).1)) (nI (stayC R Y (L, S, D, K) 20 K))) un) we
def HandM (n : Nat) (sc : Nat → Nat → Nat) (st : Nat → Nat → Nat → Int32) (i : Nat) (d v : Int64) : Prop := ∃ d1 d2, CntsP (st i 0) (sc i 0) (sc i 3) (sc i 4) (sc i 2) (sc i 5) d d1 ∧ ForeM (sc i 0) (sc i 1) (sc i 2) (sc i 3) (sc i 4) (sc i 5) d1 d2 ∧ PairsP sc st i n (dgS (st i) (sc i 5) (sc i 5) d2) v
def HandsM (n : Nat) (sc : Nat → Nat → Nat) (st : Nat → Nat → Nat → Int32) : Nat → Int64 → Int64 → Prop
  | 0, d, v => v = d
  | k + 1, d, v => ∃ d1, HandsM n sc st k d d1 ∧ HandM n sc st k d1 v
def DigM (n : Nat) (sc : Nat → Nat → Nat) (st : Nat → Nat → Nat → Int32) (v : Int64) : Prop := HandsM n sc st n (dg 2371 (nI n)) v
def dgF (f : Nat → Int32) : Nat → Int64 → Int64
  | 0, d => d
  | k + 1, d => dg (dgF f k d) (f k)
def dgQ (st : Nat → Nat → Int32) (k : Nat) : Nat → Int64 → Int64
  | 0, d => d
  | z + 1, d => dg (dgQ st k z d) (st z k)
/-- all rows of numbers -/
def RowsAt (nw : Nat → Int32) (n : Nat) (sc : Nat → Nat → Nat) : Prop := ∀ j, j < n → RowE nw (30 * j) (sc j 0) (sc j 1) (sc j 2) (sc j 3) (sc j 4) (sc j 5)
theorem m_X2_joinedAhead (l : Launch) (D : va_G) (cA : Nat → ClassId) (N : Nat) (ad : Nat → Nat) (c : Nat → va_E) (th : Int32) (n : Nat) (nw ah rw : Nat → Int32) (sc : Nat → Nat → Nat) (i j : Nat) (hN10 : 10 ≤ N) (hM : MoAt ad cA c th n nw ah rw) (hn5 : n ≤ 5) (hrows : RowsAt nw n sc) (hOk : HsOk n sc) (hi : i < n) (hj : j < n) : Ci l yX2_joinedAhead wX2_joinedAhead { frames := 2, cells := 0, slots := 0, locals := 88 } [.ref (ad 6), .int (nI i), .int (nI j)] D cA N ad c 0 0 (fun v c' => TJ sc (fun j => sto nw (30 * j)) i j v ∧ ∃ ah' rw', mw ad cA c th n nw ah' rw' = c') := by
  by_cases hij : i = j
  · subst hij
    exact (m_X2_joinedAhead__s l D cA N ad c th n nw ah rw i (sc i 0) (sc i 1) (sc i 2) (sc i 3) (sc i 4) (sc i 5) hN10 hM hn5 hi (hrows i hi) (hOk i hi)).mono (fun v c' h => ⟨Or.inl ⟨Or.inl rfl, h.1⟩, h.2⟩)
  · by_cases hc : CanJ sc i j
    · exact (m_X2_joinedAhead__j l D cA N ad c th n nw ah rw i (sc i 0) (sc i 1) (sc i 2) (sc i 3) (sc i 4) (sc i 5) j (sc j 0) (sc j 1) (sc j 2) (sc j 3) (sc j 4) (sc j 5) hN10 hM hn5 hi (hrows i hi) (hOk i hi) hj (hrows j hj) (hOk j hj) hij hc).mono (fun v c' h => ⟨Or.inr ⟨hij, hc, h.1⟩, h.2⟩)
    · exact (m_X2_joinedAhead__n l D cA N ad c th n nw ah rw i (sc i 0) (sc i 1) (sc i 2) (sc i 3) (sc i 4) (sc i 5) j (sc j 0) (sc j 1) (sc j 2) (sc j 3) (sc j 4) (sc j 5) hN10 hM hn5 hi (hrows i hi) (hOk i hi) hj (hrows j hj) (hOk j hj) hij hc).mono (fun v c' h => ⟨Or.inl ⟨Or.inr hc, h.1⟩, h.2⟩)
theorem m_X2_wouldJoin (l : Launch) (D : va_G) (cA : Nat → ClassId) (N : Nat) (ad : Nat → Nat) (c : Nat → va_E) (th : Int32) (n : Nat) (nw ah rw : Nat → Int32) (sc : Nat → Nat → Nat) (i j : Nat) (hN10 : 10 ≤ N) (hM : MoAt ad cA c th n nw ah rw) (hn5 : n ≤ 5) (hrows : RowsAt nw n sc) (hOk : HsOk n sc) (hi : i < n) (hj : j < n) : Ci l yX2_wouldJoin wX2_wouldJoin { frames := 3, cells := 0, slots := 0, locals := 110 } [.ref (ad 6), .int (nI i), .int (nI j)] D cA N ad c 0 0 (fun v c' => TJ sc (fun j => sto nw (30 * j)) i j v ∧ ∃ ah' rw', mw ad cA c (nI 0) n nw ah' rw' = c') := by
  by_cases hij : i = j
  · subst hij
    exact (m_X2_wouldJoin__s l D cA N ad c th n nw ah rw i (sc i 0) (sc i 1) (sc i 2) (sc i 3) (sc i 4) (sc i 5) hN10 hM hn5 hi (hrows i hi) (hOk i hi)).mono (fun v c' h => ⟨Or.inl ⟨Or.inl rfl, h.1⟩, h.2⟩)
  · by_cases hc : CanJ sc i j
    · exact (m_X2_wouldJoin__j l D cA N ad c th n nw ah rw i (sc i 0) (sc i 1) (sc i 2) (sc i 3) (sc i 4) (sc i 5) j (sc j 0) (sc j 1) (sc j 2) (sc j 3) (sc j 4) (sc j 5) hN10 hM hn5 hi (hrows i hi) (hOk i hi) hj (hrows j hj) (hOk j hj) hij hc).mono (fun v c' h => ⟨Or.inr ⟨hij, hc, h.1⟩, h.2⟩)
    · exact (m_X2_wouldJoin__n l D cA N ad c th n nw ah rw i (sc i 0) (sc i 1) (sc i 2) (sc i 3) (sc i 4) (sc i 5) j (sc j 0) (sc j 1) (sc j 2) (sc j 3) (sc j 4) (sc j 5) hN10 hM hn5 hi (hrows i hi) (hOk i hi) hj (hrows j hj) (hOk j hj) hij hc).mono (fun v c' h => ⟨Or.inl ⟨Or.inr hc, h.1⟩, h.2⟩)
set_option maxHeartbeats 1000000 in
set_option maxRecDepth 10000 in
theorem m_X2_digestOf (l : Launch) (D : va_G) (cA : Nat → ClassId) (N : Nat) (ad : Nat → Nat) (c : Nat → va_E) (th : Int32) (n : Nat) (nw ah rw : Nat → Int32) (i R Y L S D9 K : Nat) (sc : Nat → Nat → Nat) (d9 : Int64) (hN10 : 10 ≤ N) (hM : MoAt ad cA c th n nw ah rw) (hn5 : n ≤ 5) (hi : i < n) (hrow : RowE nw (30 * i) R Y L S D9 K) (hok : Hok R Y L S D9 K) (hrows : RowsAt nw n sc) (hOk : HsOk n sc) (hs0 : sc i 0 = R) (hs1 : sc i 1 = Y) (hs2 : sc i 2 = L) (hs3 : sc i 3 = S) (hs4 : sc i 4 = D9) (hs5 : sc i 5 = K) : Cl l yX2_digestOf wX2_digestOf { frames := 4, cells := 1, slots := 13, locals := 110 } [.ref (ad 6), .int (nI i), .long d9] D cA N ad c 1 13 (fun v c' => (∃ d1 d2, CntsP (sto nw (30 * i) 0) R S D9 L K d9 d1 ∧ ForeM R Y L S D9 K d1 d2 ∧ PairsP sc (fun j => sto nw (30 * j)) i n (dgS (sto nw (30 * i)) K K d2) v) ∧ ∃ ah' rw', mw ad cA c th n nw ah' rw' = c') := by
  intro sz9
  refine bd_of (cc := cX2_digestOf) (maxL := 12) (ret := some Jvm.ClassFile.FieldType.long) (by decide) rfl (Nat.le_of_ble_eq_true rfl) ?_
  intro p e s m below meth c0 C0 hr hlk hnm hP hS hsz ls hl
  subst hsz
  have hx := C0.1
  have hb := C0.2.1
  have hl : lv_has ls 12 [(0, .ref (ad 6)), (1, .int (nI i)), (2, .long d9)] := hl
  obtain ⟨r0, r1, r2, r3, r4, r5⟩ := id hrow
  obtain ⟨q1, q2, q3, q4, q5, q6, q7, q8, q9⟩ := id hok
  rw [← mw_self hM] at hP
  refine lv_bipush (v := nI 30) hx hb dX2_digestOf_0 rfl ?_
  refine lv_iload_n hx hb dX2_digestOf_2 rfl (lv_at hl 1 rfl) ?_
  refine n_imul hx hb dX2_digestOf_3 ?_
  refine lv_istore (lv' := [(4, .int (nI (30 * i))), (0, .ref (ad 6)), (1, .int (nI i)), (2, .long d9)]) hx hb dX2_digestOf_4 hl (by decide) rfl (fun ls hl => ?_)
  refine lv_bipush (v := nI 13) hx hb dX2_digestOf_6 rfl ?_
  have C9 := C0
  refine g_newi C0 hP hS (by decide) (Nat.le_of_ble_eq_true rfl) (Nat.le_of_ble_eq_true rfl) dX2_digestOf_8 (fun q9 H C0 hP hS => ?_)
  rw [mw_grow (q := q9) hN10] at hP
  have e6 : va_up ad N q9 6 = ad 6 := va_up_ne _ _ (by omega)
  have eT : va_up ad N q9 N = q9 := up_at'
  have hadr : ∀ r, r < N → va_up ad N q9 r = ad r := fun r h => va_up_ne _ _ (by omega)
  have hcr : ∀ r, r < N → va_up c N (.inl (cA 0, 13, .inl (fun _ => nI 0))) r = c r := fun r h => va_up_ne _ _ (by omega)
  have hT0 : va_up c N (.inl (cA 0, 13, .inl (fun _ => nI 0))) N = .inl (cA 0, 13, .inl (fun _ => nI 0)) := up_at
  generalize va_up ad N q9 = ad1 at hP C0 e6 eT hadr
  generalize va_up c N (.inl (cA 0, 13, .inl (fun _ => nI 0))) = c1 at hP hcr hT0
  subst eT
  rw [← e6] at hl
  have hN11 : 10 ≤ N + 1 := by omega
  refine lv_dup hx hb dX2_digestOf_10 rfl ?_
  refine lv_iconst (v := nI 0) hx hb dX2_digestOf_11 rfl ?_
  refine lv_aload_n hx hb dX2_digestOf_12 rfl (lv_at hl 1 rfl) ?_
  refine gf_X2_9 C0 hP (by omega) mw_at.1 rfl dX2_digestOf_13 ?_
  refine lv_iload hx hb dX2_digestOf_16 (lv_at hl 0 rfl) ?_
  refine lv_iconst (v := nI 5) hx hb dX2_digestOf_18 rfl ?_
  refine n_iadd hx hb dX2_digestOf_19 ?_
  refine a_ildE C0 hP (by omega) mw_at.2.1 (by omega) (by omega) r5 dX2_digestOf_20 ?_
  refine a_ist C0 hP hS (by omega) ((mw_ne (Or.inr hN10)).trans hT0) (by omega) (by omega) dX2_digestOf_21 (fun H locs hP hS => ?_)
  obtain ⟨F1, hF1⟩ : ∃ z7, z7 = upd ((fun _ => nI 0)) 0 (nI K) := ⟨_, rfl⟩
  rw [← hF1] at hP
  have kF1_n : F1 (0) = nI K := by rw [hF1]; exact pk_us
  rw [mw_out (Or.inr hN10)] at hP
  obtain ⟨c2, hc2⟩ : ∃ z7, z7 = va_up c1 N (.inl (cA 0, 13, .inl F1)) := ⟨_, rfl⟩
  rw [← hc2] at hP
  have hT1 : c2 N = .inl (cA 0, 13, .inl F1) := by rw [hc2]; exact up_at
  have hcr : ∀ r, r < N → c2 r = c r := fun r h => by rw [hc2, va_up_ne _ _ (by omega)]; exact hcr r h
  refine lv_dup hx hb dX2_digestOf_22 rfl ?_
  refine lv_iconst (v := nI 1) hx hb dX2_digestOf_23 rfl ?_
  refine lv_aload_n hx hb dX2_digestOf_24 rfl (lv_at hl 1 rfl) ?_
  refine gf_X2_9 C0 hP (by omega) mw_at.1 rfl dX2_digestOf_25 ?_
  refine lv_iload hx hb dX2_digestOf_28 (lv_at hl 0 rfl) ?_
  refine lv_iconst (v := nI 0) hx hb dX2_digestOf_30 rfl ?_
  refine n_iadd hx hb dX2_digestOf_31 ?_
  refine a_ildE C0 hP (by omega) mw_at.2.1 (by omega) (by omega) r0 dX2_digestOf_32 ?_
  refine a_ist C0 hP hS (by omega) ((mw_ne (Or.inr hN10)).trans hT1) (by omega) (by omega) dX2_digestOf_33 (fun H locs hP hS => ?_)
  obtain ⟨F2, hF2⟩ : ∃ z7, z7 = upd F1 1 (nI R) := ⟨_, rfl⟩
  rw [← hF2] at hP
  have kF2_n : F2 (1) = nI R := by rw [hF2]; exact pk_us
  rw [mw_out (Or.inr hN10)] at hP
  obtain ⟨c3, hc3⟩ : ∃ z7, z7 = va_up c2 N (.inl (cA 0, 13, .inl F2)) := ⟨_, rfl⟩
  rw [← hc3] at hP
  have hT2 : c3 N = .inl (cA 0, 13, .inl F2) := by rw [hc3]; exact up_at
  have hcr : ∀ r, r < N → c3 r = c r := fun r h => by rw [hc3, va_up_ne _ _ (by omega)]; exact hcr r h
  refine lv_dup hx hb dX2_digestOf_34 rfl ?_
  refine lv_iconst (v := nI 2) hx hb dX2_digestOf_35 rfl ?_
  refine lv_aload_n hx hb dX2_digestOf_36 rfl (lv_at hl 1 rfl) ?_
  refine gf_X2_9 C0 hP (by omega) mw_at.1 rfl dX2_digestOf_37 ?_
  refine lv_iload hx hb dX2_digestOf_40 (lv_at hl 0 rfl) ?_
  refine lv_iconst (v := nI 3) hx hb dX2_digestOf_42 rfl ?_
  refine n_iadd hx hb dX2_digestOf_43 ?_
  refine a_ildE C0 hP (by omega) mw_at.2.1 (by omega) (by omega) r3 dX2_digestOf_44 ?_
  refine a_ist C0 hP hS (by omega) ((mw_ne (Or.inr hN10)).trans hT2) (by omega) (by omega) dX2_digestOf_45 (fun H locs hP hS => ?_)
  obtain ⟨F3, hF3⟩ : ∃ z7, z7 = upd F2 2 (nI S) := ⟨_, rfl⟩
  rw [← hF3] at hP
  have kF3_n : F3 (2) = nI S := by rw [hF3]; exact pk_us
  rw [mw_out (Or.inr hN10)] at hP
  obtain ⟨c4, hc4⟩ : ∃ z7, z7 = va_up c3 N (.inl (cA 0, 13, .inl F3)) := ⟨_, rfl⟩
  rw [← hc4] at hP
  have hT3 : c4 N = .inl (cA 0, 13, .inl F3) := by rw [hc4]; exact up_at
  have hcr : ∀ r, r < N → c4 r = c r := fun r h => by rw [hc4, va_up_ne _ _ (by omega)]; exact hcr r h
  refine lv_dup hx hb dX2_digestOf_46 rfl ?_
  refine lv_iconst (v := nI 3) hx hb dX2_digestOf_47 rfl ?_
  refine lv_aload_n hx hb dX2_digestOf_48 rfl (lv_at hl 1 rfl) ?_
  refine gf_X2_9 C0 hP (by omega) mw_at.1 rfl dX2_digestOf_49 ?_
  refine lv_iload hx hb dX2_digestOf_52 (lv_at hl 0 rfl) ?_
  refine lv_iconst (v := nI 4) hx hb dX2_digestOf_54 rfl ?_
  refine n_iadd hx hb dX2_digestOf_55 ?_
  refine a_ildE C0 hP (by omega) mw_at.2.1 (by omega) (by omega) r4 dX2_digestOf_56 ?_
  refine a_ist C0 hP hS (by omega) ((mw_ne (Or.inr hN10)).trans hT3) (by omega) (by omega) dX2_digestOf_57 (fun H locs hP hS => ?_)
  obtain ⟨F4, hF4⟩ : ∃ z7, z7 = upd F3 3 (nI D9) := ⟨_, rfl⟩
  rw [← hF4] at hP
  have kF4_n : F4 (3) = nI D9 := by rw [hF4]; exact pk_us
  rw [mw_out (Or.inr hN10)] at hP
  obtain ⟨c5, hc5⟩ : ∃ z7, z7 = va_up c4 N (.inl (cA 0, 13, .inl F4)) := ⟨_, rfl⟩
  rw [← hc5] at hP
  have hT4 : c5 N = .inl (cA 0, 13, .inl F4) := by rw [hc5]; exact up_at
  have hcr : ∀ r, r < N → c5 r = c r := fun r h => by rw [hc5, va_up_ne _ _ (by omega)]; exact hcr r h
  refine lv_dup hx hb dX2_digestOf_58 rfl ?_
  refine lv_iconst (v := nI 4) hx hb dX2_digestOf_59 rfl ?_
  refine lv_aload_n hx hb dX2_digestOf_60 rfl (lv_at hl 1 rfl) ?_
  refine gf_X2_9 C0 hP (by omega) mw_at.1 rfl dX2_digestOf_61 ?_
  refine lv_iload hx hb dX2_digestOf_64 (lv_at hl 0 rfl) ?_
  refine lv_iconst (v := nI 2) hx hb dX2_digestOf_66 rfl ?_
  refine n_iadd hx hb dX2_digestOf_67 ?_
  refine a_ildE C0 hP (by omega) mw_at.2.1 (by omega) (by omega) r2 dX2_digestOf_68 ?_
  refine a_ist C0 hP hS (by omega) ((mw_ne (Or.inr hN10)).trans hT4) (by omega) (by omega) dX2_digestOf_69 (fun H locs hP hS => ?_)
  obtain ⟨F5, hF5⟩ : ∃ z7, z7 = upd F4 4 (nI L) := ⟨_, rfl⟩
  rw [← hF5] at hP
  have kF5_n : F5 (4) = nI L := by rw [hF5]; exact pk_us
  rw [mw_out (Or.inr hN10)] at hP
  obtain ⟨c6, hc6⟩ : ∃ z7, z7 = va_up c5 N (.inl (cA 0, 13, .inl F5)) := ⟨_, rfl⟩
  rw [← hc6] at hP
  have hT5 : c6 N = .inl (cA 0, 13, .inl F5) := by rw [hc6]; exact up_at
  have hcr : ∀ r, r < N → c6 r = c r := fun r h => by rw [hc6, va_up_ne _ _ (by omega)]; exact hcr r h
  refine lv_dup hx hb dX2_digestOf_70 rfl ?_
  refine lv_iconst (v := nI 5) hx hb dX2_digestOf_71 rfl ?_
  refine lv_aload_n hx hb dX2_digestOf_72 rfl (lv_at hl 1 rfl) ?_
  refine lv_iload_n hx hb dX2_digestOf_73 rfl (lv_at hl 2 rfl) ?_
  refine k0_i (rn_X2_81 (As := [.int (nI i)]) (rest := [.int (nI 5), .ref (ad1 N), .ref (ad1 N)]) (r := 6) C0 (m_X2_total l D cA (N + 1) ad1 (mw ad1 cA c6 th n nw ah rw) th n nw ah rw i R Y L S D9 K hN11 mw_at hn5 hi hrow hok _) hP hS (by omega) mw_at.1 rfl ⟨rfl, rfl⟩ ⟨by decide, by decide⟩ hl.1 rfl (Nat.le_of_ble_eq_true rfl) dX2_digestOf_74 ⟨Nat.le_of_ble_eq_true rfl, Nat.le_of_ble_eq_true rfl⟩) C0 hP hS (fun v74 c74 H locs hp hP hS => ?_)
  obtain ⟨rfl, rfl⟩ := hp
  refine a_ist C0 hP hS (by omega) ((mw_ne (Or.inr hN10)).trans hT5) (by omega) (by omega) dX2_digestOf_77 (fun H locs hP hS => ?_)
  obtain ⟨F6, hF6⟩ : ∃ z7, z7 = upd F5 5 (tot (sto nw (30 * i) 0) K) := ⟨_, rfl⟩
  rw [← hF6] at hP
  rw [mw_out (Or.inr hN10)] at hP
  obtain ⟨c7, hc7⟩ : ∃ z7, z7 = va_up c6 N (.inl (cA 0, 13, .inl F6)) := ⟨_, rfl⟩
  rw [← hc7] at hP
  have hT6 : c7 N = .inl (cA 0, 13, .inl F6) := by rw [hc7]; exact up_at
  have hcr : ∀ r, r < N → c7 r = c r := fun r h => by rw [hc7, va_up_ne _ _ (by omega)]; exact hcr r h
  refine lv_dup hx hb dX2_digestOf_78 rfl ?_
  refine lv_bipush (v := nI 6) hx hb dX2_digestOf_79 rfl ?_
  refine lv_aload_n hx hb dX2_digestOf_81 rfl (lv_at hl 1 rfl) ?_
  refine lv_iload_n hx hb dX2_digestOf_82 rfl (lv_at hl 2 rfl) ?_
  refine lv_iconst (v := nI 0) hx hb dX2_digestOf_83 rfl ?_
  refine k0_i (rn_X2_87 (As := [.int (nI i), .int (nI 0)]) (rest := [.int (nI 6), .ref (ad1 N), .ref (ad1 N)]) (r := 6) C0 (m_X2_ranked l D cA (N + 1) ad1 (mw ad1 cA c7 th n nw ah rw) th n nw ah rw i R Y L S D9 K 0 hN11 mw_at (by omega) hi hrow hok (by omega) _) hP hS (by omega) mw_at.1 rfl ⟨rfl, rfl⟩ ⟨by decide, by decide⟩ hl.1 rfl (Nat.le_of_ble_eq_true rfl) dX2_digestOf_84 ⟨Nat.le_of_ble_eq_true rfl, Nat.le_of_ble_eq_true rfl⟩) C0 hP hS (fun v84 c84 H locs hp hP hS => ?_)
  obtain ⟨hrkp, rfl⟩ := hp
  refine a_ist C0 hP hS (by omega) ((mw_ne (Or.inr hN10)).trans hT6) (by omega) (by omega) dX2_digestOf_87 (fun H locs hP hS => ?_)
  obtain ⟨F7, hF7⟩ : ∃ z7, z7 = upd F6 6 v84 := ⟨_, rfl⟩
  rw [← hF7] at hP
  rw [mw_out (Or.inr hN10)] at hP
  obtain ⟨c8, hc8⟩ : ∃ z7, z7 = va_up c7 N (.inl (cA 0, 13, .inl F7)) := ⟨_, rfl⟩
  rw [← hc8] at hP
  have hT7 : c8 N = .inl (cA 0, 13, .inl F7) := by rw [hc8]; exact up_at
  have hcr : ∀ r, r < N → c8 r = c r := fun r h => by rw [hc8, va_up_ne _ _ (by omega)]; exact hcr r h
  refine lv_dup hx hb dX2_digestOf_88 rfl ?_
  refine lv_bipush (v := nI 7) hx hb dX2_digestOf_89 rfl ?_
  refine lv_aload_n hx hb dX2_digestOf_91 rfl (lv_at hl 1 rfl) ?_
  refine lv_iload_n hx hb dX2_digestOf_92 rfl (lv_at hl 2 rfl) ?_
  refine k0_i (rn_X2_90 (As := [.int (nI i)]) (rest := [.int (nI 7), .ref (ad1 N), .ref (ad1 N)]) (r := 6) C0 (m_X2_middleOf l D cA (N + 1) ad1 (mw ad1 cA c8 th n nw ah rw) th n nw ah rw i R Y L S D9 K hN11 mw_at hn5 hi hrow hok _) hP hS (by omega) mw_at.1 rfl ⟨rfl, rfl⟩ ⟨by decide, by decide⟩ hl.1 rfl (Nat.le_of_ble_eq_true rfl) dX2_digestOf_93 ⟨Nat.le_of_ble_eq_true rfl, Nat.le_of_ble_eq_true rfl⟩) C0 hP hS (fun v93 c93 H locs hp hP hS => ?_)
  obtain ⟨hmid, rfl⟩ := hp
  refine a_ist C0 hP hS (by omega) ((mw_ne (Or.inr hN10)).trans hT7) (by omega) (by omega) dX2_digestOf_96 (fun H locs hP hS => ?_)
  obtain ⟨F8, hF8⟩ : ∃ z7, z7 = upd F7 7 v93 := ⟨_, rfl⟩
  rw [← hF8] at hP
  rw [mw_out (Or.inr hN10)] at hP
  obtain ⟨c9, hc9⟩ : ∃ z7, z7 = va_up c8 N (.inl (cA 0, 13, .inl F8)) := ⟨_, rfl⟩
  rw [← hc9] at hP
  have hT8 : c9 N = .inl (cA 0, 13, .inl F8) := by rw [hc9]; exact up_at
  have hcr : ∀ r, r < N → c9 r = c r := fun r h => by rw [hc9, va_up_ne _ _ (by omega)]; exact hcr r h
  refine lv_dup hx hb dX2_digestOf_97 rfl ?_
  refine lv_bipush (v := nI 8) hx hb dX2_digestOf_98 rfl ?_
  refine lv_aload_n hx hb dX2_digestOf_100 rfl (lv_at hl 1 rfl) ?_
  refine lv_iload_n hx hb dX2_digestOf_101 rfl (lv_at hl 2 rfl) ?_
  refine lv_bipush (v := nI 7) hx hb dX2_digestOf_102 rfl ?_
  refine k0_i (rn_X2_96 (As := [.int (nI i), .int (nI 7)]) (rest := [.int (nI 8), .ref (ad1 N), .ref (ad1 N)]) (r := 6) C0 (m_X2_luckBehind l D cA (N + 1) ad1 (mw ad1 cA c9 th n nw ah rw) th n nw ah rw i R Y L S D9 K 7 hN11 mw_at hn5 hi hrow hok (by omega) _) hP hS (by omega) mw_at.1 rfl ⟨rfl, rfl⟩ ⟨by decide, by decide⟩ hl.1 rfl (Nat.le_of_ble_eq_true rfl) dX2_digestOf_104 ⟨Nat.le_of_ble_eq_true rfl, Nat.le_of_ble_eq_true rfl⟩) C0 hP hS (fun v104 c104 H locs hp hP hS => ?_)
  obtain ⟨hlb, rfl⟩ := hp
  refine a_ist C0 hP hS (by omega) ((mw_ne (Or.inr hN10)).trans hT8) (by omega) (by omega) dX2_digestOf_107 (fun H locs hP hS => ?_)
  obtain ⟨F9, hF9⟩ : ∃ z7, z7 = upd F8 8 v104 := ⟨_, rfl⟩
  rw [← hF9] at hP
  rw [mw_out (Or.inr hN10)] at hP
  obtain ⟨c10, hc10⟩ : ∃ z7, z7 = va_up c9 N (.inl (cA 0, 13, .inl F9)) := ⟨_, rfl⟩
  rw [← hc10] at hP
  have hT9 : c10 N = .inl (cA 0, 13, .inl F9) := by rw [hc10]; exact up_at
  have hcr : ∀ r, r < N → c10 r = c r := fun r h => by rw [hc10, va_up_ne _ _ (by omega)]; exact hcr r h
  refine lv_dup hx hb dX2_digestOf_108 rfl ?_
  refine lv_bipush (v := nI 9) hx hb dX2_digestOf_109 rfl ?_
  refine lv_aload_n hx hb dX2_digestOf_111 rfl (lv_at hl 1 rfl) ?_
  refine lv_iload_n hx hb dX2_digestOf_112 rfl (lv_at hl 2 rfl) ?_
  refine lv_iconst (v := nI 1) hx hb dX2_digestOf_113 rfl ?_
  refine k0_i (rn_X2_102 (As := [.int (nI i), .int (nI 1)]) (rest := [.int (nI 9), .ref (ad1 N), .ref (ad1 N)]) (r := 6) C0 (m_X2_tried l D cA (N + 1) ad1 (mw ad1 cA c10 th n nw ah rw) th n nw ah rw i R Y L S D9 K 1 hN11 mw_at (by omega) hi hrow hok (by omega) (by omega) _) hP hS (by omega) mw_at.1 rfl ⟨rfl, rfl⟩ ⟨by decide, by decide⟩ hl.1 rfl (Nat.le_of_ble_eq_true rfl) dX2_digestOf_114 ⟨Nat.le_of_ble_eq_true rfl, Nat.le_of_ble_eq_true rfl⟩) C0 hP hS (fun v114 c114 H locs hp hP hS => ?_)
  obtain ⟨htr, ah114, rfl⟩ := hp
  rw [mw_mw] at hP
  refine a_ist C0 hP hS (by omega) ((mw_ne (Or.inr hN10)).trans hT9) (by omega) (by omega) dX2_digestOf_117 (fun H locs hP hS => ?_)
  obtain ⟨F10, hF10⟩ : ∃ z7, z7 = upd F9 9 v114 := ⟨_, rfl⟩
  rw [← hF10] at hP
  rw [mw_out (Or.inr hN10)] at hP
  obtain ⟨c11, hc11⟩ : ∃ z7, z7 = va_up c10 N (.inl (cA 0, 13, .inl F10)) := ⟨_, rfl⟩
  rw [← hc11] at hP
  have hT10 : c11 N = .inl (cA 0, 13, .inl F10) := by rw [hc11]; exact up_at
  have hcr : ∀ r, r < N → c11 r = c r := fun r h => by rw [hc11, va_up_ne _ _ (by omega)]; exact hcr r h
  refine lv_dup hx hb dX2_digestOf_118 rfl ?_
  refine lv_bipush (v := nI 10) hx hb dX2_digestOf_119 rfl ?_
  refine lv_aload_n hx hb dX2_digestOf_121 rfl (lv_at hl 1 rfl) ?_
  refine lv_iload_n hx hb dX2_digestOf_122 rfl (lv_at hl 2 rfl) ?_
  refine lv_bipush (v := nI 20) hx hb dX2_digestOf_123 rfl ?_
  refine k0_i (rn_X2_105 (As := [.int (nI i), .int (nI 20)]) (rest := [.int (nI 10), .ref (ad1 N), .ref (ad1 N)]) (r := 6) C0 (m_X2_staying l D cA (N + 1) ad1 (mw ad1 cA c11 th n nw ah114 rw) th n nw ah114 rw i R Y L S D9 K 20 hN11 mw_at hn5 hi hrow hok (by omega) _) hP hS (by omega) mw_at.1 rfl ⟨rfl, rfl⟩ ⟨by decide, by decide⟩ hl.1 rfl (Nat.le_of_ble_eq_true rfl) dX2_digestOf_125 ⟨Nat.le_of_ble_eq_true rfl, Nat.le_of_ble_eq_true rfl⟩) C0 hP hS (fun v125 c125 H locs hp hP hS => ?_)
  obtain ⟨hsy, ah125, rfl⟩ := hp
  rw [mw_mw] at hP
  refine a_ist C0 hP hS (by omega) ((mw_ne (Or.inr hN10)).trans hT10) (by omega) (by omega) dX2_digestOf_128 (fun H locs hP hS => ?_)
  obtain ⟨F11, hF11⟩ : ∃ z7, z7 = upd F10 10 v125 := ⟨_, rfl⟩
  rw [← hF11] at hP
  rw [mw_out (Or.inr hN10)] at hP
  obtain ⟨c12, hc12⟩ : ∃ z7, z7 = va_up c11 N (.inl (cA 0, 13, .inl F11)) := ⟨_, rfl⟩
  rw [← hc12] at hP
  have hT11 : c12 N = .inl (cA 0, 13, .inl F11) := by rw [hc12]; exact up_at
  have hcr : ∀ r, r < N → c12 r = c r := fun r h => by rw [hc12, va_up_ne _ _ (by omega)]; exact hcr r h
  refine lv_dup hx hb dX2_digestOf_129 rfl ?_
  refine lv_bipush (v := nI 11) hx hb dX2_digestOf_130 rfl ?_
  refine lv_aload_n hx hb dX2_digestOf_132 rfl (lv_at hl 1 rfl) ?_
  refine lv_iload_n hx hb dX2_digestOf_133 rfl (lv_at hl 2 rfl) ?_
  refine k0_i (rn_X2_108 (As := [.int (nI i)]) (rest := [.int (nI 11), .ref (ad1 N), .ref (ad1 N)]) (r := 6) C0 (m_X2_taken l D cA (N + 1) ad1 (mw ad1 cA c12 th n nw ah125 rw) th n nw ah125 rw i R Y L S D9 K  hN11 mw_at hn5 hi hrow hok  _) hP hS (by omega) mw_at.1 rfl ⟨rfl, rfl⟩ ⟨by decide, by decide⟩ hl.1 rfl (Nat.le_of_ble_eq_true rfl) dX2_digestOf_134 ⟨Nat.le_of_ble_eq_true rfl, Nat.le_of_ble_eq_true rfl⟩) C0 hP hS (fun v134 c134 H locs hp hP hS => ?_)
  obtain ⟨hunt, ah134, rfl⟩ := hp
  rw [mw_mw] at hP
  refine a_ist C0 hP hS (by omega) ((mw_ne (Or.inr hN10)).trans hT11) (by omega) (by omega) dX2_digestOf_137 (fun H locs hP hS => ?_)
  obtain ⟨F12, hF12⟩ : ∃ z7, z7 = upd F11 11 v134 := ⟨_, rfl⟩
  rw [← hF12] at hP
  rw [mw_out (Or.inr hN10)] at hP
  obtain ⟨c13, hc13⟩ : ∃ z7, z7 = va_up c12 N (.inl (cA 0, 13, .inl F12)) := ⟨_, rfl⟩
  rw [← hc13] at hP
  have hT12 : c13 N = .inl (cA 0, 13, .inl F12) := by rw [hc13]; exact up_at
  have hcr : ∀ r, r < N → c13 r = c r := fun r h => by rw [hc13, va_up_ne _ _ (by omega)]; exact hcr r h
  refine lv_dup hx hb dX2_digestOf_138 rfl ?_
  refine lv_bipush (v := nI 12) hx hb dX2_digestOf_139 rfl ?_
  refine lv_aload_n hx hb dX2_digestOf_141 rfl (lv_at hl 1 rfl) ?_
  refine lv_iload_n hx hb dX2_digestOf_142 rfl (lv_at hl 2 rfl) ?_
  refine k0_i (rn_X2_111 (As := [.int (nI i)]) (rest := [.int (nI 12), .ref (ad1 N), .ref (ad1 N)]) (r := 6) C0 (m_X2_wanted l D cA (N + 1) ad1 (mw ad1 cA c13 th n nw ah134 rw) th n nw ah134 rw i R Y L S D9 K  hN11 mw_at hn5 hi hrow hok  _) hP hS (by omega) mw_at.1 rfl ⟨rfl, rfl⟩ ⟨by decide, by decide⟩ hl.1 rfl (Nat.le_of_ble_eq_true rfl) dX2_digestOf_143 ⟨Nat.le_of_ble_eq_true rfl, Nat.le_of_ble_eq_true rfl⟩) C0 hP hS (fun v143 c143 H locs hp hP hS => ?_)
  obtain ⟨hwan, ah143, rfl⟩ := hp
  rw [mw_mw] at hP
  refine a_ist C0 hP hS (by omega) ((mw_ne (Or.inr hN10)).trans hT12) (by omega) (by omega) dX2_digestOf_146 (fun H locs hP hS => ?_)
  obtain ⟨F13, hF13⟩ : ∃ z7, z7 = upd F12 12 v143 := ⟨_, rfl⟩
  rw [← hF13] at hP
  rw [mw_out (Or.inr hN10)] at hP
  obtain ⟨c14, hc14⟩ : ∃ z7, z7 = va_up c13 N (.inl (cA 0, 13, .inl F13)) := ⟨_, rfl⟩
  rw [← hc14] at hP
  have hT13 : c14 N = .inl (cA 0, 13, .inl F13) := by rw [hc14]; exact up_at
  have hcr : ∀ r, r < N → c14 r = c r := fun r h => by rw [hc14, va_up_ne _ _ (by omega)]; exact hcr r h
  refine lv_astore (lv' := [(5, .ref (ad1 N)), (4, .int (nI (30 * i))), (0, .ref (ad1 6)), (1, .int (nI i)), (2, .long d9)]) hx hb dX2_digestOf_147 hl (by decide) rfl (fun ls hl => ?_)
  have t09 : F13 0 = nI K := by rw [hF13, hF12, hF11, hF10, hF9, hF8, hF7, hF6, hF5, hF4, hF3, hF2, hF1]; rfl
  have t19 : F13 1 = nI R := by rw [hF13, hF12, hF11, hF10, hF9, hF8, hF7, hF6, hF5, hF4, hF3, hF2, hF1]; rfl
  have t29 : F13 2 = nI S := by rw [hF13, hF12, hF11, hF10, hF9, hF8, hF7, hF6, hF5, hF4, hF3, hF2, hF1]; rfl
  have t39 : F13 3 = nI D9 := by rw [hF13, hF12, hF11, hF10, hF9, hF8, hF7, hF6, hF5, hF4, hF3, hF2, hF1]; rfl
  have t49 : F13 4 = nI L := by rw [hF13, hF12, hF11, hF10, hF9, hF8, hF7, hF6, hF5, hF4, hF3, hF2, hF1]; rfl
  have t59 : F13 5 = tot (sto nw (30 * i) 0) K := by rw [hF13, hF12, hF11, hF10, hF9, hF8, hF7, hF6, hF5, hF4, hF3, hF2, hF1]; rfl
  have t69 : F13 6 = v84 := by rw [hF13, hF12, hF11, hF10, hF9, hF8, hF7, hF6, hF5, hF4, hF3, hF2, hF1]; rfl
  have t79 : F13 7 = v93 := by rw [hF13, hF12, hF11, hF10, hF9, hF8, hF7, hF6, hF5, hF4, hF3, hF2, hF1]; rfl
  have t89 : F13 8 = v104 := by rw [hF13, hF12, hF11, hF10, hF9, hF8, hF7, hF6, hF5, hF4, hF3, hF2, hF1]; rfl
  have t99 : F13 9 = v114 := by rw [hF13, hF12, hF11, hF10, hF9, hF8, hF7, hF6, hF5, hF4, hF3, hF2, hF1]; rfl
  have t109 : F13 10 = v125 := by rw [hF13, hF12, hF11, hF10, hF9, hF8, hF7, hF6, hF5, hF4, hF3, hF2, hF1]; rfl
  have t119 : F13 11 = v134 := by rw [hF13, hF12, hF11, hF10, hF9, hF8, hF7, hF6, hF5, hF4, hF3, hF2, hF1]; rfl
  have t129 : F13 12 = v143 := by rw [hF13, hF12, hF11, hF10, hF9, hF8, hF7, hF6, hF5, hF4, hF3, hF2, hF1]; rfl
  have hD : dgF F13 13 d9 = (dg (dg (dg (dg (dg (dg (dg (dg (dg (dg (dg (dg (dg d9 (nI K)) (nI R)) (nI S)) (nI D9)) (nI L)) (tot (sto nw (30 * i) 0) K)) (v84)) (v93)) (v104)) (v114)) (v125)) (v134)) (v143)) := by
    show (dg (dg (dg (dg (dg (dg (dg (dg (dg (dg (dg (dg (dg d9 (F13 0)) (F13 1)) (F13 2)) (F13 3)) (F13 4)) (F13 5)) (F13 6)) (F13 7)) (F13 8)) (F13 9)) (F13 10)) (F13 11)) (F13 12)) = _
    rw [t09, t19, t29, t39, t49, t59, t69, t79, t89, t99, t109, t119, t129]
  obtain ⟨d2, hd2⟩ : ∃ z7, z7 = dgF F13 13 d9 := ⟨_, rfl⟩
  refine lv_lload_n hx hb dX2_digestOf_149 rfl (lv_at hl 4 rfl) ?_
  refine lv_lstore (lv' := [(6, .long d9), (5, .ref (ad1 N)), (4, .int (nI (30 * i))), (0, .ref (ad1 6)), (1, .int (nI i)), (2, .long d9)]) hx hb dX2_digestOf_150 hl (by decide) rfl (fun ls hl => ?_)
  refine lv_aload hx hb dX2_digestOf_152 (lv_at hl 1 rfl) ?_
  refine lv_astore (lv' := [(8, .ref (ad1 N)), (6, .long d9), (5, .ref (ad1 N)), (4, .int (nI (30 * i))), (0, .ref (ad1 6)), (1, .int (nI i)), (2, .long d9)]) hx hb dX2_digestOf_154 hl (by decide) rfl (fun ls hl => ?_)
  refine lv_aload hx hb dX2_digestOf_156 (lv_at hl 0 rfl) ?_
  refine a_len C0 hP (by omega) ((mw_ne (Or.inr hN10)).trans hT13) dX2_digestOf_158 ?_
  refine lv_istore (lv' := [(9, .int (nI 13)), (8, .ref (ad1 N)), (6, .long d9), (5, .ref (ad1 N)), (4, .int (nI (30 * i))), (0, .ref (ad1 6)), (1, .int (nI i)), (2, .long d9)]) hx hb dX2_digestOf_159 hl (by decide) rfl (fun ls hl => ?_)
  refine lv_iconst (v := nI 0) hx hb dX2_digestOf_161 rfl ?_
  refine lv_istore (lv' := [(10, .int (nI 0)), (9, .int (nI 13)), (8, .ref (ad1 N)), (6, .long d9), (5, .ref (ad1 N)), (4, .int (nI (30 * i))), (0, .ref (ad1 6)), (1, .int (nI i)), (2, .long d9)]) hx hb dX2_digestOf_162 hl (by decide) rfl (fun ls hl => ?_)
  have loop164 : ∀ (n9 : Nat) (k : Nat) (dv : Int64), (k ≤ 13) → (dv = dgF F13 k d9) → 13 - k < n9 → ∀ (H : Heap) (locs : List Loc) (ls : Array Slot), va_P D vwCl (wl (N + 1) ad1 (mw ad1 cA c14 th n nw ah143 rw)) H → va_S (wA N ad s.heap.size) s.heap H locs → lv_has ls 12 [(0, .ref (ad1 6)), (1, .int (nI i)), (2, .long d9), (4, .int (nI (30 * i))), (6, .long dv), (8, .ref (ad1 N)), (9, .int (nI 13)), (10, .int (nI k))] → W p l e { frames := 4, cells := 1, slots := 13, locals := 110 } s m [.ref (ad 6), .int (nI i), .long d9].toArray below meth c0 H locs (0 + 1) (0 + 13) (MQ below (va_Ql (fun v c' => (∃ d1 d2, CntsP (sto nw (30 * i) 0) R S D9 L K d9 d1 ∧ ForeM R Y L S D9 K d1 d2 ∧ PairsP sc (fun j => sto nw (30 * j)) i n (dgS (sto nw (30 * i)) K K d2) v) ∧ ∃ ah' rw', mw ad cA c th n nw ah' rw' = c') (fun c' t => va_P D vwCl (wl N ad c') t.heap) (wA N ad s.heap.size)) [.ref (ad 6), .int (nI i), .long d9].toArray s 1 13 (wA N ad s.heap.size)) (F0 m 164 ls []) := by
    intro n9
    induction n9 with
    | zero => intro k dv hk hdv hlt9; exact absurd hlt9 (Nat.not_lt_zero _)
    | succ n9 ih164 =>
      intro k dv hk hdv hlt9 H locs ls hP hS hl
      refine lv_iload hx hb dX2_digestOf_164 (lv_at hl 7 rfl) ?_
      refine lv_iload hx hb dX2_digestOf_166 (lv_at hl 6 rfl) ?_
      refine n_icmp_ge (tgt := 196) hx hb (by omega) (by omega) dX2_digestOf_168 (by decide) (fun h168 => ?_) (fun h168 => ?_)
      · have hk13 : k = 13 := by omega
        refine lv_iconst (v := nI 0) hx hb dX2_digestOf_196 rfl ?_
        refine lv_istore (lv' := [(8, .int (nI 0)), (0, .ref (ad1 6)), (1, .int (nI i)), (2, .long d9), (4, .int (nI (30 * i))), (6, .long dv), (9, .int (nI 13)), (10, .int (nI k))]) hx hb dX2_digestOf_197 hl (by decide) rfl (fun ls hl => ?_)
        have loop199 : ∀ (n9 : Nat) (k : Nat) (dv : Int64), (k ≤ K) → (dv = dgS (sto nw (30 * i)) K k d2) → K - k < n9 → ∀ (H : Heap) (locs : List Loc) (ls : Array Slot), va_P D vwCl (wl (N + 1) ad1 (mw ad1 cA c14 th n nw ah143 rw)) H → va_S (wA N ad s.heap.size) s.heap H locs → lv_has ls 12 [(0, .ref (ad1 6)), (1, .int (nI i)), (2, .long d9), (4, .int (nI (30 * i))), (6, .long dv), (8, .int (nI k))] → W p l e { frames := 4, cells := 1, slots := 13, locals := 110 } s m [.ref (ad 6), .int (nI i), .long d9].toArray below meth c0 H locs (0 + 1) (0 + 13) (MQ below (va_Ql (fun v c' => (∃ d1 d2, CntsP (sto nw (30 * i) 0) R S D9 L K d9 d1 ∧ ForeM R Y L S D9 K d1 d2 ∧ PairsP sc (fun j => sto nw (30 * j)) i n (dgS (sto nw (30 * i)) K K d2) v) ∧ ∃ ah' rw', mw ad cA c th n nw ah' rw' = c') (fun c' t => va_P D vwCl (wl N ad c') t.heap) (wA N ad s.heap.size)) [.ref (ad 6), .int (nI i), .long d9].toArray s 1 13 (wA N ad s.heap.size)) (F0 m 199 ls []) := by
          intro n9
          induction n9 with
          | zero => intro k dv hk hdv hlt9; exact absurd hlt9 (Nat.not_lt_zero _)
          | succ n9 ih199 =>
            intro k dv hk hdv hlt9 H locs ls hP hS hl
            refine lv_iload hx hb dX2_digestOf_199 (lv_at hl 5 rfl) ?_
            refine lv_aload_n hx hb dX2_digestOf_201 rfl (lv_at hl 0 rfl) ?_
            refine lv_iload_n hx hb dX2_digestOf_202 rfl (lv_at hl 1 rfl) ?_
            refine k0_i (rn_X2_67 (As := [.int (nI i)]) (rest := [.int (nI k)]) (r := 6) C0 (m_X2_held l D cA (N + 1) ad1 (mw ad1 cA c14 th n nw ah143 rw) th n nw ah143 rw i R Y L S D9 K hN11 mw_at (by omega) hi hrow hok _) hP hS (by omega) mw_at.1 rfl ⟨rfl, rfl⟩ ⟨by decide, by decide⟩ hl.1 rfl (Nat.le_of_ble_eq_true rfl) dX2_digestOf_203 ⟨Nat.le_of_ble_eq_true rfl, Nat.le_of_ble_eq_true rfl⟩) C0 hP hS (fun v203 c203 H locs hp hP hS => ?_)
            obtain ⟨rfl, rfl⟩ := hp
            refine n_icmp_ge (tgt := 275) hx hb (by omega) (by omega) dX2_digestOf_206 (by decide) (fun h206 => ?_) (fun h206 => ?_)
            · obtain rfl : K = k := by omega
              refine lv_iconst (v := nI 0) hx hb dX2_digestOf_275 rfl ?_
              refine lv_istore (lv' := [(8, .int (nI 0)), (0, .ref (ad1 6)), (1, .int (nI i)), (2, .long d9), (4, .int (nI (30 * i))), (6, .long dv)]) hx hb dX2_digestOf_276 hl (by decide) rfl (fun ls hl => ?_)
              have loop278 : ∀ (n9 : Nat) (k : Nat) (dv : Int64) (A2 : Nat → Int32) (B2 : Nat → Int32), (k ≤ n) → (PairsP sc (fun j => sto nw (30 * j)) i k (dgS (sto nw (30 * i)) K K d2) dv) → n - k < n9 → ∀ (H : Heap) (locs : List Loc) (ls : Array Slot), va_P D vwCl (wl (N + 1) ad1 (mw ad1 cA c14 th n nw A2 B2)) H → va_S (wA N ad s.heap.size) s.heap H locs → lv_has ls 12 [(0, .ref (ad1 6)), (1, .int (nI i)), (2, .long d9), (4, .int (nI (30 * i))), (6, .long dv), (8, .int (nI k))] → W p l e { frames := 4, cells := 1, slots := 13, locals := 110 } s m [.ref (ad 6), .int (nI i), .long d9].toArray below meth c0 H locs (0 + 1) (0 + 13) (MQ below (va_Ql (fun v c' => (∃ d1 d2, CntsP (sto nw (30 * i) 0) R S D9 L K d9 d1 ∧ ForeM R Y L S D9 K d1 d2 ∧ PairsP sc (fun j => sto nw (30 * j)) i n (dgS (sto nw (30 * i)) K K d2) v) ∧ ∃ ah' rw', mw ad cA c th n nw ah' rw' = c') (fun c' t => va_P D vwCl (wl N ad c') t.heap) (wA N ad s.heap.size)) [.ref (ad 6), .int (nI i), .long d9].toArray s 1 13 (wA N ad s.heap.size)) (F0 m 278 ls []) := by
                intro n9
                induction n9 with
                | zero => intro k dv A2 B2 hk hdv hlt9; exact absurd hlt9 (Nat.not_lt_zero _)
                | succ n9 ih278 =>
                  intro k dv A2 B2 hk hdv hlt9 H locs ls hP hS hl
                  refine lv_iload hx hb dX2_digestOf_278 (lv_at hl 5 rfl) ?_
                  refine lv_aload_n hx hb dX2_digestOf_280 rfl (lv_at hl 0 rfl) ?_
                  refine gf_X2_23 C0 hP (by omega) mw_at.1 rfl dX2_digestOf_281 ?_
                  refine n_icmp_ge (tgt := 323) hx hb (by omega) (by omega) dX2_digestOf_284 (by decide) (fun h284 => ?_) (fun h284 => ?_)
                  · have hkn : k = n := by omega
                    refine lv_lload hx hb dX2_digestOf_323 (lv_at hl 4 rfl) ?_
                    have hP := wl_cut hP (mw_cut hN10 hadr hcr)
                    exact e_l C9 hr hlk hP hS dX2_digestOf_325 (by decide) (by decide) ⟨⟨_, d2, ⟨_, _, hrkp, hmid, rfl⟩, ⟨_, _, hunt, hwan, by rw [hd2, hD, hlb, htr, hsy]⟩, by rw [← hkn]; exact hdv⟩, _, _, rfl⟩
                  · refine lv_lload hx hb dX2_digestOf_287 (lv_at hl 4 rfl) ?_
                    refine lv_ldc2 (v := 31) hx hb C0.2.2.2.1 (wd_cl_X2_117 C0.2.2.2.2.1 _) dX2_digestOf_289 ?_
                    refine lv_lmul hx hb dX2_digestOf_292 ?_
                    refine lv_aload_n hx hb dX2_digestOf_293 rfl (lv_at hl 0 rfl) ?_
                    refine lv_iload_n hx hb dX2_digestOf_294 rfl (lv_at hl 1 rfl) ?_
                    refine lv_iload hx hb dX2_digestOf_295 (lv_at hl 5 rfl) ?_
                    refine k0_i (rn_X2_93 (As := [.int (nI i), .int (nI k)]) (rest := [.long (dv * 31)]) (r := 6) C0 (m_X2_matched l D cA (N + 1) ad1 (mw ad1 cA c14 th n nw A2 B2) th n nw A2 B2 i R Y L S D9 K k (sc k 0) (sc k 1) (sc k 2) (sc k 3) (sc k 4) (sc k 5) hN11 mw_at hn5 hi hrow hok (by omega) (hrows k (by omega)) (hOk k (by omega)) _) hP hS (by omega) mw_at.1 rfl ⟨rfl, rfl⟩ ⟨by decide, by decide⟩ hl.1 rfl (Nat.le_of_ble_eq_true rfl) dX2_digestOf_297 ⟨Nat.le_of_ble_eq_true rfl, Nat.le_of_ble_eq_true rfl⟩) C0 hP hS (fun v297 c297 H locs hp hP hS => ?_)
                    obtain ⟨rfl, rfl⟩ := hp
                    refine lv_i2l (v := (nI (com (sto nw (30 * i) 0) (sto nw (30 * k) 0) (sc k 5) K)).toInt64) hx hb dX2_digestOf_300 rfl ?_
                    refine lv_ladd hx hb dX2_digestOf_301 ?_
                    refine lv_ldc2 (v := 31) hx hb C0.2.2.2.1 (wd_cl_X2_117 C0.2.2.2.2.1 _) dX2_digestOf_302 ?_
                    refine lv_lmul hx hb dX2_digestOf_305 ?_
                    refine lv_aload_n hx hb dX2_digestOf_306 rfl (lv_at hl 0 rfl) ?_
                    refine lv_iload_n hx hb dX2_digestOf_307 rfl (lv_at hl 1 rfl) ?_
                    refine lv_iload hx hb dX2_digestOf_308 (lv_at hl 5 rfl) ?_
                    refine k0_i (rn_X2_114 (As := [.int (nI i), .int (nI k)]) (rest := [.long (((dv * 31) + ((nI (com (sto nw (30 * i) 0) (sto nw (30 * k) 0) (sc k 5) K)).toInt64)) * 31)]) (r := 6) C0 (m_X2_joinedAhead l D cA (N + 1) ad1 (mw ad1 cA c14 th n nw A2 B2) th n nw A2 B2 sc i k hN11 mw_at hn5 hrows hOk hi (by omega) _) hP hS (by omega) mw_at.1 rfl ⟨rfl, rfl⟩ ⟨by decide, by decide⟩ hl.1 rfl (Nat.le_of_ble_eq_true rfl) dX2_digestOf_310 ⟨Nat.le_of_ble_eq_true rfl, Nat.le_of_ble_eq_true rfl⟩) C0 hP hS (fun v310 c310 H locs hp hP hS => ?_)
                    obtain ⟨htj, ah310, rw310, rfl⟩ := hp
                    rw [mw_mw] at hP
                    refine lv_i2l (v := (v310).toInt64) hx hb dX2_digestOf_313 rfl ?_
                    refine lv_ladd hx hb dX2_digestOf_314 ?_
                    refine lv_lstore (lv' := [(6, .long ((((dv * 31) + ((nI (com (sto nw (30 * i) 0) (sto nw (30 * k) 0) (sc k 5) K)).toInt64)) * 31) + ((v310).toInt64))), (0, .ref (ad1 6)), (1, .int (nI i)), (2, .long d9), (4, .int (nI (30 * i))), (8, .int (nI k))]) hx hb dX2_digestOf_315 hl (by decide) rfl (fun ls hl => ?_)
                    refine lv_iinc (v := nI (k + 1)) (lv' := [(8, .int (nI (k + 1))), (6, .long ((((dv * 31) + ((nI (com (sto nw (30 * i) 0) (sto nw (30 * k) 0) (sc k 5) K)).toInt64)) * 31) + ((v310).toInt64))), (0, .ref (ad1 6)), (1, .int (nI i)), (2, .long d9), (4, .int (nI (30 * i)))]) hx hb dX2_digestOf_317 hl (k := 5) rfl (nI_add k 1) (by decide) rfl (fun ls hl => ?_)
                    refine lv_goto (tgt := 278) hx hb dX2_digestOf_320 (by decide) ?_
                    exact ih278 (k + 1) ((((dv * 31) + ((nI (com (sto nw (30 * i) 0) (sto nw (30 * k) 0) (sc k 5) K)).toInt64)) * 31) + ((v310).toInt64)) ah310 rw310 (by omega) (⟨_, _, hdv, htj, by rw [hs5]; rfl⟩) (by omega) _ _ _ hP hS (lv_sub hl [2, 3, 4, 5, 1, 0] rfl)
              exact loop278 (_ + 1) 0 dv ah143 rw (Nat.zero_le _) (by rw [hdv]; rfl) (Nat.lt_succ_self _) _ _ _ hP hS (lv_sub hl [1, 2, 3, 4, 5, 0] rfl)
            · refine lv_iconst (v := nI 0) hx hb dX2_digestOf_209 rfl ?_
              refine lv_istore (lv' := [(9, .int (nI 0)), (0, .ref (ad1 6)), (1, .int (nI i)), (2, .long d9), (4, .int (nI (30 * i))), (6, .long dv), (8, .int (nI k))]) hx hb dX2_digestOf_210 hl (by decide) rfl (fun ls hl => ?_)
              have loop212 : ∀ (n9 : Nat) (z : Nat) (dq : Int64), (z ≤ 3) → (dq = dgQ (sto nw (30 * i)) k z dv) → 3 - z < n9 → ∀ (H : Heap) (locs : List Loc) (ls : Array Slot), va_P D vwCl (wl (N + 1) ad1 (mw ad1 cA c14 th n nw ah143 rw)) H → va_S (wA N ad s.heap.size) s.heap H locs → lv_has ls 12 [(0, .ref (ad1 6)), (1, .int (nI i)), (2, .long d9), (4, .int (nI (30 * i))), (6, .long dq), (8, .int (nI k)), (9, .int (nI z))] → W p l e { frames := 4, cells := 1, slots := 13, locals := 110 } s m [.ref (ad 6), .int (nI i), .long d9].toArray below meth c0 H locs (0 + 1) (0 + 13) (MQ below (va_Ql (fun v c' => (∃ d1 d2, CntsP (sto nw (30 * i) 0) R S D9 L K d9 d1 ∧ ForeM R Y L S D9 K d1 d2 ∧ PairsP sc (fun j => sto nw (30 * j)) i n (dgS (sto nw (30 * i)) K K d2) v) ∧ ∃ ah' rw', mw ad cA c th n nw ah' rw' = c') (fun c' t => va_P D vwCl (wl N ad c') t.heap) (wA N ad s.heap.size)) [.ref (ad 6), .int (nI i), .long d9].toArray s 1 13 (wA N ad s.heap.size)) (F0 m 212 ls []) := by
                intro n9
                induction n9 with
                | zero => intro z dq hz hdq hlt9; exact absurd hlt9 (Nat.not_lt_zero _)
                | succ n9 ih212 =>
                  intro z dq hz hdq hlt9 H locs ls hP hS hl
                  refine lv_iload hx hb dX2_digestOf_212 (lv_at hl 6 rfl) ?_
                  refine lv_iconst (v := nI 3) hx hb dX2_digestOf_214 rfl ?_
                  refine n_icmp_ge (tgt := 252) hx hb (by omega) (by omega) dX2_digestOf_215 (by decide) (fun h215 => ?_) (fun h215 => ?_)
                  · have hz3 : z = 3 := by omega
                    refine lv_lload hx hb dX2_digestOf_252 (lv_at hl 4 rfl) ?_
                    refine lv_ldc2 (v := 31) hx hb C0.2.2.2.1 (wd_cl_X2_117 C0.2.2.2.2.1 _) dX2_digestOf_254 ?_
                    refine lv_lmul hx hb dX2_digestOf_257 ?_
                    refine lv_aload_n hx hb dX2_digestOf_258 rfl (lv_at hl 0 rfl) ?_
                    refine lv_iload_n hx hb dX2_digestOf_259 rfl (lv_at hl 1 rfl) ?_
                    refine lv_iload hx hb dX2_digestOf_260 (lv_at hl 5 rfl) ?_
                    refine k0_i (rn_X2_84 (As := [.int (nI i), .int (nI k)]) (rest := [.long (dq * 31)]) (r := 6) C0 (m_X2_rank l D cA (N + 1) ad1 (mw ad1 cA c14 th n nw ah143 rw) th n nw ah143 rw i R Y L S D9 K k hN11 mw_at (by omega) hi hrow hok (by omega) _) hP hS (by omega) mw_at.1 rfl ⟨rfl, rfl⟩ ⟨by decide, by decide⟩ hl.1 rfl (Nat.le_of_ble_eq_true rfl) dX2_digestOf_262 ⟨Nat.le_of_ble_eq_true rfl, Nat.le_of_ble_eq_true rfl⟩) C0 hP hS (fun v262 c262 H locs hp hP hS => ?_)
                    obtain ⟨rfl, rfl⟩ := hp
                    refine lv_i2l (v := (nI (mrk (sto nw (30 * i) 0) k K)).toInt64) hx hb dX2_digestOf_265 rfl ?_
                    refine lv_ladd hx hb dX2_digestOf_266 ?_
                    refine lv_lstore (lv' := [(6, .long ((dq * 31) + ((nI (mrk (sto nw (30 * i) 0) k K)).toInt64))), (0, .ref (ad1 6)), (1, .int (nI i)), (2, .long d9), (4, .int (nI (30 * i))), (8, .int (nI k)), (9, .int (nI z))]) hx hb dX2_digestOf_267 hl (by decide) rfl (fun ls hl => ?_)
                    refine lv_iinc (v := nI (k + 1)) (lv' := [(8, .int (nI (k + 1))), (6, .long ((dq * 31) + ((nI (mrk (sto nw (30 * i) 0) k K)).toInt64))), (0, .ref (ad1 6)), (1, .int (nI i)), (2, .long d9), (4, .int (nI (30 * i))), (9, .int (nI z))]) hx hb dX2_digestOf_269 hl (k := 5) rfl (nI_add k 1) (by decide) rfl (fun ls hl => ?_)
                    refine lv_goto (tgt := 199) hx hb dX2_digestOf_272 (by decide) ?_
                    exact ih199 (k + 1) ((dq * 31) + ((nI (mrk (sto nw (30 * i) 0) k K)).toInt64)) (by omega) (by rw [hdq, hz3, hdv, mrk_rk (by omega)]; rfl) (by omega) _ _ _ hP hS (lv_sub hl [2, 3, 4, 5, 1, 0] rfl)
                  · refine lv_lload hx hb dX2_digestOf_218 (lv_at hl 4 rfl) ?_
                    refine lv_ldc2 (v := 31) hx hb C0.2.2.2.1 (wd_cl_X2_117 C0.2.2.2.2.1 _) dX2_digestOf_220 ?_
                    refine lv_lmul hx hb dX2_digestOf_223 ?_
                    refine lv_aload_n hx hb dX2_digestOf_224 rfl (lv_at hl 0 rfl) ?_
                    refine gf_X2_9 C0 hP (by omega) mw_at.1 rfl dX2_digestOf_225 ?_
                    refine lv_iload hx hb dX2_digestOf_228 (lv_at hl 3 rfl) ?_
                    refine lv_bipush (v := nI 6) hx hb dX2_digestOf_230 rfl ?_
                    refine n_iadd hx hb dX2_digestOf_232 ?_
                    refine lv_iconst (v := nI 3) hx hb dX2_digestOf_233 rfl ?_
                    refine lv_iload hx hb dX2_digestOf_234 (lv_at hl 5 rfl) ?_
                    refine n_imul hx hb dX2_digestOf_236 ?_
                    refine n_iadd hx hb dX2_digestOf_237 ?_
                    refine lv_iload hx hb dX2_digestOf_238 (lv_at hl 6 rfl) ?_
                    refine n_iadd hx hb dX2_digestOf_240 ?_
                    refine a_ild C0 hP (by omega) mw_at.2.1 (by omega) (by omega) dX2_digestOf_241 ?_
                    refine lv_i2l (v := (nw (30 * i + 6 + (3 * k) + z)).toInt64) hx hb dX2_digestOf_242 rfl ?_
                    refine lv_ladd hx hb dX2_digestOf_243 ?_
                    refine lv_lstore (lv' := [(6, .long ((dq * 31) + ((nw (30 * i + 6 + (3 * k) + z)).toInt64))), (0, .ref (ad1 6)), (1, .int (nI i)), (2, .long d9), (4, .int (nI (30 * i))), (8, .int (nI k)), (9, .int (nI z))]) hx hb dX2_digestOf_244 hl (by decide) rfl (fun ls hl => ?_)
                    refine lv_iinc (v := nI (z + 1)) (lv' := [(9, .int (nI (z + 1))), (6, .long ((dq * 31) + ((nw (30 * i + 6 + (3 * k) + z)).toInt64))), (0, .ref (ad1 6)), (1, .int (nI i)), (2, .long d9), (4, .int (nI (30 * i))), (8, .int (nI k))]) hx hb dX2_digestOf_246 hl (k := 6) rfl (nI_add z 1) (by decide) rfl (fun ls hl => ?_)
                    refine lv_goto (tgt := 212) hx hb dX2_digestOf_249 (by decide) ?_
                    exact ih212 (z + 1) ((dq * 31) + ((nw (30 * i + 6 + (3 * k) + z)).toInt64)) (by omega) (by rw [hdq]; rfl) (by omega) _ _ _ hP hS (lv_sub hl [2, 3, 4, 5, 1, 6, 0] rfl)
              exact loop212 (_ + 1) 0 dv (Nat.zero_le _) (rfl) (Nat.lt_succ_self _) _ _ _ hP hS (lv_sub hl [1, 2, 3, 4, 5, 6, 0] rfl)
        exact loop199 (_ + 1) 0 dv (Nat.zero_le _) (by rw [hd2, hdv, hk13]; rfl) (Nat.lt_succ_self _) _ _ _ hP hS (lv_sub hl [1, 2, 3, 4, 5, 0] rfl)
      · refine lv_aload hx hb dX2_digestOf_171 (lv_at hl 5 rfl) ?_
        refine lv_iload hx hb dX2_digestOf_173 (lv_at hl 7 rfl) ?_
        refine a_ild C0 hP (by omega) ((mw_ne (Or.inr hN10)).trans hT13) (by omega) (by omega) dX2_digestOf_175 ?_
        refine lv_istore (lv' := [(11, .int (F13 k)), (0, .ref (ad1 6)), (1, .int (nI i)), (2, .long d9), (4, .int (nI (30 * i))), (6, .long dv), (8, .ref (ad1 N)), (9, .int (nI 13)), (10, .int (nI k))]) hx hb dX2_digestOf_176 hl (by decide) rfl (fun ls hl => ?_)
        refine lv_lload hx hb dX2_digestOf_178 (lv_at hl 5 rfl) ?_
        refine lv_ldc2 (v := 31) hx hb C0.2.2.2.1 (wd_cl_X2_117 C0.2.2.2.2.1 _) dX2_digestOf_180 ?_
        refine lv_lmul hx hb dX2_digestOf_183 ?_
        refine lv_iload hx hb dX2_digestOf_184 (lv_at hl 0 rfl) ?_
        refine lv_i2l (v := (F13 k).toInt64) hx hb dX2_digestOf_186 rfl ?_
        refine lv_ladd hx hb dX2_digestOf_187 ?_
        refine lv_lstore (lv' := [(6, .long ((dv * 31) + ((F13 k).toInt64))), (11, .int (F13 k)), (0, .ref (ad1 6)), (1, .int (nI i)), (2, .long d9), (4, .int (nI (30 * i))), (8, .ref (ad1 N)), (9, .int (nI 13)), (10, .int (nI k))]) hx hb dX2_digestOf_188 hl (by decide) rfl (fun ls hl => ?_)
        refine lv_iinc (v := nI (k + 1)) (lv' := [(10, .int (nI (k + 1))), (6, .long ((dv * 31) + ((F13 k).toInt64))), (11, .int (F13 k)), (0, .ref (ad1 6)), (1, .int (nI i)), (2, .long d9), (4, .int (nI (30 * i))), (8, .ref (ad1 N)), (9, .int (nI 13))]) hx hb dX2_digestOf_190 hl (k := 8) rfl (nI_add k 1) (by decide) rfl (fun ls hl => ?_)
        refine lv_goto (tgt := 164) hx hb dX2_digestOf_193 (by decide) ?_
        exact ih164 (k + 1) ((dv * 31) + ((F13 k).toInt64)) (by omega) (by rw [hdv]; rfl) (by omega) _ _ _ hP hS (lv_sub hl [3, 4, 5, 6, 1, 7, 8, 0] rfl)
  exact loop164 (_ + 1) 0 d9 (Nat.zero_le _) (rfl) (Nat.lt_succ_self _) _ _ _ hP hS (lv_sub hl [6, 7, 8, 5, 3, 2, 1, 0] rfl)
