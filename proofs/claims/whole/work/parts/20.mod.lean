/-! the reference: its world, written over -/
abbrev mOb (ad : Nat → Nat) (th : Int32) (n : Nat) : va_E := .inr (2, [.int th, .int (nI n), .ref (ad 7), .ref (ad 8), .ref (ad 9)])
def mw (ad : Nat → Nat) (cA : Nat → ClassId) (c : Nat → va_E) (th : Int32) (n : Nat) (nw ah rw : Nat → Int32) : Nat → va_E := fun r =>
  if r = 6 then mOb ad th n else if r = 7 then .inl (cA 0, 150, .inl nw) else if r = 8 then .inl (cA 0, 150, .inl ah) else if r = 9 then .inl (cA 0, 24, .inl rw) else c r
section MW
variable {ad : Nat → Nat} {cA : Nat → ClassId} {c : Nat → va_E} {th th' : Int32} {n n' : Nat} {nw ah rw nw' ah' rw' : Nat → Int32}
theorem mw_at : MoAt ad cA (mw ad cA c th n nw ah rw) th n nw ah rw := by
  refine ⟨?_, ?_, ?_, ?_⟩ <;> simp [mw]
theorem mw_ne {r : Nat} (h : r < 6 ∨ 10 ≤ r) : mw ad cA c th n nw ah rw r = c r := by
  unfold mw
  rw [if_neg (by omega), if_neg (by omega), if_neg (by omega), if_neg (by omega)]
theorem mw_self (h : MoAt ad cA c th n nw ah rw) : mw ad cA c th n nw ah rw = c := by
  funext r
  obtain ⟨h0, h1, h2, h3⟩ := h
  unfold mw
  split
  · next e => rw [e, h0]
  · split
    · next e => rw [e, h1]
    · split
      · next e => rw [e, h2]
      · split
        · next e => rw [e, h3]
        · rfl
theorem mw_mw : mw ad cA (mw ad cA c th n nw ah rw) th' n' nw' ah' rw' = mw ad cA c th' n' nw' ah' rw' := by
  funext r
  by_cases h : r < 6 ∨ 10 ≤ r
  · rw [mw_ne h, mw_ne h, mw_ne h]
  · rcases (show r = 6 ∨ r = 7 ∨ r = 8 ∨ r = 9 by omega) with e | e | e | e <;> subst e <;> simp [mw]
theorem mw_6 : va_up (mw ad cA c th n nw ah rw) 6 (mOb ad th' n') = mw ad cA c th' n' nw ah rw := by
  funext r
  by_cases h : r = 6
  · subst h; simp [mw, va_up]
  · rw [va_up_ne _ _ h]
    simp [mw, h]
theorem mw_7 : va_up (mw ad cA c th n nw ah rw) 7 (.inl (cA 0, 150, .inl nw')) = mw ad cA c th n nw' ah rw := by
  funext r
  by_cases h : r = 7
  · subst h; simp [mw, va_up]
  · rw [va_up_ne _ _ h]
    simp [mw, h]
theorem mw_8 : va_up (mw ad cA c th n nw ah rw) 8 (.inl (cA 0, 150, .inl ah')) = mw ad cA c th n nw ah' rw := by
  funext r
  by_cases h : r = 8
  · subst h; simp [mw, va_up]
  · rw [va_up_ne _ _ h]
    simp [mw, h]
theorem mw_9 : va_up (mw ad cA c th n nw ah rw) 9 (.inl (cA 0, 24, .inl rw')) = mw ad cA c th n nw ah rw' := by
  funext r
  by_cases h : r = 9
  · subst h; simp [mw, va_up]
  · rw [va_up_ne _ _ h]
    simp [mw, h]
end MW
/-- a hand's row of numbers -/
def RowE (f : Nat → Int32) (a R Y L S D K : Nat) : Prop := f (a + 0) = nI R ∧ f (a + 1) = nI Y ∧ f (a + 2) = nI L ∧ f (a + 3) = nI S ∧ f (a + 4) = nI D ∧ f (a + 5) = nI K
/-- its stones -/
def sto (f : Nat → Int32) (a : Nat) : Nat → Nat → Int32 := fun k p => f (a + 6 + 3 * p + k)
def Out (f' f : Nat → Int32) (a : Nat) : Prop := ∀ i, i < a ∨ a + 30 ≤ i → f' i = f i
def put3 (f : Nat → Int32) (t : Nat) (v w k : Int32) : Nat → Int32 := upd (upd (upd f t v) (t + 1) w) (t + 2) k
theorem put3_sto {f : Nat → Int32} {a p : Nat} {v w t : Int32} {k q : Nat} (hk : k < 3) : put3 f (a + 6 + 3 * p) v w t (a + 6 + 3 * q + k) = stU (stU (stU (sto f a) 0 p v) 1 p w) 2 p t k q := by
  by_cases hq : q = p
  · subst hq
    rcases (show k = 0 ∨ k = 1 ∨ k = 2 by omega) with rfl | rfl | rfl <;> simp [put3, stU, upd]
  · have h0 : ¬ a + 6 + 3 * q + k = a + 6 + 3 * p + 2 := by omega
    have h1 : ¬ a + 6 + 3 * q + k = a + 6 + 3 * p + 1 := by omega
    have h2 : ¬ a + 6 + 3 * q + k = a + 6 + 3 * p := by omega
    rw [show put3 f (a + 6 + 3 * p) v w t (a + 6 + 3 * q + k) = f (a + 6 + 3 * q + k) from by simp [put3, upd, h0, h1, h2]]
    rcases (show k = 0 ∨ k = 1 ∨ k = 2 by omega) with rfl | rfl | rfl <;> simp [stU, upd, hq, sto]
theorem put3_ne {f : Nat → Int32} {t : Nat} {v w k : Int32} {i : Nat} (h : i < t ∨ t + 3 ≤ i) : put3 f t v w k i = f i := by
  have h0 : ¬ i = t + 2 := by omega
  have h1 : ¬ i = t + 1 := by omega
  have h2 : ¬ i = t := by omega
  simp [put3, upd, h0, h1, h2]
section MRW
variable {p : Program} {l : Launch} {e : Env} {R : Room} {s : State} {m : MethodId} {args : Array Value} {below : List Frame} {meth : Method} {c0 : Code} {H : Heap} {locs : List Loc} {cells slots : Nat} {Q : State → Prop}
variable {cc : ByteArray} {nL : Nat} {own : String} {D : va_G} {cA : Nat → ClassId} {N : Nat} {ad : Nat → Nat} {A : Nat → Prop} {pc : Nat} {ls : Array Slot} {rest st0 : List Value} {lv : List (Nat × Value)} {c : Nat → va_E} {th : Int32} {n : Nat} {nw ah rw : Nat → Int32}
theorem a_ildE (C0 : Cx p s m c0 cc nL own D cA N ad A) (hP : va_P D vwCl (wl N ad c) H) {r : Nat} (hr : r < N) {n j : Nat} {f : Nat → Int32} {x : Int32} (hc : c r = .inl (cA 0, n, .inl f)) (hn : n < 2 ^ 31) (hj : j < n) (hx : f j = x) (hdg : decode cc pc = .ok (.iaload, 1)) (kk : W p l e R s m args below meth c0 H locs cells slots Q (F0 m (pc + 1) ls (.int x :: rest))) : W p l e R s m args below meth c0 H locs cells slots Q (F0 m pc ls (.int (nI j) :: .ref (ad r) :: rest)) := by
  subst hx
  exact a_ild C0 hP hr hc hn hj hdg kk
theorem pm_th (C0 : Cx p s m c0 cc nL RX2 D cA N ad A) (hN : 10 ≤ N) {x : Int32} (hP : va_P D vwCl (wl N ad (mw ad cA c th n nw ah rw)) H) (hS : va_S A s.heap H locs) (hdg : decode cc pc = .ok (.putfield 19, 3)) (kk : ∀ (H1 : Heap) (locs1 : List Loc), va_P D vwCl (wl N ad (mw ad cA c x n nw ah rw)) H1 → va_S A s.heap H1 locs1 → W p l e R s m args below meth c0 H1 locs1 cells slots Q (F0 m (pc + 3) ls rest)) : W p l e R s m args below meth c0 H locs cells slots Q (F0 m pc ls (.int x :: .ref (ad 6) :: rest)) :=
  pf_X2_19 C0 hP hS (by omega) mw_at.1 (Nat.le_of_ble_eq_true rfl) hdg (fun H1 locs1 h1 h3 => kk H1 locs1 (by have h1 : va_P D vwCl (wl N ad (va_up (mw ad cA c th n nw ah rw) 6 (mOb ad x n))) H1 := h1; rw [mw_6] at h1; exact h1) h3)
theorem pm_n (C0 : Cx p s m c0 cc nL RX2 D cA N ad A) (hN : 10 ≤ N) {x : Nat} (hP : va_P D vwCl (wl N ad (mw ad cA c th n nw ah rw)) H) (hS : va_S A s.heap H locs) (hdg : decode cc pc = .ok (.putfield 23, 3)) (kk : ∀ (H1 : Heap) (locs1 : List Loc), va_P D vwCl (wl N ad (mw ad cA c th x nw ah rw)) H1 → va_S A s.heap H1 locs1 → W p l e R s m args below meth c0 H1 locs1 cells slots Q (F0 m (pc + 3) ls rest)) : W p l e R s m args below meth c0 H locs cells slots Q (F0 m pc ls (.int (nI x) :: .ref (ad 6) :: rest)) :=
  pf_X2_23 C0 hP hS (by omega) mw_at.1 (Nat.le_of_ble_eq_true rfl) hdg (fun H1 locs1 h1 h3 => kk H1 locs1 (by have h1 : va_P D vwCl (wl N ad (va_up (mw ad cA c th n nw ah rw) 6 (mOb ad th x))) H1 := h1; rw [mw_6] at h1; exact h1) h3)
/-- System.arraycopy of rows of ints -/
theorem a_copy (C0 : Cx p s m c0 cc nL RX2 D cA N ad A) (hl : lv_has ls nL lv) (hP : va_P D vwCl (wl N ad c) H) (hS : va_S A s.heap H locs) {r0 r1 n0 n1 sp dp k : Nat} {f g : Nat → Int32} (h0 : r0 < N) (h1 : r1 < N) (hc0 : c r0 = .inl (cA 0, n0, .inl f)) (hc1 : c r1 = .inl (cA 0, n1, .inl g)) (b0 : sp < 2 ^ 20) (b1 : dp < 2 ^ 20) (b2 : k < 2 ^ 20) (h4 : sp + k ≤ n0) (h5 : dp + k ≤ n1) (hRf : 1 ≤ R.frames) (hRl : (rest.map fun v => v.category).sum + (nativeFrameWords "java/lang/System" "arraycopy" 5 + 11) ≤ R.locals) (hdg : decode cc pc = .ok (.invokestatic 34, 3))
    (kk : ∀ (H1 : Heap) (locs1 : List Loc), va_P D vwCl (wl N ad (va_up c r1 (.inl (cA 0, n1, .inl (va_cpy f g sp dp k))))) H1 → va_S A s.heap H1 locs1 → W p l e R s m args below meth c0 H1 locs1 cells slots Q (F0 m (pc + 3) ls rest)) : W p l e R s m args below meth c0 H locs cells slots Q (F0 m pc ls (.int (nI k) :: .int (nI dp) :: .ref (ad r1) :: .int (nI sp) :: .ref (ad r0) :: rest)) := by
  have e1 : (nI sp).toNatClampNeg = sp := nI_clamp (by omega)
  have e2 : (nI dp).toNatClampNeg = dp := nI_clamp (by omega)
  have e3 : (nI k).toNatClampNeg = k := nI_clamp (by omega)
  refine va_copyi (ty := .int) C0.1 C0.2.1 (C0.2.2.1.trans hl.1.symm) C0.2.2.2.1 (C0.2.2.2.2.1.2.1 (.methodLink RX2 34 arraycopyName) (List.mem_append_right _ (List.mem_of_getElem? (i := 590) (by decide +kernel : tables_1[590]? = some (.methodLink RX2 34 arraycopyName)))) (by decide +kernel) args) (C0.2.2.2.2.1.2.1 (.native arraycopyName) (List.mem_append_right _ (List.mem_of_getElem? (i := 592) (by decide +kernel : tables_1[592]? = some (.native arraycopyName)))) (by decide +kernel) args) (C0.2.2.2.2.1.2.1 (.static arraycopyName) (List.mem_append_right _ (List.mem_of_getElem? (i := 591) (by decide +kernel : tables_1[591]? = some (.static arraycopyName)))) (by decide +kernel) args) (C0.2.2.2.2.1.2.1 (.initialized "java/lang/System") (List.mem_append_right _ (List.mem_of_getElem? (i := 10) (by decide +kernel : tables_1[10]? = some (.initialized "java/lang/System")))) (by decide +kernel) args) C0.2.2.2.2.1.1 hP (C0.2.2.2.2.2.2.1.D c) hS r0 r1 0 0 (wl_get h0 hc0) (wl_get h1 hc1) rfl rfl rfl (nI_pos (by omega)) (nI_pos (by omega)) (nI_pos (by omega)) (by rw [e1, e3]; exact h4) (by rw [e2, e3]; exact h5) (fun _ _ => rfl) hRf hRl hdg (fun H1 locs1 g1 _ g3 => kk H1 locs1 (by rw [wl_set, e1, e2, e3] at g1; exact g1) g3)
end MRW
theorem stT_congr {s1 s2 : Nat → Nat → Int32} (h : ∀ k q, k < 3 → s1 k q = s2 k q) {p : Nat} {v w t : Int32} {k q : Nat} (hk : k < 3) : stU (stU (stU s1 0 p v) 1 p w) 2 p t k q = stU (stU (stU s2 0 p v) 1 p w) 2 p t k q := by
  have h0 := h 0 q (by omega)
  have h1 := h 1 q (by omega)
  have h2 := h 2 q (by omega)
  rcases (show k = 0 ∨ k = 1 ∨ k = 2 by omega) with rfl | rfl | rfl <;> simp [stU, upd, h0, h1, h2]
set_option maxHeartbeats 1000000 in
set_option maxRecDepth 10000 in
theorem m_X2_isWithin (l : Launch) (D : va_G) (cA : Nat → ClassId) (N : Nat) (ad : Nat → Nat) (c : Nat → va_E) (x lo hi : Int32)  : Ci l yX2_isWithin wX2_isWithin { frames := 0, cells := 0, slots := 0, locals := 0 } [.int x, .int lo, .int hi] D cA N ad c 0 0 (fun v c' => v = (if lo ≤ x ∧ x ≤ hi then 1 else 0) ∧ c = c') := by
  intro sz9
  refine bd_of (cc := cX2_isWithin) (maxL := 3) (ret := some Jvm.ClassFile.FieldType.boolean) (by decide) rfl (Nat.le_of_ble_eq_true rfl) ?_
  intro p e s m below meth c0 C0 hr hlk hnm hP hS hsz ls hl
  subst hsz
  have hx := C0.1
  have hb := C0.2.1
  have hl : lv_has ls 3 [(0, .int x), (1, .int lo), (2, .int hi)] := hl
  refine lv_iload_n hx hb dX2_isWithin_0 rfl (lv_at hl 0 rfl) ?_
  refine lv_iload_n hx hb dX2_isWithin_1 rfl (lv_at hl 1 rfl) ?_
  refine lv_icmp_lt (tgt := 14) hx hb dX2_isWithin_2 (by decide) (fun h2 => ?_) (fun h2 => ?_)
  · refine lv_iconst (v := nI 0) hx hb dX2_isWithin_14 rfl ?_
    exact e_z C0 hr hlk hP hS dX2_isWithin_15 (by decide) (by decide) (by decide +kernel) ⟨by rw [if_neg (fun q => i_nle h2 q.1)]; rfl, rfl⟩
  · refine lv_iload_n hx hb dX2_isWithin_5 rfl (lv_at hl 0 rfl) ?_
    refine lv_iload_n hx hb dX2_isWithin_6 rfl (lv_at hl 2 rfl) ?_
    refine lv_icmp_gt (tgt := 14) hx hb dX2_isWithin_7 (by decide) (fun h7 => ?_) (fun h7 => ?_)
    · refine lv_iconst (v := nI 0) hx hb dX2_isWithin_14 rfl ?_
      exact e_z C0 hr hlk hP hS dX2_isWithin_15 (by decide) (by decide) (by decide +kernel) ⟨by rw [if_neg (fun q => i_nle h7 q.2)]; rfl, rfl⟩
    · refine lv_iconst (v := nI 1) hx hb dX2_isWithin_10 rfl ?_
      refine lv_goto (tgt := 15) hx hb dX2_isWithin_11 (by decide) ?_
      exact e_z C0 hr hlk hP hS dX2_isWithin_15 (by decide) (by decide) (by decide +kernel) ⟨by rw [if_pos ⟨i_le h2, i_le h7⟩]; rfl, rfl⟩
set_option maxHeartbeats 1000000 in
set_option maxRecDepth 10000 in
theorem m_X2_draw (l : Launch) (D : va_G) (cA : Nat → ClassId) (N : Nat) (ad : Nat → Nat) (c : Nat → va_E) (r a : Nat) (f : Nat → Int32) (L b : Nat) (hrN : r < N) (hc : c r = .inl (cA 0, 150, .inl f)) (ha : a + 30 ≤ 150) (hL : f (a + 2) = nI L) (hL9 : L ≤ 9999) (hb0 : 1 ≤ b) (hb3 : b < 2 ^ 31) : Ci l yX2_draw wX2_draw { frames := 0, cells := 0, slots := 0, locals := 0 } [.ref (ad r), .int (nI a), .int (nI b)] D cA N ad c 0 0 (fun v c' => v = nI (nl L % b) ∧ va_up c r (.inl (cA 0, 150, .inl (upd f (a + 2) (nI (nl L))))) = c') := by
  intro sz9
  refine bd_of (cc := cX2_draw) (maxL := 3) (ret := some Jvm.ClassFile.FieldType.int) (by decide) rfl (Nat.le_of_ble_eq_true rfl) ?_
  intro p e s m below meth c0 C0 hr hlk hnm hP hS hsz ls hl
  subst hsz
  have hx := C0.1
  have hb := C0.2.1
  have hl : lv_has ls 3 [(0, .ref (ad r)), (1, .int (nI a)), (2, .int (nI b))] := hl
  have hnl := nl_lt L
  refine lv_aload_n hx hb dX2_draw_0 rfl (lv_at hl 0 rfl) ?_
  refine lv_iload_n hx hb dX2_draw_1 rfl (lv_at hl 1 rfl) ?_
  refine lv_iconst (v := nI 2) hx hb dX2_draw_2 rfl ?_
  refine n_iadd hx hb dX2_draw_3 ?_
  refine lv_aload_n hx hb dX2_draw_4 rfl (lv_at hl 0 rfl) ?_
  refine lv_iload_n hx hb dX2_draw_5 rfl (lv_at hl 1 rfl) ?_
  refine lv_iconst (v := nI 2) hx hb dX2_draw_6 rfl ?_
  refine n_iadd hx hb dX2_draw_7 ?_
  refine a_ildE C0 hP (by omega) hc (by omega) (by omega) hL dX2_draw_8 ?_
  refine lv_sipush (v := nI 4621) hx hb dX2_draw_9 rfl ?_
  refine n_imul hx hb dX2_draw_12 ?_
  refine lv_sipush (v := nI 2777) hx hb dX2_draw_13 rfl ?_
  refine n_iadd hx hb dX2_draw_16 ?_
  refine lv_sipush (v := nI 10000) hx hb dX2_draw_17 rfl ?_
  refine n_irem hx hb (by omega) (by omega) (by omega) dX2_draw_20 ?_
  refine a_ist C0 hP hS (by omega) hc (by omega) (by omega) dX2_draw_21 (fun H locs hP hS => ?_)
  obtain ⟨F1, hF1⟩ : ∃ z, z = upd f (a + 2) (nI ((L * 4621 + 2777) % 10000)) := ⟨_, rfl⟩
  rw [← hF1] at hP
  have kF1_n : F1 (a + 2) = nI ((L * 4621 + 2777) % 10000) := by rw [hF1]; exact pk_us
  have hF1 : F1 = upd f (a + 2) (nI (nl L)) := hF1
  have kF1_n : F1 (a + 2) = nI (nl L) := kF1_n
  refine lv_aload_n hx hb dX2_draw_22 rfl (lv_at hl 0 rfl) ?_
  refine lv_iload_n hx hb dX2_draw_23 rfl (lv_at hl 1 rfl) ?_
  refine lv_iconst (v := nI 2) hx hb dX2_draw_24 rfl ?_
  refine n_iadd hx hb dX2_draw_25 ?_
  refine a_ildE C0 hP (by omega) up_at (by omega) (by omega) kF1_n dX2_draw_26 ?_
  refine lv_iload_n hx hb dX2_draw_27 rfl (lv_at hl 2 rfl) ?_
  refine n_irem hx hb (by omega) (by omega) (by omega) dX2_draw_28 ?_
  exact e_i C0 hr hlk hP hS dX2_draw_29 (by decide) (by decide) ⟨rfl, by rw [hF1]⟩
set_option maxHeartbeats 1000000 in
set_option maxRecDepth 10000 in
theorem m_X2_put (l : Launch) (D : va_G) (cA : Nat → ClassId) (N : Nat) (ad : Nat → Nat) (c : Nat → va_E) (r t : Nat) (f : Nat → Int32) (v w k : Int32) (hrN : r < N) (hc : c r = .inl (cA 0, 150, .inl f)) (ht : t + 3 ≤ 150) : Cv l yX2_put wX2_put { frames := 0, cells := 0, slots := 0, locals := 0 } [.ref (ad r), .int (nI t), .int v, .int w, .int k] D cA N ad c 0 0 (fun c' => va_up c r (.inl (cA 0, 150, .inl (put3 f t v w k))) = c') := by
  intro sz9
  refine bd_of (cc := cX2_put) (maxL := 5) (ret := none) (by decide) rfl (Nat.le_of_ble_eq_true rfl) ?_
  intro p e s m below meth c0 C0 hr hlk hnm hP hS hsz ls hl
  subst hsz
  have hx := C0.1
  have hb := C0.2.1
  have hl : lv_has ls 5 [(0, .ref (ad r)), (1, .int (nI t)), (2, .int v), (3, .int w), (4, .int k)] := hl
  refine lv_aload_n hx hb dX2_put_0 rfl (lv_at hl 0 rfl) ?_
  refine lv_iload_n hx hb dX2_put_1 rfl (lv_at hl 1 rfl) ?_
  refine lv_iload_n hx hb dX2_put_2 rfl (lv_at hl 2 rfl) ?_
  refine a_ist C0 hP hS (by omega) hc (by omega) (by omega) dX2_put_3 (fun H locs hP hS => ?_)
  obtain ⟨F1, hF1⟩ : ∃ z, z = upd f t v := ⟨_, rfl⟩
  rw [← hF1] at hP
  refine lv_aload_n hx hb dX2_put_4 rfl (lv_at hl 0 rfl) ?_
  refine lv_iload_n hx hb dX2_put_5 rfl (lv_at hl 1 rfl) ?_
  refine lv_iconst (v := nI 1) hx hb dX2_put_6 rfl ?_
  refine n_iadd hx hb dX2_put_7 ?_
  refine lv_iload_n hx hb dX2_put_8 rfl (lv_at hl 3 rfl) ?_
  refine a_ist C0 hP hS (by omega) up_at (by omega) (by omega) dX2_put_9 (fun H locs hP hS => ?_)
  obtain ⟨F2, hF2⟩ : ∃ z, z = upd F1 (t + 1) w := ⟨_, rfl⟩
  rw [← hF2] at hP
  rw [bx_uu] at hP
  refine lv_aload_n hx hb dX2_put_10 rfl (lv_at hl 0 rfl) ?_
  refine lv_iload_n hx hb dX2_put_11 rfl (lv_at hl 1 rfl) ?_
  refine lv_iconst (v := nI 2) hx hb dX2_put_12 rfl ?_
  refine n_iadd hx hb dX2_put_13 ?_
  refine lv_iload hx hb dX2_put_14 (lv_at hl 4 rfl) ?_
  refine a_ist C0 hP hS (by omega) up_at (by omega) (by omega) dX2_put_16 (fun H locs hP hS => ?_)
  obtain ⟨F3, hF3⟩ : ∃ z, z = upd F2 (t + 2) k := ⟨_, rfl⟩
  rw [← hF3] at hP
  rw [bx_uu] at hP
  exact e_v C0 hr hlk hP hS dX2_put_17 (by decide) (by decide) (by rw [hF3, hF2, hF1]; rfl)
set_option maxHeartbeats 1000000 in
set_option maxRecDepth 10000 in
theorem m_X2_come (l : Launch) (D : va_G) (cA : Nat → ClassId) (N : Nat) (ad : Nat → Nat) (c : Nat → va_E) (r a : Nat) (f : Nat → Int32) (R Y L S D9 K : Nat) (x : Int32) (w : Nat) (hrN : r < N) (hc : c r = .inl (cA 0, 150, .inl f)) (ha : a + 30 ≤ 150) (hrow : RowE f a R Y L S D9 K) (hR0 : 1 ≤ R) (hR : R ≤ 8) (hK : K ≤ R) (hL : L ≤ 9999) (hS3 : S < 2 ^ 29) (hD3 : D9 < 2 ^ 29) (hY : Y < 2 ^ 30) (hw0 : 1 ≤ w) (hw9 : w ≤ 9) : Ci l yX2_come wX2_come { frames := 1, cells := 0, slots := 0, locals := 24 } [.ref (ad r), .int (nI a), .int x, .int (nI w)] D cA N ad c 0 0 (fun v c' => ∃ f', v = oI (pk R Y L (S + 1) (D9 + w) K w).1 ∧ va_up c r (.inl (cA 0, 150, .inl f')) = c' ∧ RowE f' a R Y (pk R Y L (S + 1) (D9 + w) K w).2.1 (S + 1) (D9 + w) (pk R Y L (S + 1) (D9 + w) K w).2.2 ∧ (∀ k q, k < 3 → sto f' a k q = stT (sto f a) (pk R Y L (S + 1) (D9 + w) K w).1 x (nI w) (nI (S + 1)) k q) ∧ Out f' f a) := by
  intro sz9
  refine bd_of (cc := cX2_come) (maxL := 5) (ret := some Jvm.ClassFile.FieldType.int) (by decide) rfl (Nat.le_of_ble_eq_true rfl) ?_
  intro p e s m below meth c0 C0 hr hlk hnm hP hS hsz ls hl
  subst hsz
  have hx := C0.1
  have hb := C0.2.1
  have hl : lv_has ls 5 [(0, .ref (ad r)), (1, .int (nI a)), (2, .int x), (3, .int (nI w))] := hl
  obtain ⟨h0, h1, h2, h3, h4, h5⟩ := id hrow
  have hnl := nl_lt L
  have hnl2 := nl_lt (nl L)
  have hm1 : nl L % (S + 1) < S + 1 := Nat.mod_lt _ (by omega)
  have hm2 : nl L % (D9 + w) < D9 + w := Nat.mod_lt _ (by omega)
  have hm3 : nl (nl L) % R < R := Nat.mod_lt _ hR0
  have hwR : w * R < 2 ^ 31 := Nat.lt_of_le_of_lt (Nat.mul_le_mul hw9 hR) (by decide)
  refine lv_aload_n hx hb dX2_come_0 rfl (lv_at hl 0 rfl) ?_
  refine lv_iload_n hx hb dX2_come_1 rfl (lv_at hl 1 rfl) ?_
  refine lv_iconst (v := nI 3) hx hb dX2_come_2 rfl ?_
  refine n_iadd hx hb dX2_come_3 ?_
  refine lv_dup2_11 hx hb dX2_come_4 rfl rfl ?_
  refine a_ildE C0 hP (by omega) hc (by omega) (by omega) h3 dX2_come_5 ?_
  refine lv_iconst (v := nI 1) hx hb dX2_come_6 rfl ?_
  refine n_iadd hx hb dX2_come_7 ?_
  refine a_ist C0 hP hS (by omega) hc (by omega) (by omega) dX2_come_8 (fun H locs hP hS => ?_)
  obtain ⟨F1, hF1⟩ : ∃ z, z = upd f (a + 3) (nI (S + 1)) := ⟨_, rfl⟩
  rw [← hF1] at hP
  have kF1_0 : F1 (a + 0) = nI R := by rw [hF1]; exact (pk_un (by omega)).trans h0
  have kF1_1 : F1 (a + 1) = nI Y := by rw [hF1]; exact (pk_un (by omega)).trans h1
  have kF1_2 : F1 (a + 2) = nI L := by rw [hF1]; exact (pk_un (by omega)).trans h2
  have kF1_4 : F1 (a + 4) = nI D9 := by rw [hF1]; exact (pk_un (by omega)).trans h4
  have kF1_5 : F1 (a + 5) = nI K := by rw [hF1]; exact (pk_un (by omega)).trans h5
  have kF1_n : F1 (a + 3) = nI (S + 1) := by rw [hF1]; exact pk_us
  have frF1 : ∀ i, i < a ∨ a + 6 ≤ i → F1 i = f i := fun i hi => by rw [hF1]; exact (pk_un (by omega)).trans ((fun _ _ => rfl) i hi)
  refine lv_aload_n hx hb dX2_come_9 rfl (lv_at hl 0 rfl) ?_
  refine lv_iload_n hx hb dX2_come_10 rfl (lv_at hl 1 rfl) ?_
  refine lv_iconst (v := nI 4) hx hb dX2_come_11 rfl ?_
  refine n_iadd hx hb dX2_come_12 ?_
  refine lv_dup2_11 hx hb dX2_come_13 rfl rfl ?_
  refine a_ildE C0 hP (by omega) up_at (by omega) (by omega) kF1_4 dX2_come_14 ?_
  refine lv_iload_n hx hb dX2_come_15 rfl (lv_at hl 3 rfl) ?_
  refine n_iadd hx hb dX2_come_16 ?_
  refine a_ist C0 hP hS (by omega) up_at (by omega) (by omega) dX2_come_17 (fun H locs hP hS => ?_)
  obtain ⟨F2, hF2⟩ : ∃ z, z = upd F1 (a + 4) (nI (D9 + w)) := ⟨_, rfl⟩
  rw [← hF2] at hP
  have kF2_0 : F2 (a + 0) = nI R := by rw [hF2]; exact (pk_un (by omega)).trans kF1_0
  have kF2_1 : F2 (a + 1) = nI Y := by rw [hF2]; exact (pk_un (by omega)).trans kF1_1
  have kF2_2 : F2 (a + 2) = nI L := by rw [hF2]; exact (pk_un (by omega)).trans kF1_2
  have kF2_4 : F2 (a + 5) = nI K := by rw [hF2]; exact (pk_un (by omega)).trans kF1_5
  have kF2_5 : F2 (a + 3) = nI (S + 1) := by rw [hF2]; exact (pk_un (by omega)).trans kF1_n
  have kF2_n : F2 (a + 4) = nI (D9 + w) := by rw [hF2]; exact pk_us
  have frF2 : ∀ i, i < a ∨ a + 6 ≤ i → F2 i = f i := fun i hi => by rw [hF2]; exact (pk_un (by omega)).trans (frF1 i hi)
  rw [bx_uu] at hP
  refine lv_aload_n hx hb dX2_come_18 rfl (lv_at hl 0 rfl) ?_
  refine lv_iload_n hx hb dX2_come_19 rfl (lv_at hl 1 rfl) ?_
  refine lv_iconst (v := nI 5) hx hb dX2_come_20 rfl ?_
  refine n_iadd hx hb dX2_come_21 ?_
  refine a_ildE C0 hP (by omega) up_at (by omega) (by omega) kF2_4 dX2_come_22 ?_
  refine lv_aload_n hx hb dX2_come_23 rfl (lv_at hl 0 rfl) ?_
  refine lv_iload_n hx hb dX2_come_24 rfl (lv_at hl 1 rfl) ?_
  refine lv_iconst (v := nI 0) hx hb dX2_come_25 rfl ?_
  refine n_iadd hx hb dX2_come_26 ?_
  refine a_ildE C0 hP (by omega) up_at (by omega) (by omega) kF2_0 dX2_come_27 ?_
  refine n_icmp_ge (tgt := 50) hx hb (by omega) (by omega) dX2_come_28 (by decide) (fun h28 => ?_) (fun h28 => ?_)
  · refine lv_aload_n hx hb dX2_come_50 rfl (lv_at hl 0 rfl) ?_
    refine lv_iload_n hx hb dX2_come_51 rfl (lv_at hl 1 rfl) ?_
    refine lv_iconst (v := nI 1) hx hb dX2_come_52 rfl ?_
    refine n_iadd hx hb dX2_come_53 ?_
    refine a_ildE C0 hP (by omega) up_at (by omega) (by omega) kF2_1 dX2_come_54 ?_
    refine n_if_ne (tgt := 82) hx hb (by omega) dX2_come_55 (by decide) (fun h55 => ?_) (fun h55 => ?_)
    · refine lv_aload_n hx hb dX2_come_82 rfl (lv_at hl 0 rfl) ?_
      refine lv_iload_n hx hb dX2_come_83 rfl (lv_at hl 1 rfl) ?_
      refine lv_aload_n hx hb dX2_come_84 rfl (lv_at hl 0 rfl) ?_
      refine lv_iload_n hx hb dX2_come_85 rfl (lv_at hl 1 rfl) ?_
      refine lv_iconst (v := nI 4) hx hb dX2_come_86 rfl ?_
      refine n_iadd hx hb dX2_come_87 ?_
      refine a_ildE C0 hP (by omega) up_at (by omega) (by omega) kF2_n dX2_come_88 ?_
      refine k0_i (rn_X2_26 (As := [.ref (ad r), .int (nI a), .int (nI (D9 + w))]) (rest := []) C0 (m_X2_draw l D cA N ad (va_up c r (.inl (cA 0, 150, .inl F2))) r a F2 L (D9 + w) (by omega) up_at (by omega) kF2_2 (by omega) (by omega) (by omega) _) hP hS rfl ⟨rfl, rfl⟩ ⟨by decide, by decide⟩ hl.1 rfl (Nat.le_of_ble_eq_true rfl) dX2_come_89 ⟨Nat.le_of_ble_eq_true rfl, Nat.le_of_ble_eq_true rfl⟩) C0 hP hS (fun v89 c89 H locs hp hP hS => ?_)
      obtain ⟨rfl, rfl⟩ := hp
      obtain ⟨F3, hF3⟩ : ∃ z, z = upd F2 (a + 2) (nI (nl L)) := ⟨_, rfl⟩
      rw [← hF3] at hP
      have kF3_0 : F3 (a + 0) = nI R := by rw [hF3]; exact (pk_un (by omega)).trans kF2_0
      have kF3_1 : F3 (a + 1) = nI Y := by rw [hF3]; exact (pk_un (by omega)).trans kF2_1
      have kF3_3 : F3 (a + 5) = nI K := by rw [hF3]; exact (pk_un (by omega)).trans kF2_4
      have kF3_4 : F3 (a + 3) = nI (S + 1) := by rw [hF3]; exact (pk_un (by omega)).trans kF2_5
      have kF3_5 : F3 (a + 4) = nI (D9 + w) := by rw [hF3]; exact (pk_un (by omega)).trans kF2_n
      have kF3_n : F3 (a + 2) = nI (nl L) := by rw [hF3]; exact pk_us
      have frF3 : ∀ i, i < a ∨ a + 6 ≤ i → F3 i = f i := fun i hi => by rw [hF3]; exact (pk_un (by omega)).trans (frF2 i hi)
      rw [bx_uu] at hP
      refine lv_iload_n hx hb dX2_come_92 rfl (lv_at hl 3 rfl) ?_
      refine lv_aload_n hx hb dX2_come_93 rfl (lv_at hl 0 rfl) ?_
      refine lv_iload_n hx hb dX2_come_94 rfl (lv_at hl 1 rfl) ?_
      refine lv_iconst (v := nI 0) hx hb dX2_come_95 rfl ?_
      refine n_iadd hx hb dX2_come_96 ?_
      refine a_ildE C0 hP (by omega) up_at (by omega) (by omega) kF3_0 dX2_come_97 ?_
      refine n_imul hx hb dX2_come_98 ?_
      refine n_icmp_lt (tgt := 104) hx hb (by omega) (by omega) dX2_come_99 (by decide) (fun h99 => ?_) (fun h99 => ?_)
      · refine lv_aload_n hx hb dX2_come_104 rfl (lv_at hl 0 rfl) ?_
        refine lv_iload_n hx hb dX2_come_105 rfl (lv_at hl 1 rfl) ?_
        refine lv_aload_n hx hb dX2_come_106 rfl (lv_at hl 0 rfl) ?_
        refine lv_iload_n hx hb dX2_come_107 rfl (lv_at hl 1 rfl) ?_
        refine lv_iconst (v := nI 0) hx hb dX2_come_108 rfl ?_
        refine n_iadd hx hb dX2_come_109 ?_
        refine a_ildE C0 hP (by omega) up_at (by omega) (by omega) kF3_0 dX2_come_110 ?_
        refine k0_i (rn_X2_26 (As := [.ref (ad r), .int (nI a), .int (nI R)]) (rest := []) C0 (m_X2_draw l D cA N ad (va_up c r (.inl (cA 0, 150, .inl F3))) r a F3 (nl L) R (by omega) up_at (by omega) kF3_n (by omega) (by omega) (by omega) _) hP hS rfl ⟨rfl, rfl⟩ ⟨by decide, by decide⟩ hl.1 rfl (Nat.le_of_ble_eq_true rfl) dX2_come_111 ⟨Nat.le_of_ble_eq_true rfl, Nat.le_of_ble_eq_true rfl⟩) C0 hP hS (fun v111 c111 H locs hp hP hS => ?_)
        obtain ⟨rfl, rfl⟩ := hp
        obtain ⟨F4, hF4⟩ : ∃ z, z = upd F3 (a + 2) (nI (nl (nl L))) := ⟨_, rfl⟩
        rw [← hF4] at hP
        have kF4_0 : F4 (a + 0) = nI R := by rw [hF4]; exact (pk_un (by omega)).trans kF3_0
        have kF4_1 : F4 (a + 1) = nI Y := by rw [hF4]; exact (pk_un (by omega)).trans kF3_1
        have kF4_2 : F4 (a + 5) = nI K := by rw [hF4]; exact (pk_un (by omega)).trans kF3_3
        have kF4_3 : F4 (a + 3) = nI (S + 1) := by rw [hF4]; exact (pk_un (by omega)).trans kF3_4
        have kF4_4 : F4 (a + 4) = nI (D9 + w) := by rw [hF4]; exact (pk_un (by omega)).trans kF3_5
        have kF4_n : F4 (a + 2) = nI (nl (nl L)) := by rw [hF4]; exact pk_us
        have frF4 : ∀ i, i < a ∨ a + 6 ≤ i → F4 i = f i := fun i hi => by rw [hF4]; exact (pk_un (by omega)).trans (frF3 i hi)
        rw [bx_uu] at hP
        refine lv_istore (lv' := [(4, .int (nI (nl (nl L) % R))), (0, .ref (ad r)), (1, .int (nI a)), (2, .int x), (3, .int (nI w))]) hx hb dX2_come_114 hl (by decide) rfl (fun ls hl => ?_)
        refine lv_aload_n hx hb dX2_come_116 rfl (lv_at hl 1 rfl) ?_
        refine lv_iload_n hx hb dX2_come_117 rfl (lv_at hl 2 rfl) ?_
        refine lv_bipush (v := nI 6) hx hb dX2_come_118 rfl ?_
        refine n_iadd hx hb dX2_come_120 ?_
        refine lv_iconst (v := nI 3) hx hb dX2_come_121 rfl ?_
        refine lv_iload hx hb dX2_come_122 (lv_at hl 0 rfl) ?_
        refine n_imul hx hb dX2_come_124 ?_
        refine n_iadd hx hb dX2_come_125 ?_
        refine lv_iload_n hx hb dX2_come_126 rfl (lv_at hl 3 rfl) ?_
        refine lv_iload_n hx hb dX2_come_127 rfl (lv_at hl 4 rfl) ?_
        refine lv_aload_n hx hb dX2_come_128 rfl (lv_at hl 1 rfl) ?_
        refine lv_iload_n hx hb dX2_come_129 rfl (lv_at hl 2 rfl) ?_
        refine lv_iconst (v := nI 3) hx hb dX2_come_130 rfl ?_
        refine n_iadd hx hb dX2_come_131 ?_
        refine a_ildE C0 hP (by omega) up_at (by omega) (by omega) kF4_3 dX2_come_132 ?_
        refine k0_v (rn_X2_30 (As := [.ref (ad r), .int (nI (a + 6 + (3 * (nl (nl L) % R)))), .int x, .int (nI w), .int (nI (S + 1))]) (rest := []) C0 (m_X2_put l D cA N ad (va_up c r (.inl (cA 0, 150, .inl F4))) r (a + 6 + (3 * (nl (nl L) % R))) F4 (x) (nI w) (nI (S + 1)) (by omega) up_at (by omega) _) hP hS rfl ⟨rfl, rfl⟩ ⟨by decide, by decide⟩ hl.1 rfl (Nat.le_of_ble_eq_true rfl) dX2_come_133 ⟨Nat.le_of_ble_eq_true rfl, Nat.le_of_ble_eq_true rfl⟩) C0 hP hS (fun c133 H locs hp hP hS => ?_)
        obtain rfl := hp
        rw [bx_uu] at hP
        refine lv_iload hx hb dX2_come_136 (lv_at hl 0 rfl) ?_
        have hpk : (pk R Y L (S + 1) (D9 + w) K w) = (some (nl (nl L) % R), nl (nl L), K) := by unfold pk; rw [if_neg (by omega), if_neg h55, if_pos h99]
        rw [hpk]
        exact e_i C0 hr hlk hP hS dX2_come_138 (by decide) (by decide) ⟨(put3 F4 (a + 6 + 3 * (nl (nl L) % R)) x (nI w) (nI (S + 1))), rfl, rfl, ⟨(put3_ne (by omega)).trans kF4_0, (put3_ne (by omega)).trans kF4_1, (put3_ne (by omega)).trans kF4_n, (put3_ne (by omega)).trans kF4_3, (put3_ne (by omega)).trans kF4_4, (put3_ne (by omega)).trans kF4_2⟩, fun k q hk => (put3_sto hk).trans (stT_congr (fun k q hk => frF4 _ (by omega)) hk), fun i hi => (put3_ne (by omega)).trans (frF4 i (by omega))⟩
      · refine lv_iconst (v := (-1)) hx hb dX2_come_102 rfl ?_
        have hpk : (pk R Y L (S + 1) (D9 + w) K w) = (none, nl L, K) := by unfold pk; rw [if_neg (by omega), if_neg h55, if_neg (by omega)]
        rw [hpk]
        exact e_i C0 hr hlk hP hS dX2_come_103 (by decide) (by decide) ⟨F3, rfl, rfl, ⟨kF3_0, kF3_1, kF3_n, kF3_4, kF3_5, kF3_3⟩, fun k q hk => frF3 _ (by omega), fun i hi => frF3 i (by omega)⟩
    · refine lv_aload_n hx hb dX2_come_58 rfl (lv_at hl 0 rfl) ?_
      refine lv_iload_n hx hb dX2_come_59 rfl (lv_at hl 1 rfl) ?_
      refine lv_aload_n hx hb dX2_come_60 rfl (lv_at hl 0 rfl) ?_
      refine lv_iload_n hx hb dX2_come_61 rfl (lv_at hl 1 rfl) ?_
      refine lv_iconst (v := nI 3) hx hb dX2_come_62 rfl ?_
      refine n_iadd hx hb dX2_come_63 ?_
      refine a_ildE C0 hP (by omega) up_at (by omega) (by omega) kF2_5 dX2_come_64 ?_
      refine k0_i (rn_X2_26 (As := [.ref (ad r), .int (nI a), .int (nI (S + 1))]) (rest := []) C0 (m_X2_draw l D cA N ad (va_up c r (.inl (cA 0, 150, .inl F2))) r a F2 L (S + 1) (by omega) up_at (by omega) kF2_2 (by omega) (by omega) (by omega) _) hP hS rfl ⟨rfl, rfl⟩ ⟨by decide, by decide⟩ hl.1 rfl (Nat.le_of_ble_eq_true rfl) dX2_come_65 ⟨Nat.le_of_ble_eq_true rfl, Nat.le_of_ble_eq_true rfl⟩) C0 hP hS (fun v65 c65 H locs hp hP hS => ?_)
      obtain ⟨rfl, rfl⟩ := hp
      obtain ⟨F5, hF5⟩ : ∃ z, z = upd F2 (a + 2) (nI (nl L)) := ⟨_, rfl⟩
      rw [← hF5] at hP
      have kF5_0 : F5 (a + 0) = nI R := by rw [hF5]; exact (pk_un (by omega)).trans kF2_0
      have kF5_1 : F5 (a + 1) = nI Y := by rw [hF5]; exact (pk_un (by omega)).trans kF2_1
      have kF5_3 : F5 (a + 5) = nI K := by rw [hF5]; exact (pk_un (by omega)).trans kF2_4
      have kF5_4 : F5 (a + 3) = nI (S + 1) := by rw [hF5]; exact (pk_un (by omega)).trans kF2_5
      have kF5_5 : F5 (a + 4) = nI (D9 + w) := by rw [hF5]; exact (pk_un (by omega)).trans kF2_n
      have kF5_n : F5 (a + 2) = nI (nl L) := by rw [hF5]; exact pk_us
      have frF5 : ∀ i, i < a ∨ a + 6 ≤ i → F5 i = f i := fun i hi => by rw [hF5]; exact (pk_un (by omega)).trans (frF2 i hi)
      rw [bx_uu] at hP
      refine lv_istore (lv' := [(4, .int (nI (nl L % (S + 1)))), (0, .ref (ad r)), (1, .int (nI a)), (2, .int x), (3, .int (nI w))]) hx hb dX2_come_68 hl (by decide) rfl (fun ls hl => ?_)
      refine lv_iload hx hb dX2_come_70 (lv_at hl 0 rfl) ?_
      refine lv_aload_n hx hb dX2_come_72 rfl (lv_at hl 1 rfl) ?_
      refine lv_iload_n hx hb dX2_come_73 rfl (lv_at hl 2 rfl) ?_
      refine lv_iconst (v := nI 0) hx hb dX2_come_74 rfl ?_
      refine n_iadd hx hb dX2_come_75 ?_
      refine a_ildE C0 hP (by omega) up_at (by omega) (by omega) kF5_0 dX2_come_76 ?_
      refine n_icmp_lt (tgt := 116) hx hb (by omega) (by omega) dX2_come_77 (by decide) (fun h77 => ?_) (fun h77 => ?_)
      · refine lv_aload_n hx hb dX2_come_116 rfl (lv_at hl 1 rfl) ?_
        refine lv_iload_n hx hb dX2_come_117 rfl (lv_at hl 2 rfl) ?_
        refine lv_bipush (v := nI 6) hx hb dX2_come_118 rfl ?_
        refine n_iadd hx hb dX2_come_120 ?_
        refine lv_iconst (v := nI 3) hx hb dX2_come_121 rfl ?_
        refine lv_iload hx hb dX2_come_122 (lv_at hl 0 rfl) ?_
        refine n_imul hx hb dX2_come_124 ?_
        refine n_iadd hx hb dX2_come_125 ?_
        refine lv_iload_n hx hb dX2_come_126 rfl (lv_at hl 3 rfl) ?_
        refine lv_iload_n hx hb dX2_come_127 rfl (lv_at hl 4 rfl) ?_
        refine lv_aload_n hx hb dX2_come_128 rfl (lv_at hl 1 rfl) ?_
        refine lv_iload_n hx hb dX2_come_129 rfl (lv_at hl 2 rfl) ?_
        refine lv_iconst (v := nI 3) hx hb dX2_come_130 rfl ?_
        refine n_iadd hx hb dX2_come_131 ?_
        refine a_ildE C0 hP (by omega) up_at (by omega) (by omega) kF5_4 dX2_come_132 ?_
        refine k0_v (rn_X2_30 (As := [.ref (ad r), .int (nI (a + 6 + (3 * (nl L % (S + 1))))), .int x, .int (nI w), .int (nI (S + 1))]) (rest := []) C0 (m_X2_put l D cA N ad (va_up c r (.inl (cA 0, 150, .inl F5))) r (a + 6 + (3 * (nl L % (S + 1)))) F5 (x) (nI w) (nI (S + 1)) (by omega) up_at (by omega) _) hP hS rfl ⟨rfl, rfl⟩ ⟨by decide, by decide⟩ hl.1 rfl (Nat.le_of_ble_eq_true rfl) dX2_come_133 ⟨Nat.le_of_ble_eq_true rfl, Nat.le_of_ble_eq_true rfl⟩) C0 hP hS (fun c133 H locs hp hP hS => ?_)
        obtain rfl := hp
        rw [bx_uu] at hP
        refine lv_iload hx hb dX2_come_136 (lv_at hl 0 rfl) ?_
        have hpk : (pk R Y L (S + 1) (D9 + w) K w) = (some (nl L % (S + 1)), nl L, K) := by unfold pk; rw [if_neg (by omega), if_pos h55, if_pos h77]
        rw [hpk]
        exact e_i C0 hr hlk hP hS dX2_come_138 (by decide) (by decide) ⟨(put3 F5 (a + 6 + 3 * (nl L % (S + 1))) x (nI w) (nI (S + 1))), rfl, rfl, ⟨(put3_ne (by omega)).trans kF5_0, (put3_ne (by omega)).trans kF5_1, (put3_ne (by omega)).trans kF5_n, (put3_ne (by omega)).trans kF5_4, (put3_ne (by omega)).trans kF5_5, (put3_ne (by omega)).trans kF5_3⟩, fun k q hk => (put3_sto hk).trans (stT_congr (fun k q hk => frF5 _ (by omega)) hk), fun i hi => (put3_ne (by omega)).trans (frF5 i (by omega))⟩
      · refine lv_iconst (v := (-1)) hx hb dX2_come_80 rfl ?_
        have hpk : (pk R Y L (S + 1) (D9 + w) K w) = (none, nl L, K) := by unfold pk; rw [if_neg (by omega), if_pos h55, if_neg (by omega)]
        rw [hpk]
        exact e_i C0 hr hlk hP hS dX2_come_81 (by decide) (by decide) ⟨F5, rfl, rfl, ⟨kF5_0, kF5_1, kF5_n, kF5_4, kF5_5, kF5_3⟩, fun k q hk => frF5 _ (by omega), fun i hi => frF5 i (by omega)⟩
  · refine lv_aload_n hx hb dX2_come_31 rfl (lv_at hl 0 rfl) ?_
    refine lv_iload_n hx hb dX2_come_32 rfl (lv_at hl 1 rfl) ?_
    refine lv_iconst (v := nI 5) hx hb dX2_come_33 rfl ?_
    refine n_iadd hx hb dX2_come_34 ?_
    refine a_ildE C0 hP (by omega) up_at (by omega) (by omega) kF2_4 dX2_come_35 ?_
    refine lv_istore (lv' := [(4, .int (nI K)), (0, .ref (ad r)), (1, .int (nI a)), (2, .int x), (3, .int (nI w))]) hx hb dX2_come_36 hl (by decide) rfl (fun ls hl => ?_)
    refine lv_aload_n hx hb dX2_come_38 rfl (lv_at hl 1 rfl) ?_
    refine lv_iload_n hx hb dX2_come_39 rfl (lv_at hl 2 rfl) ?_
    refine lv_iconst (v := nI 5) hx hb dX2_come_40 rfl ?_
    refine n_iadd hx hb dX2_come_41 ?_
    refine lv_dup2_11 hx hb dX2_come_42 rfl rfl ?_
    refine a_ildE C0 hP (by omega) up_at (by omega) (by omega) kF2_4 dX2_come_43 ?_
    refine lv_iconst (v := nI 1) hx hb dX2_come_44 rfl ?_
    refine n_iadd hx hb dX2_come_45 ?_
    refine a_ist C0 hP hS (by omega) up_at (by omega) (by omega) dX2_come_46 (fun H locs hP hS => ?_)
    obtain ⟨F6, hF6⟩ : ∃ z, z = upd F2 (a + 5) (nI (K + 1)) := ⟨_, rfl⟩
    rw [← hF6] at hP
    have kF6_0 : F6 (a + 0) = nI R := by rw [hF6]; exact (pk_un (by omega)).trans kF2_0
    have kF6_1 : F6 (a + 1) = nI Y := by rw [hF6]; exact (pk_un (by omega)).trans kF2_1
    have kF6_2 : F6 (a + 2) = nI L := by rw [hF6]; exact (pk_un (by omega)).trans kF2_2
    have kF6_4 : F6 (a + 3) = nI (S + 1) := by rw [hF6]; exact (pk_un (by omega)).trans kF2_5
    have kF6_5 : F6 (a + 4) = nI (D9 + w) := by rw [hF6]; exact (pk_un (by omega)).trans kF2_n
    have kF6_n : F6 (a + 5) = nI (K + 1) := by rw [hF6]; exact pk_us
    have frF6 : ∀ i, i < a ∨ a + 6 ≤ i → F6 i = f i := fun i hi => by rw [hF6]; exact (pk_un (by omega)).trans (frF2 i hi)
    rw [bx_uu] at hP
    refine lv_goto (tgt := 116) hx hb dX2_come_47 (by decide) ?_
    refine lv_aload_n hx hb dX2_come_116 rfl (lv_at hl 1 rfl) ?_
    refine lv_iload_n hx hb dX2_come_117 rfl (lv_at hl 2 rfl) ?_
    refine lv_bipush (v := nI 6) hx hb dX2_come_118 rfl ?_
    refine n_iadd hx hb dX2_come_120 ?_
    refine lv_iconst (v := nI 3) hx hb dX2_come_121 rfl ?_
    refine lv_iload hx hb dX2_come_122 (lv_at hl 0 rfl) ?_
    refine n_imul hx hb dX2_come_124 ?_
    refine n_iadd hx hb dX2_come_125 ?_
    refine lv_iload_n hx hb dX2_come_126 rfl (lv_at hl 3 rfl) ?_
    refine lv_iload_n hx hb dX2_come_127 rfl (lv_at hl 4 rfl) ?_
    refine lv_aload_n hx hb dX2_come_128 rfl (lv_at hl 1 rfl) ?_
    refine lv_iload_n hx hb dX2_come_129 rfl (lv_at hl 2 rfl) ?_
    refine lv_iconst (v := nI 3) hx hb dX2_come_130 rfl ?_
    refine n_iadd hx hb dX2_come_131 ?_
    refine a_ildE C0 hP (by omega) up_at (by omega) (by omega) kF6_4 dX2_come_132 ?_
    refine k0_v (rn_X2_30 (As := [.ref (ad r), .int (nI (a + 6 + (3 * K))), .int x, .int (nI w), .int (nI (S + 1))]) (rest := []) C0 (m_X2_put l D cA N ad (va_up c r (.inl (cA 0, 150, .inl F6))) r (a + 6 + (3 * K)) F6 (x) (nI w) (nI (S + 1)) (by omega) up_at (by omega) _) hP hS rfl ⟨rfl, rfl⟩ ⟨by decide, by decide⟩ hl.1 rfl (Nat.le_of_ble_eq_true rfl) dX2_come_133 ⟨Nat.le_of_ble_eq_true rfl, Nat.le_of_ble_eq_true rfl⟩) C0 hP hS (fun c133 H locs hp hP hS => ?_)
    obtain rfl := hp
    rw [bx_uu] at hP
    refine lv_iload hx hb dX2_come_136 (lv_at hl 0 rfl) ?_
    have hpk : (pk R Y L (S + 1) (D9 + w) K w) = (some (K), L, K + 1) := by unfold pk; rw [if_pos h28]
    rw [hpk]
    exact e_i C0 hr hlk hP hS dX2_come_138 (by decide) (by decide) ⟨(put3 F6 (a + 6 + 3 * K) x (nI w) (nI (S + 1))), rfl, rfl, ⟨(put3_ne (by omega)).trans kF6_0, (put3_ne (by omega)).trans kF6_1, (put3_ne (by omega)).trans kF6_2, (put3_ne (by omega)).trans kF6_4, (put3_ne (by omega)).trans kF6_5, (put3_ne (by omega)).trans kF6_n⟩, fun k q hk => (put3_sto hk).trans (stT_congr (fun k q hk => frF6 _ (by omega)) hk), fun i hi => (put3_ne (by omega)).trans (frF6 i (by omega))⟩
set_option maxHeartbeats 1000000 in
set_option maxRecDepth 10000 in
theorem m_X2_canJoin (l : Launch) (D : va_G) (cA : Nat → ClassId) (N : Nat) (ad : Nat → Nat) (c : Nat → va_E) (r a b : Nat) (f : Nat → Int32) (R Y Ro Yo : Nat) (hrN : r < N) (hc : c r = .inl (cA 0, 150, .inl f)) (ha : a + 30 ≤ 150) (hb : b + 30 ≤ 150) (h0 : f (a + 0) = nI R) (h1 : f (a + 1) = nI Y) (g0 : f (b + 0) = nI Ro) (g1 : f (b + 1) = nI Yo) (hR : R < 2 ^ 31) (hY : Y < 2 ^ 31) (hRo : Ro < 2 ^ 31) (hYo : Yo < 2 ^ 31) : Ci l yX2_canJoin wX2_canJoin { frames := 0, cells := 0, slots := 0, locals := 0 } [.ref (ad r), .int (nI a), .int (nI b)] D cA N ad c 0 0 (fun v c' => v = (if Y = 0 ∧ Yo = 0 ∧ R = Ro then 1 else 0) ∧ c = c') := by
  intro sz9
  refine bd_of (cc := cX2_canJoin) (maxL := 3) (ret := some Jvm.ClassFile.FieldType.boolean) (by decide) rfl (Nat.le_of_ble_eq_true rfl) ?_
  intro p e s m below meth c0 C0 hr hlk hnm hP hS hsz ls hl
  subst hsz
  have hx := C0.1
  have hb := C0.2.1
  have hl : lv_has ls 3 [(0, .ref (ad r)), (1, .int (nI a)), (2, .int (nI b))] := hl
  have hb9 := hb
  refine lv_aload_n hx hb dX2_canJoin_0 rfl (lv_at hl 0 rfl) ?_
  refine lv_iload_n hx hb dX2_canJoin_1 rfl (lv_at hl 1 rfl) ?_
  refine lv_iconst (v := nI 1) hx hb dX2_canJoin_2 rfl ?_
  refine n_iadd hx hb dX2_canJoin_3 ?_
  refine a_ildE C0 hP (by omega) hc (by omega) (by omega) h1 dX2_canJoin_4 ?_
  refine n_if_ne (tgt := 33) hx hb (by omega) dX2_canJoin_5 (by decide) (fun h5 => ?_) (fun h5 => ?_)
  · refine lv_iconst (v := nI 0) hx hb dX2_canJoin_33 rfl ?_
    exact e_z C0 hr hlk hP hS dX2_canJoin_34 (by decide) (by decide) (by decide +kernel) ⟨by first | (rw [if_pos (by omega)]; rfl) | (rw [if_neg (by omega)]; rfl), rfl⟩
  · refine lv_aload_n hx hb dX2_canJoin_8 rfl (lv_at hl 0 rfl) ?_
    refine lv_iload_n hx hb dX2_canJoin_9 rfl (lv_at hl 2 rfl) ?_
    refine lv_iconst (v := nI 1) hx hb dX2_canJoin_10 rfl ?_
    refine n_iadd hx hb dX2_canJoin_11 ?_
    refine a_ildE C0 hP (by omega) hc (by omega) (by omega) g1 dX2_canJoin_12 ?_
    refine n_if_ne (tgt := 33) hx hb (by omega) dX2_canJoin_13 (by decide) (fun h13 => ?_) (fun h13 => ?_)
    · refine lv_iconst (v := nI 0) hx hb dX2_canJoin_33 rfl ?_
      exact e_z C0 hr hlk hP hS dX2_canJoin_34 (by decide) (by decide) (by decide +kernel) ⟨by first | (rw [if_pos (by omega)]; rfl) | (rw [if_neg (by omega)]; rfl), rfl⟩
    · refine lv_aload_n hx hb dX2_canJoin_16 rfl (lv_at hl 0 rfl) ?_
      refine lv_iload_n hx hb dX2_canJoin_17 rfl (lv_at hl 1 rfl) ?_
      refine lv_iconst (v := nI 0) hx hb dX2_canJoin_18 rfl ?_
      refine n_iadd hx hb dX2_canJoin_19 ?_
      refine a_ildE C0 hP (by omega) hc (by omega) (by omega) h0 dX2_canJoin_20 ?_
      refine lv_aload_n hx hb dX2_canJoin_21 rfl (lv_at hl 0 rfl) ?_
      refine lv_iload_n hx hb dX2_canJoin_22 rfl (lv_at hl 2 rfl) ?_
      refine lv_iconst (v := nI 0) hx hb dX2_canJoin_23 rfl ?_
      refine n_iadd hx hb dX2_canJoin_24 ?_
      refine a_ildE C0 hP (by omega) hc (by omega) (by omega) g0 dX2_canJoin_25 ?_
      refine n_icmp_ne (tgt := 33) hx hb (by omega) (by omega) dX2_canJoin_26 (by decide) (fun h26 => ?_) (fun h26 => ?_)
      · refine lv_iconst (v := nI 0) hx hb dX2_canJoin_33 rfl ?_
        exact e_z C0 hr hlk hP hS dX2_canJoin_34 (by decide) (by decide) (by decide +kernel) ⟨by first | (rw [if_pos (by omega)]; rfl) | (rw [if_neg (by omega)]; rfl), rfl⟩
      · refine lv_iconst (v := nI 1) hx hb dX2_canJoin_29 rfl ?_
        refine lv_goto (tgt := 34) hx hb dX2_canJoin_30 (by decide) ?_
        exact e_z C0 hr hlk hP hS dX2_canJoin_34 (by decide) (by decide) (by decide +kernel) ⟨by first | (rw [if_pos (by omega)]; rfl) | (rw [if_neg (by omega)]; rfl), rfl⟩
