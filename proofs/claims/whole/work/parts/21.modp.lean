/-! the reference's own counts -/
def mrk (V : Nat → Int32) (p : Nat) : Nat → Nat
  | 0 => 0
  | k + 1 => mrk V p k + (if V k < V p ∨ (V k = V p ∧ k < p) then 1 else 0)
theorem i_irr {x : Int32} : ¬ x < x := by rw [Int32.lt_iff_toInt_lt]; omega
theorem mrk_split (V : Nat → Int32) (p : Nat) : ∀ k, mrk V p k = cntL V (V p) k + cntE V (V p) (min k p)
  | 0 => by simp [mrk, cntL, cntE]
  | k + 1 => by
    have ih := mrk_split V p k
    unfold mrk cntL
    by_cases hkp : k < p
    · rw [show min (k + 1) p = k + 1 by omega, show cntE V (V p) (k + 1) = cntE V (V p) k + (if V k = V p then 1 else 0) from rfl, ih, show min k p = k by omega]
      by_cases h1 : V k < V p
      · have h2 : ¬ V k = V p := fun e => i_irr (e ▸ h1)
        simp [h1, h2]; omega
      · by_cases h2 : V k = V p
        · simp [h1, h2, hkp, i_irr]; omega
        · simp [h1, h2]
    · rw [show min (k + 1) p = min k p by omega, ih]
      by_cases h1 : V k < V p
      · simp [h1]; omega
      · simp [h1, hkp]
theorem mrk_rk {V : Nat → Int32} {K p : Nat} (h : p ≤ K) : mrk V p K = rk V K p := by
  rw [mrk_split, show min K p = p by omega]
  unfold rk; omega
theorem mrk_le (V : Nat → Int32) (p : Nat) : ∀ k, mrk V p k ≤ k
  | 0 => Nat.le_refl 0
  | k + 1 => by have := mrk_le V p k; unfold mrk; split <;> omega
/-- a place that may have run out -/
def oP : Nat → Int32
  | 0 => -1
  | j + 1 => nI j
theorem oP_sub (K : Nat) : nI K - nI 1 = oP K := by
  cases K with
  | zero => decide
  | succ k => rw [pk_sub (by omega)]; rfl
theorem oP_dec (j : Nat) : nI j + Int32.ofInt (-1) = oP j := by
  cases j with
  | zero => decide
  | succ k => exact pk_m1 k
/-- ranks are apart -/
theorem cntL_mono {V : Nat → Int32} {x y : Int32} (h : x ≤ y) : ∀ k, cntL V x k ≤ cntL V y k
  | 0 => Nat.le_refl 0
  | k + 1 => by
    have := cntL_mono (V := V) h k
    unfold cntL
    by_cases h1 : V k < x
    · have h2 : V k < y := by
        rw [Int32.lt_iff_toInt_lt] at h1 ⊢
        rw [Int32.le_iff_toInt_le] at h
        omega
      simp [h1, h2]; omega
    · simp only [h1, if_false]; omega
theorem cnt_lt {V : Nat → Int32} {x y : Int32} (h : x < y) : ∀ k, cntL V x k + cntE V x k ≤ cntL V y k
  | 0 => Nat.le_refl 0
  | k + 1 => by
    have := cnt_lt (V := V) h k
    unfold cntL cntE
    by_cases h1 : V k < x
    · have h2 : V k < y := by rw [Int32.lt_iff_toInt_lt] at h h1 ⊢; omega
      have h3 : ¬ V k = x := fun e => i_irr (e ▸ h1)
      simp [h1, h2, h3]; omega
    · by_cases h3 : V k = x
      · simp [h3, h, i_irr]; omega
      · simp only [h1, h3, if_false]; omega
theorem cntE_mono {V : Nat → Int32} {x : Int32} {a b : Nat} (h : a ≤ b) : cntE V x a ≤ cntE V x b := by
  induction b with
  | zero => rw [show a = 0 by omega]; exact Nat.le_refl _
  | succ b ih =>
    by_cases e : a = b + 1
    · rw [e]; exact Nat.le_refl _
    · have := ih (by omega)
      show cntE V x a ≤ cntE V x b + _
      omega
theorem cntE_lt {V : Nat → Int32} {x : Int32} {a b : Nat} (h : a < b) (hx : V a = x) : cntE V x a < cntE V x b := by
  have h1 : cntE V x (a + 1) = cntE V x a + 1 := by show cntE V x a + (if V a = x then 1 else 0) = _; rw [if_pos hx]
  have h2 := cntE_mono (V := V) (x := x) (show a + 1 ≤ b from h)
  omega
theorem rk_lt {V : Nat → Int32} {K p : Nat} (h : p < K) : rk V K p < K := by
  rw [← mrk_rk (Nat.le_of_lt h)]
  have h1 : ∀ k, p < k → mrk V p k < k := by
    intro k
    induction k with
    | zero => intro h; exact absurd h (Nat.not_lt_zero _)
    | succ k ih =>
      intro hk
      show mrk V p k + _ < k + 1
      by_cases e : p = k
      · subst e
        have := mrk_le V p p
        rw [if_neg (fun q => by rcases q with q | q; exact i_irr q; exact absurd q.2 (Nat.lt_irrefl _))]
        omega
      · have := ih (by omega)
        split <;> omega
  exact h1 K h
theorem rk_inj {V : Nat → Int32} {K p q : Nat} (hp : p < K) (hq : q < K) (h : rk V K p = rk V K q) : p = q := by
  have key : ∀ a b, a < K → b < K → a < b → rk V K a ≠ rk V K b := by
    intro a b ha hb hab e
    unfold rk at e
    by_cases h1 : V a < V b
    · have c1 := cnt_lt (V := V) h1 K
      have c2 := cntE_lt (V := V) (x := V a) ha rfl
      omega
    · by_cases h2 : V b < V a
      · have c1 := cnt_lt (V := V) h2 K
        have c2 := cntE_lt (V := V) (x := V b) hb rfl
        omega
      · have h3 : V a = V b := by
          rw [Int32.lt_iff_toInt_lt] at h1 h2
          exact Int32.toInt_inj.mp (by omega)
        have c2 := cntE_lt (V := V) (x := V a) hab rfl
        rw [h3] at e c2
        omega
  rcases Nat.lt_trichotomy p q with e | e | e
  · exact absurd h (key p q hp hq e)
  · exact e
  · exact absurd h.symm (key q p hq hp e)
/-- a map of the first K numbers into themselves that keeps them apart reaches each -/
theorem pigeon : ∀ (K : Nat) (f : Nat → Nat), (∀ p, p < K → f p < K) → (∀ p q, p < K → q < K → f p = f q → p = q) → ∀ r, r < K → ∃ p, p < K ∧ f p = r
  | 0, _, _, _, r, h => absurd h (Nat.not_lt_zero _)
  | K + 1, f, hf, hi, r, hr => by
    by_cases hk : f K = r
    · exact ⟨K, by omega, hk⟩
    · -- send f K's place to the last number
      let g : Nat → Nat := fun p => if f p = K then f K else f p
      have hg : ∀ p, p < K → g p < K := by
        intro p hp
        show (if f p = K then f K else f p) < K
        split
        · next e =>
          have h1 := hf K (by omega)
          have h2 : f K ≠ K := fun e2 => by have := hi p K (by omega) (by omega) (e.trans e2.symm); omega
          omega
        · next e => have := hf p (by omega); omega
      have hgi : ∀ p q, p < K → q < K → g p = g q → p = q := by
        intro p q hp hq h
        have h : (if f p = K then f K else f p) = (if f q = K then f K else f q) := h
        by_cases e1 : f p = K
        · by_cases e2 : f q = K
          · exact hi p q (by omega) (by omega) (e1.trans e2.symm)
          · rw [if_pos e1, if_neg e2] at h
            have := hi K q (by omega) (by omega) h; omega
        · by_cases e2 : f q = K
          · rw [if_neg e1, if_pos e2] at h
            have := hi p K (by omega) (by omega) h; omega
          · rw [if_neg e1, if_neg e2] at h
            exact hi p q (by omega) (by omega) h
      by_cases hrK : r = K
      · -- r = K: is there p with f p = K? if not, g = f on K places
        by_cases hex : ∃ p, p < K ∧ f p = K
        · obtain ⟨p, hp, e⟩ := hex
          exact ⟨p, by omega, by rw [hrK]; exact e⟩
        · have hfK : ∀ p, p < K → f p < K := fun p hp => by
            have := hf p (by omega)
            have h2 : f p ≠ K := fun e => hex ⟨p, hp, e⟩
            omega
          have h3 : f K < K := by have := hf K (by omega); omega
          obtain ⟨p, hp, e⟩ := pigeon K f hfK (fun p q hp hq => hi p q (by omega) (by omega)) (f K) h3
          have := hi p K (by omega) (by omega) e; omega
      · obtain ⟨p, hp, e⟩ := pigeon K g hg hgi r (by omega)
        have e : (if f p = K then f K else f p) = r := e
        by_cases e1 : f p = K
        · rw [if_pos e1] at e; exact absurd e hk
        · rw [if_neg e1] at e; exact ⟨p, by omega, e⟩
theorem rk_some {V : Nat → Int32} {K r : Nat} (hr : r < K) : ∃ p, p < K ∧ rk V K p = r := pigeon K (rk V K) (fun _ h => rk_lt h) (fun _ _ h1 h2 h => rk_inj h1 h2 h) r hr
theorem RkP.uniq {V : Nat → Int32} {K r : Nat} {v v' : Int32} (h : RkP V K r v) (h' : RkP V K r v') : v = v' := by
  rcases h with ⟨p, h1, h2, rfl⟩ | ⟨rfl, h1⟩ <;> rcases h' with ⟨p', h1', h2', rfl⟩ | ⟨rfl, h1'⟩
  · rw [rk_inj h1 h1' (h2.trans h2'.symm)]
  · exact absurd h2 (h1' p h1)
  · exact absurd h2' (h1 p' h1')
  · rfl
theorem MidP.uniq {V : Nat → Int32} {K : Nat} {v v' : Int32} (h : MidP V K v) (h' : MidP V K v') : v = v' := by
  rcases h with ⟨p, h1, h2, rfl⟩ | ⟨rfl, h1⟩ <;> rcases h' with ⟨p', h1', h2', rfl⟩ | ⟨rfl, h1'⟩
  · rw [rk_inj h1 h1' (h2.trans h2'.symm)]
  · exact absurd h2 (h1' p h1)
  · exact absurd h2' (h1 p' h1')
  · rfl
theorem RowE.same {f g : Nat → Int32} {a R Y L S D K : Nat} (h : RowE f a R Y L S D K) (e : ∀ i, a ≤ i → i < a + 6 → g i = f i) : RowE g a R Y L S D K := by
  obtain ⟨h0, h1, h2, h3, h4, h5⟩ := h
  exact ⟨(e _ (by omega) (by omega)).trans h0, (e _ (by omega) (by omega)).trans h1, (e _ (by omega) (by omega)).trans h2, (e _ (by omega) (by omega)).trans h3, (e _ (by omega) (by omega)).trans h4, (e _ (by omega) (by omega)).trans h5⟩
set_option maxHeartbeats 1000000 in
set_option maxRecDepth 10000 in
theorem m_X2_refuse (l : Launch) (D : va_G) (cA : Nat → ClassId) (N : Nat) (ad : Nat → Nat) (c : Nat → va_E) (th : Int32) (n : Nat) (nw ah rw : Nat → Int32) (k : Int32) (hN10 : 10 ≤ N) (hM : MoAt ad cA c th n nw ah rw) (hn5 : n ≤ 5) : Ci l yX2_refuse wX2_refuse { frames := 0, cells := 0, slots := 0, locals := 0 } [.ref (ad 6), .int k] D cA N ad c 0 0 (fun v c' => v = nI 0 ∧ mw ad cA c k n nw ah rw = c') := by
  intro sz9
  refine bd_of (cc := cX2_refuse) (maxL := 2) (ret := some Jvm.ClassFile.FieldType.int) (by decide) rfl (Nat.le_of_ble_eq_true rfl) ?_
  intro p e s m below meth c0 C0 hr hlk hnm hP hS hsz ls hl
  subst hsz
  have hx := C0.1
  have hb := C0.2.1
  have hl : lv_has ls 2 [(0, .ref (ad 6)), (1, .int k)] := hl
  rw [← mw_self hM] at hP
  refine lv_aload_n hx hb dX2_refuse_0 rfl (lv_at hl 0 rfl) ?_
  refine lv_iload_n hx hb dX2_refuse_1 rfl (lv_at hl 1 rfl) ?_
  refine pm_th C0 hN10 hP hS dX2_refuse_2 (fun H locs hP hS => ?_)
  refine lv_iconst (v := nI 0) hx hb dX2_refuse_5 rfl ?_
  exact e_i C0 hr hlk hP hS dX2_refuse_6 (by decide) (by decide) ⟨rfl, rfl⟩
set_option maxHeartbeats 1000000 in
set_option maxRecDepth 10000 in
theorem m_X2_isHand__t (l : Launch) (D : va_G) (cA : Nat → ClassId) (N : Nat) (ad : Nat → Nat) (c : Nat → va_E) (th : Int32) (n : Nat) (nw ah rw : Nat → Int32) (i : Nat) (hN10 : 10 ≤ N) (hM : MoAt ad cA c th n nw ah rw) (hn5 : n ≤ 5) (hi : i < n) : Ci l yX2_isHand wX2_isHand { frames := 0, cells := 0, slots := 0, locals := 0 } [.ref (ad 6), .int (nI i)] D cA N ad c 0 0 (fun v c' => v = nI 1 ∧ c = c') := by
  intro sz9
  refine bd_of (cc := cX2_isHand) (maxL := 2) (ret := some Jvm.ClassFile.FieldType.boolean) (by decide) rfl (Nat.le_of_ble_eq_true rfl) ?_
  intro p e s m below meth c0 C0 hr hlk hnm hP hS hsz ls hl
  subst hsz
  have hx := C0.1
  have hb := C0.2.1
  have hl : lv_has ls 2 [(0, .ref (ad 6)), (1, .int (nI i))] := hl
  refine lv_iload_n hx hb dX2_isHand_0 rfl (lv_at hl 1 rfl) ?_
  refine n_if_lt (tgt := 16) hx hb (by omega) dX2_isHand_1 (by decide) (fun h1 => ?_) (fun h1 => ?_)
  · exfalso; omega
  refine lv_iload_n hx hb dX2_isHand_4 rfl (lv_at hl 1 rfl) ?_
  refine lv_aload_n hx hb dX2_isHand_5 rfl (lv_at hl 0 rfl) ?_
  refine gf_X2_23 C0 hP (by omega) hM.1 rfl dX2_isHand_6 ?_
  refine n_icmp_ge (tgt := 16) hx hb (by omega) (by omega) dX2_isHand_9 (by decide) (fun h9 => ?_) (fun h9 => ?_)
  · exfalso; omega
  refine lv_iconst (v := nI 1) hx hb dX2_isHand_12 rfl ?_
  refine lv_goto (tgt := 17) hx hb dX2_isHand_13 (by decide) ?_
  exact e_z C0 hr hlk hP hS dX2_isHand_17 (by decide) (by decide) (by decide +kernel) ⟨rfl, rfl⟩
set_option maxHeartbeats 1000000 in
set_option maxRecDepth 10000 in
theorem m_X2_isHand__f (l : Launch) (D : va_G) (cA : Nat → ClassId) (N : Nat) (ad : Nat → Nat) (c : Nat → va_E) (th : Int32) (n : Nat) (nw ah rw : Nat → Int32) (x : Int32) (hN10 : 10 ≤ N) (hM : MoAt ad cA c th n nw ah rw) (hn5 : n ≤ 5) (hbad : ∀ i, i < n → x ≠ nI i) : Ci l yX2_isHand wX2_isHand { frames := 0, cells := 0, slots := 0, locals := 0 } [.ref (ad 6), .int x] D cA N ad c 0 0 (fun v c' => v = nI 0 ∧ c = c') := by
  intro sz9
  refine bd_of (cc := cX2_isHand) (maxL := 2) (ret := some Jvm.ClassFile.FieldType.boolean) (by decide) rfl (Nat.le_of_ble_eq_true rfl) ?_
  intro p e s m below meth c0 C0 hr hlk hnm hP hS hsz ls hl
  subst hsz
  have hx := C0.1
  have hb := C0.2.1
  have hl : lv_has ls 2 [(0, .ref (ad 6)), (1, .int x)] := hl
  refine lv_iload_n hx hb dX2_isHand_0 rfl (lv_at hl 1 rfl) ?_
  refine lv_if_lt (tgt := 16) hx hb dX2_isHand_1 (by decide) (fun h1 => ?_) (fun h1 => ?_)
  · refine lv_iconst (v := nI 0) hx hb dX2_isHand_16 rfl ?_
    exact e_z C0 hr hlk hP hS dX2_isHand_17 (by decide) (by decide) (by decide +kernel) ⟨rfl, rfl⟩
  · refine lv_iload_n hx hb dX2_isHand_4 rfl (lv_at hl 1 rfl) ?_
    refine lv_aload_n hx hb dX2_isHand_5 rfl (lv_at hl 0 rfl) ?_
    refine gf_X2_23 C0 hP (by omega) hM.1 rfl dX2_isHand_6 ?_
    refine lv_icmp_ge (tgt := 16) hx hb dX2_isHand_9 (by decide) (fun h9 => ?_) (fun h9 => ?_)
    rotate_left
    · obtain ⟨j, hj, rfl⟩ := nI_small h1 h9 (by omega)
      exact absurd rfl (hbad j hj)
    refine lv_iconst (v := nI 0) hx hb dX2_isHand_16 rfl ?_
    exact e_z C0 hr hlk hP hS dX2_isHand_17 (by decide) (by decide) (by decide +kernel) ⟨rfl, rfl⟩
set_option maxHeartbeats 1000000 in
set_option maxRecDepth 10000 in
theorem m_X2_value (l : Launch) (D : va_G) (cA : Nat → ClassId) (N : Nat) (ad : Nat → Nat) (c : Nat → va_E) (th : Int32) (n : Nat) (nw ah rw : Nat → Int32) (i y : Nat) (hN10 : 10 ≤ N) (hM : MoAt ad cA c th n nw ah rw) (hn5 : n ≤ 5) (hi : i < n) (hp : y < 8) : Ci l yX2_value wX2_value { frames := 0, cells := 0, slots := 0, locals := 0 } [.ref (ad 6), .int (nI i), .int (nI y)] D cA N ad c 0 0 (fun v c' => v = sto nw (30 * i) 0 y ∧ c = c') := by
  intro sz9
  refine bd_of (cc := cX2_value) (maxL := 3) (ret := some Jvm.ClassFile.FieldType.int) (by decide) rfl (Nat.le_of_ble_eq_true rfl) ?_
  intro p e s m below meth c0 C0 hr hlk hnm hP hS hsz ls hl
  subst hsz
  have hx := C0.1
  have hb := C0.2.1
  have hl : lv_has ls 3 [(0, .ref (ad 6)), (1, .int (nI i)), (2, .int (nI y))] := hl
  refine lv_aload_n hx hb dX2_value_0 rfl (lv_at hl 0 rfl) ?_
  refine gf_X2_9 C0 hP (by omega) hM.1 rfl dX2_value_1 ?_
  refine lv_bipush (v := nI 30) hx hb dX2_value_4 rfl ?_
  refine lv_iload_n hx hb dX2_value_6 rfl (lv_at hl 1 rfl) ?_
  refine n_imul hx hb dX2_value_7 ?_
  refine lv_bipush (v := nI 6) hx hb dX2_value_8 rfl ?_
  refine n_iadd hx hb dX2_value_10 ?_
  refine lv_iconst (v := nI 3) hx hb dX2_value_11 rfl ?_
  refine lv_iload_n hx hb dX2_value_12 rfl (lv_at hl 2 rfl) ?_
  refine n_imul hx hb dX2_value_13 ?_
  refine n_iadd hx hb dX2_value_14 ?_
  refine a_ild C0 hP (by omega) hM.2.1 (by omega) (by omega) dX2_value_15 ?_
  exact e_i C0 hr hlk hP hS dX2_value_16 (by decide) (by decide) ⟨rfl, rfl⟩
set_option maxHeartbeats 1000000 in
set_option maxRecDepth 10000 in
theorem m_X2_held (l : Launch) (D : va_G) (cA : Nat → ClassId) (N : Nat) (ad : Nat → Nat) (c : Nat → va_E) (th : Int32) (n : Nat) (nw ah rw : Nat → Int32) (i R Y L S D9 K : Nat)  (hN10 : 10 ≤ N) (hM : MoAt ad cA c th n nw ah rw) (hn5 : n ≤ 5) (hi : i < n) (hrow : RowE nw (30 * i) R Y L S D9 K) (hok : Hok R Y L S D9 K) : Ci l yX2_held wX2_held { frames := 0, cells := 0, slots := 0, locals := 0 } [.ref (ad 6), .int (nI i)] D cA N ad c 0 0 (fun v c' => v = nI K ∧ c = c') := by
  intro sz9
  refine bd_of (cc := cX2_held) (maxL := 2) (ret := some Jvm.ClassFile.FieldType.int) (by decide) rfl (Nat.le_of_ble_eq_true rfl) ?_
  intro p e s m below meth c0 C0 hr hlk hnm hP hS hsz ls hl
  subst hsz
  have hx := C0.1
  have hb := C0.2.1
  have hl : lv_has ls 2 [(0, .ref (ad 6)), (1, .int (nI i))] := hl
  obtain ⟨r0, r1, r2, r3, r4, r5⟩ := id hrow
  obtain ⟨q1, q2, q3, q4, q5, q6, q7, q8, q9⟩ := id hok
  refine lv_aload_n hx hb dX2_held_0 rfl (lv_at hl 0 rfl) ?_
  refine gf_X2_9 C0 hP (by omega) hM.1 rfl dX2_held_1 ?_
  refine lv_bipush (v := nI 30) hx hb dX2_held_4 rfl ?_
  refine lv_iload_n hx hb dX2_held_6 rfl (lv_at hl 1 rfl) ?_
  refine n_imul hx hb dX2_held_7 ?_
  refine lv_iconst (v := nI 5) hx hb dX2_held_8 rfl ?_
  refine n_iadd hx hb dX2_held_9 ?_
  refine a_ildE C0 hP (by omega) hM.2.1 (by omega) (by omega) r5 dX2_held_10 ?_
  exact e_i C0 hr hlk hP hS dX2_held_11 (by decide) (by decide) ⟨rfl, rfl⟩
set_option maxHeartbeats 1000000 in
set_option maxRecDepth 10000 in
theorem m_X2_total (l : Launch) (D : va_G) (cA : Nat → ClassId) (N : Nat) (ad : Nat → Nat) (c : Nat → va_E) (th : Int32) (n : Nat) (nw ah rw : Nat → Int32) (i R Y L S D9 K : Nat)  (hN10 : 10 ≤ N) (hM : MoAt ad cA c th n nw ah rw) (hn5 : n ≤ 5) (hi : i < n) (hrow : RowE nw (30 * i) R Y L S D9 K) (hok : Hok R Y L S D9 K) : Ci l yX2_total wX2_total { frames := 1, cells := 0, slots := 0, locals := 22 } [.ref (ad 6), .int (nI i)] D cA N ad c 0 0 (fun v c' => v = tot (sto nw (30 * i) 0) K ∧ c = c') := by
  intro sz9
  refine bd_of (cc := cX2_total) (maxL := 4) (ret := some Jvm.ClassFile.FieldType.int) (by decide) rfl (Nat.le_of_ble_eq_true rfl) ?_
  intro p e s m below meth c0 C0 hr hlk hnm hP hS hsz ls hl
  subst hsz
  have hx := C0.1
  have hb := C0.2.1
  have hl : lv_has ls 4 [(0, .ref (ad 6)), (1, .int (nI i))] := hl
  obtain ⟨r0, r1, r2, r3, r4, r5⟩ := id hrow
  obtain ⟨q1, q2, q3, q4, q5, q6, q7, q8, q9⟩ := id hok
  refine lv_iconst (v := nI 0) hx hb dX2_total_0 rfl ?_
  refine lv_istore_n (lv' := [(2, .int (nI 0)), (0, .ref (ad 6)), (1, .int (nI i))]) hx hb dX2_total_1 rfl hl (by decide) rfl (fun ls hl => ?_)
  refine lv_iconst (v := nI 0) hx hb dX2_total_2 rfl ?_
  refine lv_istore_n (lv' := [(3, .int (nI 0)), (2, .int (nI 0)), (0, .ref (ad 6)), (1, .int (nI i))]) hx hb dX2_total_3 rfl hl (by decide) rfl (fun ls hl => ?_)
  have loop4 : ∀ (n9 : Nat) (k : Nat), (k ≤ K) → K - k < n9 → ∀ (H : Heap) (locs : List Loc) (ls : Array Slot), va_P D vwCl (wl N ad (c)) H → va_S (wA N ad s.heap.size) s.heap H locs → lv_has ls 4 [(0, .ref (ad 6)), (1, .int (nI i)), (2, .int ((tot (sto nw (30 * i) 0) k))), (3, .int (nI k))] → W p l e { frames := 1, cells := 0, slots := 0, locals := 22 } s m [.ref (ad 6), .int (nI i)].toArray below meth c0 H locs 0 0 (MQ below (va_Qi (fun v c' => v = tot (sto nw (30 * i) 0) K ∧ c = c') (fun c' t => va_P D vwCl (wl N ad c') t.heap) (wA N ad s.heap.size)) [.ref (ad 6), .int (nI i)].toArray s 0 0 (wA N ad s.heap.size)) (F0 m 4 ls []) := by
    intro n9
    induction n9 with
    | zero => intro k hk hlt9; exact absurd hlt9 (Nat.not_lt_zero _)
    | succ n9 ih4 =>
      intro k hk hlt9 H locs ls hP hS hl
      refine lv_iload_n hx hb dX2_total_4 rfl (lv_at hl 3 rfl) ?_
      refine lv_aload_n hx hb dX2_total_5 rfl (lv_at hl 0 rfl) ?_
      refine lv_iload_n hx hb dX2_total_6 rfl (lv_at hl 1 rfl) ?_
      refine k0_i (rn_X2_67 (As := [.int (nI i)]) (rest := [.int (nI k)]) (r := 6) C0 (m_X2_held l D cA N ad (c) th n nw ah rw i R Y L S D9 K hN10 hM (by omega) hi hrow hok _) hP hS (by omega) hM.1 rfl ⟨rfl, rfl⟩ ⟨by decide, by decide⟩ hl.1 rfl (Nat.le_of_ble_eq_true rfl) dX2_total_7 ⟨Nat.le_of_ble_eq_true rfl, Nat.le_of_ble_eq_true rfl⟩) C0 hP hS (fun v7 c7 H locs hp hP hS => ?_)
      obtain ⟨rfl, rfl⟩ := hp
      refine n_icmp_ge (tgt := 28) hx hb (by omega) (by omega) dX2_total_10 (by decide) (fun h10 => ?_) (fun h10 => ?_)
      · obtain rfl : K = k := by omega
        refine lv_iload_n hx hb dX2_total_28 rfl (lv_at hl 2 rfl) ?_
        exact e_i C0 hr hlk hP hS dX2_total_29 (by decide) (by decide) ⟨rfl, rfl⟩
      · refine lv_iload_n hx hb dX2_total_13 rfl (lv_at hl 2 rfl) ?_
        refine lv_aload_n hx hb dX2_total_14 rfl (lv_at hl 0 rfl) ?_
        refine lv_iload_n hx hb dX2_total_15 rfl (lv_at hl 1 rfl) ?_
        refine lv_iload_n hx hb dX2_total_16 rfl (lv_at hl 3 rfl) ?_
        refine k0_i (rn_X2_78 (As := [.int (nI i), .int (nI k)]) (rest := [.int ((tot (sto nw (30 * i) 0) k))]) (r := 6) C0 (m_X2_value l D cA N ad (c) th n nw ah rw i k hN10 hM (by omega) (by omega) (by omega) _) hP hS (by omega) hM.1 rfl ⟨rfl, rfl⟩ ⟨by decide, by decide⟩ hl.1 rfl (Nat.le_of_ble_eq_true rfl) dX2_total_17 ⟨Nat.le_of_ble_eq_true rfl, Nat.le_of_ble_eq_true rfl⟩) C0 hP hS (fun v17 c17 H locs hp hP hS => ?_)
        obtain ⟨rfl, rfl⟩ := hp
        refine lv_iadd hx hb dX2_total_20 ?_
        refine lv_istore_n (lv' := [(2, .int (((tot (sto nw (30 * i) 0) k)) + ((sto nw (30 * i) 0 k)))), (0, .ref (ad 6)), (1, .int (nI i)), (3, .int (nI k))]) hx hb dX2_total_21 rfl hl (by decide) rfl (fun ls hl => ?_)
        refine lv_iinc (v := nI (k + 1)) (lv' := [(3, .int (nI (k + 1))), (2, .int (((tot (sto nw (30 * i) 0) k)) + ((sto nw (30 * i) 0 k)))), (0, .ref (ad 6)), (1, .int (nI i))]) hx hb dX2_total_22 hl (k := 3) rfl (nI_add k 1) (by decide) rfl (fun ls hl => ?_)
        refine lv_goto (tgt := 4) hx hb dX2_total_25 (by decide) ?_
        exact ih4 (k + 1) (by omega) (by omega) _ _ _ hP hS (lv_sub hl [2, 3, 1, 0] rfl)
  exact loop4 (_ + 1) 0 (Nat.zero_le _) (Nat.lt_succ_self _) _ _ _ hP hS (lv_sub hl [2, 3, 1, 0] rfl)
set_option maxHeartbeats 1000000 in
set_option maxRecDepth 10000 in
theorem m_X2_rank (l : Launch) (D : va_G) (cA : Nat → ClassId) (N : Nat) (ad : Nat → Nat) (c : Nat → va_E) (th : Int32) (n : Nat) (nw ah rw : Nat → Int32) (i R Y L S D9 K : Nat) (y : Nat) (hN10 : 10 ≤ N) (hM : MoAt ad cA c th n nw ah rw) (hn5 : n ≤ 5) (hi : i < n) (hrow : RowE nw (30 * i) R Y L S D9 K) (hok : Hok R Y L S D9 K) (hp : y < 8) : Ci l yX2_rank wX2_rank { frames := 1, cells := 0, slots := 0, locals := 22 } [.ref (ad 6), .int (nI i), .int (nI y)] D cA N ad c 0 0 (fun v c' => v = nI (mrk (sto nw (30 * i) 0) y K) ∧ c = c') := by
  intro sz9
  refine bd_of (cc := cX2_rank) (maxL := 5) (ret := some Jvm.ClassFile.FieldType.int) (by decide) rfl (Nat.le_of_ble_eq_true rfl) ?_
  intro p e s m below meth c0 C0 hr hlk hnm hP hS hsz ls hl
  subst hsz
  have hx := C0.1
  have hb := C0.2.1
  have hl : lv_has ls 5 [(0, .ref (ad 6)), (1, .int (nI i)), (2, .int (nI y))] := hl
  obtain ⟨r0, r1, r2, r3, r4, r5⟩ := id hrow
  obtain ⟨q1, q2, q3, q4, q5, q6, q7, q8, q9⟩ := id hok
  refine lv_iconst (v := nI 0) hx hb dX2_rank_0 rfl ?_
  refine lv_istore_n (lv' := [(3, .int (nI 0)), (0, .ref (ad 6)), (1, .int (nI i)), (2, .int (nI y))]) hx hb dX2_rank_1 rfl hl (by decide) rfl (fun ls hl => ?_)
  refine lv_iconst (v := nI 0) hx hb dX2_rank_2 rfl ?_
  refine lv_istore (lv' := [(4, .int (nI 0)), (3, .int (nI 0)), (0, .ref (ad 6)), (1, .int (nI i)), (2, .int (nI y))]) hx hb dX2_rank_3 hl (by decide) rfl (fun ls hl => ?_)
  have loop5 : ∀ (n9 : Nat) (k : Nat) (q : Nat), (k ≤ K) → (q = mrk (sto nw (30 * i) 0) y k) → K - k < n9 → ∀ (H : Heap) (locs : List Loc) (ls : Array Slot), va_P D vwCl (wl N ad (c)) H → va_S (wA N ad s.heap.size) s.heap H locs → lv_has ls 5 [(0, .ref (ad 6)), (1, .int (nI i)), (2, .int (nI y)), (3, .int (nI q)), (4, .int (nI k))] → W p l e { frames := 1, cells := 0, slots := 0, locals := 22 } s m [.ref (ad 6), .int (nI i), .int (nI y)].toArray below meth c0 H locs 0 0 (MQ below (va_Qi (fun v c' => v = nI (mrk (sto nw (30 * i) 0) y K) ∧ c = c') (fun c' t => va_P D vwCl (wl N ad c') t.heap) (wA N ad s.heap.size)) [.ref (ad 6), .int (nI i), .int (nI y)].toArray s 0 0 (wA N ad s.heap.size)) (F0 m 5 ls []) := by
    intro n9
    induction n9 with
    | zero => intro k q hk hq hlt9; exact absurd hlt9 (Nat.not_lt_zero _)
    | succ n9 ih5 =>
      intro k q hk hq hlt9 H locs ls hP hS hl
      refine lv_iload hx hb dX2_rank_5 (lv_at hl 4 rfl) ?_
      refine lv_aload_n hx hb dX2_rank_7 rfl (lv_at hl 0 rfl) ?_
      refine lv_iload_n hx hb dX2_rank_8 rfl (lv_at hl 1 rfl) ?_
      refine k0_i (rn_X2_67 (As := [.int (nI i)]) (rest := [.int (nI k)]) (r := 6) C0 (m_X2_held l D cA N ad (c) th n nw ah rw i R Y L S D9 K hN10 hM (by omega) hi hrow hok _) hP hS (by omega) hM.1 rfl ⟨rfl, rfl⟩ ⟨by decide, by decide⟩ hl.1 rfl (Nat.le_of_ble_eq_true rfl) dX2_rank_9 ⟨Nat.le_of_ble_eq_true rfl, Nat.le_of_ble_eq_true rfl⟩) C0 hP hS (fun v9 c9 H locs hp hP hS => ?_)
      obtain ⟨rfl, rfl⟩ := hp
      refine n_icmp_ge (tgt := 67) hx hb (by omega) (by omega) dX2_rank_12 (by decide) (fun h12 => ?_) (fun h12 => ?_)
      · obtain rfl : K = k := by omega
        refine lv_iload_n hx hb dX2_rank_67 rfl (lv_at hl 3 rfl) ?_
        exact e_i C0 hr hlk hP hS dX2_rank_68 (by decide) (by decide) ⟨by rw [hq], rfl⟩
      · refine lv_iload_n hx hb dX2_rank_15 rfl (lv_at hl 3 rfl) ?_
        refine lv_aload_n hx hb dX2_rank_16 rfl (lv_at hl 0 rfl) ?_
        refine lv_iload_n hx hb dX2_rank_17 rfl (lv_at hl 1 rfl) ?_
        refine lv_iload hx hb dX2_rank_18 (lv_at hl 4 rfl) ?_
        refine k0_i (rn_X2_78 (As := [.int (nI i), .int (nI k)]) (rest := [.int (nI q)]) (r := 6) C0 (m_X2_value l D cA N ad (c) th n nw ah rw i k hN10 hM (by omega) (by omega) (by omega) _) hP hS (by omega) hM.1 rfl ⟨rfl, rfl⟩ ⟨by decide, by decide⟩ hl.1 rfl (Nat.le_of_ble_eq_true rfl) dX2_rank_20 ⟨Nat.le_of_ble_eq_true rfl, Nat.le_of_ble_eq_true rfl⟩) C0 hP hS (fun v20 c20 H locs hp hP hS => ?_)
        obtain ⟨rfl, rfl⟩ := hp
        refine lv_aload_n hx hb dX2_rank_23 rfl (lv_at hl 0 rfl) ?_
        refine lv_iload_n hx hb dX2_rank_24 rfl (lv_at hl 1 rfl) ?_
        refine lv_iload_n hx hb dX2_rank_25 rfl (lv_at hl 2 rfl) ?_
        refine k0_i (rn_X2_78 (As := [.int (nI i), .int (nI y)]) (rest := [.int ((sto nw (30 * i) 0 k)), .int (nI q)]) (r := 6) C0 (m_X2_value l D cA N ad (c) th n nw ah rw i y hN10 hM (by omega) (by omega) (by omega) _) hP hS (by omega) hM.1 rfl ⟨rfl, rfl⟩ ⟨by decide, by decide⟩ hl.1 rfl (Nat.le_of_ble_eq_true rfl) dX2_rank_26 ⟨Nat.le_of_ble_eq_true rfl, Nat.le_of_ble_eq_true rfl⟩) C0 hP hS (fun v26 c26 H locs hp hP hS => ?_)
        obtain ⟨rfl, rfl⟩ := hp
        refine lv_icmp_lt (tgt := 54) hx hb dX2_rank_29 (by decide) (fun h29 => ?_) (fun h29 => ?_)
        · have hcs : (sto nw (30 * i) 0) k < (sto nw (30 * i) 0) y ∨ ((sto nw (30 * i) 0) k = (sto nw (30 * i) 0) y ∧ k < y) := Or.inl h29
          refine lv_iconst (v := nI 1) hx hb dX2_rank_54 rfl ?_
          refine lv_goto (tgt := 59) hx hb dX2_rank_55 (by decide) ?_
          refine n_iadd hx hb dX2_rank_59 ?_
          refine lv_istore_n (lv' := [(3, .int (nI (q + 1))), (0, .ref (ad 6)), (1, .int (nI i)), (2, .int (nI y)), (4, .int (nI k))]) hx hb dX2_rank_60 rfl hl (by decide) rfl (fun ls hl => ?_)
          refine lv_iinc (v := nI (k + 1)) (lv' := [(4, .int (nI (k + 1))), (3, .int (nI (q + 1))), (0, .ref (ad 6)), (1, .int (nI i)), (2, .int (nI y))]) hx hb dX2_rank_61 hl (k := 4) rfl (nI_add k 1) (by decide) rfl (fun ls hl => ?_)
          refine lv_goto (tgt := 5) hx hb dX2_rank_64 (by decide) ?_
          exact ih5 (k + 1) (q + 1) (by omega) (by rw [hq]; show _ = mrk (sto nw (30 * i) 0) y k + (if _ then 1 else 0); rw [if_pos hcs]) (by omega) _ _ _ hP hS (lv_sub hl [2, 3, 4, 1, 0] rfl)
        · refine lv_aload_n hx hb dX2_rank_32 rfl (lv_at hl 0 rfl) ?_
          refine lv_iload_n hx hb dX2_rank_33 rfl (lv_at hl 1 rfl) ?_
          refine lv_iload hx hb dX2_rank_34 (lv_at hl 4 rfl) ?_
          refine k0_i (rn_X2_78 (As := [.int (nI i), .int (nI k)]) (rest := [.int (nI q)]) (r := 6) C0 (m_X2_value l D cA N ad (c) th n nw ah rw i k hN10 hM (by omega) (by omega) (by omega) _) hP hS (by omega) hM.1 rfl ⟨rfl, rfl⟩ ⟨by decide, by decide⟩ hl.1 rfl (Nat.le_of_ble_eq_true rfl) dX2_rank_36 ⟨Nat.le_of_ble_eq_true rfl, Nat.le_of_ble_eq_true rfl⟩) C0 hP hS (fun v36 c36 H locs hp hP hS => ?_)
          obtain ⟨rfl, rfl⟩ := hp
          refine lv_aload_n hx hb dX2_rank_39 rfl (lv_at hl 0 rfl) ?_
          refine lv_iload_n hx hb dX2_rank_40 rfl (lv_at hl 1 rfl) ?_
          refine lv_iload_n hx hb dX2_rank_41 rfl (lv_at hl 2 rfl) ?_
          refine k0_i (rn_X2_78 (As := [.int (nI i), .int (nI y)]) (rest := [.int ((sto nw (30 * i) 0 k)), .int (nI q)]) (r := 6) C0 (m_X2_value l D cA N ad (c) th n nw ah rw i y hN10 hM (by omega) (by omega) (by omega) _) hP hS (by omega) hM.1 rfl ⟨rfl, rfl⟩ ⟨by decide, by decide⟩ hl.1 rfl (Nat.le_of_ble_eq_true rfl) dX2_rank_42 ⟨Nat.le_of_ble_eq_true rfl, Nat.le_of_ble_eq_true rfl⟩) C0 hP hS (fun v42 c42 H locs hp hP hS => ?_)
          obtain ⟨rfl, rfl⟩ := hp
          refine lv_icmp_ne (tgt := 58) hx hb dX2_rank_45 (by decide) (fun h45 => ?_) (fun h45 => ?_)
          · have hcs : ¬ ((sto nw (30 * i) 0) k < (sto nw (30 * i) 0) y ∨ ((sto nw (30 * i) 0) k = (sto nw (30 * i) 0) y ∧ k < y)) := fun q => q.elim h29 (fun q => h45 q.1)
            refine lv_iconst (v := nI 0) hx hb dX2_rank_58 rfl ?_
            refine n_iadd hx hb dX2_rank_59 ?_
            refine lv_istore_n (lv' := [(3, .int (nI (q + 0))), (0, .ref (ad 6)), (1, .int (nI i)), (2, .int (nI y)), (4, .int (nI k))]) hx hb dX2_rank_60 rfl hl (by decide) rfl (fun ls hl => ?_)
            refine lv_iinc (v := nI (k + 1)) (lv' := [(4, .int (nI (k + 1))), (3, .int (nI (q + 0))), (0, .ref (ad 6)), (1, .int (nI i)), (2, .int (nI y))]) hx hb dX2_rank_61 hl (k := 4) rfl (nI_add k 1) (by decide) rfl (fun ls hl => ?_)
            refine lv_goto (tgt := 5) hx hb dX2_rank_64 (by decide) ?_
            exact ih5 (k + 1) (q + 0) (by omega) (by rw [hq]; show _ = mrk (sto nw (30 * i) 0) y k + (if _ then 1 else 0); rw [if_neg hcs]) (by omega) _ _ _ hP hS (lv_sub hl [2, 3, 4, 1, 0] rfl)
          · refine lv_iload hx hb dX2_rank_48 (lv_at hl 4 rfl) ?_
            refine lv_iload_n hx hb dX2_rank_50 rfl (lv_at hl 2 rfl) ?_
            refine n_icmp_ge (tgt := 58) hx hb (by omega) (by omega) dX2_rank_51 (by decide) (fun h51 => ?_) (fun h51 => ?_)
            · have hcs : ¬ ((sto nw (30 * i) 0) k < (sto nw (30 * i) 0) y ∨ ((sto nw (30 * i) 0) k = (sto nw (30 * i) 0) y ∧ k < y)) := fun q => q.elim h29 (fun q => absurd q.2 (by omega))
              refine lv_iconst (v := nI 0) hx hb dX2_rank_58 rfl ?_
              refine n_iadd hx hb dX2_rank_59 ?_
              refine lv_istore_n (lv' := [(3, .int (nI (q + 0))), (0, .ref (ad 6)), (1, .int (nI i)), (2, .int (nI y)), (4, .int (nI k))]) hx hb dX2_rank_60 rfl hl (by decide) rfl (fun ls hl => ?_)
              refine lv_iinc (v := nI (k + 1)) (lv' := [(4, .int (nI (k + 1))), (3, .int (nI (q + 0))), (0, .ref (ad 6)), (1, .int (nI i)), (2, .int (nI y))]) hx hb dX2_rank_61 hl (k := 4) rfl (nI_add k 1) (by decide) rfl (fun ls hl => ?_)
              refine lv_goto (tgt := 5) hx hb dX2_rank_64 (by decide) ?_
              exact ih5 (k + 1) (q + 0) (by omega) (by rw [hq]; show _ = mrk (sto nw (30 * i) 0) y k + (if _ then 1 else 0); rw [if_neg hcs]) (by omega) _ _ _ hP hS (lv_sub hl [2, 3, 4, 1, 0] rfl)
            · have hcs : (sto nw (30 * i) 0) k < (sto nw (30 * i) 0) y ∨ ((sto nw (30 * i) 0) k = (sto nw (30 * i) 0) y ∧ k < y) := Or.inr ⟨h45, h51⟩
              refine lv_iconst (v := nI 1) hx hb dX2_rank_54 rfl ?_
              refine lv_goto (tgt := 59) hx hb dX2_rank_55 (by decide) ?_
              refine n_iadd hx hb dX2_rank_59 ?_
              refine lv_istore_n (lv' := [(3, .int (nI (q + 1))), (0, .ref (ad 6)), (1, .int (nI i)), (2, .int (nI y)), (4, .int (nI k))]) hx hb dX2_rank_60 rfl hl (by decide) rfl (fun ls hl => ?_)
              refine lv_iinc (v := nI (k + 1)) (lv' := [(4, .int (nI (k + 1))), (3, .int (nI (q + 1))), (0, .ref (ad 6)), (1, .int (nI i)), (2, .int (nI y))]) hx hb dX2_rank_61 hl (k := 4) rfl (nI_add k 1) (by decide) rfl (fun ls hl => ?_)
              refine lv_goto (tgt := 5) hx hb dX2_rank_64 (by decide) ?_
              exact ih5 (k + 1) (q + 1) (by omega) (by rw [hq]; show _ = mrk (sto nw (30 * i) 0) y k + (if _ then 1 else 0); rw [if_pos hcs]) (by omega) _ _ _ hP hS (lv_sub hl [2, 3, 4, 1, 0] rfl)
  exact loop5 (_ + 1) 0 0 (Nat.zero_le _) (rfl) (Nat.lt_succ_self _) _ _ _ hP hS (lv_sub hl [2, 3, 4, 1, 0] rfl)
set_option maxHeartbeats 1000000 in
set_option maxRecDepth 10000 in
theorem m_X2_ranked (l : Launch) (D : va_G) (cA : Nat → ClassId) (N : Nat) (ad : Nat → Nat) (c : Nat → va_E) (th : Int32) (n : Nat) (nw ah rw : Nat → Int32) (i R Y L S D9 K : Nat) (k9 : Nat) (hN10 : 10 ≤ N) (hM : MoAt ad cA c th n nw ah rw) (hn5 : n ≤ 5) (hi : i < n) (hrow : RowE nw (30 * i) R Y L S D9 K) (hok : Hok R Y L S D9 K) (hk9 : k9 < 2 ^ 30) : Ci l yX2_ranked wX2_ranked { frames := 2, cells := 0, slots := 0, locals := 46 } [.ref (ad 6), .int (nI i), .int (nI k9)] D cA N ad c 0 0 (fun v c' => RkP (sto nw (30 * i) 0) K k9 v ∧ c = c') := by
  intro sz9
  refine bd_of (cc := cX2_ranked) (maxL := 4) (ret := some Jvm.ClassFile.FieldType.int) (by decide) rfl (Nat.le_of_ble_eq_true rfl) ?_
  intro p e s m below meth c0 C0 hr hlk hnm hP hS hsz ls hl
  subst hsz
  have hx := C0.1
  have hb := C0.2.1
  have hl : lv_has ls 4 [(0, .ref (ad 6)), (1, .int (nI i)), (2, .int (nI k9))] := hl
  obtain ⟨r0, r1, r2, r3, r4, r5⟩ := id hrow
  obtain ⟨q1, q2, q3, q4, q5, q6, q7, q8, q9⟩ := id hok
  refine lv_aload_n hx hb dX2_ranked_0 rfl (lv_at hl 0 rfl) ?_
  refine lv_iload_n hx hb dX2_ranked_1 rfl (lv_at hl 1 rfl) ?_
  refine k0_i (rn_X2_67 (As := [.int (nI i)]) (rest := []) (r := 6) C0 (m_X2_held l D cA N ad (c) th n nw ah rw i R Y L S D9 K hN10 hM (by omega) hi hrow hok _) hP hS (by omega) hM.1 rfl ⟨rfl, rfl⟩ ⟨by decide, by decide⟩ hl.1 rfl (Nat.le_of_ble_eq_true rfl) dX2_ranked_2 ⟨Nat.le_of_ble_eq_true rfl, Nat.le_of_ble_eq_true rfl⟩) C0 hP hS (fun v2 c2 H locs hp hP hS => ?_)
  obtain ⟨rfl, rfl⟩ := hp
  refine lv_iconst (v := nI 1) hx hb dX2_ranked_5 rfl ?_
  refine lv_isub hx hb dX2_ranked_6 ?_
  rw [oP_sub]
  refine lv_istore_n (lv' := [(3, .int (oP K)), (0, .ref (ad 6)), (1, .int (nI i)), (2, .int (nI k9))]) hx hb dX2_ranked_7 rfl hl (by decide) rfl (fun ls hl => ?_)
  have loop8 : ∀ (n9 : Nat) (j : Nat), (j ≤ K) → (∀ q, j ≤ q → q < K → rk (sto nw (30 * i) 0) K q ≠ k9) → j < n9 → ∀ (H : Heap) (locs : List Loc) (ls : Array Slot), va_P D vwCl (wl N ad (c)) H → va_S (wA N ad s.heap.size) s.heap H locs → lv_has ls 4 [(0, .ref (ad 6)), (1, .int (nI i)), (2, .int (nI k9)), (3, .int ((oP j)))] → W p l e { frames := 2, cells := 0, slots := 0, locals := 46 } s m [.ref (ad 6), .int (nI i), .int (nI k9)].toArray below meth c0 H locs 0 0 (MQ below (va_Qi (fun v c' => RkP (sto nw (30 * i) 0) K k9 v ∧ c = c') (fun c' t => va_P D vwCl (wl N ad c') t.heap) (wA N ad s.heap.size)) [.ref (ad 6), .int (nI i), .int (nI k9)].toArray s 0 0 (wA N ad s.heap.size)) (F0 m 8 ls []) := by
    intro n9
    induction n9 with
    | zero => intro j hj9 hno hlt9; exact absurd hlt9 (Nat.not_lt_zero _)
    | succ n9 ih8 =>
      intro j hj9 hno hlt9 H locs ls hP hS hl
      rcases j with _ | j
      · have hl : lv_has ls 4 [(0, .ref (ad 6)), (1, .int (nI i)), (2, .int (nI k9)), (3, .int ((-1)))] := hl
        refine lv_iload_n hx hb dX2_ranked_8 rfl (lv_at hl 3 rfl) ?_
        refine lv_if_lt (tgt := 28) hx hb dX2_ranked_9 (by decide) (fun h9 => ?_) (fun h9 => ?_)
        rotate_left
        · exact absurd (by decide) h9
        refine lv_iload_n hx hb dX2_ranked_28 rfl (lv_at hl 3 rfl) ?_
        exact e_i C0 hr hlk hP hS dX2_ranked_29 (by decide) (by decide) ⟨Or.inr ⟨rfl, fun q hq => hno q (Nat.zero_le _) hq⟩, rfl⟩
      · have hl : lv_has ls 4 [(0, .ref (ad 6)), (1, .int (nI i)), (2, .int (nI k9)), (3, .int (nI j))] := hl
        refine lv_iload_n hx hb dX2_ranked_8 rfl (lv_at hl 3 rfl) ?_
        refine n_if_lt (tgt := 28) hx hb (by omega) dX2_ranked_9 (by decide) (fun h9 => ?_) (fun h9 => ?_)
        · exfalso; omega
        refine lv_aload_n hx hb dX2_ranked_12 rfl (lv_at hl 0 rfl) ?_
        refine lv_iload_n hx hb dX2_ranked_13 rfl (lv_at hl 1 rfl) ?_
        refine lv_iload_n hx hb dX2_ranked_14 rfl (lv_at hl 3 rfl) ?_
        refine k0_i (rn_X2_84 (As := [.int (nI i), .int (nI j)]) (rest := []) (r := 6) C0 (m_X2_rank l D cA N ad (c) th n nw ah rw i R Y L S D9 K j hN10 hM (by omega) hi hrow hok (by omega) _) hP hS (by omega) hM.1 rfl ⟨rfl, rfl⟩ ⟨by decide, by decide⟩ hl.1 rfl (Nat.le_of_ble_eq_true rfl) dX2_ranked_15 ⟨Nat.le_of_ble_eq_true rfl, Nat.le_of_ble_eq_true rfl⟩) C0 hP hS (fun v15 c15 H locs hp hP hS => ?_)
        obtain ⟨rfl, rfl⟩ := hp
        refine lv_iload_n hx hb dX2_ranked_18 rfl (lv_at hl 2 rfl) ?_
        refine n_icmp_eq (tgt := 28) hx hb (by have := mrk_le (sto nw (30 * i) 0) j K; omega) (by omega) dX2_ranked_19 (by decide) (fun h19 => ?_) (fun h19 => ?_)
        · refine lv_iload_n hx hb dX2_ranked_28 rfl (lv_at hl 3 rfl) ?_
          exact e_i C0 hr hlk hP hS dX2_ranked_29 (by decide) (by decide) ⟨Or.inl ⟨j, by omega, by rw [← mrk_rk (by omega)]; exact h19, rfl⟩, rfl⟩
        · refine lv_iinc (v := oP j) (lv' := [(3, .int (oP j)), (0, .ref (ad 6)), (1, .int (nI i)), (2, .int (nI k9))]) hx hb dX2_ranked_22 hl (k := 3) rfl (oP_dec j) (by decide) rfl (fun ls hl => ?_)
          refine lv_goto (tgt := 8) hx hb dX2_ranked_25 (by decide) ?_
          exact ih8 j (by omega) (fun q h1 h2 => (Nat.lt_or_ge j q).elim (fun e => hno q e h2) (fun e => by rw [show q = j from by omega]; exact fun h => h19 (by rw [mrk_rk (by omega)]; exact h))) (by omega) _ _ _ hP hS (lv_sub hl [1, 2, 3, 0] rfl)
  exact loop8 (_ + 1) K (Nat.le_refl _) (fun q h1 h2 => by omega) (Nat.lt_succ_self _) _ _ _ hP hS (lv_sub hl [1, 2, 3, 0] rfl)
set_option maxHeartbeats 1000000 in
set_option maxRecDepth 10000 in
theorem m_X2_middleOf (l : Launch) (D : va_G) (cA : Nat → ClassId) (N : Nat) (ad : Nat → Nat) (c : Nat → va_E) (th : Int32) (n : Nat) (nw ah rw : Nat → Int32) (i R Y L S D9 K : Nat)  (hN10 : 10 ≤ N) (hM : MoAt ad cA c th n nw ah rw) (hn5 : n ≤ 5) (hi : i < n) (hrow : RowE nw (30 * i) R Y L S D9 K) (hok : Hok R Y L S D9 K) : Ci l yX2_middleOf wX2_middleOf { frames := 3, cells := 0, slots := 0, locals := 69 } [.ref (ad 6), .int (nI i)] D cA N ad c 0 0 (fun v c' => MidP (sto nw (30 * i) 0) K v ∧ c = c') := by
  intro sz9
  refine bd_of (cc := cX2_middleOf) (maxL := 2) (ret := some Jvm.ClassFile.FieldType.int) (by decide) rfl (Nat.le_of_ble_eq_true rfl) ?_
  intro p e s m below meth c0 C0 hr hlk hnm hP hS hsz ls hl
  subst hsz
  have hx := C0.1
  have hb := C0.2.1
  have hl : lv_has ls 2 [(0, .ref (ad 6)), (1, .int (nI i))] := hl
  obtain ⟨r0, r1, r2, r3, r4, r5⟩ := id hrow
  obtain ⟨q1, q2, q3, q4, q5, q6, q7, q8, q9⟩ := id hok
  refine lv_aload_n hx hb dX2_middleOf_0 rfl (lv_at hl 0 rfl) ?_
  refine lv_iload_n hx hb dX2_middleOf_1 rfl (lv_at hl 1 rfl) ?_
  refine k0_i (rn_X2_67 (As := [.int (nI i)]) (rest := []) (r := 6) C0 (m_X2_held l D cA N ad (c) th n nw ah rw i R Y L S D9 K hN10 hM (by omega) hi hrow hok _) hP hS (by omega) hM.1 rfl ⟨rfl, rfl⟩ ⟨by decide, by decide⟩ hl.1 rfl (Nat.le_of_ble_eq_true rfl) dX2_middleOf_2 ⟨Nat.le_of_ble_eq_true rfl, Nat.le_of_ble_eq_true rfl⟩) C0 hP hS (fun v2 c2 H locs hp hP hS => ?_)
  obtain ⟨rfl, rfl⟩ := hp
  refine n_if_ne (tgt := 12) hx hb (by omega) dX2_middleOf_5 (by decide) (fun h5 => ?_) (fun h5 => ?_)
  · refine lv_aload_n hx hb dX2_middleOf_12 rfl (lv_at hl 0 rfl) ?_
    refine lv_iload_n hx hb dX2_middleOf_13 rfl (lv_at hl 1 rfl) ?_
    refine lv_aload_n hx hb dX2_middleOf_14 rfl (lv_at hl 0 rfl) ?_
    refine lv_iload_n hx hb dX2_middleOf_15 rfl (lv_at hl 1 rfl) ?_
    refine lv_aload_n hx hb dX2_middleOf_16 rfl (lv_at hl 0 rfl) ?_
    refine lv_iload_n hx hb dX2_middleOf_17 rfl (lv_at hl 1 rfl) ?_
    refine k0_i (rn_X2_67 (As := [.int (nI i)]) (rest := [.int (nI i), .ref (ad 6), .int (nI i), .ref (ad 6)]) (r := 6) C0 (m_X2_held l D cA N ad (c) th n nw ah rw i R Y L S D9 K hN10 hM (by omega) hi hrow hok _) hP hS (by omega) hM.1 rfl ⟨rfl, rfl⟩ ⟨by decide, by decide⟩ hl.1 rfl (Nat.le_of_ble_eq_true rfl) dX2_middleOf_18 ⟨Nat.le_of_ble_eq_true rfl, Nat.le_of_ble_eq_true rfl⟩) C0 hP hS (fun v18 c18 H locs hp hP hS => ?_)
    obtain ⟨rfl, rfl⟩ := hp
    refine lv_iconst (v := nI 2) hx hb dX2_middleOf_21 rfl ?_
    refine n_idiv hx hb (by omega) (by omega) (by omega) dX2_middleOf_22 ?_
    refine k0_i (rn_X2_87 (As := [.int (nI i), .int (nI (K / 2))]) (rest := [.int (nI i), .ref (ad 6)]) (r := 6) C0 (m_X2_ranked l D cA N ad (c) th n nw ah rw i R Y L S D9 K (K / 2) hN10 hM (by omega) hi hrow hok (by omega) _) hP hS (by omega) hM.1 rfl ⟨rfl, rfl⟩ ⟨by decide, by decide⟩ hl.1 rfl (Nat.le_of_ble_eq_true rfl) dX2_middleOf_23 ⟨Nat.le_of_ble_eq_true rfl, Nat.le_of_ble_eq_true rfl⟩) C0 hP hS (fun v23 c23 H locs hp hP hS => ?_)
    obtain ⟨hrkp, rfl⟩ := hp
    obtain ⟨p, hp, hrk, rfl⟩ : ∃ p, p < K ∧ rk (sto nw (30 * i) 0) K p = K / 2 ∧ v23 = nI p := by
      rcases hrkp with q | ⟨_, q⟩
      · exact q
      · obtain ⟨p, hp, hrk⟩ := rk_some (V := (sto nw (30 * i) 0)) (K := K) (r := K / 2) (by omega)
        exact absurd hrk (q p hp)
    refine k0_i (rn_X2_78 (As := [.int (nI i), .int (nI p)]) (rest := []) (r := 6) C0 (m_X2_value l D cA N ad (c) th n nw ah rw i p hN10 hM (by omega) (by omega) (by omega) _) hP hS (by omega) hM.1 rfl ⟨rfl, rfl⟩ ⟨by decide, by decide⟩ hl.1 rfl (Nat.le_of_ble_eq_true rfl) dX2_middleOf_26 ⟨Nat.le_of_ble_eq_true rfl, Nat.le_of_ble_eq_true rfl⟩) C0 hP hS (fun v26 c26 H locs hp hP hS => ?_)
    obtain ⟨rfl, rfl⟩ := hp
    exact e_i C0 hr hlk hP hS dX2_middleOf_29 (by decide) (by decide) ⟨Or.inl ⟨p, hp, hrk, rfl⟩, rfl⟩
  · refine lv_iconst (v := (-1)) hx hb dX2_middleOf_8 rfl ?_
    refine lv_goto (tgt := 29) hx hb dX2_middleOf_9 (by decide) ?_
    exact e_i C0 hr hlk hP hS dX2_middleOf_29 (by decide) (by decide) ⟨Or.inr ⟨rfl, fun p hp => by omega⟩, rfl⟩
