/-! two rows changed together: t at role r, the row at role 9 -/
def w2 (cA : Nat → ClassId) (c : Nat → va_E) (r : Nat) (f g : Nat → Int32) : Nat → va_E := fun z => if z = 9 then .inl (cA 0, 24, .inl g) else if z = r then .inl (cA 0, 150, .inl f) else c z
section W2
variable {ad : Nat → Nat} {cA : Nat → ClassId} {c : Nat → va_E} {r n : Nat} {f g f' g' nw ah rw : Nat → Int32} {th : Int32}
theorem w2_9 : w2 cA c r f g 9 = .inl (cA 0, 24, .inl g) := by simp [w2]
theorem w2_r (h : r ≠ 9) : w2 cA c r f g r = .inl (cA 0, 150, .inl f) := by simp [w2, h]
theorem w2_ne {z : Nat} (h : z ≠ 9) (h2 : z ≠ r) : w2 cA c r f g z = c z := by simp [w2, h, h2]
theorem w2_self (h1 : c r = .inl (cA 0, 150, .inl f)) (h2 : c 9 = .inl (cA 0, 24, .inl g)) : w2 cA c r f g = c := by
  funext z
  unfold w2
  split
  · next e => rw [e, h2]
  · split
    · next e => rw [e, h1]
    · rfl
theorem w2_up_r (h : r ≠ 9) : va_up (w2 cA c r f g) r (.inl (cA 0, 150, .inl f')) = w2 cA c r f' g := by
  funext z
  by_cases e : z = r
  · subst e; simp [w2, va_up, h]
  · rw [va_up_ne _ _ e]; simp [w2, e]
theorem w2_up_9 : va_up (w2 cA c r f g) 9 (.inl (cA 0, 24, .inl g')) = w2 cA c r f g' := by
  funext z
  by_cases e : z = 9
  · subst e; simp [w2, va_up]
  · rw [va_up_ne _ _ e]; simp [w2, e]
theorem w2_mw8 : w2 cA (mw ad cA c th n nw ah rw) 8 f g = mw ad cA c th n nw f g := by
  funext z
  by_cases h9 : z = 9
  · subst h9; simp [w2, mw]
  · by_cases h8 : z = 8
    · subst h8; simp [w2, mw]
    · rw [w2_ne h9 h8]; simp [mw, h8, h9]
theorem w2_mw7 : w2 cA (mw ad cA c th n nw ah rw) 7 f g = mw ad cA c th n f ah g := by
  funext z
  by_cases h9 : z = 9
  · subst h9; simp [w2, mw]
  · by_cases h8 : z = 7
    · subst h8; simp [w2, mw]
    · rw [w2_ne h9 h8]; simp [mw, h8, h9]
end W2
theorem rws_step {G F : Nat → Int32} {st sa : Nat → Nat → Int32} {o pl fr : Nat} (hpl : pl < 8) (hG : ∀ k q, k < 3 → q < 8 → G (3 * q + k) = st k q) (hF : ∀ k, k < 3 → F (fr + k) = sa k o) : ∀ k q, k < 3 → q < 8 → va_cpy F G fr (3 * pl) 3 (3 * q + k) = cpS st pl sa o k q := by
  intro k q hk hq
  by_cases e : q = pl
  · subst e
    rw [show va_cpy F G fr (3 * q) 3 (3 * q + k) = F (fr + k) from by
      show (if 3 * q ≤ 3 * q + k ∧ 3 * q + k < 3 * q + 3 then F (fr + (3 * q + k - 3 * q)) else G (3 * q + k)) = _
      rw [if_pos (by omega)]; congr 1; omega, hF k hk]
    rcases (show k = 0 ∨ k = 1 ∨ k = 2 by omega) with rfl | rfl | rfl <;> simp [cpS, stU, upd]
  · rw [show va_cpy F G fr (3 * pl) 3 (3 * q + k) = G (3 * q + k) from by
      show (if 3 * pl ≤ 3 * q + k ∧ 3 * q + k < 3 * pl + 3 then F (fr + (3 * q + k - 3 * pl)) else G (3 * q + k)) = _
      rw [if_neg (by omega)], hG k q hk hq]
    rcases (show k = 0 ∨ k = 1 ∨ k = 2 by omega) with rfl | rfl | rfl <;> simp [cpS, stU, upd, e]
set_option maxHeartbeats 1000000 in
set_option maxRecDepth 10000 in
theorem m_X2_joined (l : Launch) (D : va_G) (cA : Nat → ClassId) (N : Nat) (ad : Nat → Nat) (c : Nat → va_E) (th : Int32) (n : Nat) (nw ah rw : Nat → Int32) (r a b : Nat) (f : Nat → Int32) (R Y L S D9 K Ro Yo Lo So Do Ko : Nat) (hN10 : 10 ≤ N) (hM : MoAt ad cA c th n nw ah rw) (hr78 : r = 7 ∨ r = 8) (hc : c r = .inl (cA 0, 150, .inl f)) (ha : a + 30 ≤ 150) (hb9 : b + 30 ≤ 150) (hab : a + 30 ≤ b ∨ b + 30 ≤ a) (hrow : RowE f a R Y L S D9 K) (hok : Hok R Y L S D9 K) (hrowo : RowE f b Ro Yo Lo So Do Ko) (hoo : Hok Ro Yo Lo So Do Ko) (hRR : R = Ro) : Ci l yX2_joined wX2_joined { frames := 1, cells := 0, slots := 0, locals := 60 } [.ref (ad 6), .ref (ad r), .int (nI a), .int (nI b)] D cA N ad c 0 0 (fun v c' => ∃ f' g', v = nI (jn S So K Ko (sto f a) (sto f b) R (0, 0, L, fun k q => rw (3 * q + k))).2.1 ∧ w2 cA c r f' g' = c' ∧ RowE f' a R Y (jn S So K Ko (sto f a) (sto f b) R (0, 0, L, fun k q => rw (3 * q + k))).2.2.1 (S + So) (D9 + Do) ((jn S So K Ko (sto f a) (sto f b) R (0, 0, L, fun k q => rw (3 * q + k))).1 + (jn S So K Ko (sto f a) (sto f b) R (0, 0, L, fun k q => rw (3 * q + k))).2.1) ∧ RowE f' b Ro Yo Lo 0 0 0 ∧ (∀ k q, k < 3 → q < (jn S So K Ko (sto f a) (sto f b) R (0, 0, L, fun k q => rw (3 * q + k))).1 + (jn S So K Ko (sto f a) (sto f b) R (0, 0, L, fun k q => rw (3 * q + k))).2.1 → sto f' a k q = (jn S So K Ko (sto f a) (sto f b) R (0, 0, L, fun k q => rw (3 * q + k))).2.2.2 k q) ∧ (∀ i, (i < a ∨ a + 30 ≤ i) ∧ (i < b ∨ b + 6 ≤ i) → f' i = f i)) := by
  intro sz9
  refine bd_of (cc := cX2_joined) (maxL := 9) (ret := some Jvm.ClassFile.FieldType.int) (by decide) rfl (Nat.le_of_ble_eq_true rfl) ?_
  intro p e s m below meth c0 C0 hr hlk hnm hP hS hsz ls hl
  subst hsz
  have hx := C0.1
  have hb := C0.2.1
  have hl : lv_has ls 9 [(0, .ref (ad 6)), (1, .ref (ad r)), (2, .int (nI a)), (3, .int (nI b))] := hl
  obtain ⟨r0, r1, r2, r3, r4, r5⟩ := id hrow
  obtain ⟨q1, q2, q3, q4, q5, q6, q7, q8, q9⟩ := id hok
  obtain ⟨t0, t1, t2, t3, t4, t5⟩ := id hrowo
  obtain ⟨o1, o2, o3, o4, o5, o6, o7, o8, o9⟩ := id hoo
  have hr9 : r ≠ 9 := by omega
  rw [← w2_self (r := r) (f := f) (g := rw) hc hM.2.2.2] at hP
  refine lv_iconst (v := nI 0) hx hb dX2_joined_0 rfl ?_
  refine lv_istore (lv' := [(4, .int (nI 0)), (0, .ref (ad 6)), (1, .ref (ad r)), (2, .int (nI a)), (3, .int (nI b))]) hx hb dX2_joined_1 hl (by decide) rfl (fun ls hl => ?_)
  refine lv_iconst (v := nI 0) hx hb dX2_joined_3 rfl ?_
  refine lv_istore (lv' := [(5, .int (nI 0)), (4, .int (nI 0)), (0, .ref (ad 6)), (1, .ref (ad r)), (2, .int (nI a)), (3, .int (nI b))]) hx hb dX2_joined_4 hl (by decide) rfl (fun ls hl => ?_)
  have loop6 : ∀ (n9 : Nat) (k : Nat) (pl : Nat) (x : Nat × Nat × Nat × (Nat → Nat → Int32)) (F : Nat → Int32) (G : Nat → Int32), (pl + k = R) → (x.1 + x.2.1 = pl) → (x.1 ≤ K) → (x.2.1 ≤ Ko) → (x.2.2.1 ≤ 9999) → (jn S So K Ko (sto f a) (sto f b) k x = (jn S So K Ko (sto f a) (sto f b) R (0, 0, L, fun k q => rw (3 * q + k)))) → (∀ i, i ≠ a + 2 → F i = f i) → (F (a + 2) = nI x.2.2.1) → (∀ k q, k < 3 → q < 8 → G (3 * q + k) = x.2.2.2 k q) → k < n9 → ∀ (H : Heap) (locs : List Loc) (ls : Array Slot), va_P D vwCl (wl N ad (w2 cA c r F G)) H → va_S (wA N ad s.heap.size) s.heap H locs → lv_has ls 9 [(0, .ref (ad 6)), (1, .ref (ad r)), (2, .int (nI a)), (3, .int (nI b)), (4, .int (nI x.1)), (5, .int (nI x.2.1))] → W p l e { frames := 1, cells := 0, slots := 0, locals := 60 } s m [.ref (ad 6), .ref (ad r), .int (nI a), .int (nI b)].toArray below meth c0 H locs 0 0 (MQ below (va_Qi (fun v c' => ∃ f' g', v = nI (jn S So K Ko (sto f a) (sto f b) R (0, 0, L, fun k q => rw (3 * q + k))).2.1 ∧ w2 cA c r f' g' = c' ∧ RowE f' a R Y (jn S So K Ko (sto f a) (sto f b) R (0, 0, L, fun k q => rw (3 * q + k))).2.2.1 (S + So) (D9 + Do) ((jn S So K Ko (sto f a) (sto f b) R (0, 0, L, fun k q => rw (3 * q + k))).1 + (jn S So K Ko (sto f a) (sto f b) R (0, 0, L, fun k q => rw (3 * q + k))).2.1) ∧ RowE f' b Ro Yo Lo 0 0 0 ∧ (∀ k q, k < 3 → q < (jn S So K Ko (sto f a) (sto f b) R (0, 0, L, fun k q => rw (3 * q + k))).1 + (jn S So K Ko (sto f a) (sto f b) R (0, 0, L, fun k q => rw (3 * q + k))).2.1 → sto f' a k q = (jn S So K Ko (sto f a) (sto f b) R (0, 0, L, fun k q => rw (3 * q + k))).2.2.2 k q) ∧ (∀ i, (i < a ∨ a + 30 ≤ i) ∧ (i < b ∨ b + 6 ≤ i) → f' i = f i)) (fun c' t => va_P D vwCl (wl N ad c') t.heap) (wA N ad s.heap.size)) [.ref (ad 6), .ref (ad r), .int (nI a), .int (nI b)].toArray s 0 0 (wA N ad s.heap.size)) (F0 m 6 ls []) := by
    intro n9
    induction n9 with
    | zero => intro k pl x F G hk hpl hx1 hx2 hxL hj hF hFL hG hlt9; exact absurd hlt9 (Nat.not_lt_zero _)
    | succ n9 ih6 =>
      intro k pl x F G hk hpl hx1 hx2 hxL hj hF hFL hG hlt9 H locs ls hP hS hl
      have hnl := nl_lt x.2.2.1
      have hmd : nl x.2.2.1 % (S + So - x.1 - x.2.1) ≤ nl x.2.2.1 := Nat.mod_le _ _
      have hme : S + So - x.1 - x.2.1 = S + So - pl := by omega
      refine lv_iload hx hb dX2_joined_6 (lv_at hl 4 rfl) ?_
      refine lv_iload hx hb dX2_joined_8 (lv_at hl 5 rfl) ?_
      refine n_iadd hx hb dX2_joined_10 ?_
      refine lv_aload_n hx hb dX2_joined_11 rfl (lv_at hl 1 rfl) ?_
      refine lv_iload_n hx hb dX2_joined_12 rfl (lv_at hl 2 rfl) ?_
      refine lv_iconst (v := nI 0) hx hb dX2_joined_13 rfl ?_
      refine n_iadd hx hb dX2_joined_14 ?_
      refine a_ildE C0 hP (by omega) (w2_r hr9) (by omega) (by omega) ((hF _ (by omega)).trans r0) dX2_joined_15 ?_
      refine n_icmp_ge (tgt := 166) hx hb (by omega) (by omega) dX2_joined_16 (by decide) (fun h16 => ?_) (fun h16 => ?_)
      · have hjx : x = (jn S So K Ko (sto f a) (sto f b) R (0, 0, L, fun k q => rw (3 * q + k))) := by rw [← hj, show k = 0 from by omega]; rfl
        refine lv_aload_n hx hb dX2_joined_166 rfl (lv_at hl 0 rfl) ?_
        refine gf_X2_16 C0 hP (by omega) ((w2_ne (by decide) (by omega)).trans hM.1) rfl dX2_joined_167 ?_
        refine lv_iconst (v := nI 0) hx hb dX2_joined_170 rfl ?_
        refine lv_aload_n hx hb dX2_joined_171 rfl (lv_at hl 1 rfl) ?_
        refine lv_iload_n hx hb dX2_joined_172 rfl (lv_at hl 2 rfl) ?_
        refine lv_bipush (v := nI 6) hx hb dX2_joined_173 rfl ?_
        refine n_iadd hx hb dX2_joined_175 ?_
        refine lv_iconst (v := nI 3) hx hb dX2_joined_176 rfl ?_
        refine lv_iload hx hb dX2_joined_177 (lv_at hl 4 rfl) ?_
        refine lv_iload hx hb dX2_joined_179 (lv_at hl 5 rfl) ?_
        refine n_iadd hx hb dX2_joined_181 ?_
        refine n_imul hx hb dX2_joined_182 ?_
        refine a_copy C0 hl hP hS (by omega) (by omega) w2_9 (w2_r hr9) (by omega) (by omega) (by omega) (by omega) (by omega) (by decide) (Nat.le_of_ble_eq_true rfl) dX2_joined_183 (fun H locs hP hS => ?_)
        obtain ⟨F1, hF1⟩ : ∃ z, z = va_cpy G F (0) (a + 6) (3 * (x.1 + x.2.1)) := ⟨_, rfl⟩
        rw [← hF1] at hP
        have kF1_0 : F1 (a + 0) = nI R := by rw [hF1]; exact (pk_cpy_out (by omega)).trans ((hF _ (by omega)).trans r0)
        have kF1_1 : F1 (a + 1) = nI Y := by rw [hF1]; exact (pk_cpy_out (by omega)).trans ((hF _ (by omega)).trans r1)
        have kF1_2 : F1 (a + 3) = nI S := by rw [hF1]; exact (pk_cpy_out (by omega)).trans ((hF _ (by omega)).trans r3)
        have kF1_3 : F1 (a + 4) = nI D9 := by rw [hF1]; exact (pk_cpy_out (by omega)).trans ((hF _ (by omega)).trans r4)
        have kF1_4 : F1 (a + 5) = nI K := by rw [hF1]; exact (pk_cpy_out (by omega)).trans ((hF _ (by omega)).trans r5)
        have kF1_5 : F1 (a + 2) = nI x.2.2.1 := by rw [hF1]; exact (pk_cpy_out (by omega)).trans hFL
        have kF1_6 : F1 (b + 0) = nI Ro := by rw [hF1]; exact (pk_cpy_out (by omega)).trans ((hF _ (by omega)).trans t0)
        have kF1_7 : F1 (b + 1) = nI Yo := by rw [hF1]; exact (pk_cpy_out (by omega)).trans ((hF _ (by omega)).trans t1)
        have kF1_8 : F1 (b + 2) = nI Lo := by rw [hF1]; exact (pk_cpy_out (by omega)).trans ((hF _ (by omega)).trans t2)
        have kF1_9 : F1 (b + 3) = nI So := by rw [hF1]; exact (pk_cpy_out (by omega)).trans ((hF _ (by omega)).trans t3)
        have kF1_10 : F1 (b + 4) = nI Do := by rw [hF1]; exact (pk_cpy_out (by omega)).trans ((hF _ (by omega)).trans t4)
        have kF1_11 : F1 (b + 5) = nI Ko := by rw [hF1]; exact (pk_cpy_out (by omega)).trans ((hF _ (by omega)).trans t5)
        rw [w2_up_r hr9] at hP
        refine lv_aload_n hx hb dX2_joined_186 rfl (lv_at hl 1 rfl) ?_
        refine lv_iload_n hx hb dX2_joined_187 rfl (lv_at hl 2 rfl) ?_
        refine lv_iconst (v := nI 5) hx hb dX2_joined_188 rfl ?_
        refine n_iadd hx hb dX2_joined_189 ?_
        refine lv_iload hx hb dX2_joined_190 (lv_at hl 4 rfl) ?_
        refine lv_iload hx hb dX2_joined_192 (lv_at hl 5 rfl) ?_
        refine n_iadd hx hb dX2_joined_194 ?_
        refine a_ist C0 hP hS (by omega) (w2_r hr9) (by omega) (by omega) dX2_joined_195 (fun H locs hP hS => ?_)
        obtain ⟨F2, hF2⟩ : ∃ z, z = upd F1 (a + 5) (nI (x.1 + x.2.1)) := ⟨_, rfl⟩
        rw [← hF2] at hP
        have kF2_0 : F2 (a + 0) = nI R := by rw [hF2]; exact (pk_un (by omega)).trans kF1_0
        have kF2_1 : F2 (a + 1) = nI Y := by rw [hF2]; exact (pk_un (by omega)).trans kF1_1
        have kF2_2 : F2 (a + 3) = nI S := by rw [hF2]; exact (pk_un (by omega)).trans kF1_2
        have kF2_3 : F2 (a + 4) = nI D9 := by rw [hF2]; exact (pk_un (by omega)).trans kF1_3
        have kF2_5 : F2 (a + 2) = nI x.2.2.1 := by rw [hF2]; exact (pk_un (by omega)).trans kF1_5
        have kF2_6 : F2 (b + 0) = nI Ro := by rw [hF2]; exact (pk_un (by omega)).trans kF1_6
        have kF2_7 : F2 (b + 1) = nI Yo := by rw [hF2]; exact (pk_un (by omega)).trans kF1_7
        have kF2_8 : F2 (b + 2) = nI Lo := by rw [hF2]; exact (pk_un (by omega)).trans kF1_8
        have kF2_9 : F2 (b + 3) = nI So := by rw [hF2]; exact (pk_un (by omega)).trans kF1_9
        have kF2_10 : F2 (b + 4) = nI Do := by rw [hF2]; exact (pk_un (by omega)).trans kF1_10
        have kF2_11 : F2 (b + 5) = nI Ko := by rw [hF2]; exact (pk_un (by omega)).trans kF1_11
        have kF2_n : F2 (a + 5) = nI (x.1 + x.2.1) := by rw [hF2]; exact pk_us
        have frF2 : ∀ i, (i < a ∨ a + 6 ≤ i) ∧ (i < b ∨ b + 6 ≤ i) → F2 i = F1 i := fun i hi => by rw [hF2]; exact (pk_un (by omega)).trans ((fun _ _ => rfl) i hi)
        rw [w2_up_r hr9] at hP
        refine lv_aload_n hx hb dX2_joined_196 rfl (lv_at hl 1 rfl) ?_
        refine lv_iload_n hx hb dX2_joined_197 rfl (lv_at hl 2 rfl) ?_
        refine lv_iconst (v := nI 3) hx hb dX2_joined_198 rfl ?_
        refine n_iadd hx hb dX2_joined_199 ?_
        refine lv_dup2_11 hx hb dX2_joined_200 rfl rfl ?_
        refine a_ildE C0 hP (by omega) (w2_r hr9) (by omega) (by omega) kF2_2 dX2_joined_201 ?_
        refine lv_aload_n hx hb dX2_joined_202 rfl (lv_at hl 1 rfl) ?_
        refine lv_iload_n hx hb dX2_joined_203 rfl (lv_at hl 3 rfl) ?_
        refine lv_iconst (v := nI 3) hx hb dX2_joined_204 rfl ?_
        refine n_iadd hx hb dX2_joined_205 ?_
        refine a_ildE C0 hP (by omega) (w2_r hr9) (by omega) (by omega) kF2_9 dX2_joined_206 ?_
        refine n_iadd hx hb dX2_joined_207 ?_
        refine a_ist C0 hP hS (by omega) (w2_r hr9) (by omega) (by omega) dX2_joined_208 (fun H locs hP hS => ?_)
        obtain ⟨F3, hF3⟩ : ∃ z, z = upd F2 (a + 3) (nI (S + So)) := ⟨_, rfl⟩
        rw [← hF3] at hP
        have kF3_0 : F3 (a + 0) = nI R := by rw [hF3]; exact (pk_un (by omega)).trans kF2_0
        have kF3_1 : F3 (a + 1) = nI Y := by rw [hF3]; exact (pk_un (by omega)).trans kF2_1
        have kF3_3 : F3 (a + 4) = nI D9 := by rw [hF3]; exact (pk_un (by omega)).trans kF2_3
        have kF3_4 : F3 (a + 2) = nI x.2.2.1 := by rw [hF3]; exact (pk_un (by omega)).trans kF2_5
        have kF3_5 : F3 (b + 0) = nI Ro := by rw [hF3]; exact (pk_un (by omega)).trans kF2_6
        have kF3_6 : F3 (b + 1) = nI Yo := by rw [hF3]; exact (pk_un (by omega)).trans kF2_7
        have kF3_7 : F3 (b + 2) = nI Lo := by rw [hF3]; exact (pk_un (by omega)).trans kF2_8
        have kF3_8 : F3 (b + 3) = nI So := by rw [hF3]; exact (pk_un (by omega)).trans kF2_9
        have kF3_9 : F3 (b + 4) = nI Do := by rw [hF3]; exact (pk_un (by omega)).trans kF2_10
        have kF3_10 : F3 (b + 5) = nI Ko := by rw [hF3]; exact (pk_un (by omega)).trans kF2_11
        have kF3_11 : F3 (a + 5) = nI (x.1 + x.2.1) := by rw [hF3]; exact (pk_un (by omega)).trans kF2_n
        have kF3_n : F3 (a + 3) = nI (S + So) := by rw [hF3]; exact pk_us
        have frF3 : ∀ i, (i < a ∨ a + 6 ≤ i) ∧ (i < b ∨ b + 6 ≤ i) → F3 i = F1 i := fun i hi => by rw [hF3]; exact (pk_un (by omega)).trans (frF2 i hi)
        rw [w2_up_r hr9] at hP
        refine lv_aload_n hx hb dX2_joined_209 rfl (lv_at hl 1 rfl) ?_
        refine lv_iload_n hx hb dX2_joined_210 rfl (lv_at hl 2 rfl) ?_
        refine lv_iconst (v := nI 4) hx hb dX2_joined_211 rfl ?_
        refine n_iadd hx hb dX2_joined_212 ?_
        refine lv_dup2_11 hx hb dX2_joined_213 rfl rfl ?_
        refine a_ildE C0 hP (by omega) (w2_r hr9) (by omega) (by omega) kF3_3 dX2_joined_214 ?_
        refine lv_aload_n hx hb dX2_joined_215 rfl (lv_at hl 1 rfl) ?_
        refine lv_iload_n hx hb dX2_joined_216 rfl (lv_at hl 3 rfl) ?_
        refine lv_iconst (v := nI 4) hx hb dX2_joined_217 rfl ?_
        refine n_iadd hx hb dX2_joined_218 ?_
        refine a_ildE C0 hP (by omega) (w2_r hr9) (by omega) (by omega) kF3_9 dX2_joined_219 ?_
        refine n_iadd hx hb dX2_joined_220 ?_
        refine a_ist C0 hP hS (by omega) (w2_r hr9) (by omega) (by omega) dX2_joined_221 (fun H locs hP hS => ?_)
        obtain ⟨F4, hF4⟩ : ∃ z, z = upd F3 (a + 4) (nI (D9 + Do)) := ⟨_, rfl⟩
        rw [← hF4] at hP
        have kF4_0 : F4 (a + 0) = nI R := by rw [hF4]; exact (pk_un (by omega)).trans kF3_0
        have kF4_1 : F4 (a + 1) = nI Y := by rw [hF4]; exact (pk_un (by omega)).trans kF3_1
        have kF4_3 : F4 (a + 2) = nI x.2.2.1 := by rw [hF4]; exact (pk_un (by omega)).trans kF3_4
        have kF4_4 : F4 (b + 0) = nI Ro := by rw [hF4]; exact (pk_un (by omega)).trans kF3_5
        have kF4_5 : F4 (b + 1) = nI Yo := by rw [hF4]; exact (pk_un (by omega)).trans kF3_6
        have kF4_6 : F4 (b + 2) = nI Lo := by rw [hF4]; exact (pk_un (by omega)).trans kF3_7
        have kF4_7 : F4 (b + 3) = nI So := by rw [hF4]; exact (pk_un (by omega)).trans kF3_8
        have kF4_8 : F4 (b + 4) = nI Do := by rw [hF4]; exact (pk_un (by omega)).trans kF3_9
        have kF4_9 : F4 (b + 5) = nI Ko := by rw [hF4]; exact (pk_un (by omega)).trans kF3_10
        have kF4_10 : F4 (a + 5) = nI (x.1 + x.2.1) := by rw [hF4]; exact (pk_un (by omega)).trans kF3_11
        have kF4_11 : F4 (a + 3) = nI (S + So) := by rw [hF4]; exact (pk_un (by omega)).trans kF3_n
        have kF4_n : F4 (a + 4) = nI (D9 + Do) := by rw [hF4]; exact pk_us
        have frF4 : ∀ i, (i < a ∨ a + 6 ≤ i) ∧ (i < b ∨ b + 6 ≤ i) → F4 i = F1 i := fun i hi => by rw [hF4]; exact (pk_un (by omega)).trans (frF3 i hi)
        rw [w2_up_r hr9] at hP
        refine lv_aload_n hx hb dX2_joined_222 rfl (lv_at hl 1 rfl) ?_
        refine lv_iload_n hx hb dX2_joined_223 rfl (lv_at hl 3 rfl) ?_
        refine lv_iconst (v := nI 5) hx hb dX2_joined_224 rfl ?_
        refine n_iadd hx hb dX2_joined_225 ?_
        refine lv_iconst (v := nI 0) hx hb dX2_joined_226 rfl ?_
        refine a_ist C0 hP hS (by omega) (w2_r hr9) (by omega) (by omega) dX2_joined_227 (fun H locs hP hS => ?_)
        obtain ⟨F5, hF5⟩ : ∃ z, z = upd F4 (b + 5) (nI 0) := ⟨_, rfl⟩
        rw [← hF5] at hP
        have kF5_0 : F5 (a + 0) = nI R := by rw [hF5]; exact (pk_un (by omega)).trans kF4_0
        have kF5_1 : F5 (a + 1) = nI Y := by rw [hF5]; exact (pk_un (by omega)).trans kF4_1
        have kF5_2 : F5 (a + 2) = nI x.2.2.1 := by rw [hF5]; exact (pk_un (by omega)).trans kF4_3
        have kF5_3 : F5 (b + 0) = nI Ro := by rw [hF5]; exact (pk_un (by omega)).trans kF4_4
        have kF5_4 : F5 (b + 1) = nI Yo := by rw [hF5]; exact (pk_un (by omega)).trans kF4_5
        have kF5_5 : F5 (b + 2) = nI Lo := by rw [hF5]; exact (pk_un (by omega)).trans kF4_6
        have kF5_6 : F5 (b + 3) = nI So := by rw [hF5]; exact (pk_un (by omega)).trans kF4_7
        have kF5_7 : F5 (b + 4) = nI Do := by rw [hF5]; exact (pk_un (by omega)).trans kF4_8
        have kF5_9 : F5 (a + 5) = nI (x.1 + x.2.1) := by rw [hF5]; exact (pk_un (by omega)).trans kF4_10
        have kF5_10 : F5 (a + 3) = nI (S + So) := by rw [hF5]; exact (pk_un (by omega)).trans kF4_11
        have kF5_11 : F5 (a + 4) = nI (D9 + Do) := by rw [hF5]; exact (pk_un (by omega)).trans kF4_n
        have kF5_n : F5 (b + 5) = nI 0 := by rw [hF5]; exact pk_us
        have frF5 : ∀ i, (i < a ∨ a + 6 ≤ i) ∧ (i < b ∨ b + 6 ≤ i) → F5 i = F1 i := fun i hi => by rw [hF5]; exact (pk_un (by omega)).trans (frF4 i hi)
        rw [w2_up_r hr9] at hP
        refine lv_aload_n hx hb dX2_joined_228 rfl (lv_at hl 1 rfl) ?_
        refine lv_iload_n hx hb dX2_joined_229 rfl (lv_at hl 3 rfl) ?_
        refine lv_iconst (v := nI 3) hx hb dX2_joined_230 rfl ?_
        refine n_iadd hx hb dX2_joined_231 ?_
        refine lv_iconst (v := nI 0) hx hb dX2_joined_232 rfl ?_
        refine a_ist C0 hP hS (by omega) (w2_r hr9) (by omega) (by omega) dX2_joined_233 (fun H locs hP hS => ?_)
        obtain ⟨F6, hF6⟩ : ∃ z, z = upd F5 (b + 3) (nI 0) := ⟨_, rfl⟩
        rw [← hF6] at hP
        have kF6_0 : F6 (a + 0) = nI R := by rw [hF6]; exact (pk_un (by omega)).trans kF5_0
        have kF6_1 : F6 (a + 1) = nI Y := by rw [hF6]; exact (pk_un (by omega)).trans kF5_1
        have kF6_2 : F6 (a + 2) = nI x.2.2.1 := by rw [hF6]; exact (pk_un (by omega)).trans kF5_2
        have kF6_3 : F6 (b + 0) = nI Ro := by rw [hF6]; exact (pk_un (by omega)).trans kF5_3
        have kF6_4 : F6 (b + 1) = nI Yo := by rw [hF6]; exact (pk_un (by omega)).trans kF5_4
        have kF6_5 : F6 (b + 2) = nI Lo := by rw [hF6]; exact (pk_un (by omega)).trans kF5_5
        have kF6_7 : F6 (b + 4) = nI Do := by rw [hF6]; exact (pk_un (by omega)).trans kF5_7
        have kF6_8 : F6 (a + 5) = nI (x.1 + x.2.1) := by rw [hF6]; exact (pk_un (by omega)).trans kF5_9
        have kF6_9 : F6 (a + 3) = nI (S + So) := by rw [hF6]; exact (pk_un (by omega)).trans kF5_10
        have kF6_10 : F6 (a + 4) = nI (D9 + Do) := by rw [hF6]; exact (pk_un (by omega)).trans kF5_11
        have kF6_11 : F6 (b + 5) = nI 0 := by rw [hF6]; exact (pk_un (by omega)).trans kF5_n
        have kF6_n : F6 (b + 3) = nI 0 := by rw [hF6]; exact pk_us
        have frF6 : ∀ i, (i < a ∨ a + 6 ≤ i) ∧ (i < b ∨ b + 6 ≤ i) → F6 i = F1 i := fun i hi => by rw [hF6]; exact (pk_un (by omega)).trans (frF5 i hi)
        rw [w2_up_r hr9] at hP
        refine lv_aload_n hx hb dX2_joined_234 rfl (lv_at hl 1 rfl) ?_
        refine lv_iload_n hx hb dX2_joined_235 rfl (lv_at hl 3 rfl) ?_
        refine lv_iconst (v := nI 4) hx hb dX2_joined_236 rfl ?_
        refine n_iadd hx hb dX2_joined_237 ?_
        refine lv_iconst (v := nI 0) hx hb dX2_joined_238 rfl ?_
        refine a_ist C0 hP hS (by omega) (w2_r hr9) (by omega) (by omega) dX2_joined_239 (fun H locs hP hS => ?_)
        obtain ⟨F7, hF7⟩ : ∃ z, z = upd F6 (b + 4) (nI 0) := ⟨_, rfl⟩
        rw [← hF7] at hP
        have kF7_0 : F7 (a + 0) = nI R := by rw [hF7]; exact (pk_un (by omega)).trans kF6_0
        have kF7_1 : F7 (a + 1) = nI Y := by rw [hF7]; exact (pk_un (by omega)).trans kF6_1
        have kF7_2 : F7 (a + 2) = nI x.2.2.1 := by rw [hF7]; exact (pk_un (by omega)).trans kF6_2
        have kF7_3 : F7 (b + 0) = nI Ro := by rw [hF7]; exact (pk_un (by omega)).trans kF6_3
        have kF7_4 : F7 (b + 1) = nI Yo := by rw [hF7]; exact (pk_un (by omega)).trans kF6_4
        have kF7_5 : F7 (b + 2) = nI Lo := by rw [hF7]; exact (pk_un (by omega)).trans kF6_5
        have kF7_7 : F7 (a + 5) = nI (x.1 + x.2.1) := by rw [hF7]; exact (pk_un (by omega)).trans kF6_8
        have kF7_8 : F7 (a + 3) = nI (S + So) := by rw [hF7]; exact (pk_un (by omega)).trans kF6_9
        have kF7_9 : F7 (a + 4) = nI (D9 + Do) := by rw [hF7]; exact (pk_un (by omega)).trans kF6_10
        have kF7_10 : F7 (b + 5) = nI 0 := by rw [hF7]; exact (pk_un (by omega)).trans kF6_11
        have kF7_11 : F7 (b + 3) = nI 0 := by rw [hF7]; exact (pk_un (by omega)).trans kF6_n
        have kF7_n : F7 (b + 4) = nI 0 := by rw [hF7]; exact pk_us
        have frF7 : ∀ i, (i < a ∨ a + 6 ≤ i) ∧ (i < b ∨ b + 6 ≤ i) → F7 i = F1 i := fun i hi => by rw [hF7]; exact (pk_un (by omega)).trans (frF6 i hi)
        rw [w2_up_r hr9] at hP
        refine lv_iload hx hb dX2_joined_240 (lv_at hl 5 rfl) ?_
        rw [← hjx]
        have htt : x.1 + x.2.1 ≤ 8 := by omega
        exact e_i C0 hr hlk hP hS dX2_joined_242 (by decide) (by decide) ⟨F7, G, rfl, rfl, ⟨kF7_0, kF7_1, kF7_2, kF7_8, kF7_9, kF7_7⟩, ⟨kF7_3, kF7_4, kF7_5, kF7_11, kF7_n, kF7_10⟩, fun k9 q9 hk9 hq9 => (frF7 _ ⟨by omega, by omega⟩).trans (by rw [hF1, pk_cpy_in (by omega) (by omega)]; rw [show 0 + (a + 6 + 3 * q9 + k9 - (a + 6)) = 3 * q9 + k9 from by omega]; exact hG k9 q9 hk9 (by omega)), fun z hz => (frF7 z ⟨by omega, by omega⟩).trans (by rw [hF1, pk_cpy_out (by omega)]; exact hF z (by omega))⟩
      · refine lv_iload hx hb dX2_joined_19 (lv_at hl 4 rfl) ?_
        refine lv_aload_n hx hb dX2_joined_21 rfl (lv_at hl 1 rfl) ?_
        refine lv_iload_n hx hb dX2_joined_22 rfl (lv_at hl 2 rfl) ?_
        refine lv_iconst (v := nI 5) hx hb dX2_joined_23 rfl ?_
        refine n_iadd hx hb dX2_joined_24 ?_
        refine a_ildE C0 hP (by omega) (w2_r hr9) (by omega) (by omega) ((hF _ (by omega)).trans r5) dX2_joined_25 ?_
        refine n_icmp_lt (tgt := 39) hx hb (by omega) (by omega) dX2_joined_26 (by decide) (fun h26 => ?_) (fun h26 => ?_)
        · refine lv_aload_n hx hb dX2_joined_39 rfl (lv_at hl 1 rfl) ?_
          refine lv_iload_n hx hb dX2_joined_40 rfl (lv_at hl 2 rfl) ?_
          refine lv_aload_n hx hb dX2_joined_41 rfl (lv_at hl 1 rfl) ?_
          refine lv_iload_n hx hb dX2_joined_42 rfl (lv_at hl 2 rfl) ?_
          refine lv_iconst (v := nI 3) hx hb dX2_joined_43 rfl ?_
          refine n_iadd hx hb dX2_joined_44 ?_
          refine a_ildE C0 hP (by omega) (w2_r hr9) (by omega) (by omega) ((hF _ (by omega)).trans r3) dX2_joined_45 ?_
          refine lv_aload_n hx hb dX2_joined_46 rfl (lv_at hl 1 rfl) ?_
          refine lv_iload_n hx hb dX2_joined_47 rfl (lv_at hl 3 rfl) ?_
          refine lv_iconst (v := nI 3) hx hb dX2_joined_48 rfl ?_
          refine n_iadd hx hb dX2_joined_49 ?_
          refine a_ildE C0 hP (by omega) (w2_r hr9) (by omega) (by omega) ((hF _ (by omega)).trans t3) dX2_joined_50 ?_
          refine n_iadd hx hb dX2_joined_51 ?_
          refine lv_iload hx hb dX2_joined_52 (lv_at hl 4 rfl) ?_
          refine n_isub hx hb (by omega) dX2_joined_54 ?_
          refine lv_iload hx hb dX2_joined_55 (lv_at hl 5 rfl) ?_
          refine n_isub hx hb (by omega) dX2_joined_57 ?_
          refine k0_i (rn_X2_26 (As := [.ref (ad r), .int (nI a), .int (nI (((S + So) - x.1) - x.2.1))]) (rest := []) C0 (m_X2_draw l D cA N ad (w2 cA c r F G) r a F x.2.2.1 (((S + So) - x.1) - x.2.1) (by omega) (w2_r hr9) (by omega) hFL (by omega) (by omega) (by omega) _) hP hS rfl ⟨rfl, rfl⟩ ⟨by decide, by decide⟩ hl.1 rfl (Nat.le_of_ble_eq_true rfl) dX2_joined_58 ⟨Nat.le_of_ble_eq_true rfl, Nat.le_of_ble_eq_true rfl⟩) C0 hP hS (fun v58 c58 H locs hp hP hS => ?_)
          obtain ⟨rfl, rfl⟩ := hp
          obtain ⟨F8, hF8⟩ : ∃ z, z = upd F (a + 2) (nI (nl x.2.2.1)) := ⟨_, rfl⟩
          rw [← hF8] at hP
          have kF8_0 : F8 (a + 0) = nI R := by rw [hF8]; exact (pk_un (by omega)).trans ((hF _ (by omega)).trans r0)
          have kF8_1 : F8 (a + 1) = nI Y := by rw [hF8]; exact (pk_un (by omega)).trans ((hF _ (by omega)).trans r1)
          have kF8_2 : F8 (a + 3) = nI S := by rw [hF8]; exact (pk_un (by omega)).trans ((hF _ (by omega)).trans r3)
          have kF8_3 : F8 (a + 4) = nI D9 := by rw [hF8]; exact (pk_un (by omega)).trans ((hF _ (by omega)).trans r4)
          have kF8_4 : F8 (a + 5) = nI K := by rw [hF8]; exact (pk_un (by omega)).trans ((hF _ (by omega)).trans r5)
          have kF8_6 : F8 (b + 0) = nI Ro := by rw [hF8]; exact (pk_un (by omega)).trans ((hF _ (by omega)).trans t0)
          have kF8_7 : F8 (b + 1) = nI Yo := by rw [hF8]; exact (pk_un (by omega)).trans ((hF _ (by omega)).trans t1)
          have kF8_8 : F8 (b + 2) = nI Lo := by rw [hF8]; exact (pk_un (by omega)).trans ((hF _ (by omega)).trans t2)
          have kF8_9 : F8 (b + 3) = nI So := by rw [hF8]; exact (pk_un (by omega)).trans ((hF _ (by omega)).trans t3)
          have kF8_10 : F8 (b + 4) = nI Do := by rw [hF8]; exact (pk_un (by omega)).trans ((hF _ (by omega)).trans t4)
          have kF8_11 : F8 (b + 5) = nI Ko := by rw [hF8]; exact (pk_un (by omega)).trans ((hF _ (by omega)).trans t5)
          have kF8_n : F8 (a + 2) = nI (nl x.2.2.1) := by rw [hF8]; exact pk_us
          rw [w2_up_r hr9] at hP
          refine lv_istore (lv' := [(6, .int (nI (nl x.2.2.1 % (((S + So) - x.1) - x.2.1)))), (0, .ref (ad 6)), (1, .ref (ad r)), (2, .int (nI a)), (3, .int (nI b)), (4, .int (nI x.1)), (5, .int (nI x.2.1))]) hx hb dX2_joined_61 hl (by decide) rfl (fun ls hl => ?_)
          refine lv_iload hx hb dX2_joined_63 (lv_at hl 6 rfl) ?_
          refine lv_aload_n hx hb dX2_joined_65 rfl (lv_at hl 2 rfl) ?_
          refine lv_iload_n hx hb dX2_joined_66 rfl (lv_at hl 4 rfl) ?_
          refine lv_iconst (v := nI 5) hx hb dX2_joined_67 rfl ?_
          refine n_iadd hx hb dX2_joined_68 ?_
          refine a_ildE C0 hP (by omega) (w2_r hr9) (by omega) (by omega) kF8_11 dX2_joined_69 ?_
          refine n_icmp_eq (tgt := 96) hx hb (by omega) (by omega) dX2_joined_70 (by decide) (fun h70 => ?_) (fun h70 => ?_)
          · have hcs : (nl x.2.2.1 % (S + So - pl) < S - x.1 ∧ x.1 < K) ∨ Ko ≤ x.2.1 := by rw [← hme]; omega
            refine lv_iconst (v := nI 1) hx hb dX2_joined_96 rfl ?_
            refine lv_goto (tgt := 101) hx hb dX2_joined_97 (by decide) ?_
            refine lv_istore (lv' := [(7, .int (nI 1)), (6, .int (nI (nl x.2.2.1 % (((S + So) - x.1) - x.2.1)))), (0, .ref (ad 6)), (1, .ref (ad r)), (2, .int (nI a)), (3, .int (nI b)), (4, .int (nI x.1)), (5, .int (nI x.2.1))]) hx hb dX2_joined_101 hl (by decide) rfl (fun ls hl => ?_)
            refine lv_iload hx hb dX2_joined_103 (lv_at hl 0 rfl) ?_
            refine n_if_eq (tgt := 120) hx hb (by omega) dX2_joined_105 (by decide) (fun h105 => ?_) (fun h105 => ?_)
            · exfalso; omega
            refine lv_iload_n hx hb dX2_joined_108 rfl (lv_at hl 4 rfl) ?_
            refine lv_bipush (v := nI 6) hx hb dX2_joined_109 rfl ?_
            refine n_iadd hx hb dX2_joined_111 ?_
            refine lv_iconst (v := nI 3) hx hb dX2_joined_112 rfl ?_
            refine lv_iload hx hb dX2_joined_113 (lv_at hl 6 rfl) ?_
            refine n_imul hx hb dX2_joined_115 ?_
            refine n_iadd hx hb dX2_joined_116 ?_
            refine lv_goto (tgt := 129) hx hb dX2_joined_117 (by decide) ?_
            refine lv_istore (lv' := [(8, .int (nI (a + 6 + (3 * x.1)))), (7, .int (nI 1)), (6, .int (nI (nl x.2.2.1 % (((S + So) - x.1) - x.2.1)))), (0, .ref (ad 6)), (1, .ref (ad r)), (2, .int (nI a)), (3, .int (nI b)), (4, .int (nI x.1)), (5, .int (nI x.2.1))]) hx hb dX2_joined_129 hl (by decide) rfl (fun ls hl => ?_)
            refine lv_aload_n hx hb dX2_joined_131 rfl (lv_at hl 4 rfl) ?_
            refine lv_iload hx hb dX2_joined_132 (lv_at hl 0 rfl) ?_
            refine lv_aload_n hx hb dX2_joined_134 rfl (lv_at hl 3 rfl) ?_
            refine gf_X2_16 C0 hP (by omega) ((w2_ne (by decide) (by omega)).trans hM.1) rfl dX2_joined_135 ?_
            refine lv_iconst (v := nI 3) hx hb dX2_joined_138 rfl ?_
            refine lv_iload hx hb dX2_joined_139 (lv_at hl 7 rfl) ?_
            refine lv_iload hx hb dX2_joined_141 (lv_at hl 8 rfl) ?_
            refine n_iadd hx hb dX2_joined_143 ?_
            refine n_imul hx hb dX2_joined_144 ?_
            refine lv_iconst (v := nI 3) hx hb dX2_joined_145 rfl ?_
            refine a_copy C0 hl hP hS (by omega) (by omega) (w2_r hr9) w2_9 (by omega) (by omega) (by omega) (by omega) (by omega) (by decide) (Nat.le_of_ble_eq_true rfl) dX2_joined_146 (fun H locs hP hS => ?_)
            obtain ⟨F9, hF9⟩ : ∃ z, z = va_cpy F8 G (a + 6 + (3 * x.1)) (3 * (x.1 + x.2.1)) (3) := ⟨_, rfl⟩
            rw [← hF9] at hP
            rw [w2_up_9] at hP
            refine lv_iload hx hb dX2_joined_149 (lv_at hl 1 rfl) ?_
            refine n_if_eq (tgt := 160) hx hb (by omega) dX2_joined_151 (by decide) (fun h151 => ?_) (fun h151 => ?_)
            · exfalso; omega
            refine lv_iinc (v := nI (x.1 + 1)) (lv' := [(4, .int (nI (x.1 + 1))), (8, .int (nI (a + 6 + (3 * x.1)))), (7, .int (nI 1)), (6, .int (nI (nl x.2.2.1 % (((S + So) - x.1) - x.2.1)))), (0, .ref (ad 6)), (1, .ref (ad r)), (2, .int (nI a)), (3, .int (nI b)), (5, .int (nI x.2.1))]) hx hb dX2_joined_154 hl (k := 7) rfl (nI_add x.1 1) (by decide) rfl (fun ls hl => ?_)
            refine lv_goto (tgt := 163) hx hb dX2_joined_157 (by decide) ?_
            refine lv_goto (tgt := 6) hx hb dX2_joined_163 (by decide) ?_
            exact ih6 (k - 1) (pl + 1) ((x.1 + 1, x.2.1, nl x.2.2.1, cpS x.2.2.2 pl (sto f a) x.1)) F8 F9 (by omega) (by show x.1 + 1 + x.2.1 = pl + 1; omega) (by show x.1 + 1 ≤ K; omega) (by show x.2.1 ≤ Ko; omega) (by show nl x.2.2.1 ≤ 9999; omega) (by rw [← hj, show k = (k - 1) + 1 from by omega]; show jn S So K Ko (sto f a) (sto f b) (k - 1) _ = if K ≤ x.1 ∧ Ko ≤ x.2.1 then x else jn S So K Ko (sto f a) (sto f b) (k - 1) (jnS S So K Ko (sto f a) (sto f b) x); rw [if_neg (by omega), show jnS S So K Ko (sto f a) (sto f b) x = (x.1 + 1, x.2.1, nl x.2.2.1, cpS x.2.2.2 pl (sto f a) x.1) from by unfold jnS; rw [hpl, if_pos hcs]]) (fun z hz => by rw [hF8]; exact (pk_un (by omega)).trans (hF z hz)) (kF8_n) (fun k9 q9 hk9 hq9 => by rw [hF9, hpl]; exact rws_step (by omega) hG (fun k9 hk9 => by rw [hF8]; exact (pk_un (by omega)).trans ((hF _ (by omega)).trans rfl)) k9 q9 hk9 hq9) (by omega) _ _ _ hP hS (lv_sub hl [4, 5, 6, 7, 0, 8] rfl)
          · refine lv_iload hx hb dX2_joined_73 (lv_at hl 5 rfl) ?_
            refine lv_aload_n hx hb dX2_joined_75 rfl (lv_at hl 2 rfl) ?_
            refine lv_iload_n hx hb dX2_joined_76 rfl (lv_at hl 3 rfl) ?_
            refine lv_iconst (v := nI 5) hx hb dX2_joined_77 rfl ?_
            refine n_iadd hx hb dX2_joined_78 ?_
            refine a_ildE C0 hP (by omega) (w2_r hr9) (by omega) (by omega) kF8_4 dX2_joined_79 ?_
            refine n_icmp_ge (tgt := 100) hx hb (by omega) (by omega) dX2_joined_80 (by decide) (fun h80 => ?_) (fun h80 => ?_)
            · have hcs : ¬ ((nl x.2.2.1 % (S + So - pl) < S - x.1 ∧ x.1 < K) ∨ Ko ≤ x.2.1) := by rw [← hme]; omega
              refine lv_iconst (v := nI 0) hx hb dX2_joined_100 rfl ?_
              refine lv_istore (lv' := [(7, .int (nI 0)), (6, .int (nI (nl x.2.2.1 % (((S + So) - x.1) - x.2.1)))), (0, .ref (ad 6)), (1, .ref (ad r)), (2, .int (nI a)), (3, .int (nI b)), (4, .int (nI x.1)), (5, .int (nI x.2.1))]) hx hb dX2_joined_101 hl (by decide) rfl (fun ls hl => ?_)
              refine lv_iload hx hb dX2_joined_103 (lv_at hl 0 rfl) ?_
              refine n_if_eq (tgt := 120) hx hb (by omega) dX2_joined_105 (by decide) (fun h105 => ?_) (fun h105 => ?_)
              rotate_left
              · exfalso; omega
              refine lv_iload_n hx hb dX2_joined_120 rfl (lv_at hl 5 rfl) ?_
              refine lv_bipush (v := nI 6) hx hb dX2_joined_121 rfl ?_
              refine n_iadd hx hb dX2_joined_123 ?_
              refine lv_iconst (v := nI 3) hx hb dX2_joined_124 rfl ?_
              refine lv_iload hx hb dX2_joined_125 (lv_at hl 7 rfl) ?_
              refine n_imul hx hb dX2_joined_127 ?_
              refine n_iadd hx hb dX2_joined_128 ?_
              refine lv_istore (lv' := [(8, .int (nI (b + 6 + (3 * x.2.1)))), (7, .int (nI 0)), (6, .int (nI (nl x.2.2.1 % (((S + So) - x.1) - x.2.1)))), (0, .ref (ad 6)), (1, .ref (ad r)), (2, .int (nI a)), (3, .int (nI b)), (4, .int (nI x.1)), (5, .int (nI x.2.1))]) hx hb dX2_joined_129 hl (by decide) rfl (fun ls hl => ?_)
              refine lv_aload_n hx hb dX2_joined_131 rfl (lv_at hl 4 rfl) ?_
              refine lv_iload hx hb dX2_joined_132 (lv_at hl 0 rfl) ?_
              refine lv_aload_n hx hb dX2_joined_134 rfl (lv_at hl 3 rfl) ?_
              refine gf_X2_16 C0 hP (by omega) ((w2_ne (by decide) (by omega)).trans hM.1) rfl dX2_joined_135 ?_
              refine lv_iconst (v := nI 3) hx hb dX2_joined_138 rfl ?_
              refine lv_iload hx hb dX2_joined_139 (lv_at hl 7 rfl) ?_
              refine lv_iload hx hb dX2_joined_141 (lv_at hl 8 rfl) ?_
              refine n_iadd hx hb dX2_joined_143 ?_
              refine n_imul hx hb dX2_joined_144 ?_
              refine lv_iconst (v := nI 3) hx hb dX2_joined_145 rfl ?_
              refine a_copy C0 hl hP hS (by omega) (by omega) (w2_r hr9) w2_9 (by omega) (by omega) (by omega) (by omega) (by omega) (by decide) (Nat.le_of_ble_eq_true rfl) dX2_joined_146 (fun H locs hP hS => ?_)
              obtain ⟨F10, hF10⟩ : ∃ z, z = va_cpy F8 G (b + 6 + (3 * x.2.1)) (3 * (x.1 + x.2.1)) (3) := ⟨_, rfl⟩
              rw [← hF10] at hP
              rw [w2_up_9] at hP
              refine lv_iload hx hb dX2_joined_149 (lv_at hl 1 rfl) ?_
              refine n_if_eq (tgt := 160) hx hb (by omega) dX2_joined_151 (by decide) (fun h151 => ?_) (fun h151 => ?_)
              rotate_left
              · exfalso; omega
              refine lv_iinc (v := nI (x.2.1 + 1)) (lv' := [(5, .int (nI (x.2.1 + 1))), (8, .int (nI (b + 6 + (3 * x.2.1)))), (7, .int (nI 0)), (6, .int (nI (nl x.2.2.1 % (((S + So) - x.1) - x.2.1)))), (0, .ref (ad 6)), (1, .ref (ad r)), (2, .int (nI a)), (3, .int (nI b)), (4, .int (nI x.1))]) hx hb dX2_joined_160 hl (k := 8) rfl (nI_add x.2.1 1) (by decide) rfl (fun ls hl => ?_)
              refine lv_goto (tgt := 6) hx hb dX2_joined_163 (by decide) ?_
              exact ih6 (k - 1) (pl + 1) ((x.1, x.2.1 + 1, nl x.2.2.1, cpS x.2.2.2 pl (sto f b) x.2.1)) F8 F10 (by omega) (by show x.1 + x.2.1 + 1 = pl + 1; omega) (by show x.1 ≤ K; omega) (by show x.2.1 + 1 ≤ Ko; omega) (by show nl x.2.2.1 ≤ 9999; omega) (by rw [← hj, show k = (k - 1) + 1 from by omega]; show jn S So K Ko (sto f a) (sto f b) (k - 1) _ = if K ≤ x.1 ∧ Ko ≤ x.2.1 then x else jn S So K Ko (sto f a) (sto f b) (k - 1) (jnS S So K Ko (sto f a) (sto f b) x); rw [if_neg (by omega), show jnS S So K Ko (sto f a) (sto f b) x = (x.1, x.2.1 + 1, nl x.2.2.1, cpS x.2.2.2 pl (sto f b) x.2.1) from by unfold jnS; rw [hpl, if_neg hcs]]) (fun z hz => by rw [hF8]; exact (pk_un (by omega)).trans (hF z hz)) (kF8_n) (fun k9 q9 hk9 hq9 => by rw [hF10, hpl]; exact rws_step (by omega) hG (fun k9 hk9 => by rw [hF8]; exact (pk_un (by omega)).trans ((hF _ (by omega)).trans rfl)) k9 q9 hk9 hq9) (by omega) _ _ _ hP hS (lv_sub hl [4, 5, 6, 7, 8, 0] rfl)
            · refine lv_iload hx hb dX2_joined_83 (lv_at hl 0 rfl) ?_
              refine lv_aload_n hx hb dX2_joined_85 rfl (lv_at hl 2 rfl) ?_
              refine lv_iload_n hx hb dX2_joined_86 rfl (lv_at hl 3 rfl) ?_
              refine lv_iconst (v := nI 3) hx hb dX2_joined_87 rfl ?_
              refine n_iadd hx hb dX2_joined_88 ?_
              refine a_ildE C0 hP (by omega) (w2_r hr9) (by omega) (by omega) kF8_2 dX2_joined_89 ?_
              refine lv_iload hx hb dX2_joined_90 (lv_at hl 5 rfl) ?_
              refine n_isub hx hb (by omega) dX2_joined_92 ?_
              refine n_icmp_ge (tgt := 100) hx hb (by omega) (by omega) dX2_joined_93 (by decide) (fun h93 => ?_) (fun h93 => ?_)
              · have hcs : ¬ ((nl x.2.2.1 % (S + So - pl) < S - x.1 ∧ x.1 < K) ∨ Ko ≤ x.2.1) := by rw [← hme]; omega
                refine lv_iconst (v := nI 0) hx hb dX2_joined_100 rfl ?_
                refine lv_istore (lv' := [(7, .int (nI 0)), (6, .int (nI (nl x.2.2.1 % (((S + So) - x.1) - x.2.1)))), (0, .ref (ad 6)), (1, .ref (ad r)), (2, .int (nI a)), (3, .int (nI b)), (4, .int (nI x.1)), (5, .int (nI x.2.1))]) hx hb dX2_joined_101 hl (by decide) rfl (fun ls hl => ?_)
                refine lv_iload hx hb dX2_joined_103 (lv_at hl 0 rfl) ?_
                refine n_if_eq (tgt := 120) hx hb (by omega) dX2_joined_105 (by decide) (fun h105 => ?_) (fun h105 => ?_)
                rotate_left
                · exfalso; omega
                refine lv_iload_n hx hb dX2_joined_120 rfl (lv_at hl 5 rfl) ?_
                refine lv_bipush (v := nI 6) hx hb dX2_joined_121 rfl ?_
                refine n_iadd hx hb dX2_joined_123 ?_
                refine lv_iconst (v := nI 3) hx hb dX2_joined_124 rfl ?_
                refine lv_iload hx hb dX2_joined_125 (lv_at hl 7 rfl) ?_
                refine n_imul hx hb dX2_joined_127 ?_
                refine n_iadd hx hb dX2_joined_128 ?_
                refine lv_istore (lv' := [(8, .int (nI (b + 6 + (3 * x.2.1)))), (7, .int (nI 0)), (6, .int (nI (nl x.2.2.1 % (((S + So) - x.1) - x.2.1)))), (0, .ref (ad 6)), (1, .ref (ad r)), (2, .int (nI a)), (3, .int (nI b)), (4, .int (nI x.1)), (5, .int (nI x.2.1))]) hx hb dX2_joined_129 hl (by decide) rfl (fun ls hl => ?_)
                refine lv_aload_n hx hb dX2_joined_131 rfl (lv_at hl 4 rfl) ?_
                refine lv_iload hx hb dX2_joined_132 (lv_at hl 0 rfl) ?_
                refine lv_aload_n hx hb dX2_joined_134 rfl (lv_at hl 3 rfl) ?_
                refine gf_X2_16 C0 hP (by omega) ((w2_ne (by decide) (by omega)).trans hM.1) rfl dX2_joined_135 ?_
                refine lv_iconst (v := nI 3) hx hb dX2_joined_138 rfl ?_
                refine lv_iload hx hb dX2_joined_139 (lv_at hl 7 rfl) ?_
                refine lv_iload hx hb dX2_joined_141 (lv_at hl 8 rfl) ?_
                refine n_iadd hx hb dX2_joined_143 ?_
                refine n_imul hx hb dX2_joined_144 ?_
                refine lv_iconst (v := nI 3) hx hb dX2_joined_145 rfl ?_
                refine a_copy C0 hl hP hS (by omega) (by omega) (w2_r hr9) w2_9 (by omega) (by omega) (by omega) (by omega) (by omega) (by decide) (Nat.le_of_ble_eq_true rfl) dX2_joined_146 (fun H locs hP hS => ?_)
                obtain ⟨F11, hF11⟩ : ∃ z, z = va_cpy F8 G (b + 6 + (3 * x.2.1)) (3 * (x.1 + x.2.1)) (3) := ⟨_, rfl⟩
                rw [← hF11] at hP
                rw [w2_up_9] at hP
                refine lv_iload hx hb dX2_joined_149 (lv_at hl 1 rfl) ?_
                refine n_if_eq (tgt := 160) hx hb (by omega) dX2_joined_151 (by decide) (fun h151 => ?_) (fun h151 => ?_)
                rotate_left
                · exfalso; omega
                refine lv_iinc (v := nI (x.2.1 + 1)) (lv' := [(5, .int (nI (x.2.1 + 1))), (8, .int (nI (b + 6 + (3 * x.2.1)))), (7, .int (nI 0)), (6, .int (nI (nl x.2.2.1 % (((S + So) - x.1) - x.2.1)))), (0, .ref (ad 6)), (1, .ref (ad r)), (2, .int (nI a)), (3, .int (nI b)), (4, .int (nI x.1))]) hx hb dX2_joined_160 hl (k := 8) rfl (nI_add x.2.1 1) (by decide) rfl (fun ls hl => ?_)
                refine lv_goto (tgt := 6) hx hb dX2_joined_163 (by decide) ?_
                exact ih6 (k - 1) (pl + 1) ((x.1, x.2.1 + 1, nl x.2.2.1, cpS x.2.2.2 pl (sto f b) x.2.1)) F8 F11 (by omega) (by show x.1 + x.2.1 + 1 = pl + 1; omega) (by show x.1 ≤ K; omega) (by show x.2.1 + 1 ≤ Ko; omega) (by show nl x.2.2.1 ≤ 9999; omega) (by rw [← hj, show k = (k - 1) + 1 from by omega]; show jn S So K Ko (sto f a) (sto f b) (k - 1) _ = if K ≤ x.1 ∧ Ko ≤ x.2.1 then x else jn S So K Ko (sto f a) (sto f b) (k - 1) (jnS S So K Ko (sto f a) (sto f b) x); rw [if_neg (by omega), show jnS S So K Ko (sto f a) (sto f b) x = (x.1, x.2.1 + 1, nl x.2.2.1, cpS x.2.2.2 pl (sto f b) x.2.1) from by unfold jnS; rw [hpl, if_neg hcs]]) (fun z hz => by rw [hF8]; exact (pk_un (by omega)).trans (hF z hz)) (kF8_n) (fun k9 q9 hk9 hq9 => by rw [hF11, hpl]; exact rws_step (by omega) hG (fun k9 hk9 => by rw [hF8]; exact (pk_un (by omega)).trans ((hF _ (by omega)).trans rfl)) k9 q9 hk9 hq9) (by omega) _ _ _ hP hS (lv_sub hl [4, 5, 6, 7, 8, 0] rfl)
              · have hcs : (nl x.2.2.1 % (S + So - pl) < S - x.1 ∧ x.1 < K) ∨ Ko ≤ x.2.1 := by rw [← hme]; omega
                refine lv_iconst (v := nI 1) hx hb dX2_joined_96 rfl ?_
                refine lv_goto (tgt := 101) hx hb dX2_joined_97 (by decide) ?_
                refine lv_istore (lv' := [(7, .int (nI 1)), (6, .int (nI (nl x.2.2.1 % (((S + So) - x.1) - x.2.1)))), (0, .ref (ad 6)), (1, .ref (ad r)), (2, .int (nI a)), (3, .int (nI b)), (4, .int (nI x.1)), (5, .int (nI x.2.1))]) hx hb dX2_joined_101 hl (by decide) rfl (fun ls hl => ?_)
                refine lv_iload hx hb dX2_joined_103 (lv_at hl 0 rfl) ?_
                refine n_if_eq (tgt := 120) hx hb (by omega) dX2_joined_105 (by decide) (fun h105 => ?_) (fun h105 => ?_)
                · exfalso; omega
                refine lv_iload_n hx hb dX2_joined_108 rfl (lv_at hl 4 rfl) ?_
                refine lv_bipush (v := nI 6) hx hb dX2_joined_109 rfl ?_
                refine n_iadd hx hb dX2_joined_111 ?_
                refine lv_iconst (v := nI 3) hx hb dX2_joined_112 rfl ?_
                refine lv_iload hx hb dX2_joined_113 (lv_at hl 6 rfl) ?_
                refine n_imul hx hb dX2_joined_115 ?_
                refine n_iadd hx hb dX2_joined_116 ?_
                refine lv_goto (tgt := 129) hx hb dX2_joined_117 (by decide) ?_
                refine lv_istore (lv' := [(8, .int (nI (a + 6 + (3 * x.1)))), (7, .int (nI 1)), (6, .int (nI (nl x.2.2.1 % (((S + So) - x.1) - x.2.1)))), (0, .ref (ad 6)), (1, .ref (ad r)), (2, .int (nI a)), (3, .int (nI b)), (4, .int (nI x.1)), (5, .int (nI x.2.1))]) hx hb dX2_joined_129 hl (by decide) rfl (fun ls hl => ?_)
                refine lv_aload_n hx hb dX2_joined_131 rfl (lv_at hl 4 rfl) ?_
                refine lv_iload hx hb dX2_joined_132 (lv_at hl 0 rfl) ?_
                refine lv_aload_n hx hb dX2_joined_134 rfl (lv_at hl 3 rfl) ?_
                refine gf_X2_16 C0 hP (by omega) ((w2_ne (by decide) (by omega)).trans hM.1) rfl dX2_joined_135 ?_
                refine lv_iconst (v := nI 3) hx hb dX2_joined_138 rfl ?_
                refine lv_iload hx hb dX2_joined_139 (lv_at hl 7 rfl) ?_
                refine lv_iload hx hb dX2_joined_141 (lv_at hl 8 rfl) ?_
                refine n_iadd hx hb dX2_joined_143 ?_
                refine n_imul hx hb dX2_joined_144 ?_
                refine lv_iconst (v := nI 3) hx hb dX2_joined_145 rfl ?_
                refine a_copy C0 hl hP hS (by omega) (by omega) (w2_r hr9) w2_9 (by omega) (by omega) (by omega) (by omega) (by omega) (by decide) (Nat.le_of_ble_eq_true rfl) dX2_joined_146 (fun H locs hP hS => ?_)
                obtain ⟨F12, hF12⟩ : ∃ z, z = va_cpy F8 G (a + 6 + (3 * x.1)) (3 * (x.1 + x.2.1)) (3) := ⟨_, rfl⟩
                rw [← hF12] at hP
                rw [w2_up_9] at hP
                refine lv_iload hx hb dX2_joined_149 (lv_at hl 1 rfl) ?_
                refine n_if_eq (tgt := 160) hx hb (by omega) dX2_joined_151 (by decide) (fun h151 => ?_) (fun h151 => ?_)
                · exfalso; omega
                refine lv_iinc (v := nI (x.1 + 1)) (lv' := [(4, .int (nI (x.1 + 1))), (8, .int (nI (a + 6 + (3 * x.1)))), (7, .int (nI 1)), (6, .int (nI (nl x.2.2.1 % (((S + So) - x.1) - x.2.1)))), (0, .ref (ad 6)), (1, .ref (ad r)), (2, .int (nI a)), (3, .int (nI b)), (5, .int (nI x.2.1))]) hx hb dX2_joined_154 hl (k := 7) rfl (nI_add x.1 1) (by decide) rfl (fun ls hl => ?_)
                refine lv_goto (tgt := 163) hx hb dX2_joined_157 (by decide) ?_
                refine lv_goto (tgt := 6) hx hb dX2_joined_163 (by decide) ?_
                exact ih6 (k - 1) (pl + 1) ((x.1 + 1, x.2.1, nl x.2.2.1, cpS x.2.2.2 pl (sto f a) x.1)) F8 F12 (by omega) (by show x.1 + 1 + x.2.1 = pl + 1; omega) (by show x.1 + 1 ≤ K; omega) (by show x.2.1 ≤ Ko; omega) (by show nl x.2.2.1 ≤ 9999; omega) (by rw [← hj, show k = (k - 1) + 1 from by omega]; show jn S So K Ko (sto f a) (sto f b) (k - 1) _ = if K ≤ x.1 ∧ Ko ≤ x.2.1 then x else jn S So K Ko (sto f a) (sto f b) (k - 1) (jnS S So K Ko (sto f a) (sto f b) x); rw [if_neg (by omega), show jnS S So K Ko (sto f a) (sto f b) x = (x.1 + 1, x.2.1, nl x.2.2.1, cpS x.2.2.2 pl (sto f a) x.1) from by unfold jnS; rw [hpl, if_pos hcs]]) (fun z hz => by rw [hF8]; exact (pk_un (by omega)).trans (hF z hz)) (kF8_n) (fun k9 q9 hk9 hq9 => by rw [hF12, hpl]; exact rws_step (by omega) hG (fun k9 hk9 => by rw [hF8]; exact (pk_un (by omega)).trans ((hF _ (by omega)).trans rfl)) k9 q9 hk9 hq9) (by omega) _ _ _ hP hS (lv_sub hl [4, 5, 6, 7, 0, 8] rfl)
        · refine lv_iload hx hb dX2_joined_29 (lv_at hl 5 rfl) ?_
          refine lv_aload_n hx hb dX2_joined_31 rfl (lv_at hl 1 rfl) ?_
          refine lv_iload_n hx hb dX2_joined_32 rfl (lv_at hl 3 rfl) ?_
          refine lv_iconst (v := nI 5) hx hb dX2_joined_33 rfl ?_
          refine n_iadd hx hb dX2_joined_34 ?_
          refine a_ildE C0 hP (by omega) (w2_r hr9) (by omega) (by omega) ((hF _ (by omega)).trans t5) dX2_joined_35 ?_
          refine n_icmp_ge (tgt := 166) hx hb (by omega) (by omega) dX2_joined_36 (by decide) (fun h36 => ?_) (fun h36 => ?_)
          · have hjx : x = (jn S So K Ko (sto f a) (sto f b) R (0, 0, L, fun k q => rw (3 * q + k))) := by rw [← hj, show k = (k - 1) + 1 from by omega]; show x = if K ≤ x.1 ∧ Ko ≤ x.2.1 then x else _; rw [if_pos (by omega)]
            refine lv_aload_n hx hb dX2_joined_166 rfl (lv_at hl 0 rfl) ?_
            refine gf_X2_16 C0 hP (by omega) ((w2_ne (by decide) (by omega)).trans hM.1) rfl dX2_joined_167 ?_
            refine lv_iconst (v := nI 0) hx hb dX2_joined_170 rfl ?_
            refine lv_aload_n hx hb dX2_joined_171 rfl (lv_at hl 1 rfl) ?_
            refine lv_iload_n hx hb dX2_joined_172 rfl (lv_at hl 2 rfl) ?_
            refine lv_bipush (v := nI 6) hx hb dX2_joined_173 rfl ?_
            refine n_iadd hx hb dX2_joined_175 ?_
            refine lv_iconst (v := nI 3) hx hb dX2_joined_176 rfl ?_
            refine lv_iload hx hb dX2_joined_177 (lv_at hl 4 rfl) ?_
            refine lv_iload hx hb dX2_joined_179 (lv_at hl 5 rfl) ?_
            refine n_iadd hx hb dX2_joined_181 ?_
            refine n_imul hx hb dX2_joined_182 ?_
            refine a_copy C0 hl hP hS (by omega) (by omega) w2_9 (w2_r hr9) (by omega) (by omega) (by omega) (by omega) (by omega) (by decide) (Nat.le_of_ble_eq_true rfl) dX2_joined_183 (fun H locs hP hS => ?_)
            obtain ⟨F13, hF13⟩ : ∃ z, z = va_cpy G F (0) (a + 6) (3 * (x.1 + x.2.1)) := ⟨_, rfl⟩
            rw [← hF13] at hP
            have kF13_0 : F13 (a + 0) = nI R := by rw [hF13]; exact (pk_cpy_out (by omega)).trans ((hF _ (by omega)).trans r0)
            have kF13_1 : F13 (a + 1) = nI Y := by rw [hF13]; exact (pk_cpy_out (by omega)).trans ((hF _ (by omega)).trans r1)
            have kF13_2 : F13 (a + 3) = nI S := by rw [hF13]; exact (pk_cpy_out (by omega)).trans ((hF _ (by omega)).trans r3)
            have kF13_3 : F13 (a + 4) = nI D9 := by rw [hF13]; exact (pk_cpy_out (by omega)).trans ((hF _ (by omega)).trans r4)
            have kF13_4 : F13 (a + 5) = nI K := by rw [hF13]; exact (pk_cpy_out (by omega)).trans ((hF _ (by omega)).trans r5)
            have kF13_5 : F13 (a + 2) = nI x.2.2.1 := by rw [hF13]; exact (pk_cpy_out (by omega)).trans hFL
            have kF13_6 : F13 (b + 0) = nI Ro := by rw [hF13]; exact (pk_cpy_out (by omega)).trans ((hF _ (by omega)).trans t0)
            have kF13_7 : F13 (b + 1) = nI Yo := by rw [hF13]; exact (pk_cpy_out (by omega)).trans ((hF _ (by omega)).trans t1)
            have kF13_8 : F13 (b + 2) = nI Lo := by rw [hF13]; exact (pk_cpy_out (by omega)).trans ((hF _ (by omega)).trans t2)
            have kF13_9 : F13 (b + 3) = nI So := by rw [hF13]; exact (pk_cpy_out (by omega)).trans ((hF _ (by omega)).trans t3)
            have kF13_10 : F13 (b + 4) = nI Do := by rw [hF13]; exact (pk_cpy_out (by omega)).trans ((hF _ (by omega)).trans t4)
            have kF13_11 : F13 (b + 5) = nI Ko := by rw [hF13]; exact (pk_cpy_out (by omega)).trans ((hF _ (by omega)).trans t5)
            rw [w2_up_r hr9] at hP
            refine lv_aload_n hx hb dX2_joined_186 rfl (lv_at hl 1 rfl) ?_
            refine lv_iload_n hx hb dX2_joined_187 rfl (lv_at hl 2 rfl) ?_
            refine lv_iconst (v := nI 5) hx hb dX2_joined_188 rfl ?_
            refine n_iadd hx hb dX2_joined_189 ?_
            refine lv_iload hx hb dX2_joined_190 (lv_at hl 4 rfl) ?_
            refine lv_iload hx hb dX2_joined_192 (lv_at hl 5 rfl) ?_
            refine n_iadd hx hb dX2_joined_194 ?_
            refine a_ist C0 hP hS (by omega) (w2_r hr9) (by omega) (by omega) dX2_joined_195 (fun H locs hP hS => ?_)
            obtain ⟨F14, hF14⟩ : ∃ z, z = upd F13 (a + 5) (nI (x.1 + x.2.1)) := ⟨_, rfl⟩
            rw [← hF14] at hP
            have kF14_0 : F14 (a + 0) = nI R := by rw [hF14]; exact (pk_un (by omega)).trans kF13_0
            have kF14_1 : F14 (a + 1) = nI Y := by rw [hF14]; exact (pk_un (by omega)).trans kF13_1
            have kF14_2 : F14 (a + 3) = nI S := by rw [hF14]; exact (pk_un (by omega)).trans kF13_2
            have kF14_3 : F14 (a + 4) = nI D9 := by rw [hF14]; exact (pk_un (by omega)).trans kF13_3
            have kF14_5 : F14 (a + 2) = nI x.2.2.1 := by rw [hF14]; exact (pk_un (by omega)).trans kF13_5
            have kF14_6 : F14 (b + 0) = nI Ro := by rw [hF14]; exact (pk_un (by omega)).trans kF13_6
            have kF14_7 : F14 (b + 1) = nI Yo := by rw [hF14]; exact (pk_un (by omega)).trans kF13_7
            have kF14_8 : F14 (b + 2) = nI Lo := by rw [hF14]; exact (pk_un (by omega)).trans kF13_8
            have kF14_9 : F14 (b + 3) = nI So := by rw [hF14]; exact (pk_un (by omega)).trans kF13_9
            have kF14_10 : F14 (b + 4) = nI Do := by rw [hF14]; exact (pk_un (by omega)).trans kF13_10
            have kF14_11 : F14 (b + 5) = nI Ko := by rw [hF14]; exact (pk_un (by omega)).trans kF13_11
            have kF14_n : F14 (a + 5) = nI (x.1 + x.2.1) := by rw [hF14]; exact pk_us
            have frF14 : ∀ i, (i < a ∨ a + 6 ≤ i) ∧ (i < b ∨ b + 6 ≤ i) → F14 i = F13 i := fun i hi => by rw [hF14]; exact (pk_un (by omega)).trans ((fun _ _ => rfl) i hi)
            rw [w2_up_r hr9] at hP
            refine lv_aload_n hx hb dX2_joined_196 rfl (lv_at hl 1 rfl) ?_
            refine lv_iload_n hx hb dX2_joined_197 rfl (lv_at hl 2 rfl) ?_
            refine lv_iconst (v := nI 3) hx hb dX2_joined_198 rfl ?_
            refine n_iadd hx hb dX2_joined_199 ?_
            refine lv_dup2_11 hx hb dX2_joined_200 rfl rfl ?_
            refine a_ildE C0 hP (by omega) (w2_r hr9) (by omega) (by omega) kF14_2 dX2_joined_201 ?_
            refine lv_aload_n hx hb dX2_joined_202 rfl (lv_at hl 1 rfl) ?_
            refine lv_iload_n hx hb dX2_joined_203 rfl (lv_at hl 3 rfl) ?_
            refine lv_iconst (v := nI 3) hx hb dX2_joined_204 rfl ?_
            refine n_iadd hx hb dX2_joined_205 ?_
            refine a_ildE C0 hP (by omega) (w2_r hr9) (by omega) (by omega) kF14_9 dX2_joined_206 ?_
            refine n_iadd hx hb dX2_joined_207 ?_
            refine a_ist C0 hP hS (by omega) (w2_r hr9) (by omega) (by omega) dX2_joined_208 (fun H locs hP hS => ?_)
            obtain ⟨F15, hF15⟩ : ∃ z, z = upd F14 (a + 3) (nI (S + So)) := ⟨_, rfl⟩
            rw [← hF15] at hP
            have kF15_0 : F15 (a + 0) = nI R := by rw [hF15]; exact (pk_un (by omega)).trans kF14_0
            have kF15_1 : F15 (a + 1) = nI Y := by rw [hF15]; exact (pk_un (by omega)).trans kF14_1
            have kF15_3 : F15 (a + 4) = nI D9 := by rw [hF15]; exact (pk_un (by omega)).trans kF14_3
            have kF15_4 : F15 (a + 2) = nI x.2.2.1 := by rw [hF15]; exact (pk_un (by omega)).trans kF14_5
            have kF15_5 : F15 (b + 0) = nI Ro := by rw [hF15]; exact (pk_un (by omega)).trans kF14_6
            have kF15_6 : F15 (b + 1) = nI Yo := by rw [hF15]; exact (pk_un (by omega)).trans kF14_7
            have kF15_7 : F15 (b + 2) = nI Lo := by rw [hF15]; exact (pk_un (by omega)).trans kF14_8
            have kF15_8 : F15 (b + 3) = nI So := by rw [hF15]; exact (pk_un (by omega)).trans kF14_9
            have kF15_9 : F15 (b + 4) = nI Do := by rw [hF15]; exact (pk_un (by omega)).trans kF14_10
            have kF15_10 : F15 (b + 5) = nI Ko := by rw [hF15]; exact (pk_un (by omega)).trans kF14_11
            have kF15_11 : F15 (a + 5) = nI (x.1 + x.2.1) := by rw [hF15]; exact (pk_un (by omega)).trans kF14_n
            have kF15_n : F15 (a + 3) = nI (S + So) := by rw [hF15]; exact pk_us
            have frF15 : ∀ i, (i < a ∨ a + 6 ≤ i) ∧ (i < b ∨ b + 6 ≤ i) → F15 i = F13 i := fun i hi => by rw [hF15]; exact (pk_un (by omega)).trans (frF14 i hi)
            rw [w2_up_r hr9] at hP
            refine lv_aload_n hx hb dX2_joined_209 rfl (lv_at hl 1 rfl) ?_
            refine lv_iload_n hx hb dX2_joined_210 rfl (lv_at hl 2 rfl) ?_
            refine lv_iconst (v := nI 4) hx hb dX2_joined_211 rfl ?_
            refine n_iadd hx hb dX2_joined_212 ?_
            refine lv_dup2_11 hx hb dX2_joined_213 rfl rfl ?_
            refine a_ildE C0 hP (by omega) (w2_r hr9) (by omega) (by omega) kF15_3 dX2_joined_214 ?_
            refine lv_aload_n hx hb dX2_joined_215 rfl (lv_at hl 1 rfl) ?_
            refine lv_iload_n hx hb dX2_joined_216 rfl (lv_at hl 3 rfl) ?_
            refine lv_iconst (v := nI 4) hx hb dX2_joined_217 rfl ?_
            refine n_iadd hx hb dX2_joined_218 ?_
            refine a_ildE C0 hP (by omega) (w2_r hr9) (by omega) (by omega) kF15_9 dX2_joined_219 ?_
            refine n_iadd hx hb dX2_joined_220 ?_
            refine a_ist C0 hP hS (by omega) (w2_r hr9) (by omega) (by omega) dX2_joined_221 (fun H locs hP hS => ?_)
            obtain ⟨F16, hF16⟩ : ∃ z, z = upd F15 (a + 4) (nI (D9 + Do)) := ⟨_, rfl⟩
            rw [← hF16] at hP
            have kF16_0 : F16 (a + 0) = nI R := by rw [hF16]; exact (pk_un (by omega)).trans kF15_0
            have kF16_1 : F16 (a + 1) = nI Y := by rw [hF16]; exact (pk_un (by omega)).trans kF15_1
            have kF16_3 : F16 (a + 2) = nI x.2.2.1 := by rw [hF16]; exact (pk_un (by omega)).trans kF15_4
            have kF16_4 : F16 (b + 0) = nI Ro := by rw [hF16]; exact (pk_un (by omega)).trans kF15_5
            have kF16_5 : F16 (b + 1) = nI Yo := by rw [hF16]; exact (pk_un (by omega)).trans kF15_6
            have kF16_6 : F16 (b + 2) = nI Lo := by rw [hF16]; exact (pk_un (by omega)).trans kF15_7
            have kF16_7 : F16 (b + 3) = nI So := by rw [hF16]; exact (pk_un (by omega)).trans kF15_8
            have kF16_8 : F16 (b + 4) = nI Do := by rw [hF16]; exact (pk_un (by omega)).trans kF15_9
            have kF16_9 : F16 (b + 5) = nI Ko := by rw [hF16]; exact (pk_un (by omega)).trans kF15_10
            have kF16_10 : F16 (a + 5) = nI (x.1 + x.2.1) := by rw [hF16]; exact (pk_un (by omega)).trans kF15_11
            have kF16_11 : F16 (a + 3) = nI (S + So) := by rw [hF16]; exact (pk_un (by omega)).trans kF15_n
            have kF16_n : F16 (a + 4) = nI (D9 + Do) := by rw [hF16]; exact pk_us
            have frF16 : ∀ i, (i < a ∨ a + 6 ≤ i) ∧ (i < b ∨ b + 6 ≤ i) → F16 i = F13 i := fun i hi => by rw [hF16]; exact (pk_un (by omega)).trans (frF15 i hi)
            rw [w2_up_r hr9] at hP
            refine lv_aload_n hx hb dX2_joined_222 rfl (lv_at hl 1 rfl) ?_
            refine lv_iload_n hx hb dX2_joined_223 rfl (lv_at hl 3 rfl) ?_
            refine lv_iconst (v := nI 5) hx hb dX2_joined_224 rfl ?_
            refine n_iadd hx hb dX2_joined_225 ?_
            refine lv_iconst (v := nI 0) hx hb dX2_joined_226 rfl ?_
            refine a_ist C0 hP hS (by omega) (w2_r hr9) (by omega) (by omega) dX2_joined_227 (fun H locs hP hS => ?_)
            obtain ⟨F17, hF17⟩ : ∃ z, z = upd F16 (b + 5) (nI 0) := ⟨_, rfl⟩
            rw [← hF17] at hP
            have kF17_0 : F17 (a + 0) = nI R := by rw [hF17]; exact (pk_un (by omega)).trans kF16_0
            have kF17_1 : F17 (a + 1) = nI Y := by rw [hF17]; exact (pk_un (by omega)).trans kF16_1
            have kF17_2 : F17 (a + 2) = nI x.2.2.1 := by rw [hF17]; exact (pk_un (by omega)).trans kF16_3
            have kF17_3 : F17 (b + 0) = nI Ro := by rw [hF17]; exact (pk_un (by omega)).trans kF16_4
            have kF17_4 : F17 (b + 1) = nI Yo := by rw [hF17]; exact (pk_un (by omega)).trans kF16_5
            have kF17_5 : F17 (b + 2) = nI Lo := by rw [hF17]; exact (pk_un (by omega)).trans kF16_6
            have kF17_6 : F17 (b + 3) = nI So := by rw [hF17]; exact (pk_un (by omega)).trans kF16_7
            have kF17_7 : F17 (b + 4) = nI Do := by rw [hF17]; exact (pk_un (by omega)).trans kF16_8
            have kF17_9 : F17 (a + 5) = nI (x.1 + x.2.1) := by rw [hF17]; exact (pk_un (by omega)).trans kF16_10
            have kF17_10 : F17 (a + 3) = nI (S + So) := by rw [hF17]; exact (pk_un (by omega)).trans kF16_11
            have kF17_11 : F17 (a + 4) = nI (D9 + Do) := by rw [hF17]; exact (pk_un (by omega)).trans kF16_n
            have kF17_n : F17 (b + 5) = nI 0 := by rw [hF17]; exact pk_us
            have frF17 : ∀ i, (i < a ∨ a + 6 ≤ i) ∧ (i < b ∨ b + 6 ≤ i) → F17 i = F13 i := fun i hi => by rw [hF17]; exact (pk_un (by omega)).trans (frF16 i hi)
            rw [w2_up_r hr9] at hP
            refine lv_aload_n hx hb dX2_joined_228 rfl (lv_at hl 1 rfl) ?_
            refine lv_iload_n hx hb dX2_joined_229 rfl (lv_at hl 3 rfl) ?_
            refine lv_iconst (v := nI 3) hx hb dX2_joined_230 rfl ?_
            refine n_iadd hx hb dX2_joined_231 ?_
            refine lv_iconst (v := nI 0) hx hb dX2_joined_232 rfl ?_
            refine a_ist C0 hP hS (by omega) (w2_r hr9) (by omega) (by omega) dX2_joined_233 (fun H locs hP hS => ?_)
            obtain ⟨F18, hF18⟩ : ∃ z, z = upd F17 (b + 3) (nI 0) := ⟨_, rfl⟩
            rw [← hF18] at hP
            have kF18_0 : F18 (a + 0) = nI R := by rw [hF18]; exact (pk_un (by omega)).trans kF17_0
            have kF18_1 : F18 (a + 1) = nI Y := by rw [hF18]; exact (pk_un (by omega)).trans kF17_1
            have kF18_2 : F18 (a + 2) = nI x.2.2.1 := by rw [hF18]; exact (pk_un (by omega)).trans kF17_2
            have kF18_3 : F18 (b + 0) = nI Ro := by rw [hF18]; exact (pk_un (by omega)).trans kF17_3
            have kF18_4 : F18 (b + 1) = nI Yo := by rw [hF18]; exact (pk_un (by omega)).trans kF17_4
            have kF18_5 : F18 (b + 2) = nI Lo := by rw [hF18]; exact (pk_un (by omega)).trans kF17_5
            have kF18_7 : F18 (b + 4) = nI Do := by rw [hF18]; exact (pk_un (by omega)).trans kF17_7
            have kF18_8 : F18 (a + 5) = nI (x.1 + x.2.1) := by rw [hF18]; exact (pk_un (by omega)).trans kF17_9
            have kF18_9 : F18 (a + 3) = nI (S + So) := by rw [hF18]; exact (pk_un (by omega)).trans kF17_10
            have kF18_10 : F18 (a + 4) = nI (D9 + Do) := by rw [hF18]; exact (pk_un (by omega)).trans kF17_11
            have kF18_11 : F18 (b + 5) = nI 0 := by rw [hF18]; exact (pk_un (by omega)).trans kF17_n
            have kF18_n : F18 (b + 3) = nI 0 := by rw [hF18]; exact pk_us
            have frF18 : ∀ i, (i < a ∨ a + 6 ≤ i) ∧ (i < b ∨ b + 6 ≤ i) → F18 i = F13 i := fun i hi => by rw [hF18]; exact (pk_un (by omega)).trans (frF17 i hi)
            rw [w2_up_r hr9] at hP
            refine lv_aload_n hx hb dX2_joined_234 rfl (lv_at hl 1 rfl) ?_
            refine lv_iload_n hx hb dX2_joined_235 rfl (lv_at hl 3 rfl) ?_
            refine lv_iconst (v := nI 4) hx hb dX2_joined_236 rfl ?_
            refine n_iadd hx hb dX2_joined_237 ?_
            refine lv_iconst (v := nI 0) hx hb dX2_joined_238 rfl ?_
            refine a_ist C0 hP hS (by omega) (w2_r hr9) (by omega) (by omega) dX2_joined_239 (fun H locs hP hS => ?_)
            obtain ⟨F19, hF19⟩ : ∃ z, z = upd F18 (b + 4) (nI 0) := ⟨_, rfl⟩
            rw [← hF19] at hP
            have kF19_0 : F19 (a + 0) = nI R := by rw [hF19]; exact (pk_un (by omega)).trans kF18_0
            have kF19_1 : F19 (a + 1) = nI Y := by rw [hF19]; exact (pk_un (by omega)).trans kF18_1
            have kF19_2 : F19 (a + 2) = nI x.2.2.1 := by rw [hF19]; exact (pk_un (by omega)).trans kF18_2
            have kF19_3 : F19 (b + 0) = nI Ro := by rw [hF19]; exact (pk_un (by omega)).trans kF18_3
            have kF19_4 : F19 (b + 1) = nI Yo := by rw [hF19]; exact (pk_un (by omega)).trans kF18_4
            have kF19_5 : F19 (b + 2) = nI Lo := by rw [hF19]; exact (pk_un (by omega)).trans kF18_5
            have kF19_7 : F19 (a + 5) = nI (x.1 + x.2.1) := by rw [hF19]; exact (pk_un (by omega)).trans kF18_8
            have kF19_8 : F19 (a + 3) = nI (S + So) := by rw [hF19]; exact (pk_un (by omega)).trans kF18_9
            have kF19_9 : F19 (a + 4) = nI (D9 + Do) := by rw [hF19]; exact (pk_un (by omega)).trans kF18_10
            have kF19_10 : F19 (b + 5) = nI 0 := by rw [hF19]; exact (pk_un (by omega)).trans kF18_11
            have kF19_11 : F19 (b + 3) = nI 0 := by rw [hF19]; exact (pk_un (by omega)).trans kF18_n
            have kF19_n : F19 (b + 4) = nI 0 := by rw [hF19]; exact pk_us
            have frF19 : ∀ i, (i < a ∨ a + 6 ≤ i) ∧ (i < b ∨ b + 6 ≤ i) → F19 i = F13 i := fun i hi => by rw [hF19]; exact (pk_un (by omega)).trans (frF18 i hi)
            rw [w2_up_r hr9] at hP
            refine lv_iload hx hb dX2_joined_240 (lv_at hl 5 rfl) ?_
            rw [← hjx]
            have htt : x.1 + x.2.1 ≤ 8 := by omega
            exact e_i C0 hr hlk hP hS dX2_joined_242 (by decide) (by decide) ⟨F19, G, rfl, rfl, ⟨kF19_0, kF19_1, kF19_2, kF19_8, kF19_9, kF19_7⟩, ⟨kF19_3, kF19_4, kF19_5, kF19_11, kF19_n, kF19_10⟩, fun k9 q9 hk9 hq9 => (frF19 _ ⟨by omega, by omega⟩).trans (by rw [hF13, pk_cpy_in (by omega) (by omega)]; rw [show 0 + (a + 6 + 3 * q9 + k9 - (a + 6)) = 3 * q9 + k9 from by omega]; exact hG k9 q9 hk9 (by omega)), fun z hz => (frF19 z ⟨by omega, by omega⟩).trans (by rw [hF13, pk_cpy_out (by omega)]; exact hF z (by omega))⟩
          · refine lv_aload_n hx hb dX2_joined_39 rfl (lv_at hl 1 rfl) ?_
            refine lv_iload_n hx hb dX2_joined_40 rfl (lv_at hl 2 rfl) ?_
            refine lv_aload_n hx hb dX2_joined_41 rfl (lv_at hl 1 rfl) ?_
            refine lv_iload_n hx hb dX2_joined_42 rfl (lv_at hl 2 rfl) ?_
            refine lv_iconst (v := nI 3) hx hb dX2_joined_43 rfl ?_
            refine n_iadd hx hb dX2_joined_44 ?_
            refine a_ildE C0 hP (by omega) (w2_r hr9) (by omega) (by omega) ((hF _ (by omega)).trans r3) dX2_joined_45 ?_
            refine lv_aload_n hx hb dX2_joined_46 rfl (lv_at hl 1 rfl) ?_
            refine lv_iload_n hx hb dX2_joined_47 rfl (lv_at hl 3 rfl) ?_
            refine lv_iconst (v := nI 3) hx hb dX2_joined_48 rfl ?_
            refine n_iadd hx hb dX2_joined_49 ?_
            refine a_ildE C0 hP (by omega) (w2_r hr9) (by omega) (by omega) ((hF _ (by omega)).trans t3) dX2_joined_50 ?_
            refine n_iadd hx hb dX2_joined_51 ?_
            refine lv_iload hx hb dX2_joined_52 (lv_at hl 4 rfl) ?_
            refine n_isub hx hb (by omega) dX2_joined_54 ?_
            refine lv_iload hx hb dX2_joined_55 (lv_at hl 5 rfl) ?_
            refine n_isub hx hb (by omega) dX2_joined_57 ?_
            refine k0_i (rn_X2_26 (As := [.ref (ad r), .int (nI a), .int (nI (((S + So) - x.1) - x.2.1))]) (rest := []) C0 (m_X2_draw l D cA N ad (w2 cA c r F G) r a F x.2.2.1 (((S + So) - x.1) - x.2.1) (by omega) (w2_r hr9) (by omega) hFL (by omega) (by omega) (by omega) _) hP hS rfl ⟨rfl, rfl⟩ ⟨by decide, by decide⟩ hl.1 rfl (Nat.le_of_ble_eq_true rfl) dX2_joined_58 ⟨Nat.le_of_ble_eq_true rfl, Nat.le_of_ble_eq_true rfl⟩) C0 hP hS (fun v58 c58 H locs hp hP hS => ?_)
            obtain ⟨rfl, rfl⟩ := hp
            obtain ⟨F20, hF20⟩ : ∃ z, z = upd F (a + 2) (nI (nl x.2.2.1)) := ⟨_, rfl⟩
            rw [← hF20] at hP
            have kF20_0 : F20 (a + 0) = nI R := by rw [hF20]; exact (pk_un (by omega)).trans ((hF _ (by omega)).trans r0)
            have kF20_1 : F20 (a + 1) = nI Y := by rw [hF20]; exact (pk_un (by omega)).trans ((hF _ (by omega)).trans r1)
            have kF20_2 : F20 (a + 3) = nI S := by rw [hF20]; exact (pk_un (by omega)).trans ((hF _ (by omega)).trans r3)
            have kF20_3 : F20 (a + 4) = nI D9 := by rw [hF20]; exact (pk_un (by omega)).trans ((hF _ (by omega)).trans r4)
            have kF20_4 : F20 (a + 5) = nI K := by rw [hF20]; exact (pk_un (by omega)).trans ((hF _ (by omega)).trans r5)
            have kF20_6 : F20 (b + 0) = nI Ro := by rw [hF20]; exact (pk_un (by omega)).trans ((hF _ (by omega)).trans t0)
            have kF20_7 : F20 (b + 1) = nI Yo := by rw [hF20]; exact (pk_un (by omega)).trans ((hF _ (by omega)).trans t1)
            have kF20_8 : F20 (b + 2) = nI Lo := by rw [hF20]; exact (pk_un (by omega)).trans ((hF _ (by omega)).trans t2)
            have kF20_9 : F20 (b + 3) = nI So := by rw [hF20]; exact (pk_un (by omega)).trans ((hF _ (by omega)).trans t3)
            have kF20_10 : F20 (b + 4) = nI Do := by rw [hF20]; exact (pk_un (by omega)).trans ((hF _ (by omega)).trans t4)
            have kF20_11 : F20 (b + 5) = nI Ko := by rw [hF20]; exact (pk_un (by omega)).trans ((hF _ (by omega)).trans t5)
            have kF20_n : F20 (a + 2) = nI (nl x.2.2.1) := by rw [hF20]; exact pk_us
            rw [w2_up_r hr9] at hP
            refine lv_istore (lv' := [(6, .int (nI (nl x.2.2.1 % (((S + So) - x.1) - x.2.1)))), (0, .ref (ad 6)), (1, .ref (ad r)), (2, .int (nI a)), (3, .int (nI b)), (4, .int (nI x.1)), (5, .int (nI x.2.1))]) hx hb dX2_joined_61 hl (by decide) rfl (fun ls hl => ?_)
            refine lv_iload hx hb dX2_joined_63 (lv_at hl 6 rfl) ?_
            refine lv_aload_n hx hb dX2_joined_65 rfl (lv_at hl 2 rfl) ?_
            refine lv_iload_n hx hb dX2_joined_66 rfl (lv_at hl 4 rfl) ?_
            refine lv_iconst (v := nI 5) hx hb dX2_joined_67 rfl ?_
            refine n_iadd hx hb dX2_joined_68 ?_
            refine a_ildE C0 hP (by omega) (w2_r hr9) (by omega) (by omega) kF20_11 dX2_joined_69 ?_
            refine n_icmp_eq (tgt := 96) hx hb (by omega) (by omega) dX2_joined_70 (by decide) (fun h70 => ?_) (fun h70 => ?_)
            · have hcs : (nl x.2.2.1 % (S + So - pl) < S - x.1 ∧ x.1 < K) ∨ Ko ≤ x.2.1 := by rw [← hme]; omega
              refine lv_iconst (v := nI 1) hx hb dX2_joined_96 rfl ?_
              refine lv_goto (tgt := 101) hx hb dX2_joined_97 (by decide) ?_
              refine lv_istore (lv' := [(7, .int (nI 1)), (6, .int (nI (nl x.2.2.1 % (((S + So) - x.1) - x.2.1)))), (0, .ref (ad 6)), (1, .ref (ad r)), (2, .int (nI a)), (3, .int (nI b)), (4, .int (nI x.1)), (5, .int (nI x.2.1))]) hx hb dX2_joined_101 hl (by decide) rfl (fun ls hl => ?_)
              refine lv_iload hx hb dX2_joined_103 (lv_at hl 0 rfl) ?_
              refine n_if_eq (tgt := 120) hx hb (by omega) dX2_joined_105 (by decide) (fun h105 => ?_) (fun h105 => ?_)
              · exfalso; omega
              refine lv_iload_n hx hb dX2_joined_108 rfl (lv_at hl 4 rfl) ?_
              refine lv_bipush (v := nI 6) hx hb dX2_joined_109 rfl ?_
              refine n_iadd hx hb dX2_joined_111 ?_
              refine lv_iconst (v := nI 3) hx hb dX2_joined_112 rfl ?_
              refine lv_iload hx hb dX2_joined_113 (lv_at hl 6 rfl) ?_
              refine n_imul hx hb dX2_joined_115 ?_
              refine n_iadd hx hb dX2_joined_116 ?_
              refine lv_goto (tgt := 129) hx hb dX2_joined_117 (by decide) ?_
              refine lv_istore (lv' := [(8, .int (nI (a + 6 + (3 * x.1)))), (7, .int (nI 1)), (6, .int (nI (nl x.2.2.1 % (((S + So) - x.1) - x.2.1)))), (0, .ref (ad 6)), (1, .ref (ad r)), (2, .int (nI a)), (3, .int (nI b)), (4, .int (nI x.1)), (5, .int (nI x.2.1))]) hx hb dX2_joined_129 hl (by decide) rfl (fun ls hl => ?_)
              refine lv_aload_n hx hb dX2_joined_131 rfl (lv_at hl 4 rfl) ?_
              refine lv_iload hx hb dX2_joined_132 (lv_at hl 0 rfl) ?_
              refine lv_aload_n hx hb dX2_joined_134 rfl (lv_at hl 3 rfl) ?_
              refine gf_X2_16 C0 hP (by omega) ((w2_ne (by decide) (by omega)).trans hM.1) rfl dX2_joined_135 ?_
              refine lv_iconst (v := nI 3) hx hb dX2_joined_138 rfl ?_
              refine lv_iload hx hb dX2_joined_139 (lv_at hl 7 rfl) ?_
              refine lv_iload hx hb dX2_joined_141 (lv_at hl 8 rfl) ?_
              refine n_iadd hx hb dX2_joined_143 ?_
              refine n_imul hx hb dX2_joined_144 ?_
              refine lv_iconst (v := nI 3) hx hb dX2_joined_145 rfl ?_
              refine a_copy C0 hl hP hS (by omega) (by omega) (w2_r hr9) w2_9 (by omega) (by omega) (by omega) (by omega) (by omega) (by decide) (Nat.le_of_ble_eq_true rfl) dX2_joined_146 (fun H locs hP hS => ?_)
              obtain ⟨F21, hF21⟩ : ∃ z, z = va_cpy F20 G (a + 6 + (3 * x.1)) (3 * (x.1 + x.2.1)) (3) := ⟨_, rfl⟩
              rw [← hF21] at hP
              rw [w2_up_9] at hP
              refine lv_iload hx hb dX2_joined_149 (lv_at hl 1 rfl) ?_
              refine n_if_eq (tgt := 160) hx hb (by omega) dX2_joined_151 (by decide) (fun h151 => ?_) (fun h151 => ?_)
              · exfalso; omega
              refine lv_iinc (v := nI (x.1 + 1)) (lv' := [(4, .int (nI (x.1 + 1))), (8, .int (nI (a + 6 + (3 * x.1)))), (7, .int (nI 1)), (6, .int (nI (nl x.2.2.1 % (((S + So) - x.1) - x.2.1)))), (0, .ref (ad 6)), (1, .ref (ad r)), (2, .int (nI a)), (3, .int (nI b)), (5, .int (nI x.2.1))]) hx hb dX2_joined_154 hl (k := 7) rfl (nI_add x.1 1) (by decide) rfl (fun ls hl => ?_)
              refine lv_goto (tgt := 163) hx hb dX2_joined_157 (by decide) ?_
              refine lv_goto (tgt := 6) hx hb dX2_joined_163 (by decide) ?_
              exact ih6 (k - 1) (pl + 1) ((x.1 + 1, x.2.1, nl x.2.2.1, cpS x.2.2.2 pl (sto f a) x.1)) F20 F21 (by omega) (by show x.1 + 1 + x.2.1 = pl + 1; omega) (by show x.1 + 1 ≤ K; omega) (by show x.2.1 ≤ Ko; omega) (by show nl x.2.2.1 ≤ 9999; omega) (by rw [← hj, show k = (k - 1) + 1 from by omega]; show jn S So K Ko (sto f a) (sto f b) (k - 1) _ = if K ≤ x.1 ∧ Ko ≤ x.2.1 then x else jn S So K Ko (sto f a) (sto f b) (k - 1) (jnS S So K Ko (sto f a) (sto f b) x); rw [if_neg (by omega), show jnS S So K Ko (sto f a) (sto f b) x = (x.1 + 1, x.2.1, nl x.2.2.1, cpS x.2.2.2 pl (sto f a) x.1) from by unfold jnS; rw [hpl, if_pos hcs]]) (fun z hz => by rw [hF20]; exact (pk_un (by omega)).trans (hF z hz)) (kF20_n) (fun k9 q9 hk9 hq9 => by rw [hF21, hpl]; exact rws_step (by omega) hG (fun k9 hk9 => by rw [hF20]; exact (pk_un (by omega)).trans ((hF _ (by omega)).trans rfl)) k9 q9 hk9 hq9) (by omega) _ _ _ hP hS (lv_sub hl [4, 5, 6, 7, 0, 8] rfl)
            · refine lv_iload hx hb dX2_joined_73 (lv_at hl 5 rfl) ?_
              refine lv_aload_n hx hb dX2_joined_75 rfl (lv_at hl 2 rfl) ?_
              refine lv_iload_n hx hb dX2_joined_76 rfl (lv_at hl 3 rfl) ?_
              refine lv_iconst (v := nI 5) hx hb dX2_joined_77 rfl ?_
              refine n_iadd hx hb dX2_joined_78 ?_
              refine a_ildE C0 hP (by omega) (w2_r hr9) (by omega) (by omega) kF20_4 dX2_joined_79 ?_
              refine n_icmp_ge (tgt := 100) hx hb (by omega) (by omega) dX2_joined_80 (by decide) (fun h80 => ?_) (fun h80 => ?_)
              · have hcs : ¬ ((nl x.2.2.1 % (S + So - pl) < S - x.1 ∧ x.1 < K) ∨ Ko ≤ x.2.1) := by rw [← hme]; omega
                refine lv_iconst (v := nI 0) hx hb dX2_joined_100 rfl ?_
                refine lv_istore (lv' := [(7, .int (nI 0)), (6, .int (nI (nl x.2.2.1 % (((S + So) - x.1) - x.2.1)))), (0, .ref (ad 6)), (1, .ref (ad r)), (2, .int (nI a)), (3, .int (nI b)), (4, .int (nI x.1)), (5, .int (nI x.2.1))]) hx hb dX2_joined_101 hl (by decide) rfl (fun ls hl => ?_)
                refine lv_iload hx hb dX2_joined_103 (lv_at hl 0 rfl) ?_
                refine n_if_eq (tgt := 120) hx hb (by omega) dX2_joined_105 (by decide) (fun h105 => ?_) (fun h105 => ?_)
                rotate_left
                · exfalso; omega
                refine lv_iload_n hx hb dX2_joined_120 rfl (lv_at hl 5 rfl) ?_
                refine lv_bipush (v := nI 6) hx hb dX2_joined_121 rfl ?_
                refine n_iadd hx hb dX2_joined_123 ?_
                refine lv_iconst (v := nI 3) hx hb dX2_joined_124 rfl ?_
                refine lv_iload hx hb dX2_joined_125 (lv_at hl 7 rfl) ?_
                refine n_imul hx hb dX2_joined_127 ?_
                refine n_iadd hx hb dX2_joined_128 ?_
                refine lv_istore (lv' := [(8, .int (nI (b + 6 + (3 * x.2.1)))), (7, .int (nI 0)), (6, .int (nI (nl x.2.2.1 % (((S + So) - x.1) - x.2.1)))), (0, .ref (ad 6)), (1, .ref (ad r)), (2, .int (nI a)), (3, .int (nI b)), (4, .int (nI x.1)), (5, .int (nI x.2.1))]) hx hb dX2_joined_129 hl (by decide) rfl (fun ls hl => ?_)
                refine lv_aload_n hx hb dX2_joined_131 rfl (lv_at hl 4 rfl) ?_
                refine lv_iload hx hb dX2_joined_132 (lv_at hl 0 rfl) ?_
                refine lv_aload_n hx hb dX2_joined_134 rfl (lv_at hl 3 rfl) ?_
                refine gf_X2_16 C0 hP (by omega) ((w2_ne (by decide) (by omega)).trans hM.1) rfl dX2_joined_135 ?_
                refine lv_iconst (v := nI 3) hx hb dX2_joined_138 rfl ?_
                refine lv_iload hx hb dX2_joined_139 (lv_at hl 7 rfl) ?_
                refine lv_iload hx hb dX2_joined_141 (lv_at hl 8 rfl) ?_
                refine n_iadd hx hb dX2_joined_143 ?_
                refine n_imul hx hb dX2_joined_144 ?_
                refine lv_iconst (v := nI 3) hx hb dX2_joined_145 rfl ?_
                refine a_copy C0 hl hP hS (by omega) (by omega) (w2_r hr9) w2_9 (by omega) (by omega) (by omega) (by omega) (by omega) (by decide) (Nat.le_of_ble_eq_true rfl) dX2_joined_146 (fun H locs hP hS => ?_)
                obtain ⟨F22, hF22⟩ : ∃ z, z = va_cpy F20 G (b + 6 + (3 * x.2.1)) (3 * (x.1 + x.2.1)) (3) := ⟨_, rfl⟩
                rw [← hF22] at hP
                rw [w2_up_9] at hP
                refine lv_iload hx hb dX2_joined_149 (lv_at hl 1 rfl) ?_
                refine n_if_eq (tgt := 160) hx hb (by omega) dX2_joined_151 (by decide) (fun h151 => ?_) (fun h151 => ?_)
                rotate_left
                · exfalso; omega
                refine lv_iinc (v := nI (x.2.1 + 1)) (lv' := [(5, .int (nI (x.2.1 + 1))), (8, .int (nI (b + 6 + (3 * x.2.1)))), (7, .int (nI 0)), (6, .int (nI (nl x.2.2.1 % (((S + So) - x.1) - x.2.1)))), (0, .ref (ad 6)), (1, .ref (ad r)), (2, .int (nI a)), (3, .int (nI b)), (4, .int (nI x.1))]) hx hb dX2_joined_160 hl (k := 8) rfl (nI_add x.2.1 1) (by decide) rfl (fun ls hl => ?_)
                refine lv_goto (tgt := 6) hx hb dX2_joined_163 (by decide) ?_
                exact ih6 (k - 1) (pl + 1) ((x.1, x.2.1 + 1, nl x.2.2.1, cpS x.2.2.2 pl (sto f b) x.2.1)) F20 F22 (by omega) (by show x.1 + x.2.1 + 1 = pl + 1; omega) (by show x.1 ≤ K; omega) (by show x.2.1 + 1 ≤ Ko; omega) (by show nl x.2.2.1 ≤ 9999; omega) (by rw [← hj, show k = (k - 1) + 1 from by omega]; show jn S So K Ko (sto f a) (sto f b) (k - 1) _ = if K ≤ x.1 ∧ Ko ≤ x.2.1 then x else jn S So K Ko (sto f a) (sto f b) (k - 1) (jnS S So K Ko (sto f a) (sto f b) x); rw [if_neg (by omega), show jnS S So K Ko (sto f a) (sto f b) x = (x.1, x.2.1 + 1, nl x.2.2.1, cpS x.2.2.2 pl (sto f b) x.2.1) from by unfold jnS; rw [hpl, if_neg hcs]]) (fun z hz => by rw [hF20]; exact (pk_un (by omega)).trans (hF z hz)) (kF20_n) (fun k9 q9 hk9 hq9 => by rw [hF22, hpl]; exact rws_step (by omega) hG (fun k9 hk9 => by rw [hF20]; exact (pk_un (by omega)).trans ((hF _ (by omega)).trans rfl)) k9 q9 hk9 hq9) (by omega) _ _ _ hP hS (lv_sub hl [4, 5, 6, 7, 8, 0] rfl)
              · refine lv_iload hx hb dX2_joined_83 (lv_at hl 0 rfl) ?_
                refine lv_aload_n hx hb dX2_joined_85 rfl (lv_at hl 2 rfl) ?_
                refine lv_iload_n hx hb dX2_joined_86 rfl (lv_at hl 3 rfl) ?_
                refine lv_iconst (v := nI 3) hx hb dX2_joined_87 rfl ?_
                refine n_iadd hx hb dX2_joined_88 ?_
                refine a_ildE C0 hP (by omega) (w2_r hr9) (by omega) (by omega) kF20_2 dX2_joined_89 ?_
                refine lv_iload hx hb dX2_joined_90 (lv_at hl 5 rfl) ?_
                refine n_isub hx hb (by omega) dX2_joined_92 ?_
                refine n_icmp_ge (tgt := 100) hx hb (by omega) (by omega) dX2_joined_93 (by decide) (fun h93 => ?_) (fun h93 => ?_)
                · have hcs : ¬ ((nl x.2.2.1 % (S + So - pl) < S - x.1 ∧ x.1 < K) ∨ Ko ≤ x.2.1) := by rw [← hme]; omega
                  refine lv_iconst (v := nI 0) hx hb dX2_joined_100 rfl ?_
                  refine lv_istore (lv' := [(7, .int (nI 0)), (6, .int (nI (nl x.2.2.1 % (((S + So) - x.1) - x.2.1)))), (0, .ref (ad 6)), (1, .ref (ad r)), (2, .int (nI a)), (3, .int (nI b)), (4, .int (nI x.1)), (5, .int (nI x.2.1))]) hx hb dX2_joined_101 hl (by decide) rfl (fun ls hl => ?_)
                  refine lv_iload hx hb dX2_joined_103 (lv_at hl 0 rfl) ?_
                  refine n_if_eq (tgt := 120) hx hb (by omega) dX2_joined_105 (by decide) (fun h105 => ?_) (fun h105 => ?_)
                  rotate_left
                  · exfalso; omega
                  refine lv_iload_n hx hb dX2_joined_120 rfl (lv_at hl 5 rfl) ?_
                  refine lv_bipush (v := nI 6) hx hb dX2_joined_121 rfl ?_
                  refine n_iadd hx hb dX2_joined_123 ?_
                  refine lv_iconst (v := nI 3) hx hb dX2_joined_124 rfl ?_
                  refine lv_iload hx hb dX2_joined_125 (lv_at hl 7 rfl) ?_
                  refine n_imul hx hb dX2_joined_127 ?_
                  refine n_iadd hx hb dX2_joined_128 ?_
                  refine lv_istore (lv' := [(8, .int (nI (b + 6 + (3 * x.2.1)))), (7, .int (nI 0)), (6, .int (nI (nl x.2.2.1 % (((S + So) - x.1) - x.2.1)))), (0, .ref (ad 6)), (1, .ref (ad r)), (2, .int (nI a)), (3, .int (nI b)), (4, .int (nI x.1)), (5, .int (nI x.2.1))]) hx hb dX2_joined_129 hl (by decide) rfl (fun ls hl => ?_)
                  refine lv_aload_n hx hb dX2_joined_131 rfl (lv_at hl 4 rfl) ?_
                  refine lv_iload hx hb dX2_joined_132 (lv_at hl 0 rfl) ?_
                  refine lv_aload_n hx hb dX2_joined_134 rfl (lv_at hl 3 rfl) ?_
                  refine gf_X2_16 C0 hP (by omega) ((w2_ne (by decide) (by omega)).trans hM.1) rfl dX2_joined_135 ?_
                  refine lv_iconst (v := nI 3) hx hb dX2_joined_138 rfl ?_
                  refine lv_iload hx hb dX2_joined_139 (lv_at hl 7 rfl) ?_
                  refine lv_iload hx hb dX2_joined_141 (lv_at hl 8 rfl) ?_
                  refine n_iadd hx hb dX2_joined_143 ?_
                  refine n_imul hx hb dX2_joined_144 ?_
                  refine lv_iconst (v := nI 3) hx hb dX2_joined_145 rfl ?_
                  refine a_copy C0 hl hP hS (by omega) (by omega) (w2_r hr9) w2_9 (by omega) (by omega) (by omega) (by omega) (by omega) (by decide) (Nat.le_of_ble_eq_true rfl) dX2_joined_146 (fun H locs hP hS => ?_)
                  obtain ⟨F23, hF23⟩ : ∃ z, z = va_cpy F20 G (b + 6 + (3 * x.2.1)) (3 * (x.1 + x.2.1)) (3) := ⟨_, rfl⟩
                  rw [← hF23] at hP
                  rw [w2_up_9] at hP
                  refine lv_iload hx hb dX2_joined_149 (lv_at hl 1 rfl) ?_
                  refine n_if_eq (tgt := 160) hx hb (by omega) dX2_joined_151 (by decide) (fun h151 => ?_) (fun h151 => ?_)
                  rotate_left
                  · exfalso; omega
                  refine lv_iinc (v := nI (x.2.1 + 1)) (lv' := [(5, .int (nI (x.2.1 + 1))), (8, .int (nI (b + 6 + (3 * x.2.1)))), (7, .int (nI 0)), (6, .int (nI (nl x.2.2.1 % (((S + So) - x.1) - x.2.1)))), (0, .ref (ad 6)), (1, .ref (ad r)), (2, .int (nI a)), (3, .int (nI b)), (4, .int (nI x.1))]) hx hb dX2_joined_160 hl (k := 8) rfl (nI_add x.2.1 1) (by decide) rfl (fun ls hl => ?_)
                  refine lv_goto (tgt := 6) hx hb dX2_joined_163 (by decide) ?_
                  exact ih6 (k - 1) (pl + 1) ((x.1, x.2.1 + 1, nl x.2.2.1, cpS x.2.2.2 pl (sto f b) x.2.1)) F20 F23 (by omega) (by show x.1 + x.2.1 + 1 = pl + 1; omega) (by show x.1 ≤ K; omega) (by show x.2.1 + 1 ≤ Ko; omega) (by show nl x.2.2.1 ≤ 9999; omega) (by rw [← hj, show k = (k - 1) + 1 from by omega]; show jn S So K Ko (sto f a) (sto f b) (k - 1) _ = if K ≤ x.1 ∧ Ko ≤ x.2.1 then x else jn S So K Ko (sto f a) (sto f b) (k - 1) (jnS S So K Ko (sto f a) (sto f b) x); rw [if_neg (by omega), show jnS S So K Ko (sto f a) (sto f b) x = (x.1, x.2.1 + 1, nl x.2.2.1, cpS x.2.2.2 pl (sto f b) x.2.1) from by unfold jnS; rw [hpl, if_neg hcs]]) (fun z hz => by rw [hF20]; exact (pk_un (by omega)).trans (hF z hz)) (kF20_n) (fun k9 q9 hk9 hq9 => by rw [hF23, hpl]; exact rws_step (by omega) hG (fun k9 hk9 => by rw [hF20]; exact (pk_un (by omega)).trans ((hF _ (by omega)).trans rfl)) k9 q9 hk9 hq9) (by omega) _ _ _ hP hS (lv_sub hl [4, 5, 6, 7, 8, 0] rfl)
                · have hcs : (nl x.2.2.1 % (S + So - pl) < S - x.1 ∧ x.1 < K) ∨ Ko ≤ x.2.1 := by rw [← hme]; omega
                  refine lv_iconst (v := nI 1) hx hb dX2_joined_96 rfl ?_
                  refine lv_goto (tgt := 101) hx hb dX2_joined_97 (by decide) ?_
                  refine lv_istore (lv' := [(7, .int (nI 1)), (6, .int (nI (nl x.2.2.1 % (((S + So) - x.1) - x.2.1)))), (0, .ref (ad 6)), (1, .ref (ad r)), (2, .int (nI a)), (3, .int (nI b)), (4, .int (nI x.1)), (5, .int (nI x.2.1))]) hx hb dX2_joined_101 hl (by decide) rfl (fun ls hl => ?_)
                  refine lv_iload hx hb dX2_joined_103 (lv_at hl 0 rfl) ?_
                  refine n_if_eq (tgt := 120) hx hb (by omega) dX2_joined_105 (by decide) (fun h105 => ?_) (fun h105 => ?_)
                  · exfalso; omega
                  refine lv_iload_n hx hb dX2_joined_108 rfl (lv_at hl 4 rfl) ?_
                  refine lv_bipush (v := nI 6) hx hb dX2_joined_109 rfl ?_
                  refine n_iadd hx hb dX2_joined_111 ?_
                  refine lv_iconst (v := nI 3) hx hb dX2_joined_112 rfl ?_
                  refine lv_iload hx hb dX2_joined_113 (lv_at hl 6 rfl) ?_
                  refine n_imul hx hb dX2_joined_115 ?_
                  refine n_iadd hx hb dX2_joined_116 ?_
                  refine lv_goto (tgt := 129) hx hb dX2_joined_117 (by decide) ?_
                  refine lv_istore (lv' := [(8, .int (nI (a + 6 + (3 * x.1)))), (7, .int (nI 1)), (6, .int (nI (nl x.2.2.1 % (((S + So) - x.1) - x.2.1)))), (0, .ref (ad 6)), (1, .ref (ad r)), (2, .int (nI a)), (3, .int (nI b)), (4, .int (nI x.1)), (5, .int (nI x.2.1))]) hx hb dX2_joined_129 hl (by decide) rfl (fun ls hl => ?_)
                  refine lv_aload_n hx hb dX2_joined_131 rfl (lv_at hl 4 rfl) ?_
                  refine lv_iload hx hb dX2_joined_132 (lv_at hl 0 rfl) ?_
                  refine lv_aload_n hx hb dX2_joined_134 rfl (lv_at hl 3 rfl) ?_
                  refine gf_X2_16 C0 hP (by omega) ((w2_ne (by decide) (by omega)).trans hM.1) rfl dX2_joined_135 ?_
                  refine lv_iconst (v := nI 3) hx hb dX2_joined_138 rfl ?_
                  refine lv_iload hx hb dX2_joined_139 (lv_at hl 7 rfl) ?_
                  refine lv_iload hx hb dX2_joined_141 (lv_at hl 8 rfl) ?_
                  refine n_iadd hx hb dX2_joined_143 ?_
                  refine n_imul hx hb dX2_joined_144 ?_
                  refine lv_iconst (v := nI 3) hx hb dX2_joined_145 rfl ?_
                  refine a_copy C0 hl hP hS (by omega) (by omega) (w2_r hr9) w2_9 (by omega) (by omega) (by omega) (by omega) (by omega) (by decide) (Nat.le_of_ble_eq_true rfl) dX2_joined_146 (fun H locs hP hS => ?_)
                  obtain ⟨F24, hF24⟩ : ∃ z, z = va_cpy F20 G (a + 6 + (3 * x.1)) (3 * (x.1 + x.2.1)) (3) := ⟨_, rfl⟩
                  rw [← hF24] at hP
                  rw [w2_up_9] at hP
                  refine lv_iload hx hb dX2_joined_149 (lv_at hl 1 rfl) ?_
                  refine n_if_eq (tgt := 160) hx hb (by omega) dX2_joined_151 (by decide) (fun h151 => ?_) (fun h151 => ?_)
                  · exfalso; omega
                  refine lv_iinc (v := nI (x.1 + 1)) (lv' := [(4, .int (nI (x.1 + 1))), (8, .int (nI (a + 6 + (3 * x.1)))), (7, .int (nI 1)), (6, .int (nI (nl x.2.2.1 % (((S + So) - x.1) - x.2.1)))), (0, .ref (ad 6)), (1, .ref (ad r)), (2, .int (nI a)), (3, .int (nI b)), (5, .int (nI x.2.1))]) hx hb dX2_joined_154 hl (k := 7) rfl (nI_add x.1 1) (by decide) rfl (fun ls hl => ?_)
                  refine lv_goto (tgt := 163) hx hb dX2_joined_157 (by decide) ?_
                  refine lv_goto (tgt := 6) hx hb dX2_joined_163 (by decide) ?_
                  exact ih6 (k - 1) (pl + 1) ((x.1 + 1, x.2.1, nl x.2.2.1, cpS x.2.2.2 pl (sto f a) x.1)) F20 F24 (by omega) (by show x.1 + 1 + x.2.1 = pl + 1; omega) (by show x.1 + 1 ≤ K; omega) (by show x.2.1 ≤ Ko; omega) (by show nl x.2.2.1 ≤ 9999; omega) (by rw [← hj, show k = (k - 1) + 1 from by omega]; show jn S So K Ko (sto f a) (sto f b) (k - 1) _ = if K ≤ x.1 ∧ Ko ≤ x.2.1 then x else jn S So K Ko (sto f a) (sto f b) (k - 1) (jnS S So K Ko (sto f a) (sto f b) x); rw [if_neg (by omega), show jnS S So K Ko (sto f a) (sto f b) x = (x.1 + 1, x.2.1, nl x.2.2.1, cpS x.2.2.2 pl (sto f a) x.1) from by unfold jnS; rw [hpl, if_pos hcs]]) (fun z hz => by rw [hF20]; exact (pk_un (by omega)).trans (hF z hz)) (kF20_n) (fun k9 q9 hk9 hq9 => by rw [hF24, hpl]; exact rws_step (by omega) hG (fun k9 hk9 => by rw [hF20]; exact (pk_un (by omega)).trans ((hF _ (by omega)).trans rfl)) k9 q9 hk9 hq9) (by omega) _ _ _ hP hS (lv_sub hl [4, 5, 6, 7, 0, 8] rfl)
  exact loop6 (_ + 1) R 0 ((0, 0, L, fun k q => rw (3 * q + k))) f rw (by omega) (rfl) (by show 0 ≤ K; omega) (by show 0 ≤ Ko; omega) (by show L ≤ 9999; omega) (rfl) (fun _ _ => rfl) (r2) (fun _ _ _ _ => rfl) (Nat.lt_succ_self _) _ _ _ hP hS (lv_sub hl [2, 3, 4, 5, 1, 0] rfl)
