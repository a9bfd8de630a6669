/-! the law's walk: what its cases stand on -/
theorem rm_f {x : Nat} (h : x ≤ 9) : x + 1 ≤ room_1.frames := by show x + 1 ≤ 12; omega
theorem rm_l {x k : Nat} (h : x ≤ 300) (hk : k ≤ 20) : 8 + (k + 11) + x ≤ room_1.locals := by show _ ≤ 432; omega
theorem rm_c {x y : Nat} (h : x + 5 ≤ 601024) (hy : y ≤ 5) : x + y ≤ room_1.cells := by show _ ≤ 601024; omega
theorem rm_s {x y : Nat} (h : x + 65 ≤ 7293034) (hy : y ≤ 65) : x + y ≤ room_1.slots := by show _ ≤ 7293034; omega
theorem k0_of {k : Nat} (hk : k < 4) (h : nI k = 0) : k = 0 := by
  have h2 := congrArg Int32.toInt h
  rw [nI_toInt (by omega)] at h2
  have h3 : (0 : Int32).toInt = 0 := by decide
  omega
theorem lg_same {x y : Int64} (h : x = y) : lg_cmp x y = 0 := by
  subst h
  unfold lg_cmp
  rw [if_neg (by simp [Int64.lt_iff_toInt_lt]), if_pos rfl]
theorem and31 (x : Int32) : ∃ v, v < 32 ∧ x &&& nI 31 = nI v := by
  refine ⟨x.toBitVec.toNat % 32, Nat.mod_lt _ (by decide), ?_⟩
  apply Int32.toBitVec_inj.mp
  rw [Int32.toBitVec_and]
  apply BitVec.eq_of_toNat_eq
  rw [BitVec.toNat_and]
  have e1 : (nI 31).toBitVec.toNat = 2 ^ 5 - 1 := by decide
  have e2 : (nI (x.toBitVec.toNat % 32)).toBitVec.toNat = x.toBitVec.toNat % 32 := by
    show (BitVec.ofNat 32 (x.toBitVec.toNat % 32)).toNat = _
    rw [BitVec.toNat_ofNat]
    exact Nat.mod_eq_of_lt (by have := Nat.mod_lt x.toBitVec.toNat (show 0 < 32 by decide); omega)
  rw [e1, Nat.and_two_pow_sub_one_eq_mod, e2]
section LAWT
variable {p : Program} {l : Launch} {e : Env} {s : State} {m : MethodId} {below : List Frame} {meth : Method} {c0 : Code} {H : Heap} {locs : List Loc} {cells slots : Nat} {Q : State → Prop}
variable {D : va_G} {cA : Nat → ClassId} {N : Nat} {ad : Nat → Nat} {A : Nat → Prop} {pc : Nat} {ls : Array Slot} {rest : List Value} {c : Nat → va_E} {b L : Nat} {xs : Nat → Int32}
/-- an int of the script -/
theorem l_sld (C0 : Cx p s m c0 cL_law 9 RL D cA N ad (fun q => s.heap.size ≤ q)) (hX : va_X b L xs s s.heap) (hbl : b < s.heap.size) (hS : va_S (fun q => s.heap.size ≤ q) s.heap H locs) {j : Nat} (hj : j < L) (hL : L ≤ 2560) (hdg : decode cL_law pc = .ok (.iaload, 1))
    (kk : W p l e room_1 s m #[Value.ref b] below meth c0 H locs cells slots Q (F0 m (pc + 1) ls (.int (xs j) :: rest))) : W p l e room_1 s m #[Value.ref b] below meth c0 H locs cells slots Q (F0 m pc ls (.int (nI j) :: .ref b :: rest)) :=
  va_sld C0.1 C0.2.1 hX hbl (Nat.not_le.mpr hbl) hS (vp_in_nI hj (by omega)) hdg (by rw [nI_clamp (by omega)]; exact kk)
/-- the law's loop's tail, behind a case -/
def LTail (p : Program) (l : Launch) (e : Env) (s : State) (m : MethodId) (below : List Frame) (meth : Method) (c0 : Code) (Q : State → Prop) (D : va_G) (cA : Nat → ClassId) (b cells slots i B : Nat) : Prop :=
  ∀ (N n : Nat) (ad : Nat → Nat) (c : Nat → va_E) (sc : Nat → Nat → Nat) (st : Nat → Nat → Nat → Int32) (th : Int32) (nw ah rw : Nat → Int32) (fo : Nat → Int64) (fd : Nat → UInt64), Cx p s m c0 cL_law 9 RL D cA N ad (fun q => s.heap.size ≤ q) → Inv ad cA c N n sc st th nw ah rw fo fd B → ∀ (H : Heap) (locs : List Loc) (ls : Array Slot), va_P D vwCl (wl N ad c) H → va_S (fun q => s.heap.size ≤ q) s.heap H locs → lv_has ls 9 [(0, .ref b), (1, .ref (ad 0)), (2, .ref (ad 6)), (3, .ref (ad 10)), (4, .ref (ad 11)), (5, .int (nI i))] → W p l e room_1 s m #[Value.ref b] below meth c0 H locs cells slots Q (F0 m 2048 ls [])
end LAWT
set_option maxHeartbeats 1000000 in
set_option maxRecDepth 10000 in
theorem lc_addHand {p : Program} {e : Env} {s : State} {m : MethodId} {below : List Frame} {meth : Method} {c0 : Code} {H : Heap} {locs : List Loc} {ls : Array Slot} {Q : State → Prop} (l : Launch) (hfl : l.stackTraces = false) (D : va_G) (cA : Nat → ClassId) (N : Nat) (ad : Nat → Nat) (c : Nat → va_E) (b L : Nat) (xs : Nat → Int32) (n : Nat) (sc : Nat → Nat → Nat) (st : Nat → Nat → Nat → Int32) (th : Int32) (nw ah rw : Nat → Int32) (fo : Nat → Int64) (fd : Nat → UInt64) (B i cells slots : Nat) (C0 : Cx p s m c0 cL_law 9 RL D cA N ad (fun q => s.heap.size ≤ q)) (hX : va_X b L xs s s.heap) (hbl : b < s.heap.size) (hi : i + 5 ≤ L) (hL : L ≤ 2560) (hI : Inv ad cA c N n sc st th nw ah rw fo fd B) (hB : B ≤ 110000) (hc1 : cells + 5 ≤ 601024) (hs1 : slots + 65 ≤ 7293034) (hT : LTail p l e s m below meth c0 Q D cA b (cells + 5) (slots + 65) i (B + 200)) (hP : va_P D vwCl (wl N ad c) H) (hS : va_S (fun q => s.heap.size ≤ q) s.heap H locs) (hl : lv_has ls 9 [(0, .ref b), (1, .ref (ad 0)), (2, .ref (ad 6)), (3, .ref (ad 10)), (4, .ref (ad 11)), (5, .int (nI i))]) : W p l e room_1 s m #[Value.ref b] below meth c0 H locs cells slots Q (F0 m 180 ls []) := by
  have hx := C0.1
  have hb := C0.2.1
  have hN := hI.hN
  have hn5 := hI.n5
  rcases s_addHand l D cA N ad c hfl n sc st th nw ah rw fo fd B hI hB (xs (i + 1)) (xs (i + 2)) (xs (i + 3)) with ⟨rm, mc, ms, k, R1, r1, r2, r3, r4, r5, r6, r7, M, M2⟩ | ⟨rm, R1, r1, r2, r3, r4, M, M2⟩
  · skip
    refine lv_aload_n hx hb dL_law_180 rfl (lv_at hl 1 rfl) ?_
    refine lv_aload_n hx hb dL_law_181 rfl (lv_at hl 0 rfl) ?_
    refine lv_iload hx hb dL_law_182 (lv_at hl 5 rfl) ?_
    refine lv_iconst (v := nI 1) hx hb dL_law_184 rfl ?_
    refine n_iadd hx hb dL_law_185 ?_
    refine l_sld C0 hX hbl hS (j := i + 1) (by omega) hL dL_law_186 ?_
    refine lv_aload_n hx hb dL_law_187 rfl (lv_at hl 0 rfl) ?_
    refine lv_iload hx hb dL_law_188 (lv_at hl 5 rfl) ?_
    refine lv_iconst (v := nI 2) hx hb dL_law_190 rfl ?_
    refine n_iadd hx hb dL_law_191 ?_
    refine l_sld C0 hX hbl hS (j := i + 2) (by omega) hL dL_law_192 ?_
    refine lv_aload_n hx hb dL_law_193 rfl (lv_at hl 0 rfl) ?_
    refine lv_iload hx hb dL_law_194 (lv_at hl 5 rfl) ?_
    refine lv_iconst (v := nI 3) hx hb dL_law_196 rfl ?_
    refine n_iadd hx hb dL_law_197 ?_
    refine l_sld C0 hX hbl hS (j := i + 3) (by omega) hL dL_law_198 ?_
    refine lv_aload_n hx hb dL_law_199 rfl (lv_at hl 3 rfl) ?_
    refine k_i (rn_L_108 (As := [.ref (ad 0), .int (xs (i + 1)), .int (xs (i + 2)), .int (xs (i + 3)), .ref (ad 10)]) (rest := []) C0 (M _) hP hS rfl ⟨r1, r2⟩ ⟨rm_f r3, rm_l r4 (by decide)⟩ hl.1 rfl (Nat.le_of_ble_eq_true rfl) dL_law_200 ⟨rm_c hc1 (by omega), rm_s hs1 (by omega)⟩) C0 hP hS (fun v1 c1 H locs hp hP hS => ?_)
    obtain ⟨rfl, hR1⟩ := hp
    obtain ⟨⟨fs, h6⟩, rm2, R2, g1, g2, g3, g4, M2, M3⟩ := M2 _ hR1
    refine W.widen (k := cells + 5) (n := slots + 65) (by omega) (by omega) ?_
    refine lv_istore (lv' := [(6, .int (nI k)), (0, .ref b), (1, .ref (ad 0)), (2, .ref (ad 6)), (3, .ref (ad 10)), (4, .ref (ad 11)), (5, .int (nI i))]) hx hb dL_law_203 hl (by decide) rfl (fun ls hl => ?_)
    refine lv_aload_n hx hb dL_law_205 rfl (lv_at hl 3 rfl) ?_
    refine lv_aload_n hx hb dL_law_206 rfl (lv_at hl 1 rfl) ?_
    refine lv_iload hx hb dL_law_207 (lv_at hl 6 rfl) ?_
    refine lv_iconst (v := nI 1) hx hb dL_law_209 rfl ?_
    refine n_iadd hx hb dL_law_210 ?_
    refine l_sld C0 hX hbl hS (j := i + 1) (by omega) hL dL_law_211 ?_
    refine lv_aload_n hx hb dL_law_212 rfl (lv_at hl 1 rfl) ?_
    refine lv_iload hx hb dL_law_213 (lv_at hl 6 rfl) ?_
    refine lv_iconst (v := nI 2) hx hb dL_law_215 rfl ?_
    refine n_iadd hx hb dL_law_216 ?_
    refine l_sld C0 hX hbl hS (j := i + 2) (by omega) hL dL_law_217 ?_
    refine lv_aload_n hx hb dL_law_218 rfl (lv_at hl 1 rfl) ?_
    refine lv_iload hx hb dL_law_219 (lv_at hl 6 rfl) ?_
    refine lv_iconst (v := nI 3) hx hb dL_law_221 rfl ?_
    refine n_iadd hx hb dL_law_222 ?_
    refine l_sld C0 hX hbl hS (j := i + 3) (by omega) hL dL_law_223 ?_
    refine k0_i (rn_L_113 (As := [.int (xs (i + 1)), .int (xs (i + 2)), .int (xs (i + 3))]) (rest := []) (r := 6) C0 (M2 _) hP hS (by omega) h6 rfl ⟨g1, g2⟩ ⟨rm_f g3, rm_l g4 (by decide)⟩ hl.1 rfl (Nat.le_of_ble_eq_true rfl) dL_law_224 ⟨hc1, hs1⟩) C0 hP hS (fun v2 c2 H locs hp hP hS => ?_)
    obtain ⟨sc', st', nw', ah', rw', fo', hI', hk⟩ := M3 _ _ hp
    refine lv_istore (lv' := [(7, .int v2), (6, .int (nI k)), (0, .ref b), (1, .ref (ad 0)), (2, .ref (ad 6)), (3, .ref (ad 10)), (4, .ref (ad 11)), (5, .int (nI i))]) hx hb dL_law_227 hl (by decide) rfl (fun ls hl => ?_)
    refine lv_aload_n hx hb dL_law_229 rfl (lv_at hl 4 rfl) ?_
    refine k0_i (rn_L_114 (As := []) (rest := []) (r := 6) C0 (m_X2_thrown l D cA N ad c2 (nI k) n nw' ah' rw' (by omega) hI'.mo hI'.n5 _) hP hS (by omega) hI'.mo.1 rfl ⟨rfl, rfl⟩ ⟨Nat.le_of_ble_eq_true rfl, Nat.le_of_ble_eq_true rfl⟩ hl.1 rfl (Nat.le_of_ble_eq_true rfl) dL_law_230 ⟨hc1, hs1⟩) C0 hP hS (fun v3 c3 H locs hp hP hS => ?_)
    obtain ⟨rfl, rfl⟩ := hp
    refine lv_iload hx hb dL_law_233 (lv_at hl 1 rfl) ?_
    refine lv_icmp_eq (tgt := 240) hx hb dL_law_235 (by decide) (fun _ => ?_) (fun h => absurd rfl h)
    refine lv_iload hx hb dL_law_240 (lv_at hl 1 rfl) ?_
    refine lv_if_ne (tgt := 257) hx hb dL_law_242 (by decide) (fun _ => ?_) (fun h => ?_)
    · skip
      refine lv_goto (tgt := 2048) hx hb dL_law_257 (by decide) ?_
      exact hT N n ad c2 sc' st' (nI k) nw' ah' rw' fo' fd C0 hI' _ _ _ hP hS (lv_sub hl [2, 3, 4, 5, 6, 7] rfl)
    · skip
      refine lv_aload_n hx hb dL_law_245 rfl (lv_at hl 5 rfl) ?_
      refine lv_iconst (v := nI 0) hx hb dL_law_246 rfl ?_
      refine a_lld C0 hP (r := 10) (by omega) hI'.out (by decide) (by decide) dL_law_247 ?_
      refine lv_iload hx hb dL_law_248 (lv_at hl 0 rfl) ?_
      refine lv_i2l (v := v2.toInt64) hx hb dL_law_250 rfl ?_
      refine W.lcmp hx hb dL_law_251 ?_
      rw [lg_same (hk (k0_of r7 h))]
      refine lv_if_eq (tgt := 257) hx hb dL_law_252 (by decide) (fun _ => ?_) (fun h => absurd rfl h)
      refine lv_goto (tgt := 2048) hx hb dL_law_257 (by decide) ?_
      exact hT N n ad c2 sc' st' (nI k) nw' ah' rw' fo' fd C0 hI' _ _ _ hP hS (lv_sub hl [2, 3, 4, 5, 6, 7] rfl)
  · skip
    refine lv_aload_n hx hb dL_law_180 rfl (lv_at hl 1 rfl) ?_
    refine lv_aload_n hx hb dL_law_181 rfl (lv_at hl 0 rfl) ?_
    refine lv_iload hx hb dL_law_182 (lv_at hl 5 rfl) ?_
    refine lv_iconst (v := nI 1) hx hb dL_law_184 rfl ?_
    refine n_iadd hx hb dL_law_185 ?_
    refine l_sld C0 hX hbl hS (j := i + 1) (by omega) hL dL_law_186 ?_
    refine lv_aload_n hx hb dL_law_187 rfl (lv_at hl 0 rfl) ?_
    refine lv_iload hx hb dL_law_188 (lv_at hl 5 rfl) ?_
    refine lv_iconst (v := nI 2) hx hb dL_law_190 rfl ?_
    refine n_iadd hx hb dL_law_191 ?_
    refine l_sld C0 hX hbl hS (j := i + 2) (by omega) hL dL_law_192 ?_
    refine lv_aload_n hx hb dL_law_193 rfl (lv_at hl 0 rfl) ?_
    refine lv_iload hx hb dL_law_194 (lv_at hl 5 rfl) ?_
    refine lv_iconst (v := nI 3) hx hb dL_law_196 rfl ?_
    refine n_iadd hx hb dL_law_197 ?_
    refine l_sld C0 hX hbl hS (j := i + 3) (by omega) hL dL_law_198 ?_
    refine lv_aload_n hx hb dL_law_199 rfl (lv_at hl 3 rfl) ?_
    refine k_gi (rn_L_108 (As := [.ref (ad 0), .int (xs (i + 1)), .int (xs (i + 2)), .int (xs (i + 3)), .ref (ad 10)]) (rest := []) C0 (M _) hP hS rfl ⟨r1, r2⟩ ⟨rm_f r3, rm_l r4 (by decide)⟩ hl.1 rfl (Nat.le_of_ble_eq_true rfl) dL_law_200 ⟨rm_c hc1 (by omega), rm_s hs1 (by omega)⟩) C0 hP hS (fun v1 ad' c1 H locs hp C0 hP hS => ?_)
    obtain ⟨rfl, hR1⟩ := hp
    obtain ⟨had, ⟨fs, h6⟩, rm2, R2, g1, g2, g3, g4, M2, M3⟩ := M2 _ hR1
    dsimp only at had h6 M2 M3
    rw [← had 0 (by omega), ← had 6 (by omega), ← had 10 (by omega), ← had 11 (by omega)] at hl
    refine W.widen (k := cells + 5) (n := slots + 65) (by omega) (by omega) ?_
    refine lv_istore (lv' := [(6, .int (nI 0)), (0, .ref b), (1, .ref (ad' 0)), (2, .ref (ad' 6)), (3, .ref (ad' 10)), (4, .ref (ad' 11)), (5, .int (nI i))]) hx hb dL_law_203 hl (by decide) rfl (fun ls hl => ?_)
    refine lv_aload_n hx hb dL_law_205 rfl (lv_at hl 3 rfl) ?_
    refine lv_aload_n hx hb dL_law_206 rfl (lv_at hl 1 rfl) ?_
    refine lv_iload hx hb dL_law_207 (lv_at hl 6 rfl) ?_
    refine lv_iconst (v := nI 1) hx hb dL_law_209 rfl ?_
    refine n_iadd hx hb dL_law_210 ?_
    refine l_sld C0 hX hbl hS (j := i + 1) (by omega) hL dL_law_211 ?_
    refine lv_aload_n hx hb dL_law_212 rfl (lv_at hl 1 rfl) ?_
    refine lv_iload hx hb dL_law_213 (lv_at hl 6 rfl) ?_
    refine lv_iconst (v := nI 2) hx hb dL_law_215 rfl ?_
    refine n_iadd hx hb dL_law_216 ?_
    refine l_sld C0 hX hbl hS (j := i + 2) (by omega) hL dL_law_217 ?_
    refine lv_aload_n hx hb dL_law_218 rfl (lv_at hl 1 rfl) ?_
    refine lv_iload hx hb dL_law_219 (lv_at hl 6 rfl) ?_
    refine lv_iconst (v := nI 3) hx hb dL_law_221 rfl ?_
    refine n_iadd hx hb dL_law_222 ?_
    refine l_sld C0 hX hbl hS (j := i + 3) (by omega) hL dL_law_223 ?_
    refine k0_i (rn_L_113 (As := [.int (xs (i + 1)), .int (xs (i + 2)), .int (xs (i + 3))]) (rest := []) (r := 6) C0 (M2 _) hP hS (by omega) h6 rfl ⟨g1, g2⟩ ⟨rm_f g3, rm_l g4 (by decide)⟩ hl.1 rfl (Nat.le_of_ble_eq_true rfl) dL_law_224 ⟨hc1, hs1⟩) C0 hP hS (fun v2 c2 H locs hp hP hS => ?_)
    obtain ⟨sc', st', nw', ah', rw', fo', hI', hk⟩ := M3 _ _ hp
    refine lv_istore (lv' := [(7, .int v2), (6, .int (nI 0)), (0, .ref b), (1, .ref (ad' 0)), (2, .ref (ad' 6)), (3, .ref (ad' 10)), (4, .ref (ad' 11)), (5, .int (nI i))]) hx hb dL_law_227 hl (by decide) rfl (fun ls hl => ?_)
    refine lv_aload_n hx hb dL_law_229 rfl (lv_at hl 4 rfl) ?_
    refine k0_i (rn_L_114 (As := []) (rest := []) (r := 6) C0 (m_X2_thrown l D cA (N + 4) ad' c2 (nI 0) (n + 1) nw' ah' rw' (by omega) hI'.mo hI'.n5 _) hP hS (by omega) hI'.mo.1 rfl ⟨rfl, rfl⟩ ⟨Nat.le_of_ble_eq_true rfl, Nat.le_of_ble_eq_true rfl⟩ hl.1 rfl (Nat.le_of_ble_eq_true rfl) dL_law_230 ⟨hc1, hs1⟩) C0 hP hS (fun v3 c3 H locs hp hP hS => ?_)
    obtain ⟨rfl, rfl⟩ := hp
    refine lv_iload hx hb dL_law_233 (lv_at hl 1 rfl) ?_
    refine lv_icmp_eq (tgt := 240) hx hb dL_law_235 (by decide) (fun _ => ?_) (fun h => absurd rfl h)
    refine lv_iload hx hb dL_law_240 (lv_at hl 1 rfl) ?_
    refine lv_if_ne (tgt := 257) hx hb dL_law_242 (by decide) (fun h => absurd rfl h) (fun _ => ?_)
    refine lv_aload_n hx hb dL_law_245 rfl (lv_at hl 5 rfl) ?_
    refine lv_iconst (v := nI 0) hx hb dL_law_246 rfl ?_
    refine a_lld C0 hP (r := 10) (by omega) hI'.out (by decide) (by decide) dL_law_247 ?_
    refine lv_iload hx hb dL_law_248 (lv_at hl 0 rfl) ?_
    refine lv_i2l (v := v2.toInt64) hx hb dL_law_250 rfl ?_
    refine W.lcmp hx hb dL_law_251 ?_
    rw [lg_same hk]
    refine lv_if_eq (tgt := 257) hx hb dL_law_252 (by decide) (fun _ => ?_) (fun h => absurd rfl h)
    refine lv_goto (tgt := 2048) hx hb dL_law_257 (by decide) ?_
    exact hT (N + 4) (n + 1) ad' c2 sc' st' (nI 0) nw' ah' rw' fo' fd C0 hI' _ _ _ hP hS (lv_sub hl [2, 3, 4, 5, 6, 7] rfl)
set_option maxHeartbeats 1000000 in
set_option maxRecDepth 10000 in
theorem lc_offer {p : Program} {e : Env} {s : State} {m : MethodId} {below : List Frame} {meth : Method} {c0 : Code} {H : Heap} {locs : List Loc} {ls : Array Slot} {Q : State → Prop} (l : Launch) (hfl : l.stackTraces = false) (D : va_G) (cA : Nat → ClassId) (N : Nat) (ad : Nat → Nat) (c : Nat → va_E) (b L : Nat) (xs : Nat → Int32) (n : Nat) (sc : Nat → Nat → Nat) (st : Nat → Nat → Nat → Int32) (th : Int32) (nw ah rw : Nat → Int32) (fo : Nat → Int64) (fd : Nat → UInt64) (B i cells slots : Nat) (C0 : Cx p s m c0 cL_law 9 RL D cA N ad (fun q => s.heap.size ≤ q)) (hX : va_X b L xs s s.heap) (hbl : b < s.heap.size) (hi : i + 5 ≤ L) (hL : L ≤ 2560) (hI : Inv ad cA c N n sc st th nw ah rw fo fd B) (hB : B ≤ 110000) (hc1 : cells + 5 ≤ 601024) (hs1 : slots + 65 ≤ 7293034) (hT : LTail p l e s m below meth c0 Q D cA b (cells + 5) (slots + 65) i (B + 200)) (hP : va_P D vwCl (wl N ad c) H) (hS : va_S (fun q => s.heap.size ≤ q) s.heap H locs) (hl : lv_has ls 9 [(0, .ref b), (1, .ref (ad 0)), (2, .ref (ad 6)), (3, .ref (ad 10)), (4, .ref (ad 11)), (5, .int (nI i))]) : W p l e room_1 s m #[Value.ref b] below meth c0 H locs cells slots Q (F0 m 260 ls []) := by
  have hx := C0.1
  have hb := C0.2.1
  have hN := hI.hN
  have hn5 := hI.n5
  obtain ⟨rm, mc, ms, k, R1, r1, r2, r3, r4, r5, r6, r7, M, M2⟩ := s_offer l D cA N ad c hfl n sc st th nw ah rw fo fd B hI hB (xs (i + 1)) (xs (i + 2)) (xs (i + 3))
  refine lv_aload_n hx hb dL_law_260 rfl (lv_at hl 1 rfl) ?_
  refine lv_aload_n hx hb dL_law_261 rfl (lv_at hl 0 rfl) ?_
  refine lv_iload hx hb dL_law_262 (lv_at hl 5 rfl) ?_
  refine lv_iconst (v := nI 1) hx hb dL_law_264 rfl ?_
  refine n_iadd hx hb dL_law_265 ?_
  refine l_sld C0 hX hbl hS (j := i + 1) (by omega) hL dL_law_266 ?_
  refine lv_aload_n hx hb dL_law_267 rfl (lv_at hl 0 rfl) ?_
  refine lv_iload hx hb dL_law_268 (lv_at hl 5 rfl) ?_
  refine lv_iconst (v := nI 2) hx hb dL_law_270 rfl ?_
  refine n_iadd hx hb dL_law_271 ?_
  refine l_sld C0 hX hbl hS (j := i + 2) (by omega) hL dL_law_272 ?_
  refine lv_aload_n hx hb dL_law_273 rfl (lv_at hl 0 rfl) ?_
  refine lv_iload hx hb dL_law_274 (lv_at hl 5 rfl) ?_
  refine lv_iconst (v := nI 3) hx hb dL_law_276 rfl ?_
  refine n_iadd hx hb dL_law_277 ?_
  refine l_sld C0 hX hbl hS (j := i + 3) (by omega) hL dL_law_278 ?_
  refine lv_aload_n hx hb dL_law_279 rfl (lv_at hl 3 rfl) ?_
  refine k_i (rn_L_118 (As := [.ref (ad 0), .int (xs (i + 1)), .int (xs (i + 2)), .int (xs (i + 3)), .ref (ad 10)]) (rest := []) C0 (M _) hP hS rfl ⟨r1, r2⟩ ⟨rm_f r3, rm_l r4 (by decide)⟩ hl.1 rfl (Nat.le_of_ble_eq_true rfl) dL_law_280 ⟨rm_c hc1 (by omega), rm_s hs1 (by omega)⟩) C0 hP hS (fun v1 c1 H locs hp hP hS => ?_)
  obtain ⟨rfl, hR1⟩ := hp
  obtain ⟨⟨fs, h6⟩, rm2, R2, g1, g2, g3, g4, M2, M3⟩ := M2 _ hR1
  refine W.widen (k := cells + 5) (n := slots + 65) (by omega) (by omega) ?_
  refine lv_istore (lv' := [(6, .int (nI k)), (0, .ref b), (1, .ref (ad 0)), (2, .ref (ad 6)), (3, .ref (ad 10)), (4, .ref (ad 11)), (5, .int (nI i))]) hx hb dL_law_283 hl (by decide) rfl (fun ls hl => ?_)
  refine lv_aload_n hx hb dL_law_285 rfl (lv_at hl 3 rfl) ?_
  refine lv_aload_n hx hb dL_law_286 rfl (lv_at hl 1 rfl) ?_
  refine lv_iload hx hb dL_law_287 (lv_at hl 6 rfl) ?_
  refine lv_iconst (v := nI 1) hx hb dL_law_289 rfl ?_
  refine n_iadd hx hb dL_law_290 ?_
  refine l_sld C0 hX hbl hS (j := i + 1) (by omega) hL dL_law_291 ?_
  refine lv_aload_n hx hb dL_law_292 rfl (lv_at hl 1 rfl) ?_
  refine lv_iload hx hb dL_law_293 (lv_at hl 6 rfl) ?_
  refine lv_iconst (v := nI 2) hx hb dL_law_295 rfl ?_
  refine n_iadd hx hb dL_law_296 ?_
  refine l_sld C0 hX hbl hS (j := i + 2) (by omega) hL dL_law_297 ?_
  refine lv_aload_n hx hb dL_law_298 rfl (lv_at hl 1 rfl) ?_
  refine lv_iload hx hb dL_law_299 (lv_at hl 6 rfl) ?_
  refine lv_iconst (v := nI 3) hx hb dL_law_301 rfl ?_
  refine n_iadd hx hb dL_law_302 ?_
  refine l_sld C0 hX hbl hS (j := i + 3) (by omega) hL dL_law_303 ?_
  refine k0_i (rn_L_120 (As := [.int (xs (i + 1)), .int (xs (i + 2)), .int (xs (i + 3))]) (rest := []) (r := 6) C0 (M2 _) hP hS (by omega) h6 rfl ⟨g1, g2⟩ ⟨rm_f g3, rm_l g4 (by decide)⟩ hl.1 rfl (Nat.le_of_ble_eq_true rfl) dL_law_304 ⟨hc1, hs1⟩) C0 hP hS (fun v2 c2 H locs hp hP hS => ?_)
  obtain ⟨sc', st', nw', ah', rw', fo', hI', hk⟩ := M3 _ _ hp
  refine lv_istore (lv' := [(7, .int v2), (6, .int (nI k)), (0, .ref b), (1, .ref (ad 0)), (2, .ref (ad 6)), (3, .ref (ad 10)), (4, .ref (ad 11)), (5, .int (nI i))]) hx hb dL_law_307 hl (by decide) rfl (fun ls hl => ?_)
  refine lv_aload_n hx hb dL_law_309 rfl (lv_at hl 4 rfl) ?_
  refine k0_i (rn_L_114 (As := []) (rest := []) (r := 6) C0 (m_X2_thrown l D cA N ad c2 (nI k) n nw' ah' rw' (by omega) hI'.mo hI'.n5 _) hP hS (by omega) hI'.mo.1 rfl ⟨rfl, rfl⟩ ⟨Nat.le_of_ble_eq_true rfl, Nat.le_of_ble_eq_true rfl⟩ hl.1 rfl (Nat.le_of_ble_eq_true rfl) dL_law_310 ⟨hc1, hs1⟩) C0 hP hS (fun v3 c3 H locs hp hP hS => ?_)
  obtain ⟨rfl, rfl⟩ := hp
  refine lv_iload hx hb dL_law_313 (lv_at hl 1 rfl) ?_
  refine lv_icmp_eq (tgt := 320) hx hb dL_law_315 (by decide) (fun _ => ?_) (fun h => absurd rfl h)
  refine lv_iload hx hb dL_law_320 (lv_at hl 1 rfl) ?_
  refine lv_if_ne (tgt := 337) hx hb dL_law_322 (by decide) (fun _ => ?_) (fun h => ?_)
  · skip
    refine lv_goto (tgt := 2048) hx hb dL_law_337 (by decide) ?_
    exact hT N n ad c2 sc' st' (nI k) nw' ah' rw' fo' fd C0 hI' _ _ _ hP hS (lv_sub hl [2, 3, 4, 5, 6, 7] rfl)
  · skip
    refine lv_aload_n hx hb dL_law_325 rfl (lv_at hl 5 rfl) ?_
    refine lv_iconst (v := nI 0) hx hb dL_law_326 rfl ?_
    refine a_lld C0 hP (r := 10) (by omega) hI'.out (by decide) (by decide) dL_law_327 ?_
    refine lv_iload hx hb dL_law_328 (lv_at hl 0 rfl) ?_
    refine lv_i2l (v := v2.toInt64) hx hb dL_law_330 rfl ?_
    refine W.lcmp hx hb dL_law_331 ?_
    rw [lg_same (hk (k0_of r7 h))]
    refine lv_if_eq (tgt := 337) hx hb dL_law_332 (by decide) (fun _ => ?_) (fun h => absurd rfl h)
    refine lv_goto (tgt := 2048) hx hb dL_law_337 (by decide) ?_
    exact hT N n ad c2 sc' st' (nI k) nw' ah' rw' fo' fd C0 hI' _ _ _ hP hS (lv_sub hl [2, 3, 4, 5, 6, 7] rfl)
set_option maxHeartbeats 1000000 in
set_option maxRecDepth 10000 in
theorem lc_offerRow {p : Program} {e : Env} {s : State} {m : MethodId} {below : List Frame} {meth : Method} {c0 : Code} {H : Heap} {locs : List Loc} {ls : Array Slot} {Q : State → Prop} (l : Launch) (hfl : l.stackTraces = false) (D : va_G) (cA : Nat → ClassId) (N : Nat) (ad : Nat → Nat) (c : Nat → va_E) (b L : Nat) (xs : Nat → Int32) (n : Nat) (sc : Nat → Nat → Nat) (st : Nat → Nat → Nat → Int32) (th : Int32) (nw ah rw : Nat → Int32) (fo : Nat → Int64) (fd : Nat → UInt64) (B i cells slots : Nat) (C0 : Cx p s m c0 cL_law 9 RL D cA N ad (fun q => s.heap.size ≤ q)) (hX : va_X b L xs s s.heap) (hbl : b < s.heap.size) (hi : i + 5 ≤ L) (hL : L ≤ 2560) (hI : Inv ad cA c N n sc st th nw ah rw fo fd B) (hB : B ≤ 110000) (hc1 : cells + 5 ≤ 601024) (hs1 : slots + 65 ≤ 7293034) (hT : LTail p l e s m below meth c0 Q D cA b (cells + 5) (slots + 65) i (B + 200)) (hP : va_P D vwCl (wl N ad c) H) (hS : va_S (fun q => s.heap.size ≤ q) s.heap H locs) (hl : lv_has ls 9 [(0, .ref b), (1, .ref (ad 0)), (2, .ref (ad 6)), (3, .ref (ad 10)), (4, .ref (ad 11)), (5, .int (nI i))]) : W p l e room_1 s m #[Value.ref b] below meth c0 H locs cells slots Q (F0 m 340 ls []) := by
  have hx := C0.1
  have hb := C0.2.1
  have hN := hI.hN
  have hn5 := hI.n5
  obtain ⟨rm, mc, ms, k, R1, r1, r2, r3, r4, r5, r6, r7, M, M2⟩ := s_offerRow l D cA N ad c hfl n sc st th nw ah rw fo fd B hI hB (xs (i + 1)) (xs (i + 2)) (xs (i + 3)) (xs (i + 4))
  refine lv_aload_n hx hb dL_law_340 rfl (lv_at hl 1 rfl) ?_
  refine lv_aload_n hx hb dL_law_341 rfl (lv_at hl 0 rfl) ?_
  refine lv_iload hx hb dL_law_342 (lv_at hl 5 rfl) ?_
  refine lv_iconst (v := nI 1) hx hb dL_law_344 rfl ?_
  refine n_iadd hx hb dL_law_345 ?_
  refine l_sld C0 hX hbl hS (j := i + 1) (by omega) hL dL_law_346 ?_
  refine lv_aload_n hx hb dL_law_347 rfl (lv_at hl 0 rfl) ?_
  refine lv_iload hx hb dL_law_348 (lv_at hl 5 rfl) ?_
  refine lv_iconst (v := nI 2) hx hb dL_law_350 rfl ?_
  refine n_iadd hx hb dL_law_351 ?_
  refine l_sld C0 hX hbl hS (j := i + 2) (by omega) hL dL_law_352 ?_
  refine lv_aload_n hx hb dL_law_353 rfl (lv_at hl 0 rfl) ?_
  refine lv_iload hx hb dL_law_354 (lv_at hl 5 rfl) ?_
  refine lv_iconst (v := nI 3) hx hb dL_law_356 rfl ?_
  refine n_iadd hx hb dL_law_357 ?_
  refine l_sld C0 hX hbl hS (j := i + 3) (by omega) hL dL_law_358 ?_
  refine lv_aload_n hx hb dL_law_359 rfl (lv_at hl 0 rfl) ?_
  refine lv_iload hx hb dL_law_360 (lv_at hl 5 rfl) ?_
  refine lv_iconst (v := nI 4) hx hb dL_law_362 rfl ?_
  refine n_iadd hx hb dL_law_363 ?_
  refine l_sld C0 hX hbl hS (j := i + 4) (by omega) hL dL_law_364 ?_
  refine lv_aload_n hx hb dL_law_365 rfl (lv_at hl 3 rfl) ?_
  refine k_i (rn_L_121 (As := [.ref (ad 0), .int (xs (i + 1)), .int (xs (i + 2)), .int (xs (i + 3)), .int (xs (i + 4)), .ref (ad 10)]) (rest := []) C0 (M _) hP hS rfl ⟨r1, r2⟩ ⟨rm_f r3, rm_l r4 (by decide)⟩ hl.1 rfl (Nat.le_of_ble_eq_true rfl) dL_law_366 ⟨rm_c hc1 (by omega), rm_s hs1 (by omega)⟩) C0 hP hS (fun v1 c1 H locs hp hP hS => ?_)
  obtain ⟨rfl, hR1⟩ := hp
  obtain ⟨⟨fs, h6⟩, rm2, R2, g1, g2, g3, g4, M2, M3⟩ := M2 _ hR1
  refine W.widen (k := cells + 5) (n := slots + 65) (by omega) (by omega) ?_
  refine lv_istore (lv' := [(6, .int (nI k)), (0, .ref b), (1, .ref (ad 0)), (2, .ref (ad 6)), (3, .ref (ad 10)), (4, .ref (ad 11)), (5, .int (nI i))]) hx hb dL_law_369 hl (by decide) rfl (fun ls hl => ?_)
  refine lv_aload_n hx hb dL_law_371 rfl (lv_at hl 3 rfl) ?_
  refine lv_aload_n hx hb dL_law_372 rfl (lv_at hl 1 rfl) ?_
  refine lv_iload hx hb dL_law_373 (lv_at hl 6 rfl) ?_
  refine lv_iconst (v := nI 1) hx hb dL_law_375 rfl ?_
  refine n_iadd hx hb dL_law_376 ?_
  refine l_sld C0 hX hbl hS (j := i + 1) (by omega) hL dL_law_377 ?_
  refine lv_aload_n hx hb dL_law_378 rfl (lv_at hl 1 rfl) ?_
  refine lv_iload hx hb dL_law_379 (lv_at hl 6 rfl) ?_
  refine lv_iconst (v := nI 2) hx hb dL_law_381 rfl ?_
  refine n_iadd hx hb dL_law_382 ?_
  refine l_sld C0 hX hbl hS (j := i + 2) (by omega) hL dL_law_383 ?_
  refine lv_aload_n hx hb dL_law_384 rfl (lv_at hl 1 rfl) ?_
  refine lv_iload hx hb dL_law_385 (lv_at hl 6 rfl) ?_
  refine lv_iconst (v := nI 3) hx hb dL_law_387 rfl ?_
  refine n_iadd hx hb dL_law_388 ?_
  refine l_sld C0 hX hbl hS (j := i + 3) (by omega) hL dL_law_389 ?_
  refine lv_aload_n hx hb dL_law_390 rfl (lv_at hl 1 rfl) ?_
  refine lv_iload hx hb dL_law_391 (lv_at hl 6 rfl) ?_
  refine lv_iconst (v := nI 4) hx hb dL_law_393 rfl ?_
  refine n_iadd hx hb dL_law_394 ?_
  refine l_sld C0 hX hbl hS (j := i + 4) (by omega) hL dL_law_395 ?_
  refine k0_i (rn_L_124 (As := [.int (xs (i + 1)), .int (xs (i + 2)), .int (xs (i + 3)), .int (xs (i + 4))]) (rest := []) (r := 6) C0 (M2 _) hP hS (by omega) h6 rfl ⟨g1, g2⟩ ⟨rm_f g3, rm_l g4 (by decide)⟩ hl.1 rfl (Nat.le_of_ble_eq_true rfl) dL_law_396 ⟨hc1, hs1⟩) C0 hP hS (fun v2 c2 H locs hp hP hS => ?_)
  obtain ⟨sc', st', nw', ah', rw', fo', hI', hk⟩ := M3 _ _ hp
  refine lv_istore (lv' := [(7, .int v2), (6, .int (nI k)), (0, .ref b), (1, .ref (ad 0)), (2, .ref (ad 6)), (3, .ref (ad 10)), (4, .ref (ad 11)), (5, .int (nI i))]) hx hb dL_law_399 hl (by decide) rfl (fun ls hl => ?_)
  refine lv_aload_n hx hb dL_law_401 rfl (lv_at hl 4 rfl) ?_
  refine k0_i (rn_L_114 (As := []) (rest := []) (r := 6) C0 (m_X2_thrown l D cA N ad c2 (nI k) n nw' ah' rw' (by omega) hI'.mo hI'.n5 _) hP hS (by omega) hI'.mo.1 rfl ⟨rfl, rfl⟩ ⟨Nat.le_of_ble_eq_true rfl, Nat.le_of_ble_eq_true rfl⟩ hl.1 rfl (Nat.le_of_ble_eq_true rfl) dL_law_402 ⟨hc1, hs1⟩) C0 hP hS (fun v3 c3 H locs hp hP hS => ?_)
  obtain ⟨rfl, rfl⟩ := hp
  refine lv_iload hx hb dL_law_405 (lv_at hl 1 rfl) ?_
  refine lv_icmp_eq (tgt := 412) hx hb dL_law_407 (by decide) (fun _ => ?_) (fun h => absurd rfl h)
  refine lv_iload hx hb dL_law_412 (lv_at hl 1 rfl) ?_
  refine lv_if_ne (tgt := 429) hx hb dL_law_414 (by decide) (fun _ => ?_) (fun h => ?_)
  · skip
    refine lv_goto (tgt := 2048) hx hb dL_law_429 (by decide) ?_
    exact hT N n ad c2 sc' st' (nI k) nw' ah' rw' fo' fd C0 hI' _ _ _ hP hS (lv_sub hl [2, 3, 4, 5, 6, 7] rfl)
  · skip
    refine lv_aload_n hx hb dL_law_417 rfl (lv_at hl 5 rfl) ?_
    refine lv_iconst (v := nI 0) hx hb dL_law_418 rfl ?_
    refine a_lld C0 hP (r := 10) (by omega) hI'.out (by decide) (by decide) dL_law_419 ?_
    refine lv_iload hx hb dL_law_420 (lv_at hl 0 rfl) ?_
    refine lv_i2l (v := v2.toInt64) hx hb dL_law_422 rfl ?_
    refine W.lcmp hx hb dL_law_423 ?_
    rw [lg_same (hk (k0_of r7 h))]
    refine lv_if_eq (tgt := 429) hx hb dL_law_424 (by decide) (fun _ => ?_) (fun h => absurd rfl h)
    refine lv_goto (tgt := 2048) hx hb dL_law_429 (by decide) ?_
    exact hT N n ad c2 sc' st' (nI k) nw' ah' rw' fo' fd C0 hI' _ _ _ hP hS (lv_sub hl [2, 3, 4, 5, 6, 7] rfl)
set_option maxHeartbeats 1000000 in
set_option maxRecDepth 10000 in
theorem lc_hands {p : Program} {e : Env} {s : State} {m : MethodId} {below : List Frame} {meth : Method} {c0 : Code} {H : Heap} {locs : List Loc} {ls : Array Slot} {Q : State → Prop} (l : Launch) (hfl : l.stackTraces = false) (D : va_G) (cA : Nat → ClassId) (N : Nat) (ad : Nat → Nat) (c : Nat → va_E) (b L : Nat) (xs : Nat → Int32) (n : Nat) (sc : Nat → Nat → Nat) (st : Nat → Nat → Nat → Int32) (th : Int32) (nw ah rw : Nat → Int32) (fo : Nat → Int64) (fd : Nat → UInt64) (B i cells slots : Nat) (C0 : Cx p s m c0 cL_law 9 RL D cA N ad (fun q => s.heap.size ≤ q)) (hX : va_X b L xs s s.heap) (hbl : b < s.heap.size) (hi : i + 5 ≤ L) (hL : L ≤ 2560) (hI : Inv ad cA c N n sc st th nw ah rw fo fd B) (hB : B ≤ 110000) (hc1 : cells + 5 ≤ 601024) (hs1 : slots + 65 ≤ 7293034) (hT : LTail p l e s m below meth c0 Q D cA b (cells + 5) (slots + 65) i (B + 200)) (hP : va_P D vwCl (wl N ad c) H) (hS : va_S (fun q => s.heap.size ≤ q) s.heap H locs) (hl : lv_has ls 9 [(0, .ref b), (1, .ref (ad 0)), (2, .ref (ad 6)), (3, .ref (ad 10)), (4, .ref (ad 11)), (5, .int (nI i))]) : W p l e room_1 s m #[Value.ref b] below meth c0 H locs cells slots Q (F0 m 624 ls []) := by
  have hx := C0.1
  have hb := C0.2.1
  have hN := hI.hN
  have hn5 := hI.n5
  refine lv_aload_n hx hb dL_law_624 rfl (lv_at hl 1 rfl) ?_
  refine k0_i (rn_L_136 (As := []) (rest := []) (r := 0) C0 (m_X1_hands l D cA N ad c n (by omega) hI.fh _) hP hS (by omega) hI.fh.1 rfl ⟨rfl, rfl⟩ ⟨Nat.le_of_ble_eq_true rfl, Nat.le_of_ble_eq_true rfl⟩ hl.1 rfl (Nat.le_of_ble_eq_true rfl) dL_law_625 ⟨rm_c hc1 (by decide), rm_s hs1 (by decide)⟩) C0 hP hS (fun v1 c1 H locs hp hP hS => ?_)
  obtain ⟨rfl, rfl⟩ := hp
  refine lv_aload_n hx hb dL_law_628 rfl (lv_at hl 2 rfl) ?_
  refine k0_i (rn_L_139 (As := []) (rest := [.int (nI n)]) (r := 6) C0 (m_X2_hands l D cA N ad c th n nw ah rw (by omega) hI.mo hn5 _) hP hS (by omega) hI.mo.1 rfl ⟨rfl, rfl⟩ ⟨Nat.le_of_ble_eq_true rfl, Nat.le_of_ble_eq_true rfl⟩ hl.1 rfl (Nat.le_of_ble_eq_true rfl) dL_law_629 ⟨rm_c hc1 (by decide), rm_s hs1 (by decide)⟩) C0 hP hS (fun v2 c2 H locs hp hP hS => ?_)
  obtain ⟨rfl, rfl⟩ := hp
  refine lv_icmp_eq (tgt := 2048) hx hb dL_law_632 (by decide) (fun _ => ?_) (fun h => absurd rfl h)
  refine W.widen (k := cells + 5) (n := slots + 65) (by omega) (by omega) ?_
  exact hT N n ad _ sc st _ nw ah rw fo fd C0 (hI.mod.up (by omega)) _ _ _ hP hS hl
set_option maxHeartbeats 1000000 in
set_option maxRecDepth 10000 in
theorem lc_meanValue {p : Program} {e : Env} {s : State} {m : MethodId} {below : List Frame} {meth : Method} {c0 : Code} {H : Heap} {locs : List Loc} {ls : Array Slot} {Q : State → Prop} (l : Launch) (hfl : l.stackTraces = false) (D : va_G) (cA : Nat → ClassId) (N : Nat) (ad : Nat → Nat) (c : Nat → va_E) (b L : Nat) (xs : Nat → Int32) (n : Nat) (sc : Nat → Nat → Nat) (st : Nat → Nat → Nat → Int32) (th : Int32) (nw ah rw : Nat → Int32) (fo : Nat → Int64) (fd : Nat → UInt64) (B i cells slots : Nat) (C0 : Cx p s m c0 cL_law 9 RL D cA N ad (fun q => s.heap.size ≤ q)) (hX : va_X b L xs s s.heap) (hbl : b < s.heap.size) (hi : i + 5 ≤ L) (hL : L ≤ 2560) (hI : Inv ad cA c N n sc st th nw ah rw fo fd B) (hB : B ≤ 110000) (hc1 : cells + 5 ≤ 601024) (hs1 : slots + 65 ≤ 7293034) (hT : LTail p l e s m below meth c0 Q D cA b (cells + 5) (slots + 65) i (B + 200)) (hP : va_P D vwCl (wl N ad c) H) (hS : va_S (fun q => s.heap.size ≤ q) s.heap H locs) (hl : lv_has ls 9 [(0, .ref b), (1, .ref (ad 0)), (2, .ref (ad 6)), (3, .ref (ad 10)), (4, .ref (ad 11)), (5, .int (nI i))]) : W p l e room_1 s m #[Value.ref b] below meth c0 H locs cells slots Q (F0 m 1957 ls []) := by
  have hx := C0.1
  have hb := C0.2.1
  have hN := hI.hN
  have hn5 := hI.n5
  obtain ⟨rm, mc, ms, k, R1, r1, r2, r3, r4, r5, r6, r7, M, M2⟩ := s_meanValue l D cA N ad c hfl n sc st th nw ah rw fo fd B hI hB (xs (i + 1))
  refine lv_aload_n hx hb dL_law_1957 rfl (lv_at hl 1 rfl) ?_
  refine lv_aload_n hx hb dL_law_1958 rfl (lv_at hl 0 rfl) ?_
  refine lv_iload hx hb dL_law_1959 (lv_at hl 5 rfl) ?_
  refine lv_iconst (v := nI 1) hx hb dL_law_1961 rfl ?_
  refine n_iadd hx hb dL_law_1962 ?_
  refine l_sld C0 hX hbl hS (j := i + 1) (by omega) hL dL_law_1963 ?_
  refine lv_aload hx hb dL_law_1964 (lv_at hl 4 rfl) ?_
  refine k_i (rn_L_203 (As := [.ref (ad 0), .int (xs (i + 1)), .ref (ad 11)]) (rest := []) C0 (M _) hP hS rfl ⟨r1, r2⟩ ⟨rm_f r3, rm_l r4 (by decide)⟩ hl.1 rfl (Nat.le_of_ble_eq_true rfl) dL_law_1966 ⟨rm_c hc1 (by omega), rm_s hs1 (by omega)⟩) C0 hP hS (fun v1 c1 H locs hp hP hS => ?_)
  obtain ⟨rfl, hR1⟩ := hp
  obtain ⟨⟨fs, h6⟩, rm2, R2, g1, g2, g3, g4, M2, M3⟩ := M2 _ hR1
  refine W.widen (k := cells + 5) (n := slots + 65) (by omega) (by omega) ?_
  refine lv_istore (lv' := [(6, .int (nI k)), (0, .ref b), (1, .ref (ad 0)), (2, .ref (ad 6)), (3, .ref (ad 10)), (4, .ref (ad 11)), (5, .int (nI i))]) hx hb dL_law_1969 hl (by decide) rfl (fun ls hl => ?_)
  refine lv_aload_n hx hb dL_law_1971 rfl (lv_at hl 3 rfl) ?_
  refine lv_aload_n hx hb dL_law_1972 rfl (lv_at hl 1 rfl) ?_
  refine lv_iload hx hb dL_law_1973 (lv_at hl 6 rfl) ?_
  refine lv_iconst (v := nI 1) hx hb dL_law_1975 rfl ?_
  refine n_iadd hx hb dL_law_1976 ?_
  refine l_sld C0 hX hbl hS (j := i + 1) (by omega) hL dL_law_1977 ?_
  refine k0_d (rn_L_206 (As := [.int (xs (i + 1))]) (rest := []) (r := 6) C0 (M2 _) hP hS (by omega) h6 rfl ⟨g1, g2⟩ ⟨rm_f g3, rm_l g4 (by decide)⟩ hl.1 rfl (Nat.le_of_ble_eq_true rfl) dL_law_1978 ⟨hc1, hs1⟩) C0 hP hS (fun v2 c2 H locs hp hP hS => ?_)
  obtain ⟨sc', st', nw', ah', rw', fd', hI', hk⟩ := M3 _ _ hp
  refine lv_dstore (lv' := [(7, .double v2), (6, .int (nI k)), (0, .ref b), (1, .ref (ad 0)), (2, .ref (ad 6)), (3, .ref (ad 10)), (4, .ref (ad 11)), (5, .int (nI i))]) hx hb dL_law_1981 hl (by decide) rfl (fun ls hl => ?_)
  refine lv_aload_n hx hb dL_law_1983 rfl (lv_at hl 4 rfl) ?_
  refine k0_i (rn_L_114 (As := []) (rest := []) (r := 6) C0 (m_X2_thrown l D cA N ad c2 (nI k) n nw' ah' rw' (by omega) hI'.mo hI'.n5 _) hP hS (by omega) hI'.mo.1 rfl ⟨rfl, rfl⟩ ⟨Nat.le_of_ble_eq_true rfl, Nat.le_of_ble_eq_true rfl⟩ hl.1 rfl (Nat.le_of_ble_eq_true rfl) dL_law_1984 ⟨hc1, hs1⟩) C0 hP hS (fun v3 c3 H locs hp hP hS => ?_)
  obtain ⟨rfl, rfl⟩ := hp
  refine lv_iload hx hb dL_law_1987 (lv_at hl 1 rfl) ?_
  refine lv_icmp_eq (tgt := 1994) hx hb dL_law_1989 (by decide) (fun _ => ?_) (fun h => absurd rfl h)
  refine lv_iload hx hb dL_law_1994 (lv_at hl 1 rfl) ?_
  refine lv_if_ne (tgt := 2031) hx hb dL_law_1996 (by decide) (fun _ => ?_) (fun h => ?_)
  · skip
    refine lv_goto (tgt := 2048) hx hb dL_law_2031 (by decide) ?_
    exact hT N n ad c2 sc' st' (nI k) nw' ah' rw' fo fd' C0 hI' _ _ _ hP hS (lv_sub hl [2, 3, 4, 5, 6, 7] rfl)
  · skip
    refine lv_aload hx hb dL_law_1999 (lv_at hl 6 rfl) ?_
    refine lv_iconst (v := nI 0) hx hb dL_law_2001 rfl ?_
    refine a_dld C0 hP (r := 11) (by omega) hI'.outD (by decide) (by decide) dL_law_2002 ?_
    refine lv_dload hx hb dL_law_2003 (lv_at hl 0 rfl) ?_
    refine lv_dcmp hx hb dL_law_2005 ?_
    rw [(hk (k0_of r7 h))]
    refine lv_if_eq (tgt := 2031) hx hb dL_law_2006 (by decide) (fun _ => ?_) (fun h => absurd rfl h)
    refine lv_goto (tgt := 2048) hx hb dL_law_2031 (by decide) ?_
    exact hT N n ad c2 sc' st' (nI k) nw' ah' rw' fo fd' C0 hI' _ _ _ hP hS (lv_sub hl [2, 3, 4, 5, 6, 7] rfl)
set_option maxHeartbeats 1000000 in
set_option maxRecDepth 10000 in
theorem lc_digest {p : Program} {e : Env} {s : State} {m : MethodId} {below : List Frame} {meth : Method} {c0 : Code} {H : Heap} {locs : List Loc} {ls : Array Slot} {Q : State → Prop} (l : Launch) (hfl : l.stackTraces = false) (D : va_G) (cA : Nat → ClassId) (N : Nat) (ad : Nat → Nat) (c : Nat → va_E) (b L : Nat) (xs : Nat → Int32) (n : Nat) (sc : Nat → Nat → Nat) (st : Nat → Nat → Nat → Int32) (th : Int32) (nw ah rw : Nat → Int32) (fo : Nat → Int64) (fd : Nat → UInt64) (B i cells slots : Nat) (C0 : Cx p s m c0 cL_law 9 RL D cA N ad (fun q => s.heap.size ≤ q)) (hX : va_X b L xs s s.heap) (hbl : b < s.heap.size) (hi : i + 5 ≤ L) (hL : L ≤ 2560) (hI : Inv ad cA c N n sc st th nw ah rw fo fd B) (hB : B ≤ 110000) (hc1 : cells + 5 ≤ 601024) (hs1 : slots + 65 ≤ 7293034) (hT : LTail p l e s m below meth c0 Q D cA b (cells + 5) (slots + 65) i (B + 200)) (hP : va_P D vwCl (wl N ad c) H) (hS : va_S (fun q => s.heap.size ≤ q) s.heap H locs) (hl : lv_has ls 9 [(0, .ref b), (1, .ref (ad 0)), (2, .ref (ad 6)), (3, .ref (ad 10)), (4, .ref (ad 11)), (5, .int (nI i))]) : W p l e room_1 s m #[Value.ref b] below meth c0 H locs cells slots Q (F0 m 2034 ls []) := by
  have hx := C0.1
  have hb := C0.2.1
  have hN := hI.hN
  have hn5 := hI.n5
  refine lv_aload_n hx hb dL_law_2034 rfl (lv_at hl 1 rfl) ?_
  refine k0_l (rn_L_207 (As := []) (rest := []) (r := 0) C0 (m_X1_digest l D cA N ad c n sc st (by omega) hI.fh hI.tr hI.hs (hI.ok.ok hI.sm hB) C0.2.2.2.2.2.2.1.1 _) hP hS (by omega) hI.fh.1 rfl ⟨rfl, rfl⟩ ⟨Nat.le_of_ble_eq_true rfl, Nat.le_of_ble_eq_true rfl⟩ hl.1 rfl (Nat.le_of_ble_eq_true rfl) dL_law_2035 ⟨rm_c hc1 (by decide), rm_s hs1 (by decide)⟩) C0 hP hS (fun v1 c1 H locs hp hP hS => ?_)
  obtain ⟨hd1, htr⟩ := hp
  have I2 := hI.trial htr
  have hOk := hI.ok.ok hI.sm hB
  refine lv_aload_n hx hb dL_law_2038 rfl (lv_at hl 2 rfl) ?_
  refine k_l (rn_L_211 (As := []) (rest := [.long v1]) (r := 6) C0 (m_X2_digest l D cA N ad c1 th n nw ah rw sc (by omega) I2.mo hn5 I2.rows hOk _) hP hS (by omega) I2.mo.1 rfl ⟨rfl, rfl⟩ ⟨Nat.le_of_ble_eq_true rfl, Nat.le_of_ble_eq_true rfl⟩ hl.1 rfl (Nat.le_of_ble_eq_true rfl) dL_law_2039 ⟨rm_c hc1 (by decide), rm_s hs1 (by decide)⟩) C0 hP hS (fun v2 c2 H locs hp hP hS => ?_)
  obtain ⟨hd2, ah', rw', rfl⟩ := hp
  have hal : Alk n sc st (fun j => sto nw (30 * j)) := fun j hj => ⟨fun k hk => (hI.bo j hj).ag hk, by have := (hOk j hj).2.2.2.2.1; omega, fun p hp => ((hI.bo j hj) p hp).2.2⟩
  refine W.lcmp hx hb dL_law_2042 ?_
  rw [lg_same (DigP.eq hal hd1 hd2)]
  refine lv_if_eq (tgt := 2048) hx hb dL_law_2043 (by decide) (fun _ => ?_) (fun h => absurd rfl h)
  exact hT N n ad _ sc st _ nw ah' rw' fo fd C0 (I2.mod.up (by omega)) _ _ _ hP hS hl
