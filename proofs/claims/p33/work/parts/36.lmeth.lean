/-! the law's helpers -/
theorem andM (x : Int32) : ∃ v, v < 2 ^ 31 ∧ x &&& 2147483647 = nI v := by
  refine ⟨x.toBitVec.toNat % 2 ^ 31, Nat.mod_lt _ (by decide), ?_⟩
  apply Int32.toBitVec_inj.mp
  rw [Int32.toBitVec_and]
  apply BitVec.eq_of_toNat_eq
  rw [BitVec.toNat_and]
  have e1 : (2147483647 : Int32).toBitVec.toNat = 2 ^ 31 - 1 := by decide
  have e2 : (nI (x.toBitVec.toNat % 2 ^ 31)).toBitVec.toNat = x.toBitVec.toNat % 2 ^ 31 := by
    show (BitVec.ofNat 32 (x.toBitVec.toNat % 2 ^ 31)).toNat = _
    rw [BitVec.toNat_ofNat]
    exact Nat.mod_eq_of_lt (by have := Nat.mod_lt x.toBitVec.toNat (show 0 < 2 ^ 31 by decide); omega)
  rw [e1, Nat.and_two_pow_sub_one_eq_mod, e2]
theorem BInv.fullK {V : Nat → Int32} {K k t : Nat} (h : BInv V K k t) (e : k = K) (hK : K ≤ 8) : (nI 1 <<< (nI K &&& 31)) - nI 1 = nI t := by
  subst e
  rw [bits8 _ (by omega), h.full]
/-- the larger of nothing and one less than K -/
theorem max_less {K : Nat} (hK : K ≤ 8) : (if nI 0 < nI K - nI 1 then nI K - nI 1 else nI 0) = nI (K - 1) := by
  rcases (show K = 0 ∨ K = 1 ∨ K = 2 ∨ K = 3 ∨ K = 4 ∨ K = 5 ∨ K = 6 ∨ K = 7 ∨ K = 8 by omega) with rfl | rfl | rfl | rfl | rfl | rfl | rfl | rfl | rfl <;> decide
theorem min_is {a b : Nat} (ha : a < 2 ^ 31) (hb : b < 2 ^ 31) : (if nI b < nI a then nI b else nI a) = nI (min a b) := by
  split
  · next h => rw [Nat.min_eq_right (Nat.le_of_lt ((nI_ltI hb ha).mp h))]
  · next h => rw [Nat.min_eq_left (Nat.not_lt.mp fun q => h ((nI_ltI hb ha).mpr q))]
set_option maxHeartbeats 1000000 in
set_option maxRecDepth 10000 in
/-- some number below k -/
theorem m_L_below (l : Launch) (D : va_G) (cA : Nat → ClassId) (N : Nat) (ad : Nat → Nat) (c : Nat → va_E) (v : Int32) (k : Nat) (hk : 1 ≤ k) (hk2 : k < 2 ^ 31) : Ci l yL_below wL_below { frames := 0, cells := 0, slots := 0, locals := 0 } [.int v, .int (nI k)] D cA N ad c 0 0 (fun x c' => (∃ q, q < k ∧ x = nI q) ∧ c = c') := by
  intro sz9
  refine bd_of (cc := cL_below) (maxL := 2) (ret := some Jvm.ClassFile.FieldType.int) (by decide) rfl (Nat.le_of_ble_eq_true rfl) ?_
  intro p e s m below meth c0 C0 hr hlk hnm hP hS hsz ls hl
  subst hsz
  have hx := C0.1
  have hb := C0.2.1
  have hl : lv_has ls 2 [(0, .int v), (1, .int (nI k))] := hl
  refine lv_iload_n hx hb dL_below_0 rfl (lv_at hl 0 rfl) ?_
  refine lv_ldc (own := RL) (v := 2147483647) hx hb C0.2.2.2.1 (wd_ci_L_7 C0.2.2.2.2.1 _) dL_below_1 ?_
  refine lv_iand hx hb dL_below_3 ?_
  obtain ⟨u, hu, eu⟩ := andM v
  rw [eu]
  refine lv_iload_n hx hb dL_below_4 rfl (lv_at hl 1 rfl) ?_
  refine n_irem hx hb (by omega) (by omega) (by omega) dL_below_5 ?_
  exact e_i C0 hr hlk hP hS dL_below_6 (by decide) (by decide) ⟨⟨u % k, Nat.mod_lt _ (by omega), rfl⟩, rfl⟩
set_option maxHeartbeats 1000000 in
set_option maxRecDepth 10000 in
/-- some int -/
theorem m_L_cell (l : Launch) (D : va_G) (cA : Nat → ClassId) (N : Nat) (ad : Nat → Nat) (c : Nat → va_E) (b L : Nat) (xs : Nat → Int32) (k : Nat) (hk : k < 2 ^ 31) (hL : L < 2 ^ 31) : ∀ sz, Met l yL_cell wL_cell { frames := 0, cells := 0, slots := 0, locals := 0 } (va_Pc [.ref b, .int (nI k)] (PreX D cA N ad c sz b L xs)) (va_Qi (fun _ c' => c = c') (fun c' t => va_P D vwCl (wl N ad c') t.heap) (wA N ad sz)) 0 0 (wA N ad sz) := by
  intro sz9
  refine bd_ofX (cc := cL_cell) (maxL := 2) (ret := some Jvm.ClassFile.FieldType.int) (by decide) rfl (Nat.le_of_ble_eq_true rfl) ?_
  intro p e s m below meth c0 C0 hr hlk hX hbl hbA hP hS hsz ls hl
  subst hsz
  have hx := C0.1
  have hb := C0.2.1
  have hl : lv_has ls 2 [(0, .ref b), (1, .int (nI k))] := hl
  refine lv_iload_n hx hb dL_cell_0 rfl (lv_at hl 1 rfl) ?_
  refine lv_aload_n hx hb dL_cell_1 rfl (lv_at hl 0 rfl) ?_
  refine va_slen hx hb hX hbl hbA hS dL_cell_2 ?_
  refine n_icmp_ge (b := L) (tgt := 12) hx hb hk hL dL_cell_3 (by decide) (fun h => ?_) (fun h => ?_)
  · refine lv_ldc (own := RL) (v := 790386105) hx hb C0.2.2.2.1 (wd_ci_L_8 C0.2.2.2.2.1 _) dL_cell_12 ?_
    refine lv_iload_n hx hb dL_cell_14 rfl (lv_at hl 1 rfl) ?_
    refine lv_iconst (v := nI 3) hx hb dL_cell_15 rfl ?_
    refine lv_iadd hx hb dL_cell_16 ?_
    refine lv_imul hx hb dL_cell_17 ?_
    exact e_i C0 hr hlk hP hS dL_cell_18 (by decide) (by decide) rfl
  · refine lv_aload_n hx hb dL_cell_6 rfl (lv_at hl 0 rfl) ?_
    refine lv_iload_n hx hb dL_cell_7 rfl (lv_at hl 1 rfl) ?_
    refine va_sld hx hb hX hbl hbA hS (vp_in_nI h hL) dL_cell_8 ?_
    refine lv_goto (tgt := 18) hx hb dL_cell_9 (by decide) ?_
    exact e_i C0 hr hlk hP hS dL_cell_18 (by decide) (by decide) rfl
theorem cl_84 {s : State} {D : va_G} {cA : Nat → ClassId} (h : Ev D cA s) (a : Array Value) : (Cond.classLink RL 84 nIAE).before a s = true := h.2.1 _ (List.mem_append_right _ (List.mem_of_getElem? (i := 361) (by decide +kernel : tables_1[361]? = some (Cond.classLink RL 84 nIAE)))) (by decide +kernel) a
theorem cl_86 {s : State} {D : va_G} {cA : Nat → ClassId} (h : Ev D cA s) (a : Array Value) : (Cond.classLink RL 86 nISE).before a s = true := h.2.1 _ (List.mem_append_right _ (List.mem_of_getElem? (i := 362) (by decide +kernel : tables_1[362]? = some (Cond.classLink RL 86 nISE)))) (by decide +kernel) a
theorem ctnIAE {s : State} {D : va_G} {cA : Nat → ClassId} (h : Ev D cA s) (a : Array Value) : (Cond.castable nIAE nIAE).before a s = true := h.2.1 _ (List.mem_append_right _ (List.mem_of_getElem? (i := 79) (by decide +kernel : tables_1[79]? = some (Cond.castable nIAE nIAE)))) (by decide +kernel) a
theorem ctnISE {s : State} {D : va_G} {cA : Nat → ClassId} (h : Ev D cA s) (a : Array Value) : (Cond.castable nISE nISE).before a s = true := h.2.1 _ (List.mem_append_right _ (List.mem_of_getElem? (i := 151) (by decide +kernel : tables_1[151]? = some (Cond.castable nISE nISE)))) (by decide +kernel) a
theorem nc_of {s : State} {D : va_G} {cA : Nat → ClassId} {a b : String} (h : Ev D cA s) (hm : (a, b) ∈ nons) : va_Nc a b s := h.2.2.2.1 (a, b) hm
section LAWH
variable {p : Program} {l : Launch} {e : Env} {R : Room} {s : State} {m : MethodId} {args : Array Value} {below : List Frame} {meth : Method} {c0 : Code} {H : Heap} {locs : List Loc} {cells slots : Nat} {Q : State → Prop}
variable {cc : ByteArray} {nL : Nat} {own : String} {D : va_G} {cA : Nat → ClassId} {N : Nat} {ad : Nat → Nat} {A : Nat → Prop} {pc : Nat} {ls : Array Slot} {rest st0 : List Value} {lv : List (Nat × Value)} {c : Nat → va_E}
/-- a body with handlers, that returns -/
theorem bd_ofH {y : MethodName} {ws ws' : List Cond} {rm : Room} {av : List Value} {Qc : Array Value → State → Outcome → State → Prop} {mc ms : Nat} {maxL : Nat} {ret : Option FieldType} {hh : List (Nat × Nat × Nat × Nat)} {sz : Nat} (hy : plainName y.cls = true) (hw : ws = Cond.codeWith y cc maxL ret hh :: ws') (hcw : ∀ (s : State) (a : Array Value), Ev D cA s → (Cond.codeWith y cc maxL ret hh).before a s = true) (hal : (lg_sl av).length ≤ maxL)
    (body : ∀ (p : Program) (e : Env) (s : State) (m : MethodId) (below : List Frame) (meth : Method) (c0 : Code), Cx p s m c0 cc maxL y.cls D cA N ad (wA N ad s.heap.size) → meth.sig.returnType = ret → meth.locks = false → c0.exceptionTable.toList = tableOf hh → va_P D vwCl (wl N ad c) s.heap → va_S (wA N ad s.heap.size) s.heap s.heap [] → s.heap.size = sz →
      ∀ ls : Array Slot, lv_has ls maxL (lv_args 0 av) → W p l e rm s m av.toArray below meth c0 s.heap [] 0 0 (MQ below Qc av.toArray s mc ms (wA N ad s.heap.size)) (F0 m 0 ls [])) :
    Met l y ws rm (va_Pc av (Pre D cA N ad c sz)) Qc mc ms (wA N ad sz) := by
  have h9 : vx_Met l y ws rm (va_Pc av (Pre D cA N ad c sz)) Qc (fun _ _ _ => False) mc ms (wA N ad sz) := by
    refine vx_ofWH (cc := cc) (maxL := maxL) (ret := ret) hy hw ?_
    intro p e s m args below meth c0 s₁ B hml hv
    obtain ⟨rfl, hsz, hP, hE, hD, hZ⟩ := hv
    have hx := B.exec
    have hb := B.bytes
    have hr := B.returns
    have hT := vx_table (x := y) B (hcw s av.toArray hE)
    have hown : s.vm.findClass y.cls = some m.cls := findClass_of_methodNamed B.named
    have hl := lv_entry av (n := maxL) hal
    have hbody := fun hS => body p e s m below meth c0 ⟨hx, hb, hml, hown, hE, by rw [hsz]; exact hZ, hD.self, fun q h => Or.inr h⟩ hr B.notSynchronized hT hP hS hsz
    rw [lg_entry_eq]
    rw [hsz] at hbody
    exact vx_ret (hbody va_S.rf _ hl)
  refine MetFree.mono h9 (fun _ _ h => h) (fun _ _ _ _ _ h => h) (fun a st o t _ q => ?_)
  rcases q with q | ⟨_, _, E, ce, L, hX, _⟩
  · exact q
  · exact hX.elim
end LAWH
set_option maxHeartbeats 1000000 in
set_option maxRecDepth 10000 in
theorem w_L_joined (l : Launch) (D : va_G) (cA : Nat → ClassId) (N : Nat) (ad : Nat → Nat) (c : Nat → va_E) (x y : Int32) {fs : List Value} (h10 : 6 ≤ N) (h0 : c 0 = .inr (1, fs)) (post : Int32 → (Nat → va_E) → Prop) (M : Ci l yX1_join wX1_join { frames := 4, cells := 0, slots := 0, locals := 95 } [.ref (ad 0), .int x, .int y] D cA N ad c 0 0 post) : Ci l yL_joined wL_joined { frames := 5, cells := 0, slots := 0, locals := 120 } [.ref (ad 0), .int x, .int y] D cA N ad c 0 0 (post) := by
  intro sz9
  refine bd_ofH (cc := cL_joined) (maxL := 4) (ret := some Jvm.ClassFile.FieldType.int) (hh := [(0, 6, 7, 84), (0, 6, 10, 86)]) (by decide) rfl (fun s a h => wd_code_L_joined h a) (Nat.le_of_ble_eq_true rfl) ?_
  intro p e s m below meth c0 C0 hr hlk hT hP hS hsz ls hl
  subst hsz
  have hx := C0.1
  have hb := C0.2.1
  have hl : lv_has ls 4 [(0, .ref (ad 0)), (1, .int x), (2, .int y)] := hl
  refine lv_aload_n hx hb dL_joined_0 rfl (lv_at hl 0 rfl) ?_
  refine lv_iload_n hx hb dL_joined_1 rfl (lv_at hl 1 rfl) ?_
  refine lv_iload_n hx hb dL_joined_2 rfl (lv_at hl 2 rfl) ?_
  refine k0_i (rn_L_81 (As := [.int x, .int y]) (rest := []) (r := 0) C0 (M _) hP hS (by omega) h0 rfl ⟨rfl, rfl⟩ ⟨by decide, by decide⟩ hl.1 rfl (Nat.le_of_ble_eq_true rfl) dL_joined_3 ⟨Nat.le_of_ble_eq_true rfl, Nat.le_of_ble_eq_true rfl⟩) C0 hP hS (fun v5 c5 H locs hp hP hS => ?_)
  exact e_i C0 hr hlk hP hS dL_joined_6 (by decide) (by decide) hp
set_option maxHeartbeats 1000000 in
set_option maxRecDepth 10000 in
theorem w_L_joined__a (l : Launch) (D : va_G) (cA : Nat → ClassId) (N : Nat) (ad : Nat → Nat) (c : Nat → va_E) (x y : Int32) {fs : List Value} (h10 : 6 ≤ N) (h0 : c 0 = .inr (1, fs)) (M : Ct l yX1_join wX1_join { frames := 6, cells := 1, slots := 6, locals := 82 } [.ref (ad 0), .int x, .int y] D cA N ad c 1 6 nIAE) : Ci l yL_joined wL_joined { frames := 7, cells := 1, slots := 6, locals := 107 } [.ref (ad 0), .int x, .int y] D cA N ad c 1 6 (fun v9 c9 => v9 = -1 ∧ c = c9) := by
  intro sz9
  refine bd_ofH (cc := cL_joined) (maxL := 4) (ret := some Jvm.ClassFile.FieldType.int) (hh := [(0, 6, 7, 84), (0, 6, 10, 86)]) (by decide) rfl (fun s a h => wd_code_L_joined h a) (Nat.le_of_ble_eq_true rfl) ?_
  intro p e s m below meth c0 C0 hr hlk hT hP hS hsz ls hl
  subst hsz
  have hx := C0.1
  have hb := C0.2.1
  have hl : lv_has ls 4 [(0, .ref (ad 0)), (1, .int x), (2, .int y)] := hl
  refine lv_aload_n hx hb dL_joined_0 rfl (lv_at hl 0 rfl) ?_
  refine lv_iload_n hx hb dL_joined_1 rfl (lv_at hl 1 rfl) ?_
  refine lv_iload_n hx hb dL_joined_2 rfl (lv_at hl 2 rfl) ?_
  refine kt_catch (rx_L_81 (As := [.int x, .int y]) (rest := []) (r := 0) C0 (M _) hP hS (by omega) h0 rfl ⟨rfl, rfl⟩ ⟨by decide, by decide⟩ hl.1 rfl (Nat.le_of_ble_eq_true rfl) dL_joined_3 ⟨Nat.le_of_ble_eq_true rfl, Nat.le_of_ble_eq_true rfl⟩) C0 hP hS [] ⟨0, 6, 7, 84⟩ [⟨0, 6, 10, 86⟩] (hT.trans rfl) (fun z hz => nomatch hz) (by decide) (by decide) (cl_84 C0.2.2.2.2.1 _) (ctnIAE C0.2.2.2.2.1 _) (fun H locs q hP hS => ?_)
  refine lv_astore_n (lv' := [(3, .ref q), (0, .ref (ad 0)), (1, .int x), (2, .int y)]) hx hb dL_joined_7 rfl hl (by decide) rfl (fun ls hl => ?_)
  refine lv_iconst (v := -1) hx hb dL_joined_8 rfl ?_
  exact e_i C0 hr hlk hP hS dL_joined_9 (by decide) (by decide) ⟨rfl, rfl⟩
set_option maxHeartbeats 1000000 in
set_option maxRecDepth 10000 in
theorem w_L_joined__s (l : Launch) (D : va_G) (cA : Nat → ClassId) (N : Nat) (ad : Nat → Nat) (c : Nat → va_E) (x y : Int32) {fs : List Value} (h10 : 6 ≤ N) (h0 : c 0 = .inr (1, fs)) (M : Ct l yX1_join wX1_join { frames := 6, cells := 1, slots := 6, locals := 82 } [.ref (ad 0), .int x, .int y] D cA N ad c 1 6 nISE) : Ci l yL_joined wL_joined { frames := 7, cells := 1, slots := 6, locals := 107 } [.ref (ad 0), .int x, .int y] D cA N ad c 1 6 (fun v9 c9 => v9 = -1 ∧ c = c9) := by
  intro sz9
  refine bd_ofH (cc := cL_joined) (maxL := 4) (ret := some Jvm.ClassFile.FieldType.int) (hh := [(0, 6, 7, 84), (0, 6, 10, 86)]) (by decide) rfl (fun s a h => wd_code_L_joined h a) (Nat.le_of_ble_eq_true rfl) ?_
  intro p e s m below meth c0 C0 hr hlk hT hP hS hsz ls hl
  subst hsz
  have hx := C0.1
  have hb := C0.2.1
  have hl : lv_has ls 4 [(0, .ref (ad 0)), (1, .int x), (2, .int y)] := hl
  refine lv_aload_n hx hb dL_joined_0 rfl (lv_at hl 0 rfl) ?_
  refine lv_iload_n hx hb dL_joined_1 rfl (lv_at hl 1 rfl) ?_
  refine lv_iload_n hx hb dL_joined_2 rfl (lv_at hl 2 rfl) ?_
  refine kt_catch (rx_L_81 (As := [.int x, .int y]) (rest := []) (r := 0) C0 (M _) hP hS (by omega) h0 rfl ⟨rfl, rfl⟩ ⟨by decide, by decide⟩ hl.1 rfl (Nat.le_of_ble_eq_true rfl) dL_joined_3 ⟨Nat.le_of_ble_eq_true rfl, Nat.le_of_ble_eq_true rfl⟩) C0 hP hS [⟨0, 6, 7, 84⟩] ⟨0, 6, 10, 86⟩ [] (hT.trans rfl) (List.forall_mem_cons.mpr ⟨Or.inr ⟨by decide, _, cl_84 C0.2.2.2.2.1 _, nc_of C0.2.2.2.2.1 (by decide)⟩, (fun z hz => nomatch hz)⟩) (by decide) (by decide) (cl_86 C0.2.2.2.2.1 _) (ctnISE C0.2.2.2.2.1 _) (fun H locs q hP hS => ?_)
  refine lv_astore_n (lv' := [(3, .ref q), (0, .ref (ad 0)), (1, .int x), (2, .int y)]) hx hb dL_joined_10 rfl hl (by decide) rfl (fun ls hl => ?_)
  refine lv_iconst (v := -1) hx hb dL_joined_11 rfl ?_
  exact e_i C0 hr hlk hP hS dL_joined_12 (by decide) (by decide) ⟨rfl, rfl⟩
set_option maxHeartbeats 1000000 in
set_option maxRecDepth 10000 in
theorem m_L_isSound (l : Launch) (D : va_G) (cA : Nat → ClassId) (N : Nat) (ad : Nat → Nat) (c : Nat → va_E) (n i R Y L S D9 K : Nat) (st : Nat → Nat → Int32) (hN : 6 + 4 * n ≤ N) (hF : FH ad cA c n) (ht : TrAt ad cA c) (hi : i < n) (hH : HandAt ad cA c (6 + 4 * i) R Y L S D9 K st) (hok : Hok R Y L S D9 K) (hD : D9 ≤ 9 * S) (hSn : Sn K S st) : Ci l yL_isSound wL_isSound { frames := 6, cells := 0, slots := 0, locals := 132 } [.ref (ad 0), .int (nI i)] D cA N ad c 0 0 (fun v c' => v = nI 1 ∧ Tr ad cA c c') := by
  intro sz9
  refine bd_of (cc := cL_isSound) (maxL := 5) (ret := some Jvm.ClassFile.FieldType.boolean) (by decide) rfl (Nat.le_of_ble_eq_true rfl) ?_
  intro p e s m below meth c0 C0 hr hlk hnm hP hS hsz ls hl
  subst hsz
  have hx := C0.1
  have hb := C0.2.1
  have hl : lv_has ls 5 [(0, .ref (ad 0)), (1, .int (nI i))] := hl
  obtain ⟨q1, q2, q3, q4, q5, q6, q7, q8, q9⟩ := id hok
  have hn5 := hF.2.2
  have tt := ht.rf
  have hT : ∀ q, q < K → ∃ t, t ≤ S ∧ st 2 q = nI t := fun q hq => by
    obtain ⟨-, -, t, -, h1, h2⟩ := hSn q hq
    exact ⟨t, h1, h2⟩
  refine lv_aload_n hx hb dL_isSound_0 rfl (lv_at hl 0 rfl) ?_
  refine lv_iload_n hx hb dL_isSound_1 rfl (lv_at hl 1 rfl) ?_
  refine k0_i (rn_L_33 (As := [.int (nI i)]) (rest := []) (r := 0) C0 (m_X1_holds l D cA N ad (c) n i R Y L S D9 K st (by omega) hF hi hH hok _) hP hS (by omega) hF.1 rfl ⟨rfl, rfl⟩ ⟨by decide, by decide⟩ hl.1 rfl (Nat.le_of_ble_eq_true rfl) dL_isSound_2 ⟨Nat.le_of_ble_eq_true rfl, Nat.le_of_ble_eq_true rfl⟩) C0 hP hS (fun v2 c2 H locs hp hP hS => ?_)
  obtain ⟨rfl, rfl⟩ := hp
  refine lv_istore_n (lv' := [(2, .int (nI K)), (0, .ref (ad 0)), (1, .int (nI i))]) hx hb dL_isSound_5 rfl hl (by decide) rfl (fun ls hl => ?_)
  refine lv_iload_n hx hb dL_isSound_6 rfl (lv_at hl 0 rfl) ?_
  refine lv_aload_n hx hb dL_isSound_7 rfl (lv_at hl 1 rfl) ?_
  refine lv_iload_n hx hb dL_isSound_8 rfl (lv_at hl 2 rfl) ?_
  refine k0_i (rn_L_60 (As := [.int (nI i)]) (rest := [.int (nI K)]) (r := 0) C0 (m_X1_roomOf l D cA N ad (c) n i R Y L S D9 K st (by omega) hF hi hH hok _) hP hS (by omega) hF.1 rfl ⟨rfl, rfl⟩ ⟨by decide, by decide⟩ hl.1 rfl (Nat.le_of_ble_eq_true rfl) dL_isSound_9 ⟨Nat.le_of_ble_eq_true rfl, Nat.le_of_ble_eq_true rfl⟩) C0 hP hS (fun v9 c9 H locs hp hP hS => ?_)
  obtain ⟨rfl, rfl⟩ := hp
  refine n_icmp_gt (tgt := 93) hx hb (by omega) (by omega) dL_isSound_12 (by decide) (fun h12 => ?_) (fun h12 => ?_)
  · exfalso; omega
  refine lv_iload_n hx hb dL_isSound_15 rfl (lv_at hl 0 rfl) ?_
  refine lv_aload_n hx hb dL_isSound_16 rfl (lv_at hl 1 rfl) ?_
  refine lv_iload_n hx hb dL_isSound_17 rfl (lv_at hl 2 rfl) ?_
  refine k0_i (rn_L_26 (As := [.int (nI i)]) (rest := [.int (nI K)]) (r := 0) C0 (m_X1_seenBy l D cA N ad (c) n i R Y L S D9 K st (by omega) hF hi hH hok _) hP hS (by omega) hF.1 rfl ⟨rfl, rfl⟩ ⟨by decide, by decide⟩ hl.1 rfl (Nat.le_of_ble_eq_true rfl) dL_isSound_18 ⟨Nat.le_of_ble_eq_true rfl, Nat.le_of_ble_eq_true rfl⟩) C0 hP hS (fun v18 c18 H locs hp hP hS => ?_)
  obtain ⟨rfl, rfl⟩ := hp
  refine n_icmp_gt (tgt := 93) hx hb (by omega) (by omega) dL_isSound_21 (by decide) (fun h21 => ?_) (fun h21 => ?_)
  · exfalso; omega
  refine lv_aload_n hx hb dL_isSound_24 rfl (lv_at hl 1 rfl) ?_
  refine lv_iload_n hx hb dL_isSound_25 rfl (lv_at hl 2 rfl) ?_
  refine k0_i (rn_L_30 (As := [.int (nI i)]) (rest := []) (r := 0) C0 (m_X1_loadOf l D cA N ad (c) n i R Y L S D9 K st (by omega) hF hi hH hok _) hP hS (by omega) hF.1 rfl ⟨rfl, rfl⟩ ⟨by decide, by decide⟩ hl.1 rfl (Nat.le_of_ble_eq_true rfl) dL_isSound_26 ⟨Nat.le_of_ble_eq_true rfl, Nat.le_of_ble_eq_true rfl⟩) C0 hP hS (fun v26 c26 H locs hp hP hS => ?_)
  obtain ⟨rfl, rfl⟩ := hp
  refine lv_aload_n hx hb dL_isSound_29 rfl (lv_at hl 1 rfl) ?_
  refine lv_iload_n hx hb dL_isSound_30 rfl (lv_at hl 2 rfl) ?_
  refine k0_i (rn_L_26 (As := [.int (nI i)]) (rest := [.int (nI D9)]) (r := 0) C0 (m_X1_seenBy l D cA N ad (c) n i R Y L S D9 K st (by omega) hF hi hH hok _) hP hS (by omega) hF.1 rfl ⟨rfl, rfl⟩ ⟨by decide, by decide⟩ hl.1 rfl (Nat.le_of_ble_eq_true rfl) dL_isSound_31 ⟨Nat.le_of_ble_eq_true rfl, Nat.le_of_ble_eq_true rfl⟩) C0 hP hS (fun v31 c31 H locs hp hP hS => ?_)
  obtain ⟨rfl, rfl⟩ := hp
  refine n_icmp_lt (tgt := 93) hx hb (by omega) (by omega) dL_isSound_34 (by decide) (fun h34 => ?_) (fun h34 => ?_)
  · exfalso; omega
  refine lv_aload_n hx hb dL_isSound_37 rfl (lv_at hl 1 rfl) ?_
  refine lv_iload_n hx hb dL_isSound_38 rfl (lv_at hl 2 rfl) ?_
  refine k0_i (rn_L_30 (As := [.int (nI i)]) (rest := []) (r := 0) C0 (m_X1_loadOf l D cA N ad (c) n i R Y L S D9 K st (by omega) hF hi hH hok _) hP hS (by omega) hF.1 rfl ⟨rfl, rfl⟩ ⟨by decide, by decide⟩ hl.1 rfl (Nat.le_of_ble_eq_true rfl) dL_isSound_39 ⟨Nat.le_of_ble_eq_true rfl, Nat.le_of_ble_eq_true rfl⟩) C0 hP hS (fun v39 c39 H locs hp hP hS => ?_)
  obtain ⟨rfl, rfl⟩ := hp
  refine lv_bipush (v := nI 9) hx hb dL_isSound_42 rfl ?_
  refine lv_aload_n hx hb dL_isSound_44 rfl (lv_at hl 1 rfl) ?_
  refine lv_iload_n hx hb dL_isSound_45 rfl (lv_at hl 2 rfl) ?_
  refine k0_i (rn_L_26 (As := [.int (nI i)]) (rest := [.int (nI 9), .int (nI D9)]) (r := 0) C0 (m_X1_seenBy l D cA N ad (c) n i R Y L S D9 K st (by omega) hF hi hH hok _) hP hS (by omega) hF.1 rfl ⟨rfl, rfl⟩ ⟨by decide, by decide⟩ hl.1 rfl (Nat.le_of_ble_eq_true rfl) dL_isSound_46 ⟨Nat.le_of_ble_eq_true rfl, Nat.le_of_ble_eq_true rfl⟩) C0 hP hS (fun v46 c46 H locs hp hP hS => ?_)
  obtain ⟨rfl, rfl⟩ := hp
  refine n_imul hx hb dL_isSound_49 ?_
  refine n_icmp_gt (tgt := 93) hx hb (by omega) (by omega) dL_isSound_50 (by decide) (fun h50 => ?_) (fun h50 => ?_)
  · exfalso; omega
  refine lv_aload_n hx hb dL_isSound_53 rfl (lv_at hl 1 rfl) ?_
  refine lv_iload_n hx hb dL_isSound_54 rfl (lv_at hl 2 rfl) ?_
  refine k0_i (rn_L_88 (As := [.int (nI i)]) (rest := []) (r := 0) C0 (m_X1_luckOf l D cA N ad (c) n i R Y L S D9 K st (by omega) hF hi hH hok _) hP hS (by omega) hF.1 rfl ⟨rfl, rfl⟩ ⟨by decide, by decide⟩ hl.1 rfl (Nat.le_of_ble_eq_true rfl) dL_isSound_55 ⟨Nat.le_of_ble_eq_true rfl, Nat.le_of_ble_eq_true rfl⟩) C0 hP hS (fun v55 c55 H locs hp hP hS => ?_)
  obtain ⟨rfl, rfl⟩ := hp
  refine n_if_lt (tgt := 93) hx hb (by omega) dL_isSound_58 (by decide) (fun h58 => ?_) (fun h58 => ?_)
  · exfalso; omega
  refine lv_aload_n hx hb dL_isSound_61 rfl (lv_at hl 1 rfl) ?_
  refine lv_iload_n hx hb dL_isSound_62 rfl (lv_at hl 2 rfl) ?_
  refine k0_i (rn_L_88 (As := [.int (nI i)]) (rest := []) (r := 0) C0 (m_X1_luckOf l D cA N ad (c) n i R Y L S D9 K st (by omega) hF hi hH hok _) hP hS (by omega) hF.1 rfl ⟨rfl, rfl⟩ ⟨by decide, by decide⟩ hl.1 rfl (Nat.le_of_ble_eq_true rfl) dL_isSound_63 ⟨Nat.le_of_ble_eq_true rfl, Nat.le_of_ble_eq_true rfl⟩) C0 hP hS (fun v63 c63 H locs hp hP hS => ?_)
  obtain ⟨rfl, rfl⟩ := hp
  refine lv_sipush (v := nI 9999) hx hb dL_isSound_66 rfl ?_
  refine n_icmp_gt (tgt := 93) hx hb (by omega) (by omega) dL_isSound_69 (by decide) (fun h69 => ?_) (fun h69 => ?_)
  · exfalso; omega
  refine lv_aload_n hx hb dL_isSound_72 rfl (lv_at hl 1 rfl) ?_
  refine lv_iload_n hx hb dL_isSound_73 rfl (lv_at hl 2 rfl) ?_
  refine lv_bipush (v := nI 9) hx hb dL_isSound_74 rfl ?_
  refine k0_i (rn_L_91 (As := [.int (nI i), .int (nI 9)]) (rest := []) (r := 0) C0 (m_X1_wouldStay l D cA N ad (c) n i R Y L S D9 K st 9 (by omega) hF ht hi hH hok (by omega) (by omega) _) hP hS (by omega) hF.1 rfl ⟨rfl, rfl⟩ ⟨by decide, by decide⟩ hl.1 rfl (Nat.le_of_ble_eq_true rfl) dL_isSound_76 ⟨Nat.le_of_ble_eq_true rfl, Nat.le_of_ble_eq_true rfl⟩) C0 hP hS (fun v76 c76 H locs hp hP hS => ?_)
  obtain ⟨hv, t1⟩ := hp
  obtain rfl : v76 = nI (stayC R Y (L, S, D9, K) 9 K) := StayP.eq (R := R) (Y := Y) (L := L) (S := S) (D := D9) (K := K) (st := st) (m := 9) (by omega) hT hv
  have hstay := stayC_le (R := R) (Y := Y) (x := (L, S, D9, K)) (m := 9) K
  have hF := hF.tr t1
  have hH := hH.tr (by omega) t1
  have ht := t1.at
  have tt := tt.trans t1
  refine lv_iload_n hx hb dL_isSound_79 rfl (lv_at hl 0 rfl) ?_
  refine n_icmp_gt (tgt := 93) hx hb (by omega) (by omega) dL_isSound_80 (by decide) (fun h80 => ?_) (fun h80 => ?_)
  · exfalso; omega
  refine lv_aload_n hx hb dL_isSound_83 rfl (lv_at hl 1 rfl) ?_
  refine lv_iload_n hx hb dL_isSound_84 rfl (lv_at hl 2 rfl) ?_
  refine lv_iload_n hx hb dL_isSound_85 rfl (lv_at hl 2 rfl) ?_
  refine k0_i (rn_L_94 (As := [.int (nI i), .int (nI i)]) (rest := []) (r := 0) C0 (m_X1_shared l D cA N ad (c76) n i R Y L S D9 K st i R Y L S D9 K st (by omega) hF hi hH hok hi hH hok _) hP hS (by omega) hF.1 rfl ⟨rfl, rfl⟩ ⟨by decide, by decide⟩ hl.1 rfl (Nat.le_of_ble_eq_true rfl) dL_isSound_86 ⟨Nat.le_of_ble_eq_true rfl, Nat.le_of_ble_eq_true rfl⟩) C0 hP hS (fun v86 c86 H locs hp hP hS => ?_)
  obtain ⟨hv, rfl⟩ := hp
  obtain rfl : v86 = nI K := hv.trans (by rw [com_self (Nat.le_refl K)])
  refine lv_iload_n hx hb dL_isSound_89 rfl (lv_at hl 0 rfl) ?_
  refine n_icmp_eq (tgt := 95) hx hb (by omega) (by omega) dL_isSound_90 (by decide) (fun h90 => ?_) (fun h90 => ?_)
  rotate_left
  · exact absurd rfl h90
  refine lv_iconst (v := nI 0) hx hb dL_isSound_95 rfl ?_
  refine lv_istore_n (lv' := [(3, .int (nI 0)), (2, .int (nI K)), (0, .ref (ad 0)), (1, .int (nI i))]) hx hb dL_isSound_96 rfl hl (by decide) rfl (fun ls hl => ?_)
  refine lv_iconst (v := nI 0) hx hb dL_isSound_97 rfl ?_
  refine lv_istore (lv' := [(4, .int (nI 0)), (3, .int (nI 0)), (2, .int (nI K)), (0, .ref (ad 0)), (1, .int (nI i))]) hx hb dL_isSound_98 hl (by decide) rfl (fun ls hl => ?_)
  have loop100 : ∀ (n9 : Nat) (k : Nat) (t : Nat), (k ≤ K) → (BInv (st 0) K k t) → K - k < n9 → ∀ (H : Heap) (locs : List Loc) (ls : Array Slot), va_P D vwCl (wl N ad (c76)) H → va_S (wA N ad s.heap.size) s.heap H locs → lv_has ls 5 [(0, .ref (ad 0)), (1, .int (nI i)), (2, .int (nI K)), (3, .int (nI t)), (4, .int (nI k))] → W p l e { frames := 6, cells := 0, slots := 0, locals := 132 } s m [.ref (ad 0), .int (nI i)].toArray below meth c0 H locs 0 0 (MQ below (va_Qi (fun v c' => v = nI 1 ∧ Tr ad cA c c') (fun c' t => va_P D vwCl (wl N ad c') t.heap) (wA N ad s.heap.size)) [.ref (ad 0), .int (nI i)].toArray s 0 0 (wA N ad s.heap.size)) (F0 m 100 ls []) := by
    intro n9
    induction n9 with
    | zero => intro k t hk hbi hlt9; exact absurd hlt9 (Nat.not_lt_zero _)
    | succ n9 ih100 =>
      intro k t hk hbi hlt9 H locs ls hP hS hl
      refine lv_iload hx hb dL_isSound_100 (lv_at hl 4 rfl) ?_
      refine lv_iload_n hx hb dL_isSound_102 rfl (lv_at hl 2 rfl) ?_
      refine n_icmp_ge (tgt := 218) hx hb (by omega) (by omega) dL_isSound_103 (by decide) (fun h103 => ?_) (fun h103 => ?_)
      · refine lv_iload_n hx hb dL_isSound_218 rfl (lv_at hl 3 rfl) ?_
        refine lv_iconst (v := nI 1) hx hb dL_isSound_219 rfl ?_
        refine lv_iload_n hx hb dL_isSound_220 rfl (lv_at hl 2 rfl) ?_
        refine lv_ishl hx hb dL_isSound_221 ?_
        refine lv_iconst (v := nI 1) hx hb dL_isSound_222 rfl ?_
        refine lv_isub hx hb dL_isSound_223 ?_
        rw [hbi.fullK (by omega) (by omega)]
        refine n_icmp_ne (tgt := 269) hx hb (by have := hbi.1; omega) (by have := hbi.1; omega) dL_isSound_224 (by decide) (fun h224 => ?_) (fun h224 => ?_)
        · exact absurd rfl h224
        refine lv_iload_n hx hb dL_isSound_227 rfl (lv_at hl 2 rfl) ?_
        refine lv_aload_n hx hb dL_isSound_228 rfl (lv_at hl 0 rfl) ?_
        refine lv_iload_n hx hb dL_isSound_229 rfl (lv_at hl 1 rfl) ?_
        refine k0_i (rn_L_60 (As := [.int (nI i)]) (rest := [.int (nI K)]) (r := 0) C0 (m_X1_roomOf l D cA N ad (c76) n i R Y L S D9 K st (by omega) hF hi hH hok _) hP hS (by omega) hF.1 rfl ⟨rfl, rfl⟩ ⟨by decide, by decide⟩ hl.1 rfl (Nat.le_of_ble_eq_true rfl) dL_isSound_230 ⟨Nat.le_of_ble_eq_true rfl, Nat.le_of_ble_eq_true rfl⟩) C0 hP hS (fun v230 c230 H locs hp hP hS => ?_)
        obtain ⟨rfl, rfl⟩ := hp
        refine n_icmp_ge (tgt := 257) hx hb (by omega) (by omega) dL_isSound_233 (by decide) (fun h233 => ?_) (fun h233 => ?_)
        · refine lv_aload_n hx hb dL_isSound_257 rfl (lv_at hl 0 rfl) ?_
          refine lv_iload_n hx hb dL_isSound_258 rfl (lv_at hl 1 rfl) ?_
          refine k0_i (rn_L_112 (As := [.int (nI i)]) (rest := []) (r := 0) C0 (m_X1_untilTaken l D cA N ad (c76) n i R Y L S D9 K st (by omega) hF ht hi hH hok _) hP hS (by omega) hF.1 rfl ⟨rfl, rfl⟩ ⟨by decide, by decide⟩ hl.1 rfl (Nat.le_of_ble_eq_true rfl) dL_isSound_259 ⟨Nat.le_of_ble_eq_true rfl, Nat.le_of_ble_eq_true rfl⟩) C0 hP hS (fun v259 c259 H locs hp hP hS => ?_)
          obtain ⟨hv, t1⟩ := hp
          have hne := unt_ne (R := R) (Y := Y) (L := L) (S := S) (D := D9) (K := K) hv
          have hF := hF.tr t1
          have hH := hH.tr (by omega) t1
          have ht := t1.at
          have tt := tt.trans t1
          refine lv_if_eq (tgt := 269) hx hb dL_isSound_262 (by decide) (fun h262 => ?_) (fun h262 => ?_)
          · exact absurd h262 hne
          refine lv_iconst (v := nI 1) hx hb dL_isSound_265 rfl ?_
          refine lv_goto (tgt := 270) hx hb dL_isSound_266 (by decide) ?_
          exact e_z C0 hr hlk hP hS dL_isSound_270 (by decide) (by decide) (by decide +kernel) ⟨rfl, tt⟩
        · refine lv_aload_n hx hb dL_isSound_236 rfl (lv_at hl 0 rfl) ?_
          refine lv_iload_n hx hb dL_isSound_237 rfl (lv_at hl 1 rfl) ?_
          refine k0_i (rn_L_112 (As := [.int (nI i)]) (rest := []) (r := 0) C0 (m_X1_untilTaken l D cA N ad (c76) n i R Y L S D9 K st (by omega) hF ht hi hH hok _) hP hS (by omega) hF.1 rfl ⟨rfl, rfl⟩ ⟨by decide, by decide⟩ hl.1 rfl (Nat.le_of_ble_eq_true rfl) dL_isSound_238 ⟨Nat.le_of_ble_eq_true rfl, Nat.le_of_ble_eq_true rfl⟩) C0 hP hS (fun v238 c238 H locs hp hP hS => ?_)
          obtain ⟨hv, t1⟩ := hp
          obtain rfl : v238 = nI 1 := unt_room (R := R) (Y := Y) (L := L) (S := S) (D := D9) (K := K) h233 hv
          have hF := hF.tr t1
          have hH := hH.tr (by omega) t1
          have ht := t1.at
          have tt := tt.trans t1
          refine lv_iconst (v := nI 1) hx hb dL_isSound_241 rfl ?_
          refine n_icmp_ne (tgt := 269) hx hb (by omega) (by omega) dL_isSound_242 (by decide) (fun h242 => ?_) (fun h242 => ?_)
          · exact absurd rfl h242
          refine lv_aload_n hx hb dL_isSound_245 rfl (lv_at hl 0 rfl) ?_
          refine lv_iload_n hx hb dL_isSound_246 rfl (lv_at hl 1 rfl) ?_
          refine k0_i (rn_L_115 (As := [.int (nI i)]) (rest := []) (r := 0) C0 (m_X1_weightWanted l D cA N ad (c238) n i R Y L S D9 K st (by omega) hF ht hi hH hok _) hP hS (by omega) hF.1 rfl ⟨rfl, rfl⟩ ⟨by decide, by decide⟩ hl.1 rfl (Nat.le_of_ble_eq_true rfl) dL_isSound_247 ⟨Nat.le_of_ble_eq_true rfl, Nat.le_of_ble_eq_true rfl⟩) C0 hP hS (fun v247 c247 H locs hp hP hS => ?_)
          obtain ⟨hv, t1⟩ := hp
          obtain rfl : v247 = nI 1 := wan_room (R := R) (Y := Y) (L := L) (S := S) (D := D9) (K := K) h233 hv
          have hF := hF.tr t1
          have hH := hH.tr (by omega) t1
          have ht := t1.at
          have tt := tt.trans t1
          refine lv_iconst (v := nI 1) hx hb dL_isSound_250 rfl ?_
          refine n_icmp_ne (tgt := 269) hx hb (by omega) (by omega) dL_isSound_251 (by decide) (fun h251 => ?_) (fun h251 => ?_)
          · exact absurd rfl h251
          refine lv_goto (tgt := 265) hx hb dL_isSound_254 (by decide) ?_
          refine lv_iconst (v := nI 1) hx hb dL_isSound_265 rfl ?_
          refine lv_goto (tgt := 270) hx hb dL_isSound_266 (by decide) ?_
          exact e_z C0 hr hlk hP hS dL_isSound_270 (by decide) (by decide) (by decide +kernel) ⟨rfl, tt⟩
      · obtain ⟨⟨v0, hv0, ev0⟩, ⟨w0, hw0, hw9, ew0⟩, t0, ht0, ht9, et0⟩ := hSn k h103
        refine lv_iload_n hx hb dL_isSound_106 rfl (lv_at hl 3 rfl) ?_
        refine lv_iconst (v := nI 1) hx hb dL_isSound_107 rfl ?_
        refine lv_aload_n hx hb dL_isSound_108 rfl (lv_at hl 0 rfl) ?_
        refine lv_iload_n hx hb dL_isSound_109 rfl (lv_at hl 1 rfl) ?_
        refine lv_iload hx hb dL_isSound_110 (lv_at hl 4 rfl) ?_
        refine k0_i (rn_L_97 (As := [.int (nI i), .int (nI k)]) (rest := [.int (nI 1), .int (nI t)]) (r := 0) C0 (m_X1_rankOf l D cA N ad (c76) n i R Y L S D9 K st k (by omega) hF hi hH hok h103 _) hP hS (by omega) hF.1 rfl ⟨rfl, rfl⟩ ⟨by decide, by decide⟩ hl.1 rfl (Nat.le_of_ble_eq_true rfl) dL_isSound_112 ⟨Nat.le_of_ble_eq_true rfl, Nat.le_of_ble_eq_true rfl⟩) C0 hP hS (fun v112 c112 H locs hp hP hS => ?_)
        obtain ⟨rfl, rfl⟩ := hp
        refine lv_ishl hx hb dL_isSound_115 ?_
        refine lv_ior hx hb dL_isSound_116 ?_
        rw [(hbi.next h103 (by omega)).1]
        refine lv_istore_n (lv' := [(3, .int (nI (t ||| 2 ^ rk (st 0) K k))), (0, .ref (ad 0)), (1, .int (nI i)), (2, .int (nI K)), (4, .int (nI k))]) hx hb dL_isSound_117 rfl hl (by decide) rfl (fun ls hl => ?_)
        refine lv_aload_n hx hb dL_isSound_118 rfl (lv_at hl 1 rfl) ?_
        refine lv_iload_n hx hb dL_isSound_119 rfl (lv_at hl 2 rfl) ?_
        refine lv_iload hx hb dL_isSound_120 (lv_at hl 4 rfl) ?_
        refine k0_i (rn_L_100 (As := [.int (nI i), .int (nI k)]) (rest := []) (r := 0) C0 (m_X1_valueAt l D cA N ad (c76) n i R Y L S D9 K st k (by omega) hF hi hH hok h103 _) hP hS (by omega) hF.1 rfl ⟨rfl, rfl⟩ ⟨by decide, by decide⟩ hl.1 rfl (Nat.le_of_ble_eq_true rfl) dL_isSound_122 ⟨Nat.le_of_ble_eq_true rfl, Nat.le_of_ble_eq_true rfl⟩) C0 hP hS (fun v122 c122 H locs hp hP hS => ?_)
        obtain ⟨hv, rfl⟩ := hp
        obtain rfl : v122 = nI v0 := hv.trans ev0
        refine n_if_lt (tgt := 210) hx hb (by omega) dL_isSound_125 (by decide) (fun h125 => ?_) (fun h125 => ?_)
        · exfalso; omega
        refine lv_aload_n hx hb dL_isSound_128 rfl (lv_at hl 1 rfl) ?_
        refine lv_iload_n hx hb dL_isSound_129 rfl (lv_at hl 2 rfl) ?_
        refine lv_iload hx hb dL_isSound_130 (lv_at hl 4 rfl) ?_
        refine k0_i (rn_L_100 (As := [.int (nI i), .int (nI k)]) (rest := []) (r := 0) C0 (m_X1_valueAt l D cA N ad (c76) n i R Y L S D9 K st k (by omega) hF hi hH hok h103 _) hP hS (by omega) hF.1 rfl ⟨rfl, rfl⟩ ⟨by decide, by decide⟩ hl.1 rfl (Nat.le_of_ble_eq_true rfl) dL_isSound_132 ⟨Nat.le_of_ble_eq_true rfl, Nat.le_of_ble_eq_true rfl⟩) C0 hP hS (fun v132 c132 H locs hp hP hS => ?_)
        obtain ⟨hv, rfl⟩ := hp
        obtain rfl : v132 = nI v0 := hv.trans ev0
        refine lv_sipush (v := nI 999) hx hb dL_isSound_135 rfl ?_
        refine n_icmp_gt (tgt := 210) hx hb (by omega) (by omega) dL_isSound_138 (by decide) (fun h138 => ?_) (fun h138 => ?_)
        · exfalso; omega
        refine lv_aload_n hx hb dL_isSound_141 rfl (lv_at hl 1 rfl) ?_
        refine lv_iload_n hx hb dL_isSound_142 rfl (lv_at hl 2 rfl) ?_
        refine lv_iload hx hb dL_isSound_143 (lv_at hl 4 rfl) ?_
        refine k0_i (rn_L_103 (As := [.int (nI i), .int (nI k)]) (rest := []) (r := 0) C0 (m_X1_weightAt l D cA N ad (c76) n i R Y L S D9 K st k (by omega) hF hi hH hok h103 _) hP hS (by omega) hF.1 rfl ⟨rfl, rfl⟩ ⟨by decide, by decide⟩ hl.1 rfl (Nat.le_of_ble_eq_true rfl) dL_isSound_145 ⟨Nat.le_of_ble_eq_true rfl, Nat.le_of_ble_eq_true rfl⟩) C0 hP hS (fun v145 c145 H locs hp hP hS => ?_)
        obtain ⟨hv, rfl⟩ := hp
        obtain rfl : v145 = nI w0 := hv.trans ew0
        refine lv_iconst (v := nI 1) hx hb dL_isSound_148 rfl ?_
        refine n_icmp_lt (tgt := 210) hx hb (by omega) (by omega) dL_isSound_149 (by decide) (fun h149 => ?_) (fun h149 => ?_)
        · exfalso; omega
        refine lv_aload_n hx hb dL_isSound_152 rfl (lv_at hl 1 rfl) ?_
        refine lv_iload_n hx hb dL_isSound_153 rfl (lv_at hl 2 rfl) ?_
        refine lv_iload hx hb dL_isSound_154 (lv_at hl 4 rfl) ?_
        refine k0_i (rn_L_103 (As := [.int (nI i), .int (nI k)]) (rest := []) (r := 0) C0 (m_X1_weightAt l D cA N ad (c76) n i R Y L S D9 K st k (by omega) hF hi hH hok h103 _) hP hS (by omega) hF.1 rfl ⟨rfl, rfl⟩ ⟨by decide, by decide⟩ hl.1 rfl (Nat.le_of_ble_eq_true rfl) dL_isSound_156 ⟨Nat.le_of_ble_eq_true rfl, Nat.le_of_ble_eq_true rfl⟩) C0 hP hS (fun v156 c156 H locs hp hP hS => ?_)
        obtain ⟨hv, rfl⟩ := hp
        obtain rfl : v156 = nI w0 := hv.trans ew0
        refine lv_bipush (v := nI 9) hx hb dL_isSound_159 rfl ?_
        refine n_icmp_gt (tgt := 210) hx hb (by omega) (by omega) dL_isSound_161 (by decide) (fun h161 => ?_) (fun h161 => ?_)
        · exfalso; omega
        refine lv_aload_n hx hb dL_isSound_164 rfl (lv_at hl 1 rfl) ?_
        refine lv_iload_n hx hb dL_isSound_165 rfl (lv_at hl 2 rfl) ?_
        refine lv_iload hx hb dL_isSound_166 (lv_at hl 4 rfl) ?_
        refine k0_i (rn_L_106 (As := [.int (nI i), .int (nI k)]) (rest := []) (r := 0) C0 (m_X1_cameAs l D cA N ad (c76) n i R Y L S D9 K st k (by omega) hF hi hH hok h103 _) hP hS (by omega) hF.1 rfl ⟨rfl, rfl⟩ ⟨by decide, by decide⟩ hl.1 rfl (Nat.le_of_ble_eq_true rfl) dL_isSound_168 ⟨Nat.le_of_ble_eq_true rfl, Nat.le_of_ble_eq_true rfl⟩) C0 hP hS (fun v168 c168 H locs hp hP hS => ?_)
        obtain ⟨hv, rfl⟩ := hp
        obtain rfl : v168 = nI t0 := hv.trans et0
        refine lv_iconst (v := nI 1) hx hb dL_isSound_171 rfl ?_
        refine n_icmp_lt (tgt := 210) hx hb (by omega) (by omega) dL_isSound_172 (by decide) (fun h172 => ?_) (fun h172 => ?_)
        · exfalso; omega
        refine lv_aload_n hx hb dL_isSound_175 rfl (lv_at hl 1 rfl) ?_
        refine lv_iload_n hx hb dL_isSound_176 rfl (lv_at hl 2 rfl) ?_
        refine lv_iload hx hb dL_isSound_177 (lv_at hl 4 rfl) ?_
        refine k0_i (rn_L_106 (As := [.int (nI i), .int (nI k)]) (rest := []) (r := 0) C0 (m_X1_cameAs l D cA N ad (c76) n i R Y L S D9 K st k (by omega) hF hi hH hok h103 _) hP hS (by omega) hF.1 rfl ⟨rfl, rfl⟩ ⟨by decide, by decide⟩ hl.1 rfl (Nat.le_of_ble_eq_true rfl) dL_isSound_179 ⟨Nat.le_of_ble_eq_true rfl, Nat.le_of_ble_eq_true rfl⟩) C0 hP hS (fun v179 c179 H locs hp hP hS => ?_)
        obtain ⟨hv, rfl⟩ := hp
        obtain rfl : v179 = nI t0 := hv.trans et0
        refine lv_aload_n hx hb dL_isSound_182 rfl (lv_at hl 1 rfl) ?_
        refine lv_iload_n hx hb dL_isSound_183 rfl (lv_at hl 2 rfl) ?_
        refine k0_i (rn_L_26 (As := [.int (nI i)]) (rest := [.int (nI t0)]) (r := 0) C0 (m_X1_seenBy l D cA N ad (c76) n i R Y L S D9 K st (by omega) hF hi hH hok _) hP hS (by omega) hF.1 rfl ⟨rfl, rfl⟩ ⟨by decide, by decide⟩ hl.1 rfl (Nat.le_of_ble_eq_true rfl) dL_isSound_184 ⟨Nat.le_of_ble_eq_true rfl, Nat.le_of_ble_eq_true rfl⟩) C0 hP hS (fun v184 c184 H locs hp hP hS => ?_)
        obtain ⟨rfl, rfl⟩ := hp
        refine n_icmp_gt (tgt := 210) hx hb (by omega) (by omega) dL_isSound_187 (by decide) (fun h187 => ?_) (fun h187 => ?_)
        · exfalso; omega
        refine lv_aload_n hx hb dL_isSound_190 rfl (lv_at hl 1 rfl) ?_
        refine lv_iload_n hx hb dL_isSound_191 rfl (lv_at hl 2 rfl) ?_
        refine lv_aload_n hx hb dL_isSound_192 rfl (lv_at hl 1 rfl) ?_
        refine lv_iload_n hx hb dL_isSound_193 rfl (lv_at hl 2 rfl) ?_
        refine k0_i (rn_L_109 (As := [.int (nI i)]) (rest := [.int (nI i), .ref (ad 0)]) (r := 0) C0 (m_X1_lowest l D cA N ad (c76) n i R Y L S D9 K st (by omega) hF hi hH hok _) hP hS (by omega) hF.1 rfl ⟨rfl, rfl⟩ ⟨by decide, by decide⟩ hl.1 rfl (Nat.le_of_ble_eq_true rfl) dL_isSound_194 ⟨Nat.le_of_ble_eq_true rfl, Nat.le_of_ble_eq_true rfl⟩) C0 hP hS (fun v194 c194 H locs hp hP hS => ?_)
        obtain ⟨hv, rfl⟩ := hp
        obtain ⟨pl, hpl, rfl, hlow⟩ := low_is (V := st 0) (K := K) (by omega) hv
        refine k0_i (rn_L_100 (As := [.int (nI i), .int (nI pl)]) (rest := []) (r := 0) C0 (m_X1_valueAt l D cA N ad (c76) n i R Y L S D9 K st pl (by omega) hF hi hH hok hpl _) hP hS (by omega) hF.1 rfl ⟨rfl, rfl⟩ ⟨by decide, by decide⟩ hl.1 rfl (Nat.le_of_ble_eq_true rfl) dL_isSound_197 ⟨Nat.le_of_ble_eq_true rfl, Nat.le_of_ble_eq_true rfl⟩) C0 hP hS (fun v197 c197 H locs hp hP hS => ?_)
        obtain ⟨rfl, rfl⟩ := hp
        refine lv_aload_n hx hb dL_isSound_200 rfl (lv_at hl 1 rfl) ?_
        refine lv_iload_n hx hb dL_isSound_201 rfl (lv_at hl 2 rfl) ?_
        refine lv_iload hx hb dL_isSound_202 (lv_at hl 4 rfl) ?_
        refine k0_i (rn_L_100 (As := [.int (nI i), .int (nI k)]) (rest := [.int (st 0 pl)]) (r := 0) C0 (m_X1_valueAt l D cA N ad (c76) n i R Y L S D9 K st k (by omega) hF hi hH hok h103 _) hP hS (by omega) hF.1 rfl ⟨rfl, rfl⟩ ⟨by decide, by decide⟩ hl.1 rfl (Nat.le_of_ble_eq_true rfl) dL_isSound_204 ⟨Nat.le_of_ble_eq_true rfl, Nat.le_of_ble_eq_true rfl⟩) C0 hP hS (fun v204 c204 H locs hp hP hS => ?_)
        obtain ⟨rfl, rfl⟩ := hp
        refine lv_icmp_le (tgt := 212) hx hb dL_isSound_207 (by decide) (fun h207 => ?_) (fun h207 => ?_)
        rotate_left
        · exact absurd (i_le (hlow k h103)) h207
        refine lv_iinc (v := nI (k + 1)) (lv' := [(4, .int (nI (k + 1))), (3, .int (nI (t ||| 2 ^ rk (st 0) K k))), (0, .ref (ad 0)), (1, .int (nI i)), (2, .int (nI K))]) hx hb dL_isSound_212 hl (k := 4) rfl (nI_add k 1) (by decide) rfl (fun ls hl => ?_)
        refine lv_goto (tgt := 100) hx hb dL_isSound_215 (by decide) ?_
        exact ih100 (k + 1) (t ||| 2 ^ rk (st 0) K k) (by omega) ((hbi.next h103 (by omega)).2) (by omega) _ _ _ hP hS (lv_sub hl [2, 3, 4, 1, 0] rfl)
  exact loop100 (_ + 1) 0 0 (Nat.zero_le _) (BInv.start) (Nat.lt_succ_self _) _ _ _ hP hS (lv_sub hl [3, 4, 2, 1, 0] rfl)
