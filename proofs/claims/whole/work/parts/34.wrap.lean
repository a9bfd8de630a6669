section LAWR
variable {p : Program} {l : Launch} {e : Env} {R : Room} {s : State} {m : MethodId} {args : Array Value} {below : List Frame} {meth : Method} {c0 : Code} {H : Heap} {locs : List Loc} {cells slots : Nat} {Q : State → Prop}
variable {cc : ByteArray} {nL : Nat} {own : String} {D : va_G} {cA : Nat → ClassId} {N : Nat} {ad : Nat → Nat} {A : Nat → Prop} {pc : Nat} {ls : Array Slot} {rest st0 : List Value} {lv : List (Nat × Value)} {c : Nat → va_E}
/-- a body with handlers, that returns -/
theorem bd_ofH {y : MethodName} {ws ws' : List Cond} {rm : Room} {av : List Value} {Qc : Array Value → State → Outcome → State → Prop} {mc ms : Nat} {maxL : Nat} {ret : Option FieldType} {hh : List (Nat × Nat × Nat × Nat)} {sz : Nat} (hy : plainName y.cls = true) (hw : ws = Cond.codeWith y cc maxL ret hh :: ws') (hcw : ∀ (s : State) (a : Array Value), Ev D cA s → (Cond.codeWith y cc maxL ret hh).before a s = true) (hal : (lg_sl av).length ≤ maxL)
    (body : ∀ (p : Program) (e : Env) (s : State) (m : MethodId) (below : List Frame) (meth : Method) (c0 : Code), Cx p s m c0 cc maxL y.cls D cA N ad (wA N ad s.heap.size) → meth.sig.returnType = ret → meth.locks = false → c0.exceptionTable.toList = tableOf hh → va_P D vwCl (wl N ad c) s.heap → va_S (wA N ad s.heap.size) s.heap s.heap [] → s.heap.size = sz →
      ∀ ls : Array Slot, lv_has ls maxL (lv_args 0 av) → W p l e rm s m av.toArray below meth c0 s.heap [] 0 0 (MQ below Qc av.toArray s mc ms (wA N ad s.heap.size)) (F0 m 0 ls [])) :
    Met l y ws rm (va_Pc av (Pre D cA N ad c sz)) Qc mc ms (wA N ad sz) := by
  have h9 : vx_Met l y ws rm (va_Pc av (Pre D cA N ad c sz)) Qc (fun _ _ _ => False) mc ms (wA N ad sz) := by
    refine vx_ofWH (cc := cc) (maxL := maxL) (ret := ret) hy hw ?_
    intro p e s m args below meth c0 s₁ B hml hv
    obtain ⟨rfl, hsz, hP, hE, hD, hZ⟩ := hv
    have hx := B.exec
    have hb := B.bytes
    have hr := B.returns
    have hT := vx_table (x := y) B (hcw s av.toArray hE)
    have hown : s.vm.findClass y.cls = some m.cls := findClass_of_methodNamed B.named
    have hl := lv_entry av (n := maxL) hal
    have hbody := fun hS => body p e s m below meth c0 ⟨hx, hb, hml, hown, hE, by rw [hsz]; exact hZ, hD.self, fun q h => Or.inr h⟩ hr B.notSynchronized hT hP hS hsz
    rw [lg_entry_eq]
    rw [hsz] at hbody
    exact vx_ret (hbody va_S.rf _ hl)
  refine MetFree.mono h9 (fun _ _ h => h) (fun _ _ _ _ _ h => h) (fun a st o t _ q => ?_)
  rcases q with q | ⟨_, _, E, ce, L, hX, _⟩
  · exact q
  · exact hX.elim
theorem a_lst (C0 : Cx p s m c0 cc nL own D cA N ad A) (hP : va_P D vwCl (wl N ad c) H) (hS : va_S A s.heap H locs) {r : Nat} (hr : r < N) {n j : Nat} {f : Nat → Int64} {x : Int64} (hc : c r = .inl (cA 2, n, .inr (.inl f))) (hn : n < 2 ^ 31) (hj : j < n) (hdg : decode cc pc = .ok (.lastore, 1)) (kk : ∀ (H1 : Heap) (locs1 : List Loc), va_P D vwCl (wl N ad (va_up c r (.inl (cA 2, n, .inr (.inl (vp_updL f j x)))))) H1 → va_S A s.heap H1 locs1 → W p l e R s m args below meth c0 H1 locs1 cells slots Q (F0 m (pc + 1) ls rest)) : W p l e R s m args below meth c0 H locs cells slots Q (F0 m pc ls (.long x :: .int (nI j) :: .ref (ad r) :: rest)) :=
  va_last C0.1 C0.2.1 C0.2.2.2.2.1.1 hP (C0.2.2.2.2.2.2.1.D c) hS r 2 (wl_get hr hc) rfl (vp_in_nI hj hn) hdg (fun H1 locs1 h1 _ h3 => kk H1 locs1 (by rw [wl_set, nI_clamp (by omega)] at h1; exact h1) h3)
theorem a_dst (C0 : Cx p s m c0 cc nL own D cA N ad A) (hP : va_P D vwCl (wl N ad c) H) (hS : va_S A s.heap H locs) {r : Nat} (hr : r < N) {n j : Nat} {f : Nat → UInt64} {x : UInt64} (hc : c r = .inl (cA 3, n, .inr (.inr (.inr (.inl f))))) (hn : n < 2 ^ 31) (hj : j < n) (hdg : decode cc pc = .ok (.dastore, 1)) (kk : ∀ (H1 : Heap) (locs1 : List Loc), va_P D vwCl (wl N ad (va_up c r (.inl (cA 3, n, .inr (.inr (.inr (.inl (vf_upd f j x)))))))) H1 → va_S A s.heap H1 locs1 → W p l e R s m args below meth c0 H1 locs1 cells slots Q (F0 m (pc + 1) ls rest)) : W p l e R s m args below meth c0 H locs cells slots Q (F0 m pc ls (.double x :: .int (nI j) :: .ref (ad r) :: rest)) :=
  va_dast C0.1 C0.2.1 C0.2.2.2.2.1.1 hP (C0.2.2.2.2.2.2.1.D c) hS r 3 (wl_get hr hc) rfl (vp_in_nI hj hn) hdg (fun H1 locs1 h1 _ h3 => kk H1 locs1 (by rw [wl_set, nI_clamp (by omega)] at h1; exact h1) h3)
theorem a_lld (C0 : Cx p s m c0 cc nL own D cA N ad A) (hP : va_P D vwCl (wl N ad c) H) {r : Nat} (hr : r < N) {n j : Nat} {f : Nat → Int64} (hc : c r = .inl (cA 2, n, .inr (.inl f))) (hn : n < 2 ^ 31) (hj : j < n) (hdg : decode cc pc = .ok (.laload, 1)) (kk : W p l e R s m args below meth c0 H locs cells slots Q (F0 m (pc + 1) ls (.long (f j) :: rest))) : W p l e R s m args below meth c0 H locs cells slots Q (F0 m pc ls (.int (nI j) :: .ref (ad r) :: rest)) :=
  va_lald C0.1 C0.2.1 C0.2.2.2.2.1.1 hP r 2 (wl_get hr hc) rfl (vp_in_nI hj hn) hdg (by rw [nI_clamp (by omega)]; exact kk)
theorem a_dld (C0 : Cx p s m c0 cc nL own D cA N ad A) (hP : va_P D vwCl (wl N ad c) H) {r : Nat} (hr : r < N) {n j : Nat} {f : Nat → UInt64} (hc : c r = .inl (cA 3, n, .inr (.inr (.inr (.inl f))))) (hn : n < 2 ^ 31) (hj : j < n) (hdg : decode cc pc = .ok (.daload, 1)) (kk : W p l e R s m args below meth c0 H locs cells slots Q (F0 m (pc + 1) ls (.double (f j) :: rest))) : W p l e R s m args below meth c0 H locs cells slots Q (F0 m pc ls (.int (nI j) :: .ref (ad r) :: rest)) :=
  va_dald C0.1 C0.2.1 C0.2.2.2.2.1.1 hP r 3 (wl_get hr hc) rfl (vp_in_nI hj hn) hdg (by rw [nI_clamp (by omega)]; exact kk)
theorem cl_13 (h : Ev D cA s) (a : Array Value) : (Cond.classLink RL 13 nIAE).before a s = true := h.2.1 _ (List.mem_append_right _ (List.mem_of_getElem? (i := 188) (by decide +kernel : tables_1[188]? = some (Cond.classLink RL 13 nIAE)))) (by decide +kernel) a
theorem cl_15 (h : Ev D cA s) (a : Array Value) : (Cond.classLink RL 15 nISE).before a s = true := h.2.1 _ (List.mem_append_right _ (List.mem_of_getElem? (i := 189) (by decide +kernel : tables_1[189]? = some (Cond.classLink RL 15 nISE)))) (by decide +kernel) a
theorem cl_20 (h : Ev D cA s) (a : Array Value) : (Cond.classLink RL 20 nIOB).before a s = true := h.2.1 _ (List.mem_append_right _ (List.mem_of_getElem? (i := 284) (by decide +kernel : tables_1[284]? = some (Cond.classLink RL 20 nIOB)))) (by decide +kernel) a
theorem ctnIAE (h : Ev D cA s) (a : Array Value) : (Cond.castable nIAE nIAE).before a s = true := h.2.1 _ (List.mem_append_right _ (List.mem_of_getElem? (i := 199) (by decide +kernel : tables_1[199]? = some (Cond.castable nIAE nIAE)))) (by decide +kernel) a
theorem ctnISE (h : Ev D cA s) (a : Array Value) : (Cond.castable nISE nISE).before a s = true := h.2.1 _ (List.mem_append_right _ (List.mem_of_getElem? (i := 267) (by decide +kernel : tables_1[267]? = some (Cond.castable nISE nISE)))) (by decide +kernel) a
theorem ctnIOB (h : Ev D cA s) (a : Array Value) : (Cond.castable nIOB nIOB).before a s = true := h.2.1 _ (List.mem_append_right _ (List.mem_of_getElem? (i := 295) (by decide +kernel : tables_1[295]? = some (Cond.castable nIOB nIOB)))) (by decide +kernel) a
theorem nc_of {a b : String} (h : Ev D cA s) (hm : (a, b) ∈ nons) : va_Nc a b s := h.2.2.2.1 (a, b) hm
end LAWR
set_option maxHeartbeats 1000000 in
set_option maxRecDepth 10000 in
theorem w_L_offer (l : Launch) (D : va_G) (cA : Nat → ClassId) (N : Nat) (ad : Nat → Nat) (c : Nat → va_E) (x y z : Int32) {fs : List Value} (h10 : 12 ≤ N) (h0 : c 0 = .inr (1, fs)) (post : Int32 → (Nat → va_E) → Prop) (M : Ci l yX1_offer wX1_offer { frames := 3, cells := 0, slots := 0, locals := 66 } [.ref (ad 0), .int x, .int y, .int z] D cA N ad c 0 0 post) (hout : ∀ v c', post v c' → ∃ f : Nat → Int64, c' 10 = (.inl (cA 2, 1, .inr (.inl f)))) : Ci l yL_offer wL_offer { frames := 4, cells := 0, slots := 0, locals := 90 } [.ref (ad 0), .int x, .int y, .int z, .ref (ad 10)] D cA N ad c 0 0 (fun v9 c9 => v9 = nI 0 ∧ ∃ v c' f, post v c' ∧ c' 10 = (.inl (cA 2, 1, .inr (.inl f))) ∧ c9 = va_up c' 10 (.inl (cA 2, 1, .inr (.inl (vp_updL f 0 v.toInt64))))) := by
  intro sz9
  refine bd_ofH (cc := cL_offer) (maxL := 6) (ret := some Jvm.ClassFile.FieldType.int) (hh := [(0, 12, 15, 20), (0, 12, 19, 13)]) (by decide) rfl (fun s a h => wd_code_L_offer h a) (Nat.le_of_ble_eq_true rfl) ?_
  intro p e s m below meth c0 C0 hr hlk hT hP hS hsz ls hl
  subst hsz
  have hx := C0.1
  have hb := C0.2.1
  have hl : lv_has ls 6 [(0, .ref (ad 0)), (1, .int x), (2, .int y), (3, .int z), (4, .ref (ad 10))] := hl
  refine lv_aload hx hb dL_offer_0 (lv_at hl 4 rfl) ?_
  refine lv_iconst (v := nI 0) hx hb dL_offer_2 rfl ?_
  refine lv_aload_n hx hb dL_offer_3 rfl (lv_at hl 0 rfl) ?_
  refine lv_iload_n hx hb dL_offer_4 rfl (lv_at hl 1 rfl) ?_
  refine lv_iload_n hx hb dL_offer_5 rfl (lv_at hl 2 rfl) ?_
  refine lv_iload_n hx hb dL_offer_6 rfl (lv_at hl 3 rfl) ?_
  refine k0_i (rn_L_17 (As := [.int x, .int y, .int z]) (rest := [.int (nI 0), .ref (ad 10)]) (r := 0) C0 (M _) hP hS (by omega) h0 rfl ⟨rfl, rfl⟩ ⟨by decide, by decide⟩ hl.1 rfl (Nat.le_of_ble_eq_true rfl) dL_offer_7 ⟨Nat.le_of_ble_eq_true rfl, Nat.le_of_ble_eq_true rfl⟩) C0 hP hS (fun v7 c7 H locs hp hP hS => ?_)
  refine lv_i2l (v := (v7).toInt64) hx hb dL_offer_10 rfl ?_
  obtain ⟨f, hf⟩ := hout v7 c7 hp
  refine a_lst C0 hP hS (by omega) hf (by decide) (by decide) dL_offer_11 (fun H locs hP hS => ?_)
  refine lv_goto (tgt := 23) hx hb dL_offer_12 (by decide) ?_
  refine lv_iconst (v := nI 0) hx hb dL_offer_23 rfl ?_
  exact e_i C0 hr hlk hP hS dL_offer_24 (by decide) (by decide) ⟨rfl, v7, c7, f, hp, hf, rfl⟩
set_option maxHeartbeats 1000000 in
set_option maxRecDepth 10000 in
theorem w_L_offerRow (l : Launch) (D : va_G) (cA : Nat → ClassId) (N : Nat) (ad : Nat → Nat) (c : Nat → va_E) (x y z u : Int32) {fs : List Value} (h10 : 12 ≤ N) (h0 : c 0 = .inr (1, fs)) (post : Int32 → (Nat → va_E) → Prop) (M : Ci l yX1_offerRow wX1_offerRow { frames := 3, cells := 0, slots := 0, locals := 66 } [.ref (ad 0), .int x, .int y, .int z, .int u] D cA N ad c 0 0 post) (hout : ∀ v c', post v c' → ∃ f : Nat → Int64, c' 10 = (.inl (cA 2, 1, .inr (.inl f)))) : Ci l yL_offerRow wL_offerRow { frames := 4, cells := 0, slots := 0, locals := 95 } [.ref (ad 0), .int x, .int y, .int z, .int u, .ref (ad 10)] D cA N ad c 0 0 (fun v9 c9 => v9 = nI 0 ∧ ∃ v c' f, post v c' ∧ c' 10 = (.inl (cA 2, 1, .inr (.inl f))) ∧ c9 = va_up c' 10 (.inl (cA 2, 1, .inr (.inl (vp_updL f 0 v.toInt64))))) := by
  intro sz9
  refine bd_ofH (cc := cL_offerRow) (maxL := 7) (ret := some Jvm.ClassFile.FieldType.int) (hh := [(0, 14, 17, 20), (0, 14, 21, 13)]) (by decide) rfl (fun s a h => wd_code_L_offerRow h a) (Nat.le_of_ble_eq_true rfl) ?_
  intro p e s m below meth c0 C0 hr hlk hT hP hS hsz ls hl
  subst hsz
  have hx := C0.1
  have hb := C0.2.1
  have hl : lv_has ls 7 [(0, .ref (ad 0)), (1, .int x), (2, .int y), (3, .int z), (4, .int u), (5, .ref (ad 10))] := hl
  refine lv_aload hx hb dL_offerRow_0 (lv_at hl 5 rfl) ?_
  refine lv_iconst (v := nI 0) hx hb dL_offerRow_2 rfl ?_
  refine lv_aload_n hx hb dL_offerRow_3 rfl (lv_at hl 0 rfl) ?_
  refine lv_iload_n hx hb dL_offerRow_4 rfl (lv_at hl 1 rfl) ?_
  refine lv_iload_n hx hb dL_offerRow_5 rfl (lv_at hl 2 rfl) ?_
  refine lv_iload_n hx hb dL_offerRow_6 rfl (lv_at hl 3 rfl) ?_
  refine lv_iload hx hb dL_offerRow_7 (lv_at hl 4 rfl) ?_
  refine k0_i (rn_L_22 (As := [.int x, .int y, .int z, .int u]) (rest := [.int (nI 0), .ref (ad 10)]) (r := 0) C0 (M _) hP hS (by omega) h0 rfl ⟨rfl, rfl⟩ ⟨by decide, by decide⟩ hl.1 rfl (Nat.le_of_ble_eq_true rfl) dL_offerRow_9 ⟨Nat.le_of_ble_eq_true rfl, Nat.le_of_ble_eq_true rfl⟩) C0 hP hS (fun v9 c9 H locs hp hP hS => ?_)
  refine lv_i2l (v := (v9).toInt64) hx hb dL_offerRow_12 rfl ?_
  obtain ⟨f, hf⟩ := hout v9 c9 hp
  refine a_lst C0 hP hS (by omega) hf (by decide) (by decide) dL_offerRow_13 (fun H locs hP hS => ?_)
  refine lv_goto (tgt := 25) hx hb dL_offerRow_14 (by decide) ?_
  refine lv_iconst (v := nI 0) hx hb dL_offerRow_25 rfl ?_
  exact e_i C0 hr hlk hP hS dL_offerRow_26 (by decide) (by decide) ⟨rfl, v9, c9, f, hp, hf, rfl⟩
set_option maxHeartbeats 1000000 in
set_option maxRecDepth 10000 in
theorem w_L_mix (l : Launch) (D : va_G) (cA : Nat → ClassId) (N : Nat) (ad : Nat → Nat) (c : Nat → va_E) (x : Int32) {fs : List Value} (h10 : 12 ≤ N) (h0 : c 0 = .inr (1, fs)) (post : Int32 → (Nat → va_E) → Prop) (M : Ci l yX1_mix wX1_mix { frames := 3, cells := 0, slots := 0, locals := 68 } [.ref (ad 0), .int x] D cA N ad c 0 0 post) (hout : ∀ v c', post v c' → ∃ f : Nat → Int64, c' 10 = (.inl (cA 2, 1, .inr (.inl f)))) : Ci l yL_mix wL_mix { frames := 4, cells := 0, slots := 0, locals := 89 } [.ref (ad 0), .int x, .ref (ad 10)] D cA N ad c 0 0 (fun v9 c9 => v9 = nI 0 ∧ ∃ v c' f, post v c' ∧ c' 10 = (.inl (cA 2, 1, .inr (.inl f))) ∧ c9 = va_up c' 10 (.inl (cA 2, 1, .inr (.inl (vp_updL f 0 v.toInt64))))) := by
  intro sz9
  refine bd_ofH (cc := cL_mix) (maxL := 4) (ret := some Jvm.ClassFile.FieldType.int) (hh := [(0, 9, 12, 20)]) (by decide) rfl (fun s a h => wd_code_L_mix h a) (Nat.le_of_ble_eq_true rfl) ?_
  intro p e s m below meth c0 C0 hr hlk hT hP hS hsz ls hl
  subst hsz
  have hx := C0.1
  have hb := C0.2.1
  have hl : lv_has ls 4 [(0, .ref (ad 0)), (1, .int x), (2, .ref (ad 10))] := hl
  refine lv_aload_n hx hb dL_mix_0 rfl (lv_at hl 2 rfl) ?_
  refine lv_iconst (v := nI 0) hx hb dL_mix_1 rfl ?_
  refine lv_aload_n hx hb dL_mix_2 rfl (lv_at hl 0 rfl) ?_
  refine lv_iload_n hx hb dL_mix_3 rfl (lv_at hl 1 rfl) ?_
  refine k0_i (rn_L_26 (As := [.int x]) (rest := [.int (nI 0), .ref (ad 10)]) (r := 0) C0 (M _) hP hS (by omega) h0 rfl ⟨rfl, rfl⟩ ⟨by decide, by decide⟩ hl.1 rfl (Nat.le_of_ble_eq_true rfl) dL_mix_4 ⟨Nat.le_of_ble_eq_true rfl, Nat.le_of_ble_eq_true rfl⟩) C0 hP hS (fun v4 c4 H locs hp hP hS => ?_)
  refine lv_i2l (v := (v4).toInt64) hx hb dL_mix_7 rfl ?_
  obtain ⟨f, hf⟩ := hout v4 c4 hp
  refine a_lst C0 hP hS (by omega) hf (by decide) (by decide) dL_mix_8 (fun H locs hP hS => ?_)
  refine lv_goto (tgt := 15) hx hb dL_mix_9 (by decide) ?_
  refine lv_iconst (v := nI 0) hx hb dL_mix_15 rfl ?_
  exact e_i C0 hr hlk hP hS dL_mix_16 (by decide) (by decide) ⟨rfl, v4, c4, f, hp, hf, rfl⟩
set_option maxHeartbeats 1000000 in
set_option maxRecDepth 10000 in
theorem w_L_join (l : Launch) (D : va_G) (cA : Nat → ClassId) (N : Nat) (ad : Nat → Nat) (c : Nat → va_E) (x y : Int32) {fs : List Value} (h10 : 12 ≤ N) (h0 : c 0 = .inr (1, fs)) (post : Int32 → (Nat → va_E) → Prop) (M : Ci l yX1_join wX1_join { frames := 4, cells := 0, slots := 0, locals := 95 } [.ref (ad 0), .int x, .int y] D cA N ad c 0 0 post) (hout : ∀ v c', post v c' → ∃ f : Nat → Int64, c' 10 = (.inl (cA 2, 1, .inr (.inl f)))) : Ci l yL_join wL_join { frames := 5, cells := 0, slots := 0, locals := 120 } [.ref (ad 0), .int x, .int y, .ref (ad 10)] D cA N ad c 0 0 (fun v9 c9 => v9 = nI 0 ∧ ∃ v c' f, post v c' ∧ c' 10 = (.inl (cA 2, 1, .inr (.inl f))) ∧ c9 = va_up c' 10 (.inl (cA 2, 1, .inr (.inl (vp_updL f 0 v.toInt64))))) := by
  intro sz9
  refine bd_ofH (cc := cL_join) (maxL := 5) (ret := some Jvm.ClassFile.FieldType.int) (hh := [(0, 10, 13, 20), (0, 10, 17, 13), (0, 10, 21, 15)]) (by decide) rfl (fun s a h => wd_code_L_join h a) (Nat.le_of_ble_eq_true rfl) ?_
  intro p e s m below meth c0 C0 hr hlk hT hP hS hsz ls hl
  subst hsz
  have hx := C0.1
  have hb := C0.2.1
  have hl : lv_has ls 5 [(0, .ref (ad 0)), (1, .int x), (2, .int y), (3, .ref (ad 10))] := hl
  refine lv_aload_n hx hb dL_join_0 rfl (lv_at hl 3 rfl) ?_
  refine lv_iconst (v := nI 0) hx hb dL_join_1 rfl ?_
  refine lv_aload_n hx hb dL_join_2 rfl (lv_at hl 0 rfl) ?_
  refine lv_iload_n hx hb dL_join_3 rfl (lv_at hl 1 rfl) ?_
  refine lv_iload_n hx hb dL_join_4 rfl (lv_at hl 2 rfl) ?_
  refine k0_i (rn_L_30 (As := [.int x, .int y]) (rest := [.int (nI 0), .ref (ad 10)]) (r := 0) C0 (M _) hP hS (by omega) h0 rfl ⟨rfl, rfl⟩ ⟨by decide, by decide⟩ hl.1 rfl (Nat.le_of_ble_eq_true rfl) dL_join_5 ⟨Nat.le_of_ble_eq_true rfl, Nat.le_of_ble_eq_true rfl⟩) C0 hP hS (fun v5 c5 H locs hp hP hS => ?_)
  refine lv_i2l (v := (v5).toInt64) hx hb dL_join_8 rfl ?_
  obtain ⟨f, hf⟩ := hout v5 c5 hp
  refine a_lst C0 hP hS (by omega) hf (by decide) (by decide) dL_join_9 (fun H locs hP hS => ?_)
  refine lv_goto (tgt := 25) hx hb dL_join_10 (by decide) ?_
  refine lv_iconst (v := nI 0) hx hb dL_join_25 rfl ?_
  exact e_i C0 hr hlk hP hS dL_join_26 (by decide) (by decide) ⟨rfl, v5, c5, f, hp, hf, rfl⟩
set_option maxHeartbeats 1000000 in
set_option maxRecDepth 10000 in
theorem w_L_setLuck (l : Launch) (D : va_G) (cA : Nat → ClassId) (N : Nat) (ad : Nat → Nat) (c : Nat → va_E) (x y : Int32) {fs : List Value} (h10 : 12 ≤ N) (h0 : c 0 = .inr (1, fs)) (post : Int32 → (Nat → va_E) → Prop) (M : Ci l yX1_setLuck wX1_setLuck { frames := 1, cells := 0, slots := 0, locals := 22 } [.ref (ad 0), .int x, .int y] D cA N ad c 0 0 post) (hout : ∀ v c', post v c' → ∃ f : Nat → Int64, c' 10 = (.inl (cA 2, 1, .inr (.inl f)))) : Ci l yL_setLuck wL_setLuck { frames := 2, cells := 0, slots := 0, locals := 46 } [.ref (ad 0), .int x, .int y, .ref (ad 10)] D cA N ad c 0 0 (fun v9 c9 => v9 = nI 0 ∧ ∃ v c' f, post v c' ∧ c' 10 = (.inl (cA 2, 1, .inr (.inl f))) ∧ c9 = va_up c' 10 (.inl (cA 2, 1, .inr (.inl (vp_updL f 0 v.toInt64))))) := by
  intro sz9
  refine bd_ofH (cc := cL_setLuck) (maxL := 5) (ret := some Jvm.ClassFile.FieldType.int) (hh := [(0, 10, 13, 20), (0, 10, 17, 13)]) (by decide) rfl (fun s a h => wd_code_L_setLuck h a) (Nat.le_of_ble_eq_true rfl) ?_
  intro p e s m below meth c0 C0 hr hlk hT hP hS hsz ls hl
  subst hsz
  have hx := C0.1
  have hb := C0.2.1
  have hl : lv_has ls 5 [(0, .ref (ad 0)), (1, .int x), (2, .int y), (3, .ref (ad 10))] := hl
  refine lv_aload_n hx hb dL_setLuck_0 rfl (lv_at hl 3 rfl) ?_
  refine lv_iconst (v := nI 0) hx hb dL_setLuck_1 rfl ?_
  refine lv_aload_n hx hb dL_setLuck_2 rfl (lv_at hl 0 rfl) ?_
  refine lv_iload_n hx hb dL_setLuck_3 rfl (lv_at hl 1 rfl) ?_
  refine lv_iload_n hx hb dL_setLuck_4 rfl (lv_at hl 2 rfl) ?_
  refine k0_i (rn_L_34 (As := [.int x, .int y]) (rest := [.int (nI 0), .ref (ad 10)]) (r := 0) C0 (M _) hP hS (by omega) h0 rfl ⟨rfl, rfl⟩ ⟨by decide, by decide⟩ hl.1 rfl (Nat.le_of_ble_eq_true rfl) dL_setLuck_5 ⟨Nat.le_of_ble_eq_true rfl, Nat.le_of_ble_eq_true rfl⟩) C0 hP hS (fun v5 c5 H locs hp hP hS => ?_)
  refine lv_i2l (v := (v5).toInt64) hx hb dL_setLuck_8 rfl ?_
  obtain ⟨f, hf⟩ := hout v5 c5 hp
  refine a_lst C0 hP hS (by omega) hf (by decide) (by decide) dL_setLuck_9 (fun H locs hP hS => ?_)
  refine lv_goto (tgt := 21) hx hb dL_setLuck_10 (by decide) ?_
  refine lv_iconst (v := nI 0) hx hb dL_setLuck_21 rfl ?_
  exact e_i C0 hr hlk hP hS dL_setLuck_22 (by decide) (by decide) ⟨rfl, v5, c5, f, hp, hf, rfl⟩
set_option maxHeartbeats 1000000 in
set_option maxRecDepth 10000 in
theorem w_L_holds (l : Launch) (D : va_G) (cA : Nat → ClassId) (N : Nat) (ad : Nat → Nat) (c : Nat → va_E) (x : Int32) {fs : List Value} (h10 : 12 ≤ N) (h0 : c 0 = .inr (1, fs)) (post : Int32 → (Nat → va_E) → Prop) (M : Ci l yX1_holds wX1_holds { frames := 1, cells := 0, slots := 0, locals := 22 } [.ref (ad 0), .int x] D cA N ad c 0 0 post) (hout : ∀ v c', post v c' → ∃ f : Nat → Int64, c' 10 = (.inl (cA 2, 1, .inr (.inl f)))) : Ci l yL_holds wL_holds { frames := 2, cells := 0, slots := 0, locals := 43 } [.ref (ad 0), .int x, .ref (ad 10)] D cA N ad c 0 0 (fun v9 c9 => v9 = nI 0 ∧ ∃ v c' f, post v c' ∧ c' 10 = (.inl (cA 2, 1, .inr (.inl f))) ∧ c9 = va_up c' 10 (.inl (cA 2, 1, .inr (.inl (vp_updL f 0 v.toInt64))))) := by
  intro sz9
  refine bd_ofH (cc := cL_holds) (maxL := 4) (ret := some Jvm.ClassFile.FieldType.int) (hh := [(0, 9, 12, 20)]) (by decide) rfl (fun s a h => wd_code_L_holds h a) (Nat.le_of_ble_eq_true rfl) ?_
  intro p e s m below meth c0 C0 hr hlk hT hP hS hsz ls hl
  subst hsz
  have hx := C0.1
  have hb := C0.2.1
  have hl : lv_has ls 4 [(0, .ref (ad 0)), (1, .int x), (2, .ref (ad 10))] := hl
  refine lv_aload_n hx hb dL_holds_0 rfl (lv_at hl 2 rfl) ?_
  refine lv_iconst (v := nI 0) hx hb dL_holds_1 rfl ?_
  refine lv_aload_n hx hb dL_holds_2 rfl (lv_at hl 0 rfl) ?_
  refine lv_iload_n hx hb dL_holds_3 rfl (lv_at hl 1 rfl) ?_
  refine k0_i (rn_L_37 (As := [.int x]) (rest := [.int (nI 0), .ref (ad 10)]) (r := 0) C0 (M _) hP hS (by omega) h0 rfl ⟨rfl, rfl⟩ ⟨by decide, by decide⟩ hl.1 rfl (Nat.le_of_ble_eq_true rfl) dL_holds_4 ⟨Nat.le_of_ble_eq_true rfl, Nat.le_of_ble_eq_true rfl⟩) C0 hP hS (fun v4 c4 H locs hp hP hS => ?_)
  refine lv_i2l (v := (v4).toInt64) hx hb dL_holds_7 rfl ?_
  obtain ⟨f, hf⟩ := hout v4 c4 hp
  refine a_lst C0 hP hS (by omega) hf (by decide) (by decide) dL_holds_8 (fun H locs hP hS => ?_)
  refine lv_goto (tgt := 15) hx hb dL_holds_9 (by decide) ?_
  refine lv_iconst (v := nI 0) hx hb dL_holds_15 rfl ?_
  exact e_i C0 hr hlk hP hS dL_holds_16 (by decide) (by decide) ⟨rfl, v4, c4, f, hp, hf, rfl⟩
set_option maxHeartbeats 1000000 in
set_option maxRecDepth 10000 in
theorem w_L_roomOf (l : Launch) (D : va_G) (cA : Nat → ClassId) (N : Nat) (ad : Nat → Nat) (c : Nat → va_E) (x : Int32) {fs : List Value} (h10 : 12 ≤ N) (h0 : c 0 = .inr (1, fs)) (post : Int32 → (Nat → va_E) → Prop) (M : Ci l yX1_roomOf wX1_roomOf { frames := 1, cells := 0, slots := 0, locals := 22 } [.ref (ad 0), .int x] D cA N ad c 0 0 post) (hout : ∀ v c', post v c' → ∃ f : Nat → Int64, c' 10 = (.inl (cA 2, 1, .inr (.inl f)))) : Ci l yL_roomOf wL_roomOf { frames := 2, cells := 0, slots := 0, locals := 43 } [.ref (ad 0), .int x, .ref (ad 10)] D cA N ad c 0 0 (fun v9 c9 => v9 = nI 0 ∧ ∃ v c' f, post v c' ∧ c' 10 = (.inl (cA 2, 1, .inr (.inl f))) ∧ c9 = va_up c' 10 (.inl (cA 2, 1, .inr (.inl (vp_updL f 0 v.toInt64))))) := by
  intro sz9
  refine bd_ofH (cc := cL_roomOf) (maxL := 4) (ret := some Jvm.ClassFile.FieldType.int) (hh := [(0, 9, 12, 20)]) (by decide) rfl (fun s a h => wd_code_L_roomOf h a) (Nat.le_of_ble_eq_true rfl) ?_
  intro p e s m below meth c0 C0 hr hlk hT hP hS hsz ls hl
  subst hsz
  have hx := C0.1
  have hb := C0.2.1
  have hl : lv_has ls 4 [(0, .ref (ad 0)), (1, .int x), (2, .ref (ad 10))] := hl
  refine lv_aload_n hx hb dL_roomOf_0 rfl (lv_at hl 2 rfl) ?_
  refine lv_iconst (v := nI 0) hx hb dL_roomOf_1 rfl ?_
  refine lv_aload_n hx hb dL_roomOf_2 rfl (lv_at hl 0 rfl) ?_
  refine lv_iload_n hx hb dL_roomOf_3 rfl (lv_at hl 1 rfl) ?_
  refine k0_i (rn_L_40 (As := [.int x]) (rest := [.int (nI 0), .ref (ad 10)]) (r := 0) C0 (M _) hP hS (by omega) h0 rfl ⟨rfl, rfl⟩ ⟨by decide, by decide⟩ hl.1 rfl (Nat.le_of_ble_eq_true rfl) dL_roomOf_4 ⟨Nat.le_of_ble_eq_true rfl, Nat.le_of_ble_eq_true rfl⟩) C0 hP hS (fun v4 c4 H locs hp hP hS => ?_)
  refine lv_i2l (v := (v4).toInt64) hx hb dL_roomOf_7 rfl ?_
  obtain ⟨f, hf⟩ := hout v4 c4 hp
  refine a_lst C0 hP hS (by omega) hf (by decide) (by decide) dL_roomOf_8 (fun H locs hP hS => ?_)
  refine lv_goto (tgt := 15) hx hb dL_roomOf_9 (by decide) ?_
  refine lv_iconst (v := nI 0) hx hb dL_roomOf_15 rfl ?_
  exact e_i C0 hr hlk hP hS dL_roomOf_16 (by decide) (by decide) ⟨rfl, v4, c4, f, hp, hf, rfl⟩
set_option maxHeartbeats 1000000 in
set_option maxRecDepth 10000 in
theorem w_L_seenBy (l : Launch) (D : va_G) (cA : Nat → ClassId) (N : Nat) (ad : Nat → Nat) (c : Nat → va_E) (x : Int32) {fs : List Value} (h10 : 12 ≤ N) (h0 : c 0 = .inr (1, fs)) (post : Int32 → (Nat → va_E) → Prop) (M : Ci l yX1_seenBy wX1_seenBy { frames := 1, cells := 0, slots := 0, locals := 22 } [.ref (ad 0), .int x] D cA N ad c 0 0 post) (hout : ∀ v c', post v c' → ∃ f : Nat → Int64, c' 10 = (.inl (cA 2, 1, .inr (.inl f)))) : Ci l yL_seenBy wL_seenBy { frames := 2, cells := 0, slots := 0, locals := 43 } [.ref (ad 0), .int x, .ref (ad 10)] D cA N ad c 0 0 (fun v9 c9 => v9 = nI 0 ∧ ∃ v c' f, post v c' ∧ c' 10 = (.inl (cA 2, 1, .inr (.inl f))) ∧ c9 = va_up c' 10 (.inl (cA 2, 1, .inr (.inl (vp_updL f 0 v.toInt64))))) := by
  intro sz9
  refine bd_ofH (cc := cL_seenBy) (maxL := 4) (ret := some Jvm.ClassFile.FieldType.int) (hh := [(0, 9, 12, 20)]) (by decide) rfl (fun s a h => wd_code_L_seenBy h a) (Nat.le_of_ble_eq_true rfl) ?_
  intro p e s m below meth c0 C0 hr hlk hT hP hS hsz ls hl
  subst hsz
  have hx := C0.1
  have hb := C0.2.1
  have hl : lv_has ls 4 [(0, .ref (ad 0)), (1, .int x), (2, .ref (ad 10))] := hl
  refine lv_aload_n hx hb dL_seenBy_0 rfl (lv_at hl 2 rfl) ?_
  refine lv_iconst (v := nI 0) hx hb dL_seenBy_1 rfl ?_
  refine lv_aload_n hx hb dL_seenBy_2 rfl (lv_at hl 0 rfl) ?_
  refine lv_iload_n hx hb dL_seenBy_3 rfl (lv_at hl 1 rfl) ?_
  refine k0_i (rn_L_43 (As := [.int x]) (rest := [.int (nI 0), .ref (ad 10)]) (r := 0) C0 (M _) hP hS (by omega) h0 rfl ⟨rfl, rfl⟩ ⟨by decide, by decide⟩ hl.1 rfl (Nat.le_of_ble_eq_true rfl) dL_seenBy_4 ⟨Nat.le_of_ble_eq_true rfl, Nat.le_of_ble_eq_true rfl⟩) C0 hP hS (fun v4 c4 H locs hp hP hS => ?_)
  refine lv_i2l (v := (v4).toInt64) hx hb dL_seenBy_7 rfl ?_
  obtain ⟨f, hf⟩ := hout v4 c4 hp
  refine a_lst C0 hP hS (by omega) hf (by decide) (by decide) dL_seenBy_8 (fun H locs hP hS => ?_)
  refine lv_goto (tgt := 15) hx hb dL_seenBy_9 (by decide) ?_
  refine lv_iconst (v := nI 0) hx hb dL_seenBy_15 rfl ?_
  exact e_i C0 hr hlk hP hS dL_seenBy_16 (by decide) (by decide) ⟨rfl, v4, c4, f, hp, hf, rfl⟩
set_option maxHeartbeats 1000000 in
set_option maxRecDepth 10000 in
theorem w_L_loadOf (l : Launch) (D : va_G) (cA : Nat → ClassId) (N : Nat) (ad : Nat → Nat) (c : Nat → va_E) (x : Int32) {fs : List Value} (h10 : 12 ≤ N) (h0 : c 0 = .inr (1, fs)) (post : Int32 → (Nat → va_E) → Prop) (M : Ci l yX1_loadOf wX1_loadOf { frames := 1, cells := 0, slots := 0, locals := 22 } [.ref (ad 0), .int x] D cA N ad c 0 0 post) (hout : ∀ v c', post v c' → ∃ f : Nat → Int64, c' 10 = (.inl (cA 2, 1, .inr (.inl f)))) : Ci l yL_loadOf wL_loadOf { frames := 2, cells := 0, slots := 0, locals := 43 } [.ref (ad 0), .int x, .ref (ad 10)] D cA N ad c 0 0 (fun v9 c9 => v9 = nI 0 ∧ ∃ v c' f, post v c' ∧ c' 10 = (.inl (cA 2, 1, .inr (.inl f))) ∧ c9 = va_up c' 10 (.inl (cA 2, 1, .inr (.inl (vp_updL f 0 v.toInt64))))) := by
  intro sz9
  refine bd_ofH (cc := cL_loadOf) (maxL := 4) (ret := some Jvm.ClassFile.FieldType.int) (hh := [(0, 9, 12, 20)]) (by decide) rfl (fun s a h => wd_code_L_loadOf h a) (Nat.le_of_ble_eq_true rfl) ?_
  intro p e s m below meth c0 C0 hr hlk hT hP hS hsz ls hl
  subst hsz
  have hx := C0.1
  have hb := C0.2.1
  have hl : lv_has ls 4 [(0, .ref (ad 0)), (1, .int x), (2, .ref (ad 10))] := hl
  refine lv_aload_n hx hb dL_loadOf_0 rfl (lv_at hl 2 rfl) ?_
  refine lv_iconst (v := nI 0) hx hb dL_loadOf_1 rfl ?_
  refine lv_aload_n hx hb dL_loadOf_2 rfl (lv_at hl 0 rfl) ?_
  refine lv_iload_n hx hb dL_loadOf_3 rfl (lv_at hl 1 rfl) ?_
  refine k0_i (rn_L_46 (As := [.int x]) (rest := [.int (nI 0), .ref (ad 10)]) (r := 0) C0 (M _) hP hS (by omega) h0 rfl ⟨rfl, rfl⟩ ⟨by decide, by decide⟩ hl.1 rfl (Nat.le_of_ble_eq_true rfl) dL_loadOf_4 ⟨Nat.le_of_ble_eq_true rfl, Nat.le_of_ble_eq_true rfl⟩) C0 hP hS (fun v4 c4 H locs hp hP hS => ?_)
  refine lv_i2l (v := (v4).toInt64) hx hb dL_loadOf_7 rfl ?_
  obtain ⟨f, hf⟩ := hout v4 c4 hp
  refine a_lst C0 hP hS (by omega) hf (by decide) (by decide) dL_loadOf_8 (fun H locs hP hS => ?_)
  refine lv_goto (tgt := 15) hx hb dL_loadOf_9 (by decide) ?_
  refine lv_iconst (v := nI 0) hx hb dL_loadOf_15 rfl ?_
  exact e_i C0 hr hlk hP hS dL_loadOf_16 (by decide) (by decide) ⟨rfl, v4, c4, f, hp, hf, rfl⟩
set_option maxHeartbeats 1000000 in
set_option maxRecDepth 10000 in
theorem w_L_luckOf (l : Launch) (D : va_G) (cA : Nat → ClassId) (N : Nat) (ad : Nat → Nat) (c : Nat → va_E) (x : Int32) {fs : List Value} (h10 : 12 ≤ N) (h0 : c 0 = .inr (1, fs)) (post : Int32 → (Nat → va_E) → Prop) (M : Ci l yX1_luckOf wX1_luckOf { frames := 1, cells := 0, slots := 0, locals := 22 } [.ref (ad 0), .int x] D cA N ad c 0 0 post) (hout : ∀ v c', post v c' → ∃ f : Nat → Int64, c' 10 = (.inl (cA 2, 1, .inr (.inl f)))) : Ci l yL_luckOf wL_luckOf { frames := 2, cells := 0, slots := 0, locals := 43 } [.ref (ad 0), .int x, .ref (ad 10)] D cA N ad c 0 0 (fun v9 c9 => v9 = nI 0 ∧ ∃ v c' f, post v c' ∧ c' 10 = (.inl (cA 2, 1, .inr (.inl f))) ∧ c9 = va_up c' 10 (.inl (cA 2, 1, .inr (.inl (vp_updL f 0 v.toInt64))))) := by
  intro sz9
  refine bd_ofH (cc := cL_luckOf) (maxL := 4) (ret := some Jvm.ClassFile.FieldType.int) (hh := [(0, 9, 12, 20)]) (by decide) rfl (fun s a h => wd_code_L_luckOf h a) (Nat.le_of_ble_eq_true rfl) ?_
  intro p e s m below meth c0 C0 hr hlk hT hP hS hsz ls hl
  subst hsz
  have hx := C0.1
  have hb := C0.2.1
  have hl : lv_has ls 4 [(0, .ref (ad 0)), (1, .int x), (2, .ref (ad 10))] := hl
  refine lv_aload_n hx hb dL_luckOf_0 rfl (lv_at hl 2 rfl) ?_
  refine lv_iconst (v := nI 0) hx hb dL_luckOf_1 rfl ?_
  refine lv_aload_n hx hb dL_luckOf_2 rfl (lv_at hl 0 rfl) ?_
  refine lv_iload_n hx hb dL_luckOf_3 rfl (lv_at hl 1 rfl) ?_
  refine k0_i (rn_L_49 (As := [.int x]) (rest := [.int (nI 0), .ref (ad 10)]) (r := 0) C0 (M _) hP hS (by omega) h0 rfl ⟨rfl, rfl⟩ ⟨by decide, by decide⟩ hl.1 rfl (Nat.le_of_ble_eq_true rfl) dL_luckOf_4 ⟨Nat.le_of_ble_eq_true rfl, Nat.le_of_ble_eq_true rfl⟩) C0 hP hS (fun v4 c4 H locs hp hP hS => ?_)
  refine lv_i2l (v := (v4).toInt64) hx hb dL_luckOf_7 rfl ?_
  obtain ⟨f, hf⟩ := hout v4 c4 hp
  refine a_lst C0 hP hS (by omega) hf (by decide) (by decide) dL_luckOf_8 (fun H locs hP hS => ?_)
  refine lv_goto (tgt := 15) hx hb dL_luckOf_9 (by decide) ?_
  refine lv_iconst (v := nI 0) hx hb dL_luckOf_15 rfl ?_
  exact e_i C0 hr hlk hP hS dL_luckOf_16 (by decide) (by decide) ⟨rfl, v4, c4, f, hp, hf, rfl⟩
set_option maxHeartbeats 1000000 in
set_option maxRecDepth 10000 in
theorem w_L_valueAt (l : Launch) (D : va_G) (cA : Nat → ClassId) (N : Nat) (ad : Nat → Nat) (c : Nat → va_E) (x y : Int32) {fs : List Value} (h10 : 12 ≤ N) (h0 : c 0 = .inr (1, fs)) (post : Int32 → (Nat → va_E) → Prop) (M : Ci l yX1_valueAt wX1_valueAt { frames := 2, cells := 0, slots := 0, locals := 45 } [.ref (ad 0), .int x, .int y] D cA N ad c 0 0 post) (hout : ∀ v c', post v c' → ∃ f : Nat → Int64, c' 10 = (.inl (cA 2, 1, .inr (.inl f)))) : Ci l yL_valueAt wL_valueAt { frames := 3, cells := 0, slots := 0, locals := 67 } [.ref (ad 0), .int x, .int y, .ref (ad 10)] D cA N ad c 0 0 (fun v9 c9 => v9 = nI 0 ∧ ∃ v c' f, post v c' ∧ c' 10 = (.inl (cA 2, 1, .inr (.inl f))) ∧ c9 = va_up c' 10 (.inl (cA 2, 1, .inr (.inl (vp_updL f 0 v.toInt64))))) := by
  intro sz9
  refine bd_ofH (cc := cL_valueAt) (maxL := 5) (ret := some Jvm.ClassFile.FieldType.int) (hh := [(0, 10, 13, 20)]) (by decide) rfl (fun s a h => wd_code_L_valueAt h a) (Nat.le_of_ble_eq_true rfl) ?_
  intro p e s m below meth c0 C0 hr hlk hT hP hS hsz ls hl
  subst hsz
  have hx := C0.1
  have hb := C0.2.1
  have hl : lv_has ls 5 [(0, .ref (ad 0)), (1, .int x), (2, .int y), (3, .ref (ad 10))] := hl
  refine lv_aload_n hx hb dL_valueAt_0 rfl (lv_at hl 3 rfl) ?_
  refine lv_iconst (v := nI 0) hx hb dL_valueAt_1 rfl ?_
  refine lv_aload_n hx hb dL_valueAt_2 rfl (lv_at hl 0 rfl) ?_
  refine lv_iload_n hx hb dL_valueAt_3 rfl (lv_at hl 1 rfl) ?_
  refine lv_iload_n hx hb dL_valueAt_4 rfl (lv_at hl 2 rfl) ?_
  refine k0_i (rn_L_52 (As := [.int x, .int y]) (rest := [.int (nI 0), .ref (ad 10)]) (r := 0) C0 (M _) hP hS (by omega) h0 rfl ⟨rfl, rfl⟩ ⟨by decide, by decide⟩ hl.1 rfl (Nat.le_of_ble_eq_true rfl) dL_valueAt_5 ⟨Nat.le_of_ble_eq_true rfl, Nat.le_of_ble_eq_true rfl⟩) C0 hP hS (fun v5 c5 H locs hp hP hS => ?_)
  refine lv_i2l (v := (v5).toInt64) hx hb dL_valueAt_8 rfl ?_
  obtain ⟨f, hf⟩ := hout v5 c5 hp
  refine a_lst C0 hP hS (by omega) hf (by decide) (by decide) dL_valueAt_9 (fun H locs hP hS => ?_)
  refine lv_goto (tgt := 17) hx hb dL_valueAt_10 (by decide) ?_
  refine lv_iconst (v := nI 0) hx hb dL_valueAt_17 rfl ?_
  exact e_i C0 hr hlk hP hS dL_valueAt_18 (by decide) (by decide) ⟨rfl, v5, c5, f, hp, hf, rfl⟩
set_option maxHeartbeats 1000000 in
set_option maxRecDepth 10000 in
theorem w_L_weightAt (l : Launch) (D : va_G) (cA : Nat → ClassId) (N : Nat) (ad : Nat → Nat) (c : Nat → va_E) (x y : Int32) {fs : List Value} (h10 : 12 ≤ N) (h0 : c 0 = .inr (1, fs)) (post : Int32 → (Nat → va_E) → Prop) (M : Ci l yX1_weightAt wX1_weightAt { frames := 2, cells := 0, slots := 0, locals := 45 } [.ref (ad 0), .int x, .int y] D cA N ad c 0 0 post) (hout : ∀ v c', post v c' → ∃ f : Nat → Int64, c' 10 = (.inl (cA 2, 1, .inr (.inl f)))) : Ci l yL_weightAt wL_weightAt { frames := 3, cells := 0, slots := 0, locals := 67 } [.ref (ad 0), .int x, .int y, .ref (ad 10)] D cA N ad c 0 0 (fun v9 c9 => v9 = nI 0 ∧ ∃ v c' f, post v c' ∧ c' 10 = (.inl (cA 2, 1, .inr (.inl f))) ∧ c9 = va_up c' 10 (.inl (cA 2, 1, .inr (.inl (vp_updL f 0 v.toInt64))))) := by
  intro sz9
  refine bd_ofH (cc := cL_weightAt) (maxL := 5) (ret := some Jvm.ClassFile.FieldType.int) (hh := [(0, 10, 13, 20)]) (by decide) rfl (fun s a h => wd_code_L_weightAt h a) (Nat.le_of_ble_eq_true rfl) ?_
  intro p e s m below meth c0 C0 hr hlk hT hP hS hsz ls hl
  subst hsz
  have hx := C0.1
  have hb := C0.2.1
  have hl : lv_has ls 5 [(0, .ref (ad 0)), (1, .int x), (2, .int y), (3, .ref (ad 10))] := hl
  refine lv_aload_n hx hb dL_weightAt_0 rfl (lv_at hl 3 rfl) ?_
  refine lv_iconst (v := nI 0) hx hb dL_weightAt_1 rfl ?_
  refine lv_aload_n hx hb dL_weightAt_2 rfl (lv_at hl 0 rfl) ?_
  refine lv_iload_n hx hb dL_weightAt_3 rfl (lv_at hl 1 rfl) ?_
  refine lv_iload_n hx hb dL_weightAt_4 rfl (lv_at hl 2 rfl) ?_
  refine k0_i (rn_L_55 (As := [.int x, .int y]) (rest := [.int (nI 0), .ref (ad 10)]) (r := 0) C0 (M _) hP hS (by omega) h0 rfl ⟨rfl, rfl⟩ ⟨by decide, by decide⟩ hl.1 rfl (Nat.le_of_ble_eq_true rfl) dL_weightAt_5 ⟨Nat.le_of_ble_eq_true rfl, Nat.le_of_ble_eq_true rfl⟩) C0 hP hS (fun v5 c5 H locs hp hP hS => ?_)
  refine lv_i2l (v := (v5).toInt64) hx hb dL_weightAt_8 rfl ?_
  obtain ⟨f, hf⟩ := hout v5 c5 hp
  refine a_lst C0 hP hS (by omega) hf (by decide) (by decide) dL_weightAt_9 (fun H locs hP hS => ?_)
  refine lv_goto (tgt := 17) hx hb dL_weightAt_10 (by decide) ?_
  refine lv_iconst (v := nI 0) hx hb dL_weightAt_17 rfl ?_
  exact e_i C0 hr hlk hP hS dL_weightAt_18 (by decide) (by decide) ⟨rfl, v5, c5, f, hp, hf, rfl⟩
set_option maxHeartbeats 1000000 in
set_option maxRecDepth 10000 in
theorem w_L_cameAs (l : Launch) (D : va_G) (cA : Nat → ClassId) (N : Nat) (ad : Nat → Nat) (c : Nat → va_E) (x y : Int32) {fs : List Value} (h10 : 12 ≤ N) (h0 : c 0 = .inr (1, fs)) (post : Int32 → (Nat → va_E) → Prop) (M : Ci l yX1_cameAs wX1_cameAs { frames := 2, cells := 0, slots := 0, locals := 45 } [.ref (ad 0), .int x, .int y] D cA N ad c 0 0 post) (hout : ∀ v c', post v c' → ∃ f : Nat → Int64, c' 10 = (.inl (cA 2, 1, .inr (.inl f)))) : Ci l yL_cameAs wL_cameAs { frames := 3, cells := 0, slots := 0, locals := 67 } [.ref (ad 0), .int x, .int y, .ref (ad 10)] D cA N ad c 0 0 (fun v9 c9 => v9 = nI 0 ∧ ∃ v c' f, post v c' ∧ c' 10 = (.inl (cA 2, 1, .inr (.inl f))) ∧ c9 = va_up c' 10 (.inl (cA 2, 1, .inr (.inl (vp_updL f 0 v.toInt64))))) := by
  intro sz9
  refine bd_ofH (cc := cL_cameAs) (maxL := 5) (ret := some Jvm.ClassFile.FieldType.int) (hh := [(0, 10, 13, 20)]) (by decide) rfl (fun s a h => wd_code_L_cameAs h a) (Nat.le_of_ble_eq_true rfl) ?_
  intro p e s m below meth c0 C0 hr hlk hT hP hS hsz ls hl
  subst hsz
  have hx := C0.1
  have hb := C0.2.1
  have hl : lv_has ls 5 [(0, .ref (ad 0)), (1, .int x), (2, .int y), (3, .ref (ad 10))] := hl
  refine lv_aload_n hx hb dL_cameAs_0 rfl (lv_at hl 3 rfl) ?_
  refine lv_iconst (v := nI 0) hx hb dL_cameAs_1 rfl ?_
  refine lv_aload_n hx hb dL_cameAs_2 rfl (lv_at hl 0 rfl) ?_
  refine lv_iload_n hx hb dL_cameAs_3 rfl (lv_at hl 1 rfl) ?_
  refine lv_iload_n hx hb dL_cameAs_4 rfl (lv_at hl 2 rfl) ?_
  refine k0_i (rn_L_58 (As := [.int x, .int y]) (rest := [.int (nI 0), .ref (ad 10)]) (r := 0) C0 (M _) hP hS (by omega) h0 rfl ⟨rfl, rfl⟩ ⟨by decide, by decide⟩ hl.1 rfl (Nat.le_of_ble_eq_true rfl) dL_cameAs_5 ⟨Nat.le_of_ble_eq_true rfl, Nat.le_of_ble_eq_true rfl⟩) C0 hP hS (fun v5 c5 H locs hp hP hS => ?_)
  refine lv_i2l (v := (v5).toInt64) hx hb dL_cameAs_8 rfl ?_
  obtain ⟨f, hf⟩ := hout v5 c5 hp
  refine a_lst C0 hP hS (by omega) hf (by decide) (by decide) dL_cameAs_9 (fun H locs hP hS => ?_)
  refine lv_goto (tgt := 17) hx hb dL_cameAs_10 (by decide) ?_
  refine lv_iconst (v := nI 0) hx hb dL_cameAs_17 rfl ?_
  exact e_i C0 hr hlk hP hS dL_cameAs_18 (by decide) (by decide) ⟨rfl, v5, c5, f, hp, hf, rfl⟩
set_option maxHeartbeats 1000000 in
set_option maxRecDepth 10000 in
theorem w_L_placeOf (l : Launch) (D : va_G) (cA : Nat → ClassId) (N : Nat) (ad : Nat → Nat) (c : Nat → va_E) (x y : Int32) {fs : List Value} (h10 : 12 ≤ N) (h0 : c 0 = .inr (1, fs)) (post : Int32 → (Nat → va_E) → Prop) (M : Ci l yX1_placeOf wX1_placeOf { frames := 1, cells := 0, slots := 0, locals := 22 } [.ref (ad 0), .int x, .int y] D cA N ad c 0 0 post) (hout : ∀ v c', post v c' → ∃ f : Nat → Int64, c' 10 = (.inl (cA 2, 1, .inr (.inl f)))) : Ci l yL_placeOf wL_placeOf { frames := 2, cells := 0, slots := 0, locals := 46 } [.ref (ad 0), .int x, .int y, .ref (ad 10)] D cA N ad c 0 0 (fun v9 c9 => v9 = nI 0 ∧ ∃ v c' f, post v c' ∧ c' 10 = (.inl (cA 2, 1, .inr (.inl f))) ∧ c9 = va_up c' 10 (.inl (cA 2, 1, .inr (.inl (vp_updL f 0 v.toInt64))))) := by
  intro sz9
  refine bd_ofH (cc := cL_placeOf) (maxL := 5) (ret := some Jvm.ClassFile.FieldType.int) (hh := [(0, 10, 13, 20)]) (by decide) rfl (fun s a h => wd_code_L_placeOf h a) (Nat.le_of_ble_eq_true rfl) ?_
  intro p e s m below meth c0 C0 hr hlk hT hP hS hsz ls hl
  subst hsz
  have hx := C0.1
  have hb := C0.2.1
  have hl : lv_has ls 5 [(0, .ref (ad 0)), (1, .int x), (2, .int y), (3, .ref (ad 10))] := hl
  refine lv_aload_n hx hb dL_placeOf_0 rfl (lv_at hl 3 rfl) ?_
  refine lv_iconst (v := nI 0) hx hb dL_placeOf_1 rfl ?_
  refine lv_aload_n hx hb dL_placeOf_2 rfl (lv_at hl 0 rfl) ?_
  refine lv_iload_n hx hb dL_placeOf_3 rfl (lv_at hl 1 rfl) ?_
  refine lv_iload_n hx hb dL_placeOf_4 rfl (lv_at hl 2 rfl) ?_
  refine k0_i (rn_L_61 (As := [.int x, .int y]) (rest := [.int (nI 0), .ref (ad 10)]) (r := 0) C0 (M _) hP hS (by omega) h0 rfl ⟨rfl, rfl⟩ ⟨by decide, by decide⟩ hl.1 rfl (Nat.le_of_ble_eq_true rfl) dL_placeOf_5 ⟨Nat.le_of_ble_eq_true rfl, Nat.le_of_ble_eq_true rfl⟩) C0 hP hS (fun v5 c5 H locs hp hP hS => ?_)
  refine lv_i2l (v := (v5).toInt64) hx hb dL_placeOf_8 rfl ?_
  obtain ⟨f, hf⟩ := hout v5 c5 hp
  refine a_lst C0 hP hS (by omega) hf (by decide) (by decide) dL_placeOf_9 (fun H locs hP hS => ?_)
  refine lv_goto (tgt := 17) hx hb dL_placeOf_10 (by decide) ?_
  refine lv_iconst (v := nI 0) hx hb dL_placeOf_17 rfl ?_
  exact e_i C0 hr hlk hP hS dL_placeOf_18 (by decide) (by decide) ⟨rfl, v5, c5, f, hp, hf, rfl⟩
set_option maxHeartbeats 1000000 in
set_option maxRecDepth 10000 in
theorem w_L_sum (l : Launch) (D : va_G) (cA : Nat → ClassId) (N : Nat) (ad : Nat → Nat) (c : Nat → va_E) (x : Int32) {fs : List Value} (h10 : 12 ≤ N) (h0 : c 0 = .inr (1, fs)) (post : Int32 → (Nat → va_E) → Prop) (M : Ci l yX1_sum wX1_sum { frames := 2, cells := 0, slots := 0, locals := 43 } [.ref (ad 0), .int x] D cA N ad c 0 0 post) (hout : ∀ v c', post v c' → ∃ f : Nat → Int64, c' 10 = (.inl (cA 2, 1, .inr (.inl f)))) : Ci l yL_sum wL_sum { frames := 3, cells := 0, slots := 0, locals := 64 } [.ref (ad 0), .int x, .ref (ad 10)] D cA N ad c 0 0 (fun v9 c9 => v9 = nI 0 ∧ ∃ v c' f, post v c' ∧ c' 10 = (.inl (cA 2, 1, .inr (.inl f))) ∧ c9 = va_up c' 10 (.inl (cA 2, 1, .inr (.inl (vp_updL f 0 v.toInt64))))) := by
  intro sz9
  refine bd_ofH (cc := cL_sum) (maxL := 4) (ret := some Jvm.ClassFile.FieldType.int) (hh := [(0, 9, 12, 20)]) (by decide) rfl (fun s a h => wd_code_L_sum h a) (Nat.le_of_ble_eq_true rfl) ?_
  intro p e s m below meth c0 C0 hr hlk hT hP hS hsz ls hl
  subst hsz
  have hx := C0.1
  have hb := C0.2.1
  have hl : lv_has ls 4 [(0, .ref (ad 0)), (1, .int x), (2, .ref (ad 10))] := hl
  refine lv_aload_n hx hb dL_sum_0 rfl (lv_at hl 2 rfl) ?_
  refine lv_iconst (v := nI 0) hx hb dL_sum_1 rfl ?_
  refine lv_aload_n hx hb dL_sum_2 rfl (lv_at hl 0 rfl) ?_
  refine lv_iload_n hx hb dL_sum_3 rfl (lv_at hl 1 rfl) ?_
  refine k0_i (rn_L_64 (As := [.int x]) (rest := [.int (nI 0), .ref (ad 10)]) (r := 0) C0 (M _) hP hS (by omega) h0 rfl ⟨rfl, rfl⟩ ⟨by decide, by decide⟩ hl.1 rfl (Nat.le_of_ble_eq_true rfl) dL_sum_4 ⟨Nat.le_of_ble_eq_true rfl, Nat.le_of_ble_eq_true rfl⟩) C0 hP hS (fun v4 c4 H locs hp hP hS => ?_)
  refine lv_i2l (v := (v4).toInt64) hx hb dL_sum_7 rfl ?_
  obtain ⟨f, hf⟩ := hout v4 c4 hp
  refine a_lst C0 hP hS (by omega) hf (by decide) (by decide) dL_sum_8 (fun H locs hP hS => ?_)
  refine lv_goto (tgt := 15) hx hb dL_sum_9 (by decide) ?_
  refine lv_iconst (v := nI 0) hx hb dL_sum_15 rfl ?_
  exact e_i C0 hr hlk hP hS dL_sum_16 (by decide) (by decide) ⟨rfl, v4, c4, f, hp, hf, rfl⟩
set_option maxHeartbeats 1000000 in
set_option maxRecDepth 10000 in
theorem w_L_lowest (l : Launch) (D : va_G) (cA : Nat → ClassId) (N : Nat) (ad : Nat → Nat) (c : Nat → va_E) (x : Int32) {fs : List Value} (h10 : 12 ≤ N) (h0 : c 0 = .inr (1, fs)) (post : Int32 → (Nat → va_E) → Prop) (M : Ci l yX1_lowest wX1_lowest { frames := 4, cells := 0, slots := 0, locals := 91 } [.ref (ad 0), .int x] D cA N ad c 0 0 post) (hout : ∀ v c', post v c' → ∃ f : Nat → Int64, c' 10 = (.inl (cA 2, 1, .inr (.inl f)))) : Ci l yL_lowest wL_lowest { frames := 5, cells := 0, slots := 0, locals := 112 } [.ref (ad 0), .int x, .ref (ad 10)] D cA N ad c 0 0 (fun v9 c9 => v9 = nI 0 ∧ ∃ v c' f, post v c' ∧ c' 10 = (.inl (cA 2, 1, .inr (.inl f))) ∧ c9 = va_up c' 10 (.inl (cA 2, 1, .inr (.inl (vp_updL f 0 v.toInt64))))) := by
  intro sz9
  refine bd_ofH (cc := cL_lowest) (maxL := 4) (ret := some Jvm.ClassFile.FieldType.int) (hh := [(0, 9, 12, 20)]) (by decide) rfl (fun s a h => wd_code_L_lowest h a) (Nat.le_of_ble_eq_true rfl) ?_
  intro p e s m below meth c0 C0 hr hlk hT hP hS hsz ls hl
  subst hsz
  have hx := C0.1
  have hb := C0.2.1
  have hl : lv_has ls 4 [(0, .ref (ad 0)), (1, .int x), (2, .ref (ad 10))] := hl
  refine lv_aload_n hx hb dL_lowest_0 rfl (lv_at hl 2 rfl) ?_
  refine lv_iconst (v := nI 0) hx hb dL_lowest_1 rfl ?_
  refine lv_aload_n hx hb dL_lowest_2 rfl (lv_at hl 0 rfl) ?_
  refine lv_iload_n hx hb dL_lowest_3 rfl (lv_at hl 1 rfl) ?_
  refine k0_i (rn_L_67 (As := [.int x]) (rest := [.int (nI 0), .ref (ad 10)]) (r := 0) C0 (M _) hP hS (by omega) h0 rfl ⟨rfl, rfl⟩ ⟨by decide, by decide⟩ hl.1 rfl (Nat.le_of_ble_eq_true rfl) dL_lowest_4 ⟨Nat.le_of_ble_eq_true rfl, Nat.le_of_ble_eq_true rfl⟩) C0 hP hS (fun v4 c4 H locs hp hP hS => ?_)
  refine lv_i2l (v := (v4).toInt64) hx hb dL_lowest_7 rfl ?_
  obtain ⟨f, hf⟩ := hout v4 c4 hp
  refine a_lst C0 hP hS (by omega) hf (by decide) (by decide) dL_lowest_8 (fun H locs hP hS => ?_)
  refine lv_goto (tgt := 15) hx hb dL_lowest_9 (by decide) ?_
  refine lv_iconst (v := nI 0) hx hb dL_lowest_15 rfl ?_
  exact e_i C0 hr hlk hP hS dL_lowest_16 (by decide) (by decide) ⟨rfl, v4, c4, f, hp, hf, rfl⟩
set_option maxHeartbeats 1000000 in
set_option maxRecDepth 10000 in
theorem w_L_rankOf (l : Launch) (D : va_G) (cA : Nat → ClassId) (N : Nat) (ad : Nat → Nat) (c : Nat → va_E) (x y : Int32) {fs : List Value} (h10 : 12 ≤ N) (h0 : c 0 = .inr (1, fs)) (post : Int32 → (Nat → va_E) → Prop) (M : Ci l yX1_rankOf wX1_rankOf { frames := 3, cells := 0, slots := 0, locals := 69 } [.ref (ad 0), .int x, .int y] D cA N ad c 0 0 post) (hout : ∀ v c', post v c' → ∃ f : Nat → Int64, c' 10 = (.inl (cA 2, 1, .inr (.inl f)))) : Ci l yL_rankOf wL_rankOf { frames := 4, cells := 0, slots := 0, locals := 91 } [.ref (ad 0), .int x, .int y, .ref (ad 10)] D cA N ad c 0 0 (fun v9 c9 => v9 = nI 0 ∧ ∃ v c' f, post v c' ∧ c' 10 = (.inl (cA 2, 1, .inr (.inl f))) ∧ c9 = va_up c' 10 (.inl (cA 2, 1, .inr (.inl (vp_updL f 0 v.toInt64))))) := by
  intro sz9
  refine bd_ofH (cc := cL_rankOf) (maxL := 5) (ret := some Jvm.ClassFile.FieldType.int) (hh := [(0, 10, 13, 20)]) (by decide) rfl (fun s a h => wd_code_L_rankOf h a) (Nat.le_of_ble_eq_true rfl) ?_
  intro p e s m below meth c0 C0 hr hlk hT hP hS hsz ls hl
  subst hsz
  have hx := C0.1
  have hb := C0.2.1
  have hl : lv_has ls 5 [(0, .ref (ad 0)), (1, .int x), (2, .int y), (3, .ref (ad 10))] := hl
  refine lv_aload_n hx hb dL_rankOf_0 rfl (lv_at hl 3 rfl) ?_
  refine lv_iconst (v := nI 0) hx hb dL_rankOf_1 rfl ?_
  refine lv_aload_n hx hb dL_rankOf_2 rfl (lv_at hl 0 rfl) ?_
  refine lv_iload_n hx hb dL_rankOf_3 rfl (lv_at hl 1 rfl) ?_
  refine lv_iload_n hx hb dL_rankOf_4 rfl (lv_at hl 2 rfl) ?_
  refine k0_i (rn_L_70 (As := [.int x, .int y]) (rest := [.int (nI 0), .ref (ad 10)]) (r := 0) C0 (M _) hP hS (by omega) h0 rfl ⟨rfl, rfl⟩ ⟨by decide, by decide⟩ hl.1 rfl (Nat.le_of_ble_eq_true rfl) dL_rankOf_5 ⟨Nat.le_of_ble_eq_true rfl, Nat.le_of_ble_eq_true rfl⟩) C0 hP hS (fun v5 c5 H locs hp hP hS => ?_)
  refine lv_i2l (v := (v5).toInt64) hx hb dL_rankOf_8 rfl ?_
  obtain ⟨f, hf⟩ := hout v5 c5 hp
  refine a_lst C0 hP hS (by omega) hf (by decide) (by decide) dL_rankOf_9 (fun H locs hP hS => ?_)
  refine lv_goto (tgt := 17) hx hb dL_rankOf_10 (by decide) ?_
  refine lv_iconst (v := nI 0) hx hb dL_rankOf_17 rfl ?_
  exact e_i C0 hr hlk hP hS dL_rankOf_18 (by decide) (by decide) ⟨rfl, v5, c5, f, hp, hf, rfl⟩
set_option maxHeartbeats 1000000 in
set_option maxRecDepth 10000 in
theorem w_L_middle (l : Launch) (D : va_G) (cA : Nat → ClassId) (N : Nat) (ad : Nat → Nat) (c : Nat → va_E) (x : Int32) {fs : List Value} (h10 : 12 ≤ N) (h0 : c 0 = .inr (1, fs)) (post : Int32 → (Nat → va_E) → Prop) (M : Ci l yX1_middle wX1_middle { frames := 5, cells := 0, slots := 0, locals := 112 } [.ref (ad 0), .int x] D cA N ad c 0 0 post) (hout : ∀ v c', post v c' → ∃ f : Nat → Int64, c' 10 = (.inl (cA 2, 1, .inr (.inl f)))) : Ci l yL_middle wL_middle { frames := 6, cells := 0, slots := 0, locals := 133 } [.ref (ad 0), .int x, .ref (ad 10)] D cA N ad c 0 0 (fun v9 c9 => v9 = nI 0 ∧ ∃ v c' f, post v c' ∧ c' 10 = (.inl (cA 2, 1, .inr (.inl f))) ∧ c9 = va_up c' 10 (.inl (cA 2, 1, .inr (.inl (vp_updL f 0 v.toInt64))))) := by
  intro sz9
  refine bd_ofH (cc := cL_middle) (maxL := 4) (ret := some Jvm.ClassFile.FieldType.int) (hh := [(0, 9, 12, 20)]) (by decide) rfl (fun s a h => wd_code_L_middle h a) (Nat.le_of_ble_eq_true rfl) ?_
  intro p e s m below meth c0 C0 hr hlk hT hP hS hsz ls hl
  subst hsz
  have hx := C0.1
  have hb := C0.2.1
  have hl : lv_has ls 4 [(0, .ref (ad 0)), (1, .int x), (2, .ref (ad 10))] := hl
  refine lv_aload_n hx hb dL_middle_0 rfl (lv_at hl 2 rfl) ?_
  refine lv_iconst (v := nI 0) hx hb dL_middle_1 rfl ?_
  refine lv_aload_n hx hb dL_middle_2 rfl (lv_at hl 0 rfl) ?_
  refine lv_iload_n hx hb dL_middle_3 rfl (lv_at hl 1 rfl) ?_
  refine k0_i (rn_L_73 (As := [.int x]) (rest := [.int (nI 0), .ref (ad 10)]) (r := 0) C0 (M _) hP hS (by omega) h0 rfl ⟨rfl, rfl⟩ ⟨by decide, by decide⟩ hl.1 rfl (Nat.le_of_ble_eq_true rfl) dL_middle_4 ⟨Nat.le_of_ble_eq_true rfl, Nat.le_of_ble_eq_true rfl⟩) C0 hP hS (fun v4 c4 H locs hp hP hS => ?_)
  refine lv_i2l (v := (v4).toInt64) hx hb dL_middle_7 rfl ?_
  obtain ⟨f, hf⟩ := hout v4 c4 hp
  refine a_lst C0 hP hS (by omega) hf (by decide) (by decide) dL_middle_8 (fun H locs hP hS => ?_)
  refine lv_goto (tgt := 15) hx hb dL_middle_9 (by decide) ?_
  refine lv_iconst (v := nI 0) hx hb dL_middle_15 rfl ?_
  exact e_i C0 hr hlk hP hS dL_middle_16 (by decide) (by decide) ⟨rfl, v4, c4, f, hp, hf, rfl⟩
set_option maxHeartbeats 1000000 in
set_option maxRecDepth 10000 in
theorem w_L_shared (l : Launch) (D : va_G) (cA : Nat → ClassId) (N : Nat) (ad : Nat → Nat) (c : Nat → va_E) (x y : Int32) {fs : List Value} (h10 : 12 ≤ N) (h0 : c 0 = .inr (1, fs)) (post : Int32 → (Nat → va_E) → Prop) (M : Ci l yX1_shared wX1_shared { frames := 3, cells := 0, slots := 0, locals := 69 } [.ref (ad 0), .int x, .int y] D cA N ad c 0 0 post) (hout : ∀ v c', post v c' → ∃ f : Nat → Int64, c' 10 = (.inl (cA 2, 1, .inr (.inl f)))) : Ci l yL_shared wL_shared { frames := 4, cells := 0, slots := 0, locals := 91 } [.ref (ad 0), .int x, .int y, .ref (ad 10)] D cA N ad c 0 0 (fun v9 c9 => v9 = nI 0 ∧ ∃ v c' f, post v c' ∧ c' 10 = (.inl (cA 2, 1, .inr (.inl f))) ∧ c9 = va_up c' 10 (.inl (cA 2, 1, .inr (.inl (vp_updL f 0 v.toInt64))))) := by
  intro sz9
  refine bd_ofH (cc := cL_shared) (maxL := 5) (ret := some Jvm.ClassFile.FieldType.int) (hh := [(0, 10, 13, 20)]) (by decide) rfl (fun s a h => wd_code_L_shared h a) (Nat.le_of_ble_eq_true rfl) ?_
  intro p e s m below meth c0 C0 hr hlk hT hP hS hsz ls hl
  subst hsz
  have hx := C0.1
  have hb := C0.2.1
  have hl : lv_has ls 5 [(0, .ref (ad 0)), (1, .int x), (2, .int y), (3, .ref (ad 10))] := hl
  refine lv_aload_n hx hb dL_shared_0 rfl (lv_at hl 3 rfl) ?_
  refine lv_iconst (v := nI 0) hx hb dL_shared_1 rfl ?_
  refine lv_aload_n hx hb dL_shared_2 rfl (lv_at hl 0 rfl) ?_
  refine lv_iload_n hx hb dL_shared_3 rfl (lv_at hl 1 rfl) ?_
  refine lv_iload_n hx hb dL_shared_4 rfl (lv_at hl 2 rfl) ?_
  refine k0_i (rn_L_76 (As := [.int x, .int y]) (rest := [.int (nI 0), .ref (ad 10)]) (r := 0) C0 (M _) hP hS (by omega) h0 rfl ⟨rfl, rfl⟩ ⟨by decide, by decide⟩ hl.1 rfl (Nat.le_of_ble_eq_true rfl) dL_shared_5 ⟨Nat.le_of_ble_eq_true rfl, Nat.le_of_ble_eq_true rfl⟩) C0 hP hS (fun v5 c5 H locs hp hP hS => ?_)
  refine lv_i2l (v := (v5).toInt64) hx hb dL_shared_8 rfl ?_
  obtain ⟨f, hf⟩ := hout v5 c5 hp
  refine a_lst C0 hP hS (by omega) hf (by decide) (by decide) dL_shared_9 (fun H locs hP hS => ?_)
  refine lv_goto (tgt := 17) hx hb dL_shared_10 (by decide) ?_
  refine lv_iconst (v := nI 0) hx hb dL_shared_17 rfl ?_
  exact e_i C0 hr hlk hP hS dL_shared_18 (by decide) (by decide) ⟨rfl, v5, c5, f, hp, hf, rfl⟩
set_option maxHeartbeats 1000000 in
set_option maxRecDepth 10000 in
theorem w_L_luckIn (l : Launch) (D : va_G) (cA : Nat → ClassId) (N : Nat) (ad : Nat → Nat) (c : Nat → va_E) (x y : Int32) {fs : List Value} (h10 : 12 ≤ N) (h0 : c 0 = .inr (1, fs)) (post : Int32 → (Nat → va_E) → Prop) (M : Ci l yX1_luckIn wX1_luckIn { frames := 4, cells := 0, slots := 0, locals := 90 } [.ref (ad 0), .int x, .int y] D cA N ad c 0 0 post) (hout : ∀ v c', post v c' → ∃ f : Nat → Int64, c' 10 = (.inl (cA 2, 1, .inr (.inl f)))) : Ci l yL_luckIn wL_luckIn { frames := 5, cells := 0, slots := 0, locals := 113 } [.ref (ad 0), .int x, .int y, .ref (ad 10)] D cA N ad c 0 0 (fun v9 c9 => v9 = nI 0 ∧ ∃ v c' f, post v c' ∧ c' 10 = (.inl (cA 2, 1, .inr (.inl f))) ∧ c9 = va_up c' 10 (.inl (cA 2, 1, .inr (.inl (vp_updL f 0 v.toInt64))))) := by
  intro sz9
  refine bd_ofH (cc := cL_luckIn) (maxL := 5) (ret := some Jvm.ClassFile.FieldType.int) (hh := [(0, 10, 13, 20), (0, 10, 17, 13)]) (by decide) rfl (fun s a h => wd_code_L_luckIn h a) (Nat.le_of_ble_eq_true rfl) ?_
  intro p e s m below meth c0 C0 hr hlk hT hP hS hsz ls hl
  subst hsz
  have hx := C0.1
  have hb := C0.2.1
  have hl : lv_has ls 5 [(0, .ref (ad 0)), (1, .int x), (2, .int y), (3, .ref (ad 10))] := hl
  refine lv_aload_n hx hb dL_luckIn_0 rfl (lv_at hl 3 rfl) ?_
  refine lv_iconst (v := nI 0) hx hb dL_luckIn_1 rfl ?_
  refine lv_aload_n hx hb dL_luckIn_2 rfl (lv_at hl 0 rfl) ?_
  refine lv_iload_n hx hb dL_luckIn_3 rfl (lv_at hl 1 rfl) ?_
  refine lv_iload_n hx hb dL_luckIn_4 rfl (lv_at hl 2 rfl) ?_
  refine k0_i (rn_L_79 (As := [.int x, .int y]) (rest := [.int (nI 0), .ref (ad 10)]) (r := 0) C0 (M _) hP hS (by omega) h0 rfl ⟨rfl, rfl⟩ ⟨by decide, by decide⟩ hl.1 rfl (Nat.le_of_ble_eq_true rfl) dL_luckIn_5 ⟨Nat.le_of_ble_eq_true rfl, Nat.le_of_ble_eq_true rfl⟩) C0 hP hS (fun v5 c5 H locs hp hP hS => ?_)
  refine lv_i2l (v := (v5).toInt64) hx hb dL_luckIn_8 rfl ?_
  obtain ⟨f, hf⟩ := hout v5 c5 hp
  refine a_lst C0 hP hS (by omega) hf (by decide) (by decide) dL_luckIn_9 (fun H locs hP hS => ?_)
  refine lv_goto (tgt := 21) hx hb dL_luckIn_10 (by decide) ?_
  refine lv_iconst (v := nI 0) hx hb dL_luckIn_21 rfl ?_
  exact e_i C0 hr hlk hP hS dL_luckIn_22 (by decide) (by decide) ⟨rfl, v5, c5, f, hp, hf, rfl⟩
set_option maxHeartbeats 1000000 in
set_option maxRecDepth 10000 in
theorem w_L_drawsUntil (l : Launch) (D : va_G) (cA : Nat → ClassId) (N : Nat) (ad : Nat → Nat) (c : Nat → va_E) (x y z : Int32) {fs : List Value} (h10 : 12 ≤ N) (h0 : c 0 = .inr (1, fs)) (post : Int32 → (Nat → va_E) → Prop) (M : Ci l yX1_drawsUntil wX1_drawsUntil { frames := 3, cells := 0, slots := 0, locals := 67 } [.ref (ad 0), .int x, .int y, .int z] D cA N ad c 0 0 post) (hout : ∀ v c', post v c' → ∃ f : Nat → Int64, c' 10 = (.inl (cA 2, 1, .inr (.inl f)))) : Ci l yL_drawsUntil wL_drawsUntil { frames := 4, cells := 0, slots := 0, locals := 92 } [.ref (ad 0), .int x, .int y, .int z, .ref (ad 10)] D cA N ad c 0 0 (fun v9 c9 => v9 = nI 0 ∧ ∃ v c' f, post v c' ∧ c' 10 = (.inl (cA 2, 1, .inr (.inl f))) ∧ c9 = va_up c' 10 (.inl (cA 2, 1, .inr (.inl (vp_updL f 0 v.toInt64))))) := by
  intro sz9
  refine bd_ofH (cc := cL_drawsUntil) (maxL := 6) (ret := some Jvm.ClassFile.FieldType.int) (hh := [(0, 12, 15, 20), (0, 12, 19, 13)]) (by decide) rfl (fun s a h => wd_code_L_drawsUntil h a) (Nat.le_of_ble_eq_true rfl) ?_
  intro p e s m below meth c0 C0 hr hlk hT hP hS hsz ls hl
  subst hsz
  have hx := C0.1
  have hb := C0.2.1
  have hl : lv_has ls 6 [(0, .ref (ad 0)), (1, .int x), (2, .int y), (3, .int z), (4, .ref (ad 10))] := hl
  refine lv_aload hx hb dL_drawsUntil_0 (lv_at hl 4 rfl) ?_
  refine lv_iconst (v := nI 0) hx hb dL_drawsUntil_2 rfl ?_
  refine lv_aload_n hx hb dL_drawsUntil_3 rfl (lv_at hl 0 rfl) ?_
  refine lv_iload_n hx hb dL_drawsUntil_4 rfl (lv_at hl 1 rfl) ?_
  refine lv_iload_n hx hb dL_drawsUntil_5 rfl (lv_at hl 2 rfl) ?_
  refine lv_iload_n hx hb dL_drawsUntil_6 rfl (lv_at hl 3 rfl) ?_
  refine k0_i (rn_L_82 (As := [.int x, .int y, .int z]) (rest := [.int (nI 0), .ref (ad 10)]) (r := 0) C0 (M _) hP hS (by omega) h0 rfl ⟨rfl, rfl⟩ ⟨by decide, by decide⟩ hl.1 rfl (Nat.le_of_ble_eq_true rfl) dL_drawsUntil_7 ⟨Nat.le_of_ble_eq_true rfl, Nat.le_of_ble_eq_true rfl⟩) C0 hP hS (fun v7 c7 H locs hp hP hS => ?_)
  refine lv_i2l (v := (v7).toInt64) hx hb dL_drawsUntil_10 rfl ?_
  obtain ⟨f, hf⟩ := hout v7 c7 hp
  refine a_lst C0 hP hS (by omega) hf (by decide) (by decide) dL_drawsUntil_11 (fun H locs hP hS => ?_)
  refine lv_goto (tgt := 23) hx hb dL_drawsUntil_12 (by decide) ?_
  refine lv_iconst (v := nI 0) hx hb dL_drawsUntil_23 rfl ?_
  exact e_i C0 hr hlk hP hS dL_drawsUntil_24 (by decide) (by decide) ⟨rfl, v7, c7, f, hp, hf, rfl⟩
set_option maxHeartbeats 1000000 in
set_option maxRecDepth 10000 in
theorem w_L_wouldTake (l : Launch) (D : va_G) (cA : Nat → ClassId) (N : Nat) (ad : Nat → Nat) (c : Nat → va_E) (x y : Int32) {fs : List Value} (h10 : 12 ≤ N) (h0 : c 0 = .inr (1, fs)) (post : Int32 → (Nat → va_E) → Prop) (M : Ci l yX1_wouldTake wX1_wouldTake { frames := 4, cells := 0, slots := 0, locals := 89 } [.ref (ad 0), .int x, .int y] D cA N ad c 0 0 post) (hout : ∀ v c', post v c' → ∃ f : Nat → Int64, c' 10 = (.inl (cA 2, 1, .inr (.inl f)))) : Ci l yL_wouldTake wL_wouldTake { frames := 5, cells := 0, slots := 0, locals := 112 } [.ref (ad 0), .int x, .int y, .ref (ad 10)] D cA N ad c 0 0 (fun v9 c9 => v9 = nI 0 ∧ ∃ v c' f, post v c' ∧ c' 10 = (.inl (cA 2, 1, .inr (.inl f))) ∧ c9 = va_up c' 10 (.inl (cA 2, 1, .inr (.inl (vp_updL f 0 v.toInt64))))) := by
  intro sz9
  refine bd_ofH (cc := cL_wouldTake) (maxL := 5) (ret := some Jvm.ClassFile.FieldType.int) (hh := [(0, 10, 13, 20), (0, 10, 17, 13)]) (by decide) rfl (fun s a h => wd_code_L_wouldTake h a) (Nat.le_of_ble_eq_true rfl) ?_
  intro p e s m below meth c0 C0 hr hlk hT hP hS hsz ls hl
  subst hsz
  have hx := C0.1
  have hb := C0.2.1
  have hl : lv_has ls 5 [(0, .ref (ad 0)), (1, .int x), (2, .int y), (3, .ref (ad 10))] := hl
  refine lv_aload_n hx hb dL_wouldTake_0 rfl (lv_at hl 3 rfl) ?_
  refine lv_iconst (v := nI 0) hx hb dL_wouldTake_1 rfl ?_
  refine lv_aload_n hx hb dL_wouldTake_2 rfl (lv_at hl 0 rfl) ?_
  refine lv_iload_n hx hb dL_wouldTake_3 rfl (lv_at hl 1 rfl) ?_
  refine lv_iload_n hx hb dL_wouldTake_4 rfl (lv_at hl 2 rfl) ?_
  refine k0_i (rn_L_85 (As := [.int x, .int y]) (rest := [.int (nI 0), .ref (ad 10)]) (r := 0) C0 (M _) hP hS (by omega) h0 rfl ⟨rfl, rfl⟩ ⟨by decide, by decide⟩ hl.1 rfl (Nat.le_of_ble_eq_true rfl) dL_wouldTake_5 ⟨Nat.le_of_ble_eq_true rfl, Nat.le_of_ble_eq_true rfl⟩) C0 hP hS (fun v5 c5 H locs hp hP hS => ?_)
  refine lv_i2l (v := (v5).toInt64) hx hb dL_wouldTake_8 rfl ?_
  obtain ⟨f, hf⟩ := hout v5 c5 hp
  refine a_lst C0 hP hS (by omega) hf (by decide) (by decide) dL_wouldTake_9 (fun H locs hP hS => ?_)
  refine lv_goto (tgt := 21) hx hb dL_wouldTake_10 (by decide) ?_
  refine lv_iconst (v := nI 0) hx hb dL_wouldTake_21 rfl ?_
  exact e_i C0 hr hlk hP hS dL_wouldTake_22 (by decide) (by decide) ⟨rfl, v5, c5, f, hp, hf, rfl⟩
set_option maxHeartbeats 1000000 in
set_option maxRecDepth 10000 in
theorem w_L_wouldStay (l : Launch) (D : va_G) (cA : Nat → ClassId) (N : Nat) (ad : Nat → Nat) (c : Nat → va_E) (x y : Int32) {fs : List Value} (h10 : 12 ≤ N) (h0 : c 0 = .inr (1, fs)) (post : Int32 → (Nat → va_E) → Prop) (M : Ci l yX1_wouldStay wX1_wouldStay { frames := 4, cells := 0, slots := 0, locals := 91 } [.ref (ad 0), .int x, .int y] D cA N ad c 0 0 post) (hout : ∀ v c', post v c' → ∃ f : Nat → Int64, c' 10 = (.inl (cA 2, 1, .inr (.inl f)))) : Ci l yL_wouldStay wL_wouldStay { frames := 5, cells := 0, slots := 0, locals := 114 } [.ref (ad 0), .int x, .int y, .ref (ad 10)] D cA N ad c 0 0 (fun v9 c9 => v9 = nI 0 ∧ ∃ v c' f, post v c' ∧ c' 10 = (.inl (cA 2, 1, .inr (.inl f))) ∧ c9 = va_up c' 10 (.inl (cA 2, 1, .inr (.inl (vp_updL f 0 v.toInt64))))) := by
  intro sz9
  refine bd_ofH (cc := cL_wouldStay) (maxL := 5) (ret := some Jvm.ClassFile.FieldType.int) (hh := [(0, 10, 13, 20), (0, 10, 17, 13)]) (by decide) rfl (fun s a h => wd_code_L_wouldStay h a) (Nat.le_of_ble_eq_true rfl) ?_
  intro p e s m below meth c0 C0 hr hlk hT hP hS hsz ls hl
  subst hsz
  have hx := C0.1
  have hb := C0.2.1
  have hl : lv_has ls 5 [(0, .ref (ad 0)), (1, .int x), (2, .int y), (3, .ref (ad 10))] := hl
  refine lv_aload_n hx hb dL_wouldStay_0 rfl (lv_at hl 3 rfl) ?_
  refine lv_iconst (v := nI 0) hx hb dL_wouldStay_1 rfl ?_
  refine lv_aload_n hx hb dL_wouldStay_2 rfl (lv_at hl 0 rfl) ?_
  refine lv_iload_n hx hb dL_wouldStay_3 rfl (lv_at hl 1 rfl) ?_
  refine lv_iload_n hx hb dL_wouldStay_4 rfl (lv_at hl 2 rfl) ?_
  refine k0_i (rn_L_88 (As := [.int x, .int y]) (rest := [.int (nI 0), .ref (ad 10)]) (r := 0) C0 (M _) hP hS (by omega) h0 rfl ⟨rfl, rfl⟩ ⟨by decide, by decide⟩ hl.1 rfl (Nat.le_of_ble_eq_true rfl) dL_wouldStay_5 ⟨Nat.le_of_ble_eq_true rfl, Nat.le_of_ble_eq_true rfl⟩) C0 hP hS (fun v5 c5 H locs hp hP hS => ?_)
  refine lv_i2l (v := (v5).toInt64) hx hb dL_wouldStay_8 rfl ?_
  obtain ⟨f, hf⟩ := hout v5 c5 hp
  refine a_lst C0 hP hS (by omega) hf (by decide) (by decide) dL_wouldStay_9 (fun H locs hP hS => ?_)
  refine lv_goto (tgt := 21) hx hb dL_wouldStay_10 (by decide) ?_
  refine lv_iconst (v := nI 0) hx hb dL_wouldStay_21 rfl ?_
  exact e_i C0 hr hlk hP hS dL_wouldStay_22 (by decide) (by decide) ⟨rfl, v5, c5, f, hp, hf, rfl⟩
set_option maxHeartbeats 1000000 in
set_option maxRecDepth 10000 in
theorem w_L_untilTaken (l : Launch) (D : va_G) (cA : Nat → ClassId) (N : Nat) (ad : Nat → Nat) (c : Nat → va_E) (x : Int32) {fs : List Value} (h10 : 12 ≤ N) (h0 : c 0 = .inr (1, fs)) (post : Int32 → (Nat → va_E) → Prop) (M : Ci l yX1_untilTaken wX1_untilTaken { frames := 4, cells := 0, slots := 0, locals := 89 } [.ref (ad 0), .int x] D cA N ad c 0 0 post) (hout : ∀ v c', post v c' → ∃ f : Nat → Int64, c' 10 = (.inl (cA 2, 1, .inr (.inl f)))) : Ci l yL_untilTaken wL_untilTaken { frames := 5, cells := 0, slots := 0, locals := 110 } [.ref (ad 0), .int x, .ref (ad 10)] D cA N ad c 0 0 (fun v9 c9 => v9 = nI 0 ∧ ∃ v c' f, post v c' ∧ c' 10 = (.inl (cA 2, 1, .inr (.inl f))) ∧ c9 = va_up c' 10 (.inl (cA 2, 1, .inr (.inl (vp_updL f 0 v.toInt64))))) := by
  intro sz9
  refine bd_ofH (cc := cL_untilTaken) (maxL := 4) (ret := some Jvm.ClassFile.FieldType.int) (hh := [(0, 9, 12, 20)]) (by decide) rfl (fun s a h => wd_code_L_untilTaken h a) (Nat.le_of_ble_eq_true rfl) ?_
  intro p e s m below meth c0 C0 hr hlk hT hP hS hsz ls hl
  subst hsz
  have hx := C0.1
  have hb := C0.2.1
  have hl : lv_has ls 4 [(0, .ref (ad 0)), (1, .int x), (2, .ref (ad 10))] := hl
  refine lv_aload_n hx hb dL_untilTaken_0 rfl (lv_at hl 2 rfl) ?_
  refine lv_iconst (v := nI 0) hx hb dL_untilTaken_1 rfl ?_
  refine lv_aload_n hx hb dL_untilTaken_2 rfl (lv_at hl 0 rfl) ?_
  refine lv_iload_n hx hb dL_untilTaken_3 rfl (lv_at hl 1 rfl) ?_
  refine k0_i (rn_L_91 (As := [.int x]) (rest := [.int (nI 0), .ref (ad 10)]) (r := 0) C0 (M _) hP hS (by omega) h0 rfl ⟨rfl, rfl⟩ ⟨by decide, by decide⟩ hl.1 rfl (Nat.le_of_ble_eq_true rfl) dL_untilTaken_4 ⟨Nat.le_of_ble_eq_true rfl, Nat.le_of_ble_eq_true rfl⟩) C0 hP hS (fun v4 c4 H locs hp hP hS => ?_)
  refine lv_i2l (v := (v4).toInt64) hx hb dL_untilTaken_7 rfl ?_
  obtain ⟨f, hf⟩ := hout v4 c4 hp
  refine a_lst C0 hP hS (by omega) hf (by decide) (by decide) dL_untilTaken_8 (fun H locs hP hS => ?_)
  refine lv_goto (tgt := 15) hx hb dL_untilTaken_9 (by decide) ?_
  refine lv_iconst (v := nI 0) hx hb dL_untilTaken_15 rfl ?_
  exact e_i C0 hr hlk hP hS dL_untilTaken_16 (by decide) (by decide) ⟨rfl, v4, c4, f, hp, hf, rfl⟩
set_option maxHeartbeats 1000000 in
set_option maxRecDepth 10000 in
theorem w_L_weightWanted (l : Launch) (D : va_G) (cA : Nat → ClassId) (N : Nat) (ad : Nat → Nat) (c : Nat → va_E) (x : Int32) {fs : List Value} (h10 : 12 ≤ N) (h0 : c 0 = .inr (1, fs)) (post : Int32 → (Nat → va_E) → Prop) (M : Ci l yX1_weightWanted wX1_weightWanted { frames := 5, cells := 0, slots := 0, locals := 111 } [.ref (ad 0), .int x] D cA N ad c 0 0 post) (hout : ∀ v c', post v c' → ∃ f : Nat → Int64, c' 10 = (.inl (cA 2, 1, .inr (.inl f)))) : Ci l yL_weightWanted wL_weightWanted { frames := 6, cells := 0, slots := 0, locals := 132 } [.ref (ad 0), .int x, .ref (ad 10)] D cA N ad c 0 0 (fun v9 c9 => v9 = nI 0 ∧ ∃ v c' f, post v c' ∧ c' 10 = (.inl (cA 2, 1, .inr (.inl f))) ∧ c9 = va_up c' 10 (.inl (cA 2, 1, .inr (.inl (vp_updL f 0 v.toInt64))))) := by
  intro sz9
  refine bd_ofH (cc := cL_weightWanted) (maxL := 4) (ret := some Jvm.ClassFile.FieldType.int) (hh := [(0, 9, 12, 20)]) (by decide) rfl (fun s a h => wd_code_L_weightWanted h a) (Nat.le_of_ble_eq_true rfl) ?_
  intro p e s m below meth c0 C0 hr hlk hT hP hS hsz ls hl
  subst hsz
  have hx := C0.1
  have hb := C0.2.1
  have hl : lv_has ls 4 [(0, .ref (ad 0)), (1, .int x), (2, .ref (ad 10))] := hl
  refine lv_aload_n hx hb dL_weightWanted_0 rfl (lv_at hl 2 rfl) ?_
  refine lv_iconst (v := nI 0) hx hb dL_weightWanted_1 rfl ?_
  refine lv_aload_n hx hb dL_weightWanted_2 rfl (lv_at hl 0 rfl) ?_
  refine lv_iload_n hx hb dL_weightWanted_3 rfl (lv_at hl 1 rfl) ?_
  refine k0_i (rn_L_94 (As := [.int x]) (rest := [.int (nI 0), .ref (ad 10)]) (r := 0) C0 (M _) hP hS (by omega) h0 rfl ⟨rfl, rfl⟩ ⟨by decide, by decide⟩ hl.1 rfl (Nat.le_of_ble_eq_true rfl) dL_weightWanted_4 ⟨Nat.le_of_ble_eq_true rfl, Nat.le_of_ble_eq_true rfl⟩) C0 hP hS (fun v4 c4 H locs hp hP hS => ?_)
  refine lv_i2l (v := (v4).toInt64) hx hb dL_weightWanted_7 rfl ?_
  obtain ⟨f, hf⟩ := hout v4 c4 hp
  refine a_lst C0 hP hS (by omega) hf (by decide) (by decide) dL_weightWanted_8 (fun H locs hP hS => ?_)
  refine lv_goto (tgt := 15) hx hb dL_weightWanted_9 (by decide) ?_
  refine lv_iconst (v := nI 0) hx hb dL_weightWanted_15 rfl ?_
  exact e_i C0 hr hlk hP hS dL_weightWanted_16 (by decide) (by decide) ⟨rfl, v4, c4, f, hp, hf, rfl⟩
set_option maxHeartbeats 1000000 in
set_option maxRecDepth 10000 in
theorem w_L_wouldJoin (l : Launch) (D : va_G) (cA : Nat → ClassId) (N : Nat) (ad : Nat → Nat) (c : Nat → va_E) (x y : Int32) {fs : List Value} (h10 : 12 ≤ N) (h0 : c 0 = .inr (1, fs)) (post : Int32 → (Nat → va_E) → Prop) (M : Ci l yX1_wouldJoin wX1_wouldJoin { frames := 5, cells := 0, slots := 0, locals := 117 } [.ref (ad 0), .int x, .int y] D cA N ad c 0 0 post) (hout : ∀ v c', post v c' → ∃ f : Nat → Int64, c' 10 = (.inl (cA 2, 1, .inr (.inl f)))) : Ci l yL_wouldJoin wL_wouldJoin { frames := 6, cells := 0, slots := 0, locals := 139 } [.ref (ad 0), .int x, .int y, .ref (ad 10)] D cA N ad c 0 0 (fun v9 c9 => v9 = nI 0 ∧ ∃ v c' f, post v c' ∧ c' 10 = (.inl (cA 2, 1, .inr (.inl f))) ∧ c9 = va_up c' 10 (.inl (cA 2, 1, .inr (.inl (vp_updL f 0 v.toInt64))))) := by
  intro sz9
  refine bd_ofH (cc := cL_wouldJoin) (maxL := 5) (ret := some Jvm.ClassFile.FieldType.int) (hh := [(0, 10, 13, 20)]) (by decide) rfl (fun s a h => wd_code_L_wouldJoin h a) (Nat.le_of_ble_eq_true rfl) ?_
  intro p e s m below meth c0 C0 hr hlk hT hP hS hsz ls hl
  subst hsz
  have hx := C0.1
  have hb := C0.2.1
  have hl : lv_has ls 5 [(0, .ref (ad 0)), (1, .int x), (2, .int y), (3, .ref (ad 10))] := hl
  refine lv_aload_n hx hb dL_wouldJoin_0 rfl (lv_at hl 3 rfl) ?_
  refine lv_iconst (v := nI 0) hx hb dL_wouldJoin_1 rfl ?_
  refine lv_aload_n hx hb dL_wouldJoin_2 rfl (lv_at hl 0 rfl) ?_
  refine lv_iload_n hx hb dL_wouldJoin_3 rfl (lv_at hl 1 rfl) ?_
  refine lv_iload_n hx hb dL_wouldJoin_4 rfl (lv_at hl 2 rfl) ?_
  refine k0_i (rn_L_97 (As := [.int x, .int y]) (rest := [.int (nI 0), .ref (ad 10)]) (r := 0) C0 (M _) hP hS (by omega) h0 rfl ⟨rfl, rfl⟩ ⟨by decide, by decide⟩ hl.1 rfl (Nat.le_of_ble_eq_true rfl) dL_wouldJoin_5 ⟨Nat.le_of_ble_eq_true rfl, Nat.le_of_ble_eq_true rfl⟩) C0 hP hS (fun v5 c5 H locs hp hP hS => ?_)
  refine lv_i2l (v := (v5).toInt64) hx hb dL_wouldJoin_8 rfl ?_
  obtain ⟨f, hf⟩ := hout v5 c5 hp
  refine a_lst C0 hP hS (by omega) hf (by decide) (by decide) dL_wouldJoin_9 (fun H locs hP hS => ?_)
  refine lv_goto (tgt := 17) hx hb dL_wouldJoin_10 (by decide) ?_
  refine lv_iconst (v := nI 0) hx hb dL_wouldJoin_17 rfl ?_
  exact e_i C0 hr hlk hP hS dL_wouldJoin_18 (by decide) (by decide) ⟨rfl, v5, c5, f, hp, hf, rfl⟩
set_option maxHeartbeats 1000000 in
set_option maxRecDepth 10000 in
theorem w_L_meanValue (l : Launch) (D : va_G) (cA : Nat → ClassId) (N : Nat) (ad : Nat → Nat) (c : Nat → va_E) (x : Int32) {fs : List Value} (h10 : 12 ≤ N) (h0 : c 0 = .inr (1, fs)) (post : UInt64 → (Nat → va_E) → Prop) (M : Cd l yX1_meanValue wX1_meanValue { frames := 2, cells := 0, slots := 0, locals := 43 } [.ref (ad 0), .int x] D cA N ad c 0 0 post) (hout : ∀ v c', post v c' → ∃ f : Nat → UInt64, c' 11 = (.inl (cA 3, 1, .inr (.inr (.inr (.inl f)))))) : Ci l yL_meanValue wL_meanValue { frames := 3, cells := 0, slots := 0, locals := 65 } [.ref (ad 0), .int x, .ref (ad 11)] D cA N ad c 0 0 (fun v9 c9 => v9 = nI 0 ∧ ∃ v c' f, post v c' ∧ c' 11 = (.inl (cA 3, 1, .inr (.inr (.inr (.inl f))))) ∧ c9 = va_up c' 11 (.inl (cA 3, 1, .inr (.inr (.inr (.inl (vf_upd f 0 v))))))) := by
  intro sz9
  refine bd_ofH (cc := cL_meanValue) (maxL := 4) (ret := some Jvm.ClassFile.FieldType.int) (hh := [(0, 8, 11, 20)]) (by decide) rfl (fun s a h => wd_code_L_meanValue h a) (Nat.le_of_ble_eq_true rfl) ?_
  intro p e s m below meth c0 C0 hr hlk hT hP hS hsz ls hl
  subst hsz
  have hx := C0.1
  have hb := C0.2.1
  have hl : lv_has ls 4 [(0, .ref (ad 0)), (1, .int x), (2, .ref (ad 11))] := hl
  refine lv_aload_n hx hb dL_meanValue_0 rfl (lv_at hl 2 rfl) ?_
  refine lv_iconst (v := nI 0) hx hb dL_meanValue_1 rfl ?_
  refine lv_aload_n hx hb dL_meanValue_2 rfl (lv_at hl 0 rfl) ?_
  refine lv_iload_n hx hb dL_meanValue_3 rfl (lv_at hl 1 rfl) ?_
  refine k0_d (rn_L_100 (As := [.int x]) (rest := [.int (nI 0), .ref (ad 11)]) (r := 0) C0 (M _) hP hS (by omega) h0 rfl ⟨rfl, rfl⟩ ⟨by decide, by decide⟩ hl.1 rfl (Nat.le_of_ble_eq_true rfl) dL_meanValue_4 ⟨Nat.le_of_ble_eq_true rfl, Nat.le_of_ble_eq_true rfl⟩) C0 hP hS (fun v4 c4 H locs hp hP hS => ?_)
  obtain ⟨f, hf⟩ := hout v4 c4 hp
  refine a_dst C0 hP hS (by omega) hf (by decide) (by decide) dL_meanValue_7 (fun H locs hP hS => ?_)
  refine lv_goto (tgt := 14) hx hb dL_meanValue_8 (by decide) ?_
  refine lv_iconst (v := nI 0) hx hb dL_meanValue_14 rfl ?_
  exact e_i C0 hr hlk hP hS dL_meanValue_15 (by decide) (by decide) ⟨rfl, v4, c4, f, hp, hf, rfl⟩
set_option maxHeartbeats 1000000 in
set_option maxRecDepth 10000 in
theorem w_L_addHand (l : Launch) (D : va_G) (cA : Nat → ClassId) (N N' : Nat) (ad : Nat → Nat) (c : Nat → va_E) (x y z : Int32) {fs : List Value} (h10 : 12 ≤ N) (h0 : c 0 = .inr (1, fs)) (post : Int32 → (Nat → Nat) × (Nat → va_E) → Prop) (M : Gi l yX1_addHand wX1_addHand { frames := 2, cells := 4, slots := 33, locals := 35 } [.ref (ad 0), .int x, .int y, .int z] D cA N ad c N' 4 33 post) (hout : ∀ v u, post v u → u.1 10 = ad 10 ∧ 10 < N' ∧ ∃ f : Nat → Int64, u.2 10 = (.inl (cA 2, 1, .inr (.inl f)))) : Gi l yL_addHand wL_addHand { frames := 3, cells := 4, slots := 33, locals := 59 } [.ref (ad 0), .int x, .int y, .int z, .ref (ad 10)] D cA N ad c N' 4 33 (fun v9 u9 => v9 = nI 0 ∧ ∃ v u f, post v u ∧ u.2 10 = (.inl (cA 2, 1, .inr (.inl f))) ∧ u9 = (u.1, va_up u.2 10 (.inl (cA 2, 1, .inr (.inl (vp_updL f 0 v.toInt64)))))) := by
  intro sz9
  refine bd_ofH (cc := cL_addHand) (maxL := 6) (ret := some Jvm.ClassFile.FieldType.int) (hh := [(0, 12, 15, 13), (0, 12, 19, 15)]) (by decide) rfl (fun s a h => wd_code_L_addHand h a) (Nat.le_of_ble_eq_true rfl) ?_
  intro p e s m below meth c0 C0 hr hlk hT hP hS hsz ls hl
  subst hsz
  have hx := C0.1
  have hb := C0.2.1
  have hl : lv_has ls 6 [(0, .ref (ad 0)), (1, .int x), (2, .int y), (3, .int z), (4, .ref (ad 10))] := hl
  refine lv_aload hx hb dL_addHand_0 (lv_at hl 4 rfl) ?_
  refine lv_iconst (v := nI 0) hx hb dL_addHand_2 rfl ?_
  refine lv_aload_n hx hb dL_addHand_3 rfl (lv_at hl 0 rfl) ?_
  refine lv_iload_n hx hb dL_addHand_4 rfl (lv_at hl 1 rfl) ?_
  refine lv_iload_n hx hb dL_addHand_5 rfl (lv_at hl 2 rfl) ?_
  refine lv_iload_n hx hb dL_addHand_6 rfl (lv_at hl 3 rfl) ?_
  refine k_gi (rn_L_7 (As := [.int x, .int y, .int z]) (rest := [.int (nI 0), .ref (ad 10)]) (r := 0) C0 (M _) hP hS (by omega) h0 rfl ⟨rfl, rfl⟩ ⟨by decide, by decide⟩ hl.1 rfl (Nat.le_of_ble_eq_true rfl) dL_addHand_7 ⟨Nat.le_of_ble_eq_true rfl, Nat.le_of_ble_eq_true rfl⟩) C0 hP hS (fun v7 ad' c' H locs hp C0 hP hS => ?_)
  obtain ⟨e10, hN', f, hf⟩ := hout _ _ hp
  dsimp only at e10 hf
  refine lv_i2l (v := v7.toInt64) hx hb dL_addHand_10 rfl ?_
  rw [← e10]
  refine a_lst C0 hP hS hN' hf (by decide) (by decide) dL_addHand_11 (fun H locs hP hS => ?_)
  refine lv_goto (tgt := 23) hx hb dL_addHand_12 (by decide) ?_
  refine lv_iconst (v := nI 0) hx hb dL_addHand_23 rfl ?_
  exact e_gi C0 hr hlk hP hS dL_addHand_24 (Nat.le_of_ble_eq_true rfl) (Nat.le_of_ble_eq_true rfl) ⟨rfl, v7, (ad', c'), f, hp, hf, rfl⟩
set_option maxHeartbeats 1000000 in
set_option maxRecDepth 10000 in
theorem w_L_offer__c0 (l : Launch) (D : va_G) (cA : Nat → ClassId) (N : Nat) (ad : Nat → Nat) (c : Nat → va_E) (x y z : Int32) {fs : List Value} (h10 : 12 ≤ N) (h0 : c 0 = .inr (1, fs)) (M : Ct l yX1_offer wX1_offer { frames := 7, cells := 1, slots := 6, locals := 104 } [.ref (ad 0), .int x, .int y, .int z] D cA N ad c 1 6 nIOB) : Ci l yL_offer wL_offer { frames := 8, cells := 1, slots := 6, locals := 128 } [.ref (ad 0), .int x, .int y, .int z, .ref (ad 10)] D cA N ad c 1 6 (fun v9 c9 => v9 = nI 1 ∧ c = c9) := by
  intro sz9
  refine bd_ofH (cc := cL_offer) (maxL := 6) (ret := some Jvm.ClassFile.FieldType.int) (hh := [(0, 12, 15, 20), (0, 12, 19, 13)]) (by decide) rfl (fun s a h => wd_code_L_offer h a) (Nat.le_of_ble_eq_true rfl) ?_
  intro p e s m below meth c0 C0 hr hlk hT hP hS hsz ls hl
  subst hsz
  have hx := C0.1
  have hb := C0.2.1
  have hl : lv_has ls 6 [(0, .ref (ad 0)), (1, .int x), (2, .int y), (3, .int z), (4, .ref (ad 10))] := hl
  refine lv_aload hx hb dL_offer_0 (lv_at hl 4 rfl) ?_
  refine lv_iconst (v := nI 0) hx hb dL_offer_2 rfl ?_
  refine lv_aload_n hx hb dL_offer_3 rfl (lv_at hl 0 rfl) ?_
  refine lv_iload_n hx hb dL_offer_4 rfl (lv_at hl 1 rfl) ?_
  refine lv_iload_n hx hb dL_offer_5 rfl (lv_at hl 2 rfl) ?_
  refine lv_iload_n hx hb dL_offer_6 rfl (lv_at hl 3 rfl) ?_
  refine kt_catch (rx_L_17 (As := [.int x, .int y, .int z]) (rest := [.int (nI 0), .ref (ad 10)]) (r := 0) C0 (M _) hP hS (by omega) h0 rfl ⟨rfl, rfl⟩ ⟨by decide, by decide⟩ hl.1 rfl (Nat.le_of_ble_eq_true rfl) dL_offer_7 ⟨Nat.le_of_ble_eq_true rfl, Nat.le_of_ble_eq_true rfl⟩) C0 hP hS [] ⟨0, 12, 15, 20⟩ [⟨0, 12, 19, 13⟩] (hT.trans rfl) (fun z hz => nomatch hz) (by decide) (by decide) (cl_20 C0.2.2.2.2.1 _) (ctnIOB C0.2.2.2.2.1 _) (fun H locs q hP hS => ?_)
  refine lv_astore (lv' := [(5, .ref q), (0, .ref (ad 0)), (1, .int x), (2, .int y), (3, .int z), (4, .ref (ad 10))]) hx hb dL_offer_15 hl (by decide) rfl (fun ls hl => ?_)
  refine lv_iconst (v := nI 1) hx hb dL_offer_17 rfl ?_
  exact e_i C0 hr hlk hP hS dL_offer_18 (by decide) (by decide) ⟨rfl, rfl⟩
set_option maxHeartbeats 1000000 in
set_option maxRecDepth 10000 in
theorem w_L_offerRow__c0 (l : Launch) (D : va_G) (cA : Nat → ClassId) (N : Nat) (ad : Nat → Nat) (c : Nat → va_E) (x y z u : Int32) {fs : List Value} (h10 : 12 ≤ N) (h0 : c 0 = .inr (1, fs)) (M : Ct l yX1_offerRow wX1_offerRow { frames := 7, cells := 1, slots := 6, locals := 104 } [.ref (ad 0), .int x, .int y, .int z, .int u] D cA N ad c 1 6 nIOB) : Ci l yL_offerRow wL_offerRow { frames := 8, cells := 1, slots := 6, locals := 133 } [.ref (ad 0), .int x, .int y, .int z, .int u, .ref (ad 10)] D cA N ad c 1 6 (fun v9 c9 => v9 = nI 1 ∧ c = c9) := by
  intro sz9
  refine bd_ofH (cc := cL_offerRow) (maxL := 7) (ret := some Jvm.ClassFile.FieldType.int) (hh := [(0, 14, 17, 20), (0, 14, 21, 13)]) (by decide) rfl (fun s a h => wd_code_L_offerRow h a) (Nat.le_of_ble_eq_true rfl) ?_
  intro p e s m below meth c0 C0 hr hlk hT hP hS hsz ls hl
  subst hsz
  have hx := C0.1
  have hb := C0.2.1
  have hl : lv_has ls 7 [(0, .ref (ad 0)), (1, .int x), (2, .int y), (3, .int z), (4, .int u), (5, .ref (ad 10))] := hl
  refine lv_aload hx hb dL_offerRow_0 (lv_at hl 5 rfl) ?_
  refine lv_iconst (v := nI 0) hx hb dL_offerRow_2 rfl ?_
  refine lv_aload_n hx hb dL_offerRow_3 rfl (lv_at hl 0 rfl) ?_
  refine lv_iload_n hx hb dL_offerRow_4 rfl (lv_at hl 1 rfl) ?_
  refine lv_iload_n hx hb dL_offerRow_5 rfl (lv_at hl 2 rfl) ?_
  refine lv_iload_n hx hb dL_offerRow_6 rfl (lv_at hl 3 rfl) ?_
  refine lv_iload hx hb dL_offerRow_7 (lv_at hl 4 rfl) ?_
  refine kt_catch (rx_L_22 (As := [.int x, .int y, .int z, .int u]) (rest := [.int (nI 0), .ref (ad 10)]) (r := 0) C0 (M _) hP hS (by omega) h0 rfl ⟨rfl, rfl⟩ ⟨by decide, by decide⟩ hl.1 rfl (Nat.le_of_ble_eq_true rfl) dL_offerRow_9 ⟨Nat.le_of_ble_eq_true rfl, Nat.le_of_ble_eq_true rfl⟩) C0 hP hS [] ⟨0, 14, 17, 20⟩ [⟨0, 14, 21, 13⟩] (hT.trans rfl) (fun z hz => nomatch hz) (by decide) (by decide) (cl_20 C0.2.2.2.2.1 _) (ctnIOB C0.2.2.2.2.1 _) (fun H locs q hP hS => ?_)
  refine lv_astore (lv' := [(6, .ref q), (0, .ref (ad 0)), (1, .int x), (2, .int y), (3, .int z), (4, .int u), (5, .ref (ad 10))]) hx hb dL_offerRow_17 hl (by decide) rfl (fun ls hl => ?_)
  refine lv_iconst (v := nI 1) hx hb dL_offerRow_19 rfl ?_
  exact e_i C0 hr hlk hP hS dL_offerRow_20 (by decide) (by decide) ⟨rfl, rfl⟩
set_option maxHeartbeats 1000000 in
set_option maxRecDepth 10000 in
theorem w_L_mix__c0 (l : Launch) (D : va_G) (cA : Nat → ClassId) (N : Nat) (ad : Nat → Nat) (c : Nat → va_E) (x : Int32) {fs : List Value} (h10 : 12 ≤ N) (h0 : c 0 = .inr (1, fs)) (M : Ct l yX1_mix wX1_mix { frames := 7, cells := 1, slots := 6, locals := 104 } [.ref (ad 0), .int x] D cA N ad c 1 6 nIOB) : Ci l yL_mix wL_mix { frames := 8, cells := 1, slots := 6, locals := 125 } [.ref (ad 0), .int x, .ref (ad 10)] D cA N ad c 1 6 (fun v9 c9 => v9 = nI 1 ∧ c = c9) := by
  intro sz9
  refine bd_ofH (cc := cL_mix) (maxL := 4) (ret := some Jvm.ClassFile.FieldType.int) (hh := [(0, 9, 12, 20)]) (by decide) rfl (fun s a h => wd_code_L_mix h a) (Nat.le_of_ble_eq_true rfl) ?_
  intro p e s m below meth c0 C0 hr hlk hT hP hS hsz ls hl
  subst hsz
  have hx := C0.1
  have hb := C0.2.1
  have hl : lv_has ls 4 [(0, .ref (ad 0)), (1, .int x), (2, .ref (ad 10))] := hl
  refine lv_aload_n hx hb dL_mix_0 rfl (lv_at hl 2 rfl) ?_
  refine lv_iconst (v := nI 0) hx hb dL_mix_1 rfl ?_
  refine lv_aload_n hx hb dL_mix_2 rfl (lv_at hl 0 rfl) ?_
  refine lv_iload_n hx hb dL_mix_3 rfl (lv_at hl 1 rfl) ?_
  refine kt_catch (rx_L_26 (As := [.int x]) (rest := [.int (nI 0), .ref (ad 10)]) (r := 0) C0 (M _) hP hS (by omega) h0 rfl ⟨rfl, rfl⟩ ⟨by decide, by decide⟩ hl.1 rfl (Nat.le_of_ble_eq_true rfl) dL_mix_4 ⟨Nat.le_of_ble_eq_true rfl, Nat.le_of_ble_eq_true rfl⟩) C0 hP hS [] ⟨0, 9, 12, 20⟩ [] (hT.trans rfl) (fun z hz => nomatch hz) (by decide) (by decide) (cl_20 C0.2.2.2.2.1 _) (ctnIOB C0.2.2.2.2.1 _) (fun H locs q hP hS => ?_)
  refine lv_astore_n (lv' := [(3, .ref q), (0, .ref (ad 0)), (1, .int x), (2, .ref (ad 10))]) hx hb dL_mix_12 rfl hl (by decide) rfl (fun ls hl => ?_)
  refine lv_iconst (v := nI 1) hx hb dL_mix_13 rfl ?_
  exact e_i C0 hr hlk hP hS dL_mix_14 (by decide) (by decide) ⟨rfl, rfl⟩
set_option maxHeartbeats 1000000 in
set_option maxRecDepth 10000 in
theorem w_L_join__c0 (l : Launch) (D : va_G) (cA : Nat → ClassId) (N : Nat) (ad : Nat → Nat) (c : Nat → va_E) (x y : Int32) {fs : List Value} (h10 : 12 ≤ N) (h0 : c 0 = .inr (1, fs)) (M : Ct l yX1_join wX1_join { frames := 7, cells := 1, slots := 6, locals := 104 } [.ref (ad 0), .int x, .int y] D cA N ad c 1 6 nIOB) : Ci l yL_join wL_join { frames := 8, cells := 1, slots := 6, locals := 129 } [.ref (ad 0), .int x, .int y, .ref (ad 10)] D cA N ad c 1 6 (fun v9 c9 => v9 = nI 1 ∧ c = c9) := by
  intro sz9
  refine bd_ofH (cc := cL_join) (maxL := 5) (ret := some Jvm.ClassFile.FieldType.int) (hh := [(0, 10, 13, 20), (0, 10, 17, 13), (0, 10, 21, 15)]) (by decide) rfl (fun s a h => wd_code_L_join h a) (Nat.le_of_ble_eq_true rfl) ?_
  intro p e s m below meth c0 C0 hr hlk hT hP hS hsz ls hl
  subst hsz
  have hx := C0.1
  have hb := C0.2.1
  have hl : lv_has ls 5 [(0, .ref (ad 0)), (1, .int x), (2, .int y), (3, .ref (ad 10))] := hl
  refine lv_aload_n hx hb dL_join_0 rfl (lv_at hl 3 rfl) ?_
  refine lv_iconst (v := nI 0) hx hb dL_join_1 rfl ?_
  refine lv_aload_n hx hb dL_join_2 rfl (lv_at hl 0 rfl) ?_
  refine lv_iload_n hx hb dL_join_3 rfl (lv_at hl 1 rfl) ?_
  refine lv_iload_n hx hb dL_join_4 rfl (lv_at hl 2 rfl) ?_
  refine kt_catch (rx_L_30 (As := [.int x, .int y]) (rest := [.int (nI 0), .ref (ad 10)]) (r := 0) C0 (M _) hP hS (by omega) h0 rfl ⟨rfl, rfl⟩ ⟨by decide, by decide⟩ hl.1 rfl (Nat.le_of_ble_eq_true rfl) dL_join_5 ⟨Nat.le_of_ble_eq_true rfl, Nat.le_of_ble_eq_true rfl⟩) C0 hP hS [] ⟨0, 10, 13, 20⟩ [⟨0, 10, 17, 13⟩, ⟨0, 10, 21, 15⟩] (hT.trans rfl) (fun z hz => nomatch hz) (by decide) (by decide) (cl_20 C0.2.2.2.2.1 _) (ctnIOB C0.2.2.2.2.1 _) (fun H locs q hP hS => ?_)
  refine lv_astore (lv' := [(4, .ref q), (0, .ref (ad 0)), (1, .int x), (2, .int y), (3, .ref (ad 10))]) hx hb dL_join_13 hl (by decide) rfl (fun ls hl => ?_)
  refine lv_iconst (v := nI 1) hx hb dL_join_15 rfl ?_
  exact e_i C0 hr hlk hP hS dL_join_16 (by decide) (by decide) ⟨rfl, rfl⟩
set_option maxHeartbeats 1000000 in
set_option maxRecDepth 10000 in
theorem w_L_setLuck__c0 (l : Launch) (D : va_G) (cA : Nat → ClassId) (N : Nat) (ad : Nat → Nat) (c : Nat → va_E) (x y : Int32) {fs : List Value} (h10 : 12 ≤ N) (h0 : c 0 = .inr (1, fs)) (M : Ct l yX1_setLuck wX1_setLuck { frames := 7, cells := 1, slots := 6, locals := 104 } [.ref (ad 0), .int x, .int y] D cA N ad c 1 6 nIOB) : Ci l yL_setLuck wL_setLuck { frames := 8, cells := 1, slots := 6, locals := 128 } [.ref (ad 0), .int x, .int y, .ref (ad 10)] D cA N ad c 1 6 (fun v9 c9 => v9 = nI 1 ∧ c = c9) := by
  intro sz9
  refine bd_ofH (cc := cL_setLuck) (maxL := 5) (ret := some Jvm.ClassFile.FieldType.int) (hh := [(0, 10, 13, 20), (0, 10, 17, 13)]) (by decide) rfl (fun s a h => wd_code_L_setLuck h a) (Nat.le_of_ble_eq_true rfl) ?_
  intro p e s m below meth c0 C0 hr hlk hT hP hS hsz ls hl
  subst hsz
  have hx := C0.1
  have hb := C0.2.1
  have hl : lv_has ls 5 [(0, .ref (ad 0)), (1, .int x), (2, .int y), (3, .ref (ad 10))] := hl
  refine lv_aload_n hx hb dL_setLuck_0 rfl (lv_at hl 3 rfl) ?_
  refine lv_iconst (v := nI 0) hx hb dL_setLuck_1 rfl ?_
  refine lv_aload_n hx hb dL_setLuck_2 rfl (lv_at hl 0 rfl) ?_
  refine lv_iload_n hx hb dL_setLuck_3 rfl (lv_at hl 1 rfl) ?_
  refine lv_iload_n hx hb dL_setLuck_4 rfl (lv_at hl 2 rfl) ?_
  refine kt_catch (rx_L_34 (As := [.int x, .int y]) (rest := [.int (nI 0), .ref (ad 10)]) (r := 0) C0 (M _) hP hS (by omega) h0 rfl ⟨rfl, rfl⟩ ⟨by decide, by decide⟩ hl.1 rfl (Nat.le_of_ble_eq_true rfl) dL_setLuck_5 ⟨Nat.le_of_ble_eq_true rfl, Nat.le_of_ble_eq_true rfl⟩) C0 hP hS [] ⟨0, 10, 13, 20⟩ [⟨0, 10, 17, 13⟩] (hT.trans rfl) (fun z hz => nomatch hz) (by decide) (by decide) (cl_20 C0.2.2.2.2.1 _) (ctnIOB C0.2.2.2.2.1 _) (fun H locs q hP hS => ?_)
  refine lv_astore (lv' := [(4, .ref q), (0, .ref (ad 0)), (1, .int x), (2, .int y), (3, .ref (ad 10))]) hx hb dL_setLuck_13 hl (by decide) rfl (fun ls hl => ?_)
  refine lv_iconst (v := nI 1) hx hb dL_setLuck_15 rfl ?_
  exact e_i C0 hr hlk hP hS dL_setLuck_16 (by decide) (by decide) ⟨rfl, rfl⟩
set_option maxHeartbeats 1000000 in
set_option maxRecDepth 10000 in
theorem w_L_holds__c0 (l : Launch) (D : va_G) (cA : Nat → ClassId) (N : Nat) (ad : Nat → Nat) (c : Nat → va_E) (x : Int32) {fs : List Value} (h10 : 12 ≤ N) (h0 : c 0 = .inr (1, fs)) (M : Ct l yX1_holds wX1_holds { frames := 7, cells := 1, slots := 6, locals := 104 } [.ref (ad 0), .int x] D cA N ad c 1 6 nIOB) : Ci l yL_holds wL_holds { frames := 8, cells := 1, slots := 6, locals := 125 } [.ref (ad 0), .int x, .ref (ad 10)] D cA N ad c 1 6 (fun v9 c9 => v9 = nI 1 ∧ c = c9) := by
  intro sz9
  refine bd_ofH (cc := cL_holds) (maxL := 4) (ret := some Jvm.ClassFile.FieldType.int) (hh := [(0, 9, 12, 20)]) (by decide) rfl (fun s a h => wd_code_L_holds h a) (Nat.le_of_ble_eq_true rfl) ?_
  intro p e s m below meth c0 C0 hr hlk hT hP hS hsz ls hl
  subst hsz
  have hx := C0.1
  have hb := C0.2.1
  have hl : lv_has ls 4 [(0, .ref (ad 0)), (1, .int x), (2, .ref (ad 10))] := hl
  refine lv_aload_n hx hb dL_holds_0 rfl (lv_at hl 2 rfl) ?_
  refine lv_iconst (v := nI 0) hx hb dL_holds_1 rfl ?_
  refine lv_aload_n hx hb dL_holds_2 rfl (lv_at hl 0 rfl) ?_
  refine lv_iload_n hx hb dL_holds_3 rfl (lv_at hl 1 rfl) ?_
  refine kt_catch (rx_L_37 (As := [.int x]) (rest := [.int (nI 0), .ref (ad 10)]) (r := 0) C0 (M _) hP hS (by omega) h0 rfl ⟨rfl, rfl⟩ ⟨by decide, by decide⟩ hl.1 rfl (Nat.le_of_ble_eq_true rfl) dL_holds_4 ⟨Nat.le_of_ble_eq_true rfl, Nat.le_of_ble_eq_true rfl⟩) C0 hP hS [] ⟨0, 9, 12, 20⟩ [] (hT.trans rfl) (fun z hz => nomatch hz) (by decide) (by decide) (cl_20 C0.2.2.2.2.1 _) (ctnIOB C0.2.2.2.2.1 _) (fun H locs q hP hS => ?_)
  refine lv_astore_n (lv' := [(3, .ref q), (0, .ref (ad 0)), (1, .int x), (2, .ref (ad 10))]) hx hb dL_holds_12 rfl hl (by decide) rfl (fun ls hl => ?_)
  refine lv_iconst (v := nI 1) hx hb dL_holds_13 rfl ?_
  exact e_i C0 hr hlk hP hS dL_holds_14 (by decide) (by decide) ⟨rfl, rfl⟩
set_option maxHeartbeats 1000000 in
set_option maxRecDepth 10000 in
theorem w_L_roomOf__c0 (l : Launch) (D : va_G) (cA : Nat → ClassId) (N : Nat) (ad : Nat → Nat) (c : Nat → va_E) (x : Int32) {fs : List Value} (h10 : 12 ≤ N) (h0 : c 0 = .inr (1, fs)) (M : Ct l yX1_roomOf wX1_roomOf { frames := 7, cells := 1, slots := 6, locals := 104 } [.ref (ad 0), .int x] D cA N ad c 1 6 nIOB) : Ci l yL_roomOf wL_roomOf { frames := 8, cells := 1, slots := 6, locals := 125 } [.ref (ad 0), .int x, .ref (ad 10)] D cA N ad c 1 6 (fun v9 c9 => v9 = nI 1 ∧ c = c9) := by
  intro sz9
  refine bd_ofH (cc := cL_roomOf) (maxL := 4) (ret := some Jvm.ClassFile.FieldType.int) (hh := [(0, 9, 12, 20)]) (by decide) rfl (fun s a h => wd_code_L_roomOf h a) (Nat.le_of_ble_eq_true rfl) ?_
  intro p e s m below meth c0 C0 hr hlk hT hP hS hsz ls hl
  subst hsz
  have hx := C0.1
  have hb := C0.2.1
  have hl : lv_has ls 4 [(0, .ref (ad 0)), (1, .int x), (2, .ref (ad 10))] := hl
  refine lv_aload_n hx hb dL_roomOf_0 rfl (lv_at hl 2 rfl) ?_
  refine lv_iconst (v := nI 0) hx hb dL_roomOf_1 rfl ?_
  refine lv_aload_n hx hb dL_roomOf_2 rfl (lv_at hl 0 rfl) ?_
  refine lv_iload_n hx hb dL_roomOf_3 rfl (lv_at hl 1 rfl) ?_
  refine kt_catch (rx_L_40 (As := [.int x]) (rest := [.int (nI 0), .ref (ad 10)]) (r := 0) C0 (M _) hP hS (by omega) h0 rfl ⟨rfl, rfl⟩ ⟨by decide, by decide⟩ hl.1 rfl (Nat.le_of_ble_eq_true rfl) dL_roomOf_4 ⟨Nat.le_of_ble_eq_true rfl, Nat.le_of_ble_eq_true rfl⟩) C0 hP hS [] ⟨0, 9, 12, 20⟩ [] (hT.trans rfl) (fun z hz => nomatch hz) (by decide) (by decide) (cl_20 C0.2.2.2.2.1 _) (ctnIOB C0.2.2.2.2.1 _) (fun H locs q hP hS => ?_)
  refine lv_astore_n (lv' := [(3, .ref q), (0, .ref (ad 0)), (1, .int x), (2, .ref (ad 10))]) hx hb dL_roomOf_12 rfl hl (by decide) rfl (fun ls hl => ?_)
  refine lv_iconst (v := nI 1) hx hb dL_roomOf_13 rfl ?_
  exact e_i C0 hr hlk hP hS dL_roomOf_14 (by decide) (by decide) ⟨rfl, rfl⟩
set_option maxHeartbeats 1000000 in
set_option maxRecDepth 10000 in
theorem w_L_seenBy__c0 (l : Launch) (D : va_G) (cA : Nat → ClassId) (N : Nat) (ad : Nat → Nat) (c : Nat → va_E) (x : Int32) {fs : List Value} (h10 : 12 ≤ N) (h0 : c 0 = .inr (1, fs)) (M : Ct l yX1_seenBy wX1_seenBy { frames := 7, cells := 1, slots := 6, locals := 104 } [.ref (ad 0), .int x] D cA N ad c 1 6 nIOB) : Ci l yL_seenBy wL_seenBy { frames := 8, cells := 1, slots := 6, locals := 125 } [.ref (ad 0), .int x, .ref (ad 10)] D cA N ad c 1 6 (fun v9 c9 => v9 = nI 1 ∧ c = c9) := by
  intro sz9
  refine bd_ofH (cc := cL_seenBy) (maxL := 4) (ret := some Jvm.ClassFile.FieldType.int) (hh := [(0, 9, 12, 20)]) (by decide) rfl (fun s a h => wd_code_L_seenBy h a) (Nat.le_of_ble_eq_true rfl) ?_
  intro p e s m below meth c0 C0 hr hlk hT hP hS hsz ls hl
  subst hsz
  have hx := C0.1
  have hb := C0.2.1
  have hl : lv_has ls 4 [(0, .ref (ad 0)), (1, .int x), (2, .ref (ad 10))] := hl
  refine lv_aload_n hx hb dL_seenBy_0 rfl (lv_at hl 2 rfl) ?_
  refine lv_iconst (v := nI 0) hx hb dL_seenBy_1 rfl ?_
  refine lv_aload_n hx hb dL_seenBy_2 rfl (lv_at hl 0 rfl) ?_
  refine lv_iload_n hx hb dL_seenBy_3 rfl (lv_at hl 1 rfl) ?_
  refine kt_catch (rx_L_43 (As := [.int x]) (rest := [.int (nI 0), .ref (ad 10)]) (r := 0) C0 (M _) hP hS (by omega) h0 rfl ⟨rfl, rfl⟩ ⟨by decide, by decide⟩ hl.1 rfl (Nat.le_of_ble_eq_true rfl) dL_seenBy_4 ⟨Nat.le_of_ble_eq_true rfl, Nat.le_of_ble_eq_true rfl⟩) C0 hP hS [] ⟨0, 9, 12, 20⟩ [] (hT.trans rfl) (fun z hz => nomatch hz) (by decide) (by decide) (cl_20 C0.2.2.2.2.1 _) (ctnIOB C0.2.2.2.2.1 _) (fun H locs q hP hS => ?_)
  refine lv_astore_n (lv' := [(3, .ref q), (0, .ref (ad 0)), (1, .int x), (2, .ref (ad 10))]) hx hb dL_seenBy_12 rfl hl (by decide) rfl (fun ls hl => ?_)
  refine lv_iconst (v := nI 1) hx hb dL_seenBy_13 rfl ?_
  exact e_i C0 hr hlk hP hS dL_seenBy_14 (by decide) (by decide) ⟨rfl, rfl⟩
set_option maxHeartbeats 1000000 in
set_option maxRecDepth 10000 in
theorem w_L_loadOf__c0 (l : Launch) (D : va_G) (cA : Nat → ClassId) (N : Nat) (ad : Nat → Nat) (c : Nat → va_E) (x : Int32) {fs : List Value} (h10 : 12 ≤ N) (h0 : c 0 = .inr (1, fs)) (M : Ct l yX1_loadOf wX1_loadOf { frames := 7, cells := 1, slots := 6, locals := 104 } [.ref (ad 0), .int x] D cA N ad c 1 6 nIOB) : Ci l yL_loadOf wL_loadOf { frames := 8, cells := 1, slots := 6, locals := 125 } [.ref (ad 0), .int x, .ref (ad 10)] D cA N ad c 1 6 (fun v9 c9 => v9 = nI 1 ∧ c = c9) := by
  intro sz9
  refine bd_ofH (cc := cL_loadOf) (maxL := 4) (ret := some Jvm.ClassFile.FieldType.int) (hh := [(0, 9, 12, 20)]) (by decide) rfl (fun s a h => wd_code_L_loadOf h a) (Nat.le_of_ble_eq_true rfl) ?_
  intro p e s m below meth c0 C0 hr hlk hT hP hS hsz ls hl
  subst hsz
  have hx := C0.1
  have hb := C0.2.1
  have hl : lv_has ls 4 [(0, .ref (ad 0)), (1, .int x), (2, .ref (ad 10))] := hl
  refine lv_aload_n hx hb dL_loadOf_0 rfl (lv_at hl 2 rfl) ?_
  refine lv_iconst (v := nI 0) hx hb dL_loadOf_1 rfl ?_
  refine lv_aload_n hx hb dL_loadOf_2 rfl (lv_at hl 0 rfl) ?_
  refine lv_iload_n hx hb dL_loadOf_3 rfl (lv_at hl 1 rfl) ?_
  refine kt_catch (rx_L_46 (As := [.int x]) (rest := [.int (nI 0), .ref (ad 10)]) (r := 0) C0 (M _) hP hS (by omega) h0 rfl ⟨rfl, rfl⟩ ⟨by decide, by decide⟩ hl.1 rfl (Nat.le_of_ble_eq_true rfl) dL_loadOf_4 ⟨Nat.le_of_ble_eq_true rfl, Nat.le_of_ble_eq_true rfl⟩) C0 hP hS [] ⟨0, 9, 12, 20⟩ [] (hT.trans rfl) (fun z hz => nomatch hz) (by decide) (by decide) (cl_20 C0.2.2.2.2.1 _) (ctnIOB C0.2.2.2.2.1 _) (fun H locs q hP hS => ?_)
  refine lv_astore_n (lv' := [(3, .ref q), (0, .ref (ad 0)), (1, .int x), (2, .ref (ad 10))]) hx hb dL_loadOf_12 rfl hl (by decide) rfl (fun ls hl => ?_)
  refine lv_iconst (v := nI 1) hx hb dL_loadOf_13 rfl ?_
  exact e_i C0 hr hlk hP hS dL_loadOf_14 (by decide) (by decide) ⟨rfl, rfl⟩
set_option maxHeartbeats 1000000 in
set_option maxRecDepth 10000 in
theorem w_L_luckOf__c0 (l : Launch) (D : va_G) (cA : Nat → ClassId) (N : Nat) (ad : Nat → Nat) (c : Nat → va_E) (x : Int32) {fs : List Value} (h10 : 12 ≤ N) (h0 : c 0 = .inr (1, fs)) (M : Ct l yX1_luckOf wX1_luckOf { frames := 7, cells := 1, slots := 6, locals := 104 } [.ref (ad 0), .int x] D cA N ad c 1 6 nIOB) : Ci l yL_luckOf wL_luckOf { frames := 8, cells := 1, slots := 6, locals := 125 } [.ref (ad 0), .int x, .ref (ad 10)] D cA N ad c 1 6 (fun v9 c9 => v9 = nI 1 ∧ c = c9) := by
  intro sz9
  refine bd_ofH (cc := cL_luckOf) (maxL := 4) (ret := some Jvm.ClassFile.FieldType.int) (hh := [(0, 9, 12, 20)]) (by decide) rfl (fun s a h => wd_code_L_luckOf h a) (Nat.le_of_ble_eq_true rfl) ?_
  intro p e s m below meth c0 C0 hr hlk hT hP hS hsz ls hl
  subst hsz
  have hx := C0.1
  have hb := C0.2.1
  have hl : lv_has ls 4 [(0, .ref (ad 0)), (1, .int x), (2, .ref (ad 10))] := hl
  refine lv_aload_n hx hb dL_luckOf_0 rfl (lv_at hl 2 rfl) ?_
  refine lv_iconst (v := nI 0) hx hb dL_luckOf_1 rfl ?_
  refine lv_aload_n hx hb dL_luckOf_2 rfl (lv_at hl 0 rfl) ?_
  refine lv_iload_n hx hb dL_luckOf_3 rfl (lv_at hl 1 rfl) ?_
  refine kt_catch (rx_L_49 (As := [.int x]) (rest := [.int (nI 0), .ref (ad 10)]) (r := 0) C0 (M _) hP hS (by omega) h0 rfl ⟨rfl, rfl⟩ ⟨by decide, by decide⟩ hl.1 rfl (Nat.le_of_ble_eq_true rfl) dL_luckOf_4 ⟨Nat.le_of_ble_eq_true rfl, Nat.le_of_ble_eq_true rfl⟩) C0 hP hS [] ⟨0, 9, 12, 20⟩ [] (hT.trans rfl) (fun z hz => nomatch hz) (by decide) (by decide) (cl_20 C0.2.2.2.2.1 _) (ctnIOB C0.2.2.2.2.1 _) (fun H locs q hP hS => ?_)
  refine lv_astore_n (lv' := [(3, .ref q), (0, .ref (ad 0)), (1, .int x), (2, .ref (ad 10))]) hx hb dL_luckOf_12 rfl hl (by decide) rfl (fun ls hl => ?_)
  refine lv_iconst (v := nI 1) hx hb dL_luckOf_13 rfl ?_
  exact e_i C0 hr hlk hP hS dL_luckOf_14 (by decide) (by decide) ⟨rfl, rfl⟩
set_option maxHeartbeats 1000000 in
set_option maxRecDepth 10000 in
theorem w_L_valueAt__c0 (l : Launch) (D : va_G) (cA : Nat → ClassId) (N : Nat) (ad : Nat → Nat) (c : Nat → va_E) (x y : Int32) {fs : List Value} (h10 : 12 ≤ N) (h0 : c 0 = .inr (1, fs)) (M : Ct l yX1_valueAt wX1_valueAt { frames := 8, cells := 1, slots := 6, locals := 127 } [.ref (ad 0), .int x, .int y] D cA N ad c 1 6 nIOB) : Ci l yL_valueAt wL_valueAt { frames := 9, cells := 1, slots := 6, locals := 149 } [.ref (ad 0), .int x, .int y, .ref (ad 10)] D cA N ad c 1 6 (fun v9 c9 => v9 = nI 1 ∧ c = c9) := by
  intro sz9
  refine bd_ofH (cc := cL_valueAt) (maxL := 5) (ret := some Jvm.ClassFile.FieldType.int) (hh := [(0, 10, 13, 20)]) (by decide) rfl (fun s a h => wd_code_L_valueAt h a) (Nat.le_of_ble_eq_true rfl) ?_
  intro p e s m below meth c0 C0 hr hlk hT hP hS hsz ls hl
  subst hsz
  have hx := C0.1
  have hb := C0.2.1
  have hl : lv_has ls 5 [(0, .ref (ad 0)), (1, .int x), (2, .int y), (3, .ref (ad 10))] := hl
  refine lv_aload_n hx hb dL_valueAt_0 rfl (lv_at hl 3 rfl) ?_
  refine lv_iconst (v := nI 0) hx hb dL_valueAt_1 rfl ?_
  refine lv_aload_n hx hb dL_valueAt_2 rfl (lv_at hl 0 rfl) ?_
  refine lv_iload_n hx hb dL_valueAt_3 rfl (lv_at hl 1 rfl) ?_
  refine lv_iload_n hx hb dL_valueAt_4 rfl (lv_at hl 2 rfl) ?_
  refine kt_catch (rx_L_52 (As := [.int x, .int y]) (rest := [.int (nI 0), .ref (ad 10)]) (r := 0) C0 (M _) hP hS (by omega) h0 rfl ⟨rfl, rfl⟩ ⟨by decide, by decide⟩ hl.1 rfl (Nat.le_of_ble_eq_true rfl) dL_valueAt_5 ⟨Nat.le_of_ble_eq_true rfl, Nat.le_of_ble_eq_true rfl⟩) C0 hP hS [] ⟨0, 10, 13, 20⟩ [] (hT.trans rfl) (fun z hz => nomatch hz) (by decide) (by decide) (cl_20 C0.2.2.2.2.1 _) (ctnIOB C0.2.2.2.2.1 _) (fun H locs q hP hS => ?_)
  refine lv_astore (lv' := [(4, .ref q), (0, .ref (ad 0)), (1, .int x), (2, .int y), (3, .ref (ad 10))]) hx hb dL_valueAt_13 hl (by decide) rfl (fun ls hl => ?_)
  refine lv_iconst (v := nI 1) hx hb dL_valueAt_15 rfl ?_
  exact e_i C0 hr hlk hP hS dL_valueAt_16 (by decide) (by decide) ⟨rfl, rfl⟩
set_option maxHeartbeats 1000000 in
set_option maxRecDepth 10000 in
theorem w_L_valueAt__c0_2 (l : Launch) (D : va_G) (cA : Nat → ClassId) (N : Nat) (ad : Nat → Nat) (c : Nat → va_E) (x y : Int32) {fs : List Value} (h10 : 12 ≤ N) (h0 : c 0 = .inr (1, fs)) (M : Ct l yX1_valueAt wX1_valueAt { frames := 7, cells := 1, slots := 6, locals := 105 } [.ref (ad 0), .int x, .int y] D cA N ad c 1 6 nIOB) : Ci l yL_valueAt wL_valueAt { frames := 8, cells := 1, slots := 6, locals := 127 } [.ref (ad 0), .int x, .int y, .ref (ad 10)] D cA N ad c 1 6 (fun v9 c9 => v9 = nI 1 ∧ c = c9) := by
  intro sz9
  refine bd_ofH (cc := cL_valueAt) (maxL := 5) (ret := some Jvm.ClassFile.FieldType.int) (hh := [(0, 10, 13, 20)]) (by decide) rfl (fun s a h => wd_code_L_valueAt h a) (Nat.le_of_ble_eq_true rfl) ?_
  intro p e s m below meth c0 C0 hr hlk hT hP hS hsz ls hl
  subst hsz
  have hx := C0.1
  have hb := C0.2.1
  have hl : lv_has ls 5 [(0, .ref (ad 0)), (1, .int x), (2, .int y), (3, .ref (ad 10))] := hl
  refine lv_aload_n hx hb dL_valueAt_0 rfl (lv_at hl 3 rfl) ?_
  refine lv_iconst (v := nI 0) hx hb dL_valueAt_1 rfl ?_
  refine lv_aload_n hx hb dL_valueAt_2 rfl (lv_at hl 0 rfl) ?_
  refine lv_iload_n hx hb dL_valueAt_3 rfl (lv_at hl 1 rfl) ?_
  refine lv_iload_n hx hb dL_valueAt_4 rfl (lv_at hl 2 rfl) ?_
  refine kt_catch (rx_L_52 (As := [.int x, .int y]) (rest := [.int (nI 0), .ref (ad 10)]) (r := 0) C0 (M _) hP hS (by omega) h0 rfl ⟨rfl, rfl⟩ ⟨by decide, by decide⟩ hl.1 rfl (Nat.le_of_ble_eq_true rfl) dL_valueAt_5 ⟨Nat.le_of_ble_eq_true rfl, Nat.le_of_ble_eq_true rfl⟩) C0 hP hS [] ⟨0, 10, 13, 20⟩ [] (hT.trans rfl) (fun z hz => nomatch hz) (by decide) (by decide) (cl_20 C0.2.2.2.2.1 _) (ctnIOB C0.2.2.2.2.1 _) (fun H locs q hP hS => ?_)
  refine lv_astore (lv' := [(4, .ref q), (0, .ref (ad 0)), (1, .int x), (2, .int y), (3, .ref (ad 10))]) hx hb dL_valueAt_13 hl (by decide) rfl (fun ls hl => ?_)
  refine lv_iconst (v := nI 1) hx hb dL_valueAt_15 rfl ?_
  exact e_i C0 hr hlk hP hS dL_valueAt_16 (by decide) (by decide) ⟨rfl, rfl⟩
set_option maxHeartbeats 1000000 in
set_option maxRecDepth 10000 in
theorem w_L_weightAt__c0 (l : Launch) (D : va_G) (cA : Nat → ClassId) (N : Nat) (ad : Nat → Nat) (c : Nat → va_E) (x y : Int32) {fs : List Value} (h10 : 12 ≤ N) (h0 : c 0 = .inr (1, fs)) (M : Ct l yX1_weightAt wX1_weightAt { frames := 8, cells := 1, slots := 6, locals := 127 } [.ref (ad 0), .int x, .int y] D cA N ad c 1 6 nIOB) : Ci l yL_weightAt wL_weightAt { frames := 9, cells := 1, slots := 6, locals := 149 } [.ref (ad 0), .int x, .int y, .ref (ad 10)] D cA N ad c 1 6 (fun v9 c9 => v9 = nI 1 ∧ c = c9) := by
  intro sz9
  refine bd_ofH (cc := cL_weightAt) (maxL := 5) (ret := some Jvm.ClassFile.FieldType.int) (hh := [(0, 10, 13, 20)]) (by decide) rfl (fun s a h => wd_code_L_weightAt h a) (Nat.le_of_ble_eq_true rfl) ?_
  intro p e s m below meth c0 C0 hr hlk hT hP hS hsz ls hl
  subst hsz
  have hx := C0.1
  have hb := C0.2.1
  have hl : lv_has ls 5 [(0, .ref (ad 0)), (1, .int x), (2, .int y), (3, .ref (ad 10))] := hl
  refine lv_aload_n hx hb dL_weightAt_0 rfl (lv_at hl 3 rfl) ?_
  refine lv_iconst (v := nI 0) hx hb dL_weightAt_1 rfl ?_
  refine lv_aload_n hx hb dL_weightAt_2 rfl (lv_at hl 0 rfl) ?_
  refine lv_iload_n hx hb dL_weightAt_3 rfl (lv_at hl 1 rfl) ?_
  refine lv_iload_n hx hb dL_weightAt_4 rfl (lv_at hl 2 rfl) ?_
  refine kt_catch (rx_L_55 (As := [.int x, .int y]) (rest := [.int (nI 0), .ref (ad 10)]) (r := 0) C0 (M _) hP hS (by omega) h0 rfl ⟨rfl, rfl⟩ ⟨by decide, by decide⟩ hl.1 rfl (Nat.le_of_ble_eq_true rfl) dL_weightAt_5 ⟨Nat.le_of_ble_eq_true rfl, Nat.le_of_ble_eq_true rfl⟩) C0 hP hS [] ⟨0, 10, 13, 20⟩ [] (hT.trans rfl) (fun z hz => nomatch hz) (by decide) (by decide) (cl_20 C0.2.2.2.2.1 _) (ctnIOB C0.2.2.2.2.1 _) (fun H locs q hP hS => ?_)
  refine lv_astore (lv' := [(4, .ref q), (0, .ref (ad 0)), (1, .int x), (2, .int y), (3, .ref (ad 10))]) hx hb dL_weightAt_13 hl (by decide) rfl (fun ls hl => ?_)
  refine lv_iconst (v := nI 1) hx hb dL_weightAt_15 rfl ?_
  exact e_i C0 hr hlk hP hS dL_weightAt_16 (by decide) (by decide) ⟨rfl, rfl⟩
set_option maxHeartbeats 1000000 in
set_option maxRecDepth 10000 in
theorem w_L_weightAt__c0_2 (l : Launch) (D : va_G) (cA : Nat → ClassId) (N : Nat) (ad : Nat → Nat) (c : Nat → va_E) (x y : Int32) {fs : List Value} (h10 : 12 ≤ N) (h0 : c 0 = .inr (1, fs)) (M : Ct l yX1_weightAt wX1_weightAt { frames := 7, cells := 1, slots := 6, locals := 105 } [.ref (ad 0), .int x, .int y] D cA N ad c 1 6 nIOB) : Ci l yL_weightAt wL_weightAt { frames := 8, cells := 1, slots := 6, locals := 127 } [.ref (ad 0), .int x, .int y, .ref (ad 10)] D cA N ad c 1 6 (fun v9 c9 => v9 = nI 1 ∧ c = c9) := by
  intro sz9
  refine bd_ofH (cc := cL_weightAt) (maxL := 5) (ret := some Jvm.ClassFile.FieldType.int) (hh := [(0, 10, 13, 20)]) (by decide) rfl (fun s a h => wd_code_L_weightAt h a) (Nat.le_of_ble_eq_true rfl) ?_
  intro p e s m below meth c0 C0 hr hlk hT hP hS hsz ls hl
  subst hsz
  have hx := C0.1
  have hb := C0.2.1
  have hl : lv_has ls 5 [(0, .ref (ad 0)), (1, .int x), (2, .int y), (3, .ref (ad 10))] := hl
  refine lv_aload_n hx hb dL_weightAt_0 rfl (lv_at hl 3 rfl) ?_
  refine lv_iconst (v := nI 0) hx hb dL_weightAt_1 rfl ?_
  refine lv_aload_n hx hb dL_weightAt_2 rfl (lv_at hl 0 rfl) ?_
  refine lv_iload_n hx hb dL_weightAt_3 rfl (lv_at hl 1 rfl) ?_
  refine lv_iload_n hx hb dL_weightAt_4 rfl (lv_at hl 2 rfl) ?_
  refine kt_catch (rx_L_55 (As := [.int x, .int y]) (rest := [.int (nI 0), .ref (ad 10)]) (r := 0) C0 (M _) hP hS (by omega) h0 rfl ⟨rfl, rfl⟩ ⟨by decide, by decide⟩ hl.1 rfl (Nat.le_of_ble_eq_true rfl) dL_weightAt_5 ⟨Nat.le_of_ble_eq_true rfl, Nat.le_of_ble_eq_true rfl⟩) C0 hP hS [] ⟨0, 10, 13, 20⟩ [] (hT.trans rfl) (fun z hz => nomatch hz) (by decide) (by decide) (cl_20 C0.2.2.2.2.1 _) (ctnIOB C0.2.2.2.2.1 _) (fun H locs q hP hS => ?_)
  refine lv_astore (lv' := [(4, .ref q), (0, .ref (ad 0)), (1, .int x), (2, .int y), (3, .ref (ad 10))]) hx hb dL_weightAt_13 hl (by decide) rfl (fun ls hl => ?_)
  refine lv_iconst (v := nI 1) hx hb dL_weightAt_15 rfl ?_
  exact e_i C0 hr hlk hP hS dL_weightAt_16 (by decide) (by decide) ⟨rfl, rfl⟩
set_option maxHeartbeats 1000000 in
set_option maxRecDepth 10000 in
theorem w_L_cameAs__c0 (l : Launch) (D : va_G) (cA : Nat → ClassId) (N : Nat) (ad : Nat → Nat) (c : Nat → va_E) (x y : Int32) {fs : List Value} (h10 : 12 ≤ N) (h0 : c 0 = .inr (1, fs)) (M : Ct l yX1_cameAs wX1_cameAs { frames := 8, cells := 1, slots := 6, locals := 127 } [.ref (ad 0), .int x, .int y] D cA N ad c 1 6 nIOB) : Ci l yL_cameAs wL_cameAs { frames := 9, cells := 1, slots := 6, locals := 149 } [.ref (ad 0), .int x, .int y, .ref (ad 10)] D cA N ad c 1 6 (fun v9 c9 => v9 = nI 1 ∧ c = c9) := by
  intro sz9
  refine bd_ofH (cc := cL_cameAs) (maxL := 5) (ret := some Jvm.ClassFile.FieldType.int) (hh := [(0, 10, 13, 20)]) (by decide) rfl (fun s a h => wd_code_L_cameAs h a) (Nat.le_of_ble_eq_true rfl) ?_
  intro p e s m below meth c0 C0 hr hlk hT hP hS hsz ls hl
  subst hsz
  have hx := C0.1
  have hb := C0.2.1
  have hl : lv_has ls 5 [(0, .ref (ad 0)), (1, .int x), (2, .int y), (3, .ref (ad 10))] := hl
  refine lv_aload_n hx hb dL_cameAs_0 rfl (lv_at hl 3 rfl) ?_
  refine lv_iconst (v := nI 0) hx hb dL_cameAs_1 rfl ?_
  refine lv_aload_n hx hb dL_cameAs_2 rfl (lv_at hl 0 rfl) ?_
  refine lv_iload_n hx hb dL_cameAs_3 rfl (lv_at hl 1 rfl) ?_
  refine lv_iload_n hx hb dL_cameAs_4 rfl (lv_at hl 2 rfl) ?_
  refine kt_catch (rx_L_58 (As := [.int x, .int y]) (rest := [.int (nI 0), .ref (ad 10)]) (r := 0) C0 (M _) hP hS (by omega) h0 rfl ⟨rfl, rfl⟩ ⟨by decide, by decide⟩ hl.1 rfl (Nat.le_of_ble_eq_true rfl) dL_cameAs_5 ⟨Nat.le_of_ble_eq_true rfl, Nat.le_of_ble_eq_true rfl⟩) C0 hP hS [] ⟨0, 10, 13, 20⟩ [] (hT.trans rfl) (fun z hz => nomatch hz) (by decide) (by decide) (cl_20 C0.2.2.2.2.1 _) (ctnIOB C0.2.2.2.2.1 _) (fun H locs q hP hS => ?_)
  refine lv_astore (lv' := [(4, .ref q), (0, .ref (ad 0)), (1, .int x), (2, .int y), (3, .ref (ad 10))]) hx hb dL_cameAs_13 hl (by decide) rfl (fun ls hl => ?_)
  refine lv_iconst (v := nI 1) hx hb dL_cameAs_15 rfl ?_
  exact e_i C0 hr hlk hP hS dL_cameAs_16 (by decide) (by decide) ⟨rfl, rfl⟩
set_option maxHeartbeats 1000000 in
set_option maxRecDepth 10000 in
theorem w_L_cameAs__c0_2 (l : Launch) (D : va_G) (cA : Nat → ClassId) (N : Nat) (ad : Nat → Nat) (c : Nat → va_E) (x y : Int32) {fs : List Value} (h10 : 12 ≤ N) (h0 : c 0 = .inr (1, fs)) (M : Ct l yX1_cameAs wX1_cameAs { frames := 7, cells := 1, slots := 6, locals := 105 } [.ref (ad 0), .int x, .int y] D cA N ad c 1 6 nIOB) : Ci l yL_cameAs wL_cameAs { frames := 8, cells := 1, slots := 6, locals := 127 } [.ref (ad 0), .int x, .int y, .ref (ad 10)] D cA N ad c 1 6 (fun v9 c9 => v9 = nI 1 ∧ c = c9) := by
  intro sz9
  refine bd_ofH (cc := cL_cameAs) (maxL := 5) (ret := some Jvm.ClassFile.FieldType.int) (hh := [(0, 10, 13, 20)]) (by decide) rfl (fun s a h => wd_code_L_cameAs h a) (Nat.le_of_ble_eq_true rfl) ?_
  intro p e s m below meth c0 C0 hr hlk hT hP hS hsz ls hl
  subst hsz
  have hx := C0.1
  have hb := C0.2.1
  have hl : lv_has ls 5 [(0, .ref (ad 0)), (1, .int x), (2, .int y), (3, .ref (ad 10))] := hl
  refine lv_aload_n hx hb dL_cameAs_0 rfl (lv_at hl 3 rfl) ?_
  refine lv_iconst (v := nI 0) hx hb dL_cameAs_1 rfl ?_
  refine lv_aload_n hx hb dL_cameAs_2 rfl (lv_at hl 0 rfl) ?_
  refine lv_iload_n hx hb dL_cameAs_3 rfl (lv_at hl 1 rfl) ?_
  refine lv_iload_n hx hb dL_cameAs_4 rfl (lv_at hl 2 rfl) ?_
  refine kt_catch (rx_L_58 (As := [.int x, .int y]) (rest := [.int (nI 0), .ref (ad 10)]) (r := 0) C0 (M _) hP hS (by omega) h0 rfl ⟨rfl, rfl⟩ ⟨by decide, by decide⟩ hl.1 rfl (Nat.le_of_ble_eq_true rfl) dL_cameAs_5 ⟨Nat.le_of_ble_eq_true rfl, Nat.le_of_ble_eq_true rfl⟩) C0 hP hS [] ⟨0, 10, 13, 20⟩ [] (hT.trans rfl) (fun z hz => nomatch hz) (by decide) (by decide) (cl_20 C0.2.2.2.2.1 _) (ctnIOB C0.2.2.2.2.1 _) (fun H locs q hP hS => ?_)
  refine lv_astore (lv' := [(4, .ref q), (0, .ref (ad 0)), (1, .int x), (2, .int y), (3, .ref (ad 10))]) hx hb dL_cameAs_13 hl (by decide) rfl (fun ls hl => ?_)
  refine lv_iconst (v := nI 1) hx hb dL_cameAs_15 rfl ?_
  exact e_i C0 hr hlk hP hS dL_cameAs_16 (by decide) (by decide) ⟨rfl, rfl⟩
set_option maxHeartbeats 1000000 in
set_option maxRecDepth 10000 in
theorem w_L_placeOf__c0 (l : Launch) (D : va_G) (cA : Nat → ClassId) (N : Nat) (ad : Nat → Nat) (c : Nat → va_E) (x y : Int32) {fs : List Value} (h10 : 12 ≤ N) (h0 : c 0 = .inr (1, fs)) (M : Ct l yX1_placeOf wX1_placeOf { frames := 7, cells := 1, slots := 6, locals := 104 } [.ref (ad 0), .int x, .int y] D cA N ad c 1 6 nIOB) : Ci l yL_placeOf wL_placeOf { frames := 8, cells := 1, slots := 6, locals := 128 } [.ref (ad 0), .int x, .int y, .ref (ad 10)] D cA N ad c 1 6 (fun v9 c9 => v9 = nI 1 ∧ c = c9) := by
  intro sz9
  refine bd_ofH (cc := cL_placeOf) (maxL := 5) (ret := some Jvm.ClassFile.FieldType.int) (hh := [(0, 10, 13, 20)]) (by decide) rfl (fun s a h => wd_code_L_placeOf h a) (Nat.le_of_ble_eq_true rfl) ?_
  intro p e s m below meth c0 C0 hr hlk hT hP hS hsz ls hl
  subst hsz
  have hx := C0.1
  have hb := C0.2.1
  have hl : lv_has ls 5 [(0, .ref (ad 0)), (1, .int x), (2, .int y), (3, .ref (ad 10))] := hl
  refine lv_aload_n hx hb dL_placeOf_0 rfl (lv_at hl 3 rfl) ?_
  refine lv_iconst (v := nI 0) hx hb dL_placeOf_1 rfl ?_
  refine lv_aload_n hx hb dL_placeOf_2 rfl (lv_at hl 0 rfl) ?_
  refine lv_iload_n hx hb dL_placeOf_3 rfl (lv_at hl 1 rfl) ?_
  refine lv_iload_n hx hb dL_placeOf_4 rfl (lv_at hl 2 rfl) ?_
  refine kt_catch (rx_L_61 (As := [.int x, .int y]) (rest := [.int (nI 0), .ref (ad 10)]) (r := 0) C0 (M _) hP hS (by omega) h0 rfl ⟨rfl, rfl⟩ ⟨by decide, by decide⟩ hl.1 rfl (Nat.le_of_ble_eq_true rfl) dL_placeOf_5 ⟨Nat.le_of_ble_eq_true rfl, Nat.le_of_ble_eq_true rfl⟩) C0 hP hS [] ⟨0, 10, 13, 20⟩ [] (hT.trans rfl) (fun z hz => nomatch hz) (by decide) (by decide) (cl_20 C0.2.2.2.2.1 _) (ctnIOB C0.2.2.2.2.1 _) (fun H locs q hP hS => ?_)
  refine lv_astore (lv' := [(4, .ref q), (0, .ref (ad 0)), (1, .int x), (2, .int y), (3, .ref (ad 10))]) hx hb dL_placeOf_13 hl (by decide) rfl (fun ls hl => ?_)
  refine lv_iconst (v := nI 1) hx hb dL_placeOf_15 rfl ?_
  exact e_i C0 hr hlk hP hS dL_placeOf_16 (by decide) (by decide) ⟨rfl, rfl⟩
set_option maxHeartbeats 1000000 in
set_option maxRecDepth 10000 in
theorem w_L_sum__c0 (l : Launch) (D : va_G) (cA : Nat → ClassId) (N : Nat) (ad : Nat → Nat) (c : Nat → va_E) (x : Int32) {fs : List Value} (h10 : 12 ≤ N) (h0 : c 0 = .inr (1, fs)) (M : Ct l yX1_sum wX1_sum { frames := 7, cells := 1, slots := 6, locals := 104 } [.ref (ad 0), .int x] D cA N ad c 1 6 nIOB) : Ci l yL_sum wL_sum { frames := 8, cells := 1, slots := 6, locals := 125 } [.ref (ad 0), .int x, .ref (ad 10)] D cA N ad c 1 6 (fun v9 c9 => v9 = nI 1 ∧ c = c9) := by
  intro sz9
  refine bd_ofH (cc := cL_sum) (maxL := 4) (ret := some Jvm.ClassFile.FieldType.int) (hh := [(0, 9, 12, 20)]) (by decide) rfl (fun s a h => wd_code_L_sum h a) (Nat.le_of_ble_eq_true rfl) ?_
  intro p e s m below meth c0 C0 hr hlk hT hP hS hsz ls hl
  subst hsz
  have hx := C0.1
  have hb := C0.2.1
  have hl : lv_has ls 4 [(0, .ref (ad 0)), (1, .int x), (2, .ref (ad 10))] := hl
  refine lv_aload_n hx hb dL_sum_0 rfl (lv_at hl 2 rfl) ?_
  refine lv_iconst (v := nI 0) hx hb dL_sum_1 rfl ?_
  refine lv_aload_n hx hb dL_sum_2 rfl (lv_at hl 0 rfl) ?_
  refine lv_iload_n hx hb dL_sum_3 rfl (lv_at hl 1 rfl) ?_
  refine kt_catch (rx_L_64 (As := [.int x]) (rest := [.int (nI 0), .ref (ad 10)]) (r := 0) C0 (M _) hP hS (by omega) h0 rfl ⟨rfl, rfl⟩ ⟨by decide, by decide⟩ hl.1 rfl (Nat.le_of_ble_eq_true rfl) dL_sum_4 ⟨Nat.le_of_ble_eq_true rfl, Nat.le_of_ble_eq_true rfl⟩) C0 hP hS [] ⟨0, 9, 12, 20⟩ [] (hT.trans rfl) (fun z hz => nomatch hz) (by decide) (by decide) (cl_20 C0.2.2.2.2.1 _) (ctnIOB C0.2.2.2.2.1 _) (fun H locs q hP hS => ?_)
  refine lv_astore_n (lv' := [(3, .ref q), (0, .ref (ad 0)), (1, .int x), (2, .ref (ad 10))]) hx hb dL_sum_12 rfl hl (by decide) rfl (fun ls hl => ?_)
  refine lv_iconst (v := nI 1) hx hb dL_sum_13 rfl ?_
  exact e_i C0 hr hlk hP hS dL_sum_14 (by decide) (by decide) ⟨rfl, rfl⟩
set_option maxHeartbeats 1000000 in
set_option maxRecDepth 10000 in
theorem w_L_lowest__c0 (l : Launch) (D : va_G) (cA : Nat → ClassId) (N : Nat) (ad : Nat → Nat) (c : Nat → va_E) (x : Int32) {fs : List Value} (h10 : 12 ≤ N) (h0 : c 0 = .inr (1, fs)) (M : Ct l yX1_lowest wX1_lowest { frames := 7, cells := 1, slots := 6, locals := 104 } [.ref (ad 0), .int x] D cA N ad c 1 6 nIOB) : Ci l yL_lowest wL_lowest { frames := 8, cells := 1, slots := 6, locals := 125 } [.ref (ad 0), .int x, .ref (ad 10)] D cA N ad c 1 6 (fun v9 c9 => v9 = nI 1 ∧ c = c9) := by
  intro sz9
  refine bd_ofH (cc := cL_lowest) (maxL := 4) (ret := some Jvm.ClassFile.FieldType.int) (hh := [(0, 9, 12, 20)]) (by decide) rfl (fun s a h => wd_code_L_lowest h a) (Nat.le_of_ble_eq_true rfl) ?_
  intro p e s m below meth c0 C0 hr hlk hT hP hS hsz ls hl
  subst hsz
  have hx := C0.1
  have hb := C0.2.1
  have hl : lv_has ls 4 [(0, .ref (ad 0)), (1, .int x), (2, .ref (ad 10))] := hl
  refine lv_aload_n hx hb dL_lowest_0 rfl (lv_at hl 2 rfl) ?_
  refine lv_iconst (v := nI 0) hx hb dL_lowest_1 rfl ?_
  refine lv_aload_n hx hb dL_lowest_2 rfl (lv_at hl 0 rfl) ?_
  refine lv_iload_n hx hb dL_lowest_3 rfl (lv_at hl 1 rfl) ?_
  refine kt_catch (rx_L_67 (As := [.int x]) (rest := [.int (nI 0), .ref (ad 10)]) (r := 0) C0 (M _) hP hS (by omega) h0 rfl ⟨rfl, rfl⟩ ⟨by decide, by decide⟩ hl.1 rfl (Nat.le_of_ble_eq_true rfl) dL_lowest_4 ⟨Nat.le_of_ble_eq_true rfl, Nat.le_of_ble_eq_true rfl⟩) C0 hP hS [] ⟨0, 9, 12, 20⟩ [] (hT.trans rfl) (fun z hz => nomatch hz) (by decide) (by decide) (cl_20 C0.2.2.2.2.1 _) (ctnIOB C0.2.2.2.2.1 _) (fun H locs q hP hS => ?_)
  refine lv_astore_n (lv' := [(3, .ref q), (0, .ref (ad 0)), (1, .int x), (2, .ref (ad 10))]) hx hb dL_lowest_12 rfl hl (by decide) rfl (fun ls hl => ?_)
  refine lv_iconst (v := nI 1) hx hb dL_lowest_13 rfl ?_
  exact e_i C0 hr hlk hP hS dL_lowest_14 (by decide) (by decide) ⟨rfl, rfl⟩
set_option maxHeartbeats 1000000 in
set_option maxRecDepth 10000 in
theorem w_L_rankOf__c0 (l : Launch) (D : va_G) (cA : Nat → ClassId) (N : Nat) (ad : Nat → Nat) (c : Nat → va_E) (x y : Int32) {fs : List Value} (h10 : 12 ≤ N) (h0 : c 0 = .inr (1, fs)) (M : Ct l yX1_rankOf wX1_rankOf { frames := 8, cells := 1, slots := 6, locals := 127 } [.ref (ad 0), .int x, .int y] D cA N ad c 1 6 nIOB) : Ci l yL_rankOf wL_rankOf { frames := 9, cells := 1, slots := 6, locals := 149 } [.ref (ad 0), .int x, .int y, .ref (ad 10)] D cA N ad c 1 6 (fun v9 c9 => v9 = nI 1 ∧ c = c9) := by
  intro sz9
  refine bd_ofH (cc := cL_rankOf) (maxL := 5) (ret := some Jvm.ClassFile.FieldType.int) (hh := [(0, 10, 13, 20)]) (by decide) rfl (fun s a h => wd_code_L_rankOf h a) (Nat.le_of_ble_eq_true rfl) ?_
  intro p e s m below meth c0 C0 hr hlk hT hP hS hsz ls hl
  subst hsz
  have hx := C0.1
  have hb := C0.2.1
  have hl : lv_has ls 5 [(0, .ref (ad 0)), (1, .int x), (2, .int y), (3, .ref (ad 10))] := hl
  refine lv_aload_n hx hb dL_rankOf_0 rfl (lv_at hl 3 rfl) ?_
  refine lv_iconst (v := nI 0) hx hb dL_rankOf_1 rfl ?_
  refine lv_aload_n hx hb dL_rankOf_2 rfl (lv_at hl 0 rfl) ?_
  refine lv_iload_n hx hb dL_rankOf_3 rfl (lv_at hl 1 rfl) ?_
  refine lv_iload_n hx hb dL_rankOf_4 rfl (lv_at hl 2 rfl) ?_
  refine kt_catch (rx_L_70 (As := [.int x, .int y]) (rest := [.int (nI 0), .ref (ad 10)]) (r := 0) C0 (M _) hP hS (by omega) h0 rfl ⟨rfl, rfl⟩ ⟨by decide, by decide⟩ hl.1 rfl (Nat.le_of_ble_eq_true rfl) dL_rankOf_5 ⟨Nat.le_of_ble_eq_true rfl, Nat.le_of_ble_eq_true rfl⟩) C0 hP hS [] ⟨0, 10, 13, 20⟩ [] (hT.trans rfl) (fun z hz => nomatch hz) (by decide) (by decide) (cl_20 C0.2.2.2.2.1 _) (ctnIOB C0.2.2.2.2.1 _) (fun H locs q hP hS => ?_)
  refine lv_astore (lv' := [(4, .ref q), (0, .ref (ad 0)), (1, .int x), (2, .int y), (3, .ref (ad 10))]) hx hb dL_rankOf_13 hl (by decide) rfl (fun ls hl => ?_)
  refine lv_iconst (v := nI 1) hx hb dL_rankOf_15 rfl ?_
  exact e_i C0 hr hlk hP hS dL_rankOf_16 (by decide) (by decide) ⟨rfl, rfl⟩
set_option maxHeartbeats 1000000 in
set_option maxRecDepth 10000 in
theorem w_L_rankOf__c0_2 (l : Launch) (D : va_G) (cA : Nat → ClassId) (N : Nat) (ad : Nat → Nat) (c : Nat → va_E) (x y : Int32) {fs : List Value} (h10 : 12 ≤ N) (h0 : c 0 = .inr (1, fs)) (M : Ct l yX1_rankOf wX1_rankOf { frames := 7, cells := 1, slots := 6, locals := 105 } [.ref (ad 0), .int x, .int y] D cA N ad c 1 6 nIOB) : Ci l yL_rankOf wL_rankOf { frames := 8, cells := 1, slots := 6, locals := 127 } [.ref (ad 0), .int x, .int y, .ref (ad 10)] D cA N ad c 1 6 (fun v9 c9 => v9 = nI 1 ∧ c = c9) := by
  intro sz9
  refine bd_ofH (cc := cL_rankOf) (maxL := 5) (ret := some Jvm.ClassFile.FieldType.int) (hh := [(0, 10, 13, 20)]) (by decide) rfl (fun s a h => wd_code_L_rankOf h a) (Nat.le_of_ble_eq_true rfl) ?_
  intro p e s m below meth c0 C0 hr hlk hT hP hS hsz ls hl
  subst hsz
  have hx := C0.1
  have hb := C0.2.1
  have hl : lv_has ls 5 [(0, .ref (ad 0)), (1, .int x), (2, .int y), (3, .ref (ad 10))] := hl
  refine lv_aload_n hx hb dL_rankOf_0 rfl (lv_at hl 3 rfl) ?_
  refine lv_iconst (v := nI 0) hx hb dL_rankOf_1 rfl ?_
  refine lv_aload_n hx hb dL_rankOf_2 rfl (lv_at hl 0 rfl) ?_
  refine lv_iload_n hx hb dL_rankOf_3 rfl (lv_at hl 1 rfl) ?_
  refine lv_iload_n hx hb dL_rankOf_4 rfl (lv_at hl 2 rfl) ?_
  refine kt_catch (rx_L_70 (As := [.int x, .int y]) (rest := [.int (nI 0), .ref (ad 10)]) (r := 0) C0 (M _) hP hS (by omega) h0 rfl ⟨rfl, rfl⟩ ⟨by decide, by decide⟩ hl.1 rfl (Nat.le_of_ble_eq_true rfl) dL_rankOf_5 ⟨Nat.le_of_ble_eq_true rfl, Nat.le_of_ble_eq_true rfl⟩) C0 hP hS [] ⟨0, 10, 13, 20⟩ [] (hT.trans rfl) (fun z hz => nomatch hz) (by decide) (by decide) (cl_20 C0.2.2.2.2.1 _) (ctnIOB C0.2.2.2.2.1 _) (fun H locs q hP hS => ?_)
  refine lv_astore (lv' := [(4, .ref q), (0, .ref (ad 0)), (1, .int x), (2, .int y), (3, .ref (ad 10))]) hx hb dL_rankOf_13 hl (by decide) rfl (fun ls hl => ?_)
  refine lv_iconst (v := nI 1) hx hb dL_rankOf_15 rfl ?_
  exact e_i C0 hr hlk hP hS dL_rankOf_16 (by decide) (by decide) ⟨rfl, rfl⟩
set_option maxHeartbeats 1000000 in
set_option maxRecDepth 10000 in
theorem w_L_middle__c0 (l : Launch) (D : va_G) (cA : Nat → ClassId) (N : Nat) (ad : Nat → Nat) (c : Nat → va_E) (x : Int32) {fs : List Value} (h10 : 12 ≤ N) (h0 : c 0 = .inr (1, fs)) (M : Ct l yX1_middle wX1_middle { frames := 7, cells := 1, slots := 6, locals := 104 } [.ref (ad 0), .int x] D cA N ad c 1 6 nIOB) : Ci l yL_middle wL_middle { frames := 8, cells := 1, slots := 6, locals := 125 } [.ref (ad 0), .int x, .ref (ad 10)] D cA N ad c 1 6 (fun v9 c9 => v9 = nI 1 ∧ c = c9) := by
  intro sz9
  refine bd_ofH (cc := cL_middle) (maxL := 4) (ret := some Jvm.ClassFile.FieldType.int) (hh := [(0, 9, 12, 20)]) (by decide) rfl (fun s a h => wd_code_L_middle h a) (Nat.le_of_ble_eq_true rfl) ?_
  intro p e s m below meth c0 C0 hr hlk hT hP hS hsz ls hl
  subst hsz
  have hx := C0.1
  have hb := C0.2.1
  have hl : lv_has ls 4 [(0, .ref (ad 0)), (1, .int x), (2, .ref (ad 10))] := hl
  refine lv_aload_n hx hb dL_middle_0 rfl (lv_at hl 2 rfl) ?_
  refine lv_iconst (v := nI 0) hx hb dL_middle_1 rfl ?_
  refine lv_aload_n hx hb dL_middle_2 rfl (lv_at hl 0 rfl) ?_
  refine lv_iload_n hx hb dL_middle_3 rfl (lv_at hl 1 rfl) ?_
  refine kt_catch (rx_L_73 (As := [.int x]) (rest := [.int (nI 0), .ref (ad 10)]) (r := 0) C0 (M _) hP hS (by omega) h0 rfl ⟨rfl, rfl⟩ ⟨by decide, by decide⟩ hl.1 rfl (Nat.le_of_ble_eq_true rfl) dL_middle_4 ⟨Nat.le_of_ble_eq_true rfl, Nat.le_of_ble_eq_true rfl⟩) C0 hP hS [] ⟨0, 9, 12, 20⟩ [] (hT.trans rfl) (fun z hz => nomatch hz) (by decide) (by decide) (cl_20 C0.2.2.2.2.1 _) (ctnIOB C0.2.2.2.2.1 _) (fun H locs q hP hS => ?_)
  refine lv_astore_n (lv' := [(3, .ref q), (0, .ref (ad 0)), (1, .int x), (2, .ref (ad 10))]) hx hb dL_middle_12 rfl hl (by decide) rfl (fun ls hl => ?_)
  refine lv_iconst (v := nI 1) hx hb dL_middle_13 rfl ?_
  exact e_i C0 hr hlk hP hS dL_middle_14 (by decide) (by decide) ⟨rfl, rfl⟩
set_option maxHeartbeats 1000000 in
set_option maxRecDepth 10000 in
theorem w_L_shared__c0 (l : Launch) (D : va_G) (cA : Nat → ClassId) (N : Nat) (ad : Nat → Nat) (c : Nat → va_E) (x y : Int32) {fs : List Value} (h10 : 12 ≤ N) (h0 : c 0 = .inr (1, fs)) (M : Ct l yX1_shared wX1_shared { frames := 7, cells := 1, slots := 6, locals := 104 } [.ref (ad 0), .int x, .int y] D cA N ad c 1 6 nIOB) : Ci l yL_shared wL_shared { frames := 8, cells := 1, slots := 6, locals := 126 } [.ref (ad 0), .int x, .int y, .ref (ad 10)] D cA N ad c 1 6 (fun v9 c9 => v9 = nI 1 ∧ c = c9) := by
  intro sz9
  refine bd_ofH (cc := cL_shared) (maxL := 5) (ret := some Jvm.ClassFile.FieldType.int) (hh := [(0, 10, 13, 20)]) (by decide) rfl (fun s a h => wd_code_L_shared h a) (Nat.le_of_ble_eq_true rfl) ?_
  intro p e s m below meth c0 C0 hr hlk hT hP hS hsz ls hl
  subst hsz
  have hx := C0.1
  have hb := C0.2.1
  have hl : lv_has ls 5 [(0, .ref (ad 0)), (1, .int x), (2, .int y), (3, .ref (ad 10))] := hl
  refine lv_aload_n hx hb dL_shared_0 rfl (lv_at hl 3 rfl) ?_
  refine lv_iconst (v := nI 0) hx hb dL_shared_1 rfl ?_
  refine lv_aload_n hx hb dL_shared_2 rfl (lv_at hl 0 rfl) ?_
  refine lv_iload_n hx hb dL_shared_3 rfl (lv_at hl 1 rfl) ?_
  refine lv_iload_n hx hb dL_shared_4 rfl (lv_at hl 2 rfl) ?_
  refine kt_catch (rx_L_76 (As := [.int x, .int y]) (rest := [.int (nI 0), .ref (ad 10)]) (r := 0) C0 (M _) hP hS (by omega) h0 rfl ⟨rfl, rfl⟩ ⟨by decide, by decide⟩ hl.1 rfl (Nat.le_of_ble_eq_true rfl) dL_shared_5 ⟨Nat.le_of_ble_eq_true rfl, Nat.le_of_ble_eq_true rfl⟩) C0 hP hS [] ⟨0, 10, 13, 20⟩ [] (hT.trans rfl) (fun z hz => nomatch hz) (by decide) (by decide) (cl_20 C0.2.2.2.2.1 _) (ctnIOB C0.2.2.2.2.1 _) (fun H locs q hP hS => ?_)
  refine lv_astore (lv' := [(4, .ref q), (0, .ref (ad 0)), (1, .int x), (2, .int y), (3, .ref (ad 10))]) hx hb dL_shared_13 hl (by decide) rfl (fun ls hl => ?_)
  refine lv_iconst (v := nI 1) hx hb dL_shared_15 rfl ?_
  exact e_i C0 hr hlk hP hS dL_shared_16 (by decide) (by decide) ⟨rfl, rfl⟩
set_option maxHeartbeats 1000000 in
set_option maxRecDepth 10000 in
theorem w_L_luckIn__c0 (l : Launch) (D : va_G) (cA : Nat → ClassId) (N : Nat) (ad : Nat → Nat) (c : Nat → va_E) (x y : Int32) {fs : List Value} (h10 : 12 ≤ N) (h0 : c 0 = .inr (1, fs)) (M : Ct l yX1_luckIn wX1_luckIn { frames := 7, cells := 1, slots := 6, locals := 104 } [.ref (ad 0), .int x, .int y] D cA N ad c 1 6 nIOB) : Ci l yL_luckIn wL_luckIn { frames := 8, cells := 1, slots := 6, locals := 127 } [.ref (ad 0), .int x, .int y, .ref (ad 10)] D cA N ad c 1 6 (fun v9 c9 => v9 = nI 1 ∧ c = c9) := by
  intro sz9
  refine bd_ofH (cc := cL_luckIn) (maxL := 5) (ret := some Jvm.ClassFile.FieldType.int) (hh := [(0, 10, 13, 20), (0, 10, 17, 13)]) (by decide) rfl (fun s a h => wd_code_L_luckIn h a) (Nat.le_of_ble_eq_true rfl) ?_
  intro p e s m below meth c0 C0 hr hlk hT hP hS hsz ls hl
  subst hsz
  have hx := C0.1
  have hb := C0.2.1
  have hl : lv_has ls 5 [(0, .ref (ad 0)), (1, .int x), (2, .int y), (3, .ref (ad 10))] := hl
  refine lv_aload_n hx hb dL_luckIn_0 rfl (lv_at hl 3 rfl) ?_
  refine lv_iconst (v := nI 0) hx hb dL_luckIn_1 rfl ?_
  refine lv_aload_n hx hb dL_luckIn_2 rfl (lv_at hl 0 rfl) ?_
  refine lv_iload_n hx hb dL_luckIn_3 rfl (lv_at hl 1 rfl) ?_
  refine lv_iload_n hx hb dL_luckIn_4 rfl (lv_at hl 2 rfl) ?_
  refine kt_catch (rx_L_79 (As := [.int x, .int y]) (rest := [.int (nI 0), .ref (ad 10)]) (r := 0) C0 (M _) hP hS (by omega) h0 rfl ⟨rfl, rfl⟩ ⟨by decide, by decide⟩ hl.1 rfl (Nat.le_of_ble_eq_true rfl) dL_luckIn_5 ⟨Nat.le_of_ble_eq_true rfl, Nat.le_of_ble_eq_true rfl⟩) C0 hP hS [] ⟨0, 10, 13, 20⟩ [⟨0, 10, 17, 13⟩] (hT.trans rfl) (fun z hz => nomatch hz) (by decide) (by decide) (cl_20 C0.2.2.2.2.1 _) (ctnIOB C0.2.2.2.2.1 _) (fun H locs q hP hS => ?_)
  refine lv_astore (lv' := [(4, .ref q), (0, .ref (ad 0)), (1, .int x), (2, .int y), (3, .ref (ad 10))]) hx hb dL_luckIn_13 hl (by decide) rfl (fun ls hl => ?_)
  refine lv_iconst (v := nI 1) hx hb dL_luckIn_15 rfl ?_
  exact e_i C0 hr hlk hP hS dL_luckIn_16 (by decide) (by decide) ⟨rfl, rfl⟩
set_option maxHeartbeats 1000000 in
set_option maxRecDepth 10000 in
theorem w_L_drawsUntil__c0 (l : Launch) (D : va_G) (cA : Nat → ClassId) (N : Nat) (ad : Nat → Nat) (c : Nat → va_E) (x y z : Int32) {fs : List Value} (h10 : 12 ≤ N) (h0 : c 0 = .inr (1, fs)) (M : Ct l yX1_drawsUntil wX1_drawsUntil { frames := 7, cells := 1, slots := 6, locals := 104 } [.ref (ad 0), .int x, .int y, .int z] D cA N ad c 1 6 nIOB) : Ci l yL_drawsUntil wL_drawsUntil { frames := 8, cells := 1, slots := 6, locals := 129 } [.ref (ad 0), .int x, .int y, .int z, .ref (ad 10)] D cA N ad c 1 6 (fun v9 c9 => v9 = nI 1 ∧ c = c9) := by
  intro sz9
  refine bd_ofH (cc := cL_drawsUntil) (maxL := 6) (ret := some Jvm.ClassFile.FieldType.int) (hh := [(0, 12, 15, 20), (0, 12, 19, 13)]) (by decide) rfl (fun s a h => wd_code_L_drawsUntil h a) (Nat.le_of_ble_eq_true rfl) ?_
  intro p e s m below meth c0 C0 hr hlk hT hP hS hsz ls hl
  subst hsz
  have hx := C0.1
  have hb := C0.2.1
  have hl : lv_has ls 6 [(0, .ref (ad 0)), (1, .int x), (2, .int y), (3, .int z), (4, .ref (ad 10))] := hl
  refine lv_aload hx hb dL_drawsUntil_0 (lv_at hl 4 rfl) ?_
  refine lv_iconst (v := nI 0) hx hb dL_drawsUntil_2 rfl ?_
  refine lv_aload_n hx hb dL_drawsUntil_3 rfl (lv_at hl 0 rfl) ?_
  refine lv_iload_n hx hb dL_drawsUntil_4 rfl (lv_at hl 1 rfl) ?_
  refine lv_iload_n hx hb dL_drawsUntil_5 rfl (lv_at hl 2 rfl) ?_
  refine lv_iload_n hx hb dL_drawsUntil_6 rfl (lv_at hl 3 rfl) ?_
  refine kt_catch (rx_L_82 (As := [.int x, .int y, .int z]) (rest := [.int (nI 0), .ref (ad 10)]) (r := 0) C0 (M _) hP hS (by omega) h0 rfl ⟨rfl, rfl⟩ ⟨by decide, by decide⟩ hl.1 rfl (Nat.le_of_ble_eq_true rfl) dL_drawsUntil_7 ⟨Nat.le_of_ble_eq_true rfl, Nat.le_of_ble_eq_true rfl⟩) C0 hP hS [] ⟨0, 12, 15, 20⟩ [⟨0, 12, 19, 13⟩] (hT.trans rfl) (fun z hz => nomatch hz) (by decide) (by decide) (cl_20 C0.2.2.2.2.1 _) (ctnIOB C0.2.2.2.2.1 _) (fun H locs q hP hS => ?_)
  refine lv_astore (lv' := [(5, .ref q), (0, .ref (ad 0)), (1, .int x), (2, .int y), (3, .int z), (4, .ref (ad 10))]) hx hb dL_drawsUntil_15 hl (by decide) rfl (fun ls hl => ?_)
  refine lv_iconst (v := nI 1) hx hb dL_drawsUntil_17 rfl ?_
  exact e_i C0 hr hlk hP hS dL_drawsUntil_18 (by decide) (by decide) ⟨rfl, rfl⟩
set_option maxHeartbeats 1000000 in
set_option maxRecDepth 10000 in
theorem w_L_wouldTake__c0 (l : Launch) (D : va_G) (cA : Nat → ClassId) (N : Nat) (ad : Nat → Nat) (c : Nat → va_E) (x y : Int32) {fs : List Value} (h10 : 12 ≤ N) (h0 : c 0 = .inr (1, fs)) (M : Ct l yX1_wouldTake wX1_wouldTake { frames := 7, cells := 1, slots := 6, locals := 104 } [.ref (ad 0), .int x, .int y] D cA N ad c 1 6 nIOB) : Ci l yL_wouldTake wL_wouldTake { frames := 8, cells := 1, slots := 6, locals := 127 } [.ref (ad 0), .int x, .int y, .ref (ad 10)] D cA N ad c 1 6 (fun v9 c9 => v9 = nI 1 ∧ c = c9) := by
  intro sz9
  refine bd_ofH (cc := cL_wouldTake) (maxL := 5) (ret := some Jvm.ClassFile.FieldType.int) (hh := [(0, 10, 13, 20), (0, 10, 17, 13)]) (by decide) rfl (fun s a h => wd_code_L_wouldTake h a) (Nat.le_of_ble_eq_true rfl) ?_
  intro p e s m below meth c0 C0 hr hlk hT hP hS hsz ls hl
  subst hsz
  have hx := C0.1
  have hb := C0.2.1
  have hl : lv_has ls 5 [(0, .ref (ad 0)), (1, .int x), (2, .int y), (3, .ref (ad 10))] := hl
  refine lv_aload_n hx hb dL_wouldTake_0 rfl (lv_at hl 3 rfl) ?_
  refine lv_iconst (v := nI 0) hx hb dL_wouldTake_1 rfl ?_
  refine lv_aload_n hx hb dL_wouldTake_2 rfl (lv_at hl 0 rfl) ?_
  refine lv_iload_n hx hb dL_wouldTake_3 rfl (lv_at hl 1 rfl) ?_
  refine lv_iload_n hx hb dL_wouldTake_4 rfl (lv_at hl 2 rfl) ?_
  refine kt_catch (rx_L_85 (As := [.int x, .int y]) (rest := [.int (nI 0), .ref (ad 10)]) (r := 0) C0 (M _) hP hS (by omega) h0 rfl ⟨rfl, rfl⟩ ⟨by decide, by decide⟩ hl.1 rfl (Nat.le_of_ble_eq_true rfl) dL_wouldTake_5 ⟨Nat.le_of_ble_eq_true rfl, Nat.le_of_ble_eq_true rfl⟩) C0 hP hS [] ⟨0, 10, 13, 20⟩ [⟨0, 10, 17, 13⟩] (hT.trans rfl) (fun z hz => nomatch hz) (by decide) (by decide) (cl_20 C0.2.2.2.2.1 _) (ctnIOB C0.2.2.2.2.1 _) (fun H locs q hP hS => ?_)
  refine lv_astore (lv' := [(4, .ref q), (0, .ref (ad 0)), (1, .int x), (2, .int y), (3, .ref (ad 10))]) hx hb dL_wouldTake_13 hl (by decide) rfl (fun ls hl => ?_)
  refine lv_iconst (v := nI 1) hx hb dL_wouldTake_15 rfl ?_
  exact e_i C0 hr hlk hP hS dL_wouldTake_16 (by decide) (by decide) ⟨rfl, rfl⟩
set_option maxHeartbeats 1000000 in
set_option maxRecDepth 10000 in
theorem w_L_wouldStay__c0 (l : Launch) (D : va_G) (cA : Nat → ClassId) (N : Nat) (ad : Nat → Nat) (c : Nat → va_E) (x y : Int32) {fs : List Value} (h10 : 12 ≤ N) (h0 : c 0 = .inr (1, fs)) (M : Ct l yX1_wouldStay wX1_wouldStay { frames := 7, cells := 1, slots := 6, locals := 104 } [.ref (ad 0), .int x, .int y] D cA N ad c 1 6 nIOB) : Ci l yL_wouldStay wL_wouldStay { frames := 8, cells := 1, slots := 6, locals := 127 } [.ref (ad 0), .int x, .int y, .ref (ad 10)] D cA N ad c 1 6 (fun v9 c9 => v9 = nI 1 ∧ c = c9) := by
  intro sz9
  refine bd_ofH (cc := cL_wouldStay) (maxL := 5) (ret := some Jvm.ClassFile.FieldType.int) (hh := [(0, 10, 13, 20), (0, 10, 17, 13)]) (by decide) rfl (fun s a h => wd_code_L_wouldStay h a) (Nat.le_of_ble_eq_true rfl) ?_
  intro p e s m below meth c0 C0 hr hlk hT hP hS hsz ls hl
  subst hsz
  have hx := C0.1
  have hb := C0.2.1
  have hl : lv_has ls 5 [(0, .ref (ad 0)), (1, .int x), (2, .int y), (3, .ref (ad 10))] := hl
  refine lv_aload_n hx hb dL_wouldStay_0 rfl (lv_at hl 3 rfl) ?_
  refine lv_iconst (v := nI 0) hx hb dL_wouldStay_1 rfl ?_
  refine lv_aload_n hx hb dL_wouldStay_2 rfl (lv_at hl 0 rfl) ?_
  refine lv_iload_n hx hb dL_wouldStay_3 rfl (lv_at hl 1 rfl) ?_
  refine lv_iload_n hx hb dL_wouldStay_4 rfl (lv_at hl 2 rfl) ?_
  refine kt_catch (rx_L_88 (As := [.int x, .int y]) (rest := [.int (nI 0), .ref (ad 10)]) (r := 0) C0 (M _) hP hS (by omega) h0 rfl ⟨rfl, rfl⟩ ⟨by decide, by decide⟩ hl.1 rfl (Nat.le_of_ble_eq_true rfl) dL_wouldStay_5 ⟨Nat.le_of_ble_eq_true rfl, Nat.le_of_ble_eq_true rfl⟩) C0 hP hS [] ⟨0, 10, 13, 20⟩ [⟨0, 10, 17, 13⟩] (hT.trans rfl) (fun z hz => nomatch hz) (by decide) (by decide) (cl_20 C0.2.2.2.2.1 _) (ctnIOB C0.2.2.2.2.1 _) (fun H locs q hP hS => ?_)
  refine lv_astore (lv' := [(4, .ref q), (0, .ref (ad 0)), (1, .int x), (2, .int y), (3, .ref (ad 10))]) hx hb dL_wouldStay_13 hl (by decide) rfl (fun ls hl => ?_)
  refine lv_iconst (v := nI 1) hx hb dL_wouldStay_15 rfl ?_
  exact e_i C0 hr hlk hP hS dL_wouldStay_16 (by decide) (by decide) ⟨rfl, rfl⟩
set_option maxHeartbeats 1000000 in
set_option maxRecDepth 10000 in
theorem w_L_untilTaken__c0 (l : Launch) (D : va_G) (cA : Nat → ClassId) (N : Nat) (ad : Nat → Nat) (c : Nat → va_E) (x : Int32) {fs : List Value} (h10 : 12 ≤ N) (h0 : c 0 = .inr (1, fs)) (M : Ct l yX1_untilTaken wX1_untilTaken { frames := 7, cells := 1, slots := 6, locals := 104 } [.ref (ad 0), .int x] D cA N ad c 1 6 nIOB) : Ci l yL_untilTaken wL_untilTaken { frames := 8, cells := 1, slots := 6, locals := 125 } [.ref (ad 0), .int x, .ref (ad 10)] D cA N ad c 1 6 (fun v9 c9 => v9 = nI 1 ∧ c = c9) := by
  intro sz9
  refine bd_ofH (cc := cL_untilTaken) (maxL := 4) (ret := some Jvm.ClassFile.FieldType.int) (hh := [(0, 9, 12, 20)]) (by decide) rfl (fun s a h => wd_code_L_untilTaken h a) (Nat.le_of_ble_eq_true rfl) ?_
  intro p e s m below meth c0 C0 hr hlk hT hP hS hsz ls hl
  subst hsz
  have hx := C0.1
  have hb := C0.2.1
  have hl : lv_has ls 4 [(0, .ref (ad 0)), (1, .int x), (2, .ref (ad 10))] := hl
  refine lv_aload_n hx hb dL_untilTaken_0 rfl (lv_at hl 2 rfl) ?_
  refine lv_iconst (v := nI 0) hx hb dL_untilTaken_1 rfl ?_
  refine lv_aload_n hx hb dL_untilTaken_2 rfl (lv_at hl 0 rfl) ?_
  refine lv_iload_n hx hb dL_untilTaken_3 rfl (lv_at hl 1 rfl) ?_
  refine kt_catch (rx_L_91 (As := [.int x]) (rest := [.int (nI 0), .ref (ad 10)]) (r := 0) C0 (M _) hP hS (by omega) h0 rfl ⟨rfl, rfl⟩ ⟨by decide, by decide⟩ hl.1 rfl (Nat.le_of_ble_eq_true rfl) dL_untilTaken_4 ⟨Nat.le_of_ble_eq_true rfl, Nat.le_of_ble_eq_true rfl⟩) C0 hP hS [] ⟨0, 9, 12, 20⟩ [] (hT.trans rfl) (fun z hz => nomatch hz) (by decide) (by decide) (cl_20 C0.2.2.2.2.1 _) (ctnIOB C0.2.2.2.2.1 _) (fun H locs q hP hS => ?_)
  refine lv_astore_n (lv' := [(3, .ref q), (0, .ref (ad 0)), (1, .int x), (2, .ref (ad 10))]) hx hb dL_untilTaken_12 rfl hl (by decide) rfl (fun ls hl => ?_)
  refine lv_iconst (v := nI 1) hx hb dL_untilTaken_13 rfl ?_
  exact e_i C0 hr hlk hP hS dL_untilTaken_14 (by decide) (by decide) ⟨rfl, rfl⟩
set_option maxHeartbeats 1000000 in
set_option maxRecDepth 10000 in
theorem w_L_weightWanted__c0 (l : Launch) (D : va_G) (cA : Nat → ClassId) (N : Nat) (ad : Nat → Nat) (c : Nat → va_E) (x : Int32) {fs : List Value} (h10 : 12 ≤ N) (h0 : c 0 = .inr (1, fs)) (M : Ct l yX1_weightWanted wX1_weightWanted { frames := 7, cells := 1, slots := 6, locals := 104 } [.ref (ad 0), .int x] D cA N ad c 1 6 nIOB) : Ci l yL_weightWanted wL_weightWanted { frames := 8, cells := 1, slots := 6, locals := 125 } [.ref (ad 0), .int x, .ref (ad 10)] D cA N ad c 1 6 (fun v9 c9 => v9 = nI 1 ∧ c = c9) := by
  intro sz9
  refine bd_ofH (cc := cL_weightWanted) (maxL := 4) (ret := some Jvm.ClassFile.FieldType.int) (hh := [(0, 9, 12, 20)]) (by decide) rfl (fun s a h => wd_code_L_weightWanted h a) (Nat.le_of_ble_eq_true rfl) ?_
  intro p e s m below meth c0 C0 hr hlk hT hP hS hsz ls hl
  subst hsz
  have hx := C0.1
  have hb := C0.2.1
  have hl : lv_has ls 4 [(0, .ref (ad 0)), (1, .int x), (2, .ref (ad 10))] := hl
  refine lv_aload_n hx hb dL_weightWanted_0 rfl (lv_at hl 2 rfl) ?_
  refine lv_iconst (v := nI 0) hx hb dL_weightWanted_1 rfl ?_
  refine lv_aload_n hx hb dL_weightWanted_2 rfl (lv_at hl 0 rfl) ?_
  refine lv_iload_n hx hb dL_weightWanted_3 rfl (lv_at hl 1 rfl) ?_
  refine kt_catch (rx_L_94 (As := [.int x]) (rest := [.int (nI 0), .ref (ad 10)]) (r := 0) C0 (M _) hP hS (by omega) h0 rfl ⟨rfl, rfl⟩ ⟨by decide, by decide⟩ hl.1 rfl (Nat.le_of_ble_eq_true rfl) dL_weightWanted_4 ⟨Nat.le_of_ble_eq_true rfl, Nat.le_of_ble_eq_true rfl⟩) C0 hP hS [] ⟨0, 9, 12, 20⟩ [] (hT.trans rfl) (fun z hz => nomatch hz) (by decide) (by decide) (cl_20 C0.2.2.2.2.1 _) (ctnIOB C0.2.2.2.2.1 _) (fun H locs q hP hS => ?_)
  refine lv_astore_n (lv' := [(3, .ref q), (0, .ref (ad 0)), (1, .int x), (2, .ref (ad 10))]) hx hb dL_weightWanted_12 rfl hl (by decide) rfl (fun ls hl => ?_)
  refine lv_iconst (v := nI 1) hx hb dL_weightWanted_13 rfl ?_
  exact e_i C0 hr hlk hP hS dL_weightWanted_14 (by decide) (by decide) ⟨rfl, rfl⟩
set_option maxHeartbeats 1000000 in
set_option maxRecDepth 10000 in
theorem w_L_wouldJoin__c0 (l : Launch) (D : va_G) (cA : Nat → ClassId) (N : Nat) (ad : Nat → Nat) (c : Nat → va_E) (x y : Int32) {fs : List Value} (h10 : 12 ≤ N) (h0 : c 0 = .inr (1, fs)) (M : Ct l yX1_wouldJoin wX1_wouldJoin { frames := 7, cells := 1, slots := 6, locals := 104 } [.ref (ad 0), .int x, .int y] D cA N ad c 1 6 nIOB) : Ci l yL_wouldJoin wL_wouldJoin { frames := 8, cells := 1, slots := 6, locals := 126 } [.ref (ad 0), .int x, .int y, .ref (ad 10)] D cA N ad c 1 6 (fun v9 c9 => v9 = nI 1 ∧ c = c9) := by
  intro sz9
  refine bd_ofH (cc := cL_wouldJoin) (maxL := 5) (ret := some Jvm.ClassFile.FieldType.int) (hh := [(0, 10, 13, 20)]) (by decide) rfl (fun s a h => wd_code_L_wouldJoin h a) (Nat.le_of_ble_eq_true rfl) ?_
  intro p e s m below meth c0 C0 hr hlk hT hP hS hsz ls hl
  subst hsz
  have hx := C0.1
  have hb := C0.2.1
  have hl : lv_has ls 5 [(0, .ref (ad 0)), (1, .int x), (2, .int y), (3, .ref (ad 10))] := hl
  refine lv_aload_n hx hb dL_wouldJoin_0 rfl (lv_at hl 3 rfl) ?_
  refine lv_iconst (v := nI 0) hx hb dL_wouldJoin_1 rfl ?_
  refine lv_aload_n hx hb dL_wouldJoin_2 rfl (lv_at hl 0 rfl) ?_
  refine lv_iload_n hx hb dL_wouldJoin_3 rfl (lv_at hl 1 rfl) ?_
  refine lv_iload_n hx hb dL_wouldJoin_4 rfl (lv_at hl 2 rfl) ?_
  refine kt_catch (rx_L_97 (As := [.int x, .int y]) (rest := [.int (nI 0), .ref (ad 10)]) (r := 0) C0 (M _) hP hS (by omega) h0 rfl ⟨rfl, rfl⟩ ⟨by decide, by decide⟩ hl.1 rfl (Nat.le_of_ble_eq_true rfl) dL_wouldJoin_5 ⟨Nat.le_of_ble_eq_true rfl, Nat.le_of_ble_eq_true rfl⟩) C0 hP hS [] ⟨0, 10, 13, 20⟩ [] (hT.trans rfl) (fun z hz => nomatch hz) (by decide) (by decide) (cl_20 C0.2.2.2.2.1 _) (ctnIOB C0.2.2.2.2.1 _) (fun H locs q hP hS => ?_)
  refine lv_astore (lv' := [(4, .ref q), (0, .ref (ad 0)), (1, .int x), (2, .int y), (3, .ref (ad 10))]) hx hb dL_wouldJoin_13 hl (by decide) rfl (fun ls hl => ?_)
  refine lv_iconst (v := nI 1) hx hb dL_wouldJoin_15 rfl ?_
  exact e_i C0 hr hlk hP hS dL_wouldJoin_16 (by decide) (by decide) ⟨rfl, rfl⟩
set_option maxHeartbeats 1000000 in
set_option maxRecDepth 10000 in
theorem w_L_meanValue__c0 (l : Launch) (D : va_G) (cA : Nat → ClassId) (N : Nat) (ad : Nat → Nat) (c : Nat → va_E) (x : Int32) {fs : List Value} (h10 : 12 ≤ N) (h0 : c 0 = .inr (1, fs)) (M : Ct l yX1_meanValue wX1_meanValue { frames := 7, cells := 1, slots := 6, locals := 104 } [.ref (ad 0), .int x] D cA N ad c 1 6 nIOB) : Ci l yL_meanValue wL_meanValue { frames := 8, cells := 1, slots := 6, locals := 126 } [.ref (ad 0), .int x, .ref (ad 11)] D cA N ad c 1 6 (fun v9 c9 => v9 = nI 1 ∧ c = c9) := by
  intro sz9
  refine bd_ofH (cc := cL_meanValue) (maxL := 4) (ret := some Jvm.ClassFile.FieldType.int) (hh := [(0, 8, 11, 20)]) (by decide) rfl (fun s a h => wd_code_L_meanValue h a) (Nat.le_of_ble_eq_true rfl) ?_
  intro p e s m below meth c0 C0 hr hlk hT hP hS hsz ls hl
  subst hsz
  have hx := C0.1
  have hb := C0.2.1
  have hl : lv_has ls 4 [(0, .ref (ad 0)), (1, .int x), (2, .ref (ad 11))] := hl
  refine lv_aload_n hx hb dL_meanValue_0 rfl (lv_at hl 2 rfl) ?_
  refine lv_iconst (v := nI 0) hx hb dL_meanValue_1 rfl ?_
  refine lv_aload_n hx hb dL_meanValue_2 rfl (lv_at hl 0 rfl) ?_
  refine lv_iload_n hx hb dL_meanValue_3 rfl (lv_at hl 1 rfl) ?_
  refine kt_catch (rx_L_100 (As := [.int x]) (rest := [.int (nI 0), .ref (ad 11)]) (r := 0) C0 (M _) hP hS (by omega) h0 rfl ⟨rfl, rfl⟩ ⟨by decide, by decide⟩ hl.1 rfl (Nat.le_of_ble_eq_true rfl) dL_meanValue_4 ⟨Nat.le_of_ble_eq_true rfl, Nat.le_of_ble_eq_true rfl⟩) C0 hP hS [] ⟨0, 8, 11, 20⟩ [] (hT.trans rfl) (fun z hz => nomatch hz) (by decide) (by decide) (cl_20 C0.2.2.2.2.1 _) (ctnIOB C0.2.2.2.2.1 _) (fun H locs q hP hS => ?_)
  refine lv_astore_n (lv' := [(3, .ref q), (0, .ref (ad 0)), (1, .int x), (2, .ref (ad 11))]) hx hb dL_meanValue_11 rfl hl (by decide) rfl (fun ls hl => ?_)
  refine lv_iconst (v := nI 1) hx hb dL_meanValue_12 rfl ?_
  exact e_i C0 hr hlk hP hS dL_meanValue_13 (by decide) (by decide) ⟨rfl, rfl⟩
set_option maxHeartbeats 1000000 in
set_option maxRecDepth 10000 in
theorem w_L_offer__c1 (l : Launch) (D : va_G) (cA : Nat → ClassId) (N : Nat) (ad : Nat → Nat) (c : Nat → va_E) (x y z : Int32) {fs : List Value} (h10 : 12 ≤ N) (h0 : c 0 = .inr (1, fs)) (M : Ct l yX1_offer wX1_offer { frames := 6, cells := 1, slots := 6, locals := 82 } [.ref (ad 0), .int x, .int y, .int z] D cA N ad c 1 6 nIAE) : Ci l yL_offer wL_offer { frames := 7, cells := 1, slots := 6, locals := 106 } [.ref (ad 0), .int x, .int y, .int z, .ref (ad 10)] D cA N ad c 1 6 (fun v9 c9 => v9 = nI 2 ∧ c = c9) := by
  intro sz9
  refine bd_ofH (cc := cL_offer) (maxL := 6) (ret := some Jvm.ClassFile.FieldType.int) (hh := [(0, 12, 15, 20), (0, 12, 19, 13)]) (by decide) rfl (fun s a h => wd_code_L_offer h a) (Nat.le_of_ble_eq_true rfl) ?_
  intro p e s m below meth c0 C0 hr hlk hT hP hS hsz ls hl
  subst hsz
  have hx := C0.1
  have hb := C0.2.1
  have hl : lv_has ls 6 [(0, .ref (ad 0)), (1, .int x), (2, .int y), (3, .int z), (4, .ref (ad 10))] := hl
  refine lv_aload hx hb dL_offer_0 (lv_at hl 4 rfl) ?_
  refine lv_iconst (v := nI 0) hx hb dL_offer_2 rfl ?_
  refine lv_aload_n hx hb dL_offer_3 rfl (lv_at hl 0 rfl) ?_
  refine lv_iload_n hx hb dL_offer_4 rfl (lv_at hl 1 rfl) ?_
  refine lv_iload_n hx hb dL_offer_5 rfl (lv_at hl 2 rfl) ?_
  refine lv_iload_n hx hb dL_offer_6 rfl (lv_at hl 3 rfl) ?_
  refine kt_catch (rx_L_17 (As := [.int x, .int y, .int z]) (rest := [.int (nI 0), .ref (ad 10)]) (r := 0) C0 (M _) hP hS (by omega) h0 rfl ⟨rfl, rfl⟩ ⟨by decide, by decide⟩ hl.1 rfl (Nat.le_of_ble_eq_true rfl) dL_offer_7 ⟨Nat.le_of_ble_eq_true rfl, Nat.le_of_ble_eq_true rfl⟩) C0 hP hS [⟨0, 12, 15, 20⟩] ⟨0, 12, 19, 13⟩ [] (hT.trans rfl) (List.forall_mem_cons.mpr ⟨Or.inr ⟨by decide, _, cl_20 C0.2.2.2.2.1 _, nc_of C0.2.2.2.2.1 (by decide)⟩, (fun z hz => nomatch hz)⟩) (by decide) (by decide) (cl_13 C0.2.2.2.2.1 _) (ctnIAE C0.2.2.2.2.1 _) (fun H locs q hP hS => ?_)
  refine lv_astore (lv' := [(5, .ref q), (0, .ref (ad 0)), (1, .int x), (2, .int y), (3, .int z), (4, .ref (ad 10))]) hx hb dL_offer_19 hl (by decide) rfl (fun ls hl => ?_)
  refine lv_iconst (v := nI 2) hx hb dL_offer_21 rfl ?_
  exact e_i C0 hr hlk hP hS dL_offer_22 (by decide) (by decide) ⟨rfl, rfl⟩
set_option maxHeartbeats 1000000 in
set_option maxRecDepth 10000 in
theorem w_L_offerRow__c1 (l : Launch) (D : va_G) (cA : Nat → ClassId) (N : Nat) (ad : Nat → Nat) (c : Nat → va_E) (x y z u : Int32) {fs : List Value} (h10 : 12 ≤ N) (h0 : c 0 = .inr (1, fs)) (M : Ct l yX1_offerRow wX1_offerRow { frames := 6, cells := 1, slots := 6, locals := 82 } [.ref (ad 0), .int x, .int y, .int z, .int u] D cA N ad c 1 6 nIAE) : Ci l yL_offerRow wL_offerRow { frames := 7, cells := 1, slots := 6, locals := 111 } [.ref (ad 0), .int x, .int y, .int z, .int u, .ref (ad 10)] D cA N ad c 1 6 (fun v9 c9 => v9 = nI 2 ∧ c = c9) := by
  intro sz9
  refine bd_ofH (cc := cL_offerRow) (maxL := 7) (ret := some Jvm.ClassFile.FieldType.int) (hh := [(0, 14, 17, 20), (0, 14, 21, 13)]) (by decide) rfl (fun s a h => wd_code_L_offerRow h a) (Nat.le_of_ble_eq_true rfl) ?_
  intro p e s m below meth c0 C0 hr hlk hT hP hS hsz ls hl
  subst hsz
  have hx := C0.1
  have hb := C0.2.1
  have hl : lv_has ls 7 [(0, .ref (ad 0)), (1, .int x), (2, .int y), (3, .int z), (4, .int u), (5, .ref (ad 10))] := hl
  refine lv_aload hx hb dL_offerRow_0 (lv_at hl 5 rfl) ?_
  refine lv_iconst (v := nI 0) hx hb dL_offerRow_2 rfl ?_
  refine lv_aload_n hx hb dL_offerRow_3 rfl (lv_at hl 0 rfl) ?_
  refine lv_iload_n hx hb dL_offerRow_4 rfl (lv_at hl 1 rfl) ?_
  refine lv_iload_n hx hb dL_offerRow_5 rfl (lv_at hl 2 rfl) ?_
  refine lv_iload_n hx hb dL_offerRow_6 rfl (lv_at hl 3 rfl) ?_
  refine lv_iload hx hb dL_offerRow_7 (lv_at hl 4 rfl) ?_
  refine kt_catch (rx_L_22 (As := [.int x, .int y, .int z, .int u]) (rest := [.int (nI 0), .ref (ad 10)]) (r := 0) C0 (M _) hP hS (by omega) h0 rfl ⟨rfl, rfl⟩ ⟨by decide, by decide⟩ hl.1 rfl (Nat.le_of_ble_eq_true rfl) dL_offerRow_9 ⟨Nat.le_of_ble_eq_true rfl, Nat.le_of_ble_eq_true rfl⟩) C0 hP hS [⟨0, 14, 17, 20⟩] ⟨0, 14, 21, 13⟩ [] (hT.trans rfl) (List.forall_mem_cons.mpr ⟨Or.inr ⟨by decide, _, cl_20 C0.2.2.2.2.1 _, nc_of C0.2.2.2.2.1 (by decide)⟩, (fun z hz => nomatch hz)⟩) (by decide) (by decide) (cl_13 C0.2.2.2.2.1 _) (ctnIAE C0.2.2.2.2.1 _) (fun H locs q hP hS => ?_)
  refine lv_astore (lv' := [(6, .ref q), (0, .ref (ad 0)), (1, .int x), (2, .int y), (3, .int z), (4, .int u), (5, .ref (ad 10))]) hx hb dL_offerRow_21 hl (by decide) rfl (fun ls hl => ?_)
  refine lv_iconst (v := nI 2) hx hb dL_offerRow_23 rfl ?_
  exact e_i C0 hr hlk hP hS dL_offerRow_24 (by decide) (by decide) ⟨rfl, rfl⟩
set_option maxHeartbeats 1000000 in
set_option maxRecDepth 10000 in
theorem w_L_setLuck__c1 (l : Launch) (D : va_G) (cA : Nat → ClassId) (N : Nat) (ad : Nat → Nat) (c : Nat → va_E) (x y : Int32) {fs : List Value} (h10 : 12 ≤ N) (h0 : c 0 = .inr (1, fs)) (M : Ct l yX1_setLuck wX1_setLuck { frames := 6, cells := 1, slots := 6, locals := 82 } [.ref (ad 0), .int x, .int y] D cA N ad c 1 6 nIAE) : Ci l yL_setLuck wL_setLuck { frames := 7, cells := 1, slots := 6, locals := 106 } [.ref (ad 0), .int x, .int y, .ref (ad 10)] D cA N ad c 1 6 (fun v9 c9 => v9 = nI 2 ∧ c = c9) := by
  intro sz9
  refine bd_ofH (cc := cL_setLuck) (maxL := 5) (ret := some Jvm.ClassFile.FieldType.int) (hh := [(0, 10, 13, 20), (0, 10, 17, 13)]) (by decide) rfl (fun s a h => wd_code_L_setLuck h a) (Nat.le_of_ble_eq_true rfl) ?_
  intro p e s m below meth c0 C0 hr hlk hT hP hS hsz ls hl
  subst hsz
  have hx := C0.1
  have hb := C0.2.1
  have hl : lv_has ls 5 [(0, .ref (ad 0)), (1, .int x), (2, .int y), (3, .ref (ad 10))] := hl
  refine lv_aload_n hx hb dL_setLuck_0 rfl (lv_at hl 3 rfl) ?_
  refine lv_iconst (v := nI 0) hx hb dL_setLuck_1 rfl ?_
  refine lv_aload_n hx hb dL_setLuck_2 rfl (lv_at hl 0 rfl) ?_
  refine lv_iload_n hx hb dL_setLuck_3 rfl (lv_at hl 1 rfl) ?_
  refine lv_iload_n hx hb dL_setLuck_4 rfl (lv_at hl 2 rfl) ?_
  refine kt_catch (rx_L_34 (As := [.int x, .int y]) (rest := [.int (nI 0), .ref (ad 10)]) (r := 0) C0 (M _) hP hS (by omega) h0 rfl ⟨rfl, rfl⟩ ⟨by decide, by decide⟩ hl.1 rfl (Nat.le_of_ble_eq_true rfl) dL_setLuck_5 ⟨Nat.le_of_ble_eq_true rfl, Nat.le_of_ble_eq_true rfl⟩) C0 hP hS [⟨0, 10, 13, 20⟩] ⟨0, 10, 17, 13⟩ [] (hT.trans rfl) (List.forall_mem_cons.mpr ⟨Or.inr ⟨by decide, _, cl_20 C0.2.2.2.2.1 _, nc_of C0.2.2.2.2.1 (by decide)⟩, (fun z hz => nomatch hz)⟩) (by decide) (by decide) (cl_13 C0.2.2.2.2.1 _) (ctnIAE C0.2.2.2.2.1 _) (fun H locs q hP hS => ?_)
  refine lv_astore (lv' := [(4, .ref q), (0, .ref (ad 0)), (1, .int x), (2, .int y), (3, .ref (ad 10))]) hx hb dL_setLuck_17 hl (by decide) rfl (fun ls hl => ?_)
  refine lv_iconst (v := nI 2) hx hb dL_setLuck_19 rfl ?_
  exact e_i C0 hr hlk hP hS dL_setLuck_20 (by decide) (by decide) ⟨rfl, rfl⟩
set_option maxHeartbeats 1000000 in
set_option maxRecDepth 10000 in
theorem w_L_luckIn__c1 (l : Launch) (D : va_G) (cA : Nat → ClassId) (N : Nat) (ad : Nat → Nat) (c : Nat → va_E) (x y : Int32) {fs : List Value} (h10 : 12 ≤ N) (h0 : c 0 = .inr (1, fs)) (M : Ct l yX1_luckIn wX1_luckIn { frames := 6, cells := 1, slots := 6, locals := 82 } [.ref (ad 0), .int x, .int y] D cA N ad c 1 6 nIAE) : Ci l yL_luckIn wL_luckIn { frames := 7, cells := 1, slots := 6, locals := 105 } [.ref (ad 0), .int x, .int y, .ref (ad 10)] D cA N ad c 1 6 (fun v9 c9 => v9 = nI 2 ∧ c = c9) := by
  intro sz9
  refine bd_ofH (cc := cL_luckIn) (maxL := 5) (ret := some Jvm.ClassFile.FieldType.int) (hh := [(0, 10, 13, 20), (0, 10, 17, 13)]) (by decide) rfl (fun s a h => wd_code_L_luckIn h a) (Nat.le_of_ble_eq_true rfl) ?_
  intro p e s m below meth c0 C0 hr hlk hT hP hS hsz ls hl
  subst hsz
  have hx := C0.1
  have hb := C0.2.1
  have hl : lv_has ls 5 [(0, .ref (ad 0)), (1, .int x), (2, .int y), (3, .ref (ad 10))] := hl
  refine lv_aload_n hx hb dL_luckIn_0 rfl (lv_at hl 3 rfl) ?_
  refine lv_iconst (v := nI 0) hx hb dL_luckIn_1 rfl ?_
  refine lv_aload_n hx hb dL_luckIn_2 rfl (lv_at hl 0 rfl) ?_
  refine lv_iload_n hx hb dL_luckIn_3 rfl (lv_at hl 1 rfl) ?_
  refine lv_iload_n hx hb dL_luckIn_4 rfl (lv_at hl 2 rfl) ?_
  refine kt_catch (rx_L_79 (As := [.int x, .int y]) (rest := [.int (nI 0), .ref (ad 10)]) (r := 0) C0 (M _) hP hS (by omega) h0 rfl ⟨rfl, rfl⟩ ⟨by decide, by decide⟩ hl.1 rfl (Nat.le_of_ble_eq_true rfl) dL_luckIn_5 ⟨Nat.le_of_ble_eq_true rfl, Nat.le_of_ble_eq_true rfl⟩) C0 hP hS [⟨0, 10, 13, 20⟩] ⟨0, 10, 17, 13⟩ [] (hT.trans rfl) (List.forall_mem_cons.mpr ⟨Or.inr ⟨by decide, _, cl_20 C0.2.2.2.2.1 _, nc_of C0.2.2.2.2.1 (by decide)⟩, (fun z hz => nomatch hz)⟩) (by decide) (by decide) (cl_13 C0.2.2.2.2.1 _) (ctnIAE C0.2.2.2.2.1 _) (fun H locs q hP hS => ?_)
  refine lv_astore (lv' := [(4, .ref q), (0, .ref (ad 0)), (1, .int x), (2, .int y), (3, .ref (ad 10))]) hx hb dL_luckIn_17 hl (by decide) rfl (fun ls hl => ?_)
  refine lv_iconst (v := nI 2) hx hb dL_luckIn_19 rfl ?_
  exact e_i C0 hr hlk hP hS dL_luckIn_20 (by decide) (by decide) ⟨rfl, rfl⟩
set_option maxHeartbeats 1000000 in
set_option maxRecDepth 10000 in
theorem w_L_wouldTake__c1 (l : Launch) (D : va_G) (cA : Nat → ClassId) (N : Nat) (ad : Nat → Nat) (c : Nat → va_E) (x y : Int32) {fs : List Value} (h10 : 12 ≤ N) (h0 : c 0 = .inr (1, fs)) (M : Ct l yX1_wouldTake wX1_wouldTake { frames := 6, cells := 1, slots := 6, locals := 82 } [.ref (ad 0), .int x, .int y] D cA N ad c 1 6 nIAE) : Ci l yL_wouldTake wL_wouldTake { frames := 7, cells := 1, slots := 6, locals := 105 } [.ref (ad 0), .int x, .int y, .ref (ad 10)] D cA N ad c 1 6 (fun v9 c9 => v9 = nI 2 ∧ c = c9) := by
  intro sz9
  refine bd_ofH (cc := cL_wouldTake) (maxL := 5) (ret := some Jvm.ClassFile.FieldType.int) (hh := [(0, 10, 13, 20), (0, 10, 17, 13)]) (by decide) rfl (fun s a h => wd_code_L_wouldTake h a) (Nat.le_of_ble_eq_true rfl) ?_
  intro p e s m below meth c0 C0 hr hlk hT hP hS hsz ls hl
  subst hsz
  have hx := C0.1
  have hb := C0.2.1
  have hl : lv_has ls 5 [(0, .ref (ad 0)), (1, .int x), (2, .int y), (3, .ref (ad 10))] := hl
  refine lv_aload_n hx hb dL_wouldTake_0 rfl (lv_at hl 3 rfl) ?_
  refine lv_iconst (v := nI 0) hx hb dL_wouldTake_1 rfl ?_
  refine lv_aload_n hx hb dL_wouldTake_2 rfl (lv_at hl 0 rfl) ?_
  refine lv_iload_n hx hb dL_wouldTake_3 rfl (lv_at hl 1 rfl) ?_
  refine lv_iload_n hx hb dL_wouldTake_4 rfl (lv_at hl 2 rfl) ?_
  refine kt_catch (rx_L_85 (As := [.int x, .int y]) (rest := [.int (nI 0), .ref (ad 10)]) (r := 0) C0 (M _) hP hS (by omega) h0 rfl ⟨rfl, rfl⟩ ⟨by decide, by decide⟩ hl.1 rfl (Nat.le_of_ble_eq_true rfl) dL_wouldTake_5 ⟨Nat.le_of_ble_eq_true rfl, Nat.le_of_ble_eq_true rfl⟩) C0 hP hS [⟨0, 10, 13, 20⟩] ⟨0, 10, 17, 13⟩ [] (hT.trans rfl) (List.forall_mem_cons.mpr ⟨Or.inr ⟨by decide, _, cl_20 C0.2.2.2.2.1 _, nc_of C0.2.2.2.2.1 (by decide)⟩, (fun z hz => nomatch hz)⟩) (by decide) (by decide) (cl_13 C0.2.2.2.2.1 _) (ctnIAE C0.2.2.2.2.1 _) (fun H locs q hP hS => ?_)
  refine lv_astore (lv' := [(4, .ref q), (0, .ref (ad 0)), (1, .int x), (2, .int y), (3, .ref (ad 10))]) hx hb dL_wouldTake_17 hl (by decide) rfl (fun ls hl => ?_)
  refine lv_iconst (v := nI 2) hx hb dL_wouldTake_19 rfl ?_
  exact e_i C0 hr hlk hP hS dL_wouldTake_20 (by decide) (by decide) ⟨rfl, rfl⟩
set_option maxHeartbeats 1000000 in
set_option maxRecDepth 10000 in
theorem w_L_wouldStay__c1 (l : Launch) (D : va_G) (cA : Nat → ClassId) (N : Nat) (ad : Nat → Nat) (c : Nat → va_E) (x y : Int32) {fs : List Value} (h10 : 12 ≤ N) (h0 : c 0 = .inr (1, fs)) (M : Ct l yX1_wouldStay wX1_wouldStay { frames := 6, cells := 1, slots := 6, locals := 82 } [.ref (ad 0), .int x, .int y] D cA N ad c 1 6 nIAE) : Ci l yL_wouldStay wL_wouldStay { frames := 7, cells := 1, slots := 6, locals := 105 } [.ref (ad 0), .int x, .int y, .ref (ad 10)] D cA N ad c 1 6 (fun v9 c9 => v9 = nI 2 ∧ c = c9) := by
  intro sz9
  refine bd_ofH (cc := cL_wouldStay) (maxL := 5) (ret := some Jvm.ClassFile.FieldType.int) (hh := [(0, 10, 13, 20), (0, 10, 17, 13)]) (by decide) rfl (fun s a h => wd_code_L_wouldStay h a) (Nat.le_of_ble_eq_true rfl) ?_
  intro p e s m below meth c0 C0 hr hlk hT hP hS hsz ls hl
  subst hsz
  have hx := C0.1
  have hb := C0.2.1
  have hl : lv_has ls 5 [(0, .ref (ad 0)), (1, .int x), (2, .int y), (3, .ref (ad 10))] := hl
  refine lv_aload_n hx hb dL_wouldStay_0 rfl (lv_at hl 3 rfl) ?_
  refine lv_iconst (v := nI 0) hx hb dL_wouldStay_1 rfl ?_
  refine lv_aload_n hx hb dL_wouldStay_2 rfl (lv_at hl 0 rfl) ?_
  refine lv_iload_n hx hb dL_wouldStay_3 rfl (lv_at hl 1 rfl) ?_
  refine lv_iload_n hx hb dL_wouldStay_4 rfl (lv_at hl 2 rfl) ?_
  refine kt_catch (rx_L_88 (As := [.int x, .int y]) (rest := [.int (nI 0), .ref (ad 10)]) (r := 0) C0 (M _) hP hS (by omega) h0 rfl ⟨rfl, rfl⟩ ⟨by decide, by decide⟩ hl.1 rfl (Nat.le_of_ble_eq_true rfl) dL_wouldStay_5 ⟨Nat.le_of_ble_eq_true rfl, Nat.le_of_ble_eq_true rfl⟩) C0 hP hS [⟨0, 10, 13, 20⟩] ⟨0, 10, 17, 13⟩ [] (hT.trans rfl) (List.forall_mem_cons.mpr ⟨Or.inr ⟨by decide, _, cl_20 C0.2.2.2.2.1 _, nc_of C0.2.2.2.2.1 (by decide)⟩, (fun z hz => nomatch hz)⟩) (by decide) (by decide) (cl_13 C0.2.2.2.2.1 _) (ctnIAE C0.2.2.2.2.1 _) (fun H locs q hP hS => ?_)
  refine lv_astore (lv' := [(4, .ref q), (0, .ref (ad 0)), (1, .int x), (2, .int y), (3, .ref (ad 10))]) hx hb dL_wouldStay_17 hl (by decide) rfl (fun ls hl => ?_)
  refine lv_iconst (v := nI 2) hx hb dL_wouldStay_19 rfl ?_
  exact e_i C0 hr hlk hP hS dL_wouldStay_20 (by decide) (by decide) ⟨rfl, rfl⟩
set_option maxHeartbeats 1000000 in
set_option maxRecDepth 10000 in
theorem w_L_drawsUntil__c1 (l : Launch) (D : va_G) (cA : Nat → ClassId) (N : Nat) (ad : Nat → Nat) (c : Nat → va_E) (x y z : Int32) {fs : List Value} (h10 : 12 ≤ N) (h0 : c 0 = .inr (1, fs)) (M : Ct l yX1_drawsUntil wX1_drawsUntil { frames := 6, cells := 1, slots := 6, locals := 82 } [.ref (ad 0), .int x, .int y, .int z] D cA N ad c 1 6 nIAE) : Ci l yL_drawsUntil wL_drawsUntil { frames := 7, cells := 1, slots := 6, locals := 107 } [.ref (ad 0), .int x, .int y, .int z, .ref (ad 10)] D cA N ad c 1 6 (fun v9 c9 => v9 = nI 2 ∧ c = c9) := by
  intro sz9
  refine bd_ofH (cc := cL_drawsUntil) (maxL := 6) (ret := some Jvm.ClassFile.FieldType.int) (hh := [(0, 12, 15, 20), (0, 12, 19, 13)]) (by decide) rfl (fun s a h => wd_code_L_drawsUntil h a) (Nat.le_of_ble_eq_true rfl) ?_
  intro p e s m below meth c0 C0 hr hlk hT hP hS hsz ls hl
  subst hsz
  have hx := C0.1
  have hb := C0.2.1
  have hl : lv_has ls 6 [(0, .ref (ad 0)), (1, .int x), (2, .int y), (3, .int z), (4, .ref (ad 10))] := hl
  refine lv_aload hx hb dL_drawsUntil_0 (lv_at hl 4 rfl) ?_
  refine lv_iconst (v := nI 0) hx hb dL_drawsUntil_2 rfl ?_
  refine lv_aload_n hx hb dL_drawsUntil_3 rfl (lv_at hl 0 rfl) ?_
  refine lv_iload_n hx hb dL_drawsUntil_4 rfl (lv_at hl 1 rfl) ?_
  refine lv_iload_n hx hb dL_drawsUntil_5 rfl (lv_at hl 2 rfl) ?_
  refine lv_iload_n hx hb dL_drawsUntil_6 rfl (lv_at hl 3 rfl) ?_
  refine kt_catch (rx_L_82 (As := [.int x, .int y, .int z]) (rest := [.int (nI 0), .ref (ad 10)]) (r := 0) C0 (M _) hP hS (by omega) h0 rfl ⟨rfl, rfl⟩ ⟨by decide, by decide⟩ hl.1 rfl (Nat.le_of_ble_eq_true rfl) dL_drawsUntil_7 ⟨Nat.le_of_ble_eq_true rfl, Nat.le_of_ble_eq_true rfl⟩) C0 hP hS [⟨0, 12, 15, 20⟩] ⟨0, 12, 19, 13⟩ [] (hT.trans rfl) (List.forall_mem_cons.mpr ⟨Or.inr ⟨by decide, _, cl_20 C0.2.2.2.2.1 _, nc_of C0.2.2.2.2.1 (by decide)⟩, (fun z hz => nomatch hz)⟩) (by decide) (by decide) (cl_13 C0.2.2.2.2.1 _) (ctnIAE C0.2.2.2.2.1 _) (fun H locs q hP hS => ?_)
  refine lv_astore (lv' := [(5, .ref q), (0, .ref (ad 0)), (1, .int x), (2, .int y), (3, .int z), (4, .ref (ad 10))]) hx hb dL_drawsUntil_19 hl (by decide) rfl (fun ls hl => ?_)
  refine lv_iconst (v := nI 2) hx hb dL_drawsUntil_21 rfl ?_
  exact e_i C0 hr hlk hP hS dL_drawsUntil_22 (by decide) (by decide) ⟨rfl, rfl⟩
set_option maxHeartbeats 1000000 in
set_option maxRecDepth 10000 in
theorem w_L_addHand__c0 (l : Launch) (D : va_G) (cA : Nat → ClassId) (N : Nat) (ad : Nat → Nat) (c : Nat → va_E) (x y z : Int32) {fs : List Value} (h10 : 12 ≤ N) (h0 : c 0 = .inr (1, fs)) (M : Ct l yX1_addHand wX1_addHand { frames := 6, cells := 1, slots := 6, locals := 82 } [.ref (ad 0), .int x, .int y, .int z] D cA N ad c 1 6 nIAE) : Ci l yL_addHand wL_addHand { frames := 7, cells := 1, slots := 6, locals := 106 } [.ref (ad 0), .int x, .int y, .int z, .ref (ad 10)] D cA N ad c 1 6 (fun v9 c9 => v9 = nI 1 ∧ c = c9) := by
  intro sz9
  refine bd_ofH (cc := cL_addHand) (maxL := 6) (ret := some Jvm.ClassFile.FieldType.int) (hh := [(0, 12, 15, 13), (0, 12, 19, 15)]) (by decide) rfl (fun s a h => wd_code_L_addHand h a) (Nat.le_of_ble_eq_true rfl) ?_
  intro p e s m below meth c0 C0 hr hlk hT hP hS hsz ls hl
  subst hsz
  have hx := C0.1
  have hb := C0.2.1
  have hl : lv_has ls 6 [(0, .ref (ad 0)), (1, .int x), (2, .int y), (3, .int z), (4, .ref (ad 10))] := hl
  refine lv_aload hx hb dL_addHand_0 (lv_at hl 4 rfl) ?_
  refine lv_iconst (v := nI 0) hx hb dL_addHand_2 rfl ?_
  refine lv_aload_n hx hb dL_addHand_3 rfl (lv_at hl 0 rfl) ?_
  refine lv_iload_n hx hb dL_addHand_4 rfl (lv_at hl 1 rfl) ?_
  refine lv_iload_n hx hb dL_addHand_5 rfl (lv_at hl 2 rfl) ?_
  refine lv_iload_n hx hb dL_addHand_6 rfl (lv_at hl 3 rfl) ?_
  refine kt_catch (rx_L_7 (As := [.int x, .int y, .int z]) (rest := [.int (nI 0), .ref (ad 10)]) (r := 0) C0 (M _) hP hS (by omega) h0 rfl ⟨rfl, rfl⟩ ⟨by decide, by decide⟩ hl.1 rfl (Nat.le_of_ble_eq_true rfl) dL_addHand_7 ⟨Nat.le_of_ble_eq_true rfl, Nat.le_of_ble_eq_true rfl⟩) C0 hP hS [] ⟨0, 12, 15, 13⟩ [⟨0, 12, 19, 15⟩] (hT.trans rfl) (fun z hz => nomatch hz) (by decide) (by decide) (cl_13 C0.2.2.2.2.1 _) (ctnIAE C0.2.2.2.2.1 _) (fun H locs q hP hS => ?_)
  refine lv_astore (lv' := [(5, .ref q), (0, .ref (ad 0)), (1, .int x), (2, .int y), (3, .int z), (4, .ref (ad 10))]) hx hb dL_addHand_15 hl (by decide) rfl (fun ls hl => ?_)
  refine lv_iconst (v := nI 1) hx hb dL_addHand_17 rfl ?_
  exact e_i C0 hr hlk hP hS dL_addHand_18 (by decide) (by decide) ⟨rfl, rfl⟩
set_option maxHeartbeats 1000000 in
set_option maxRecDepth 10000 in
theorem w_L_addHand__c1 (l : Launch) (D : va_G) (cA : Nat → ClassId) (N : Nat) (ad : Nat → Nat) (c : Nat → va_E) (x y z : Int32) {fs : List Value} (h10 : 12 ≤ N) (h0 : c 0 = .inr (1, fs)) (M : Ct l yX1_addHand wX1_addHand { frames := 6, cells := 1, slots := 6, locals := 82 } [.ref (ad 0), .int x, .int y, .int z] D cA N ad c 1 6 nISE) : Ci l yL_addHand wL_addHand { frames := 7, cells := 1, slots := 6, locals := 106 } [.ref (ad 0), .int x, .int y, .int z, .ref (ad 10)] D cA N ad c 1 6 (fun v9 c9 => v9 = nI 2 ∧ c = c9) := by
  intro sz9
  refine bd_ofH (cc := cL_addHand) (maxL := 6) (ret := some Jvm.ClassFile.FieldType.int) (hh := [(0, 12, 15, 13), (0, 12, 19, 15)]) (by decide) rfl (fun s a h => wd_code_L_addHand h a) (Nat.le_of_ble_eq_true rfl) ?_
  intro p e s m below meth c0 C0 hr hlk hT hP hS hsz ls hl
  subst hsz
  have hx := C0.1
  have hb := C0.2.1
  have hl : lv_has ls 6 [(0, .ref (ad 0)), (1, .int x), (2, .int y), (3, .int z), (4, .ref (ad 10))] := hl
  refine lv_aload hx hb dL_addHand_0 (lv_at hl 4 rfl) ?_
  refine lv_iconst (v := nI 0) hx hb dL_addHand_2 rfl ?_
  refine lv_aload_n hx hb dL_addHand_3 rfl (lv_at hl 0 rfl) ?_
  refine lv_iload_n hx hb dL_addHand_4 rfl (lv_at hl 1 rfl) ?_
  refine lv_iload_n hx hb dL_addHand_5 rfl (lv_at hl 2 rfl) ?_
  refine lv_iload_n hx hb dL_addHand_6 rfl (lv_at hl 3 rfl) ?_
  refine kt_catch (rx_L_7 (As := [.int x, .int y, .int z]) (rest := [.int (nI 0), .ref (ad 10)]) (r := 0) C0 (M _) hP hS (by omega) h0 rfl ⟨rfl, rfl⟩ ⟨by decide, by decide⟩ hl.1 rfl (Nat.le_of_ble_eq_true rfl) dL_addHand_7 ⟨Nat.le_of_ble_eq_true rfl, Nat.le_of_ble_eq_true rfl⟩) C0 hP hS [⟨0, 12, 15, 13⟩] ⟨0, 12, 19, 15⟩ [] (hT.trans rfl) (List.forall_mem_cons.mpr ⟨Or.inr ⟨by decide, _, cl_13 C0.2.2.2.2.1 _, nc_of C0.2.2.2.2.1 (by decide)⟩, (fun z hz => nomatch hz)⟩) (by decide) (by decide) (cl_15 C0.2.2.2.2.1 _) (ctnISE C0.2.2.2.2.1 _) (fun H locs q hP hS => ?_)
  refine lv_astore (lv' := [(5, .ref q), (0, .ref (ad 0)), (1, .int x), (2, .int y), (3, .int z), (4, .ref (ad 10))]) hx hb dL_addHand_19 hl (by decide) rfl (fun ls hl => ?_)
  refine lv_iconst (v := nI 2) hx hb dL_addHand_21 rfl ?_
  exact e_i C0 hr hlk hP hS dL_addHand_22 (by decide) (by decide) ⟨rfl, rfl⟩
set_option maxHeartbeats 1000000 in
set_option maxRecDepth 10000 in
theorem w_L_join__c1 (l : Launch) (D : va_G) (cA : Nat → ClassId) (N : Nat) (ad : Nat → Nat) (c : Nat → va_E) (x y : Int32) {fs : List Value} (h10 : 12 ≤ N) (h0 : c 0 = .inr (1, fs)) (M : Ct l yX1_join wX1_join { frames := 6, cells := 1, slots := 6, locals := 82 } [.ref (ad 0), .int x, .int y] D cA N ad c 1 6 nIAE) : Ci l yL_join wL_join { frames := 7, cells := 1, slots := 6, locals := 107 } [.ref (ad 0), .int x, .int y, .ref (ad 10)] D cA N ad c 1 6 (fun v9 c9 => v9 = nI 2 ∧ c = c9) := by
  intro sz9
  refine bd_ofH (cc := cL_join) (maxL := 5) (ret := some Jvm.ClassFile.FieldType.int) (hh := [(0, 10, 13, 20), (0, 10, 17, 13), (0, 10, 21, 15)]) (by decide) rfl (fun s a h => wd_code_L_join h a) (Nat.le_of_ble_eq_true rfl) ?_
  intro p e s m below meth c0 C0 hr hlk hT hP hS hsz ls hl
  subst hsz
  have hx := C0.1
  have hb := C0.2.1
  have hl : lv_has ls 5 [(0, .ref (ad 0)), (1, .int x), (2, .int y), (3, .ref (ad 10))] := hl
  refine lv_aload_n hx hb dL_join_0 rfl (lv_at hl 3 rfl) ?_
  refine lv_iconst (v := nI 0) hx hb dL_join_1 rfl ?_
  refine lv_aload_n hx hb dL_join_2 rfl (lv_at hl 0 rfl) ?_
  refine lv_iload_n hx hb dL_join_3 rfl (lv_at hl 1 rfl) ?_
  refine lv_iload_n hx hb dL_join_4 rfl (lv_at hl 2 rfl) ?_
  refine kt_catch (rx_L_30 (As := [.int x, .int y]) (rest := [.int (nI 0), .ref (ad 10)]) (r := 0) C0 (M _) hP hS (by omega) h0 rfl ⟨rfl, rfl⟩ ⟨by decide, by decide⟩ hl.1 rfl (Nat.le_of_ble_eq_true rfl) dL_join_5 ⟨Nat.le_of_ble_eq_true rfl, Nat.le_of_ble_eq_true rfl⟩) C0 hP hS [⟨0, 10, 13, 20⟩] ⟨0, 10, 17, 13⟩ [⟨0, 10, 21, 15⟩] (hT.trans rfl) (List.forall_mem_cons.mpr ⟨Or.inr ⟨by decide, _, cl_20 C0.2.2.2.2.1 _, nc_of C0.2.2.2.2.1 (by decide)⟩, (fun z hz => nomatch hz)⟩) (by decide) (by decide) (cl_13 C0.2.2.2.2.1 _) (ctnIAE C0.2.2.2.2.1 _) (fun H locs q hP hS => ?_)
  refine lv_astore (lv' := [(4, .ref q), (0, .ref (ad 0)), (1, .int x), (2, .int y), (3, .ref (ad 10))]) hx hb dL_join_17 hl (by decide) rfl (fun ls hl => ?_)
  refine lv_iconst (v := nI 2) hx hb dL_join_19 rfl ?_
  exact e_i C0 hr hlk hP hS dL_join_20 (by decide) (by decide) ⟨rfl, rfl⟩
set_option maxHeartbeats 1000000 in
set_option maxRecDepth 10000 in
theorem w_L_join__c2 (l : Launch) (D : va_G) (cA : Nat → ClassId) (N : Nat) (ad : Nat → Nat) (c : Nat → va_E) (x y : Int32) {fs : List Value} (h10 : 12 ≤ N) (h0 : c 0 = .inr (1, fs)) (M : Ct l yX1_join wX1_join { frames := 6, cells := 1, slots := 6, locals := 82 } [.ref (ad 0), .int x, .int y] D cA N ad c 1 6 nISE) : Ci l yL_join wL_join { frames := 7, cells := 1, slots := 6, locals := 107 } [.ref (ad 0), .int x, .int y, .ref (ad 10)] D cA N ad c 1 6 (fun v9 c9 => v9 = nI 3 ∧ c = c9) := by
  intro sz9
  refine bd_ofH (cc := cL_join) (maxL := 5) (ret := some Jvm.ClassFile.FieldType.int) (hh := [(0, 10, 13, 20), (0, 10, 17, 13), (0, 10, 21, 15)]) (by decide) rfl (fun s a h => wd_code_L_join h a) (Nat.le_of_ble_eq_true rfl) ?_
  intro p e s m below meth c0 C0 hr hlk hT hP hS hsz ls hl
  subst hsz
  have hx := C0.1
  have hb := C0.2.1
  have hl : lv_has ls 5 [(0, .ref (ad 0)), (1, .int x), (2, .int y), (3, .ref (ad 10))] := hl
  refine lv_aload_n hx hb dL_join_0 rfl (lv_at hl 3 rfl) ?_
  refine lv_iconst (v := nI 0) hx hb dL_join_1 rfl ?_
  refine lv_aload_n hx hb dL_join_2 rfl (lv_at hl 0 rfl) ?_
  refine lv_iload_n hx hb dL_join_3 rfl (lv_at hl 1 rfl) ?_
  refine lv_iload_n hx hb dL_join_4 rfl (lv_at hl 2 rfl) ?_
  refine kt_catch (rx_L_30 (As := [.int x, .int y]) (rest := [.int (nI 0), .ref (ad 10)]) (r := 0) C0 (M _) hP hS (by omega) h0 rfl ⟨rfl, rfl⟩ ⟨by decide, by decide⟩ hl.1 rfl (Nat.le_of_ble_eq_true rfl) dL_join_5 ⟨Nat.le_of_ble_eq_true rfl, Nat.le_of_ble_eq_true rfl⟩) C0 hP hS [⟨0, 10, 13, 20⟩, ⟨0, 10, 17, 13⟩] ⟨0, 10, 21, 15⟩ [] (hT.trans rfl) (List.forall_mem_cons.mpr ⟨Or.inr ⟨by decide, _, cl_20 C0.2.2.2.2.1 _, nc_of C0.2.2.2.2.1 (by decide)⟩, (List.forall_mem_cons.mpr ⟨Or.inr ⟨by decide, _, cl_13 C0.2.2.2.2.1 _, nc_of C0.2.2.2.2.1 (by decide)⟩, (fun z hz => nomatch hz)⟩)⟩) (by decide) (by decide) (cl_15 C0.2.2.2.2.1 _) (ctnISE C0.2.2.2.2.1 _) (fun H locs q hP hS => ?_)
  refine lv_astore (lv' := [(4, .ref q), (0, .ref (ad 0)), (1, .int x), (2, .int y), (3, .ref (ad 10))]) hx hb dL_join_21 hl (by decide) rfl (fun ls hl => ?_)
  refine lv_iconst (v := nI 3) hx hb dL_join_23 rfl ?_
  exact e_i C0 hr hlk hP hS dL_join_24 (by decide) (by decide) ⟨rfl, rfl⟩
