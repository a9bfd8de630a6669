/-! the rows of the law's helpers -/
section PX
variable {p : Program} {l : Launch} {e : Env} {R : Room} {s : State} {m : MethodId} {args : Array Value} {below : List Frame} {meth : Method} {c0 : Code} {H : Heap} {locs : List Loc} {cells slots : Nat} {Q : State → Prop}
variable {cc : ByteArray} {nL : Nat} {own : String} {D : va_G} {cA : Nat → ClassId} {N : Nat} {ad : Nat → Nat} {A : Nat → Prop} {pc : Nat} {ls : Array Slot} {rest st0 : List Value} {lv : List (Nat × Value)} {c : Nat → va_E} {b L : Nat} {xs : Nat → Int32}
/-- a method's start, with the script beside the world -/
def PreX (D : va_G) (cA : Nat → ClassId) (N : Nat) (ad : Nat → Nat) (c : Nat → va_E) (sz b L : Nat) (xs : Nat → Int32) : State → Prop := fun U =>
  Pre D cA N ad c sz U ∧ va_X b L xs U U.heap ∧ b < sz ∧ ∀ i, i < N → b ≠ ad i
theorem PreX.blind {sz : Nat} {av : List Value} : FrameBlind (va_Pc av (PreX D cA N ad c sz b L xs)) := by
  intro a U g mk h
  obtain ⟨h0, h1, h2, h3, h4⟩ := h
  exact ⟨h0, (Pre.blind (av := av) a U g mk ⟨h0, h1⟩).2, va_X.moved (u := U) (U := U.calling g mk a) (Vm.Alike.refl U.vm) h2, h3, h4⟩
theorem Cx.preX (C0 : Cx p s m c0 cc nL own D cA N ad A) (hP : va_P D vwCl (wl N ad c) H) (hS : va_S A s.heap H locs) (hX : va_X b L xs s s.heap) (hbl : b < s.heap.size) (hbA : ¬ A b) (av : List Value) : PreS s H (va_Pc av (PreX D cA N ad c H.size b L xs)) av := by
  refine ⟨PreX.blind, fun U hU hW => ⟨rfl, ((C0.pre hP hS av).2 U hU hW).2, ?_, Nat.lt_of_lt_of_le hbl hS.1, fun i hi q => hbA (by rw [q]; exact C0.2.2.2.2.2.2.1.2 i hi)⟩⟩
  rw [hU]
  exact (va_X.moved hW.alike hX).kept (hS.2.1 b hbl hbA)
/-- a body's walk begins, with the script beside the world -/
theorem bd_ofX {y : MethodName} {ws ws' : List Cond} {rm : Room} {av : List Value} {Qc : Array Value → State → Outcome → State → Prop} {mc ms : Nat} {maxL : Nat} {ret : Option FieldType} {sz : Nat} (hy : plainName y.cls = true) (hw : ws = Cond.code y cc maxL ret :: ws') (hal : (lg_sl av).length ≤ maxL)
    (body : ∀ (p : Program) (e : Env) (s : State) (m : MethodId) (below : List Frame) (meth : Method) (c0 : Code), Cx p s m c0 cc maxL y.cls D cA N ad (wA N ad s.heap.size) → meth.sig.returnType = ret → meth.locks = false → va_X b L xs s s.heap → b < s.heap.size → (¬ wA N ad s.heap.size b) → va_P D vwCl (wl N ad c) s.heap → va_S (wA N ad s.heap.size) s.heap s.heap [] → s.heap.size = sz →
      ∀ ls : Array Slot, lv_has ls maxL (lv_args 0 av) → W p l e rm s m av.toArray below meth c0 s.heap [] 0 0 (MQ below Qc av.toArray s mc ms (wA N ad s.heap.size)) (F0 m 0 ls [])) :
    Met l y ws rm (va_Pc av (PreX D cA N ad c sz b L xs)) Qc mc ms (wA N ad sz) := by
  refine Met.ofW (cc := cc) (maxL := maxL) (ret := ret) hy hw ?_
  intro p e s m args below meth c0 s₁ B hml hv
  obtain ⟨rfl, ⟨hsz, hP, hE, hD, hZ⟩, hX, hbl, hbA⟩ := hv
  have hx := B.exec
  have hb := B.bytes
  have hr := B.returns
  have hown : s.vm.findClass y.cls = some m.cls := findClass_of_methodNamed B.named
  have hl := lv_entry av (n := maxL) hal
  have hbA2 : ¬ wA N ad s.heap.size b := fun q => by
    rcases q with ⟨i, hi, q⟩ | q
    · exact hbA i hi q
    · omega
  have hbody := fun hS => body p e s m below meth c0 ⟨hx, hb, hml, hown, hE, by rw [hsz]; exact hZ, hD.self, fun q h => Or.inr h⟩ hr B.notSynchronized hX (by omega) hbA2 hP hS hsz
  rw [lg_entry_eq]
  rw [hsz] at hbody
  exact hbody va_S.rf _ hl
end PX
section W9
variable {s : State} {D : va_G} {cA : Nat → ClassId}
theorem wd_ci_L_7 (h : Ev D cA s) (a : Array Value) : (Cond.constant RL 7 2147483647).before a s = true := h.2.1 _ (List.mem_append_right _ (List.mem_of_getElem? (i := 353) (by decide +kernel : tables_1[353]? = some (Cond.constant RL 7 2147483647)))) (by decide +kernel) a
theorem wd_ci_L_8 (h : Ev D cA s) (a : Array Value) : (Cond.constant RL 8 790386105).before a s = true := h.2.1 _ (List.mem_append_right _ (List.mem_of_getElem? (i := 357) (by decide +kernel : tables_1[357]? = some (Cond.constant RL 8 790386105)))) (by decide +kernel) a
theorem wd_ini_J9 (h : Ev D cA s) (a : Array Value) : (Cond.initialized "java/lang/Math").before a s = true := h.2.1 _ (List.mem_append_right _ (List.mem_of_getElem? (i := 9) (by decide +kernel : tables_1[9]? = some (Cond.initialized "java/lang/Math")))) (by decide +kernel) a
theorem wd_code_J9_max (h : Ev D cA s) (a : Array Value) : (Cond.code Lib.Math.max.name Lib.Math.max.code 2 (some .int)).before a s = true := h.2.1 _ (List.mem_append_right _ (List.mem_of_getElem? (i := 424) (by decide +kernel : tables_1[424]? = some (Cond.code Lib.Math.max.name Lib.Math.max.code 2 (some .int))))) (by decide +kernel) a
theorem wd_st_J9_max (h : Ev D cA s) (a : Array Value) : (Cond.static Lib.Math.max.name).before a s = true := h.2.1 _ (List.mem_append_right _ (List.mem_of_getElem? (i := 423) (by decide +kernel : tables_1[423]? = some (Cond.static Lib.Math.max.name)))) (by decide +kernel) a
theorem wd_ml_L_52 (h : Ev D cA s) (a : Array Value) : (Cond.methodLink RL 52 Lib.Math.max.name).before a s = true := h.2.1 _ (List.mem_append_right _ (List.mem_of_getElem? (i := 422) (by decide +kernel : tables_1[422]? = some (Cond.methodLink RL 52 Lib.Math.max.name)))) (by decide +kernel) a
theorem wd_code_J9_min (h : Ev D cA s) (a : Array Value) : (Cond.code Lib.Math.min.name Lib.Math.min.code 2 (some .int)).before a s = true := h.2.1 _ (List.mem_append_right _ (List.mem_of_getElem? (i := 427) (by decide +kernel : tables_1[427]? = some (Cond.code Lib.Math.min.name Lib.Math.min.code 2 (some .int))))) (by decide +kernel) a
theorem wd_st_J9_min (h : Ev D cA s) (a : Array Value) : (Cond.static Lib.Math.min.name).before a s = true := h.2.1 _ (List.mem_append_right _ (List.mem_of_getElem? (i := 426) (by decide +kernel : tables_1[426]? = some (Cond.static Lib.Math.min.name)))) (by decide +kernel) a
theorem wd_ml_L_63 (h : Ev D cA s) (a : Array Value) : (Cond.methodLink RL 63 Lib.Math.min.name).before a s = true := h.2.1 _ (List.mem_append_right _ (List.mem_of_getElem? (i := 425) (by decide +kernel : tables_1[425]? = some (Cond.methodLink RL 63 Lib.Math.min.name)))) (by decide +kernel) a
end W9
section R9
variable {p : Program} {l : Launch} {e : Env} {R : Room} {s : State} {m : MethodId} {args : Array Value} {below : List Frame} {meth : Method} {c0 : Code} {H : Heap} {locs : List Loc} {cells slots : Nat} {Q : State → Prop}
variable {cc : ByteArray} {nL : Nat} {own : String} {D : va_G} {cA : Nat → ClassId} {N : Nat} {ad : Nat → Nat} {A : Nat → Prop} {pc : Nat} {ls : Array Slot} {rest st0 : List Value} {lv : List (Nat × Value)} {c : Nat → va_E}
theorem rnx_L_12 (C0 : Cx p s m c0 cc nL RL D cA N ad A) {As : List Value} {mc ms : Nat} {rm : Room} {Qc : Array Value → State → Outcome → State → Prop} {b L : Nat} {xs : Nat → Int32} (M : Met l yL_cell wL_cell rm (va_Pc As (PreX D cA N ad c H.size b L xs)) Qc mc ms (wA N ad H.size)) (hP : va_P D vwCl (wl N ad c) H) (hS : va_S A s.heap H locs) (hX : va_X b L xs s s.heap) (hbl : b < s.heap.size) (hbA : ¬ A b) (hn : As.length = 2) (hcs : rm.cells = mc ∧ rm.slots = ms) (hR : rm.frames + 1 ≤ R.frames ∧ 8 + (2 + 11) + rm.locals ≤ R.locals) (hsz : ls.size = nL) (hst : st0 = As.reverse ++ rest) (hW : (rest.map fun v => v.category).sum ≤ 8) (hdg : decode cc pc = .ok (.invokestatic 12, 3)) (hf : cells + mc ≤ R.cells ∧ slots + ms ≤ R.slots) : va_Run p l e R s m args below meth c0 H locs cells slots mc ms (F0 m pc ls st0) rest (Qc As.toArray) (wA N ad H.size) := va_runS ⟨C0.1, C0.2.1, C0.2.2.1, C0.2.2.2.1, (fun _ h => nomatch h : ∀ w ∈ ([] : List Cond), w.before args s = true)⟩ M ⟨callB_of (Ts := wL_cell) 2 (fun w h => by rw [List.mem_singleton.mp h]; exact wd_code_L_cell C0.2.2.2.2.1 args) (goodIn_sub (fun _ h => h) (by decide +kernel)) rfl hcs.1 hcs.2 (wd_ini_L C0.2.2.2.2.1 args) (wd_ml_L_12 C0.2.2.2.2.1 args) (by decide +kernel) hR, wd_st_L_cell C0.2.2.2.2.1 args⟩ (C0.preX hP hS hX hbl hbA _) rfl hn hsz hst (lv_room hW) hdg hf
end R9
section RSW
variable {p : Program} {l : Launch} {e : Env} {R : Room} {s : State} {m : MethodId} {args : Array Value} {below : List Frame} {meth : Method} {c0 : Code} {H : Heap} {locs : List Loc} {cells slots : Nat} {Q : State → Prop}
variable {cc : ByteArray} {nL : Nat} {own : String} {D : va_G} {cA : Nat → ClassId} {N : Nat} {ad : Nat → Nat} {A : Nat → Prop} {pc : Nat} {ls : Array Slot} {rest st0 : List Value} {lv : List (Nat × Value)} {c : Nat → va_E}
theorem rn_L_66 (C0 : Cx p s m c0 cc nL RL D cA N ad A) {As : List Value} {mc ms : Nat} {rm : Room} {Qc : Array Value → State → Outcome → State → Prop} (M : Met l yL_joined wL_joined rm (va_Pc As (Pre D cA N ad c H.size)) Qc mc ms (wA N ad H.size)) (hP : va_P D vwCl (wl N ad c) H) (hS : va_S A s.heap H locs) (hn : As.length = 3) (hcs : rm.cells = mc ∧ rm.slots = ms) (hR : rm.frames + 1 ≤ R.frames ∧ 8 + (4 + 11) + rm.locals ≤ R.locals) (hsz : ls.size = nL) (hst : st0 = As.reverse ++ rest) (hW : (rest.map fun v => v.category).sum ≤ 8) (hdg : decode cc pc = .ok (.invokestatic 66, 3)) (hf : cells + mc ≤ R.cells ∧ slots + ms ≤ R.slots) : va_Run p l e R s m args below meth c0 H locs cells slots mc ms (F0 m pc ls st0) rest (Qc As.toArray) (wA N ad H.size) := vx_runSW ⟨C0.1, C0.2.1, C0.2.2.1, C0.2.2.2.1, (fun _ h => nomatch h : ∀ w ∈ ([] : List Cond), w.before args s = true)⟩ M (vx_cwSW (Ts := va_wsS RL 66 yL_joined wL_joined) 3 (List.forall_mem_cons.mpr ⟨wd_ml_L_66 C0.2.2.2.2.1 args, List.forall_mem_cons.mpr ⟨wd_st_L_joined C0.2.2.2.2.1 args, List.forall_mem_cons.mpr ⟨wd_ini_L C0.2.2.2.2.1 args, List.forall_mem_cons.mpr ⟨wd_code_L_joined C0.2.2.2.2.1 args, fun _ h => nomatch h⟩⟩⟩⟩ : ∀ w ∈ va_wsS RL 66 yL_joined wL_joined, w.before args s = true) (goodIn_sub (fun _ h => h) (by decide +kernel)) rfl hcs.1 hcs.2 (by decide +kernel) hR) (C0.pre hP hS _) rfl hn hsz hst (lv_room hW) hdg hf
end RSW
