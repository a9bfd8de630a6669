section GRW
variable {p : Program} {l : Launch} {e : Env} {R : Room} {s : State} {m : MethodId} {args : Array Value} {below : List Frame} {meth : Method} {c0 : Code} {H : Heap} {locs : List Loc} {cells slots : Nat} {Q : State → Prop}
variable {cc : ByteArray} {nL : Nat} {own : String} {D : va_G} {cA : Nat → ClassId} {N : Nat} {ad : Nat → Nat} {A : Nat → Prop} {pc : Nat} {ls : Array Slot} {rest st0 : List Value} {lv : List (Nat × Value)} {c : Nat → va_E}
theorem Cx.grow {N' : Nat} {ad' : Nat → Nat} (C0 : Cx p s m c0 cc nL own D cA N ad A) (h : dA A N' ad') : Cx p s m c0 cc nL own D cA N' ad' A := ⟨C0.1, C0.2.1, C0.2.2.1, C0.2.2.2.1, C0.2.2.2.2.1, C0.2.2.2.2.2.1, h, C0.2.2.2.2.2.2.2⟩
theorem Cx.inj (C0 : Cx p s m c0 cc nL own D cA N ad A) : ∀ i j, i < N → j < N → ad i = ad j → i = j := C0.2.2.2.2.2.2.1.1
/-- a new row of ints -/
theorem g_newi (C0 : Cx p s m c0 cc nL own D cA N ad A) (hP : va_P D vwCl (wl N ad c) H) (hS : va_S A s.heap H locs) {n : Nat} (hn : n < 2 ^ 20) (hcells : cells + 1 ≤ R.cells) (hslots : slots + n ≤ R.slots) (hdg : decode cc pc = .ok (.newarray .int, 2))
    (kk : ∀ (q : Nat) (H1 : Heap), Cx p s m c0 cc nL own D cA (N + 1) (va_up ad N q) A → va_P D vwCl (wl (N + 1) (va_up ad N q) (va_up c N (.inl (cA 0, n, .inl (fun _ => nI 0))))) H1 → va_S A s.heap H1 locs → W p l e R s m args below meth c0 H1 locs (cells + 1) (slots + n) Q (F0 m (pc + 2) ls (.ref q :: rest))) : W p l e R s m args below meth c0 H locs cells slots Q (F0 m pc ls (.int (nI n) :: rest)) := by
  refine va_newa (atype := .int) (ty := .int) (N' := n) (a0 := (n, .inl (fun _ => nI 0))) C0.1 C0.2.1 (C0.2.2.2.2.1.2.1 (.arrayClass .int) (List.mem_append_right _ (List.mem_of_getElem? (i := 62) (by decide +kernel : tables_1[62]? = some (.arrayClass .int)))) (by decide +kernel) args) rfl C0.2.2.2.2.1.1 hP (C0.2.2.2.2.2.2.1.D c) hS C0.2.2.2.2.2.2.2 (fun _ => rfl) (nI_pos (by omega)) (nI_clamp (by omega)) (by show n * 4 ≤ 536870912; omega) hcells hslots hdg (fun q cA' H1 hK1 hP1 hD1 hS1 => ?_)
  have h0 : s.vm.findClass ("[" ++ FieldType.int.toString) = some (cA 0) := (C0.2.2.2.2.1.1.2 0 (cA 0, .int) rfl).2
  have h1 : s.vm.findClass ("[" ++ FieldType.int.toString) = some cA' := (hK1.2 2 (cA', .int) rfl).2
  obtain rfl : cA 0 = cA' := Option.some.inj (h0.symm.trans h1)
  rw [wl_push] at hP1 hD1
  exact kk q H1 (C0.grow (dA.of hD1)) hP1 hS1
/-- the new table of hands -/
theorem g_newq (C0 : Cx p s m c0 cc nL RX1 D cA N ad A) (hP : va_P D vwCl (wl N ad c) H) (hS : va_S A s.heap H locs) (hcells : cells + 1 ≤ R.cells) (hslots : slots + 5 ≤ R.slots) (hdg : decode cc pc = .ok (.anewarray 9, 3))
    (kk : ∀ (q : Nat) (H1 : Heap), Cx p s m c0 cc nL RX1 D cA (N + 1) (va_up ad N q) A → va_P D vwCl (wl (N + 1) (va_up ad N q) (va_up c N (.inl (cA 1, 5, .inr (.inr (.inr (.inr (fun _ => none)))))))) H1 → va_S A s.heap H1 locs → W p l e R s m args below meth c0 H1 locs (cells + 1) (slots + 5) Q (F0 m (pc + 3) ls (.ref q :: rest))) : W p l e R s m args below meth c0 H locs cells slots Q (F0 m pc ls (.int (nI 5) :: rest)) := by
  refine va_newq (C := "FairHandful$Hand") (N' := 5) C0.1 C0.2.1 C0.2.2.2.1 (C0.2.2.2.2.1.2.1 (.classLink RX1 9 "FairHandful$Hand") (List.mem_append_right _ (List.mem_of_getElem? (i := 18) (by decide +kernel : tables_1[18]? = some (.classLink RX1 9 "FairHandful$Hand")))) (by decide +kernel) args) C0.2.2.2.2.1.2.2.2.2 C0.2.2.2.2.1.1 hP (C0.2.2.2.2.2.2.1.D c) hS C0.2.2.2.2.2.2.2 (nI_pos (by decide)) (nI_clamp (by decide)) (by decide) hcells hslots hdg (fun q cA' H1 hK1 hP1 hD1 hS1 => ?_)
  obtain ⟨k0, co0, a0, b0, c0', d0⟩ := (C0.2.2.2.2.1.1.2 1 (cA 1, .object "FairHandful$Hand") rfl).2
  obtain ⟨k1, co1, a1, b1, c1', d1⟩ := (hK1.2 2 (cA', .object "FairHandful$Hand") rfl).2
  obtain rfl : cA 1 = cA' := Option.some.inj (d0.symm.trans d1)
  rw [wl_push] at hP1 hD1
  exact kk q H1 (C0.grow (dA.of hD1)) hP1 hS1
abbrev hOb0 : va_E := .inr (0, [.null, .null, .null, .int (nI 0), .int (nI 0), .int (nI 0), .int (nI 0), .int (nI 0), .int (nI 0)])
/-- a new hand, not yet begun -/
theorem g_newh (C0 : Cx p s m c0 cc nL RX1 D cA N ad A) (hP : va_P D vwCl (wl N ad c) H) (hS : va_S A s.heap H locs) (hcells : cells + 1 ≤ R.cells) (hslots : slots + 9 ≤ R.slots) (hdg : decode cc pc = .ok (.new 9, 3))
    (kk : ∀ (q : Nat) (H1 : Heap), Cx p s m c0 cc nL RX1 D cA (N + 1) (va_up ad N q) A → va_P D vwCl (wl (N + 1) (va_up ad N q) (va_up c N hOb0)) H1 → va_S A s.heap H1 locs → W p l e R s m args below meth c0 H1 locs (cells + 1) (slots + 9) Q (F0 m (pc + 3) ls (.ref q :: rest))) : W p l e R s m args below meth c0 H locs cells slots Q (F0 m pc ls rest) := by
  refine va_new (ci := 0) (fs := [.null, .null, .null, .int (nI 0), .int (nI 0), .int (nI 0), .int (nI 0), .int (nI 0), .int (nI 0)]) (C := RX0) (T := TX0) (N := 9) C0.1 C0.2.1 (layX0 C0.2.2.2.2.1 args) (fun _ h => h) tyX0 tyX0_ok C0.2.2.2.1 (C0.2.2.2.2.1.2.1 (.classLink RX1 9 RX0) (List.mem_append_right _ (List.mem_of_getElem? (i := 18) (by decide +kernel : tables_1[18]? = some (.classLink RX1 9 RX0)))) (by decide +kernel) args) (C0.2.2.2.2.1.2.1 (.instantiable RX0 9) (List.mem_append_right _ (List.mem_of_getElem? (i := 20) (by decide +kernel : tables_1[20]? = some (.instantiable RX0 9)))) (by decide +kernel) args) (wd_ini_X0 C0.2.2.2.2.1 args) C0.2.2.2.2.1.1 hP (C0.2.2.2.2.2.2.1.D c) hS C0.2.2.2.2.2.2.2 rfl (fun j hj => by rcases (show j = 0 ∨ j = 1 ∨ j = 2 ∨ j = 3 ∨ j = 4 ∨ j = 5 ∨ j = 6 ∨ j = 7 ∨ j = 8 by omega) with rfl | rfl | rfl | rfl | rfl | rfl | rfl | rfl | rfl <;> rfl) hcells hslots hdg (fun q H1 hP1 hD1 hS1 => ?_)
  rw [wl_push] at hP1 hD1
  exact kk q H1 (C0.grow (dA.of hD1)) hP1 hS1
/-- a hand into the table -/
theorem a_qst (C0 : Cx p s m c0 cc nL own D cA N ad A) (hP : va_P D vwCl (wl N ad c) H) (hS : va_S A s.heap H locs) {r k j n : Nat} (hr : r < N) (hk : k < N) {f : Nat → Option Nat} {vs : List Value} {a b : Nat} (ha : ad r = a) (hb : ad k = b) (hc : c r = .inl (cA 1, n, .inr (.inr (.inr (.inr f))))) (hv : c k = .inr (0, vs)) (hn : n < 2 ^ 31) (hj : j < n) (hdg : decode cc pc = .ok (.aastore, 1))
    (kk : ∀ (H1 : Heap) (locs1 : List Loc), va_P D vwCl (wl N ad (va_up c r (.inl (cA 1, n, .inr (.inr (.inr (.inr (va_up f j (some b))))))))) H1 → va_S A s.heap H1 locs1 → W p l e R s m args below meth c0 H1 locs1 cells slots Q (F0 m (pc + 1) ls rest)) : W p l e R s m args below meth c0 H locs cells slots Q (F0 m pc ls (.ref b :: .int (nI j) :: .ref a :: rest)) := by
  subst ha hb
  exact va_astq (r := (RX0, TX0, 9)) C0.1 C0.2.1 C0.2.2.2.2.1.1 hP (C0.2.2.2.2.2.2.1.D c) hS r 1 k 0 (wl_get hr hc) rfl (wl_get hk hv) rfl (vp_in_nI hj hn) hdg (fun H1 locs1 h1 _ h3 => kk H1 locs1 (by rw [wl_set, nI_clamp (by omega)] at h1; exact h1) h3)
theorem pF_X0_9 (C0 : Cx p s m c0 cc nL RX0 D cA N ad A) (hin : meth.name = "<init>") (hP : va_P D vwCl (wl N ad c) H) (hS : va_S A s.heap H locs) {r a : Nat} (hr : r < N) (ha : ad r = a) {fs : List Value} {q : Nat} (hc : c r = .inr (0, fs)) (hlen : 0 < fs.length) (hdg : decode cc pc = .ok (.putfield 9, 3)) (kk : ∀ (H1 : Heap) (locs1 : List Loc), va_P D vwCl (wl N ad (va_up c r (.inr (0, fs.set 0 (.ref q))))) H1 → va_S A s.heap H1 locs1 → W p l e R s m args below meth c0 H1 locs1 cells slots Q (F0 m (pc + 3) ls rest)) : W p l e R s m args below meth c0 H locs cells slots Q (F0 m pc ls (.ref q :: .ref a :: rest)) := by
  subst ha
  exact va_putF (ref := RX0) (D := D) (ci := 0) (ty := (.array .int)) (v := .ref q) (C := RX0) (T := TX0) (N := 9) C0.1 C0.2.1 (layX0 C0.2.2.2.2.1 args) (fun _ h => h) tyX0 tyX0_ok nmX0 C0.2.2.2.1 C0.2.2.2.2.1.1 hP (C0.2.2.2.2.2.2.1.D c) hS r (wl_get hr hc) rfl 0 (by decide) (wd_fl_X0_9 C0.2.2.2.2.1 args) (fun _ h9 => h9) rfl hin rfl (by decide +kernel) rfl rfl hlen hdg (fun H1 locs1 h1 _ h3 => kk H1 locs1 (by rw [wl_set] at h1; exact h1) h3)
theorem pF_X0_15 (C0 : Cx p s m c0 cc nL RX0 D cA N ad A) (hin : meth.name = "<init>") (hP : va_P D vwCl (wl N ad c) H) (hS : va_S A s.heap H locs) {r a : Nat} (hr : r < N) (ha : ad r = a) {fs : List Value} {q : Nat} (hc : c r = .inr (0, fs)) (hlen : 1 < fs.length) (hdg : decode cc pc = .ok (.putfield 15, 3)) (kk : ∀ (H1 : Heap) (locs1 : List Loc), va_P D vwCl (wl N ad (va_up c r (.inr (0, fs.set 1 (.ref q))))) H1 → va_S A s.heap H1 locs1 → W p l e R s m args below meth c0 H1 locs1 cells slots Q (F0 m (pc + 3) ls rest)) : W p l e R s m args below meth c0 H locs cells slots Q (F0 m pc ls (.ref q :: .ref a :: rest)) := by
  subst ha
  exact va_putF (ref := RX0) (D := D) (ci := 0) (ty := (.array .int)) (v := .ref q) (C := RX0) (T := TX0) (N := 9) C0.1 C0.2.1 (layX0 C0.2.2.2.2.1 args) (fun _ h => h) tyX0 tyX0_ok nmX0 C0.2.2.2.1 C0.2.2.2.2.1.1 hP (C0.2.2.2.2.2.2.1.D c) hS r (wl_get hr hc) rfl 1 (by decide) (wd_fl_X0_15 C0.2.2.2.2.1 args) (fun _ h9 => h9) rfl hin rfl (by decide +kernel) rfl rfl hlen hdg (fun H1 locs1 h1 _ h3 => kk H1 locs1 (by rw [wl_set] at h1; exact h1) h3)
theorem pF_X0_18 (C0 : Cx p s m c0 cc nL RX0 D cA N ad A) (hin : meth.name = "<init>") (hP : va_P D vwCl (wl N ad c) H) (hS : va_S A s.heap H locs) {r a : Nat} (hr : r < N) (ha : ad r = a) {fs : List Value} {q : Nat} (hc : c r = .inr (0, fs)) (hlen : 2 < fs.length) (hdg : decode cc pc = .ok (.putfield 18, 3)) (kk : ∀ (H1 : Heap) (locs1 : List Loc), va_P D vwCl (wl N ad (va_up c r (.inr (0, fs.set 2 (.ref q))))) H1 → va_S A s.heap H1 locs1 → W p l e R s m args below meth c0 H1 locs1 cells slots Q (F0 m (pc + 3) ls rest)) : W p l e R s m args below meth c0 H locs cells slots Q (F0 m pc ls (.ref q :: .ref a :: rest)) := by
  subst ha
  exact va_putF (ref := RX0) (D := D) (ci := 0) (ty := (.array .int)) (v := .ref q) (C := RX0) (T := TX0) (N := 9) C0.1 C0.2.1 (layX0 C0.2.2.2.2.1 args) (fun _ h => h) tyX0 tyX0_ok nmX0 C0.2.2.2.1 C0.2.2.2.2.1.1 hP (C0.2.2.2.2.2.2.1.D c) hS r (wl_get hr hc) rfl 2 (by decide) (wd_fl_X0_18 C0.2.2.2.2.1 args) (fun _ h9 => h9) rfl hin rfl (by decide +kernel) rfl rfl hlen hdg (fun H1 locs1 h1 _ h3 => kk H1 locs1 (by rw [wl_set] at h1; exact h1) h3)
theorem pfa_X0_21 (C0 : Cx p s m c0 cc nL RX0 D cA N ad A) (hP : va_P D vwCl (wl N ad c) H) (hS : va_S A s.heap H locs) {r a : Nat} (hr : r < N) (ha : ad r = a) {fs : List Value} {x : Int32} (hc : c r = .inr (0, fs)) (hlen : 3 < fs.length) (hdg : decode cc pc = .ok (.putfield 21, 3)) (kk : ∀ (H1 : Heap) (locs1 : List Loc), va_P D vwCl (wl N ad (va_up c r (.inr (0, fs.set 3 (.int x))))) H1 → va_S A s.heap H1 locs1 → W p l e R s m args below meth c0 H1 locs1 cells slots Q (F0 m (pc + 3) ls rest)) : W p l e R s m args below meth c0 H locs cells slots Q (F0 m pc ls (.int x :: .ref a :: rest)) := by
  subst ha
  exact pf_X0_21 C0 hP hS hr hc hlen hdg kk
theorem pfa_X0_25 (C0 : Cx p s m c0 cc nL RX0 D cA N ad A) (hP : va_P D vwCl (wl N ad c) H) (hS : va_S A s.heap H locs) {r a : Nat} (hr : r < N) (ha : ad r = a) {fs : List Value} {x : Int32} (hc : c r = .inr (0, fs)) (hlen : 4 < fs.length) (hdg : decode cc pc = .ok (.putfield 25, 3)) (kk : ∀ (H1 : Heap) (locs1 : List Loc), va_P D vwCl (wl N ad (va_up c r (.inr (0, fs.set 4 (.int x))))) H1 → va_S A s.heap H1 locs1 → W p l e R s m args below meth c0 H1 locs1 cells slots Q (F0 m (pc + 3) ls rest)) : W p l e R s m args below meth c0 H locs cells slots Q (F0 m pc ls (.int x :: .ref a :: rest)) := by
  subst ha
  exact pf_X0_25 C0 hP hS hr hc hlen hdg kk
theorem pfa_X0_28 (C0 : Cx p s m c0 cc nL RX0 D cA N ad A) (hP : va_P D vwCl (wl N ad c) H) (hS : va_S A s.heap H locs) {r a : Nat} (hr : r < N) (ha : ad r = a) {fs : List Value} {x : Int32} (hc : c r = .inr (0, fs)) (hlen : 5 < fs.length) (hdg : decode cc pc = .ok (.putfield 28, 3)) (kk : ∀ (H1 : Heap) (locs1 : List Loc), va_P D vwCl (wl N ad (va_up c r (.inr (0, fs.set 5 (.int x))))) H1 → va_S A s.heap H1 locs1 → W p l e R s m args below meth c0 H1 locs1 cells slots Q (F0 m (pc + 3) ls rest)) : W p l e R s m args below meth c0 H locs cells slots Q (F0 m pc ls (.int x :: .ref a :: rest)) := by
  subst ha
  exact pf_X0_28 C0 hP hS hr hc hlen hdg kk
theorem pF_X1_11 (C0 : Cx p s m c0 cc nL RX1 D cA N ad A) (hin : meth.name = "<init>") (hP : va_P D vwCl (wl N ad c) H) (hS : va_S A s.heap H locs) {r a : Nat} (hr : r < N) (ha : ad r = a) {fs : List Value} {q : Nat} (hc : c r = .inr (1, fs)) (hlen : 0 < fs.length) (hdg : decode cc pc = .ok (.putfield 11, 3)) (kk : ∀ (H1 : Heap) (locs1 : List Loc), va_P D vwCl (wl N ad (va_up c r (.inr (1, fs.set 0 (.ref q))))) H1 → va_S A s.heap H1 locs1 → W p l e R s m args below meth c0 H1 locs1 cells slots Q (F0 m (pc + 3) ls rest)) : W p l e R s m args below meth c0 H locs cells slots Q (F0 m pc ls (.ref q :: .ref a :: rest)) := by
  subst ha
  exact va_putF (ref := RX1) (D := D) (ci := 1) (ty := (.array (.object "FairHandful$Hand"))) (v := .ref q) (C := RX1) (T := TX1) (N := 2) C0.1 C0.2.1 (layX1 C0.2.2.2.2.1 args) (fun _ h => h) tyX1 tyX1_ok nmX1 C0.2.2.2.1 C0.2.2.2.2.1.1 hP (C0.2.2.2.2.2.2.1.D c) hS r (wl_get hr hc) rfl 0 (by decide) (wd_fl_X1_11 C0.2.2.2.2.1 args) (fun _ h9 => h9) rfl hin rfl (by decide +kernel) rfl rfl hlen hdg (fun H1 locs1 h1 _ h3 => kk H1 locs1 (by rw [wl_set] at h1; exact h1) h3)
theorem pF_X1_18 (C0 : Cx p s m c0 cc nL RX1 D cA N ad A) (hin : meth.name = "<init>") (hP : va_P D vwCl (wl N ad c) H) (hS : va_S A s.heap H locs) {r a : Nat} (hr : r < N) (ha : ad r = a) {fs : List Value} {q : Nat} (hc : c r = .inr (1, fs)) (hlen : 1 < fs.length) (hdg : decode cc pc = .ok (.putfield 18, 3)) (kk : ∀ (H1 : Heap) (locs1 : List Loc), va_P D vwCl (wl N ad (va_up c r (.inr (1, fs.set 1 (.ref q))))) H1 → va_S A s.heap H1 locs1 → W p l e R s m args below meth c0 H1 locs1 cells slots Q (F0 m (pc + 3) ls rest)) : W p l e R s m args below meth c0 H locs cells slots Q (F0 m pc ls (.ref q :: .ref a :: rest)) := by
  subst ha
  exact va_putF (ref := RX1) (D := D) (ci := 1) (ty := (.object "FairHandful$Hand")) (v := .ref q) (C := RX1) (T := TX1) (N := 2) C0.1 C0.2.1 (layX1 C0.2.2.2.2.1 args) (fun _ h => h) tyX1 tyX1_ok nmX1 C0.2.2.2.1 C0.2.2.2.2.1.1 hP (C0.2.2.2.2.2.2.1.D c) hS r (wl_get hr hc) rfl 1 (by decide) (wd_fl_X1_18 C0.2.2.2.2.1 args) (fun _ h9 => h9) rfl hin rfl (by decide +kernel) rfl rfl hlen hdg (fun H1 locs1 h1 _ h3 => kk H1 locs1 (by rw [wl_set] at h1; exact h1) h3)
/-! contracts of methods that make cells which stay: N' cells behind -/
def Gv (l : Launch) (y : MethodName) (ws : List Cond) (rm : Room) (av : List Value) (D : va_G) (cA : Nat → ClassId) (N : Nat) (ad : Nat → Nat) (c : Nat → va_E) (N' mc ms : Nat) (post : (Nat → Nat) × (Nat → va_E) → Prop) : Prop :=
  ∀ sz, Met l y ws rm (va_Pc av (Pre D cA N ad c sz)) (va_Qv post (fun u t => va_P D vwCl (wl N' u.1 u.2) t.heap ∧ dA (wA N ad sz) N' u.1) (wA N ad sz)) mc ms (wA N ad sz)
def Gi (l : Launch) (y : MethodName) (ws : List Cond) (rm : Room) (av : List Value) (D : va_G) (cA : Nat → ClassId) (N : Nat) (ad : Nat → Nat) (c : Nat → va_E) (N' mc ms : Nat) (post : Int32 → (Nat → Nat) × (Nat → va_E) → Prop) : Prop :=
  ∀ sz, Met l y ws rm (va_Pc av (Pre D cA N ad c sz)) (va_Qi post (fun u t => va_P D vwCl (wl N' u.1 u.2) t.heap ∧ dA (wA N ad sz) N' u.1) (wA N ad sz)) mc ms (wA N ad sz)
theorem e_gv {post : (Nat → Nat) × (Nat → va_E) → Prop} {mc ms : Nat} (C0 : Cx p s m c0 cc nL own D cA N ad A) (hr : meth.sig.returnType = none) (hlk : meth.locks = false) (hP : va_P D vwCl (wl N ad c) H) (hS : va_S A s.heap H locs) (hdg : decode cc pc = .ok (.return_, 1)) (hmc : cells ≤ mc) (hms : slots ≤ ms) (hp : post (ad, c)) :
    W p l e R s m args below meth c0 H locs cells slots (MQ below (va_Qv post (fun u t => va_P D vwCl (wl N u.1 u.2) t.heap ∧ dA A N u.1) A) args s mc ms A) (F0 m pc ls []) := by
  refine W.widen hmc hms ?_
  exact W.vret C0.1 C0.2.1 hr (fun t ht hW => ⟨⟨(ad, c), rfl, hp, by show va_P D vwCl (wl N ad c) t.heap; rw [ht]; exact hP, C0.2.2.2.2.2.2.1⟩, hS.F ht⟩) hS.2.2 hdg hlk
theorem e_gi {post : Int32 → (Nat → Nat) × (Nat → va_E) → Prop} {mc ms : Nat} {v : Int32} (C0 : Cx p s m c0 cc nL own D cA N ad A) (hr : meth.sig.returnType = some .int) (hlk : meth.locks = false) (hP : va_P D vwCl (wl N ad c) H) (hS : va_S A s.heap H locs) (hdg : decode cc pc = .ok (.ireturn, 1)) (hmc : cells ≤ mc) (hms : slots ≤ ms) (hp : post v (ad, c)) :
    W p l e R s m args below meth c0 H locs cells slots (MQ below (va_Qi post (fun u t => va_P D vwCl (wl N u.1 u.2) t.heap ∧ dA A N u.1) A) args s mc ms A) (F0 m pc ls [.int v]) := by
  refine W.widen hmc hms ?_
  exact W.iret C0.1 C0.2.1 hr (fun t ht hW => ⟨⟨v, (ad, c), rfl, hp, by show va_P D vwCl (wl N ad c) t.heap; rw [ht]; exact hP, C0.2.2.2.2.2.2.1⟩, hS.F ht⟩) hS.2.2 hdg hlk
theorem k_gv {a : Array Value} {N' mc ms : Nat} {post : (Nat → Nat) × (Nat → va_E) → Prop} (hr : va_Run p l e R s m args below meth c0 H locs cells slots mc ms (F0 m pc ls st0) rest (va_Qv post (fun u t => va_P D vwCl (wl N' u.1 u.2) t.heap ∧ dA (wA N ad H.size) N' u.1) (wA N ad H.size) a) (wA N ad H.size)) (C0 : Cx p s m c0 cc nL own D cA N ad A) (hP : va_P D vwCl (wl N ad c) H) (hS : va_S A s.heap H locs)
    (kk : ∀ (ad' : Nat → Nat) (c' : Nat → va_E) (H1 : Heap) (locs1 : List Loc), post (ad', c') → Cx p s m c0 cc nL own D cA N' ad' A → va_P D vwCl (wl N' ad' c') H1 → va_S A s.heap H1 locs1 → W p l e R s m args below meth c0 H1 locs1 (cells + mc) (slots + ms) Q (F0 m (pc + 3) ls rest)) : W p l e R s m args below meth c0 H locs cells slots Q (F0 m pc ls st0) :=
  va_callv hr hS (fun q _ h => C0.sub hP hS q h) (C0.sub hP hS) (fun u t H1 locs1 ht _ hw hB _ _ hS1 => kk u.1 u.2 H1 locs1 hw (C0.grow (hB.2.weaken (fun i _ h => C0.sub hP hS _ h))) (by rw [← ht]; exact hB.1) hS1)
theorem k_gi {a : Array Value} {N' mc ms : Nat} {post : Int32 → (Nat → Nat) × (Nat → va_E) → Prop} (hr : va_Run p l e R s m args below meth c0 H locs cells slots mc ms (F0 m pc ls st0) rest (va_Qi post (fun u t => va_P D vwCl (wl N' u.1 u.2) t.heap ∧ dA (wA N ad H.size) N' u.1) (wA N ad H.size) a) (wA N ad H.size)) (C0 : Cx p s m c0 cc nL own D cA N ad A) (hP : va_P D vwCl (wl N ad c) H) (hS : va_S A s.heap H locs)
    (kk : ∀ (v : Int32) (ad' : Nat → Nat) (c' : Nat → va_E) (H1 : Heap) (locs1 : List Loc), post v (ad', c') → Cx p s m c0 cc nL own D cA N' ad' A → va_P D vwCl (wl N' ad' c') H1 → va_S A s.heap H1 locs1 → W p l e R s m args below meth c0 H1 locs1 (cells + mc) (slots + ms) Q (F0 m (pc + 3) ls (.int v :: rest))) : W p l e R s m args below meth c0 H locs cells slots Q (F0 m pc ls st0) :=
  va_calli hr hS (fun q _ h => C0.sub hP hS q h) (C0.sub hP hS) (fun v u t H1 locs1 ht _ hw hB _ _ hS1 => kk v u.1 u.2 H1 locs1 hw (C0.grow (hB.2.weaken (fun i _ h => C0.sub hP hS _ h))) (by rw [← ht]; exact hB.1) hS1)
/-- Object's constructor -/
theorem g_obj {ix : Nat} (C0 : Cx p s m c0 cc nL own D cA N ad A) (hl : lv_has ls nL lv) (hml : (Cond.methodLink own ix objectInit).before args s = true) {a : Nat} (hdg : decode cc pc = .ok (.invokespecial ix, 3)) (hRf : 1 ≤ R.frames) (hRl : (rest.map fun v => v.category).sum + 12 ≤ R.locals) (kk : W p l e R s m args below meth c0 H locs cells slots Q (F0 m (pc + 3) ls rest)) : W p l e R s m args below meth c0 H locs cells slots Q (F0 m pc ls (.ref a :: rest)) :=
  W.objInit C0.1 C0.2.1 C0.2.2.2.1 hml (C0.2.2.2.2.1.2.1 (.instanceMethod objectInit) (List.mem_append_right _ (List.mem_of_getElem? (i := 16) (by decide +kernel : tables_1[16]? = some (.instanceMethod objectInit)))) (by decide +kernel) args) (C0.2.2.2.2.1.2.1 (.code objectInit ⟨#[0xb1]⟩ 1 none) (List.mem_append_right _ (List.mem_of_getElem? (i := 17) (by decide +kernel : tables_1[17]? = some (.code objectInit ⟨#[0xb1]⟩ 1 none)))) (by decide +kernel) args) rfl (hl.1.trans C0.2.2.1.symm) rfl hdg hRf (by show 2 * 0 + _ + 12 ≤ _; omega) kk
theorem ml_obj {own : String} {ix i : Nat} (h : Ev D cA s) (hm : tables_1[i]? = some (.methodLink own ix objectInit)) : (Cond.methodLink own ix objectInit).before args s = true := h.2.1 _ (List.mem_append_right _ (List.mem_of_getElem? hm)) rfl args
end GRW
section EXT
variable {ad ad' : Nat → Nat} {cA : Nat → ClassId} {c c' : Nat → va_E} {n b R Y L S D K : Nat} {st : Nat → Nat → Int32}
theorem HandAt.ext (h : HandAt ad cA c b R Y L S D K st) (h1 : ad' (b + 1) = ad (b + 1)) (h2 : ad' (b + 2) = ad (b + 2)) (h3 : ad' (b + 3) = ad (b + 3)) : HandAt ad' cA c b R Y L S D K st := by
  refine ⟨?_, h.2⟩
  rw [h.1]
  simp only [hOb, h1, h2, h3]
theorem tbl_ext (h : ∀ r, r < 6 + 4 * n → ad' r = ad r) : tbl ad' n = tbl ad n := by
  funext i
  unfold tbl
  split
  · rw [h _ (by omega)]
  · rfl
theorem FH.ext (h : FH ad cA c n) (he : ∀ r, r < 6 + 4 * n → ad' r = ad r) : FH ad' cA c n := by
  refine ⟨?_, ?_, h.2.2⟩
  · rw [h.1, he 1 (by omega), he 2 (by omega)]
  · rw [h.2.1, tbl_ext he]
theorem tbl_0 : tbl ad 0 = fun _ => none := by funext i; simp [tbl]
theorem tbl_up : va_up (tbl ad n) n (some (ad (6 + 4 * n))) = tbl ad (n + 1) := by
  funext i
  by_cases h : i = n
  · subst h; simp [tbl, va_up]
  · rw [va_up_ne _ _ h]
    unfold tbl
    by_cases h1 : i < n
    · rw [if_pos h1, if_pos (by omega)]
    · rw [if_neg h1, if_neg (by omega)]
end EXT
/-! the reference's object: role 6, its rows now, ahead, row: 7, 8, 9 -/
theorem up_at' {f : Nat → Nat} {r q : Nat} : va_up f r q r = q := by simp [va_up]
set_option maxHeartbeats 1000000 in
set_option maxRecDepth 10000 in
theorem m_X0_init (l : Launch) (D : va_G) (cA : Nat → ClassId) (N : Nat) (ad : Nat → Nat) (c : Nat → va_E) (b R Y L : Nat) (hbN : N = b + 1) (hc : c b = hOb0) : Gv l yX0_init wX0_init { frames := 1, cells := 3, slots := 24, locals := 12 } [.ref (ad b), .int (nI R), .int (nI Y), .int (nI L)] D cA N ad c (N + 3) 3 24 (fun u => (∀ r, r < N → u.1 r = ad r) ∧ (∀ r, r < b → u.2 r = c r) ∧ HandAt u.1 cA u.2 b R Y L 0 0 0 (fun _ _ => nI 0)) := by
  intro sz9
  refine bd_of (cc := cX0_init) (maxL := 4) (ret := none) (by decide) rfl (Nat.le_of_ble_eq_true rfl) ?_
  intro p e s m below meth c0 C0 hr hlk hnm hP hS hsz ls hl
  subst hsz
  subst hbN
  have hx := C0.1
  have hb := C0.2.1
  have hin : meth.name = "<init>" := hnm
  have hl : lv_has ls 4 [(0, .ref (ad b)), (1, .int (nI R)), (2, .int (nI Y)), (3, .int (nI L))] := hl
  refine lv_aload_n hx hb dX0_init_0 rfl (lv_at hl 0 rfl) ?_
  refine g_obj C0 hl (ml_obj (i := 24) C0.2.2.2.2.1 (by decide +kernel)) dX0_init_1 (Nat.le_refl 1) (Nat.le_refl 12) ?_
  refine lv_aload_n hx hb dX0_init_4 rfl (lv_at hl 0 rfl) ?_
  refine lv_bipush (v := nI 8) hx hb dX0_init_5 rfl ?_
  refine g_newi C0 hP hS (by decide) (Nat.le_of_ble_eq_true rfl) (Nat.le_of_ble_eq_true rfl) dX0_init_7 (fun q1 H C0 hP hS => ?_)
  refine pF_X0_9 (r := b) C0 hin hP hS (by omega) (va_up_ne _ _ (by omega)) ((va_up_ne _ _ (by omega)).trans hc) (Nat.le_of_ble_eq_true rfl) dX0_init_9 (fun H locs hP hS => ?_)
  refine lv_aload_n hx hb dX0_init_12 rfl (lv_at hl 0 rfl) ?_
  refine lv_bipush (v := nI 8) hx hb dX0_init_13 rfl ?_
  refine g_newi C0 hP hS (by decide) (Nat.le_of_ble_eq_true rfl) (Nat.le_of_ble_eq_true rfl) dX0_init_15 (fun q2 H C0 hP hS => ?_)
  refine pF_X0_15 (r := b) C0 hin hP hS (by omega) ((va_up_ne _ _ (by omega)).trans (va_up_ne _ _ (by omega))) ((va_up_ne _ _ (by omega)).trans up_at) (Nat.le_of_ble_eq_true rfl) dX0_init_17 (fun H locs hP hS => ?_)
  refine lv_aload_n hx hb dX0_init_20 rfl (lv_at hl 0 rfl) ?_
  refine lv_bipush (v := nI 8) hx hb dX0_init_21 rfl ?_
  refine g_newi C0 hP hS (by decide) (Nat.le_of_ble_eq_true rfl) (Nat.le_of_ble_eq_true rfl) dX0_init_23 (fun q3 H C0 hP hS => ?_)
  refine pF_X0_18 (r := b) C0 hin hP hS (by omega) ((va_up_ne _ _ (by omega)).trans ((va_up_ne _ _ (by omega)).trans (va_up_ne _ _ (by omega)))) ((va_up_ne _ _ (by omega)).trans up_at) (Nat.le_of_ble_eq_true rfl) dX0_init_25 (fun H locs hP hS => ?_)
  refine lv_aload_n hx hb dX0_init_28 rfl (lv_at hl 0 rfl) ?_
  refine lv_iload_n hx hb dX0_init_29 rfl (lv_at hl 1 rfl) ?_
  refine pfa_X0_21 (r := b) C0 hP hS (by omega) ((va_up_ne _ _ (by omega)).trans ((va_up_ne _ _ (by omega)).trans (va_up_ne _ _ (by omega)))) up_at (Nat.le_of_ble_eq_true rfl) dX0_init_30 (fun H locs hP hS => ?_)
  refine lv_aload_n hx hb dX0_init_33 rfl (lv_at hl 0 rfl) ?_
  refine lv_iload_n hx hb dX0_init_34 rfl (lv_at hl 2 rfl) ?_
  refine pfa_X0_25 (r := b) C0 hP hS (by omega) ((va_up_ne _ _ (by omega)).trans ((va_up_ne _ _ (by omega)).trans (va_up_ne _ _ (by omega)))) up_at (Nat.le_of_ble_eq_true rfl) dX0_init_35 (fun H locs hP hS => ?_)
  refine lv_aload_n hx hb dX0_init_38 rfl (lv_at hl 0 rfl) ?_
  refine lv_iload_n hx hb dX0_init_39 rfl (lv_at hl 3 rfl) ?_
  refine pfa_X0_28 (r := b) C0 hP hS (by omega) ((va_up_ne _ _ (by omega)).trans ((va_up_ne _ _ (by omega)).trans (va_up_ne _ _ (by omega)))) up_at (Nat.le_of_ble_eq_true rfl) dX0_init_40 (fun H locs hP hS => ?_)
  refine e_gv C0 hr hlk hP hS dX0_init_43 (Nat.le_of_ble_eq_true rfl) (Nat.le_of_ble_eq_true rfl) ?_
  refine ⟨fun r hr => ?_, fun r hr => ?_, ?_, ?_, ?_, ?_⟩
  · show va_up _ _ _ r = ad r
    rw [va_up_ne _ _ (by omega), va_up_ne _ _ (by omega), va_up_ne _ _ (by omega)]
  · show va_up _ _ _ r = c r
    rw [va_up_ne _ _ (by omega), va_up_ne _ _ (by omega), va_up_ne _ _ (by omega), va_up_ne _ _ (by omega), va_up_ne _ _ (by omega), va_up_ne _ _ (by omega), va_up_ne _ _ (by omega), va_up_ne _ _ (by omega), va_up_ne _ _ (by omega)]
  · show va_up _ _ _ b = _
    rw [up_at]
    simp [hOb, va_up]
  · simp [va_up]
  · simp [va_up]
  · simp [va_up]
set_option maxHeartbeats 1000000 in
set_option maxRecDepth 10000 in
theorem m_X1_init (l : Launch) (D : va_G) (cA : Nat → ClassId) (N : Nat) (ad : Nat → Nat) (c : Nat → va_E) (hbN : N = 1) (hc : c 0 = .inr (1, [.null, .null])) : Gv l yX1_init wX1_init { frames := 2, cells := 5, slots := 38, locals := 35 } [.ref (ad 0)] D cA N ad c 6 5 38 (fun u => u.1 0 = ad 0 ∧ FH u.1 cA u.2 0 ∧ HandAt u.1 cA u.2 2 1 0 0 0 0 0 (fun _ _ => nI 0)) := by
  intro sz9
  refine bd_of (cc := cX1_init) (maxL := 1) (ret := none) (by decide) rfl (Nat.le_of_ble_eq_true rfl) ?_
  intro p e s m below meth c0 C0 hr hlk hnm hP hS hsz ls hl
  subst hsz
  subst hbN
  have hx := C0.1
  have hb := C0.2.1
  have hin : meth.name = "<init>" := hnm
  have hl : lv_has ls 1 [(0, .ref (ad 0))] := hl
  refine lv_aload_n hx hb dX1_init_0 rfl (lv_at hl 0 rfl) ?_
  refine g_obj C0 hl (ml_obj (i := 15) C0.2.2.2.2.1 (by decide +kernel)) dX1_init_1 (Nat.le_of_ble_eq_true rfl) (Nat.le_of_ble_eq_true rfl) ?_
  refine lv_aload_n hx hb dX1_init_4 rfl (lv_at hl 0 rfl) ?_
  refine lv_iconst (v := nI 5) hx hb dX1_init_5 rfl ?_
  refine g_newq C0 hP hS (Nat.le_of_ble_eq_true rfl) (Nat.le_of_ble_eq_true rfl) dX1_init_6 (fun q1 H C0 hP hS => ?_)
  refine pF_X1_11 (r := 0) C0 hin hP hS (by omega) (va_up_ne _ _ (by omega)) ((va_up_ne _ _ (by omega)).trans hc) (Nat.le_of_ble_eq_true rfl) dX1_init_9 (fun H locs hP hS => ?_)
  refine lv_aload_n hx hb dX1_init_12 rfl (lv_at hl 0 rfl) ?_
  refine g_newh C0 hP hS (Nat.le_of_ble_eq_true rfl) (Nat.le_of_ble_eq_true rfl) dX1_init_13 (fun q2 H C0 hP hS => ?_)
  refine lv_dup hx hb dX1_init_16 rfl ?_
  refine lv_iconst (v := nI 1) hx hb dX1_init_17 rfl ?_
  refine lv_iconst (v := nI 0) hx hb dX1_init_18 rfl ?_
  refine lv_iconst (v := nI 0) hx hb dX1_init_19 rfl ?_
  have had : va_up (va_up ad 1 q1) 2 q2 2 = q2 := up_at'
  have hst : (Value.ref q2) = .ref (va_up (va_up ad 1 q1) 2 q2 2) := by rw [had]
  refine k_gv (rn_X1_15 (As := [.int (nI 1), .int (nI 0), .int (nI 0)]) (rest := [.ref q2, .ref (ad 0)]) (r := 2) C0 (m_X0_init l D cA _ _ _ 2 1 0 0 rfl up_at _) hP hS rfl ⟨rfl, rfl⟩ ⟨by decide, by decide⟩ hl.1 (by rw [← hst]; rfl) (Nat.le_of_ble_eq_true rfl) dX1_init_20 ⟨Nat.le_of_ble_eq_true rfl, Nat.le_of_ble_eq_true rfl⟩) C0 hP hS (fun ad' c' H locs hp C0 hP hS => ?_)
  obtain ⟨h1, h2, h3⟩ := hp
  dsimp only at h1 h2 h3
  have e0 : ad' 0 = ad 0 := by rw [h1 0 (by omega), va_up_ne _ _ (by omega), va_up_ne _ _ (by omega)]
  have e1 : ad' 1 = q1 := by rw [h1 1 (by omega), va_up_ne _ _ (by omega)]; exact up_at'
  have e2 : ad' 2 = q2 := by rw [h1 2 (by omega)]; exact up_at'
  refine pF_X1_18 (r := 0) C0 hin hP hS (by omega) e0 ((h2 0 (by omega)).trans ((va_up_ne _ _ (by omega)).trans up_at)) (Nat.le_of_ble_eq_true rfl) dX1_init_23 (fun H locs hP hS => ?_)
  refine e_gv C0 hr hlk hP hS dX1_init_26 (Nat.le_of_ble_eq_true rfl) (Nat.le_of_ble_eq_true rfl) ?_
  refine ⟨e0, ⟨?_, ?_, Nat.zero_le _⟩, ?_⟩
  · dsimp only
    rw [up_at, e1, e2]
    rfl
  · dsimp only
    rw [va_up_ne _ _ (by omega), h2 1 (by omega), va_up_ne _ _ (by omega), va_up_ne _ _ (by omega), up_at, tbl_0]
  · exact h3.other (by omega)
set_option maxHeartbeats 1000000 in
set_option maxRecDepth 10000 in
theorem m_X1_addHand (l : Launch) (D : va_G) (cA : Nat → ClassId) (N : Nat) (ad : Nat → Nat) (c : Nat → va_E) (n R Y L : Nat) (hN : N = 6 + 4 * n) (hF : FH ad cA c n) (hn : n < 5) (hR0 : 1 ≤ R) (hR : R ≤ 8) (hY : Y ≤ 1) (hL : L ≤ 9999) : Gi l yX1_addHand wX1_addHand { frames := 2, cells := 4, slots := 33, locals := 35 } [.ref (ad 0), .int (nI R), .int (nI Y), .int (nI L)] D cA N ad c (N + 4) 4 33 (fun v u => v = nI n ∧ (∀ r, r < N → u.1 r = ad r) ∧ (∀ r, r < N → r ≠ 1 → u.2 r = c r) ∧ FH u.1 cA u.2 (n + 1) ∧ HandAt u.1 cA u.2 (6 + 4 * n) R Y L 0 0 0 (fun _ _ => nI 0)) := by
  intro sz9
  refine bd_of (cc := cX1_addHand) (maxL := 5) (ret := some Jvm.ClassFile.FieldType.int) (by decide) rfl (Nat.le_of_ble_eq_true rfl) ?_
  intro p e s m below meth c0 C0 hr hlk hnm hP hS hsz ls hl
  subst hsz
  have hx := C0.1
  have hb := C0.2.1
  have hl : lv_has ls 5 [(0, .ref (ad 0)), (1, .int (nI R)), (2, .int (nI Y)), (3, .int (nI L))] := hl
  refine lv_iload_n hx hb dX1_addHand_0 rfl (lv_at hl 1 rfl) ?_
  refine lv_iconst (v := nI 1) hx hb dX1_addHand_1 rfl ?_
  refine lv_bipush (v := nI 8) hx hb dX1_addHand_2 rfl ?_
  refine k0_i (rn_X1_22 (As := [.int (nI R), .int (nI 1), .int (nI 8)]) (rest := []) C0 (m_X1_isWithin l D cA N ad (c) (nI R) (nI 1) (nI 8) _) hP hS rfl ⟨rfl, rfl⟩ ⟨by decide, by decide⟩ hl.1 rfl (Nat.le_of_ble_eq_true rfl) dX1_addHand_4 ⟨Nat.le_of_ble_eq_true rfl, Nat.le_of_ble_eq_true rfl⟩) C0 hP hS (fun v4 c4 H locs hp hP hS => ?_)
  obtain ⟨hv, rfl⟩ := hp
  obtain rfl : v4 = nI 1 := by rw [hv, if_pos ⟨nI_le (by omega) (by omega), nI_le (by omega) (by omega)⟩]; rfl
  refine n_if_eq (tgt := 30) hx hb (by omega) dX1_addHand_7 (by decide) (fun h7 => ?_) (fun h7 => ?_)
  · exfalso; omega
  refine lv_iload_n hx hb dX1_addHand_10 rfl (lv_at hl 2 rfl) ?_
  refine lv_iconst (v := nI 0) hx hb dX1_addHand_11 rfl ?_
  refine lv_iconst (v := nI 1) hx hb dX1_addHand_12 rfl ?_
  refine k0_i (rn_X1_22 (As := [.int (nI Y), .int (nI 0), .int (nI 1)]) (rest := []) C0 (m_X1_isWithin l D cA N ad (c) (nI Y) (nI 0) (nI 1) _) hP hS rfl ⟨rfl, rfl⟩ ⟨by decide, by decide⟩ hl.1 rfl (Nat.le_of_ble_eq_true rfl) dX1_addHand_13 ⟨Nat.le_of_ble_eq_true rfl, Nat.le_of_ble_eq_true rfl⟩) C0 hP hS (fun v13 c13 H locs hp hP hS => ?_)
  obtain ⟨hv, rfl⟩ := hp
  obtain rfl : v13 = nI 1 := by rw [hv, if_pos ⟨nI_le (by omega) (by omega), nI_le (by omega) (by omega)⟩]; rfl
  refine n_if_eq (tgt := 30) hx hb (by omega) dX1_addHand_16 (by decide) (fun h16 => ?_) (fun h16 => ?_)
  · exfalso; omega
  refine lv_iload_n hx hb dX1_addHand_19 rfl (lv_at hl 3 rfl) ?_
  refine lv_iconst (v := nI 0) hx hb dX1_addHand_20 rfl ?_
  refine lv_sipush (v := nI 9999) hx hb dX1_addHand_21 rfl ?_
  refine k0_i (rn_X1_22 (As := [.int (nI L), .int (nI 0), .int (nI 9999)]) (rest := []) C0 (m_X1_isWithin l D cA N ad (c) (nI L) (nI 0) (nI 9999) _) hP hS rfl ⟨rfl, rfl⟩ ⟨by decide, by decide⟩ hl.1 rfl (Nat.le_of_ble_eq_true rfl) dX1_addHand_24 ⟨Nat.le_of_ble_eq_true rfl, Nat.le_of_ble_eq_true rfl⟩) C0 hP hS (fun v24 c24 H locs hp hP hS => ?_)
  obtain ⟨hv, rfl⟩ := hp
  obtain rfl : v24 = nI 1 := by rw [hv, if_pos ⟨nI_le (by omega) (by omega), nI_le (by omega) (by omega)⟩]; rfl
  refine n_if_ne (tgt := 40) hx hb (by omega) dX1_addHand_27 (by decide) (fun h27 => ?_) (fun h27 => ?_)
  rotate_left
  · exfalso; omega
  refine lv_aload_n hx hb dX1_addHand_40 rfl (lv_at hl 0 rfl) ?_
  refine k0_i (rn_X1_33 (As := []) (rest := []) (r := 0) C0 (m_X1_hands l D cA N ad (c) n (by omega) hF _) hP hS (by omega) hF.1 rfl ⟨rfl, rfl⟩ ⟨by decide, by decide⟩ hl.1 rfl (Nat.le_of_ble_eq_true rfl) dX1_addHand_41 ⟨Nat.le_of_ble_eq_true rfl, Nat.le_of_ble_eq_true rfl⟩) C0 hP hS (fun v41 c41 H locs hp hP hS => ?_)
  obtain ⟨rfl, rfl⟩ := hp
  refine lv_istore (lv' := [(4, .int (nI n)), (0, .ref (ad 0)), (1, .int (nI R)), (2, .int (nI Y)), (3, .int (nI L))]) hx hb dX1_addHand_44 hl (by decide) rfl (fun ls hl => ?_)
  refine lv_iload hx hb dX1_addHand_46 (lv_at hl 0 rfl) ?_
  refine lv_aload_n hx hb dX1_addHand_48 rfl (lv_at hl 1 rfl) ?_
  refine gf_X1_11 C0 hP (by omega) hF.1 rfl dX1_addHand_49 ?_
  refine a_lenq C0 hP (by omega) hF.2.1 dX1_addHand_52 ?_
  refine n_icmp_lt (tgt := 66) hx hb (by omega) (by omega) dX1_addHand_53 (by decide) (fun h53 => ?_) (fun h53 => ?_)
  rotate_left
  · exfalso; omega
  refine lv_aload_n hx hb dX1_addHand_66 rfl (lv_at hl 1 rfl) ?_
  refine gf_X1_11 C0 hP (by omega) hF.1 rfl dX1_addHand_67 ?_
  refine lv_iload hx hb dX1_addHand_70 (lv_at hl 0 rfl) ?_
  subst hN
  refine g_newh C0 hP hS (Nat.le_of_ble_eq_true rfl) (Nat.le_of_ble_eq_true rfl) dX1_addHand_72 (fun q2 H C0 hP hS => ?_)
  refine lv_dup hx hb dX1_addHand_75 rfl ?_
  refine lv_iload_n hx hb dX1_addHand_76 rfl (lv_at hl 2 rfl) ?_
  refine lv_iload_n hx hb dX1_addHand_77 rfl (lv_at hl 3 rfl) ?_
  refine lv_iload_n hx hb dX1_addHand_78 rfl (lv_at hl 4 rfl) ?_
  have had : va_up ad (6 + 4 * n) q2 (6 + 4 * n) = q2 := up_at'
  have hst : (Value.ref q2) = .ref (va_up ad (6 + 4 * n) q2 (6 + 4 * n)) := by rw [had]
  refine k_gv (rn_X1_15 (As := [.int (nI R), .int (nI Y), .int (nI L)]) (rest := [.ref q2, .int (nI n), .ref (ad 1)]) (r := 6 + 4 * n) C0 (m_X0_init l D cA _ _ _ (6 + 4 * n) R Y L rfl up_at _) hP hS rfl ⟨rfl, rfl⟩ ⟨by decide, by decide⟩ hl.1 (by rw [← hst]; rfl) (Nat.le_of_ble_eq_true rfl) dX1_addHand_79 ⟨Nat.le_of_ble_eq_true rfl, Nat.le_of_ble_eq_true rfl⟩) C0 hP hS (fun ad1 c1 H locs hp C0 hP hS => ?_)
  obtain ⟨h1, h2, h3⟩ := hp
  dsimp only at h1 h2 h3
  have e0 : ∀ r, r < 6 + 4 * n → ad1 r = ad r := fun r hr => by rw [h1 r (by omega), va_up_ne _ _ (by omega)]
  have e2 : ad1 (6 + 4 * n) = q2 := by rw [h1 _ (by omega)]; exact up_at'
  have f0 : ∀ r, r < 6 + 4 * n → c1 r = c r := fun r hr => by rw [h2 r hr, va_up_ne _ _ (by omega)]
  refine a_qst (r := 1) (k := 6 + 4 * n) C0 hP hS (by omega) (by omega) (e0 1 (by omega)) e2 ((f0 1 (by omega)).trans hF.2.1) h3.1 (by decide) (by omega) dX1_addHand_82 (fun H locs hP hS => ?_)
  refine lv_iload hx hb dX1_addHand_83 (lv_at hl 0 rfl) ?_
  refine e_gi C0 hr hlk hP hS dX1_addHand_85 (Nat.le_of_ble_eq_true rfl) (Nat.le_of_ble_eq_true rfl) ?_
  refine ⟨rfl, e0, fun r hr h => (va_up_ne _ _ h).trans (f0 r hr), ⟨?_, ?_, by omega⟩, h3.other (by omega)⟩
  · dsimp only
    rw [va_up_ne _ _ (by omega), f0 0 (by omega), hF.1, e0 1 (by omega), e0 2 (by omega)]
  · dsimp only
    rw [up_at, ← e2, ← tbl_up, tbl_ext e0]
