/-! the world as cells told by their places (roles): role r lies at ad r and holds c r -/
def wl (n : Nat) (ad : Nat → Nat) (c : Nat → va_E) : va_W := (List.range n).map (fun r => (ad r, c r))
theorem wl_get {n : Nat} {ad : Nat → Nat} {c : Nat → va_E} {r : Nat} {e : va_E} (h : r < n) (he : c r = e) : (wl n ad c)[r]? = some (ad r, e) := by
  simp [wl, List.getElem?_map, List.getElem?_range h, he]
theorem wl_inv {n : Nat} {ad : Nat → Nat} {c : Nat → va_E} {k : Nat} {q : Nat × va_E} (h : (wl n ad c)[k]? = some q) : k < n ∧ q = (ad k, c k) := by
  unfold wl at h
  rw [List.getElem?_map] at h
  by_cases hk : k < n
  · rw [List.getElem?_range hk] at h
    exact ⟨hk, (Option.some.inj h).symm⟩
  · rw [List.getElem?_eq_none (by simp; omega)] at h
    cases h
theorem wl_set {n : Nat} {ad : Nat → Nat} {c : Nat → va_E} {r : Nat} {e : va_E} : (wl n ad c).set r (ad r, e) = wl n ad (va_up c r e) := by
  apply List.ext_getElem?
  intro i
  rw [List.getElem?_set]
  by_cases hi : i < n
  · rw [wl_get hi rfl]
    by_cases hir : r = i
    · subst hir
      simp [wl, hi, va_up]
    · rw [if_neg hir, wl_get hi rfl, va_up_ne c e (fun h => hir h.symm)]
  · have h1 : (wl n ad (va_up c r e))[i]? = none := List.getElem?_eq_none (by simp [wl]; omega)
    have h2 : (wl n ad c)[i]? = none := List.getElem?_eq_none (by simp [wl]; omega)
    rw [h1]
    by_cases hir : r = i
    · subst hir
      simp [wl, hi]
    · rw [if_neg hir, h2]
theorem wl_push {n : Nat} {ad : Nat → Nat} {c : Nat → va_E} {q : Nat} {e : va_E} : wl n ad c ++ [(q, e)] = wl (n + 1) (va_up ad n q) (va_up c n e) := by
  unfold wl
  rw [List.range_succ, List.map_append]
  congr 1
  · apply List.map_congr_left
    intro r hr
    have hr := List.mem_range.mp hr
    rw [va_up_ne ad q (by omega), va_up_ne c e (by omega)]
  · simp [va_up]
def dA (A : Nat → Prop) (N : Nat) (ad : Nat → Nat) : Prop := (∀ i j, i < N → j < N → ad i = ad j → i = j) ∧ ∀ i, i < N → A (ad i)
theorem dA.D {A : Nat → Prop} {N : Nat} {ad : Nat → Nat} (h : dA A N ad) (c : Nat → va_E) : va_D A (wl N ad c) := by
  refine ⟨fun i j p q hi hj hpq => ?_, fun k q hk => ?_⟩
  · obtain ⟨h1, rfl⟩ := wl_inv hi
    obtain ⟨h2, rfl⟩ := wl_inv hj
    exact h.1 i j h1 h2 hpq
  · obtain ⟨h1, rfl⟩ := wl_inv hk
    exact h.2 k h1
theorem dA.of {A : Nat → Prop} {N : Nat} {ad : Nat → Nat} {c : Nat → va_E} (h : va_D A (wl N ad c)) : dA A N ad := by
  refine ⟨fun i j hi hj hij => h.1 i j _ _ (wl_get hi rfl) (wl_get hj rfl) hij, fun i hi => h.2 i _ (wl_get hi rfl)⟩
theorem dA.weaken {A B : Nat → Prop} {N : Nat} {ad : Nat → Nat} (h : dA A N ad) (hAB : ∀ i, i < N → A (ad i) → B (ad i)) : dA B N ad := ⟨h.1, fun i hi => hAB i hi (h.2 i hi)⟩
/-- the cells that a method with this world may change -/
def wA (N : Nat) (ad : Nat → Nat) (sz : Nat) : Nat → Prop := fun q => (∃ i, i < N ∧ q = ad i) ∨ sz ≤ q
theorem dA.self {A : Nat → Prop} {N : Nat} {ad : Nat → Nat} {sz : Nat} (h : dA A N ad) : dA (wA N ad sz) N ad := ⟨h.1, fun i hi => Or.inl ⟨i, hi, rfl⟩⟩
/-! what stands in the tables, for all time -/
def evN : Cond → Bool
  | .fieldLinkNest .. => true
  | .methodLinkNest .. => true
  | .castable .. => true
  | .declares _ => true
  | _ => false
def evOk (w : Cond) : Bool := goodWord w || evN w
abbrev tysOf (cA : Nat → ClassId) : List (ClassId × FieldType) := [(cA 0, .int), (cA 1, .object "FairHandful$Hand")]
def nons : List (String × String) := [("java/lang/IllegalArgumentException", "java/lang/IllegalStateException"), ("java/lang/IllegalStateException", "java/lang/IllegalArgumentException"), ("java/lang/IndexOutOfBoundsException", "java/lang/IllegalArgumentException"), ("java/lang/IndexOutOfBoundsException", "java/lang/IllegalStateException")]
def strs : List (String × Nat × String) := [("FairHandful", 28, "room, way or luck"), ("FairHandful", 39, "there are enough hands"), ("FairHandful", 181, "no such hand"), ("FairHandful", 46, "value or weight"), ("FairHandful", 52, "value, weight or many"), ("FairHandful", 76, "luck"), ("FairHandful", 138, "weight"), ("FairHandful", 57, "a hand with itself"), ("FairHandful", 63, "not both fair with as much room"), ("FairHandful", 143, "many"), ("FairHandful", 184, "nothing on this place")]
def Ev (D : va_G) (cA : Nat → ClassId) (U : State) : Prop := va_K D vwCl (tysOf cA) U ∧ (∀ w ∈ lw_tbl, evOk w = true → ∀ a : Array Value, w.before a U = true) ∧ (∀ q ∈ strs, ∃ a, vk_R q.1 q.2.1 q.2.2 a U) ∧ (∀ q ∈ nons, va_Nc q.1 q.2 U) ∧ va_AO "FairHandful$Hand" U
theorem ev_word {w : Cond} {s U : State} (hk : evOk w = true) (hW : s.WarmedH U.vm) (h : ∀ a : Array Value, w.before a s = true) : ∀ a : Array Value, w.before a U = true := by
  intro a
  by_cases hg : goodWord w = true
  · exact word_at hW (good_of_word hg) (h a)
  · have hn : evN w = true := by
      unfold evOk at hk
      cases hgw : goodWord w with
      | true => exact absurd hgw hg
      | false => rw [hgw] at hk; simpa using hk
    cases w with
    | fieldLinkNest => exact va_Nw.use rfl (va_Nw.warmF hW (va_Nw.of rfl (h #[])))
    | methodLinkNest => exact va_Nw.use rfl (va_Nw.warmM hW (va_Nw.of rfl (h #[])))
    | castable => exact va_Nw.use rfl (va_Nw.warmC hW (va_Nw.of rfl (h #[])))
    | declares => exact va_Nw.use rfl (va_Nw.warmD hW (va_Nw.of rfl (h #[])))
    | _ => exact absurd hn (by simp [evN])
theorem Ev.moved {D : va_G} {cA : Nat → ClassId} {s U : State} (hW : s.WarmedH U.vm) (h : Ev D cA s) : Ev D cA U := by
  refine ⟨va_K.moved hW.alike h.1, fun w hw hk => ev_word hk hW (h.2.1 w hw hk), fun q hq => ?_, fun q hq => va_Nc.moved hW.alike (h.2.2.2.1 q hq), va_AO.moved hW.alike h.2.2.2.2⟩
  obtain ⟨a, ha⟩ := h.2.2.1 q hq
  exact ⟨a, vk_R.warm hW ha⟩
/-- the two statics that a Throwable's constructor reads -/
def Zs (A : Nat → Prop) (U : State) (H : Heap) : Prop := vx_Zq Bundle.tN "UNASSIGNED_STACK" Bundle.steD A U H ∧ vx_Zq Bundle.tN "SUPPRESSED_SENTINEL" Bundle.listD A U H
theorem Zs.moved {A : Nat → Prop} {u U : State} {H : Heap} (hvm : u.vm.Alike U.vm) (h : Zs A u H) : Zs A U H := ⟨vx_Zq.moved hvm h.1, vx_Zq.moved hvm h.2⟩
theorem Zs.kept {A : Nat → Prop} {U : State} {H H1 : Heap} (h : Zs A U H) (hq : ∀ a : Nat, a < H.size → ¬ A a → H1[a]? = H[a]?) : Zs A U H1 := ⟨vx_Zq.kept h.1 hq, vx_Zq.kept h.2 hq⟩
theorem Zs.narrow {A B : Nat → Prop} {U : State} {H : Heap} (h : Zs A U H) (hAB : ∀ q, B q → A q) : Zs B U H := ⟨vx_Zq.narrow h.1 hAB, vx_Zq.narrow h.2 hAB⟩
/-- a method's start -/
def Pre (D : va_G) (cA : Nat → ClassId) (N : Nat) (ad : Nat → Nat) (c : Nat → va_E) (sz : Nat) : State → Prop := fun U =>
  U.heap.size = sz ∧ va_P D vwCl (wl N ad c) U.heap ∧ Ev D cA U ∧ dA (fun _ => True) N ad ∧ Zs (wA N ad sz) U U.heap
theorem Pre.blind {D : va_G} {cA : Nat → ClassId} {N : Nat} {ad : Nat → Nat} {c : Nat → va_E} {sz : Nat} {av : List Value} : FrameBlind (va_Pc av (Pre D cA N ad c sz)) := by
  intro a U g mk h
  obtain ⟨h0, h1, h2, h3, h4, h5⟩ := h
  exact ⟨h0, h1, h2, Ev.moved (s := U) (U := U.calling g mk a) (State.WarmedH.refl U) h3, h4, Zs.moved (u := U) (U := U.calling g mk a) (Vm.Alike.refl U.vm) h5⟩
/-- what is known in the middle of a method: the machine, its code, the tables, where its cells lie -/
def Cx (p : Program) (s : State) (m : MethodId) (c0 : Code) (cc : ByteArray) (nL : Nat) (own : String) (D : va_G) (cA : Nat → ClassId) (N : Nat) (ad : Nat → Nat) (A : Nat → Prop) : Prop :=
  p.tables.exec = Jvm.exec ∧ c0.code = cc ∧ c0.maxLocals = nL ∧ s.vm.findClass own = some m.cls ∧ Ev D cA s ∧ Zs A s s.heap ∧ dA A N ad ∧ ∀ q, s.heap.size ≤ q → A q
section WX
variable {p : Program} {l : Launch} {e : Env} {R : Room} {s : State} {m : MethodId} {args : Array Value} {below : List Frame} {meth : Method} {c0 : Code} {H : Heap} {locs : List Loc} {cells slots : Nat} {Q : State → Prop}
variable {cc : ByteArray} {nL : Nat} {own : String} {D : va_G} {cA : Nat → ClassId} {N : Nat} {ad : Nat → Nat} {A : Nat → Prop} {pc : Nat} {ls : Array Slot} {rest st0 : List Value} {lv : List (Nat × Value)}
theorem Cx.sub {c : Nat → va_E} (C0 : Cx p s m c0 cc nL own D cA N ad A) (hP : va_P D vwCl (wl N ad c) H) (hS : va_S A s.heap H locs) : ∀ q, wA N ad H.size q → A q := by
  intro q h
  rcases h with ⟨i, hi, rfl⟩ | h
  · exact C0.2.2.2.2.2.2.1.2 i hi
  · exact C0.2.2.2.2.2.2.2 q (Nat.le_trans hS.1 h)
theorem Cx.pre {c : Nat → va_E} (C0 : Cx p s m c0 cc nL own D cA N ad A) (hP : va_P D vwCl (wl N ad c) H) (hS : va_S A s.heap H locs) (av : List Value) : PreS s H (va_Pc av (Pre D cA N ad c H.size)) av := by
  refine ⟨Pre.blind, fun U hU hW => ⟨rfl, by rw [hU], by rw [hU]; exact hP, Ev.moved hW C0.2.2.2.2.1, C0.2.2.2.2.2.2.1.weaken (fun _ _ _ => trivial), ?_⟩⟩
  rw [hU]
  exact Zs.moved hW.alike ((C0.2.2.2.2.2.1.kept hS.2.1).narrow (C0.sub hP hS))
/-! contracts: an int, a long, a double, nothing, a cell; the world's cells stay the same ones -/
def Ci (l : Launch) (y : MethodName) (ws : List Cond) (rm : Room) (av : List Value) (D : va_G) (cA : Nat → ClassId) (N : Nat) (ad : Nat → Nat) (c : Nat → va_E) (mc ms : Nat) (post : Int32 → (Nat → va_E) → Prop) : Prop :=
  ∀ sz, Met l y ws rm (va_Pc av (Pre D cA N ad c sz)) (va_Qi post (fun c' t => va_P D vwCl (wl N ad c') t.heap) (wA N ad sz)) mc ms (wA N ad sz)
def Cl (l : Launch) (y : MethodName) (ws : List Cond) (rm : Room) (av : List Value) (D : va_G) (cA : Nat → ClassId) (N : Nat) (ad : Nat → Nat) (c : Nat → va_E) (mc ms : Nat) (post : Int64 → (Nat → va_E) → Prop) : Prop :=
  ∀ sz, Met l y ws rm (va_Pc av (Pre D cA N ad c sz)) (va_Ql post (fun c' t => va_P D vwCl (wl N ad c') t.heap) (wA N ad sz)) mc ms (wA N ad sz)
def Cd (l : Launch) (y : MethodName) (ws : List Cond) (rm : Room) (av : List Value) (D : va_G) (cA : Nat → ClassId) (N : Nat) (ad : Nat → Nat) (c : Nat → va_E) (mc ms : Nat) (post : UInt64 → (Nat → va_E) → Prop) : Prop :=
  ∀ sz, Met l y ws rm (va_Pc av (Pre D cA N ad c sz)) (va_Qd post (fun c' t => va_P D vwCl (wl N ad c') t.heap) (wA N ad sz)) mc ms (wA N ad sz)
def Cv (l : Launch) (y : MethodName) (ws : List Cond) (rm : Room) (av : List Value) (D : va_G) (cA : Nat → ClassId) (N : Nat) (ad : Nat → Nat) (c : Nat → va_E) (mc ms : Nat) (post : (Nat → va_E) → Prop) : Prop :=
  ∀ sz, Met l y ws rm (va_Pc av (Pre D cA N ad c sz)) (va_Qv post (fun c' t => va_P D vwCl (wl N ad c') t.heap) (wA N ad sz)) mc ms (wA N ad sz)
/-- the answer is the cell of role r; nothing has changed -/
def Cr (l : Launch) (y : MethodName) (ws : List Cond) (rm : Room) (av : List Value) (D : va_G) (cA : Nat → ClassId) (N : Nat) (ad : Nat → Nat) (c : Nat → va_E) (mc ms : Nat) (r : Nat) : Prop :=
  ∀ sz, Met l y ws rm (va_Pc av (Pre D cA N ad c sz)) (va_Qr (fun _ : Unit => True) (fun _ a t => a = ad r ∧ va_P D vwCl (wl N ad c) t.heap) (wA N ad sz)) mc ms (wA N ad sz)
/-- it throws an E; nothing has changed -/
def Ct (l : Launch) (y : MethodName) (ws : List Cond) (rm : Room) (av : List Value) (D : va_G) (cA : Nat → ClassId) (N : Nat) (ad : Nat → Nat) (c : Nat → va_E) (mc ms : Nat) (E : String) : Prop :=
  ∀ sz, vx_Met l y ws rm (va_Pc av (Pre D cA N ad c sz)) (fun _ _ _ _ => False) (fun E' st t => E' = E ∧ va_F (wA N ad sz) st t ∧ va_P D vwCl (wl N ad c) t.heap) mc ms (wA N ad sz)
/-- a body's walk begins -/
theorem bd_of {y : MethodName} {ws ws' : List Cond} {rm : Room} {av : List Value} {c : Nat → va_E} {Qc : Array Value → State → Outcome → State → Prop} {mc ms : Nat} {maxL : Nat} {ret : Option FieldType} {sz : Nat} (hy : plainName y.cls = true) (hw : ws = Cond.code y cc maxL ret :: ws') (hal : (lg_sl av).length ≤ maxL)
    (body : ∀ (p : Program) (e : Env) (s : State) (m : MethodId) (below : List Frame) (meth : Method) (c0 : Code), Cx p s m c0 cc maxL y.cls D cA N ad (wA N ad s.heap.size) → meth.sig.returnType = ret → meth.locks = false → meth.name = y.name → va_P D vwCl (wl N ad c) s.heap → va_S (wA N ad s.heap.size) s.heap s.heap [] → s.heap.size = sz →
      ∀ ls : Array Slot, lv_has ls maxL (lv_args 0 av) → W p l e rm s m av.toArray below meth c0 s.heap [] 0 0 (MQ below Qc av.toArray s mc ms (wA N ad s.heap.size)) (F0 m 0 ls [])) :
    Met l y ws rm (va_Pc av (Pre D cA N ad c sz)) Qc mc ms (wA N ad sz) := by
  refine Met.ofW (cc := cc) (maxL := maxL) (ret := ret) hy hw ?_
  intro p e s m args below meth c0 s₁ B hml hv
  obtain ⟨rfl, hsz, hP, hE, hD, hZ⟩ := hv
  have hx := B.exec
  have hb := B.bytes
  have hr := B.returns
  have hown : s.vm.findClass y.cls = some m.cls := findClass_of_methodNamed B.named
  have hl := lv_entry av (n := maxL) hal
  have hnm : meth.name = y.name := (name_of_methodNamed B.named B.method).1
  have hbody := fun hS => body p e s m below meth c0 ⟨hx, hb, hml, hown, hE, by rw [hsz]; exact hZ, hD.self, fun q h => Or.inr h⟩ hr B.notSynchronized hnm hP hS hsz
  rw [lg_entry_eq]
  rw [hsz] at hbody
  exact hbody va_S.rf _ hl
/-! ends -/
theorem e_i {post : Int32 → (Nat → va_E) → Prop} {c' : Nat → va_E} {mc ms : Nat} {v : Int32} (C0 : Cx p s m c0 cc nL own D cA N ad A) (hr : meth.sig.returnType = some .int) (hlk : meth.locks = false) (hP : va_P D vwCl (wl N ad c') H) (hS : va_S A s.heap H locs) (hdg : decode cc pc = .ok (.ireturn, 1)) (hmc : cells ≤ mc) (hms : slots ≤ ms) (hp : post v c') :
    W p l e R s m args below meth c0 H locs cells slots (MQ below (va_Qi post (fun c' t => va_P D vwCl (wl N ad c') t.heap) A) args s mc ms A) (F0 m pc ls [.int v]) := by
  refine W.widen hmc hms ?_
  exact W.iret C0.1 C0.2.1 hr (fun t ht hW => ⟨⟨v, c', rfl, hp, by show va_P D vwCl (wl N ad c') t.heap; rw [ht]; exact hP⟩, hS.F ht⟩) hS.2.2 hdg hlk
theorem e_z {post : Int32 → (Nat → va_E) → Prop} {c' : Nat → va_E} {mc ms : Nat} {v : Int32} (C0 : Cx p s m c0 cc nL own D cA N ad A) (hr : meth.sig.returnType = some .boolean) (hlk : meth.locks = false) (hP : va_P D vwCl (wl N ad c') H) (hS : va_S A s.heap H locs) (hdg : decode cc pc = .ok (.ireturn, 1)) (hmc : cells ≤ mc) (hms : slots ≤ ms) (hv : narrow .boolean (.int v) = .int v) (hp : post v c') :
    W p l e R s m args below meth c0 H locs cells slots (MQ below (va_Qi post (fun c' t => va_P D vwCl (wl N ad c') t.heap) A) args s mc ms A) (F0 m pc ls [.int v]) := by
  refine W.widen hmc hms ?_
  exact W.zret C0.1 C0.2.1 hr hv (fun t ht hW => ⟨⟨v, c', rfl, hp, by show va_P D vwCl (wl N ad c') t.heap; rw [ht]; exact hP⟩, hS.F ht⟩) hS.2.2 hdg hlk
theorem e_l {post : Int64 → (Nat → va_E) → Prop} {c' : Nat → va_E} {mc ms : Nat} {v : Int64} (C0 : Cx p s m c0 cc nL own D cA N ad A) (hr : meth.sig.returnType = some .long) (hlk : meth.locks = false) (hP : va_P D vwCl (wl N ad c') H) (hS : va_S A s.heap H locs) (hdg : decode cc pc = .ok (.lreturn, 1)) (hmc : cells ≤ mc) (hms : slots ≤ ms) (hp : post v c') :
    W p l e R s m args below meth c0 H locs cells slots (MQ below (va_Ql post (fun c' t => va_P D vwCl (wl N ad c') t.heap) A) args s mc ms A) (F0 m pc ls [.long v]) := by
  refine W.widen hmc hms ?_
  exact W.lret C0.1 C0.2.1 hr (fun t ht hW => ⟨⟨v, c', rfl, hp, by show va_P D vwCl (wl N ad c') t.heap; rw [ht]; exact hP⟩, hS.F ht⟩) hS.2.2 hdg hlk
theorem e_d {post : UInt64 → (Nat → va_E) → Prop} {c' : Nat → va_E} {mc ms : Nat} {v : UInt64} (C0 : Cx p s m c0 cc nL own D cA N ad A) (hr : meth.sig.returnType = some .double) (hlk : meth.locks = false) (hP : va_P D vwCl (wl N ad c') H) (hS : va_S A s.heap H locs) (hdg : decode cc pc = .ok (.dreturn, 1)) (hmc : cells ≤ mc) (hms : slots ≤ ms) (hp : post v c') :
    W p l e R s m args below meth c0 H locs cells slots (MQ below (va_Qd post (fun c' t => va_P D vwCl (wl N ad c') t.heap) A) args s mc ms A) (F0 m pc ls [.double v]) := by
  refine W.widen hmc hms ?_
  exact W.dret C0.1 C0.2.1 hr (fun t ht hW => ⟨⟨v, c', rfl, hp, by show va_P D vwCl (wl N ad c') t.heap; rw [ht]; exact hP⟩, hS.F ht⟩) hS.2.2 hdg hlk
theorem e_v {post : (Nat → va_E) → Prop} {c' : Nat → va_E} {mc ms : Nat} (C0 : Cx p s m c0 cc nL own D cA N ad A) (hr : meth.sig.returnType = none) (hlk : meth.locks = false) (hP : va_P D vwCl (wl N ad c') H) (hS : va_S A s.heap H locs) (hdg : decode cc pc = .ok (.return_, 1)) (hmc : cells ≤ mc) (hms : slots ≤ ms) (hp : post c') :
    W p l e R s m args below meth c0 H locs cells slots (MQ below (va_Qv post (fun c' t => va_P D vwCl (wl N ad c') t.heap) A) args s mc ms A) (F0 m pc ls []) := by
  refine W.widen hmc hms ?_
  exact W.vret C0.1 C0.2.1 hr (fun t ht hW => ⟨⟨c', rfl, hp, by show va_P D vwCl (wl N ad c') t.heap; rw [ht]; exact hP⟩, hS.F ht⟩) hS.2.2 hdg hlk
theorem e_r {c' : Nat → va_E} {mc ms r : Nat} {rt : FieldType} (C0 : Cx p s m c0 cc nL own D cA N ad A) (hr : meth.sig.returnType = some rt) (hrt : ∃ n, rt = .object n) (hlk : meth.locks = false) (hP : va_P D vwCl (wl N ad c') H) (hS : va_S A s.heap H locs) (hdg : decode cc pc = .ok (.areturn, 1)) (hmc : cells ≤ mc) (hms : slots ≤ ms) :
    W p l e R s m args below meth c0 H locs cells slots (MQ below (va_Qr (fun _ : Unit => True) (fun _ a t => a = ad r ∧ va_P D vwCl (wl N ad c') t.heap) A) args s mc ms A) (F0 m pc ls [.ref (ad r)]) := by
  refine W.widen hmc hms ?_
  exact W.aret (v := .ref (ad r)) C0.1 C0.2.1 hr (Or.inl hrt) (Or.inr ⟨_, rfl⟩) (fun t ht hW => ⟨⟨(), ad r, rfl, trivial, rfl, by show va_P D vwCl (wl N ad c') t.heap; rw [ht]; exact hP⟩, hS.F ht⟩) hS.2.2 hdg hlk
end WX
