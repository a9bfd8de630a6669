/-! the law's start -/
section STT
variable {p : Program} {l : Launch} {e : Env} {R : Room} {s : State} {m : MethodId} {args : Array Value} {below : List Frame} {meth : Method} {c0 : Code} {H : Heap} {locs : List Loc} {cells slots : Nat} {Q : State → Prop}
variable {cc : ByteArray} {nL : Nat} {own : String} {D : va_G} {cA : Nat → ClassId} {N : Nat} {ad : Nat → Nat} {A : Nat → Prop} {pc : Nat} {ls : Array Slot} {rest st0 : List Value} {c : Nat → va_E} {b : Nat}
/-- a new row of longs -/
theorem g_newJ (C0 : Cx p s m c0 cc nL own D cA N ad A) (hP : va_P D vwCl (wl N ad c) H) (hS : va_S A s.heap H locs) {n : Nat} (hn : n < 2 ^ 20) (hcells : cells + 1 ≤ R.cells) (hslots : slots + n ≤ R.slots) (hdg : decode cc pc = .ok (.newarray .long, 2))
    (kk : ∀ (q : Nat) (H1 : Heap), Cx p s m c0 cc nL own D cA (N + 1) (va_up ad N q) A → va_P D vwCl (wl (N + 1) (va_up ad N q) (va_up c N (.inl (cA 2, n, .inr (.inl (fun _ => 0)))))) H1 → va_S A s.heap H1 locs → W p l e R s m args below meth c0 H1 locs (cells + 1) (slots + n) Q (F0 m (pc + 2) ls (.ref q :: rest))) : W p l e R s m args below meth c0 H locs cells slots Q (F0 m pc ls (.int (nI n) :: rest)) := by
  refine va_newa (atype := .long) (ty := .long) (N' := n) (a0 := (n, .inr (.inl (fun _ => 0)))) C0.1 C0.2.1 (C0.2.2.2.2.1.2.1 (.arrayClass .long) (List.mem_append_right _ (List.mem_of_getElem? (i := 767) (by decide +kernel : tables_1[767]? = some (.arrayClass .long)))) (by decide +kernel) args) rfl C0.2.2.2.2.1.1 hP (C0.2.2.2.2.2.2.1.D c) hS C0.2.2.2.2.2.2.2 (fun _ => rfl) (nI_pos (by omega)) (nI_clamp (by omega)) (by show n * 8 ≤ 536870912; omega) hcells hslots hdg (fun q cA' H1 hK1 hP1 hD1 hS1 => ?_)
  have h0 : s.vm.findClass ("[" ++ FieldType.long.toString) = some (cA 2) := (C0.2.2.2.2.1.1.2 2 (cA 2, .long) rfl).2
  have h1 : s.vm.findClass ("[" ++ FieldType.long.toString) = some cA' := (hK1.2 4 (cA', .long) rfl).2
  obtain rfl : cA 2 = cA' := Option.some.inj (h0.symm.trans h1)
  rw [wl_push] at hP1 hD1
  exact kk q H1 (C0.grow (dA.of hD1)) hP1 hS1
/-- a new row of doubles -/
theorem g_newD (C0 : Cx p s m c0 cc nL own D cA N ad A) (hP : va_P D vwCl (wl N ad c) H) (hS : va_S A s.heap H locs) {n : Nat} (hn : n < 2 ^ 20) (hcells : cells + 1 ≤ R.cells) (hslots : slots + n ≤ R.slots) (hdg : decode cc pc = .ok (.newarray .double, 2))
    (kk : ∀ (q : Nat) (H1 : Heap), Cx p s m c0 cc nL own D cA (N + 1) (va_up ad N q) A → va_P D vwCl (wl (N + 1) (va_up ad N q) (va_up c N (.inl (cA 3, n, .inr (.inr (.inr (.inl (fun _ => 0)))))))) H1 → va_S A s.heap H1 locs → W p l e R s m args below meth c0 H1 locs (cells + 1) (slots + n) Q (F0 m (pc + 2) ls (.ref q :: rest))) : W p l e R s m args below meth c0 H locs cells slots Q (F0 m pc ls (.int (nI n) :: rest)) := by
  refine va_newa (atype := .double) (ty := .double) (N' := n) (a0 := (n, .inr (.inr (.inr (.inl (fun _ => 0)))))) C0.1 C0.2.1 (C0.2.2.2.2.1.2.1 (.arrayClass .double) (List.mem_append_right _ (List.mem_of_getElem? (i := 768) (by decide +kernel : tables_1[768]? = some (.arrayClass .double)))) (by decide +kernel) args) rfl C0.2.2.2.2.1.1 hP (C0.2.2.2.2.2.2.1.D c) hS C0.2.2.2.2.2.2.2 (fun _ => rfl) (nI_pos (by omega)) (nI_clamp (by omega)) (by show n * 8 ≤ 536870912; omega) hcells hslots hdg (fun q cA' H1 hK1 hP1 hD1 hS1 => ?_)
  have h0 : s.vm.findClass ("[" ++ FieldType.double.toString) = some (cA 3) := (C0.2.2.2.2.1.1.2 3 (cA 3, .double) rfl).2
  have h1 : s.vm.findClass ("[" ++ FieldType.double.toString) = some cA' := (hK1.2 4 (cA', .double) rfl).2
  obtain rfl : cA 3 = cA' := Option.some.inj (h0.symm.trans h1)
  rw [wl_push] at hP1 hD1
  exact kk q H1 (C0.grow (dA.of hD1)) hP1 hS1
/-- the class's object, not yet begun -/
theorem g_newA (C0 : Cx p s m c0 cc nL RL D cA N ad A) (hP : va_P D vwCl (wl N ad c) H) (hS : va_S A s.heap H locs) (hcells : cells + 1 ≤ R.cells) (hslots : slots + 2 ≤ R.slots) (hdg : decode cc pc = .ok (.new 8, 3))
    (kk : ∀ (q : Nat) (H1 : Heap), Cx p s m c0 cc nL RL D cA (N + 1) (va_up ad N q) A → va_P D vwCl (wl (N + 1) (va_up ad N q) (va_up c N (.inr (1, [.null, .null])))) H1 → va_S A s.heap H1 locs → W p l e R s m args below meth c0 H1 locs (cells + 1) (slots + 2) Q (F0 m (pc + 3) ls (.ref q :: rest))) : W p l e R s m args below meth c0 H locs cells slots Q (F0 m pc ls rest) := by
  refine va_new (ci := 1) (fs := [.null, .null]) (C := RX1) (T := TX1) (N := 2) C0.1 C0.2.1 (layX1 C0.2.2.2.2.1 args) (fun _ h => h) tyX1 tyX1_ok C0.2.2.2.1 (C0.2.2.2.2.1.2.1 (.classLink RL 8 RX1) (List.mem_append_right _ (List.mem_of_getElem? (i := 11) (by decide +kernel : tables_1[11]? = some (.classLink RL 8 RX1)))) (by decide +kernel) args) (C0.2.2.2.2.1.2.1 (.instantiable RX1 2) (List.mem_append_right _ (List.mem_of_getElem? (i := 12) (by decide +kernel : tables_1[12]? = some (.instantiable RX1 2)))) (by decide +kernel) args) (wd_ini_X1 C0.2.2.2.2.1 args) C0.2.2.2.2.1.1 hP (C0.2.2.2.2.2.2.1.D c) hS C0.2.2.2.2.2.2.2 rfl (fun j hj => by rcases (show j = 0 ∨ j = 1 by omega) with rfl | rfl <;> rfl) hcells hslots hdg (fun q H1 hP1 hD1 hS1 => ?_)
  rw [wl_push] at hP1 hD1
  exact kk q H1 (C0.grow (dA.of hD1)) hP1 hS1
/-- the reference's object, not yet begun -/
theorem g_newB (C0 : Cx p s m c0 cc nL RL D cA N ad A) (hP : va_P D vwCl (wl N ad c) H) (hS : va_S A s.heap H locs) (hcells : cells + 1 ≤ R.cells) (hslots : slots + 5 ≤ R.slots) (hdg : decode cc pc = .ok (.new 105, 3))
    (kk : ∀ (q : Nat) (H1 : Heap), Cx p s m c0 cc nL RL D cA (N + 1) (va_up ad N q) A → va_P D vwCl (wl (N + 1) (va_up ad N q) (va_up c N (.inr (2, [.int (nI 0), .int (nI 0), .null, .null, .null])))) H1 → va_S A s.heap H1 locs → W p l e R s m args below meth c0 H1 locs (cells + 1) (slots + 5) Q (F0 m (pc + 3) ls (.ref q :: rest))) : W p l e R s m args below meth c0 H locs cells slots Q (F0 m pc ls rest) := by
  refine va_new (ci := 2) (fs := [.int (nI 0), .int (nI 0), .null, .null, .null]) (C := RX2) (T := TX2) (N := 5) C0.1 C0.2.1 (layX2 C0.2.2.2.2.1 args) (fun _ h => h) tyX2 tyX2_ok C0.2.2.2.1 (C0.2.2.2.2.1.2.1 (.classLink RL 105 RX2) (List.mem_append_right _ (List.mem_of_getElem? (i := 517) (by decide +kernel : tables_1[517]? = some (.classLink RL 105 RX2)))) (by decide +kernel) args) (C0.2.2.2.2.1.2.1 (.instantiable RX2 5) (List.mem_append_right _ (List.mem_of_getElem? (i := 518) (by decide +kernel : tables_1[518]? = some (.instantiable RX2 5)))) (by decide +kernel) args) (wd_ini_X2 C0.2.2.2.2.1 args) C0.2.2.2.2.1.1 hP (C0.2.2.2.2.2.2.1.D c) hS C0.2.2.2.2.2.2.2 rfl (fun j hj => by rcases (show j = 0 ∨ j = 1 ∨ j = 2 ∨ j = 3 ∨ j = 4 by omega) with rfl | rfl | rfl | rfl | rfl <;> rfl) hcells hslots hdg (fun q H1 hP1 hD1 hS1 => ?_)
  rw [wl_push] at hP1 hD1
  exact kk q H1 (C0.grow (dA.of hD1)) hP1 hS1
/-! what the Statement gives of the start -/
theorem st_lay {C : String} {T : u_T} {n : Nat} {ix : List Nat} (hts : ∀ w ∈ lw_tbl, w.before args s = true) (h0 : u_ws C T n = ix.filterMap (fun i => tables_1[i]?)) : ∀ w ∈ u_ws C T n, w.before args s = true := by
  intro w hw
  rw [h0] at hw
  obtain ⟨i, -, hi⟩ := List.mem_filterMap.mp hw
  exact hts w (List.mem_append_right _ (List.mem_of_getElem? hi))
theorem st_word {w : Cond} (hts : ∀ w ∈ lw_tbl, w.before args s = true) {i : Nat} (h : tables_1[i]? = some w) : w.before args s = true := hts w (List.mem_append_right _ (List.mem_of_getElem? h))
theorem st_any {w : Cond} (hk : evOk w = true) (h : w.before args s = true) : ∀ a : Array Value, w.before a s = true := by
  intro a
  by_cases hg : goodWord w = true
  · exact word_at (State.WarmedH.refl s) (good_of_word hg) h
  · have hn : evN w = true := by
      unfold evOk at hk
      cases hgw : goodWord w with
      | true => exact absurd hgw hg
      | false => rw [hgw] at hk; simpa using hk
    cases w with
    | fieldLinkNest => exact va_Nw.use rfl (va_Nw.of rfl h)
    | methodLinkNest => exact va_Nw.use rfl (va_Nw.of rfl h)
    | castable => exact va_Nw.use rfl (va_Nw.of rfl h)
    | declares => exact va_Nw.use rfl (va_Nw.of rfl h)
    | _ => exact absurd hn (by simp [evN])
theorem st_arr {ty : FieldType} (h : (Cond.arrayClass ty).before args s = true) : ∃ c, ArrOfT s c ty ∧ s.vm.findClass ("[" ++ ty.toString) = some c := by
  obtain ⟨c, k, comp, h1, h2, h3⟩ := Cond.arrayClass_spec h
  exact ⟨c, fun n z => ⟨fun k h => (by cases h), k, h2, comp, h3⟩, h1⟩
theorem st_strs : strs.map (fun q => Cond.stringRef q.1 q.2.1 q.2.2) = [238, 274, 302, 309, 317, 340, 341, 353, 400, 464, 472, 480, 488].filterMap (fun i => tables_1[i]?) := by decide +kernel
theorem st_nons : ∀ q ∈ nons, Cond.not (.castable q.1 q.2) ∈ flatC (Jvm.Cond.and given_1 narrow_1) := by decide +kernel
theorem ev_start (hts : ∀ w ∈ lw_tbl, w.before args s = true) (hgv : (Jvm.Cond.and given_1 narrow_1).before args s = true) : ∃ D cA, Ev D cA s := by
  obtain ⟨k0, i0, hK0⟩ := u_known (st_lay (C := RX0) (T := TX0) (n := 9) (ix := [44, 46, 48, 50, 52, 54, 56, 58, 60]) hts (by decide +kernel)) (fun _ h => h) (st_word (w := .instantiable RX0 9) hts (i := 21) (by decide +kernel))
  obtain ⟨k1, i1, hK1⟩ := u_known (st_lay (C := RX1) (T := TX1) (n := 2) (ix := [66, 68]) hts (by decide +kernel)) (fun _ h => h) (st_word (w := .instantiable RX1 2) hts (i := 12) (by decide +kernel))
  obtain ⟨k2, i2, hK2⟩ := u_known (st_lay (C := RX2) (T := TX2) (n := 5) (ix := [528, 530, 532, 534, 536]) hts (by decide +kernel)) (fun _ h => h) (st_word (w := .instantiable RX2 5) hts (i := 518) (by decide +kernel))
  obtain ⟨aI, hI1, hI2⟩ := st_arr (st_word (w := .arrayClass .int) hts (i := 63) (by decide +kernel))
  obtain ⟨aJ, hJ1, hJ2⟩ := st_arr (st_word (w := .arrayClass .long) hts (i := 767) (by decide +kernel))
  obtain ⟨aD, hD1, hD2⟩ := st_arr (st_word (w := .arrayClass .double) hts (i := 768) (by decide +kernel))
  have hO := st_word (w := .arrayOver (.object "FairHandful$Hand")) hts (i := 20) (by decide +kernel)
  obtain ⟨comp, aO, kO, h1, h2, h3, h4, h5⟩ := Cond.arrayOver_spec hO
  refine ⟨(fun k => if k = 0 then k0 else if k = 1 then k1 else k2, fun k => if k = 0 then i0 else if k = 1 then i1 else i2), fun k => if k = 0 then aI else if k = 1 then aO else if k = 2 then aJ else aD, ⟨?_, ?_⟩, ?_, ?_, ?_, va_AO.of hO⟩
  · intro k q hq
    match k, hq with
    | 0, hq => cases hq; exact hK0
    | 1, hq => cases hq; exact hK1
    | 2, hq => cases hq; exact hK2
    | k + 3, hq => simp [vwCl] at hq
  · intro k q hq
    match k, hq with
    | 0, hq => cases hq; exact ⟨hI1, hI2⟩
    | 1, hq => cases hq; exact ⟨fun n z => ⟨fun k h => (by cases h), kO, h3, comp, h4⟩, kO, comp, h3, h4, h1, h5⟩
    | 2, hq => cases hq; exact ⟨hJ1, hJ2⟩
    | 3, hq => cases hq; exact ⟨hD1, hD2⟩
    | k + 4, hq => simp [tysOf] at hq
  · exact fun w hw hk => st_any hk (hts w hw)
  · intro q hq
    have hm : Cond.stringRef q.1 q.2.1 q.2.2 ∈ [238, 274, 302, 309, 317, 340, 341, 353, 400, 464, 472, 480, 488].filterMap (fun i => tables_1[i]?) := by
      rw [← st_strs]
      exact List.mem_map.mpr ⟨q, hq, rfl⟩
    obtain ⟨i, -, hi⟩ := List.mem_filterMap.mp hm
    have hw := st_word hts hi
    have hown : q.1 = RX1 := by
      have h9 : ∀ q ∈ strs, q.1 = RX1 := by decide +kernel
      exact h9 q hq
    obtain ⟨kk, cf, j, a, f1, f2, f3, f4, f5, f6⟩ := Cond.stringRef_spec (cls := q.1) (by rw [hown]; exact hK1.2.1) hw
    exact ⟨a, vk_R.of hw f6⟩
  · intro q hq
    exact va_Nc.of (flat_of_before _ hgv _ (st_nons q hq))
theorem zs_start (hts : ∀ w ∈ lw_tbl, w.before args s = true) (hgv : (Jvm.Cond.and given_1 narrow_1).before args s = true) : Zs (fun q => s.heap.size ≤ q) s s.heap := by
  have hini := st_word (w := .initialized Bundle.tN) hts (i := 4) (by decide +kernel)
  refine ⟨vx_Zqof (st_word hts (i := 224) (by decide +kernel)) hini (flat_of_before _ hgv _ (by decide +kernel)) (fun a h q => absurd q (Nat.not_le.mpr h)), vx_Zqof (st_word hts (i := 226) (by decide +kernel)) hini (flat_of_before _ hgv _ (by decide +kernel)) (fun a h q => absurd q (Nat.not_le.mpr h))⟩
end STT
/-! THE CLAIM OUT OF ONE WALK OF THE LAW'S BODY. Your part is whole_start (and what it stands on); all else here is the same for every law, but numbers. -/
def R_law : String := "FairHandfulLaw"
def lw_P (b : Addr) (xs : List Int32) (args : Array Value) (s : State) : Prop := args = #[.ref b] ∧ s.IntsAt b xs ∧ xs.length ≤ 2560 ∧ (Jvm.Cond.and given_1 narrow_1).before args s = true
/-- what a walk over the start with the record d0 says of its end, said of the start itself -/
theorem lw_closed {s t : State} {o : Outcome} {d0 : Drawn} {L : List Loc} {k n : Nat} (hd0 : s.drawn.sameBut d0 lw_cs) (hv : ∃ v, o = .returned v) (hW : (s.setDrawn d0).WarmedH t.vm) (hs : (s.setDrawn d0).sameButNew ({ t with vm := s.vm } : State) L k n) : State.butDraws s t lw_cs (fun t1 => Framed s o t1 L k n) := by
  have h2 : t.drawn = d0 := congrArg State.drawn hs.1
  refine ⟨⟨hv, hW, State.sameButNew.setDrawn hs s.drawn⟩, ?_, by decide⟩
  rw [h2]
  exact hd0
def lw_Q (_ : Array Value) (s : State) (o : Outcome) (t : State) : Prop := o = .returned (some (.int 1)) ∧ State.butDraws s t lw_cs (fun t1 => Framed s o t1 [] 601024 7293034)
def lw_Z (below : List Frame) (a : Array Value) (s : State) : State → Prop := fun t => ∃ o, t.status = .running ∧ Ended t below o ∧ lw_Q a s o t
/-- the law's own end, with 1 on the stack, nothing written that was there before, its room as the claim has it; d0: the record of draws at this point (at the entry s.drawn: begin with 'refine W.base ?_' and 'have hd0 := Drawn.sameBut.refl s.drawn lw_cs') -/
theorem lw_ret {p : Program} {l : Launch} {e : Env} {s : State} {m : MethodId} {below : List Frame} {meth : Method} {c : Code} {b : Nat} {d0 : Drawn} (hd0 : s.drawn.sameBut d0 lw_cs) (hx : p.tables.exec = Jvm.exec) (hb : c.code = code) (hr : meth.sig.returnType = ret) (hlocks : meth.locks = false) {pc : Nat} {H : Heap} {ls : Array Slot} (hdg : decode code pc = .ok (.ireturn, 1)) : W p l e room_1 (s.setDrawn d0) m #[Value.ref b] below meth c H [] 601024 7293034 (lw_Z below #[Value.ref b] s) (F0 m pc ls [.int 1]) := by
  intro T hT X
  obtain ⟨fs, hret, hrun, hended, hW, hframe⟩ := X.leave (v := some (.int 1)) (hlocks := hlocks) (fun h => by rw [hr] at h; cases h)
  have hmeth' : T.vm.method? m = some meth := X.method'
  refine ⟨T.setFrames fs, ?_, .returned (some (.int 1)), hrun, hended, rfl, lw_closed hd0 ⟨_, rfl⟩ hW hframe⟩
  jvm_step X.here [X.here.top, hx, hb, hdg, hmeth', hr, ret, narrow_b1]
  (try refine ⟨rfl, ?_⟩); (try refine ⟨rfl, ?_⟩)
  first | (intro acts; rw [hret _ acts rfl rfl rfl]) | rw [hret _ _ rfl rfl rfl]
  exact Steps.refl _
/-- what holds at the law's entry: the machine, the code, the tables' words (any of lw_tbl by 'hts w (by decide +kernel)'), the script of L ints xs at the cell b, what the Statement gives of the start (any of its parts by flat_of_before) -/
def lw_At (p : Program) (s : State) (m : MethodId) (meth : Method) (c : Code) (b L : Nat) (xs : Nat → Int32) : Prop :=
  p.tables.exec = Jvm.exec ∧ c.code = code ∧ meth.sig.returnType = ret ∧ c.maxLocals = 9 ∧ s.vm.findClass R_law = some m.cls ∧ (∀ w ∈ lw_tbl, w.before #[Value.ref b] s = true) ∧ va_X b L xs s s.heap ∧ b < s.heap.size ∧ meth.locks = false ∧ (Jvm.Cond.and given_1 narrow_1).before #[Value.ref b] s = true
set_option maxHeartbeats 4000000 in
set_option maxRecDepth 100000 in
/-- from the entry, for every script of at most 2560 ints, the law comes to its end with true -/
theorem whole_start {p : Program} {e : Env} {s : State} {m : MethodId} {below : List Frame} {meth : Method} {c : Code} (l : Launch) (hflags : l.flags = flags0) {b L : Nat} {xs : Nat → Int32} (hL : L ≤ 2560) (C0 : lw_At p s m meth c b L xs) : W p l e room_1 s m #[Value.ref b] below meth c s.heap [] 0 0 (lw_Z below #[Value.ref b] s) (entryFrame m ([Value.ref b] : List Value).toArray 9) := by
  obtain ⟨hx, hb, hr, hml, hown, hts, hX, hbl, hlocks, hgv⟩ := id C0
  obtain ⟨D, cA, hE⟩ := ev_start hts hgv
  have hZ := zs_start hts hgv
  have hfl : l.stackTraces = false := by unfold Launch.stackTraces; rw [hflags]; decide
  have hS : va_S (fun q : Nat => s.heap.size ≤ q) s.heap s.heap [] := va_S.rf
  have C1 : Cx p s m c cL_law 9 RL D cA 0 (fun _ => 0) (fun q => s.heap.size ≤ q) := ⟨hx, hb, hml, hown, hE, hZ, ⟨fun i j h => absurd h (Nat.not_lt_zero _), fun i h => absurd h (Nat.not_lt_zero _)⟩, fun q h => h⟩
  have hP : va_P D vwCl (wl 0 (fun _ => 0) (fun _ => .inr (0, []))) s.heap := fun k q h => by simp [wl] at h
  have hl := lv_entry ([.ref b]) (n := 9) (Nat.le_of_ble_eq_true rfl)
  rw [lg_entry_eq]
  generalize (lg_sl ([.ref b]) ++ List.replicate (9 - (lg_sl ([.ref b])).length) Slot.unset).toArray = ls at hl ⊢
  have hl : lv_has ls 9 [(0, .ref b)] := hl
  refine g_newA C1 hP hS (Nat.le_of_ble_eq_true rfl) (Nat.le_of_ble_eq_true rfl) dL_law_0 (fun q0 H C1 hP hS => ?_)
  refine lv_dup hx hb dL_law_3 rfl ?_
  have hst : (Value.ref q0) = .ref (va_up (fun _ => 0) 0 q0 0) := by rw [up_at']
  refine k_gv (rn_L_104 (As := []) (rest := [.ref q0]) (r := 0) C1 (m_X1_init l D cA _ _ _ rfl up_at _) hP hS rfl ⟨rfl, rfl⟩ ⟨Nat.le_of_ble_eq_true rfl, Nat.le_of_ble_eq_true rfl⟩ hl.1 (by rw [← hst]; rfl) (Nat.le_of_ble_eq_true rfl) dL_law_4 ⟨Nat.le_of_ble_eq_true rfl, Nat.le_of_ble_eq_true rfl⟩) C1 hP hS (fun ad1 c1 H locs hp C1 hP hS => ?_)
  obtain ⟨e0, hF, hH⟩ := hp
  dsimp only at e0 hF hH
  rw [up_at'] at e0
  rw [← e0]
  refine lv_astore_n (lv' := [(1, .ref (ad1 0)), (0, .ref b)]) hx hb dL_law_7 rfl hl (by decide) rfl (fun ls hl => ?_)
  refine g_newB C1 hP hS (Nat.le_of_ble_eq_true rfl) (Nat.le_of_ble_eq_true rfl) dL_law_8 (fun q6 H C1 hP hS => ?_)
  refine lv_dup hx hb dL_law_11 rfl ?_
  have hst6 : (Value.ref q6) = .ref (va_up ad1 6 q6 6) := by rw [up_at']
  refine k_gv (rn_L_107 (As := []) (rest := [.ref q6]) (r := 6) C1 (m_X2_init l D cA _ _ _ rfl up_at _) hP hS rfl ⟨rfl, rfl⟩ ⟨Nat.le_of_ble_eq_true rfl, Nat.le_of_ble_eq_true rfl⟩ hl.1 (by rw [← hst6]; rfl) (Nat.le_of_ble_eq_true rfl) dL_law_12 ⟨Nat.le_of_ble_eq_true rfl, Nat.le_of_ble_eq_true rfl⟩) C1 hP hS (fun ad2 c2 H locs hp C1 hP hS => ?_)
  obtain ⟨h1, h2, hM⟩ := hp
  dsimp only at h1 h2 hM
  have f0 : ∀ r, r < 6 → ad2 r = ad1 r := fun r hr => by rw [h1 r (by omega), va_up_ne _ _ (by omega)]
  have g0 : ∀ r, r < 6 → c2 r = c1 r := fun r hr => by rw [h2 r (by omega), va_up_ne _ _ (by omega)]
  have f6 : ad2 6 = q6 := by rw [h1 6 (by omega)]; exact up_at'
  rw [← f6]
  rw [← f0 0 (by omega)] at hl
  refine lv_astore_n (lv' := [(2, .ref (ad2 6)), (1, .ref (ad2 0)), (0, .ref b)]) hx hb dL_law_15 rfl hl (by decide) rfl (fun ls hl => ?_)
  refine lv_iconst (v := nI 1) hx hb dL_law_16 rfl ?_
  refine g_newJ C1 hP hS (by decide) (Nat.le_of_ble_eq_true rfl) (Nat.le_of_ble_eq_true rfl) dL_law_17 (fun q10 H C1 hP hS => ?_)
  refine lv_astore_n (lv' := [(3, .ref q10), (2, .ref (ad2 6)), (1, .ref (ad2 0)), (0, .ref b)]) hx hb dL_law_19 rfl hl (by decide) rfl (fun ls hl => ?_)
  refine lv_iconst (v := nI 1) hx hb dL_law_20 rfl ?_
  refine g_newD C1 hP hS (by decide) (Nat.le_of_ble_eq_true rfl) (Nat.le_of_ble_eq_true rfl) dL_law_21 (fun q11 H C1 hP hS => ?_)
  obtain ⟨ad, had⟩ : ∃ ad, ad = va_up (va_up ad2 10 q10) 11 q11 := ⟨_, rfl⟩
  obtain ⟨c4, hc4⟩ : ∃ c4, c4 = va_up (va_up c2 10 (.inl (cA 2, 1, .inr (.inl (fun _ => 0))))) 11 (.inl (cA 3, 1, .inr (.inr (.inr (.inl (fun _ => 0)))))) := ⟨_, rfl⟩
  rw [← had] at C1 hP
  rw [← hc4] at hP
  have a10 : ad 10 = q10 := by rw [had, va_up_ne _ _ (by omega)]; exact up_at'
  have a11 : ad 11 = q11 := by rw [had]; exact up_at'
  have ar : ∀ r, r < 10 → ad r = ad2 r := fun r hr => by rw [had, va_up_ne _ _ (by omega), va_up_ne _ _ (by omega)]
  have cr : ∀ r, r < 10 → c4 r = c2 r := fun r hr => by rw [hc4, va_up_ne _ _ (by omega), va_up_ne _ _ (by omega)]
  have ar1 : ∀ r, r < 6 → ad r = ad1 r := fun r hr => (ar r (by omega)).trans (f0 r hr)
  have cr1 : ∀ r, r < 6 → c4 r = c1 r := fun r hr => (cr r (by omega)).trans (g0 r hr)
  rw [← a10, ← ar 6 (by omega), ← ar 0 (by omega)] at hl
  rw [← a11]
  refine lv_astore (lv' := [(4, .ref (ad 11)), (3, .ref (ad 10)), (2, .ref (ad 6)), (1, .ref (ad 0)), (0, .ref b)]) hx hb dL_law_23 hl (by decide) rfl (fun ls hl => ?_)
  refine lv_iconst (v := nI 0) hx hb dL_law_25 rfl ?_
  refine lv_istore (lv' := [(5, .int (nI 0)), (4, .ref (ad 11)), (3, .ref (ad 10)), (2, .ref (ad 6)), (1, .ref (ad 0)), (0, .ref b)]) hx hb dL_law_26 hl (by decide) rfl (fun ls hl => ?_)
  have hI : Inv ad cA c4 12 0 (fun _ _ => 0) (fun _ _ _ => nI 0) (nI 0) (fun _ => nI 0) (fun _ => nI 0) (fun _ => nI 0) (fun _ => 0) (fun _ => 0) (200 * 0) := by
    refine ⟨rfl, by omega, ⟨?_, ?_, by omega⟩, ⟨1, 0, 0, 0, 0, 0, fun _ _ => nI 0, ?_⟩, fun i hi => absurd hi (Nat.not_lt_zero i), fun i hi => absurd hi (Nat.not_lt_zero i), Nat.zero_le _, ?_, fun i hi => absurd hi (Nat.not_lt_zero i), fun i hi => absurd hi (Nat.not_lt_zero i), fun _ _ _ => rfl, ?_, ?_⟩
    · rw [cr1 0 (by omega), hF.1, ar1 1 (by omega), ar1 2 (by omega)]
    · rw [cr1 1 (by omega), hF.2.1, tbl_0, tbl_0]
    · exact (hH.ext (ar1 3 (by omega)) (ar1 4 (by omega)) (ar1 5 (by omega))).cg (fun r h3 h4 => cr1 r (by omega))
    · exact (hM.ext ar).cg (fun r h3 h4 => cr r h4)
    · rw [hc4, va_up_ne _ _ (by omega)]; exact up_at
    · rw [hc4]; exact up_at
  refine W.widen (k := 20 + 5 * 0) (n := 600 + 65 * 0) (Nat.le_of_ble_eq_true rfl) (Nat.le_of_ble_eq_true rfl) ?_
  refine l_loop l hfl D cA b L xs hX hbl hL ?_ (L + 1) 0 12 0 ad c4 _ _ _ _ _ _ _ _ (Nat.zero_le _) (by omega) C1 hI _ _ _ hP hS (lv_sub hl [5, 4, 3, 2, 1, 0] rfl)
  intro H locs ls hS
  refine va_forget (fun q hq => hS.2.2 q hq) ?_
  exact W.base (lw_ret (Drawn.sameBut.refl s.drawn lw_cs) hx hb hr hlocks dL_law_2055)
