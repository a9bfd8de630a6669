/-! the law's start -/
section STT
variable {p : Program} {l : Launch} {e : Env} {R : Room} {s : State} {m : MethodId} {args : Array Value} {below : List Frame} {meth : Method} {c0 : Code} {H : Heap} {locs : List Loc} {cells slots : Nat} {Q : State → Prop}
variable {cc : ByteArray} {nL : Nat} {own : String} {D : va_G} {cA : Nat → ClassId} {N : Nat} {ad : Nat → Nat} {A : Nat → Prop} {pc : Nat} {ls : Array Slot} {rest st0 : List Value} {c : Nat → va_E} {b : Nat}
/-- the class's object, not yet begun -/
theorem g_newA (C0 : Cx p s m c0 cc nL RL D cA N ad A) (hP : va_P D vwCl (wl N ad c) H) (hS : va_S A s.heap H locs) (hcells : cells + 1 ≤ R.cells) (hslots : slots + 2 ≤ R.slots) (hdg : decode cc pc = .ok (.new 9, 3))
    (kk : ∀ (q : Nat) (H1 : Heap), Cx p s m c0 cc nL RL D cA (N + 1) (va_up ad N q) A → va_P D vwCl (wl (N + 1) (va_up ad N q) (va_up c N (.inr (1, [.null, .null])))) H1 → va_S A s.heap H1 locs → W p l e R s m args below meth c0 H1 locs (cells + 1) (slots + 2) Q (F0 m (pc + 3) ls (.ref q :: rest))) : W p l e R s m args below meth c0 H locs cells slots Q (F0 m pc ls rest) := by
  refine va_new (ci := 1) (fs := [.null, .null]) (C := RX1) (T := TX1) (N := 2) C0.1 C0.2.1 (layX1 C0.2.2.2.2.1 args) (fun _ h => h) tyX1 tyX1_ok C0.2.2.2.1 (C0.2.2.2.2.1.2.1 (.classLink RL 9 RX1) (List.mem_append_right _ (List.mem_of_getElem? (i := 10) (by decide +kernel : tables_1[10]? = some (.classLink RL 9 RX1)))) (by decide +kernel) args) (C0.2.2.2.2.1.2.1 (.instantiable RX1 2) (List.mem_append_right _ (List.mem_of_getElem? (i := 11) (by decide +kernel : tables_1[11]? = some (.instantiable RX1 2)))) (by decide +kernel) args) (wd_ini_X1 C0.2.2.2.2.1 args) C0.2.2.2.2.1.1 hP (C0.2.2.2.2.2.2.1.D c) hS C0.2.2.2.2.2.2.2 rfl (fun j hj => by rcases (show j = 0 ∨ j = 1 by omega) with rfl | rfl <;> rfl) hcells hslots hdg (fun q H1 hP1 hD1 hS1 => ?_)
  rw [wl_push] at hP1 hD1
  exact kk q H1 (C0.grow (dA.of hD1)) hP1 hS1
/-! what the Statement gives of the start -/
theorem st_lay {C : String} {T : u_T} {n : Nat} {ix : List Nat} (hts : ∀ w ∈ lw_tbl, w.before args s = true) (h0 : u_ws C T n = ix.filterMap (fun i => tables_1[i]?)) : ∀ w ∈ u_ws C T n, w.before args s = true := by
  intro w hw
  rw [h0] at hw
  obtain ⟨i, -, hi⟩ := List.mem_filterMap.mp hw
  exact hts w (List.mem_append_right _ (List.mem_of_getElem? hi))
theorem st_word {w : Cond} (hts : ∀ w ∈ lw_tbl, w.before args s = true) {i : Nat} (h : tables_1[i]? = some w) : w.before args s = true := hts w (List.mem_append_right _ (List.mem_of_getElem? h))
theorem st_any {w : Cond} (hk : evOk w = true) (h : w.before args s = true) : ∀ a : Array Value, w.before a s = true := by
  intro a
  by_cases hg : goodWord w = true
  · exact word_at (State.WarmedH.refl s) (good_of_word hg) h
  · have hn : evN w = true := by
      unfold evOk at hk
      cases hgw : goodWord w with
      | true => exact absurd hgw hg
      | false => rw [hgw] at hk; simpa using hk
    cases w with
    | fieldLinkNest => exact va_Nw.use rfl (va_Nw.of rfl h)
    | methodLinkNest => exact va_Nw.use rfl (va_Nw.of rfl h)
    | castable => exact va_Nw.use rfl (va_Nw.of rfl h)
    | declares => exact va_Nw.use rfl (va_Nw.of rfl h)
    | _ => exact absurd hn (by simp [evN])
theorem st_arr {ty : FieldType} (h : (Cond.arrayClass ty).before args s = true) : ∃ c, ArrOfT s c ty ∧ s.vm.findClass ("[" ++ ty.toString) = some c := by
  obtain ⟨c, k, comp, h1, h2, h3⟩ := Cond.arrayClass_spec h
  exact ⟨c, fun n z => ⟨fun k h => (by cases h), k, h2, comp, h3⟩, h1⟩
theorem st_strs : strs.map (fun q => Cond.stringRef q.1 q.2.1 q.2.2) = [118, 158, 182, 189, 209, 229, 259, 367, 368, 384, 397].filterMap (fun i => tables_1[i]?) := by decide +kernel
theorem st_nons : ∀ q ∈ nons, Cond.not (.castable q.1 q.2) ∈ flatC (Jvm.Cond.and given_1 narrow_1) := by decide +kernel
theorem ev_start (hts : ∀ w ∈ lw_tbl, w.before args s = true) (hgv : (Jvm.Cond.and given_1 narrow_1).before args s = true) : ∃ D cA, Ev D cA s := by
  obtain ⟨k0, i0, hK0⟩ := u_known (st_lay (C := RX0) (T := TX0) (n := 9) (ix := [43, 45, 47, 49, 51, 53, 55, 57, 59]) hts (by decide +kernel)) (fun _ h => h) (st_word (w := .instantiable RX0 9) hts (i := 20) (by decide +kernel))
  obtain ⟨k1, i1, hK1⟩ := u_known (st_lay (C := RX1) (T := TX1) (n := 2) (ix := [65, 67]) hts (by decide +kernel)) (fun _ h => h) (st_word (w := .instantiable RX1 2) hts (i := 11) (by decide +kernel))
  obtain ⟨aI, hI1, hI2⟩ := st_arr (st_word (w := .arrayClass .int) hts (i := 62) (by decide +kernel))
  have hO := st_word (w := .arrayOver (.object "FairHandful$Hand")) hts (i := 19) (by decide +kernel)
  obtain ⟨comp, aO, kO, h1, h2, h3, h4, h5⟩ := Cond.arrayOver_spec hO
  refine ⟨(fun k => if k = 0 then k0 else k1, fun k => if k = 0 then i0 else i1), fun k => if k = 0 then aI else aO, ⟨?_, ?_⟩, ?_, ?_, ?_, va_AO.of hO⟩
  · intro k q hq
    match k, hq with
    | 0, hq => cases hq; exact hK0
    | 1, hq => cases hq; exact hK1
    | k + 2, hq => simp [vwCl] at hq
  · intro k q hq
    match k, hq with
    | 0, hq => cases hq; exact ⟨hI1, hI2⟩
    | 1, hq => cases hq; exact ⟨fun n z => ⟨fun k h => (by cases h), kO, h3, comp, h4⟩, kO, comp, h3, h4, h1, h5⟩
    | k + 2, hq => simp [tysOf] at hq
  · exact fun w hw hk => st_any hk (hts w hw)
  · intro q hq
    have hm : Cond.stringRef q.1 q.2.1 q.2.2 ∈ [118, 158, 182, 189, 209, 229, 259, 367, 368, 384, 397].filterMap (fun i => tables_1[i]?) := by
      rw [← st_strs]
      exact List.mem_map.mpr ⟨q, hq, rfl⟩
    obtain ⟨i, -, hi⟩ := List.mem_filterMap.mp hm
    have hw := st_word hts hi
    have hown : q.1 = RX1 := by
      have h9 : ∀ q ∈ strs, q.1 = RX1 := by decide +kernel
      exact h9 q hq
    obtain ⟨kk, cf, j, a, f1, f2, f3, f4, f5, f6⟩ := Cond.stringRef_spec (cls := q.1) (by rw [hown]; exact hK1.2.1) hw
    exact ⟨a, vk_R.of hw f6⟩
  · intro q hq
    exact va_Nc.of (flat_of_before _ hgv _ (st_nons q hq))
theorem zs_start (hts : ∀ w ∈ lw_tbl, w.before args s = true) (hgv : (Jvm.Cond.and given_1 narrow_1).before args s = true) : Zs (fun q => s.heap.size ≤ q) s s.heap := by
  have hini := st_word (w := .initialized Bundle.tN) hts (i := 3) (by decide +kernel)
  refine ⟨vx_Zqof (st_word hts (i := 104) (by decide +kernel)) hini (flat_of_before _ hgv _ (by decide +kernel)) (fun a h q => absurd q (Nat.not_le.mpr h)), vx_Zqof (st_word hts (i := 106) (by decide +kernel)) hini (flat_of_before _ hgv _ (by decide +kernel)) (fun a h q => absurd q (Nat.not_le.mpr h))⟩
end STT
/-! THE CLAIM OUT OF ONE WALK OF THE LAW'S BODY. Your part is whole_start (and what it stands on); all else here is the same for every law, but numbers. -/
def R_law : String := "FairHandfulLaw"
def lw_P (b : Addr) (xs : List Int32) (args : Array Value) (s : State) : Prop := args = #[.ref b] ∧ s.IntsAt b xs ∧ xs.length ≤ 260 ∧ (Jvm.Cond.and given_1 narrow_1).before args s = true
def lw_Q (_ : Array Value) (s : State) (o : Outcome) (t : State) : Prop := o = .returned (some (.int 1)) ∧ Framed s o t [] 600104 7301314
def lw_Z (below : List Frame) (a : Array Value) (s : State) : State → Prop := fun t => ∃ o, t.status = .running ∧ Ended t below o ∧ lw_Q a s o t
/-- the law's own end, with 1 on the stack, nothing written that was there before, its room as the claim has it -/
theorem lw_ret {p : Program} {l : Launch} {e : Env} {s : State} {m : MethodId} {below : List Frame} {meth : Method} {c : Code} {b : Nat} (hx : p.tables.exec = Jvm.exec) (hb : c.code = code) (hr : meth.sig.returnType = ret) (hlocks : meth.locks = false) {pc : Nat} {H : Heap} {ls : Array Slot} (hdg : decode code pc = .ok (.ireturn, 1)) : W p l e room_1 s m #[Value.ref b] below meth c H [] 600104 7301314 (lw_Z below #[Value.ref b] s) (F0 m pc ls [.int 1]) := by
  intro T hT X
  obtain ⟨fs, hret, hrun, hended, hW, hframe⟩ := X.leave (v := some (.int 1)) (hlocks := hlocks) (fun h => by rw [hr] at h; cases h)
  have hmeth' : T.vm.method? m = some meth := X.method'
  refine ⟨T.setFrames fs, ?_, .returned (some (.int 1)), hrun, hended, rfl, ⟨_, rfl⟩, hW, hframe⟩
  jvm_step X.here [X.here.top, hx, hb, hdg, hmeth', hr, ret, narrow_b1]
  (try refine ⟨rfl, ?_⟩); (try refine ⟨rfl, ?_⟩)
  first | (intro acts; rw [hret _ acts rfl rfl rfl]) | rw [hret _ _ rfl rfl rfl]
  exact Steps.refl _
/-- what holds at the law's entry: the machine, the code, the tables' words (any of lw_tbl by 'hts w (by decide +kernel)'), the script of L ints xs at the cell b, what the Statement gives of the start (any of its parts by flat_of_before) -/
def lw_At (p : Program) (s : State) (m : MethodId) (meth : Method) (c : Code) (b L : Nat) (xs : Nat → Int32) : Prop :=
  p.tables.exec = Jvm.exec ∧ c.code = code ∧ meth.sig.returnType = ret ∧ c.maxLocals = 17 ∧ s.vm.findClass R_law = some m.cls ∧ (∀ w ∈ lw_tbl, w.before #[Value.ref b] s = true) ∧ va_X b L xs s s.heap ∧ b < s.heap.size ∧ meth.locks = false ∧ (Jvm.Cond.and given_1 narrow_1).before #[Value.ref b] s = true
set_option maxHeartbeats 4000000 in
set_option maxRecDepth 100000 in
/-- from the entry, for every script of at most 260 ints, the law comes to its end with true -/
theorem whole_start {p : Program} {e : Env} {s : State} {m : MethodId} {below : List Frame} {meth : Method} {c : Code} (l : Launch) (hflags : l.flags = flags0) {b L : Nat} {xs : Nat → Int32} (hL : L ≤ 260) (C0 : lw_At p s m meth c b L xs) : W p l e room_1 s m #[Value.ref b] below meth c s.heap [] 0 0 (lw_Z below #[Value.ref b] s) (entryFrame m ([Value.ref b] : List Value).toArray 17) := by
  obtain ⟨hx, hb, hr, hml, hown, hts, hX, hbl, hlocks, hgv⟩ := id C0
  obtain ⟨D, cA, hE⟩ := ev_start hts hgv
  have hZ := zs_start hts hgv
  have hfl : l.stackTraces = false := by unfold Launch.stackTraces; rw [hflags]; decide
  have hS : va_S (fun q : Nat => s.heap.size ≤ q) s.heap s.heap [] := va_S.rf
  have C1 : Cx p s m c cL_law 17 RL D cA 0 (fun _ => 0) (fun q => s.heap.size ≤ q) := ⟨hx, hb, hml, hown, hE, hZ, ⟨fun i j h => absurd h (Nat.not_lt_zero _), fun i h => absurd h (Nat.not_lt_zero _)⟩, fun q h => h⟩
  have hP : va_P D vwCl (wl 0 (fun _ => 0) (fun _ => .inr (0, []))) s.heap := fun k q h => by simp [wl] at h
  have hl := lv_entry ([.ref b]) (n := 17) (Nat.le_of_ble_eq_true rfl)
  rw [lg_entry_eq]
  generalize (lg_sl ([.ref b]) ++ List.replicate (17 - (lg_sl ([.ref b])).length) Slot.unset).toArray = ls at hl ⊢
  have hl : lv_has ls 17 [(0, .ref b)] := hl
  refine g_newA C1 hP hS (Nat.le_of_ble_eq_true rfl) (Nat.le_of_ble_eq_true rfl) dL_law_0 (fun q0 H C1 hP hS => ?_)
  refine lv_dup hx hb dL_law_3 rfl ?_
  have hst : (Value.ref q0) = .ref (va_up (fun _ => 0) 0 q0 0) := by rw [up_at']
  refine k_gv (rn_L_11 (As := []) (rest := [.ref q0]) (r := 0) C1 (m_X1_init l D cA _ _ _ rfl up_at _) hP hS rfl ⟨rfl, rfl⟩ ⟨Nat.le_of_ble_eq_true rfl, Nat.le_of_ble_eq_true rfl⟩ hl.1 (by rw [← hst]; rfl) (Nat.le_of_ble_eq_true rfl) dL_law_4 ⟨Nat.le_of_ble_eq_true rfl, Nat.le_of_ble_eq_true rfl⟩) C1 hP hS (fun ad c1 H locs hp C1 hP hS => ?_)
  obtain ⟨e0, hF, hH⟩ := hp
  dsimp only at e0 hF hH
  rw [up_at'] at e0
  rw [← e0]
  refine lv_astore_n (lv' := [(1, .ref (ad 0)), (0, .ref b)]) hx hb dL_law_7 rfl hl (by decide) rfl (fun ls hl => ?_)
  have hI : Inv ad cA c1 6 0 (fun _ _ => 0) (fun _ _ _ => nI 0) 0 := ⟨rfl, by omega, hF, ⟨1, 0, 0, 0, 0, 0, fun _ _ => nI 0, hH⟩, fun i hi => absurd hi (Nat.not_lt_zero i), fun i hi => absurd hi (Nat.not_lt_zero i), Nat.zero_le _, fun i hi => absurd hi (Nat.not_lt_zero i)⟩
  refine lv_iconst (v := nI 2) hx hb dL_law_8 rfl ?_
  refine lv_aload_n hx hb dL_law_9 rfl (lv_at hl 1 rfl) ?_
  refine lv_iconst (v := nI 0) hx hb dL_law_10 rfl ?_
  refine k0_i (rnx_L_12 (As := [.ref b, .int (nI 0)]) (rest := [.int (nI 2)]) C1 (m_L_cell l D cA 6 ad (c1) b L xs (0) (by omega) (by omega) _) hP hS hX hbl (Nat.not_le.mpr hbl) rfl ⟨rfl, rfl⟩ ⟨Nat.le_of_ble_eq_true rfl, Nat.le_of_ble_eq_true rfl⟩ hl.1 rfl (Nat.le_of_ble_eq_true rfl) dL_law_11 ⟨Nat.le_of_ble_eq_true rfl, Nat.le_of_ble_eq_true rfl⟩) C1 hP hS (fun v11 c11 H locs hp hP hS => ?_)
  obtain rfl := hp
  refine lv_iconst (v := nI 4) hx hb dL_law_14 rfl ?_
  refine k0_i (rn_L_18 (As := [.int v11, .int (nI 4)]) (rest := [.int (nI 2)]) C1 (m_L_below l D cA 6 ad (c1) (v11) 4 (by omega) (by omega) _) hP hS rfl ⟨rfl, rfl⟩ ⟨Nat.le_of_ble_eq_true rfl, Nat.le_of_ble_eq_true rfl⟩ hl.1 rfl (Nat.le_of_ble_eq_true rfl) dL_law_15 ⟨Nat.le_of_ble_eq_true rfl, Nat.le_of_ble_eq_true rfl⟩) C1 hP hS (fun v15 c15 H locs hp hP hS => ?_)
  obtain ⟨⟨u15, hu15, rfl⟩, rfl⟩ := hp
  refine n_iadd hx hb dL_law_18 ?_
  refine lv_istore_n (lv' := [(2, .int (nI (2 + u15))), (1, .ref (ad 0)), (0, .ref b)]) hx hb dL_law_19 rfl hl (by decide) rfl (fun ls hl => ?_)
  refine lv_iconst (v := nI 0) hx hb dL_law_20 rfl ?_
  refine lv_istore_n (lv' := [(3, .int (nI 0)), (2, .int (nI (2 + u15))), (1, .ref (ad 0)), (0, .ref b)]) hx hb dL_law_21 rfl hl (by decide) rfl (fun ls hl => ?_)
  refine W.widen (k := 6 + 4 * 0) (n := 40 + 33 * 0) (Nat.le_of_ble_eq_true rfl) (Nat.le_of_ble_eq_true rfl) ?_
  refine l_add l hfl D cA b (2 + u15) L xs hX hbl hL (by omega) (by omega) ?_ (2 + u15) 0 6 ad c1 (fun _ _ => 0) (fun _ _ _ => nI 0) (by omega) (by omega) C1 hI _ _ _ hP hS (lv_sub hl [3, 2, 1, 0] rfl)
  intro H locs ls hS
  refine va_forget (fun q hq => hS.2.2 q hq) ?_
  exact lw_ret hx hb hr hlocks dL_law_604
