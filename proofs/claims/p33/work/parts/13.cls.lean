/-! the class: n hands -/
def tbl (ad : Nat → Nat) (n : Nat) : Nat → Option Nat := fun i => if i < n then some (ad (6 + 4 * i)) else none
theorem tbl_ref {ad : Nat → Nat} {n i : Nat} (h : i < n) : va_rf (tbl ad n i) = .ref (ad (6 + 4 * i)) := by simp [tbl, h, va_rf]
theorem tbl_null {ad : Nat → Nat} {n i : Nat} (h : n ≤ i) : va_rf (tbl ad n i) = .null := by simp [tbl, Nat.not_lt.mpr h, va_rf]
def FH (ad : Nat → Nat) (cA : Nat → ClassId) (c : Nat → va_E) (n : Nat) : Prop := c 0 = .inr (1, [.ref (ad 1), .ref (ad 2)]) ∧ c 1 = .inl (cA 1, 5, .inr (.inr (.inr (.inr (tbl ad n))))) ∧ n ≤ 5
section FHs
variable {ad : Nat → Nat} {cA : Nat → ClassId} {c c' : Nat → va_E} {n b R Y L S D K : Nat} {st : Nat → Nat → Int32}
theorem FH.same (h : FH ad cA c n) (h0 : c' 0 = c 0) (h1 : c' 1 = c 1) : FH ad cA c' n := ⟨h0.trans h.1, h1.trans h.2.1, h.2.2⟩
theorem FH.hwo (h : FH ad cA c n) (hb : 2 ≤ b) : FH ad cA (hw ad cA c b R Y L S D K st) n := h.same (hw_ne (by omega)) (hw_ne (by omega))
/-- only the trial hand has changed -/
def Tr (ad : Nat → Nat) (cA : Nat → ClassId) (c c' : Nat → va_E) : Prop := ∃ (R Y L S D K : Nat) (st : Nat → Nat → Int32), c' = hw ad cA c 2 R Y L S D K st
def TrAt (ad : Nat → Nat) (cA : Nat → ClassId) (c : Nat → va_E) : Prop := ∃ (R Y L S D K : Nat) (st : Nat → Nat → Int32), HandAt ad cA c 2 R Y L S D K st
theorem Tr.at (h : Tr ad cA c c') : TrAt ad cA c' := by
  obtain ⟨R, Y, L, S, D, K, st, rfl⟩ := h
  exact ⟨R, Y, L, S, D, K, st, hw_at⟩
theorem Tr.trans {c'' : Nat → va_E} (h : Tr ad cA c c') (h' : Tr ad cA c' c'') : Tr ad cA c c'' := by
  obtain ⟨R, Y, L, S, D, K, st, rfl⟩ := h
  obtain ⟨R', Y', L', S', D', K', st', rfl⟩ := h'
  exact ⟨R', Y', L', S', D', K', st', hw_hw⟩
theorem TrAt.rf (h : TrAt ad cA c) : Tr ad cA c c := by
  obtain ⟨R, Y, L, S, D, K, st, h⟩ := h
  exact ⟨R, Y, L, S, D, K, st, (hw_self h).symm⟩
theorem Tr.ne (h : Tr ad cA c c') {r : Nat} (hr : r < 2 ∨ 6 ≤ r) : c' r = c r := by
  obtain ⟨R, Y, L, S, D, K, st, rfl⟩ := h
  exact hw_ne hr
theorem FH.tr (h : FH ad cA c n) (ht : Tr ad cA c c') : FH ad cA c' n := h.same (ht.ne (by omega)) (ht.ne (by omega))
theorem HandAt.tr (h : HandAt ad cA c b R Y L S D K st) (hb : 6 ≤ b) (ht : Tr ad cA c c') : HandAt ad cA c' b R Y L S D K st := h.same (fun r h1 _ => ht.ne (by omega))
end FHs
/-- the first of n that is so, counted from lo on; -1 without one -/
def Fst (P : Nat → Prop) (lo n : Nat) (v : Int32) : Prop := (∃ k, k < n ∧ P k ∧ (∀ q, q < k → ¬ P q) ∧ v = nI (lo + k)) ∨ (v = -1 ∧ ∀ k, k < n → ¬ P k)
theorem Fst.uniq {P : Nat → Prop} {lo n : Nat} {v v' : Int32} (h : Fst P lo n v) (h' : Fst P lo n v') : v = v' := by
  rcases h with ⟨k, h1, h2, h3, rfl⟩ | ⟨rfl, h1⟩ <;> rcases h' with ⟨k', h1', h2', h3', rfl⟩ | ⟨rfl, h1'⟩
  · rcases Nat.lt_trichotomy k k' with e | e | e
    · exact absurd h2 (h3' k e)
    · rw [e]
    · exact absurd h2' (h3 k' e)
  · exact absurd h2 (h1' k h1)
  · exact absurd h2' (h1 k' h1')
  · rfl
def nlI : Nat → Nat → Nat
  | 0, L => L
  | k + 1, L => nl (nlI k L)
theorem nlI_le {L : Nat} (h : L ≤ 9999) : ∀ k, nlI k L ≤ 9999
  | 0 => h
  | k + 1 => by have := nl_lt (nlI k L); show nl _ ≤ 9999; omega
/-- stones of weight w that come: luck, seen, load, held -/
def itS (R Y w : Nat) : Nat → Nat × Nat × Nat × Nat → Nat × Nat × Nat × Nat
  | 0, x => x
  | k + 1, x => let y := itS R Y w k x; ((pk R Y y.1 (y.2.1 + 1) (y.2.2.1 + w) y.2.2.2 w).2.1, y.2.1 + 1, y.2.2.1 + w, (pk R Y y.1 (y.2.1 + 1) (y.2.2.1 + w) y.2.2.2 w).2.2)
/-- where the stone behind k others goes -/
def itP (R Y w k : Nat) (x : Nat × Nat × Nat × Nat) : Option Nat := (pk R Y (itS R Y w k x).1 ((itS R Y w k x).2.1 + 1) ((itS R Y w k x).2.2.1 + w) (itS R Y w k x).2.2.2 w).1
def itT (R Y w : Nat) (x : Nat × Nat × Nat × Nat) (st : Nat → Nat → Int32) (v : Int32) : Nat → Nat → Nat → Int32
  | 0 => st
  | k + 1 => stT (itT R Y w x st v k) (itP R Y w k x) v (nI w) (nI ((itS R Y w k x).2.1 + 1))
theorem itS_in {R Y w : Nat} (hR : 0 < R) {x : Nat × Nat × Nat × Nat} (hL : x.1 ≤ 9999) (hK : x.2.2.2 ≤ R) : ∀ k, (itS R Y w k x).1 ≤ 9999 ∧ (itS R Y w k x).2.1 = x.2.1 + k ∧ (itS R Y w k x).2.2.1 = x.2.2.1 + k * w ∧ (itS R Y w k x).2.2.2 ≤ R
  | 0 => ⟨hL, rfl, by simp [itS], hK⟩
  | k + 1 => by
    obtain ⟨h1, h2, h3, h4⟩ := itS_in (w := w) (Y := Y) hR hL hK k
    obtain ⟨-, p2, p3⟩ := pk9_in (R := R) (Y := Y) (L := (itS R Y w k x).1) (S := (itS R Y w k x).2.1 + 1) (D := (itS R Y w k x).2.2.1 + w) (K := (itS R Y w k x).2.2.2) (w := w) hR h4
    refine ⟨p3 h1, by show (itS R Y w k x).2.1 + 1 = _; omega, by show (itS R Y w k x).2.2.1 + w = _; rw [h3, Nat.succ_mul]; omega, p2⟩
/-- how many of the first n are not above x -/
def cntN (V : Nat → Int32) (x : Int32) : Nat → Nat
  | 0 => 0
  | k + 1 => cntN V x k + (if x < V k then 0 else 1)
theorem cntN_le (V : Nat → Int32) (x : Int32) : ∀ k, cntN V x k ≤ k
  | 0 => Nat.le_refl 0
  | k + 1 => by have := cntN_le V x k; unfold cntN; split <;> omega
/-- values that both hold, each as often as in the one that holds it less often -/
def com (V V' : Nat → Int32) (K' : Nat) : Nat → Nat
  | 0 => 0
  | k + 1 => com V V' K' k + (if cntE V (V k) k < cntE V' (V k) K' then 1 else 0)
theorem com_le (V V' : Nat → Int32) (K' : Nat) : ∀ k, com V V' K' k ≤ k
  | 0 => Nat.le_refl 0
  | k + 1 => by have := com_le V V' K' k; unfold com; split <;> omega
/-- a step -/
def jnS (S So K Ko : Nat) (sa so : Nat → Nat → Int32) (x : Nat × Nat × Nat × (Nat → Nat → Int32)) : Nat × Nat × Nat × (Nat → Nat → Int32) :=
  if (nl x.2.2.1 % (S + So - (x.1 + x.2.1)) < S - x.1 ∧ x.1 < K) ∨ Ko ≤ x.2.1 then (x.1 + 1, x.2.1, nl x.2.2.1, cpS x.2.2.2 (x.1 + x.2.1) sa x.1)
  else (x.1, x.2.1 + 1, nl x.2.2.1, cpS x.2.2.2 (x.1 + x.2.1) so x.2.1)
def jn (S So K Ko : Nat) (sa so : Nat → Nat → Int32) : Nat → Nat × Nat × Nat × (Nat → Nat → Int32) → Nat × Nat × Nat × (Nat → Nat → Int32)
  | 0, x => x
  | k + 1, x => if K ≤ x.1 ∧ Ko ≤ x.2.1 then x else jn S So K Ko sa so k (jnS S So K Ko sa so x)
/-- an ordinary hand -/
def Hok (R Y L S D K : Nat) : Prop := 1 ≤ R ∧ R ≤ 8 ∧ Y ≤ 1 ∧ L ≤ 9999 ∧ S ≤ 110000 ∧ D ≤ 1000000 ∧ K ≤ R ∧ K ≤ S ∧ S ≤ D
theorem oI_none {o : Option Nat} (h : oI o = -1) (hb : ∀ p, o = some p → p < 2 ^ 31) : o = none := by
  cases o with
  | none => rfl
  | some p => exact absurd h (nI_m1 (hb p rfl))
theorem nI_small {x : Int32} {n : Nat} (h0 : ¬ x < 0) (h : ¬ nI n ≤ x) (hn : n < 2 ^ 31) : ∃ j, j < n ∧ x = nI j := by
  rcases pk_ix x hn with e | e | e
  · exact absurd e h0
  · exact absurd e h
  · exact e
set_option maxHeartbeats 1000000 in
set_option maxRecDepth 10000 in
theorem m_X1_placeForWeight (l : Launch) (D : va_G) (cA : Nat → ClassId) (N : Nat) (ad : Nat → Nat) (c : Nat → va_E) (n : Nat) (b R Y L S D9 K : Nat) (st : Nat → Nat → Int32) (w : Nat) (hN : 6 ≤ N) (hF : FH ad cA c n) (ht : TrAt ad cA c) (hb12 : 6 ≤ b) (hbN : b + 4 ≤ N) (hH : HandAt ad cA c b R Y L S D9 K st) (hok : Hok R Y L S D9 K) (hw0 : 1 ≤ w) (hw9 : w ≤ 9) : Ci l yX1_placeForWeight wX1_placeForWeight { frames := 3, cells := 0, slots := 0, locals := 67 } [.ref (ad 0), .ref (ad b), .int (nI w)] D cA N ad c 0 0 (fun v c' => v = oI (pk R Y L (S + 1) (D9 + w) K w).1 ∧ Tr ad cA c c') := by
  intro sz9
  refine bd_of (cc := cX1_placeForWeight) (maxL := 3) (ret := some Jvm.ClassFile.FieldType.int) (by decide) rfl (Nat.le_of_ble_eq_true rfl) ?_
  intro p e s m below meth c0 C0 hr hlk hnm hP hS hsz ls hl
  subst hsz
  have hx := C0.1
  have hb := C0.2.1
  have hl : lv_has ls 3 [(0, .ref (ad 0)), (1, .ref (ad b)), (2, .int (nI w))] := hl
  obtain ⟨q1, q2, q3, q4, q5, q6, q7, q8, q9⟩ := id hok
  obtain ⟨Rt, Yt, Lt, St, Dt, Kt, stt, ht⟩ := ht
  refine lv_aload_n hx hb dX1_placeForWeight_0 rfl (lv_at hl 0 rfl) ?_
  refine gf_X1_18 C0 hP (by omega) hF.1 rfl dX1_placeForWeight_1 ?_
  refine lv_aload_n hx hb dX1_placeForWeight_4 rfl (lv_at hl 1 rfl) ?_
  refine k0_v (rn_X1_69 (As := [.ref (ad b)]) (rest := []) (r := 2) C0 (m_X0_become l D cA N ad (c) 2 Rt Yt Lt St Dt Kt stt b R Y L S D9 K st (by omega) ht (by omega) hH (by omega) (by omega) _) hP hS (by omega) ht.1 rfl ⟨rfl, rfl⟩ ⟨by decide, by decide⟩ hl.1 rfl (Nat.le_of_ble_eq_true rfl) dX1_placeForWeight_5 ⟨Nat.le_of_ble_eq_true rfl, Nat.le_of_ble_eq_true rfl⟩) C0 hP hS (fun c5 H locs hp hP hS => ?_)
  obtain rfl := hp
  refine lv_aload_n hx hb dX1_placeForWeight_8 rfl (lv_at hl 0 rfl) ?_
  refine gf_X1_18 C0 hP (by omega) (hF.hwo (by omega)).1 rfl dX1_placeForWeight_9 ?_
  refine lv_iconst (v := nI 0) hx hb dX1_placeForWeight_12 rfl ?_
  refine lv_iload_n hx hb dX1_placeForWeight_13 rfl (lv_at hl 2 rfl) ?_
  refine k0_i (rn_X1_48 (As := [.int (nI 0), .int (nI w)]) (rest := []) (r := 2) C0 (m_X0_take l D cA N ad (hw ad cA c 2 R Y L S D9 K ((stB stt st K))) 2 R Y L S D9 K ((stB stt st K)) (nI 0) w (by omega) hw_at (by omega) (by omega) (by omega) (by omega) (by omega) (by omega) (by omega) (by omega) (by omega) _) hP hS (by omega) hw_at.1 rfl ⟨rfl, rfl⟩ ⟨by decide, by decide⟩ hl.1 rfl (Nat.le_of_ble_eq_true rfl) dX1_placeForWeight_14 ⟨Nat.le_of_ble_eq_true rfl, Nat.le_of_ble_eq_true rfl⟩) C0 hP hS (fun v14 c14 H locs hp hP hS => ?_)
  obtain ⟨rfl, rfl⟩ := hp
  rw [hw_hw] at hP
  exact e_i C0 hr hlk hP hS dX1_placeForWeight_17 (by decide) (by decide) ⟨rfl, _, _, _, _, _, _, _, rfl⟩
set_option maxHeartbeats 1000000 in
set_option maxRecDepth 10000 in
theorem m_X1_stayingAfter (l : Launch) (D : va_G) (cA : Nat → ClassId) (N : Nat) (ad : Nat → Nat) (c : Nat → va_E) (n : Nat) (b R Y L S D9 K : Nat) (st : Nat → Nat → Int32) (many : Nat) (hN : 6 ≤ N) (hF : FH ad cA c n) (ht : TrAt ad cA c) (hb12 : 6 ≤ b) (hbN : b + 4 ≤ N) (hH : HandAt ad cA c b R Y L S D9 K st) (hok : Hok R Y L S D9 K) (hm : many ≤ 200) : Ci l yX1_stayingAfter wX1_stayingAfter { frames := 3, cells := 0, slots := 0, locals := 67 } [.ref (ad 0), .ref (ad b), .int (nI many)] D cA N ad c 0 0 (fun v c' => (∃ stt, v = nI (cntN ((itT R Y 1 (L, S, D9, K) (stB stt st K) (nI 0) many) 2) (nI S) (itS R Y 1 many (L, S, D9, K)).2.2.2)) ∧ Tr ad cA c c') := by
  intro sz9
  refine bd_of (cc := cX1_stayingAfter) (maxL := 5) (ret := some Jvm.ClassFile.FieldType.int) (by decide) rfl (Nat.le_of_ble_eq_true rfl) ?_
  intro p e s m below meth c0 C0 hr hlk hnm hP hS hsz ls hl
  subst hsz
  have hx := C0.1
  have hb := C0.2.1
  have hl : lv_has ls 5 [(0, .ref (ad 0)), (1, .ref (ad b)), (2, .int (nI many))] := hl
  obtain ⟨q1, q2, q3, q4, q5, q6, q7, q8, q9⟩ := id hok
  obtain ⟨Rt, Yt, Lt, St, Dt, Kt, stt, ht⟩ := ht
  refine lv_aload_n hx hb dX1_stayingAfter_0 rfl (lv_at hl 0 rfl) ?_
  refine gf_X1_18 C0 hP (by omega) hF.1 rfl dX1_stayingAfter_1 ?_
  refine lv_aload_n hx hb dX1_stayingAfter_4 rfl (lv_at hl 1 rfl) ?_
  refine k0_v (rn_X1_69 (As := [.ref (ad b)]) (rest := []) (r := 2) C0 (m_X0_become l D cA N ad (c) 2 Rt Yt Lt St Dt Kt stt b R Y L S D9 K st (by omega) ht (by omega) hH (by omega) (by omega) _) hP hS (by omega) ht.1 rfl ⟨rfl, rfl⟩ ⟨by decide, by decide⟩ hl.1 rfl (Nat.le_of_ble_eq_true rfl) dX1_stayingAfter_5 ⟨Nat.le_of_ble_eq_true rfl, Nat.le_of_ble_eq_true rfl⟩) C0 hP hS (fun c5 H locs hp hP hS => ?_)
  obtain rfl := hp
  refine lv_iconst (v := nI 0) hx hb dX1_stayingAfter_8 rfl ?_
  refine lv_istore_n (lv' := [(3, .int (nI 0)), (0, .ref (ad 0)), (1, .ref (ad b)), (2, .int (nI many))]) hx hb dX1_stayingAfter_9 rfl hl (by decide) rfl (fun ls hl => ?_)
  have loop10 : ∀ (n9 : Nat) (k : Nat), (k ≤ many) → many - k < n9 → ∀ (H : Heap) (locs : List Loc) (ls : Array Slot), va_P D vwCl (wl N ad (hw ad cA c 2 R Y ((itS R Y 1 k (L, S, D9, K)).1) ((itS R Y 1 k (L, S, D9, K)).2.1) ((itS R Y 1 k (L, S, D9, K)).2.2.1) ((itS R Y 1 k (L, S, D9, K)).2.2.2) ((itT R Y 1 (L, S, D9, K) (stB stt st K) (nI 0) k)))) H → va_S (wA N ad s.heap.size) s.heap H locs → lv_has ls 5 [(0, .ref (ad 0)), (1, .ref (ad b)), (2, .int (nI many)), (3, .int (nI k))] → W p l e { frames := 3, cells := 0, slots := 0, locals := 67 } s m [.ref (ad 0), .ref (ad b), .int (nI many)].toArray below meth c0 H locs 0 0 (MQ below (va_Qi (fun v c' => (∃ stt, v = nI (cntN ((itT R Y 1 (L, S, D9, K) (stB stt st K) (nI 0) many) 2) (nI S) (itS R Y 1 many (L, S, D9, K)).2.2.2)) ∧ Tr ad cA c c') (fun c' t => va_P D vwCl (wl N ad c') t.heap) (wA N ad s.heap.size)) [.ref (ad 0), .ref (ad b), .int (nI many)].toArray s 0 0 (wA N ad s.heap.size)) (F0 m 10 ls []) := by
    intro n9
    induction n9 with
    | zero => intro k hk hlt9; exact absurd hlt9 (Nat.not_lt_zero _)
    | succ n9 ih10 =>
      intro k hk hlt9 H locs ls hP hS hl
      obtain ⟨i1, i2, i3, i4⟩ := itS_in (R := R) (Y := Y) (w := 1) (by omega) (x := (L, S, D9, K)) (by show L ≤ 9999; omega) (by show K ≤ R; omega) k
      dsimp only at i1 i2 i3 i4
      refine lv_iload_n hx hb dX1_stayingAfter_10 rfl (lv_at hl 3 rfl) ?_
      refine lv_iload_n hx hb dX1_stayingAfter_11 rfl (lv_at hl 2 rfl) ?_
      refine n_icmp_ge (tgt := 31) hx hb (by omega) (by omega) dX1_stayingAfter_12 (by decide) (fun h12 => ?_) (fun h12 => ?_)
      · obtain rfl : many = k := by omega
        refine lv_iconst (v := nI 0) hx hb dX1_stayingAfter_31 rfl ?_
        refine lv_istore_n (lv' := [(3, .int (nI 0)), (0, .ref (ad 0)), (1, .ref (ad b)), (2, .int (nI many))]) hx hb dX1_stayingAfter_32 rfl hl (by decide) rfl (fun ls hl => ?_)
        refine lv_iconst (v := nI 0) hx hb dX1_stayingAfter_33 rfl ?_
        refine lv_istore (lv' := [(4, .int (nI 0)), (3, .int (nI 0)), (0, .ref (ad 0)), (1, .ref (ad b)), (2, .int (nI many))]) hx hb dX1_stayingAfter_34 hl (by decide) rfl (fun ls hl => ?_)
        have loop36 : ∀ (n9 : Nat) (j : Nat), (j ≤ (itS R Y 1 many (L, S, D9, K)).2.2.2) → (itS R Y 1 many (L, S, D9, K)).2.2.2 - j < n9 → ∀ (H : Heap) (locs : List Loc) (ls : Array Slot), va_P D vwCl (wl N ad (hw ad cA c 2 R Y ((itS R Y 1 many (L, S, D9, K)).1) ((itS R Y 1 many (L, S, D9, K)).2.1) ((itS R Y 1 many (L, S, D9, K)).2.2.1) ((itS R Y 1 many (L, S, D9, K)).2.2.2) ((itT R Y 1 (L, S, D9, K) (stB stt st K) (nI 0) many)))) H → va_S (wA N ad s.heap.size) s.heap H locs → lv_has ls 5 [(0, .ref (ad 0)), (1, .ref (ad b)), (2, .int (nI many)), (3, .int (nI (cntN ((itT R Y 1 (L, S, D9, K) (stB stt st K) (nI 0) many) 2) (nI S) j))), (4, .int (nI j))] → W p l e { frames := 3, cells := 0, slots := 0, locals := 67 } s m [.ref (ad 0), .ref (ad b), .int (nI many)].toArray below meth c0 H locs 0 0 (MQ below (va_Qi (fun v c' => (∃ stt, v = nI (cntN ((itT R Y 1 (L, S, D9, K) (stB stt st K) (nI 0) many) 2) (nI S) (itS R Y 1 many (L, S, D9, K)).2.2.2)) ∧ Tr ad cA c c') (fun c' t => va_P D vwCl (wl N ad c') t.heap) (wA N ad s.heap.size)) [.ref (ad 0), .ref (ad b), .int (nI many)].toArray s 0 0 (wA N ad s.heap.size)) (F0 m 36 ls []) := by
          intro n9
          induction n9 with
          | zero => intro j hj hlt9; exact absurd hlt9 (Nat.not_lt_zero _)
          | succ n9 ih36 =>
            intro j hj hlt9 H locs ls hP hS hl
            refine lv_iload hx hb dX1_stayingAfter_36 (lv_at hl 4 rfl) ?_
            refine lv_aload_n hx hb dX1_stayingAfter_38 rfl (lv_at hl 0 rfl) ?_
            refine gf_X1_18 C0 hP (by omega) (hF.hwo (by omega)).1 rfl dX1_stayingAfter_39 ?_
            refine gh_X1_81 C0 hP hw_at (by omega) dX1_stayingAfter_42 ?_
            refine n_icmp_ge (tgt := 76) hx hb (by omega) (by omega) dX1_stayingAfter_45 (by decide) (fun h45 => ?_) (fun h45 => ?_)
            · obtain rfl : j = (itS R Y 1 many (L, S, D9, K)).2.2.2 := by omega
              refine lv_iload_n hx hb dX1_stayingAfter_76 rfl (lv_at hl 3 rfl) ?_
              exact e_i C0 hr hlk hP hS dX1_stayingAfter_77 (by decide) (by decide) ⟨⟨stt, rfl⟩, _, _, _, _, _, _, _, rfl⟩
            · refine lv_aload_n hx hb dX1_stayingAfter_48 rfl (lv_at hl 0 rfl) ?_
              refine gf_X1_18 C0 hP (by omega) (hF.hwo (by omega)).1 rfl dX1_stayingAfter_49 ?_
              refine gh_X1_108 C0 hP hw_at (by omega) dX1_stayingAfter_52 ?_
              refine lv_iload hx hb dX1_stayingAfter_55 (lv_at hl 4 rfl) ?_
              refine k0_i (rn_X1_101 (As := [.ref (ad (2 + 3)), .int (nI j)]) (rest := []) C0 (m_X1_at l D cA N ad (hw ad cA c 2 R Y ((itS R Y 1 many (L, S, D9, K)).1) ((itS R Y 1 many (L, S, D9, K)).2.1) ((itS R Y 1 many (L, S, D9, K)).2.2.1) ((itS R Y 1 many (L, S, D9, K)).2.2.2) ((itT R Y 1 (L, S, D9, K) (stB stt st K) (nI 0) many))) (2 + 3) 8 j (((itT R Y 1 (L, S, D9, K) (stB stt st K) (nI 0) many) 2)) (by omega) (hw_at.2.2.2) (by omega) (by omega) _) hP hS rfl ⟨rfl, rfl⟩ ⟨by decide, by decide⟩ hl.1 rfl (Nat.le_of_ble_eq_true rfl) dX1_stayingAfter_57 ⟨Nat.le_of_ble_eq_true rfl, Nat.le_of_ble_eq_true rfl⟩) C0 hP hS (fun v57 c57 H locs hp hP hS => ?_)
              obtain ⟨rfl, rfl⟩ := hp
              refine lv_aload_n hx hb dX1_stayingAfter_60 rfl (lv_at hl 1 rfl) ?_
              refine gh_X1_87 C0 hP (hH.hwo (by omega)) (by omega) dX1_stayingAfter_61 ?_
              refine lv_icmp_gt (tgt := 70) hx hb dX1_stayingAfter_64 (by decide) (fun h64 => ?_) (fun h64 => ?_)
              · have hcn : cntN ((itT R Y 1 (L, S, D9, K) (stB stt st K) (nI 0) many) 2) (nI S) j = cntN ((itT R Y 1 (L, S, D9, K) (stB stt st K) (nI 0) many) 2) (nI S) (j + 1) := by simp [cntN, h64]
                rw [hcn] at hl
                refine lv_iinc (v := nI (j + 1)) (lv' := [(4, .int (nI (j + 1))), (0, .ref (ad 0)), (1, .ref (ad b)), (2, .int (nI many)), (3, .int (nI (cntN ((itT R Y 1 (L, S, D9, K) (stB stt st K) (nI 0) many) 2) (nI S) (j + 1))))]) hx hb dX1_stayingAfter_70 hl (k := 4) rfl (nI_add j 1) (by decide) rfl (fun ls hl => ?_)
                refine lv_goto (tgt := 36) hx hb dX1_stayingAfter_73 (by decide) ?_
                exact ih36 (j + 1) (by omega) (by omega) _ _ _ hP hS (lv_sub hl [1, 2, 3, 4, 0] rfl)
              · have hcn : cntN ((itT R Y 1 (L, S, D9, K) (stB stt st K) (nI 0) many) 2) (nI S) j + 1 = cntN ((itT R Y 1 (L, S, D9, K) (stB stt st K) (nI 0) many) 2) (nI S) (j + 1) := by simp [cntN, h64]
                refine lv_iinc (v := nI (cntN ((itT R Y 1 (L, S, D9, K) (stB stt st K) (nI 0) many) 2) (nI S) j + 1)) (lv' := [(3, .int (nI (cntN ((itT R Y 1 (L, S, D9, K) (stB stt st K) (nI 0) many) 2) (nI S) j + 1))), (0, .ref (ad 0)), (1, .ref (ad b)), (2, .int (nI many)), (4, .int (nI j))]) hx hb dX1_stayingAfter_67 hl (k := 3) rfl (nI_add (cntN ((itT R Y 1 (L, S, D9, K) (stB stt st K) (nI 0) many) 2) (nI S) j) 1) (by decide) rfl (fun ls hl => ?_)
                rw [hcn] at hl
                refine lv_iinc (v := nI (j + 1)) (lv' := [(4, .int (nI (j + 1))), (3, .int (nI (cntN ((itT R Y 1 (L, S, D9, K) (stB stt st K) (nI 0) many) 2) (nI S) (j + 1)))), (0, .ref (ad 0)), (1, .ref (ad b)), (2, .int (nI many))]) hx hb dX1_stayingAfter_70 hl (k := 4) rfl (nI_add j 1) (by decide) rfl (fun ls hl => ?_)
                refine lv_goto (tgt := 36) hx hb dX1_stayingAfter_73 (by decide) ?_
                exact ih36 (j + 1) (by omega) (by omega) _ _ _ hP hS (lv_sub hl [2, 3, 4, 1, 0] rfl)
        exact loop36 (_ + 1) 0 (Nat.zero_le _) (Nat.lt_succ_self _) _ _ _ hP hS (lv_sub hl [2, 3, 4, 1, 0] rfl)
      · refine lv_aload_n hx hb dX1_stayingAfter_15 rfl (lv_at hl 0 rfl) ?_
        refine gf_X1_18 C0 hP (by omega) (hF.hwo (by omega)).1 rfl dX1_stayingAfter_16 ?_
        refine lv_iconst (v := nI 0) hx hb dX1_stayingAfter_19 rfl ?_
        refine lv_iconst (v := nI 1) hx hb dX1_stayingAfter_20 rfl ?_
        refine k0_i (rn_X1_48 (As := [.int (nI 0), .int (nI 1)]) (rest := []) (r := 2) C0 (m_X0_take l D cA N ad (hw ad cA c 2 R Y ((itS R Y 1 k (L, S, D9, K)).1) ((itS R Y 1 k (L, S, D9, K)).2.1) ((itS R Y 1 k (L, S, D9, K)).2.2.1) ((itS R Y 1 k (L, S, D9, K)).2.2.2) ((itT R Y 1 (L, S, D9, K) (stB stt st K) (nI 0) k))) 2 R Y ((itS R Y 1 k (L, S, D9, K)).1) ((itS R Y 1 k (L, S, D9, K)).2.1) ((itS R Y 1 k (L, S, D9, K)).2.2.1) ((itS R Y 1 k (L, S, D9, K)).2.2.2) ((itT R Y 1 (L, S, D9, K) (stB stt st K) (nI 0) k)) (nI 0) 1 (by omega) hw_at (by omega) (by omega) (by omega) (by omega) (by omega) (by omega) (by omega) (by omega) (by omega) _) hP hS (by omega) hw_at.1 rfl ⟨rfl, rfl⟩ ⟨by decide, by decide⟩ hl.1 rfl (Nat.le_of_ble_eq_true rfl) dX1_stayingAfter_21 ⟨Nat.le_of_ble_eq_true rfl, Nat.le_of_ble_eq_true rfl⟩) C0 hP hS (fun v21 c21 H locs hp hP hS => ?_)
        obtain ⟨rfl, rfl⟩ := hp
        rw [hw_hw] at hP
        refine lv_pop hx hb dX1_stayingAfter_24 rfl ?_
        refine lv_iinc (v := nI (k + 1)) (lv' := [(3, .int (nI (k + 1))), (0, .ref (ad 0)), (1, .ref (ad b)), (2, .int (nI many))]) hx hb dX1_stayingAfter_25 hl (k := 3) rfl (nI_add k 1) (by decide) rfl (fun ls hl => ?_)
        refine lv_goto (tgt := 10) hx hb dX1_stayingAfter_28 (by decide) ?_
        exact ih10 (k + 1) (by omega) (by omega) _ _ _ hP hS (lv_sub hl [1, 2, 3, 0] rfl)
  exact loop10 (_ + 1) 0 (Nat.zero_le _) (Nat.lt_succ_self _) _ _ _ hP hS (lv_sub hl [1, 2, 3, 0] rfl)
set_option maxHeartbeats 1000000 in
set_option maxRecDepth 10000 in
theorem m_X1_stonesUntilPlaced (l : Launch) (D : va_G) (cA : Nat → ClassId) (N : Nat) (ad : Nat → Nat) (c : Nat → va_E) (n : Nat) (b R Y L S D9 K : Nat) (st : Nat → Nat → Int32)  (hN : 6 ≤ N) (hF : FH ad cA c n) (ht : TrAt ad cA c) (hb12 : 6 ≤ b) (hbN : b + 4 ≤ N) (hH : HandAt ad cA c b R Y L S D9 K st) (hok : Hok R Y L S D9 K) : Ci l yX1_stonesUntilPlaced wX1_stonesUntilPlaced { frames := 3, cells := 0, slots := 0, locals := 67 } [.ref (ad 0), .ref (ad b)] D cA N ad c 0 0 (fun v c' => Fst (fun k => itP R Y 1 k (L, S, D9, K) ≠ none) 1 200 v ∧ Tr ad cA c c') := by
  intro sz9
  refine bd_of (cc := cX1_stonesUntilPlaced) (maxL := 3) (ret := some Jvm.ClassFile.FieldType.int) (by decide) rfl (Nat.le_of_ble_eq_true rfl) ?_
  intro p e s m below meth c0 C0 hr hlk hnm hP hS hsz ls hl
  subst hsz
  have hx := C0.1
  have hb := C0.2.1
  have hl : lv_has ls 3 [(0, .ref (ad 0)), (1, .ref (ad b))] := hl
  obtain ⟨q1, q2, q3, q4, q5, q6, q7, q8, q9⟩ := id hok
  obtain ⟨Rt, Yt, Lt, St, Dt, Kt, stt, ht⟩ := ht
  refine lv_aload_n hx hb dX1_stonesUntilPlaced_0 rfl (lv_at hl 0 rfl) ?_
  refine gf_X1_18 C0 hP (by omega) hF.1 rfl dX1_stonesUntilPlaced_1 ?_
  refine lv_aload_n hx hb dX1_stonesUntilPlaced_4 rfl (lv_at hl 1 rfl) ?_
  refine k0_v (rn_X1_69 (As := [.ref (ad b)]) (rest := []) (r := 2) C0 (m_X0_become l D cA N ad (c) 2 Rt Yt Lt St Dt Kt stt b R Y L S D9 K st (by omega) ht (by omega) hH (by omega) (by omega) _) hP hS (by omega) ht.1 rfl ⟨rfl, rfl⟩ ⟨by decide, by decide⟩ hl.1 rfl (Nat.le_of_ble_eq_true rfl) dX1_stonesUntilPlaced_5 ⟨Nat.le_of_ble_eq_true rfl, Nat.le_of_ble_eq_true rfl⟩) C0 hP hS (fun c5 H locs hp hP hS => ?_)
  obtain rfl := hp
  refine lv_iconst (v := nI 1) hx hb dX1_stonesUntilPlaced_8 rfl ?_
  refine lv_istore_n (lv' := [(2, .int (nI 1)), (0, .ref (ad 0)), (1, .ref (ad b))]) hx hb dX1_stonesUntilPlaced_9 rfl hl (by decide) rfl (fun ls hl => ?_)
  have loop10 : ∀ (n9 : Nat) (k : Nat), (k ≤ 200) → (∀ q, q < k → ¬ (itP R Y 1 q (L, S, D9, K) ≠ none)) → 200 - k < n9 → ∀ (H : Heap) (locs : List Loc) (ls : Array Slot), va_P D vwCl (wl N ad (hw ad cA c 2 R Y ((itS R Y 1 k (L, S, D9, K)).1) ((itS R Y 1 k (L, S, D9, K)).2.1) ((itS R Y 1 k (L, S, D9, K)).2.2.1) ((itS R Y 1 k (L, S, D9, K)).2.2.2) ((itT R Y 1 (L, S, D9, K) (stB stt st K) (nI 0) k)))) H → va_S (wA N ad s.heap.size) s.heap H locs → lv_has ls 3 [(0, .ref (ad 0)), (1, .ref (ad b)), (2, .int (nI (1 + k)))] → W p l e { frames := 3, cells := 0, slots := 0, locals := 67 } s m [.ref (ad 0), .ref (ad b)].toArray below meth c0 H locs 0 0 (MQ below (va_Qi (fun v c' => Fst (fun k => itP R Y 1 k (L, S, D9, K) ≠ none) 1 200 v ∧ Tr ad cA c c') (fun c' t => va_P D vwCl (wl N ad c') t.heap) (wA N ad s.heap.size)) [.ref (ad 0), .ref (ad b)].toArray s 0 0 (wA N ad s.heap.size)) (F0 m 10 ls []) := by
    intro n9
    induction n9 with
    | zero => intro k hk hno hlt9; exact absurd hlt9 (Nat.not_lt_zero _)
    | succ n9 ih10 =>
      intro k hk hno hlt9 H locs ls hP hS hl
      obtain ⟨i1, i2, i3, i4⟩ := itS_in (R := R) (Y := Y) (w := 1) (by omega) (x := (L, S, D9, K)) (by show L ≤ 9999; omega) (by show K ≤ R; omega) k
      dsimp only at i1 i2 i3 i4
      have hpl : ∀ p, itP R Y 1 k (L, S, D9, K) = some p → p < 2 ^ 31 := fun p h => Nat.lt_of_lt_of_le ((pk9_in (by omega) i4).1 p h) (by omega)
      refine lv_iload_n hx hb dX1_stonesUntilPlaced_10 rfl (lv_at hl 2 rfl) ?_
      refine lv_sipush (v := nI 200) hx hb dX1_stonesUntilPlaced_11 rfl ?_
      refine n_icmp_gt (tgt := 38) hx hb (by omega) (by omega) dX1_stonesUntilPlaced_14 (by decide) (fun h14 => ?_) (fun h14 => ?_)
      · refine lv_iconst (v := (-1)) hx hb dX1_stonesUntilPlaced_38 rfl ?_
        exact e_i C0 hr hlk hP hS dX1_stonesUntilPlaced_39 (by decide) (by decide) ⟨Or.inr ⟨rfl, fun q hq => hno q (by omega)⟩, _, _, _, _, _, _, _, rfl⟩
      · refine lv_aload_n hx hb dX1_stonesUntilPlaced_17 rfl (lv_at hl 0 rfl) ?_
        refine gf_X1_18 C0 hP (by omega) (hF.hwo (by omega)).1 rfl dX1_stonesUntilPlaced_18 ?_
        refine lv_iconst (v := nI 0) hx hb dX1_stonesUntilPlaced_21 rfl ?_
        refine lv_iconst (v := nI 1) hx hb dX1_stonesUntilPlaced_22 rfl ?_
        refine k0_i (rn_X1_48 (As := [.int (nI 0), .int (nI 1)]) (rest := []) (r := 2) C0 (m_X0_take l D cA N ad (hw ad cA c 2 R Y ((itS R Y 1 k (L, S, D9, K)).1) ((itS R Y 1 k (L, S, D9, K)).2.1) ((itS R Y 1 k (L, S, D9, K)).2.2.1) ((itS R Y 1 k (L, S, D9, K)).2.2.2) ((itT R Y 1 (L, S, D9, K) (stB stt st K) (nI 0) k))) 2 R Y ((itS R Y 1 k (L, S, D9, K)).1) ((itS R Y 1 k (L, S, D9, K)).2.1) ((itS R Y 1 k (L, S, D9, K)).2.2.1) ((itS R Y 1 k (L, S, D9, K)).2.2.2) ((itT R Y 1 (L, S, D9, K) (stB stt st K) (nI 0) k)) (nI 0) 1 (by omega) hw_at (by omega) (by omega) (by omega) (by omega) (by omega) (by omega) (by omega) (by omega) (by omega) _) hP hS (by omega) hw_at.1 rfl ⟨rfl, rfl⟩ ⟨by decide, by decide⟩ hl.1 rfl (Nat.le_of_ble_eq_true rfl) dX1_stonesUntilPlaced_23 ⟨Nat.le_of_ble_eq_true rfl, Nat.le_of_ble_eq_true rfl⟩) C0 hP hS (fun v23 c23 H locs hp hP hS => ?_)
        obtain ⟨rfl, rfl⟩ := hp
        rw [hw_hw] at hP
        refine lv_iconst (v := (-1)) hx hb dX1_stonesUntilPlaced_26 rfl ?_
        refine lv_icmp_eq (tgt := 32) hx hb dX1_stonesUntilPlaced_27 (by decide) (fun h27 => ?_) (fun h27 => ?_)
        · refine lv_iinc (v := nI (1 + k + 1)) (lv' := [(2, .int (nI (1 + k + 1))), (0, .ref (ad 0)), (1, .ref (ad b))]) hx hb dX1_stonesUntilPlaced_32 hl (k := 2) rfl (nI_add (1 + k) 1) (by decide) rfl (fun ls hl => ?_)
          refine lv_goto (tgt := 10) hx hb dX1_stonesUntilPlaced_35 (by decide) ?_
          exact ih10 (k + 1) (by omega) (fun q hq => (Nat.lt_or_ge q k).elim (fun e => hno q e) (fun e => by rw [show q = k from by omega]; exact fun h => h (oI_none h27 hpl))) (by omega) _ _ _ hP hS (lv_sub hl [1, 2, 0] rfl)
        · refine lv_iload_n hx hb dX1_stonesUntilPlaced_30 rfl (lv_at hl 2 rfl) ?_
          exact e_i C0 hr hlk hP hS dX1_stonesUntilPlaced_31 (by decide) (by decide) ⟨Or.inl ⟨k, by omega, fun h => h27 (by rw [show (pk _ _ _ _ _ _ _).1 = none from h]; rfl), hno, rfl⟩, _, _, _, _, _, _, _, rfl⟩
  exact loop10 (_ + 1) 0 (Nat.zero_le _) (fun q h => absurd h (Nat.not_lt_zero _)) (Nat.lt_succ_self _) _ _ _ hP hS (lv_sub hl [1, 2, 0] rfl)
set_option maxHeartbeats 1000000 in
set_option maxRecDepth 10000 in
theorem m_X1_leastWeightPlaced (l : Launch) (D : va_G) (cA : Nat → ClassId) (N : Nat) (ad : Nat → Nat) (c : Nat → va_E) (n : Nat) (b R Y L S D9 K : Nat) (st : Nat → Nat → Int32)  (hN : 6 ≤ N) (hF : FH ad cA c n) (ht : TrAt ad cA c) (hb12 : 6 ≤ b) (hbN : b + 4 ≤ N) (hH : HandAt ad cA c b R Y L S D9 K st) (hok : Hok R Y L S D9 K) : Ci l yX1_leastWeightPlaced wX1_leastWeightPlaced { frames := 4, cells := 0, slots := 0, locals := 89 } [.ref (ad 0), .ref (ad b)] D cA N ad c 0 0 (fun v c' => Fst (fun k => (pk R Y L (S + 1) (D9 + (1 + k)) K (1 + k)).1 ≠ none) 1 9 v ∧ Tr ad cA c c') := by
  intro sz9
  refine bd_of (cc := cX1_leastWeightPlaced) (maxL := 3) (ret := some Jvm.ClassFile.FieldType.int) (by decide) rfl (Nat.le_of_ble_eq_true rfl) ?_
  intro p e s m below meth c0 C0 hr hlk hnm hP hS hsz ls hl
  subst hsz
  have hx := C0.1
  have hb := C0.2.1
  have hl : lv_has ls 3 [(0, .ref (ad 0)), (1, .ref (ad b))] := hl
  obtain ⟨q1, q2, q3, q4, q5, q6, q7, q8, q9⟩ := id hok
  refine lv_iconst (v := nI 1) hx hb dX1_leastWeightPlaced_0 rfl ?_
  refine lv_istore_n (lv' := [(2, .int (nI 1)), (0, .ref (ad 0)), (1, .ref (ad b))]) hx hb dX1_leastWeightPlaced_1 rfl hl (by decide) rfl (fun ls hl => ?_)
  have loop2 : ∀ (n9 : Nat) (k : Nat) (c1 : Nat → va_E), (k ≤ 9) → (Tr ad cA c c1) → (∀ q, q < k → ¬ ((pk R Y L (S + 1) (D9 + (1 + q)) K (1 + q)).1 ≠ none)) → 9 - k < n9 → ∀ (H : Heap) (locs : List Loc) (ls : Array Slot), va_P D vwCl (wl N ad (c1)) H → va_S (wA N ad s.heap.size) s.heap H locs → lv_has ls 3 [(0, .ref (ad 0)), (1, .ref (ad b)), (2, .int (nI (1 + k)))] → W p l e { frames := 4, cells := 0, slots := 0, locals := 89 } s m [.ref (ad 0), .ref (ad b)].toArray below meth c0 H locs 0 0 (MQ below (va_Qi (fun v c' => Fst (fun k => (pk R Y L (S + 1) (D9 + (1 + k)) K (1 + k)).1 ≠ none) 1 9 v ∧ Tr ad cA c c') (fun c' t => va_P D vwCl (wl N ad c') t.heap) (wA N ad s.heap.size)) [.ref (ad 0), .ref (ad b)].toArray s 0 0 (wA N ad s.heap.size)) (F0 m 2 ls []) := by
    intro n9
    induction n9 with
    | zero => intro k c1 hk ht1 hno hlt9; exact absurd hlt9 (Nat.not_lt_zero _)
    | succ n9 ih2 =>
      intro k c1 hk ht1 hno hlt9 H locs ls hP hS hl
      have hpl : ∀ p, (pk R Y L (S + 1) (D9 + (1 + k)) K (1 + k)).1 = some p → p < 2 ^ 31 := fun p h => Nat.lt_of_lt_of_le ((pk9_in (by omega) q7).1 p h) (by omega)
      refine lv_iload_n hx hb dX1_leastWeightPlaced_2 rfl (lv_at hl 2 rfl) ?_
      refine lv_bipush (v := nI 9) hx hb dX1_leastWeightPlaced_3 rfl ?_
      refine n_icmp_gt (tgt := 26) hx hb (by omega) (by omega) dX1_leastWeightPlaced_5 (by decide) (fun h5 => ?_) (fun h5 => ?_)
      · refine lv_iconst (v := (-1)) hx hb dX1_leastWeightPlaced_26 rfl ?_
        exact e_i C0 hr hlk hP hS dX1_leastWeightPlaced_27 (by decide) (by decide) ⟨Or.inr ⟨rfl, fun q hq => hno q (by omega)⟩, ht1⟩
      · refine lv_aload_n hx hb dX1_leastWeightPlaced_8 rfl (lv_at hl 0 rfl) ?_
        refine lv_aload_n hx hb dX1_leastWeightPlaced_9 rfl (lv_at hl 1 rfl) ?_
        refine lv_iload_n hx hb dX1_leastWeightPlaced_10 rfl (lv_at hl 2 rfl) ?_
        refine k0_i (rn_X1_140 (As := [.ref (ad b), .int (nI (1 + k))]) (rest := []) (r := 0) C0 (m_X1_placeForWeight l D cA N ad (c1) n b R Y L S D9 K st (1 + k) (by omega) (hF.tr ht1) ht1.at (by omega) (by omega) (hH.tr (by omega) ht1) hok (by omega) (by omega) _) hP hS (by omega) (hF.tr ht1).1 rfl ⟨rfl, rfl⟩ ⟨by decide, by decide⟩ hl.1 rfl (Nat.le_of_ble_eq_true rfl) dX1_leastWeightPlaced_11 ⟨Nat.le_of_ble_eq_true rfl, Nat.le_of_ble_eq_true rfl⟩) C0 hP hS (fun v11 c11 H locs hp hP hS => ?_)
        obtain ⟨rfl, ht11⟩ := hp
        refine lv_iconst (v := (-1)) hx hb dX1_leastWeightPlaced_14 rfl ?_
        refine lv_icmp_eq (tgt := 20) hx hb dX1_leastWeightPlaced_15 (by decide) (fun h15 => ?_) (fun h15 => ?_)
        · refine lv_iinc (v := nI (1 + k + 1)) (lv' := [(2, .int (nI (1 + k + 1))), (0, .ref (ad 0)), (1, .ref (ad b))]) hx hb dX1_leastWeightPlaced_20 hl (k := 2) rfl (nI_add (1 + k) 1) (by decide) rfl (fun ls hl => ?_)
          refine lv_goto (tgt := 2) hx hb dX1_leastWeightPlaced_23 (by decide) ?_
          exact ih2 (k + 1) c11 (by omega) (ht1.trans ht11) (fun q hq => (Nat.lt_or_ge q k).elim (fun e => hno q e) (fun e => by rw [show q = k from by omega]; exact fun h => h (oI_none h15 hpl))) (by omega) _ _ _ hP hS (lv_sub hl [1, 2, 0] rfl)
        · refine lv_iload_n hx hb dX1_leastWeightPlaced_18 rfl (lv_at hl 2 rfl) ?_
          exact e_i C0 hr hlk hP hS dX1_leastWeightPlaced_19 (by decide) (by decide) ⟨Or.inl ⟨k, by omega, fun h => h15 (by rw [h]; rfl), hno, rfl⟩, ht1.trans ht11⟩
  exact loop2 (_ + 1) 0 c (Nat.zero_le _) (ht.rf) (fun q h => absurd h (Nat.not_lt_zero _)) (Nat.lt_succ_self _) _ _ _ hP hS (lv_sub hl [1, 2, 0] rfl)
set_option maxHeartbeats 1000000 in
set_option maxRecDepth 10000 in
theorem m_X1_commonValues (l : Launch) (D : va_G) (cA : Nat → ClassId) (N : Nat) (ad : Nat → Nat) (c : Nat → va_E) (b R Y L S D9 K : Nat) (st : Nat → Nat → Int32) (o Ro Yo Lo So Do Ko : Nat) (sto : Nat → Nat → Int32)  (hb12 : 6 ≤ b) (hbN : b + 4 ≤ N) (hH : HandAt ad cA c b R Y L S D9 K st) (hok : Hok R Y L S D9 K) (ho12 : 6 ≤ o) (hoN : o + 4 ≤ N) (hO : HandAt ad cA c o Ro Yo Lo So Do Ko sto) (hoo : Hok Ro Yo Lo So Do Ko) : Ci l yX1_commonValues wX1_commonValues { frames := 2, cells := 0, slots := 0, locals := 45 } [.ref (ad b), .ref (ad o)] D cA N ad c 0 0 (fun v c' => v = nI (com (st 0) (sto 0) Ko K) ∧ c = c') := by
  intro sz9
  refine bd_of (cc := cX1_commonValues) (maxL := 5) (ret := some Jvm.ClassFile.FieldType.int) (by decide) rfl (Nat.le_of_ble_eq_true rfl) ?_
  intro p e s m below meth c0 C0 hr hlk hnm hP hS hsz ls hl
  subst hsz
  have hx := C0.1
  have hb := C0.2.1
  have hl : lv_has ls 5 [(0, .ref (ad b)), (1, .ref (ad o))] := hl
  obtain ⟨q1, q2, q3, q4, q5, q6, q7, q8, q9⟩ := id hok
  obtain ⟨o1, o2, o3, o4, o5, o6, o7, o8, o9⟩ := id hoo
  refine lv_iconst (v := nI 0) hx hb dX1_commonValues_0 rfl ?_
  refine lv_istore_n (lv' := [(2, .int (nI 0)), (0, .ref (ad b)), (1, .ref (ad o))]) hx hb dX1_commonValues_1 rfl hl (by decide) rfl (fun ls hl => ?_)
  refine lv_iconst (v := nI 0) hx hb dX1_commonValues_2 rfl ?_
  refine lv_istore_n (lv' := [(3, .int (nI 0)), (2, .int (nI 0)), (0, .ref (ad b)), (1, .ref (ad o))]) hx hb dX1_commonValues_3 rfl hl (by decide) rfl (fun ls hl => ?_)
  have loop4 : ∀ (n9 : Nat) (k : Nat) (q : Nat), (k ≤ K) → (q = com (st 0) (sto 0) Ko k) → K - k < n9 → ∀ (H : Heap) (locs : List Loc) (ls : Array Slot), va_P D vwCl (wl N ad (c)) H → va_S (wA N ad s.heap.size) s.heap H locs → lv_has ls 5 [(0, .ref (ad b)), (1, .ref (ad o)), (2, .int (nI q)), (3, .int (nI k))] → W p l e { frames := 2, cells := 0, slots := 0, locals := 45 } s m [.ref (ad b), .ref (ad o)].toArray below meth c0 H locs 0 0 (MQ below (va_Qi (fun v c' => v = nI (com (st 0) (sto 0) Ko K) ∧ c = c') (fun c' t => va_P D vwCl (wl N ad c') t.heap) (wA N ad s.heap.size)) [.ref (ad b), .ref (ad o)].toArray s 0 0 (wA N ad s.heap.size)) (F0 m 4 ls []) := by
    intro n9
    induction n9 with
    | zero => intro k q hk hq hlt9; exact absurd hlt9 (Nat.not_lt_zero _)
    | succ n9 ih4 =>
      intro k q hk hq hlt9 H locs ls hP hS hl
      refine lv_iload_n hx hb dX1_commonValues_4 rfl (lv_at hl 3 rfl) ?_
      refine lv_aload_n hx hb dX1_commonValues_5 rfl (lv_at hl 0 rfl) ?_
      refine gh_X1_81 C0 hP hH (by omega) dX1_commonValues_6 ?_
      refine n_icmp_ge (tgt := 51) hx hb (by omega) (by omega) dX1_commonValues_9 (by decide) (fun h9 => ?_) (fun h9 => ?_)
      · obtain rfl : k = K := by omega
        refine lv_iload_n hx hb dX1_commonValues_51 rfl (lv_at hl 2 rfl) ?_
        exact e_i C0 hr hlk hP hS dX1_commonValues_52 (by decide) (by decide) ⟨by rw [hq], rfl⟩
      · refine lv_aload_n hx hb dX1_commonValues_12 rfl (lv_at hl 0 rfl) ?_
        refine gh_X1_97 C0 hP hH (by omega) dX1_commonValues_13 ?_
        refine lv_iload_n hx hb dX1_commonValues_16 rfl (lv_at hl 3 rfl) ?_
        refine k0_i (rn_X1_101 (As := [.ref (ad (b + 1)), .int (nI k)]) (rest := []) C0 (m_X1_at l D cA N ad (c) (b + 1) 8 k ((st 0)) (by omega) (hH.2.1) (by omega) (by omega) _) hP hS rfl ⟨rfl, rfl⟩ ⟨by decide, by decide⟩ hl.1 rfl (Nat.le_of_ble_eq_true rfl) dX1_commonValues_17 ⟨Nat.le_of_ble_eq_true rfl, Nat.le_of_ble_eq_true rfl⟩) C0 hP hS (fun v17 c17 H locs hp hP hS => ?_)
        obtain ⟨rfl, rfl⟩ := hp
        refine lv_istore (lv' := [(4, .int ((st 0) k)), (0, .ref (ad b)), (1, .ref (ad o)), (2, .int (nI q)), (3, .int (nI k))]) hx hb dX1_commonValues_20 hl (by decide) rfl (fun ls hl => ?_)
        refine lv_aload_n hx hb dX1_commonValues_22 rfl (lv_at hl 1 rfl) ?_
        refine lv_iload_n hx hb dX1_commonValues_23 rfl (lv_at hl 4 rfl) ?_
        refine lv_iload hx hb dX1_commonValues_24 (lv_at hl 0 rfl) ?_
        refine k0_i (rn_X1_193 (As := [.int (nI k), .int ((st 0) k)]) (rest := []) (r := b) C0 (m_X0_countAhead l D cA N ad (c) b R Y L S D9 K st k ((st 0) k) (by omega) hH (by omega) _) hP hS (by omega) hH.1 rfl ⟨rfl, rfl⟩ ⟨by decide, by decide⟩ hl.1 rfl (Nat.le_of_ble_eq_true rfl) dX1_commonValues_26 ⟨Nat.le_of_ble_eq_true rfl, Nat.le_of_ble_eq_true rfl⟩) C0 hP hS (fun v26 c26 H locs hp hP hS => ?_)
        obtain ⟨rfl, rfl⟩ := hp
        refine lv_aload_n hx hb dX1_commonValues_29 rfl (lv_at hl 2 rfl) ?_
        refine lv_aload_n hx hb dX1_commonValues_30 rfl (lv_at hl 2 rfl) ?_
        refine gh_X1_81 C0 hP hO (by omega) dX1_commonValues_31 ?_
        refine lv_iload hx hb dX1_commonValues_34 (lv_at hl 0 rfl) ?_
        refine k0_i (rn_X1_193 (As := [.int (nI Ko), .int ((st 0) k)]) (rest := [.int (nI (cntE (st 0) ((st 0) k) k))]) (r := o) C0 (m_X0_countAhead l D cA N ad (c) o Ro Yo Lo So Do Ko sto Ko ((st 0) k) (by omega) hO (by omega) _) hP hS (by omega) hO.1 rfl ⟨rfl, rfl⟩ ⟨by decide, by decide⟩ hl.1 rfl (Nat.le_of_ble_eq_true rfl) dX1_commonValues_36 ⟨Nat.le_of_ble_eq_true rfl, Nat.le_of_ble_eq_true rfl⟩) C0 hP hS (fun v36 c36 H locs hp hP hS => ?_)
        obtain ⟨rfl, rfl⟩ := hp
        refine n_icmp_ge (tgt := 45) hx hb (by have := cntE_le (st 0) (st 0 k) k; omega) (by have := cntE_le (sto 0) (st 0 k) Ko; omega) dX1_commonValues_39 (by decide) (fun h39 => ?_) (fun h39 => ?_)
        · refine lv_iinc (v := nI (k + 1)) (lv' := [(3, .int (nI (k + 1))), (4, .int ((st 0) k)), (0, .ref (ad b)), (1, .ref (ad o)), (2, .int (nI q))]) hx hb dX1_commonValues_45 hl (k := 4) rfl (nI_add k 1) (by decide) rfl (fun ls hl => ?_)
          refine lv_goto (tgt := 4) hx hb dX1_commonValues_48 (by decide) ?_
          exact ih4 (k + 1) q (by omega) (by rw [hq]; simp [com, Nat.not_lt.mpr h39]) (by omega) _ _ _ hP hS (lv_sub hl [2, 3, 4, 0] rfl)
        · refine lv_iinc (v := nI (q + 1)) (lv' := [(2, .int (nI (q + 1))), (4, .int ((st 0) k)), (0, .ref (ad b)), (1, .ref (ad o)), (3, .int (nI k))]) hx hb dX1_commonValues_42 hl (k := 3) rfl (nI_add q 1) (by decide) rfl (fun ls hl => ?_)
          refine lv_iinc (v := nI (k + 1)) (lv' := [(3, .int (nI (k + 1))), (2, .int (nI (q + 1))), (4, .int ((st 0) k)), (0, .ref (ad b)), (1, .ref (ad o))]) hx hb dX1_commonValues_45 hl (k := 4) rfl (nI_add k 1) (by decide) rfl (fun ls hl => ?_)
          refine lv_goto (tgt := 4) hx hb dX1_commonValues_48 (by decide) ?_
          exact ih4 (k + 1) (q + 1) (by omega) (by rw [hq]; simp [com, h39]) (by omega) _ _ _ hP hS (lv_sub hl [3, 4, 1, 0] rfl)
  exact loop4 (_ + 1) 0 0 (Nat.zero_le _) (rfl) (Nat.lt_succ_self _) _ _ _ hP hS (lv_sub hl [2, 3, 1, 0] rfl)
set_option maxHeartbeats 1000000 in
set_option maxRecDepth 10000 in
theorem m_X1_luckBehind (l : Launch) (D : va_G) (cA : Nat → ClassId) (N : Nat) (ad : Nat → Nat) (c : Nat → va_E) (n : Nat) (b R Y L S D9 K : Nat) (st : Nat → Nat → Int32) (k9 : Nat) (hN : 6 ≤ N) (hF : FH ad cA c n) (ht : TrAt ad cA c) (hb12 : 6 ≤ b) (hbN : b + 4 ≤ N) (hH : HandAt ad cA c b R Y L S D9 K st) (hok : Hok R Y L S D9 K) (hk9 : k9 < 2 ^ 30) : Ci l yX1_luckBehind wX1_luckBehind { frames := 3, cells := 0, slots := 0, locals := 67 } [.ref (ad 0), .ref (ad b), .int (nI k9)] D cA N ad c 0 0 (fun v c' => v = nI (nlI k9 L) ∧ Tr ad cA c c') := by
  intro sz9
  refine bd_of (cc := cX1_luckBehind) (maxL := 4) (ret := some Jvm.ClassFile.FieldType.int) (by decide) rfl (Nat.le_of_ble_eq_true rfl) ?_
  intro p e s m below meth c0 C0 hr hlk hnm hP hS hsz ls hl
  subst hsz
  have hx := C0.1
  have hb := C0.2.1
  have hl : lv_has ls 4 [(0, .ref (ad 0)), (1, .ref (ad b)), (2, .int (nI k9))] := hl
  obtain ⟨q1, q2, q3, q4, q5, q6, q7, q8, q9⟩ := id hok
  obtain ⟨Rt, Yt, Lt, St, Dt, Kt, stt, ht⟩ := ht
  refine lv_aload_n hx hb dX1_luckBehind_0 rfl (lv_at hl 0 rfl) ?_
  refine gf_X1_18 C0 hP (by omega) hF.1 rfl dX1_luckBehind_1 ?_
  refine lv_aload_n hx hb dX1_luckBehind_4 rfl (lv_at hl 1 rfl) ?_
  refine k0_v (rn_X1_69 (As := [.ref (ad b)]) (rest := []) (r := 2) C0 (m_X0_become l D cA N ad (c) 2 Rt Yt Lt St Dt Kt stt b R Y L S D9 K st (by omega) ht (by omega) hH (by omega) (by omega) _) hP hS (by omega) ht.1 rfl ⟨rfl, rfl⟩ ⟨by decide, by decide⟩ hl.1 rfl (Nat.le_of_ble_eq_true rfl) dX1_luckBehind_5 ⟨Nat.le_of_ble_eq_true rfl, Nat.le_of_ble_eq_true rfl⟩) C0 hP hS (fun c5 H locs hp hP hS => ?_)
  obtain rfl := hp
  refine lv_iconst (v := nI 0) hx hb dX1_luckBehind_8 rfl ?_
  refine lv_istore_n (lv' := [(3, .int (nI 0)), (0, .ref (ad 0)), (1, .ref (ad b)), (2, .int (nI k9))]) hx hb dX1_luckBehind_9 rfl hl (by decide) rfl (fun ls hl => ?_)
  have loop10 : ∀ (n9 : Nat) (k : Nat), (k ≤ k9) → k9 - k < n9 → ∀ (H : Heap) (locs : List Loc) (ls : Array Slot), va_P D vwCl (wl N ad (hw ad cA c 2 R Y ((nlI k L)) S D9 K ((stB stt st K)))) H → va_S (wA N ad s.heap.size) s.heap H locs → lv_has ls 4 [(0, .ref (ad 0)), (1, .ref (ad b)), (2, .int (nI k9)), (3, .int (nI k))] → W p l e { frames := 3, cells := 0, slots := 0, locals := 67 } s m [.ref (ad 0), .ref (ad b), .int (nI k9)].toArray below meth c0 H locs 0 0 (MQ below (va_Qi (fun v c' => v = nI (nlI k9 L) ∧ Tr ad cA c c') (fun c' t => va_P D vwCl (wl N ad c') t.heap) (wA N ad s.heap.size)) [.ref (ad 0), .ref (ad b), .int (nI k9)].toArray s 0 0 (wA N ad s.heap.size)) (F0 m 10 ls []) := by
    intro n9
    induction n9 with
    | zero => intro k hk hlt9; exact absurd hlt9 (Nat.not_lt_zero _)
    | succ n9 ih10 =>
      intro k hk hlt9 H locs ls hP hS hl
      have hnl := nlI_le q4 k
      refine lv_iload_n hx hb dX1_luckBehind_10 rfl (lv_at hl 3 rfl) ?_
      refine lv_iload_n hx hb dX1_luckBehind_11 rfl (lv_at hl 2 rfl) ?_
      refine n_icmp_ge (tgt := 30) hx hb (by omega) (by omega) dX1_luckBehind_12 (by decide) (fun h12 => ?_) (fun h12 => ?_)
      · obtain rfl : k = k9 := by omega
        refine lv_aload_n hx hb dX1_luckBehind_30 rfl (lv_at hl 0 rfl) ?_
        refine gf_X1_18 C0 hP (by omega) (hF.hwo (by omega)).1 rfl dX1_luckBehind_31 ?_
        refine gh_X1_78 C0 hP hw_at (by omega) dX1_luckBehind_34 ?_
        exact e_i C0 hr hlk hP hS dX1_luckBehind_37 (by decide) (by decide) ⟨rfl, _, _, _, _, _, _, _, rfl⟩
      · refine lv_aload_n hx hb dX1_luckBehind_15 rfl (lv_at hl 0 rfl) ?_
        refine gf_X1_18 C0 hP (by omega) (hF.hwo (by omega)).1 rfl dX1_luckBehind_16 ?_
        refine lv_iconst (v := nI 1) hx hb dX1_luckBehind_19 rfl ?_
        refine k0_i (rn_X1_135 (As := [.int (nI 1)]) (rest := []) (r := 2) C0 (m_X0_draw l D cA N ad (hw ad cA c 2 R Y ((nlI k L)) S D9 K ((stB stt st K))) 2 R Y ((nlI k L)) S D9 K ((stB stt st K)) 1 (by omega) hw_at (by omega) (by omega) (by omega) _) hP hS (by omega) hw_at.1 rfl ⟨rfl, rfl⟩ ⟨by decide, by decide⟩ hl.1 rfl (Nat.le_of_ble_eq_true rfl) dX1_luckBehind_20 ⟨Nat.le_of_ble_eq_true rfl, Nat.le_of_ble_eq_true rfl⟩) C0 hP hS (fun v20 c20 H locs hp hP hS => ?_)
        obtain ⟨rfl, rfl⟩ := hp
        rw [hw_hw] at hP
        refine lv_pop hx hb dX1_luckBehind_23 rfl ?_
        refine lv_iinc (v := nI (k + 1)) (lv' := [(3, .int (nI (k + 1))), (0, .ref (ad 0)), (1, .ref (ad b)), (2, .int (nI k9))]) hx hb dX1_luckBehind_24 hl (k := 3) rfl (nI_add k 1) (by decide) rfl (fun ls hl => ?_)
        refine lv_goto (tgt := 10) hx hb dX1_luckBehind_27 (by decide) ?_
        exact ih10 (k + 1) (by omega) (by omega) _ _ _ hP hS (lv_sub hl [1, 2, 3, 0] rfl)
  exact loop10 (_ + 1) 0 (Nat.zero_le _) (Nat.lt_succ_self _) _ _ _ hP hS (lv_sub hl [1, 2, 3, 0] rfl)
set_option maxHeartbeats 1000000 in
set_option maxRecDepth 10000 in
theorem m_X1_areAlike (l : Launch) (D : va_G) (cA : Nat → ClassId) (N : Nat) (ad : Nat → Nat) (c : Nat → va_E) (b R Y L S D9 K : Nat) (st : Nat → Nat → Int32) (o Ro Yo Lo So Do Ko : Nat) (sto : Nat → Nat → Int32)  (hb12 : 6 ≤ b) (hbN : b + 4 ≤ N) (hH : HandAt ad cA c b R Y L S D9 K st) (hok : Hok R Y L S D9 K) (ho12 : 6 ≤ o) (hoN : o + 4 ≤ N) (hO : HandAt ad cA c o Ro Yo Lo So Do Ko sto) (hoo : Hok Ro Yo Lo So Do Ko) : Ci l yX1_areAlike wX1_areAlike { frames := 0, cells := 0, slots := 0, locals := 0 } [.ref (ad b), .ref (ad o)] D cA N ad c 0 0 (fun v c' => v = (if Y = 0 ∧ Yo = 0 ∧ R = Ro then 1 else 0) ∧ c = c') := by
  intro sz9
  refine bd_of (cc := cX1_areAlike) (maxL := 2) (ret := some Jvm.ClassFile.FieldType.boolean) (by decide) rfl (Nat.le_of_ble_eq_true rfl) ?_
  intro p e s m below meth c0 C0 hr hlk hnm hP hS hsz ls hl
  subst hsz
  have hx := C0.1
  have hb := C0.2.1
  have hl : lv_has ls 2 [(0, .ref (ad b)), (1, .ref (ad o))] := hl
  obtain ⟨q1, q2, q3, q4, q5, q6, q7, q8, q9⟩ := id hok
  obtain ⟨o1, o2, o3, o4, o5, o6, o7, o8, o9⟩ := id hoo
  refine lv_aload_n hx hb dX1_areAlike_0 rfl (lv_at hl 0 rfl) ?_
  refine gh_X1_186 C0 hP hH (by omega) dX1_areAlike_1 ?_
  refine n_if_ne (tgt := 29) hx hb (by omega) dX1_areAlike_4 (by decide) (fun h4 => ?_) (fun h4 => ?_)
  · refine lv_iconst (v := nI 0) hx hb dX1_areAlike_29 rfl ?_
    exact e_z C0 hr hlk hP hS dX1_areAlike_30 (by decide) (by decide) (by decide +kernel) ⟨by first | (rw [if_pos (by omega)]; rfl) | (rw [if_neg (by omega)]; rfl), rfl⟩
  · refine lv_aload_n hx hb dX1_areAlike_7 rfl (lv_at hl 1 rfl) ?_
    refine gh_X1_186 C0 hP hO (by omega) dX1_areAlike_8 ?_
    refine n_if_ne (tgt := 29) hx hb (by omega) dX1_areAlike_11 (by decide) (fun h11 => ?_) (fun h11 => ?_)
    · refine lv_iconst (v := nI 0) hx hb dX1_areAlike_29 rfl ?_
      exact e_z C0 hr hlk hP hS dX1_areAlike_30 (by decide) (by decide) (by decide +kernel) ⟨by first | (rw [if_pos (by omega)]; rfl) | (rw [if_neg (by omega)]; rfl), rfl⟩
    · refine lv_aload_n hx hb dX1_areAlike_14 rfl (lv_at hl 0 rfl) ?_
      refine gh_X1_84 C0 hP hH (by omega) dX1_areAlike_15 ?_
      refine lv_aload_n hx hb dX1_areAlike_18 rfl (lv_at hl 1 rfl) ?_
      refine gh_X1_84 C0 hP hO (by omega) dX1_areAlike_19 ?_
      refine n_icmp_ne (tgt := 29) hx hb (by omega) (by omega) dX1_areAlike_22 (by decide) (fun h22 => ?_) (fun h22 => ?_)
      · refine lv_iconst (v := nI 0) hx hb dX1_areAlike_29 rfl ?_
        exact e_z C0 hr hlk hP hS dX1_areAlike_30 (by decide) (by decide) (by decide +kernel) ⟨by first | (rw [if_pos (by omega)]; rfl) | (rw [if_neg (by omega)]; rfl), rfl⟩
      · refine lv_iconst (v := nI 1) hx hb dX1_areAlike_25 rfl ?_
        refine lv_goto (tgt := 30) hx hb dX1_areAlike_26 (by decide) ?_
        exact e_z C0 hr hlk hP hS dX1_areAlike_30 (by decide) (by decide) (by decide +kernel) ⟨by first | (rw [if_pos (by omega)]; rfl) | (rw [if_neg (by omega)]; rfl), rfl⟩
