def oI (o : Option Nat) : Int32 := match o with
  | none => -1
  | some p => nI p
/-- the places i and j of all three rows, swapped -/
def swp (st : Nat → Nat → Int32) (i j : Nat) : Nat → Nat → Int32 := fun k => upd (upd (st k) i (st k j)) j (st k i)
/-- another hand's stone q at place j -/
def cpS (st : Nat → Nat → Int32) (j : Nat) (sto : Nat → Nat → Int32) (q : Nat) : Nat → Nat → Int32 := stU (stU (stU st 0 j (sto 0 q)) 1 j (sto 1 q)) 2 j (sto 2 q)
def stB (st sto : Nat → Nat → Int32) : Nat → Nat → Nat → Int32
  | 0 => st
  | k + 1 => cpS (stB st sto k) k sto k
/-- where the next stone goes, and what luck and held are then (S and D count it already) -/
def pk (R Y L S D K w : Nat) : Option Nat × Nat × Nat :=
  if K < R then (some K, L, K + 1)
  else if Y = 0 then (if nl L % S < R then (some (nl L % S), nl L, K) else (none, nl L, K))
  else if nl L % D < w * R then (some (nl (nl L) % R), nl (nl L), K) else (none, nl L, K)
/-- a stone at its place -/
def stT (st : Nat → Nat → Int32) (o : Option Nat) (v w t : Int32) : Nat → Nat → Int32 := match o with
  | none => st
  | some p => stU (stU (stU st 0 p v) 1 p w) 2 p t
theorem pk9_in {R Y L S D K w : Nat} (hR : 0 < R) (hK : K ≤ R) : (∀ p, (pk R Y L S D K w).1 = some p → p < R) ∧ (pk R Y L S D K w).2.2 ≤ R ∧ (L ≤ 9999 → (pk R Y L S D K w).2.1 ≤ 9999) := by
  have h1 := nl_lt L
  have h2 := nl_lt (nl L)
  have h3 : nl (nl L) % R < R := Nat.mod_lt _ hR
  unfold pk
  split
  · refine ⟨fun p h => ?_, by show K + 1 ≤ R; omega, fun h => h⟩
    have e : K = p := Option.some.inj h
    omega
  · split
    · split
      · refine ⟨fun p h => ?_, hK, fun _ => by show nl L ≤ 9999; omega⟩
        have e : nl L % S = p := Option.some.inj h
        omega
      · exact ⟨fun p h => (by cases h), hK, fun _ => by show nl L ≤ 9999; omega⟩
    · split
      · refine ⟨fun p h => ?_, hK, fun _ => by show nl (nl L) ≤ 9999; omega⟩
        have e : nl (nl L) % R = p := Option.some.inj h
        omega
      · exact ⟨fun p h => (by cases h), hK, fun _ => by show nl L ≤ 9999; omega⟩
/-- mixing, from place j down: luck, stones, swaps -/
def mixF : Nat → Nat × (Nat → Nat → Int32) × Nat → Nat × (Nat → Nat → Int32) × Nat
  | 0, x => x
  | j + 1, x => mixF j (if nl x.1 % (j + 2) = j + 1 then (nl x.1, x.2.1, x.2.2) else (nl x.1, swp x.2.1 (j + 1) (nl x.1 % (j + 2)), x.2.2 + 1))
def tot (V : Nat → Int32) : Nat → Int32
  | 0 => nI 0
  | k + 1 => tot V k + V k
def cntE (V : Nat → Int32) (x : Int32) : Nat → Nat
  | 0 => 0
  | k + 1 => cntE V x k + (if V k = x then 1 else 0)
def cntL (V : Nat → Int32) (x : Int32) : Nat → Nat
  | 0 => 0
  | k + 1 => cntL V x k + (if V k < x then 1 else 0)
def rk (V : Nat → Int32) (K p : Nat) : Nat := cntE V (V p) p + cntL V (V p) K
theorem cntE_le (V : Nat → Int32) (x : Int32) : ∀ k, cntE V x k ≤ k
  | 0 => Nat.le_refl 0
  | k + 1 => by have := cntE_le V x k; unfold cntE; split <;> omega
theorem cntL_le (V : Nat → Int32) (x : Int32) : ∀ k, cntL V x k ≤ k
  | 0 => Nat.le_refl 0
  | k + 1 => by have := cntL_le V x k; unfold cntL; split <;> omega
theorem rk_le (V : Nat → Int32) (K p : Nat) : rk V K p ≤ p + K := by
  have h1 := cntE_le V (V p) p
  have h2 := cntL_le V (V p) K
  unfold rk; omega
theorem i_nlt {x y : Int32} (h : y ≤ x) : ¬ x < y := by
  rw [Int32.le_iff_toInt_le] at h
  rw [Int32.lt_iff_toInt_lt]
  omega
theorem i_lt {x y : Int32} (h : ¬ y ≤ x) : x < y := by
  rw [Int32.le_iff_toInt_le] at h
  rw [Int32.lt_iff_toInt_lt]
  omega
theorem nI_m1 {k : Nat} (h : k < 2 ^ 31) : ¬ nI k = -1 := by
  intro e
  have h1 := nI_toInt h
  rw [e] at h1
  have h2 : (-1 : Int32).toInt = -1 := by decide
  omega
def swS (st : Nat → Nat → Int32) (i j n : Nat) : Nat → Nat → Int32 := fun k => if k < n then upd (upd (st k) i (st k j)) j (st k i) else st k
section SWS
variable {ad : Nat → Nat} {cA : Nat → ClassId} {c : Nat → va_E} {b R Y L S D K : Nat} {st st' : Nat → Nat → Int32} {i j : Nat}
theorem hw_st (h0 : st 0 = st' 0) (h1 : st 1 = st' 1) (h2 : st 2 = st' 2) : hw ad cA c b R Y L S D K st = hw ad cA c b R Y L S D K st' := by
  funext r
  unfold hw
  rw [h0, h1, h2]
theorem swS_1 : va_up (hw ad cA c b R Y L S D K st) (b + 1) (.inl (cA 0, 8, .inl (upd (upd (st 0) i (st 0 j)) j (st 0 i)))) = hw ad cA c b R Y L S D K (swS st i j 1) := by
  funext r
  by_cases h : r = b + 1
  · subst h; simp [hw, va_up, swS]
  · rw [va_up_ne _ _ h]
    simp [hw, h, swS]
theorem swS_2 : va_up (hw ad cA c b R Y L S D K (swS st i j 1)) (b + 2) (.inl (cA 0, 8, .inl (upd (upd (swS st i j 1 1) i (swS st i j 1 1 j)) j (swS st i j 1 1 i)))) = hw ad cA c b R Y L S D K (swS st i j 2) := by
  funext r
  by_cases h : r = b + 2
  · subst h; simp [hw, va_up, swS]
  · rw [va_up_ne _ _ h]
    simp [hw, h, swS]
theorem swS_3 : va_up (hw ad cA c b R Y L S D K (swS st i j 2)) (b + 3) (.inl (cA 0, 8, .inl (upd (upd (swS st i j 2 2) i (swS st i j 2 2 j)) j (swS st i j 2 2 i)))) = hw ad cA c b R Y L S D K (swp st i j) := by
  funext r
  by_cases h : r = b + 3
  · subst h; simp [hw, va_up, swS, swp]
  · rw [va_up_ne _ _ h]
    simp [hw, h, swS, swp]
end SWS
set_option maxHeartbeats 1000000 in
set_option maxRecDepth 10000 in
theorem m_X1_swap (l : Launch) (D : va_G) (cA : Nat → ClassId) (N : Nat) (ad : Nat → Nat) (c : Nat → va_E) (r n i j : Nat) (f : Nat → Int32) (hrN : r < N) (hc : c r = .inl (cA 0, n, .inl f)) (hn : n < 2 ^ 31) (hi : i < n) (hj : j < n) : Cv l yX1_swap wX1_swap { frames := 1, cells := 0, slots := 0, locals := 22 } [.ref (ad r), .int (nI i), .int (nI j)] D cA N ad c 0 0 (fun c' => va_up c r (.inl (cA 0, n, .inl (upd (upd f i (f j)) j (f i)))) = c') := by
  intro sz9
  refine bd_of (cc := cX1_swap) (maxL := 4) (ret := none) (by decide) rfl (Nat.le_of_ble_eq_true rfl) ?_
  intro p e s m below meth c0 C0 hr hlk hnm hP hS hsz ls hl
  subst hsz
  have hx := C0.1
  have hb := C0.2.1
  have hl : lv_has ls 4 [(0, .ref (ad r)), (1, .int (nI i)), (2, .int (nI j))] := hl
  refine lv_aload_n hx hb dX1_swap_0 rfl (lv_at hl 0 rfl) ?_
  refine lv_iload_n hx hb dX1_swap_1 rfl (lv_at hl 1 rfl) ?_
  refine k0_i (rn_X1_101 (As := [.ref (ad r), .int (nI i)]) (rest := []) C0 (m_X1_at l D cA N ad (c) (r) n i f (by omega) (hc) (by omega) (by omega) _) hP hS rfl ⟨rfl, rfl⟩ ⟨by decide, by decide⟩ hl.1 rfl (Nat.le_of_ble_eq_true rfl) dX1_swap_2 ⟨Nat.le_of_ble_eq_true rfl, Nat.le_of_ble_eq_true rfl⟩) C0 hP hS (fun v2 c2 H locs hp hP hS => ?_)
  obtain ⟨rfl, rfl⟩ := hp
  refine lv_istore_n (lv' := [(3, .int (f i)), (0, .ref (ad r)), (1, .int (nI i)), (2, .int (nI j))]) hx hb dX1_swap_5 rfl hl (by decide) rfl (fun ls hl => ?_)
  refine lv_aload_n hx hb dX1_swap_6 rfl (lv_at hl 1 rfl) ?_
  refine lv_iload_n hx hb dX1_swap_7 rfl (lv_at hl 2 rfl) ?_
  refine lv_aload_n hx hb dX1_swap_8 rfl (lv_at hl 1 rfl) ?_
  refine lv_iload_n hx hb dX1_swap_9 rfl (lv_at hl 3 rfl) ?_
  refine k0_i (rn_X1_101 (As := [.ref (ad r), .int (nI j)]) (rest := [.int (nI i), .ref (ad r)]) C0 (m_X1_at l D cA N ad (c) (r) n j f (by omega) (hc) (by omega) (by omega) _) hP hS rfl ⟨rfl, rfl⟩ ⟨by decide, by decide⟩ hl.1 rfl (Nat.le_of_ble_eq_true rfl) dX1_swap_10 ⟨Nat.le_of_ble_eq_true rfl, Nat.le_of_ble_eq_true rfl⟩) C0 hP hS (fun v10 c10 H locs hp hP hS => ?_)
  obtain ⟨rfl, rfl⟩ := hp
  refine k0_v (rn_X1_196 (As := [.ref (ad r), .int (nI i), .int (f j)]) (rest := []) C0 (m_X1_put l D cA N ad (c) (r) n i f (f j) (by omega) (hc) (by omega) (by omega) _) hP hS rfl ⟨rfl, rfl⟩ ⟨by decide, by decide⟩ hl.1 rfl (Nat.le_of_ble_eq_true rfl) dX1_swap_13 ⟨Nat.le_of_ble_eq_true rfl, Nat.le_of_ble_eq_true rfl⟩) C0 hP hS (fun c13 H locs hp hP hS => ?_)
  obtain rfl := hp
  skip
  refine lv_aload_n hx hb dX1_swap_16 rfl (lv_at hl 1 rfl) ?_
  refine lv_iload_n hx hb dX1_swap_17 rfl (lv_at hl 3 rfl) ?_
  refine lv_iload_n hx hb dX1_swap_18 rfl (lv_at hl 0 rfl) ?_
  refine k0_v (rn_X1_196 (As := [.ref (ad r), .int (nI j), .int (f i)]) (rest := []) C0 (m_X1_put l D cA N ad (va_up c r (.inl (cA 0, n, .inl (upd f i (f j))))) (r) n j ((upd f i (f j))) (f i) (by omega) (up_at) (by omega) (by omega) _) hP hS rfl ⟨rfl, rfl⟩ ⟨by decide, by decide⟩ hl.1 rfl (Nat.le_of_ble_eq_true rfl) dX1_swap_19 ⟨Nat.le_of_ble_eq_true rfl, Nat.le_of_ble_eq_true rfl⟩) C0 hP hS (fun c19 H locs hp hP hS => ?_)
  obtain rfl := hp
  rw [bx_uu] at hP
  exact e_v C0 hr hlk hP hS dX1_swap_22 (by decide) (by decide) rfl
set_option maxHeartbeats 1000000 in
set_option maxRecDepth 10000 in
theorem m_X0_forget (l : Launch) (D : va_G) (cA : Nat → ClassId) (N : Nat) (ad : Nat → Nat) (c : Nat → va_E) (b R Y L S D9 K : Nat) (st : Nat → Nat → Int32)  (hbN : b + 4 ≤ N) (hH : HandAt ad cA c b R Y L S D9 K st) : Cv l yX0_forget wX0_forget { frames := 0, cells := 0, slots := 0, locals := 0 } [.ref (ad b)] D cA N ad c 0 0 (fun c' => hw ad cA c b R Y L 0 0 0 st = c') := by
  intro sz9
  refine bd_of (cc := cX0_forget) (maxL := 1) (ret := none) (by decide) rfl (Nat.le_of_ble_eq_true rfl) ?_
  intro p e s m below meth c0 C0 hr hlk hnm hP hS hsz ls hl
  subst hsz
  have hx := C0.1
  have hb := C0.2.1
  have hl : lv_has ls 1 [(0, .ref (ad b))] := hl
  rw [← hw_self hH] at hP
  refine lv_aload_n hx hb dX0_forget_0 rfl (lv_at hl 0 rfl) ?_
  refine lv_iconst (v := nI 0) hx hb dX0_forget_1 rfl ?_
  refine ph_X0_31 C0 hP hS (by omega) dX0_forget_2 (fun H locs hP hS => ?_)
  refine lv_aload_n hx hb dX0_forget_5 rfl (lv_at hl 0 rfl) ?_
  refine lv_iconst (v := nI 0) hx hb dX0_forget_6 rfl ?_
  refine ph_X0_34 C0 hP hS (by omega) dX0_forget_7 (fun H locs hP hS => ?_)
  refine lv_aload_n hx hb dX0_forget_10 rfl (lv_at hl 0 rfl) ?_
  refine lv_iconst (v := nI 0) hx hb dX0_forget_11 rfl ?_
  refine ph_X0_37 C0 hP hS (by omega) dX0_forget_12 (fun H locs hP hS => ?_)
  exact e_v C0 hr hlk hP hS dX0_forget_15 (by decide) (by decide) rfl
set_option maxHeartbeats 1000000 in
set_option maxRecDepth 10000 in
theorem m_X0_draw (l : Launch) (D : va_G) (cA : Nat → ClassId) (N : Nat) (ad : Nat → Nat) (c : Nat → va_E) (b R Y L S D9 K : Nat) (st : Nat → Nat → Int32) (n : Nat) (hbN : b + 4 ≤ N) (hH : HandAt ad cA c b R Y L S D9 K st) (hL : L ≤ 9999) (hn1 : 1 ≤ n) (hn : n < 2 ^ 31) : Ci l yX0_draw wX0_draw { frames := 0, cells := 0, slots := 0, locals := 0 } [.ref (ad b), .int (nI n)] D cA N ad c 0 0 (fun v c' => v = nI (nl L % n) ∧ hw ad cA c b R Y (nl L) S D9 K st = c') := by
  intro sz9
  refine bd_of (cc := cX0_draw) (maxL := 2) (ret := some Jvm.ClassFile.FieldType.int) (by decide) rfl (Nat.le_of_ble_eq_true rfl) ?_
  intro p e s m below meth c0 C0 hr hlk hnm hP hS hsz ls hl
  subst hsz
  have hx := C0.1
  have hb := C0.2.1
  have hl : lv_has ls 2 [(0, .ref (ad b)), (1, .int (nI n))] := hl
  rw [← hw_self hH] at hP
  have hnl := nl_lt L
  refine lv_aload_n hx hb dX0_draw_0 rfl (lv_at hl 0 rfl) ?_
  refine lv_aload_n hx hb dX0_draw_1 rfl (lv_at hl 0 rfl) ?_
  refine gh_X0_28 C0 hP hw_at (by omega) dX0_draw_2 ?_
  refine lv_sipush (v := nI 4621) hx hb dX0_draw_5 rfl ?_
  refine n_imul hx hb dX0_draw_8 ?_
  refine lv_sipush (v := nI 2777) hx hb dX0_draw_9 rfl ?_
  refine n_iadd hx hb dX0_draw_12 ?_
  refine lv_sipush (v := nI 10000) hx hb dX0_draw_13 rfl ?_
  refine n_irem hx hb (by omega) (by omega) (by omega) dX0_draw_16 ?_
  refine ph_X0_28 (x9 := nl L) C0 hP hS (by omega) dX0_draw_17 (fun H locs hP hS => ?_)
  refine lv_iload_n hx hb dX0_draw_20 rfl (lv_at hl 1 rfl) ?_
  refine lv_iconst (v := nI 1) hx hb dX0_draw_21 rfl ?_
  refine n_icmp_ge (tgt := 29) hx hb (by omega) (by omega) dX0_draw_22 (by decide) (fun h22 => ?_) (fun h22 => ?_)
  rotate_left
  · exfalso; omega
  refine lv_aload_n hx hb dX0_draw_29 rfl (lv_at hl 0 rfl) ?_
  refine gh_X0_28 C0 hP hw_at (by omega) dX0_draw_30 ?_
  refine lv_iload_n hx hb dX0_draw_33 rfl (lv_at hl 1 rfl) ?_
  refine n_irem hx hb (by omega) (by omega) (by omega) dX0_draw_34 ?_
  exact e_i C0 hr hlk hP hS dX0_draw_35 (by decide) (by decide) ⟨rfl, rfl⟩
set_option maxHeartbeats 1000000 in
set_option maxRecDepth 10000 in
theorem m_X0_total (l : Launch) (D : va_G) (cA : Nat → ClassId) (N : Nat) (ad : Nat → Nat) (c : Nat → va_E) (b R Y L S D9 K : Nat) (st : Nat → Nat → Int32)  (hbN : b + 4 ≤ N) (hH : HandAt ad cA c b R Y L S D9 K st) (hK : K ≤ 8) : Ci l yX0_total wX0_total { frames := 1, cells := 0, slots := 0, locals := 21 } [.ref (ad b)] D cA N ad c 0 0 (fun v c' => v = tot (st 0) K ∧ c = c') := by
  intro sz9
  refine bd_of (cc := cX0_total) (maxL := 3) (ret := some Jvm.ClassFile.FieldType.int) (by decide) rfl (Nat.le_of_ble_eq_true rfl) ?_
  intro p e s m below meth c0 C0 hr hlk hnm hP hS hsz ls hl
  subst hsz
  have hx := C0.1
  have hb := C0.2.1
  have hl : lv_has ls 3 [(0, .ref (ad b))] := hl
  refine lv_iconst (v := nI 0) hx hb dX0_total_0 rfl ?_
  refine lv_istore_n (lv' := [(1, .int (nI 0)), (0, .ref (ad b))]) hx hb dX0_total_1 rfl hl (by decide) rfl (fun ls hl => ?_)
  refine lv_iconst (v := nI 0) hx hb dX0_total_2 rfl ?_
  refine lv_istore_n (lv' := [(2, .int (nI 0)), (1, .int (nI 0)), (0, .ref (ad b))]) hx hb dX0_total_3 rfl hl (by decide) rfl (fun ls hl => ?_)
  have loop4 : ∀ (n9 : Nat) (k : Nat), (k ≤ K) → K - k < n9 → ∀ (H : Heap) (locs : List Loc) (ls : Array Slot), va_P D vwCl (wl N ad (c)) H → va_S (wA N ad s.heap.size) s.heap H locs → lv_has ls 3 [(0, .ref (ad b)), (1, .int (tot (st 0) k)), (2, .int (nI k))] → W p l e { frames := 1, cells := 0, slots := 0, locals := 21 } s m [.ref (ad b)].toArray below meth c0 H locs 0 0 (MQ below (va_Qi (fun v c' => v = tot (st 0) K ∧ c = c') (fun c' t => va_P D vwCl (wl N ad c') t.heap) (wA N ad s.heap.size)) [.ref (ad b)].toArray s 0 0 (wA N ad s.heap.size)) (F0 m 4 ls []) := by
    intro n9
    induction n9 with
    | zero => intro k hk hlt9; exact absurd hlt9 (Nat.not_lt_zero _)
    | succ n9 ih4 =>
      intro k hk hlt9 H locs ls hP hS hl
      refine lv_iload_n hx hb dX0_total_4 rfl (lv_at hl 2 rfl) ?_
      refine lv_aload_n hx hb dX0_total_5 rfl (lv_at hl 0 rfl) ?_
      refine gh_X0_31 C0 hP hH (by omega) dX0_total_6 ?_
      refine n_icmp_ge (tgt := 29) hx hb (by omega) (by omega) dX0_total_9 (by decide) (fun h9 => ?_) (fun h9 => ?_)
      · obtain rfl : k = K := by omega
        refine lv_iload_n hx hb dX0_total_29 rfl (lv_at hl 1 rfl) ?_
        exact e_i C0 hr hlk hP hS dX0_total_30 (by decide) (by decide) ⟨rfl, rfl⟩
      · refine lv_iload_n hx hb dX0_total_12 rfl (lv_at hl 1 rfl) ?_
        refine lv_aload_n hx hb dX0_total_13 rfl (lv_at hl 0 rfl) ?_
        refine gh_X0_9 C0 hP hH (by omega) dX0_total_14 ?_
        refine lv_iload_n hx hb dX0_total_17 rfl (lv_at hl 2 rfl) ?_
        refine k0_i (rn_X0_44 (As := [.ref (ad (b + 1)), .int (nI k)]) (rest := [.int (tot (st 0) k)]) C0 (m_X1_at l D cA N ad (c) (b + 1) 8 k ((st 0)) (by omega) (hH.2.1) (by omega) (by omega) _) hP hS rfl ⟨rfl, rfl⟩ ⟨by decide, by decide⟩ hl.1 rfl (Nat.le_of_ble_eq_true rfl) dX0_total_18 ⟨Nat.le_of_ble_eq_true rfl, Nat.le_of_ble_eq_true rfl⟩) C0 hP hS (fun v18 c18 H locs hp hP hS => ?_)
        obtain ⟨rfl, rfl⟩ := hp
        refine lv_iadd hx hb dX0_total_21 ?_
        refine lv_istore_n (lv' := [(1, .int ((tot (st 0) k) + ((st 0) k))), (0, .ref (ad b)), (2, .int (nI k))]) hx hb dX0_total_22 rfl hl (by decide) rfl (fun ls hl => ?_)
        refine lv_iinc (v := nI (k + 1)) (lv' := [(2, .int (nI (k + 1))), (1, .int ((tot (st 0) k) + ((st 0) k))), (0, .ref (ad b))]) hx hb dX0_total_23 hl (k := 2) rfl (nI_add k 1) (by decide) rfl (fun ls hl => ?_)
        refine lv_goto (tgt := 4) hx hb dX0_total_26 (by decide) ?_
        exact ih4 (k + 1) (by omega) (by omega) _ _ _ hP hS (lv_sub hl [2, 1, 0] rfl)
  exact loop4 (_ + 1) 0 (Nat.zero_le _) (Nat.lt_succ_self _) _ _ _ hP hS (lv_sub hl [2, 1, 0] rfl)
set_option maxHeartbeats 1000000 in
set_option maxRecDepth 10000 in
theorem m_X0_countAhead (l : Launch) (D : va_G) (cA : Nat → ClassId) (N : Nat) (ad : Nat → Nat) (c : Nat → va_E) (b R Y L S D9 K : Nat) (st : Nat → Nat → Int32) (a : Nat) (x : Int32) (hbN : b + 4 ≤ N) (hH : HandAt ad cA c b R Y L S D9 K st) (hp : a ≤ 8) : Ci l yX0_countAhead wX0_countAhead { frames := 1, cells := 0, slots := 0, locals := 21 } [.ref (ad b), .int (nI a), .int x] D cA N ad c 0 0 (fun v c' => v = nI (cntE (st 0) x a) ∧ c = c') := by
  intro sz9
  refine bd_of (cc := cX0_countAhead) (maxL := 5) (ret := some Jvm.ClassFile.FieldType.int) (by decide) rfl (Nat.le_of_ble_eq_true rfl) ?_
  intro p e s m below meth c0 C0 hr hlk hnm hP hS hsz ls hl
  subst hsz
  have hx := C0.1
  have hb := C0.2.1
  have hl : lv_has ls 5 [(0, .ref (ad b)), (1, .int (nI a)), (2, .int x)] := hl
  refine lv_iconst (v := nI 0) hx hb dX0_countAhead_0 rfl ?_
  refine lv_istore_n (lv' := [(3, .int (nI 0)), (0, .ref (ad b)), (1, .int (nI a)), (2, .int x)]) hx hb dX0_countAhead_1 rfl hl (by decide) rfl (fun ls hl => ?_)
  refine lv_iconst (v := nI 0) hx hb dX0_countAhead_2 rfl ?_
  refine lv_istore (lv' := [(4, .int (nI 0)), (3, .int (nI 0)), (0, .ref (ad b)), (1, .int (nI a)), (2, .int x)]) hx hb dX0_countAhead_3 hl (by decide) rfl (fun ls hl => ?_)
  have loop5 : ∀ (n9 : Nat) (k : Nat) (q : Nat), (k ≤ a) → (q = cntE (st 0) x k) → a - k < n9 → ∀ (H : Heap) (locs : List Loc) (ls : Array Slot), va_P D vwCl (wl N ad (c)) H → va_S (wA N ad s.heap.size) s.heap H locs → lv_has ls 5 [(0, .ref (ad b)), (1, .int (nI a)), (2, .int x), (3, .int (nI q)), (4, .int (nI k))] → W p l e { frames := 1, cells := 0, slots := 0, locals := 21 } s m [.ref (ad b), .int (nI a), .int x].toArray below meth c0 H locs 0 0 (MQ below (va_Qi (fun v c' => v = nI (cntE (st 0) x a) ∧ c = c') (fun c' t => va_P D vwCl (wl N ad c') t.heap) (wA N ad s.heap.size)) [.ref (ad b), .int (nI a), .int x].toArray s 0 0 (wA N ad s.heap.size)) (F0 m 5 ls []) := by
    intro n9
    induction n9 with
    | zero => intro k q hk hq hlt9; exact absurd hlt9 (Nat.not_lt_zero _)
    | succ n9 ih5 =>
      intro k q hk hq hlt9 H locs ls hP hS hl
      refine lv_iload hx hb dX0_countAhead_5 (lv_at hl 4 rfl) ?_
      refine lv_iload_n hx hb dX0_countAhead_7 rfl (lv_at hl 1 rfl) ?_
      refine n_icmp_ge (tgt := 33) hx hb (by omega) (by omega) dX0_countAhead_8 (by decide) (fun h8 => ?_) (fun h8 => ?_)
      · obtain rfl : k = a := by omega
        refine lv_iload_n hx hb dX0_countAhead_33 rfl (lv_at hl 3 rfl) ?_
        exact e_i C0 hr hlk hP hS dX0_countAhead_34 (by decide) (by decide) ⟨by rw [hq], rfl⟩
      · refine lv_aload_n hx hb dX0_countAhead_11 rfl (lv_at hl 0 rfl) ?_
        refine gh_X0_9 C0 hP hH (by omega) dX0_countAhead_12 ?_
        refine lv_iload hx hb dX0_countAhead_15 (lv_at hl 4 rfl) ?_
        refine k0_i (rn_X0_44 (As := [.ref (ad (b + 1)), .int (nI k)]) (rest := []) C0 (m_X1_at l D cA N ad (c) (b + 1) 8 k ((st 0)) (by omega) (hH.2.1) (by omega) (by omega) _) hP hS rfl ⟨rfl, rfl⟩ ⟨by decide, by decide⟩ hl.1 rfl (Nat.le_of_ble_eq_true rfl) dX0_countAhead_17 ⟨Nat.le_of_ble_eq_true rfl, Nat.le_of_ble_eq_true rfl⟩) C0 hP hS (fun v17 c17 H locs hp hP hS => ?_)
        obtain ⟨rfl, rfl⟩ := hp
        refine lv_iload_n hx hb dX0_countAhead_20 rfl (lv_at hl 2 rfl) ?_
        refine lv_icmp_ne (tgt := 27) hx hb dX0_countAhead_21 (by decide) (fun h21 => ?_) (fun h21 => ?_)
        · refine lv_iinc (v := nI (k + 1)) (lv' := [(4, .int (nI (k + 1))), (0, .ref (ad b)), (1, .int (nI a)), (2, .int x), (3, .int (nI q))]) hx hb dX0_countAhead_27 hl (k := 4) rfl (nI_add k 1) (by decide) rfl (fun ls hl => ?_)
          refine lv_goto (tgt := 5) hx hb dX0_countAhead_30 (by decide) ?_
          exact ih5 (k + 1) q (by omega) (by rw [hq]; simp [cntE, h21]) (by omega) _ _ _ hP hS (lv_sub hl [1, 2, 3, 4, 0] rfl)
        · refine lv_iinc (v := nI (q + 1)) (lv' := [(3, .int (nI (q + 1))), (0, .ref (ad b)), (1, .int (nI a)), (2, .int x), (4, .int (nI k))]) hx hb dX0_countAhead_24 hl (k := 3) rfl (nI_add q 1) (by decide) rfl (fun ls hl => ?_)
          refine lv_iinc (v := nI (k + 1)) (lv' := [(4, .int (nI (k + 1))), (3, .int (nI (q + 1))), (0, .ref (ad b)), (1, .int (nI a)), (2, .int x)]) hx hb dX0_countAhead_27 hl (k := 4) rfl (nI_add k 1) (by decide) rfl (fun ls hl => ?_)
          refine lv_goto (tgt := 5) hx hb dX0_countAhead_30 (by decide) ?_
          exact ih5 (k + 1) (q + 1) (by omega) (by rw [hq]; simp [cntE, h21]) (by omega) _ _ _ hP hS (lv_sub hl [2, 3, 4, 1, 0] rfl)
  exact loop5 (_ + 1) 0 0 (Nat.zero_le _) (rfl) (Nat.lt_succ_self _) _ _ _ hP hS (lv_sub hl [2, 3, 4, 1, 0] rfl)
set_option maxHeartbeats 1000000 in
set_option maxRecDepth 10000 in
theorem m_X0_rank (l : Launch) (D : va_G) (cA : Nat → ClassId) (N : Nat) (ad : Nat → Nat) (c : Nat → va_E) (b R Y L S D9 K : Nat) (st : Nat → Nat → Int32) (a : Nat) (hbN : b + 4 ≤ N) (hH : HandAt ad cA c b R Y L S D9 K st) (hp : a < 8) (hK : K ≤ 8) : Ci l yX0_rank wX0_rank { frames := 2, cells := 0, slots := 0, locals := 45 } [.ref (ad b), .int (nI a)] D cA N ad c 0 0 (fun v c' => v = nI (rk (st 0) K a) ∧ c = c') := by
  intro sz9
  refine bd_of (cc := cX0_rank) (maxL := 5) (ret := some Jvm.ClassFile.FieldType.int) (by decide) rfl (Nat.le_of_ble_eq_true rfl) ?_
  intro p e s m below meth c0 C0 hr hlk hnm hP hS hsz ls hl
  subst hsz
  have hx := C0.1
  have hb := C0.2.1
  have hl : lv_has ls 5 [(0, .ref (ad b)), (1, .int (nI a))] := hl
  refine lv_aload_n hx hb dX0_rank_0 rfl (lv_at hl 0 rfl) ?_
  refine gh_X0_9 C0 hP hH (by omega) dX0_rank_1 ?_
  refine lv_iload_n hx hb dX0_rank_4 rfl (lv_at hl 1 rfl) ?_
  refine k0_i (rn_X0_44 (As := [.ref (ad (b + 1)), .int (nI a)]) (rest := []) C0 (m_X1_at l D cA N ad (c) (b + 1) 8 a ((st 0)) (by omega) (hH.2.1) (by omega) (by omega) _) hP hS rfl ⟨rfl, rfl⟩ ⟨by decide, by decide⟩ hl.1 rfl (Nat.le_of_ble_eq_true rfl) dX0_rank_5 ⟨Nat.le_of_ble_eq_true rfl, Nat.le_of_ble_eq_true rfl⟩) C0 hP hS (fun v5 c5 H locs hp hP hS => ?_)
  obtain ⟨rfl, rfl⟩ := hp
  refine lv_istore_n (lv' := [(2, .int ((st 0) a)), (0, .ref (ad b)), (1, .int (nI a))]) hx hb dX0_rank_8 rfl hl (by decide) rfl (fun ls hl => ?_)
  refine lv_aload_n hx hb dX0_rank_9 rfl (lv_at hl 1 rfl) ?_
  refine lv_iload_n hx hb dX0_rank_10 rfl (lv_at hl 2 rfl) ?_
  refine lv_iload_n hx hb dX0_rank_11 rfl (lv_at hl 0 rfl) ?_
  refine k0_i (rn_X0_62 (As := [.int (nI a), .int ((st 0) a)]) (rest := []) (r := b) C0 (m_X0_countAhead l D cA N ad (c) b R Y L S D9 K st a ((st 0) a) (by omega) hH (by omega) _) hP hS (by omega) hH.1 rfl ⟨rfl, rfl⟩ ⟨by decide, by decide⟩ hl.1 rfl (Nat.le_of_ble_eq_true rfl) dX0_rank_12 ⟨Nat.le_of_ble_eq_true rfl, Nat.le_of_ble_eq_true rfl⟩) C0 hP hS (fun v12 c12 H locs hp hP hS => ?_)
  obtain ⟨rfl, rfl⟩ := hp
  refine lv_istore_n (lv' := [(3, .int (nI (cntE (st 0) ((st 0) a) a))), (2, .int ((st 0) a)), (0, .ref (ad b)), (1, .int (nI a))]) hx hb dX0_rank_15 rfl hl (by decide) rfl (fun ls hl => ?_)
  refine lv_iconst (v := nI 0) hx hb dX0_rank_16 rfl ?_
  refine lv_istore (lv' := [(4, .int (nI 0)), (3, .int (nI (cntE (st 0) ((st 0) a) a))), (2, .int ((st 0) a)), (0, .ref (ad b)), (1, .int (nI a))]) hx hb dX0_rank_17 hl (by decide) rfl (fun ls hl => ?_)
  have loop19 : ∀ (n9 : Nat) (k : Nat) (q : Nat), (k ≤ K) → (q = cntE (st 0) (st 0 a) a + cntL (st 0) (st 0 a) k) → K - k < n9 → ∀ (H : Heap) (locs : List Loc) (ls : Array Slot), va_P D vwCl (wl N ad (c)) H → va_S (wA N ad s.heap.size) s.heap H locs → lv_has ls 5 [(0, .ref (ad b)), (1, .int (nI a)), (2, .int ((st 0) a)), (3, .int (nI q)), (4, .int (nI k))] → W p l e { frames := 2, cells := 0, slots := 0, locals := 45 } s m [.ref (ad b), .int (nI a)].toArray below meth c0 H locs 0 0 (MQ below (va_Qi (fun v c' => v = nI (rk (st 0) K a) ∧ c = c') (fun c' t => va_P D vwCl (wl N ad c') t.heap) (wA N ad s.heap.size)) [.ref (ad b), .int (nI a)].toArray s 0 0 (wA N ad s.heap.size)) (F0 m 19 ls []) := by
    intro n9
    induction n9 with
    | zero => intro k q hk hq hlt9; exact absurd hlt9 (Nat.not_lt_zero _)
    | succ n9 ih19 =>
      intro k q hk hq hlt9 H locs ls hP hS hl
      refine lv_iload hx hb dX0_rank_19 (lv_at hl 4 rfl) ?_
      refine lv_aload_n hx hb dX0_rank_21 rfl (lv_at hl 0 rfl) ?_
      refine gh_X0_31 C0 hP hH (by omega) dX0_rank_22 ?_
      refine n_icmp_ge (tgt := 50) hx hb (by omega) (by omega) dX0_rank_25 (by decide) (fun h25 => ?_) (fun h25 => ?_)
      · obtain rfl : k = K := by omega
        refine lv_iload_n hx hb dX0_rank_50 rfl (lv_at hl 3 rfl) ?_
        exact e_i C0 hr hlk hP hS dX0_rank_51 (by decide) (by decide) ⟨by rw [hq]; rfl, rfl⟩
      · refine lv_aload_n hx hb dX0_rank_28 rfl (lv_at hl 0 rfl) ?_
        refine gh_X0_9 C0 hP hH (by omega) dX0_rank_29 ?_
        refine lv_iload hx hb dX0_rank_32 (lv_at hl 4 rfl) ?_
        refine k0_i (rn_X0_44 (As := [.ref (ad (b + 1)), .int (nI k)]) (rest := []) C0 (m_X1_at l D cA N ad (c) (b + 1) 8 k ((st 0)) (by omega) (hH.2.1) (by omega) (by omega) _) hP hS rfl ⟨rfl, rfl⟩ ⟨by decide, by decide⟩ hl.1 rfl (Nat.le_of_ble_eq_true rfl) dX0_rank_34 ⟨Nat.le_of_ble_eq_true rfl, Nat.le_of_ble_eq_true rfl⟩) C0 hP hS (fun v34 c34 H locs hp hP hS => ?_)
        obtain ⟨rfl, rfl⟩ := hp
        refine lv_iload_n hx hb dX0_rank_37 rfl (lv_at hl 2 rfl) ?_
        refine lv_icmp_ge (tgt := 44) hx hb dX0_rank_38 (by decide) (fun h38 => ?_) (fun h38 => ?_)
        · have h38 := i_nlt h38
          refine lv_iinc (v := nI (k + 1)) (lv' := [(4, .int (nI (k + 1))), (0, .ref (ad b)), (1, .int (nI a)), (2, .int ((st 0) a)), (3, .int (nI q))]) hx hb dX0_rank_44 hl (k := 4) rfl (nI_add k 1) (by decide) rfl (fun ls hl => ?_)
          refine lv_goto (tgt := 19) hx hb dX0_rank_47 (by decide) ?_
          exact ih19 (k + 1) q (by omega) (by rw [hq]; simp [cntL, h38]) (by omega) _ _ _ hP hS (lv_sub hl [1, 2, 3, 4, 0] rfl)
        · have h38 := i_lt h38
          refine lv_iinc (v := nI (q + 1)) (lv' := [(3, .int (nI (q + 1))), (0, .ref (ad b)), (1, .int (nI a)), (2, .int ((st 0) a)), (4, .int (nI k))]) hx hb dX0_rank_41 hl (k := 3) rfl (nI_add q 1) (by decide) rfl (fun ls hl => ?_)
          refine lv_iinc (v := nI (k + 1)) (lv' := [(4, .int (nI (k + 1))), (3, .int (nI (q + 1))), (0, .ref (ad b)), (1, .int (nI a)), (2, .int ((st 0) a))]) hx hb dX0_rank_44 hl (k := 4) rfl (nI_add k 1) (by decide) rfl (fun ls hl => ?_)
          refine lv_goto (tgt := 19) hx hb dX0_rank_47 (by decide) ?_
          exact ih19 (k + 1) (q + 1) (by omega) (by rw [hq]; simp [cntL, h38]; omega) (by omega) _ _ _ hP hS (lv_sub hl [2, 3, 4, 1, 0] rfl)
  exact loop19 (_ + 1) 0 (cntE (st 0) (st 0 a) a) (Nat.zero_le _) (rfl) (Nat.lt_succ_self _) _ _ _ hP hS (lv_sub hl [3, 4, 2, 1, 0] rfl)
set_option maxHeartbeats 1000000 in
set_option maxRecDepth 10000 in
theorem m_X0_placeRanked (l : Launch) (D : va_G) (cA : Nat → ClassId) (N : Nat) (ad : Nat → Nat) (c : Nat → va_E) (b R Y L S D9 K : Nat) (st : Nat → Nat → Int32) (r : Nat) (hbN : b + 4 ≤ N) (hH : HandAt ad cA c b R Y L S D9 K st) (hr31 : r < 2 ^ 30) (hK : K ≤ 8) : Ci l yX0_placeRanked wX0_placeRanked { frames := 3, cells := 0, slots := 0, locals := 69 } [.ref (ad b), .int (nI r)] D cA N ad c 0 0 (fun v c' => ((∃ p, p < K ∧ rk (st 0) K p = r ∧ v = nI p) ∨ (v = -1 ∧ ∀ p, p < K → rk (st 0) K p ≠ r)) ∧ c = c') := by
  intro sz9
  refine bd_of (cc := cX0_placeRanked) (maxL := 3) (ret := some Jvm.ClassFile.FieldType.int) (by decide) rfl (Nat.le_of_ble_eq_true rfl) ?_
  intro p e s m below meth c0 C0 hr hlk hnm hP hS hsz ls hl
  subst hsz
  have hx := C0.1
  have hb := C0.2.1
  have hl : lv_has ls 3 [(0, .ref (ad b)), (1, .int (nI r))] := hl
  refine lv_iconst (v := nI 0) hx hb dX0_placeRanked_0 rfl ?_
  refine lv_istore_n (lv' := [(2, .int (nI 0)), (0, .ref (ad b)), (1, .int (nI r))]) hx hb dX0_placeRanked_1 rfl hl (by decide) rfl (fun ls hl => ?_)
  have loop2 : ∀ (n9 : Nat) (k : Nat), (k ≤ K) → (∀ q, q < k → rk (st 0) K q ≠ r) → K - k < n9 → ∀ (H : Heap) (locs : List Loc) (ls : Array Slot), va_P D vwCl (wl N ad (c)) H → va_S (wA N ad s.heap.size) s.heap H locs → lv_has ls 3 [(0, .ref (ad b)), (1, .int (nI r)), (2, .int (nI k))] → W p l e { frames := 3, cells := 0, slots := 0, locals := 69 } s m [.ref (ad b), .int (nI r)].toArray below meth c0 H locs 0 0 (MQ below (va_Qi (fun v c' => ((∃ p, p < K ∧ rk (st 0) K p = r ∧ v = nI p) ∨ (v = -1 ∧ ∀ p, p < K → rk (st 0) K p ≠ r)) ∧ c = c') (fun c' t => va_P D vwCl (wl N ad c') t.heap) (wA N ad s.heap.size)) [.ref (ad b), .int (nI r)].toArray s 0 0 (wA N ad s.heap.size)) (F0 m 2 ls []) := by
    intro n9
    induction n9 with
    | zero => intro k hk hno hlt9; exact absurd hlt9 (Nat.not_lt_zero _)
    | succ n9 ih2 =>
      intro k hk hno hlt9 H locs ls hP hS hl
      refine lv_iload_n hx hb dX0_placeRanked_2 rfl (lv_at hl 2 rfl) ?_
      refine lv_aload_n hx hb dX0_placeRanked_3 rfl (lv_at hl 0 rfl) ?_
      refine gh_X0_31 C0 hP hH (by omega) dX0_placeRanked_4 ?_
      refine n_icmp_ge (tgt := 27) hx hb (by omega) (by omega) dX0_placeRanked_7 (by decide) (fun h7 => ?_) (fun h7 => ?_)
      · refine lv_iconst (v := (-1)) hx hb dX0_placeRanked_27 rfl ?_
        exact e_i C0 hr hlk hP hS dX0_placeRanked_28 (by decide) (by decide) ⟨Or.inr ⟨rfl, fun p hp => hno p (by omega)⟩, rfl⟩
      · refine lv_aload_n hx hb dX0_placeRanked_10 rfl (lv_at hl 0 rfl) ?_
        refine lv_iload_n hx hb dX0_placeRanked_11 rfl (lv_at hl 2 rfl) ?_
        refine k0_i (rn_X0_66 (As := [.int (nI k)]) (rest := []) (r := b) C0 (m_X0_rank l D cA N ad (c) b R Y L S D9 K st k (by omega) hH (by omega) (by omega) _) hP hS (by omega) hH.1 rfl ⟨rfl, rfl⟩ ⟨by decide, by decide⟩ hl.1 rfl (Nat.le_of_ble_eq_true rfl) dX0_placeRanked_12 ⟨Nat.le_of_ble_eq_true rfl, Nat.le_of_ble_eq_true rfl⟩) C0 hP hS (fun v12 c12 H locs hp hP hS => ?_)
        obtain ⟨rfl, rfl⟩ := hp
        refine lv_iload_n hx hb dX0_placeRanked_15 rfl (lv_at hl 1 rfl) ?_
        refine n_icmp_ne (tgt := 21) hx hb (by have := rk_le (st 0) K k; omega) (by omega) dX0_placeRanked_16 (by decide) (fun h16 => ?_) (fun h16 => ?_)
        · refine lv_iinc (v := nI (k + 1)) (lv' := [(2, .int (nI (k + 1))), (0, .ref (ad b)), (1, .int (nI r))]) hx hb dX0_placeRanked_21 hl (k := 2) rfl (nI_add k 1) (by decide) rfl (fun ls hl => ?_)
          refine lv_goto (tgt := 2) hx hb dX0_placeRanked_24 (by decide) ?_
          exact ih2 (k + 1) (by omega) (fun q hq => (Nat.lt_or_ge q k).elim (fun e => hno q e) (fun e => by rw [show q = k from by omega]; exact h16)) (by omega) _ _ _ hP hS (lv_sub hl [1, 2, 0] rfl)
        · refine lv_iload_n hx hb dX0_placeRanked_19 rfl (lv_at hl 2 rfl) ?_
          exact e_i C0 hr hlk hP hS dX0_placeRanked_20 (by decide) (by decide) ⟨Or.inl ⟨k, h7, h16, rfl⟩, rfl⟩
  exact loop2 (_ + 1) 0 (Nat.zero_le _) (fun q hq => absurd hq (Nat.not_lt_zero _)) (Nat.lt_succ_self _) _ _ _ hP hS (lv_sub hl [1, 2, 0] rfl)
set_option maxHeartbeats 1000000 in
set_option maxRecDepth 10000 in
theorem m_X0_middleValue (l : Launch) (D : va_G) (cA : Nat → ClassId) (N : Nat) (ad : Nat → Nat) (c : Nat → va_E) (b R Y L S D9 K : Nat) (st : Nat → Nat → Int32)  (hbN : b + 4 ≤ N) (hH : HandAt ad cA c b R Y L S D9 K st) (hK : K ≤ 8) : Ci l yX0_middleValue wX0_middleValue { frames := 4, cells := 0, slots := 0, locals := 91 } [.ref (ad b)] D cA N ad c 0 0 (fun v c' => ((∃ p, p < K ∧ rk (st 0) K p = K / 2 ∧ v = st 0 p) ∨ (v = -1 ∧ ∀ p, p < K → rk (st 0) K p ≠ K / 2)) ∧ c = c') := by
  intro sz9
  refine bd_of (cc := cX0_middleValue) (maxL := 2) (ret := some Jvm.ClassFile.FieldType.int) (by decide) rfl (Nat.le_of_ble_eq_true rfl) ?_
  intro p e s m below meth c0 C0 hr hlk hnm hP hS hsz ls hl
  subst hsz
  have hx := C0.1
  have hb := C0.2.1
  have hl : lv_has ls 2 [(0, .ref (ad b))] := hl
  refine lv_aload_n hx hb dX0_middleValue_0 rfl (lv_at hl 0 rfl) ?_
  refine lv_aload_n hx hb dX0_middleValue_1 rfl (lv_at hl 0 rfl) ?_
  refine gh_X0_31 C0 hP hH (by omega) dX0_middleValue_2 ?_
  refine lv_iconst (v := nI 2) hx hb dX0_middleValue_5 rfl ?_
  refine n_idiv hx hb (by omega) (by omega) (by omega) dX0_middleValue_6 ?_
  refine k0_i (rn_X0_69 (As := [.int (nI (K / 2))]) (rest := []) (r := b) C0 (m_X0_placeRanked l D cA N ad (c) b R Y L S D9 K st (K / 2) (by omega) hH (by omega) (by omega) _) hP hS (by omega) hH.1 rfl ⟨rfl, rfl⟩ ⟨by decide, by decide⟩ hl.1 rfl (Nat.le_of_ble_eq_true rfl) dX0_middleValue_7 ⟨Nat.le_of_ble_eq_true rfl, Nat.le_of_ble_eq_true rfl⟩) C0 hP hS (fun v7 c7 H locs hp hP hS => ?_)
  obtain ⟨hv, rfl⟩ := hp
  rcases hv with ⟨p, hp, hrk, rfl⟩ | ⟨rfl, hno⟩
  · refine lv_istore_n (lv' := [(1, .int (nI p)), (0, .ref (ad b))]) hx hb dX0_middleValue_10 rfl hl (by decide) rfl (fun ls hl => ?_)
    refine lv_iload_n hx hb dX0_middleValue_11 rfl (lv_at hl 0 rfl) ?_
    refine lv_iconst (v := (-1)) hx hb dX0_middleValue_12 rfl ?_
    refine lv_icmp_ne (tgt := 20) hx hb dX0_middleValue_13 (by decide) (fun h13 => ?_) (fun h13 => ?_)
    rotate_left
    · exact absurd h13 (nI_m1 (by omega))
    refine lv_aload_n hx hb dX0_middleValue_20 rfl (lv_at hl 1 rfl) ?_
    refine gh_X0_9 C0 hP hH (by omega) dX0_middleValue_21 ?_
    refine lv_iload_n hx hb dX0_middleValue_24 rfl (lv_at hl 0 rfl) ?_
    refine k0_i (rn_X0_44 (As := [.ref (ad (b + 1)), .int (nI p)]) (rest := []) C0 (m_X1_at l D cA N ad (c) (b + 1) 8 p ((st 0)) (by omega) (hH.2.1) (by omega) (by omega) _) hP hS rfl ⟨rfl, rfl⟩ ⟨by decide, by decide⟩ hl.1 rfl (Nat.le_of_ble_eq_true rfl) dX0_middleValue_25 ⟨Nat.le_of_ble_eq_true rfl, Nat.le_of_ble_eq_true rfl⟩) C0 hP hS (fun v25 c25 H locs hp hP hS => ?_)
    obtain ⟨rfl, rfl⟩ := hp
    exact e_i C0 hr hlk hP hS dX0_middleValue_28 (by decide) (by decide) ⟨Or.inl ⟨p, hp, hrk, rfl⟩, rfl⟩
  · refine lv_istore_n (lv' := [(1, .int ((-1))), (0, .ref (ad b))]) hx hb dX0_middleValue_10 rfl hl (by decide) rfl (fun ls hl => ?_)
    refine lv_iload_n hx hb dX0_middleValue_11 rfl (lv_at hl 0 rfl) ?_
    refine lv_iconst (v := (-1)) hx hb dX0_middleValue_12 rfl ?_
    refine lv_icmp_ne (tgt := 20) hx hb dX0_middleValue_13 (by decide) (fun h13 => ?_) (fun h13 => ?_)
    · exact absurd rfl h13
    refine lv_iconst (v := (-1)) hx hb dX0_middleValue_16 rfl ?_
    refine lv_goto (tgt := 28) hx hb dX0_middleValue_17 (by decide) ?_
    exact e_i C0 hr hlk hP hS dX0_middleValue_28 (by decide) (by decide) ⟨Or.inr ⟨rfl, hno⟩, rfl⟩
set_option maxHeartbeats 1000000 in
set_option maxRecDepth 10000 in
theorem m_X0_copyStone (l : Launch) (D : va_G) (cA : Nat → ClassId) (N : Nat) (ad : Nat → Nat) (c : Nat → va_E) (b R Y L S D9 K : Nat) (st : Nat → Nat → Int32) (o Ro Yo Lo So Do Ko : Nat) (sto : Nat → Nat → Int32) (j q : Nat) (hbN : b + 4 ≤ N) (hH : HandAt ad cA c b R Y L S D9 K st) (hoN : o + 4 ≤ N) (hO : HandAt ad cA c o Ro Yo Lo So Do Ko sto) (hbo : b + 4 ≤ o ∨ o + 4 ≤ b) (hj : j < 8) (hq : q < 8) : Cv l yX0_copyStone wX0_copyStone { frames := 1, cells := 0, slots := 0, locals := 22 } [.ref (ad b), .int (nI j), .ref (ad o), .int (nI q)] D cA N ad c 0 0 (fun c' => hw ad cA c b R Y L S D9 K (cpS st j sto q) = c') := by
  intro sz9
  refine bd_of (cc := cX0_copyStone) (maxL := 4) (ret := none) (by decide) rfl (Nat.le_of_ble_eq_true rfl) ?_
  intro p e s m below meth c0 C0 hr hlk hnm hP hS hsz ls hl
  subst hsz
  have hx := C0.1
  have hb := C0.2.1
  have hl : lv_has ls 4 [(0, .ref (ad b)), (1, .int (nI j)), (2, .ref (ad o)), (3, .int (nI q))] := hl
  rw [← hw_self hH] at hP
  refine lv_aload_n hx hb dX0_copyStone_0 rfl (lv_at hl 0 rfl) ?_
  refine gh_X0_9 C0 hP hw_at (by omega) dX0_copyStone_1 ?_
  refine lv_iload_n hx hb dX0_copyStone_4 rfl (lv_at hl 1 rfl) ?_
  refine lv_aload_n hx hb dX0_copyStone_5 rfl (lv_at hl 2 rfl) ?_
  refine gh_X0_9 C0 hP (hO.hwo hbo) (by omega) dX0_copyStone_6 ?_
  refine lv_iload_n hx hb dX0_copyStone_9 rfl (lv_at hl 3 rfl) ?_
  refine k0_i (rn_X0_44 (As := [.ref (ad (o + 1)), .int (nI q)]) (rest := [.int (nI j), .ref (ad (b + 1))]) C0 (m_X1_at l D cA N ad (hw ad cA c b R Y L S D9 K st) (o + 1) 8 q ((sto 0)) (by omega) ((hO.hwo hbo).2.1) (by omega) (by omega) _) hP hS rfl ⟨rfl, rfl⟩ ⟨by decide, by decide⟩ hl.1 rfl (Nat.le_of_ble_eq_true rfl) dX0_copyStone_10 ⟨Nat.le_of_ble_eq_true rfl, Nat.le_of_ble_eq_true rfl⟩) C0 hP hS (fun v10 c10 H locs hp hP hS => ?_)
  obtain ⟨rfl, rfl⟩ := hp
  refine k0_v (rn_X0_48 (As := [.ref (ad (b + 1)), .int (nI j), .int ((sto 0) q)]) (rest := []) C0 (m_X1_put l D cA N ad (hw ad cA c b R Y L S D9 K st) (b + 1) 8 j ((st 0)) ((sto 0) q) (by omega) (hw_at.2.1) (by omega) (by omega) _) hP hS rfl ⟨rfl, rfl⟩ ⟨by decide, by decide⟩ hl.1 rfl (Nat.le_of_ble_eq_true rfl) dX0_copyStone_13 ⟨Nat.le_of_ble_eq_true rfl, Nat.le_of_ble_eq_true rfl⟩) C0 hP hS (fun c13 H locs hp hP hS => ?_)
  obtain rfl := hp
  rw [hw_row0] at hP
  refine lv_aload_n hx hb dX0_copyStone_16 rfl (lv_at hl 0 rfl) ?_
  refine gh_X0_15 C0 hP hw_at (by omega) dX0_copyStone_17 ?_
  refine lv_iload_n hx hb dX0_copyStone_20 rfl (lv_at hl 1 rfl) ?_
  refine lv_aload_n hx hb dX0_copyStone_21 rfl (lv_at hl 2 rfl) ?_
  refine gh_X0_15 C0 hP (hO.hwo hbo) (by omega) dX0_copyStone_22 ?_
  refine lv_iload_n hx hb dX0_copyStone_25 rfl (lv_at hl 3 rfl) ?_
  refine k0_i (rn_X0_44 (As := [.ref (ad (o + 2)), .int (nI q)]) (rest := [.int (nI j), .ref (ad (b + 2))]) C0 (m_X1_at l D cA N ad (hw ad cA c b R Y L S D9 K ((stU st 0 j ((sto 0) q)))) (o + 2) 8 q ((sto 1)) (by omega) ((hO.hwo hbo).2.2.1) (by omega) (by omega) _) hP hS rfl ⟨rfl, rfl⟩ ⟨by decide, by decide⟩ hl.1 rfl (Nat.le_of_ble_eq_true rfl) dX0_copyStone_26 ⟨Nat.le_of_ble_eq_true rfl, Nat.le_of_ble_eq_true rfl⟩) C0 hP hS (fun v26 c26 H locs hp hP hS => ?_)
  obtain ⟨rfl, rfl⟩ := hp
  refine k0_v (rn_X0_48 (As := [.ref (ad (b + 2)), .int (nI j), .int ((sto 1) q)]) (rest := []) C0 (m_X1_put l D cA N ad (hw ad cA c b R Y L S D9 K ((stU st 0 j ((sto 0) q)))) (b + 2) 8 j (((stU st 0 j ((sto 0) q)) 1)) ((sto 1) q) (by omega) (hw_at.2.2.1) (by omega) (by omega) _) hP hS rfl ⟨rfl, rfl⟩ ⟨by decide, by decide⟩ hl.1 rfl (Nat.le_of_ble_eq_true rfl) dX0_copyStone_29 ⟨Nat.le_of_ble_eq_true rfl, Nat.le_of_ble_eq_true rfl⟩) C0 hP hS (fun c29 H locs hp hP hS => ?_)
  obtain rfl := hp
  rw [hw_row1] at hP
  refine lv_aload_n hx hb dX0_copyStone_32 rfl (lv_at hl 0 rfl) ?_
  refine gh_X0_18 C0 hP hw_at (by omega) dX0_copyStone_33 ?_
  refine lv_iload_n hx hb dX0_copyStone_36 rfl (lv_at hl 1 rfl) ?_
  refine lv_aload_n hx hb dX0_copyStone_37 rfl (lv_at hl 2 rfl) ?_
  refine gh_X0_18 C0 hP (hO.hwo hbo) (by omega) dX0_copyStone_38 ?_
  refine lv_iload_n hx hb dX0_copyStone_41 rfl (lv_at hl 3 rfl) ?_
  refine k0_i (rn_X0_44 (As := [.ref (ad (o + 3)), .int (nI q)]) (rest := [.int (nI j), .ref (ad (b + 3))]) C0 (m_X1_at l D cA N ad (hw ad cA c b R Y L S D9 K ((stU ((stU st 0 j ((sto 0) q))) 1 j ((sto 1) q)))) (o + 3) 8 q ((sto 2)) (by omega) ((hO.hwo hbo).2.2.2) (by omega) (by omega) _) hP hS rfl ⟨rfl, rfl⟩ ⟨by decide, by decide⟩ hl.1 rfl (Nat.le_of_ble_eq_true rfl) dX0_copyStone_42 ⟨Nat.le_of_ble_eq_true rfl, Nat.le_of_ble_eq_true rfl⟩) C0 hP hS (fun v42 c42 H locs hp hP hS => ?_)
  obtain ⟨rfl, rfl⟩ := hp
  refine k0_v (rn_X0_48 (As := [.ref (ad (b + 3)), .int (nI j), .int ((sto 2) q)]) (rest := []) C0 (m_X1_put l D cA N ad (hw ad cA c b R Y L S D9 K ((stU ((stU st 0 j ((sto 0) q))) 1 j ((sto 1) q)))) (b + 3) 8 j (((stU ((stU st 0 j ((sto 0) q))) 1 j ((sto 1) q)) 2)) ((sto 2) q) (by omega) (hw_at.2.2.2) (by omega) (by omega) _) hP hS rfl ⟨rfl, rfl⟩ ⟨by decide, by decide⟩ hl.1 rfl (Nat.le_of_ble_eq_true rfl) dX0_copyStone_45 ⟨Nat.le_of_ble_eq_true rfl, Nat.le_of_ble_eq_true rfl⟩) C0 hP hS (fun c45 H locs hp hP hS => ?_)
  obtain rfl := hp
  rw [hw_row2] at hP
  exact e_v C0 hr hlk hP hS dX0_copyStone_48 (by decide) (by decide) rfl
set_option maxHeartbeats 1000000 in
set_option maxRecDepth 10000 in
theorem m_X0_become (l : Launch) (D : va_G) (cA : Nat → ClassId) (N : Nat) (ad : Nat → Nat) (c : Nat → va_E) (b R Y L S D9 K : Nat) (st : Nat → Nat → Int32) (o Ro Yo Lo So Do Ko : Nat) (sto : Nat → Nat → Int32)  (hbN : b + 4 ≤ N) (hH : HandAt ad cA c b R Y L S D9 K st) (hoN : o + 4 ≤ N) (hO : HandAt ad cA c o Ro Yo Lo So Do Ko sto) (hbo : b + 4 ≤ o ∨ o + 4 ≤ b) (hKo : Ko ≤ 8) : Cv l yX0_become wX0_become { frames := 2, cells := 0, slots := 0, locals := 45 } [.ref (ad b), .ref (ad o)] D cA N ad c 0 0 (fun c' => hw ad cA c b Ro Yo Lo So Do Ko (stB st sto Ko) = c') := by
  intro sz9
  refine bd_of (cc := cX0_become) (maxL := 3) (ret := none) (by decide) rfl (Nat.le_of_ble_eq_true rfl) ?_
  intro p e s m below meth c0 C0 hr hlk hnm hP hS hsz ls hl
  subst hsz
  have hx := C0.1
  have hb := C0.2.1
  have hl : lv_has ls 3 [(0, .ref (ad b)), (1, .ref (ad o))] := hl
  rw [← hw_self hH] at hP
  refine lv_aload_n hx hb dX0_become_0 rfl (lv_at hl 0 rfl) ?_
  refine lv_aload_n hx hb dX0_become_1 rfl (lv_at hl 1 rfl) ?_
  refine gh_X0_21 C0 hP (hO.hwo hbo) (by omega) dX0_become_2 ?_
  refine ph_X0_21 C0 hP hS (by omega) dX0_become_5 (fun H locs hP hS => ?_)
  refine lv_aload_n hx hb dX0_become_8 rfl (lv_at hl 0 rfl) ?_
  refine lv_aload_n hx hb dX0_become_9 rfl (lv_at hl 1 rfl) ?_
  refine gh_X0_25 C0 hP (hO.hwo hbo) (by omega) dX0_become_10 ?_
  refine ph_X0_25 C0 hP hS (by omega) dX0_become_13 (fun H locs hP hS => ?_)
  refine lv_aload_n hx hb dX0_become_16 rfl (lv_at hl 0 rfl) ?_
  refine lv_aload_n hx hb dX0_become_17 rfl (lv_at hl 1 rfl) ?_
  refine gh_X0_28 C0 hP (hO.hwo hbo) (by omega) dX0_become_18 ?_
  refine ph_X0_28 C0 hP hS (by omega) dX0_become_21 (fun H locs hP hS => ?_)
  refine lv_aload_n hx hb dX0_become_24 rfl (lv_at hl 0 rfl) ?_
  refine lv_aload_n hx hb dX0_become_25 rfl (lv_at hl 1 rfl) ?_
  refine gh_X0_31 C0 hP (hO.hwo hbo) (by omega) dX0_become_26 ?_
  refine ph_X0_31 C0 hP hS (by omega) dX0_become_29 (fun H locs hP hS => ?_)
  refine lv_aload_n hx hb dX0_become_32 rfl (lv_at hl 0 rfl) ?_
  refine lv_aload_n hx hb dX0_become_33 rfl (lv_at hl 1 rfl) ?_
  refine gh_X0_34 C0 hP (hO.hwo hbo) (by omega) dX0_become_34 ?_
  refine ph_X0_34 C0 hP hS (by omega) dX0_become_37 (fun H locs hP hS => ?_)
  refine lv_aload_n hx hb dX0_become_40 rfl (lv_at hl 0 rfl) ?_
  refine lv_aload_n hx hb dX0_become_41 rfl (lv_at hl 1 rfl) ?_
  refine gh_X0_37 C0 hP (hO.hwo hbo) (by omega) dX0_become_42 ?_
  refine ph_X0_37 C0 hP hS (by omega) dX0_become_45 (fun H locs hP hS => ?_)
  refine lv_iconst (v := nI 0) hx hb dX0_become_48 rfl ?_
  refine lv_istore_n (lv' := [(2, .int (nI 0)), (0, .ref (ad b)), (1, .ref (ad o))]) hx hb dX0_become_49 rfl hl (by decide) rfl (fun ls hl => ?_)
  have loop50 : ∀ (n9 : Nat) (k : Nat), (k ≤ Ko) → Ko - k < n9 → ∀ (H : Heap) (locs : List Loc) (ls : Array Slot), va_P D vwCl (wl N ad (hw ad cA c b Ro Yo Lo So Do Ko ((stB st sto k)))) H → va_S (wA N ad s.heap.size) s.heap H locs → lv_has ls 3 [(0, .ref (ad b)), (1, .ref (ad o)), (2, .int (nI k))] → W p l e { frames := 2, cells := 0, slots := 0, locals := 45 } s m [.ref (ad b), .ref (ad o)].toArray below meth c0 H locs 0 0 (MQ below (va_Qv (fun c' => hw ad cA c b Ro Yo Lo So Do Ko (stB st sto Ko) = c') (fun c' t => va_P D vwCl (wl N ad c') t.heap) (wA N ad s.heap.size)) [.ref (ad b), .ref (ad o)].toArray s 0 0 (wA N ad s.heap.size)) (F0 m 50 ls []) := by
    intro n9
    induction n9 with
    | zero => intro k hk hlt9; exact absurd hlt9 (Nat.not_lt_zero _)
    | succ n9 ih50 =>
      intro k hk hlt9 H locs ls hP hS hl
      refine lv_iload_n hx hb dX0_become_50 rfl (lv_at hl 2 rfl) ?_
      refine lv_aload_n hx hb dX0_become_51 rfl (lv_at hl 0 rfl) ?_
      refine gh_X0_31 C0 hP hw_at (by omega) dX0_become_52 ?_
      refine n_icmp_ge (tgt := 71) hx hb (by omega) (by omega) dX0_become_55 (by decide) (fun h55 => ?_) (fun h55 => ?_)
      · obtain rfl : k = Ko := by omega
        exact e_v C0 hr hlk hP hS dX0_become_71 (by decide) (by decide) rfl
      · refine lv_aload_n hx hb dX0_become_58 rfl (lv_at hl 0 rfl) ?_
        refine lv_iload_n hx hb dX0_become_59 rfl (lv_at hl 2 rfl) ?_
        refine lv_aload_n hx hb dX0_become_60 rfl (lv_at hl 1 rfl) ?_
        refine lv_iload_n hx hb dX0_become_61 rfl (lv_at hl 2 rfl) ?_
        refine k0_v (rn_X0_40 (As := [.int (nI k), .ref (ad o), .int (nI k)]) (rest := []) (r := b) C0 (m_X0_copyStone l D cA N ad (hw ad cA c b Ro Yo Lo So Do Ko ((stB st sto k))) b Ro Yo Lo So Do Ko ((stB st sto k)) o Ro Yo Lo So Do Ko sto k k (by omega) hw_at (by omega) (hO.hwo hbo) (hbo) (by omega) (by omega) _) hP hS (by omega) hw_at.1 rfl ⟨rfl, rfl⟩ ⟨by decide, by decide⟩ hl.1 rfl (Nat.le_of_ble_eq_true rfl) dX0_become_62 ⟨Nat.le_of_ble_eq_true rfl, Nat.le_of_ble_eq_true rfl⟩) C0 hP hS (fun c62 H locs hp hP hS => ?_)
        obtain rfl := hp
        rw [hw_hw] at hP
        refine lv_iinc (v := nI (k + 1)) (lv' := [(2, .int (nI (k + 1))), (0, .ref (ad b)), (1, .ref (ad o))]) hx hb dX0_become_65 hl (k := 2) rfl (nI_add k 1) (by decide) rfl (fun ls hl => ?_)
        refine lv_goto (tgt := 50) hx hb dX0_become_68 (by decide) ?_
        exact ih50 (k + 1) (by omega) (by omega) _ _ _ hP hS (lv_sub hl [1, 2, 0] rfl)
  exact loop50 (_ + 1) 0 (Nat.zero_le _) (Nat.lt_succ_self _) _ _ _ hP hS (lv_sub hl [1, 2, 0] rfl)
set_option maxHeartbeats 1000000 in
set_option maxRecDepth 10000 in
theorem m_X0_placeForNext (l : Launch) (D : va_G) (cA : Nat → ClassId) (N : Nat) (ad : Nat → Nat) (c : Nat → va_E) (b R Y L S D9 K : Nat) (st : Nat → Nat → Int32) (w : Nat) (hbN : b + 4 ≤ N) (hH : HandAt ad cA c b R Y L S D9 K st) (hR0 : 1 ≤ R) (hR : R ≤ 8) (hL : L ≤ 9999) (hS0 : 1 ≤ S) (hS3 : S < 2 ^ 30) (hD0 : 1 ≤ D9) (hD3 : D9 < 2 ^ 30) (hY : Y < 2 ^ 30) (hK3 : K < 2 ^ 30) (hw9 : w < 2 ^ 20) : Ci l yX0_placeForNext wX0_placeForNext { frames := 1, cells := 0, slots := 0, locals := 21 } [.ref (ad b), .int (nI w)] D cA N ad c 0 0 (fun v c' => v = oI (pk R Y L S D9 K w).1 ∧ hw ad cA c b R Y ((pk R Y L S D9 K w).2.1) S D9 ((pk R Y L S D9 K w).2.2) st = c') := by
  intro sz9
  refine bd_of (cc := cX0_placeForNext) (maxL := 3) (ret := some Jvm.ClassFile.FieldType.int) (by decide) rfl (Nat.le_of_ble_eq_true rfl) ?_
  intro p e s m below meth c0 C0 hr hlk hnm hP hS hsz ls hl
  subst hsz
  have hx := C0.1
  have hb := C0.2.1
  have hl : lv_has ls 3 [(0, .ref (ad b)), (1, .int (nI w))] := hl
  rw [← hw_self hH] at hP
  have hnl := nl_lt L
  have hnl2 := nl_lt (nl L)
  have hm1 : nl L % S < S := Nat.mod_lt _ hS0
  have hm2 : nl L % D9 < D9 := Nat.mod_lt _ hD0
  have hm3 : nl (nl L) % R < R := Nat.mod_lt _ hR0
  have hwR : w * R < 2 ^ 31 := Nat.lt_of_le_of_lt (Nat.mul_le_mul (Nat.le_of_lt hw9) hR) (by decide)
  refine lv_aload_n hx hb dX0_placeForNext_0 rfl (lv_at hl 0 rfl) ?_
  refine gh_X0_31 C0 hP hw_at (by omega) dX0_placeForNext_1 ?_
  refine lv_aload_n hx hb dX0_placeForNext_4 rfl (lv_at hl 0 rfl) ?_
  refine gh_X0_21 C0 hP hw_at (by omega) dX0_placeForNext_5 ?_
  refine n_icmp_ge (tgt := 28) hx hb (by omega) (by omega) dX0_placeForNext_8 (by decide) (fun h8 => ?_) (fun h8 => ?_)
  · refine lv_aload_n hx hb dX0_placeForNext_28 rfl (lv_at hl 0 rfl) ?_
    refine gh_X0_25 C0 hP hw_at (by omega) dX0_placeForNext_29 ?_
    refine n_if_ne (tgt := 58) hx hb (by omega) dX0_placeForNext_32 (by decide) (fun h32 => ?_) (fun h32 => ?_)
    · refine lv_aload_n hx hb dX0_placeForNext_58 rfl (lv_at hl 0 rfl) ?_
      refine lv_aload_n hx hb dX0_placeForNext_59 rfl (lv_at hl 0 rfl) ?_
      refine gh_X0_37 C0 hP hw_at (by omega) dX0_placeForNext_60 ?_
      refine k0_i (rn_X0_56 (As := [.int (nI D9)]) (rest := []) (r := b) C0 (m_X0_draw l D cA N ad (hw ad cA c b R Y L S D9 K st) b R Y L S D9 K st D9 (by omega) hw_at (by omega) (by omega) (by omega) _) hP hS (by omega) hw_at.1 rfl ⟨rfl, rfl⟩ ⟨by decide, by decide⟩ hl.1 rfl (Nat.le_of_ble_eq_true rfl) dX0_placeForNext_63 ⟨Nat.le_of_ble_eq_true rfl, Nat.le_of_ble_eq_true rfl⟩) C0 hP hS (fun v63 c63 H locs hp hP hS => ?_)
      obtain ⟨rfl, rfl⟩ := hp
      rw [hw_hw] at hP
      refine lv_iload_n hx hb dX0_placeForNext_66 rfl (lv_at hl 1 rfl) ?_
      refine lv_aload_n hx hb dX0_placeForNext_67 rfl (lv_at hl 0 rfl) ?_
      refine gh_X0_21 C0 hP hw_at (by omega) dX0_placeForNext_68 ?_
      refine n_imul hx hb dX0_placeForNext_71 ?_
      refine n_icmp_ge (tgt := 86) hx hb (by omega) (by omega) dX0_placeForNext_72 (by decide) (fun h72 => ?_) (fun h72 => ?_)
      · refine lv_iconst (v := (-1)) hx hb dX0_placeForNext_86 rfl ?_
        exact e_i C0 hr hlk hP hS dX0_placeForNext_87 (by decide) (by decide) ⟨by rw [show pk R Y L S D9 K w = (none, nl L, K) from by unfold pk; rw [if_neg (by omega), if_neg h32, if_neg (by omega)]]; first | rfl | (show nI (K + 1 - 1) = nI K; rw [Nat.add_sub_cancel]), by rw [show pk R Y L S D9 K w = (none, nl L, K) from by unfold pk; rw [if_neg (by omega), if_neg h32, if_neg (by omega)]]⟩
      · refine lv_aload_n hx hb dX0_placeForNext_75 rfl (lv_at hl 0 rfl) ?_
        refine lv_aload_n hx hb dX0_placeForNext_76 rfl (lv_at hl 0 rfl) ?_
        refine gh_X0_21 C0 hP hw_at (by omega) dX0_placeForNext_77 ?_
        refine k0_i (rn_X0_56 (As := [.int (nI R)]) (rest := []) (r := b) C0 (m_X0_draw l D cA N ad (hw ad cA c b R Y (nl L) S D9 K st) b R Y (nl L) S D9 K st R (by omega) hw_at (by omega) (by omega) (by omega) _) hP hS (by omega) hw_at.1 rfl ⟨rfl, rfl⟩ ⟨by decide, by decide⟩ hl.1 rfl (Nat.le_of_ble_eq_true rfl) dX0_placeForNext_80 ⟨Nat.le_of_ble_eq_true rfl, Nat.le_of_ble_eq_true rfl⟩) C0 hP hS (fun v80 c80 H locs hp hP hS => ?_)
        obtain ⟨rfl, rfl⟩ := hp
        rw [hw_hw] at hP
        refine lv_goto (tgt := 87) hx hb dX0_placeForNext_83 (by decide) ?_
        exact e_i C0 hr hlk hP hS dX0_placeForNext_87 (by decide) (by decide) ⟨by rw [show pk R Y L S D9 K w = (some (nl (nl L) % R), nl (nl L), K) from by unfold pk; rw [if_neg (by omega), if_neg h32, if_pos h72]]; first | rfl | (show nI (K + 1 - 1) = nI K; rw [Nat.add_sub_cancel]), by rw [show pk R Y L S D9 K w = (some (nl (nl L) % R), nl (nl L), K) from by unfold pk; rw [if_neg (by omega), if_neg h32, if_pos h72]]⟩
    · refine lv_aload_n hx hb dX0_placeForNext_35 rfl (lv_at hl 0 rfl) ?_
      refine lv_aload_n hx hb dX0_placeForNext_36 rfl (lv_at hl 0 rfl) ?_
      refine gh_X0_34 C0 hP hw_at (by omega) dX0_placeForNext_37 ?_
      refine k0_i (rn_X0_56 (As := [.int (nI S)]) (rest := []) (r := b) C0 (m_X0_draw l D cA N ad (hw ad cA c b R Y L S D9 K st) b R Y L S D9 K st S (by omega) hw_at (by omega) (by omega) (by omega) _) hP hS (by omega) hw_at.1 rfl ⟨rfl, rfl⟩ ⟨by decide, by decide⟩ hl.1 rfl (Nat.le_of_ble_eq_true rfl) dX0_placeForNext_40 ⟨Nat.le_of_ble_eq_true rfl, Nat.le_of_ble_eq_true rfl⟩) C0 hP hS (fun v40 c40 H locs hp hP hS => ?_)
      obtain ⟨rfl, rfl⟩ := hp
      rw [hw_hw] at hP
      refine lv_istore_n (lv' := [(2, .int (nI (nl L % S))), (0, .ref (ad b)), (1, .int (nI w))]) hx hb dX0_placeForNext_43 rfl hl (by decide) rfl (fun ls hl => ?_)
      refine lv_iload_n hx hb dX0_placeForNext_44 rfl (lv_at hl 0 rfl) ?_
      refine lv_aload_n hx hb dX0_placeForNext_45 rfl (lv_at hl 1 rfl) ?_
      refine gh_X0_21 C0 hP hw_at (by omega) dX0_placeForNext_46 ?_
      refine n_icmp_ge (tgt := 56) hx hb (by omega) (by omega) dX0_placeForNext_49 (by decide) (fun h49 => ?_) (fun h49 => ?_)
      · refine lv_iconst (v := (-1)) hx hb dX0_placeForNext_56 rfl ?_
        exact e_i C0 hr hlk hP hS dX0_placeForNext_57 (by decide) (by decide) ⟨by rw [show pk R Y L S D9 K w = (none, nl L, K) from by unfold pk; rw [if_neg (by omega), if_pos h32, if_neg (by omega)]]; first | rfl | (show nI (K + 1 - 1) = nI K; rw [Nat.add_sub_cancel]), by rw [show pk R Y L S D9 K w = (none, nl L, K) from by unfold pk; rw [if_neg (by omega), if_pos h32, if_neg (by omega)]]⟩
      · refine lv_iload_n hx hb dX0_placeForNext_52 rfl (lv_at hl 0 rfl) ?_
        refine lv_goto (tgt := 57) hx hb dX0_placeForNext_53 (by decide) ?_
        exact e_i C0 hr hlk hP hS dX0_placeForNext_57 (by decide) (by decide) ⟨by rw [show pk R Y L S D9 K w = (some (nl L % S), nl L, K) from by unfold pk; rw [if_neg (by omega), if_pos h32, if_pos h49]]; first | rfl | (show nI (K + 1 - 1) = nI K; rw [Nat.add_sub_cancel]), by rw [show pk R Y L S D9 K w = (some (nl L % S), nl L, K) from by unfold pk; rw [if_neg (by omega), if_pos h32, if_pos h49]]⟩
  · refine lv_aload_n hx hb dX0_placeForNext_11 rfl (lv_at hl 0 rfl) ?_
    refine lv_dup hx hb dX0_placeForNext_12 rfl ?_
    refine gh_X0_31 C0 hP hw_at (by omega) dX0_placeForNext_13 ?_
    refine lv_iconst (v := nI 1) hx hb dX0_placeForNext_16 rfl ?_
    refine n_iadd hx hb dX0_placeForNext_17 ?_
    refine ph_X0_31 C0 hP hS (by omega) dX0_placeForNext_18 (fun H locs hP hS => ?_)
    refine lv_aload_n hx hb dX0_placeForNext_21 rfl (lv_at hl 0 rfl) ?_
    refine gh_X0_31 C0 hP hw_at (by omega) dX0_placeForNext_22 ?_
    refine lv_iconst (v := nI 1) hx hb dX0_placeForNext_25 rfl ?_
    refine n_isub hx hb (by omega) dX0_placeForNext_26 ?_
    exact e_i C0 hr hlk hP hS dX0_placeForNext_27 (by decide) (by decide) ⟨by rw [show pk R Y L S D9 K w = (some K, L, K + 1) from by unfold pk; rw [if_pos h8]]; first | rfl | (show nI (K + 1 - 1) = nI K; rw [Nat.add_sub_cancel]), by rw [show pk R Y L S D9 K w = (some K, L, K + 1) from by unfold pk; rw [if_pos h8]]⟩
set_option maxHeartbeats 1000000 in
set_option maxRecDepth 10000 in
theorem m_X0_take (l : Launch) (D : va_G) (cA : Nat → ClassId) (N : Nat) (ad : Nat → Nat) (c : Nat → va_E) (b R Y L S D9 K : Nat) (st : Nat → Nat → Int32) (x : Int32) (w : Nat) (hbN : b + 4 ≤ N) (hH : HandAt ad cA c b R Y L S D9 K st) (hR0 : 1 ≤ R) (hR : R ≤ 8) (hK : K ≤ R) (hL : L ≤ 9999) (hS3 : S < 2 ^ 29) (hD3 : D9 < 2 ^ 29) (hY : Y < 2 ^ 30) (hw0 : 1 ≤ w) (hw9 : w ≤ 9) : Ci l yX0_take wX0_take { frames := 2, cells := 0, slots := 0, locals := 43 } [.ref (ad b), .int x, .int (nI w)] D cA N ad c 0 0 (fun v c' => v = oI (pk R Y L (S + 1) (D9 + w) K w).1 ∧ hw ad cA c b R Y ((pk R Y L (S + 1) (D9 + w) K w).2.1) ((S + 1)) ((D9 + w)) ((pk R Y L (S + 1) (D9 + w) K w).2.2) (stT st (pk R Y L (S + 1) (D9 + w) K w).1 x (nI w) (nI (S + 1))) = c') := by
  intro sz9
  refine bd_of (cc := cX0_take) (maxL := 4) (ret := some Jvm.ClassFile.FieldType.int) (by decide) rfl (Nat.le_of_ble_eq_true rfl) ?_
  intro p e s m below meth c0 C0 hr hlk hnm hP hS hsz ls hl
  subst hsz
  have hx := C0.1
  have hb := C0.2.1
  have hl : lv_has ls 4 [(0, .ref (ad b)), (1, .int x), (2, .int (nI w))] := hl
  rw [← hw_self hH] at hP
  obtain ⟨hpk, -, -⟩ := pk9_in (R := R) (Y := Y) (L := L) (S := S + 1) (D := D9 + w) (K := K) (w := w) hR0 hK
  refine lv_aload_n hx hb dX0_take_0 rfl (lv_at hl 0 rfl) ?_
  refine lv_dup hx hb dX0_take_1 rfl ?_
  refine gh_X0_34 C0 hP hw_at (by omega) dX0_take_2 ?_
  refine lv_iconst (v := nI 1) hx hb dX0_take_5 rfl ?_
  refine n_iadd hx hb dX0_take_6 ?_
  refine ph_X0_34 C0 hP hS (by omega) dX0_take_7 (fun H locs hP hS => ?_)
  refine lv_aload_n hx hb dX0_take_10 rfl (lv_at hl 0 rfl) ?_
  refine lv_dup hx hb dX0_take_11 rfl ?_
  refine gh_X0_37 C0 hP hw_at (by omega) dX0_take_12 ?_
  refine lv_iload_n hx hb dX0_take_15 rfl (lv_at hl 2 rfl) ?_
  refine n_iadd hx hb dX0_take_16 ?_
  refine ph_X0_37 C0 hP hS (by omega) dX0_take_17 (fun H locs hP hS => ?_)
  refine lv_aload_n hx hb dX0_take_20 rfl (lv_at hl 0 rfl) ?_
  refine lv_iload_n hx hb dX0_take_21 rfl (lv_at hl 2 rfl) ?_
  refine k0_i (rn_X0_52 (As := [.int (nI w)]) (rest := []) (r := b) C0 (m_X0_placeForNext l D cA N ad (hw ad cA c b R Y L (S + 1) (D9 + w) K st) b R Y L (S + 1) (D9 + w) K st w (by omega) hw_at (by omega) (by omega) (by omega) (by omega) (by omega) (by omega) (by omega) (by omega) (by omega) (by omega) _) hP hS (by omega) hw_at.1 rfl ⟨rfl, rfl⟩ ⟨by decide, by decide⟩ hl.1 rfl (Nat.le_of_ble_eq_true rfl) dX0_take_22 ⟨Nat.le_of_ble_eq_true rfl, Nat.le_of_ble_eq_true rfl⟩) C0 hP hS (fun v22 c22 H locs hp hP hS => ?_)
  obtain ⟨hv, rfl⟩ := hp
  rw [hw_hw] at hP
  generalize hpe : (pk R Y L (S + 1) (D9 + w) K w) = q at hv hP hpk ⊢
  obtain ⟨o, L1, K1⟩ := q
  dsimp only at hv hP hpk ⊢
  rcases o with _ | p9
  · obtain rfl : v22 = -1 := hv
    refine lv_istore_n (lv' := [(3, .int ((-1))), (0, .ref (ad b)), (1, .int x), (2, .int (nI w))]) hx hb dX0_take_25 rfl hl (by decide) rfl (fun ls hl => ?_)
    refine lv_iload_n hx hb dX0_take_26 rfl (lv_at hl 0 rfl) ?_
    refine lv_iconst (v := (-1)) hx hb dX0_take_27 rfl ?_
    refine lv_icmp_eq (tgt := 61) hx hb dX0_take_28 (by decide) (fun h28 => ?_) (fun h28 => ?_)
    rotate_left
    · exact absurd rfl h28
    refine lv_iload_n hx hb dX0_take_61 rfl (lv_at hl 0 rfl) ?_
    exact e_i C0 hr hlk hP hS dX0_take_62 (by decide) (by decide) ⟨rfl, rfl⟩
  · obtain rfl : v22 = nI p9 := hv
    have hp9 : p9 < R := hpk p9 rfl
    refine lv_istore_n (lv' := [(3, .int (nI p9)), (0, .ref (ad b)), (1, .int x), (2, .int (nI w))]) hx hb dX0_take_25 rfl hl (by decide) rfl (fun ls hl => ?_)
    refine lv_iload_n hx hb dX0_take_26 rfl (lv_at hl 0 rfl) ?_
    refine lv_iconst (v := (-1)) hx hb dX0_take_27 rfl ?_
    refine lv_icmp_eq (tgt := 61) hx hb dX0_take_28 (by decide) (fun h28 => ?_) (fun h28 => ?_)
    · exact absurd h28 (nI_m1 (by omega))
    refine lv_aload_n hx hb dX0_take_31 rfl (lv_at hl 1 rfl) ?_
    refine gh_X0_9 C0 hP hw_at (by omega) dX0_take_32 ?_
    refine lv_iload_n hx hb dX0_take_35 rfl (lv_at hl 0 rfl) ?_
    refine lv_iload_n hx hb dX0_take_36 rfl (lv_at hl 2 rfl) ?_
    refine k0_v (rn_X0_48 (As := [.ref (ad (b + 1)), .int (nI p9), .int x]) (rest := []) C0 (m_X1_put l D cA N ad (hw ad cA c b R Y L1 (S + 1) (D9 + w) K1 st) (b + 1) 8 p9 ((st 0)) (x) (by omega) (hw_at.2.1) (by omega) (by omega) _) hP hS rfl ⟨rfl, rfl⟩ ⟨by decide, by decide⟩ hl.1 rfl (Nat.le_of_ble_eq_true rfl) dX0_take_37 ⟨Nat.le_of_ble_eq_true rfl, Nat.le_of_ble_eq_true rfl⟩) C0 hP hS (fun c37 H locs hp hP hS => ?_)
    obtain rfl := hp
    rw [hw_row0] at hP
    refine lv_aload_n hx hb dX0_take_40 rfl (lv_at hl 1 rfl) ?_
    refine gh_X0_15 C0 hP hw_at (by omega) dX0_take_41 ?_
    refine lv_iload_n hx hb dX0_take_44 rfl (lv_at hl 0 rfl) ?_
    refine lv_iload_n hx hb dX0_take_45 rfl (lv_at hl 3 rfl) ?_
    refine k0_v (rn_X0_48 (As := [.ref (ad (b + 2)), .int (nI p9), .int (nI w)]) (rest := []) C0 (m_X1_put l D cA N ad (hw ad cA c b R Y L1 (S + 1) (D9 + w) K1 ((stU st 0 p9 x))) (b + 2) 8 p9 (((stU st 0 p9 x) 1)) (nI w) (by omega) (hw_at.2.2.1) (by omega) (by omega) _) hP hS rfl ⟨rfl, rfl⟩ ⟨by decide, by decide⟩ hl.1 rfl (Nat.le_of_ble_eq_true rfl) dX0_take_46 ⟨Nat.le_of_ble_eq_true rfl, Nat.le_of_ble_eq_true rfl⟩) C0 hP hS (fun c46 H locs hp hP hS => ?_)
    obtain rfl := hp
    rw [hw_row1] at hP
    refine lv_aload_n hx hb dX0_take_49 rfl (lv_at hl 1 rfl) ?_
    refine gh_X0_18 C0 hP hw_at (by omega) dX0_take_50 ?_
    refine lv_iload_n hx hb dX0_take_53 rfl (lv_at hl 0 rfl) ?_
    refine lv_aload_n hx hb dX0_take_54 rfl (lv_at hl 1 rfl) ?_
    refine gh_X0_34 C0 hP hw_at (by omega) dX0_take_55 ?_
    refine k0_v (rn_X0_48 (As := [.ref (ad (b + 3)), .int (nI p9), .int (nI (S + 1))]) (rest := []) C0 (m_X1_put l D cA N ad (hw ad cA c b R Y L1 (S + 1) (D9 + w) K1 ((stU ((stU st 0 p9 x)) 1 p9 (nI w)))) (b + 3) 8 p9 (((stU ((stU st 0 p9 x)) 1 p9 (nI w)) 2)) (nI (S + 1)) (by omega) (hw_at.2.2.2) (by omega) (by omega) _) hP hS rfl ⟨rfl, rfl⟩ ⟨by decide, by decide⟩ hl.1 rfl (Nat.le_of_ble_eq_true rfl) dX0_take_58 ⟨Nat.le_of_ble_eq_true rfl, Nat.le_of_ble_eq_true rfl⟩) C0 hP hS (fun c58 H locs hp hP hS => ?_)
    obtain rfl := hp
    rw [hw_row2] at hP
    refine lv_iload_n hx hb dX0_take_61 rfl (lv_at hl 0 rfl) ?_
    exact e_i C0 hr hlk hP hS dX0_take_62 (by decide) (by decide) ⟨rfl, rfl⟩
set_option maxHeartbeats 1000000 in
set_option maxRecDepth 10000 in
theorem m_X0_shuffle (l : Launch) (D : va_G) (cA : Nat → ClassId) (N : Nat) (ad : Nat → Nat) (c : Nat → va_E) (b R Y L S D9 K : Nat) (st : Nat → Nat → Int32)  (hbN : b + 4 ≤ N) (hH : HandAt ad cA c b R Y L S D9 K st) (hK : K ≤ 8) (hL : L ≤ 9999) : Ci l yX0_shuffle wX0_shuffle { frames := 2, cells := 0, slots := 0, locals := 45 } [.ref (ad b)] D cA N ad c 0 0 (fun v c' => v = nI (mixF (K - 1) (L, st, 0)).2.2 ∧ hw ad cA c b R Y ((mixF (K - 1) (L, st, 0)).1) S D9 K ((mixF (K - 1) (L, st, 0)).2.1) = c') := by
  intro sz9
  refine bd_of (cc := cX0_shuffle) (maxL := 4) (ret := some Jvm.ClassFile.FieldType.int) (by decide) rfl (Nat.le_of_ble_eq_true rfl) ?_
  intro p e s m below meth c0 C0 hr hlk hnm hP hS hsz ls hl
  subst hsz
  have hx := C0.1
  have hb := C0.2.1
  have hl : lv_has ls 4 [(0, .ref (ad b))] := hl
  rw [← hw_self hH] at hP
  rcases Nat.eq_zero_or_pos K with hK0 | hK0
  · subst hK0
    refine lv_iconst (v := nI 0) hx hb dX0_shuffle_0 rfl ?_
    refine lv_istore_n (lv' := [(1, .int (nI 0)), (0, .ref (ad b))]) hx hb dX0_shuffle_1 rfl hl (by decide) rfl (fun ls hl => ?_)
    refine lv_aload_n hx hb dX0_shuffle_2 rfl (lv_at hl 1 rfl) ?_
    refine gh_X0_31 C0 hP hw_at (by omega) dX0_shuffle_3 ?_
    refine lv_iconst (v := nI 1) hx hb dX0_shuffle_6 rfl ?_
    refine lv_isub hx hb dX0_shuffle_7 ?_
    refine lv_istore_n (lv' := [(2, .int (nI 0 - nI 1)), (1, .int (nI 0)), (0, .ref (ad b))]) hx hb dX0_shuffle_8 rfl hl (by decide) rfl (fun ls hl => ?_)
    refine lv_iload_n hx hb dX0_shuffle_9 rfl (lv_at hl 0 rfl) ?_
    refine lv_iconst (v := nI 1) hx hb dX0_shuffle_10 rfl ?_
    refine lv_icmp_lt (tgt := 63) hx hb dX0_shuffle_11 (by decide) (fun h11 => ?_) (fun h11 => ?_)
    rotate_left
    · exact absurd (by decide) h11
    refine lv_iload_n hx hb dX0_shuffle_63 rfl (lv_at hl 1 rfl) ?_
    exact e_i C0 hr hlk hP hS dX0_shuffle_64 (by decide) (by decide) ⟨rfl, rfl⟩
  · refine lv_iconst (v := nI 0) hx hb dX0_shuffle_0 rfl ?_
    refine lv_istore_n (lv' := [(1, .int (nI 0)), (0, .ref (ad b))]) hx hb dX0_shuffle_1 rfl hl (by decide) rfl (fun ls hl => ?_)
    refine lv_aload_n hx hb dX0_shuffle_2 rfl (lv_at hl 1 rfl) ?_
    refine gh_X0_31 C0 hP hw_at (by omega) dX0_shuffle_3 ?_
    refine lv_iconst (v := nI 1) hx hb dX0_shuffle_6 rfl ?_
    refine n_isub hx hb (by omega) dX0_shuffle_7 ?_
    refine lv_istore_n (lv' := [(2, .int (nI (K - 1))), (1, .int (nI 0)), (0, .ref (ad b))]) hx hb dX0_shuffle_8 rfl hl (by decide) rfl (fun ls hl => ?_)
    have loop9 : ∀ (n9 : Nat) (j : Nat) (x : Nat × (Nat → Nat → Int32) × Nat), (j < 8) → (x.1 ≤ 9999) → (mixF j x = (mixF (K - 1) (L, st, 0))) → j < n9 → ∀ (H : Heap) (locs : List Loc) (ls : Array Slot), va_P D vwCl (wl N ad (hw ad cA c b R Y x.1 S D9 K x.2.1)) H → va_S (wA N ad s.heap.size) s.heap H locs → lv_has ls 4 [(0, .ref (ad b)), (1, .int (nI x.2.2)), (2, .int (nI j))] → W p l e { frames := 2, cells := 0, slots := 0, locals := 45 } s m [.ref (ad b)].toArray below meth c0 H locs 0 0 (MQ below (va_Qi (fun v c' => v = nI (mixF (K - 1) (L, st, 0)).2.2 ∧ hw ad cA c b R Y ((mixF (K - 1) (L, st, 0)).1) S D9 K ((mixF (K - 1) (L, st, 0)).2.1) = c') (fun c' t => va_P D vwCl (wl N ad c') t.heap) (wA N ad s.heap.size)) [.ref (ad b)].toArray s 0 0 (wA N ad s.heap.size)) (F0 m 9 ls []) := by
      intro n9
      induction n9 with
      | zero => intro j x hj hxL hm hlt9; exact absurd hlt9 (Nat.not_lt_zero _)
      | succ n9 ih9 =>
        intro j x hj hxL hm hlt9 H locs ls hP hS hl
        have hnl9 := nl_lt x.1
        have hmd9 : nl x.1 % (j + 1) < j + 1 := Nat.mod_lt _ (Nat.succ_pos j)
        refine lv_iload_n hx hb dX0_shuffle_9 rfl (lv_at hl 2 rfl) ?_
        refine lv_iconst (v := nI 1) hx hb dX0_shuffle_10 rfl ?_
        refine n_icmp_lt (tgt := 63) hx hb (by omega) (by omega) dX0_shuffle_11 (by decide) (fun h11 => ?_) (fun h11 => ?_)
        · obtain rfl : j = 0 := by omega
          refine lv_iload_n hx hb dX0_shuffle_63 rfl (lv_at hl 1 rfl) ?_
          exact e_i C0 hr hlk hP hS dX0_shuffle_64 (by decide) (by decide) ⟨by rw [← hm]; rfl, by rw [← hm]; rfl⟩
        · refine lv_aload_n hx hb dX0_shuffle_14 rfl (lv_at hl 0 rfl) ?_
          refine lv_iload_n hx hb dX0_shuffle_15 rfl (lv_at hl 2 rfl) ?_
          refine lv_iconst (v := nI 1) hx hb dX0_shuffle_16 rfl ?_
          refine n_iadd hx hb dX0_shuffle_17 ?_
          refine k0_i (rn_X0_56 (As := [.int (nI (j + 1))]) (rest := []) (r := b) C0 (m_X0_draw l D cA N ad (hw ad cA c b R Y x.1 S D9 K x.2.1) b R Y x.1 S D9 K x.2.1 (j + 1) (by omega) hw_at (by omega) (by omega) (by omega) _) hP hS (by omega) hw_at.1 rfl ⟨rfl, rfl⟩ ⟨by decide, by decide⟩ hl.1 rfl (Nat.le_of_ble_eq_true rfl) dX0_shuffle_18 ⟨Nat.le_of_ble_eq_true rfl, Nat.le_of_ble_eq_true rfl⟩) C0 hP hS (fun v18 c18 H locs hp hP hS => ?_)
          obtain ⟨rfl, rfl⟩ := hp
          rw [hw_hw] at hP
          refine lv_istore_n (lv' := [(3, .int (nI (nl x.1 % (j + 1)))), (0, .ref (ad b)), (1, .int (nI x.2.2)), (2, .int (nI j))]) hx hb dX0_shuffle_21 rfl hl (by decide) rfl (fun ls hl => ?_)
          refine lv_iload_n hx hb dX0_shuffle_22 rfl (lv_at hl 0 rfl) ?_
          refine lv_iload_n hx hb dX0_shuffle_23 rfl (lv_at hl 3 rfl) ?_
          refine n_icmp_eq (tgt := 57) hx hb (by omega) (by omega) dX0_shuffle_24 (by decide) (fun h24 => ?_) (fun h24 => ?_)
          · refine lv_iinc (v := nI (j - 1)) (lv' := [(2, .int (nI (j - 1))), (3, .int (nI (nl x.1 % (j + 1)))), (0, .ref (ad b)), (1, .int (nI x.2.2))]) hx hb dX0_shuffle_57 hl (k := 3) rfl (nI_dec (by omega)) (by decide) rfl (fun ls hl => ?_)
            refine lv_goto (tgt := 9) hx hb dX0_shuffle_60 (by decide) ?_
            exact ih9 (j - 1) ((nl x.1, x.2.1, x.2.2)) (by omega) (by show nl x.1 ≤ 9999; omega) (by rw [← hm]; obtain ⟨j, rfl⟩ : ∃ j1, j = j1 + 1 := ⟨j - 1, by omega⟩; show mixF j _ = mixF j _; rw [if_pos h24]) (by omega) _ _ _ hP hS (lv_sub hl [2, 3, 0] rfl)
          · refine lv_aload_n hx hb dX0_shuffle_27 rfl (lv_at hl 1 rfl) ?_
            refine gh_X0_9 C0 hP hw_at (by omega) dX0_shuffle_28 ?_
            refine lv_iload_n hx hb dX0_shuffle_31 rfl (lv_at hl 3 rfl) ?_
            refine lv_iload_n hx hb dX0_shuffle_32 rfl (lv_at hl 0 rfl) ?_
            refine k0_v (rn_X0_59 (As := [.ref (ad (b + 1)), .int (nI j), .int (nI (nl x.1 % (j + 1)))]) (rest := []) C0 (m_X1_swap l D cA N ad (hw ad cA c b R Y (nl x.1) S D9 K x.2.1) (b + 1) 8 j (nl x.1 % (j + 1)) ((x.2.1 0)) (by omega) (hw_at.2.1) (by omega) (by omega) (by omega) _) hP hS rfl ⟨rfl, rfl⟩ ⟨by decide, by decide⟩ hl.1 rfl (Nat.le_of_ble_eq_true rfl) dX0_shuffle_33 ⟨Nat.le_of_ble_eq_true rfl, Nat.le_of_ble_eq_true rfl⟩) C0 hP hS (fun c33 H locs hp hP hS => ?_)
            obtain rfl := hp
            rw [swS_1] at hP
            refine lv_aload_n hx hb dX0_shuffle_36 rfl (lv_at hl 1 rfl) ?_
            refine gh_X0_15 C0 hP hw_at (by omega) dX0_shuffle_37 ?_
            refine lv_iload_n hx hb dX0_shuffle_40 rfl (lv_at hl 3 rfl) ?_
            refine lv_iload_n hx hb dX0_shuffle_41 rfl (lv_at hl 0 rfl) ?_
            refine k0_v (rn_X0_59 (As := [.ref (ad (b + 2)), .int (nI j), .int (nI (nl x.1 % (j + 1)))]) (rest := []) C0 (m_X1_swap l D cA N ad (hw ad cA c b R Y (nl x.1) S D9 K ((swS x.2.1 j (nl x.1 % (j + 1)) 1))) (b + 2) 8 j (nl x.1 % (j + 1)) (((swS x.2.1 j (nl x.1 % (j + 1)) 1) 1)) (by omega) (hw_at.2.2.1) (by omega) (by omega) (by omega) _) hP hS rfl ⟨rfl, rfl⟩ ⟨by decide, by decide⟩ hl.1 rfl (Nat.le_of_ble_eq_true rfl) dX0_shuffle_42 ⟨Nat.le_of_ble_eq_true rfl, Nat.le_of_ble_eq_true rfl⟩) C0 hP hS (fun c42 H locs hp hP hS => ?_)
            obtain rfl := hp
            rw [swS_2] at hP
            refine lv_aload_n hx hb dX0_shuffle_45 rfl (lv_at hl 1 rfl) ?_
            refine gh_X0_18 C0 hP hw_at (by omega) dX0_shuffle_46 ?_
            refine lv_iload_n hx hb dX0_shuffle_49 rfl (lv_at hl 3 rfl) ?_
            refine lv_iload_n hx hb dX0_shuffle_50 rfl (lv_at hl 0 rfl) ?_
            refine k0_v (rn_X0_59 (As := [.ref (ad (b + 3)), .int (nI j), .int (nI (nl x.1 % (j + 1)))]) (rest := []) C0 (m_X1_swap l D cA N ad (hw ad cA c b R Y (nl x.1) S D9 K ((swS x.2.1 j (nl x.1 % (j + 1)) 2))) (b + 3) 8 j (nl x.1 % (j + 1)) (((swS x.2.1 j (nl x.1 % (j + 1)) 2) 2)) (by omega) (hw_at.2.2.2) (by omega) (by omega) (by omega) _) hP hS rfl ⟨rfl, rfl⟩ ⟨by decide, by decide⟩ hl.1 rfl (Nat.le_of_ble_eq_true rfl) dX0_shuffle_51 ⟨Nat.le_of_ble_eq_true rfl, Nat.le_of_ble_eq_true rfl⟩) C0 hP hS (fun c51 H locs hp hP hS => ?_)
            obtain rfl := hp
            rw [swS_3] at hP
            refine lv_iinc (v := nI (x.2.2 + 1)) (lv' := [(1, .int (nI (x.2.2 + 1))), (3, .int (nI (nl x.1 % (j + 1)))), (0, .ref (ad b)), (2, .int (nI j))]) hx hb dX0_shuffle_54 hl (k := 2) rfl (nI_add x.2.2 1) (by decide) rfl (fun ls hl => ?_)
            refine lv_iinc (v := nI (j - 1)) (lv' := [(2, .int (nI (j - 1))), (1, .int (nI (x.2.2 + 1))), (3, .int (nI (nl x.1 % (j + 1)))), (0, .ref (ad b))]) hx hb dX0_shuffle_57 hl (k := 3) rfl (nI_dec (by omega)) (by decide) rfl (fun ls hl => ?_)
            refine lv_goto (tgt := 9) hx hb dX0_shuffle_60 (by decide) ?_
            exact ih9 (j - 1) ((nl x.1, swp x.2.1 j (nl x.1 % (j + 1)), x.2.2 + 1)) (by omega) (by show nl x.1 ≤ 9999; omega) (by rw [← hm]; obtain ⟨j, rfl⟩ : ∃ j1, j = j1 + 1 := ⟨j - 1, by omega⟩; show mixF j _ = mixF j _; rw [if_neg h24]) (by omega) _ _ _ hP hS (lv_sub hl [3, 1, 0] rfl)
    exact loop9 (_ + 1) (K - 1) ((L, st, 0)) (by omega) (hL) (rfl) (Nat.lt_succ_self _) _ _ _ hP hS (lv_sub hl [2, 1, 0] rfl)
