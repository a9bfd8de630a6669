theorem Ci.mono {l : Launch} {y : MethodName} {ws : List Cond} {rm : Room} {av : List Value} {D : va_G} {cA : Nat → ClassId} {N : Nat} {ad : Nat → Nat} {c : Nat → va_E} {mc ms : Nat} {post post' : Int32 → (Nat → va_E) → Prop} (h : Ci l y ws rm av D cA N ad c mc ms post) (hp : ∀ v c', post v c' → post' v c') : Ci l y ws rm av D cA N ad c mc ms post' := by
  intro sz
  refine MetFree.mono (h sz) (fun _ _ h => h) (fun _ _ _ _ _ h => h) (fun a st o t _ q => ?_)
  obtain ⟨⟨⟨v, u, h1, h2, h3⟩, h4⟩, h5⟩ := q
  exact ⟨⟨⟨v, u, h1, hp v u h2, h3⟩, h4⟩, h5⟩
def dg (d : Int64) (x : Int32) : Int64 := d * 31 + x.toInt64
def RkP (V : Nat → Int32) (K r : Nat) (v : Int32) : Prop := (∃ p, p < K ∧ rk V K p = r ∧ v = nI p) ∨ (v = -1 ∧ ∀ p, p < K → rk V K p ≠ r)
def MidP (V : Nat → Int32) (K : Nat) (v : Int32) : Prop := (∃ p, p < K ∧ rk V K p = K / 2 ∧ v = V p) ∨ (v = -1 ∧ ∀ p, p < K → rk V K p ≠ K / 2)
def StayP (R Y L S D K : Nat) (st : Nat → Nat → Int32) (n : Nat) (v : Int32) : Prop := ∃ stt, v = nI (cntN ((itT R Y 1 (L, S, D, K) (stB stt st K) (nI 0) n) 2) (nI S) (itS R Y 1 n (L, S, D, K)).2.2.2)
def UntP (R Y L S D K : Nat) (v : Int32) : Prop := Fst (fun k => itP R Y 1 k (L, S, D, K) ≠ none) 1 200 v
def WanP (R Y L S D K : Nat) (v : Int32) : Prop := Fst (fun k => (pk R Y L (S + 1) (D + (1 + k)) K (1 + k)).1 ≠ none) 1 9 v
def JoinP (R L S So K Ko : Nat) (st sto : Nat → Nat → Int32) (v : Int32) : Prop := ∃ stt, v = nI (jn S So K Ko st sto R (0, 0, L, stB stt st K)).2.1
/-! all hands: sc i what hand i is (room, way, luck, seen, load, held), st i its stones -/
def HsAt (ad : Nat → Nat) (cA : Nat → ClassId) (c : Nat → va_E) (n : Nat) (sc : Nat → Nat → Nat) (st : Nat → Nat → Nat → Int32) : Prop := ∀ i, i < n → HandAt ad cA c (6 + 4 * i) (sc i 0) (sc i 1) (sc i 2) (sc i 3) (sc i 4) (sc i 5) (st i)
def HsOk (n : Nat) (sc : Nat → Nat → Nat) : Prop := ∀ i, i < n → Hok (sc i 0) (sc i 1) (sc i 2) (sc i 3) (sc i 4) (sc i 5)
theorem HsAt.tr {ad : Nat → Nat} {cA : Nat → ClassId} {c c' : Nat → va_E} {n : Nat} {sc : Nat → Nat → Nat} {st : Nat → Nat → Nat → Int32} (h : HsAt ad cA c n sc st) (ht : Tr ad cA c c') : HsAt ad cA c' n sc st := fun i hi => (h i hi).tr (by omega) ht
def CanJ (sc : Nat → Nat → Nat) (i j : Nat) : Prop := sc i 1 = 0 ∧ sc j 1 = 0 ∧ sc i 0 = sc j 0
/-- what joining i with j would answer -/
def TJ (sc : Nat → Nat → Nat) (st : Nat → Nat → Nat → Int32) (i j : Nat) (v : Int32) : Prop := ((i = j ∨ ¬ CanJ sc i j) ∧ v = -1) ∨ (i ≠ j ∧ CanJ sc i j ∧ JoinP (sc i 0) (sc i 2) (sc i 3) (sc j 3) (sc i 5) (sc j 5) (st i) (st j) v)
def Inj (N : Nat) (ad : Nat → Nat) : Prop := ∀ i j, i < N → j < N → ad i = ad j → i = j
/-! the checksum's rows -/
def CntsP (V : Nat → Int32) (R S D L K : Nat) (d v : Int64) : Prop := ∃ lo mi, RkP V K 0 lo ∧ MidP V K mi ∧ v = dg (dg (dg (dg (dg (dg (dg (dg d (nI K)) (nI R)) (nI S)) (nI D)) (nI L)) (tot V K)) lo) mi
def ForeP (R Y L S D K : Nat) (st : Nat → Nat → Int32) (d v : Int64) : Prop := ∃ sy un we, StayP R Y L S D K st 20 sy ∧ UntP R Y L S D K un ∧ WanP R Y L S D K we ∧ v = dg (dg (dg (dg (dg d (nI (nlI 7 L))) (oI (pk R Y L (S + 1) (D + 1) K 1).1)) sy) un) we
def dgS (st : Nat → Nat → Int32) (K : Nat) : Nat → Int64 → Int64
  | 0, d => d
  | k + 1, d => dg (dg (dg (dg (dgS st K k d) (st 0 k)) (st 1 k)) (st 2 k)) (nI (rk (st 0) K k))
def PairsP (sc : Nat → Nat → Nat) (st : Nat → Nat → Nat → Int32) (i : Nat) : Nat → Int64 → Int64 → Prop
  | 0, d, v => v = d
  | k + 1, d, v => ∃ d1 t, PairsP sc st i k d d1 ∧ TJ sc st i k t ∧ v = dg (dg d1 (nI (com (st i 0) (st k 0) (sc k 5) (sc i 5)))) t
def HandP (n : Nat) (sc : Nat → Nat → Nat) (st : Nat → Nat → Nat → Int32) (i : Nat) (d v : Int64) : Prop := ∃ d1 d2, CntsP (st i 0) (sc i 0) (sc i 3) (sc i 4) (sc i 2) (sc i 5) d d1 ∧ ForeP (sc i 0) (sc i 1) (sc i 2) (sc i 3) (sc i 4) (sc i 5) (st i) d1 d2 ∧ PairsP sc st i n (dgS (st i) (sc i 5) (sc i 5) d2) v
def HandsP (n : Nat) (sc : Nat → Nat → Nat) (st : Nat → Nat → Nat → Int32) : Nat → Int64 → Int64 → Prop
  | 0, d, v => v = d
  | k + 1, d, v => ∃ d1, HandsP n sc st k d d1 ∧ HandP n sc st k d1 v
def DigP (n : Nat) (sc : Nat → Nat → Nat) (st : Nat → Nat → Nat → Int32) (v : Int64) : Prop := HandsP n sc st n (dg 2371 (nI n)) v
theorem jn_le {S So K Ko : Nat} {sa so : Nat → Nat → Int32} : ∀ (k : Nat) (x : Nat × Nat × Nat × (Nat → Nat → Int32)) {m : Nat}, x.1 + x.2.1 + k ≤ m → (jn S So K Ko sa so k x).1 + (jn S So K Ko sa so k x).2.1 ≤ m
  | 0, x, m, h => h
  | k + 1, x, m, h => by
    show (if K ≤ x.1 ∧ Ko ≤ x.2.1 then x else jn S So K Ko sa so k (jnS S So K Ko sa so x)).1 + (if K ≤ x.1 ∧ Ko ≤ x.2.1 then x else jn S So K Ko sa so k (jnS S So K Ko sa so x)).2.1 ≤ m
    split
    · omega
    · refine jn_le k _ ?_
      unfold jnS
      split
      · show x.1 + 1 + x.2.1 + k ≤ m; omega
      · show x.1 + (x.2.1 + 1) + k ≤ m; omega
set_option maxHeartbeats 1000000 in
set_option maxRecDepth 10000 in
theorem m_X1_offerRow (l : Launch) (D : va_G) (cA : Nat → ClassId) (N : Nat) (ad : Nat → Nat) (c : Nat → va_E) (n i R Y L S D9 K : Nat) (st : Nat → Nat → Int32) (x w many : Nat) (hN : 6 + 4 * n ≤ N) (hF : FH ad cA c n) (hi : i < n) (hH : HandAt ad cA c (6 + 4 * i) R Y L S D9 K st) (hok : Hok R Y L S D9 K) (hx9 : x ≤ 999) (hw0 : 1 ≤ w) (hw9 : w ≤ 9) (hm0 : 1 ≤ many) (hm : many ≤ 200) : Ci l yX1_offerRow wX1_offerRow { frames := 3, cells := 0, slots := 0, locals := 66 } [.ref (ad 0), .int (nI i), .int (nI x), .int (nI w), .int (nI many)] D cA N ad c 0 0 (fun v c' => v = nI (rwC R Y w (L, S, D9, K) many) ∧ hw ad cA c (6 + 4 * i) R Y ((rwS R Y w many (L, S, D9, K)).1) ((rwS R Y w many (L, S, D9, K)).2.1) ((rwS R Y w many (L, S, D9, K)).2.2.1) ((rwS R Y w many (L, S, D9, K)).2.2.2) ((rwT R Y w (L, S, D9, K) st x many)) = c') := by
  intro sz9
  refine bd_of (cc := cX1_offerRow) (maxL := 10) (ret := some Jvm.ClassFile.FieldType.int) (by decide) rfl (Nat.le_of_ble_eq_true rfl) ?_
  intro p e s m below meth c0 C0 hr hlk hnm hP hS hsz ls hl
  subst hsz
  have hx := C0.1
  have hb := C0.2.1
  have hl : lv_has ls 10 [(0, .ref (ad 0)), (1, .int (nI i)), (2, .int (nI x)), (3, .int (nI w)), (4, .int (nI many))] := hl
  obtain ⟨q1, q2, q3, q4, q5, q6, q7, q8, q9⟩ := id hok
  have hn5 := hF.2.2
  refine lv_aload_n hx hb dX1_offerRow_0 rfl (lv_at hl 0 rfl) ?_
  refine lv_iload_n hx hb dX1_offerRow_1 rfl (lv_at hl 1 rfl) ?_
  refine k0_r (rn_X1_42 (As := [.int (nI i)]) (rest := []) (r := 0) C0 (m_X1_handAt l D cA N ad (c) n i (by omega) hF (by omega) (by omega) _) hP hS (by omega) hF.1 rfl ⟨rfl, rfl⟩ ⟨by decide, by decide⟩ hl.1 rfl (Nat.le_of_ble_eq_true rfl) dX1_offerRow_2 ⟨Nat.le_of_ble_eq_true rfl, Nat.le_of_ble_eq_true rfl⟩) C0 hP hS (fun H locs hP hS => ?_)
  refine lv_astore (lv' := [(5, .ref (ad (6 + 4 * i))), (0, .ref (ad 0)), (1, .int (nI i)), (2, .int (nI x)), (3, .int (nI w)), (4, .int (nI many))]) hx hb dX1_offerRow_5 hl (by decide) rfl (fun ls hl => ?_)
  refine lv_iload_n hx hb dX1_offerRow_7 rfl (lv_at hl 3 rfl) ?_
  refine lv_iconst (v := nI 0) hx hb dX1_offerRow_8 rfl ?_
  refine lv_sipush (v := nI 999) hx hb dX1_offerRow_9 rfl ?_
  refine k0_i (rn_X1_22 (As := [.int (nI x), .int (nI 0), .int (nI 999)]) (rest := []) C0 (m_X1_isWithin l D cA N ad (c) (nI x) (nI 0) (nI 999) _) hP hS rfl ⟨rfl, rfl⟩ ⟨by decide, by decide⟩ hl.1 rfl (Nat.le_of_ble_eq_true rfl) dX1_offerRow_12 ⟨Nat.le_of_ble_eq_true rfl, Nat.le_of_ble_eq_true rfl⟩) C0 hP hS (fun v12 c12 H locs hp hP hS => ?_)
  obtain ⟨hv, rfl⟩ := hp
  obtain rfl : v12 = nI 1 := by rw [hv, if_pos ⟨nI_le (by omega) (by omega), nI_le (by omega) (by omega)⟩]; rfl
  refine n_if_eq (tgt := 40) hx hb (by omega) dX1_offerRow_15 (by decide) (fun h15 => ?_) (fun h15 => ?_)
  · exfalso; omega
  refine lv_iload_n hx hb dX1_offerRow_18 rfl (lv_at hl 4 rfl) ?_
  refine lv_iconst (v := nI 1) hx hb dX1_offerRow_19 rfl ?_
  refine lv_bipush (v := nI 9) hx hb dX1_offerRow_20 rfl ?_
  refine k0_i (rn_X1_22 (As := [.int (nI w), .int (nI 1), .int (nI 9)]) (rest := []) C0 (m_X1_isWithin l D cA N ad (c) (nI w) (nI 1) (nI 9) _) hP hS rfl ⟨rfl, rfl⟩ ⟨by decide, by decide⟩ hl.1 rfl (Nat.le_of_ble_eq_true rfl) dX1_offerRow_22 ⟨Nat.le_of_ble_eq_true rfl, Nat.le_of_ble_eq_true rfl⟩) C0 hP hS (fun v22 c22 H locs hp hP hS => ?_)
  obtain ⟨hv, rfl⟩ := hp
  obtain rfl : v22 = nI 1 := by rw [hv, if_pos ⟨nI_le (by omega) (by omega), nI_le (by omega) (by omega)⟩]; rfl
  refine n_if_eq (tgt := 40) hx hb (by omega) dX1_offerRow_25 (by decide) (fun h25 => ?_) (fun h25 => ?_)
  · exfalso; omega
  refine lv_iload hx hb dX1_offerRow_28 (lv_at hl 5 rfl) ?_
  refine lv_iconst (v := nI 1) hx hb dX1_offerRow_30 rfl ?_
  refine lv_sipush (v := nI 200) hx hb dX1_offerRow_31 rfl ?_
  refine k0_i (rn_X1_22 (As := [.int (nI many), .int (nI 1), .int (nI 200)]) (rest := []) C0 (m_X1_isWithin l D cA N ad (c) (nI many) (nI 1) (nI 200) _) hP hS rfl ⟨rfl, rfl⟩ ⟨by decide, by decide⟩ hl.1 rfl (Nat.le_of_ble_eq_true rfl) dX1_offerRow_34 ⟨Nat.le_of_ble_eq_true rfl, Nat.le_of_ble_eq_true rfl⟩) C0 hP hS (fun v34 c34 H locs hp hP hS => ?_)
  obtain ⟨hv, rfl⟩ := hp
  obtain rfl : v34 = nI 1 := by rw [hv, if_pos ⟨nI_le (by omega) (by omega), nI_le (by omega) (by omega)⟩]; rfl
  refine n_if_ne (tgt := 50) hx hb (by omega) dX1_offerRow_37 (by decide) (fun h37 => ?_) (fun h37 => ?_)
  rotate_left
  · exfalso; omega
  rw [← hw_self hH] at hP
  refine lv_iconst (v := nI 0) hx hb dX1_offerRow_50 rfl ?_
  refine lv_istore (lv' := [(6, .int (nI 0)), (5, .ref (ad (6 + 4 * i))), (0, .ref (ad 0)), (1, .int (nI i)), (2, .int (nI x)), (3, .int (nI w)), (4, .int (nI many))]) hx hb dX1_offerRow_51 hl (by decide) rfl (fun ls hl => ?_)
  refine lv_iload_n hx hb dX1_offerRow_53 rfl (lv_at hl 4 rfl) ?_
  refine lv_istore (lv' := [(7, .int (nI x)), (6, .int (nI 0)), (5, .ref (ad (6 + 4 * i))), (0, .ref (ad 0)), (1, .int (nI i)), (2, .int (nI x)), (3, .int (nI w)), (4, .int (nI many))]) hx hb dX1_offerRow_54 hl (by decide) rfl (fun ls hl => ?_)
  refine lv_iload_n hx hb dX1_offerRow_56 rfl (lv_at hl 6 rfl) ?_
  refine lv_istore (lv' := [(8, .int (nI w)), (7, .int (nI x)), (6, .int (nI 0)), (5, .ref (ad (6 + 4 * i))), (0, .ref (ad 0)), (1, .int (nI i)), (2, .int (nI x)), (3, .int (nI w)), (4, .int (nI many))]) hx hb dX1_offerRow_57 hl (by decide) rfl (fun ls hl => ?_)
  refine lv_iconst (v := nI 0) hx hb dX1_offerRow_59 rfl ?_
  refine lv_istore (lv' := [(9, .int (nI 0)), (8, .int (nI w)), (7, .int (nI x)), (6, .int (nI 0)), (5, .ref (ad (6 + 4 * i))), (0, .ref (ad 0)), (1, .int (nI i)), (2, .int (nI x)), (3, .int (nI w)), (4, .int (nI many))]) hx hb dX1_offerRow_60 hl (by decide) rfl (fun ls hl => ?_)
  have loop62 : ∀ (n9 : Nat) (k : Nat) (q : Nat) (va : Nat) (wa : Nat), (k ≤ many) → (q = rwC R Y w (L, S, D9, K) k) → (va = (x + k) % 1000) → (wa = wtR w k) → many - k < n9 → ∀ (H : Heap) (locs : List Loc) (ls : Array Slot), va_P D vwCl (wl N ad (hw ad cA c (6 + 4 * i) R Y ((rwS R Y w k (L, S, D9, K)).1) ((rwS R Y w k (L, S, D9, K)).2.1) ((rwS R Y w k (L, S, D9, K)).2.2.1) ((rwS R Y w k (L, S, D9, K)).2.2.2) ((rwT R Y w (L, S, D9, K) st x k)))) H → va_S (wA N ad s.heap.size) s.heap H locs → lv_has ls 10 [(0, .ref (ad 0)), (1, .int (nI i)), (2, .int (nI x)), (3, .int (nI w)), (4, .int (nI many)), (5, .ref (ad (6 + 4 * i))), (6, .int (nI q)), (7, .int (nI va)), (8, .int (nI wa)), (9, .int (nI k))] → W p l e { frames := 3, cells := 0, slots := 0, locals := 66 } s m [.ref (ad 0), .int (nI i), .int (nI x), .int (nI w), .int (nI many)].toArray below meth c0 H locs 0 0 (MQ below (va_Qi (fun v c' => v = nI (rwC R Y w (L, S, D9, K) many) ∧ hw ad cA c (6 + 4 * i) R Y ((rwS R Y w many (L, S, D9, K)).1) ((rwS R Y w many (L, S, D9, K)).2.1) ((rwS R Y w many (L, S, D9, K)).2.2.1) ((rwS R Y w many (L, S, D9, K)).2.2.2) ((rwT R Y w (L, S, D9, K) st x many)) = c') (fun c' t => va_P D vwCl (wl N ad c') t.heap) (wA N ad s.heap.size)) [.ref (ad 0), .int (nI i), .int (nI x), .int (nI w), .int (nI many)].toArray s 0 0 (wA N ad s.heap.size)) (F0 m 62 ls []) := by
    intro n9
    induction n9 with
    | zero => intro k q va wa hk hq hva hwa hlt9; exact absurd hlt9 (Nat.not_lt_zero _)
    | succ n9 ih62 =>
      intro k q va wa hk hq hva hwa hlt9 H locs ls hP hS hl
      subst hva hwa
      obtain ⟨i1, i2, i3, i5, i4⟩ := rwS_in (R := R) (Y := Y) (w := w) (by omega) (x := (L, S, D9, K)) (by show L ≤ 9999; omega) (by show K ≤ R; omega) k
      dsimp only at i1 i2 i3 i4 i5
      obtain ⟨w1, w2⟩ := wtR_in w k
      have hcl := rwC_le (R := R) (Y := Y) (w := w) (x := (L, S, D9, K)) k
      have hpl : ∀ p, rwP R Y w k (L, S, D9, K) = some p → p < 2 ^ 31 := fun p h => Nat.lt_of_lt_of_le ((pk9_in (by omega) i4).1 p h) (by omega)
      refine lv_iload hx hb dX1_offerRow_62 (lv_at hl 9 rfl) ?_
      refine lv_iload hx hb dX1_offerRow_64 (lv_at hl 4 rfl) ?_
      refine n_icmp_ge (tgt := 126) hx hb (by omega) (by omega) dX1_offerRow_66 (by decide) (fun h66 => ?_) (fun h66 => ?_)
      · obtain rfl : many = k := by omega
        refine lv_iload hx hb dX1_offerRow_126 (lv_at hl 6 rfl) ?_
        exact e_i C0 hr hlk hP hS dX1_offerRow_128 (by decide) (by decide) ⟨by rw [hq], rfl⟩
      · refine lv_aload hx hb dX1_offerRow_69 (lv_at hl 5 rfl) ?_
        refine lv_iload hx hb dX1_offerRow_71 (lv_at hl 7 rfl) ?_
        refine lv_iload hx hb dX1_offerRow_73 (lv_at hl 8 rfl) ?_
        refine k0_i (rn_X1_48 (As := [.int (nI ((x + k) % 1000)), .int (nI (wtR w k))]) (rest := []) (r := 6 + 4 * i) C0 (m_X0_take l D cA N ad (hw ad cA c (6 + 4 * i) R Y ((rwS R Y w k (L, S, D9, K)).1) ((rwS R Y w k (L, S, D9, K)).2.1) ((rwS R Y w k (L, S, D9, K)).2.2.1) ((rwS R Y w k (L, S, D9, K)).2.2.2) ((rwT R Y w (L, S, D9, K) st x k))) (6 + 4 * i) R Y ((rwS R Y w k (L, S, D9, K)).1) ((rwS R Y w k (L, S, D9, K)).2.1) ((rwS R Y w k (L, S, D9, K)).2.2.1) ((rwS R Y w k (L, S, D9, K)).2.2.2) ((rwT R Y w (L, S, D9, K) st x k)) (nI ((x + k) % 1000)) (wtR w k) (by omega) hw_at (by omega) (by omega) (by omega) (by omega) (by omega) (by omega) (by omega) (by omega) (by omega) _) hP hS (by omega) hw_at.1 rfl ⟨rfl, rfl⟩ ⟨by decide, by decide⟩ hl.1 rfl (Nat.le_of_ble_eq_true rfl) dX1_offerRow_75 ⟨Nat.le_of_ble_eq_true rfl, Nat.le_of_ble_eq_true rfl⟩) C0 hP hS (fun v75 c75 H locs hp hP hS => ?_)
        obtain ⟨rfl, rfl⟩ := hp
        rw [hw_hw] at hP
        refine lv_iconst (v := (-1)) hx hb dX1_offerRow_78 rfl ?_
        refine lv_icmp_eq (tgt := 85) hx hb dX1_offerRow_79 (by decide) (fun h79 => ?_) (fun h79 => ?_)
        · refine lv_iload hx hb dX1_offerRow_85 (lv_at hl 7 rfl) ?_
          refine lv_sipush (v := nI 999) hx hb dX1_offerRow_87 rfl ?_
          refine n_icmp_ne (tgt := 97) hx hb (by omega) (by omega) dX1_offerRow_90 (by decide) (fun h90 => ?_) (fun h90 => ?_)
          · refine lv_iload hx hb dX1_offerRow_97 (lv_at hl 7 rfl) ?_
            refine lv_iconst (v := nI 1) hx hb dX1_offerRow_99 rfl ?_
            refine n_iadd hx hb dX1_offerRow_100 ?_
            refine lv_istore (lv' := [(7, .int (nI (((x + k) % 1000) + 1))), (0, .ref (ad 0)), (1, .int (nI i)), (2, .int (nI x)), (3, .int (nI w)), (4, .int (nI many)), (5, .ref (ad (6 + 4 * i))), (6, .int (nI q)), (8, .int (nI (wtR w k))), (9, .int (nI k))]) hx hb dX1_offerRow_101 hl (by decide) rfl (fun ls hl => ?_)
            refine lv_iload hx hb dX1_offerRow_103 (lv_at hl 8 rfl) ?_
            refine lv_bipush (v := nI 9) hx hb dX1_offerRow_105 rfl ?_
            refine n_icmp_ne (tgt := 114) hx hb (by omega) (by omega) dX1_offerRow_107 (by decide) (fun h107 => ?_) (fun h107 => ?_)
            · refine lv_iload hx hb dX1_offerRow_114 (lv_at hl 8 rfl) ?_
              refine lv_iconst (v := nI 1) hx hb dX1_offerRow_116 rfl ?_
              refine n_iadd hx hb dX1_offerRow_117 ?_
              refine lv_istore (lv' := [(8, .int (nI (wtR w k + 1))), (7, .int (nI (((x + k) % 1000) + 1))), (0, .ref (ad 0)), (1, .int (nI i)), (2, .int (nI x)), (3, .int (nI w)), (4, .int (nI many)), (5, .ref (ad (6 + 4 * i))), (6, .int (nI q)), (9, .int (nI k))]) hx hb dX1_offerRow_118 hl (by decide) rfl (fun ls hl => ?_)
              refine lv_iinc (v := nI (k + 1)) (lv' := [(9, .int (nI (k + 1))), (8, .int (nI (wtR w k + 1))), (7, .int (nI (((x + k) % 1000) + 1))), (0, .ref (ad 0)), (1, .int (nI i)), (2, .int (nI x)), (3, .int (nI w)), (4, .int (nI many)), (5, .ref (ad (6 + 4 * i))), (6, .int (nI q))]) hx hb dX1_offerRow_120 hl (k := 9) rfl (nI_add k 1) (by decide) rfl (fun ls hl => ?_)
              refine lv_goto (tgt := 62) hx hb dX1_offerRow_123 (by decide) ?_
              exact ih62 (k + 1) q (((x + k) % 1000) + 1) (wtR w k + 1) (by omega) (by rw [hq]; show _ = rwC R Y w (L, S, D9, K) k + (if rwP R Y w k (L, S, D9, K) = none then 0 else 1); rw [if_pos (show rwP R Y w k (L, S, D9, K) = none from oI_none h79 hpl), Nat.add_zero]) (by omega) (by simp only [wtR] at h107 ⊢; omega) (by omega) _ _ _ hP hS (lv_sub hl [3, 4, 5, 6, 7, 8, 9, 2, 1, 0] rfl)
            · refine lv_iconst (v := nI 1) hx hb dX1_offerRow_110 rfl ?_
              refine lv_goto (tgt := 118) hx hb dX1_offerRow_111 (by decide) ?_
              refine lv_istore (lv' := [(8, .int (nI 1)), (7, .int (nI (((x + k) % 1000) + 1))), (0, .ref (ad 0)), (1, .int (nI i)), (2, .int (nI x)), (3, .int (nI w)), (4, .int (nI many)), (5, .ref (ad (6 + 4 * i))), (6, .int (nI q)), (9, .int (nI k))]) hx hb dX1_offerRow_118 hl (by decide) rfl (fun ls hl => ?_)
              refine lv_iinc (v := nI (k + 1)) (lv' := [(9, .int (nI (k + 1))), (8, .int (nI 1)), (7, .int (nI (((x + k) % 1000) + 1))), (0, .ref (ad 0)), (1, .int (nI i)), (2, .int (nI x)), (3, .int (nI w)), (4, .int (nI many)), (5, .ref (ad (6 + 4 * i))), (6, .int (nI q))]) hx hb dX1_offerRow_120 hl (k := 9) rfl (nI_add k 1) (by decide) rfl (fun ls hl => ?_)
              refine lv_goto (tgt := 62) hx hb dX1_offerRow_123 (by decide) ?_
              exact ih62 (k + 1) q (((x + k) % 1000) + 1) 1 (by omega) (by rw [hq]; show _ = rwC R Y w (L, S, D9, K) k + (if rwP R Y w k (L, S, D9, K) = none then 0 else 1); rw [if_pos (show rwP R Y w k (L, S, D9, K) = none from oI_none h79 hpl), Nat.add_zero]) (by omega) (by simp only [wtR] at h107 ⊢; omega) (by omega) _ _ _ hP hS (lv_sub hl [3, 4, 5, 6, 7, 8, 9, 2, 1, 0] rfl)
          · refine lv_iconst (v := nI 0) hx hb dX1_offerRow_93 rfl ?_
            refine lv_goto (tgt := 101) hx hb dX1_offerRow_94 (by decide) ?_
            refine lv_istore (lv' := [(7, .int (nI 0)), (0, .ref (ad 0)), (1, .int (nI i)), (2, .int (nI x)), (3, .int (nI w)), (4, .int (nI many)), (5, .ref (ad (6 + 4 * i))), (6, .int (nI q)), (8, .int (nI (wtR w k))), (9, .int (nI k))]) hx hb dX1_offerRow_101 hl (by decide) rfl (fun ls hl => ?_)
            refine lv_iload hx hb dX1_offerRow_103 (lv_at hl 8 rfl) ?_
            refine lv_bipush (v := nI 9) hx hb dX1_offerRow_105 rfl ?_
            refine n_icmp_ne (tgt := 114) hx hb (by omega) (by omega) dX1_offerRow_107 (by decide) (fun h107 => ?_) (fun h107 => ?_)
            · refine lv_iload hx hb dX1_offerRow_114 (lv_at hl 8 rfl) ?_
              refine lv_iconst (v := nI 1) hx hb dX1_offerRow_116 rfl ?_
              refine n_iadd hx hb dX1_offerRow_117 ?_
              refine lv_istore (lv' := [(8, .int (nI (wtR w k + 1))), (7, .int (nI 0)), (0, .ref (ad 0)), (1, .int (nI i)), (2, .int (nI x)), (3, .int (nI w)), (4, .int (nI many)), (5, .ref (ad (6 + 4 * i))), (6, .int (nI q)), (9, .int (nI k))]) hx hb dX1_offerRow_118 hl (by decide) rfl (fun ls hl => ?_)
              refine lv_iinc (v := nI (k + 1)) (lv' := [(9, .int (nI (k + 1))), (8, .int (nI (wtR w k + 1))), (7, .int (nI 0)), (0, .ref (ad 0)), (1, .int (nI i)), (2, .int (nI x)), (3, .int (nI w)), (4, .int (nI many)), (5, .ref (ad (6 + 4 * i))), (6, .int (nI q))]) hx hb dX1_offerRow_120 hl (k := 9) rfl (nI_add k 1) (by decide) rfl (fun ls hl => ?_)
              refine lv_goto (tgt := 62) hx hb dX1_offerRow_123 (by decide) ?_
              exact ih62 (k + 1) q 0 (wtR w k + 1) (by omega) (by rw [hq]; show _ = rwC R Y w (L, S, D9, K) k + (if rwP R Y w k (L, S, D9, K) = none then 0 else 1); rw [if_pos (show rwP R Y w k (L, S, D9, K) = none from oI_none h79 hpl), Nat.add_zero]) (by omega) (by simp only [wtR] at h107 ⊢; omega) (by omega) _ _ _ hP hS (lv_sub hl [3, 4, 5, 6, 7, 8, 9, 2, 1, 0] rfl)
            · refine lv_iconst (v := nI 1) hx hb dX1_offerRow_110 rfl ?_
              refine lv_goto (tgt := 118) hx hb dX1_offerRow_111 (by decide) ?_
              refine lv_istore (lv' := [(8, .int (nI 1)), (7, .int (nI 0)), (0, .ref (ad 0)), (1, .int (nI i)), (2, .int (nI x)), (3, .int (nI w)), (4, .int (nI many)), (5, .ref (ad (6 + 4 * i))), (6, .int (nI q)), (9, .int (nI k))]) hx hb dX1_offerRow_118 hl (by decide) rfl (fun ls hl => ?_)
              refine lv_iinc (v := nI (k + 1)) (lv' := [(9, .int (nI (k + 1))), (8, .int (nI 1)), (7, .int (nI 0)), (0, .ref (ad 0)), (1, .int (nI i)), (2, .int (nI x)), (3, .int (nI w)), (4, .int (nI many)), (5, .ref (ad (6 + 4 * i))), (6, .int (nI q))]) hx hb dX1_offerRow_120 hl (k := 9) rfl (nI_add k 1) (by decide) rfl (fun ls hl => ?_)
              refine lv_goto (tgt := 62) hx hb dX1_offerRow_123 (by decide) ?_
              exact ih62 (k + 1) q 0 1 (by omega) (by rw [hq]; show _ = rwC R Y w (L, S, D9, K) k + (if rwP R Y w k (L, S, D9, K) = none then 0 else 1); rw [if_pos (show rwP R Y w k (L, S, D9, K) = none from oI_none h79 hpl), Nat.add_zero]) (by omega) (by simp only [wtR] at h107 ⊢; omega) (by omega) _ _ _ hP hS (lv_sub hl [3, 4, 5, 6, 7, 8, 9, 2, 1, 0] rfl)
        · refine lv_iinc (v := nI (q + 1)) (lv' := [(6, .int (nI (q + 1))), (0, .ref (ad 0)), (1, .int (nI i)), (2, .int (nI x)), (3, .int (nI w)), (4, .int (nI many)), (5, .ref (ad (6 + 4 * i))), (7, .int (nI ((x + k) % 1000))), (8, .int (nI (wtR w k))), (9, .int (nI k))]) hx hb dX1_offerRow_82 hl (k := 6) rfl (nI_add q 1) (by decide) rfl (fun ls hl => ?_)
          refine lv_iload hx hb dX1_offerRow_85 (lv_at hl 7 rfl) ?_
          refine lv_sipush (v := nI 999) hx hb dX1_offerRow_87 rfl ?_
          refine n_icmp_ne (tgt := 97) hx hb (by omega) (by omega) dX1_offerRow_90 (by decide) (fun h90 => ?_) (fun h90 => ?_)
          · refine lv_iload hx hb dX1_offerRow_97 (lv_at hl 7 rfl) ?_
            refine lv_iconst (v := nI 1) hx hb dX1_offerRow_99 rfl ?_
            refine n_iadd hx hb dX1_offerRow_100 ?_
            refine lv_istore (lv' := [(7, .int (nI (((x + k) % 1000) + 1))), (6, .int (nI (q + 1))), (0, .ref (ad 0)), (1, .int (nI i)), (2, .int (nI x)), (3, .int (nI w)), (4, .int (nI many)), (5, .ref (ad (6 + 4 * i))), (8, .int (nI (wtR w k))), (9, .int (nI k))]) hx hb dX1_offerRow_101 hl (by decide) rfl (fun ls hl => ?_)
            refine lv_iload hx hb dX1_offerRow_103 (lv_at hl 8 rfl) ?_
            refine lv_bipush (v := nI 9) hx hb dX1_offerRow_105 rfl ?_
            refine n_icmp_ne (tgt := 114) hx hb (by omega) (by omega) dX1_offerRow_107 (by decide) (fun h107 => ?_) (fun h107 => ?_)
            · refine lv_iload hx hb dX1_offerRow_114 (lv_at hl 8 rfl) ?_
              refine lv_iconst (v := nI 1) hx hb dX1_offerRow_116 rfl ?_
              refine n_iadd hx hb dX1_offerRow_117 ?_
              refine lv_istore (lv' := [(8, .int (nI (wtR w k + 1))), (7, .int (nI (((x + k) % 1000) + 1))), (6, .int (nI (q + 1))), (0, .ref (ad 0)), (1, .int (nI i)), (2, .int (nI x)), (3, .int (nI w)), (4, .int (nI many)), (5, .ref (ad (6 + 4 * i))), (9, .int (nI k))]) hx hb dX1_offerRow_118 hl (by decide) rfl (fun ls hl => ?_)
              refine lv_iinc (v := nI (k + 1)) (lv' := [(9, .int (nI (k + 1))), (8, .int (nI (wtR w k + 1))), (7, .int (nI (((x + k) % 1000) + 1))), (6, .int (nI (q + 1))), (0, .ref (ad 0)), (1, .int (nI i)), (2, .int (nI x)), (3, .int (nI w)), (4, .int (nI many)), (5, .ref (ad (6 + 4 * i)))]) hx hb dX1_offerRow_120 hl (k := 9) rfl (nI_add k 1) (by decide) rfl (fun ls hl => ?_)
              refine lv_goto (tgt := 62) hx hb dX1_offerRow_123 (by decide) ?_
              exact ih62 (k + 1) (q + 1) (((x + k) % 1000) + 1) (wtR w k + 1) (by omega) (by rw [hq]; show _ = rwC R Y w (L, S, D9, K) k + (if rwP R Y w k (L, S, D9, K) = none then 0 else 1); rw [if_neg (fun h => h79 (by rw [show (pk _ _ _ _ _ _ _).1 = none from h]; rfl))]) (by omega) (by simp only [wtR] at h107 ⊢; omega) (by omega) _ _ _ hP hS (lv_sub hl [4, 5, 6, 7, 8, 9, 3, 2, 1, 0] rfl)
            · refine lv_iconst (v := nI 1) hx hb dX1_offerRow_110 rfl ?_
              refine lv_goto (tgt := 118) hx hb dX1_offerRow_111 (by decide) ?_
              refine lv_istore (lv' := [(8, .int (nI 1)), (7, .int (nI (((x + k) % 1000) + 1))), (6, .int (nI (q + 1))), (0, .ref (ad 0)), (1, .int (nI i)), (2, .int (nI x)), (3, .int (nI w)), (4, .int (nI many)), (5, .ref (ad (6 + 4 * i))), (9, .int (nI k))]) hx hb dX1_offerRow_118 hl (by decide) rfl (fun ls hl => ?_)
              refine lv_iinc (v := nI (k + 1)) (lv' := [(9, .int (nI (k + 1))), (8, .int (nI 1)), (7, .int (nI (((x + k) % 1000) + 1))), (6, .int (nI (q + 1))), (0, .ref (ad 0)), (1, .int (nI i)), (2, .int (nI x)), (3, .int (nI w)), (4, .int (nI many)), (5, .ref (ad (6 + 4 * i)))]) hx hb dX1_offerRow_120 hl (k := 9) rfl (nI_add k 1) (by decide) rfl (fun ls hl => ?_)
              refine lv_goto (tgt := 62) hx hb dX1_offerRow_123 (by decide) ?_
              exact ih62 (k + 1) (q + 1) (((x + k) % 1000) + 1) 1 (by omega) (by rw [hq]; show _ = rwC R Y w (L, S, D9, K) k + (if rwP R Y w k (L, S, D9, K) = none then 0 else 1); rw [if_neg (fun h => h79 (by rw [show (pk _ _ _ _ _ _ _).1 = none from h]; rfl))]) (by omega) (by simp only [wtR] at h107 ⊢; omega) (by omega) _ _ _ hP hS (lv_sub hl [4, 5, 6, 7, 8, 9, 3, 2, 1, 0] rfl)
          · refine lv_iconst (v := nI 0) hx hb dX1_offerRow_93 rfl ?_
            refine lv_goto (tgt := 101) hx hb dX1_offerRow_94 (by decide) ?_
            refine lv_istore (lv' := [(7, .int (nI 0)), (6, .int (nI (q + 1))), (0, .ref (ad 0)), (1, .int (nI i)), (2, .int (nI x)), (3, .int (nI w)), (4, .int (nI many)), (5, .ref (ad (6 + 4 * i))), (8, .int (nI (wtR w k))), (9, .int (nI k))]) hx hb dX1_offerRow_101 hl (by decide) rfl (fun ls hl => ?_)
            refine lv_iload hx hb dX1_offerRow_103 (lv_at hl 8 rfl) ?_
            refine lv_bipush (v := nI 9) hx hb dX1_offerRow_105 rfl ?_
            refine n_icmp_ne (tgt := 114) hx hb (by omega) (by omega) dX1_offerRow_107 (by decide) (fun h107 => ?_) (fun h107 => ?_)
            · refine lv_iload hx hb dX1_offerRow_114 (lv_at hl 8 rfl) ?_
              refine lv_iconst (v := nI 1) hx hb dX1_offerRow_116 rfl ?_
              refine n_iadd hx hb dX1_offerRow_117 ?_
              refine lv_istore (lv' := [(8, .int (nI (wtR w k + 1))), (7, .int (nI 0)), (6, .int (nI (q + 1))), (0, .ref (ad 0)), (1, .int (nI i)), (2, .int (nI x)), (3, .int (nI w)), (4, .int (nI many)), (5, .ref (ad (6 + 4 * i))), (9, .int (nI k))]) hx hb dX1_offerRow_118 hl (by decide) rfl (fun ls hl => ?_)
              refine lv_iinc (v := nI (k + 1)) (lv' := [(9, .int (nI (k + 1))), (8, .int (nI (wtR w k + 1))), (7, .int (nI 0)), (6, .int (nI (q + 1))), (0, .ref (ad 0)), (1, .int (nI i)), (2, .int (nI x)), (3, .int (nI w)), (4, .int (nI many)), (5, .ref (ad (6 + 4 * i)))]) hx hb dX1_offerRow_120 hl (k := 9) rfl (nI_add k 1) (by decide) rfl (fun ls hl => ?_)
              refine lv_goto (tgt := 62) hx hb dX1_offerRow_123 (by decide) ?_
              exact ih62 (k + 1) (q + 1) 0 (wtR w k + 1) (by omega) (by rw [hq]; show _ = rwC R Y w (L, S, D9, K) k + (if rwP R Y w k (L, S, D9, K) = none then 0 else 1); rw [if_neg (fun h => h79 (by rw [show (pk _ _ _ _ _ _ _).1 = none from h]; rfl))]) (by omega) (by simp only [wtR] at h107 ⊢; omega) (by omega) _ _ _ hP hS (lv_sub hl [4, 5, 6, 7, 8, 9, 3, 2, 1, 0] rfl)
            · refine lv_iconst (v := nI 1) hx hb dX1_offerRow_110 rfl ?_
              refine lv_goto (tgt := 118) hx hb dX1_offerRow_111 (by decide) ?_
              refine lv_istore (lv' := [(8, .int (nI 1)), (7, .int (nI 0)), (6, .int (nI (q + 1))), (0, .ref (ad 0)), (1, .int (nI i)), (2, .int (nI x)), (3, .int (nI w)), (4, .int (nI many)), (5, .ref (ad (6 + 4 * i))), (9, .int (nI k))]) hx hb dX1_offerRow_118 hl (by decide) rfl (fun ls hl => ?_)
              refine lv_iinc (v := nI (k + 1)) (lv' := [(9, .int (nI (k + 1))), (8, .int (nI 1)), (7, .int (nI 0)), (6, .int (nI (q + 1))), (0, .ref (ad 0)), (1, .int (nI i)), (2, .int (nI x)), (3, .int (nI w)), (4, .int (nI many)), (5, .ref (ad (6 + 4 * i)))]) hx hb dX1_offerRow_120 hl (k := 9) rfl (nI_add k 1) (by decide) rfl (fun ls hl => ?_)
              refine lv_goto (tgt := 62) hx hb dX1_offerRow_123 (by decide) ?_
              exact ih62 (k + 1) (q + 1) 0 1 (by omega) (by rw [hq]; show _ = rwC R Y w (L, S, D9, K) k + (if rwP R Y w k (L, S, D9, K) = none then 0 else 1); rw [if_neg (fun h => h79 (by rw [show (pk _ _ _ _ _ _ _).1 = none from h]; rfl))]) (by omega) (by simp only [wtR] at h107 ⊢; omega) (by omega) _ _ _ hP hS (lv_sub hl [4, 5, 6, 7, 8, 9, 3, 2, 1, 0] rfl)
  exact loop62 (_ + 1) 0 0 x w (Nat.zero_le _) (rfl) (by omega) (by unfold wtR; omega) (Nat.lt_succ_self _) _ _ _ hP hS (lv_sub hl [5, 6, 7, 8, 9, 4, 3, 2, 1, 0] rfl)
set_option maxHeartbeats 1000000 in
set_option maxRecDepth 10000 in
theorem m_X1_join (l : Launch) (D : va_G) (cA : Nat → ClassId) (N : Nat) (ad : Nat → Nat) (c : Nat → va_E) (n i R Y L S D9 K : Nat) (st : Nat → Nat → Int32) (j Ro Yo Lo So Do Ko : Nat) (sto : Nat → Nat → Int32)  (hN : 6 + 4 * n ≤ N) (hF : FH ad cA c n) (ht : TrAt ad cA c) (hi : i < n) (hH : HandAt ad cA c (6 + 4 * i) R Y L S D9 K st) (hok : Hok R Y L S D9 K) (hj : j < n) (hO : HandAt ad cA c (6 + 4 * j) Ro Yo Lo So Do Ko sto) (hoo : Hok Ro Yo Lo So Do Ko) (hij : ad (6 + 4 * i) ≠ ad (6 + 4 * j)) (hijn : i ≠ j) (hal : Y = 0 ∧ Yo = 0 ∧ R = Ro) : Ci l yX1_join wX1_join { frames := 4, cells := 0, slots := 0, locals := 95 } [.ref (ad 0), .int (nI i), .int (nI j)] D cA N ad c 0 0 (fun v c' => ∃ stt c1, Tr ad cA c c1 ∧ v = nI (jn S So K Ko st sto R (0, 0, L, stB stt st K)).2.1 ∧ hw ad cA (hw ad cA c1 (6 + 4 * i) R Y ((jn S So K Ko st sto R (0, 0, L, stB stt st K)).2.2.1) (S + So) (D9 + Do) ((jn S So K Ko st sto R (0, 0, L, stB stt st K)).1 + (jn S So K Ko st sto R (0, 0, L, stB stt st K)).2.1) (stB st (jn S So K Ko st sto R (0, 0, L, stB stt st K)).2.2.2 ((jn S So K Ko st sto R (0, 0, L, stB stt st K)).1 + (jn S So K Ko st sto R (0, 0, L, stB stt st K)).2.1))) (6 + 4 * j) Ro Yo Lo 0 0 0 sto = c') := by
  intro sz9
  refine bd_of (cc := cX1_join) (maxL := 6) (ret := some Jvm.ClassFile.FieldType.int) (by decide) rfl (Nat.le_of_ble_eq_true rfl) ?_
  intro p e s m below meth c0 C0 hr hlk hnm hP hS hsz ls hl
  subst hsz
  have hx := C0.1
  have hb := C0.2.1
  have hl : lv_has ls 6 [(0, .ref (ad 0)), (1, .int (nI i)), (2, .int (nI j))] := hl
  obtain ⟨q1, q2, q3, q4, q5, q6, q7, q8, q9⟩ := id hok
  obtain ⟨o1, o2, o3, o4, o5, o6, o7, o8, o9⟩ := id hoo
  have hn5 := hF.2.2
  refine lv_aload_n hx hb dX1_join_0 rfl (lv_at hl 0 rfl) ?_
  refine lv_iload_n hx hb dX1_join_1 rfl (lv_at hl 1 rfl) ?_
  refine k0_r (rn_X1_42 (As := [.int (nI i)]) (rest := []) (r := 0) C0 (m_X1_handAt l D cA N ad (c) n i (by omega) hF (by omega) (by omega) _) hP hS (by omega) hF.1 rfl ⟨rfl, rfl⟩ ⟨by decide, by decide⟩ hl.1 rfl (Nat.le_of_ble_eq_true rfl) dX1_join_2 ⟨Nat.le_of_ble_eq_true rfl, Nat.le_of_ble_eq_true rfl⟩) C0 hP hS (fun H locs hP hS => ?_)
  refine lv_astore_n (lv' := [(3, .ref (ad (6 + 4 * i))), (0, .ref (ad 0)), (1, .int (nI i)), (2, .int (nI j))]) hx hb dX1_join_5 rfl hl (by decide) rfl (fun ls hl => ?_)
  refine lv_aload_n hx hb dX1_join_6 rfl (lv_at hl 1 rfl) ?_
  refine lv_iload_n hx hb dX1_join_7 rfl (lv_at hl 3 rfl) ?_
  refine k0_r (rn_X1_42 (As := [.int (nI j)]) (rest := []) (r := 0) C0 (m_X1_handAt l D cA N ad (c) n j (by omega) hF (by omega) (by omega) _) hP hS (by omega) hF.1 rfl ⟨rfl, rfl⟩ ⟨by decide, by decide⟩ hl.1 rfl (Nat.le_of_ble_eq_true rfl) dX1_join_8 ⟨Nat.le_of_ble_eq_true rfl, Nat.le_of_ble_eq_true rfl⟩) C0 hP hS (fun H locs hP hS => ?_)
  refine lv_astore (lv' := [(4, .ref (ad (6 + 4 * j))), (3, .ref (ad (6 + 4 * i))), (0, .ref (ad 0)), (1, .int (nI i)), (2, .int (nI j))]) hx hb dX1_join_11 hl (by decide) rfl (fun ls hl => ?_)
  refine lv_aload_n hx hb dX1_join_13 rfl (lv_at hl 1 rfl) ?_
  refine lv_aload hx hb dX1_join_14 (lv_at hl 0 rfl) ?_
  refine lv_acmp_ne (rx := (some (ad (6 + 4 * i)))) (ry := (some (ad (6 + 4 * j)))) (tgt := 29) hx hb dX1_join_16 (by decide) (fun h16 => ?_) (fun h16 => ?_)
  rotate_left
  · exact absurd (Option.some.inj h16) hij
  refine lv_aload_n hx hb dX1_join_29 rfl (lv_at hl 1 rfl) ?_
  refine lv_aload hx hb dX1_join_30 (lv_at hl 0 rfl) ?_
  refine k0_i (rn_X1_59 (As := [.ref (ad (6 + 4 * i)), .ref (ad (6 + 4 * j))]) (rest := []) C0 (m_X1_areAlike l D cA N ad (c) (6 + 4 * i) R Y L S D9 K st (6 + 4 * j) Ro Yo Lo So Do Ko sto (by omega) (by omega) hH hok (by omega) (by omega) hO hoo _) hP hS rfl ⟨rfl, rfl⟩ ⟨by decide, by decide⟩ hl.1 rfl (Nat.le_of_ble_eq_true rfl) dX1_join_32 ⟨Nat.le_of_ble_eq_true rfl, Nat.le_of_ble_eq_true rfl⟩) C0 hP hS (fun v32 c32 H locs hp hP hS => ?_)
  obtain ⟨rfl, rfl⟩ := hp
  refine lv_if_ne (tgt := 48) hx hb dX1_join_35 (by decide) (fun h35 => ?_) (fun h35 => ?_)
  rotate_left
  · exact absurd (h35.symm.trans (if_pos hal)) (by decide)
  refine lv_aload_n hx hb dX1_join_48 rfl (lv_at hl 2 rfl) ?_
  refine lv_aload_n hx hb dX1_join_49 rfl (lv_at hl 1 rfl) ?_
  refine lv_aload hx hb dX1_join_50 (lv_at hl 0 rfl) ?_
  refine k0_i (rn_X1_65 (As := [.ref (ad (6 + 4 * i)), .ref (ad (6 + 4 * j))]) (rest := []) (r := 0) C0 (m_X1_tryJoin l D cA N ad (c) n (6 + 4 * i) R Y L S D9 K st (6 + 4 * j) Ro Yo Lo So Do Ko sto (by omega) hF ht (by omega) (by omega) hH hok (by omega) (by omega) hO hoo (by omega) (by omega) _) hP hS (by omega) hF.1 rfl ⟨rfl, rfl⟩ ⟨by decide, by decide⟩ hl.1 rfl (Nat.le_of_ble_eq_true rfl) dX1_join_52 ⟨Nat.le_of_ble_eq_true rfl, Nat.le_of_ble_eq_true rfl⟩) C0 hP hS (fun v52 c52 H locs hp hP hS => ?_)
  obtain ⟨stj, rfl, rfl⟩ := hp
  refine lv_istore (lv' := [(5, .int (nI ((jn S So K Ko st sto R (0, 0, L, stB stj st K)).2.1))), (4, .ref (ad (6 + 4 * j))), (3, .ref (ad (6 + 4 * i))), (0, .ref (ad 0)), (1, .int (nI i)), (2, .int (nI j))]) hx hb dX1_join_55 hl (by decide) rfl (fun ls hl => ?_)
  have hJle : (jn S So K Ko st sto R (0, 0, L, stB stj st K)).1 + (jn S So K Ko st sto R (0, 0, L, stB stj st K)).2.1 ≤ 8 := Nat.le_trans (jn_le _ _ (by show 0 + 0 + R ≤ 8; omega)) (Nat.le_refl 8)
  have hTr : Tr ad cA c (hw ad cA c 2 R Y ((jn S So K Ko st sto R (0, 0, L, stB stj st K)).2.2.1) (S + So) (D9 + Do) ((jn S So K Ko st sto R (0, 0, L, stB stj st K)).1 + (jn S So K Ko st sto R (0, 0, L, stB stj st K)).2.1) ((jn S So K Ko st sto R (0, 0, L, stB stj st K)).2.2.2)) := ⟨_, _, _, _, _, _, _, rfl⟩
  refine lv_aload_n hx hb dX1_join_57 rfl (lv_at hl 2 rfl) ?_
  refine lv_aload_n hx hb dX1_join_58 rfl (lv_at hl 3 rfl) ?_
  refine gf_X1_18 C0 hP (by omega) (hF.hwo (by omega)).1 rfl dX1_join_59 ?_
  refine k0_v (rn_X1_69 (As := [.ref (ad 2)]) (rest := []) (r := 6 + 4 * i) C0 (m_X0_become l D cA N ad (hw ad cA c 2 R Y ((jn S So K Ko st sto R (0, 0, L, stB stj st K)).2.2.1) (S + So) (D9 + Do) ((jn S So K Ko st sto R (0, 0, L, stB stj st K)).1 + (jn S So K Ko st sto R (0, 0, L, stB stj st K)).2.1) ((jn S So K Ko st sto R (0, 0, L, stB stj st K)).2.2.2)) (6 + 4 * i) R Y L S D9 K st 2 R Y ((jn S So K Ko st sto R (0, 0, L, stB stj st K)).2.2.1) (S + So) (D9 + Do) ((jn S So K Ko st sto R (0, 0, L, stB stj st K)).1 + (jn S So K Ko st sto R (0, 0, L, stB stj st K)).2.1) ((jn S So K Ko st sto R (0, 0, L, stB stj st K)).2.2.2) (by omega) (hH.hwo (by omega)) (by omega) hw_at (by omega) (by omega) _) hP hS (by omega) (hH.hwo (by omega)).1 rfl ⟨rfl, rfl⟩ ⟨by decide, by decide⟩ hl.1 rfl (Nat.le_of_ble_eq_true rfl) dX1_join_62 ⟨Nat.le_of_ble_eq_true rfl, Nat.le_of_ble_eq_true rfl⟩) C0 hP hS (fun c62 H locs hp hP hS => ?_)
  obtain rfl := hp
  refine lv_aload hx hb dX1_join_65 (lv_at hl 1 rfl) ?_
  refine k0_v (rn_X1_73 (As := []) (rest := []) (r := 6 + 4 * j) C0 (m_X0_forget l D cA N ad (hw ad cA (hw ad cA c 2 R Y ((jn S So K Ko st sto R (0, 0, L, stB stj st K)).2.2.1) (S + So) (D9 + Do) ((jn S So K Ko st sto R (0, 0, L, stB stj st K)).1 + (jn S So K Ko st sto R (0, 0, L, stB stj st K)).2.1) ((jn S So K Ko st sto R (0, 0, L, stB stj st K)).2.2.2)) (6 + 4 * i) R Y ((jn S So K Ko st sto R (0, 0, L, stB stj st K)).2.2.1) (S + So) (D9 + Do) ((jn S So K Ko st sto R (0, 0, L, stB stj st K)).1 + (jn S So K Ko st sto R (0, 0, L, stB stj st K)).2.1) ((stB st ((jn S So K Ko st sto R (0, 0, L, stB stj st K)).2.2.2) ((jn S So K Ko st sto R (0, 0, L, stB stj st K)).1 + (jn S So K Ko st sto R (0, 0, L, stB stj st K)).2.1)))) (6 + 4 * j) Ro Yo Lo So Do Ko sto (by omega) ((hO.hwo (by omega)).hwo (by omega)) _) hP hS (by omega) ((hO.hwo (by omega)).hwo (by omega)).1 rfl ⟨rfl, rfl⟩ ⟨by decide, by decide⟩ hl.1 rfl (Nat.le_of_ble_eq_true rfl) dX1_join_67 ⟨Nat.le_of_ble_eq_true rfl, Nat.le_of_ble_eq_true rfl⟩) C0 hP hS (fun c67 H locs hp hP hS => ?_)
  obtain rfl := hp
  refine lv_iload hx hb dX1_join_70 (lv_at hl 0 rfl) ?_
  exact e_i C0 hr hlk hP hS dX1_join_72 (by decide) (by decide) ⟨stj, _, hTr, rfl, rfl⟩
set_option maxHeartbeats 1000000 in
set_option maxRecDepth 10000 in
theorem m_X1_digested (l : Launch) (D : va_G) (cA : Nat → ClassId) (N : Nat) (ad : Nat → Nat) (c : Nat → va_E) (d9 : Int64) (x : Int32)  : Cl l yX1_digested wX1_digested { frames := 0, cells := 0, slots := 0, locals := 0 } [.long d9, .int x] D cA N ad c 0 0 (fun v c' => v = dg d9 x ∧ c = c') := by
  intro sz9
  refine bd_of (cc := cX1_digested) (maxL := 3) (ret := some Jvm.ClassFile.FieldType.long) (by decide) rfl (Nat.le_of_ble_eq_true rfl) ?_
  intro p e s m below meth c0 C0 hr hlk hnm hP hS hsz ls hl
  subst hsz
  have hx := C0.1
  have hb := C0.2.1
  have hl : lv_has ls 3 [(0, .long d9), (2, .int x)] := hl
  refine lv_lload_n hx hb dX1_digested_0 rfl (lv_at hl 0 rfl) ?_
  refine lv_ldc2 (v := 31) hx hb C0.2.2.2.1 (wd_cl_X1_177 C0.2.2.2.2.1 _) dX1_digested_1 ?_
  refine lv_lmul hx hb dX1_digested_4 ?_
  refine lv_iload_n hx hb dX1_digested_5 rfl (lv_at hl 1 rfl) ?_
  refine lv_i2l (v := (x).toInt64) hx hb dX1_digested_6 rfl ?_
  refine lv_ladd hx hb dX1_digested_7 ?_
  exact e_l C0 hr hlk hP hS dX1_digested_8 (by decide) (by decide) ⟨rfl, rfl⟩
set_option maxHeartbeats 1000000 in
set_option maxRecDepth 10000 in
theorem m_X1_digestedCounts (l : Launch) (D : va_G) (cA : Nat → ClassId) (N : Nat) (ad : Nat → Nat) (c : Nat → va_E) (b R Y L S D9 K : Nat) (st : Nat → Nat → Int32) (d9 : Int64) (hb12 : 6 ≤ b) (hbN : b + 4 ≤ N) (hH : HandAt ad cA c b R Y L S D9 K st) (hok : Hok R Y L S D9 K) : Cl l yX1_digestedCounts wX1_digestedCounts { frames := 5, cells := 0, slots := 0, locals := 112 } [.long d9, .ref (ad b)] D cA N ad c 0 0 (fun v c' => CntsP (st 0) R S D9 L K d9 v ∧ c = c') := by
  intro sz9
  refine bd_of (cc := cX1_digestedCounts) (maxL := 5) (ret := some Jvm.ClassFile.FieldType.long) (by decide) rfl (Nat.le_of_ble_eq_true rfl) ?_
  intro p e s m below meth c0 C0 hr hlk hnm hP hS hsz ls hl
  subst hsz
  have hx := C0.1
  have hb := C0.2.1
  have hl : lv_has ls 5 [(0, .long d9), (2, .ref (ad b))] := hl
  obtain ⟨q1, q2, q3, q4, q5, q6, q7, q8, q9⟩ := id hok
  refine lv_lload_n hx hb dX1_digestedCounts_0 rfl (lv_at hl 0 rfl) ?_
  refine lv_aload_n hx hb dX1_digestedCounts_1 rfl (lv_at hl 1 rfl) ?_
  refine gh_X1_81 C0 hP hH (by omega) dX1_digestedCounts_2 ?_
  refine k0_l (rn_X1_160 (As := [.long d9, .int (nI K)]) (rest := []) C0 (m_X1_digested l D cA N ad (c) (d9) (nI K) _) hP hS rfl ⟨rfl, rfl⟩ ⟨by decide, by decide⟩ hl.1 rfl (Nat.le_of_ble_eq_true rfl) dX1_digestedCounts_5 ⟨Nat.le_of_ble_eq_true rfl, Nat.le_of_ble_eq_true rfl⟩) C0 hP hS (fun v5 c5 H locs hp hP hS => ?_)
  obtain ⟨rfl, rfl⟩ := hp
  refine lv_lstore_n (lv' := [(3, .long (dg (d9) (nI K))), (0, .long d9), (2, .ref (ad b))]) hx hb dX1_digestedCounts_8 rfl hl (by decide) rfl (fun ls hl => ?_)
  refine lv_lload_n hx hb dX1_digestedCounts_9 rfl (lv_at hl 0 rfl) ?_
  refine lv_aload_n hx hb dX1_digestedCounts_10 rfl (lv_at hl 2 rfl) ?_
  refine gh_X1_84 C0 hP hH (by omega) dX1_digestedCounts_11 ?_
  refine k0_l (rn_X1_160 (As := [.long (dg (d9) (nI K)), .int (nI R)]) (rest := []) C0 (m_X1_digested l D cA N ad (c) (dg (d9) (nI K)) (nI R) _) hP hS rfl ⟨rfl, rfl⟩ ⟨by decide, by decide⟩ hl.1 rfl (Nat.le_of_ble_eq_true rfl) dX1_digestedCounts_14 ⟨Nat.le_of_ble_eq_true rfl, Nat.le_of_ble_eq_true rfl⟩) C0 hP hS (fun v14 c14 H locs hp hP hS => ?_)
  obtain ⟨rfl, rfl⟩ := hp
  refine lv_lstore_n (lv' := [(3, .long (dg (dg (d9) (nI K)) (nI R))), (0, .long d9), (2, .ref (ad b))]) hx hb dX1_digestedCounts_17 rfl hl (by decide) rfl (fun ls hl => ?_)
  refine lv_lload_n hx hb dX1_digestedCounts_18 rfl (lv_at hl 0 rfl) ?_
  refine lv_aload_n hx hb dX1_digestedCounts_19 rfl (lv_at hl 2 rfl) ?_
  refine gh_X1_87 C0 hP hH (by omega) dX1_digestedCounts_20 ?_
  refine k0_l (rn_X1_160 (As := [.long (dg (dg (d9) (nI K)) (nI R)), .int (nI S)]) (rest := []) C0 (m_X1_digested l D cA N ad (c) (dg (dg (d9) (nI K)) (nI R)) (nI S) _) hP hS rfl ⟨rfl, rfl⟩ ⟨by decide, by decide⟩ hl.1 rfl (Nat.le_of_ble_eq_true rfl) dX1_digestedCounts_23 ⟨Nat.le_of_ble_eq_true rfl, Nat.le_of_ble_eq_true rfl⟩) C0 hP hS (fun v23 c23 H locs hp hP hS => ?_)
  obtain ⟨rfl, rfl⟩ := hp
  refine lv_lstore_n (lv' := [(3, .long (dg (dg (dg (d9) (nI K)) (nI R)) (nI S))), (0, .long d9), (2, .ref (ad b))]) hx hb dX1_digestedCounts_26 rfl hl (by decide) rfl (fun ls hl => ?_)
  refine lv_lload_n hx hb dX1_digestedCounts_27 rfl (lv_at hl 0 rfl) ?_
  refine lv_aload_n hx hb dX1_digestedCounts_28 rfl (lv_at hl 2 rfl) ?_
  refine gh_X1_90 C0 hP hH (by omega) dX1_digestedCounts_29 ?_
  refine k0_l (rn_X1_160 (As := [.long (dg (dg (dg (d9) (nI K)) (nI R)) (nI S)), .int (nI D9)]) (rest := []) C0 (m_X1_digested l D cA N ad (c) (dg (dg (dg (d9) (nI K)) (nI R)) (nI S)) (nI D9) _) hP hS rfl ⟨rfl, rfl⟩ ⟨by decide, by decide⟩ hl.1 rfl (Nat.le_of_ble_eq_true rfl) dX1_digestedCounts_32 ⟨Nat.le_of_ble_eq_true rfl, Nat.le_of_ble_eq_true rfl⟩) C0 hP hS (fun v32 c32 H locs hp hP hS => ?_)
  obtain ⟨rfl, rfl⟩ := hp
  refine lv_lstore_n (lv' := [(3, .long (dg (dg (dg (dg (d9) (nI K)) (nI R)) (nI S)) (nI D9))), (0, .long d9), (2, .ref (ad b))]) hx hb dX1_digestedCounts_35 rfl hl (by decide) rfl (fun ls hl => ?_)
  refine lv_lload_n hx hb dX1_digestedCounts_36 rfl (lv_at hl 0 rfl) ?_
  refine lv_aload_n hx hb dX1_digestedCounts_37 rfl (lv_at hl 2 rfl) ?_
  refine gh_X1_78 C0 hP hH (by omega) dX1_digestedCounts_38 ?_
  refine k0_l (rn_X1_160 (As := [.long (dg (dg (dg (dg (d9) (nI K)) (nI R)) (nI S)) (nI D9)), .int (nI L)]) (rest := []) C0 (m_X1_digested l D cA N ad (c) (dg (dg (dg (dg (d9) (nI K)) (nI R)) (nI S)) (nI D9)) (nI L) _) hP hS rfl ⟨rfl, rfl⟩ ⟨by decide, by decide⟩ hl.1 rfl (Nat.le_of_ble_eq_true rfl) dX1_digestedCounts_41 ⟨Nat.le_of_ble_eq_true rfl, Nat.le_of_ble_eq_true rfl⟩) C0 hP hS (fun v41 c41 H locs hp hP hS => ?_)
  obtain ⟨rfl, rfl⟩ := hp
  refine lv_lstore_n (lv' := [(3, .long (dg (dg (dg (dg (dg (d9) (nI K)) (nI R)) (nI S)) (nI D9)) (nI L))), (0, .long d9), (2, .ref (ad b))]) hx hb dX1_digestedCounts_44 rfl hl (by decide) rfl (fun ls hl => ?_)
  refine lv_lload_n hx hb dX1_digestedCounts_45 rfl (lv_at hl 0 rfl) ?_
  refine lv_aload_n hx hb dX1_digestedCounts_46 rfl (lv_at hl 2 rfl) ?_
  refine k0_i (rn_X1_111 (As := []) (rest := [.long (dg (dg (dg (dg (dg (d9) (nI K)) (nI R)) (nI S)) (nI D9)) (nI L))]) (r := b) C0 (m_X0_total l D cA N ad (c) b R Y L S D9 K st (by omega) hH (by omega) _) hP hS (by omega) hH.1 rfl ⟨rfl, rfl⟩ ⟨by decide, by decide⟩ hl.1 rfl (Nat.le_of_ble_eq_true rfl) dX1_digestedCounts_47 ⟨Nat.le_of_ble_eq_true rfl, Nat.le_of_ble_eq_true rfl⟩) C0 hP hS (fun v47 c47 H locs hp hP hS => ?_)
  obtain ⟨rfl, rfl⟩ := hp
  refine k0_l (rn_X1_160 (As := [.long (dg (dg (dg (dg (dg (d9) (nI K)) (nI R)) (nI S)) (nI D9)) (nI L)), .int (tot (st 0) K)]) (rest := []) C0 (m_X1_digested l D cA N ad (c) (dg (dg (dg (dg (dg (d9) (nI K)) (nI R)) (nI S)) (nI D9)) (nI L)) (tot (st 0) K) _) hP hS rfl ⟨rfl, rfl⟩ ⟨by decide, by decide⟩ hl.1 rfl (Nat.le_of_ble_eq_true rfl) dX1_digestedCounts_50 ⟨Nat.le_of_ble_eq_true rfl, Nat.le_of_ble_eq_true rfl⟩) C0 hP hS (fun v50 c50 H locs hp hP hS => ?_)
  obtain ⟨rfl, rfl⟩ := hp
  refine lv_lstore_n (lv' := [(3, .long (dg (dg (dg (dg (dg (dg (d9) (nI K)) (nI R)) (nI S)) (nI D9)) (nI L)) (tot (st 0) K))), (0, .long d9), (2, .ref (ad b))]) hx hb dX1_digestedCounts_53 rfl hl (by decide) rfl (fun ls hl => ?_)
  refine lv_lload_n hx hb dX1_digestedCounts_54 rfl (lv_at hl 0 rfl) ?_
  refine lv_aload_n hx hb dX1_digestedCounts_55 rfl (lv_at hl 2 rfl) ?_
  refine lv_iconst (v := nI 0) hx hb dX1_digestedCounts_56 rfl ?_
  refine k0_i (rn_X1_114 (As := [.int (nI 0)]) (rest := [.long (dg (dg (dg (dg (dg (dg (d9) (nI K)) (nI R)) (nI S)) (nI D9)) (nI L)) (tot (st 0) K))]) (r := b) C0 (m_X0_placeRanked l D cA N ad (c) b R Y L S D9 K st 0 (by omega) hH (by omega) (by omega) _) hP hS (by omega) hH.1 rfl ⟨rfl, rfl⟩ ⟨by decide, by decide⟩ hl.1 rfl (Nat.le_of_ble_eq_true rfl) dX1_digestedCounts_57 ⟨Nat.le_of_ble_eq_true rfl, Nat.le_of_ble_eq_true rfl⟩) C0 hP hS (fun v57 c57 H locs hp hP hS => ?_)
  obtain ⟨hlo, rfl⟩ := hp
  refine k0_l (rn_X1_160 (As := [.long (dg (dg (dg (dg (dg (dg (d9) (nI K)) (nI R)) (nI S)) (nI D9)) (nI L)) (tot (st 0) K)), .int v57]) (rest := []) C0 (m_X1_digested l D cA N ad (c) (dg (dg (dg (dg (dg (dg (d9) (nI K)) (nI R)) (nI S)) (nI D9)) (nI L)) (tot (st 0) K)) (v57) _) hP hS rfl ⟨rfl, rfl⟩ ⟨by decide, by decide⟩ hl.1 rfl (Nat.le_of_ble_eq_true rfl) dX1_digestedCounts_60 ⟨Nat.le_of_ble_eq_true rfl, Nat.le_of_ble_eq_true rfl⟩) C0 hP hS (fun v60 c60 H locs hp hP hS => ?_)
  obtain ⟨rfl, rfl⟩ := hp
  refine lv_lstore_n (lv' := [(3, .long (dg (dg (dg (dg (dg (dg (dg (d9) (nI K)) (nI R)) (nI S)) (nI D9)) (nI L)) (tot (st 0) K)) (v57))), (0, .long d9), (2, .ref (ad b))]) hx hb dX1_digestedCounts_63 rfl hl (by decide) rfl (fun ls hl => ?_)
  refine lv_lload_n hx hb dX1_digestedCounts_64 rfl (lv_at hl 0 rfl) ?_
  refine lv_aload_n hx hb dX1_digestedCounts_65 rfl (lv_at hl 2 rfl) ?_
  refine k0_i (rn_X1_121 (As := []) (rest := [.long (dg (dg (dg (dg (dg (dg (dg (d9) (nI K)) (nI R)) (nI S)) (nI D9)) (nI L)) (tot (st 0) K)) (v57))]) (r := b) C0 (m_X0_middleValue l D cA N ad (c) b R Y L S D9 K st (by omega) hH (by omega) _) hP hS (by omega) hH.1 rfl ⟨rfl, rfl⟩ ⟨by decide, by decide⟩ hl.1 rfl (Nat.le_of_ble_eq_true rfl) dX1_digestedCounts_66 ⟨Nat.le_of_ble_eq_true rfl, Nat.le_of_ble_eq_true rfl⟩) C0 hP hS (fun v66 c66 H locs hp hP hS => ?_)
  obtain ⟨hmi, rfl⟩ := hp
  refine k0_l (rn_X1_160 (As := [.long (dg (dg (dg (dg (dg (dg (dg (d9) (nI K)) (nI R)) (nI S)) (nI D9)) (nI L)) (tot (st 0) K)) (v57)), .int v66]) (rest := []) C0 (m_X1_digested l D cA N ad (c) (dg (dg (dg (dg (dg (dg (dg (d9) (nI K)) (nI R)) (nI S)) (nI D9)) (nI L)) (tot (st 0) K)) (v57)) (v66) _) hP hS rfl ⟨rfl, rfl⟩ ⟨by decide, by decide⟩ hl.1 rfl (Nat.le_of_ble_eq_true rfl) dX1_digestedCounts_69 ⟨Nat.le_of_ble_eq_true rfl, Nat.le_of_ble_eq_true rfl⟩) C0 hP hS (fun v69 c69 H locs hp hP hS => ?_)
  obtain ⟨rfl, rfl⟩ := hp
  exact e_l C0 hr hlk hP hS dX1_digestedCounts_72 (by decide) (by decide) ⟨⟨_, _, hlo, hmi, rfl⟩, rfl⟩
set_option maxHeartbeats 1000000 in
set_option maxRecDepth 10000 in
theorem m_X1_digestedForecasts (l : Launch) (D : va_G) (cA : Nat → ClassId) (N : Nat) (ad : Nat → Nat) (c : Nat → va_E) (n : Nat) (b R Y L S D9 K : Nat) (st : Nat → Nat → Int32) (d9 : Int64) (hN : 6 ≤ N) (hF : FH ad cA c n) (ht : TrAt ad cA c) (hb12 : 6 ≤ b) (hbN : b + 4 ≤ N) (hH : HandAt ad cA c b R Y L S D9 K st) (hok : Hok R Y L S D9 K) : Cl l yX1_digestedForecasts wX1_digestedForecasts { frames := 5, cells := 0, slots := 0, locals := 111 } [.ref (ad 0), .long d9, .ref (ad b)] D cA N ad c 0 0 (fun v c' => ForeP R Y L S D9 K st d9 v ∧ Tr ad cA c c') := by
  intro sz9
  refine bd_of (cc := cX1_digestedForecasts) (maxL := 6) (ret := some Jvm.ClassFile.FieldType.long) (by decide) rfl (Nat.le_of_ble_eq_true rfl) ?_
  intro p e s m below meth c0 C0 hr hlk hnm hP hS hsz ls hl
  subst hsz
  have hx := C0.1
  have hb := C0.2.1
  have hl : lv_has ls 6 [(0, .ref (ad 0)), (1, .long d9), (3, .ref (ad b))] := hl
  obtain ⟨q1, q2, q3, q4, q5, q6, q7, q8, q9⟩ := id hok
  have hT0 := ht.rf
  refine lv_lload_n hx hb dX1_digestedForecasts_0 rfl (lv_at hl 1 rfl) ?_
  refine lv_aload_n hx hb dX1_digestedForecasts_1 rfl (lv_at hl 0 rfl) ?_
  refine lv_aload_n hx hb dX1_digestedForecasts_2 rfl (lv_at hl 2 rfl) ?_
  refine lv_bipush (v := nI 7) hx hb dX1_digestedForecasts_3 rfl ?_
  refine k0_i (rn_X1_129 (As := [.ref (ad b), .int (nI 7)]) (rest := [.long d9]) (r := 0) C0 (m_X1_luckBehind l D cA N ad (c) n b R Y L S D9 K st 7 (by omega) (hF.tr hT0) hT0.at (by omega) (by omega) (hH.tr (by omega) hT0) hok (by omega) _) hP hS (by omega) hF.1 rfl ⟨rfl, rfl⟩ ⟨by decide, by decide⟩ hl.1 rfl (Nat.le_of_ble_eq_true rfl) dX1_digestedForecasts_5 ⟨Nat.le_of_ble_eq_true rfl, Nat.le_of_ble_eq_true rfl⟩) C0 hP hS (fun v5 c5 H locs hp hP hS => ?_)
  obtain ⟨rfl, ht5⟩ := hp
  refine k0_l (rn_X1_160 (As := [.long d9, .int (nI (nlI 7 L))]) (rest := []) C0 (m_X1_digested l D cA N ad (c5) (d9) (nI (nlI 7 L)) _) hP hS rfl ⟨rfl, rfl⟩ ⟨by decide, by decide⟩ hl.1 rfl (Nat.le_of_ble_eq_true rfl) dX1_digestedForecasts_8 ⟨Nat.le_of_ble_eq_true rfl, Nat.le_of_ble_eq_true rfl⟩) C0 hP hS (fun v8 c8 H locs hp hP hS => ?_)
  obtain ⟨rfl, rfl⟩ := hp
  refine lv_lstore (lv' := [(4, .long (dg (d9) (nI (nlI 7 L)))), (0, .ref (ad 0)), (1, .long d9), (3, .ref (ad b))]) hx hb dX1_digestedForecasts_11 hl (by decide) rfl (fun ls hl => ?_)
  refine lv_lload hx hb dX1_digestedForecasts_13 (lv_at hl 0 rfl) ?_
  refine lv_aload_n hx hb dX1_digestedForecasts_15 rfl (lv_at hl 1 rfl) ?_
  refine lv_aload_n hx hb dX1_digestedForecasts_16 rfl (lv_at hl 3 rfl) ?_
  refine lv_iconst (v := nI 1) hx hb dX1_digestedForecasts_17 rfl ?_
  refine k0_i (rn_X1_140 (As := [.ref (ad b), .int (nI 1)]) (rest := [.long (dg (d9) (nI (nlI 7 L)))]) (r := 0) C0 (m_X1_placeForWeight l D cA N ad (c5) n b R Y L S D9 K st 1 (by omega) (hF.tr (hT0.trans ht5)) (hT0.trans ht5).at (by omega) (by omega) (hH.tr (by omega) (hT0.trans ht5)) hok (by omega) (by omega) _) hP hS (by omega) (hF.tr (hT0.trans ht5)).1 rfl ⟨rfl, rfl⟩ ⟨by decide, by decide⟩ hl.1 rfl (Nat.le_of_ble_eq_true rfl) dX1_digestedForecasts_18 ⟨Nat.le_of_ble_eq_true rfl, Nat.le_of_ble_eq_true rfl⟩) C0 hP hS (fun v18 c18 H locs hp hP hS => ?_)
  obtain ⟨rfl, ht18⟩ := hp
  refine k0_l (rn_X1_160 (As := [.long (dg (d9) (nI (nlI 7 L))), .int (oI (pk R Y L (S + 1) (D9 + 1) K 1).1)]) (rest := []) C0 (m_X1_digested l D cA N ad (c18) (dg (d9) (nI (nlI 7 L))) (oI (pk R Y L (S + 1) (D9 + 1) K 1).1) _) hP hS rfl ⟨rfl, rfl⟩ ⟨by decide, by decide⟩ hl.1 rfl (Nat.le_of_ble_eq_true rfl) dX1_digestedForecasts_21 ⟨Nat.le_of_ble_eq_true rfl, Nat.le_of_ble_eq_true rfl⟩) C0 hP hS (fun v21 c21 H locs hp hP hS => ?_)
  obtain ⟨rfl, rfl⟩ := hp
  refine lv_lstore (lv' := [(4, .long (dg (dg (d9) (nI (nlI 7 L))) (oI (pk R Y L (S + 1) (D9 + 1) K 1).1))), (0, .ref (ad 0)), (1, .long d9), (3, .ref (ad b))]) hx hb dX1_digestedForecasts_24 hl (by decide) rfl (fun ls hl => ?_)
  refine lv_lload hx hb dX1_digestedForecasts_26 (lv_at hl 0 rfl) ?_
  refine lv_aload_n hx hb dX1_digestedForecasts_28 rfl (lv_at hl 1 rfl) ?_
  refine lv_aload_n hx hb dX1_digestedForecasts_29 rfl (lv_at hl 3 rfl) ?_
  refine lv_bipush (v := nI 20) hx hb dX1_digestedForecasts_30 rfl ?_
  refine k0_i (rn_X1_145 (As := [.ref (ad b), .int (nI 20)]) (rest := [.long (dg (dg (d9) (nI (nlI 7 L))) (oI (pk R Y L (S + 1) (D9 + 1) K 1).1))]) (r := 0) C0 (m_X1_stayingAfter l D cA N ad (c18) n b R Y L S D9 K st 20 (by omega) (hF.tr ((hT0.trans ht5).trans ht18)) ((hT0.trans ht5).trans ht18).at (by omega) (by omega) (hH.tr (by omega) ((hT0.trans ht5).trans ht18)) hok (by omega) _) hP hS (by omega) (hF.tr ((hT0.trans ht5).trans ht18)).1 rfl ⟨rfl, rfl⟩ ⟨by decide, by decide⟩ hl.1 rfl (Nat.le_of_ble_eq_true rfl) dX1_digestedForecasts_32 ⟨Nat.le_of_ble_eq_true rfl, Nat.le_of_ble_eq_true rfl⟩) C0 hP hS (fun v32 c32 H locs hp hP hS => ?_)
  obtain ⟨hsy, ht32⟩ := hp
  refine k0_l (rn_X1_160 (As := [.long (dg (dg (d9) (nI (nlI 7 L))) (oI (pk R Y L (S + 1) (D9 + 1) K 1).1)), .int v32]) (rest := []) C0 (m_X1_digested l D cA N ad (c32) (dg (dg (d9) (nI (nlI 7 L))) (oI (pk R Y L (S + 1) (D9 + 1) K 1).1)) (v32) _) hP hS rfl ⟨rfl, rfl⟩ ⟨by decide, by decide⟩ hl.1 rfl (Nat.le_of_ble_eq_true rfl) dX1_digestedForecasts_35 ⟨Nat.le_of_ble_eq_true rfl, Nat.le_of_ble_eq_true rfl⟩) C0 hP hS (fun v35 c35 H locs hp hP hS => ?_)
  obtain ⟨rfl, rfl⟩ := hp
  refine lv_lstore (lv' := [(4, .long (dg (dg (dg (d9) (nI (nlI 7 L))) (oI (pk R Y L (S + 1) (D9 + 1) K 1).1)) (v32))), (0, .ref (ad 0)), (1, .long d9), (3, .ref (ad b))]) hx hb dX1_digestedForecasts_38 hl (by decide) rfl (fun ls hl => ?_)
  refine lv_lload hx hb dX1_digestedForecasts_40 (lv_at hl 0 rfl) ?_
  refine lv_aload_n hx hb dX1_digestedForecasts_42 rfl (lv_at hl 1 rfl) ?_
  refine lv_aload_n hx hb dX1_digestedForecasts_43 rfl (lv_at hl 3 rfl) ?_
  refine k0_i (rn_X1_148 (As := [.ref (ad b)]) (rest := [.long (dg (dg (dg (d9) (nI (nlI 7 L))) (oI (pk R Y L (S + 1) (D9 + 1) K 1).1)) (v32))]) (r := 0) C0 (m_X1_stonesUntilPlaced l D cA N ad (c32) n b R Y L S D9 K st  (by omega) (hF.tr (((hT0.trans ht5).trans ht18).trans ht32)) (((hT0.trans ht5).trans ht18).trans ht32).at (by omega) (by omega) (hH.tr (by omega) (((hT0.trans ht5).trans ht18).trans ht32)) hok  _) hP hS (by omega) (hF.tr (((hT0.trans ht5).trans ht18).trans ht32)).1 rfl ⟨rfl, rfl⟩ ⟨by decide, by decide⟩ hl.1 rfl (Nat.le_of_ble_eq_true rfl) dX1_digestedForecasts_44 ⟨Nat.le_of_ble_eq_true rfl, Nat.le_of_ble_eq_true rfl⟩) C0 hP hS (fun v44 c44 H locs hp hP hS => ?_)
  obtain ⟨hun, ht44⟩ := hp
  refine k0_l (rn_X1_160 (As := [.long (dg (dg (dg (d9) (nI (nlI 7 L))) (oI (pk R Y L (S + 1) (D9 + 1) K 1).1)) (v32)), .int v44]) (rest := []) C0 (m_X1_digested l D cA N ad (c44) (dg (dg (dg (d9) (nI (nlI 7 L))) (oI (pk R Y L (S + 1) (D9 + 1) K 1).1)) (v32)) (v44) _) hP hS rfl ⟨rfl, rfl⟩ ⟨by decide, by decide⟩ hl.1 rfl (Nat.le_of_ble_eq_true rfl) dX1_digestedForecasts_47 ⟨Nat.le_of_ble_eq_true rfl, Nat.le_of_ble_eq_true rfl⟩) C0 hP hS (fun v47 c47 H locs hp hP hS => ?_)
  obtain ⟨rfl, rfl⟩ := hp
  refine lv_lstore (lv' := [(4, .long (dg (dg (dg (dg (d9) (nI (nlI 7 L))) (oI (pk R Y L (S + 1) (D9 + 1) K 1).1)) (v32)) (v44))), (0, .ref (ad 0)), (1, .long d9), (3, .ref (ad b))]) hx hb dX1_digestedForecasts_50 hl (by decide) rfl (fun ls hl => ?_)
  refine lv_lload hx hb dX1_digestedForecasts_52 (lv_at hl 0 rfl) ?_
  refine lv_aload_n hx hb dX1_digestedForecasts_54 rfl (lv_at hl 1 rfl) ?_
  refine lv_aload_n hx hb dX1_digestedForecasts_55 rfl (lv_at hl 3 rfl) ?_
  refine k0_i (rn_X1_152 (As := [.ref (ad b)]) (rest := [.long (dg (dg (dg (dg (d9) (nI (nlI 7 L))) (oI (pk R Y L (S + 1) (D9 + 1) K 1).1)) (v32)) (v44))]) (r := 0) C0 (m_X1_leastWeightPlaced l D cA N ad (c44) n b R Y L S D9 K st  (by omega) (hF.tr ((((hT0.trans ht5).trans ht18).trans ht32).trans ht44)) ((((hT0.trans ht5).trans ht18).trans ht32).trans ht44).at (by omega) (by omega) (hH.tr (by omega) ((((hT0.trans ht5).trans ht18).trans ht32).trans ht44)) hok  _) hP hS (by omega) (hF.tr ((((hT0.trans ht5).trans ht18).trans ht32).trans ht44)).1 rfl ⟨rfl, rfl⟩ ⟨by decide, by decide⟩ hl.1 rfl (Nat.le_of_ble_eq_true rfl) dX1_digestedForecasts_56 ⟨Nat.le_of_ble_eq_true rfl, Nat.le_of_ble_eq_true rfl⟩) C0 hP hS (fun v56 c56 H locs hp hP hS => ?_)
  obtain ⟨hwe, ht56⟩ := hp
  refine k0_l (rn_X1_160 (As := [.long (dg (dg (dg (dg (d9) (nI (nlI 7 L))) (oI (pk R Y L (S + 1) (D9 + 1) K 1).1)) (v32)) (v44)), .int v56]) (rest := []) C0 (m_X1_digested l D cA N ad (c56) (dg (dg (dg (dg (d9) (nI (nlI 7 L))) (oI (pk R Y L (S + 1) (D9 + 1) K 1).1)) (v32)) (v44)) (v56) _) hP hS rfl ⟨rfl, rfl⟩ ⟨by decide, by decide⟩ hl.1 rfl (Nat.le_of_ble_eq_true rfl) dX1_digestedForecasts_59 ⟨Nat.le_of_ble_eq_true rfl, Nat.le_of_ble_eq_true rfl⟩) C0 hP hS (fun v59 c59 H locs hp hP hS => ?_)
  obtain ⟨rfl, rfl⟩ := hp
  exact e_l C0 hr hlk hP hS dX1_digestedForecasts_62 (by decide) (by decide) ⟨⟨_, _, _, hsy, hun, hwe, rfl⟩, (((((hT0.trans ht5).trans ht18).trans ht32).trans ht44).trans ht56)⟩
set_option maxHeartbeats 1000000 in
set_option maxRecDepth 10000 in
theorem m_X1_digestedStones (l : Launch) (D : va_G) (cA : Nat → ClassId) (N : Nat) (ad : Nat → Nat) (c : Nat → va_E) (b R Y L S D9 K : Nat) (st : Nat → Nat → Int32) (d9 : Int64) (hb12 : 6 ≤ b) (hbN : b + 4 ≤ N) (hH : HandAt ad cA c b R Y L S D9 K st) (hok : Hok R Y L S D9 K) : Cl l yX1_digestedStones wX1_digestedStones { frames := 3, cells := 0, slots := 0, locals := 69 } [.long d9, .ref (ad b)] D cA N ad c 0 0 (fun v c' => v = dgS st K K d9 ∧ c = c') := by
  intro sz9
  refine bd_of (cc := cX1_digestedStones) (maxL := 6) (ret := some Jvm.ClassFile.FieldType.long) (by decide) rfl (Nat.le_of_ble_eq_true rfl) ?_
  intro p e s m below meth c0 C0 hr hlk hnm hP hS hsz ls hl
  subst hsz
  have hx := C0.1
  have hb := C0.2.1
  have hl : lv_has ls 6 [(0, .long d9), (2, .ref (ad b))] := hl
  obtain ⟨q1, q2, q3, q4, q5, q6, q7, q8, q9⟩ := id hok
  refine lv_lload_n hx hb dX1_digestedStones_0 rfl (lv_at hl 0 rfl) ?_
  refine lv_lstore_n (lv' := [(3, .long d9), (0, .long d9), (2, .ref (ad b))]) hx hb dX1_digestedStones_1 rfl hl (by decide) rfl (fun ls hl => ?_)
  refine lv_iconst (v := nI 0) hx hb dX1_digestedStones_2 rfl ?_
  refine lv_istore (lv' := [(5, .int (nI 0)), (3, .long d9), (0, .long d9), (2, .ref (ad b))]) hx hb dX1_digestedStones_3 hl (by decide) rfl (fun ls hl => ?_)
  have loop5 : ∀ (n9 : Nat) (k : Nat), (k ≤ K) → K - k < n9 → ∀ (H : Heap) (locs : List Loc) (ls : Array Slot), va_P D vwCl (wl N ad (c)) H → va_S (wA N ad s.heap.size) s.heap H locs → lv_has ls 6 [(0, .long d9), (2, .ref (ad b)), (3, .long (dgS st K k d9)), (5, .int (nI k))] → W p l e { frames := 3, cells := 0, slots := 0, locals := 69 } s m [.long d9, .ref (ad b)].toArray below meth c0 H locs 0 0 (MQ below (va_Ql (fun v c' => v = dgS st K K d9 ∧ c = c') (fun c' t => va_P D vwCl (wl N ad c') t.heap) (wA N ad s.heap.size)) [.long d9, .ref (ad b)].toArray s 0 0 (wA N ad s.heap.size)) (F0 m 5 ls []) := by
    intro n9
    induction n9 with
    | zero => intro k hk hlt9; exact absurd hlt9 (Nat.not_lt_zero _)
    | succ n9 ih5 =>
      intro k hk hlt9 H locs ls hP hS hl
      refine lv_iload hx hb dX1_digestedStones_5 (lv_at hl 3 rfl) ?_
      refine lv_aload_n hx hb dX1_digestedStones_7 rfl (lv_at hl 1 rfl) ?_
      refine gh_X1_81 C0 hP hH (by omega) dX1_digestedStones_8 ?_
      refine n_icmp_ge (tgt := 73) hx hb (by omega) (by omega) dX1_digestedStones_11 (by decide) (fun h11 => ?_) (fun h11 => ?_)
      · obtain rfl : K = k := by omega
        refine lv_lload_n hx hb dX1_digestedStones_73 rfl (lv_at hl 2 rfl) ?_
        exact e_l C0 hr hlk hP hS dX1_digestedStones_74 (by decide) (by decide) ⟨rfl, rfl⟩
      · refine lv_lload_n hx hb dX1_digestedStones_14 rfl (lv_at hl 2 rfl) ?_
        refine lv_aload_n hx hb dX1_digestedStones_15 rfl (lv_at hl 1 rfl) ?_
        refine gh_X1_97 C0 hP hH (by omega) dX1_digestedStones_16 ?_
        refine lv_iload hx hb dX1_digestedStones_19 (lv_at hl 3 rfl) ?_
        refine k0_i (rn_X1_101 (As := [.ref (ad (b + 1)), .int (nI k)]) (rest := [.long (dgS st K k d9)]) C0 (m_X1_at l D cA N ad (c) (b + 1) 8 k ((st 0)) (by omega) (hH.2.1) (by omega) (by omega) _) hP hS rfl ⟨rfl, rfl⟩ ⟨by decide, by decide⟩ hl.1 rfl (Nat.le_of_ble_eq_true rfl) dX1_digestedStones_21 ⟨Nat.le_of_ble_eq_true rfl, Nat.le_of_ble_eq_true rfl⟩) C0 hP hS (fun v21 c21 H locs hp hP hS => ?_)
        obtain ⟨rfl, rfl⟩ := hp
        refine k0_l (rn_X1_160 (As := [.long (dgS st K k d9), .int ((st 0) k)]) (rest := []) C0 (m_X1_digested l D cA N ad (c) (dgS st K k d9) ((st 0) k) _) hP hS rfl ⟨rfl, rfl⟩ ⟨by decide, by decide⟩ hl.1 rfl (Nat.le_of_ble_eq_true rfl) dX1_digestedStones_24 ⟨Nat.le_of_ble_eq_true rfl, Nat.le_of_ble_eq_true rfl⟩) C0 hP hS (fun v24 c24 H locs hp hP hS => ?_)
        obtain ⟨rfl, rfl⟩ := hp
        refine lv_lstore_n (lv' := [(3, .long (dg (dgS st K k d9) ((st 0) k))), (0, .long d9), (2, .ref (ad b)), (5, .int (nI k))]) hx hb dX1_digestedStones_27 rfl hl (by decide) rfl (fun ls hl => ?_)
        refine lv_lload_n hx hb dX1_digestedStones_28 rfl (lv_at hl 0 rfl) ?_
        refine lv_aload_n hx hb dX1_digestedStones_29 rfl (lv_at hl 2 rfl) ?_
        refine gh_X1_105 C0 hP hH (by omega) dX1_digestedStones_30 ?_
        refine lv_iload hx hb dX1_digestedStones_33 (lv_at hl 3 rfl) ?_
        refine k0_i (rn_X1_101 (As := [.ref (ad (b + 2)), .int (nI k)]) (rest := [.long (dg (dgS st K k d9) ((st 0) k))]) C0 (m_X1_at l D cA N ad (c) (b + 2) 8 k ((st 1)) (by omega) (hH.2.2.1) (by omega) (by omega) _) hP hS rfl ⟨rfl, rfl⟩ ⟨by decide, by decide⟩ hl.1 rfl (Nat.le_of_ble_eq_true rfl) dX1_digestedStones_35 ⟨Nat.le_of_ble_eq_true rfl, Nat.le_of_ble_eq_true rfl⟩) C0 hP hS (fun v35 c35 H locs hp hP hS => ?_)
        obtain ⟨rfl, rfl⟩ := hp
        refine k0_l (rn_X1_160 (As := [.long (dg (dgS st K k d9) ((st 0) k)), .int ((st 1) k)]) (rest := []) C0 (m_X1_digested l D cA N ad (c) (dg (dgS st K k d9) ((st 0) k)) ((st 1) k) _) hP hS rfl ⟨rfl, rfl⟩ ⟨by decide, by decide⟩ hl.1 rfl (Nat.le_of_ble_eq_true rfl) dX1_digestedStones_38 ⟨Nat.le_of_ble_eq_true rfl, Nat.le_of_ble_eq_true rfl⟩) C0 hP hS (fun v38 c38 H locs hp hP hS => ?_)
        obtain ⟨rfl, rfl⟩ := hp
        refine lv_lstore_n (lv' := [(3, .long (dg (dg (dgS st K k d9) ((st 0) k)) ((st 1) k))), (0, .long d9), (2, .ref (ad b)), (5, .int (nI k))]) hx hb dX1_digestedStones_41 rfl hl (by decide) rfl (fun ls hl => ?_)
        refine lv_lload_n hx hb dX1_digestedStones_42 rfl (lv_at hl 0 rfl) ?_
        refine lv_aload_n hx hb dX1_digestedStones_43 rfl (lv_at hl 2 rfl) ?_
        refine gh_X1_108 C0 hP hH (by omega) dX1_digestedStones_44 ?_
        refine lv_iload hx hb dX1_digestedStones_47 (lv_at hl 3 rfl) ?_
        refine k0_i (rn_X1_101 (As := [.ref (ad (b + 3)), .int (nI k)]) (rest := [.long (dg (dg (dgS st K k d9) ((st 0) k)) ((st 1) k))]) C0 (m_X1_at l D cA N ad (c) (b + 3) 8 k ((st 2)) (by omega) (hH.2.2.2) (by omega) (by omega) _) hP hS rfl ⟨rfl, rfl⟩ ⟨by decide, by decide⟩ hl.1 rfl (Nat.le_of_ble_eq_true rfl) dX1_digestedStones_49 ⟨Nat.le_of_ble_eq_true rfl, Nat.le_of_ble_eq_true rfl⟩) C0 hP hS (fun v49 c49 H locs hp hP hS => ?_)
        obtain ⟨rfl, rfl⟩ := hp
        refine k0_l (rn_X1_160 (As := [.long (dg (dg (dgS st K k d9) ((st 0) k)) ((st 1) k)), .int ((st 2) k)]) (rest := []) C0 (m_X1_digested l D cA N ad (c) (dg (dg (dgS st K k d9) ((st 0) k)) ((st 1) k)) ((st 2) k) _) hP hS rfl ⟨rfl, rfl⟩ ⟨by decide, by decide⟩ hl.1 rfl (Nat.le_of_ble_eq_true rfl) dX1_digestedStones_52 ⟨Nat.le_of_ble_eq_true rfl, Nat.le_of_ble_eq_true rfl⟩) C0 hP hS (fun v52 c52 H locs hp hP hS => ?_)
        obtain ⟨rfl, rfl⟩ := hp
        refine lv_lstore_n (lv' := [(3, .long (dg (dg (dg (dgS st K k d9) ((st 0) k)) ((st 1) k)) ((st 2) k))), (0, .long d9), (2, .ref (ad b)), (5, .int (nI k))]) hx hb dX1_digestedStones_55 rfl hl (by decide) rfl (fun ls hl => ?_)
        refine lv_lload_n hx hb dX1_digestedStones_56 rfl (lv_at hl 0 rfl) ?_
        refine lv_aload_n hx hb dX1_digestedStones_57 rfl (lv_at hl 2 rfl) ?_
        refine lv_iload hx hb dX1_digestedStones_58 (lv_at hl 3 rfl) ?_
        refine k0_i (rn_X1_118 (As := [.int (nI k)]) (rest := [.long (dg (dg (dg (dgS st K k d9) ((st 0) k)) ((st 1) k)) ((st 2) k))]) (r := b) C0 (m_X0_rank l D cA N ad (c) b R Y L S D9 K st k (by omega) hH (by omega) (by omega) _) hP hS (by omega) hH.1 rfl ⟨rfl, rfl⟩ ⟨by decide, by decide⟩ hl.1 rfl (Nat.le_of_ble_eq_true rfl) dX1_digestedStones_60 ⟨Nat.le_of_ble_eq_true rfl, Nat.le_of_ble_eq_true rfl⟩) C0 hP hS (fun v60 c60 H locs hp hP hS => ?_)
        obtain ⟨rfl, rfl⟩ := hp
        refine k0_l (rn_X1_160 (As := [.long (dg (dg (dg (dgS st K k d9) ((st 0) k)) ((st 1) k)) ((st 2) k)), .int (nI (rk (st 0) K k))]) (rest := []) C0 (m_X1_digested l D cA N ad (c) (dg (dg (dg (dgS st K k d9) ((st 0) k)) ((st 1) k)) ((st 2) k)) (nI (rk (st 0) K k)) _) hP hS rfl ⟨rfl, rfl⟩ ⟨by decide, by decide⟩ hl.1 rfl (Nat.le_of_ble_eq_true rfl) dX1_digestedStones_63 ⟨Nat.le_of_ble_eq_true rfl, Nat.le_of_ble_eq_true rfl⟩) C0 hP hS (fun v63 c63 H locs hp hP hS => ?_)
        obtain ⟨rfl, rfl⟩ := hp
        refine lv_lstore_n (lv' := [(3, .long (dg (dg (dg (dg (dgS st K k d9) ((st 0) k)) ((st 1) k)) ((st 2) k)) (nI (rk (st 0) K k)))), (0, .long d9), (2, .ref (ad b)), (5, .int (nI k))]) hx hb dX1_digestedStones_66 rfl hl (by decide) rfl (fun ls hl => ?_)
        refine lv_iinc (v := nI (k + 1)) (lv' := [(5, .int (nI (k + 1))), (3, .long (dg (dg (dg (dg (dgS st K k d9) ((st 0) k)) ((st 1) k)) ((st 2) k)) (nI (rk (st 0) K k)))), (0, .long d9), (2, .ref (ad b))]) hx hb dX1_digestedStones_67 hl (k := 3) rfl (nI_add k 1) (by decide) rfl (fun ls hl => ?_)
        refine lv_goto (tgt := 5) hx hb dX1_digestedStones_70 (by decide) ?_
        exact ih5 (k + 1) (by omega) (by omega) _ _ _ hP hS (lv_sub hl [2, 3, 1, 0] rfl)
  exact loop5 (_ + 1) 0 (Nat.zero_le _) (Nat.lt_succ_self _) _ _ _ hP hS (lv_sub hl [2, 3, 1, 0] rfl)
