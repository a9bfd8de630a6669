/-! what the law's calls change -/
section CHX
variable {ad : Nat → Nat} {cA : Nat → ClassId} {c c1 : Nat → va_E} {N n : Nat} {sc : Nat → Nat → Nat} {st : Nat → Nat → Nat → Int32} {B : Nat} {i j : Nat}
theorem ch_offer {x w : Nat} (hI : Inv ad cA c N n sc st B) (hi : i < n) (hx : x ≤ 999) (hw1 : 1 ≤ w) (hw9 : w ≤ 9) :
    ∃ sc2 st2, Inv ad cA (hw ad cA c (6 + 4 * i) (sc i 0) (sc i 1) ((pk (sc i 0) (sc i 1) (sc i 2) (sc i 3 + 1) (sc i 4 + w) (sc i 5) w).2.1) (sc i 3 + 1) (sc i 4 + w) ((pk (sc i 0) (sc i 1) (sc i 2) (sc i 3 + 1) (sc i 4 + w) (sc i 5) w).2.2) (stT (st i) (pk (sc i 0) (sc i 1) (sc i 2) (sc i 3 + 1) (sc i 4 + w) (sc i 5) w).1 (nI x) (nI w) (nI (sc i 3 + 1)))) N n sc2 st2 (B + 30) ∧ sc2 i 3 = sc i 3 + 1 ∧ ∀ k, k ≠ i → sc2 k 3 = sc k 3 := by
  obtain ⟨a1, a2, a3, a4, a5, a6, a7, a8⟩ := hI.ok i hi
  obtain ⟨-, p2, p3⟩ := pk9_in (R := sc i 0) (Y := sc i 1) (L := sc i 2) (S := sc i 3 + 1) (D := sc i 4 + w) (K := sc i 5) (w := w) (by omega) a5
  have p4 := pk_K1 (R := sc i 0) (Y := sc i 1) (L := sc i 2) (S := sc i 3 + 1) (D := sc i 4 + w) (K := sc i 5) (w := w)
  exact ⟨_, _, hI.chg hi ⟨a1, a2, a3, p3 a4, p2, by omega, by omega, by omega⟩ (by omega) (by omega) ((hI.bo i hi).come hx hw1 hw9 (by omega) (by omega) (Nat.le_refl _)), scU_eq, fun k hk => scU_ne hk⟩
theorem ch_row {x w many : Nat} (hI : Inv ad cA c N n sc st B) (hi : i < n) (hm : many ≤ 30) :
    ∃ sc2 st2, Inv ad cA (hw ad cA c (6 + 4 * i) (sc i 0) (sc i 1) ((rwS (sc i 0) (sc i 1) w many (sc i 2, sc i 3, sc i 4, sc i 5)).1) ((rwS (sc i 0) (sc i 1) w many (sc i 2, sc i 3, sc i 4, sc i 5)).2.1) ((rwS (sc i 0) (sc i 1) w many (sc i 2, sc i 3, sc i 4, sc i 5)).2.2.1) ((rwS (sc i 0) (sc i 1) w many (sc i 2, sc i 3, sc i 4, sc i 5)).2.2.2) ((rwT (sc i 0) (sc i 1) w (sc i 2, sc i 3, sc i 4, sc i 5) (st i) x many))) N n sc2 st2 (B + 30) ∧ sc i 5 ≤ sc2 i 5 ∧ sc2 i 5 ≤ sc i 5 + rwC (sc i 0) (sc i 1) w (sc i 2, sc i 3, sc i 4, sc i 5) many ∧ rwC (sc i 0) (sc i 1) w (sc i 2, sc i 3, sc i 4, sc i 5) many ≤ many := by
  obtain ⟨a1, a2, a3, a4, a5, a6, a7, a8⟩ := hI.ok i hi
  obtain ⟨b1, b2, b3, b4, b5⟩ := rwS_in (R := sc i 0) (Y := sc i 1) (w := w) (by omega) (x := (sc i 2, sc i 3, sc i 4, sc i 5)) a4 a5 many
  obtain ⟨m1, m2⟩ := rw_many (R := sc i 0) (Y := sc i 1) (w := w) (x := (sc i 2, sc i 3, sc i 4, sc i 5)) many
  have m3 := rwC_le (R := sc i 0) (Y := sc i 1) (w := w) (x := (sc i 2, sc i 3, sc i 4, sc i 5)) many
  dsimp only at b2 b3 b4 b5 m1 m2
  refine ⟨_, _, hI.chg hi ⟨a1, a2, a3, b1, b5, by omega, by omega, by omega⟩ (by omega) (by omega) (Sn.row (y := (sc i 2, sc i 3, sc i 4, sc i 5)) (hI.bo i hi) many), ?_, ?_, m3⟩
  · rw [scU_eq]; exact m1
  · rw [scU_eq]; exact m2
theorem ch_mix (hI : Inv ad cA c N n sc st B) (hi : i < n) :
    ∃ sc2 st2, Inv ad cA (hw ad cA c (6 + 4 * i) (sc i 0) (sc i 1) ((mixF (sc i 5 - 1) (sc i 2, st i, 0)).1) (sc i 3) (sc i 4) (sc i 5) ((mixF (sc i 5 - 1) (sc i 2, st i, 0)).2.1)) N n sc2 st2 (B + 30) ∧ sc2 i 5 = sc i 5 ∧ tot (st2 i 0) (sc2 i 5) = tot (st i 0) (sc i 5) ∧ (mixF (sc i 5 - 1) (sc i 2, st i, 0)).2.2 ≤ sc i 5 - 1 := by
  obtain ⟨a1, a2, a3, a4, a5, a6, a7, a8⟩ := hI.ok i hi
  obtain ⟨b1, b2, b3⟩ := Sn.mixed (K := sc i 5) (S := sc i 3) (j := sc i 5 - 1) (x := (sc i 2, st i, 0)) (by omega) (hI.bo i hi)
  have hL := mixF_le (j := sc i 5 - 1) (x := (sc i 2, st i, 0)) a4
  refine ⟨_, _, hI.chg hi ⟨a1, a2, a3, hL, a5, a6, a7, a8⟩ (Nat.le_refl _) (by omega) b1, scU_eq, ?_, ?_⟩
  · rw [stW_eq, scU_eq]; exact b2
  · have b3 : _ ≤ 0 + (sc i 5 - 1) := b3; omega
theorem ch_luck {y : Nat} (hI : Inv ad cA c N n sc st B) (hi : i < n) (hy : y ≤ 9999) :
    ∃ sc2 st2, Inv ad cA (hw ad cA c (6 + 4 * i) (sc i 0) (sc i 1) y (sc i 3) (sc i 4) (sc i 5) (st i)) N n sc2 st2 (B + 30) := by
  obtain ⟨a1, a2, a3, a4, a5, a6, a7, a8⟩ := hI.ok i hi
  exact ⟨_, _, hI.chg hi ⟨a1, a2, a3, hy, a5, a6, a7, a8⟩ (Nat.le_refl _) (by omega) (hI.bo i hi)⟩
theorem ch_join {stt : Nat → Nat → Int32} {J : Nat × Nat × Nat × (Nat → Nat → Int32)} (hJ : J = jn (sc i 3) (sc j 3) (sc i 5) (sc j 5) (st i) (st j) (sc i 0) (0, 0, sc i 2, stB stt (st i) (sc i 5))) (hI : Inv ad cA c N n sc st B) (ht : Tr ad cA c c1) (hi : i < n) (hj : j < n) (hij : i ≠ j) :
    ∃ sc2 st2, Inv ad cA (hw ad cA (hw ad cA c1 (6 + 4 * i) (sc i 0) (sc i 1) (J.2.2.1) (sc i 3 + sc j 3) (sc i 4 + sc j 4) (J.1 + J.2.1) (stB (st i) J.2.2.2 (J.1 + J.2.1))) (6 + 4 * j) (sc j 0) (sc j 1) (sc j 2) 0 0 0 (st j)) N n sc2 st2 (B + 30) ∧ sc2 i 5 = min (sc i 0) (sc i 5 + sc j 5) ∧ sc2 i 3 = sc i 3 + sc j 3 ∧ sc2 i 4 = sc i 4 + sc j 4 ∧ sc2 j 5 = 0 ∧ sc2 j 3 = 0 ∧ sc2 j 4 = 0 ∧ J.2.1 ≤ min (sc i 0) (sc i 5 + sc j 5) := by
  obtain ⟨a1, a2, a3, a4, a5, a6, a7, a8⟩ := hI.ok i hi
  obtain ⟨b1, b2, b3, b4, b5, b6, b7, b8⟩ := hI.ok j hj
  obtain ⟨j1, j2, j3⟩ := Sn.joined (S1 := sc i 3) (So := sc j 3) (Sm := sc i 3 + sc j 3) ((hI.bo i hi).le (by omega)) ((hI.bo j hj).le (by omega)) (sc i 0) (x := (0, 0, sc i 2, stB stt (st i) (sc i 5))) (Nat.zero_le _) (Nat.zero_le _) a4 Sn.zero
  rw [← hJ] at j1 j2 j3
  dsimp only at j2
  refine ⟨_, _, (hI.chg2 ht hi hj hij (so := st j) ⟨a1, a2, a3, j3, by omega, by omega, by omega, by omega⟩ ⟨b1, b2, b3, b4⟩ rfl (j1.same (fun k p hk hp => by rw [stB_in hk, if_pos hp]))).up (by omega), ?_, ?_, ?_, ?_, ?_, ?_, by omega⟩
  · rw [scU_ne hij, scU_eq]; show J.1 + J.2.1 = _; omega
  · rw [scU_ne hij, scU_eq]; rfl
  · rw [scU_ne hij, scU_eq]; rfl
  · rw [scU_eq]; rfl
  · rw [scU_eq]; rfl
  · rw [scU_eq]; rfl
end CHX
/-! the law's walk: what its cases stand on -/
theorem rm_c {x y : Nat} (h : x + 1 ≤ 600104) (hy : y ≤ 1) : x + y ≤ room_1.cells := by show _ ≤ 600104; omega
theorem rm_s {x y : Nat} (h : x + 6 ≤ 7301314) (hy : y ≤ 6) : x + y ≤ room_1.slots := by show _ ≤ 7301314; omega
theorem lg_same {x y : Int64} (h : x = y) : lg_cmp x y = 0 := by
  subst h
  unfold lg_cmp
  rw [if_neg (by simp [Int64.lt_iff_toInt_lt]), if_pos rfl]
/-- the law's loop's tail, behind a case -/
def LTail (p : Program) (l : Launch) (e : Env) (s : State) (m : MethodId) (below : List Frame) (meth : Method) (c0 : Code) (Q : State → Prop) (D : va_G) (cA : Nat → ClassId) (N : Nat) (ad : Nat → Nat) (b n cells slots tm B : Nat) : Prop :=
  ∀ (c : Nat → va_E) (sc : Nat → Nat → Nat) (st : Nat → Nat → Nat → Int32), Inv ad cA c N n sc st (B + 30) → ∀ (H : Heap) (locs : List Loc) (ls : Array Slot), va_P D vwCl (wl N ad c) H → va_S (fun q => s.heap.size ≤ q) s.heap H locs → lv_has ls 17 [(0, .ref b), (1, .ref (ad 0)), (2, .int (nI n)), (3, .int (nI tm))] → W p l e room_1 s m #[Value.ref b] below meth c0 H locs (cells + 1) (slots + 6) Q (F0 m 543 ls [])
