/-! the invariant of the law -/
section CG
variable {ad : Nat → Nat} {cA : Nat → ClassId} {c c' : Nat → va_E} {n b R Y L S D K : Nat} {st : Nat → Nat → Int32}
theorem HandAt.cg (h : HandAt ad cA c b R Y L S D K st) (e : ∀ r, b ≤ r → r < b + 4 → c' r = c r) : HandAt ad cA c' b R Y L S D K st := by
  obtain ⟨h0, h1, h2, h3⟩ := h
  exact ⟨(e b (by omega) (by omega)).trans h0, (e _ (by omega) (by omega)).trans h1, (e _ (by omega) (by omega)).trans h2, (e _ (by omega) (by omega)).trans h3⟩
theorem FH.cg (h : FH ad cA c n) (e0 : c' 0 = c 0) (e1 : c' 1 = c 1) : FH ad cA c' n := ⟨e0.trans h.1, e1.trans h.2.1, h.2.2⟩
theorem TrAt.cg (h : TrAt ad cA c) (e : ∀ r, 2 ≤ r → r < 6 → c' r = c r) : TrAt ad cA c' := by
  obtain ⟨Rt, Yt, Lt, St, Dt, Kt, stt, ht⟩ := h
  exact ⟨Rt, Yt, Lt, St, Dt, Kt, stt, ht.cg (fun r h1 h2 => e r h1 (by omega))⟩
end CG
/-- stones seen by the first k hands -/
def sumS (sc : Nat → Nat → Nat) : Nat → Nat
  | 0 => 0
  | k + 1 => sumS sc k + sc k 3
theorem sumS_le {sc : Nat → Nat → Nat} : ∀ {k i : Nat}, i < k → sc i 3 ≤ sumS sc k
  | 0, _, h => absurd h (Nat.not_lt_zero _)
  | k + 1, i, h => by
    unfold sumS
    by_cases e : i = k
    · subst e; omega
    · have := sumS_le (sc := sc) (k := k) (i := i) (by omega); omega
theorem sumS_cg {sc sc' : Nat → Nat → Nat} : ∀ {k : Nat}, (∀ i, i < k → sc' i 3 = sc i 3) → sumS sc' k = sumS sc k
  | 0, _ => rfl
  | k + 1, h => by
    unfold sumS
    rw [sumS_cg (k := k) (fun i hi => h i (by omega)), h k (by omega)]
/-- one hand more seen by d -/
theorem sumS_add {sc sc' : Nat → Nat → Nat} {i d : Nat} : ∀ {k : Nat}, i < k → sc' i 3 = sc i 3 + d → (∀ j, j < k → j ≠ i → sc' j 3 = sc j 3) → sumS sc' k = sumS sc k + d
  | 0, h, _, _ => absurd h (Nat.not_lt_zero _)
  | k + 1, h, h1, h2 => by
    unfold sumS
    by_cases e : i = k
    · subst e
      rw [sumS_cg (k := i) (fun j hj => h2 j (by omega) (by omega)), h1]; omega
    · rw [sumS_add (k := k) (by omega) h1 (fun j hj hne => h2 j (by omega) hne), h2 k (by omega) (fun q => e q.symm)]; omega
def HsI (n : Nat) (sc : Nat → Nat → Nat) : Prop := ∀ i, i < n → 1 ≤ sc i 0 ∧ sc i 0 ≤ 8 ∧ sc i 1 ≤ 1 ∧ sc i 2 ≤ 9999 ∧ sc i 5 ≤ sc i 0 ∧ sc i 5 ≤ sc i 3 ∧ sc i 3 ≤ sc i 4 ∧ sc i 4 ≤ 9 * sc i 3
theorem HsI.ok {n B : Nat} {sc : Nat → Nat → Nat} (h : HsI n sc) (hs : sumS sc n ≤ B) (hB : B ≤ 110000) : HsOk n sc := fun i hi => by
  obtain ⟨h1, h2, h3, h4, h5, h6, h7, h8⟩ := h i hi
  have := sumS_le (sc := sc) hi
  exact ⟨h1, h2, h3, h4, by omega, by omega, h5, h6, h7⟩
theorem pk_K1 {R Y L S D K w : Nat} : (pk R Y L S D K w).2.2 ≤ K + 1 := by
  unfold pk
  split
  · exact Nat.le_refl _
  · split
    · split <;> exact Nat.le_succ _
    · split <;> exact Nat.le_succ _
theorem rwS_K {R Y w : Nat} {x : Nat × Nat × Nat × Nat} : ∀ k, (rwS R Y w k x).2.2.2 ≤ x.2.2.2 + k
  | 0 => Nat.le_refl _
  | k + 1 => by
    have ih := rwS_K (R := R) (Y := Y) (w := w) (x := x) k
    have h := pk_K1 (R := R) (Y := Y) (L := (rwS R Y w k x).1) (S := (rwS R Y w k x).2.1 + 1) (D := (rwS R Y w k x).2.2.1 + wtR w k) (K := (rwS R Y w k x).2.2.2) (w := wtR w k)
    show (pk R Y (rwS R Y w k x).1 ((rwS R Y w k x).2.1 + 1) ((rwS R Y w k x).2.2.1 + wtR w k) (rwS R Y w k x).2.2.2 (wtR w k)).2.2 ≤ _
    omega
/-- all that lies in the world of the law: the class, n hands, their numbers sc and stones st; B bounds the stones that were seen -/
def Inv (ad : Nat → Nat) (cA : Nat → ClassId) (c : Nat → va_E) (N n : Nat) (sc : Nat → Nat → Nat) (st : Nat → Nat → Nat → Int32) (B : Nat) : Prop :=
  (N = 6 + 4 * n) ∧ (n ≤ 5) ∧ (FH ad cA c n) ∧ (TrAt ad cA c) ∧ (HsAt ad cA c n sc st) ∧ (HsI n sc) ∧ (sumS sc n ≤ B) ∧ (∀ i, i < n → Sn (sc i 5) (sc i 3) (st i))
def scU (sc : Nat → Nat → Nat) (i R Y L S D K : Nat) : Nat → Nat → Nat := fun j k => if j = i then (if k = 0 then R else if k = 1 then Y else if k = 2 then L else if k = 3 then S else if k = 4 then D else K) else sc j k
def stW (st : Nat → Nat → Nat → Int32) (i : Nat) (s : Nat → Nat → Int32) : Nat → Nat → Nat → Int32 := fun j => if j = i then s else st j
section INV
variable {ad ad' : Nat → Nat} {cA : Nat → ClassId} {c c1 : Nat → va_E} {N n : Nat} {sc : Nat → Nat → Nat} {st : Nat → Nat → Nat → Int32} {B B' : Nat} {i j R Y L S D K Ro Yo Lo : Nat} {s so : Nat → Nat → Int32}
theorem Inv.hN (h : Inv ad cA c N n sc st B) : N = 6 + 4 * n := h.1
theorem Inv.n5 (h : Inv ad cA c N n sc st B) : n ≤ 5 := h.2.1
theorem Inv.fh (h : Inv ad cA c N n sc st B) : FH ad cA c n := h.2.2.1
theorem Inv.tr (h : Inv ad cA c N n sc st B) : TrAt ad cA c := h.2.2.2.1
theorem Inv.hs (h : Inv ad cA c N n sc st B) : HsAt ad cA c n sc st := h.2.2.2.2.1
theorem Inv.ok (h : Inv ad cA c N n sc st B) : HsI n sc := h.2.2.2.2.2.1
theorem Inv.sm (h : Inv ad cA c N n sc st B) : sumS sc n ≤ B := h.2.2.2.2.2.2.1
theorem Inv.bo (h : Inv ad cA c N n sc st B) : ∀ i, i < n → Sn (sc i 5) (sc i 3) (st i) := h.2.2.2.2.2.2.2
theorem Inv.hok (h : Inv ad cA c N n sc st B) (hB : B ≤ 110000) : HsOk n sc := h.ok.ok h.sm hB
theorem Inv.up (h : Inv ad cA c N n sc st B) (hB : B ≤ B') : Inv ad cA c N n sc st B' := ⟨h.hN, h.n5, h.fh, h.tr, h.hs, h.ok, Nat.le_trans h.sm hB, h.bo⟩
/-- the trial hand changed -/
theorem Inv.trial (h : Inv ad cA c N n sc st B) (t : Tr ad cA c c1) : Inv ad cA c1 N n sc st B := ⟨h.hN, h.n5, h.fh.tr t, t.at, h.hs.tr t, h.ok, h.sm, h.bo⟩
theorem Inv.trn (h : Inv ad cA c N n sc st B) (hB : B ≤ 110000) : Trn n sc st := fun j hj => by
  have h1 := h.hok hB j hj
  obtain ⟨q1, q2, q3, q4, q5, q6, q7, q8, q9⟩ := h1
  refine ⟨by omega, fun p hp => ?_⟩
  obtain ⟨-, -, t, -, ht, e⟩ := h.bo j hj p hp
  exact ⟨t, ht, e⟩
theorem scU_eq {k : Nat} : scU sc i R Y L S D K i k = if k = 0 then R else if k = 1 then Y else if k = 2 then L else if k = 3 then S else if k = 4 then D else K := if_pos rfl
theorem scU_ne {k : Nat} (h : j ≠ i) : scU sc i R Y L S D K j k = sc j k := if_neg h
theorem stW_eq : stW st i s i = s := if_pos rfl
theorem stW_ne (h : j ≠ i) : stW st i s j = st j := if_neg h
theorem Inv.chg (hI : Inv ad cA c N n sc st B) (hi : i < n) (hb : 1 ≤ R ∧ R ≤ 8 ∧ Y ≤ 1 ∧ L ≤ 9999 ∧ K ≤ R ∧ K ≤ S ∧ S ≤ D ∧ D ≤ 9 * S) (h1 : sc i 3 ≤ S) (h2 : S ≤ sc i 3 + 30) (hbo : Sn K S s) :
    Inv ad cA (hw ad cA c (6 + 4 * i) R Y L S D K s) N n (scU sc i R Y L S D K) (stW st i s) (B + 30) := by
  have hN := hI.hN
  have hn5 := hI.n5
  refine ⟨hN, hn5, hI.fh.cg (hw_ne (by omega)) (hw_ne (by omega)), hI.tr.cg (fun r _ _ => hw_ne (by omega)), ?_, ?_, ?_, ?_⟩
  · intro j hj
    by_cases e : j = i
    · subst e
      rw [stW_eq, scU_eq, scU_eq, scU_eq, scU_eq, scU_eq, scU_eq]
      exact hw_at
    · rw [stW_ne e, scU_ne e, scU_ne e, scU_ne e, scU_ne e, scU_ne e, scU_ne e]
      exact (hI.hs j hj).cg (fun r _ _ => hw_ne (by omega))
  · intro j hj
    by_cases e : j = i
    · subst e
      rw [scU_eq, scU_eq, scU_eq, scU_eq, scU_eq, scU_eq]
      exact hb
    · rw [scU_ne e, scU_ne e, scU_ne e, scU_ne e, scU_ne e, scU_ne e]
      exact hI.ok j hj
  · have e : sumS (scU sc i R Y L S D K) n = sumS sc n + (S - sc i 3) := sumS_add hi (by rw [scU_eq]; show S = _; omega) (fun j _ hne => scU_ne hne)
    have := hI.sm
    omega
  · intro j hj
    by_cases e : j = i
    · subst e
      rw [stW_eq, scU_eq, scU_eq]
      exact hbo
    · rw [stW_ne e, scU_ne e, scU_ne e]
      exact hI.bo j hj
theorem Inv.chg2 (hI : Inv ad cA c N n sc st B) (ht : Tr ad cA c c1) (hi : i < n) (hj : j < n) (hij : i ≠ j) (hb : 1 ≤ R ∧ R ≤ 8 ∧ Y ≤ 1 ∧ L ≤ 9999 ∧ K ≤ R ∧ K ≤ S ∧ S ≤ D ∧ D ≤ 9 * S) (hbj : 1 ≤ Ro ∧ Ro ≤ 8 ∧ Yo ≤ 1 ∧ Lo ≤ 9999) (hsum : S = sc i 3 + sc j 3) (hbo : Sn K S s) :
    Inv ad cA (hw ad cA (hw ad cA c1 (6 + 4 * i) R Y L S D K s) (6 + 4 * j) Ro Yo Lo 0 0 0 so) N n (scU (scU sc i R Y L S D K) j Ro Yo Lo 0 0 0) (stW (stW st i s) j so) B := by
  have hI := hI.trial ht
  have hN := hI.hN
  have hn5 := hI.n5
  have ne : ∀ r, (r < 6 + 4 * i ∨ 6 + 4 * i + 4 ≤ r) → (r < 6 + 4 * j ∨ 6 + 4 * j + 4 ≤ r) → hw ad cA (hw ad cA c1 (6 + 4 * i) R Y L S D K s) (6 + 4 * j) Ro Yo Lo 0 0 0 so r = c1 r := fun r h2 h3 => by
    rw [hw_ne h3, hw_ne h2]
  refine ⟨hN, hn5, hI.fh.cg (ne 0 (by omega) (by omega)) (ne 1 (by omega) (by omega)), hI.tr.cg (fun r _ _ => ne r (by omega) (by omega)), ?_, ?_, ?_, ?_⟩
  · intro k hk
    by_cases e : k = j
    · subst e
      rw [stW_eq, scU_eq, scU_eq, scU_eq, scU_eq, scU_eq, scU_eq]
      exact hw_at
    · rw [stW_ne e, scU_ne e, scU_ne e, scU_ne e, scU_ne e, scU_ne e, scU_ne e]
      by_cases e2 : k = i
      · subst e2
        rw [stW_eq, scU_eq, scU_eq, scU_eq, scU_eq, scU_eq, scU_eq]
        show HandAt ad cA _ (6 + 4 * k) R Y L S D K s
        exact (hw_at (c := c1)).cg (fun r _ _ => by rw [hw_ne (by omega)])
      · rw [stW_ne e2, scU_ne e2, scU_ne e2, scU_ne e2, scU_ne e2, scU_ne e2, scU_ne e2]
        exact (hI.hs k hk).cg (fun r _ _ => ne r (by omega) (by omega))
  · intro k hk
    by_cases e : k = j
    · subst e
      rw [scU_eq, scU_eq, scU_eq, scU_eq, scU_eq, scU_eq]
      exact ⟨hbj.1, hbj.2.1, hbj.2.2.1, hbj.2.2.2, Nat.zero_le _, Nat.le_refl _, Nat.le_refl _, Nat.zero_le _⟩
    · rw [scU_ne e, scU_ne e, scU_ne e, scU_ne e, scU_ne e, scU_ne e]
      by_cases e2 : k = i
      · subst e2
        rw [scU_eq, scU_eq, scU_eq, scU_eq, scU_eq, scU_eq]
        exact hb
      · rw [scU_ne e2, scU_ne e2, scU_ne e2, scU_ne e2, scU_ne e2, scU_ne e2]
        exact hI.ok k hk
  · have e1 : sumS (scU sc i R Y L S D K) n = sumS sc n + sc j 3 := sumS_add hi (by rw [scU_eq]; exact hsum) (fun k _ hne => scU_ne hne)
    have e2 : sumS (scU sc i R Y L S D K) n = sumS (scU (scU sc i R Y L S D K) j Ro Yo Lo 0 0 0) n + sc j 3 := sumS_add hj (by rw [scU_ne (fun q => hij q.symm), scU_eq]; show sc j 3 = 0 + sc j 3; omega) (fun k _ hne => (scU_ne hne).symm)
    have := hI.sm
    omega
  · intro k hk
    by_cases e : k = j
    · subst e
      rw [scU_eq, scU_eq]
      exact Sn.zero
    · rw [stW_ne e, scU_ne e, scU_ne e]
      by_cases e2 : k = i
      · subst e2
        rw [stW_eq, scU_eq, scU_eq]
        exact hbo
      · rw [stW_ne e2, scU_ne e2, scU_ne e2]
        exact hI.bo k hk
theorem TrAt.ext (h : TrAt ad cA c) (e : ∀ r, r < 6 → ad' r = ad r) : TrAt ad' cA c := by
  obtain ⟨Rt, Yt, Lt, St, Dt, Kt, stt, ht⟩ := h
  exact ⟨Rt, Yt, Lt, St, Dt, Kt, stt, ht.ext (e 3 (by omega)) (e 4 (by omega)) (e 5 (by omega))⟩
/-- one hand more -/
theorem Inv.more (hI : Inv ad cA c N n sc st B) (hn : n < 5) (hb : 1 ≤ R ∧ R ≤ 8 ∧ Y ≤ 1 ∧ L ≤ 9999) (had : ∀ r, r < N → ad' r = ad r) (hc1 : ∀ r, r < N → r ≠ 1 → c1 r = c r) (hF : FH ad' cA c1 (n + 1)) (hH : HandAt ad' cA c1 (6 + 4 * n) R Y L 0 0 0 s) :
    Inv ad' cA c1 (N + 4) (n + 1) (scU sc n R Y L 0 0 0) (stW st n s) B := by
  have hN := hI.hN
  refine ⟨by omega, by omega, hF, (hI.tr.ext (fun r hr => had r (by omega))).cg (fun r _ _ => hc1 r (by omega) (by omega)), ?_, ?_, ?_, ?_⟩
  · intro k hk
    by_cases e : k = n
    · subst e
      rw [stW_eq, scU_eq, scU_eq, scU_eq, scU_eq, scU_eq, scU_eq]
      exact hH
    · rw [stW_ne e, scU_ne e, scU_ne e, scU_ne e, scU_ne e, scU_ne e, scU_ne e]
      exact ((hI.hs k (by omega)).ext (had _ (by omega)) (had _ (by omega)) (had _ (by omega))).cg (fun r _ _ => hc1 r (by omega) (by omega))
  · intro k hk
    by_cases e : k = n
    · subst e
      rw [scU_eq, scU_eq, scU_eq, scU_eq, scU_eq, scU_eq]
      exact ⟨hb.1, hb.2.1, hb.2.2.1, hb.2.2.2, Nat.zero_le _, Nat.le_refl _, Nat.le_refl _, Nat.zero_le _⟩
    · rw [scU_ne e, scU_ne e, scU_ne e, scU_ne e, scU_ne e, scU_ne e]
      exact hI.ok k (by omega)
  · have e1 : sumS (scU sc n R Y L 0 0 0) n = sumS sc n := sumS_cg (fun k hk => scU_ne (by omega))
    have e2 : sumS (scU sc n R Y L 0 0 0) (n + 1) = sumS (scU sc n R Y L 0 0 0) n + scU sc n R Y L 0 0 0 n 3 := rfl
    have e3 : scU sc n R Y L 0 0 0 n 3 = 0 := scU_eq
    have := hI.sm
    omega
  · intro k hk
    by_cases e : k = n
    · subst e
      rw [scU_eq, scU_eq]
      exact Sn.zero
    · rw [stW_ne e, scU_ne e, scU_ne e]
      exact hI.bo k (by omega)
end INV
