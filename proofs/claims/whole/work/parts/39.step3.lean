/-! two hands joined, a hand more, the mean: steps of their own form -/
section CHG2
variable {ad ad' : Nat → Nat} {cA : Nat → ClassId} {c c1 : Nat → va_E} {N n : Nat} {sc : Nat → Nat → Nat} {st : Nat → Nat → Nat → Int32} {th th' : Int32} {nw ah rw nw' ah' rw' : Nat → Int32} {fo fo' : Nat → Int64} {fd fd' : Nat → UInt64} {B : Nat} {i j R Y L S D K Ro Yo Lo : Nat} {s so : Nat → Nat → Int32}
theorem Inv.chg2 (hI : Inv ad cA c N n sc st th nw ah rw fo fd B) (ht : Tr ad cA c c1) (hi : i < n) (hj : j < n) (hij : i ≠ j) (hb : 1 ≤ R ∧ R ≤ 8 ∧ Y ≤ 1 ∧ L ≤ 9999 ∧ K ≤ R ∧ K ≤ S ∧ S ≤ D ∧ D ≤ 9 * S) (hbj : 1 ≤ Ro ∧ Ro ≤ 8 ∧ Yo ≤ 1 ∧ Lo ≤ 9999) (hsum : S = sc i 3 + sc j 3) (hrow : RowE nw' (30 * i) R Y L S D K) (hrowo : RowE nw' (30 * j) Ro Yo Lo 0 0 0) (ho : ∀ z, (z < 30 * i ∨ 30 * i + 30 ≤ z) ∧ (z < 30 * j ∨ 30 * j + 6 ≤ z) → nw' z = nw z) (hbo : Bo K S s (sto nw' (30 * i))) :
    Inv ad cA (mw ad cA (va_up (hw ad cA (hw ad cA c1 (12 + 4 * i) R Y L S D K s) (12 + 4 * j) Ro Yo Lo 0 0 0 so) 10 (.inl (cA 2, 1, .inr (.inl fo')))) th' n nw' ah' rw') N n (scU (scU sc i R Y L S D K) j Ro Yo Lo 0 0 0) (stW (stW st i s) j so) th' nw' ah' rw' fo' fd (B + 200) := by
  have hI := hI.trial ht
  have hN := hI.hN
  have hn5 := hI.n5
  have ne : ∀ r, (r < 6 ∨ 10 < r) → (r < 12 + 4 * i ∨ 12 + 4 * i + 4 ≤ r) → (r < 12 + 4 * j ∨ 12 + 4 * j + 4 ≤ r) → mw ad cA (va_up (hw ad cA (hw ad cA c1 (12 + 4 * i) R Y L S D K s) (12 + 4 * j) Ro Yo Lo 0 0 0 so) 10 (.inl (cA 2, 1, .inr (.inl fo')))) th' n nw' ah' rw' r = c1 r := fun r h1 h2 h3 => by
    rw [mw_ne (by omega), va_up_ne _ _ (by omega), hw_ne h3, hw_ne h2]
  refine ⟨hN, hn5, hI.fh.cg (ne 0 (by omega) (by omega) (by omega)) (ne 1 (by omega) (by omega) (by omega)), hI.tr.cg (fun r _ _ => ne r (by omega) (by omega) (by omega)), ?_, ?_, ?_, mw_at, ?_, ?_, ?_, ?_, ?_⟩
  · intro k hk
    by_cases e : k = j
    · subst e
      rw [stW_eq, scU_eq, scU_eq, scU_eq, scU_eq, scU_eq, scU_eq]
      show HandAt ad cA _ (12 + 4 * k) Ro Yo Lo 0 0 0 so
      exact (hw_at (c := hw ad cA c1 (12 + 4 * i) R Y L S D K s)).cg (fun r _ _ => by rw [mw_ne (by omega), va_up_ne _ _ (by omega)])
    · rw [stW_ne e, scU_ne e, scU_ne e, scU_ne e, scU_ne e, scU_ne e, scU_ne e]
      by_cases e2 : k = i
      · subst e2
        rw [stW_eq, scU_eq, scU_eq, scU_eq, scU_eq, scU_eq, scU_eq]
        show HandAt ad cA _ (12 + 4 * k) R Y L S D K s
        exact (hw_at (c := c1)).cg (fun r _ _ => by rw [mw_ne (by omega), va_up_ne _ _ (by omega), hw_ne (by omega)])
      · rw [stW_ne e2, scU_ne e2, scU_ne e2, scU_ne e2, scU_ne e2, scU_ne e2, scU_ne e2]
        exact (hI.hs k hk).cg (fun r _ _ => ne r (by omega) (by omega) (by omega))
  · intro k hk
    by_cases e : k = j
    · subst e
      rw [scU_eq, scU_eq, scU_eq, scU_eq, scU_eq, scU_eq]
      exact ⟨hbj.1, hbj.2.1, hbj.2.2.1, hbj.2.2.2, Nat.zero_le _, Nat.le_refl _, Nat.le_refl _, Nat.zero_le _⟩
    · rw [scU_ne e, scU_ne e, scU_ne e, scU_ne e, scU_ne e, scU_ne e]
      by_cases e2 : k = i
      · subst e2
        rw [scU_eq, scU_eq, scU_eq, scU_eq, scU_eq, scU_eq]
        exact hb
      · rw [scU_ne e2, scU_ne e2, scU_ne e2, scU_ne e2, scU_ne e2, scU_ne e2]
        exact hI.ok k hk
  · have e1 : sumS (scU sc i R Y L S D K) n = sumS sc n + sc j 3 := sumS_add hi (by rw [scU_eq]; exact hsum) (fun k _ hne => scU_ne hne)
    have e2 : sumS (scU sc i R Y L S D K) n = sumS (scU (scU sc i R Y L S D K) j Ro Yo Lo 0 0 0) n + sc j 3 := sumS_add hj (by rw [scU_ne (fun q => hij q.symm), scU_eq]; show sc j 3 = 0 + sc j 3; omega) (fun k _ hne => (scU_ne hne).symm)
    have := hI.sm
    omega
  · intro k hk
    by_cases e : k = j
    · subst e
      rw [scU_eq, scU_eq, scU_eq, scU_eq, scU_eq, scU_eq]
      exact hrowo
    · rw [scU_ne e, scU_ne e, scU_ne e, scU_ne e, scU_ne e, scU_ne e]
      by_cases e2 : k = i
      · subst e2
        rw [scU_eq, scU_eq, scU_eq, scU_eq, scU_eq, scU_eq]
        exact hrow
      · rw [scU_ne e2, scU_ne e2, scU_ne e2, scU_ne e2, scU_ne e2, scU_ne e2]
        exact (hI.rows k hk).same (fun z h1 h2 => ho z (by omega))
  · intro k hk
    by_cases e : k = j
    · subst e
      rw [scU_eq, scU_eq]
      exact fun p hp => absurd hp (Nat.not_lt_zero p)
    · rw [stW_ne e, scU_ne e, scU_ne e]
      by_cases e2 : k = i
      · subst e2
        rw [stW_eq, scU_eq, scU_eq]
        exact hbo
      · rw [stW_ne e2, scU_ne e2, scU_ne e2]
        intro p hp
        have hK := hI.ok k hk
        obtain ⟨a1, a2, a3⟩ := hI.bo k hk p hp
        exact ⟨fun q hq => (a1 q hq).trans (ho _ (by omega)).symm, a2, a3⟩
  · exact fun z hz hz2 => (ho z (by omega)).trans (hI.zero z hz hz2)
  · rw [mw_ne (by omega), up_at]
  · rw [ne 11 (by omega) (by omega) (by omega)]; exact hI.outD
theorem MoAt.ext (h : MoAt ad cA c th n nw ah rw) (e : ∀ r, r < 10 → ad' r = ad r) : MoAt ad' cA c th n nw ah rw := by
  obtain ⟨h0, h1, h2, h3⟩ := h
  exact ⟨by rw [h0, e 7 (by omega), e 8 (by omega), e 9 (by omega)], h1, h2, h3⟩
theorem TrAt.ext (h : TrAt ad cA c) (e : ∀ r, r < 10 → ad' r = ad r) : TrAt ad' cA c := by
  obtain ⟨Rt, Yt, Lt, St, Dt, Kt, stt, ht⟩ := h
  exact ⟨Rt, Yt, Lt, St, Dt, Kt, stt, ht.ext (e 3 (by omega)) (e 4 (by omega)) (e 5 (by omega))⟩
/-- a hand more -/
theorem Inv.more (hI : Inv ad cA c N n sc st th nw ah rw fo fd B) (hn : n < 5) (hb : 1 ≤ R ∧ R ≤ 8 ∧ Y ≤ 1 ∧ L ≤ 9999) (had : ∀ r, r < N → ad' r = ad r) (hc1 : ∀ r, r < N → r ≠ 1 → c1 r = c r) (hF : FH ad' cA c1 (n + 1)) (hH : HandAt ad' cA c1 (12 + 4 * n) R Y L 0 0 0 s) (hrow : RowE nw' (30 * n) R Y L 0 0 0) (ho : Out nw' nw (30 * n)) (hz : ∀ z, 30 * n + 3 ≤ z → nw' z = nw z) :
    Inv ad' cA (mw ad' cA (va_up c1 10 (.inl (cA 2, 1, .inr (.inl fo')))) th' (n + 1) nw' ah' rw') (N + 4) (n + 1) (scU sc n R Y L 0 0 0) (stW st n s) th' nw' ah' rw' fo' fd (B + 200) := by
  have hN := hI.hN
  have ne : ∀ r, (r < 6 ∨ 10 < r) → mw ad' cA (va_up c1 10 (.inl (cA 2, 1, .inr (.inl fo')))) th' (n + 1) nw' ah' rw' r = c1 r := fun r h1 => by
    rw [mw_ne (by omega), va_up_ne _ _ (by omega)]
  have ne2 : ∀ r, (r < 6 ∨ 10 < r) → r < N → r ≠ 1 → mw ad' cA (va_up c1 10 (.inl (cA 2, 1, .inr (.inl fo')))) th' (n + 1) nw' ah' rw' r = c r := fun r h1 h2 h3 => (ne r h1).trans (hc1 r h2 h3)
  refine ⟨by omega, by omega, hF.cg (ne 0 (by omega)) (ne 1 (by omega)), (hI.tr.ext (fun r hr => had r (by omega))).cg (fun r _ _ => ne2 r (by omega) (by omega) (by omega)), ?_, ?_, ?_, mw_at, ?_, ?_, ?_, ?_, ?_⟩
  · intro k hk
    by_cases e : k = n
    · subst e
      rw [stW_eq, scU_eq, scU_eq, scU_eq, scU_eq, scU_eq, scU_eq]
      show HandAt ad' cA _ (12 + 4 * k) R Y L 0 0 0 s
      exact hH.cg (fun r _ _ => ne r (by omega))
    · rw [stW_ne e, scU_ne e, scU_ne e, scU_ne e, scU_ne e, scU_ne e, scU_ne e]
      exact ((hI.hs k (by omega)).ext (had _ (by omega)) (had _ (by omega)) (had _ (by omega))).cg (fun r _ _ => ne2 r (by omega) (by omega) (by omega))
  · intro k hk
    by_cases e : k = n
    · subst e
      rw [scU_eq, scU_eq, scU_eq, scU_eq, scU_eq, scU_eq]
      exact ⟨hb.1, hb.2.1, hb.2.2.1, hb.2.2.2, Nat.zero_le _, Nat.le_refl _, Nat.le_refl _, Nat.zero_le _⟩
    · rw [scU_ne e, scU_ne e, scU_ne e, scU_ne e, scU_ne e, scU_ne e]
      exact hI.ok k (by omega)
  · have e1 : sumS (scU sc n R Y L 0 0 0) n = sumS sc n := sumS_cg (fun k hk => scU_ne (by omega))
    have e2 : sumS (scU sc n R Y L 0 0 0) (n + 1) = sumS (scU sc n R Y L 0 0 0) n + scU sc n R Y L 0 0 0 n 3 := rfl
    have e3 : scU sc n R Y L 0 0 0 n 3 = 0 := scU_eq
    have := hI.sm
    omega
  · intro k hk
    by_cases e : k = n
    · subst e
      rw [scU_eq, scU_eq, scU_eq, scU_eq, scU_eq, scU_eq]
      exact hrow
    · rw [scU_ne e, scU_ne e, scU_ne e, scU_ne e, scU_ne e, scU_ne e]
      exact (hI.rows k (by omega)).same (fun z h1 h2 => ho z (by omega))
  · intro k hk
    by_cases e : k = n
    · subst e
      rw [scU_eq, scU_eq]
      exact fun p hp => absurd hp (Nat.not_lt_zero p)
    · rw [stW_ne e, scU_ne e, scU_ne e]
      intro p hp
      have hK := hI.ok k (by omega)
      obtain ⟨a1, a2, a3⟩ := hI.bo k (by omega) p hp
      exact ⟨fun q hq => (a1 q hq).trans (ho _ (by omega)).symm, a2, a3⟩
  · exact fun z hz1 hz2 => (hz z (by omega)).trans (hI.zero z (by omega) hz2)
  · rw [mw_ne (by omega), up_at]
  · rw [ne2 11 (by omega) (by omega) (by omega)]; exact hI.outD
end CHG2
/-- a step of the law for the mean -/
def LStepD (l : Launch) (D : va_G) (cA : Nat → ClassId) (N : Nat) (ad : Nat → Nat) (c : Nat → va_E) (avW avM : List Value) (n : Nat) (fo : Nat → Int64) (B : Nat) : Prop :=
  ∃ (rm : Room) (mc ms k : Nat) (R1 : (Nat → va_E) → Prop), rm.cells = mc ∧ rm.slots = ms ∧ rm.frames ≤ 9 ∧ rm.locals ≤ 300 ∧ mc ≤ 1 ∧ ms ≤ 6 ∧ k < 4 ∧ Ci l yL_meanValue wL_meanValue rm avW D cA N ad c mc ms (fun v c' => v = nI k ∧ R1 c') ∧
    ∀ c', R1 c' → (∃ fs, c' 6 = .inr (2, fs)) ∧ ∃ (rm2 : Room) (R2 : UInt64 → (Nat → va_E) → Prop), rm2.cells = 0 ∧ rm2.slots = 0 ∧ rm2.frames ≤ 9 ∧ rm2.locals ≤ 300 ∧ Cd l yX2_meanValue wX2_meanValue rm2 avM D cA N ad c' 0 0 R2 ∧
      ∀ b c'', R2 b c'' → ∃ (sc' : Nat → Nat → Nat) (st' : Nat → Nat → Nat → Int32) (nw' ah' rw' : Nat → Int32) (fd' : Nat → UInt64), Inv ad cA c'' N n sc' st' (nI k) nw' ah' rw' fo fd' (B + 200) ∧ (k = 0 → FP.dcmp (fd' 0) b = some .eq)
/-- a step of the law that makes a hand -/
def GStep (l : Launch) (D : va_G) (cA : Nat → ClassId) (N : Nat) (ad : Nat → Nat) (c : Nat → va_E) (avW : List Value) (avM : (Nat → Nat) → List Value) (n : Nat) (fd : Nat → UInt64) (B : Nat) : Prop :=
  ∃ (rm : Room) (R1 : (Nat → Nat) × (Nat → va_E) → Prop), rm.cells = 4 ∧ rm.slots = 33 ∧ rm.frames ≤ 9 ∧ rm.locals ≤ 300 ∧ Gi l yL_addHand wL_addHand rm avW D cA N ad c (N + 4) 4 33 (fun v u => v = nI 0 ∧ R1 u) ∧
    ∀ u, R1 u → (∀ r, r < N → u.1 r = ad r) ∧ (∃ fs, u.2 6 = .inr (2, fs)) ∧ ∃ (rm2 : Room) (R2 : Int32 → (Nat → va_E) → Prop), rm2.cells = 0 ∧ rm2.slots = 0 ∧ rm2.frames ≤ 9 ∧ rm2.locals ≤ 300 ∧ Ci l yX2_addHand wX2_addHand rm2 (avM u.1) D cA (N + 4) u.1 u.2 0 0 R2 ∧
      ∀ b c'', R2 b c'' → ∃ (sc' : Nat → Nat → Nat) (st' : Nat → Nat → Nat → Int32) (nw' ah' rw' : Nat → Int32) (fo' : Nat → Int64), Inv u.1 cA c'' (N + 4) (n + 1) sc' st' (nI 0) nw' ah' rw' fo' fd (B + 200) ∧ fo' 0 = b.toInt64
theorem Cd.mono {l : Launch} {y : MethodName} {ws : List Cond} {rm : Room} {av : List Value} {D : va_G} {cA : Nat → ClassId} {N : Nat} {ad : Nat → Nat} {c : Nat → va_E} {mc ms : Nat} {post post' : UInt64 → (Nat → va_E) → Prop} (h : Cd l y ws rm av D cA N ad c mc ms post) (hp : ∀ v c', post v c' → post' v c') : Cd l y ws rm av D cA N ad c mc ms post' := by
  intro sz
  refine MetFree.mono (h sz) (fun _ _ h => h) (fun _ _ _ _ _ h => h) (fun a st o t _ q => ?_)
  obtain ⟨⟨⟨v, u, h1, h2, h3⟩, h4⟩, h5⟩ := q
  exact ⟨⟨⟨v, u, h1, hp v u h2, h3⟩, h4⟩, h5⟩
theorem dcmp00 : FP.dcmp FP.dconst0 FP.dconst0 = some .eq := by decide +kernel
theorem s_meanValue (l : Launch) (D : va_G) (cA : Nat → ClassId) (N : Nat) (ad : Nat → Nat) (c : Nat → va_E) (hfl : l.stackTraces = false) (n : Nat) (sc : Nat → Nat → Nat) (st : Nat → Nat → Nat → Int32) (th : Int32) (nw ah rw : Nat → Int32) (fo : Nat → Int64) (fd : Nat → UInt64) (B : Nat) (hI : Inv ad cA c N n sc st th nw ah rw fo fd B) (hB : B ≤ 110000) (x : Int32) : LStepD l D cA N ad c [.ref (ad 0), .int x, .ref (ad 11)] [.ref (ad 6), .int x] n fo B := by
  have hN := hI.hN
  have hn5 := hI.n5
  have hOk := hI.ok.ok hI.sm hB
  rcases hand_or (n := n) x hn5 with ⟨i, hi, rfl⟩ | hb
  · obtain ⟨a1, a2, a3, a4, a5, a6, a7, a8⟩ := hI.ok i hi
    obtain ⟨t, ht, et⟩ := tot_nat (V := st i 0) (K := sc i 5) (fun p hp => ((hI.bo i hi) p hp).2.1)
    have et2 : tot (sto nw (30 * i) 0) (sc i 5) = nI t := (tot_cg ((hI.bo i hi).ag (by decide))).symm.trans et
    have hnan : 1 ≤ sc i 5 → vf_n64 (FP.ddiv (FP.i2d (nI t)) (FP.i2d (nI (sc i 5)))) := fun h => (mean_num h (by omega) ht).1
    refine ⟨_, 0, 0, 0, _, rfl, rfl, by decide, by decide, by omega, by omega, by omega, w_L_meanValue l D cA N ad c (nI i) (by omega) hI.fh.1 _ (m_X1_meanValue l D cA N ad c n i (sc i 0) (sc i 1) (sc i 2) (sc i 3) (sc i 4) (sc i 5) (st i) (by omega) hI.fh hi (hI.hs i hi) (hOk i hi) (by rw [et]; exact hnan)) (fun v c' h => ⟨fd, by rw [← h.2]; exact hI.outD⟩), fun c9 h => ?_⟩
    obtain ⟨v, c', f, ⟨hv, rfl⟩, hf, rfl⟩ := h
    have I2 := hI.putD (fd' := vf_upd f 0 v)
    refine ⟨⟨_, I2.mo.1⟩, _, _, rfl, rfl, by decide, by decide, m_X2_meanValue l D cA N ad _ th n nw ah rw i (sc i 0) (sc i 1) (sc i 2) (sc i 3) (sc i 4) (sc i 5) (by omega) I2.mo hn5 hi (hI.rows i hi) (hOk i hi) (by rw [et2]; exact hnan), fun b c'' hq => ?_⟩
    obtain ⟨hb, rfl⟩ := hq
    refine ⟨sc, st, nw, ah, rw, _, I2.mod.up (by omega), fun _ => ?_⟩
    rw [show vf_upd f 0 v 0 = v from if_pos rfl, hv, hb, et, et2]
    split
    · exact dcmp00
    · exact (mean_num (by omega) (by omega) ht).2
  · refine ⟨_, 1, 6, 1, _, rfl, rfl, by decide, by decide, by omega, by omega, by omega, w_L_meanValue__c0 l D cA N ad c x (by omega) hI.fh.1 (t_X1_meanValue__h l D cA N ad c hfl n x (by omega) hI.fh hb), fun c9 h => ?_⟩
    obtain rfl := h
    refine ⟨⟨_, hI.mo.1⟩, _, _, rfl, rfl, by decide, by decide, m_X2_meanValue__h l D cA N ad _ th n nw ah rw x (by omega) hI.mo hn5 hb, fun b c'' hq => ?_⟩
    obtain rfl := hq
    exact ⟨sc, st, nw, ah, rw, fd, hI.mod.up (by omega), fun q => absurd q (by omega)⟩
theorem s_join (l : Launch) (D : va_G) (cA : Nat → ClassId) (N : Nat) (ad : Nat → Nat) (c : Nat → va_E) (hfl : l.stackTraces = false) (n : Nat) (sc : Nat → Nat → Nat) (st : Nat → Nat → Nat → Int32) (th : Int32) (nw ah rw : Nat → Int32) (fo : Nat → Int64) (fd : Nat → UInt64) (B : Nat) (hI : Inv ad cA c N n sc st th nw ah rw fo fd B) (hB : B ≤ 110000) (hinj : Inj N ad) (x y : Int32) : LStep l D cA N ad c yL_join wL_join [.ref (ad 0), .int x, .int y, .ref (ad 10)] yX2_join wX2_join [.ref (ad 6), .int x, .int y] n fd B := by
  have hN := hI.hN
  have hn5 := hI.n5
  have hOk := hI.ok.ok hI.sm hB
  rcases hand_or (n := n) x hn5 with ⟨i, hi, rfl⟩ | hb
  · rcases hand_or (n := n) y hn5 with ⟨j, hj, rfl⟩ | hb
    · by_cases hij : i = j
      · subst hij
        exact step_bad hI (k := 2) (by decide) (by decide) rfl rfl (by decide) (by decide) rfl rfl (by decide) (by decide) (w_L_join__c1 l D cA N ad c (nI i) (nI i) (by omega) hI.fh.1 (t_X1_join__a l D cA N ad c hfl n i (sc i 0) (sc i 1) (sc i 2) (sc i 3) (sc i 4) (sc i 5) (st i) (by omega) hI.fh hi (hI.hs i hi) (hOk i hi))) (fun c' hM => m_X2_join__a l D cA N ad c' th n nw ah rw i (sc i 0) (sc i 1) (sc i 2) (sc i 3) (sc i 4) (sc i 5) (by omega) hM hn5 hi (hI.rows i hi) (hOk i hi))
      · have hijA : ad (12 + 4 * i) ≠ ad (12 + 4 * j) := fun q => hij (by have := hinj _ _ (by omega) (by omega) q; omega)
        by_cases hal : sc i 1 = 0 ∧ sc j 1 = 0 ∧ sc i 0 = sc j 0
        · obtain ⟨a1, a2, a3, a4, a5, a6, a7, a8⟩ := hI.ok i hi
          obtain ⟨b1, b2, b3, b4, b5, b6, b7, b8⟩ := hI.ok j hj
          refine ⟨_, 0, 0, 0, _, rfl, rfl, by decide, by decide, by omega, by omega, by omega, w_L_join l D cA N ad c (nI i) (nI j) (by omega) hI.fh.1 _ (m_X1_join l D cA N ad c n i (sc i 0) (sc i 1) (sc i 2) (sc i 3) (sc i 4) (sc i 5) (st i) j (sc j 0) (sc j 1) (sc j 2) (sc j 3) (sc j 4) (sc j 5) (st j) (by omega) hI.fh hI.tr hi (hI.hs i hi) (hOk i hi) hj (hI.hs j hj) (hOk j hj) hijA hij hal) (fun v c' h => ?_), fun c9 h => ?_⟩
          · obtain ⟨stt, c1, ht, -, rfl⟩ := h
            exact ⟨fo, by rw [hw_ne (by omega), hw_ne (by omega), ht.ne (by omega)]; exact hI.out⟩
          · obtain ⟨v, c', f, ⟨stt, c1, ht, hv, rfl⟩, hf, rfl⟩ := h
            have hmo : MoAt ad cA (va_up (hw ad cA (hw ad cA c1 (12 + 4 * i) (sc i 0) (sc i 1) (jn (sc i 3) (sc j 3) (sc i 5) (sc j 5) (st i) (st j) (sc i 0) (0, 0, sc i 2, stB stt (st i) (sc i 5))).2.2.1 (sc i 3 + sc j 3) (sc i 4 + sc j 4) ((jn (sc i 3) (sc j 3) (sc i 5) (sc j 5) (st i) (st j) (sc i 0) (0, 0, sc i 2, stB stt (st i) (sc i 5))).1 + (jn (sc i 3) (sc j 3) (sc i 5) (sc j 5) (st i) (st j) (sc i 0) (0, 0, sc i 2, stB stt (st i) (sc i 5))).2.1) (stB (st i) (jn (sc i 3) (sc j 3) (sc i 5) (sc j 5) (st i) (st j) (sc i 0) (0, 0, sc i 2, stB stt (st i) (sc i 5))).2.2.2 ((jn (sc i 3) (sc j 3) (sc i 5) (sc j 5) (st i) (st j) (sc i 0) (0, 0, sc i 2, stB stt (st i) (sc i 5))).1 + (jn (sc i 3) (sc j 3) (sc i 5) (sc j 5) (st i) (st j) (sc i 0) (0, 0, sc i 2, stB stt (st i) (sc i 5))).2.1))) (12 + 4 * j) (sc j 0) (sc j 1) (sc j 2) 0 0 0 (st j)) 10 (.inl (cA 2, 1, .inr (.inl (vp_updL f 0 v.toInt64))))) th n nw ah rw := hI.mo.cg (fun r _ _ => by rw [va_up_ne _ _ (by omega), hw_ne (by omega), hw_ne (by omega), ht.ne (by omega)])
            refine ⟨⟨_, hmo.1⟩, _, _, rfl, rfl, by decide, by decide, m_X2_join l D cA N ad _ th n nw ah rw i (sc i 0) (sc i 1) (sc i 2) (sc i 3) (sc i 4) (sc i 5) j (sc j 0) (sc j 1) (sc j 2) (sc j 3) (sc j 4) (sc j 5) (by omega) hmo hn5 hi (hI.rows i hi) (hOk i hi) hj (hI.rows j hj) (hOk j hj) hij hal, fun b c'' hq => ?_⟩
            obtain ⟨hb, nw', rw', rfl, hrow, hrowo, hst, ho⟩ := hq
            obtain ⟨e1, e2, e3⟩ := jn_sc (S := sc i 3) (So := sc j 3) (K := sc i 5) (Ko := sc j 5) (sa := st i) (so := st j) (sa' := sto nw (30 * i)) (so' := sto nw (30 * j)) (sc i 0) (0, 0, sc i 2, stB stt (st i) (sc i 5)) (0, 0, sc i 2, fun k q => rw (3 * q + k)) rfl rfl rfl
            have hjle := jn_le (S := sc i 3) (So := sc j 3) (K := sc i 5) (Ko := sc j 5) (sa := st i) (so := st j) (sc i 0) (0, 0, sc i 2, stB stt (st i) (sc i 5)) (m := sc i 0) (by show 0 + 0 + sc i 0 ≤ sc i 0; omega)
            obtain ⟨jb, j1, j2, j3⟩ := Bo.joined (S1 := sc i 3) (So := sc j 3) (Sm := sc i 3 + sc j 3) ((hI.bo i hi).le (by omega)) ((hI.bo j hj).le (by omega)) (sc i 0) (x := (0, 0, sc i 2, stB stt (st i) (sc i 5))) (x' := (0, 0, sc i 2, fun k q => rw (3 * q + k))) rfl rfl rfl (Nat.zero_le _) (Nat.zero_le _) a4 (fun p hp => absurd hp (Nat.not_lt_zero p))
            rw [← e1, ← e2] at hst
            rw [← e1, ← e2, ← e3] at hrow
            rw [← e2] at hb
            refine ⟨_, _, nw', ah, rw', _, hI.chg2 ht hi hj hij ⟨a1, a2, a3, j3, hjle, by omega, by omega, by omega⟩ ⟨b1, b2, b3, b4⟩ rfl hrow hrowo ho (jb.same (fun k p hk hp => by rw [stB_in hk, if_pos hp]) (fun k p hk hp => hst k p hk hp)), fun _ => ?_⟩
            rw [hb, ← hv]
            simp [vp_updL]
        · exact step_bad hI (k := 3) (by decide) (by decide) rfl rfl (by decide) (by decide) rfl rfl (by decide) (by decide) (w_L_join__c2 l D cA N ad c (nI i) (nI j) (by omega) hI.fh.1 (t_X1_join__s l D cA N ad c hfl n i (sc i 0) (sc i 1) (sc i 2) (sc i 3) (sc i 4) (sc i 5) (st i) j (sc j 0) (sc j 1) (sc j 2) (sc j 3) (sc j 4) (sc j 5) (st j) (by omega) hI.fh hi (hI.hs i hi) (hOk i hi) hj (hI.hs j hj) (hOk j hj) hijA hal)) (fun c' hM => m_X2_join__s l D cA N ad c' th n nw ah rw i (sc i 0) (sc i 1) (sc i 2) (sc i 3) (sc i 4) (sc i 5) j (sc j 0) (sc j 1) (sc j 2) (sc j 3) (sc j 4) (sc j 5) (by omega) hM hn5 hi (hI.rows i hi) (hOk i hi) hj (hI.rows j hj) (hOk j hj) hij hal)
    · exact step_bad hI (k := 1) (by decide) (by decide) rfl rfl (by decide) (by decide) rfl rfl (by decide) (by decide) (w_L_join__c0 l D cA N ad c (nI i) y (by omega) hI.fh.1 (t_X1_join__g l D cA N ad c hfl n i (sc i 0) (sc i 1) (sc i 2) (sc i 3) (sc i 4) (sc i 5) (st i) y (by omega) hI.fh hi (hI.hs i hi) (hOk i hi) hb)) (fun c' hM => m_X2_join__g l D cA N ad c' th n nw ah rw i (sc i 0) (sc i 1) (sc i 2) (sc i 3) (sc i 4) (sc i 5) y (by omega) hM hn5 hi (hI.rows i hi) (hOk i hi) hb)
  · exact step_bad hI (k := 1) (by decide) (by decide) rfl rfl (by decide) (by decide) rfl rfl (by decide) (by decide) (w_L_join__c0 l D cA N ad c x y (by omega) hI.fh.1 (t_X1_join__h l D cA N ad c hfl n x y (by omega) hI.fh hb)) (fun c' hM => m_X2_join__h l D cA N ad c' th n nw ah rw x y (by omega) hM hn5 hb)
theorem s_addHand (l : Launch) (D : va_G) (cA : Nat → ClassId) (N : Nat) (ad : Nat → Nat) (c : Nat → va_E) (hfl : l.stackTraces = false) (n : Nat) (sc : Nat → Nat → Nat) (st : Nat → Nat → Nat → Int32) (th : Int32) (nw ah rw : Nat → Int32) (fo : Nat → Int64) (fd : Nat → UInt64) (B : Nat) (hI : Inv ad cA c N n sc st th nw ah rw fo fd B) (hB : B ≤ 110000) (x y z : Int32) : (LStep l D cA N ad c yL_addHand wL_addHand [.ref (ad 0), .int x, .int y, .int z, .ref (ad 10)] yX2_addHand wX2_addHand [.ref (ad 6), .int x, .int y, .int z] n fd B) ∨ GStep l D cA N ad c [.ref (ad 0), .int x, .int y, .int z, .ref (ad 10)] (fun ad => [.ref (ad 6), .int x, .int y, .int z]) n fd B := by
  have hN := hI.hN
  have hn5 := hI.n5
  have hOk := hI.ok.ok hI.sm hB
  rcases range_or x 1 (hi := 8) (by decide) (by decide) with ⟨q, hq, rfl⟩ | hb9
  · rcases range_or y 0 (hi := 1) (by decide) (by decide) with ⟨w, hw, rfl⟩ | hb9
    · rcases range_or z 0 (hi := 9999) (by decide) (by decide) with ⟨u, hu, rfl⟩ | hb9
      · by_cases hn : n < 5
        · refine Or.inr ?_
          refine ⟨_, _, rfl, rfl, by decide, by decide, w_L_addHand l D cA N (N + 4) ad c (nI q) (nI w) (nI u) (by omega) hI.fh.1 _ (m_X1_addHand l D cA N ad c n q w u hN hI.fh hn hq.1 hq.2 hw.2 hu.2) (fun v u9 h => ⟨h.2.1 10 (by omega), by omega, fo, (h.2.2.1 10 (by omega) (by omega)).trans hI.out⟩), fun u9 h => ?_⟩
          obtain ⟨v, ⟨ad', c1⟩, f, ⟨hv, had, hc1, hF, hH⟩, hf, rfl⟩ := h
          dsimp only at had hc1 hF hH hf ⊢
          have hmo : MoAt ad' cA (va_up c1 10 (.inl (cA 2, 1, .inr (.inl (vp_updL f 0 v.toInt64))))) th n nw ah rw := (hI.mo.ext (fun r hr => had r (by omega))).cg (fun r _ _ => by rw [va_up_ne _ _ (by omega), hc1 r (by omega) (by omega)])
          refine ⟨had, ⟨_, hmo.1⟩, _, _, rfl, rfl, by decide, by decide, m_X2_addHand l D cA (N + 4) ad' _ th n nw ah rw q w u (by omega) hmo hn5 hn hq.1 hq.2 hw.2 hu.2 hI.zero, fun b c'' hqq => ?_⟩
          obtain ⟨hb, nw', rfl, hrow, ho, hz⟩ := hqq
          refine ⟨_, _, nw', ah, rw, _, hI.more hn ⟨hq.1, hq.2, hw.2, hu.2⟩ had hc1 hF hH hrow ho hz, ?_⟩
          rw [hb, ← hv]
          simp [vp_updL]
        · have hn5' : n = 5 := by omega
          have hg : (nI 1 ≤ nI q ∧ nI q ≤ nI 8) ∧ (nI 0 ≤ nI w ∧ nI w ≤ nI 1) ∧ (nI 0 ≤ nI u ∧ nI u ≤ nI 9999) := ⟨⟨nI_le hq.1 (by omega), nI_le hq.2 (by omega)⟩, ⟨nI_le hw.1 (by omega), nI_le hw.2 (by omega)⟩, nI_le hu.1 (by omega), nI_le hu.2 (by omega)⟩
          exact Or.inl (step_bad hI (k := 2) (by decide) (by decide) rfl rfl (by decide) (by decide) rfl rfl (by decide) (by decide) (w_L_addHand__c1 l D cA N ad c (nI q) (nI w) (nI u) (by omega) hI.fh.1 (t_X1_addHand__s l D cA N ad c hfl n (nI q) (nI w) (nI u) (by omega) hI.fh hg hn5')) (fun c' hM => m_X2_addHand__s l D cA N ad c' th n nw ah rw (nI q) (nI w) (nI u) (by omega) hM hn5 hg hn5'))
      · have hb := fun h : (nI 1 ≤ (nI q) ∧ (nI q) ≤ nI 8) ∧ (nI 0 ≤ (nI w) ∧ (nI w) ≤ nI 1) ∧ (nI 0 ≤ z ∧ z ≤ nI 9999) => hb9 h.2.2
        exact Or.inl (step_bad hI (k := 1) (by decide) (by decide) rfl rfl (by decide) (by decide) rfl rfl (by decide) (by decide) (w_L_addHand__c0 l D cA N ad c (nI q) (nI w) z (by omega) hI.fh.1 (t_X1_addHand__a l D cA N ad c hfl n (nI q) (nI w) z (by omega) hI.fh hb)) (fun c' hM => m_X2_addHand__a l D cA N ad c' th n nw ah rw (nI q) (nI w) z (by omega) hM hn5 hb))
    · have hb := fun h : (nI 1 ≤ (nI q) ∧ (nI q) ≤ nI 8) ∧ (nI 0 ≤ y ∧ y ≤ nI 1) ∧ (nI 0 ≤ z ∧ z ≤ nI 9999) => hb9 h.2.1
      exact Or.inl (step_bad hI (k := 1) (by decide) (by decide) rfl rfl (by decide) (by decide) rfl rfl (by decide) (by decide) (w_L_addHand__c0 l D cA N ad c (nI q) y z (by omega) hI.fh.1 (t_X1_addHand__a l D cA N ad c hfl n (nI q) y z (by omega) hI.fh hb)) (fun c' hM => m_X2_addHand__a l D cA N ad c' th n nw ah rw (nI q) y z (by omega) hM hn5 hb))
  · have hb := fun h : (nI 1 ≤ x ∧ x ≤ nI 8) ∧ (nI 0 ≤ y ∧ y ≤ nI 1) ∧ (nI 0 ≤ z ∧ z ≤ nI 9999) => hb9 h.1
    exact Or.inl (step_bad hI (k := 1) (by decide) (by decide) rfl rfl (by decide) (by decide) rfl rfl (by decide) (by decide) (w_L_addHand__c0 l D cA N ad c x y z (by omega) hI.fh.1 (t_X1_addHand__a l D cA N ad c hfl n x y z (by omega) hI.fh hb)) (fun c' hM => m_X2_addHand__a l D cA N ad c' th n nw ah rw x y z (by omega) hM hn5 hb))
