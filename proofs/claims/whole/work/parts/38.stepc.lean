section STEPC
variable {l : Launch} {D : va_G} {ad : Nat → Nat} {cA : Nat → ClassId} {c : Nat → va_E} {N n : Nat} {sc : Nat → Nat → Nat} {st : Nat → Nat → Nat → Int32} {th : Int32} {nw ah rw : Nat → Int32} {fo : Nat → Int64} {fd : Nat → UInt64} {B : Nat}
variable {yW yM : MethodName} {wW wM : List Cond} {avW avM : List Value} {rm rm2 : Room} {i R Y L S D9 K : Nat} {s s2 : Nat → Nat → Int32}
/-- an op that changes one hand -/
theorem step_chg (hI : Inv ad cA c N n sc st th nw ah rw fo fd B) (hi : i < n) (hb : 1 ≤ R ∧ R ≤ 8 ∧ Y ≤ 1 ∧ L ≤ 9999 ∧ K ≤ R ∧ K ≤ S ∧ S ≤ D9 ∧ D9 ≤ 9 * S) (hs1 : sc i 3 ≤ S) (hs2 : S ≤ sc i 3 + 200) (hbo : Bo K S s s2) {P Q : Int32 → Prop} (h1 : rm.cells = 0) (h2 : rm.slots = 0) (h3 : rm.frames ≤ 9) (h4 : rm.locals ≤ 300) (g1 : rm2.cells = 0) (g2 : rm2.slots = 0) (g3 : rm2.frames ≤ 9) (g4 : rm2.locals ≤ 300)
    (M : Ci l yW wW rm avW D cA N ad c 0 0 (fun v9 c9 => v9 = nI 0 ∧ ∃ v c' f, (P v ∧ hw ad cA c (12 + 4 * i) R Y L S D9 K s = c') ∧ c' 10 = .inl (cA 2, 1, .inr (.inl f)) ∧ c9 = va_up c' 10 (.inl (cA 2, 1, .inr (.inl (vp_updL f 0 v.toInt64))))))
    (M2 : ∀ c', MoAt ad cA c' th n nw ah rw → Ci l yM wM rm2 avM D cA N ad c' 0 0 (fun b c'' => Q b ∧ ∃ nw', mw ad cA c' (nI 0) n nw' ah rw = c'' ∧ RowE nw' (30 * i) R Y L S D9 K ∧ (∀ k q, k < 3 → sto nw' (30 * i) k q = s2 k q) ∧ Out nw' nw (30 * i)))
    (hag : ∀ v b, P v → Q b → v = b) : LStep l D cA N ad c yW wW avW yM wM avM n fd B := by
  have hN := hI.hN
  refine ⟨rm, 0, 0, 0, _, h1, h2, h3, h4, by omega, by omega, by omega, M, fun c9 h => ?_⟩
  obtain ⟨v, c', f, ⟨hp, rfl⟩, hf, rfl⟩ := h
  have hmo : MoAt ad cA (va_up (hw ad cA c (12 + 4 * i) R Y L S D9 K s) 10 (.inl (cA 2, 1, .inr (.inl (vp_updL f 0 v.toInt64))))) th n nw ah rw := hI.mo.cg (fun r _ _ => by rw [va_up_ne _ _ (by omega), hw_ne (by omega)])
  refine ⟨⟨_, hmo.1⟩, rm2, _, g1, g2, g3, g4, M2 _ hmo, fun b c'' hq => ?_⟩
  obtain ⟨hq, nw', rfl, hrow, hst, ho⟩ := hq
  refine ⟨_, _, nw', ah, rw, _, hI.chg hi hb hs1 hs2 hrow ho (hbo.same (fun _ _ _ _ => rfl) (fun k p hk _ => hst k p hk)), fun _ => ?_⟩
  rw [← hag v b hp hq]
  simp [vp_updL]
end STEPC
theorem s_setLuck (l : Launch) (D : va_G) (cA : Nat → ClassId) (N : Nat) (ad : Nat → Nat) (c : Nat → va_E) (hfl : l.stackTraces = false) (n : Nat) (sc : Nat → Nat → Nat) (st : Nat → Nat → Nat → Int32) (th : Int32) (nw ah rw : Nat → Int32) (fo : Nat → Int64) (fd : Nat → UInt64) (B : Nat) (hI : Inv ad cA c N n sc st th nw ah rw fo fd B) (hB : B ≤ 110000) (x y : Int32) : LStep l D cA N ad c yL_setLuck wL_setLuck [.ref (ad 0), .int x, .int y, .ref (ad 10)] yX2_setLuck wX2_setLuck [.ref (ad 6), .int x, .int y] n fd B := by
  have hN := hI.hN
  have hn5 := hI.n5
  have hOk := hI.ok.ok hI.sm hB
  rcases hand_or (n := n) x hn5 with ⟨i, hi, rfl⟩ | hb
  · obtain ⟨a1, a2, a3, a4, a5, a6, a7, a8⟩ := hI.ok i hi
    rcases range_or y 0 (hi := 9999) (by decide) (by decide) with ⟨q, hq, rfl⟩ | hb
    · refine step_chg hI hi ⟨a1, a2, a3, hq.2, a5, a6, a7, a8⟩ (Nat.le_refl _) (by omega) (hI.bo i hi) (P := fun v => v = nI (sc i 2)) (Q := fun b => b = nI (sc i 2)) rfl rfl (by decide) (by decide) rfl rfl (by decide) (by decide) (w_L_setLuck l D cA N ad c (nI i) (nI q) (by omega) hI.fh.1 _ (m_X1_setLuck l D cA N ad c n i (sc i 0) (sc i 1) (sc i 2) (sc i 3) (sc i 4) (sc i 5) (st i) q (by omega) hI.fh hi (hI.hs i hi) (hOk i hi) hq.2) (fun v c' h => ⟨fo, (by rw [← h.2, hw_ne (by omega)]; exact hI.out)⟩)) (fun c' hM => m_X2_setLuck l D cA N ad c' th n nw ah rw i (sc i 0) (sc i 1) (sc i 2) (sc i 3) (sc i 4) (sc i 5) q (by omega) hM hn5 hi (hI.rows i hi) (hOk i hi) hq.2) ?_
      exact fun v b h1 h2 => h1.trans h2.symm
    · exact step_bad hI (k := 2) (by decide) (by decide) rfl rfl (by decide) (by decide) rfl rfl (by decide) (by decide) (w_L_setLuck__c1 l D cA N ad c (nI i) y (by omega) hI.fh.1 (t_X1_setLuck__a l D cA N ad c hfl n i (sc i 0) (sc i 1) (sc i 2) (sc i 3) (sc i 4) (sc i 5) (st i) y (by omega) hI.fh hi (hI.hs i hi) (hOk i hi) hb)) (fun c' hM => m_X2_setLuck__a l D cA N ad c' th n nw ah rw i (sc i 0) (sc i 1) (sc i 2) (sc i 3) (sc i 4) (sc i 5) y (by omega) hM hn5 hi (hI.rows i hi) (hOk i hi) hb)
  · exact step_bad hI (k := 1) (by decide) (by decide) rfl rfl (by decide) (by decide) rfl rfl (by decide) (by decide) (w_L_setLuck__c0 l D cA N ad c x y (by omega) hI.fh.1 (t_X1_setLuck__h l D cA N ad c hfl n x y (by omega) hI.fh hb)) (fun c' hM => m_X2_setLuck__h l D cA N ad c' th n nw ah rw x y (by omega) hM hn5 hb)
theorem pk_K1 {R Y L S D K w : Nat} : (pk R Y L S D K w).2.2 ≤ K + 1 := by
  unfold pk
  split
  · exact Nat.le_refl _
  · split
    · split <;> exact Nat.le_succ _
    · split <;> exact Nat.le_succ _
theorem s_mix (l : Launch) (D : va_G) (cA : Nat → ClassId) (N : Nat) (ad : Nat → Nat) (c : Nat → va_E) (hfl : l.stackTraces = false) (n : Nat) (sc : Nat → Nat → Nat) (st : Nat → Nat → Nat → Int32) (th : Int32) (nw ah rw : Nat → Int32) (fo : Nat → Int64) (fd : Nat → UInt64) (B : Nat) (hI : Inv ad cA c N n sc st th nw ah rw fo fd B) (hB : B ≤ 110000) (x : Int32) : LStep l D cA N ad c yL_mix wL_mix [.ref (ad 0), .int x, .ref (ad 10)] yX2_mix wX2_mix [.ref (ad 6), .int x] n fd B := by
  have hN := hI.hN
  have hn5 := hI.n5
  have hOk := hI.ok.ok hI.sm hB
  rcases hand_or (n := n) x hn5 with ⟨i, hi, rfl⟩ | hb
  · obtain ⟨a1, a2, a3, a4, a5, a6, a7, a8⟩ := hI.ok i hi
    obtain ⟨b1, b2, b3⟩ := Bo.mixed (K := sc i 5) (S := sc i 3) (j := sc i 5 - 1) (x := (sc i 2, st i, 0)) (x' := (sc i 2, sto nw (30 * i), 0)) (by omega) rfl rfl (hI.bo i hi)
    have hL := mixF_le (j := sc i 5 - 1) (x := (sc i 2, st i, 0)) a4
    refine step_chg hI hi ⟨a1, a2, a3, hL, a5, a6, a7, a8⟩ (Nat.le_refl _) (by omega) b3 (P := fun v => v = nI (mixF (sc i 5 - 1) (sc i 2, st i, 0)).2.2) (Q := fun b => b = nI (mixF (sc i 5 - 1) (sc i 2, sto nw (30 * i), 0)).2.2) rfl rfl (by decide) (by decide) rfl rfl (by decide) (by decide) (w_L_mix l D cA N ad c (nI i) (by omega) hI.fh.1 _ (m_X1_mix l D cA N ad c n i (sc i 0) (sc i 1) (sc i 2) (sc i 3) (sc i 4) (sc i 5) (st i) (by omega) hI.fh hi (hI.hs i hi) (hOk i hi)) (fun v c' h => ⟨fo, (by rw [← h.2, hw_ne (by omega)]; exact hI.out)⟩)) (fun c' hM => (m_X2_mix l D cA N ad c' th n nw ah rw i (sc i 0) (sc i 1) (sc i 2) (sc i 3) (sc i 4) (sc i 5) (by omega) hM hn5 hi (hI.rows i hi) (hOk i hi)).mono (fun v c' h => by rw [b1]; exact h)) ?_
    exact fun v b h1 h2 => by rw [h1, h2, b2]
  · exact step_bad hI (k := 1) (by decide) (by decide) rfl rfl (by decide) (by decide) rfl rfl (by decide) (by decide) (w_L_mix__c0 l D cA N ad c x (by omega) hI.fh.1 (t_X1_mix__h l D cA N ad c hfl n x (by omega) hI.fh hb)) (fun c' hM => m_X2_mix__h l D cA N ad c' th n nw ah rw x (by omega) hM hn5 hb)
theorem s_offer (l : Launch) (D : va_G) (cA : Nat → ClassId) (N : Nat) (ad : Nat → Nat) (c : Nat → va_E) (hfl : l.stackTraces = false) (n : Nat) (sc : Nat → Nat → Nat) (st : Nat → Nat → Nat → Int32) (th : Int32) (nw ah rw : Nat → Int32) (fo : Nat → Int64) (fd : Nat → UInt64) (B : Nat) (hI : Inv ad cA c N n sc st th nw ah rw fo fd B) (hB : B ≤ 110000) (x y z : Int32) : LStep l D cA N ad c yL_offer wL_offer [.ref (ad 0), .int x, .int y, .int z, .ref (ad 10)] yX2_offer wX2_offer [.ref (ad 6), .int x, .int y, .int z] n fd B := by
  have hN := hI.hN
  have hn5 := hI.n5
  have hOk := hI.ok.ok hI.sm hB
  rcases hand_or (n := n) x hn5 with ⟨i, hi, rfl⟩ | hb
  · obtain ⟨a1, a2, a3, a4, a5, a6, a7, a8⟩ := hI.ok i hi
    rcases range_or y 0 (hi := 999) (by decide) (by decide) with ⟨q, hq, rfl⟩ | hb9
    · rcases range_or z 1 (hi := 9) (by decide) (by decide) with ⟨w, hw, rfl⟩ | hb9
      · obtain ⟨-, p2, p3⟩ := pk9_in (R := sc i 0) (Y := sc i 1) (L := sc i 2) (S := sc i 3 + 1) (D := sc i 4 + w) (K := sc i 5) (w := w) (by omega) a5
        have p4 := pk_K1 (R := sc i 0) (Y := sc i 1) (L := sc i 2) (S := sc i 3 + 1) (D := sc i 4 + w) (K := sc i 5) (w := w)
        refine step_chg hI hi ⟨a1, a2, a3, p3 a4, p2, by omega, by omega, by omega⟩ (by omega) (by omega) ((hI.bo i hi).come (R := sc i 0) (Y := sc i 1) (L := sc i 2) (S9 := sc i 3 + 1) (D := sc i 4 + w) (w := w) (wv := nI w) (x := q) (t := sc i 3 + 1) (S' := sc i 3 + 1) hq.2 (by omega) (Nat.le_refl _)) (P := fun v => v = oI (pk (sc i 0) (sc i 1) (sc i 2) (sc i 3 + 1) (sc i 4 + w) (sc i 5) w).1) (Q := fun b => b = oI (pk (sc i 0) (sc i 1) (sc i 2) (sc i 3 + 1) (sc i 4 + w) (sc i 5) w).1) rfl rfl (by decide) (by decide) rfl rfl (by decide) (by decide) (w_L_offer l D cA N ad c (nI i) (nI q) (nI w) (by omega) hI.fh.1 _ (m_X1_offer l D cA N ad c n i (sc i 0) (sc i 1) (sc i 2) (sc i 3) (sc i 4) (sc i 5) (st i) q w (by omega) hI.fh hi (hI.hs i hi) (hOk i hi) hq.2 hw.1 hw.2) (fun v c' h => ⟨fo, (by rw [← h.2, hw_ne (by omega)]; exact hI.out)⟩)) (fun c' hM => m_X2_offer l D cA N ad c' th n nw ah rw i (sc i 0) (sc i 1) (sc i 2) (sc i 3) (sc i 4) (sc i 5) q w (by omega) hM hn5 hi (hI.rows i hi) (hOk i hi) hq.2 hw.1 hw.2) ?_
        exact fun v b h1 h2 => h1.trans h2.symm
      · have hb := fun h : (nI 0 ≤ nI q ∧ nI q ≤ nI 999) ∧ (nI 1 ≤ z ∧ z ≤ nI 9) => hb9 h.2
        exact step_bad hI (k := 2) (by decide) (by decide) rfl rfl (by decide) (by decide) rfl rfl (by decide) (by decide) (w_L_offer__c1 l D cA N ad c (nI i) (nI q) z (by omega) hI.fh.1 (t_X1_offer__a l D cA N ad c hfl n i (sc i 0) (sc i 1) (sc i 2) (sc i 3) (sc i 4) (sc i 5) (st i) (nI q) z (by omega) hI.fh hi (hI.hs i hi) (hOk i hi) hb)) (fun c' hM => m_X2_offer__a l D cA N ad c' th n nw ah rw i (sc i 0) (sc i 1) (sc i 2) (sc i 3) (sc i 4) (sc i 5) (nI q) z (by omega) hM hn5 hi (hI.rows i hi) (hOk i hi) hb)
    · have hb := fun h : (nI 0 ≤ y ∧ y ≤ nI 999) ∧ (nI 1 ≤ z ∧ z ≤ nI 9) => hb9 h.1
      exact step_bad hI (k := 2) (by decide) (by decide) rfl rfl (by decide) (by decide) rfl rfl (by decide) (by decide) (w_L_offer__c1 l D cA N ad c (nI i) y z (by omega) hI.fh.1 (t_X1_offer__a l D cA N ad c hfl n i (sc i 0) (sc i 1) (sc i 2) (sc i 3) (sc i 4) (sc i 5) (st i) y z (by omega) hI.fh hi (hI.hs i hi) (hOk i hi) hb)) (fun c' hM => m_X2_offer__a l D cA N ad c' th n nw ah rw i (sc i 0) (sc i 1) (sc i 2) (sc i 3) (sc i 4) (sc i 5) y z (by omega) hM hn5 hi (hI.rows i hi) (hOk i hi) hb)
  · exact step_bad hI (k := 1) (by decide) (by decide) rfl rfl (by decide) (by decide) rfl rfl (by decide) (by decide) (w_L_offer__c0 l D cA N ad c x y z (by omega) hI.fh.1 (t_X1_offer__h l D cA N ad c hfl n x y z (by omega) hI.fh hb)) (fun c' hM => m_X2_offer__h l D cA N ad c' th n nw ah rw x y z (by omega) hM hn5 hb)
theorem rwS_K {R Y w : Nat} {x : Nat × Nat × Nat × Nat} : ∀ k, (rwS R Y w k x).2.2.2 ≤ x.2.2.2 + k
  | 0 => Nat.le_refl _
  | k + 1 => by
    have ih := rwS_K (R := R) (Y := Y) (w := w) (x := x) k
    have h := pk_K1 (R := R) (Y := Y) (L := (rwS R Y w k x).1) (S := (rwS R Y w k x).2.1 + 1) (D := (rwS R Y w k x).2.2.1 + wtR w k) (K := (rwS R Y w k x).2.2.2) (w := wtR w k)
    show (pk R Y (rwS R Y w k x).1 ((rwS R Y w k x).2.1 + 1) ((rwS R Y w k x).2.2.1 + wtR w k) (rwS R Y w k x).2.2.2 (wtR w k)).2.2 ≤ _
    omega
theorem s_offerRow (l : Launch) (D : va_G) (cA : Nat → ClassId) (N : Nat) (ad : Nat → Nat) (c : Nat → va_E) (hfl : l.stackTraces = false) (n : Nat) (sc : Nat → Nat → Nat) (st : Nat → Nat → Nat → Int32) (th : Int32) (nw ah rw : Nat → Int32) (fo : Nat → Int64) (fd : Nat → UInt64) (B : Nat) (hI : Inv ad cA c N n sc st th nw ah rw fo fd B) (hB : B ≤ 110000) (x y z u : Int32) : LStep l D cA N ad c yL_offerRow wL_offerRow [.ref (ad 0), .int x, .int y, .int z, .int u, .ref (ad 10)] yX2_offerRow wX2_offerRow [.ref (ad 6), .int x, .int y, .int z, .int u] n fd B := by
  have hN := hI.hN
  have hn5 := hI.n5
  have hOk := hI.ok.ok hI.sm hB
  rcases hand_or (n := n) x hn5 with ⟨i, hi, rfl⟩ | hb
  · obtain ⟨a1, a2, a3, a4, a5, a6, a7, a8⟩ := hI.ok i hi
    rcases range_or y 0 (hi := 999) (by decide) (by decide) with ⟨q, hq, rfl⟩ | hb9
    · rcases range_or z 1 (hi := 9) (by decide) (by decide) with ⟨w, hw, rfl⟩ | hb9
      · rcases range_or u 1 (hi := 200) (by decide) (by decide) with ⟨m, hm, rfl⟩ | hb9
        · obtain ⟨i1, i2, i3, i5, i4⟩ := rwS_in (R := sc i 0) (Y := sc i 1) (w := w) (by omega) (x := (sc i 2, sc i 3, sc i 4, sc i 5)) a4 a5 m
          have i6 := rwS_K (R := sc i 0) (Y := sc i 1) (w := w) (x := (sc i 2, sc i 3, sc i 4, sc i 5)) m
          dsimp only at i1 i2 i3 i4 i5 i6
          refine step_chg hI hi ⟨a1, a2, a3, i1, i4, by omega, by omega, by omega⟩ (by omega) (by omega) (Bo.row (R := sc i 0) (Y := sc i 1) (w := w) (v := q) (y := (sc i 2, sc i 3, sc i 4, sc i 5)) (hI.bo i hi) m) (P := fun v => v = nI (rwC (sc i 0) (sc i 1) w (sc i 2, sc i 3, sc i 4, sc i 5) m)) (Q := fun b => b = nI (rwC (sc i 0) (sc i 1) w (sc i 2, sc i 3, sc i 4, sc i 5) m)) rfl rfl (by decide) (by decide) rfl rfl (by decide) (by decide) (w_L_offerRow l D cA N ad c (nI i) (nI q) (nI w) (nI m) (by omega) hI.fh.1 _ (m_X1_offerRow l D cA N ad c n i (sc i 0) (sc i 1) (sc i 2) (sc i 3) (sc i 4) (sc i 5) (st i) q w m (by omega) hI.fh hi (hI.hs i hi) (hOk i hi) hq.2 hw.1 hw.2 hm.1 hm.2) (fun v c' h => ⟨fo, (by rw [← h.2, hw_ne (by omega)]; exact hI.out)⟩)) (fun c' hM => m_X2_offerRow l D cA N ad c' th n nw ah rw i (sc i 0) (sc i 1) (sc i 2) (sc i 3) (sc i 4) (sc i 5) q w m (by omega) hM hn5 hi (hI.rows i hi) (hOk i hi) hq.2 hw.1 hw.2 hm.1 hm.2) ?_
          exact fun v b h1 h2 => h1.trans h2.symm
        · have hb := fun h : (nI 0 ≤ (nI q) ∧ (nI q) ≤ nI 999) ∧ (nI 1 ≤ (nI w) ∧ (nI w) ≤ nI 9) ∧ (nI 1 ≤ u ∧ u ≤ nI 200) => hb9 h.2.2
          exact step_bad hI (k := 2) (by decide) (by decide) rfl rfl (by decide) (by decide) rfl rfl (by decide) (by decide) (w_L_offerRow__c1 l D cA N ad c (nI i) (nI q) (nI w) u (by omega) hI.fh.1 (t_X1_offerRow__a l D cA N ad c hfl n i (sc i 0) (sc i 1) (sc i 2) (sc i 3) (sc i 4) (sc i 5) (st i) (nI q) (nI w) u (by omega) hI.fh hi (hI.hs i hi) (hOk i hi) hb)) (fun c' hM => m_X2_offerRow__a l D cA N ad c' th n nw ah rw i (sc i 0) (sc i 1) (sc i 2) (sc i 3) (sc i 4) (sc i 5) (nI q) (nI w) u (by omega) hM hn5 hi (hI.rows i hi) (hOk i hi) hb)
      · have hb := fun h : (nI 0 ≤ (nI q) ∧ (nI q) ≤ nI 999) ∧ (nI 1 ≤ z ∧ z ≤ nI 9) ∧ (nI 1 ≤ u ∧ u ≤ nI 200) => hb9 h.2.1
        exact step_bad hI (k := 2) (by decide) (by decide) rfl rfl (by decide) (by decide) rfl rfl (by decide) (by decide) (w_L_offerRow__c1 l D cA N ad c (nI i) (nI q) z u (by omega) hI.fh.1 (t_X1_offerRow__a l D cA N ad c hfl n i (sc i 0) (sc i 1) (sc i 2) (sc i 3) (sc i 4) (sc i 5) (st i) (nI q) z u (by omega) hI.fh hi (hI.hs i hi) (hOk i hi) hb)) (fun c' hM => m_X2_offerRow__a l D cA N ad c' th n nw ah rw i (sc i 0) (sc i 1) (sc i 2) (sc i 3) (sc i 4) (sc i 5) (nI q) z u (by omega) hM hn5 hi (hI.rows i hi) (hOk i hi) hb)
    · have hb := fun h : (nI 0 ≤ y ∧ y ≤ nI 999) ∧ (nI 1 ≤ z ∧ z ≤ nI 9) ∧ (nI 1 ≤ u ∧ u ≤ nI 200) => hb9 h.1
      exact step_bad hI (k := 2) (by decide) (by decide) rfl rfl (by decide) (by decide) rfl rfl (by decide) (by decide) (w_L_offerRow__c1 l D cA N ad c (nI i) y z u (by omega) hI.fh.1 (t_X1_offerRow__a l D cA N ad c hfl n i (sc i 0) (sc i 1) (sc i 2) (sc i 3) (sc i 4) (sc i 5) (st i) y z u (by omega) hI.fh hi (hI.hs i hi) (hOk i hi) hb)) (fun c' hM => m_X2_offerRow__a l D cA N ad c' th n nw ah rw i (sc i 0) (sc i 1) (sc i 2) (sc i 3) (sc i 4) (sc i 5) y z u (by omega) hM hn5 hi (hI.rows i hi) (hOk i hi) hb)
  · exact step_bad hI (k := 1) (by decide) (by decide) rfl rfl (by decide) (by decide) rfl rfl (by decide) (by decide) (w_L_offerRow__c0 l D cA N ad c x y z u (by omega) hI.fh.1 (t_X1_offerRow__h l D cA N ad c hfl n x y z u (by omega) hI.fh hb)) (fun c' hM => m_X2_offerRow__h l D cA N ad c' th n nw ah rw x y z u (by omega) hM hn5 hb)
theorem nI_sub1 {q : Nat} (h : 1 ≤ q) : nI q - nI 1 = nI (q - 1) := by
  obtain ⟨k, rfl⟩ : ∃ k, q = k + 1 := ⟨q - 1, by omega⟩
  rw [← nI_add, Int32.add_sub_cancel, Nat.add_sub_cancel]
theorem s_drawsUntil (l : Launch) (D : va_G) (cA : Nat → ClassId) (N : Nat) (ad : Nat → Nat) (c : Nat → va_E) (hfl : l.stackTraces = false) (n : Nat) (sc : Nat → Nat → Nat) (st : Nat → Nat → Nat → Int32) (th : Int32) (nw ah rw : Nat → Int32) (fo : Nat → Int64) (fd : Nat → UInt64) (B : Nat) (hI : Inv ad cA c N n sc st th nw ah rw fo fd B) (hB : B ≤ 110000) (x y z : Int32) : LStep l D cA N ad c yL_drawsUntil wL_drawsUntil [.ref (ad 0), .int x, .int y, .int z, .ref (ad 10)] yX2_drawsUntil wX2_drawsUntil [.ref (ad 6), .int x, .int y, .int z] n fd B := by
  have hN := hI.hN
  have hn5 := hI.n5
  have hOk := hI.ok.ok hI.sm hB
  rcases hand_or (n := n) x hn5 with ⟨i, hi, rfl⟩ | hb
  · rcases range_or y 1 (hi := 100) (by decide) (by decide) with ⟨q, hq, rfl⟩ | hb9
    · rcases range_or z 0 (hi := q - 1) (by omega) (by omega) with ⟨r, hr, rfl⟩ | hb9
      · refine step_good hI (P := fun v => Fst (fun k => nlI (k + 1) (sc i 2) % q = r) 1 500 v) (Q := fun b => Fst (fun k => nlI (k + 1) (sc i 2) % q = r) 1 500 b) rfl rfl (by decide) (by decide) rfl rfl (by decide) (by decide) (w_L_drawsUntil l D cA N ad c (nI i) (nI q) (nI r) (by omega) hI.fh.1 _ ((m_X1_drawsUntil l D cA N ad c n i (sc i 0) (sc i 1) (sc i 2) (sc i 3) (sc i 4) (sc i 5) (st i) q r (by omega) hI.fh hI.tr hi (hI.hs i hi) (hOk i hi) hq.1 hq.2 (by omega)).mono (fun v c' h => h)) (fun v c' h => ⟨fo, (h.2.ne (by omega)).trans hI.out⟩)) (fun c' hM => (m_X2_drawsUntil l D cA N ad c' th n nw ah rw i (sc i 0) (sc i 1) (sc i 2) (sc i 3) (sc i 4) (sc i 5) q r (by omega) hM hn5 hi (hI.rows i hi) (hOk i hi) hq.1 hq.2 (by omega)).mono (fun v c' h => ⟨h.1, _, _, h.2⟩)) ?_
        exact fun v b h1 h2 => Fst.uniq h1 h2
      · have hb := fun h : (nI 1 ≤ nI q ∧ nI q ≤ nI 100) ∧ (nI 0 ≤ z ∧ z ≤ nI q - nI 1) => hb9 ⟨h.2.1, by rw [← nI_sub1 hq.1]; exact h.2.2⟩
        exact step_bad hI (k := 2) (by decide) (by decide) rfl rfl (by decide) (by decide) rfl rfl (by decide) (by decide) (w_L_drawsUntil__c1 l D cA N ad c (nI i) (nI q) z (by omega) hI.fh.1 (t_X1_drawsUntil__a l D cA N ad c hfl n i (sc i 0) (sc i 1) (sc i 2) (sc i 3) (sc i 4) (sc i 5) (st i) (nI q) z (by omega) hI.fh hi (hI.hs i hi) (hOk i hi) hb)) (fun c' hM => m_X2_drawsUntil__a l D cA N ad c' th n nw ah rw i (sc i 0) (sc i 1) (sc i 2) (sc i 3) (sc i 4) (sc i 5) (nI q) z (by omega) hM hn5 hi (hI.rows i hi) (hOk i hi) hb)
    · have hb := fun h : (nI 1 ≤ y ∧ y ≤ nI 100) ∧ (nI 0 ≤ z ∧ z ≤ y - nI 1) => hb9 h.1
      exact step_bad hI (k := 2) (by decide) (by decide) rfl rfl (by decide) (by decide) rfl rfl (by decide) (by decide) (w_L_drawsUntil__c1 l D cA N ad c (nI i) y z (by omega) hI.fh.1 (t_X1_drawsUntil__a l D cA N ad c hfl n i (sc i 0) (sc i 1) (sc i 2) (sc i 3) (sc i 4) (sc i 5) (st i) y z (by omega) hI.fh hi (hI.hs i hi) (hOk i hi) hb)) (fun c' hM => m_X2_drawsUntil__a l D cA N ad c' th n nw ah rw i (sc i 0) (sc i 1) (sc i 2) (sc i 3) (sc i 4) (sc i 5) y z (by omega) hM hn5 hi (hI.rows i hi) (hOk i hi) hb)
  · exact step_bad hI (k := 1) (by decide) (by decide) rfl rfl (by decide) (by decide) rfl rfl (by decide) (by decide) (w_L_drawsUntil__c0 l D cA N ad c x y z (by omega) hI.fh.1 (t_X1_drawsUntil__h l D cA N ad c hfl n x y z (by omega) hI.fh hb)) (fun c' hM => m_X2_drawsUntil__h l D cA N ad c' th n nw ah rw x y z (by omega) hM hn5 hb)
