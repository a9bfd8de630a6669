/-! a step of the law: the class's wrapper, then the reference; they answer alike -/
def LStep (l : Launch) (D : va_G) (cA : Nat → ClassId) (N : Nat) (ad : Nat → Nat) (c : Nat → va_E) (yW : MethodName) (wW : List Cond) (avW : List Value) (yM : MethodName) (wM : List Cond) (avM : List Value) (n : Nat) (fd : Nat → UInt64) (B : Nat) : Prop :=
  ∃ (rm : Room) (mc ms k : Nat) (R1 : (Nat → va_E) → Prop), rm.cells = mc ∧ rm.slots = ms ∧ rm.frames ≤ 9 ∧ rm.locals ≤ 300 ∧ mc ≤ 1 ∧ ms ≤ 6 ∧ k < 4 ∧ Ci l yW wW rm avW D cA N ad c mc ms (fun v c' => v = nI k ∧ R1 c') ∧
    ∀ c', R1 c' → (∃ fs, c' 6 = .inr (2, fs)) ∧ ∃ (rm2 : Room) (R2 : Int32 → (Nat → va_E) → Prop), rm2.cells = 0 ∧ rm2.slots = 0 ∧ rm2.frames ≤ 9 ∧ rm2.locals ≤ 300 ∧ Ci l yM wM rm2 avM D cA N ad c' 0 0 R2 ∧
      ∀ b c'', R2 b c'' → ∃ (sc' : Nat → Nat → Nat) (st' : Nat → Nat → Nat → Int32) (nw' ah' rw' : Nat → Int32) (fo' : Nat → Int64), Inv ad cA c'' N n sc' st' (nI k) nw' ah' rw' fo' fd (B + 200) ∧ (k = 0 → fo' 0 = b.toInt64)
section STEP
variable {l : Launch} {D : va_G} {ad : Nat → Nat} {cA : Nat → ClassId} {c c' : Nat → va_E} {N n : Nat} {sc : Nat → Nat → Nat} {st : Nat → Nat → Nat → Int32} {th : Int32} {nw ah rw : Nat → Int32} {fo : Nat → Int64} {fd : Nat → UInt64} {B : Nat}
variable {yW yM : MethodName} {wW wM : List Cond} {avW avM : List Value} {rm rm2 : Room}
theorem step_good (hI : Inv ad cA c N n sc st th nw ah rw fo fd B) {P Q : Int32 → Prop} (h1 : rm.cells = 0) (h2 : rm.slots = 0) (h3 : rm.frames ≤ 9) (h4 : rm.locals ≤ 300) (g1 : rm2.cells = 0) (g2 : rm2.slots = 0) (g3 : rm2.frames ≤ 9) (g4 : rm2.locals ≤ 300)
    (M : Ci l yW wW rm avW D cA N ad c 0 0 (fun v9 c9 => v9 = nI 0 ∧ ∃ v c' f, (P v ∧ Tr ad cA c c') ∧ c' 10 = .inl (cA 2, 1, .inr (.inl f)) ∧ c9 = va_up c' 10 (.inl (cA 2, 1, .inr (.inl (vp_updL f 0 v.toInt64))))))
    (M2 : ∀ c', MoAt ad cA c' th n nw ah rw → Ci l yM wM rm2 avM D cA N ad c' 0 0 (fun b c'' => Q b ∧ ∃ ah' rw', mw ad cA c' (nI 0) n nw ah' rw' = c''))
    (hag : ∀ v b, P v → Q b → v = b) : LStep l D cA N ad c yW wW avW yM wM avM n fd B := by
  refine ⟨rm, 0, 0, 0, _, h1, h2, h3, h4, by omega, by omega, by omega, M, fun c9 h => ?_⟩
  obtain ⟨v, c', f, ⟨hp, ht⟩, hf, rfl⟩ := h
  have I2 := (hI.trial ht).put (fo' := vp_updL f 0 v.toInt64)
  refine ⟨⟨_, I2.mo.1⟩, rm2, _, g1, g2, g3, g4, M2 _ I2.mo, fun b c'' hq => ?_⟩
  obtain ⟨hq, ah', rw', rfl⟩ := hq
  refine ⟨sc, st, nw, ah', rw', _, I2.mod.up (by omega), fun _ => ?_⟩
  rw [← hag v b hp hq]
  simp [vp_updL]
theorem step_bad (hI : Inv ad cA c N n sc st th nw ah rw fo fd B) {k : Nat} (hk : k < 4) (hk0 : k ≠ 0) (h1 : rm.cells = 1) (h2 : rm.slots = 6) (h3 : rm.frames ≤ 9) (h4 : rm.locals ≤ 300) (g1 : rm2.cells = 0) (g2 : rm2.slots = 0) (g3 : rm2.frames ≤ 9) (g4 : rm2.locals ≤ 300)
    (M : Ci l yW wW rm avW D cA N ad c 1 6 (fun v9 c9 => v9 = nI k ∧ c = c9))
    (M2 : ∀ c', MoAt ad cA c' th n nw ah rw → Ci l yM wM rm2 avM D cA N ad c' 0 0 (fun _ c'' => mw ad cA c' (nI k) n nw ah rw = c'')) : LStep l D cA N ad c yW wW avW yM wM avM n fd B := by
  refine ⟨rm, 1, 6, k, _, h1, h2, h3, h4, by omega, by omega, hk, M, fun c9 h => ?_⟩
  obtain rfl := h
  refine ⟨⟨_, hI.mo.1⟩, rm2, _, g1, g2, g3, g4, M2 _ hI.mo, fun b c'' hq => ?_⟩
  obtain rfl := hq
  exact ⟨sc, st, nw, ah, rw, fo, hI.mod.up (by omega), fun q => absurd q hk0⟩
/-- an argument names a hand, or none -/
theorem hand_or (x : Int32) (hn : n ≤ 5) : (∃ i, i < n ∧ x = nI i) ∨ ∀ i, i < n → x ≠ nI i := by
  rcases Classical.em (∃ i, i < n ∧ x = nI i) with h | h
  · exact Or.inl h
  · exact Or.inr (fun i hi e => h ⟨i, hi, e⟩)
end STEP
theorem s_holds (l : Launch) (D : va_G) (cA : Nat → ClassId) (N : Nat) (ad : Nat → Nat) (c : Nat → va_E) (hfl : l.stackTraces = false) (n : Nat) (sc : Nat → Nat → Nat) (st : Nat → Nat → Nat → Int32) (th : Int32) (nw ah rw : Nat → Int32) (fo : Nat → Int64) (fd : Nat → UInt64) (B : Nat) (hI : Inv ad cA c N n sc st th nw ah rw fo fd B) (hB : B ≤ 110000) (x : Int32) : LStep l D cA N ad c yL_holds wL_holds [.ref (ad 0), .int x, .ref (ad 10)] yX2_holds wX2_holds [.ref (ad 6), .int x] n fd B := by
  have hN := hI.hN
  have hn5 := hI.n5
  have hOk := hI.ok.ok hI.sm hB
  rcases hand_or (n := n) x hn5 with ⟨i, hi, rfl⟩ | hb
  · refine step_good hI (P := (fun v => v = nI (sc i 5))) (Q := (fun v => v = nI (sc i 5))) rfl rfl (by decide) (by decide) rfl rfl (by decide) (by decide) (w_L_holds l D cA N ad c (nI i) (by omega) hI.fh.1 _ ((m_X1_holds l D cA N ad c n i (sc i 0) (sc i 1) (sc i 2) (sc i 3) (sc i 4) (sc i 5) (st i) (by omega) hI.fh hi (hI.hs i hi) (hOk i hi)).mono (fun v c' h => ⟨h.1, by rw [← h.2]; exact hI.tr.rf⟩)) (fun v c' h => ⟨fo, (h.2.ne (by omega)).trans hI.out⟩)) (fun c' hM => (m_X2_holds l D cA N ad c' th n nw ah rw i (sc i 0) (sc i 1) (sc i 2) (sc i 3) (sc i 4) (sc i 5) (by omega) hM hn5 hi (hI.rows i hi) (hOk i hi)).mono (fun v c' h => ⟨h.1, _, _, h.2⟩)) ?_
    exact fun v b h1 h2 => h1.trans h2.symm
  · exact step_bad hI (k := 1) (by decide) (by decide) rfl rfl (by decide) (by decide) rfl rfl (by decide) (by decide) (w_L_holds__c0 l D cA N ad c x (by omega) hI.fh.1 (t_X1_holds__h l D cA N ad c hfl n x (by omega) hI.fh hb)) (fun c' hM => m_X2_holds__h l D cA N ad c' th n nw ah rw x (by omega) hM hn5 hb)
theorem s_roomOf (l : Launch) (D : va_G) (cA : Nat → ClassId) (N : Nat) (ad : Nat → Nat) (c : Nat → va_E) (hfl : l.stackTraces = false) (n : Nat) (sc : Nat → Nat → Nat) (st : Nat → Nat → Nat → Int32) (th : Int32) (nw ah rw : Nat → Int32) (fo : Nat → Int64) (fd : Nat → UInt64) (B : Nat) (hI : Inv ad cA c N n sc st th nw ah rw fo fd B) (hB : B ≤ 110000) (x : Int32) : LStep l D cA N ad c yL_roomOf wL_roomOf [.ref (ad 0), .int x, .ref (ad 10)] yX2_roomOf wX2_roomOf [.ref (ad 6), .int x] n fd B := by
  have hN := hI.hN
  have hn5 := hI.n5
  have hOk := hI.ok.ok hI.sm hB
  rcases hand_or (n := n) x hn5 with ⟨i, hi, rfl⟩ | hb
  · refine step_good hI (P := (fun v => v = nI (sc i 0))) (Q := (fun v => v = nI (sc i 0))) rfl rfl (by decide) (by decide) rfl rfl (by decide) (by decide) (w_L_roomOf l D cA N ad c (nI i) (by omega) hI.fh.1 _ ((m_X1_roomOf l D cA N ad c n i (sc i 0) (sc i 1) (sc i 2) (sc i 3) (sc i 4) (sc i 5) (st i) (by omega) hI.fh hi (hI.hs i hi) (hOk i hi)).mono (fun v c' h => ⟨h.1, by rw [← h.2]; exact hI.tr.rf⟩)) (fun v c' h => ⟨fo, (h.2.ne (by omega)).trans hI.out⟩)) (fun c' hM => (m_X2_roomOf l D cA N ad c' th n nw ah rw i (sc i 0) (sc i 1) (sc i 2) (sc i 3) (sc i 4) (sc i 5) (by omega) hM hn5 hi (hI.rows i hi) (hOk i hi)).mono (fun v c' h => ⟨h.1, _, _, h.2⟩)) ?_
    exact fun v b h1 h2 => h1.trans h2.symm
  · exact step_bad hI (k := 1) (by decide) (by decide) rfl rfl (by decide) (by decide) rfl rfl (by decide) (by decide) (w_L_roomOf__c0 l D cA N ad c x (by omega) hI.fh.1 (t_X1_roomOf__h l D cA N ad c hfl n x (by omega) hI.fh hb)) (fun c' hM => m_X2_roomOf__h l D cA N ad c' th n nw ah rw x (by omega) hM hn5 hb)
theorem s_seenBy (l : Launch) (D : va_G) (cA : Nat → ClassId) (N : Nat) (ad : Nat → Nat) (c : Nat → va_E) (hfl : l.stackTraces = false) (n : Nat) (sc : Nat → Nat → Nat) (st : Nat → Nat → Nat → Int32) (th : Int32) (nw ah rw : Nat → Int32) (fo : Nat → Int64) (fd : Nat → UInt64) (B : Nat) (hI : Inv ad cA c N n sc st th nw ah rw fo fd B) (hB : B ≤ 110000) (x : Int32) : LStep l D cA N ad c yL_seenBy wL_seenBy [.ref (ad 0), .int x, .ref (ad 10)] yX2_seenBy wX2_seenBy [.ref (ad 6), .int x] n fd B := by
  have hN := hI.hN
  have hn5 := hI.n5
  have hOk := hI.ok.ok hI.sm hB
  rcases hand_or (n := n) x hn5 with ⟨i, hi, rfl⟩ | hb
  · refine step_good hI (P := (fun v => v = nI (sc i 3))) (Q := (fun v => v = nI (sc i 3))) rfl rfl (by decide) (by decide) rfl rfl (by decide) (by decide) (w_L_seenBy l D cA N ad c (nI i) (by omega) hI.fh.1 _ ((m_X1_seenBy l D cA N ad c n i (sc i 0) (sc i 1) (sc i 2) (sc i 3) (sc i 4) (sc i 5) (st i) (by omega) hI.fh hi (hI.hs i hi) (hOk i hi)).mono (fun v c' h => ⟨h.1, by rw [← h.2]; exact hI.tr.rf⟩)) (fun v c' h => ⟨fo, (h.2.ne (by omega)).trans hI.out⟩)) (fun c' hM => (m_X2_seenBy l D cA N ad c' th n nw ah rw i (sc i 0) (sc i 1) (sc i 2) (sc i 3) (sc i 4) (sc i 5) (by omega) hM hn5 hi (hI.rows i hi) (hOk i hi)).mono (fun v c' h => ⟨h.1, _, _, h.2⟩)) ?_
    exact fun v b h1 h2 => h1.trans h2.symm
  · exact step_bad hI (k := 1) (by decide) (by decide) rfl rfl (by decide) (by decide) rfl rfl (by decide) (by decide) (w_L_seenBy__c0 l D cA N ad c x (by omega) hI.fh.1 (t_X1_seenBy__h l D cA N ad c hfl n x (by omega) hI.fh hb)) (fun c' hM => m_X2_seenBy__h l D cA N ad c' th n nw ah rw x (by omega) hM hn5 hb)
theorem s_loadOf (l : Launch) (D : va_G) (cA : Nat → ClassId) (N : Nat) (ad : Nat → Nat) (c : Nat → va_E) (hfl : l.stackTraces = false) (n : Nat) (sc : Nat → Nat → Nat) (st : Nat → Nat → Nat → Int32) (th : Int32) (nw ah rw : Nat → Int32) (fo : Nat → Int64) (fd : Nat → UInt64) (B : Nat) (hI : Inv ad cA c N n sc st th nw ah rw fo fd B) (hB : B ≤ 110000) (x : Int32) : LStep l D cA N ad c yL_loadOf wL_loadOf [.ref (ad 0), .int x, .ref (ad 10)] yX2_loadOf wX2_loadOf [.ref (ad 6), .int x] n fd B := by
  have hN := hI.hN
  have hn5 := hI.n5
  have hOk := hI.ok.ok hI.sm hB
  rcases hand_or (n := n) x hn5 with ⟨i, hi, rfl⟩ | hb
  · refine step_good hI (P := (fun v => v = nI (sc i 4))) (Q := (fun v => v = nI (sc i 4))) rfl rfl (by decide) (by decide) rfl rfl (by decide) (by decide) (w_L_loadOf l D cA N ad c (nI i) (by omega) hI.fh.1 _ ((m_X1_loadOf l D cA N ad c n i (sc i 0) (sc i 1) (sc i 2) (sc i 3) (sc i 4) (sc i 5) (st i) (by omega) hI.fh hi (hI.hs i hi) (hOk i hi)).mono (fun v c' h => ⟨h.1, by rw [← h.2]; exact hI.tr.rf⟩)) (fun v c' h => ⟨fo, (h.2.ne (by omega)).trans hI.out⟩)) (fun c' hM => (m_X2_loadOf l D cA N ad c' th n nw ah rw i (sc i 0) (sc i 1) (sc i 2) (sc i 3) (sc i 4) (sc i 5) (by omega) hM hn5 hi (hI.rows i hi) (hOk i hi)).mono (fun v c' h => ⟨h.1, _, _, h.2⟩)) ?_
    exact fun v b h1 h2 => h1.trans h2.symm
  · exact step_bad hI (k := 1) (by decide) (by decide) rfl rfl (by decide) (by decide) rfl rfl (by decide) (by decide) (w_L_loadOf__c0 l D cA N ad c x (by omega) hI.fh.1 (t_X1_loadOf__h l D cA N ad c hfl n x (by omega) hI.fh hb)) (fun c' hM => m_X2_loadOf__h l D cA N ad c' th n nw ah rw x (by omega) hM hn5 hb)
theorem s_luckOf (l : Launch) (D : va_G) (cA : Nat → ClassId) (N : Nat) (ad : Nat → Nat) (c : Nat → va_E) (hfl : l.stackTraces = false) (n : Nat) (sc : Nat → Nat → Nat) (st : Nat → Nat → Nat → Int32) (th : Int32) (nw ah rw : Nat → Int32) (fo : Nat → Int64) (fd : Nat → UInt64) (B : Nat) (hI : Inv ad cA c N n sc st th nw ah rw fo fd B) (hB : B ≤ 110000) (x : Int32) : LStep l D cA N ad c yL_luckOf wL_luckOf [.ref (ad 0), .int x, .ref (ad 10)] yX2_luckOf wX2_luckOf [.ref (ad 6), .int x] n fd B := by
  have hN := hI.hN
  have hn5 := hI.n5
  have hOk := hI.ok.ok hI.sm hB
  rcases hand_or (n := n) x hn5 with ⟨i, hi, rfl⟩ | hb
  · refine step_good hI (P := (fun v => v = nI (sc i 2))) (Q := (fun v => v = nI (sc i 2))) rfl rfl (by decide) (by decide) rfl rfl (by decide) (by decide) (w_L_luckOf l D cA N ad c (nI i) (by omega) hI.fh.1 _ ((m_X1_luckOf l D cA N ad c n i (sc i 0) (sc i 1) (sc i 2) (sc i 3) (sc i 4) (sc i 5) (st i) (by omega) hI.fh hi (hI.hs i hi) (hOk i hi)).mono (fun v c' h => ⟨h.1, by rw [← h.2]; exact hI.tr.rf⟩)) (fun v c' h => ⟨fo, (h.2.ne (by omega)).trans hI.out⟩)) (fun c' hM => (m_X2_luckOf l D cA N ad c' th n nw ah rw i (sc i 0) (sc i 1) (sc i 2) (sc i 3) (sc i 4) (sc i 5) (by omega) hM hn5 hi (hI.rows i hi) (hOk i hi)).mono (fun v c' h => ⟨h.1, _, _, h.2⟩)) ?_
    exact fun v b h1 h2 => h1.trans h2.symm
  · exact step_bad hI (k := 1) (by decide) (by decide) rfl rfl (by decide) (by decide) rfl rfl (by decide) (by decide) (w_L_luckOf__c0 l D cA N ad c x (by omega) hI.fh.1 (t_X1_luckOf__h l D cA N ad c hfl n x (by omega) hI.fh hb)) (fun c' hM => m_X2_luckOf__h l D cA N ad c' th n nw ah rw x (by omega) hM hn5 hb)
theorem Fst.cg {P P' : Nat → Prop} {lo n : Nat} {v : Int32} (e : ∀ k, k < n → (P k ↔ P' k)) (h : Fst P lo n v) : Fst P' lo n v := by
  rcases h with ⟨k, hk, h1, h2, h3⟩ | ⟨h1, h2⟩
  · exact Or.inl ⟨k, hk, (e k hk).mp h1, fun q hq hp => h2 q hq ((e q (by omega)).mpr hp), h3⟩
  · exact Or.inr ⟨h1, fun k hk hp => h2 k hk ((e k hk).mpr hp)⟩
theorem s_sum (l : Launch) (D : va_G) (cA : Nat → ClassId) (N : Nat) (ad : Nat → Nat) (c : Nat → va_E) (hfl : l.stackTraces = false) (n : Nat) (sc : Nat → Nat → Nat) (st : Nat → Nat → Nat → Int32) (th : Int32) (nw ah rw : Nat → Int32) (fo : Nat → Int64) (fd : Nat → UInt64) (B : Nat) (hI : Inv ad cA c N n sc st th nw ah rw fo fd B) (hB : B ≤ 110000) (x : Int32) : LStep l D cA N ad c yL_sum wL_sum [.ref (ad 0), .int x, .ref (ad 10)] yX2_sum wX2_sum [.ref (ad 6), .int x] n fd B := by
  have hN := hI.hN
  have hn5 := hI.n5
  have hOk := hI.ok.ok hI.sm hB
  rcases hand_or (n := n) x hn5 with ⟨i, hi, rfl⟩ | hb
  · refine step_good hI (P := (fun v => v = tot (st i 0) (sc i 5))) (Q := (fun b => b = tot (sto nw (30 * i) 0) (sc i 5))) rfl rfl (by decide) (by decide) rfl rfl (by decide) (by decide) (w_L_sum l D cA N ad c (nI i) (by omega) hI.fh.1 _ ((m_X1_sum l D cA N ad c n i (sc i 0) (sc i 1) (sc i 2) (sc i 3) (sc i 4) (sc i 5) (st i) (by omega) hI.fh hi (hI.hs i hi) (hOk i hi)).mono (fun v c' h => ⟨h.1, by rw [← h.2]; exact hI.tr.rf⟩)) (fun v c' h => ⟨fo, (h.2.ne (by omega)).trans hI.out⟩)) (fun c' hM => (m_X2_sum l D cA N ad c' th n nw ah rw i (sc i 0) (sc i 1) (sc i 2) (sc i 3) (sc i 4) (sc i 5) (by omega) hM hn5 hi (hI.rows i hi) (hOk i hi)).mono (fun v c' h => ⟨h.1, _, _, h.2⟩)) ?_
    exact fun v b h1 h2 => by rw [h1, h2]; exact tot_cg ((hI.bo i hi).ag (by decide))
  · exact step_bad hI (k := 1) (by decide) (by decide) rfl rfl (by decide) (by decide) rfl rfl (by decide) (by decide) (w_L_sum__c0 l D cA N ad c x (by omega) hI.fh.1 (t_X1_sum__h l D cA N ad c hfl n x (by omega) hI.fh hb)) (fun c' hM => m_X2_sum__h l D cA N ad c' th n nw ah rw x (by omega) hM hn5 hb)
theorem s_lowest (l : Launch) (D : va_G) (cA : Nat → ClassId) (N : Nat) (ad : Nat → Nat) (c : Nat → va_E) (hfl : l.stackTraces = false) (n : Nat) (sc : Nat → Nat → Nat) (st : Nat → Nat → Nat → Int32) (th : Int32) (nw ah rw : Nat → Int32) (fo : Nat → Int64) (fd : Nat → UInt64) (B : Nat) (hI : Inv ad cA c N n sc st th nw ah rw fo fd B) (hB : B ≤ 110000) (x : Int32) : LStep l D cA N ad c yL_lowest wL_lowest [.ref (ad 0), .int x, .ref (ad 10)] yX2_lowest wX2_lowest [.ref (ad 6), .int x] n fd B := by
  have hN := hI.hN
  have hn5 := hI.n5
  have hOk := hI.ok.ok hI.sm hB
  rcases hand_or (n := n) x hn5 with ⟨i, hi, rfl⟩ | hb
  · refine step_good hI (P := (fun v => RkP (st i 0) (sc i 5) 0 v)) (Q := (fun b => RkP (sto nw (30 * i) 0) (sc i 5) 0 b)) rfl rfl (by decide) (by decide) rfl rfl (by decide) (by decide) (w_L_lowest l D cA N ad c (nI i) (by omega) hI.fh.1 _ ((m_X1_lowest l D cA N ad c n i (sc i 0) (sc i 1) (sc i 2) (sc i 3) (sc i 4) (sc i 5) (st i) (by omega) hI.fh hi (hI.hs i hi) (hOk i hi)).mono (fun v c' h => ⟨h.1, by rw [← h.2]; exact hI.tr.rf⟩)) (fun v c' h => ⟨fo, (h.2.ne (by omega)).trans hI.out⟩)) (fun c' hM => (m_X2_lowest l D cA N ad c' th n nw ah rw i (sc i 0) (sc i 1) (sc i 2) (sc i 3) (sc i 4) (sc i 5) (by omega) hM hn5 hi (hI.rows i hi) (hOk i hi)).mono (fun v c' h => ⟨h.1, _, _, h.2⟩)) ?_
    exact fun v b h1 h2 => (RkP.cg ((hI.bo i hi).ag (by decide)) h1).uniq h2
  · exact step_bad hI (k := 1) (by decide) (by decide) rfl rfl (by decide) (by decide) rfl rfl (by decide) (by decide) (w_L_lowest__c0 l D cA N ad c x (by omega) hI.fh.1 (t_X1_lowest__h l D cA N ad c hfl n x (by omega) hI.fh hb)) (fun c' hM => m_X2_lowest__h l D cA N ad c' th n nw ah rw x (by omega) hM hn5 hb)
theorem s_middle (l : Launch) (D : va_G) (cA : Nat → ClassId) (N : Nat) (ad : Nat → Nat) (c : Nat → va_E) (hfl : l.stackTraces = false) (n : Nat) (sc : Nat → Nat → Nat) (st : Nat → Nat → Nat → Int32) (th : Int32) (nw ah rw : Nat → Int32) (fo : Nat → Int64) (fd : Nat → UInt64) (B : Nat) (hI : Inv ad cA c N n sc st th nw ah rw fo fd B) (hB : B ≤ 110000) (x : Int32) : LStep l D cA N ad c yL_middle wL_middle [.ref (ad 0), .int x, .ref (ad 10)] yX2_middle wX2_middle [.ref (ad 6), .int x] n fd B := by
  have hN := hI.hN
  have hn5 := hI.n5
  have hOk := hI.ok.ok hI.sm hB
  rcases hand_or (n := n) x hn5 with ⟨i, hi, rfl⟩ | hb
  · refine step_good hI (P := (fun v => MidP (st i 0) (sc i 5) v)) (Q := (fun b => MidP (sto nw (30 * i) 0) (sc i 5) b)) rfl rfl (by decide) (by decide) rfl rfl (by decide) (by decide) (w_L_middle l D cA N ad c (nI i) (by omega) hI.fh.1 _ ((m_X1_middle l D cA N ad c n i (sc i 0) (sc i 1) (sc i 2) (sc i 3) (sc i 4) (sc i 5) (st i) (by omega) hI.fh hi (hI.hs i hi) (hOk i hi)).mono (fun v c' h => ⟨h.1, by rw [← h.2]; exact hI.tr.rf⟩)) (fun v c' h => ⟨fo, (h.2.ne (by omega)).trans hI.out⟩)) (fun c' hM => (m_X2_middle l D cA N ad c' th n nw ah rw i (sc i 0) (sc i 1) (sc i 2) (sc i 3) (sc i 4) (sc i 5) (by omega) hM hn5 hi (hI.rows i hi) (hOk i hi)).mono (fun v c' h => ⟨h.1, _, _, h.2⟩)) ?_
    exact fun v b h1 h2 => (MidP.cg ((hI.bo i hi).ag (by decide)) h1).uniq h2
  · exact step_bad hI (k := 1) (by decide) (by decide) rfl rfl (by decide) (by decide) rfl rfl (by decide) (by decide) (w_L_middle__c0 l D cA N ad c x (by omega) hI.fh.1 (t_X1_middle__h l D cA N ad c hfl n x (by omega) hI.fh hb)) (fun c' hM => m_X2_middle__h l D cA N ad c' th n nw ah rw x (by omega) hM hn5 hb)
theorem s_untilTaken (l : Launch) (D : va_G) (cA : Nat → ClassId) (N : Nat) (ad : Nat → Nat) (c : Nat → va_E) (hfl : l.stackTraces = false) (n : Nat) (sc : Nat → Nat → Nat) (st : Nat → Nat → Nat → Int32) (th : Int32) (nw ah rw : Nat → Int32) (fo : Nat → Int64) (fd : Nat → UInt64) (B : Nat) (hI : Inv ad cA c N n sc st th nw ah rw fo fd B) (hB : B ≤ 110000) (x : Int32) : LStep l D cA N ad c yL_untilTaken wL_untilTaken [.ref (ad 0), .int x, .ref (ad 10)] yX2_untilTaken wX2_untilTaken [.ref (ad 6), .int x] n fd B := by
  have hN := hI.hN
  have hn5 := hI.n5
  have hOk := hI.ok.ok hI.sm hB
  rcases hand_or (n := n) x hn5 with ⟨i, hi, rfl⟩ | hb
  · refine step_good hI (P := (fun v => UntP (sc i 0) (sc i 1) (sc i 2) (sc i 3) (sc i 4) (sc i 5) v)) (Q := (fun b => UntP (sc i 0) (sc i 1) (sc i 2) (sc i 3) (sc i 4) (sc i 5) b)) rfl rfl (by decide) (by decide) rfl rfl (by decide) (by decide) (w_L_untilTaken l D cA N ad c (nI i) (by omega) hI.fh.1 _ ((m_X1_untilTaken l D cA N ad c n i (sc i 0) (sc i 1) (sc i 2) (sc i 3) (sc i 4) (sc i 5) (st i) (by omega) hI.fh hI.tr hi (hI.hs i hi) (hOk i hi)).mono (fun v c' h => h)) (fun v c' h => ⟨fo, (h.2.ne (by omega)).trans hI.out⟩)) (fun c' hM => (m_X2_untilTaken l D cA N ad c' th n nw ah rw i (sc i 0) (sc i 1) (sc i 2) (sc i 3) (sc i 4) (sc i 5) (by omega) hM hn5 hi (hI.rows i hi) (hOk i hi)).mono (fun v c' h => ⟨h.1, h.2.choose, _, h.2.choose_spec⟩)) ?_
    exact fun v b h1 h2 => Fst.uniq h1 h2
  · exact step_bad hI (k := 1) (by decide) (by decide) rfl rfl (by decide) (by decide) rfl rfl (by decide) (by decide) (w_L_untilTaken__c0 l D cA N ad c x (by omega) hI.fh.1 (t_X1_untilTaken__h l D cA N ad c hfl n x (by omega) hI.fh hb)) (fun c' hM => m_X2_untilTaken__h l D cA N ad c' th n nw ah rw x (by omega) hM hn5 hb)
theorem s_weightWanted (l : Launch) (D : va_G) (cA : Nat → ClassId) (N : Nat) (ad : Nat → Nat) (c : Nat → va_E) (hfl : l.stackTraces = false) (n : Nat) (sc : Nat → Nat → Nat) (st : Nat → Nat → Nat → Int32) (th : Int32) (nw ah rw : Nat → Int32) (fo : Nat → Int64) (fd : Nat → UInt64) (B : Nat) (hI : Inv ad cA c N n sc st th nw ah rw fo fd B) (hB : B ≤ 110000) (x : Int32) : LStep l D cA N ad c yL_weightWanted wL_weightWanted [.ref (ad 0), .int x, .ref (ad 10)] yX2_weightWanted wX2_weightWanted [.ref (ad 6), .int x] n fd B := by
  have hN := hI.hN
  have hn5 := hI.n5
  have hOk := hI.ok.ok hI.sm hB
  rcases hand_or (n := n) x hn5 with ⟨i, hi, rfl⟩ | hb
  · refine step_good hI (P := (fun v => WanP (sc i 0) (sc i 1) (sc i 2) (sc i 3) (sc i 4) (sc i 5) v)) (Q := (fun b => WanP (sc i 0) (sc i 1) (sc i 2) (sc i 3) (sc i 4) (sc i 5) b)) rfl rfl (by decide) (by decide) rfl rfl (by decide) (by decide) (w_L_weightWanted l D cA N ad c (nI i) (by omega) hI.fh.1 _ ((m_X1_weightWanted l D cA N ad c n i (sc i 0) (sc i 1) (sc i 2) (sc i 3) (sc i 4) (sc i 5) (st i) (by omega) hI.fh hI.tr hi (hI.hs i hi) (hOk i hi)).mono (fun v c' h => h)) (fun v c' h => ⟨fo, (h.2.ne (by omega)).trans hI.out⟩)) (fun c' hM => (m_X2_weightWanted l D cA N ad c' th n nw ah rw i (sc i 0) (sc i 1) (sc i 2) (sc i 3) (sc i 4) (sc i 5) (by omega) hM hn5 hi (hI.rows i hi) (hOk i hi)).mono (fun v c' h => ⟨h.1, h.2.choose, _, h.2.choose_spec⟩)) ?_
    exact fun v b h1 h2 => Fst.uniq h1 h2
  · exact step_bad hI (k := 1) (by decide) (by decide) rfl rfl (by decide) (by decide) rfl rfl (by decide) (by decide) (w_L_weightWanted__c0 l D cA N ad c x (by omega) hI.fh.1 (t_X1_weightWanted__h l D cA N ad c hfl n x (by omega) hI.fh hb)) (fun c' hM => m_X2_weightWanted__h l D cA N ad c' th n nw ah rw x (by omega) hM hn5 hb)
theorem place_or (y : Int32) {K : Nat} (hK : K < 2 ^ 31) : (∃ q, q < K ∧ y = nI q) ∨ ¬ (¬ y < 0 ∧ y < nI K) := by
  rcases Classical.em (¬ y < 0 ∧ y < nI K) with h | h
  · exact Or.inl (nI_small h.1 (i_nle h.2) hK)
  · exact Or.inr h
theorem range_or (y : Int32) (lo : Nat) {hi : Nat} (hlo : lo ≤ hi) (hhi : hi < 2 ^ 31) : (∃ q, (lo ≤ q ∧ q ≤ hi) ∧ y = nI q) ∨ ¬ (nI lo ≤ y ∧ y ≤ nI hi) := by
  rcases Classical.em (nI lo ≤ y ∧ y ≤ nI hi) with h | h
  · obtain ⟨h1, h2⟩ := h
    rw [Int32.le_iff_toInt_le, nI_toInt (by omega)] at h1
    rw [Int32.le_iff_toInt_le, nI_toInt (by omega)] at h2
    exact Or.inl ⟨y.toInt.toNat, ⟨by omega, by omega⟩, Int32.toInt_inj.mp (by rw [nI_toInt (by omega)]; omega)⟩
  · exact Or.inr h
theorem s_valueAt (l : Launch) (D : va_G) (cA : Nat → ClassId) (N : Nat) (ad : Nat → Nat) (c : Nat → va_E) (hfl : l.stackTraces = false) (n : Nat) (sc : Nat → Nat → Nat) (st : Nat → Nat → Nat → Int32) (th : Int32) (nw ah rw : Nat → Int32) (fo : Nat → Int64) (fd : Nat → UInt64) (B : Nat) (hI : Inv ad cA c N n sc st th nw ah rw fo fd B) (hB : B ≤ 110000) (x y : Int32) : LStep l D cA N ad c yL_valueAt wL_valueAt [.ref (ad 0), .int x, .int y, .ref (ad 10)] yX2_valueAt wX2_valueAt [.ref (ad 6), .int x, .int y] n fd B := by
  have hN := hI.hN
  have hn5 := hI.n5
  have hOk := hI.ok.ok hI.sm hB
  rcases hand_or (n := n) x hn5 with ⟨i, hi, rfl⟩ | hb
  · obtain ⟨q1, q2, q3, q4, q5, q6, q7, q8, q9⟩ := hOk i hi
    rcases place_or y (K := sc i 5) (by omega) with ⟨q, hq, rfl⟩ | hb
    · refine step_good hI (P := (fun v => v = st i 0 q)) (Q := (fun b => b = sto nw (30 * i) 0 q)) rfl rfl (by decide) (by decide) rfl rfl (by decide) (by decide) (w_L_valueAt l D cA N ad c (nI i) (nI q) (by omega) hI.fh.1 _ ((m_X1_valueAt l D cA N ad c n i (sc i 0) (sc i 1) (sc i 2) (sc i 3) (sc i 4) (sc i 5) (st i) q (by omega) hI.fh hi (hI.hs i hi) (hOk i hi) hq).mono (fun v c' h => ⟨h.1, by rw [← h.2]; exact hI.tr.rf⟩)) (fun v c' h => ⟨fo, (h.2.ne (by omega)).trans hI.out⟩)) (fun c' hM => (m_X2_valueAt l D cA N ad c' th n nw ah rw i (sc i 0) (sc i 1) (sc i 2) (sc i 3) (sc i 4) (sc i 5) q (by omega) hM hn5 hi (hI.rows i hi) (hOk i hi) hq).mono (fun v c' h => ⟨h.1, _, _, h.2⟩)) ?_
      exact fun v b h1 h2 => by rw [h1, h2]; exact (hI.bo i hi).ag (k := 0) (by decide) q hq
    · exact step_bad hI (k := 1) (by decide) (by decide) rfl rfl (by decide) (by decide) rfl rfl (by decide) (by decide) (w_L_valueAt__c0_2 l D cA N ad c (nI i) y (by omega) hI.fh.1 (t_X1_valueAt__p l D cA N ad c hfl n i (sc i 0) (sc i 1) (sc i 2) (sc i 3) (sc i 4) (sc i 5) (st i) y (by omega) hI.fh hi (hI.hs i hi) (hOk i hi) hb)) (fun c' hM => m_X2_valueAt__p l D cA N ad c' th n nw ah rw i (sc i 0) (sc i 1) (sc i 2) (sc i 3) (sc i 4) (sc i 5) y (by omega) hM hn5 hi (hI.rows i hi) (hOk i hi) hb)
  · exact step_bad hI (k := 1) (by decide) (by decide) rfl rfl (by decide) (by decide) rfl rfl (by decide) (by decide) (w_L_valueAt__c0 l D cA N ad c x y (by omega) hI.fh.1 (t_X1_valueAt__h l D cA N ad c hfl n x y (by omega) hI.fh hb)) (fun c' hM => m_X2_valueAt__h l D cA N ad c' th n nw ah rw x y (by omega) hM hn5 hb)
theorem s_weightAt (l : Launch) (D : va_G) (cA : Nat → ClassId) (N : Nat) (ad : Nat → Nat) (c : Nat → va_E) (hfl : l.stackTraces = false) (n : Nat) (sc : Nat → Nat → Nat) (st : Nat → Nat → Nat → Int32) (th : Int32) (nw ah rw : Nat → Int32) (fo : Nat → Int64) (fd : Nat → UInt64) (B : Nat) (hI : Inv ad cA c N n sc st th nw ah rw fo fd B) (hB : B ≤ 110000) (x y : Int32) : LStep l D cA N ad c yL_weightAt wL_weightAt [.ref (ad 0), .int x, .int y, .ref (ad 10)] yX2_weightAt wX2_weightAt [.ref (ad 6), .int x, .int y] n fd B := by
  have hN := hI.hN
  have hn5 := hI.n5
  have hOk := hI.ok.ok hI.sm hB
  rcases hand_or (n := n) x hn5 with ⟨i, hi, rfl⟩ | hb
  · obtain ⟨q1, q2, q3, q4, q5, q6, q7, q8, q9⟩ := hOk i hi
    rcases place_or y (K := sc i 5) (by omega) with ⟨q, hq, rfl⟩ | hb
    · refine step_good hI (P := (fun v => v = st i 1 q)) (Q := (fun b => b = sto nw (30 * i) 1 q)) rfl rfl (by decide) (by decide) rfl rfl (by decide) (by decide) (w_L_weightAt l D cA N ad c (nI i) (nI q) (by omega) hI.fh.1 _ ((m_X1_weightAt l D cA N ad c n i (sc i 0) (sc i 1) (sc i 2) (sc i 3) (sc i 4) (sc i 5) (st i) q (by omega) hI.fh hi (hI.hs i hi) (hOk i hi) hq).mono (fun v c' h => ⟨h.1, by rw [← h.2]; exact hI.tr.rf⟩)) (fun v c' h => ⟨fo, (h.2.ne (by omega)).trans hI.out⟩)) (fun c' hM => (m_X2_weightAt l D cA N ad c' th n nw ah rw i (sc i 0) (sc i 1) (sc i 2) (sc i 3) (sc i 4) (sc i 5) q (by omega) hM hn5 hi (hI.rows i hi) (hOk i hi) hq).mono (fun v c' h => ⟨h.1, _, _, h.2⟩)) ?_
      exact fun v b h1 h2 => by rw [h1, h2]; exact (hI.bo i hi).ag (k := 1) (by decide) q hq
    · exact step_bad hI (k := 1) (by decide) (by decide) rfl rfl (by decide) (by decide) rfl rfl (by decide) (by decide) (w_L_weightAt__c0_2 l D cA N ad c (nI i) y (by omega) hI.fh.1 (t_X1_weightAt__p l D cA N ad c hfl n i (sc i 0) (sc i 1) (sc i 2) (sc i 3) (sc i 4) (sc i 5) (st i) y (by omega) hI.fh hi (hI.hs i hi) (hOk i hi) hb)) (fun c' hM => m_X2_weightAt__p l D cA N ad c' th n nw ah rw i (sc i 0) (sc i 1) (sc i 2) (sc i 3) (sc i 4) (sc i 5) y (by omega) hM hn5 hi (hI.rows i hi) (hOk i hi) hb)
  · exact step_bad hI (k := 1) (by decide) (by decide) rfl rfl (by decide) (by decide) rfl rfl (by decide) (by decide) (w_L_weightAt__c0 l D cA N ad c x y (by omega) hI.fh.1 (t_X1_weightAt__h l D cA N ad c hfl n x y (by omega) hI.fh hb)) (fun c' hM => m_X2_weightAt__h l D cA N ad c' th n nw ah rw x y (by omega) hM hn5 hb)
theorem s_cameAs (l : Launch) (D : va_G) (cA : Nat → ClassId) (N : Nat) (ad : Nat → Nat) (c : Nat → va_E) (hfl : l.stackTraces = false) (n : Nat) (sc : Nat → Nat → Nat) (st : Nat → Nat → Nat → Int32) (th : Int32) (nw ah rw : Nat → Int32) (fo : Nat → Int64) (fd : Nat → UInt64) (B : Nat) (hI : Inv ad cA c N n sc st th nw ah rw fo fd B) (hB : B ≤ 110000) (x y : Int32) : LStep l D cA N ad c yL_cameAs wL_cameAs [.ref (ad 0), .int x, .int y, .ref (ad 10)] yX2_cameAs wX2_cameAs [.ref (ad 6), .int x, .int y] n fd B := by
  have hN := hI.hN
  have hn5 := hI.n5
  have hOk := hI.ok.ok hI.sm hB
  rcases hand_or (n := n) x hn5 with ⟨i, hi, rfl⟩ | hb
  · obtain ⟨q1, q2, q3, q4, q5, q6, q7, q8, q9⟩ := hOk i hi
    rcases place_or y (K := sc i 5) (by omega) with ⟨q, hq, rfl⟩ | hb
    · refine step_good hI (P := (fun v => v = st i 2 q)) (Q := (fun b => b = sto nw (30 * i) 2 q)) rfl rfl (by decide) (by decide) rfl rfl (by decide) (by decide) (w_L_cameAs l D cA N ad c (nI i) (nI q) (by omega) hI.fh.1 _ ((m_X1_cameAs l D cA N ad c n i (sc i 0) (sc i 1) (sc i 2) (sc i 3) (sc i 4) (sc i 5) (st i) q (by omega) hI.fh hi (hI.hs i hi) (hOk i hi) hq).mono (fun v c' h => ⟨h.1, by rw [← h.2]; exact hI.tr.rf⟩)) (fun v c' h => ⟨fo, (h.2.ne (by omega)).trans hI.out⟩)) (fun c' hM => (m_X2_cameAs l D cA N ad c' th n nw ah rw i (sc i 0) (sc i 1) (sc i 2) (sc i 3) (sc i 4) (sc i 5) q (by omega) hM hn5 hi (hI.rows i hi) (hOk i hi) hq).mono (fun v c' h => ⟨h.1, _, _, h.2⟩)) ?_
      exact fun v b h1 h2 => by rw [h1, h2]; exact (hI.bo i hi).ag (k := 2) (by decide) q hq
    · exact step_bad hI (k := 1) (by decide) (by decide) rfl rfl (by decide) (by decide) rfl rfl (by decide) (by decide) (w_L_cameAs__c0_2 l D cA N ad c (nI i) y (by omega) hI.fh.1 (t_X1_cameAs__p l D cA N ad c hfl n i (sc i 0) (sc i 1) (sc i 2) (sc i 3) (sc i 4) (sc i 5) (st i) y (by omega) hI.fh hi (hI.hs i hi) (hOk i hi) hb)) (fun c' hM => m_X2_cameAs__p l D cA N ad c' th n nw ah rw i (sc i 0) (sc i 1) (sc i 2) (sc i 3) (sc i 4) (sc i 5) y (by omega) hM hn5 hi (hI.rows i hi) (hOk i hi) hb)
  · exact step_bad hI (k := 1) (by decide) (by decide) rfl rfl (by decide) (by decide) rfl rfl (by decide) (by decide) (w_L_cameAs__c0 l D cA N ad c x y (by omega) hI.fh.1 (t_X1_cameAs__h l D cA N ad c hfl n x y (by omega) hI.fh hb)) (fun c' hM => m_X2_cameAs__h l D cA N ad c' th n nw ah rw x y (by omega) hM hn5 hb)
theorem s_rankOf (l : Launch) (D : va_G) (cA : Nat → ClassId) (N : Nat) (ad : Nat → Nat) (c : Nat → va_E) (hfl : l.stackTraces = false) (n : Nat) (sc : Nat → Nat → Nat) (st : Nat → Nat → Nat → Int32) (th : Int32) (nw ah rw : Nat → Int32) (fo : Nat → Int64) (fd : Nat → UInt64) (B : Nat) (hI : Inv ad cA c N n sc st th nw ah rw fo fd B) (hB : B ≤ 110000) (x y : Int32) : LStep l D cA N ad c yL_rankOf wL_rankOf [.ref (ad 0), .int x, .int y, .ref (ad 10)] yX2_rankOf wX2_rankOf [.ref (ad 6), .int x, .int y] n fd B := by
  have hN := hI.hN
  have hn5 := hI.n5
  have hOk := hI.ok.ok hI.sm hB
  rcases hand_or (n := n) x hn5 with ⟨i, hi, rfl⟩ | hb
  · obtain ⟨q1, q2, q3, q4, q5, q6, q7, q8, q9⟩ := hOk i hi
    rcases place_or y (K := sc i 5) (by omega) with ⟨q, hq, rfl⟩ | hb
    · refine step_good hI (P := (fun v => v = nI (rk (st i 0) (sc i 5) q))) (Q := (fun b => b = nI (rk (sto nw (30 * i) 0) (sc i 5) q))) rfl rfl (by decide) (by decide) rfl rfl (by decide) (by decide) (w_L_rankOf l D cA N ad c (nI i) (nI q) (by omega) hI.fh.1 _ ((m_X1_rankOf l D cA N ad c n i (sc i 0) (sc i 1) (sc i 2) (sc i 3) (sc i 4) (sc i 5) (st i) q (by omega) hI.fh hi (hI.hs i hi) (hOk i hi) hq).mono (fun v c' h => ⟨h.1, by rw [← h.2]; exact hI.tr.rf⟩)) (fun v c' h => ⟨fo, (h.2.ne (by omega)).trans hI.out⟩)) (fun c' hM => (m_X2_rankOf l D cA N ad c' th n nw ah rw i (sc i 0) (sc i 1) (sc i 2) (sc i 3) (sc i 4) (sc i 5) q (by omega) hM hn5 hi (hI.rows i hi) (hOk i hi) hq).mono (fun v c' h => ⟨h.1, _, _, h.2⟩)) ?_
      exact fun v b h1 h2 => by rw [h1, h2, rk_cg ((hI.bo i hi).ag (by decide)) hq]
    · exact step_bad hI (k := 1) (by decide) (by decide) rfl rfl (by decide) (by decide) rfl rfl (by decide) (by decide) (w_L_rankOf__c0_2 l D cA N ad c (nI i) y (by omega) hI.fh.1 (t_X1_rankOf__p l D cA N ad c hfl n i (sc i 0) (sc i 1) (sc i 2) (sc i 3) (sc i 4) (sc i 5) (st i) y (by omega) hI.fh hi (hI.hs i hi) (hOk i hi) hb)) (fun c' hM => m_X2_rankOf__p l D cA N ad c' th n nw ah rw i (sc i 0) (sc i 1) (sc i 2) (sc i 3) (sc i 4) (sc i 5) y (by omega) hM hn5 hi (hI.rows i hi) (hOk i hi) hb)
  · exact step_bad hI (k := 1) (by decide) (by decide) rfl rfl (by decide) (by decide) rfl rfl (by decide) (by decide) (w_L_rankOf__c0 l D cA N ad c x y (by omega) hI.fh.1 (t_X1_rankOf__h l D cA N ad c hfl n x y (by omega) hI.fh hb)) (fun c' hM => m_X2_rankOf__h l D cA N ad c' th n nw ah rw x y (by omega) hM hn5 hb)
theorem s_luckIn (l : Launch) (D : va_G) (cA : Nat → ClassId) (N : Nat) (ad : Nat → Nat) (c : Nat → va_E) (hfl : l.stackTraces = false) (n : Nat) (sc : Nat → Nat → Nat) (st : Nat → Nat → Nat → Int32) (th : Int32) (nw ah rw : Nat → Int32) (fo : Nat → Int64) (fd : Nat → UInt64) (B : Nat) (hI : Inv ad cA c N n sc st th nw ah rw fo fd B) (hB : B ≤ 110000) (x y : Int32) : LStep l D cA N ad c yL_luckIn wL_luckIn [.ref (ad 0), .int x, .int y, .ref (ad 10)] yX2_luckIn wX2_luckIn [.ref (ad 6), .int x, .int y] n fd B := by
  have hN := hI.hN
  have hn5 := hI.n5
  have hOk := hI.ok.ok hI.sm hB
  rcases hand_or (n := n) x hn5 with ⟨i, hi, rfl⟩ | hb
  · obtain ⟨q1, q2, q3, q4, q5, q6, q7, q8, q9⟩ := hOk i hi
    rcases range_or y 0 (hi := 1000) (by decide) (by decide) with ⟨q, hq, rfl⟩ | hb
    · refine step_good hI (P := (fun v => v = nI (nlI q (sc i 2)))) (Q := (fun b => b = nI (nlI q (sc i 2)))) rfl rfl (by decide) (by decide) rfl rfl (by decide) (by decide) (w_L_luckIn l D cA N ad c (nI i) (nI q) (by omega) hI.fh.1 _ ((m_X1_luckIn l D cA N ad c n i (sc i 0) (sc i 1) (sc i 2) (sc i 3) (sc i 4) (sc i 5) (st i) q (by omega) hI.fh hI.tr hi (hI.hs i hi) (hOk i hi) hq.2).mono (fun v c' h => h)) (fun v c' h => ⟨fo, (h.2.ne (by omega)).trans hI.out⟩)) (fun c' hM => (m_X2_luckIn l D cA N ad c' th n nw ah rw i (sc i 0) (sc i 1) (sc i 2) (sc i 3) (sc i 4) (sc i 5) q (by omega) hM hn5 hi (hI.rows i hi) (hOk i hi) hq.2).mono (fun v c' h => ⟨h.1, _, _, h.2⟩)) ?_
      exact fun v b h1 h2 => h1.trans h2.symm
    · exact step_bad hI (k := 2) (by decide) (by decide) rfl rfl (by decide) (by decide) rfl rfl (by decide) (by decide) (w_L_luckIn__c1 l D cA N ad c (nI i) y (by omega) hI.fh.1 (t_X1_luckIn__a l D cA N ad c hfl n i (sc i 0) (sc i 1) (sc i 2) (sc i 3) (sc i 4) (sc i 5) (st i) y (by omega) hI.fh hi (hI.hs i hi) (hOk i hi) hb)) (fun c' hM => m_X2_luckIn__a l D cA N ad c' th n nw ah rw i (sc i 0) (sc i 1) (sc i 2) (sc i 3) (sc i 4) (sc i 5) y (by omega) hM hn5 hi (hI.rows i hi) (hOk i hi) hb)
  · exact step_bad hI (k := 1) (by decide) (by decide) rfl rfl (by decide) (by decide) rfl rfl (by decide) (by decide) (w_L_luckIn__c0 l D cA N ad c x y (by omega) hI.fh.1 (t_X1_luckIn__h l D cA N ad c hfl n x y (by omega) hI.fh hb)) (fun c' hM => m_X2_luckIn__h l D cA N ad c' th n nw ah rw x y (by omega) hM hn5 hb)
theorem s_wouldTake (l : Launch) (D : va_G) (cA : Nat → ClassId) (N : Nat) (ad : Nat → Nat) (c : Nat → va_E) (hfl : l.stackTraces = false) (n : Nat) (sc : Nat → Nat → Nat) (st : Nat → Nat → Nat → Int32) (th : Int32) (nw ah rw : Nat → Int32) (fo : Nat → Int64) (fd : Nat → UInt64) (B : Nat) (hI : Inv ad cA c N n sc st th nw ah rw fo fd B) (hB : B ≤ 110000) (x y : Int32) : LStep l D cA N ad c yL_wouldTake wL_wouldTake [.ref (ad 0), .int x, .int y, .ref (ad 10)] yX2_wouldTake wX2_wouldTake [.ref (ad 6), .int x, .int y] n fd B := by
  have hN := hI.hN
  have hn5 := hI.n5
  have hOk := hI.ok.ok hI.sm hB
  rcases hand_or (n := n) x hn5 with ⟨i, hi, rfl⟩ | hb
  · obtain ⟨q1, q2, q3, q4, q5, q6, q7, q8, q9⟩ := hOk i hi
    rcases range_or y 1 (hi := 9) (by decide) (by decide) with ⟨q, hq, rfl⟩ | hb
    · refine step_good hI (P := (fun v => v = oI (pk (sc i 0) (sc i 1) (sc i 2) (sc i 3 + 1) (sc i 4 + q) (sc i 5) q).1)) (Q := (fun b => b = oI (pk (sc i 0) (sc i 1) (sc i 2) (sc i 3 + 1) (sc i 4 + q) (sc i 5) q).1)) rfl rfl (by decide) (by decide) rfl rfl (by decide) (by decide) (w_L_wouldTake l D cA N ad c (nI i) (nI q) (by omega) hI.fh.1 _ ((m_X1_wouldTake l D cA N ad c n i (sc i 0) (sc i 1) (sc i 2) (sc i 3) (sc i 4) (sc i 5) (st i) q (by omega) hI.fh hI.tr hi (hI.hs i hi) (hOk i hi) hq.1 hq.2).mono (fun v c' h => h)) (fun v c' h => ⟨fo, (h.2.ne (by omega)).trans hI.out⟩)) (fun c' hM => (m_X2_wouldTake l D cA N ad c' th n nw ah rw i (sc i 0) (sc i 1) (sc i 2) (sc i 3) (sc i 4) (sc i 5) q (by omega) hM hn5 hi (hI.rows i hi) (hOk i hi) hq.1 hq.2).mono (fun v c' h => ⟨h.1, h.2.choose, _, h.2.choose_spec⟩)) ?_
      exact fun v b h1 h2 => h1.trans h2.symm
    · exact step_bad hI (k := 2) (by decide) (by decide) rfl rfl (by decide) (by decide) rfl rfl (by decide) (by decide) (w_L_wouldTake__c1 l D cA N ad c (nI i) y (by omega) hI.fh.1 (t_X1_wouldTake__a l D cA N ad c hfl n i (sc i 0) (sc i 1) (sc i 2) (sc i 3) (sc i 4) (sc i 5) (st i) y (by omega) hI.fh hi (hI.hs i hi) (hOk i hi) hb)) (fun c' hM => m_X2_wouldTake__a l D cA N ad c' th n nw ah rw i (sc i 0) (sc i 1) (sc i 2) (sc i 3) (sc i 4) (sc i 5) y (by omega) hM hn5 hi (hI.rows i hi) (hOk i hi) hb)
  · exact step_bad hI (k := 1) (by decide) (by decide) rfl rfl (by decide) (by decide) rfl rfl (by decide) (by decide) (w_L_wouldTake__c0 l D cA N ad c x y (by omega) hI.fh.1 (t_X1_wouldTake__h l D cA N ad c hfl n x y (by omega) hI.fh hb)) (fun c' hM => m_X2_wouldTake__h l D cA N ad c' th n nw ah rw x y (by omega) hM hn5 hb)
theorem s_wouldStay (l : Launch) (D : va_G) (cA : Nat → ClassId) (N : Nat) (ad : Nat → Nat) (c : Nat → va_E) (hfl : l.stackTraces = false) (n : Nat) (sc : Nat → Nat → Nat) (st : Nat → Nat → Nat → Int32) (th : Int32) (nw ah rw : Nat → Int32) (fo : Nat → Int64) (fd : Nat → UInt64) (B : Nat) (hI : Inv ad cA c N n sc st th nw ah rw fo fd B) (hB : B ≤ 110000) (x y : Int32) : LStep l D cA N ad c yL_wouldStay wL_wouldStay [.ref (ad 0), .int x, .int y, .ref (ad 10)] yX2_wouldStay wX2_wouldStay [.ref (ad 6), .int x, .int y] n fd B := by
  have hN := hI.hN
  have hn5 := hI.n5
  have hOk := hI.ok.ok hI.sm hB
  rcases hand_or (n := n) x hn5 with ⟨i, hi, rfl⟩ | hb
  · obtain ⟨q1, q2, q3, q4, q5, q6, q7, q8, q9⟩ := hOk i hi
    rcases range_or y 1 (hi := 200) (by decide) (by decide) with ⟨q, hq, rfl⟩ | hb
    · refine step_good hI (P := (fun v => StayP (sc i 0) (sc i 1) (sc i 2) (sc i 3) (sc i 4) (sc i 5) (st i) q v)) (Q := (fun b => b = nI (stayC (sc i 0) (sc i 1) (sc i 2, sc i 3, sc i 4, sc i 5) q (sc i 5)))) rfl rfl (by decide) (by decide) rfl rfl (by decide) (by decide) (w_L_wouldStay l D cA N ad c (nI i) (nI q) (by omega) hI.fh.1 _ ((m_X1_wouldStay l D cA N ad c n i (sc i 0) (sc i 1) (sc i 2) (sc i 3) (sc i 4) (sc i 5) (st i) q (by omega) hI.fh hI.tr hi (hI.hs i hi) (hOk i hi) hq.1 hq.2).mono (fun v c' h => h)) (fun v c' h => ⟨fo, (h.2.ne (by omega)).trans hI.out⟩)) (fun c' hM => (m_X2_wouldStay l D cA N ad c' th n nw ah rw i (sc i 0) (sc i 1) (sc i 2) (sc i 3) (sc i 4) (sc i 5) q (by omega) hM hn5 hi (hI.rows i hi) (hOk i hi) hq.1 hq.2).mono (fun v c' h => ⟨h.1, h.2.choose, _, h.2.choose_spec⟩)) ?_
      exact fun v b h1 h2 => (StayP.eq (by omega) (fun p hp => ((hI.bo i hi) p hp).2.2) h1).trans h2.symm
    · exact step_bad hI (k := 2) (by decide) (by decide) rfl rfl (by decide) (by decide) rfl rfl (by decide) (by decide) (w_L_wouldStay__c1 l D cA N ad c (nI i) y (by omega) hI.fh.1 (t_X1_wouldStay__a l D cA N ad c hfl n i (sc i 0) (sc i 1) (sc i 2) (sc i 3) (sc i 4) (sc i 5) (st i) y (by omega) hI.fh hi (hI.hs i hi) (hOk i hi) hb)) (fun c' hM => m_X2_wouldStay__a l D cA N ad c' th n nw ah rw i (sc i 0) (sc i 1) (sc i 2) (sc i 3) (sc i 4) (sc i 5) y (by omega) hM hn5 hi (hI.rows i hi) (hOk i hi) hb)
  · exact step_bad hI (k := 1) (by decide) (by decide) rfl rfl (by decide) (by decide) rfl rfl (by decide) (by decide) (w_L_wouldStay__c0 l D cA N ad c x y (by omega) hI.fh.1 (t_X1_wouldStay__h l D cA N ad c hfl n x y (by omega) hI.fh hb)) (fun c' hM => m_X2_wouldStay__h l D cA N ad c' th n nw ah rw x y (by omega) hM hn5 hb)
theorem s_placeOf (l : Launch) (D : va_G) (cA : Nat → ClassId) (N : Nat) (ad : Nat → Nat) (c : Nat → va_E) (hfl : l.stackTraces = false) (n : Nat) (sc : Nat → Nat → Nat) (st : Nat → Nat → Nat → Int32) (th : Int32) (nw ah rw : Nat → Int32) (fo : Nat → Int64) (fd : Nat → UInt64) (B : Nat) (hI : Inv ad cA c N n sc st th nw ah rw fo fd B) (hB : B ≤ 110000) (x y : Int32) : LStep l D cA N ad c yL_placeOf wL_placeOf [.ref (ad 0), .int x, .int y, .ref (ad 10)] yX2_placeOf wX2_placeOf [.ref (ad 6), .int x, .int y] n fd B := by
  have hN := hI.hN
  have hn5 := hI.n5
  have hOk := hI.ok.ok hI.sm hB
  rcases hand_or (n := n) x hn5 with ⟨i, hi, rfl⟩ | hb
  · refine step_good hI (P := (fun v => Fst (fun p => st i 0 p = y) 0 (sc i 5) v)) (Q := (fun b => Fst (fun p => sto nw (30 * i) 0 p = y) 0 (sc i 5) b)) rfl rfl (by decide) (by decide) rfl rfl (by decide) (by decide) (w_L_placeOf l D cA N ad c (nI i) y (by omega) hI.fh.1 _ ((m_X1_placeOf l D cA N ad c n i (sc i 0) (sc i 1) (sc i 2) (sc i 3) (sc i 4) (sc i 5) (st i) y (by omega) hI.fh hi (hI.hs i hi) (hOk i hi)).mono (fun v c' h => ⟨h.1, by rw [← h.2]; exact hI.tr.rf⟩)) (fun v c' h => ⟨fo, (h.2.ne (by omega)).trans hI.out⟩)) (fun c' hM => (m_X2_placeOf l D cA N ad c' th n nw ah rw i (sc i 0) (sc i 1) (sc i 2) (sc i 3) (sc i 4) (sc i 5) y (by omega) hM hn5 hi (hI.rows i hi) (hOk i hi)).mono (fun v c' h => ⟨h.1, _, _, h.2⟩)) ?_
    exact fun v b h1 h2 => Fst.uniq (Fst.cg (fun p hp => by rw [((hI.bo i hi).ag (by decide)) p hp]) h1) h2
  · exact step_bad hI (k := 1) (by decide) (by decide) rfl rfl (by decide) (by decide) rfl rfl (by decide) (by decide) (w_L_placeOf__c0 l D cA N ad c x y (by omega) hI.fh.1 (t_X1_placeOf__h l D cA N ad c hfl n x y (by omega) hI.fh hb)) (fun c' hM => m_X2_placeOf__h l D cA N ad c' th n nw ah rw x y (by omega) hM hn5 hb)
theorem s_shared (l : Launch) (D : va_G) (cA : Nat → ClassId) (N : Nat) (ad : Nat → Nat) (c : Nat → va_E) (hfl : l.stackTraces = false) (n : Nat) (sc : Nat → Nat → Nat) (st : Nat → Nat → Nat → Int32) (th : Int32) (nw ah rw : Nat → Int32) (fo : Nat → Int64) (fd : Nat → UInt64) (B : Nat) (hI : Inv ad cA c N n sc st th nw ah rw fo fd B) (hB : B ≤ 110000) (x y : Int32) : LStep l D cA N ad c yL_shared wL_shared [.ref (ad 0), .int x, .int y, .ref (ad 10)] yX2_shared wX2_shared [.ref (ad 6), .int x, .int y] n fd B := by
  have hN := hI.hN
  have hn5 := hI.n5
  have hOk := hI.ok.ok hI.sm hB
  rcases hand_or (n := n) x hn5 with ⟨i, hi, rfl⟩ | hb
  · rcases hand_or (n := n) y hn5 with ⟨j, hj, rfl⟩ | hb
    · refine step_good hI (P := (fun v => v = nI (com (st i 0) (st j 0) (sc j 5) (sc i 5)))) (Q := (fun b => b = nI (com (sto nw (30 * i) 0) (sto nw (30 * j) 0) (sc j 5) (sc i 5)))) rfl rfl (by decide) (by decide) rfl rfl (by decide) (by decide) (w_L_shared l D cA N ad c (nI i) (nI j) (by omega) hI.fh.1 _ ((m_X1_shared l D cA N ad c n i (sc i 0) (sc i 1) (sc i 2) (sc i 3) (sc i 4) (sc i 5) (st i) j (sc j 0) (sc j 1) (sc j 2) (sc j 3) (sc j 4) (sc j 5) (st j) (by omega) hI.fh hi (hI.hs i hi) (hOk i hi) hj (hI.hs j hj) (hOk j hj)).mono (fun v c' h => ⟨h.1, by rw [← h.2]; exact hI.tr.rf⟩)) (fun v c' h => ⟨fo, (h.2.ne (by omega)).trans hI.out⟩)) (fun c' hM => (m_X2_shared l D cA N ad c' th n nw ah rw i (sc i 0) (sc i 1) (sc i 2) (sc i 3) (sc i 4) (sc i 5) j (sc j 0) (sc j 1) (sc j 2) (sc j 3) (sc j 4) (sc j 5) (by omega) hM hn5 hi (hI.rows i hi) (hOk i hi) hj (hI.rows j hj) (hOk j hj)).mono (fun v c' h => ⟨h.1, _, _, h.2⟩)) ?_
      exact fun v b h1 h2 => by rw [h1, h2, com_cg ((hI.bo i hi).ag (by decide)) ((hI.bo j hj).ag (by decide)) (Nat.le_refl _)]
    · exact step_bad hI (k := 1) (by decide) (by decide) rfl rfl (by decide) (by decide) rfl rfl (by decide) (by decide) (w_L_shared__c0 l D cA N ad c (nI i) y (by omega) hI.fh.1 (t_X1_shared__g l D cA N ad c hfl n i (sc i 0) (sc i 1) (sc i 2) (sc i 3) (sc i 4) (sc i 5) (st i) y (by omega) hI.fh hi (hI.hs i hi) (hOk i hi) hb)) (fun c' hM => m_X2_shared__g l D cA N ad c' th n nw ah rw i (sc i 0) (sc i 1) (sc i 2) (sc i 3) (sc i 4) (sc i 5) y (by omega) hM hn5 hi (hI.rows i hi) (hOk i hi) hb)
  · exact step_bad hI (k := 1) (by decide) (by decide) rfl rfl (by decide) (by decide) rfl rfl (by decide) (by decide) (w_L_shared__c0 l D cA N ad c x y (by omega) hI.fh.1 (t_X1_shared__h l D cA N ad c hfl n x y (by omega) hI.fh hb)) (fun c' hM => m_X2_shared__h l D cA N ad c' th n nw ah rw x y (by omega) hM hn5 hb)
theorem s_wouldJoin (l : Launch) (D : va_G) (cA : Nat → ClassId) (N : Nat) (ad : Nat → Nat) (c : Nat → va_E) (hfl : l.stackTraces = false) (n : Nat) (sc : Nat → Nat → Nat) (st : Nat → Nat → Nat → Int32) (th : Int32) (nw ah rw : Nat → Int32) (fo : Nat → Int64) (fd : Nat → UInt64) (B : Nat) (hI : Inv ad cA c N n sc st th nw ah rw fo fd B) (hB : B ≤ 110000) (hinj : Inj N ad) (x y : Int32) : LStep l D cA N ad c yL_wouldJoin wL_wouldJoin [.ref (ad 0), .int x, .int y, .ref (ad 10)] yX2_wouldJoin wX2_wouldJoin [.ref (ad 6), .int x, .int y] n fd B := by
  have hN := hI.hN
  have hn5 := hI.n5
  have hOk := hI.ok.ok hI.sm hB
  rcases hand_or (n := n) x hn5 with ⟨i, hi, rfl⟩ | hb
  · rcases hand_or (n := n) y hn5 with ⟨j, hj, rfl⟩ | hb
    · refine step_good hI (P := (fun v => TJ sc st i j v)) (Q := (fun b => TJ sc (fun j => sto nw (30 * j)) i j b)) rfl rfl (by decide) (by decide) rfl rfl (by decide) (by decide) (w_L_wouldJoin l D cA N ad c (nI i) (nI j) (by omega) hI.fh.1 _ ((m_X1_wouldJoin l D cA N ad c n i j sc st (by omega) hI.fh hI.tr hI.hs hOk hinj hi hj).mono (fun v c' h => h)) (fun v c' h => ⟨fo, (h.2.ne (by omega)).trans hI.out⟩)) (fun c' hM => (m_X2_wouldJoin l D cA N ad c' th n nw ah rw sc i j (by omega) hM hn5 hI.rows hOk hi hj).mono (fun v c' h => h)) ?_
      exact fun v b h1 h2 => TJ.uniq h1 h2
    · exact step_bad hI (k := 1) (by decide) (by decide) rfl rfl (by decide) (by decide) rfl rfl (by decide) (by decide) (w_L_wouldJoin__c0 l D cA N ad c (nI i) y (by omega) hI.fh.1 (t_X1_wouldJoin__g l D cA N ad c hfl n i (sc i 0) (sc i 1) (sc i 2) (sc i 3) (sc i 4) (sc i 5) (st i) y (by omega) hI.fh hi (hI.hs i hi) (hOk i hi) hb)) (fun c' hM => m_X2_wouldJoin__g l D cA N ad c' th n nw ah rw i (sc i 0) (sc i 1) (sc i 2) (sc i 3) (sc i 4) (sc i 5) y (by omega) hM hn5 hi (hI.rows i hi) (hOk i hi) hb)
  · exact step_bad hI (k := 1) (by decide) (by decide) rfl rfl (by decide) (by decide) rfl rfl (by decide) (by decide) (w_L_wouldJoin__c0 l D cA N ad c x y (by omega) hI.fh.1 (t_X1_wouldJoin__h l D cA N ad c hfl n x y (by omega) hI.fh hb)) (fun c' hM => m_X2_wouldJoin__h l D cA N ad c' th n nw ah rw x y (by omega) hM hn5 hb)
