/-! the law's invariant -/
section CG
variable {ad : Nat → Nat} {cA : Nat → ClassId} {c c' : Nat → va_E} {n b R Y L S D K : Nat} {st : Nat → Nat → Int32} {th : Int32} {nw ah rw : Nat → Int32}
theorem HandAt.cg (h : HandAt ad cA c b R Y L S D K st) (e : ∀ r, b ≤ r → r < b + 4 → c' r = c r) : HandAt ad cA c' b R Y L S D K st := by
  obtain ⟨h0, h1, h2, h3⟩ := h
  exact ⟨(e b (by omega) (by omega)).trans h0, (e _ (by omega) (by omega)).trans h1, (e _ (by omega) (by omega)).trans h2, (e _ (by omega) (by omega)).trans h3⟩
theorem FH.cg (h : FH ad cA c n) (e0 : c' 0 = c 0) (e1 : c' 1 = c 1) : FH ad cA c' n := ⟨e0.trans h.1, e1.trans h.2.1, h.2.2⟩
theorem TrAt.cg (h : TrAt ad cA c) (e : ∀ r, 2 ≤ r → r < 6 → c' r = c r) : TrAt ad cA c' := by
  obtain ⟨Rt, Yt, Lt, St, Dt, Kt, stt, ht⟩ := h
  exact ⟨Rt, Yt, Lt, St, Dt, Kt, stt, ht.cg (fun r h1 h2 => e r h1 (by omega))⟩
theorem MoAt.cg (h : MoAt ad cA c th n nw ah rw) (e : ∀ r, 6 ≤ r → r < 10 → c' r = c r) : MoAt ad cA c' th n nw ah rw := by
  obtain ⟨h0, h1, h2, h3⟩ := h
  exact ⟨(e _ (by omega) (by omega)).trans h0, (e _ (by omega) (by omega)).trans h1, (e _ (by omega) (by omega)).trans h2, (e _ (by omega) (by omega)).trans h3⟩
end CG
/-- stones seen by the first k hands -/
def sumS (sc : Nat → Nat → Nat) : Nat → Nat
  | 0 => 0
  | k + 1 => sumS sc k + sc k 3
theorem sumS_le {sc : Nat → Nat → Nat} : ∀ {k i : Nat}, i < k → sc i 3 ≤ sumS sc k
  | 0, _, h => absurd h (Nat.not_lt_zero _)
  | k + 1, i, h => by
    unfold sumS
    by_cases e : i = k
    · subst e; omega
    · have := sumS_le (sc := sc) (k := k) (i := i) (by omega); omega
theorem sumS_cg {sc sc' : Nat → Nat → Nat} : ∀ {k : Nat}, (∀ i, i < k → sc' i 3 = sc i 3) → sumS sc' k = sumS sc k
  | 0, _ => rfl
  | k + 1, h => by
    unfold sumS
    rw [sumS_cg (k := k) (fun i hi => h i (by omega)), h k (by omega)]
/-- one hand more seen by d -/
theorem sumS_add {sc sc' : Nat → Nat → Nat} {i d : Nat} : ∀ {k : Nat}, i < k → sc' i 3 = sc i 3 + d → (∀ j, j < k → j ≠ i → sc' j 3 = sc j 3) → sumS sc' k = sumS sc k + d
  | 0, h, _, _ => absurd h (Nat.not_lt_zero _)
  | k + 1, h, h1, h2 => by
    unfold sumS
    by_cases e : i = k
    · subst e
      rw [sumS_cg (k := i) (fun j hj => h2 j (by omega) (by omega)), h1]; omega
    · rw [sumS_add (k := k) (by omega) h1 (fun j hj hne => h2 j (by omega) hne), h2 k (by omega) (fun q => e q.symm)]; omega
def HsI (n : Nat) (sc : Nat → Nat → Nat) : Prop := ∀ i, i < n → 1 ≤ sc i 0 ∧ sc i 0 ≤ 8 ∧ sc i 1 ≤ 1 ∧ sc i 2 ≤ 9999 ∧ sc i 5 ≤ sc i 0 ∧ sc i 5 ≤ sc i 3 ∧ sc i 3 ≤ sc i 4 ∧ sc i 4 ≤ 9 * sc i 3
theorem HsI.ok {n B : Nat} {sc : Nat → Nat → Nat} (h : HsI n sc) (hs : sumS sc n ≤ B) (hB : B ≤ 110000) : HsOk n sc := fun i hi => by
  obtain ⟨h1, h2, h3, h4, h5, h6, h7, h8⟩ := h i hi
  have := sumS_le (sc := sc) hi
  exact ⟨h1, h2, h3, h4, by omega, by omega, h5, h6, h7⟩
/-- all that lies in the world of the law, the hands' numbers sc and stones st, and the reference beside it -/
def Inv (ad : Nat → Nat) (cA : Nat → ClassId) (c : Nat → va_E) (N n : Nat) (sc : Nat → Nat → Nat) (st : Nat → Nat → Nat → Int32) (th : Int32) (nw ah rw : Nat → Int32) (fo : Nat → Int64) (fd : Nat → UInt64) (B : Nat) : Prop :=
  (N = 12 + 4 * n) ∧
  (n ≤ 5) ∧
  (FH ad cA c n) ∧
  (TrAt ad cA c) ∧
  (HsAt ad cA c n sc st) ∧
  (HsI n sc) ∧
  (sumS sc n ≤ B) ∧
  (MoAt ad cA c th n nw ah rw) ∧
  (RowsAt nw n sc) ∧
  (∀ i, i < n → Bo (sc i 5) (sc i 3) (st i) (sto nw (30 * i))) ∧
  (∀ z, 30 * n ≤ z → z < 150 → nw z = nI 0) ∧
  (c 10 = .inl (cA 2, 1, .inr (.inl fo))) ∧
  (c 11 = .inl (cA 3, 1, .inr (.inr (.inr (.inl fd)))))
section INV0
variable {ad : Nat → Nat} {cA : Nat → ClassId} {c : Nat → va_E} {N n : Nat} {sc : Nat → Nat → Nat} {st : Nat → Nat → Nat → Int32} {th : Int32} {nw ah rw : Nat → Int32} {fo : Nat → Int64} {fd : Nat → UInt64} {B : Nat}
theorem Inv.hN (h : Inv ad cA c N n sc st th nw ah rw fo fd B) : N = 12 + 4 * n := h.1
theorem Inv.n5 (h : Inv ad cA c N n sc st th nw ah rw fo fd B) : n ≤ 5 := h.2.1
theorem Inv.fh (h : Inv ad cA c N n sc st th nw ah rw fo fd B) : FH ad cA c n := h.2.2.1
theorem Inv.tr (h : Inv ad cA c N n sc st th nw ah rw fo fd B) : TrAt ad cA c := h.2.2.2.1
theorem Inv.hs (h : Inv ad cA c N n sc st th nw ah rw fo fd B) : HsAt ad cA c n sc st := h.2.2.2.2.1
theorem Inv.ok (h : Inv ad cA c N n sc st th nw ah rw fo fd B) : HsI n sc := h.2.2.2.2.2.1
theorem Inv.sm (h : Inv ad cA c N n sc st th nw ah rw fo fd B) : sumS sc n ≤ B := h.2.2.2.2.2.2.1
theorem Inv.mo (h : Inv ad cA c N n sc st th nw ah rw fo fd B) : MoAt ad cA c th n nw ah rw := h.2.2.2.2.2.2.2.1
theorem Inv.rows (h : Inv ad cA c N n sc st th nw ah rw fo fd B) : RowsAt nw n sc := h.2.2.2.2.2.2.2.2.1
theorem Inv.bo (h : Inv ad cA c N n sc st th nw ah rw fo fd B) : ∀ i, i < n → Bo (sc i 5) (sc i 3) (st i) (sto nw (30 * i)) := h.2.2.2.2.2.2.2.2.2.1
theorem Inv.zero (h : Inv ad cA c N n sc st th nw ah rw fo fd B) : ∀ z, 30 * n ≤ z → z < 150 → nw z = nI 0 := h.2.2.2.2.2.2.2.2.2.2.1
theorem Inv.out (h : Inv ad cA c N n sc st th nw ah rw fo fd B) : c 10 = .inl (cA 2, 1, .inr (.inl fo)) := h.2.2.2.2.2.2.2.2.2.2.2.1
theorem Inv.outD (h : Inv ad cA c N n sc st th nw ah rw fo fd B) : c 11 = .inl (cA 3, 1, .inr (.inr (.inr (.inl fd)))) := h.2.2.2.2.2.2.2.2.2.2.2.2
end INV0
section INV
variable {ad : Nat → Nat} {cA : Nat → ClassId} {c c' : Nat → va_E} {N n : Nat} {sc : Nat → Nat → Nat} {st : Nat → Nat → Nat → Int32} {th th' : Int32} {nw ah rw ah' rw' : Nat → Int32} {fo fo' : Nat → Int64} {fd fd' : Nat → UInt64} {B B' : Nat}
theorem Inv.up (h : Inv ad cA c N n sc st th nw ah rw fo fd B) (hB : B ≤ B') : Inv ad cA c N n sc st th nw ah rw fo fd B' := ⟨h.hN, h.n5, h.fh, h.tr, h.hs, h.ok, Nat.le_trans h.sm hB, h.mo, h.rows, h.bo, h.zero, h.out, h.outD⟩
/-- the answer's row written -/
theorem Inv.put (h : Inv ad cA c N n sc st th nw ah rw fo fd B) : Inv ad cA (va_up c 10 (.inl (cA 2, 1, .inr (.inl fo')))) N n sc st th nw ah rw fo' fd B :=
  ⟨h.hN, h.n5, (h.fh.cg (va_up_ne _ _ (by omega)) (va_up_ne _ _ (by omega))), (h.tr.cg (fun r _ _ => va_up_ne _ _ (by omega))), (fun i hi => (h.hs i hi).cg (fun r _ _ => va_up_ne _ _ (by omega))), h.ok, h.sm, (h.mo.cg (fun r _ _ => va_up_ne _ _ (by omega))), h.rows, h.bo, h.zero, (up_at), ((va_up_ne _ _ (by omega)).trans h.outD)⟩
theorem Inv.putD (h : Inv ad cA c N n sc st th nw ah rw fo fd B) : Inv ad cA (va_up c 11 (.inl (cA 3, 1, .inr (.inr (.inr (.inl fd')))))) N n sc st th nw ah rw fo fd' B :=
  ⟨h.hN, h.n5, (h.fh.cg (va_up_ne _ _ (by omega)) (va_up_ne _ _ (by omega))), (h.tr.cg (fun r _ _ => va_up_ne _ _ (by omega))), (fun i hi => (h.hs i hi).cg (fun r _ _ => va_up_ne _ _ (by omega))), h.ok, h.sm, (h.mo.cg (fun r _ _ => va_up_ne _ _ (by omega))), h.rows, h.bo, h.zero, ((va_up_ne _ _ (by omega)).trans h.out), (up_at)⟩
/-- the reference's scratch changed -/
theorem Inv.mod (h : Inv ad cA c N n sc st th nw ah rw fo fd B) : Inv ad cA (mw ad cA c th' n nw ah' rw') N n sc st th' nw ah' rw' fo fd B :=
  ⟨h.hN, h.n5, (h.fh.cg (mw_ne (by omega)) (mw_ne (by omega))), (h.tr.cg (fun r _ _ => mw_ne (by omega))), (fun i hi => (h.hs i hi).cg (fun r _ _ => mw_ne (by omega))), h.ok, h.sm, (mw_at), h.rows, h.bo, h.zero, ((mw_ne (by omega)).trans h.out), ((mw_ne (by omega)).trans h.outD)⟩
/-- the class's scratch hand changed -/
theorem Inv.trial (h : Inv ad cA c N n sc st th nw ah rw fo fd B) (t : Tr ad cA c c') : Inv ad cA c' N n sc st th nw ah rw fo fd B :=
  ⟨h.hN, h.n5, (h.fh.tr t), (t.at), (h.hs.tr t), h.ok, h.sm, (h.mo.cg (fun r _ _ => t.ne (by omega))), h.rows, h.bo, h.zero, ((t.ne (by omega)).trans h.out), ((t.ne (by omega)).trans h.outD)⟩
end INV
