/-! one hand changed, in the class and in the reference -/
def scU (sc : Nat → Nat → Nat) (i R Y L S D K : Nat) : Nat → Nat → Nat := fun j k => if j = i then (if k = 0 then R else if k = 1 then Y else if k = 2 then L else if k = 3 then S else if k = 4 then D else K) else sc j k
def stW (st : Nat → Nat → Nat → Int32) (i : Nat) (s : Nat → Nat → Int32) : Nat → Nat → Nat → Int32 := fun j => if j = i then s else st j
section CHG
variable {ad : Nat → Nat} {cA : Nat → ClassId} {c : Nat → va_E} {N n : Nat} {sc : Nat → Nat → Nat} {st : Nat → Nat → Nat → Int32} {th th' : Int32} {nw ah rw nw' ah' rw' : Nat → Int32} {fo fo' : Nat → Int64} {fd : Nat → UInt64} {B : Nat} {i R Y L S D K : Nat} {s : Nat → Nat → Int32}
theorem scU_eq {k : Nat} : scU sc i R Y L S D K i k = if k = 0 then R else if k = 1 then Y else if k = 2 then L else if k = 3 then S else if k = 4 then D else K := if_pos rfl
theorem scU_ne {j k : Nat} (h : j ≠ i) : scU sc i R Y L S D K j k = sc j k := if_neg h
theorem stW_eq : stW st i s i = s := if_pos rfl
theorem stW_ne {j : Nat} (h : j ≠ i) : stW st i s j = st j := if_neg h
theorem Inv.chg (hI : Inv ad cA c N n sc st th nw ah rw fo fd B) (hi : i < n) (hb : 1 ≤ R ∧ R ≤ 8 ∧ Y ≤ 1 ∧ L ≤ 9999 ∧ K ≤ R ∧ K ≤ S ∧ S ≤ D ∧ D ≤ 9 * S) (h1 : sc i 3 ≤ S) (h2 : S ≤ sc i 3 + 200) (hrow : RowE nw' (30 * i) R Y L S D K) (ho : Out nw' nw (30 * i)) (hbo : Bo K S s (sto nw' (30 * i))) :
    Inv ad cA (mw ad cA (va_up (hw ad cA c (12 + 4 * i) R Y L S D K s) 10 (.inl (cA 2, 1, .inr (.inl fo')))) th' n nw' ah' rw') N n (scU sc i R Y L S D K) (stW st i s) th' nw' ah' rw' fo' fd (B + 200) := by
  have hN := hI.hN
  have hn5 := hI.n5
  have ne : ∀ r, (r < 6 ∨ 10 < r) → (r < 12 + 4 * i ∨ 12 + 4 * i + 4 ≤ r) → mw ad cA (va_up (hw ad cA c (12 + 4 * i) R Y L S D K s) 10 (.inl (cA 2, 1, .inr (.inl fo')))) th' n nw' ah' rw' r = c r := fun r h1 h2 => by
    rw [mw_ne (by omega), va_up_ne _ _ (by omega), hw_ne h2]
  refine ⟨hN, hn5, hI.fh.cg (ne 0 (by omega) (by omega)) (ne 1 (by omega) (by omega)), hI.tr.cg (fun r _ _ => ne r (by omega) (by omega)), ?_, ?_, ?_, mw_at, ?_, ?_, ?_, ?_, ?_⟩
  · intro j hj
    by_cases e : j = i
    · subst e
      rw [stW_eq, scU_eq, scU_eq, scU_eq, scU_eq, scU_eq, scU_eq]
      show HandAt ad cA _ (12 + 4 * j) R Y L S D K s
      exact (hw_at (c := c)).cg (fun r _ _ => by rw [mw_ne (by omega), va_up_ne _ _ (by omega)])
    · rw [stW_ne e, scU_ne e, scU_ne e, scU_ne e, scU_ne e, scU_ne e, scU_ne e]
      exact (hI.hs j hj).cg (fun r _ _ => ne r (by omega) (by omega))
  · intro j hj
    by_cases e : j = i
    · subst e
      rw [scU_eq, scU_eq, scU_eq, scU_eq, scU_eq, scU_eq]
      exact hb
    · rw [scU_ne e, scU_ne e, scU_ne e, scU_ne e, scU_ne e, scU_ne e]
      exact hI.ok j hj
  · have e : sumS (scU sc i R Y L S D K) n = sumS sc n + (S - sc i 3) := sumS_add hi (by rw [scU_eq]; show S = _; omega) (fun j _ hne => scU_ne hne)
    have := hI.sm
    omega
  · intro j hj
    by_cases e : j = i
    · subst e
      rw [scU_eq, scU_eq, scU_eq, scU_eq, scU_eq, scU_eq]
      exact hrow
    · rw [scU_ne e, scU_ne e, scU_ne e, scU_ne e, scU_ne e, scU_ne e]
      exact (hI.rows j hj).same (fun z h1 h2 => ho z (by omega))
  · intro j hj
    by_cases e : j = i
    · subst e
      rw [stW_eq, scU_eq, scU_eq]
      exact hbo
    · rw [stW_ne e, scU_ne e, scU_ne e]
      intro p hp
      have hK := hI.ok j hj
      obtain ⟨a1, a2, a3⟩ := hI.bo j hj p hp
      exact ⟨fun k hk => (a1 k hk).trans (ho _ (by omega)).symm, a2, a3⟩
  · exact fun z hz hz2 => (ho z (by omega)).trans (hI.zero z hz hz2)
  · rw [mw_ne (by omega), up_at]
  · rw [ne 11 (by omega) (by omega)]; exact hI.outD
end CHG
