section AG
variable {V V' W W' : Nat → Int32} {x : Int32} {K K' R Y L S D r : Nat} {v v' : Int32} {d z z' : Int64}
theorem CntsP.uniq (q : CntsP V R S D L K d z) (q' : CntsP V R S D L K d z') : z = z' := by
  obtain ⟨lo, mi, h1, h2, e⟩ := q
  obtain ⟨lo', mi', h1', h2', e'⟩ := q'
  rw [e, e', h1.uniq h1', h2.uniq h2']
theorem pk_K {w : Nat} : K ≤ (pk R Y L S D K w).2.2 := by
  unfold pk
  split
  · exact Nat.le_succ K
  · split
    · split <;> exact Nat.le_refl K
    · split <;> exact Nat.le_refl K
theorem itS_K {w : Nat} {x : Nat × Nat × Nat × Nat} : ∀ k, x.2.2.2 ≤ (itS R Y w k x).2.2.2
  | 0 => Nat.le_refl _
  | k + 1 => Nat.le_trans (itS_K k) (pk_K (w := w))
theorem StayP.eq {st : Nat → Nat → Int32} {m : Nat} (hS : S + m < 2 ^ 31) (hT : ∀ p, p < K → ∃ t, t ≤ S ∧ st 2 p = nI t) (h : StayP R Y L S D K st m v) : v = nI (stayC R Y (L, S, D, K) m K) := by
  obtain ⟨stt, rfl⟩ := h
  have h1 : K ≤ (itS R Y 1 m (L, S, D, K)).2.2.2 := itS_K (x := (L, S, D, K)) m
  rw [stay_eq hS hT _ (Nat.le_refl _), Nat.min_eq_right h1]
end AG
section AGS
variable {n i : Nat} {sc : Nat → Nat → Nat} {st st' : Nat → Nat → Nat → Int32} {d z z' : Int64}
theorem TJ.uniq {j : Nat} {v v' : Int32} (h : TJ sc st i j v) (h' : TJ sc st' i j v') : v = v' := by
  rcases h with ⟨h1, h2⟩ | ⟨h1, h2, h3⟩
  · rcases h' with ⟨_, g2⟩ | ⟨g1, g2, _⟩
    · rw [h2, g2]
    · rcases h1 with q | q
      · exact absurd q g1
      · exact absurd g2 q
  · rcases h' with ⟨g1, _⟩ | ⟨_, _, g3⟩
    · rcases g1 with q | q
      · exact absurd q h1
      · exact absurd h2 q
    · exact h3.uniq g3
theorem ForeP.uniq {R Y L S D K : Nat} {st : Nat → Nat → Int32} (hS : S + 20 < 2 ^ 31) (hT : ∀ p, p < K → ∃ t, t ≤ S ∧ st 2 p = nI t) (h : ForeP R Y L S D K st d z) (h' : ForeP R Y L S D K st d z') : z = z' := by
  obtain ⟨sy, un, we, h1, h2, h3, e⟩ := h
  obtain ⟨sy', un', we', h1', h2', h3', e'⟩ := h'
  have e0 : sy = sy' := (h1.eq hS hT).trans (h1'.eq hS hT).symm
  have e1 : un = un' := Fst.uniq h2 h2'
  have e2 : we = we' := Fst.uniq h3 h3'
  rw [e, e', e0, e1, e2]
theorem PairsP.uniq : ∀ {k : Nat} {z z' : Int64}, PairsP sc st i k d z → PairsP sc st i k d z' → z = z'
  | 0, z, z', h, h' => by
    have h : z = d := h
    have h' : z' = d := h'
    rw [h, h']
  | k + 1, z, z', h, h' => by
    obtain ⟨d1, t, h1, h2, e⟩ := h
    obtain ⟨d1', t', h1', h2', e'⟩ := h'
    have e1 : d1 = d1' := PairsP.uniq h1 h1'
    rw [e, e', e1, h2.uniq h2']
/-- the stones' turns are not after the last -/
def Trn (n : Nat) (sc : Nat → Nat → Nat) (st : Nat → Nat → Nat → Int32) : Prop := ∀ j, j < n → sc j 3 + 20 < 2 ^ 31 ∧ ∀ p, p < sc j 5 → ∃ t, t ≤ sc j 3 ∧ st j 2 p = nI t
theorem HandP.uniq (ha : Trn n sc st) (hi : i < n) (h : HandP n sc st i d z) (h' : HandP n sc st i d z') : z = z' := by
  obtain ⟨d1, d2, h1, h2, h3⟩ := h
  obtain ⟨d1', d2', h1', h2', h3'⟩ := h'
  obtain ⟨a2, a3⟩ := ha i hi
  obtain rfl : d1 = d1' := h1.uniq h1'
  obtain rfl : d2 = d2' := h2.uniq a2 a3 h2'
  exact PairsP.uniq h3 h3'
theorem HandsP.uniq (ha : Trn n sc st) : ∀ {k : Nat} {z z' : Int64}, k ≤ n → HandsP n sc st k d z → HandsP n sc st k d z' → z = z'
  | 0, z, z', _, h, h' => by
    have h : z = d := h
    have h' : z' = d := h'
    rw [h, h']
  | k + 1, z, z', hk, h, h' => by
    obtain ⟨d1, h1, h2⟩ := h
    obtain ⟨d1', h1', h2'⟩ := h'
    obtain rfl : d1 = d1' := HandsP.uniq ha (by omega) h1 h1'
    exact h2.uniq ha (by omega) h2'
theorem DigP.uniq (ha : Trn n sc st) (h : DigP n sc st z) (h' : DigP n sc st z') : z = z' := HandsP.uniq ha (Nat.le_refl _) h h'
end AGS
