/-! two tellings of the same stones -/
def Ag (K : Nat) (V V' : Nat → Int32) : Prop := ∀ p, p < K → V p = V' p
section AG
variable {V V' W W' : Nat → Int32} {x : Int32} {K K' R Y L S D r : Nat} {v v' : Int32} {d z z' : Int64}
theorem Ag.le {k : Nat} (h : Ag K V V') (hk : k ≤ K) : Ag k V V' := fun p hp => h p (by omega)
theorem tot_cg : ∀ {K : Nat}, Ag K V V' → tot V K = tot V' K
  | 0, _ => rfl
  | k + 1, h => by
    show tot V k + V k = tot V' k + V' k
    rw [tot_cg (h.le (by omega)), h k (by omega)]
theorem cntE_cg : ∀ {k : Nat}, Ag k V V' → cntE V x k = cntE V' x k
  | 0, _ => rfl
  | k + 1, h => by
    unfold cntE
    rw [cntE_cg (h.le (by omega)), h k (by omega)]
theorem cntL_cg : ∀ {k : Nat}, Ag k V V' → cntL V x k = cntL V' x k
  | 0, _ => rfl
  | k + 1, h => by
    unfold cntL
    rw [cntL_cg (h.le (by omega)), h k (by omega)]
theorem rk_cg {p : Nat} (h : Ag K V V') (hp : p < K) : rk V K p = rk V' K p := by
  unfold rk
  rw [h p hp, cntE_cg (h.le (Nat.le_of_lt hp)), cntL_cg h]
theorem RkP.cg (h : Ag K V V') (q : RkP V K r v) : RkP V' K r v := by
  rcases q with ⟨p, hp, h1, h2⟩ | ⟨h1, h2⟩
  · exact Or.inl ⟨p, hp, (rk_cg h hp).symm.trans h1, h2⟩
  · exact Or.inr ⟨h1, fun p hp e => h2 p hp ((rk_cg h hp).trans e)⟩
theorem MidP.cg (h : Ag K V V') (q : MidP V K v) : MidP V' K v := by
  rcases q with ⟨p, hp, h1, h2⟩ | ⟨h1, h2⟩
  · exact Or.inl ⟨p, hp, (rk_cg h hp).symm.trans h1, h2.trans (h p hp)⟩
  · exact Or.inr ⟨h1, fun p hp e => h2 p hp ((rk_cg h hp).trans e)⟩
theorem com_cg (h : Ag K V V') (h' : Ag K' W W') : ∀ {k : Nat}, k ≤ K → com V W K' k = com V' W' K' k
  | 0, _ => rfl
  | k + 1, hk => by
    unfold com
    rw [com_cg h h' (by omega), h k (by omega), cntE_cg (h.le (by omega)), cntE_cg h']
theorem CntsP.cg (h : Ag K V V') (q : CntsP V R S D L K d z) : CntsP V' R S D L K d z := by
  obtain ⟨lo, mi, h1, h2, e⟩ := q
  exact ⟨lo, mi, h1.cg h, h2.cg h, by rw [e, tot_cg h]⟩
theorem CntsP.uniq (q : CntsP V R S D L K d z) (q' : CntsP V R S D L K d z') : z = z' := by
  obtain ⟨lo, mi, h1, h2, e⟩ := q
  obtain ⟨lo', mi', h1', h2', e'⟩ := q'
  rw [e, e', h1.uniq h1', h2.uniq h2']
theorem dgS_cg {st st' : Nat → Nat → Int32} (h : ∀ k, k < 3 → Ag K (st k) (st' k)) : ∀ {k : Nat}, k ≤ K → dgS st K k d = dgS st' K k d
  | 0, _ => rfl
  | k + 1, hk => by
    unfold dgS
    rw [dgS_cg h (by omega), h 0 (by omega) k (by omega), h 1 (by omega) k (by omega), h 2 (by omega) k (by omega), rk_cg (h 0 (by omega)) (by omega)]
theorem pk_K {w : Nat} : K ≤ (pk R Y L S D K w).2.2 := by
  unfold pk
  split
  · exact Nat.le_succ K
  · split
    · split <;> exact Nat.le_refl K
    · split <;> exact Nat.le_refl K
theorem itS_K {w : Nat} {x : Nat × Nat × Nat × Nat} : ∀ k, x.2.2.2 ≤ (itS R Y w k x).2.2.2
  | 0 => Nat.le_refl _
  | k + 1 => Nat.le_trans (itS_K k) (pk_K (w := w))
theorem StayP.eq {st : Nat → Nat → Int32} {m : Nat} (hS : S + m < 2 ^ 31) (hT : ∀ p, p < K → ∃ t, t ≤ S ∧ st 2 p = nI t) (h : StayP R Y L S D K st m v) : v = nI (stayC R Y (L, S, D, K) m K) := by
  obtain ⟨stt, rfl⟩ := h
  have h1 : K ≤ (itS R Y 1 m (L, S, D, K)).2.2.2 := itS_K (x := (L, S, D, K)) m
  rw [stay_eq hS hT _ (Nat.le_refl _), Nat.min_eq_right h1]
theorem ForeP.toM {st : Nat → Nat → Int32} (hS : S + 20 < 2 ^ 31) (hT : ∀ p, p < K → ∃ t, t ≤ S ∧ st 2 p = nI t) (h : ForeP R Y L S D K st d z) : ForeM R Y L S D K d z := by
  obtain ⟨sy, un, we, h1, h2, h3, e⟩ := h
  exact ⟨un, we, h2, h3, by rw [e, h1.eq hS hT]⟩
theorem ForeM.uniq (h : ForeM R Y L S D K d z) (h' : ForeM R Y L S D K d z') : z = z' := by
  obtain ⟨un, we, h2, h3, e⟩ := h
  obtain ⟨un', we', h2', h3', e'⟩ := h'
  have e1 : un = un' := Fst.uniq h2 h2'
  have e2 : we = we' := Fst.uniq h3 h3'
  rw [e, e', e1, e2]
end AG
section AGS
variable {n i : Nat} {sc : Nat → Nat → Nat} {st st' : Nat → Nat → Nat → Int32} {d z z' : Int64}
theorem TJ.uniq {j : Nat} {v v' : Int32} (h : TJ sc st i j v) (h' : TJ sc st' i j v') : v = v' := by
  rcases h with ⟨h1, h2⟩ | ⟨h1, h2, h3⟩
  · rcases h' with ⟨_, g2⟩ | ⟨g1, g2, _⟩
    · rw [h2, g2]
    · rcases h1 with q | q
      · exact absurd q g1
      · exact absurd g2 q
  · rcases h' with ⟨g1, _⟩ | ⟨_, _, g3⟩
    · rcases g1 with q | q
      · exact absurd q h1
      · exact absurd h2 q
    · exact h3.uniq g3
theorem PairsP.eq (hi : Ag (sc i 5) (st i 0) (st' i 0)) : ∀ {k : Nat} {z z' : Int64}, (∀ j, j < k → Ag (sc j 5) (st j 0) (st' j 0)) → PairsP sc st i k d z → PairsP sc st' i k d z' → z = z'
  | 0, z, z', _, h, h' => by
    have h : z = d := h
    have h' : z' = d := h'
    rw [h, h']
  | k + 1, z, z', hj, h, h' => by
    obtain ⟨d1, t, h1, h2, e⟩ := h
    obtain ⟨d1', t', h1', h2', e'⟩ := h'
    have e1 : d1 = d1' := PairsP.eq hi (fun j hj2 => hj j (by omega)) h1 h1'
    rw [e, e', e1, h2.uniq h2', com_cg hi (hj k (by omega)) (Nat.le_refl _)]
/-- stones alike, and their turns not after the last -/
def Alk (n : Nat) (sc : Nat → Nat → Nat) (st st' : Nat → Nat → Nat → Int32) : Prop := ∀ j, j < n → (∀ k, k < 3 → Ag (sc j 5) (st j k) (st' j k)) ∧ sc j 3 + 20 < 2 ^ 31 ∧ ∀ p, p < sc j 5 → ∃ t, t ≤ sc j 3 ∧ st j 2 p = nI t
theorem HandP.eq (ha : Alk n sc st st') (hi : i < n) (h : HandP n sc st i d z) (h' : HandM n sc st' i d z') : z = z' := by
  obtain ⟨d1, d2, h1, h2, h3⟩ := h
  obtain ⟨d1', d2', h1', h2', h3'⟩ := h'
  obtain ⟨a1, a2, a3⟩ := ha i hi
  have e1 : d1 = d1' := (h1.cg (a1 0 (by omega))).uniq h1'
  subst e1
  have e2 : d2 = d2' := (h2.toM a2 a3).uniq h2'
  subst e2
  rw [dgS_cg a1 (Nat.le_refl _)] at h3
  exact PairsP.eq (a1 0 (by omega)) (fun j hj => (ha j hj).1 0 (by omega)) h3 h3'
theorem HandsP.eq (ha : Alk n sc st st') : ∀ {k : Nat} {z z' : Int64}, k ≤ n → HandsP n sc st k d z → HandsM n sc st' k d z' → z = z'
  | 0, z, z', _, h, h' => by
    have h : z = d := h
    have h' : z' = d := h'
    rw [h, h']
  | k + 1, z, z', hk, h, h' => by
    obtain ⟨d1, h1, h2⟩ := h
    obtain ⟨d1', h1', h2'⟩ := h'
    have e1 : d1 = d1' := HandsP.eq ha (by omega) h1 h1'
    subst e1
    exact h2.eq ha (by omega) h2'
theorem DigP.eq (ha : Alk n sc st st') (h : DigP n sc st z) (h' : DigM n sc st' z') : z = z' := HandsP.eq ha (Nat.le_refl _) h h'
end AGS
