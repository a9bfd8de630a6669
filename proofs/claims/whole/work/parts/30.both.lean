/-! both tellings of a hand's stones, and what holds of each stone -/
def Bo (K S : Nat) (s s' : Nat → Nat → Int32) : Prop := ∀ p, p < K → (∀ k, k < 3 → s k p = s' k p) ∧ (∃ v, v ≤ 999 ∧ s 0 p = nI v) ∧ ∃ t, t ≤ S ∧ s 2 p = nI t
section BO
variable {K S R Y L D w : Nat} {s s' : Nat → Nat → Int32}
theorem Bo.ag (h : Bo K S s s') {k : Nat} (hk : k < 3) : Ag K (s k) (s' k) := fun p hp => (h p hp).1 k hk
theorem Bo.le {S' : Nat} (h : Bo K S s s') (hS : S ≤ S') : Bo K S' s s' := fun p hp => by
  obtain ⟨h1, h2, t, ht, e⟩ := h p hp
  exact ⟨h1, h2, t, Nat.le_trans ht hS, e⟩
theorem Bo.down {K' : Nat} (h : Bo K S s s') (hK : K' ≤ K) : Bo K' S s s' := fun p hp => h p (Nat.lt_of_lt_of_le hp hK)
theorem Bo.same {r r' : Nat → Nat → Int32} (h : Bo K S s s') (e : ∀ k p, k < 3 → p < K → r k p = s k p) (e' : ∀ k p, k < 3 → p < K → r' k p = s' k p) : Bo K S r r' := fun p hp => by
  obtain ⟨h1, ⟨v, hv, ev⟩, t, ht, et⟩ := h p hp
  exact ⟨fun k hk => by rw [e k p hk hp, e' k p hk hp]; exact h1 k hk, ⟨v, hv, by rw [e 0 p (by omega) hp]; exact ev⟩, t, ht, by rw [e 2 p (by omega) hp]; exact et⟩
theorem stU3_at {p : Nat} {v w t : Int32} : stU (stU (stU s 0 p v) 1 p w) 2 p t 0 p = v ∧ stU (stU (stU s 0 p v) 1 p w) 2 p t 1 p = w ∧ stU (stU (stU s 0 p v) 1 p w) 2 p t 2 p = t := by
  refine ⟨?_, ?_, ?_⟩ <;> simp [stU, upd]
theorem stU3_ne {p q k : Nat} {v w t : Int32} (hk : k < 3) (hq : q ≠ p) : stU (stU (stU s 0 p v) 1 p w) 2 p t k q = s k q := by
  rcases (show k = 0 ∨ k = 1 ∨ k = 2 by omega) with rfl | rfl | rfl <;> simp [stU, upd, hq]
/-- a stone put on place q -/
theorem Bo.put {q x t : Nat} {w : Int32} {K' S' : Nat} (h : Bo K S s s') (hK : ∀ p, p < K' → p = q ∨ p < K) (hS : S ≤ S') (hx : x ≤ 999) (ht : t ≤ S') : Bo K' S' (stU (stU (stU s 0 q (nI x)) 1 q w) 2 q (nI t)) (stU (stU (stU s' 0 q (nI x)) 1 q w) 2 q (nI t)) := by
  intro p hp
  obtain ⟨a0, a1, a2⟩ := stU3_at (s := s) (p := q) (v := nI x) (w := w) (t := nI t)
  obtain ⟨b0, b1, b2⟩ := stU3_at (s := s') (p := q) (v := nI x) (w := w) (t := nI t)
  by_cases e : p = q
  · subst e
    refine ⟨fun k hk => ?_, ⟨x, hx, a0⟩, t, ht, a2⟩
    rcases (show k = 0 ∨ k = 1 ∨ k = 2 by omega) with rfl | rfl | rfl
    · rw [a0, b0]
    · rw [a1, b1]
    · rw [a2, b2]
  · have hpK : p < K := (hK p hp).elim (fun q => absurd q e) id
    obtain ⟨h1, ⟨v, hv, ev⟩, t1, ht1, et⟩ := h p hpK
    refine ⟨fun k hk => ?_, ⟨v, hv, ?_⟩, t1, Nat.le_trans ht1 hS, ?_⟩
    · rw [stU3_ne hk e, stU3_ne hk e]; exact h1 k hk
    · rw [stU3_ne (by omega) e]; exact ev
    · rw [stU3_ne (by omega) e]; exact et
/-- a stone that comes -/
theorem Bo.come {S9 x t : Nat} {wv : Int32} (h : Bo K S s s') (hx : x ≤ 999) {S' : Nat} (hS : S ≤ S') (ht : t ≤ S') : Bo (pk R Y L S9 D K w).2.2 S' (stT s (pk R Y L S9 D K w).1 (nI x) wv (nI t)) (stT s' (pk R Y L S9 D K w).1 (nI x) wv (nI t)) := by
  unfold pk
  split
  · exact h.put (fun p hp => by have hp : p < K + 1 := hp; omega) hS hx ht
  · split
    · split
      · exact h.put (fun p hp => Or.inr hp) hS hx ht
      · exact h.le hS
    · split
      · exact h.put (fun p hp => Or.inr hp) hS hx ht
      · exact h.le hS
theorem rwS_S {x : Nat × Nat × Nat × Nat} : ∀ k, (rwS R Y w k x).2.1 = x.2.1 + k
  | 0 => rfl
  | k + 1 => by
    show (rwS R Y w k x).2.1 + 1 = _
    rw [rwS_S k]; omega
/-- a row of stones that comes -/
theorem Bo.row {v : Nat} {y : Nat × Nat × Nat × Nat} (h : Bo y.2.2.2 y.2.1 s s') : ∀ k, Bo (rwS R Y w k y).2.2.2 (rwS R Y w k y).2.1 (rwT R Y w y s v k) (rwT R Y w y s' v k)
  | 0 => h
  | k + 1 => by
    have ih := Bo.row (v := v) h k
    exact ih.come (by omega) (by show _ ≤ (rwS R Y w k y).2.1 + 1; omega) (Nat.le_refl ((rwS R Y w k y).2.1 + 1))
theorem swp_at {i j k p : Nat} : swp s i j k p = if p = j then s k i else if p = i then s k j else s k p := by
  show upd (upd (s k) i (s k j)) j (s k i) p = _
  simp [upd]
/-- two places swapped -/
theorem Bo.swap {i j : Nat} (h : Bo K S s s') (hi : i < K) (hj : j < K) : Bo K S (swp s i j) (swp s' i j) := by
  intro p hp
  have hs : ∀ k, swp s i j k p = s k (if p = j then i else if p = i then j else p) := fun k => by
    rw [swp_at]; split
    · rfl
    · split <;> rfl
  have hs' : ∀ k, swp s' i j k p = s' k (if p = j then i else if p = i then j else p) := fun k => by
    rw [swp_at]; split
    · rfl
    · split <;> rfl
  have hq : (if p = j then i else if p = i then j else p) < K := by
    split
    · exact hi
    · split
      · exact hj
      · exact hp
  obtain ⟨h1, ⟨v, hv, ev⟩, t, ht, et⟩ := h _ hq
  exact ⟨fun k hk => by rw [hs, hs']; exact h1 k hk, ⟨v, hv, (hs 0).trans ev⟩, t, ht, (hs 2).trans et⟩
/-- mixed -/
theorem Bo.mixed : ∀ {j : Nat} {x x' : Nat × (Nat → Nat → Int32) × Nat}, (j = 0 ∨ j < K) → x.1 = x'.1 → x.2.2 = x'.2.2 → Bo K S x.2.1 x'.2.1 → (mixF j x).1 = (mixF j x').1 ∧ (mixF j x).2.2 = (mixF j x').2.2 ∧ Bo K S (mixF j x).2.1 (mixF j x').2.1
  | 0, _, _, _, h1, h2, h3 => ⟨h1, h2, h3⟩
  | j + 1, x, x', hj, h1, h2, h3 => by
    have hjK : j + 1 < K := by omega
    have hm : nl x.1 % (j + 2) < j + 2 := Nat.mod_lt _ (by omega)
    have hm' : nl x'.1 % (j + 2) < j + 2 := Nat.mod_lt _ (by omega)
    unfold mixF
    refine Bo.mixed (by omega) ?_ ?_ ?_
    · rw [h1]; split <;> rfl
    · rw [h1, h2]; split <;> rfl
    · rw [h1]
      split
      · exact h3
      · exact h3.swap hjK (by omega)
theorem mixF_le : ∀ {j : Nat} {x : Nat × (Nat → Nat → Int32) × Nat}, x.1 ≤ 9999 → (mixF j x).1 ≤ 9999
  | 0, _, h => h
  | j + 1, x, h => by
    have := nl_lt x.1
    unfold mixF
    refine mixF_le ?_
    split
    · show nl x.1 ≤ 9999; omega
    · show nl x.1 ≤ 9999; omega
theorem cpS_at {pl o : Nat} {sa : Nat → Nat → Int32} {k p : Nat} (hk : k < 3) : cpS s pl sa o k p = if p = pl then sa k o else s k p := by
  by_cases e : p = pl
  · subst e
    rw [if_pos rfl]
    rcases (show k = 0 ∨ k = 1 ∨ k = 2 by omega) with rfl | rfl | rfl <;> simp [cpS, stU, upd]
  · rw [if_neg e]
    rcases (show k = 0 ∨ k = 1 ∨ k = 2 by omega) with rfl | rfl | rfl <;> simp [cpS, stU, upd, e]
theorem Bo.copy {sa sa' : Nat → Nat → Int32} {Ka pl o : Nat} (h : Bo pl S s s') (ha : Bo Ka S sa sa') (ho : o < Ka) : Bo (pl + 1) S (cpS s pl sa o) (cpS s' pl sa' o) := by
  intro p hp
  by_cases e : p = pl
  · obtain ⟨h1, ⟨v, hv, ev⟩, t, ht, et⟩ := ha o ho
    exact ⟨fun k hk => by rw [cpS_at hk, cpS_at hk, if_pos e, if_pos e]; exact h1 k hk, ⟨v, hv, by rw [cpS_at (by omega), if_pos e]; exact ev⟩, t, ht, by rw [cpS_at (by omega), if_pos e]; exact et⟩
  · obtain ⟨h1, ⟨v, hv, ev⟩, t, ht, et⟩ := h p (by omega)
    exact ⟨fun k hk => by rw [cpS_at hk, cpS_at hk, if_neg e, if_neg e]; exact h1 k hk, ⟨v, hv, by rw [cpS_at (by omega), if_neg e]; exact ev⟩, t, ht, by rw [cpS_at (by omega), if_neg e]; exact et⟩
/-- joined -/
theorem Bo.joined {So Ko Sm S1 : Nat} {sa sa' so so' : Nat → Nat → Int32} (ha : Bo K Sm sa sa') (ho : Bo Ko Sm so so') : ∀ (k : Nat) {x x' : Nat × Nat × Nat × (Nat → Nat → Int32)}, x.1 = x'.1 → x.2.1 = x'.2.1 → x.2.2.1 = x'.2.2.1 → x.1 ≤ K → x.2.1 ≤ Ko → x.2.2.1 ≤ 9999 → Bo (x.1 + x.2.1) Sm x.2.2.2 x'.2.2.2 → Bo ((jn S1 So K Ko sa so k x).1 + (jn S1 So K Ko sa so k x).2.1) Sm (jn S1 So K Ko sa so k x).2.2.2 (jn S1 So K Ko sa' so' k x').2.2.2 ∧ (jn S1 So K Ko sa so k x).1 ≤ K ∧ (jn S1 So K Ko sa so k x).2.1 ≤ Ko ∧ (jn S1 So K Ko sa so k x).2.2.1 ≤ 9999
  | 0, x, x', h1, h2, h3, h4, h5, h6, h => ⟨h, h4, h5, h6⟩
  | k + 1, x, x', h1, h2, h3, h4, h5, h6, h => by
    have hnl := nl_lt x.2.2.1
    unfold jn
    rw [← h1, ← h2]
    split
    · exact ⟨h, h4, h5, h6⟩
    · next hc =>
      have e1 : (jnS S1 So K Ko sa so x) = if (nl x.2.2.1 % (S1 + So - (x.1 + x.2.1)) < S1 - x.1 ∧ x.1 < K) ∨ Ko ≤ x.2.1 then (x.1 + 1, x.2.1, nl x.2.2.1, cpS x.2.2.2 (x.1 + x.2.1) sa x.1) else (x.1, x.2.1 + 1, nl x.2.2.1, cpS x.2.2.2 (x.1 + x.2.1) so x.2.1) := rfl
      have e2 : (jnS S1 So K Ko sa' so' x') = if (nl x.2.2.1 % (S1 + So - (x.1 + x.2.1)) < S1 - x.1 ∧ x.1 < K) ∨ Ko ≤ x.2.1 then (x.1 + 1, x.2.1, nl x.2.2.1, cpS x'.2.2.2 (x.1 + x.2.1) sa' x.1) else (x.1, x.2.1 + 1, nl x.2.2.1, cpS x'.2.2.2 (x.1 + x.2.1) so' x.2.1) := by
        unfold jnS; rw [← h1, ← h2, ← h3]
      rw [e1, e2]
      split
      · next hq =>
        have hx : x.1 < K := by omega
        refine Bo.joined ha ho k rfl rfl rfl hx h5 (by show nl x.2.2.1 ≤ 9999; omega) ?_
        have := h.copy ha hx
        show Bo (x.1 + 1 + x.2.1) _ _ _
        rw [show x.1 + 1 + x.2.1 = x.1 + x.2.1 + 1 from by omega]; exact this
      · next hq =>
        have hx : x.2.1 < Ko := by omega
        refine Bo.joined ha ho k rfl rfl rfl h4 hx (by show nl x.2.2.1 ≤ 9999; omega) ?_
        exact h.copy ho hx
theorem tot_nat {V : Nat → Int32} : ∀ {K : Nat}, (∀ p, p < K → ∃ v, v ≤ 999 ∧ V p = nI v) → ∃ t, t ≤ 999 * K ∧ tot V K = nI t
  | 0, _ => ⟨0, Nat.zero_le _, rfl⟩
  | k + 1, h => by
    obtain ⟨t, ht, e⟩ := tot_nat (K := k) (fun p hp => h p (by omega))
    obtain ⟨v, hv, e2⟩ := h k (by omega)
    refine ⟨t + v, by omega, ?_⟩
    show tot V k + V k = _
    rw [e, e2, nI_add]
end BO
