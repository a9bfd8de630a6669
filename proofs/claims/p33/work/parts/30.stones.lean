/-! stones -/
section SN0
variable {K S R Y L D w : Nat} {s s' : Nat → Nat → Int32}
theorem stU3_at {p : Nat} {v w t : Int32} : stU (stU (stU s 0 p v) 1 p w) 2 p t 0 p = v ∧ stU (stU (stU s 0 p v) 1 p w) 2 p t 1 p = w ∧ stU (stU (stU s 0 p v) 1 p w) 2 p t 2 p = t := by
  refine ⟨?_, ?_, ?_⟩ <;> simp [stU, upd]
theorem stU3_ne {p q k : Nat} {v w t : Int32} (hk : k < 3) (hq : q ≠ p) : stU (stU (stU s 0 p v) 1 p w) 2 p t k q = s k q := by
  rcases (show k = 0 ∨ k = 1 ∨ k = 2 by omega) with rfl | rfl | rfl <;> simp [stU, upd, hq]
theorem swp_at {i j k p : Nat} : swp s i j k p = if p = j then s k i else if p = i then s k j else s k p := by
  show upd (upd (s k) i (s k j)) j (s k i) p = _
  simp [upd]
theorem mixF_le : ∀ {j : Nat} {x : Nat × (Nat → Nat → Int32) × Nat}, x.1 ≤ 9999 → (mixF j x).1 ≤ 9999
  | 0, _, h => h
  | j + 1, x, h => by
    have := nl_lt x.1
    unfold mixF
    refine mixF_le ?_
    split
    · show nl x.1 ≤ 9999; omega
    · show nl x.1 ≤ 9999; omega
theorem cpS_at {pl o : Nat} {sa : Nat → Nat → Int32} {k p : Nat} (hk : k < 3) : cpS s pl sa o k p = if p = pl then sa k o else s k p := by
  by_cases e : p = pl
  · subst e
    rw [if_pos rfl]
    rcases (show k = 0 ∨ k = 1 ∨ k = 2 by omega) with rfl | rfl | rfl <;> simp [cpS, stU, upd]
  · rw [if_neg e]
    rcases (show k = 0 ∨ k = 1 ∨ k = 2 by omega) with rfl | rfl | rfl <;> simp [cpS, stU, upd, e]
end SN0
/-- what holds of each stone of a hand -/
def Sn (K S : Nat) (s : Nat → Nat → Int32) : Prop := ∀ p, p < K → (∃ v, v ≤ 999 ∧ s 0 p = nI v) ∧ (∃ w, 1 ≤ w ∧ w ≤ 9 ∧ s 1 p = nI w) ∧ ∃ t, 1 ≤ t ∧ t ≤ S ∧ s 2 p = nI t
section SN
variable {K S R Y L D w : Nat} {s : Nat → Nat → Int32}
theorem Sn.zero : Sn 0 S s := fun p hp => absurd hp (Nat.not_lt_zero p)
theorem Sn.le {S' : Nat} (h : Sn K S s) (hS : S ≤ S') : Sn K S' s := fun p hp => by
  obtain ⟨h1, h2, t, h0, ht, e⟩ := h p hp
  exact ⟨h1, h2, t, h0, Nat.le_trans ht hS, e⟩
theorem Sn.down {K' : Nat} (h : Sn K S s) (hK : K' ≤ K) : Sn K' S s := fun p hp => h p (Nat.lt_of_lt_of_le hp hK)
theorem Sn.same {r : Nat → Nat → Int32} (h : Sn K S s) (e : ∀ k p, k < 3 → p < K → r k p = s k p) : Sn K S r := fun p hp => by
  obtain ⟨⟨v, hv, ev⟩, ⟨u, hu, hu9, eu⟩, t, h0, ht, et⟩ := h p hp
  exact ⟨⟨v, hv, by rw [e 0 p (by omega) hp]; exact ev⟩, ⟨u, hu, hu9, by rw [e 1 p (by omega) hp]; exact eu⟩, t, h0, ht, by rw [e 2 p (by omega) hp]; exact et⟩
/-- a stone put on place q -/
theorem Sn.put {q x t u : Nat} {K' S' : Nat} (h : Sn K S s) (hK : ∀ p, p < K' → p = q ∨ p < K) (hS : S ≤ S') (hx : x ≤ 999) (hu : 1 ≤ u) (hu9 : u ≤ 9) (ht0 : 1 ≤ t) (ht : t ≤ S') : Sn K' S' (stU (stU (stU s 0 q (nI x)) 1 q (nI u)) 2 q (nI t)) := by
  intro p hp
  obtain ⟨a0, a1, a2⟩ := stU3_at (s := s) (p := q) (v := nI x) (w := nI u) (t := nI t)
  by_cases e : p = q
  · subst e
    exact ⟨⟨x, hx, a0⟩, ⟨u, hu, hu9, a1⟩, t, ht0, ht, a2⟩
  · have hpK : p < K := (hK p hp).elim (fun q => absurd q e) id
    obtain ⟨⟨v, hv, ev⟩, ⟨u1, hu1, hu19, eu⟩, t1, h01, ht1, et⟩ := h p hpK
    refine ⟨⟨v, hv, ?_⟩, ⟨u1, hu1, hu19, ?_⟩, t1, h01, Nat.le_trans ht1 hS, ?_⟩
    · rw [stU3_ne (by omega) e]; exact ev
    · rw [stU3_ne (by omega) e]; exact eu
    · rw [stU3_ne (by omega) e]; exact et
/-- a stone that comes -/
theorem Sn.come {S9 x t u : Nat} (h : Sn K S s) (hx : x ≤ 999) (hu : 1 ≤ u) (hu9 : u ≤ 9) {S' : Nat} (hS : S ≤ S') (ht0 : 1 ≤ t) (ht : t ≤ S') : Sn (pk R Y L S9 D K w).2.2 S' (stT s (pk R Y L S9 D K w).1 (nI x) (nI u) (nI t)) := by
  unfold pk
  split
  · exact h.put (fun p hp => by have hp : p < K + 1 := hp; omega) hS hx hu hu9 ht0 ht
  · split
    · split
      · exact h.put (fun p hp => Or.inr hp) hS hx hu hu9 ht0 ht
      · exact h.le hS
    · split
      · exact h.put (fun p hp => Or.inr hp) hS hx hu hu9 ht0 ht
      · exact h.le hS
/-- a row of stones that comes -/
theorem Sn.row {v : Nat} {y : Nat × Nat × Nat × Nat} (h : Sn y.2.2.2 y.2.1 s) : ∀ k, Sn (rwS R Y w k y).2.2.2 (rwS R Y w k y).2.1 (rwT R Y w y s v k)
  | 0 => h
  | k + 1 => by
    have ih := Sn.row (v := v) h k
    obtain ⟨w1, w9⟩ := wtR_in w k
    exact ih.come (by omega) w1 w9 (by show _ ≤ (rwS R Y w k y).2.1 + 1; omega) (by omega) (Nat.le_refl ((rwS R Y w k y).2.1 + 1))
/-- two places swapped -/
theorem Sn.swap {i j : Nat} (h : Sn K S s) (hi : i < K) (hj : j < K) : Sn K S (swp s i j) := by
  intro p hp
  have hs : ∀ k, swp s i j k p = s k (if p = j then i else if p = i then j else p) := fun k => by
    rw [swp_at]; split
    · rfl
    · split <;> rfl
  have hq : (if p = j then i else if p = i then j else p) < K := by
    split
    · exact hi
    · split
      · exact hj
      · exact hp
  obtain ⟨⟨v, hv, ev⟩, ⟨u, hu, hu9, eu⟩, t, h0, ht, et⟩ := h _ hq
  exact ⟨⟨v, hv, (hs 0).trans ev⟩, ⟨u, hu, hu9, (hs 1).trans eu⟩, t, h0, ht, (hs 2).trans et⟩
/-- mixed: the stones stay good, the sum stays, the luck stays small, no more than j swaps -/
theorem upd_tot {V : Nat → Int32} {i : Nat} {a : Int32} : ∀ {K : Nat}, (K ≤ i → tot (upd V i a) K = tot V K) ∧ (i < K → tot (upd V i a) K + V i = tot V K + a)
  | 0 => ⟨fun _ => rfl, fun h => absurd h (Nat.not_lt_zero i)⟩
  | k + 1 => by
    obtain ⟨h1, h2⟩ := upd_tot (V := V) (i := i) (a := a) (K := k)
    constructor
    · intro h
      show tot (upd V i a) k + upd V i a k = tot V k + V k
      rw [h1 (by omega)]
      have : upd V i a k = V k := by simp [upd, show k ≠ i by omega]
      rw [this]
    · intro h
      show tot (upd V i a) k + upd V i a k + V i = tot V k + V k + a
      by_cases e : i = k
      · subst e
        rw [h1 (Nat.le_refl _)]
        have : upd V i a i = a := by simp [upd]
        rw [this, Int32.add_assoc, Int32.add_assoc, Int32.add_comm a]
      · have e2 : upd V i a k = V k := by simp [upd, show k ≠ i from fun q => e q.symm]
        rw [e2, Int32.add_assoc, Int32.add_comm (V k) (V i), ← Int32.add_assoc, h2 (by omega), Int32.add_assoc, Int32.add_assoc, Int32.add_comm a]
theorem i_cancel {a b c : Int32} (h : a + c = b + c) : a = b := by
  have h1 : a + c - c = b + c - c := by rw [h]
  rwa [Int32.add_sub_cancel, Int32.add_sub_cancel] at h1
theorem swp_tot {i j : Nat} (hi : i < K) (hj : j < K) : tot (swp s i j 0) K = tot (s 0) K := by
  have h1 := (upd_tot (V := s 0) (i := i) (a := s 0 j) (K := K)).2 hi
  have h2 := (upd_tot (V := upd (s 0) i (s 0 j)) (i := j) (a := s 0 i) (K := K)).2 hj
  have e : upd (s 0) i (s 0 j) j = s 0 j := by
    by_cases q : j = i
    · subst q; simp [upd]
    · simp [upd, q]
  rw [e] at h2
  have h3 : tot (swp s i j 0) K + s 0 j = tot (s 0) K + s 0 j := h2.trans h1
  exact i_cancel h3
theorem Sn.mixed : ∀ {j : Nat} {x : Nat × (Nat → Nat → Int32) × Nat}, (j = 0 ∨ j < K) → Sn K S x.2.1 → Sn K S (mixF j x).2.1 ∧ tot ((mixF j x).2.1 0) K = tot (x.2.1 0) K ∧ (mixF j x).2.2 ≤ x.2.2 + j
  | 0, _, _, h => ⟨h, rfl, Nat.le_refl _⟩
  | j + 1, x, hj, h => by
    have hm : nl x.1 % (j + 2) < j + 2 := Nat.mod_lt _ (by omega)
    unfold mixF
    by_cases q : nl x.1 % (j + 2) = j + 1
    · rw [if_pos q]
      obtain ⟨a, b, c⟩ := Sn.mixed (j := j) (x := (nl x.1, x.2.1, x.2.2)) (by omega) h
      exact ⟨a, b, by have c : _ ≤ x.2.2 + j := c; omega⟩
    · rw [if_neg q]
      obtain ⟨a, b, c⟩ := Sn.mixed (j := j) (x := (nl x.1, swp x.2.1 (j + 1) (nl x.1 % (j + 2)), x.2.2 + 1)) (by omega) (h.swap (by omega) (by omega))
      exact ⟨a, b.trans (swp_tot (by omega) (by omega)), by have c : _ ≤ x.2.2 + 1 + j := c; omega⟩
theorem Sn.copy {sa : Nat → Nat → Int32} {Ka pl o : Nat} (h : Sn pl S s) (ha : Sn Ka S sa) (ho : o < Ka) : Sn (pl + 1) S (cpS s pl sa o) := by
  intro p hp
  by_cases e : p = pl
  · obtain ⟨⟨v, hv, ev⟩, ⟨u, hu, hu9, eu⟩, t, h0, ht, et⟩ := ha o ho
    exact ⟨⟨v, hv, by rw [cpS_at (by omega), if_pos e]; exact ev⟩, ⟨u, hu, hu9, by rw [cpS_at (by omega), if_pos e]; exact eu⟩, t, h0, ht, by rw [cpS_at (by omega), if_pos e]; exact et⟩
  · obtain ⟨⟨v, hv, ev⟩, ⟨u, hu, hu9, eu⟩, t, h0, ht, et⟩ := h p (by omega)
    exact ⟨⟨v, hv, by rw [cpS_at (by omega), if_neg e]; exact ev⟩, ⟨u, hu, hu9, by rw [cpS_at (by omega), if_neg e]; exact eu⟩, t, h0, ht, by rw [cpS_at (by omega), if_neg e]; exact et⟩
/-- joined: as many as there are, or as k lets -/
theorem Sn.joined {So Ko Sm S1 : Nat} {sa so : Nat → Nat → Int32} (ha : Sn K Sm sa) (ho : Sn Ko Sm so) : ∀ (k : Nat) {x : Nat × Nat × Nat × (Nat → Nat → Int32)}, x.1 ≤ K → x.2.1 ≤ Ko → x.2.2.1 ≤ 9999 → Sn (x.1 + x.2.1) Sm x.2.2.2 → Sn ((jn S1 So K Ko sa so k x).1 + (jn S1 So K Ko sa so k x).2.1) Sm (jn S1 So K Ko sa so k x).2.2.2 ∧ (jn S1 So K Ko sa so k x).1 + (jn S1 So K Ko sa so k x).2.1 = min (x.1 + x.2.1 + k) (K + Ko) ∧ (jn S1 So K Ko sa so k x).2.2.1 ≤ 9999
  | 0, x, h4, h5, h6, h => ⟨h, by show x.1 + x.2.1 = _; omega, h6⟩
  | k + 1, x, h4, h5, h6, h => by
    have hnl := nl_lt x.2.2.1
    unfold jn
    split
    · exact ⟨h, by omega, h6⟩
    · next hc =>
      unfold jnS
      split
      · next hq =>
        have hx : x.1 < K := by omega
        obtain ⟨a, b, c⟩ := Sn.joined (S1 := S1) (So := So) ha ho k (x := (x.1 + 1, x.2.1, nl x.2.2.1, cpS x.2.2.2 (x.1 + x.2.1) sa x.1)) hx h5 (by show nl x.2.2.1 ≤ 9999; omega) (by
          show Sn (x.1 + 1 + x.2.1) _ _
          rw [show x.1 + 1 + x.2.1 = x.1 + x.2.1 + 1 from by omega]
          exact h.copy ha hx)
        exact ⟨a, by rw [b]; show min (x.1 + 1 + x.2.1 + k) _ = _; omega, c⟩
      · next hq =>
        have hx : x.2.1 < Ko := by omega
        obtain ⟨a, b, c⟩ := Sn.joined (S1 := S1) (So := So) ha ho k (x := (x.1, x.2.1 + 1, nl x.2.2.1, cpS x.2.2.2 (x.1 + x.2.1) so x.2.1)) h4 hx (by show nl x.2.2.1 ≤ 9999; omega) (h.copy ho hx)
        exact ⟨a, by rw [b]; show min (x.1 + (x.2.1 + 1) + k) _ = _; omega, c⟩
/-- a row's stones: what is held grows by no more than were taken -/
theorem rw_many {x : Nat × Nat × Nat × Nat} : ∀ k, x.2.2.2 ≤ (rwS R Y w k x).2.2.2 ∧ (rwS R Y w k x).2.2.2 ≤ x.2.2.2 + rwC R Y w x k
  | 0 => ⟨Nat.le_refl _, Nat.le_refl _⟩
  | k + 1 => by
    obtain ⟨h1, h2⟩ := rw_many (x := x) k
    have hK : ∀ {L S D K w : Nat}, K ≤ (pk R Y L S D K w).2.2 ∧ (pk R Y L S D K w).2.2 ≤ K + (if (pk R Y L S D K w).1 = none then 0 else 1) := by
      intro L S D K w
      unfold pk
      split
      · exact ⟨Nat.le_succ K, by show K + 1 ≤ K + (if some K = none then 0 else 1); simp⟩
      · split
        · split
          · exact ⟨Nat.le_refl K, Nat.le_add_right K _⟩
          · exact ⟨Nat.le_refl K, Nat.le_add_right K _⟩
        · split
          · exact ⟨Nat.le_refl K, Nat.le_add_right K _⟩
          · exact ⟨Nat.le_refl K, Nat.le_add_right K _⟩
    obtain ⟨g1, g2⟩ := @hK (rwS R Y w k x).1 ((rwS R Y w k x).2.1 + 1) ((rwS R Y w k x).2.2.1 + wtR w k) (rwS R Y w k x).2.2.2 (wtR w k)
    constructor
    · exact Nat.le_trans h1 g1
    · have e : rwC R Y w x (k + 1) = rwC R Y w x k + (if rwP R Y w k x = none then 0 else 1) := rfl
      have g3 : (rwS R Y w (k + 1) x).2.2.2 ≤ (rwS R Y w k x).2.2.2 + (if rwP R Y w k x = none then 0 else 1) := g2
      rw [e]; omega
/-! what is asked -/
theorem com_self {V : Nat → Int32} {K : Nat} : ∀ {k : Nat}, k ≤ K → com V V K k = k
  | 0, _ => rfl
  | k + 1, h => by
    unfold com
    rw [com_self (by omega), if_pos (cntE_lt (show k < K by omega) rfl)]
theorem cntL_pos {V : Nat → Int32} {x : Int32} {q : Nat} (hx : V q < x) : ∀ {k : Nat}, q < k → 0 < cntL V x k
  | 0, h => absurd h (Nat.not_lt_zero q)
  | k + 1, h => by
    show 0 < cntL V x k + (if V k < x then 1 else 0)
    by_cases e : q = k
    · subst e; rw [if_pos hx]; omega
    · have := cntL_pos hx (show q < k by omega); omega
theorem low_le {V : Nat → Int32} {K p q : Nat} (hp : rk V K p = 0) (hq : q < K) : ¬ V q < V p := by
  intro h
  have := cntL_pos h hq
  unfold rk at hp
  omega
theorem low_is {V : Nat → Int32} {K : Nat} {v : Int32} (hK : 0 < K) (h : RkP V K 0 v) : ∃ p, p < K ∧ v = nI p ∧ ∀ q, q < K → ¬ V q < V p := by
  rcases h with ⟨p, h1, h2, h3⟩ | ⟨_, h2⟩
  · exact ⟨p, h1, h3, fun q hq => low_le h2 hq⟩
  · obtain ⟨p, h3, h4⟩ := rk_some (V := V) hK
    exact absurd h4 (h2 p h3)
theorem unt_room {v : Int32} (hK : K < R) (h : UntP R Y L S D K v) : v = nI 1 := by
  have h0 : itP R Y 1 0 (L, S, D, K) ≠ none := by
    show (pk R Y L (S + 1) (D + 1) K 1).1 ≠ none
    unfold pk
    rw [if_pos hK]
    exact fun q => nomatch q
  rcases h with ⟨k, h1, h2, h3, h4⟩ | ⟨_, h2⟩
  · by_cases e : k = 0
    · subst e; exact h4
    · exact absurd h0 (h3 0 (by omega))
  · exact absurd h0 (h2 0 (by omega))
theorem wan_room {v : Int32} (hK : K < R) (h : WanP R Y L S D K v) : v = nI 1 := by
  have h0 : (pk R Y L (S + 1) (D + (1 + 0)) K (1 + 0)).1 ≠ none := by
    unfold pk
    rw [if_pos hK]
    exact fun q => nomatch q
  rcases h with ⟨k, h1, h2, h3, h4⟩ | ⟨_, h2⟩
  · by_cases e : k = 0
    · subst e; exact h4
    · exact absurd h0 (h3 0 (by omega))
  · exact absurd h0 (h2 0 (by omega))
theorem unt_ne {v : Int32} (h : UntP R Y L S D K v) : v ≠ 0 := by
  rcases h with ⟨k, h1, _, _, h4⟩ | ⟨h1, _⟩
  · rw [h4]
    intro q
    have h2 := congrArg Int32.toInt q
    rw [nI_toInt (by omega)] at h2
    have h3 : (0 : Int32).toInt = 0 := by decide
    omega
  · rw [h1]; decide
/-! ranks as bits -/
def BInv (V : Nat → Int32) (K k t : Nat) : Prop := t < 256 ∧ ∀ q, t.testBit q = true ↔ ∃ p, p < k ∧ rk V K p = q
theorem BInv.start {V : Nat → Int32} {K : Nat} : BInv V K 0 0 := ⟨by omega, fun q => by simp⟩
theorem BInv.next {V : Nat → Int32} {K k t : Nat} (h : BInv V K k t) (hk : k < K) (hK : K ≤ 8) : (nI t ||| (nI 1 <<< (nI (rk V K k) &&& 31))) = nI (t ||| 2 ^ rk V K k) ∧ BInv V K (k + 1) (t ||| 2 ^ rk V K k) := by
  have hr : rk V K k < 8 := Nat.lt_of_lt_of_le (rk_lt hk) hK
  obtain ⟨h1, h2⟩ := bito t h.1 (rk V K k) hr
  refine ⟨by rw [bits _ hr]; exact h1, h2, fun q => ?_⟩
  rw [tb_or, h.2 q]
  constructor
  · rintro (⟨p, hp, e⟩ | e)
    · exact ⟨p, by omega, e⟩
    · exact ⟨k, by omega, e.symm⟩
  · rintro ⟨p, hp, e⟩
    by_cases q9 : p = k
    · subst q9; exact Or.inr e.symm
    · exact Or.inl ⟨p, by omega, e⟩
theorem BInv.full {V : Nat → Int32} {K t : Nat} (h : BInv V K K t) : t = 2 ^ K - 1 := by
  apply Nat.eq_of_testBit_eq
  intro q
  rw [Nat.testBit_two_pow_sub_one]
  by_cases hq : q < K
  · rw [decide_eq_true hq]
    exact (h.2 q).mpr (rk_some hq)
  · rw [decide_eq_false hq]
    cases hb : t.testBit q with
    | false => rfl
    | true =>
      obtain ⟨p, hp, e⟩ := (h.2 q).mp hb
      have := rk_lt (V := V) hp
      omega
theorem bits8 : ∀ j, j < 9 → (nI 1 <<< (nI j &&& 31)) - nI 1 = nI (2 ^ j - 1) := by decide +kernel
end SN
