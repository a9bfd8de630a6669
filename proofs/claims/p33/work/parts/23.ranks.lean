/-! ranks -/
theorem i_irr {x : Int32} : ¬ x < x := by rw [Int32.lt_iff_toInt_lt]; omega
theorem cnt_lt {V : Nat → Int32} {x y : Int32} (h : x < y) : ∀ k, cntL V x k + cntE V x k ≤ cntL V y k
  | 0 => Nat.le_refl 0
  | k + 1 => by
    have := cnt_lt (V := V) h k
    unfold cntL cntE
    by_cases h1 : V k < x
    · have h2 : V k < y := by rw [Int32.lt_iff_toInt_lt] at h h1 ⊢; omega
      have h3 : ¬ V k = x := fun e => i_irr (e ▸ h1)
      simp [h1, h2, h3]; omega
    · by_cases h3 : V k = x
      · simp [h3, h, i_irr]; omega
      · simp only [h1, h3, if_false]; omega
theorem cntE_mono {V : Nat → Int32} {x : Int32} {a b : Nat} (h : a ≤ b) : cntE V x a ≤ cntE V x b := by
  induction b with
  | zero => rw [show a = 0 by omega]; exact Nat.le_refl _
  | succ b ih =>
    by_cases e : a = b + 1
    · rw [e]; exact Nat.le_refl _
    · have := ih (by omega)
      show cntE V x a ≤ cntE V x b + _
      omega
theorem cntE_lt {V : Nat → Int32} {x : Int32} {a b : Nat} (h : a < b) (hx : V a = x) : cntE V x a < cntE V x b := by
  have h1 : cntE V x (a + 1) = cntE V x a + 1 := by show cntE V x a + (if V a = x then 1 else 0) = _; rw [if_pos hx]
  have h2 := cntE_mono (V := V) (x := x) (show a + 1 ≤ b from h)
  omega
theorem cnt_both (V : Nat → Int32) (x : Int32) : ∀ k, cntE V x k + cntL V x k ≤ k
  | 0 => Nat.le_refl 0
  | k + 1 => by
    have ih := cnt_both V x k
    show cntE V x k + (if V k = x then 1 else 0) + (cntL V x k + (if V k < x then 1 else 0)) ≤ k + 1
    by_cases h1 : V k = x
    · have h2 : ¬ V k < x := by rw [h1]; exact i_irr
      rw [if_pos h1, if_neg h2]; omega
    · rw [if_neg h1]
      split <;> omega
theorem rk_lt {V : Nat → Int32} {K p : Nat} (h : p < K) : rk V K p < K := by
  have h1 := cnt_both V (V p) K
  have h2 := cntE_lt (V := V) (x := V p) h rfl
  unfold rk
  omega
theorem rk_inj {V : Nat → Int32} {K p q : Nat} (hp : p < K) (hq : q < K) (h : rk V K p = rk V K q) : p = q := by
  have key : ∀ a b, a < K → b < K → a < b → rk V K a ≠ rk V K b := by
    intro a b ha hb hab e
    unfold rk at e
    by_cases h1 : V a < V b
    · have c1 := cnt_lt (V := V) h1 K
      have c2 := cntE_lt (V := V) (x := V a) ha rfl
      omega
    · by_cases h2 : V b < V a
      · have c1 := cnt_lt (V := V) h2 K
        have c2 := cntE_lt (V := V) (x := V b) hb rfl
        omega
      · have h3 : V a = V b := by
          rw [Int32.lt_iff_toInt_lt] at h1 h2
          exact Int32.toInt_inj.mp (by omega)
        have c2 := cntE_lt (V := V) (x := V a) hab rfl
        rw [h3] at e c2
        omega
  rcases Nat.lt_trichotomy p q with e | e | e
  · exact absurd h (key p q hp hq e)
  · exact e
  · exact absurd h.symm (key q p hq hp e)
/-- a map of the first K numbers into themselves that keeps them apart reaches each -/
theorem pigeon : ∀ (K : Nat) (f : Nat → Nat), (∀ p, p < K → f p < K) → (∀ p q, p < K → q < K → f p = f q → p = q) → ∀ r, r < K → ∃ p, p < K ∧ f p = r
  | 0, _, _, _, r, h => absurd h (Nat.not_lt_zero _)
  | K + 1, f, hf, hi, r, hr => by
    by_cases hk : f K = r
    · exact ⟨K, by omega, hk⟩
    · -- send f K's place to the last number
      let g : Nat → Nat := fun p => if f p = K then f K else f p
      have hg : ∀ p, p < K → g p < K := by
        intro p hp
        show (if f p = K then f K else f p) < K
        split
        · next e =>
          have h1 := hf K (by omega)
          have h2 : f K ≠ K := fun e2 => by have := hi p K (by omega) (by omega) (e.trans e2.symm); omega
          omega
        · next e => have := hf p (by omega); omega
      have hgi : ∀ p q, p < K → q < K → g p = g q → p = q := by
        intro p q hp hq h
        have h : (if f p = K then f K else f p) = (if f q = K then f K else f q) := h
        by_cases e1 : f p = K
        · by_cases e2 : f q = K
          · exact hi p q (by omega) (by omega) (e1.trans e2.symm)
          · rw [if_pos e1, if_neg e2] at h
            have := hi K q (by omega) (by omega) h; omega
        · by_cases e2 : f q = K
          · rw [if_neg e1, if_pos e2] at h
            have := hi p K (by omega) (by omega) h; omega
          · rw [if_neg e1, if_neg e2] at h
            exact hi p q (by omega) (by omega) h
      by_cases hrK : r = K
      · -- r = K: is there p with f p = K? if not, g = f on K places
        by_cases hex : ∃ p, p < K ∧ f p = K
        · obtain ⟨p, hp, e⟩ := hex
          exact ⟨p, by omega, by rw [hrK]; exact e⟩
        · have hfK : ∀ p, p < K → f p < K := fun p hp => by
            have := hf p (by omega)
            have h2 : f p ≠ K := fun e => hex ⟨p, hp, e⟩
            omega
          have h3 : f K < K := by have := hf K (by omega); omega
          obtain ⟨p, hp, e⟩ := pigeon K f hfK (fun p q hp hq => hi p q (by omega) (by omega)) (f K) h3
          have := hi p K (by omega) (by omega) e; omega
      · obtain ⟨p, hp, e⟩ := pigeon K g hg hgi r (by omega)
        have e : (if f p = K then f K else f p) = r := e
        by_cases e1 : f p = K
        · rw [if_pos e1] at e; exact absurd e hk
        · rw [if_neg e1] at e; exact ⟨p, by omega, e⟩
theorem rk_some {V : Nat → Int32} {K r : Nat} (hr : r < K) : ∃ p, p < K ∧ rk V K p = r := pigeon K (rk V K) (fun _ h => rk_lt h) (fun _ _ h1 h2 h => rk_inj h1 h2 h) r hr
theorem RkP.uniq {V : Nat → Int32} {K r : Nat} {v v' : Int32} (h : RkP V K r v) (h' : RkP V K r v') : v = v' := by
  rcases h with ⟨p, h1, h2, rfl⟩ | ⟨rfl, h1⟩ <;> rcases h' with ⟨p', h1', h2', rfl⟩ | ⟨rfl, h1'⟩
  · rw [rk_inj h1 h1' (h2.trans h2'.symm)]
  · exact absurd h2 (h1' p h1)
  · exact absurd h2' (h1 p' h1')
  · rfl
theorem MidP.uniq {V : Nat → Int32} {K : Nat} {v v' : Int32} (h : MidP V K v) (h' : MidP V K v') : v = v' := by
  rcases h with ⟨p, h1, h2, rfl⟩ | ⟨rfl, h1⟩ <;> rcases h' with ⟨p', h1', h2', rfl⟩ | ⟨rfl, h1'⟩
  · rw [rk_inj h1 h1' (h2.trans h2'.symm)]
  · exact absurd h2 (h1' p h1)
  · exact absurd h2' (h1 p' h1')
  · rfl
