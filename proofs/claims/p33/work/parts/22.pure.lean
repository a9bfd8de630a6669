theorem bitq : ∀ t, t < 256 → ∀ j, j < 8 → ((nI t >>> (nI j &&& 31)) &&& nI 1) = nI (if t.testBit j = true then 1 else 0) := by decide +kernel
theorem bits : ∀ j, j < 8 → (nI 1 <<< (nI j &&& 31)) = nI (2 ^ j) := by decide +kernel
theorem bito : ∀ t, t < 256 → ∀ j, j < 8 → (nI t ||| nI (2 ^ j)) = nI (t ||| 2 ^ j) ∧ t ||| 2 ^ j < 256 := by decide +kernel
/-- places of the other hand with the value x that are matched -/
def usd (V : Nat → Int32) (t : Nat) (x : Int32) : Nat → Nat
  | 0 => 0
  | k + 1 => usd V t x k + (if t.testBit k = true ∧ V k = x then 1 else 0)
theorem usd_le (V : Nat → Int32) (t : Nat) (x : Int32) : ∀ k, usd V t x k ≤ cntE V x k
  | 0 => Nat.le_refl 0
  | k + 1 => by
    have := usd_le V t x k
    unfold usd cntE
    by_cases h : V k = x
    · by_cases h2 : t.testBit k = true <;> simp [h, h2] <;> omega
    · simp [h]; omega
theorem usd_lt {V : Nat → Int32} {t j : Nat} {x : Int32} (hb : ¬ t.testBit j = true) (hx : V j = x) : ∀ {k}, j < k → usd V t x k < cntE V x k
  | 0, h => absurd h (Nat.not_lt_zero _)
  | k + 1, h => by
    unfold usd cntE
    by_cases e : j = k
    · subst e
      have := usd_le V t x j
      rw [if_neg (fun q => hb q.1), if_pos hx]
      omega
    · have := usd_lt (V := V) (x := x) hb hx (k := k) (by omega)
      by_cases h1 : V k = x
      · by_cases h2 : t.testBit k = true <;> simp [h1, h2] <;> omega
      · simp [h1]; omega
theorem usd_all {V : Nat → Int32} {t : Nat} {x : Int32} : ∀ {k}, (∀ q, q < k → ¬ (¬ t.testBit q = true ∧ V q = x)) → usd V t x k = cntE V x k
  | 0, _ => rfl
  | k + 1, h => by
    have ih := usd_all (V := V) (t := t) (x := x) (k := k) (fun q hq => h q (by omega))
    have hk := h k (by omega)
    unfold usd cntE
    rw [ih]
    by_cases h1 : V k = x
    · have h2 : t.testBit k = true := Classical.byContradiction (fun h2 => hk ⟨h2, h1⟩)
      simp [h1, h2]
    · simp [h1]
theorem tb_or {t j q : Nat} : (t ||| 2 ^ j).testBit q = true ↔ t.testBit q = true ∨ q = j := by
  rw [Nat.testBit_or, Nat.testBit_two_pow, Bool.or_eq_true, decide_eq_true_iff]
  exact ⟨fun h => h.imp id Eq.symm, fun h => h.imp id Eq.symm⟩
theorem usd_set {V : Nat → Int32} {t j : Nat} (hb : ¬ t.testBit j = true) (y : Int32) : ∀ k, usd V (t ||| 2 ^ j) y k = usd V t y k + (if j < k ∧ V j = y then 1 else 0)
  | 0 => by simp [usd]
  | k + 1 => by
    have ih := usd_set (V := V) hb y k
    unfold usd
    rw [ih]
    by_cases e : j = k
    · subst e
      have h1 : (t ||| 2 ^ j).testBit j = true := tb_or.mpr (Or.inr rfl)
      rw [if_neg (show ¬ (j < j ∧ V j = y) from fun q => absurd q.1 (Nat.lt_irrefl _)), if_neg (show ¬ (t.testBit j = true ∧ V j = y) from fun q => hb q.1)]
      by_cases h2 : V j = y
      · simp [h1, h2]
      · simp [h2]
    · have h1 : (t ||| 2 ^ j).testBit k = true ↔ t.testBit k = true := by
        rw [tb_or]; exact ⟨fun q => q.elim id (fun q => absurd q.symm e), Or.inl⟩
      have h3 : (j < k + 1 ∧ V j = y) ↔ (j < k ∧ V j = y) := ⟨fun q => ⟨by omega, q.2⟩, fun q => ⟨by omega, q.2⟩⟩
      simp only [h1, h3]
      omega
/-- matching, one by one, comes to the smaller counts -/
def MInv (V V' : Nat → Int32) (Ko k t q : Nat) : Prop := q = com V V' Ko k ∧ t < 256 ∧ ∀ x, usd V' t x Ko = min (cntE V x k) (cntE V' x Ko)
theorem usd_0 {V : Nat → Int32} {x : Int32} : ∀ k, usd V 0 x k = 0
  | 0 => rfl
  | k + 1 => by unfold usd; rw [usd_0 k]; simp
theorem MInv.start {V V' : Nat → Int32} {Ko : Nat} : MInv V V' Ko 0 0 0 := ⟨rfl, by omega, fun x => by rw [usd_0]; simp [cntE]⟩
theorem MInv.hit {V V' : Nat → Int32} {Ko k t q j : Nat} (h : MInv V V' Ko k t q) (hj : j < Ko) (hj8 : j < 8) (hb : ¬ t.testBit j = true) (hx : V' j = V k) : MInv V V' Ko (k + 1) (t ||| 2 ^ j) (q + 1) := by
  obtain ⟨h1, h2, h3⟩ := h
  have h4 := usd_lt (V := V') hb hx hj
  have h5 := h3 (V k)
  have hlt : cntE V (V k) k < cntE V' (V k) Ko := by omega
  refine ⟨?_, (bito t h2 j hj8).2, fun x => ?_⟩
  · show q + 1 = com V V' Ko k + (if cntE V (V k) k < cntE V' (V k) Ko then 1 else 0)
    rw [if_pos hlt, h1]
  · rw [usd_set hb, h3 x]
    show _ = min (cntE V x k + (if V k = x then 1 else 0)) _
    by_cases e : V k = x
    · subst e
      rw [if_pos ⟨hj, hx⟩, if_pos rfl]; omega
    · rw [if_neg (fun q => e (hx.symm.trans q.2)), if_neg e]; omega
theorem MInv.miss {V V' : Nat → Int32} {Ko k t q : Nat} (h : MInv V V' Ko k t q) (hn : ∀ j, j < Ko → ¬ (¬ t.testBit j = true ∧ V' j = V k)) : MInv V V' Ko (k + 1) t q := by
  obtain ⟨h1, h2, h3⟩ := h
  have h4 := usd_all (V := V') hn
  have h5 := h3 (V k)
  have hge : ¬ cntE V (V k) k < cntE V' (V k) Ko := by omega
  refine ⟨?_, h2, fun x => ?_⟩
  · show q = com V V' Ko k + (if cntE V (V k) k < cntE V' (V k) Ko then 1 else 0)
    rw [if_neg hge, h1]
    rfl
  · rw [h3 x]
    show _ = min (cntE V x k + (if V k = x then 1 else 0)) _
    by_cases e : V k = x
    · subst e
      rw [if_pos rfl]; omega
    · rw [if_neg e]; omega
/-- was a stone of these put on place p? -/
def hit (R Y : Nat) (x : Nat × Nat × Nat × Nat) (p : Nat) : Nat → Bool
  | 0 => false
  | k + 1 => hit R Y x p k || (itP R Y 1 k x == some p)
def stayC (R Y : Nat) (x : Nat × Nat × Nat × Nat) (m : Nat) : Nat → Nat
  | 0 => 0
  | k + 1 => stayC R Y x m k + (if hit R Y x k m = true then 0 else 1)
theorem stayC_le {R Y : Nat} {x : Nat × Nat × Nat × Nat} {m : Nat} : ∀ k, stayC R Y x m k ≤ k
  | 0 => Nat.le_refl 0
  | k + 1 => by have := stayC_le (R := R) (Y := Y) (x := x) (m := m) k; unfold stayC; split <;> omega
/-- places from the first held on are filled by the stones that came -/
theorem hit_new {R Y : Nat} {x : Nat × Nat × Nat × Nat} : ∀ (k p : Nat), x.2.2.2 ≤ p → p < (itS R Y 1 k x).2.2.2 → hit R Y x p k = true
  | 0, p, h1, h2 => by have h2 : p < x.2.2.2 := h2; omega
  | k + 1, p, h1, h2 => by
    by_cases h : p < (itS R Y 1 k x).2.2.2
    · show (hit R Y x p k || _) = true
      rw [hit_new k p h1 h]; rfl
    · have h2 : p < (pk R Y (itS R Y 1 k x).1 ((itS R Y 1 k x).2.1 + 1) ((itS R Y 1 k x).2.2.1 + 1) (itS R Y 1 k x).2.2.2 1).2.2 := h2
      have h3 : itP R Y 1 k x = some p := by
        unfold itP
        unfold pk at h2 ⊢
        split at h2
        · next hc => rw [if_pos hc]; show some _ = some p; congr 1; have h2 : p < (itS R Y 1 k x).2.2.2 + 1 := h2; omega
        · exfalso
          split at h2
          · split at h2 <;> exact h h2
          · split at h2 <;> exact h h2
      show (hit R Y x p k || _) = true
      rw [h3]; simp
/-- the number of the stone that lies on place p, told by who came -/
theorem itT_turn {R Y : Nat} {x : Nat × Nat × Nat × Nat} {st : Nat → Nat → Int32} {v : Int32} {p : Nat} : ∀ k, (hit R Y x p k = false → itT R Y 1 x st v k 2 p = st 2 p) ∧ (hit R Y x p k = true → ∃ q, q < k ∧ itT R Y 1 x st v k 2 p = nI (x.2.1 + q + 1))
  | 0 => ⟨fun _ => rfl, fun h => by cases h⟩
  | k + 1 => by
    obtain ⟨i1, i2⟩ := itT_turn (R := R) (Y := Y) (x := x) (st := st) (v := v) (p := p) k
    have hs : (itS R Y 1 k x).2.1 = x.2.1 + k := by
      have : ∀ k, (itS R Y 1 k x).2.1 = x.2.1 + k := by
        intro k
        induction k with
        | zero => rfl
        | succ k ih => show (itS R Y 1 k x).2.1 + 1 = _; omega
      exact this k
    have e : itT R Y 1 x st v (k + 1) 2 p = if itP R Y 1 k x = some p then nI (x.2.1 + k + 1) else itT R Y 1 x st v k 2 p := by
      show stT (itT R Y 1 x st v k) (itP R Y 1 k x) v (nI 1) (nI ((itS R Y 1 k x).2.1 + 1)) 2 p = _
      rw [hs]
      cases hp : itP R Y 1 k x with
      | none => simp [stT]
      | some q =>
        by_cases hq : q = p
        · subst hq; simp [stT, stU, upd]
        · have hq2 : ¬ p = q := fun e => hq e.symm
          simp [stT, stU, upd, hq, hq2]
    constructor
    · intro h
      have h : (hit R Y x p k || (itP R Y 1 k x == some p)) = false := h
      rw [Bool.or_eq_false_iff] at h
      rw [e, if_neg (fun q => by rw [q] at h; simp at h)]
      exact i1 h.1
    · intro h
      have h : (hit R Y x p k || (itP R Y 1 k x == some p)) = true := h
      rw [e]
      by_cases hp : itP R Y 1 k x = some p
      · rw [if_pos hp]; exact ⟨k, by omega, rfl⟩
      · rw [if_neg hp]
        have h1 : hit R Y x p k = true := by
          rcases Bool.or_eq_true_iff.mp h with q | q
          · exact q
          · exact absurd (by simpa using q) hp
        obtain ⟨q, hq, e2⟩ := i2 h1
        exact ⟨q, by omega, e2⟩
theorem stB_in {st sto : Nat → Nat → Int32} {k p : Nat} (hk : k < 3) : ∀ n, stB st sto n k p = if p < n then sto k p else st k p
  | 0 => by simp [stB]
  | n + 1 => by
    have ih := stB_in (st := st) (sto := sto) (p := p) hk n
    have e : stB st sto (n + 1) k p = if p = n then sto k p else stB st sto n k p := by
      show cpS (stB st sto n) n sto n k p = _
      by_cases hp : p = n
      · subst hp
        rcases (show k = 0 ∨ k = 1 ∨ k = 2 by omega) with rfl | rfl | rfl <;> simp [cpS, stU, upd]
      · rcases (show k = 0 ∨ k = 1 ∨ k = 2 by omega) with rfl | rfl | rfl <;> simp [cpS, stU, upd, hp]
    rw [e, ih]
    by_cases h1 : p = n
    · rw [if_pos h1, if_pos (by omega)]
    · rw [if_neg h1]
      by_cases h2 : p < n
      · rw [if_pos h2, if_pos (by omega)]
      · rw [if_neg h2, if_neg (by omega)]
/-- the class's count of those that stay -/
theorem stay_eq {R Y L S D K : Nat} {st stt : Nat → Nat → Int32} {m : Nat} (hS : S + m < 2 ^ 31) (hT : ∀ p, p < K → ∃ t, t ≤ S ∧ st 2 p = nI t) : ∀ n, n ≤ (itS R Y 1 m (L, S, D, K)).2.2.2 → cntN (itT R Y 1 (L, S, D, K) (stB stt st K) (nI 0) m 2) (nI S) n = stayC R Y (L, S, D, K) m (min n K)
  | 0, _ => by simp [cntN, stayC]
  | n + 1, hn => by
    have ih := stay_eq (R := R) (L := L) (D := D) (Y := Y) (stt := stt) hS hT n (by omega)
    unfold cntN
    rw [ih]
    obtain ⟨i1, i2⟩ := itT_turn (R := R) (Y := Y) (x := (L, S, D, K)) (st := stB stt st K) (v := nI 0) (p := n) m
    cases hh : hit R Y (L, S, D, K) n m with
    | false =>
      have hnK : n < K := Nat.not_le.mp (fun h => by have := hit_new m n h hn; rw [this] at hh; cases hh)
      rw [i1 hh, stB_in (by omega), if_pos hnK]
      obtain ⟨t, ht, e⟩ := hT n hnK
      rw [e, if_neg (nI_nlt ht (by omega)), show min (n + 1) K = min n K + 1 by omega, show min n K = n by omega]
      show _ = stayC R Y (L, S, D, K) m n + (if hit R Y (L, S, D, K) n m = true then 0 else 1)
      rw [hh]; rfl
    | true =>
      obtain ⟨q, hq, e⟩ := i2 hh
      rw [e, if_pos (nI_lt (show S < S + q + 1 by omega) (by omega))]
      by_cases hnK : n < K
      · rw [show min (n + 1) K = min n K + 1 by omega, show min n K = n by omega]
        show _ = stayC R Y (L, S, D, K) m n + (if hit R Y (L, S, D, K) n m = true then 0 else 1)
        rw [hh]; rfl
      · rw [show min (n + 1) K = min n K by omega]
        rfl
/-- joining counts by numbers alone -/
theorem jn_sc {S So K Ko : Nat} {sa so sa' so' : Nat → Nat → Int32} : ∀ (k : Nat) (x x' : Nat × Nat × Nat × (Nat → Nat → Int32)), x.1 = x'.1 → x.2.1 = x'.2.1 → x.2.2.1 = x'.2.2.1 → (jn S So K Ko sa so k x).1 = (jn S So K Ko sa' so' k x').1 ∧ (jn S So K Ko sa so k x).2.1 = (jn S So K Ko sa' so' k x').2.1 ∧ (jn S So K Ko sa so k x).2.2.1 = (jn S So K Ko sa' so' k x').2.2.1
  | 0, x, x', h1, h2, h3 => ⟨h1, h2, h3⟩
  | k + 1, x, x', h1, h2, h3 => by
    unfold jn
    rw [h1, h2]
    split
    · exact ⟨h1, h2, h3⟩
    · refine jn_sc k _ _ ?_ ?_ ?_ <;> (unfold jnS; rw [h1, h2, h3]; split <;> rfl)
theorem JoinP.uniq {R L S So K Ko : Nat} {st sto st' sto' : Nat → Nat → Int32} {v v' : Int32} (h : JoinP R L S So K Ko st sto v) (h' : JoinP R L S So K Ko st' sto' v') : v = v' := by
  obtain ⟨a, rfl⟩ := h
  obtain ⟨b, rfl⟩ := h'
  rw [(jn_sc R (0, 0, L, stB a st K) (0, 0, L, stB b st' K) rfl rfl rfl).2.1]
