/-! the mean is a number: a quotient of two numbers, the lower not 0 -/
def isFin : FP.Core.Datum → Bool
  | .fin _ _ _ => true
  | _ => false
def isFinNz : FP.Core.Datum → Bool
  | .fin _ c _ => decide (c ≠ 0)
  | _ => false
theorem i2d_fin : ∀ a, a < 80 → ∀ b, b < 100 → isFin (FP.Core.decode FP.Core.b64 (FP.i2d (nI (100 * a + b))).toNat) = true := by decide +kernel
theorem i2d_nz : ∀ k, k < 8 → isFinNz (FP.Core.decode FP.Core.b64 (FP.i2d (nI (k + 1))).toNat) = true := by decide +kernel
/-- what a double may hold that is a number or an infinity -/
def DOk : FP.Core.Datum → Prop
  | .nan => False
  | .inf _ => True
  | .fin _ c q => c < 2 ^ 53 ∧ q ≤ 971
theorem bound_ok {s : Bool} {c : Nat} {q : Int} (hc : c < 2 ^ 53) : DOk (FP.Core.bound FP.Core.b64 s c q) := by
  unfold FP.Core.bound
  split
  · next h => exact ⟨hc, h⟩
  · trivial
theorem settle_ok {s : Bool} {c : Nat} {q : Int} : DOk (FP.Core.settle FP.Core.b64 s c q) := by
  unfold FP.Core.settle
  split
  · next h => exact bound_ok h
  · exact bound_ok (show 2 ^ 52 < 2 ^ 53 by decide)
theorem ratio_ok {s : Bool} {a b : Nat} {e : Int} : DOk (FP.Core.roundRatio FP.Core.b64 s a b e) := by
  unfold FP.Core.roundRatio
  split
  · exact ⟨by decide, by decide⟩
  · exact settle_ok
theorem quot_ok {x y : FP.Core.Datum} (hx : isFin x = true) (hy : isFinNz y = true) : DOk (FP.Core.quotient FP.Core.b64 x y) := by
  cases x with
  | nan => cases hx
  | inf s => cases hx
  | fin s c q =>
    cases y with
    | nan => cases hy
    | inf s => cases hy
    | fin t d r =>
      have hd : d ≠ 0 := of_decide_eq_true hy
      show DOk (if d = 0 then _ else _)
      rw [if_neg hd]
      exact ratio_ok
theorem enc_le {D : FP.Core.Datum} (h : DOk D) : ∃ (s : Bool) (m : Nat), FP.Core.encode FP.Core.b64 D = (s.toNat * 2048) * 2 ^ 52 + m ∧ m ≤ 2047 * 2 ^ 52 := by
  cases D with
  | nan => exact h.elim
  | inf s =>
    refine ⟨s, 2047 * 2 ^ 52, ?_, Nat.le_refl _⟩
    show (s.toNat * 2048 + 2047) * 2 ^ 52 + 0 = _
    omega
  | fin s c q =>
    obtain ⟨hc, hq⟩ := h
    show ∃ s m, (if c < 2 ^ 52 then FP.Core.assemble FP.Core.b64 _ 0 c else FP.Core.assemble FP.Core.b64 _ ((q - FP.Core.b64.qmin).toNat + 1) (c - 2 ^ 52)) = _ ∧ _
    split
    · next h1 =>
      refine ⟨s, c, ?_, by omega⟩
      show (s.toNat * 2048 + 0) * 2 ^ 52 + c = _
      omega
    · next h1 =>
      refine ⟨s, ((q - (-1074)).toNat + 1) * 2 ^ 52 + (c - 2 ^ 52), ?_, by omega⟩
      show (s.toNat * 2048 + ((q - (-1074)).toNat + 1)) * 2 ^ 52 + (c - 2 ^ 52) = _
      omega
theorem n64_of {D : FP.Core.Datum} (h : DOk D) : vf_n64 (UInt64.ofNat (FP.Core.encode FP.Core.b64 D)) ∧ FP.Core.decode FP.Core.b64 (UInt64.ofNat (FP.Core.encode FP.Core.b64 D)).toNat ≠ .nan := by
  obtain ⟨s, m, e, hm⟩ := enc_le h
  have hs : s.toNat ≤ 1 := by cases s <;> decide
  have hlt : FP.Core.encode FP.Core.b64 D < 2 ^ 64 := by rw [e]; omega
  have e2 : (UInt64.ofNat (FP.Core.encode FP.Core.b64 D)).toNat = FP.Core.encode FP.Core.b64 D := by
    rw [UInt64.toNat_ofNat']
    exact Nat.mod_eq_of_lt hlt
  constructor
  · unfold vf_n64
    rw [UInt64.le_iff_toNat_le, UInt64.toNat_and, e2]
    show FP.Core.encode FP.Core.b64 D &&& (2 ^ 63 - 1) ≤ 2047 * 2 ^ 52
    rw [Nat.and_two_pow_sub_one_eq_mod, e]
    omega
  · rw [e2, e]
    unfold FP.Core.decode
    have h1 : FP.Core.fieldE FP.Core.b64 (s.toNat * 2048 * 2 ^ 52 + m) = m / 2 ^ 52 % 2048 := by
      show (s.toNat * 2048 * 2 ^ 52 + m) / 2 ^ 52 % 2048 = _
      omega
    have h2 : FP.Core.fieldT FP.Core.b64 (s.toNat * 2048 * 2 ^ 52 + m) = m % 2 ^ 52 := by
      show (s.toNat * 2048 * 2 ^ 52 + m) % 2 ^ 52 = _
      omega
    rw [h1, h2]
    show (if m / 2 ^ 52 % 2048 = 2047 then _ else _) ≠ _
    split
    · next h3 =>
      rw [if_pos (by omega)]
      exact fun q => by cases q
    · split
      · exact fun q => by cases q
      · exact fun q => by cases q
theorem order_self {D : FP.Core.Datum} (h : D ≠ .nan) : FP.Core.order D D = some .eq := by
  cases D with
  | nan => exact absurd rfl h
  | inf s => show some (compare _ _) = _; rw [Int.compare_eq_eq.mpr rfl]
  | fin s c q => show some (compare _ _) = _; rw [Int.compare_eq_eq.mpr rfl]
theorem mean_num {t K : Nat} (hK1 : 1 ≤ K) (hK : K ≤ 8) (ht : t ≤ 999 * K) : vf_n64 (FP.ddiv (FP.i2d (nI t)) (FP.i2d (nI K))) ∧ FP.dcmp (FP.ddiv (FP.i2d (nI t)) (FP.i2d (nI K))) (FP.ddiv (FP.i2d (nI t)) (FP.i2d (nI K))) = some .eq := by
  obtain ⟨k, rfl⟩ : ∃ k, K = k + 1 := ⟨K - 1, by omega⟩
  have h1 := i2d_fin (t / 100) (by omega) (t % 100) (Nat.mod_lt _ (by omega))
  rw [show 100 * (t / 100) + t % 100 = t by omega] at h1
  have h2 := n64_of (quot_ok h1 (i2d_nz k (by omega)))
  exact ⟨h2.1, order_self h2.2⟩
