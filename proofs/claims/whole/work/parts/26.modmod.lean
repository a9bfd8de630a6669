/-- one more of the three rows swapped -/
theorem swp_step {B : Nat → Int32} {s : Nat → Nat → Int32} {a j y z : Nat} (hz : z < 3) (h : ∀ k q, k < 3 → sto B a k q = if k < z then swp s j y k q else s k q) : ∀ k q, k < 3 → sto (upd (upd B (a + 6 + 3 * j + z) (B (a + 6 + 3 * y + z))) (a + 6 + 3 * y + z) (B (a + 6 + 3 * j + z))) a k q = if k < z + 1 then swp s j y k q else s k q := by
  intro k q hk
  by_cases e : k = z
  · subst e
    have h1 : B (a + 6 + 3 * j + k) = s k j := (h k j hk).trans (if_neg (Nat.lt_irrefl _))
    have h2 : B (a + 6 + 3 * y + k) = s k y := (h k y hk).trans (if_neg (Nat.lt_irrefl _))
    have h3 : B (a + 6 + 3 * q + k) = s k q := (h k q hk).trans (if_neg (Nat.lt_irrefl _))
    rw [if_pos (Nat.lt_succ_self _), h1, h2]
    show upd (upd B (a + 6 + 3 * j + k) (s k y)) (a + 6 + 3 * y + k) (s k j) (a + 6 + 3 * q + k) = upd (upd (s k) j (s k y)) y (s k j) q
    by_cases e1 : q = y
    · subst e1; simp [upd]
    · have n1 : ¬ 3 * q = 3 * y := by omega
      by_cases e2 : q = j
      · subst e2; simp [upd, e1, n1]
      · have n2 : ¬ 3 * q = 3 * j := by omega
        simp [upd, e1, e2, n1, n2, h3]
  · have n1 : ¬ a + 6 + 3 * q + k = a + 6 + 3 * y + z := by omega
    have n2 : ¬ a + 6 + 3 * q + k = a + 6 + 3 * j + z := by omega
    rw [show sto (upd (upd B (a + 6 + 3 * j + z) (B (a + 6 + 3 * y + z))) (a + 6 + 3 * y + z) (B (a + 6 + 3 * j + z))) a k q = sto B a k q from by simp [sto, upd, n1, n2], h k q hk]
    by_cases e3 : k < z
    · rw [if_pos e3, if_pos (by omega)]
    · rw [if_neg e3, if_neg (by omega)]
theorem stT_cg {s1 s2 : Nat → Nat → Int32} (h : ∀ k q, k < 3 → s1 k q = s2 k q) (o : Option Nat) {v w t : Int32} {k q : Nat} (hk : k < 3) : stT s1 o v w t k q = stT s2 o v w t k q := by
  cases o with
  | none => exact h k q hk
  | some p => exact stT_congr h hk
theorem JoinP.ofm {R L S So K Ko : Nat} {sa so st sto : Nat → Nat → Int32} {g : Nat → Nat → Int32} {v : Int32} (h : v = nI (jn S So K Ko sa so R (0, 0, L, g)).2.1) : JoinP R L S So K Ko st sto v :=
  ⟨st, by rw [h, (jn_sc R (0, 0, L, g) (0, 0, L, stB st st K) rfl rfl rfl).2.1]⟩
set_option maxHeartbeats 1000000 in
set_option maxRecDepth 10000 in
theorem m_X2_offer (l : Launch) (D : va_G) (cA : Nat → ClassId) (N : Nat) (ad : Nat → Nat) (c : Nat → va_E) (th : Int32) (n : Nat) (nw ah rw : Nat → Int32) (i R Y L S D9 K : Nat) (x w : Nat) (hN10 : 10 ≤ N) (hM : MoAt ad cA c th n nw ah rw) (hn5 : n ≤ 5) (hi : i < n) (hrow : RowE nw (30 * i) R Y L S D9 K) (hok : Hok R Y L S D9 K) (hx9 : x ≤ 999) (hw0 : 1 ≤ w) (hw9 : w ≤ 9) : Ci l yX2_offer wX2_offer { frames := 2, cells := 0, slots := 0, locals := 48 } [.ref (ad 6), .int (nI i), .int (nI x), .int (nI w)] D cA N ad c 0 0 (fun v c' => v = oI (pk R Y L (S + 1) (D9 + w) K w).1 ∧ (∃ nw', mw ad cA c (nI 0) n nw' ah rw = c' ∧ RowE nw' (30 * i) R Y ((pk R Y L (S + 1) (D9 + w) K w).2.1) (S + 1) (D9 + w) ((pk R Y L (S + 1) (D9 + w) K w).2.2) ∧ (∀ k q, k < 3 → sto nw' (30 * i) k q = stT (sto nw (30 * i)) (pk R Y L (S + 1) (D9 + w) K w).1 (nI x) (nI w) (nI (S + 1)) k q) ∧ Out nw' nw (30 * i))) := by
  intro sz9
  refine bd_of (cc := cX2_offer) (maxL := 4) (ret := some Jvm.ClassFile.FieldType.int) (by decide) rfl (Nat.le_of_ble_eq_true rfl) ?_
  intro p e s m below meth c0 C0 hr hlk hnm hP hS hsz ls hl
  subst hsz
  have hx := C0.1
  have hb := C0.2.1
  have hl : lv_has ls 4 [(0, .ref (ad 6)), (1, .int (nI i)), (2, .int (nI x)), (3, .int (nI w))] := hl
  obtain ⟨r0, r1, r2, r3, r4, r5⟩ := id hrow
  obtain ⟨q1, q2, q3, q4, q5, q6, q7, q8, q9⟩ := id hok
  rw [← mw_self hM] at hP
  refine lv_aload_n hx hb dX2_offer_0 rfl (lv_at hl 0 rfl) ?_
  refine lv_iconst (v := nI 0) hx hb dX2_offer_1 rfl ?_
  refine pm_th C0 hN10 hP hS dX2_offer_2 (fun H locs hP hS => ?_)
  refine lv_aload_n hx hb dX2_offer_5 rfl (lv_at hl 0 rfl) ?_
  refine lv_iload_n hx hb dX2_offer_6 rfl (lv_at hl 1 rfl) ?_
  refine k0_i (rn_X2_48 (As := [.int (nI i)]) (rest := []) (r := 6) C0 (m_X2_isHand__t l D cA N ad (mw ad cA c (nI 0) n nw ah rw) (nI 0) n nw ah rw i hN10 mw_at (by omega) hi _) hP hS (by omega) mw_at.1 rfl ⟨rfl, rfl⟩ ⟨by decide, by decide⟩ hl.1 rfl (Nat.le_of_ble_eq_true rfl) dX2_offer_7 ⟨Nat.le_of_ble_eq_true rfl, Nat.le_of_ble_eq_true rfl⟩) C0 hP hS (fun v7 c7 H locs hp hP hS => ?_)
  obtain ⟨rfl, rfl⟩ := hp
  refine n_if_ne (tgt := 19) hx hb (by omega) dX2_offer_10 (by decide) (fun h10 => ?_) (fun h10 => ?_)
  rotate_left
  · exfalso; omega
  refine lv_iload_n hx hb dX2_offer_19 rfl (lv_at hl 2 rfl) ?_
  refine lv_iconst (v := nI 0) hx hb dX2_offer_20 rfl ?_
  refine lv_sipush (v := nI 999) hx hb dX2_offer_21 rfl ?_
  refine k0_i (rn_X2_40 (As := [.int (nI x), .int (nI 0), .int (nI 999)]) (rest := []) C0 (m_X2_isWithin l D cA N ad (mw ad cA c (nI 0) n nw ah rw) (nI x) (nI 0) (nI 999) _) hP hS rfl ⟨rfl, rfl⟩ ⟨by decide, by decide⟩ hl.1 rfl (Nat.le_of_ble_eq_true rfl) dX2_offer_24 ⟨Nat.le_of_ble_eq_true rfl, Nat.le_of_ble_eq_true rfl⟩) C0 hP hS (fun v24 c24 H locs hp hP hS => ?_)
  obtain ⟨hv, rfl⟩ := hp
  obtain rfl : v24 = nI 1 := by rw [hv, if_pos ⟨nI_le (by omega) (by omega), nI_le (by omega) (by omega)⟩]; rfl
  refine n_if_eq (tgt := 40) hx hb (by omega) dX2_offer_27 (by decide) (fun h27 => ?_) (fun h27 => ?_)
  · exfalso; omega
  refine lv_iload_n hx hb dX2_offer_30 rfl (lv_at hl 3 rfl) ?_
  refine lv_iconst (v := nI 1) hx hb dX2_offer_31 rfl ?_
  refine lv_bipush (v := nI 9) hx hb dX2_offer_32 rfl ?_
  refine k0_i (rn_X2_40 (As := [.int (nI w), .int (nI 1), .int (nI 9)]) (rest := []) C0 (m_X2_isWithin l D cA N ad (mw ad cA c (nI 0) n nw ah rw) (nI w) (nI 1) (nI 9) _) hP hS rfl ⟨rfl, rfl⟩ ⟨by decide, by decide⟩ hl.1 rfl (Nat.le_of_ble_eq_true rfl) dX2_offer_34 ⟨Nat.le_of_ble_eq_true rfl, Nat.le_of_ble_eq_true rfl⟩) C0 hP hS (fun v34 c34 H locs hp hP hS => ?_)
  obtain ⟨hv, rfl⟩ := hp
  obtain rfl : v34 = nI 1 := by rw [hv, if_pos ⟨nI_le (by omega) (by omega), nI_le (by omega) (by omega)⟩]; rfl
  refine n_if_ne (tgt := 46) hx hb (by omega) dX2_offer_37 (by decide) (fun h37 => ?_) (fun h37 => ?_)
  rotate_left
  · exfalso; omega
  refine lv_aload_n hx hb dX2_offer_46 rfl (lv_at hl 0 rfl) ?_
  refine gf_X2_9 C0 hP (by omega) mw_at.1 rfl dX2_offer_47 ?_
  refine lv_bipush (v := nI 30) hx hb dX2_offer_50 rfl ?_
  refine lv_iload_n hx hb dX2_offer_52 rfl (lv_at hl 1 rfl) ?_
  refine n_imul hx hb dX2_offer_53 ?_
  refine lv_iload_n hx hb dX2_offer_54 rfl (lv_at hl 2 rfl) ?_
  refine lv_iload_n hx hb dX2_offer_55 rfl (lv_at hl 3 rfl) ?_
  refine k0_i (rn_X2_52 (As := [.ref (ad 7), .int (nI (30 * i)), .int (nI x), .int (nI w)]) (rest := []) C0 (m_X2_come l D cA N ad (mw ad cA c (nI 0) n nw ah rw) 7 (30 * i) nw R Y L S D9 K (nI x) w (by omega) mw_at.2.1 (by omega) hrow (by omega) (by omega) (by omega) (by omega) (by omega) (by omega) (by omega) (by omega) (by omega) _) hP hS rfl ⟨rfl, rfl⟩ ⟨by decide, by decide⟩ hl.1 rfl (Nat.le_of_ble_eq_true rfl) dX2_offer_56 ⟨Nat.le_of_ble_eq_true rfl, Nat.le_of_ble_eq_true rfl⟩) C0 hP hS (fun v56 c56 H locs hp hP hS => ?_)
  obtain ⟨nw56, hv56, rfl, hrow56, hst56, hout56⟩ := hp
  rw [mw_7] at hP
  exact e_i C0 hr hlk hP hS dX2_offer_59 (by decide) (by decide) ⟨hv56, nw56, rfl, hrow56, hst56, hout56⟩
set_option maxHeartbeats 1000000 in
set_option maxRecDepth 10000 in
theorem m_X2_setLuck (l : Launch) (D : va_G) (cA : Nat → ClassId) (N : Nat) (ad : Nat → Nat) (c : Nat → va_E) (th : Int32) (n : Nat) (nw ah rw : Nat → Int32) (i R Y L S D9 K : Nat) (y : Nat) (hN10 : 10 ≤ N) (hM : MoAt ad cA c th n nw ah rw) (hn5 : n ≤ 5) (hi : i < n) (hrow : RowE nw (30 * i) R Y L S D9 K) (hok : Hok R Y L S D9 K) (hy : y ≤ 9999) : Ci l yX2_setLuck wX2_setLuck { frames := 1, cells := 0, slots := 0, locals := 22 } [.ref (ad 6), .int (nI i), .int (nI y)] D cA N ad c 0 0 (fun v c' => v = nI L ∧ (∃ nw', mw ad cA c (nI 0) n nw' ah rw = c' ∧ RowE nw' (30 * i) R Y y S D9 K ∧ (∀ k q, k < 3 → sto nw' (30 * i) k q = sto nw (30 * i) k q) ∧ Out nw' nw (30 * i))) := by
  intro sz9
  refine bd_of (cc := cX2_setLuck) (maxL := 4) (ret := some Jvm.ClassFile.FieldType.int) (by decide) rfl (Nat.le_of_ble_eq_true rfl) ?_
  intro p e s m below meth c0 C0 hr hlk hnm hP hS hsz ls hl
  subst hsz
  have hx := C0.1
  have hb := C0.2.1
  have hl : lv_has ls 4 [(0, .ref (ad 6)), (1, .int (nI i)), (2, .int (nI y))] := hl
  obtain ⟨r0, r1, r2, r3, r4, r5⟩ := id hrow
  obtain ⟨q1, q2, q3, q4, q5, q6, q7, q8, q9⟩ := id hok
  rw [← mw_self hM] at hP
  refine lv_aload_n hx hb dX2_setLuck_0 rfl (lv_at hl 0 rfl) ?_
  refine lv_iconst (v := nI 0) hx hb dX2_setLuck_1 rfl ?_
  refine pm_th C0 hN10 hP hS dX2_setLuck_2 (fun H locs hP hS => ?_)
  refine lv_aload_n hx hb dX2_setLuck_5 rfl (lv_at hl 0 rfl) ?_
  refine lv_iload_n hx hb dX2_setLuck_6 rfl (lv_at hl 1 rfl) ?_
  refine k0_i (rn_X2_48 (As := [.int (nI i)]) (rest := []) (r := 6) C0 (m_X2_isHand__t l D cA N ad (mw ad cA c (nI 0) n nw ah rw) (nI 0) n nw ah rw i hN10 mw_at (by omega) hi _) hP hS (by omega) mw_at.1 rfl ⟨rfl, rfl⟩ ⟨by decide, by decide⟩ hl.1 rfl (Nat.le_of_ble_eq_true rfl) dX2_setLuck_7 ⟨Nat.le_of_ble_eq_true rfl, Nat.le_of_ble_eq_true rfl⟩) C0 hP hS (fun v7 c7 H locs hp hP hS => ?_)
  obtain ⟨rfl, rfl⟩ := hp
  refine n_if_ne (tgt := 19) hx hb (by omega) dX2_setLuck_10 (by decide) (fun h10 => ?_) (fun h10 => ?_)
  rotate_left
  · exfalso; omega
  refine lv_iload_n hx hb dX2_setLuck_19 rfl (lv_at hl 2 rfl) ?_
  refine lv_iconst (v := nI 0) hx hb dX2_setLuck_20 rfl ?_
  refine lv_sipush (v := nI 9999) hx hb dX2_setLuck_21 rfl ?_
  refine k0_i (rn_X2_40 (As := [.int (nI y), .int (nI 0), .int (nI 9999)]) (rest := []) C0 (m_X2_isWithin l D cA N ad (mw ad cA c (nI 0) n nw ah rw) (nI y) (nI 0) (nI 9999) _) hP hS rfl ⟨rfl, rfl⟩ ⟨by decide, by decide⟩ hl.1 rfl (Nat.le_of_ble_eq_true rfl) dX2_setLuck_24 ⟨Nat.le_of_ble_eq_true rfl, Nat.le_of_ble_eq_true rfl⟩) C0 hP hS (fun v24 c24 H locs hp hP hS => ?_)
  obtain ⟨hv, rfl⟩ := hp
  obtain rfl : v24 = nI 1 := by rw [hv, if_pos ⟨nI_le (by omega) (by omega), nI_le (by omega) (by omega)⟩]; rfl
  refine n_if_ne (tgt := 36) hx hb (by omega) dX2_setLuck_27 (by decide) (fun h27 => ?_) (fun h27 => ?_)
  rotate_left
  · exfalso; omega
  refine lv_aload_n hx hb dX2_setLuck_36 rfl (lv_at hl 0 rfl) ?_
  refine gf_X2_9 C0 hP (by omega) mw_at.1 rfl dX2_setLuck_37 ?_
  refine lv_bipush (v := nI 30) hx hb dX2_setLuck_40 rfl ?_
  refine lv_iload_n hx hb dX2_setLuck_42 rfl (lv_at hl 1 rfl) ?_
  refine n_imul hx hb dX2_setLuck_43 ?_
  refine lv_iconst (v := nI 2) hx hb dX2_setLuck_44 rfl ?_
  refine n_iadd hx hb dX2_setLuck_45 ?_
  refine a_ildE C0 hP (by omega) mw_at.2.1 (by omega) (by omega) r2 dX2_setLuck_46 ?_
  refine lv_istore_n (lv' := [(3, .int (nI L)), (0, .ref (ad 6)), (1, .int (nI i)), (2, .int (nI y))]) hx hb dX2_setLuck_47 rfl hl (by decide) rfl (fun ls hl => ?_)
  refine lv_aload_n hx hb dX2_setLuck_48 rfl (lv_at hl 1 rfl) ?_
  refine gf_X2_9 C0 hP (by omega) mw_at.1 rfl dX2_setLuck_49 ?_
  refine lv_bipush (v := nI 30) hx hb dX2_setLuck_52 rfl ?_
  refine lv_iload_n hx hb dX2_setLuck_54 rfl (lv_at hl 2 rfl) ?_
  refine n_imul hx hb dX2_setLuck_55 ?_
  refine lv_iconst (v := nI 2) hx hb dX2_setLuck_56 rfl ?_
  refine n_iadd hx hb dX2_setLuck_57 ?_
  refine lv_iload_n hx hb dX2_setLuck_58 rfl (lv_at hl 3 rfl) ?_
  refine a_ist C0 hP hS (by omega) mw_at.2.1 (by omega) (by omega) dX2_setLuck_59 (fun H locs hP hS => ?_)
  obtain ⟨F1, hF1⟩ : ∃ z7, z7 = upd nw (30 * i + 2) (nI y) := ⟨_, rfl⟩
  rw [← hF1] at hP
  have kF1_0 : F1 (30 * i + 0) = nI R := by rw [hF1]; exact (pk_un (by omega)).trans r0
  have kF1_1 : F1 (30 * i + 1) = nI Y := by rw [hF1]; exact (pk_un (by omega)).trans r1
  have kF1_3 : F1 (30 * i + 3) = nI S := by rw [hF1]; exact (pk_un (by omega)).trans r3
  have kF1_4 : F1 (30 * i + 4) = nI D9 := by rw [hF1]; exact (pk_un (by omega)).trans r4
  have kF1_5 : F1 (30 * i + 5) = nI K := by rw [hF1]; exact (pk_un (by omega)).trans r5
  have kF1_n : F1 (30 * i + 2) = nI y := by rw [hF1]; exact pk_us
  rw [mw_7] at hP
  refine lv_iload_n hx hb dX2_setLuck_60 rfl (lv_at hl 0 rfl) ?_
  exact e_i C0 hr hlk hP hS dX2_setLuck_61 (by decide) (by decide) ⟨rfl, F1, rfl, ⟨kF1_0, kF1_1, kF1_n, kF1_3, kF1_4, kF1_5⟩, fun k q hk => by rw [hF1]; exact pk_un (by omega), fun z hz => by rw [hF1]; exact pk_un (by omega)⟩
set_option maxHeartbeats 1000000 in
set_option maxRecDepth 10000 in
theorem m_X2_offerRow (l : Launch) (D : va_G) (cA : Nat → ClassId) (N : Nat) (ad : Nat → Nat) (c : Nat → va_E) (th : Int32) (n : Nat) (nw ah rw : Nat → Int32) (i R Y L S D9 K : Nat) (x w many : Nat) (hN10 : 10 ≤ N) (hM : MoAt ad cA c th n nw ah rw) (hn5 : n ≤ 5) (hi : i < n) (hrow : RowE nw (30 * i) R Y L S D9 K) (hok : Hok R Y L S D9 K) (hx9 : x ≤ 999) (hw0 : 1 ≤ w) (hw9 : w ≤ 9) (hm0 : 1 ≤ many) (hm : many ≤ 200) : Ci l yX2_offerRow wX2_offerRow { frames := 2, cells := 0, slots := 0, locals := 48 } [.ref (ad 6), .int (nI i), .int (nI x), .int (nI w), .int (nI many)] D cA N ad c 0 0 (fun v c' => v = nI (rwC R Y w (L, S, D9, K) many) ∧ (∃ nw', mw ad cA c (nI 0) n nw' ah rw = c' ∧ RowE nw' (30 * i) R Y ((rwS R Y w many (L, S, D9, K)).1) ((rwS R Y w many (L, S, D9, K)).2.1) ((rwS R Y w many (L, S, D9, K)).2.2.1) ((rwS R Y w many (L, S, D9, K)).2.2.2) ∧ (∀ k q, k < 3 → sto nw' (30 * i) k q = (rwT R Y w (L, S, D9, K) (sto nw (30 * i)) x many) k q) ∧ Out nw' nw (30 * i))) := by
  intro sz9
  refine bd_of (cc := cX2_offerRow) (maxL := 7) (ret := some Jvm.ClassFile.FieldType.int) (by decide) rfl (Nat.le_of_ble_eq_true rfl) ?_
  intro p e s m below meth c0 C0 hr hlk hnm hP hS hsz ls hl
  subst hsz
  have hx := C0.1
  have hb := C0.2.1
  have hl : lv_has ls 7 [(0, .ref (ad 6)), (1, .int (nI i)), (2, .int (nI x)), (3, .int (nI w)), (4, .int (nI many))] := hl
  obtain ⟨r0, r1, r2, r3, r4, r5⟩ := id hrow
  obtain ⟨q1, q2, q3, q4, q5, q6, q7, q8, q9⟩ := id hok
  rw [← mw_self hM] at hP
  refine lv_aload_n hx hb dX2_offerRow_0 rfl (lv_at hl 0 rfl) ?_
  refine lv_iconst (v := nI 0) hx hb dX2_offerRow_1 rfl ?_
  refine pm_th C0 hN10 hP hS dX2_offerRow_2 (fun H locs hP hS => ?_)
  refine lv_aload_n hx hb dX2_offerRow_5 rfl (lv_at hl 0 rfl) ?_
  refine lv_iload_n hx hb dX2_offerRow_6 rfl (lv_at hl 1 rfl) ?_
  refine k0_i (rn_X2_48 (As := [.int (nI i)]) (rest := []) (r := 6) C0 (m_X2_isHand__t l D cA N ad (mw ad cA c (nI 0) n nw ah rw) (nI 0) n nw ah rw i hN10 mw_at (by omega) hi _) hP hS (by omega) mw_at.1 rfl ⟨rfl, rfl⟩ ⟨by decide, by decide⟩ hl.1 rfl (Nat.le_of_ble_eq_true rfl) dX2_offerRow_7 ⟨Nat.le_of_ble_eq_true rfl, Nat.le_of_ble_eq_true rfl⟩) C0 hP hS (fun v7 c7 H locs hp hP hS => ?_)
  obtain ⟨rfl, rfl⟩ := hp
  refine n_if_ne (tgt := 19) hx hb (by omega) dX2_offerRow_10 (by decide) (fun h10 => ?_) (fun h10 => ?_)
  rotate_left
  · exfalso; omega
  refine lv_iload_n hx hb dX2_offerRow_19 rfl (lv_at hl 2 rfl) ?_
  refine lv_iconst (v := nI 0) hx hb dX2_offerRow_20 rfl ?_
  refine lv_sipush (v := nI 999) hx hb dX2_offerRow_21 rfl ?_
  refine k0_i (rn_X2_40 (As := [.int (nI x), .int (nI 0), .int (nI 999)]) (rest := []) C0 (m_X2_isWithin l D cA N ad (mw ad cA c (nI 0) n nw ah rw) (nI x) (nI 0) (nI 999) _) hP hS rfl ⟨rfl, rfl⟩ ⟨by decide, by decide⟩ hl.1 rfl (Nat.le_of_ble_eq_true rfl) dX2_offerRow_24 ⟨Nat.le_of_ble_eq_true rfl, Nat.le_of_ble_eq_true rfl⟩) C0 hP hS (fun v24 c24 H locs hp hP hS => ?_)
  obtain ⟨hv, rfl⟩ := hp
  obtain rfl : v24 = nI 1 := by rw [hv, if_pos ⟨nI_le (by omega) (by omega), nI_le (by omega) (by omega)⟩]; rfl
  refine n_if_eq (tgt := 52) hx hb (by omega) dX2_offerRow_27 (by decide) (fun h27 => ?_) (fun h27 => ?_)
  · exfalso; omega
  refine lv_iload_n hx hb dX2_offerRow_30 rfl (lv_at hl 3 rfl) ?_
  refine lv_iconst (v := nI 1) hx hb dX2_offerRow_31 rfl ?_
  refine lv_bipush (v := nI 9) hx hb dX2_offerRow_32 rfl ?_
  refine k0_i (rn_X2_40 (As := [.int (nI w), .int (nI 1), .int (nI 9)]) (rest := []) C0 (m_X2_isWithin l D cA N ad (mw ad cA c (nI 0) n nw ah rw) (nI w) (nI 1) (nI 9) _) hP hS rfl ⟨rfl, rfl⟩ ⟨by decide, by decide⟩ hl.1 rfl (Nat.le_of_ble_eq_true rfl) dX2_offerRow_34 ⟨Nat.le_of_ble_eq_true rfl, Nat.le_of_ble_eq_true rfl⟩) C0 hP hS (fun v34 c34 H locs hp hP hS => ?_)
  obtain ⟨hv, rfl⟩ := hp
  obtain rfl : v34 = nI 1 := by rw [hv, if_pos ⟨nI_le (by omega) (by omega), nI_le (by omega) (by omega)⟩]; rfl
  refine n_if_eq (tgt := 52) hx hb (by omega) dX2_offerRow_37 (by decide) (fun h37 => ?_) (fun h37 => ?_)
  · exfalso; omega
  refine lv_iload hx hb dX2_offerRow_40 (lv_at hl 4 rfl) ?_
  refine lv_iconst (v := nI 1) hx hb dX2_offerRow_42 rfl ?_
  refine lv_sipush (v := nI 200) hx hb dX2_offerRow_43 rfl ?_
  refine k0_i (rn_X2_40 (As := [.int (nI many), .int (nI 1), .int (nI 200)]) (rest := []) C0 (m_X2_isWithin l D cA N ad (mw ad cA c (nI 0) n nw ah rw) (nI many) (nI 1) (nI 200) _) hP hS rfl ⟨rfl, rfl⟩ ⟨by decide, by decide⟩ hl.1 rfl (Nat.le_of_ble_eq_true rfl) dX2_offerRow_46 ⟨Nat.le_of_ble_eq_true rfl, Nat.le_of_ble_eq_true rfl⟩) C0 hP hS (fun v46 c46 H locs hp hP hS => ?_)
  obtain ⟨hv, rfl⟩ := hp
  obtain rfl : v46 = nI 1 := by rw [hv, if_pos ⟨nI_le (by omega) (by omega), nI_le (by omega) (by omega)⟩]; rfl
  refine n_if_ne (tgt := 58) hx hb (by omega) dX2_offerRow_49 (by decide) (fun h49 => ?_) (fun h49 => ?_)
  rotate_left
  · exfalso; omega
  refine lv_iconst (v := nI 0) hx hb dX2_offerRow_58 rfl ?_
  refine lv_istore (lv' := [(5, .int (nI 0)), (0, .ref (ad 6)), (1, .int (nI i)), (2, .int (nI x)), (3, .int (nI w)), (4, .int (nI many))]) hx hb dX2_offerRow_59 hl (by decide) rfl (fun ls hl => ?_)
  refine lv_iconst (v := nI 0) hx hb dX2_offerRow_61 rfl ?_
  refine lv_istore (lv' := [(6, .int (nI 0)), (5, .int (nI 0)), (0, .ref (ad 6)), (1, .int (nI i)), (2, .int (nI x)), (3, .int (nI w)), (4, .int (nI many))]) hx hb dX2_offerRow_62 hl (by decide) rfl (fun ls hl => ?_)
  have loop64 : ∀ (n9 : Nat) (k : Nat) (q : Nat) (A : Nat → Int32), (k ≤ many) → (q = rwC R Y w (L, S, D9, K) k) → (RowE A (30 * i) R Y (rwS R Y w k (L, S, D9, K)).1 (rwS R Y w k (L, S, D9, K)).2.1 (rwS R Y w k (L, S, D9, K)).2.2.1 (rwS R Y w k (L, S, D9, K)).2.2.2) → (∀ k9 q9, k9 < 3 → sto A (30 * i) k9 q9 = (rwT R Y w (L, S, D9, K) (sto nw (30 * i)) x k) k9 q9) → (Out A nw (30 * i)) → many - k < n9 → ∀ (H : Heap) (locs : List Loc) (ls : Array Slot), va_P D vwCl (wl N ad (mw ad cA c (nI 0) n A ah rw)) H → va_S (wA N ad s.heap.size) s.heap H locs → lv_has ls 7 [(0, .ref (ad 6)), (1, .int (nI i)), (2, .int (nI x)), (3, .int (nI w)), (4, .int (nI many)), (5, .int (nI q)), (6, .int (nI k))] → W p l e { frames := 2, cells := 0, slots := 0, locals := 48 } s m [.ref (ad 6), .int (nI i), .int (nI x), .int (nI w), .int (nI many)].toArray below meth c0 H locs 0 0 (MQ below (va_Qi (fun v c' => v = nI (rwC R Y w (L, S, D9, K) many) ∧ (∃ nw', mw ad cA c (nI 0) n nw' ah rw = c' ∧ RowE nw' (30 * i) R Y ((rwS R Y w many (L, S, D9, K)).1) ((rwS R Y w many (L, S, D9, K)).2.1) ((rwS R Y w many (L, S, D9, K)).2.2.1) ((rwS R Y w many (L, S, D9, K)).2.2.2) ∧ (∀ k q, k < 3 → sto nw' (30 * i) k q = (rwT R Y w (L, S, D9, K) (sto nw (30 * i)) x many) k q) ∧ Out nw' nw (30 * i))) (fun c' t => va_P D vwCl (wl N ad c') t.heap) (wA N ad s.heap.size)) [.ref (ad 6), .int (nI i), .int (nI x), .int (nI w), .int (nI many)].toArray s 0 0 (wA N ad s.heap.size)) (F0 m 64 ls []) := by
    intro n9
    induction n9 with
    | zero => intro k q A hk hq hrk hsk hoA hlt9; exact absurd hlt9 (Nat.not_lt_zero _)
    | succ n9 ih64 =>
      intro k q A hk hq hrk hsk hoA hlt9 H locs ls hP hS hl
      obtain ⟨i1, i2, i3, i5, i4⟩ := rwS_in (R := R) (Y := Y) (w := w) (by omega) (x := (L, S, D9, K)) (by show L ≤ 9999; omega) (by show K ≤ R; omega) k
      dsimp only at i1 i2 i3 i4 i5
      obtain ⟨w1, w2⟩ := wtR_in w k
      have hcl := rwC_le (R := R) (Y := Y) (w := w) (x := (L, S, D9, K)) k
      have hpl : ∀ p, rwP R Y w k (L, S, D9, K) = some p → p < 2 ^ 31 := fun p h => Nat.lt_of_lt_of_le ((pk9_in (by omega) i4).1 p h) (by omega)
      refine lv_iload hx hb dX2_offerRow_64 (lv_at hl 6 rfl) ?_
      refine lv_iload hx hb dX2_offerRow_66 (lv_at hl 4 rfl) ?_
      refine n_icmp_ge (tgt := 121) hx hb (by omega) (by omega) dX2_offerRow_68 (by decide) (fun h68 => ?_) (fun h68 => ?_)
      · obtain rfl : many = k := by omega
        refine lv_iload hx hb dX2_offerRow_121 (lv_at hl 5 rfl) ?_
        exact e_i C0 hr hlk hP hS dX2_offerRow_123 (by decide) (by decide) ⟨by rw [hq], A, rfl, hrk, hsk, hoA⟩
      · refine lv_iload hx hb dX2_offerRow_71 (lv_at hl 5 rfl) ?_
        refine lv_aload_n hx hb dX2_offerRow_73 rfl (lv_at hl 0 rfl) ?_
        refine gf_X2_9 C0 hP (by omega) mw_at.1 rfl dX2_offerRow_74 ?_
        refine lv_bipush (v := nI 30) hx hb dX2_offerRow_77 rfl ?_
        refine lv_iload_n hx hb dX2_offerRow_79 rfl (lv_at hl 1 rfl) ?_
        refine n_imul hx hb dX2_offerRow_80 ?_
        refine lv_iload_n hx hb dX2_offerRow_81 rfl (lv_at hl 2 rfl) ?_
        refine lv_iload hx hb dX2_offerRow_82 (lv_at hl 6 rfl) ?_
        refine n_iadd hx hb dX2_offerRow_84 ?_
        refine lv_sipush (v := nI 1000) hx hb dX2_offerRow_85 rfl ?_
        refine n_irem hx hb (by omega) (by omega) (by omega) dX2_offerRow_88 ?_
        refine lv_iload_n hx hb dX2_offerRow_89 rfl (lv_at hl 3 rfl) ?_
        refine lv_iconst (v := nI 1) hx hb dX2_offerRow_90 rfl ?_
        refine n_isub hx hb (by omega) dX2_offerRow_91 ?_
        refine lv_iload hx hb dX2_offerRow_92 (lv_at hl 6 rfl) ?_
        refine n_iadd hx hb dX2_offerRow_94 ?_
        refine lv_bipush (v := nI 9) hx hb dX2_offerRow_95 rfl ?_
        refine n_irem hx hb (by omega) (by omega) (by omega) dX2_offerRow_97 ?_
        refine lv_iconst (v := nI 1) hx hb dX2_offerRow_98 rfl ?_
        refine n_iadd hx hb dX2_offerRow_99 ?_
        refine k0_i (rn_X2_52 (As := [.ref (ad 7), .int (nI (30 * i)), .int (nI ((x + k) % 1000)), .int (nI (wtR w k))]) (rest := [.int (nI q)]) C0 (m_X2_come l D cA N ad (mw ad cA c (nI 0) n A ah rw) 7 (30 * i) A R Y (rwS R Y w k (L, S, D9, K)).1 (rwS R Y w k (L, S, D9, K)).2.1 (rwS R Y w k (L, S, D9, K)).2.2.1 (rwS R Y w k (L, S, D9, K)).2.2.2 (nI ((x + k) % 1000)) (wtR w k) (by omega) mw_at.2.1 (by omega) hrk (by omega) (by omega) (by omega) (by omega) (by omega) (by omega) (by omega) (by omega) (by omega) _) hP hS rfl ⟨rfl, rfl⟩ ⟨by decide, by decide⟩ hl.1 rfl (Nat.le_of_ble_eq_true rfl) dX2_offerRow_100 ⟨Nat.le_of_ble_eq_true rfl, Nat.le_of_ble_eq_true rfl⟩) C0 hP hS (fun v100 c100 H locs hp hP hS => ?_)
        obtain ⟨nw100, hv100, rfl, hrow100, hst100, hout100⟩ := hp
        rw [mw_7] at hP
        refine lv_iconst (v := (-1)) hx hb dX2_offerRow_103 rfl ?_
        refine lv_icmp_ne (tgt := 111) hx hb dX2_offerRow_104 (by decide) (fun h104 => ?_) (fun h104 => ?_)
        · refine lv_iconst (v := nI 1) hx hb dX2_offerRow_111 rfl ?_
          refine n_iadd hx hb dX2_offerRow_112 ?_
          refine lv_istore (lv' := [(5, .int (nI (q + 1))), (0, .ref (ad 6)), (1, .int (nI i)), (2, .int (nI x)), (3, .int (nI w)), (4, .int (nI many)), (6, .int (nI k))]) hx hb dX2_offerRow_113 hl (by decide) rfl (fun ls hl => ?_)
          refine lv_iinc (v := nI (k + 1)) (lv' := [(6, .int (nI (k + 1))), (5, .int (nI (q + 1))), (0, .ref (ad 6)), (1, .int (nI i)), (2, .int (nI x)), (3, .int (nI w)), (4, .int (nI many))]) hx hb dX2_offerRow_115 hl (k := 6) rfl (nI_add k 1) (by decide) rfl (fun ls hl => ?_)
          refine lv_goto (tgt := 64) hx hb dX2_offerRow_118 (by decide) ?_
          exact ih64 (k + 1) (q + 1) nw100 (by omega) (by rw [hq]; show _ = rwC R Y w (L, S, D9, K) k + (if rwP R Y w k (L, S, D9, K) = none then 0 else 1); rw [if_neg (fun h => h104 (by rw [hv100, show (pk _ _ _ _ _ _ _).1 = none from h]; rfl))]) (hrow100) (fun k9 q9 hk9 => (hst100 k9 q9 hk9).trans (stT_cg hsk _ hk9)) (fun z hz => (hout100 z hz).trans (hoA z hz)) (by omega) _ _ _ hP hS (lv_sub hl [2, 3, 4, 5, 6, 1, 0] rfl)
        · refine lv_iconst (v := nI 0) hx hb dX2_offerRow_107 rfl ?_
          refine lv_goto (tgt := 112) hx hb dX2_offerRow_108 (by decide) ?_
          refine n_iadd hx hb dX2_offerRow_112 ?_
          refine lv_istore (lv' := [(5, .int (nI (q + 0))), (0, .ref (ad 6)), (1, .int (nI i)), (2, .int (nI x)), (3, .int (nI w)), (4, .int (nI many)), (6, .int (nI k))]) hx hb dX2_offerRow_113 hl (by decide) rfl (fun ls hl => ?_)
          refine lv_iinc (v := nI (k + 1)) (lv' := [(6, .int (nI (k + 1))), (5, .int (nI (q + 0))), (0, .ref (ad 6)), (1, .int (nI i)), (2, .int (nI x)), (3, .int (nI w)), (4, .int (nI many))]) hx hb dX2_offerRow_115 hl (k := 6) rfl (nI_add k 1) (by decide) rfl (fun ls hl => ?_)
          refine lv_goto (tgt := 64) hx hb dX2_offerRow_118 (by decide) ?_
          exact ih64 (k + 1) (q + 0) nw100 (by omega) (by rw [hq]; show _ = rwC R Y w (L, S, D9, K) k + (if rwP R Y w k (L, S, D9, K) = none then 0 else 1); rw [if_pos (show rwP R Y w k (L, S, D9, K) = none from oI_none (hv100.symm.trans h104) hpl), Nat.add_zero]) (hrow100) (fun k9 q9 hk9 => (hst100 k9 q9 hk9).trans (stT_cg hsk _ hk9)) (fun z hz => (hout100 z hz).trans (hoA z hz)) (by omega) _ _ _ hP hS (lv_sub hl [2, 3, 4, 5, 6, 1, 0] rfl)
  exact loop64 (_ + 1) 0 0 nw (Nat.zero_le _) (rfl) (hrow) (fun _ _ _ => rfl) (fun _ _ => rfl) (Nat.lt_succ_self _) _ _ _ hP hS (lv_sub hl [2, 3, 4, 5, 6, 1, 0] rfl)
set_option maxHeartbeats 1000000 in
set_option maxRecDepth 10000 in
theorem m_X2_mix (l : Launch) (D : va_G) (cA : Nat → ClassId) (N : Nat) (ad : Nat → Nat) (c : Nat → va_E) (th : Int32) (n : Nat) (nw ah rw : Nat → Int32) (i R Y L S D9 K : Nat)  (hN10 : 10 ≤ N) (hM : MoAt ad cA c th n nw ah rw) (hn5 : n ≤ 5) (hi : i < n) (hrow : RowE nw (30 * i) R Y L S D9 K) (hok : Hok R Y L S D9 K) : Ci l yX2_mix wX2_mix { frames := 1, cells := 0, slots := 0, locals := 22 } [.ref (ad 6), .int (nI i)] D cA N ad c 0 0 (fun v c' => v = nI (mixF (K - 1) (L, sto nw (30 * i), 0)).2.2 ∧ (∃ nw', mw ad cA c (nI 0) n nw' ah rw = c' ∧ RowE nw' (30 * i) R Y ((mixF (K - 1) (L, sto nw (30 * i), 0)).1) S D9 K ∧ (∀ k q, k < 3 → sto nw' (30 * i) k q = (mixF (K - 1) (L, sto nw (30 * i), 0)).2.1 k q) ∧ Out nw' nw (30 * i))) := by
  intro sz9
  refine bd_of (cc := cX2_mix) (maxL := 8) (ret := some Jvm.ClassFile.FieldType.int) (by decide) rfl (Nat.le_of_ble_eq_true rfl) ?_
  intro p e s m below meth c0 C0 hr hlk hnm hP hS hsz ls hl
  subst hsz
  have hx := C0.1
  have hb := C0.2.1
  have hl : lv_has ls 8 [(0, .ref (ad 6)), (1, .int (nI i))] := hl
  obtain ⟨r0, r1, r2, r3, r4, r5⟩ := id hrow
  obtain ⟨q1, q2, q3, q4, q5, q6, q7, q8, q9⟩ := id hok
  rw [← mw_self hM] at hP
  refine lv_aload_n hx hb dX2_mix_0 rfl (lv_at hl 0 rfl) ?_
  refine lv_iconst (v := nI 0) hx hb dX2_mix_1 rfl ?_
  refine pm_th C0 hN10 hP hS dX2_mix_2 (fun H locs hP hS => ?_)
  refine lv_aload_n hx hb dX2_mix_5 rfl (lv_at hl 0 rfl) ?_
  refine lv_iload_n hx hb dX2_mix_6 rfl (lv_at hl 1 rfl) ?_
  refine k0_i (rn_X2_48 (As := [.int (nI i)]) (rest := []) (r := 6) C0 (m_X2_isHand__t l D cA N ad (mw ad cA c (nI 0) n nw ah rw) (nI 0) n nw ah rw i hN10 mw_at (by omega) hi _) hP hS (by omega) mw_at.1 rfl ⟨rfl, rfl⟩ ⟨by decide, by decide⟩ hl.1 rfl (Nat.le_of_ble_eq_true rfl) dX2_mix_7 ⟨Nat.le_of_ble_eq_true rfl, Nat.le_of_ble_eq_true rfl⟩) C0 hP hS (fun v7 c7 H locs hp hP hS => ?_)
  obtain ⟨rfl, rfl⟩ := hp
  refine n_if_ne (tgt := 19) hx hb (by omega) dX2_mix_10 (by decide) (fun h10 => ?_) (fun h10 => ?_)
  rotate_left
  · exfalso; omega
  refine lv_bipush (v := nI 30) hx hb dX2_mix_19 rfl ?_
  refine lv_iload_n hx hb dX2_mix_21 rfl (lv_at hl 1 rfl) ?_
  refine n_imul hx hb dX2_mix_22 ?_
  refine lv_istore_n (lv' := [(2, .int (nI (30 * i))), (0, .ref (ad 6)), (1, .int (nI i))]) hx hb dX2_mix_23 rfl hl (by decide) rfl (fun ls hl => ?_)
  refine lv_iconst (v := nI 0) hx hb dX2_mix_24 rfl ?_
  refine lv_istore_n (lv' := [(3, .int (nI 0)), (2, .int (nI (30 * i))), (0, .ref (ad 6)), (1, .int (nI i))]) hx hb dX2_mix_25 rfl hl (by decide) rfl (fun ls hl => ?_)
  refine lv_aload_n hx hb dX2_mix_26 rfl (lv_at hl 2 rfl) ?_
  refine gf_X2_9 C0 hP (by omega) mw_at.1 rfl dX2_mix_27 ?_
  refine lv_iload_n hx hb dX2_mix_30 rfl (lv_at hl 1 rfl) ?_
  refine lv_iconst (v := nI 5) hx hb dX2_mix_31 rfl ?_
  refine n_iadd hx hb dX2_mix_32 ?_
  refine a_ildE C0 hP (by omega) mw_at.2.1 (by omega) (by omega) r5 dX2_mix_33 ?_
  refine lv_iconst (v := nI 1) hx hb dX2_mix_34 rfl ?_
  by_cases hK0 : K = 0
  · subst hK0
    refine lv_isub hx hb dX2_mix_35 ?_
    rw [show nI 0 - nI 1 = -1 from by decide]
    refine lv_istore (lv' := [(4, .int ((-1))), (3, .int (nI 0)), (2, .int (nI (30 * i))), (0, .ref (ad 6)), (1, .int (nI i))]) hx hb dX2_mix_36 hl (by decide) rfl (fun ls hl => ?_)
    refine lv_iload hx hb dX2_mix_38 (lv_at hl 0 rfl) ?_
    refine lv_iconst (v := nI 1) hx hb dX2_mix_40 rfl ?_
    refine lv_icmp_lt (tgt := 164) hx hb dX2_mix_41 (by decide) (fun h41 => ?_) (fun h41 => ?_)
    rotate_left
    · exact absurd (by decide) h41
    refine lv_iload_n hx hb dX2_mix_164 rfl (lv_at hl 1 rfl) ?_
    exact e_i C0 hr hlk hP hS dX2_mix_165 (by decide) (by decide) ⟨rfl, nw, rfl, hrow, fun _ _ _ => rfl, fun _ _ => rfl⟩
  · have hK1 : 1 ≤ K := by omega
    refine n_isub hx hb (by omega) dX2_mix_35 ?_
    refine lv_istore (lv' := [(4, .int (nI (K - 1))), (3, .int (nI 0)), (2, .int (nI (30 * i))), (0, .ref (ad 6)), (1, .int (nI i))]) hx hb dX2_mix_36 hl (by decide) rfl (fun ls hl => ?_)
    have loop38 : ∀ (n9 : Nat) (j : Nat) (x : Nat × (Nat → Nat → Int32) × Nat) (A : Nat → Int32), (j < K) → (x.1 ≤ 9999) → (mixF j x = (mixF (K - 1) (L, sto nw (30 * i), 0))) → (RowE A (30 * i) R Y x.1 S D9 K) → (∀ k q, k < 3 → sto A (30 * i) k q = x.2.1 k q) → (Out A nw (30 * i)) → j < n9 → ∀ (H : Heap) (locs : List Loc) (ls : Array Slot), va_P D vwCl (wl N ad (mw ad cA c (nI 0) n A ah rw)) H → va_S (wA N ad s.heap.size) s.heap H locs → lv_has ls 8 [(0, .ref (ad 6)), (1, .int (nI i)), (2, .int (nI (30 * i))), (3, .int (nI x.2.2)), (4, .int (nI j))] → W p l e { frames := 1, cells := 0, slots := 0, locals := 22 } s m [.ref (ad 6), .int (nI i)].toArray below meth c0 H locs 0 0 (MQ below (va_Qi (fun v c' => v = nI (mixF (K - 1) (L, sto nw (30 * i), 0)).2.2 ∧ (∃ nw', mw ad cA c (nI 0) n nw' ah rw = c' ∧ RowE nw' (30 * i) R Y ((mixF (K - 1) (L, sto nw (30 * i), 0)).1) S D9 K ∧ (∀ k q, k < 3 → sto nw' (30 * i) k q = (mixF (K - 1) (L, sto nw (30 * i), 0)).2.1 k q) ∧ Out nw' nw (30 * i))) (fun c' t => va_P D vwCl (wl N ad c') t.heap) (wA N ad s.heap.size)) [.ref (ad 6), .int (nI i)].toArray s 0 0 (wA N ad s.heap.size)) (F0 m 38 ls []) := by
      intro n9
      induction n9 with
      | zero => intro j x A hj hxL hm hr1 hst hoA hlt9; exact absurd hlt9 (Nat.not_lt_zero _)
      | succ n9 ih38 =>
        intro j x A hj hxL hm hr1 hst hoA hlt9 H locs ls hP hS hl
        obtain ⟨s0, s1, s2, s3, s4, s5⟩ := id hr1
        have hnl9 := nl_lt x.1
        have hmd9 : nl x.1 % (j + 1) < j + 1 := Nat.mod_lt _ (Nat.succ_pos j)
        refine lv_iload hx hb dX2_mix_38 (lv_at hl 4 rfl) ?_
        refine lv_iconst (v := nI 1) hx hb dX2_mix_40 rfl ?_
        refine n_icmp_lt (tgt := 164) hx hb (by omega) (by omega) dX2_mix_41 (by decide) (fun h41 => ?_) (fun h41 => ?_)
        · obtain rfl : j = 0 := by omega
          refine lv_iload_n hx hb dX2_mix_164 rfl (lv_at hl 3 rfl) ?_
          exact e_i C0 hr hlk hP hS dX2_mix_165 (by decide) (by decide) ⟨by rw [← hm]; rfl, A, rfl, by rw [← hm]; exact hr1, by rw [← hm]; exact hst, hoA⟩
        · refine lv_aload_n hx hb dX2_mix_44 rfl (lv_at hl 0 rfl) ?_
          refine gf_X2_9 C0 hP (by omega) mw_at.1 rfl dX2_mix_45 ?_
          refine lv_iload_n hx hb dX2_mix_48 rfl (lv_at hl 2 rfl) ?_
          refine lv_iload hx hb dX2_mix_49 (lv_at hl 4 rfl) ?_
          refine lv_iconst (v := nI 1) hx hb dX2_mix_51 rfl ?_
          refine n_iadd hx hb dX2_mix_52 ?_
          refine k0_i (rn_X2_26 (As := [.ref (ad 7), .int (nI (30 * i)), .int (nI (j + 1))]) (rest := []) C0 (m_X2_draw l D cA N ad (mw ad cA c (nI 0) n A ah rw) 7 (30 * i) A x.1 (j + 1) (by omega) mw_at.2.1 (by omega) s2 (by omega) (by omega) (by omega) _) hP hS rfl ⟨rfl, rfl⟩ ⟨by decide, by decide⟩ hl.1 rfl (Nat.le_of_ble_eq_true rfl) dX2_mix_53 ⟨Nat.le_of_ble_eq_true rfl, Nat.le_of_ble_eq_true rfl⟩) C0 hP hS (fun v53 c53 H locs hp hP hS => ?_)
          obtain ⟨rfl, rfl⟩ := hp
          obtain ⟨F1, hF1⟩ : ∃ z7, z7 = upd A (30 * i + 2) (nI (nl x.1)) := ⟨_, rfl⟩
          rw [← hF1] at hP
          have kF1_0 : F1 (30 * i + 0) = nI R := by rw [hF1]; exact (pk_un (by omega)).trans s0
          have kF1_1 : F1 (30 * i + 1) = nI Y := by rw [hF1]; exact (pk_un (by omega)).trans s1
          have kF1_3 : F1 (30 * i + 3) = nI S := by rw [hF1]; exact (pk_un (by omega)).trans s3
          have kF1_4 : F1 (30 * i + 4) = nI D9 := by rw [hF1]; exact (pk_un (by omega)).trans s4
          have kF1_5 : F1 (30 * i + 5) = nI K := by rw [hF1]; exact (pk_un (by omega)).trans s5
          have kF1_n : F1 (30 * i + 2) = nI (nl x.1) := by rw [hF1]; exact pk_us
          rw [mw_7] at hP
          obtain ⟨y, hy9⟩ : ∃ y, y = nl x.1 % (j + 1) := ⟨_, rfl⟩
          rw [← hy9]
          rw [← hy9] at hmd9
          refine lv_istore (lv' := [(5, .int (nI y)), (0, .ref (ad 6)), (1, .int (nI i)), (2, .int (nI (30 * i))), (3, .int (nI x.2.2)), (4, .int (nI j))]) hx hb dX2_mix_56 hl (by decide) rfl (fun ls hl => ?_)
          refine lv_iload hx hb dX2_mix_58 (lv_at hl 0 rfl) ?_
          refine lv_iload hx hb dX2_mix_60 (lv_at hl 5 rfl) ?_
          refine n_icmp_ne (tgt := 68) hx hb (by omega) (by omega) dX2_mix_62 (by decide) (fun h62 => ?_) (fun h62 => ?_)
          · refine lv_iinc (v := nI (x.2.2 + 1)) (lv' := [(3, .int (nI (x.2.2 + 1))), (5, .int (nI y)), (0, .ref (ad 6)), (1, .int (nI i)), (2, .int (nI (30 * i))), (4, .int (nI j))]) hx hb dX2_mix_68 hl (k := 4) rfl (nI_add x.2.2 1) (by decide) rfl (fun ls hl => ?_)
            refine lv_iconst (v := nI 0) hx hb dX2_mix_71 rfl ?_
            refine lv_istore (lv' := [(6, .int (nI 0)), (3, .int (nI (x.2.2 + 1))), (5, .int (nI y)), (0, .ref (ad 6)), (1, .int (nI i)), (2, .int (nI (30 * i))), (4, .int (nI j))]) hx hb dX2_mix_72 hl (by decide) rfl (fun ls hl => ?_)
            have loop74 : ∀ (n9 : Nat) (z : Nat) (B : Nat → Int32), (z ≤ 3) → (RowE B (30 * i) R Y (nl x.1) S D9 K) → (∀ k q, k < 3 → sto B (30 * i) k q = if k < z then swp x.2.1 j y k q else x.2.1 k q) → (Out B nw (30 * i)) → 3 - z < n9 → ∀ (H : Heap) (locs : List Loc) (ls : Array Slot), va_P D vwCl (wl N ad (mw ad cA c (nI 0) n B ah rw)) H → va_S (wA N ad s.heap.size) s.heap H locs → lv_has ls 8 [(0, .ref (ad 6)), (1, .int (nI i)), (2, .int (nI (30 * i))), (3, .int (nI (x.2.2 + 1))), (4, .int (nI j)), (5, .int (nI y)), (6, .int (nI z))] → W p l e { frames := 1, cells := 0, slots := 0, locals := 22 } s m [.ref (ad 6), .int (nI i)].toArray below meth c0 H locs 0 0 (MQ below (va_Qi (fun v c' => v = nI (mixF (K - 1) (L, sto nw (30 * i), 0)).2.2 ∧ (∃ nw', mw ad cA c (nI 0) n nw' ah rw = c' ∧ RowE nw' (30 * i) R Y ((mixF (K - 1) (L, sto nw (30 * i), 0)).1) S D9 K ∧ (∀ k q, k < 3 → sto nw' (30 * i) k q = (mixF (K - 1) (L, sto nw (30 * i), 0)).2.1 k q) ∧ Out nw' nw (30 * i))) (fun c' t => va_P D vwCl (wl N ad c') t.heap) (wA N ad s.heap.size)) [.ref (ad 6), .int (nI i)].toArray s 0 0 (wA N ad s.heap.size)) (F0 m 74 ls []) := by
              intro n9
              induction n9 with
              | zero => intro z B hz hrB hsB hoB hlt9; exact absurd hlt9 (Nat.not_lt_zero _)
              | succ n9 ih74 =>
                intro z B hz hrB hsB hoB hlt9 H locs ls hP hS hl
                refine lv_iload hx hb dX2_mix_74 (lv_at hl 6 rfl) ?_
                refine lv_iconst (v := nI 3) hx hb dX2_mix_76 rfl ?_
                refine n_icmp_ge (tgt := 158) hx hb (by omega) (by omega) dX2_mix_77 (by decide) (fun h77 => ?_) (fun h77 => ?_)
                · refine lv_iinc (v := nI (j - 1)) (lv' := [(4, .int (nI (j - 1))), (0, .ref (ad 6)), (1, .int (nI i)), (2, .int (nI (30 * i))), (3, .int (nI (x.2.2 + 1))), (5, .int (nI y)), (6, .int (nI z))]) hx hb dX2_mix_158 hl (k := 4) rfl (nI_dec (by omega)) (by decide) rfl (fun ls hl => ?_)
                  refine lv_goto (tgt := 38) hx hb dX2_mix_161 (by decide) ?_
                  exact ih38 (j - 1) ((nl x.1, swp x.2.1 j y, x.2.2 + 1)) B (by omega) (by show nl x.1 ≤ 9999; omega) (by rw [← hm]; obtain ⟨j, rfl⟩ : ∃ j1, j = j1 + 1 := ⟨j - 1, by omega⟩; show mixF j _ = mixF j _; rw [if_neg (by rw [← hy9]; exact h62), ← hy9]) (hrB) (fun k q hk => (hsB k q hk).trans (if_pos (by omega))) (hoB) (by omega) _ _ _ hP hS (lv_sub hl [1, 2, 3, 4, 0] rfl)
                · refine lv_aload_n hx hb dX2_mix_80 rfl (lv_at hl 0 rfl) ?_
                  refine gf_X2_9 C0 hP (by omega) mw_at.1 rfl dX2_mix_81 ?_
                  refine lv_iload_n hx hb dX2_mix_84 rfl (lv_at hl 2 rfl) ?_
                  refine lv_bipush (v := nI 6) hx hb dX2_mix_85 rfl ?_
                  refine n_iadd hx hb dX2_mix_87 ?_
                  refine lv_iconst (v := nI 3) hx hb dX2_mix_88 rfl ?_
                  refine lv_iload hx hb dX2_mix_89 (lv_at hl 4 rfl) ?_
                  refine n_imul hx hb dX2_mix_91 ?_
                  refine n_iadd hx hb dX2_mix_92 ?_
                  refine lv_iload hx hb dX2_mix_93 (lv_at hl 6 rfl) ?_
                  refine n_iadd hx hb dX2_mix_95 ?_
                  refine a_ild C0 hP (by omega) mw_at.2.1 (by omega) (by omega) dX2_mix_96 ?_
                  refine lv_istore (lv' := [(7, .int (B (30 * i + 6 + (3 * j) + z))), (0, .ref (ad 6)), (1, .int (nI i)), (2, .int (nI (30 * i))), (3, .int (nI (x.2.2 + 1))), (4, .int (nI j)), (5, .int (nI y)), (6, .int (nI z))]) hx hb dX2_mix_97 hl (by decide) rfl (fun ls hl => ?_)
                  refine lv_aload_n hx hb dX2_mix_99 rfl (lv_at hl 1 rfl) ?_
                  refine gf_X2_9 C0 hP (by omega) mw_at.1 rfl dX2_mix_100 ?_
                  refine lv_iload_n hx hb dX2_mix_103 rfl (lv_at hl 3 rfl) ?_
                  refine lv_bipush (v := nI 6) hx hb dX2_mix_104 rfl ?_
                  refine n_iadd hx hb dX2_mix_106 ?_
                  refine lv_iconst (v := nI 3) hx hb dX2_mix_107 rfl ?_
                  refine lv_iload hx hb dX2_mix_108 (lv_at hl 5 rfl) ?_
                  refine n_imul hx hb dX2_mix_110 ?_
                  refine n_iadd hx hb dX2_mix_111 ?_
                  refine lv_iload hx hb dX2_mix_112 (lv_at hl 7 rfl) ?_
                  refine n_iadd hx hb dX2_mix_114 ?_
                  refine lv_aload_n hx hb dX2_mix_115 rfl (lv_at hl 1 rfl) ?_
                  refine gf_X2_9 C0 hP (by omega) mw_at.1 rfl dX2_mix_116 ?_
                  refine lv_iload_n hx hb dX2_mix_119 rfl (lv_at hl 3 rfl) ?_
                  refine lv_bipush (v := nI 6) hx hb dX2_mix_120 rfl ?_
                  refine n_iadd hx hb dX2_mix_122 ?_
                  refine lv_iconst (v := nI 3) hx hb dX2_mix_123 rfl ?_
                  refine lv_iload hx hb dX2_mix_124 (lv_at hl 6 rfl) ?_
                  refine n_imul hx hb dX2_mix_126 ?_
                  refine n_iadd hx hb dX2_mix_127 ?_
                  refine lv_iload hx hb dX2_mix_128 (lv_at hl 7 rfl) ?_
                  refine n_iadd hx hb dX2_mix_130 ?_
                  refine a_ild C0 hP (by omega) mw_at.2.1 (by omega) (by omega) dX2_mix_131 ?_
                  refine a_ist C0 hP hS (by omega) mw_at.2.1 (by omega) (by omega) dX2_mix_132 (fun H locs hP hS => ?_)
                  obtain ⟨F2, hF2⟩ : ∃ z7, z7 = upd B (30 * i + 6 + (3 * j) + z) (B (30 * i + 6 + (3 * y) + z)) := ⟨_, rfl⟩
                  rw [← hF2] at hP
                  rw [mw_7] at hP
                  refine lv_aload_n hx hb dX2_mix_133 rfl (lv_at hl 1 rfl) ?_
                  refine gf_X2_9 C0 hP (by omega) mw_at.1 rfl dX2_mix_134 ?_
                  refine lv_iload_n hx hb dX2_mix_137 rfl (lv_at hl 3 rfl) ?_
                  refine lv_bipush (v := nI 6) hx hb dX2_mix_138 rfl ?_
                  refine n_iadd hx hb dX2_mix_140 ?_
                  refine lv_iconst (v := nI 3) hx hb dX2_mix_141 rfl ?_
                  refine lv_iload hx hb dX2_mix_142 (lv_at hl 6 rfl) ?_
                  refine n_imul hx hb dX2_mix_144 ?_
                  refine n_iadd hx hb dX2_mix_145 ?_
                  refine lv_iload hx hb dX2_mix_146 (lv_at hl 7 rfl) ?_
                  refine n_iadd hx hb dX2_mix_148 ?_
                  refine lv_iload hx hb dX2_mix_149 (lv_at hl 0 rfl) ?_
                  refine a_ist C0 hP hS (by omega) mw_at.2.1 (by omega) (by omega) dX2_mix_151 (fun H locs hP hS => ?_)
                  obtain ⟨F3, hF3⟩ : ∃ z7, z7 = upd F2 (30 * i + 6 + (3 * y) + z) (B (30 * i + 6 + (3 * j) + z)) := ⟨_, rfl⟩
                  rw [← hF3] at hP
                  rw [mw_7] at hP
                  refine lv_iinc (v := nI (z + 1)) (lv' := [(6, .int (nI (z + 1))), (7, .int (B (30 * i + 6 + (3 * j) + z))), (0, .ref (ad 6)), (1, .int (nI i)), (2, .int (nI (30 * i))), (3, .int (nI (x.2.2 + 1))), (4, .int (nI j)), (5, .int (nI y))]) hx hb dX2_mix_152 hl (k := 7) rfl (nI_add z 1) (by decide) rfl (fun ls hl => ?_)
                  refine lv_goto (tgt := 74) hx hb dX2_mix_155 (by decide) ?_
                  exact ih74 (z + 1) F3 (by omega) (hrB.same (fun z1 h1 h2 => by rw [hF3, hF2]; exact (pk_un (by omega)).trans (pk_un (by omega)))) (fun k q hk => by rw [hF3, hF2]; exact swp_step (by omega) hsB k q hk) (fun z1 hz => ((by rw [hF3, hF2]; exact (pk_un (by omega)).trans (pk_un (by omega)) : F3 z1 = B z1)).trans (hoB z1 hz)) (by omega) _ _ _ hP hS (lv_sub hl [2, 3, 4, 5, 6, 7, 0] rfl)
            exact loop74 (_ + 1) 0 F1 (by omega) (⟨kF1_0, kF1_1, kF1_n, kF1_3, kF1_4, kF1_5⟩) (fun k q hk => by rw [if_neg (Nat.not_lt_zero _), hF1]; exact (pk_un (by omega)).trans (hst k q hk)) (fun z hz => by rw [hF1]; exact (pk_un (by omega)).trans (hoA z hz)) (Nat.lt_succ_self _) _ _ _ hP hS (lv_sub hl [3, 4, 5, 1, 6, 2, 0] rfl)
          · refine lv_goto (tgt := 158) hx hb dX2_mix_65 (by decide) ?_
            refine lv_iinc (v := nI (j - 1)) (lv' := [(4, .int (nI (j - 1))), (5, .int (nI y)), (0, .ref (ad 6)), (1, .int (nI i)), (2, .int (nI (30 * i))), (3, .int (nI x.2.2))]) hx hb dX2_mix_158 hl (k := 5) rfl (nI_dec (by omega)) (by decide) rfl (fun ls hl => ?_)
            refine lv_goto (tgt := 38) hx hb dX2_mix_161 (by decide) ?_
            exact ih38 (j - 1) ((nl x.1, x.2.1, x.2.2)) F1 (by omega) (by show nl x.1 ≤ 9999; omega) (by rw [← hm]; obtain ⟨j, rfl⟩ : ∃ j1, j = j1 + 1 := ⟨j - 1, by omega⟩; show mixF j _ = mixF j _; rw [if_pos (by rw [← hy9]; exact h62)]) (⟨kF1_0, kF1_1, kF1_n, kF1_3, kF1_4, kF1_5⟩) (fun k q hk => by rw [hF1]; exact (pk_un (by omega)).trans (hst k q hk)) (fun z hz => by rw [hF1]; exact (pk_un (by omega)).trans (hoA z hz)) (by omega) _ _ _ hP hS (lv_sub hl [2, 3, 4, 5, 0] rfl)
    exact loop38 (_ + 1) (K - 1) ((L, sto nw (30 * i), 0)) nw (by omega) (by show L ≤ 9999; omega) (rfl) (hrow) (fun _ _ _ => rfl) (fun _ _ => rfl) (Nat.lt_succ_self _) _ _ _ hP hS (lv_sub hl [3, 4, 2, 1, 0] rfl)
set_option maxHeartbeats 1000000 in
set_option maxRecDepth 10000 in
theorem m_X2_addHand (l : Launch) (D : va_G) (cA : Nat → ClassId) (N : Nat) (ad : Nat → Nat) (c : Nat → va_E) (th : Int32) (n : Nat) (nw ah rw : Nat → Int32) (x y z : Nat) (hN10 : 10 ≤ N) (hM : MoAt ad cA c th n nw ah rw) (hn5 : n ≤ 5) (hn4 : n < 5) (hx1 : 1 ≤ x) (hx8 : x ≤ 8) (hy1 : y ≤ 1) (hz9 : z ≤ 9999) (hz0 : ∀ z9, 30 * n ≤ z9 → z9 < 150 → nw z9 = nI 0) : Ci l yX2_addHand wX2_addHand { frames := 1, cells := 0, slots := 0, locals := 22 } [.ref (ad 6), .int (nI x), .int (nI y), .int (nI z)] D cA N ad c 0 0 (fun v c' => v = nI n ∧ ∃ nw', mw ad cA c (nI 0) (n + 1) nw' ah rw = c' ∧ RowE nw' (30 * n) x y z 0 0 0 ∧ Out nw' nw (30 * n) ∧ ∀ z9, 30 * n + 3 ≤ z9 → nw' z9 = nw z9) := by
  intro sz9
  refine bd_of (cc := cX2_addHand) (maxL := 4) (ret := some Jvm.ClassFile.FieldType.int) (by decide) rfl (Nat.le_of_ble_eq_true rfl) ?_
  intro p e s m below meth c0 C0 hr hlk hnm hP hS hsz ls hl
  subst hsz
  have hx := C0.1
  have hb := C0.2.1
  have hl : lv_has ls 4 [(0, .ref (ad 6)), (1, .int (nI x)), (2, .int (nI y)), (3, .int (nI z))] := hl
  rw [← mw_self hM] at hP
  refine lv_aload_n hx hb dX2_addHand_0 rfl (lv_at hl 0 rfl) ?_
  refine lv_iconst (v := nI 0) hx hb dX2_addHand_1 rfl ?_
  refine pm_th C0 hN10 hP hS dX2_addHand_2 (fun H locs hP hS => ?_)
  refine lv_iload_n hx hb dX2_addHand_5 rfl (lv_at hl 1 rfl) ?_
  refine lv_iconst (v := nI 1) hx hb dX2_addHand_6 rfl ?_
  refine lv_bipush (v := nI 8) hx hb dX2_addHand_7 rfl ?_
  refine k0_i (rn_X2_40 (As := [.int (nI x), .int (nI 1), .int (nI 8)]) (rest := []) C0 (m_X2_isWithin l D cA N ad (mw ad cA c (nI 0) n nw ah rw) (nI x) (nI 1) (nI 8) _) hP hS rfl ⟨rfl, rfl⟩ ⟨by decide, by decide⟩ hl.1 rfl (Nat.le_of_ble_eq_true rfl) dX2_addHand_9 ⟨Nat.le_of_ble_eq_true rfl, Nat.le_of_ble_eq_true rfl⟩) C0 hP hS (fun v9 c9 H locs hp hP hS => ?_)
  obtain ⟨hv, rfl⟩ := hp
  obtain rfl : v9 = nI 1 := by rw [hv, if_pos ⟨nI_le (by omega) (by omega), nI_le (by omega) (by omega)⟩]; rfl
  refine n_if_eq (tgt := 35) hx hb (by omega) dX2_addHand_12 (by decide) (fun h12 => ?_) (fun h12 => ?_)
  · exfalso; omega
  refine lv_iload_n hx hb dX2_addHand_15 rfl (lv_at hl 2 rfl) ?_
  refine lv_iconst (v := nI 0) hx hb dX2_addHand_16 rfl ?_
  refine lv_iconst (v := nI 1) hx hb dX2_addHand_17 rfl ?_
  refine k0_i (rn_X2_40 (As := [.int (nI y), .int (nI 0), .int (nI 1)]) (rest := []) C0 (m_X2_isWithin l D cA N ad (mw ad cA c (nI 0) n nw ah rw) (nI y) (nI 0) (nI 1) _) hP hS rfl ⟨rfl, rfl⟩ ⟨by decide, by decide⟩ hl.1 rfl (Nat.le_of_ble_eq_true rfl) dX2_addHand_18 ⟨Nat.le_of_ble_eq_true rfl, Nat.le_of_ble_eq_true rfl⟩) C0 hP hS (fun v18 c18 H locs hp hP hS => ?_)
  obtain ⟨hv, rfl⟩ := hp
  obtain rfl : v18 = nI 1 := by rw [hv, if_pos ⟨nI_le (by omega) (by omega), nI_le (by omega) (by omega)⟩]; rfl
  refine n_if_eq (tgt := 35) hx hb (by omega) dX2_addHand_21 (by decide) (fun h21 => ?_) (fun h21 => ?_)
  · exfalso; omega
  refine lv_iload_n hx hb dX2_addHand_24 rfl (lv_at hl 3 rfl) ?_
  refine lv_iconst (v := nI 0) hx hb dX2_addHand_25 rfl ?_
  refine lv_sipush (v := nI 9999) hx hb dX2_addHand_26 rfl ?_
  refine k0_i (rn_X2_40 (As := [.int (nI z), .int (nI 0), .int (nI 9999)]) (rest := []) C0 (m_X2_isWithin l D cA N ad (mw ad cA c (nI 0) n nw ah rw) (nI z) (nI 0) (nI 9999) _) hP hS rfl ⟨rfl, rfl⟩ ⟨by decide, by decide⟩ hl.1 rfl (Nat.le_of_ble_eq_true rfl) dX2_addHand_29 ⟨Nat.le_of_ble_eq_true rfl, Nat.le_of_ble_eq_true rfl⟩) C0 hP hS (fun v29 c29 H locs hp hP hS => ?_)
  obtain ⟨hv, rfl⟩ := hp
  obtain rfl : v29 = nI 1 := by rw [hv, if_pos ⟨nI_le (by omega) (by omega), nI_le (by omega) (by omega)⟩]; rfl
  refine n_if_ne (tgt := 41) hx hb (by omega) dX2_addHand_32 (by decide) (fun h32 => ?_) (fun h32 => ?_)
  rotate_left
  · exfalso; omega
  refine lv_aload_n hx hb dX2_addHand_41 rfl (lv_at hl 0 rfl) ?_
  refine gf_X2_23 C0 hP (by omega) mw_at.1 rfl dX2_addHand_42 ?_
  refine lv_iconst (v := nI 5) hx hb dX2_addHand_45 rfl ?_
  refine n_icmp_ne (tgt := 55) hx hb (by omega) (by omega) dX2_addHand_46 (by decide) (fun h46 => ?_) (fun h46 => ?_)
  rotate_left
  · exfalso; omega
  refine lv_aload_n hx hb dX2_addHand_55 rfl (lv_at hl 0 rfl) ?_
  refine gf_X2_9 C0 hP (by omega) mw_at.1 rfl dX2_addHand_56 ?_
  refine lv_bipush (v := nI 30) hx hb dX2_addHand_59 rfl ?_
  refine lv_aload_n hx hb dX2_addHand_61 rfl (lv_at hl 0 rfl) ?_
  refine gf_X2_23 C0 hP (by omega) mw_at.1 rfl dX2_addHand_62 ?_
  refine n_imul hx hb dX2_addHand_65 ?_
  refine lv_iconst (v := nI 0) hx hb dX2_addHand_66 rfl ?_
  refine n_iadd hx hb dX2_addHand_67 ?_
  refine lv_iload_n hx hb dX2_addHand_68 rfl (lv_at hl 1 rfl) ?_
  refine a_ist C0 hP hS (by omega) mw_at.2.1 (by omega) (by omega) dX2_addHand_69 (fun H locs hP hS => ?_)
  obtain ⟨F1, hF1⟩ : ∃ z7, z7 = upd nw (30 * n + 0) (nI x) := ⟨_, rfl⟩
  rw [← hF1] at hP
  have kF1_n : F1 (30 * n + 0) = nI x := by rw [hF1]; exact pk_us
  rw [mw_7] at hP
  refine lv_aload_n hx hb dX2_addHand_70 rfl (lv_at hl 0 rfl) ?_
  refine gf_X2_9 C0 hP (by omega) mw_at.1 rfl dX2_addHand_71 ?_
  refine lv_bipush (v := nI 30) hx hb dX2_addHand_74 rfl ?_
  refine lv_aload_n hx hb dX2_addHand_76 rfl (lv_at hl 0 rfl) ?_
  refine gf_X2_23 C0 hP (by omega) mw_at.1 rfl dX2_addHand_77 ?_
  refine n_imul hx hb dX2_addHand_80 ?_
  refine lv_iconst (v := nI 1) hx hb dX2_addHand_81 rfl ?_
  refine n_iadd hx hb dX2_addHand_82 ?_
  refine lv_iload_n hx hb dX2_addHand_83 rfl (lv_at hl 2 rfl) ?_
  refine a_ist C0 hP hS (by omega) mw_at.2.1 (by omega) (by omega) dX2_addHand_84 (fun H locs hP hS => ?_)
  obtain ⟨F2, hF2⟩ : ∃ z7, z7 = upd F1 (30 * n + 1) (nI y) := ⟨_, rfl⟩
  rw [← hF2] at hP
  have kF2_0 : F2 (30 * n + 0) = nI x := by rw [hF2]; exact (pk_un (by omega)).trans kF1_n
  have kF2_n : F2 (30 * n + 1) = nI y := by rw [hF2]; exact pk_us
  rw [mw_7] at hP
  refine lv_aload_n hx hb dX2_addHand_85 rfl (lv_at hl 0 rfl) ?_
  refine gf_X2_9 C0 hP (by omega) mw_at.1 rfl dX2_addHand_86 ?_
  refine lv_bipush (v := nI 30) hx hb dX2_addHand_89 rfl ?_
  refine lv_aload_n hx hb dX2_addHand_91 rfl (lv_at hl 0 rfl) ?_
  refine gf_X2_23 C0 hP (by omega) mw_at.1 rfl dX2_addHand_92 ?_
  refine n_imul hx hb dX2_addHand_95 ?_
  refine lv_iconst (v := nI 2) hx hb dX2_addHand_96 rfl ?_
  refine n_iadd hx hb dX2_addHand_97 ?_
  refine lv_iload_n hx hb dX2_addHand_98 rfl (lv_at hl 3 rfl) ?_
  refine a_ist C0 hP hS (by omega) mw_at.2.1 (by omega) (by omega) dX2_addHand_99 (fun H locs hP hS => ?_)
  obtain ⟨F3, hF3⟩ : ∃ z7, z7 = upd F2 (30 * n + 2) (nI z) := ⟨_, rfl⟩
  rw [← hF3] at hP
  have kF3_0 : F3 (30 * n + 0) = nI x := by rw [hF3]; exact (pk_un (by omega)).trans kF2_0
  have kF3_1 : F3 (30 * n + 1) = nI y := by rw [hF3]; exact (pk_un (by omega)).trans kF2_n
  have kF3_n : F3 (30 * n + 2) = nI z := by rw [hF3]; exact pk_us
  rw [mw_7] at hP
  refine lv_aload_n hx hb dX2_addHand_100 rfl (lv_at hl 0 rfl) ?_
  refine lv_dup hx hb dX2_addHand_101 rfl ?_
  refine gf_X2_23 C0 hP (by omega) mw_at.1 rfl dX2_addHand_102 ?_
  refine lv_iconst (v := nI 1) hx hb dX2_addHand_105 rfl ?_
  refine n_iadd hx hb dX2_addHand_106 ?_
  refine pm_n C0 hN10 hP hS dX2_addHand_107 (fun H locs hP hS => ?_)
  refine lv_aload_n hx hb dX2_addHand_110 rfl (lv_at hl 0 rfl) ?_
  refine gf_X2_23 C0 hP (by omega) mw_at.1 rfl dX2_addHand_111 ?_
  refine lv_iconst (v := nI 1) hx hb dX2_addHand_114 rfl ?_
  refine n_isub hx hb (by omega) dX2_addHand_115 ?_
  exact e_i C0 hr hlk hP hS dX2_addHand_116 (by decide) (by decide) ⟨rfl, F3, rfl, ⟨kF3_0, kF3_1, kF3_n, ((by rw [hF3, hF2, hF1]; exact (pk_un (by omega)).trans ((pk_un (by omega)).trans (pk_un (by omega))) : F3 (30 * n + 3) = nw (30 * n + 3)).trans (hz0 _ (by omega) (by omega))), ((by rw [hF3, hF2, hF1]; exact (pk_un (by omega)).trans ((pk_un (by omega)).trans (pk_un (by omega))) : F3 (30 * n + 4) = nw (30 * n + 4)).trans (hz0 _ (by omega) (by omega))), ((by rw [hF3, hF2, hF1]; exact (pk_un (by omega)).trans ((pk_un (by omega)).trans (pk_un (by omega))) : F3 (30 * n + 5) = nw (30 * n + 5)).trans (hz0 _ (by omega) (by omega)))⟩, fun z9 hz => by rw [hF3, hF2, hF1]; exact (pk_un (by omega)).trans ((pk_un (by omega)).trans (pk_un (by omega))), fun z9 hz => by rw [hF3, hF2, hF1]; exact (pk_un (by omega)).trans ((pk_un (by omega)).trans (pk_un (by omega)))⟩
set_option maxHeartbeats 1000000 in
set_option maxRecDepth 10000 in
theorem m_X2_join (l : Launch) (D : va_G) (cA : Nat → ClassId) (N : Nat) (ad : Nat → Nat) (c : Nat → va_E) (th : Int32) (n : Nat) (nw ah rw : Nat → Int32) (i R Y L S D9 K : Nat) (j Ro Yo Lo So Do Ko : Nat)  (hN10 : 10 ≤ N) (hM : MoAt ad cA c th n nw ah rw) (hn5 : n ≤ 5) (hi : i < n) (hrow : RowE nw (30 * i) R Y L S D9 K) (hok : Hok R Y L S D9 K) (hj : j < n) (hrowo : RowE nw (30 * j) Ro Yo Lo So Do Ko) (hoo : Hok Ro Yo Lo So Do Ko) (hij : i ≠ j) (hal : Y = 0 ∧ Yo = 0 ∧ R = Ro) : Ci l yX2_join wX2_join { frames := 2, cells := 0, slots := 0, locals := 88 } [.ref (ad 6), .int (nI i), .int (nI j)] D cA N ad c 0 0 (fun v c' => v = nI (jn S So K Ko (sto nw (30 * i)) (sto nw (30 * j)) R (0, 0, L, fun k q => rw (3 * q + k))).2.1 ∧ ∃ nw' rw', mw ad cA c (nI 0) n nw' ah rw' = c' ∧ RowE nw' (30 * i) R Y (jn S So K Ko (sto nw (30 * i)) (sto nw (30 * j)) R (0, 0, L, fun k q => rw (3 * q + k))).2.2.1 (S + So) (D9 + Do) ((jn S So K Ko (sto nw (30 * i)) (sto nw (30 * j)) R (0, 0, L, fun k q => rw (3 * q + k))).1 + (jn S So K Ko (sto nw (30 * i)) (sto nw (30 * j)) R (0, 0, L, fun k q => rw (3 * q + k))).2.1) ∧ RowE nw' (30 * j) Ro Yo Lo 0 0 0 ∧ (∀ k q, k < 3 → q < (jn S So K Ko (sto nw (30 * i)) (sto nw (30 * j)) R (0, 0, L, fun k q => rw (3 * q + k))).1 + (jn S So K Ko (sto nw (30 * i)) (sto nw (30 * j)) R (0, 0, L, fun k q => rw (3 * q + k))).2.1 → sto nw' (30 * i) k q = (jn S So K Ko (sto nw (30 * i)) (sto nw (30 * j)) R (0, 0, L, fun k q => rw (3 * q + k))).2.2.2 k q) ∧ (∀ z, (z < 30 * i ∨ 30 * i + 30 ≤ z) ∧ (z < 30 * j ∨ 30 * j + 6 ≤ z) → nw' z = nw z)) := by
  intro sz9
  refine bd_of (cc := cX2_join) (maxL := 3) (ret := some Jvm.ClassFile.FieldType.int) (by decide) rfl (Nat.le_of_ble_eq_true rfl) ?_
  intro p e s m below meth c0 C0 hr hlk hnm hP hS hsz ls hl
  subst hsz
  have hx := C0.1
  have hb := C0.2.1
  have hl : lv_has ls 3 [(0, .ref (ad 6)), (1, .int (nI i)), (2, .int (nI j))] := hl
  obtain ⟨r0, r1, r2, r3, r4, r5⟩ := id hrow
  obtain ⟨q1, q2, q3, q4, q5, q6, q7, q8, q9⟩ := id hok
  obtain ⟨t0, t1, t2, t3, t4, t5⟩ := id hrowo
  obtain ⟨o1, o2, o3, o4, o5, o6, o7, o8, o9⟩ := id hoo
  rw [← mw_self hM] at hP
  refine lv_aload_n hx hb dX2_join_0 rfl (lv_at hl 0 rfl) ?_
  refine lv_iconst (v := nI 0) hx hb dX2_join_1 rfl ?_
  refine pm_th C0 hN10 hP hS dX2_join_2 (fun H locs hP hS => ?_)
  refine lv_aload_n hx hb dX2_join_5 rfl (lv_at hl 0 rfl) ?_
  refine lv_iload_n hx hb dX2_join_6 rfl (lv_at hl 1 rfl) ?_
  refine k0_i (rn_X2_48 (As := [.int (nI i)]) (rest := []) (r := 6) C0 (m_X2_isHand__t l D cA N ad (mw ad cA c (nI 0) n nw ah rw) (nI 0) n nw ah rw i hN10 mw_at (by omega) hi _) hP hS (by omega) mw_at.1 rfl ⟨rfl, rfl⟩ ⟨by decide, by decide⟩ hl.1 rfl (Nat.le_of_ble_eq_true rfl) dX2_join_7 ⟨Nat.le_of_ble_eq_true rfl, Nat.le_of_ble_eq_true rfl⟩) C0 hP hS (fun v7 c7 H locs hp hP hS => ?_)
  obtain ⟨rfl, rfl⟩ := hp
  refine n_if_eq (tgt := 21) hx hb (by omega) dX2_join_10 (by decide) (fun h10 => ?_) (fun h10 => ?_)
  · exfalso; omega
  refine lv_aload_n hx hb dX2_join_13 rfl (lv_at hl 0 rfl) ?_
  refine lv_iload_n hx hb dX2_join_14 rfl (lv_at hl 2 rfl) ?_
  refine k0_i (rn_X2_48 (As := [.int (nI j)]) (rest := []) (r := 6) C0 (m_X2_isHand__t l D cA N ad (mw ad cA c (nI 0) n nw ah rw) (nI 0) n nw ah rw j hN10 mw_at (by omega) hj _) hP hS (by omega) mw_at.1 rfl ⟨rfl, rfl⟩ ⟨by decide, by decide⟩ hl.1 rfl (Nat.le_of_ble_eq_true rfl) dX2_join_15 ⟨Nat.le_of_ble_eq_true rfl, Nat.le_of_ble_eq_true rfl⟩) C0 hP hS (fun v15 c15 H locs hp hP hS => ?_)
  obtain ⟨rfl, rfl⟩ := hp
  refine n_if_ne (tgt := 27) hx hb (by omega) dX2_join_18 (by decide) (fun h18 => ?_) (fun h18 => ?_)
  rotate_left
  · exfalso; omega
  refine lv_iload_n hx hb dX2_join_27 rfl (lv_at hl 1 rfl) ?_
  refine lv_iload_n hx hb dX2_join_28 rfl (lv_at hl 2 rfl) ?_
  refine n_icmp_ne (tgt := 38) hx hb (by omega) (by omega) dX2_join_29 (by decide) (fun h29 => ?_) (fun h29 => ?_)
  rotate_left
  · exfalso; omega
  refine lv_aload_n hx hb dX2_join_38 rfl (lv_at hl 0 rfl) ?_
  refine gf_X2_9 C0 hP (by omega) mw_at.1 rfl dX2_join_39 ?_
  refine lv_bipush (v := nI 30) hx hb dX2_join_42 rfl ?_
  refine lv_iload_n hx hb dX2_join_44 rfl (lv_at hl 1 rfl) ?_
  refine n_imul hx hb dX2_join_45 ?_
  refine lv_bipush (v := nI 30) hx hb dX2_join_46 rfl ?_
  refine lv_iload_n hx hb dX2_join_48 rfl (lv_at hl 2 rfl) ?_
  refine n_imul hx hb dX2_join_49 ?_
  refine k0_i (rn_X2_56 (As := [.ref (ad 7), .int (nI (30 * i)), .int (nI (30 * j))]) (rest := []) C0 (m_X2_canJoin l D cA N ad (mw ad cA c (nI 0) n nw ah rw) 7 (30 * i) (30 * j) nw R Y Ro Yo (by omega) mw_at.2.1 (by omega) (by omega) r0 r1 t0 t1 (by omega) (by omega) (by omega) (by omega) _) hP hS rfl ⟨rfl, rfl⟩ ⟨by decide, by decide⟩ hl.1 rfl (Nat.le_of_ble_eq_true rfl) dX2_join_50 ⟨Nat.le_of_ble_eq_true rfl, Nat.le_of_ble_eq_true rfl⟩) C0 hP hS (fun v50 c50 H locs hp hP hS => ?_)
  obtain ⟨rfl, rfl⟩ := hp
  refine lv_if_ne (tgt := 62) hx hb dX2_join_53 (by decide) (fun h53 => ?_) (fun h53 => ?_)
  rotate_left
  · exact absurd (h53.symm.trans (if_pos hal)) (by decide)
  refine lv_aload_n hx hb dX2_join_62 rfl (lv_at hl 0 rfl) ?_
  refine lv_aload_n hx hb dX2_join_63 rfl (lv_at hl 0 rfl) ?_
  refine gf_X2_9 C0 hP (by omega) mw_at.1 rfl dX2_join_64 ?_
  refine lv_bipush (v := nI 30) hx hb dX2_join_67 rfl ?_
  refine lv_iload_n hx hb dX2_join_69 rfl (lv_at hl 1 rfl) ?_
  refine n_imul hx hb dX2_join_70 ?_
  refine lv_bipush (v := nI 30) hx hb dX2_join_71 rfl ?_
  refine lv_iload_n hx hb dX2_join_73 rfl (lv_at hl 2 rfl) ?_
  refine n_imul hx hb dX2_join_74 ?_
  refine k0_i (rn_X2_60 (As := [.ref (ad 7), .int (nI (30 * i)), .int (nI (30 * j))]) (rest := []) (r := 6) C0 (m_X2_joined l D cA N ad (mw ad cA c (nI 0) n nw ah rw) (nI 0) n nw ah rw 7 (30 * i) (30 * j) nw R Y L S D9 K Ro Yo Lo So Do Ko hN10 mw_at (by omega) mw_at.2.1 (by omega) (by omega) (by omega) hrow hok hrowo hoo hal.2.2 _) hP hS (by omega) mw_at.1 rfl ⟨rfl, rfl⟩ ⟨by decide, by decide⟩ hl.1 rfl (Nat.le_of_ble_eq_true rfl) dX2_join_75 ⟨Nat.le_of_ble_eq_true rfl, Nat.le_of_ble_eq_true rfl⟩) C0 hP hS (fun v75 c75 H locs hp hP hS => ?_)
  obtain ⟨nj75, rj75, hv75, rfl, hra75, hrb75, hs75, ho75⟩ := hp
  rw [w2_mw7] at hP
  exact e_i C0 hr hlk hP hS dX2_join_78 (by decide) (by decide) ⟨hv75, nj75, rj75, rfl, hra75, hrb75, hs75, ho75⟩
set_option maxHeartbeats 1000000 in
set_option maxRecDepth 10000 in
theorem m_X2_joinedAhead__s (l : Launch) (D : va_G) (cA : Nat → ClassId) (N : Nat) (ad : Nat → Nat) (c : Nat → va_E) (th : Int32) (n : Nat) (nw ah rw : Nat → Int32) (i R Y L S D9 K : Nat)  (hN10 : 10 ≤ N) (hM : MoAt ad cA c th n nw ah rw) (hn5 : n ≤ 5) (hi : i < n) (hrow : RowE nw (30 * i) R Y L S D9 K) (hok : Hok R Y L S D9 K) : Ci l yX2_joinedAhead wX2_joinedAhead { frames := 2, cells := 0, slots := 0, locals := 88 } [.ref (ad 6), .int (nI i), .int (nI i)] D cA N ad c 0 0 (fun v c' => v = -1 ∧ ∃ ah' rw', mw ad cA c th n nw ah' rw' = c') := by
  intro sz9
  refine bd_of (cc := cX2_joinedAhead) (maxL := 3) (ret := some Jvm.ClassFile.FieldType.int) (by decide) rfl (Nat.le_of_ble_eq_true rfl) ?_
  intro p e s m below meth c0 C0 hr hlk hnm hP hS hsz ls hl
  subst hsz
  have hx := C0.1
  have hb := C0.2.1
  have hl : lv_has ls 3 [(0, .ref (ad 6)), (1, .int (nI i)), (2, .int (nI i))] := hl
  obtain ⟨r0, r1, r2, r3, r4, r5⟩ := id hrow
  obtain ⟨q1, q2, q3, q4, q5, q6, q7, q8, q9⟩ := id hok
  rw [← mw_self hM] at hP
  refine lv_iload_n hx hb dX2_joinedAhead_0 rfl (lv_at hl 1 rfl) ?_
  refine lv_iload_n hx hb dX2_joinedAhead_1 rfl (lv_at hl 2 rfl) ?_
  refine n_icmp_eq (tgt := 23) hx hb (by omega) (by omega) dX2_joinedAhead_2 (by decide) (fun h2 => ?_) (fun h2 => ?_)
  rotate_left
  · exfalso; omega
  refine lv_iconst (v := (-1)) hx hb dX2_joinedAhead_23 rfl ?_
  exact e_i C0 hr hlk hP hS dX2_joinedAhead_24 (by decide) (by decide) ⟨rfl, _, _, rfl⟩
set_option maxHeartbeats 1000000 in
set_option maxRecDepth 10000 in
theorem m_X2_joinedAhead__n (l : Launch) (D : va_G) (cA : Nat → ClassId) (N : Nat) (ad : Nat → Nat) (c : Nat → va_E) (th : Int32) (n : Nat) (nw ah rw : Nat → Int32) (i R Y L S D9 K : Nat) (j Ro Yo Lo So Do Ko : Nat)  (hN10 : 10 ≤ N) (hM : MoAt ad cA c th n nw ah rw) (hn5 : n ≤ 5) (hi : i < n) (hrow : RowE nw (30 * i) R Y L S D9 K) (hok : Hok R Y L S D9 K) (hj : j < n) (hrowo : RowE nw (30 * j) Ro Yo Lo So Do Ko) (hoo : Hok Ro Yo Lo So Do Ko) (hij : i ≠ j) (hna : ¬ (Y = 0 ∧ Yo = 0 ∧ R = Ro)) : Ci l yX2_joinedAhead wX2_joinedAhead { frames := 2, cells := 0, slots := 0, locals := 88 } [.ref (ad 6), .int (nI i), .int (nI j)] D cA N ad c 0 0 (fun v c' => v = -1 ∧ ∃ ah' rw', mw ad cA c th n nw ah' rw' = c') := by
  intro sz9
  refine bd_of (cc := cX2_joinedAhead) (maxL := 3) (ret := some Jvm.ClassFile.FieldType.int) (by decide) rfl (Nat.le_of_ble_eq_true rfl) ?_
  intro p e s m below meth c0 C0 hr hlk hnm hP hS hsz ls hl
  subst hsz
  have hx := C0.1
  have hb := C0.2.1
  have hl : lv_has ls 3 [(0, .ref (ad 6)), (1, .int (nI i)), (2, .int (nI j))] := hl
  obtain ⟨r0, r1, r2, r3, r4, r5⟩ := id hrow
  obtain ⟨q1, q2, q3, q4, q5, q6, q7, q8, q9⟩ := id hok
  obtain ⟨t0, t1, t2, t3, t4, t5⟩ := id hrowo
  obtain ⟨o1, o2, o3, o4, o5, o6, o7, o8, o9⟩ := id hoo
  rw [← mw_self hM] at hP
  refine lv_iload_n hx hb dX2_joinedAhead_0 rfl (lv_at hl 1 rfl) ?_
  refine lv_iload_n hx hb dX2_joinedAhead_1 rfl (lv_at hl 2 rfl) ?_
  refine n_icmp_eq (tgt := 23) hx hb (by omega) (by omega) dX2_joinedAhead_2 (by decide) (fun h2 => ?_) (fun h2 => ?_)
  · exfalso; omega
  refine lv_aload_n hx hb dX2_joinedAhead_5 rfl (lv_at hl 0 rfl) ?_
  refine gf_X2_9 C0 hP (by omega) mw_at.1 rfl dX2_joinedAhead_6 ?_
  refine lv_bipush (v := nI 30) hx hb dX2_joinedAhead_9 rfl ?_
  refine lv_iload_n hx hb dX2_joinedAhead_11 rfl (lv_at hl 1 rfl) ?_
  refine n_imul hx hb dX2_joinedAhead_12 ?_
  refine lv_bipush (v := nI 30) hx hb dX2_joinedAhead_13 rfl ?_
  refine lv_iload_n hx hb dX2_joinedAhead_15 rfl (lv_at hl 2 rfl) ?_
  refine n_imul hx hb dX2_joinedAhead_16 ?_
  refine k0_i (rn_X2_56 (As := [.ref (ad 7), .int (nI (30 * i)), .int (nI (30 * j))]) (rest := []) C0 (m_X2_canJoin l D cA N ad (mw ad cA c th n nw ah rw) 7 (30 * i) (30 * j) nw R Y Ro Yo (by omega) mw_at.2.1 (by omega) (by omega) r0 r1 t0 t1 (by omega) (by omega) (by omega) (by omega) _) hP hS rfl ⟨rfl, rfl⟩ ⟨by decide, by decide⟩ hl.1 rfl (Nat.le_of_ble_eq_true rfl) dX2_joinedAhead_17 ⟨Nat.le_of_ble_eq_true rfl, Nat.le_of_ble_eq_true rfl⟩) C0 hP hS (fun v17 c17 H locs hp hP hS => ?_)
  obtain ⟨rfl, rfl⟩ := hp
  refine lv_if_ne (tgt := 25) hx hb dX2_joinedAhead_20 (by decide) (fun h20 => ?_) (fun h20 => ?_)
  · exact absurd (if_neg hna) h20
  refine lv_iconst (v := (-1)) hx hb dX2_joinedAhead_23 rfl ?_
  exact e_i C0 hr hlk hP hS dX2_joinedAhead_24 (by decide) (by decide) ⟨rfl, _, _, rfl⟩
set_option maxHeartbeats 1000000 in
set_option maxRecDepth 10000 in
theorem m_X2_joinedAhead__j (l : Launch) (D : va_G) (cA : Nat → ClassId) (N : Nat) (ad : Nat → Nat) (c : Nat → va_E) (th : Int32) (n : Nat) (nw ah rw : Nat → Int32) (i R Y L S D9 K : Nat) (j Ro Yo Lo So Do Ko : Nat)  (hN10 : 10 ≤ N) (hM : MoAt ad cA c th n nw ah rw) (hn5 : n ≤ 5) (hi : i < n) (hrow : RowE nw (30 * i) R Y L S D9 K) (hok : Hok R Y L S D9 K) (hj : j < n) (hrowo : RowE nw (30 * j) Ro Yo Lo So Do Ko) (hoo : Hok Ro Yo Lo So Do Ko) (hij : i ≠ j) (hal : Y = 0 ∧ Yo = 0 ∧ R = Ro) : Ci l yX2_joinedAhead wX2_joinedAhead { frames := 2, cells := 0, slots := 0, locals := 88 } [.ref (ad 6), .int (nI i), .int (nI j)] D cA N ad c 0 0 (fun v c' => (JoinP R L S So K Ko (sto nw (30 * i)) (sto nw (30 * j)) v) ∧ ∃ ah' rw', mw ad cA c th n nw ah' rw' = c') := by
  intro sz9
  refine bd_of (cc := cX2_joinedAhead) (maxL := 3) (ret := some Jvm.ClassFile.FieldType.int) (by decide) rfl (Nat.le_of_ble_eq_true rfl) ?_
  intro p e s m below meth c0 C0 hr hlk hnm hP hS hsz ls hl
  subst hsz
  have hx := C0.1
  have hb := C0.2.1
  have hl : lv_has ls 3 [(0, .ref (ad 6)), (1, .int (nI i)), (2, .int (nI j))] := hl
  obtain ⟨r0, r1, r2, r3, r4, r5⟩ := id hrow
  obtain ⟨q1, q2, q3, q4, q5, q6, q7, q8, q9⟩ := id hok
  obtain ⟨t0, t1, t2, t3, t4, t5⟩ := id hrowo
  obtain ⟨o1, o2, o3, o4, o5, o6, o7, o8, o9⟩ := id hoo
  rw [← mw_self hM] at hP
  refine lv_iload_n hx hb dX2_joinedAhead_0 rfl (lv_at hl 1 rfl) ?_
  refine lv_iload_n hx hb dX2_joinedAhead_1 rfl (lv_at hl 2 rfl) ?_
  refine n_icmp_eq (tgt := 23) hx hb (by omega) (by omega) dX2_joinedAhead_2 (by decide) (fun h2 => ?_) (fun h2 => ?_)
  · exfalso; omega
  refine lv_aload_n hx hb dX2_joinedAhead_5 rfl (lv_at hl 0 rfl) ?_
  refine gf_X2_9 C0 hP (by omega) mw_at.1 rfl dX2_joinedAhead_6 ?_
  refine lv_bipush (v := nI 30) hx hb dX2_joinedAhead_9 rfl ?_
  refine lv_iload_n hx hb dX2_joinedAhead_11 rfl (lv_at hl 1 rfl) ?_
  refine n_imul hx hb dX2_joinedAhead_12 ?_
  refine lv_bipush (v := nI 30) hx hb dX2_joinedAhead_13 rfl ?_
  refine lv_iload_n hx hb dX2_joinedAhead_15 rfl (lv_at hl 2 rfl) ?_
  refine n_imul hx hb dX2_joinedAhead_16 ?_
  refine k0_i (rn_X2_56 (As := [.ref (ad 7), .int (nI (30 * i)), .int (nI (30 * j))]) (rest := []) C0 (m_X2_canJoin l D cA N ad (mw ad cA c th n nw ah rw) 7 (30 * i) (30 * j) nw R Y Ro Yo (by omega) mw_at.2.1 (by omega) (by omega) r0 r1 t0 t1 (by omega) (by omega) (by omega) (by omega) _) hP hS rfl ⟨rfl, rfl⟩ ⟨by decide, by decide⟩ hl.1 rfl (Nat.le_of_ble_eq_true rfl) dX2_joinedAhead_17 ⟨Nat.le_of_ble_eq_true rfl, Nat.le_of_ble_eq_true rfl⟩) C0 hP hS (fun v17 c17 H locs hp hP hS => ?_)
  obtain ⟨rfl, rfl⟩ := hp
  refine lv_if_ne (tgt := 25) hx hb dX2_joinedAhead_20 (by decide) (fun h20 => ?_) (fun h20 => ?_)
  rotate_left
  · exact absurd (h20.symm.trans (if_pos hal)) (by decide)
  refine lv_aload_n hx hb dX2_joinedAhead_25 rfl (lv_at hl 0 rfl) ?_
  refine k0_v (rn_X2_99 (As := []) (rest := []) (r := 6) C0 (m_X2_lookAhead l D cA N ad (mw ad cA c th n nw ah rw) th n nw ah rw hN10 mw_at (by omega) _) hP hS (by omega) mw_at.1 rfl ⟨rfl, rfl⟩ ⟨by decide, by decide⟩ hl.1 rfl (Nat.le_of_ble_eq_true rfl) dX2_joinedAhead_26 ⟨Nat.le_of_ble_eq_true rfl, Nat.le_of_ble_eq_true rfl⟩) C0 hP hS (fun c26 H locs hp hP hS => ?_)
  obtain ⟨ah1, rfl, hah⟩ := hp
  rw [mw_mw] at hP
  refine lv_aload_n hx hb dX2_joinedAhead_29 rfl (lv_at hl 0 rfl) ?_
  refine lv_aload_n hx hb dX2_joinedAhead_30 rfl (lv_at hl 0 rfl) ?_
  refine gf_X2_13 C0 hP (by omega) mw_at.1 rfl dX2_joinedAhead_31 ?_
  refine lv_bipush (v := nI 30) hx hb dX2_joinedAhead_34 rfl ?_
  refine lv_iload_n hx hb dX2_joinedAhead_36 rfl (lv_at hl 1 rfl) ?_
  refine n_imul hx hb dX2_joinedAhead_37 ?_
  refine lv_bipush (v := nI 30) hx hb dX2_joinedAhead_38 rfl ?_
  refine lv_iload_n hx hb dX2_joinedAhead_40 rfl (lv_at hl 2 rfl) ?_
  refine n_imul hx hb dX2_joinedAhead_41 ?_
  refine k0_i (rn_X2_60 (As := [.ref (ad 8), .int (nI (30 * i)), .int (nI (30 * j))]) (rest := []) (r := 6) C0 (m_X2_joined l D cA N ad (mw ad cA c th n nw ah1 rw) th n nw ah1 rw 8 (30 * i) (30 * j) ah1 R Y L S D9 K Ro Yo Lo So Do Ko hN10 mw_at (by omega) mw_at.2.2.1 (by omega) (by omega) (by omega) (hrow.same (fun z h1 h2 => hah z (by omega))) hok (hrowo.same (fun z h1 h2 => hah z (by omega))) hoo hal.2.2 _) hP hS (by omega) mw_at.1 rfl ⟨rfl, rfl⟩ ⟨by decide, by decide⟩ hl.1 rfl (Nat.le_of_ble_eq_true rfl) dX2_joinedAhead_42 ⟨Nat.le_of_ble_eq_true rfl, Nat.le_of_ble_eq_true rfl⟩) C0 hP hS (fun v42 c42 H locs hp hP hS => ?_)
  obtain ⟨nj42, rj42, hv42, rfl, hra42, hrb42, hs42, ho42⟩ := hp
  rw [w2_mw8] at hP
  exact e_i C0 hr hlk hP hS dX2_joinedAhead_45 (by decide) (by decide) ⟨JoinP.ofm hv42, _, _, rfl⟩
set_option maxHeartbeats 1000000 in
set_option maxRecDepth 10000 in
theorem m_X2_wouldJoin__s (l : Launch) (D : va_G) (cA : Nat → ClassId) (N : Nat) (ad : Nat → Nat) (c : Nat → va_E) (th : Int32) (n : Nat) (nw ah rw : Nat → Int32) (i R Y L S D9 K : Nat)  (hN10 : 10 ≤ N) (hM : MoAt ad cA c th n nw ah rw) (hn5 : n ≤ 5) (hi : i < n) (hrow : RowE nw (30 * i) R Y L S D9 K) (hok : Hok R Y L S D9 K) : Ci l yX2_wouldJoin wX2_wouldJoin { frames := 3, cells := 0, slots := 0, locals := 110 } [.ref (ad 6), .int (nI i), .int (nI i)] D cA N ad c 0 0 (fun v c' => v = -1 ∧ ∃ ah' rw', mw ad cA c (nI 0) n nw ah' rw' = c') := by
  intro sz9
  refine bd_of (cc := cX2_wouldJoin) (maxL := 3) (ret := some Jvm.ClassFile.FieldType.int) (by decide) rfl (Nat.le_of_ble_eq_true rfl) ?_
  intro p e s m below meth c0 C0 hr hlk hnm hP hS hsz ls hl
  subst hsz
  have hx := C0.1
  have hb := C0.2.1
  have hl : lv_has ls 3 [(0, .ref (ad 6)), (1, .int (nI i)), (2, .int (nI i))] := hl
  obtain ⟨r0, r1, r2, r3, r4, r5⟩ := id hrow
  obtain ⟨q1, q2, q3, q4, q5, q6, q7, q8, q9⟩ := id hok
  rw [← mw_self hM] at hP
  refine lv_aload_n hx hb dX2_wouldJoin_0 rfl (lv_at hl 0 rfl) ?_
  refine lv_iconst (v := nI 0) hx hb dX2_wouldJoin_1 rfl ?_
  refine pm_th C0 hN10 hP hS dX2_wouldJoin_2 (fun H locs hP hS => ?_)
  refine lv_aload_n hx hb dX2_wouldJoin_5 rfl (lv_at hl 0 rfl) ?_
  refine lv_iload_n hx hb dX2_wouldJoin_6 rfl (lv_at hl 1 rfl) ?_
  refine k0_i (rn_X2_48 (As := [.int (nI i)]) (rest := []) (r := 6) C0 (m_X2_isHand__t l D cA N ad (mw ad cA c (nI 0) n nw ah rw) (nI 0) n nw ah rw i hN10 mw_at (by omega) hi _) hP hS (by omega) mw_at.1 rfl ⟨rfl, rfl⟩ ⟨by decide, by decide⟩ hl.1 rfl (Nat.le_of_ble_eq_true rfl) dX2_wouldJoin_7 ⟨Nat.le_of_ble_eq_true rfl, Nat.le_of_ble_eq_true rfl⟩) C0 hP hS (fun v7 c7 H locs hp hP hS => ?_)
  obtain ⟨rfl, rfl⟩ := hp
  refine n_if_eq (tgt := 30) hx hb (by omega) dX2_wouldJoin_10 (by decide) (fun h10 => ?_) (fun h10 => ?_)
  · exfalso; omega
  refine lv_aload_n hx hb dX2_wouldJoin_13 rfl (lv_at hl 0 rfl) ?_
  refine lv_iload_n hx hb dX2_wouldJoin_14 rfl (lv_at hl 2 rfl) ?_
  refine k0_i (rn_X2_48 (As := [.int (nI i)]) (rest := []) (r := 6) C0 (m_X2_isHand__t l D cA N ad (mw ad cA c (nI 0) n nw ah rw) (nI 0) n nw ah rw i hN10 mw_at (by omega) hi _) hP hS (by omega) mw_at.1 rfl ⟨rfl, rfl⟩ ⟨by decide, by decide⟩ hl.1 rfl (Nat.le_of_ble_eq_true rfl) dX2_wouldJoin_15 ⟨Nat.le_of_ble_eq_true rfl, Nat.le_of_ble_eq_true rfl⟩) C0 hP hS (fun v15 c15 H locs hp hP hS => ?_)
  obtain ⟨rfl, rfl⟩ := hp
  refine n_if_eq (tgt := 30) hx hb (by omega) dX2_wouldJoin_18 (by decide) (fun h18 => ?_) (fun h18 => ?_)
  · exfalso; omega
  refine lv_aload_n hx hb dX2_wouldJoin_21 rfl (lv_at hl 0 rfl) ?_
  refine lv_iload_n hx hb dX2_wouldJoin_22 rfl (lv_at hl 1 rfl) ?_
  refine lv_iload_n hx hb dX2_wouldJoin_23 rfl (lv_at hl 2 rfl) ?_
  refine k0_i (rn_X2_114 (As := [.int (nI i), .int (nI i)]) (rest := []) (r := 6) C0 (m_X2_joinedAhead__s l D cA N ad (mw ad cA c (nI 0) n nw ah rw) (nI 0) n nw ah rw i R Y L S D9 K hN10 mw_at hn5 hi hrow hok _) hP hS (by omega) mw_at.1 rfl ⟨rfl, rfl⟩ ⟨by decide, by decide⟩ hl.1 rfl (Nat.le_of_ble_eq_true rfl) dX2_wouldJoin_24 ⟨Nat.le_of_ble_eq_true rfl, Nat.le_of_ble_eq_true rfl⟩) C0 hP hS (fun v24 c24 H locs hp hP hS => ?_)
  obtain ⟨hjv, ah24, rw24, rfl⟩ := hp
  rw [mw_mw] at hP
  refine lv_goto (tgt := 35) hx hb dX2_wouldJoin_27 (by decide) ?_
  exact e_i C0 hr hlk hP hS dX2_wouldJoin_35 (by decide) (by decide) ⟨hjv, _, _, rfl⟩
set_option maxHeartbeats 1000000 in
set_option maxRecDepth 10000 in
theorem m_X2_wouldJoin__n (l : Launch) (D : va_G) (cA : Nat → ClassId) (N : Nat) (ad : Nat → Nat) (c : Nat → va_E) (th : Int32) (n : Nat) (nw ah rw : Nat → Int32) (i R Y L S D9 K : Nat) (j Ro Yo Lo So Do Ko : Nat)  (hN10 : 10 ≤ N) (hM : MoAt ad cA c th n nw ah rw) (hn5 : n ≤ 5) (hi : i < n) (hrow : RowE nw (30 * i) R Y L S D9 K) (hok : Hok R Y L S D9 K) (hj : j < n) (hrowo : RowE nw (30 * j) Ro Yo Lo So Do Ko) (hoo : Hok Ro Yo Lo So Do Ko) (hij : i ≠ j) (hna : ¬ (Y = 0 ∧ Yo = 0 ∧ R = Ro)) : Ci l yX2_wouldJoin wX2_wouldJoin { frames := 3, cells := 0, slots := 0, locals := 110 } [.ref (ad 6), .int (nI i), .int (nI j)] D cA N ad c 0 0 (fun v c' => v = -1 ∧ ∃ ah' rw', mw ad cA c (nI 0) n nw ah' rw' = c') := by
  intro sz9
  refine bd_of (cc := cX2_wouldJoin) (maxL := 3) (ret := some Jvm.ClassFile.FieldType.int) (by decide) rfl (Nat.le_of_ble_eq_true rfl) ?_
  intro p e s m below meth c0 C0 hr hlk hnm hP hS hsz ls hl
  subst hsz
  have hx := C0.1
  have hb := C0.2.1
  have hl : lv_has ls 3 [(0, .ref (ad 6)), (1, .int (nI i)), (2, .int (nI j))] := hl
  obtain ⟨r0, r1, r2, r3, r4, r5⟩ := id hrow
  obtain ⟨q1, q2, q3, q4, q5, q6, q7, q8, q9⟩ := id hok
  obtain ⟨t0, t1, t2, t3, t4, t5⟩ := id hrowo
  obtain ⟨o1, o2, o3, o4, o5, o6, o7, o8, o9⟩ := id hoo
  rw [← mw_self hM] at hP
  refine lv_aload_n hx hb dX2_wouldJoin_0 rfl (lv_at hl 0 rfl) ?_
  refine lv_iconst (v := nI 0) hx hb dX2_wouldJoin_1 rfl ?_
  refine pm_th C0 hN10 hP hS dX2_wouldJoin_2 (fun H locs hP hS => ?_)
  refine lv_aload_n hx hb dX2_wouldJoin_5 rfl (lv_at hl 0 rfl) ?_
  refine lv_iload_n hx hb dX2_wouldJoin_6 rfl (lv_at hl 1 rfl) ?_
  refine k0_i (rn_X2_48 (As := [.int (nI i)]) (rest := []) (r := 6) C0 (m_X2_isHand__t l D cA N ad (mw ad cA c (nI 0) n nw ah rw) (nI 0) n nw ah rw i hN10 mw_at (by omega) hi _) hP hS (by omega) mw_at.1 rfl ⟨rfl, rfl⟩ ⟨by decide, by decide⟩ hl.1 rfl (Nat.le_of_ble_eq_true rfl) dX2_wouldJoin_7 ⟨Nat.le_of_ble_eq_true rfl, Nat.le_of_ble_eq_true rfl⟩) C0 hP hS (fun v7 c7 H locs hp hP hS => ?_)
  obtain ⟨rfl, rfl⟩ := hp
  refine n_if_eq (tgt := 30) hx hb (by omega) dX2_wouldJoin_10 (by decide) (fun h10 => ?_) (fun h10 => ?_)
  · exfalso; omega
  refine lv_aload_n hx hb dX2_wouldJoin_13 rfl (lv_at hl 0 rfl) ?_
  refine lv_iload_n hx hb dX2_wouldJoin_14 rfl (lv_at hl 2 rfl) ?_
  refine k0_i (rn_X2_48 (As := [.int (nI j)]) (rest := []) (r := 6) C0 (m_X2_isHand__t l D cA N ad (mw ad cA c (nI 0) n nw ah rw) (nI 0) n nw ah rw j hN10 mw_at (by omega) hj _) hP hS (by omega) mw_at.1 rfl ⟨rfl, rfl⟩ ⟨by decide, by decide⟩ hl.1 rfl (Nat.le_of_ble_eq_true rfl) dX2_wouldJoin_15 ⟨Nat.le_of_ble_eq_true rfl, Nat.le_of_ble_eq_true rfl⟩) C0 hP hS (fun v15 c15 H locs hp hP hS => ?_)
  obtain ⟨rfl, rfl⟩ := hp
  refine n_if_eq (tgt := 30) hx hb (by omega) dX2_wouldJoin_18 (by decide) (fun h18 => ?_) (fun h18 => ?_)
  · exfalso; omega
  refine lv_aload_n hx hb dX2_wouldJoin_21 rfl (lv_at hl 0 rfl) ?_
  refine lv_iload_n hx hb dX2_wouldJoin_22 rfl (lv_at hl 1 rfl) ?_
  refine lv_iload_n hx hb dX2_wouldJoin_23 rfl (lv_at hl 2 rfl) ?_
  refine k0_i (rn_X2_114 (As := [.int (nI i), .int (nI j)]) (rest := []) (r := 6) C0 (m_X2_joinedAhead__n l D cA N ad (mw ad cA c (nI 0) n nw ah rw) (nI 0) n nw ah rw i R Y L S D9 K j Ro Yo Lo So Do Ko hN10 mw_at hn5 hi hrow hok hj hrowo hoo hij hna _) hP hS (by omega) mw_at.1 rfl ⟨rfl, rfl⟩ ⟨by decide, by decide⟩ hl.1 rfl (Nat.le_of_ble_eq_true rfl) dX2_wouldJoin_24 ⟨Nat.le_of_ble_eq_true rfl, Nat.le_of_ble_eq_true rfl⟩) C0 hP hS (fun v24 c24 H locs hp hP hS => ?_)
  obtain ⟨hjv, ah24, rw24, rfl⟩ := hp
  rw [mw_mw] at hP
  refine lv_goto (tgt := 35) hx hb dX2_wouldJoin_27 (by decide) ?_
  exact e_i C0 hr hlk hP hS dX2_wouldJoin_35 (by decide) (by decide) ⟨hjv, _, _, rfl⟩
set_option maxHeartbeats 1000000 in
set_option maxRecDepth 10000 in
theorem m_X2_wouldJoin__j (l : Launch) (D : va_G) (cA : Nat → ClassId) (N : Nat) (ad : Nat → Nat) (c : Nat → va_E) (th : Int32) (n : Nat) (nw ah rw : Nat → Int32) (i R Y L S D9 K : Nat) (j Ro Yo Lo So Do Ko : Nat)  (hN10 : 10 ≤ N) (hM : MoAt ad cA c th n nw ah rw) (hn5 : n ≤ 5) (hi : i < n) (hrow : RowE nw (30 * i) R Y L S D9 K) (hok : Hok R Y L S D9 K) (hj : j < n) (hrowo : RowE nw (30 * j) Ro Yo Lo So Do Ko) (hoo : Hok Ro Yo Lo So Do Ko) (hij : i ≠ j) (hal : Y = 0 ∧ Yo = 0 ∧ R = Ro) : Ci l yX2_wouldJoin wX2_wouldJoin { frames := 3, cells := 0, slots := 0, locals := 110 } [.ref (ad 6), .int (nI i), .int (nI j)] D cA N ad c 0 0 (fun v c' => (JoinP R L S So K Ko (sto nw (30 * i)) (sto nw (30 * j)) v) ∧ ∃ ah' rw', mw ad cA c (nI 0) n nw ah' rw' = c') := by
  intro sz9
  refine bd_of (cc := cX2_wouldJoin) (maxL := 3) (ret := some Jvm.ClassFile.FieldType.int) (by decide) rfl (Nat.le_of_ble_eq_true rfl) ?_
  intro p e s m below meth c0 C0 hr hlk hnm hP hS hsz ls hl
  subst hsz
  have hx := C0.1
  have hb := C0.2.1
  have hl : lv_has ls 3 [(0, .ref (ad 6)), (1, .int (nI i)), (2, .int (nI j))] := hl
  obtain ⟨r0, r1, r2, r3, r4, r5⟩ := id hrow
  obtain ⟨q1, q2, q3, q4, q5, q6, q7, q8, q9⟩ := id hok
  obtain ⟨t0, t1, t2, t3, t4, t5⟩ := id hrowo
  obtain ⟨o1, o2, o3, o4, o5, o6, o7, o8, o9⟩ := id hoo
  rw [← mw_self hM] at hP
  refine lv_aload_n hx hb dX2_wouldJoin_0 rfl (lv_at hl 0 rfl) ?_
  refine lv_iconst (v := nI 0) hx hb dX2_wouldJoin_1 rfl ?_
  refine pm_th C0 hN10 hP hS dX2_wouldJoin_2 (fun H locs hP hS => ?_)
  refine lv_aload_n hx hb dX2_wouldJoin_5 rfl (lv_at hl 0 rfl) ?_
  refine lv_iload_n hx hb dX2_wouldJoin_6 rfl (lv_at hl 1 rfl) ?_
  refine k0_i (rn_X2_48 (As := [.int (nI i)]) (rest := []) (r := 6) C0 (m_X2_isHand__t l D cA N ad (mw ad cA c (nI 0) n nw ah rw) (nI 0) n nw ah rw i hN10 mw_at (by omega) hi _) hP hS (by omega) mw_at.1 rfl ⟨rfl, rfl⟩ ⟨by decide, by decide⟩ hl.1 rfl (Nat.le_of_ble_eq_true rfl) dX2_wouldJoin_7 ⟨Nat.le_of_ble_eq_true rfl, Nat.le_of_ble_eq_true rfl⟩) C0 hP hS (fun v7 c7 H locs hp hP hS => ?_)
  obtain ⟨rfl, rfl⟩ := hp
  refine n_if_eq (tgt := 30) hx hb (by omega) dX2_wouldJoin_10 (by decide) (fun h10 => ?_) (fun h10 => ?_)
  · exfalso; omega
  refine lv_aload_n hx hb dX2_wouldJoin_13 rfl (lv_at hl 0 rfl) ?_
  refine lv_iload_n hx hb dX2_wouldJoin_14 rfl (lv_at hl 2 rfl) ?_
  refine k0_i (rn_X2_48 (As := [.int (nI j)]) (rest := []) (r := 6) C0 (m_X2_isHand__t l D cA N ad (mw ad cA c (nI 0) n nw ah rw) (nI 0) n nw ah rw j hN10 mw_at (by omega) hj _) hP hS (by omega) mw_at.1 rfl ⟨rfl, rfl⟩ ⟨by decide, by decide⟩ hl.1 rfl (Nat.le_of_ble_eq_true rfl) dX2_wouldJoin_15 ⟨Nat.le_of_ble_eq_true rfl, Nat.le_of_ble_eq_true rfl⟩) C0 hP hS (fun v15 c15 H locs hp hP hS => ?_)
  obtain ⟨rfl, rfl⟩ := hp
  refine n_if_eq (tgt := 30) hx hb (by omega) dX2_wouldJoin_18 (by decide) (fun h18 => ?_) (fun h18 => ?_)
  · exfalso; omega
  refine lv_aload_n hx hb dX2_wouldJoin_21 rfl (lv_at hl 0 rfl) ?_
  refine lv_iload_n hx hb dX2_wouldJoin_22 rfl (lv_at hl 1 rfl) ?_
  refine lv_iload_n hx hb dX2_wouldJoin_23 rfl (lv_at hl 2 rfl) ?_
  refine k0_i (rn_X2_114 (As := [.int (nI i), .int (nI j)]) (rest := []) (r := 6) C0 (m_X2_joinedAhead__j l D cA N ad (mw ad cA c (nI 0) n nw ah rw) (nI 0) n nw ah rw i R Y L S D9 K j Ro Yo Lo So Do Ko hN10 mw_at hn5 hi hrow hok hj hrowo hoo hij hal _) hP hS (by omega) mw_at.1 rfl ⟨rfl, rfl⟩ ⟨by decide, by decide⟩ hl.1 rfl (Nat.le_of_ble_eq_true rfl) dX2_wouldJoin_24 ⟨Nat.le_of_ble_eq_true rfl, Nat.le_of_ble_eq_true rfl⟩) C0 hP hS (fun v24 c24 H locs hp hP hS => ?_)
  obtain ⟨hjv, ah24, rw24, rfl⟩ := hp
  rw [mw_mw] at hP
  refine lv_goto (tgt := 35) hx hb dX2_wouldJoin_27 (by decide) ?_
  exact e_i C0 hr hlk hP hS dX2_wouldJoin_35 (by decide) (by decide) ⟨hjv, _, _, rfl⟩
