set_option maxHeartbeats 1000000 in
set_option maxRecDepth 10000 in
theorem m_X1_tryJoin (l : Launch) (D : va_G) (cA : Nat → ClassId) (N : Nat) (ad : Nat → Nat) (c : Nat → va_E) (n : Nat) (b R Y L S D9 K : Nat) (st : Nat → Nat → Int32) (o Ro Yo Lo So Do Ko : Nat) (sto : Nat → Nat → Int32)  (hN : 6 ≤ N) (hF : FH ad cA c n) (ht : TrAt ad cA c) (hb12 : 6 ≤ b) (hbN : b + 4 ≤ N) (hH : HandAt ad cA c b R Y L S D9 K st) (hok : Hok R Y L S D9 K) (ho12 : 6 ≤ o) (hoN : o + 4 ≤ N) (hO : HandAt ad cA c o Ro Yo Lo So Do Ko sto) (hoo : Hok Ro Yo Lo So Do Ko) (hbo : b + 4 ≤ o ∨ o + 4 ≤ b) (hRR : R = Ro) : Ci l yX1_tryJoin wX1_tryJoin { frames := 3, cells := 0, slots := 0, locals := 67 } [.ref (ad 0), .ref (ad b), .ref (ad o)] D cA N ad c 0 0 (fun v c' => ∃ stt, v = nI (jn S So K Ko st sto R (0, 0, L, stB stt st K)).2.1 ∧ hw ad cA c 2 R Y (jn S So K Ko st sto R (0, 0, L, stB stt st K)).2.2.1 (S + So) (D9 + Do) ((jn S So K Ko st sto R (0, 0, L, stB stt st K)).1 + (jn S So K Ko st sto R (0, 0, L, stB stt st K)).2.1) (jn S So K Ko st sto R (0, 0, L, stB stt st K)).2.2.2 = c') := by
  intro sz9
  refine bd_of (cc := cX1_tryJoin) (maxL := 9) (ret := some Jvm.ClassFile.FieldType.int) (by decide) rfl (Nat.le_of_ble_eq_true rfl) ?_
  intro p e s m below meth c0 C0 hr hlk hnm hP hS hsz ls hl
  subst hsz
  have hx := C0.1
  have hb := C0.2.1
  have hl : lv_has ls 9 [(0, .ref (ad 0)), (1, .ref (ad b)), (2, .ref (ad o))] := hl
  obtain ⟨q1, q2, q3, q4, q5, q6, q7, q8, q9⟩ := id hok
  obtain ⟨o1, o2, o3, o4, o5, o6, o7, o8, o9⟩ := id hoo
  obtain ⟨Rt, Yt, Lt, St, Dt, Kt, stt, ht⟩ := ht
  refine lv_aload_n hx hb dX1_tryJoin_0 rfl (lv_at hl 1 rfl) ?_
  refine gh_X1_87 C0 hP hH (by omega) dX1_tryJoin_1 ?_
  refine lv_aload_n hx hb dX1_tryJoin_4 rfl (lv_at hl 2 rfl) ?_
  refine gh_X1_87 C0 hP hO (by omega) dX1_tryJoin_5 ?_
  refine n_iadd hx hb dX1_tryJoin_8 ?_
  refine lv_istore_n (lv' := [(3, .int (nI (S + So))), (0, .ref (ad 0)), (1, .ref (ad b)), (2, .ref (ad o))]) hx hb dX1_tryJoin_9 rfl hl (by decide) rfl (fun ls hl => ?_)
  refine lv_aload_n hx hb dX1_tryJoin_10 rfl (lv_at hl 2 rfl) ?_
  refine gh_X1_90 C0 hP hH (by omega) dX1_tryJoin_11 ?_
  refine lv_aload_n hx hb dX1_tryJoin_14 rfl (lv_at hl 3 rfl) ?_
  refine gh_X1_90 C0 hP hO (by omega) dX1_tryJoin_15 ?_
  refine n_iadd hx hb dX1_tryJoin_18 ?_
  refine lv_istore (lv' := [(4, .int (nI (D9 + Do))), (3, .int (nI (S + So))), (0, .ref (ad 0)), (1, .ref (ad b)), (2, .ref (ad o))]) hx hb dX1_tryJoin_19 hl (by decide) rfl (fun ls hl => ?_)
  refine lv_iconst (v := nI 0) hx hb dX1_tryJoin_21 rfl ?_
  refine lv_istore (lv' := [(5, .int (nI 0)), (4, .int (nI (D9 + Do))), (3, .int (nI (S + So))), (0, .ref (ad 0)), (1, .ref (ad b)), (2, .ref (ad o))]) hx hb dX1_tryJoin_22 hl (by decide) rfl (fun ls hl => ?_)
  refine lv_iconst (v := nI 0) hx hb dX1_tryJoin_24 rfl ?_
  refine lv_istore (lv' := [(6, .int (nI 0)), (5, .int (nI 0)), (4, .int (nI (D9 + Do))), (3, .int (nI (S + So))), (0, .ref (ad 0)), (1, .ref (ad b)), (2, .ref (ad o))]) hx hb dX1_tryJoin_25 hl (by decide) rfl (fun ls hl => ?_)
  refine lv_aload_n hx hb dX1_tryJoin_27 rfl (lv_at hl 4 rfl) ?_
  refine gf_X1_18 C0 hP (by omega) hF.1 rfl dX1_tryJoin_28 ?_
  refine lv_aload_n hx hb dX1_tryJoin_31 rfl (lv_at hl 5 rfl) ?_
  refine k0_v (rn_X1_69 (As := [.ref (ad b)]) (rest := []) (r := 2) C0 (m_X0_become l D cA N ad (c) 2 Rt Yt Lt St Dt Kt stt b R Y L S D9 K st (by omega) ht (by omega) hH (by omega) (by omega) _) hP hS (by omega) ht.1 rfl ⟨rfl, rfl⟩ ⟨by decide, by decide⟩ hl.1 rfl (Nat.le_of_ble_eq_true rfl) dX1_tryJoin_32 ⟨Nat.le_of_ble_eq_true rfl, Nat.le_of_ble_eq_true rfl⟩) C0 hP hS (fun c32 H locs hp hP hS => ?_)
  obtain rfl := hp
  refine lv_iconst (v := nI 0) hx hb dX1_tryJoin_35 rfl ?_
  refine lv_istore (lv' := [(7, .int (nI 0)), (6, .int (nI 0)), (5, .int (nI 0)), (4, .int (nI (D9 + Do))), (3, .int (nI (S + So))), (0, .ref (ad 0)), (1, .ref (ad b)), (2, .ref (ad o))]) hx hb dX1_tryJoin_36 hl (by decide) rfl (fun ls hl => ?_)
  have loop38 : ∀ (n9 : Nat) (k : Nat) (pl : Nat) (x : Nat × Nat × Nat × (Nat → Nat → Int32)), (pl + k = R) → (x.1 + x.2.1 = pl) → (x.1 ≤ K) → (x.2.1 ≤ Ko) → (x.2.2.1 ≤ 9999) → (jn S So K Ko st sto k x = (jn S So K Ko st sto R (0, 0, L, stB stt st K))) → k < n9 → ∀ (H : Heap) (locs : List Loc) (ls : Array Slot), va_P D vwCl (wl N ad (hw ad cA c 2 R Y x.2.2.1 S D9 K x.2.2.2)) H → va_S (wA N ad s.heap.size) s.heap H locs → lv_has ls 9 [(0, .ref (ad 0)), (1, .ref (ad b)), (2, .ref (ad o)), (3, .int (nI (S + So))), (4, .int (nI (D9 + Do))), (5, .int (nI x.1)), (6, .int (nI x.2.1)), (7, .int (nI pl))] → W p l e { frames := 3, cells := 0, slots := 0, locals := 67 } s m [.ref (ad 0), .ref (ad b), .ref (ad o)].toArray below meth c0 H locs 0 0 (MQ below (va_Qi (fun v c' => ∃ stt, v = nI (jn S So K Ko st sto R (0, 0, L, stB stt st K)).2.1 ∧ hw ad cA c 2 R Y (jn S So K Ko st sto R (0, 0, L, stB stt st K)).2.2.1 (S + So) (D9 + Do) ((jn S So K Ko st sto R (0, 0, L, stB stt st K)).1 + (jn S So K Ko st sto R (0, 0, L, stB stt st K)).2.1) (jn S So K Ko st sto R (0, 0, L, stB stt st K)).2.2.2 = c') (fun c' t => va_P D vwCl (wl N ad c') t.heap) (wA N ad s.heap.size)) [.ref (ad 0), .ref (ad b), .ref (ad o)].toArray s 0 0 (wA N ad s.heap.size)) (F0 m 38 ls []) := by
    intro n9
    induction n9 with
    | zero => intro k pl x hk hpl hx1 hx2 hxL hj hlt9; exact absurd hlt9 (Nat.not_lt_zero _)
    | succ n9 ih38 =>
      intro k pl x hk hpl hx1 hx2 hxL hj hlt9 H locs ls hP hS hl
      have hnl := nl_lt x.2.2.1
      have hmd : nl x.2.2.1 % (S + So - pl) ≤ nl x.2.2.1 := Nat.mod_le _ _
      refine lv_iload hx hb dX1_tryJoin_38 (lv_at hl 7 rfl) ?_
      refine lv_aload_n hx hb dX1_tryJoin_40 rfl (lv_at hl 1 rfl) ?_
      refine gh_X1_84 C0 hP (hH.hwo (by omega)) (by omega) dX1_tryJoin_41 ?_
      refine n_icmp_ge (tgt := 158) hx hb (by omega) (by omega) dX1_tryJoin_44 (by decide) (fun h44 => ?_) (fun h44 => ?_)
      · have hjx : x = (jn S So K Ko st sto R (0, 0, L, stB stt st K)) := by rw [← hj, show k = 0 from by omega]; rfl
        refine lv_aload_n hx hb dX1_tryJoin_158 rfl (lv_at hl 0 rfl) ?_
        refine gf_X1_18 C0 hP (by omega) (hF.hwo (by omega)).1 rfl dX1_tryJoin_159 ?_
        refine lv_iload hx hb dX1_tryJoin_162 (lv_at hl 5 rfl) ?_
        refine lv_iload hx hb dX1_tryJoin_164 (lv_at hl 6 rfl) ?_
        refine n_iadd hx hb dX1_tryJoin_166 ?_
        refine ph_X1_81 C0 hP hS (by omega) dX1_tryJoin_167 (fun H locs hP hS => ?_)
        refine lv_aload_n hx hb dX1_tryJoin_170 rfl (lv_at hl 0 rfl) ?_
        refine gf_X1_18 C0 hP (by omega) (hF.hwo (by omega)).1 rfl dX1_tryJoin_171 ?_
        refine lv_iload_n hx hb dX1_tryJoin_174 rfl (lv_at hl 3 rfl) ?_
        refine ph_X1_87 C0 hP hS (by omega) dX1_tryJoin_175 (fun H locs hP hS => ?_)
        refine lv_aload_n hx hb dX1_tryJoin_178 rfl (lv_at hl 0 rfl) ?_
        refine gf_X1_18 C0 hP (by omega) (hF.hwo (by omega)).1 rfl dX1_tryJoin_179 ?_
        refine lv_iload hx hb dX1_tryJoin_182 (lv_at hl 4 rfl) ?_
        refine ph_X1_90 C0 hP hS (by omega) dX1_tryJoin_184 (fun H locs hP hS => ?_)
        refine lv_iload hx hb dX1_tryJoin_187 (lv_at hl 6 rfl) ?_
        exact e_i C0 hr hlk hP hS dX1_tryJoin_189 (by decide) (by decide) ⟨stt, by rw [← hjx], by rw [← hjx]⟩
      · refine lv_iload hx hb dX1_tryJoin_47 (lv_at hl 5 rfl) ?_
        refine lv_aload_n hx hb dX1_tryJoin_49 rfl (lv_at hl 1 rfl) ?_
        refine gh_X1_81 C0 hP (hH.hwo (by omega)) (by omega) dX1_tryJoin_50 ?_
        refine n_icmp_lt (tgt := 68) hx hb (by omega) (by omega) dX1_tryJoin_53 (by decide) (fun h53 => ?_) (fun h53 => ?_)
        · refine lv_aload_n hx hb dX1_tryJoin_68 rfl (lv_at hl 0 rfl) ?_
          refine gf_X1_18 C0 hP (by omega) (hF.hwo (by omega)).1 rfl dX1_tryJoin_69 ?_
          refine lv_iload_n hx hb dX1_tryJoin_72 rfl (lv_at hl 3 rfl) ?_
          refine lv_iload hx hb dX1_tryJoin_73 (lv_at hl 7 rfl) ?_
          refine n_isub hx hb (by omega) dX1_tryJoin_75 ?_
          refine k0_i (rn_X1_135 (As := [.int (nI ((S + So) - pl))]) (rest := []) (r := 2) C0 (m_X0_draw l D cA N ad (hw ad cA c 2 R Y x.2.2.1 S D9 K x.2.2.2) 2 R Y x.2.2.1 S D9 K x.2.2.2 ((S + So) - pl) (by omega) hw_at (by omega) (by omega) (by omega) _) hP hS (by omega) hw_at.1 rfl ⟨rfl, rfl⟩ ⟨by decide, by decide⟩ hl.1 rfl (Nat.le_of_ble_eq_true rfl) dX1_tryJoin_76 ⟨Nat.le_of_ble_eq_true rfl, Nat.le_of_ble_eq_true rfl⟩) C0 hP hS (fun v76 c76 H locs hp hP hS => ?_)
          obtain ⟨rfl, rfl⟩ := hp
          rw [hw_hw] at hP
          refine lv_aload_n hx hb dX1_tryJoin_79 rfl (lv_at hl 1 rfl) ?_
          refine gh_X1_87 C0 hP (hH.hwo (by omega)) (by omega) dX1_tryJoin_80 ?_
          refine lv_iload hx hb dX1_tryJoin_83 (lv_at hl 5 rfl) ?_
          refine n_isub hx hb (by omega) dX1_tryJoin_85 ?_
          refine n_icmp_ge (tgt := 93) hx hb (by omega) (by omega) dX1_tryJoin_86 (by decide) (fun h86 => ?_) (fun h86 => ?_)
          · refine lv_iconst (v := nI 0) hx hb dX1_tryJoin_93 rfl ?_
            refine lv_istore (lv' := [(8, .int (nI 0)), (0, .ref (ad 0)), (1, .ref (ad b)), (2, .ref (ad o)), (3, .int (nI (S + So))), (4, .int (nI (D9 + Do))), (5, .int (nI x.1)), (6, .int (nI x.2.1)), (7, .int (nI pl))]) hx hb dX1_tryJoin_94 hl (by decide) rfl (fun ls hl => ?_)
            refine lv_iload hx hb dX1_tryJoin_96 (lv_at hl 0 rfl) ?_
            refine n_if_eq (tgt := 110) hx hb (by omega) dX1_tryJoin_98 (by decide) (fun h98 => ?_) (fun h98 => ?_)
            rotate_left
            · exfalso; omega
            refine lv_iload hx hb dX1_tryJoin_110 (lv_at hl 7 rfl) ?_
            refine lv_aload_n hx hb dX1_tryJoin_112 rfl (lv_at hl 3 rfl) ?_
            refine gh_X1_81 C0 hP (hO.hwo (by omega)) (by omega) dX1_tryJoin_113 ?_
            refine n_icmp_lt (tgt := 137) hx hb (by omega) (by omega) dX1_tryJoin_116 (by decide) (fun h116 => ?_) (fun h116 => ?_)
            · have hcs : ¬ ((nl x.2.2.1 % (S + So - pl) < S - x.1 ∧ x.1 < K) ∨ Ko ≤ x.2.1) := by omega
              refine lv_aload_n hx hb dX1_tryJoin_137 rfl (lv_at hl 1 rfl) ?_
              refine gf_X1_18 C0 hP (by omega) (hF.hwo (by omega)).1 rfl dX1_tryJoin_138 ?_
              refine lv_iload hx hb dX1_tryJoin_141 (lv_at hl 8 rfl) ?_
              refine lv_aload_n hx hb dX1_tryJoin_143 rfl (lv_at hl 3 rfl) ?_
              refine lv_iload hx hb dX1_tryJoin_144 (lv_at hl 7 rfl) ?_
              refine k0_v (rn_X1_189 (As := [.int (nI pl), .ref (ad o), .int (nI x.2.1)]) (rest := []) (r := 2) C0 (m_X0_copyStone l D cA N ad (hw ad cA c 2 R Y (nl x.2.2.1) S D9 K x.2.2.2) 2 R Y (nl x.2.2.1) S D9 K x.2.2.2 o Ro Yo Lo So Do Ko sto pl x.2.1 (by omega) hw_at (by omega) (hO.hwo (by omega)) (by omega) (by omega) (by omega) _) hP hS (by omega) hw_at.1 rfl ⟨rfl, rfl⟩ ⟨by decide, by decide⟩ hl.1 rfl (Nat.le_of_ble_eq_true rfl) dX1_tryJoin_146 ⟨Nat.le_of_ble_eq_true rfl, Nat.le_of_ble_eq_true rfl⟩) C0 hP hS (fun c146 H locs hp hP hS => ?_)
              obtain rfl := hp
              rw [hw_hw] at hP
              refine lv_iinc (v := nI (x.2.1 + 1)) (lv' := [(6, .int (nI (x.2.1 + 1))), (8, .int (nI 0)), (0, .ref (ad 0)), (1, .ref (ad b)), (2, .ref (ad o)), (3, .int (nI (S + So))), (4, .int (nI (D9 + Do))), (5, .int (nI x.1)), (7, .int (nI pl))]) hx hb dX1_tryJoin_149 hl (k := 7) rfl (nI_add x.2.1 1) (by decide) rfl (fun ls hl => ?_)
              refine lv_iinc (v := nI (pl + 1)) (lv' := [(7, .int (nI (pl + 1))), (6, .int (nI (x.2.1 + 1))), (8, .int (nI 0)), (0, .ref (ad 0)), (1, .ref (ad b)), (2, .ref (ad o)), (3, .int (nI (S + So))), (4, .int (nI (D9 + Do))), (5, .int (nI x.1))]) hx hb dX1_tryJoin_152 hl (k := 8) rfl (nI_add pl 1) (by decide) rfl (fun ls hl => ?_)
              refine lv_goto (tgt := 38) hx hb dX1_tryJoin_155 (by decide) ?_
              exact ih38 (k - 1) (pl + 1) ((x.1, x.2.1 + 1, nl x.2.2.1, (cpS x.2.2.2 pl sto x.2.1))) (by omega) (by show x.1 + x.2.1 + 1 = pl + 1; omega) (by show x.1 ≤ K; omega) (by show x.2.1 + 1 ≤ Ko; omega) (by show nl x.2.2.1 ≤ 9999; omega) (by rw [← hj, show k = (k - 1) + 1 from by omega]; show jn S So K Ko st sto (k - 1) _ = if K ≤ x.1 ∧ Ko ≤ x.2.1 then x else jn S So K Ko st sto (k - 1) (jnS S So K Ko st sto x); rw [if_neg (by omega), show jnS S So K Ko st sto x = (x.1, x.2.1 + 1, nl x.2.2.1, (cpS x.2.2.2 pl sto x.2.1)) from by unfold jnS; rw [hpl, if_neg hcs]]) (by omega) _ _ _ hP hS (lv_sub hl [3, 4, 5, 6, 7, 8, 1, 0] rfl)
            · have hcs : (nl x.2.2.1 % (S + So - pl) < S - x.1 ∧ x.1 < K) ∨ Ko ≤ x.2.1 := by omega
              refine lv_aload_n hx hb dX1_tryJoin_119 rfl (lv_at hl 1 rfl) ?_
              refine gf_X1_18 C0 hP (by omega) (hF.hwo (by omega)).1 rfl dX1_tryJoin_120 ?_
              refine lv_iload hx hb dX1_tryJoin_123 (lv_at hl 8 rfl) ?_
              refine lv_aload_n hx hb dX1_tryJoin_125 rfl (lv_at hl 2 rfl) ?_
              refine lv_iload hx hb dX1_tryJoin_126 (lv_at hl 6 rfl) ?_
              refine k0_v (rn_X1_189 (As := [.int (nI pl), .ref (ad b), .int (nI x.1)]) (rest := []) (r := 2) C0 (m_X0_copyStone l D cA N ad (hw ad cA c 2 R Y (nl x.2.2.1) S D9 K x.2.2.2) 2 R Y (nl x.2.2.1) S D9 K x.2.2.2 b R Y L S D9 K st pl x.1 (by omega) hw_at (by omega) (hH.hwo (by omega)) (by omega) (by omega) (by omega) _) hP hS (by omega) hw_at.1 rfl ⟨rfl, rfl⟩ ⟨by decide, by decide⟩ hl.1 rfl (Nat.le_of_ble_eq_true rfl) dX1_tryJoin_128 ⟨Nat.le_of_ble_eq_true rfl, Nat.le_of_ble_eq_true rfl⟩) C0 hP hS (fun c128 H locs hp hP hS => ?_)
              obtain rfl := hp
              rw [hw_hw] at hP
              refine lv_iinc (v := nI (x.1 + 1)) (lv' := [(5, .int (nI (x.1 + 1))), (8, .int (nI 0)), (0, .ref (ad 0)), (1, .ref (ad b)), (2, .ref (ad o)), (3, .int (nI (S + So))), (4, .int (nI (D9 + Do))), (6, .int (nI x.2.1)), (7, .int (nI pl))]) hx hb dX1_tryJoin_131 hl (k := 6) rfl (nI_add x.1 1) (by decide) rfl (fun ls hl => ?_)
              refine lv_goto (tgt := 152) hx hb dX1_tryJoin_134 (by decide) ?_
              refine lv_iinc (v := nI (pl + 1)) (lv' := [(7, .int (nI (pl + 1))), (5, .int (nI (x.1 + 1))), (8, .int (nI 0)), (0, .ref (ad 0)), (1, .ref (ad b)), (2, .ref (ad o)), (3, .int (nI (S + So))), (4, .int (nI (D9 + Do))), (6, .int (nI x.2.1))]) hx hb dX1_tryJoin_152 hl (k := 8) rfl (nI_add pl 1) (by decide) rfl (fun ls hl => ?_)
              refine lv_goto (tgt := 38) hx hb dX1_tryJoin_155 (by decide) ?_
              exact ih38 (k - 1) (pl + 1) ((x.1 + 1, x.2.1, nl x.2.2.1, (cpS x.2.2.2 pl st x.1))) (by omega) (by show x.1 + 1 + x.2.1 = pl + 1; omega) (by show x.1 + 1 ≤ K; omega) (by show x.2.1 ≤ Ko; omega) (by show nl x.2.2.1 ≤ 9999; omega) (by rw [← hj, show k = (k - 1) + 1 from by omega]; show jn S So K Ko st sto (k - 1) _ = if K ≤ x.1 ∧ Ko ≤ x.2.1 then x else jn S So K Ko st sto (k - 1) (jnS S So K Ko st sto x); rw [if_neg (by omega), show jnS S So K Ko st sto x = (x.1 + 1, x.2.1, nl x.2.2.1, (cpS x.2.2.2 pl st x.1)) from by unfold jnS; rw [hpl, if_pos hcs]]) (by omega) _ _ _ hP hS (lv_sub hl [3, 4, 5, 6, 7, 1, 8, 0] rfl)
          · refine lv_iconst (v := nI 1) hx hb dX1_tryJoin_89 rfl ?_
            refine lv_goto (tgt := 94) hx hb dX1_tryJoin_90 (by decide) ?_
            refine lv_istore (lv' := [(8, .int (nI 1)), (0, .ref (ad 0)), (1, .ref (ad b)), (2, .ref (ad o)), (3, .int (nI (S + So))), (4, .int (nI (D9 + Do))), (5, .int (nI x.1)), (6, .int (nI x.2.1)), (7, .int (nI pl))]) hx hb dX1_tryJoin_94 hl (by decide) rfl (fun ls hl => ?_)
            refine lv_iload hx hb dX1_tryJoin_96 (lv_at hl 0 rfl) ?_
            refine n_if_eq (tgt := 110) hx hb (by omega) dX1_tryJoin_98 (by decide) (fun h98 => ?_) (fun h98 => ?_)
            · exfalso; omega
            refine lv_iload hx hb dX1_tryJoin_101 (lv_at hl 6 rfl) ?_
            refine lv_aload_n hx hb dX1_tryJoin_103 rfl (lv_at hl 2 rfl) ?_
            refine gh_X1_81 C0 hP (hH.hwo (by omega)) (by omega) dX1_tryJoin_104 ?_
            refine n_icmp_lt (tgt := 119) hx hb (by omega) (by omega) dX1_tryJoin_107 (by decide) (fun h107 => ?_) (fun h107 => ?_)
            · have hcs : (nl x.2.2.1 % (S + So - pl) < S - x.1 ∧ x.1 < K) ∨ Ko ≤ x.2.1 := by omega
              refine lv_aload_n hx hb dX1_tryJoin_119 rfl (lv_at hl 1 rfl) ?_
              refine gf_X1_18 C0 hP (by omega) (hF.hwo (by omega)).1 rfl dX1_tryJoin_120 ?_
              refine lv_iload hx hb dX1_tryJoin_123 (lv_at hl 8 rfl) ?_
              refine lv_aload_n hx hb dX1_tryJoin_125 rfl (lv_at hl 2 rfl) ?_
              refine lv_iload hx hb dX1_tryJoin_126 (lv_at hl 6 rfl) ?_
              refine k0_v (rn_X1_189 (As := [.int (nI pl), .ref (ad b), .int (nI x.1)]) (rest := []) (r := 2) C0 (m_X0_copyStone l D cA N ad (hw ad cA c 2 R Y (nl x.2.2.1) S D9 K x.2.2.2) 2 R Y (nl x.2.2.1) S D9 K x.2.2.2 b R Y L S D9 K st pl x.1 (by omega) hw_at (by omega) (hH.hwo (by omega)) (by omega) (by omega) (by omega) _) hP hS (by omega) hw_at.1 rfl ⟨rfl, rfl⟩ ⟨by decide, by decide⟩ hl.1 rfl (Nat.le_of_ble_eq_true rfl) dX1_tryJoin_128 ⟨Nat.le_of_ble_eq_true rfl, Nat.le_of_ble_eq_true rfl⟩) C0 hP hS (fun c128 H locs hp hP hS => ?_)
              obtain rfl := hp
              rw [hw_hw] at hP
              refine lv_iinc (v := nI (x.1 + 1)) (lv' := [(5, .int (nI (x.1 + 1))), (8, .int (nI 1)), (0, .ref (ad 0)), (1, .ref (ad b)), (2, .ref (ad o)), (3, .int (nI (S + So))), (4, .int (nI (D9 + Do))), (6, .int (nI x.2.1)), (7, .int (nI pl))]) hx hb dX1_tryJoin_131 hl (k := 6) rfl (nI_add x.1 1) (by decide) rfl (fun ls hl => ?_)
              refine lv_goto (tgt := 152) hx hb dX1_tryJoin_134 (by decide) ?_
              refine lv_iinc (v := nI (pl + 1)) (lv' := [(7, .int (nI (pl + 1))), (5, .int (nI (x.1 + 1))), (8, .int (nI 1)), (0, .ref (ad 0)), (1, .ref (ad b)), (2, .ref (ad o)), (3, .int (nI (S + So))), (4, .int (nI (D9 + Do))), (6, .int (nI x.2.1))]) hx hb dX1_tryJoin_152 hl (k := 8) rfl (nI_add pl 1) (by decide) rfl (fun ls hl => ?_)
              refine lv_goto (tgt := 38) hx hb dX1_tryJoin_155 (by decide) ?_
              exact ih38 (k - 1) (pl + 1) ((x.1 + 1, x.2.1, nl x.2.2.1, (cpS x.2.2.2 pl st x.1))) (by omega) (by show x.1 + 1 + x.2.1 = pl + 1; omega) (by show x.1 + 1 ≤ K; omega) (by show x.2.1 ≤ Ko; omega) (by show nl x.2.2.1 ≤ 9999; omega) (by rw [← hj, show k = (k - 1) + 1 from by omega]; show jn S So K Ko st sto (k - 1) _ = if K ≤ x.1 ∧ Ko ≤ x.2.1 then x else jn S So K Ko st sto (k - 1) (jnS S So K Ko st sto x); rw [if_neg (by omega), show jnS S So K Ko st sto x = (x.1 + 1, x.2.1, nl x.2.2.1, (cpS x.2.2.2 pl st x.1)) from by unfold jnS; rw [hpl, if_pos hcs]]) (by omega) _ _ _ hP hS (lv_sub hl [3, 4, 5, 6, 7, 1, 8, 0] rfl)
            · refine lv_iload hx hb dX1_tryJoin_110 (lv_at hl 7 rfl) ?_
              refine lv_aload_n hx hb dX1_tryJoin_112 rfl (lv_at hl 3 rfl) ?_
              refine gh_X1_81 C0 hP (hO.hwo (by omega)) (by omega) dX1_tryJoin_113 ?_
              refine n_icmp_lt (tgt := 137) hx hb (by omega) (by omega) dX1_tryJoin_116 (by decide) (fun h116 => ?_) (fun h116 => ?_)
              · have hcs : ¬ ((nl x.2.2.1 % (S + So - pl) < S - x.1 ∧ x.1 < K) ∨ Ko ≤ x.2.1) := by omega
                refine lv_aload_n hx hb dX1_tryJoin_137 rfl (lv_at hl 1 rfl) ?_
                refine gf_X1_18 C0 hP (by omega) (hF.hwo (by omega)).1 rfl dX1_tryJoin_138 ?_
                refine lv_iload hx hb dX1_tryJoin_141 (lv_at hl 8 rfl) ?_
                refine lv_aload_n hx hb dX1_tryJoin_143 rfl (lv_at hl 3 rfl) ?_
                refine lv_iload hx hb dX1_tryJoin_144 (lv_at hl 7 rfl) ?_
                refine k0_v (rn_X1_189 (As := [.int (nI pl), .ref (ad o), .int (nI x.2.1)]) (rest := []) (r := 2) C0 (m_X0_copyStone l D cA N ad (hw ad cA c 2 R Y (nl x.2.2.1) S D9 K x.2.2.2) 2 R Y (nl x.2.2.1) S D9 K x.2.2.2 o Ro Yo Lo So Do Ko sto pl x.2.1 (by omega) hw_at (by omega) (hO.hwo (by omega)) (by omega) (by omega) (by omega) _) hP hS (by omega) hw_at.1 rfl ⟨rfl, rfl⟩ ⟨by decide, by decide⟩ hl.1 rfl (Nat.le_of_ble_eq_true rfl) dX1_tryJoin_146 ⟨Nat.le_of_ble_eq_true rfl, Nat.le_of_ble_eq_true rfl⟩) C0 hP hS (fun c146 H locs hp hP hS => ?_)
                obtain rfl := hp
                rw [hw_hw] at hP
                refine lv_iinc (v := nI (x.2.1 + 1)) (lv' := [(6, .int (nI (x.2.1 + 1))), (8, .int (nI 1)), (0, .ref (ad 0)), (1, .ref (ad b)), (2, .ref (ad o)), (3, .int (nI (S + So))), (4, .int (nI (D9 + Do))), (5, .int (nI x.1)), (7, .int (nI pl))]) hx hb dX1_tryJoin_149 hl (k := 7) rfl (nI_add x.2.1 1) (by decide) rfl (fun ls hl => ?_)
                refine lv_iinc (v := nI (pl + 1)) (lv' := [(7, .int (nI (pl + 1))), (6, .int (nI (x.2.1 + 1))), (8, .int (nI 1)), (0, .ref (ad 0)), (1, .ref (ad b)), (2, .ref (ad o)), (3, .int (nI (S + So))), (4, .int (nI (D9 + Do))), (5, .int (nI x.1))]) hx hb dX1_tryJoin_152 hl (k := 8) rfl (nI_add pl 1) (by decide) rfl (fun ls hl => ?_)
                refine lv_goto (tgt := 38) hx hb dX1_tryJoin_155 (by decide) ?_
                exact ih38 (k - 1) (pl + 1) ((x.1, x.2.1 + 1, nl x.2.2.1, (cpS x.2.2.2 pl sto x.2.1))) (by omega) (by show x.1 + x.2.1 + 1 = pl + 1; omega) (by show x.1 ≤ K; omega) (by show x.2.1 + 1 ≤ Ko; omega) (by show nl x.2.2.1 ≤ 9999; omega) (by rw [← hj, show k = (k - 1) + 1 from by omega]; show jn S So K Ko st sto (k - 1) _ = if K ≤ x.1 ∧ Ko ≤ x.2.1 then x else jn S So K Ko st sto (k - 1) (jnS S So K Ko st sto x); rw [if_neg (by omega), show jnS S So K Ko st sto x = (x.1, x.2.1 + 1, nl x.2.2.1, (cpS x.2.2.2 pl sto x.2.1)) from by unfold jnS; rw [hpl, if_neg hcs]]) (by omega) _ _ _ hP hS (lv_sub hl [3, 4, 5, 6, 7, 8, 1, 0] rfl)
              · have hcs : (nl x.2.2.1 % (S + So - pl) < S - x.1 ∧ x.1 < K) ∨ Ko ≤ x.2.1 := by omega
                refine lv_aload_n hx hb dX1_tryJoin_119 rfl (lv_at hl 1 rfl) ?_
                refine gf_X1_18 C0 hP (by omega) (hF.hwo (by omega)).1 rfl dX1_tryJoin_120 ?_
                refine lv_iload hx hb dX1_tryJoin_123 (lv_at hl 8 rfl) ?_
                refine lv_aload_n hx hb dX1_tryJoin_125 rfl (lv_at hl 2 rfl) ?_
                refine lv_iload hx hb dX1_tryJoin_126 (lv_at hl 6 rfl) ?_
                refine k0_v (rn_X1_189 (As := [.int (nI pl), .ref (ad b), .int (nI x.1)]) (rest := []) (r := 2) C0 (m_X0_copyStone l D cA N ad (hw ad cA c 2 R Y (nl x.2.2.1) S D9 K x.2.2.2) 2 R Y (nl x.2.2.1) S D9 K x.2.2.2 b R Y L S D9 K st pl x.1 (by omega) hw_at (by omega) (hH.hwo (by omega)) (by omega) (by omega) (by omega) _) hP hS (by omega) hw_at.1 rfl ⟨rfl, rfl⟩ ⟨by decide, by decide⟩ hl.1 rfl (Nat.le_of_ble_eq_true rfl) dX1_tryJoin_128 ⟨Nat.le_of_ble_eq_true rfl, Nat.le_of_ble_eq_true rfl⟩) C0 hP hS (fun c128 H locs hp hP hS => ?_)
                obtain rfl := hp
                rw [hw_hw] at hP
                refine lv_iinc (v := nI (x.1 + 1)) (lv' := [(5, .int (nI (x.1 + 1))), (8, .int (nI 1)), (0, .ref (ad 0)), (1, .ref (ad b)), (2, .ref (ad o)), (3, .int (nI (S + So))), (4, .int (nI (D9 + Do))), (6, .int (nI x.2.1)), (7, .int (nI pl))]) hx hb dX1_tryJoin_131 hl (k := 6) rfl (nI_add x.1 1) (by decide) rfl (fun ls hl => ?_)
                refine lv_goto (tgt := 152) hx hb dX1_tryJoin_134 (by decide) ?_
                refine lv_iinc (v := nI (pl + 1)) (lv' := [(7, .int (nI (pl + 1))), (5, .int (nI (x.1 + 1))), (8, .int (nI 1)), (0, .ref (ad 0)), (1, .ref (ad b)), (2, .ref (ad o)), (3, .int (nI (S + So))), (4, .int (nI (D9 + Do))), (6, .int (nI x.2.1))]) hx hb dX1_tryJoin_152 hl (k := 8) rfl (nI_add pl 1) (by decide) rfl (fun ls hl => ?_)
                refine lv_goto (tgt := 38) hx hb dX1_tryJoin_155 (by decide) ?_
                exact ih38 (k - 1) (pl + 1) ((x.1 + 1, x.2.1, nl x.2.2.1, (cpS x.2.2.2 pl st x.1))) (by omega) (by show x.1 + 1 + x.2.1 = pl + 1; omega) (by show x.1 + 1 ≤ K; omega) (by show x.2.1 ≤ Ko; omega) (by show nl x.2.2.1 ≤ 9999; omega) (by rw [← hj, show k = (k - 1) + 1 from by omega]; show jn S So K Ko st sto (k - 1) _ = if K ≤ x.1 ∧ Ko ≤ x.2.1 then x else jn S So K Ko st sto (k - 1) (jnS S So K Ko st sto x); rw [if_neg (by omega), show jnS S So K Ko st sto x = (x.1 + 1, x.2.1, nl x.2.2.1, (cpS x.2.2.2 pl st x.1)) from by unfold jnS; rw [hpl, if_pos hcs]]) (by omega) _ _ _ hP hS (lv_sub hl [3, 4, 5, 6, 7, 1, 8, 0] rfl)
        · refine lv_iload hx hb dX1_tryJoin_56 (lv_at hl 6 rfl) ?_
          refine lv_aload_n hx hb dX1_tryJoin_58 rfl (lv_at hl 2 rfl) ?_
          refine gh_X1_81 C0 hP (hO.hwo (by omega)) (by omega) dX1_tryJoin_59 ?_
          refine n_icmp_lt (tgt := 68) hx hb (by omega) (by omega) dX1_tryJoin_62 (by decide) (fun h62 => ?_) (fun h62 => ?_)
          · refine lv_aload_n hx hb dX1_tryJoin_68 rfl (lv_at hl 0 rfl) ?_
            refine gf_X1_18 C0 hP (by omega) (hF.hwo (by omega)).1 rfl dX1_tryJoin_69 ?_
            refine lv_iload_n hx hb dX1_tryJoin_72 rfl (lv_at hl 3 rfl) ?_
            refine lv_iload hx hb dX1_tryJoin_73 (lv_at hl 7 rfl) ?_
            refine n_isub hx hb (by omega) dX1_tryJoin_75 ?_
            refine k0_i (rn_X1_135 (As := [.int (nI ((S + So) - pl))]) (rest := []) (r := 2) C0 (m_X0_draw l D cA N ad (hw ad cA c 2 R Y x.2.2.1 S D9 K x.2.2.2) 2 R Y x.2.2.1 S D9 K x.2.2.2 ((S + So) - pl) (by omega) hw_at (by omega) (by omega) (by omega) _) hP hS (by omega) hw_at.1 rfl ⟨rfl, rfl⟩ ⟨by decide, by decide⟩ hl.1 rfl (Nat.le_of_ble_eq_true rfl) dX1_tryJoin_76 ⟨Nat.le_of_ble_eq_true rfl, Nat.le_of_ble_eq_true rfl⟩) C0 hP hS (fun v76 c76 H locs hp hP hS => ?_)
            obtain ⟨rfl, rfl⟩ := hp
            rw [hw_hw] at hP
            refine lv_aload_n hx hb dX1_tryJoin_79 rfl (lv_at hl 1 rfl) ?_
            refine gh_X1_87 C0 hP (hH.hwo (by omega)) (by omega) dX1_tryJoin_80 ?_
            refine lv_iload hx hb dX1_tryJoin_83 (lv_at hl 5 rfl) ?_
            refine n_isub hx hb (by omega) dX1_tryJoin_85 ?_
            refine n_icmp_ge (tgt := 93) hx hb (by omega) (by omega) dX1_tryJoin_86 (by decide) (fun h86 => ?_) (fun h86 => ?_)
            · refine lv_iconst (v := nI 0) hx hb dX1_tryJoin_93 rfl ?_
              refine lv_istore (lv' := [(8, .int (nI 0)), (0, .ref (ad 0)), (1, .ref (ad b)), (2, .ref (ad o)), (3, .int (nI (S + So))), (4, .int (nI (D9 + Do))), (5, .int (nI x.1)), (6, .int (nI x.2.1)), (7, .int (nI pl))]) hx hb dX1_tryJoin_94 hl (by decide) rfl (fun ls hl => ?_)
              refine lv_iload hx hb dX1_tryJoin_96 (lv_at hl 0 rfl) ?_
              refine n_if_eq (tgt := 110) hx hb (by omega) dX1_tryJoin_98 (by decide) (fun h98 => ?_) (fun h98 => ?_)
              rotate_left
              · exfalso; omega
              refine lv_iload hx hb dX1_tryJoin_110 (lv_at hl 7 rfl) ?_
              refine lv_aload_n hx hb dX1_tryJoin_112 rfl (lv_at hl 3 rfl) ?_
              refine gh_X1_81 C0 hP (hO.hwo (by omega)) (by omega) dX1_tryJoin_113 ?_
              refine n_icmp_lt (tgt := 137) hx hb (by omega) (by omega) dX1_tryJoin_116 (by decide) (fun h116 => ?_) (fun h116 => ?_)
              · have hcs : ¬ ((nl x.2.2.1 % (S + So - pl) < S - x.1 ∧ x.1 < K) ∨ Ko ≤ x.2.1) := by omega
                refine lv_aload_n hx hb dX1_tryJoin_137 rfl (lv_at hl 1 rfl) ?_
                refine gf_X1_18 C0 hP (by omega) (hF.hwo (by omega)).1 rfl dX1_tryJoin_138 ?_
                refine lv_iload hx hb dX1_tryJoin_141 (lv_at hl 8 rfl) ?_
                refine lv_aload_n hx hb dX1_tryJoin_143 rfl (lv_at hl 3 rfl) ?_
                refine lv_iload hx hb dX1_tryJoin_144 (lv_at hl 7 rfl) ?_
                refine k0_v (rn_X1_189 (As := [.int (nI pl), .ref (ad o), .int (nI x.2.1)]) (rest := []) (r := 2) C0 (m_X0_copyStone l D cA N ad (hw ad cA c 2 R Y (nl x.2.2.1) S D9 K x.2.2.2) 2 R Y (nl x.2.2.1) S D9 K x.2.2.2 o Ro Yo Lo So Do Ko sto pl x.2.1 (by omega) hw_at (by omega) (hO.hwo (by omega)) (by omega) (by omega) (by omega) _) hP hS (by omega) hw_at.1 rfl ⟨rfl, rfl⟩ ⟨by decide, by decide⟩ hl.1 rfl (Nat.le_of_ble_eq_true rfl) dX1_tryJoin_146 ⟨Nat.le_of_ble_eq_true rfl, Nat.le_of_ble_eq_true rfl⟩) C0 hP hS (fun c146 H locs hp hP hS => ?_)
                obtain rfl := hp
                rw [hw_hw] at hP
                refine lv_iinc (v := nI (x.2.1 + 1)) (lv' := [(6, .int (nI (x.2.1 + 1))), (8, .int (nI 0)), (0, .ref (ad 0)), (1, .ref (ad b)), (2, .ref (ad o)), (3, .int (nI (S + So))), (4, .int (nI (D9 + Do))), (5, .int (nI x.1)), (7, .int (nI pl))]) hx hb dX1_tryJoin_149 hl (k := 7) rfl (nI_add x.2.1 1) (by decide) rfl (fun ls hl => ?_)
                refine lv_iinc (v := nI (pl + 1)) (lv' := [(7, .int (nI (pl + 1))), (6, .int (nI (x.2.1 + 1))), (8, .int (nI 0)), (0, .ref (ad 0)), (1, .ref (ad b)), (2, .ref (ad o)), (3, .int (nI (S + So))), (4, .int (nI (D9 + Do))), (5, .int (nI x.1))]) hx hb dX1_tryJoin_152 hl (k := 8) rfl (nI_add pl 1) (by decide) rfl (fun ls hl => ?_)
                refine lv_goto (tgt := 38) hx hb dX1_tryJoin_155 (by decide) ?_
                exact ih38 (k - 1) (pl + 1) ((x.1, x.2.1 + 1, nl x.2.2.1, (cpS x.2.2.2 pl sto x.2.1))) (by omega) (by show x.1 + x.2.1 + 1 = pl + 1; omega) (by show x.1 ≤ K; omega) (by show x.2.1 + 1 ≤ Ko; omega) (by show nl x.2.2.1 ≤ 9999; omega) (by rw [← hj, show k = (k - 1) + 1 from by omega]; show jn S So K Ko st sto (k - 1) _ = if K ≤ x.1 ∧ Ko ≤ x.2.1 then x else jn S So K Ko st sto (k - 1) (jnS S So K Ko st sto x); rw [if_neg (by omega), show jnS S So K Ko st sto x = (x.1, x.2.1 + 1, nl x.2.2.1, (cpS x.2.2.2 pl sto x.2.1)) from by unfold jnS; rw [hpl, if_neg hcs]]) (by omega) _ _ _ hP hS (lv_sub hl [3, 4, 5, 6, 7, 8, 1, 0] rfl)
              · have hcs : (nl x.2.2.1 % (S + So - pl) < S - x.1 ∧ x.1 < K) ∨ Ko ≤ x.2.1 := by omega
                refine lv_aload_n hx hb dX1_tryJoin_119 rfl (lv_at hl 1 rfl) ?_
                refine gf_X1_18 C0 hP (by omega) (hF.hwo (by omega)).1 rfl dX1_tryJoin_120 ?_
                refine lv_iload hx hb dX1_tryJoin_123 (lv_at hl 8 rfl) ?_
                refine lv_aload_n hx hb dX1_tryJoin_125 rfl (lv_at hl 2 rfl) ?_
                refine lv_iload hx hb dX1_tryJoin_126 (lv_at hl 6 rfl) ?_
                refine k0_v (rn_X1_189 (As := [.int (nI pl), .ref (ad b), .int (nI x.1)]) (rest := []) (r := 2) C0 (m_X0_copyStone l D cA N ad (hw ad cA c 2 R Y (nl x.2.2.1) S D9 K x.2.2.2) 2 R Y (nl x.2.2.1) S D9 K x.2.2.2 b R Y L S D9 K st pl x.1 (by omega) hw_at (by omega) (hH.hwo (by omega)) (by omega) (by omega) (by omega) _) hP hS (by omega) hw_at.1 rfl ⟨rfl, rfl⟩ ⟨by decide, by decide⟩ hl.1 rfl (Nat.le_of_ble_eq_true rfl) dX1_tryJoin_128 ⟨Nat.le_of_ble_eq_true rfl, Nat.le_of_ble_eq_true rfl⟩) C0 hP hS (fun c128 H locs hp hP hS => ?_)
                obtain rfl := hp
                rw [hw_hw] at hP
                refine lv_iinc (v := nI (x.1 + 1)) (lv' := [(5, .int (nI (x.1 + 1))), (8, .int (nI 0)), (0, .ref (ad 0)), (1, .ref (ad b)), (2, .ref (ad o)), (3, .int (nI (S + So))), (4, .int (nI (D9 + Do))), (6, .int (nI x.2.1)), (7, .int (nI pl))]) hx hb dX1_tryJoin_131 hl (k := 6) rfl (nI_add x.1 1) (by decide) rfl (fun ls hl => ?_)
                refine lv_goto (tgt := 152) hx hb dX1_tryJoin_134 (by decide) ?_
                refine lv_iinc (v := nI (pl + 1)) (lv' := [(7, .int (nI (pl + 1))), (5, .int (nI (x.1 + 1))), (8, .int (nI 0)), (0, .ref (ad 0)), (1, .ref (ad b)), (2, .ref (ad o)), (3, .int (nI (S + So))), (4, .int (nI (D9 + Do))), (6, .int (nI x.2.1))]) hx hb dX1_tryJoin_152 hl (k := 8) rfl (nI_add pl 1) (by decide) rfl (fun ls hl => ?_)
                refine lv_goto (tgt := 38) hx hb dX1_tryJoin_155 (by decide) ?_
                exact ih38 (k - 1) (pl + 1) ((x.1 + 1, x.2.1, nl x.2.2.1, (cpS x.2.2.2 pl st x.1))) (by omega) (by show x.1 + 1 + x.2.1 = pl + 1; omega) (by show x.1 + 1 ≤ K; omega) (by show x.2.1 ≤ Ko; omega) (by show nl x.2.2.1 ≤ 9999; omega) (by rw [← hj, show k = (k - 1) + 1 from by omega]; show jn S So K Ko st sto (k - 1) _ = if K ≤ x.1 ∧ Ko ≤ x.2.1 then x else jn S So K Ko st sto (k - 1) (jnS S So K Ko st sto x); rw [if_neg (by omega), show jnS S So K Ko st sto x = (x.1 + 1, x.2.1, nl x.2.2.1, (cpS x.2.2.2 pl st x.1)) from by unfold jnS; rw [hpl, if_pos hcs]]) (by omega) _ _ _ hP hS (lv_sub hl [3, 4, 5, 6, 7, 1, 8, 0] rfl)
            · refine lv_iconst (v := nI 1) hx hb dX1_tryJoin_89 rfl ?_
              refine lv_goto (tgt := 94) hx hb dX1_tryJoin_90 (by decide) ?_
              refine lv_istore (lv' := [(8, .int (nI 1)), (0, .ref (ad 0)), (1, .ref (ad b)), (2, .ref (ad o)), (3, .int (nI (S + So))), (4, .int (nI (D9 + Do))), (5, .int (nI x.1)), (6, .int (nI x.2.1)), (7, .int (nI pl))]) hx hb dX1_tryJoin_94 hl (by decide) rfl (fun ls hl => ?_)
              refine lv_iload hx hb dX1_tryJoin_96 (lv_at hl 0 rfl) ?_
              refine n_if_eq (tgt := 110) hx hb (by omega) dX1_tryJoin_98 (by decide) (fun h98 => ?_) (fun h98 => ?_)
              · exfalso; omega
              refine lv_iload hx hb dX1_tryJoin_101 (lv_at hl 6 rfl) ?_
              refine lv_aload_n hx hb dX1_tryJoin_103 rfl (lv_at hl 2 rfl) ?_
              refine gh_X1_81 C0 hP (hH.hwo (by omega)) (by omega) dX1_tryJoin_104 ?_
              refine n_icmp_lt (tgt := 119) hx hb (by omega) (by omega) dX1_tryJoin_107 (by decide) (fun h107 => ?_) (fun h107 => ?_)
              · have hcs : (nl x.2.2.1 % (S + So - pl) < S - x.1 ∧ x.1 < K) ∨ Ko ≤ x.2.1 := by omega
                refine lv_aload_n hx hb dX1_tryJoin_119 rfl (lv_at hl 1 rfl) ?_
                refine gf_X1_18 C0 hP (by omega) (hF.hwo (by omega)).1 rfl dX1_tryJoin_120 ?_
                refine lv_iload hx hb dX1_tryJoin_123 (lv_at hl 8 rfl) ?_
                refine lv_aload_n hx hb dX1_tryJoin_125 rfl (lv_at hl 2 rfl) ?_
                refine lv_iload hx hb dX1_tryJoin_126 (lv_at hl 6 rfl) ?_
                refine k0_v (rn_X1_189 (As := [.int (nI pl), .ref (ad b), .int (nI x.1)]) (rest := []) (r := 2) C0 (m_X0_copyStone l D cA N ad (hw ad cA c 2 R Y (nl x.2.2.1) S D9 K x.2.2.2) 2 R Y (nl x.2.2.1) S D9 K x.2.2.2 b R Y L S D9 K st pl x.1 (by omega) hw_at (by omega) (hH.hwo (by omega)) (by omega) (by omega) (by omega) _) hP hS (by omega) hw_at.1 rfl ⟨rfl, rfl⟩ ⟨by decide, by decide⟩ hl.1 rfl (Nat.le_of_ble_eq_true rfl) dX1_tryJoin_128 ⟨Nat.le_of_ble_eq_true rfl, Nat.le_of_ble_eq_true rfl⟩) C0 hP hS (fun c128 H locs hp hP hS => ?_)
                obtain rfl := hp
                rw [hw_hw] at hP
                refine lv_iinc (v := nI (x.1 + 1)) (lv' := [(5, .int (nI (x.1 + 1))), (8, .int (nI 1)), (0, .ref (ad 0)), (1, .ref (ad b)), (2, .ref (ad o)), (3, .int (nI (S + So))), (4, .int (nI (D9 + Do))), (6, .int (nI x.2.1)), (7, .int (nI pl))]) hx hb dX1_tryJoin_131 hl (k := 6) rfl (nI_add x.1 1) (by decide) rfl (fun ls hl => ?_)
                refine lv_goto (tgt := 152) hx hb dX1_tryJoin_134 (by decide) ?_
                refine lv_iinc (v := nI (pl + 1)) (lv' := [(7, .int (nI (pl + 1))), (5, .int (nI (x.1 + 1))), (8, .int (nI 1)), (0, .ref (ad 0)), (1, .ref (ad b)), (2, .ref (ad o)), (3, .int (nI (S + So))), (4, .int (nI (D9 + Do))), (6, .int (nI x.2.1))]) hx hb dX1_tryJoin_152 hl (k := 8) rfl (nI_add pl 1) (by decide) rfl (fun ls hl => ?_)
                refine lv_goto (tgt := 38) hx hb dX1_tryJoin_155 (by decide) ?_
                exact ih38 (k - 1) (pl + 1) ((x.1 + 1, x.2.1, nl x.2.2.1, (cpS x.2.2.2 pl st x.1))) (by omega) (by show x.1 + 1 + x.2.1 = pl + 1; omega) (by show x.1 + 1 ≤ K; omega) (by show x.2.1 ≤ Ko; omega) (by show nl x.2.2.1 ≤ 9999; omega) (by rw [← hj, show k = (k - 1) + 1 from by omega]; show jn S So K Ko st sto (k - 1) _ = if K ≤ x.1 ∧ Ko ≤ x.2.1 then x else jn S So K Ko st sto (k - 1) (jnS S So K Ko st sto x); rw [if_neg (by omega), show jnS S So K Ko st sto x = (x.1 + 1, x.2.1, nl x.2.2.1, (cpS x.2.2.2 pl st x.1)) from by unfold jnS; rw [hpl, if_pos hcs]]) (by omega) _ _ _ hP hS (lv_sub hl [3, 4, 5, 6, 7, 1, 8, 0] rfl)
              · refine lv_iload hx hb dX1_tryJoin_110 (lv_at hl 7 rfl) ?_
                refine lv_aload_n hx hb dX1_tryJoin_112 rfl (lv_at hl 3 rfl) ?_
                refine gh_X1_81 C0 hP (hO.hwo (by omega)) (by omega) dX1_tryJoin_113 ?_
                refine n_icmp_lt (tgt := 137) hx hb (by omega) (by omega) dX1_tryJoin_116 (by decide) (fun h116 => ?_) (fun h116 => ?_)
                · have hcs : ¬ ((nl x.2.2.1 % (S + So - pl) < S - x.1 ∧ x.1 < K) ∨ Ko ≤ x.2.1) := by omega
                  refine lv_aload_n hx hb dX1_tryJoin_137 rfl (lv_at hl 1 rfl) ?_
                  refine gf_X1_18 C0 hP (by omega) (hF.hwo (by omega)).1 rfl dX1_tryJoin_138 ?_
                  refine lv_iload hx hb dX1_tryJoin_141 (lv_at hl 8 rfl) ?_
                  refine lv_aload_n hx hb dX1_tryJoin_143 rfl (lv_at hl 3 rfl) ?_
                  refine lv_iload hx hb dX1_tryJoin_144 (lv_at hl 7 rfl) ?_
                  refine k0_v (rn_X1_189 (As := [.int (nI pl), .ref (ad o), .int (nI x.2.1)]) (rest := []) (r := 2) C0 (m_X0_copyStone l D cA N ad (hw ad cA c 2 R Y (nl x.2.2.1) S D9 K x.2.2.2) 2 R Y (nl x.2.2.1) S D9 K x.2.2.2 o Ro Yo Lo So Do Ko sto pl x.2.1 (by omega) hw_at (by omega) (hO.hwo (by omega)) (by omega) (by omega) (by omega) _) hP hS (by omega) hw_at.1 rfl ⟨rfl, rfl⟩ ⟨by decide, by decide⟩ hl.1 rfl (Nat.le_of_ble_eq_true rfl) dX1_tryJoin_146 ⟨Nat.le_of_ble_eq_true rfl, Nat.le_of_ble_eq_true rfl⟩) C0 hP hS (fun c146 H locs hp hP hS => ?_)
                  obtain rfl := hp
                  rw [hw_hw] at hP
                  refine lv_iinc (v := nI (x.2.1 + 1)) (lv' := [(6, .int (nI (x.2.1 + 1))), (8, .int (nI 1)), (0, .ref (ad 0)), (1, .ref (ad b)), (2, .ref (ad o)), (3, .int (nI (S + So))), (4, .int (nI (D9 + Do))), (5, .int (nI x.1)), (7, .int (nI pl))]) hx hb dX1_tryJoin_149 hl (k := 7) rfl (nI_add x.2.1 1) (by decide) rfl (fun ls hl => ?_)
                  refine lv_iinc (v := nI (pl + 1)) (lv' := [(7, .int (nI (pl + 1))), (6, .int (nI (x.2.1 + 1))), (8, .int (nI 1)), (0, .ref (ad 0)), (1, .ref (ad b)), (2, .ref (ad o)), (3, .int (nI (S + So))), (4, .int (nI (D9 + Do))), (5, .int (nI x.1))]) hx hb dX1_tryJoin_152 hl (k := 8) rfl (nI_add pl 1) (by decide) rfl (fun ls hl => ?_)
                  refine lv_goto (tgt := 38) hx hb dX1_tryJoin_155 (by decide) ?_
                  exact ih38 (k - 1) (pl + 1) ((x.1, x.2.1 + 1, nl x.2.2.1, (cpS x.2.2.2 pl sto x.2.1))) (by omega) (by show x.1 + x.2.1 + 1 = pl + 1; omega) (by show x.1 ≤ K; omega) (by show x.2.1 + 1 ≤ Ko; omega) (by show nl x.2.2.1 ≤ 9999; omega) (by rw [← hj, show k = (k - 1) + 1 from by omega]; show jn S So K Ko st sto (k - 1) _ = if K ≤ x.1 ∧ Ko ≤ x.2.1 then x else jn S So K Ko st sto (k - 1) (jnS S So K Ko st sto x); rw [if_neg (by omega), show jnS S So K Ko st sto x = (x.1, x.2.1 + 1, nl x.2.2.1, (cpS x.2.2.2 pl sto x.2.1)) from by unfold jnS; rw [hpl, if_neg hcs]]) (by omega) _ _ _ hP hS (lv_sub hl [3, 4, 5, 6, 7, 8, 1, 0] rfl)
                · have hcs : (nl x.2.2.1 % (S + So - pl) < S - x.1 ∧ x.1 < K) ∨ Ko ≤ x.2.1 := by omega
                  refine lv_aload_n hx hb dX1_tryJoin_119 rfl (lv_at hl 1 rfl) ?_
                  refine gf_X1_18 C0 hP (by omega) (hF.hwo (by omega)).1 rfl dX1_tryJoin_120 ?_
                  refine lv_iload hx hb dX1_tryJoin_123 (lv_at hl 8 rfl) ?_
                  refine lv_aload_n hx hb dX1_tryJoin_125 rfl (lv_at hl 2 rfl) ?_
                  refine lv_iload hx hb dX1_tryJoin_126 (lv_at hl 6 rfl) ?_
                  refine k0_v (rn_X1_189 (As := [.int (nI pl), .ref (ad b), .int (nI x.1)]) (rest := []) (r := 2) C0 (m_X0_copyStone l D cA N ad (hw ad cA c 2 R Y (nl x.2.2.1) S D9 K x.2.2.2) 2 R Y (nl x.2.2.1) S D9 K x.2.2.2 b R Y L S D9 K st pl x.1 (by omega) hw_at (by omega) (hH.hwo (by omega)) (by omega) (by omega) (by omega) _) hP hS (by omega) hw_at.1 rfl ⟨rfl, rfl⟩ ⟨by decide, by decide⟩ hl.1 rfl (Nat.le_of_ble_eq_true rfl) dX1_tryJoin_128 ⟨Nat.le_of_ble_eq_true rfl, Nat.le_of_ble_eq_true rfl⟩) C0 hP hS (fun c128 H locs hp hP hS => ?_)
                  obtain rfl := hp
                  rw [hw_hw] at hP
                  refine lv_iinc (v := nI (x.1 + 1)) (lv' := [(5, .int (nI (x.1 + 1))), (8, .int (nI 1)), (0, .ref (ad 0)), (1, .ref (ad b)), (2, .ref (ad o)), (3, .int (nI (S + So))), (4, .int (nI (D9 + Do))), (6, .int (nI x.2.1)), (7, .int (nI pl))]) hx hb dX1_tryJoin_131 hl (k := 6) rfl (nI_add x.1 1) (by decide) rfl (fun ls hl => ?_)
                  refine lv_goto (tgt := 152) hx hb dX1_tryJoin_134 (by decide) ?_
                  refine lv_iinc (v := nI (pl + 1)) (lv' := [(7, .int (nI (pl + 1))), (5, .int (nI (x.1 + 1))), (8, .int (nI 1)), (0, .ref (ad 0)), (1, .ref (ad b)), (2, .ref (ad o)), (3, .int (nI (S + So))), (4, .int (nI (D9 + Do))), (6, .int (nI x.2.1))]) hx hb dX1_tryJoin_152 hl (k := 8) rfl (nI_add pl 1) (by decide) rfl (fun ls hl => ?_)
                  refine lv_goto (tgt := 38) hx hb dX1_tryJoin_155 (by decide) ?_
                  exact ih38 (k - 1) (pl + 1) ((x.1 + 1, x.2.1, nl x.2.2.1, (cpS x.2.2.2 pl st x.1))) (by omega) (by show x.1 + 1 + x.2.1 = pl + 1; omega) (by show x.1 + 1 ≤ K; omega) (by show x.2.1 ≤ Ko; omega) (by show nl x.2.2.1 ≤ 9999; omega) (by rw [← hj, show k = (k - 1) + 1 from by omega]; show jn S So K Ko st sto (k - 1) _ = if K ≤ x.1 ∧ Ko ≤ x.2.1 then x else jn S So K Ko st sto (k - 1) (jnS S So K Ko st sto x); rw [if_neg (by omega), show jnS S So K Ko st sto x = (x.1 + 1, x.2.1, nl x.2.2.1, (cpS x.2.2.2 pl st x.1)) from by unfold jnS; rw [hpl, if_pos hcs]]) (by omega) _ _ _ hP hS (lv_sub hl [3, 4, 5, 6, 7, 1, 8, 0] rfl)
          · have hjx : x = (jn S So K Ko st sto R (0, 0, L, stB stt st K)) := by rw [← hj, show k = (k - 1) + 1 from by omega]; show x = if K ≤ x.1 ∧ Ko ≤ x.2.1 then x else _; rw [if_pos (by omega)]
            refine lv_goto (tgt := 158) hx hb dX1_tryJoin_65 (by decide) ?_
            refine lv_aload_n hx hb dX1_tryJoin_158 rfl (lv_at hl 0 rfl) ?_
            refine gf_X1_18 C0 hP (by omega) (hF.hwo (by omega)).1 rfl dX1_tryJoin_159 ?_
            refine lv_iload hx hb dX1_tryJoin_162 (lv_at hl 5 rfl) ?_
            refine lv_iload hx hb dX1_tryJoin_164 (lv_at hl 6 rfl) ?_
            refine n_iadd hx hb dX1_tryJoin_166 ?_
            refine ph_X1_81 C0 hP hS (by omega) dX1_tryJoin_167 (fun H locs hP hS => ?_)
            refine lv_aload_n hx hb dX1_tryJoin_170 rfl (lv_at hl 0 rfl) ?_
            refine gf_X1_18 C0 hP (by omega) (hF.hwo (by omega)).1 rfl dX1_tryJoin_171 ?_
            refine lv_iload_n hx hb dX1_tryJoin_174 rfl (lv_at hl 3 rfl) ?_
            refine ph_X1_87 C0 hP hS (by omega) dX1_tryJoin_175 (fun H locs hP hS => ?_)
            refine lv_aload_n hx hb dX1_tryJoin_178 rfl (lv_at hl 0 rfl) ?_
            refine gf_X1_18 C0 hP (by omega) (hF.hwo (by omega)).1 rfl dX1_tryJoin_179 ?_
            refine lv_iload hx hb dX1_tryJoin_182 (lv_at hl 4 rfl) ?_
            refine ph_X1_90 C0 hP hS (by omega) dX1_tryJoin_184 (fun H locs hP hS => ?_)
            refine lv_iload hx hb dX1_tryJoin_187 (lv_at hl 6 rfl) ?_
            exact e_i C0 hr hlk hP hS dX1_tryJoin_189 (by decide) (by decide) ⟨stt, by rw [← hjx], by rw [← hjx]⟩
  exact loop38 (_ + 1) R 0 ((0, 0, L, stB stt st K)) (by omega) (rfl) (by show 0 ≤ K; omega) (by show 0 ≤ Ko; omega) (by show L ≤ 9999; omega) (rfl) (Nat.lt_succ_self _) _ _ _ hP hS (lv_sub hl [5, 6, 7, 4, 3, 2, 1, 0] rfl)
set_option maxHeartbeats 1000000 in
set_option maxRecDepth 10000 in
theorem m_X1_takenIfJoined__s (l : Launch) (D : va_G) (cA : Nat → ClassId) (N : Nat) (ad : Nat → Nat) (c : Nat → va_E) (n : Nat) (b R Y L S D9 K : Nat) (st : Nat → Nat → Int32)  (hN : 6 ≤ N) (hF : FH ad cA c n) (ht : TrAt ad cA c) (hb12 : 6 ≤ b) (hbN : b + 4 ≤ N) (hH : HandAt ad cA c b R Y L S D9 K st) (hok : Hok R Y L S D9 K) : Ci l yX1_takenIfJoined wX1_takenIfJoined { frames := 4, cells := 0, slots := 0, locals := 95 } [.ref (ad 0), .ref (ad b), .ref (ad b)] D cA N ad c 0 0 (fun v c' => v = -1 ∧ Tr ad cA c c') := by
  intro sz9
  refine bd_of (cc := cX1_takenIfJoined) (maxL := 3) (ret := some Jvm.ClassFile.FieldType.int) (by decide) rfl (Nat.le_of_ble_eq_true rfl) ?_
  intro p e s m below meth c0 C0 hr hlk hnm hP hS hsz ls hl
  subst hsz
  have hx := C0.1
  have hb := C0.2.1
  have hl : lv_has ls 3 [(0, .ref (ad 0)), (1, .ref (ad b)), (2, .ref (ad b))] := hl
  obtain ⟨q1, q2, q3, q4, q5, q6, q7, q8, q9⟩ := id hok
  refine lv_aload_n hx hb dX1_takenIfJoined_0 rfl (lv_at hl 1 rfl) ?_
  refine lv_aload_n hx hb dX1_takenIfJoined_1 rfl (lv_at hl 2 rfl) ?_
  refine lv_acmp_eq (rx := (some (ad b))) (ry := (some (ad b))) (tgt := 22) hx hb dX1_takenIfJoined_2 (by decide) (fun h2 => ?_) (fun h2 => ?_)
  rotate_left
  · exact absurd rfl h2
  refine lv_iconst (v := (-1)) hx hb dX1_takenIfJoined_22 rfl ?_
  exact e_i C0 hr hlk hP hS dX1_takenIfJoined_23 (by decide) (by decide) ⟨rfl, ht.rf⟩
set_option maxHeartbeats 1000000 in
set_option maxRecDepth 10000 in
theorem m_X1_takenIfJoined__n (l : Launch) (D : va_G) (cA : Nat → ClassId) (N : Nat) (ad : Nat → Nat) (c : Nat → va_E) (n : Nat) (b R Y L S D9 K : Nat) (st : Nat → Nat → Int32) (o Ro Yo Lo So Do Ko : Nat) (sto : Nat → Nat → Int32)  (hN : 6 ≤ N) (hF : FH ad cA c n) (ht : TrAt ad cA c) (hb12 : 6 ≤ b) (hbN : b + 4 ≤ N) (hH : HandAt ad cA c b R Y L S D9 K st) (hok : Hok R Y L S D9 K) (ho12 : 6 ≤ o) (hoN : o + 4 ≤ N) (hO : HandAt ad cA c o Ro Yo Lo So Do Ko sto) (hoo : Hok Ro Yo Lo So Do Ko) (hbo : b + 4 ≤ o ∨ o + 4 ≤ b) (hij : ad b ≠ ad o) (hna : ¬ (Y = 0 ∧ Yo = 0 ∧ R = Ro)) : Ci l yX1_takenIfJoined wX1_takenIfJoined { frames := 4, cells := 0, slots := 0, locals := 95 } [.ref (ad 0), .ref (ad b), .ref (ad o)] D cA N ad c 0 0 (fun v c' => v = -1 ∧ Tr ad cA c c') := by
  intro sz9
  refine bd_of (cc := cX1_takenIfJoined) (maxL := 3) (ret := some Jvm.ClassFile.FieldType.int) (by decide) rfl (Nat.le_of_ble_eq_true rfl) ?_
  intro p e s m below meth c0 C0 hr hlk hnm hP hS hsz ls hl
  subst hsz
  have hx := C0.1
  have hb := C0.2.1
  have hl : lv_has ls 3 [(0, .ref (ad 0)), (1, .ref (ad b)), (2, .ref (ad o))] := hl
  obtain ⟨q1, q2, q3, q4, q5, q6, q7, q8, q9⟩ := id hok
  obtain ⟨o1, o2, o3, o4, o5, o6, o7, o8, o9⟩ := id hoo
  refine lv_aload_n hx hb dX1_takenIfJoined_0 rfl (lv_at hl 1 rfl) ?_
  refine lv_aload_n hx hb dX1_takenIfJoined_1 rfl (lv_at hl 2 rfl) ?_
  refine lv_acmp_eq (rx := (some (ad b))) (ry := (some (ad o))) (tgt := 22) hx hb dX1_takenIfJoined_2 (by decide) (fun h2 => ?_) (fun h2 => ?_)
  · exact absurd (Option.some.inj h2) hij
  refine lv_aload_n hx hb dX1_takenIfJoined_5 rfl (lv_at hl 1 rfl) ?_
  refine lv_aload_n hx hb dX1_takenIfJoined_6 rfl (lv_at hl 2 rfl) ?_
  refine k0_i (rn_X1_59 (As := [.ref (ad b), .ref (ad o)]) (rest := []) C0 (m_X1_areAlike l D cA N ad (c) b R Y L S D9 K st o Ro Yo Lo So Do Ko sto (by omega) (by omega) hH hok (by omega) (by omega) hO hoo _) hP hS rfl ⟨rfl, rfl⟩ ⟨by decide, by decide⟩ hl.1 rfl (Nat.le_of_ble_eq_true rfl) dX1_takenIfJoined_7 ⟨Nat.le_of_ble_eq_true rfl, Nat.le_of_ble_eq_true rfl⟩) C0 hP hS (fun v7 c7 H locs hp hP hS => ?_)
  obtain ⟨rfl, rfl⟩ := hp
  refine lv_if_eq (tgt := 22) hx hb dX1_takenIfJoined_10 (by decide) (fun h10 => ?_) (fun h10 => ?_)
  rotate_left
  · exact absurd (if_neg hna) h10
  refine lv_iconst (v := (-1)) hx hb dX1_takenIfJoined_22 rfl ?_
  exact e_i C0 hr hlk hP hS dX1_takenIfJoined_23 (by decide) (by decide) ⟨rfl, ht.rf⟩
set_option maxHeartbeats 1000000 in
set_option maxRecDepth 10000 in
theorem m_X1_takenIfJoined__j (l : Launch) (D : va_G) (cA : Nat → ClassId) (N : Nat) (ad : Nat → Nat) (c : Nat → va_E) (n : Nat) (b R Y L S D9 K : Nat) (st : Nat → Nat → Int32) (o Ro Yo Lo So Do Ko : Nat) (sto : Nat → Nat → Int32)  (hN : 6 ≤ N) (hF : FH ad cA c n) (ht : TrAt ad cA c) (hb12 : 6 ≤ b) (hbN : b + 4 ≤ N) (hH : HandAt ad cA c b R Y L S D9 K st) (hok : Hok R Y L S D9 K) (ho12 : 6 ≤ o) (hoN : o + 4 ≤ N) (hO : HandAt ad cA c o Ro Yo Lo So Do Ko sto) (hoo : Hok Ro Yo Lo So Do Ko) (hbo : b + 4 ≤ o ∨ o + 4 ≤ b) (hij : ad b ≠ ad o) (hal : Y = 0 ∧ Yo = 0 ∧ R = Ro) : Ci l yX1_takenIfJoined wX1_takenIfJoined { frames := 4, cells := 0, slots := 0, locals := 95 } [.ref (ad 0), .ref (ad b), .ref (ad o)] D cA N ad c 0 0 (fun v c' => ∃ stt, v = nI (jn S So K Ko st sto R (0, 0, L, stB stt st K)).2.1 ∧ Tr ad cA c c') := by
  intro sz9
  refine bd_of (cc := cX1_takenIfJoined) (maxL := 3) (ret := some Jvm.ClassFile.FieldType.int) (by decide) rfl (Nat.le_of_ble_eq_true rfl) ?_
  intro p e s m below meth c0 C0 hr hlk hnm hP hS hsz ls hl
  subst hsz
  have hx := C0.1
  have hb := C0.2.1
  have hl : lv_has ls 3 [(0, .ref (ad 0)), (1, .ref (ad b)), (2, .ref (ad o))] := hl
  obtain ⟨q1, q2, q3, q4, q5, q6, q7, q8, q9⟩ := id hok
  obtain ⟨o1, o2, o3, o4, o5, o6, o7, o8, o9⟩ := id hoo
  refine lv_aload_n hx hb dX1_takenIfJoined_0 rfl (lv_at hl 1 rfl) ?_
  refine lv_aload_n hx hb dX1_takenIfJoined_1 rfl (lv_at hl 2 rfl) ?_
  refine lv_acmp_eq (rx := (some (ad b))) (ry := (some (ad o))) (tgt := 22) hx hb dX1_takenIfJoined_2 (by decide) (fun h2 => ?_) (fun h2 => ?_)
  · exact absurd (Option.some.inj h2) hij
  refine lv_aload_n hx hb dX1_takenIfJoined_5 rfl (lv_at hl 1 rfl) ?_
  refine lv_aload_n hx hb dX1_takenIfJoined_6 rfl (lv_at hl 2 rfl) ?_
  refine k0_i (rn_X1_59 (As := [.ref (ad b), .ref (ad o)]) (rest := []) C0 (m_X1_areAlike l D cA N ad (c) b R Y L S D9 K st o Ro Yo Lo So Do Ko sto (by omega) (by omega) hH hok (by omega) (by omega) hO hoo _) hP hS rfl ⟨rfl, rfl⟩ ⟨by decide, by decide⟩ hl.1 rfl (Nat.le_of_ble_eq_true rfl) dX1_takenIfJoined_7 ⟨Nat.le_of_ble_eq_true rfl, Nat.le_of_ble_eq_true rfl⟩) C0 hP hS (fun v7 c7 H locs hp hP hS => ?_)
  obtain ⟨rfl, rfl⟩ := hp
  refine lv_if_eq (tgt := 22) hx hb dX1_takenIfJoined_10 (by decide) (fun h10 => ?_) (fun h10 => ?_)
  · exact absurd (h10.symm.trans (if_pos hal)) (by decide)
  refine lv_aload_n hx hb dX1_takenIfJoined_13 rfl (lv_at hl 0 rfl) ?_
  refine lv_aload_n hx hb dX1_takenIfJoined_14 rfl (lv_at hl 1 rfl) ?_
  refine lv_aload_n hx hb dX1_takenIfJoined_15 rfl (lv_at hl 2 rfl) ?_
  refine k0_i (rn_X1_65 (As := [.ref (ad b), .ref (ad o)]) (rest := []) (r := 0) C0 (m_X1_tryJoin l D cA N ad (c) n b R Y L S D9 K st o Ro Yo Lo So Do Ko sto (by omega) hF ht (by omega) (by omega) hH hok (by omega) (by omega) hO hoo (by omega) (by omega) _) hP hS (by omega) hF.1 rfl ⟨rfl, rfl⟩ ⟨by decide, by decide⟩ hl.1 rfl (Nat.le_of_ble_eq_true rfl) dX1_takenIfJoined_16 ⟨Nat.le_of_ble_eq_true rfl, Nat.le_of_ble_eq_true rfl⟩) C0 hP hS (fun v16 c16 H locs hp hP hS => ?_)
  obtain ⟨stj, rfl, rfl⟩ := hp
  refine lv_goto (tgt := 23) hx hb dX1_takenIfJoined_19 (by decide) ?_
  exact e_i C0 hr hlk hP hS dX1_takenIfJoined_23 (by decide) (by decide) ⟨stj, rfl, _, _, _, _, _, _, _, rfl⟩
set_option maxHeartbeats 1000000 in
set_option maxRecDepth 10000 in
theorem m_X1_hands (l : Launch) (D : va_G) (cA : Nat → ClassId) (N : Nat) (ad : Nat → Nat) (c : Nat → va_E) (n : Nat)  (hN : 6 ≤ N) (hF : FH ad cA c n) : Ci l yX1_hands wX1_hands { frames := 0, cells := 0, slots := 0, locals := 0 } [.ref (ad 0)] D cA N ad c 0 0 (fun v c' => v = nI n ∧ c = c') := by
  intro sz9
  refine bd_of (cc := cX1_hands) (maxL := 2) (ret := some Jvm.ClassFile.FieldType.int) (by decide) rfl (Nat.le_of_ble_eq_true rfl) ?_
  intro p e s m below meth c0 C0 hr hlk hnm hP hS hsz ls hl
  subst hsz
  have hx := C0.1
  have hb := C0.2.1
  have hl : lv_has ls 2 [(0, .ref (ad 0))] := hl
  have hn5 := hF.2.2
  refine lv_iconst (v := nI 0) hx hb dX1_hands_0 rfl ?_
  refine lv_istore_n (lv' := [(1, .int (nI 0)), (0, .ref (ad 0))]) hx hb dX1_hands_1 rfl hl (by decide) rfl (fun ls hl => ?_)
  have loop2 : ∀ (n9 : Nat) (k : Nat), (k ≤ n) → n - k < n9 → ∀ (H : Heap) (locs : List Loc) (ls : Array Slot), va_P D vwCl (wl N ad (c)) H → va_S (wA N ad s.heap.size) s.heap H locs → lv_has ls 2 [(0, .ref (ad 0)), (1, .int (nI k))] → W p l e { frames := 0, cells := 0, slots := 0, locals := 0 } s m [.ref (ad 0)].toArray below meth c0 H locs 0 0 (MQ below (va_Qi (fun v c' => v = nI n ∧ c = c') (fun c' t => va_P D vwCl (wl N ad c') t.heap) (wA N ad s.heap.size)) [.ref (ad 0)].toArray s 0 0 (wA N ad s.heap.size)) (F0 m 2 ls []) := by
    intro n9
    induction n9 with
    | zero => intro k hk hlt9; exact absurd hlt9 (Nat.not_lt_zero _)
    | succ n9 ih2 =>
      intro k hk hlt9 H locs ls hP hS hl
      refine lv_iload_n hx hb dX1_hands_2 rfl (lv_at hl 1 rfl) ?_
      refine lv_aload_n hx hb dX1_hands_3 rfl (lv_at hl 0 rfl) ?_
      refine gf_X1_11 C0 hP (by omega) hF.1 rfl dX1_hands_4 ?_
      refine a_lenq C0 hP (by omega) hF.2.1 dX1_hands_7 ?_
      refine n_icmp_ge (tgt := 26) hx hb (by omega) (by omega) dX1_hands_8 (by decide) (fun h8 => ?_) (fun h8 => ?_)
      · obtain rfl : n = k := by omega
        refine lv_iload_n hx hb dX1_hands_26 rfl (lv_at hl 1 rfl) ?_
        exact e_i C0 hr hlk hP hS dX1_hands_27 (by decide) (by decide) ⟨rfl, rfl⟩
      · refine lv_aload_n hx hb dX1_hands_11 rfl (lv_at hl 0 rfl) ?_
        refine gf_X1_11 C0 hP (by omega) hF.1 rfl dX1_hands_12 ?_
        refine lv_iload_n hx hb dX1_hands_15 rfl (lv_at hl 1 rfl) ?_
        refine a_qld C0 hP (by omega) hF.2.1 (by omega) (by omega) dX1_hands_16 ?_
        rcases Nat.lt_or_ge k n with hkn | hkn
        · rw [tbl_ref hkn]
          refine lv_ifnull hx hb dX1_hands_17 ?_
          refine lv_iinc (v := nI (k + 1)) (lv' := [(1, .int (nI (k + 1))), (0, .ref (ad 0))]) hx hb dX1_hands_20 hl (k := 1) rfl (nI_add k 1) (by decide) rfl (fun ls hl => ?_)
          refine lv_goto (tgt := 2) hx hb dX1_hands_23 (by decide) ?_
          exact ih2 (k + 1) (by omega) (by omega) _ _ _ hP hS (lv_sub hl [1, 0] rfl)
        · rw [tbl_null hkn]
          obtain rfl : n = k := by omega
          refine lv_ifnullN (tgt := 26) hx hb dX1_hands_17 (by decide) ?_
          refine lv_iload_n hx hb dX1_hands_26 rfl (lv_at hl 1 rfl) ?_
          exact e_i C0 hr hlk hP hS dX1_hands_27 (by decide) (by decide) ⟨rfl, rfl⟩
  exact loop2 (_ + 1) 0 (Nat.zero_le _) (Nat.lt_succ_self _) _ _ _ hP hS (lv_sub hl [1, 0] rfl)
set_option maxHeartbeats 1000000 in
set_option maxRecDepth 10000 in
theorem m_X1_handAt (l : Launch) (D : va_G) (cA : Nat → ClassId) (N : Nat) (ad : Nat → Nat) (c : Nat → va_E) (n : Nat) (i : Nat) (hN : 6 ≤ N) (hF : FH ad cA c n) (hi : i < n) (hiN : 6 + 4 * i < N) : Cr l yX1_handAt wX1_handAt { frames := 0, cells := 0, slots := 0, locals := 0 } [.ref (ad 0), .int (nI i)] D cA N ad c 0 0 (6 + 4 * i) := by
  intro sz9
  refine bd_of (cc := cX1_handAt) (maxL := 3) (ret := some (Jvm.ClassFile.FieldType.object "FairHandful$Hand")) (by decide) rfl (Nat.le_of_ble_eq_true rfl) ?_
  intro p e s m below meth c0 C0 hr hlk hnm hP hS hsz ls hl
  subst hsz
  have hx := C0.1
  have hb := C0.2.1
  have hl : lv_has ls 3 [(0, .ref (ad 0)), (1, .int (nI i))] := hl
  have hn5 := hF.2.2
  refine lv_iload_n hx hb dX1_handAt_0 rfl (lv_at hl 1 rfl) ?_
  refine n_if_lt (tgt := 22) hx hb (by omega) dX1_handAt_1 (by decide) (fun h1 => ?_) (fun h1 => ?_)
  · exfalso; omega
  refine lv_iload_n hx hb dX1_handAt_4 rfl (lv_at hl 1 rfl) ?_
  refine lv_aload_n hx hb dX1_handAt_5 rfl (lv_at hl 0 rfl) ?_
  refine gf_X1_11 C0 hP (by omega) hF.1 rfl dX1_handAt_6 ?_
  refine a_lenq C0 hP (by omega) hF.2.1 dX1_handAt_9 ?_
  refine n_icmp_ge (tgt := 22) hx hb (by omega) (by omega) dX1_handAt_10 (by decide) (fun h10 => ?_) (fun h10 => ?_)
  · exfalso; omega
  refine lv_aload_n hx hb dX1_handAt_13 rfl (lv_at hl 0 rfl) ?_
  refine gf_X1_11 C0 hP (by omega) hF.1 rfl dX1_handAt_14 ?_
  refine lv_iload_n hx hb dX1_handAt_17 rfl (lv_at hl 1 rfl) ?_
  refine a_qld C0 hP (by omega) hF.2.1 (by omega) (by omega) dX1_handAt_18 ?_
  rw [tbl_ref hi]
  refine lv_goto (tgt := 23) hx hb dX1_handAt_19 (by decide) ?_
  refine lv_astore_n (lv' := [(2, .ref (ad (6 + 4 * i))), (0, .ref (ad 0)), (1, .int (nI i))]) hx hb dX1_handAt_23 rfl hl (by decide) rfl (fun ls hl => ?_)
  refine lv_aload_n hx hb dX1_handAt_24 rfl (lv_at hl 0 rfl) ?_
  refine lv_ifnonnull (tgt := 38) hx hb dX1_handAt_25 (by decide) ?_
  refine lv_aload_n hx hb dX1_handAt_38 rfl (lv_at hl 0 rfl) ?_
  exact e_r C0 hr ⟨_, rfl⟩ hlk hP hS dX1_handAt_39 (by decide) (by decide)
