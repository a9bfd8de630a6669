set_option maxHeartbeats 2000000 in
set_option maxRecDepth 10000 in
theorem l_body {p : Program} {e : Env} {s : State} {m : MethodId} {below : List Frame} {meth : Method} {c0 : Code} {Q : State → Prop} (l : Launch) (hfl : l.stackTraces = false) (D : va_G) (cA : Nat → ClassId) (N : Nat) (ad : Nat → Nat) (c : Nat → va_E) (b n L : Nat) (xs : Nat → Int32) (sc : Nat → Nat → Nat) (st : Nat → Nat → Nat → Int32) (B tm cells slots : Nat) (C0 : Cx p s m c0 cL_law 17 RL D cA N ad (fun q => s.heap.size ≤ q)) (hX : va_X b L xs s s.heap) (hbl : b < s.heap.size) (hL : L ≤ 260) (hI : Inv ad cA c N n sc st B) (hB : B ≤ 100000) (hn1 : 1 ≤ n) (htm : tm < 40) (hce : cells + 1 ≤ 600104) (hsl : slots + 6 ≤ 7301314) (hT : LTail p l e s m below meth c0 Q D cA N ad b n cells slots tm B) {H : Heap} {locs : List Loc} {ls : Array Slot} (hP : va_P D vwCl (wl N ad c) H) (hS : va_S (fun q => s.heap.size ≤ q) s.heap H locs) (hl : lv_has ls 17 [(0, .ref b), (1, .ref (ad 0)), (2, .int (nI n)), (3, .int (nI tm))]) : W p l e room_1 s m #[Value.ref b] below meth c0 H locs cells slots Q (F0 m 90 ls []) := by
  have hx := C0.1
  have hb := C0.2.1
  have hN := hI.hN
  have hn5 := hI.n5
  refine lv_aload_n hx hb dL_law_90 rfl (lv_at hl 0 rfl) ?_
  refine lv_bipush (v := nI 8) hx hb dL_law_91 rfl ?_
  refine lv_iload_n hx hb dL_law_93 rfl (lv_at hl 3 rfl) ?_
  refine lv_bipush (v := nI 20) hx hb dL_law_94 rfl ?_
  refine n_irem hx hb (by omega) (by omega) (by omega) dL_law_96 ?_
  refine n_iadd hx hb dL_law_97 ?_
  refine k0_i (rnx_L_12 (As := [.ref b, .int (nI (8 + (tm % 20)))]) (rest := []) C0 (m_L_cell l D cA N ad (c) b L xs (8 + (tm % 20)) (by omega) (by omega) _) hP hS hX hbl (Nat.not_le.mpr hbl) rfl ⟨rfl, rfl⟩ ⟨Nat.le_of_ble_eq_true rfl, Nat.le_of_ble_eq_true rfl⟩ hl.1 rfl (Nat.le_of_ble_eq_true rfl) dL_law_98 ⟨rm_c hce (by omega), rm_s hsl (by omega)⟩) C0 hP hS (fun v98 c98 H locs hp hP hS => ?_)
  obtain rfl := hp
  refine lv_iload_n hx hb dL_law_101 rfl (lv_at hl 3 rfl) ?_
  refine lv_bipush (v := nI 20) hx hb dL_law_102 rfl ?_
  refine n_idiv hx hb (by omega) (by omega) (by omega) dL_law_104 ?_
  refine lv_bipush (v := nI 11) hx hb dL_law_105 rfl ?_
  refine n_imul hx hb dL_law_107 ?_
  refine lv_ishr hx hb dL_law_108 ?_
  obtain ⟨x, hx9⟩ : ∃ x : Int32, x = (v98) >>> ((nI ((tm / 20) * 11)) &&& 31) := ⟨_, rfl⟩
  rw [← hx9]
  refine lv_istore (lv' := [(4, .int x), (0, .ref b), (1, .ref (ad 0)), (2, .int (nI n)), (3, .int (nI tm))]) hx hb dL_law_109 hl (by decide) rfl (fun ls hl => ?_)
  refine lv_iload hx hb dL_law_111 (lv_at hl 0 rfl) ?_
  refine lv_iconst (v := nI 3) hx hb dL_law_113 rfl ?_
  refine lv_ishr hx hb dL_law_114 ?_
  refine lv_iload_n hx hb dL_law_115 rfl (lv_at hl 3 rfl) ?_
  refine k0_i (rn_L_18 (As := [.int ((x) >>> ((nI 3) &&& 31)), .int (nI n)]) (rest := []) C0 (m_L_below l D cA N ad (c) ((x) >>> ((nI 3) &&& 31)) n (by omega) (by omega) _) hP hS rfl ⟨rfl, rfl⟩ ⟨Nat.le_of_ble_eq_true rfl, Nat.le_of_ble_eq_true rfl⟩ hl.1 rfl (Nat.le_of_ble_eq_true rfl) dL_law_116 ⟨rm_c hce (by omega), rm_s hsl (by omega)⟩) C0 hP hS (fun v116 c116 H locs hp hP hS => ?_)
  obtain ⟨⟨u116, hu116, rfl⟩, rfl⟩ := hp
  refine lv_istore (lv' := [(5, .int (nI u116)), (4, .int x), (0, .ref b), (1, .ref (ad 0)), (2, .int (nI n)), (3, .int (nI tm))]) hx hb dL_law_119 hl (by decide) rfl (fun ls hl => ?_)
  refine lv_iload hx hb dL_law_121 (lv_at hl 1 rfl) ?_
  refine lv_bipush (v := nI 6) hx hb dL_law_123 rfl ?_
  refine lv_ishr hx hb dL_law_125 ?_
  refine lv_iload_n hx hb dL_law_126 rfl (lv_at hl 4 rfl) ?_
  refine k0_i (rn_L_18 (As := [.int ((x) >>> ((nI 6) &&& 31)), .int (nI n)]) (rest := []) C0 (m_L_below l D cA N ad (c) ((x) >>> ((nI 6) &&& 31)) n (by omega) (by omega) _) hP hS rfl ⟨rfl, rfl⟩ ⟨Nat.le_of_ble_eq_true rfl, Nat.le_of_ble_eq_true rfl⟩ hl.1 rfl (Nat.le_of_ble_eq_true rfl) dL_law_127 ⟨rm_c hce (by omega), rm_s hsl (by omega)⟩) C0 hP hS (fun v127 c127 H locs hp hP hS => ?_)
  obtain ⟨⟨u127, hu127, rfl⟩, rfl⟩ := hp
  refine lv_istore (lv' := [(6, .int (nI u127)), (5, .int (nI u116)), (4, .int x), (0, .ref b), (1, .ref (ad 0)), (2, .int (nI n)), (3, .int (nI tm))]) hx hb dL_law_130 hl (by decide) rfl (fun ls hl => ?_)
  refine lv_iconst (v := nI 1) hx hb dL_law_132 rfl ?_
  refine lv_iload hx hb dL_law_133 (lv_at hl 2 rfl) ?_
  refine lv_bipush (v := nI 9) hx hb dL_law_135 rfl ?_
  refine lv_ishr hx hb dL_law_137 ?_
  refine lv_bipush (v := nI 9) hx hb dL_law_138 rfl ?_
  refine k0_i (rn_L_18 (As := [.int ((x) >>> ((nI 9) &&& 31)), .int (nI 9)]) (rest := [.int (nI 1)]) C0 (m_L_below l D cA N ad (c) ((x) >>> ((nI 9) &&& 31)) 9 (by omega) (by omega) _) hP hS rfl ⟨rfl, rfl⟩ ⟨Nat.le_of_ble_eq_true rfl, Nat.le_of_ble_eq_true rfl⟩ hl.1 rfl (Nat.le_of_ble_eq_true rfl) dL_law_140 ⟨rm_c hce (by omega), rm_s hsl (by omega)⟩) C0 hP hS (fun v140 c140 H locs hp hP hS => ?_)
  obtain ⟨⟨u140, hu140, rfl⟩, rfl⟩ := hp
  refine n_iadd hx hb dL_law_143 ?_
  refine lv_istore (lv' := [(7, .int (nI (1 + u140))), (6, .int (nI u127)), (5, .int (nI u116)), (4, .int x), (0, .ref b), (1, .ref (ad 0)), (2, .int (nI n)), (3, .int (nI tm))]) hx hb dL_law_144 hl (by decide) rfl (fun ls hl => ?_)
  refine lv_aload_n hx hb dL_law_146 rfl (lv_at hl 5 rfl) ?_
  refine lv_iload hx hb dL_law_147 (lv_at hl 2 rfl) ?_
  refine k0_i (rn_L_26 (As := [.int (nI u116)]) (rest := []) (r := 0) C0 (m_X1_seenBy l D cA N ad (c) n u116 (sc u116 0) (sc u116 1) (sc u116 2) (sc u116 3) (sc u116 4) (sc u116 5) (st u116) (by omega) hI.fh hu116 (hI.hs u116 hu116) ((hI.hok (by omega)) u116 hu116) _) hP hS (by omega) hI.fh.1 rfl ⟨rfl, rfl⟩ ⟨Nat.le_of_ble_eq_true rfl, Nat.le_of_ble_eq_true rfl⟩ hl.1 rfl (Nat.le_of_ble_eq_true rfl) dL_law_149 ⟨rm_c hce (by omega), rm_s hsl (by omega)⟩) C0 hP hS (fun v149 c149 H locs hp hP hS => ?_)
  obtain ⟨rfl, rfl⟩ := hp
  refine lv_aload_n hx hb dL_law_152 rfl (lv_at hl 5 rfl) ?_
  refine lv_iload hx hb dL_law_153 (lv_at hl 1 rfl) ?_
  refine k0_i (rn_L_26 (As := [.int (nI u127)]) (rest := [.int (nI (sc u116 3))]) (r := 0) C0 (m_X1_seenBy l D cA N ad (c) n u127 (sc u127 0) (sc u127 1) (sc u127 2) (sc u127 3) (sc u127 4) (sc u127 5) (st u127) (by omega) hI.fh hu127 (hI.hs u127 hu127) ((hI.hok (by omega)) u127 hu127) _) hP hS (by omega) hI.fh.1 rfl ⟨rfl, rfl⟩ ⟨Nat.le_of_ble_eq_true rfl, Nat.le_of_ble_eq_true rfl⟩ hl.1 rfl (Nat.le_of_ble_eq_true rfl) dL_law_155 ⟨rm_c hce (by omega), rm_s hsl (by omega)⟩) C0 hP hS (fun v155 c155 H locs hp hP hS => ?_)
  obtain ⟨rfl, rfl⟩ := hp
  refine n_iadd hx hb dL_law_158 ?_
  refine lv_istore (lv' := [(8, .int (nI (sc u116 3 + (sc u127 3)))), (7, .int (nI (1 + u140))), (6, .int (nI u127)), (5, .int (nI u116)), (4, .int x), (0, .ref b), (1, .ref (ad 0)), (2, .int (nI n)), (3, .int (nI tm))]) hx hb dL_law_159 hl (by decide) rfl (fun ls hl => ?_)
  refine lv_aload_n hx hb dL_law_161 rfl (lv_at hl 6 rfl) ?_
  refine lv_iload hx hb dL_law_162 (lv_at hl 3 rfl) ?_
  refine k0_i (rn_L_30 (As := [.int (nI u116)]) (rest := []) (r := 0) C0 (m_X1_loadOf l D cA N ad (c) n u116 (sc u116 0) (sc u116 1) (sc u116 2) (sc u116 3) (sc u116 4) (sc u116 5) (st u116) (by omega) hI.fh hu116 (hI.hs u116 hu116) ((hI.hok (by omega)) u116 hu116) _) hP hS (by omega) hI.fh.1 rfl ⟨rfl, rfl⟩ ⟨Nat.le_of_ble_eq_true rfl, Nat.le_of_ble_eq_true rfl⟩ hl.1 rfl (Nat.le_of_ble_eq_true rfl) dL_law_164 ⟨rm_c hce (by omega), rm_s hsl (by omega)⟩) C0 hP hS (fun v164 c164 H locs hp hP hS => ?_)
  obtain ⟨rfl, rfl⟩ := hp
  refine lv_aload_n hx hb dL_law_167 rfl (lv_at hl 6 rfl) ?_
  refine lv_iload hx hb dL_law_168 (lv_at hl 2 rfl) ?_
  refine k0_i (rn_L_30 (As := [.int (nI u127)]) (rest := [.int (nI (sc u116 4))]) (r := 0) C0 (m_X1_loadOf l D cA N ad (c) n u127 (sc u127 0) (sc u127 1) (sc u127 2) (sc u127 3) (sc u127 4) (sc u127 5) (st u127) (by omega) hI.fh hu127 (hI.hs u127 hu127) ((hI.hok (by omega)) u127 hu127) _) hP hS (by omega) hI.fh.1 rfl ⟨rfl, rfl⟩ ⟨Nat.le_of_ble_eq_true rfl, Nat.le_of_ble_eq_true rfl⟩ hl.1 rfl (Nat.le_of_ble_eq_true rfl) dL_law_170 ⟨rm_c hce (by omega), rm_s hsl (by omega)⟩) C0 hP hS (fun v170 c170 H locs hp hP hS => ?_)
  obtain ⟨rfl, rfl⟩ := hp
  refine n_iadd hx hb dL_law_173 ?_
  refine lv_istore (lv' := [(9, .int (nI (sc u116 4 + (sc u127 4)))), (8, .int (nI (sc u116 3 + (sc u127 3)))), (7, .int (nI (1 + u140))), (6, .int (nI u127)), (5, .int (nI u116)), (4, .int x), (0, .ref b), (1, .ref (ad 0)), (2, .int (nI n)), (3, .int (nI tm))]) hx hb dL_law_174 hl (by decide) rfl (fun ls hl => ?_)
  refine lv_aload_n hx hb dL_law_176 rfl (lv_at hl 7 rfl) ?_
  refine lv_iload hx hb dL_law_177 (lv_at hl 4 rfl) ?_
  refine k0_i (rn_L_33 (As := [.int (nI u116)]) (rest := []) (r := 0) C0 (m_X1_holds l D cA N ad (c) n u116 (sc u116 0) (sc u116 1) (sc u116 2) (sc u116 3) (sc u116 4) (sc u116 5) (st u116) (by omega) hI.fh hu116 (hI.hs u116 hu116) ((hI.hok (by omega)) u116 hu116) _) hP hS (by omega) hI.fh.1 rfl ⟨rfl, rfl⟩ ⟨Nat.le_of_ble_eq_true rfl, Nat.le_of_ble_eq_true rfl⟩ hl.1 rfl (Nat.le_of_ble_eq_true rfl) dL_law_179 ⟨rm_c hce (by omega), rm_s hsl (by omega)⟩) C0 hP hS (fun v179 c179 H locs hp hP hS => ?_)
  obtain ⟨rfl, rfl⟩ := hp
  refine lv_istore (lv' := [(10, .int (nI (sc u116 5))), (9, .int (nI (sc u116 4 + (sc u127 4)))), (8, .int (nI (sc u116 3 + (sc u127 3)))), (7, .int (nI (1 + u140))), (6, .int (nI u127)), (5, .int (nI u116)), (4, .int x), (0, .ref b), (1, .ref (ad 0)), (2, .int (nI n)), (3, .int (nI tm))]) hx hb dL_law_182 hl (by decide) rfl (fun ls hl => ?_)
  refine lv_iload hx hb dL_law_184 (lv_at hl 6 rfl) ?_
  refine lv_bipush (v := nI 6) hx hb dL_law_186 rfl ?_
  refine k0_i (rn_L_18 (As := [.int x, .int (nI 6)]) (rest := []) C0 (m_L_below l D cA N ad (c) (x) 6 (by omega) (by omega) _) hP hS rfl ⟨rfl, rfl⟩ ⟨Nat.le_of_ble_eq_true rfl, Nat.le_of_ble_eq_true rfl⟩ hl.1 rfl (Nat.le_of_ble_eq_true rfl) dL_law_188 ⟨rm_c hce (by omega), rm_s hsl (by omega)⟩) C0 hP hS (fun v188 c188 H locs hp hP hS => ?_)
  obtain ⟨⟨u188, hu188, rfl⟩, rfl⟩ := hp
  rcases (show u188 = 0 ∨ u188 = 1 ∨ u188 = 2 ∨ u188 = 3 ∨ u188 = 4 ∨ u188 = 5 by omega) with rfl | rfl | rfl | rfl | rfl | rfl
  · exact lv_tableIn (off := 33) (tgt := 224) hx hb dL_law_191 (by decide) (by decide) rfl (by decide) (lc_offer l hfl D cA N ad c b n sc st B tm u116 u127 (1 + u140) cells slots x C0 hI hB hu116 hu127 (by omega) (by omega) hce hsl hT hP hS hl)
  · exact lv_tableIn (off := 33) (tgt := 224) hx hb dL_law_191 (by decide) (by decide) rfl (by decide) (lc_offer l hfl D cA N ad c b n sc st B tm u116 u127 (1 + u140) cells slots x C0 hI hB hu116 hu127 (by omega) (by omega) hce hsl hT hP hS hl)
  · exact lv_tableIn (off := 100) (tgt := 291) hx hb dL_law_191 (by decide) (by decide) rfl (by decide) (lc_row l hfl D cA N ad c b n sc st B tm u116 u127 (1 + u140) cells slots x C0 hI hB hu116 hu127 (by omega) (by omega) hce hsl hT hP hS hl)
  · exact lv_tableIn (off := 160) (tgt := 351) hx hb dL_law_191 (by decide) (by decide) rfl (by decide) (lc_mix l hfl D cA N ad c b n sc st B tm u116 u127 (1 + u140) cells slots x C0 hI hB hu116 hu127 (by omega) (by omega) hce hsl hT hP hS hl)
  · refine lv_tableIn (off := 209) (tgt := 400) hx hb dL_law_191 (by decide) (by decide) rfl (by decide) (?_)
    by_cases hij : u116 = u127
    · exact lc_join__a l hfl D cA N ad c b n sc st B tm u116 u127 (1 + u140) cells slots x C0 hI hB hu116 hu127 (by omega) (by omega) hce hsl hT hij (fun q => q.1 hij) hP hS hl
    · have hijA : ad (6 + 4 * u116) ≠ ad (6 + 4 * u127) := fun q => hij (by have := C0.inj _ _ (by omega) (by omega) q; omega)
      by_cases hal : sc u116 1 = 0 ∧ sc u127 1 = 0 ∧ sc u116 0 = sc u127 0
      · exact lc_join__j l hfl D cA N ad c b n sc st B tm u116 u127 (1 + u140) cells slots x C0 hI hB hu116 hu127 (by omega) (by omega) hce hsl hT hijA hij hal hP hS hl
      · exact lc_join__s l hfl D cA N ad c b n sc st B tm u116 u127 (1 + u140) cells slots x C0 hI hB hu116 hu127 (by omega) (by omega) hce hsl hT hijA hal (fun q => hal q.2) hP hS hl
  · exact lv_tableOut (tgt := 525) hx hb dL_law_191 (Or.inr (by decide)) (by decide) (lc_luck l hfl D cA N ad c b n sc st B tm u116 u127 (1 + u140) cells slots x C0 hI hB hu116 hu127 (by omega) (by omega) hce hsl hT hP hS hl)
theorem rm_c0 {x : Nat} (h : x ≤ 600104) : x + 0 ≤ room_1.cells := h
theorem rm_s0 {x : Nat} (h : x ≤ 7301314) : x + 0 ≤ room_1.slots := h
set_option maxHeartbeats 2000000 in
set_option maxRecDepth 10000 in
theorem l_tail {p : Program} {e : Env} {s : State} {m : MethodId} {below : List Frame} {meth : Method} {c0 : Code} {Q : State → Prop} (l : Launch) (D : va_G) (cA : Nat → ClassId) (N : Nat) (ad : Nat → Nat) (c : Nat → va_E) (b n : Nat) (sc : Nat → Nat → Nat) (st : Nat → Nat → Nat → Int32) (B tm cells slots : Nat) (C0 : Cx p s m c0 cL_law 17 RL D cA N ad (fun q => s.heap.size ≤ q)) (hI : Inv ad cA c N n sc st B) (hB : B ≤ 100030) (htm : tm < 40) (hce : cells ≤ 600104) (hsl : slots ≤ 7301314) (hnext : ∀ (c : Nat → va_E), Inv ad cA c N n sc st B → ∀ (H : Heap) (locs : List Loc) (ls : Array Slot), va_P D vwCl (wl N ad c) H → va_S (fun q => s.heap.size ≤ q) s.heap H locs → lv_has ls 17 [(0, .ref b), (1, .ref (ad 0)), (2, .int (nI n)), (3, .int (nI tm))] → W p l e room_1 s m #[Value.ref b] below meth c0 H locs cells slots Q (F0 m 597 ls [])) {H : Heap} {locs : List Loc} {ls : Array Slot} (hP : va_P D vwCl (wl N ad c) H) (hS : va_S (fun q => s.heap.size ≤ q) s.heap H locs) (hl : lv_has ls 17 [(0, .ref b), (1, .ref (ad 0)), (2, .int (nI n)), (3, .int (nI tm))]) : W p l e room_1 s m #[Value.ref b] below meth c0 H locs cells slots Q (F0 m 543 ls []) := by
  have hx := C0.1
  have hb := C0.2.1
  have hN := hI.hN
  have hn5 := hI.n5
  refine lv_iload_n hx hb dL_law_543 rfl (lv_at hl 3 rfl) ?_
  refine lv_iconst (v := nI 5) hx hb dL_law_544 rfl ?_
  refine n_irem hx hb (by omega) (by omega) (by omega) dL_law_545 ?_
  refine lv_iconst (v := nI 4) hx hb dL_law_546 rfl ?_
  refine n_icmp_eq (tgt := 553) hx hb (by omega) (by omega) dL_law_547 (by decide) (fun h547 => ?_) (fun h547 => ?_)
  · refine lv_aload_n hx hb dL_law_553 rfl (lv_at hl 1 rfl) ?_
    refine k0_l (rn_L_73 (As := []) (rest := []) (r := 0) C0 (m_X1_digest l D cA N ad (c) n sc st (by omega) hI.fh hI.tr hI.hs (hI.hok (by omega)) C0.inj _) hP hS (by omega) hI.fh.1 rfl ⟨rfl, rfl⟩ ⟨Nat.le_of_ble_eq_true rfl, Nat.le_of_ble_eq_true rfl⟩ hl.1 rfl (Nat.le_of_ble_eq_true rfl) dL_law_554 ⟨rm_c0 hce, rm_s0 hsl⟩) C0 hP hS (fun v554 c554 H locs hp hP hS => ?_)
    obtain ⟨hd1, t1⟩ := hp
    have hI := hI.trial t1
    refine lv_lstore (lv' := [(11, .long v554), (0, .ref b), (1, .ref (ad 0)), (2, .int (nI n)), (3, .int (nI tm))]) hx hb dL_law_557 hl (by decide) rfl (fun ls hl => ?_)
    refine lv_iconst (v := nI 0) hx hb dL_law_559 rfl ?_
    refine lv_istore (lv' := [(13, .int (nI 0)), (11, .long v554), (0, .ref b), (1, .ref (ad 0)), (2, .int (nI n)), (3, .int (nI tm))]) hx hb dL_law_560 hl (by decide) rfl (fun ls hl => ?_)
    have loop562 : ∀ (f h : Nat) (c : Nat → va_E), n ≤ h + f → h ≤ n → Inv ad cA c N n sc st B → ∀ (H : Heap) (locs : List Loc) (ls : Array Slot), va_P D vwCl (wl N ad c) H → va_S (fun q => s.heap.size ≤ q) s.heap H locs → lv_has ls 17 [(13, .int (nI h)), (11, .long v554), (0, .ref b), (1, .ref (ad 0)), (2, .int (nI n)), (3, .int (nI tm))] → W p l e room_1 s m #[Value.ref b] below meth c0 H locs cells slots Q (F0 m 562 ls []) := by
      intro f
      induction f with
      | zero =>
        intro h c h1 h2 hI H locs ls hP hS hl
        refine lv_iload hx hb dL_law_562 (lv_at hl 0 rfl) ?_
        refine lv_iload_n hx hb dL_law_564 rfl (lv_at hl 4 rfl) ?_
        refine n_icmp_ge (tgt := 585) hx hb (by omega) (by omega) dL_law_565 (by decide) (fun h565 => ?_) (fun h565 => ?_)
        rotate_left
        · exfalso; omega
        refine lv_aload_n hx hb dL_law_585 rfl (lv_at hl 3 rfl) ?_
        refine k0_l (rn_L_73 (As := []) (rest := []) (r := 0) C0 (m_X1_digest l D cA N ad (c) n sc st (by omega) hI.fh hI.tr hI.hs (hI.hok (by omega)) C0.inj _) hP hS (by omega) hI.fh.1 rfl ⟨rfl, rfl⟩ ⟨Nat.le_of_ble_eq_true rfl, Nat.le_of_ble_eq_true rfl⟩ hl.1 rfl (Nat.le_of_ble_eq_true rfl) dL_law_586 ⟨rm_c0 hce, rm_s0 hsl⟩) C0 hP hS (fun v586 c586 H locs hp hP hS => ?_)
        obtain ⟨hd2, t1⟩ := hp
        have hI := hI.trial t1
        refine lv_lload hx hb dL_law_589 (lv_at hl 1 rfl) ?_
        refine W.lcmp hx hb dL_law_591 ?_
        rw [lg_same (DigP.uniq (hI.trn (by omega)) hd2 hd1)]
        refine lv_if_eq (tgt := 597) hx hb dL_law_592 (by decide) (fun h592 => ?_) (fun h592 => ?_)
        rotate_left
        · exact absurd rfl h592
        exact hnext _ hI _ _ _ hP hS (lv_sub hl [2, 3, 4, 5] rfl)
      | succ f ih =>
        intro h c h1 h2 hI H locs ls hP hS hl
        refine lv_iload hx hb dL_law_562 (lv_at hl 0 rfl) ?_
        refine lv_iload_n hx hb dL_law_564 rfl (lv_at hl 4 rfl) ?_
        refine n_icmp_ge (tgt := 585) hx hb (by omega) (by omega) dL_law_565 (by decide) (fun h565 => ?_) (fun h565 => ?_)
        · refine lv_aload_n hx hb dL_law_585 rfl (lv_at hl 3 rfl) ?_
          refine k0_l (rn_L_73 (As := []) (rest := []) (r := 0) C0 (m_X1_digest l D cA N ad (c) n sc st (by omega) hI.fh hI.tr hI.hs (hI.hok (by omega)) C0.inj _) hP hS (by omega) hI.fh.1 rfl ⟨rfl, rfl⟩ ⟨Nat.le_of_ble_eq_true rfl, Nat.le_of_ble_eq_true rfl⟩ hl.1 rfl (Nat.le_of_ble_eq_true rfl) dL_law_586 ⟨rm_c0 hce, rm_s0 hsl⟩) C0 hP hS (fun v586 c586 H locs hp hP hS => ?_)
          obtain ⟨hd2, t1⟩ := hp
          have hI := hI.trial t1
          refine lv_lload hx hb dL_law_589 (lv_at hl 1 rfl) ?_
          refine W.lcmp hx hb dL_law_591 ?_
          rw [lg_same (DigP.uniq (hI.trn (by omega)) hd2 hd1)]
          refine lv_if_eq (tgt := 597) hx hb dL_law_592 (by decide) (fun h592 => ?_) (fun h592 => ?_)
          rotate_left
          · exact absurd rfl h592
          exact hnext _ hI _ _ _ hP hS (lv_sub hl [2, 3, 4, 5] rfl)
        · have hh : h < n := h565
          refine lv_aload_n hx hb dL_law_568 rfl (lv_at hl 3 rfl) ?_
          refine lv_iload hx hb dL_law_569 (lv_at hl 0 rfl) ?_
          refine k0_i (rn_L_77 (As := [.ref (ad 0), .int (nI h)]) (rest := []) C0 (m_L_isSound l D cA N ad (c) n h (sc h 0) (sc h 1) (sc h 2) (sc h 3) (sc h 4) (sc h 5) (st h) (by omega) hI.fh hI.tr hh (hI.hs h hh) ((hI.hok (by omega)) h hh) (hI.ok h hh).2.2.2.2.2.2.2 (hI.bo h hh) _) hP hS rfl ⟨rfl, rfl⟩ ⟨Nat.le_of_ble_eq_true rfl, Nat.le_of_ble_eq_true rfl⟩ hl.1 rfl (Nat.le_of_ble_eq_true rfl) dL_law_571 ⟨rm_c0 hce, rm_s0 hsl⟩) C0 hP hS (fun v571 c571 H locs hp hP hS => ?_)
          obtain ⟨rfl, t1⟩ := hp
          have hI := hI.trial t1
          refine n_if_ne (tgt := 579) hx hb (by omega) dL_law_574 (by decide) (fun h574 => ?_) (fun h574 => ?_)
          rotate_left
          · exfalso; omega
          refine lv_iinc (v := nI (h + 1)) (lv' := [(13, .int (nI (h + 1))), (11, .long v554), (0, .ref b), (1, .ref (ad 0)), (2, .int (nI n)), (3, .int (nI tm))]) hx hb dL_law_579 hl (k := 0) rfl (nI_add h 1) (by decide) rfl (fun ls hl => ?_)
          refine lv_goto (tgt := 562) hx hb dL_law_582 (by decide) ?_
          exact ih (h + 1) _ (by omega) (by omega) hI _ _ _ hP hS (lv_sub hl [0, 1, 2, 3, 4, 5] rfl)
    exact loop562 n 0 _ (by omega) (by omega) hI _ _ _ hP hS (lv_sub hl [0, 1, 2, 3, 4, 5] rfl)
  · refine lv_goto (tgt := 597) hx hb dL_law_550 (by decide) ?_
    exact hnext _ hI _ _ _ hP hS (lv_sub hl [0, 1, 2, 3] rfl)
set_option maxHeartbeats 2000000 in
set_option maxRecDepth 10000 in
theorem l_loop {p : Program} {e : Env} {s : State} {m : MethodId} {below : List Frame} {meth : Method} {c0 : Code} {Q : State → Prop} (l : Launch) (hfl : l.stackTraces = false) (D : va_G) (cA : Nat → ClassId) (N : Nat) (ad : Nat → Nat) (b n L : Nat) (xs : Nat → Int32) (C0 : Cx p s m c0 cL_law 17 RL D cA N ad (fun q => s.heap.size ≤ q)) (hX : va_X b L xs s s.heap) (hbl : b < s.heap.size) (hL : L ≤ 260) (hn1 : 1 ≤ n) (hend : ∀ (H : Heap) (locs : List Loc) (ls : Array Slot), va_S (fun q => s.heap.size ≤ q) s.heap H locs → W p l e room_1 s m #[Value.ref b] below meth c0 H locs 600104 7301314 Q (F0 m 604 ls [.int (nI 1)])) : ∀ (f tm : Nat) (c : Nat → va_E) (sc : Nat → Nat → Nat) (st : Nat → Nat → Nat → Int32), 40 ≤ tm + f → tm ≤ 40 → Inv ad cA c N n sc st (30 * tm) → ∀ (H : Heap) (locs : List Loc) (ls : Array Slot), va_P D vwCl (wl N ad c) H → va_S (fun q => s.heap.size ≤ q) s.heap H locs → lv_has ls 17 [(0, .ref b), (1, .ref (ad 0)), (2, .int (nI n)), (3, .int (nI tm))] → W p l e room_1 s m #[Value.ref b] below meth c0 H locs (30 + tm) (300 + 6 * tm) Q (F0 m 84 ls []) := by
  have hx := C0.1
  have hb := C0.2.1
  have hout : ∀ (H : Heap) (locs : List Loc) (ls : Array Slot) (tm : Nat), tm ≤ 40 → va_S (fun q => s.heap.size ≤ q) s.heap H locs → W p l e room_1 s m #[Value.ref b] below meth c0 H locs (30 + tm) (300 + 6 * tm) Q (F0 m 603 ls []) := by
    intro H locs ls tm htm hS
    refine lv_iconst (v := nI 1) hx hb dL_law_603 rfl ?_
    refine W.widen (k := 600104) (n := 7301314) (by omega) (by omega) ?_
    exact hend _ _ _ hS
  intro f
  induction f with
  | zero =>
    intro tm c sc st h1 h2 hI H locs ls hP hS hl
    refine lv_iload_n hx hb dL_law_84 rfl (lv_at hl 3 rfl) ?_
    refine lv_bipush (v := nI 40) hx hb dL_law_85 rfl ?_
    refine n_icmp_ge (tgt := 603) hx hb (by omega) (by omega) dL_law_87 (by decide) (fun h => ?_) (fun h => ?_)
    · exact hout _ _ _ _ h2 hS
    · exfalso; omega
  | succ f ih =>
    intro tm c sc st h1 h2 hI H locs ls hP hS hl
    refine lv_iload_n hx hb dL_law_84 rfl (lv_at hl 3 rfl) ?_
    refine lv_bipush (v := nI 40) hx hb dL_law_85 rfl ?_
    refine n_icmp_ge (tgt := 603) hx hb (by omega) (by omega) dL_law_87 (by decide) (fun h => ?_) (fun h => ?_)
    · exact hout _ _ _ _ h2 hS
    · refine l_body l hfl D cA N ad c b n L xs sc st (30 * tm) tm (30 + tm) (300 + 6 * tm) C0 hX hbl hL hI (by omega) hn1 h (by omega) (by omega) ?_ hP hS hl
      intro c sc st hI H locs ls hP hS hl
      refine l_tail l D cA N ad c b n sc st (30 * tm + 30) tm (30 + tm + 1) (300 + 6 * tm + 6) C0 hI (by omega) h (by omega) (by omega) ?_ hP hS hl
      intro c hI H locs ls hP hS hl
      refine lv_iinc (v := nI (tm + 1)) (lv' := [(3, .int (nI (tm + 1))), (0, .ref b), (1, .ref (ad 0)), (2, .int (nI n))]) hx hb dL_law_597 hl (k := 3) rfl (nI_add tm 1) (by decide) rfl (fun ls hl => ?_)
      refine lv_goto (tgt := 84) hx hb dL_law_600 (by decide) ?_
      refine W.widen (k := 30 + (tm + 1)) (n := 300 + 6 * (tm + 1)) (by omega) (by omega) ?_
      exact ih (tm + 1) c sc st (by omega) (by omega) (hI.up (by omega)) _ _ _ hP hS (lv_sub hl [1, 2, 3, 0] rfl)
set_option maxHeartbeats 2000000 in
set_option maxRecDepth 10000 in
theorem l_add {p : Program} {e : Env} {s : State} {m : MethodId} {below : List Frame} {meth : Method} {c0 : Code} {Q : State → Prop} (l : Launch) (hfl : l.stackTraces = false) (D : va_G) (cA : Nat → ClassId) (b n L : Nat) (xs : Nat → Int32) (hX : va_X b L xs s s.heap) (hbl : b < s.heap.size) (hL : L ≤ 260) (hn1 : 1 ≤ n) (hn5 : n ≤ 5) (hend : ∀ (H : Heap) (locs : List Loc) (ls : Array Slot), va_S (fun q => s.heap.size ≤ q) s.heap H locs → W p l e room_1 s m #[Value.ref b] below meth c0 H locs 600104 7301314 Q (F0 m 604 ls [.int (nI 1)])) : ∀ (f h N : Nat) (ad : Nat → Nat) (c : Nat → va_E) (sc : Nat → Nat → Nat) (st : Nat → Nat → Nat → Int32), n ≤ h + f → h ≤ n → Cx p s m c0 cL_law 17 RL D cA N ad (fun q => s.heap.size ≤ q) → Inv ad cA c N h sc st 0 → ∀ (H : Heap) (locs : List Loc) (ls : Array Slot), va_P D vwCl (wl N ad c) H → va_S (fun q => s.heap.size ≤ q) s.heap H locs → lv_has ls 17 [(0, .ref b), (1, .ref (ad 0)), (2, .int (nI n)), (3, .int (nI h))] → W p l e room_1 s m #[Value.ref b] below meth c0 H locs (6 + 4 * h) (40 + 33 * h) Q (F0 m 22 ls []) := by
  have hout : ∀ (h N : Nat) (ad : Nat → Nat) (c : Nat → va_E) (sc : Nat → Nat → Nat) (st : Nat → Nat → Nat → Int32), n ≤ h → h ≤ n → Cx p s m c0 cL_law 17 RL D cA N ad (fun q => s.heap.size ≤ q) → Inv ad cA c N h sc st 0 → ∀ (H : Heap) (locs : List Loc) (ls : Array Slot), va_P D vwCl (wl N ad c) H → va_S (fun q => s.heap.size ≤ q) s.heap H locs → lv_has ls 17 [(0, .ref b), (1, .ref (ad 0)), (2, .int (nI n)), (3, .int (nI h))] → W p l e room_1 s m #[Value.ref b] below meth c0 H locs (6 + 4 * h) (40 + 33 * h) Q (F0 m 82 ls []) := by
    intro h N ad c sc st h1 h2 C0 hI H locs ls hP hS hl
    obtain rfl : h = n := by omega
    have hx := C0.1
    have hb := C0.2.1
    refine lv_iconst (v := nI 0) hx hb dL_law_82 rfl ?_
    refine lv_istore_n (lv' := [(3, .int (nI 0)), (0, .ref b), (1, .ref (ad 0)), (2, .int (nI h))]) hx hb dL_law_83 rfl hl (by decide) rfl (fun ls hl => ?_)
    refine W.widen (k := 30 + 0) (n := 300 + 6 * 0) (by omega) (by omega) ?_
    exact l_loop l hfl D cA N ad b h L xs C0 hX hbl hL hn1 hend 40 0 c sc st (by omega) (by omega) hI _ _ _ hP hS (lv_sub hl [1, 2, 3, 0] rfl)
  intro f
  induction f with
  | zero =>
    intro h N ad c sc st h1 h2 C0 hI H locs ls hP hS hl
    have hx := C0.1
    have hb := C0.2.1
    refine lv_iload_n hx hb dL_law_22 rfl (lv_at hl 3 rfl) ?_
    refine lv_iload_n hx hb dL_law_23 rfl (lv_at hl 2 rfl) ?_
    refine n_icmp_ge (tgt := 82) hx hb (by omega) (by omega) dL_law_24 (by decide) (fun h24 => ?_) (fun h24 => ?_)
    · exact hout h N ad c sc st h24 h2 C0 hI _ _ _ hP hS hl
    · exfalso; omega
  | succ f ih =>
    intro h N ad c sc st h1 h2 C0 hI H locs ls hP hS hl
    have hx := C0.1
    have hb := C0.2.1
    have hN := hI.hN
    refine lv_iload_n hx hb dL_law_22 rfl (lv_at hl 3 rfl) ?_
    refine lv_iload_n hx hb dL_law_23 rfl (lv_at hl 2 rfl) ?_
    refine n_icmp_ge (tgt := 82) hx hb (by omega) (by omega) dL_law_24 (by decide) (fun h24 => ?_) (fun h24 => ?_)
    · exact hout h N ad c sc st h24 h2 C0 hI _ _ _ hP hS hl
    · refine lv_aload_n hx hb dL_law_27 rfl (lv_at hl 1 rfl) ?_
      refine lv_iconst (v := nI 1) hx hb dL_law_28 rfl ?_
      refine lv_aload_n hx hb dL_law_29 rfl (lv_at hl 0 rfl) ?_
      refine lv_iconst (v := nI 1) hx hb dL_law_30 rfl ?_
      refine k0_i (rnx_L_12 (As := [.ref b, .int (nI 1)]) (rest := [.int (nI 1), .ref (ad 0)]) C0 (m_L_cell l D cA N ad (c) b L xs (1) (by omega) (by omega) _) hP hS hX hbl (Nat.not_le.mpr hbl) rfl ⟨rfl, rfl⟩ ⟨Nat.le_of_ble_eq_true rfl, Nat.le_of_ble_eq_true rfl⟩ hl.1 rfl (Nat.le_of_ble_eq_true rfl) dL_law_31 ⟨rm_c0 (by omega), rm_s0 (by omega)⟩) C0 hP hS (fun v31 c31 H locs hp hP hS => ?_)
      obtain rfl := hp
      refine lv_iconst (v := nI 3) hx hb dL_law_34 rfl ?_
      refine lv_iload_n hx hb dL_law_35 rfl (lv_at hl 3 rfl) ?_
      refine lv_iconst (v := nI 3) hx hb dL_law_36 rfl ?_
      refine k0_i (rn_L_18 (As := [.int (nI h), .int (nI 3)]) (rest := [.int (nI 3), .int v31, .int (nI 1), .ref (ad 0)]) C0 (m_L_below l D cA N ad (c) (nI h) 3 (by omega) (by omega) _) hP hS rfl ⟨rfl, rfl⟩ ⟨Nat.le_of_ble_eq_true rfl, Nat.le_of_ble_eq_true rfl⟩ hl.1 rfl (Nat.le_of_ble_eq_true rfl) dL_law_37 ⟨rm_c0 (by omega), rm_s0 (by omega)⟩) C0 hP hS (fun v37 c37 H locs hp hP hS => ?_)
      obtain ⟨⟨u37, hu37, rfl⟩, rfl⟩ := hp
      refine n_imul hx hb dL_law_40 ?_
      refine lv_ishr hx hb dL_law_41 ?_
      refine lv_bipush (v := nI 8) hx hb dL_law_42 rfl ?_
      refine k0_i (rn_L_18 (As := [.int ((v31) >>> ((nI (3 * u37)) &&& 31)), .int (nI 8)]) (rest := [.int (nI 1), .ref (ad 0)]) C0 (m_L_below l D cA N ad (c) ((v31) >>> ((nI (3 * u37)) &&& 31)) 8 (by omega) (by omega) _) hP hS rfl ⟨rfl, rfl⟩ ⟨Nat.le_of_ble_eq_true rfl, Nat.le_of_ble_eq_true rfl⟩ hl.1 rfl (Nat.le_of_ble_eq_true rfl) dL_law_44 ⟨rm_c0 (by omega), rm_s0 (by omega)⟩) C0 hP hS (fun v44 c44 H locs hp hP hS => ?_)
      obtain ⟨⟨u44, hu44, rfl⟩, rfl⟩ := hp
      refine n_iadd hx hb dL_law_47 ?_
      refine lv_aload_n hx hb dL_law_48 rfl (lv_at hl 0 rfl) ?_
      refine lv_iconst (v := nI 2) hx hb dL_law_49 rfl ?_
      refine k0_i (rnx_L_12 (As := [.ref b, .int (nI 2)]) (rest := [.int (nI (1 + u44)), .ref (ad 0)]) C0 (m_L_cell l D cA N ad (c) b L xs (2) (by omega) (by omega) _) hP hS hX hbl (Nat.not_le.mpr hbl) rfl ⟨rfl, rfl⟩ ⟨Nat.le_of_ble_eq_true rfl, Nat.le_of_ble_eq_true rfl⟩ hl.1 rfl (Nat.le_of_ble_eq_true rfl) dL_law_50 ⟨rm_c0 (by omega), rm_s0 (by omega)⟩) C0 hP hS (fun v50 c50 H locs hp hP hS => ?_)
      obtain rfl := hp
      refine lv_iload_n hx hb dL_law_53 rfl (lv_at hl 3 rfl) ?_
      refine lv_ishr hx hb dL_law_54 ?_
      refine lv_iconst (v := nI 2) hx hb dL_law_55 rfl ?_
      refine k0_i (rn_L_18 (As := [.int ((v50) >>> ((nI h) &&& 31)), .int (nI 2)]) (rest := [.int (nI (1 + u44)), .ref (ad 0)]) C0 (m_L_below l D cA N ad (c) ((v50) >>> ((nI h) &&& 31)) 2 (by omega) (by omega) _) hP hS rfl ⟨rfl, rfl⟩ ⟨Nat.le_of_ble_eq_true rfl, Nat.le_of_ble_eq_true rfl⟩ hl.1 rfl (Nat.le_of_ble_eq_true rfl) dL_law_56 ⟨rm_c0 (by omega), rm_s0 (by omega)⟩) C0 hP hS (fun v56 c56 H locs hp hP hS => ?_)
      obtain ⟨⟨u56, hu56, rfl⟩, rfl⟩ := hp
      refine lv_aload_n hx hb dL_law_59 rfl (lv_at hl 0 rfl) ?_
      refine lv_iconst (v := nI 3) hx hb dL_law_60 rfl ?_
      refine lv_iload_n hx hb dL_law_61 rfl (lv_at hl 3 rfl) ?_
      refine n_iadd hx hb dL_law_62 ?_
      refine k0_i (rnx_L_12 (As := [.ref b, .int (nI (3 + h))]) (rest := [.int (nI u56), .int (nI (1 + u44)), .ref (ad 0)]) C0 (m_L_cell l D cA N ad (c) b L xs (3 + h) (by omega) (by omega) _) hP hS hX hbl (Nat.not_le.mpr hbl) rfl ⟨rfl, rfl⟩ ⟨Nat.le_of_ble_eq_true rfl, Nat.le_of_ble_eq_true rfl⟩ hl.1 rfl (Nat.le_of_ble_eq_true rfl) dL_law_63 ⟨rm_c0 (by omega), rm_s0 (by omega)⟩) C0 hP hS (fun v63 c63 H locs hp hP hS => ?_)
      obtain rfl := hp
      refine lv_sipush (v := nI 10000) hx hb dL_law_66 rfl ?_
      refine k0_i (rn_L_18 (As := [.int v63, .int (nI 10000)]) (rest := [.int (nI u56), .int (nI (1 + u44)), .ref (ad 0)]) C0 (m_L_below l D cA N ad (c) (v63) 10000 (by omega) (by omega) _) hP hS rfl ⟨rfl, rfl⟩ ⟨Nat.le_of_ble_eq_true rfl, Nat.le_of_ble_eq_true rfl⟩ hl.1 rfl (Nat.le_of_ble_eq_true rfl) dL_law_69 ⟨rm_c0 (by omega), rm_s0 (by omega)⟩) C0 hP hS (fun v69 c69 H locs hp hP hS => ?_)
      obtain ⟨⟨u69, hu69, rfl⟩, rfl⟩ := hp
      refine k_gi (rn_L_22 (As := [.int (nI (1 + u44)), .int (nI u56), .int (nI u69)]) (rest := []) (r := 0) C0 (m_X1_addHand l D cA N ad c h (1 + u44) u56 u69 hN hI.fh (by omega) (by omega) (by omega) (by omega) (by omega) _) hP hS (by omega) hI.fh.1 rfl ⟨rfl, rfl⟩ ⟨Nat.le_of_ble_eq_true rfl, Nat.le_of_ble_eq_true rfl⟩ hl.1 rfl (Nat.le_of_ble_eq_true rfl) dL_law_72 ⟨by show 6 + 4 * h + 4 ≤ 600104; omega, by show 40 + 33 * h + 33 ≤ 7301314; omega⟩) C0 hP hS (fun v72 ad1 c1 H locs hp C0 hP hS => ?_)
      obtain ⟨-, e1, e2, hF, hH⟩ := hp
      dsimp only at e1 e2 hF hH
      have hI1 := hI.more (by omega) ⟨by omega, by omega, by omega, by omega⟩ e1 e2 hF hH
      rw [← e1 0 (by omega)] at hl
      refine lv_pop hx hb dL_law_75 rfl ?_
      refine lv_iinc (v := nI (h + 1)) (lv' := [(3, .int (nI (h + 1))), (0, .ref b), (1, .ref (ad1 0)), (2, .int (nI n))]) hx hb dL_law_76 hl (k := 3) rfl (nI_add h 1) (by decide) rfl (fun ls hl => ?_)
      refine lv_goto (tgt := 22) hx hb dL_law_79 (by decide) ?_
      refine W.widen (k := 6 + 4 * (h + 1)) (n := 40 + 33 * (h + 1)) (by omega) (by omega) ?_
      exact ih (h + 1) (N + 4) ad1 c1 _ _ (by omega) (by omega) C0 hI1 _ _ _ hP hS (lv_sub hl [1, 2, 3, 0] rfl)
