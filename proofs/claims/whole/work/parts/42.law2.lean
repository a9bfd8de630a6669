set_option maxHeartbeats 1000000 in
set_option maxRecDepth 10000 in
theorem lc_cameAs {p : Program} {e : Env} {s : State} {m : MethodId} {below : List Frame} {meth : Method} {c0 : Code} {H : Heap} {locs : List Loc} {ls : Array Slot} {Q : State → Prop} (l : Launch) (hfl : l.stackTraces = false) (D : va_G) (cA : Nat → ClassId) (N : Nat) (ad : Nat → Nat) (c : Nat → va_E) (b L : Nat) (xs : Nat → Int32) (n : Nat) (sc : Nat → Nat → Nat) (st : Nat → Nat → Nat → Int32) (th : Int32) (nw ah rw : Nat → Int32) (fo : Nat → Int64) (fd : Nat → UInt64) (B i cells slots : Nat) (C0 : Cx p s m c0 cL_law 9 RL D cA N ad (fun q => s.heap.size ≤ q)) (hX : va_X b L xs s s.heap) (hbl : b < s.heap.size) (hi : i + 5 ≤ L) (hL : L ≤ 2560) (hI : Inv ad cA c N n sc st th nw ah rw fo fd B) (hB : B ≤ 110000) (hc1 : cells + 5 ≤ 601024) (hs1 : slots + 65 ≤ 7293034) (hT : LTail p l e s m below meth c0 Q D cA b (cells + 5) (slots + 65) i (B + 200)) (hP : va_P D vwCl (wl N ad c) H) (hS : va_S (fun q => s.heap.size ≤ q) s.heap H locs) (hl : lv_has ls 9 [(0, .ref b), (1, .ref (ad 0)), (2, .ref (ad 6)), (3, .ref (ad 10)), (4, .ref (ad 11)), (5, .int (nI i))]) : W p l e room_1 s m #[Value.ref b] below meth c0 H locs cells slots Q (F0 m 1053 ls []) := by
  have hx := C0.1
  have hb := C0.2.1
  have hN := hI.hN
  have hn5 := hI.n5
  obtain ⟨rm, mc, ms, k, R1, r1, r2, r3, r4, r5, r6, r7, M, M2⟩ := s_cameAs l D cA N ad c hfl n sc st th nw ah rw fo fd B hI hB (xs (i + 1)) (xs (i + 2))
  refine lv_aload_n hx hb dL_law_1053 rfl (lv_at hl 1 rfl) ?_
  refine lv_aload_n hx hb dL_law_1054 rfl (lv_at hl 0 rfl) ?_
  refine lv_iload hx hb dL_law_1055 (lv_at hl 5 rfl) ?_
  refine lv_iconst (v := nI 1) hx hb dL_law_1057 rfl ?_
  refine n_iadd hx hb dL_law_1058 ?_
  refine l_sld C0 hX hbl hS (j := i + 1) (by omega) hL dL_law_1059 ?_
  refine lv_aload_n hx hb dL_law_1060 rfl (lv_at hl 0 rfl) ?_
  refine lv_iload hx hb dL_law_1061 (lv_at hl 5 rfl) ?_
  refine lv_iconst (v := nI 2) hx hb dL_law_1063 rfl ?_
  refine n_iadd hx hb dL_law_1064 ?_
  refine l_sld C0 hX hbl hS (j := i + 2) (by omega) hL dL_law_1065 ?_
  refine lv_aload_n hx hb dL_law_1066 rfl (lv_at hl 3 rfl) ?_
  refine k_i (rn_L_161 (As := [.ref (ad 0), .int (xs (i + 1)), .int (xs (i + 2)), .ref (ad 10)]) (rest := []) C0 (M _) hP hS rfl ⟨r1, r2⟩ ⟨rm_f r3, rm_l r4 (by decide)⟩ hl.1 rfl (Nat.le_of_ble_eq_true rfl) dL_law_1067 ⟨rm_c hc1 (by omega), rm_s hs1 (by omega)⟩) C0 hP hS (fun v1 c1 H locs hp hP hS => ?_)
  obtain ⟨rfl, hR1⟩ := hp
  obtain ⟨⟨fs, h6⟩, rm2, R2, g1, g2, g3, g4, M2, M3⟩ := M2 _ hR1
  refine W.widen (k := cells + 5) (n := slots + 65) (by omega) (by omega) ?_
  refine lv_istore (lv' := [(6, .int (nI k)), (0, .ref b), (1, .ref (ad 0)), (2, .ref (ad 6)), (3, .ref (ad 10)), (4, .ref (ad 11)), (5, .int (nI i))]) hx hb dL_law_1070 hl (by decide) rfl (fun ls hl => ?_)
  refine lv_aload_n hx hb dL_law_1072 rfl (lv_at hl 3 rfl) ?_
  refine lv_aload_n hx hb dL_law_1073 rfl (lv_at hl 1 rfl) ?_
  refine lv_iload hx hb dL_law_1074 (lv_at hl 6 rfl) ?_
  refine lv_iconst (v := nI 1) hx hb dL_law_1076 rfl ?_
  refine n_iadd hx hb dL_law_1077 ?_
  refine l_sld C0 hX hbl hS (j := i + 1) (by omega) hL dL_law_1078 ?_
  refine lv_aload_n hx hb dL_law_1079 rfl (lv_at hl 1 rfl) ?_
  refine lv_iload hx hb dL_law_1080 (lv_at hl 6 rfl) ?_
  refine lv_iconst (v := nI 2) hx hb dL_law_1082 rfl ?_
  refine n_iadd hx hb dL_law_1083 ?_
  refine l_sld C0 hX hbl hS (j := i + 2) (by omega) hL dL_law_1084 ?_
  refine k0_i (rn_L_163 (As := [.int (xs (i + 1)), .int (xs (i + 2))]) (rest := []) (r := 6) C0 (M2 _) hP hS (by omega) h6 rfl ⟨g1, g2⟩ ⟨rm_f g3, rm_l g4 (by decide)⟩ hl.1 rfl (Nat.le_of_ble_eq_true rfl) dL_law_1085 ⟨hc1, hs1⟩) C0 hP hS (fun v2 c2 H locs hp hP hS => ?_)
  obtain ⟨sc', st', nw', ah', rw', fo', hI', hk⟩ := M3 _ _ hp
  refine lv_istore (lv' := [(7, .int v2), (6, .int (nI k)), (0, .ref b), (1, .ref (ad 0)), (2, .ref (ad 6)), (3, .ref (ad 10)), (4, .ref (ad 11)), (5, .int (nI i))]) hx hb dL_law_1088 hl (by decide) rfl (fun ls hl => ?_)
  refine lv_aload_n hx hb dL_law_1090 rfl (lv_at hl 4 rfl) ?_
  refine k0_i (rn_L_114 (As := []) (rest := []) (r := 6) C0 (m_X2_thrown l D cA N ad c2 (nI k) n nw' ah' rw' (by omega) hI'.mo hI'.n5 _) hP hS (by omega) hI'.mo.1 rfl ⟨rfl, rfl⟩ ⟨Nat.le_of_ble_eq_true rfl, Nat.le_of_ble_eq_true rfl⟩ hl.1 rfl (Nat.le_of_ble_eq_true rfl) dL_law_1091 ⟨hc1, hs1⟩) C0 hP hS (fun v3 c3 H locs hp hP hS => ?_)
  obtain ⟨rfl, rfl⟩ := hp
  refine lv_iload hx hb dL_law_1094 (lv_at hl 1 rfl) ?_
  refine lv_icmp_eq (tgt := 1101) hx hb dL_law_1096 (by decide) (fun _ => ?_) (fun h => absurd rfl h)
  refine lv_iload hx hb dL_law_1101 (lv_at hl 1 rfl) ?_
  refine lv_if_ne (tgt := 1118) hx hb dL_law_1103 (by decide) (fun _ => ?_) (fun h => ?_)
  · skip
    refine lv_goto (tgt := 2048) hx hb dL_law_1118 (by decide) ?_
    exact hT N n ad c2 sc' st' (nI k) nw' ah' rw' fo' fd C0 hI' _ _ _ hP hS (lv_sub hl [2, 3, 4, 5, 6, 7] rfl)
  · skip
    refine lv_aload_n hx hb dL_law_1106 rfl (lv_at hl 5 rfl) ?_
    refine lv_iconst (v := nI 0) hx hb dL_law_1107 rfl ?_
    refine a_lld C0 hP (r := 10) (by omega) hI'.out (by decide) (by decide) dL_law_1108 ?_
    refine lv_iload hx hb dL_law_1109 (lv_at hl 0 rfl) ?_
    refine lv_i2l (v := v2.toInt64) hx hb dL_law_1111 rfl ?_
    refine W.lcmp hx hb dL_law_1112 ?_
    rw [lg_same (hk (k0_of r7 h))]
    refine lv_if_eq (tgt := 1118) hx hb dL_law_1113 (by decide) (fun _ => ?_) (fun h => absurd rfl h)
    refine lv_goto (tgt := 2048) hx hb dL_law_1118 (by decide) ?_
    exact hT N n ad c2 sc' st' (nI k) nw' ah' rw' fo' fd C0 hI' _ _ _ hP hS (lv_sub hl [2, 3, 4, 5, 6, 7] rfl)
set_option maxHeartbeats 1000000 in
set_option maxRecDepth 10000 in
theorem lc_placeOf {p : Program} {e : Env} {s : State} {m : MethodId} {below : List Frame} {meth : Method} {c0 : Code} {H : Heap} {locs : List Loc} {ls : Array Slot} {Q : State → Prop} (l : Launch) (hfl : l.stackTraces = false) (D : va_G) (cA : Nat → ClassId) (N : Nat) (ad : Nat → Nat) (c : Nat → va_E) (b L : Nat) (xs : Nat → Int32) (n : Nat) (sc : Nat → Nat → Nat) (st : Nat → Nat → Nat → Int32) (th : Int32) (nw ah rw : Nat → Int32) (fo : Nat → Int64) (fd : Nat → UInt64) (B i cells slots : Nat) (C0 : Cx p s m c0 cL_law 9 RL D cA N ad (fun q => s.heap.size ≤ q)) (hX : va_X b L xs s s.heap) (hbl : b < s.heap.size) (hi : i + 5 ≤ L) (hL : L ≤ 2560) (hI : Inv ad cA c N n sc st th nw ah rw fo fd B) (hB : B ≤ 110000) (hc1 : cells + 5 ≤ 601024) (hs1 : slots + 65 ≤ 7293034) (hT : LTail p l e s m below meth c0 Q D cA b (cells + 5) (slots + 65) i (B + 200)) (hP : va_P D vwCl (wl N ad c) H) (hS : va_S (fun q => s.heap.size ≤ q) s.heap H locs) (hl : lv_has ls 9 [(0, .ref b), (1, .ref (ad 0)), (2, .ref (ad 6)), (3, .ref (ad 10)), (4, .ref (ad 11)), (5, .int (nI i))]) : W p l e room_1 s m #[Value.ref b] below meth c0 H locs cells slots Q (F0 m 1121 ls []) := by
  have hx := C0.1
  have hb := C0.2.1
  have hN := hI.hN
  have hn5 := hI.n5
  obtain ⟨rm, mc, ms, k, R1, r1, r2, r3, r4, r5, r6, r7, M, M2⟩ := s_placeOf l D cA N ad c hfl n sc st th nw ah rw fo fd B hI hB (xs (i + 1)) (xs (i + 2))
  refine lv_aload_n hx hb dL_law_1121 rfl (lv_at hl 1 rfl) ?_
  refine lv_aload_n hx hb dL_law_1122 rfl (lv_at hl 0 rfl) ?_
  refine lv_iload hx hb dL_law_1123 (lv_at hl 5 rfl) ?_
  refine lv_iconst (v := nI 1) hx hb dL_law_1125 rfl ?_
  refine n_iadd hx hb dL_law_1126 ?_
  refine l_sld C0 hX hbl hS (j := i + 1) (by omega) hL dL_law_1127 ?_
  refine lv_aload_n hx hb dL_law_1128 rfl (lv_at hl 0 rfl) ?_
  refine lv_iload hx hb dL_law_1129 (lv_at hl 5 rfl) ?_
  refine lv_iconst (v := nI 2) hx hb dL_law_1131 rfl ?_
  refine n_iadd hx hb dL_law_1132 ?_
  refine l_sld C0 hX hbl hS (j := i + 2) (by omega) hL dL_law_1133 ?_
  refine lv_aload_n hx hb dL_law_1134 rfl (lv_at hl 3 rfl) ?_
  refine k_i (rn_L_164 (As := [.ref (ad 0), .int (xs (i + 1)), .int (xs (i + 2)), .ref (ad 10)]) (rest := []) C0 (M _) hP hS rfl ⟨r1, r2⟩ ⟨rm_f r3, rm_l r4 (by decide)⟩ hl.1 rfl (Nat.le_of_ble_eq_true rfl) dL_law_1135 ⟨rm_c hc1 (by omega), rm_s hs1 (by omega)⟩) C0 hP hS (fun v1 c1 H locs hp hP hS => ?_)
  obtain ⟨rfl, hR1⟩ := hp
  obtain ⟨⟨fs, h6⟩, rm2, R2, g1, g2, g3, g4, M2, M3⟩ := M2 _ hR1
  refine W.widen (k := cells + 5) (n := slots + 65) (by omega) (by omega) ?_
  refine lv_istore (lv' := [(6, .int (nI k)), (0, .ref b), (1, .ref (ad 0)), (2, .ref (ad 6)), (3, .ref (ad 10)), (4, .ref (ad 11)), (5, .int (nI i))]) hx hb dL_law_1138 hl (by decide) rfl (fun ls hl => ?_)
  refine lv_aload_n hx hb dL_law_1140 rfl (lv_at hl 3 rfl) ?_
  refine lv_aload_n hx hb dL_law_1141 rfl (lv_at hl 1 rfl) ?_
  refine lv_iload hx hb dL_law_1142 (lv_at hl 6 rfl) ?_
  refine lv_iconst (v := nI 1) hx hb dL_law_1144 rfl ?_
  refine n_iadd hx hb dL_law_1145 ?_
  refine l_sld C0 hX hbl hS (j := i + 1) (by omega) hL dL_law_1146 ?_
  refine lv_aload_n hx hb dL_law_1147 rfl (lv_at hl 1 rfl) ?_
  refine lv_iload hx hb dL_law_1148 (lv_at hl 6 rfl) ?_
  refine lv_iconst (v := nI 2) hx hb dL_law_1150 rfl ?_
  refine n_iadd hx hb dL_law_1151 ?_
  refine l_sld C0 hX hbl hS (j := i + 2) (by omega) hL dL_law_1152 ?_
  refine k0_i (rn_L_166 (As := [.int (xs (i + 1)), .int (xs (i + 2))]) (rest := []) (r := 6) C0 (M2 _) hP hS (by omega) h6 rfl ⟨g1, g2⟩ ⟨rm_f g3, rm_l g4 (by decide)⟩ hl.1 rfl (Nat.le_of_ble_eq_true rfl) dL_law_1153 ⟨hc1, hs1⟩) C0 hP hS (fun v2 c2 H locs hp hP hS => ?_)
  obtain ⟨sc', st', nw', ah', rw', fo', hI', hk⟩ := M3 _ _ hp
  refine lv_istore (lv' := [(7, .int v2), (6, .int (nI k)), (0, .ref b), (1, .ref (ad 0)), (2, .ref (ad 6)), (3, .ref (ad 10)), (4, .ref (ad 11)), (5, .int (nI i))]) hx hb dL_law_1156 hl (by decide) rfl (fun ls hl => ?_)
  refine lv_aload_n hx hb dL_law_1158 rfl (lv_at hl 4 rfl) ?_
  refine k0_i (rn_L_114 (As := []) (rest := []) (r := 6) C0 (m_X2_thrown l D cA N ad c2 (nI k) n nw' ah' rw' (by omega) hI'.mo hI'.n5 _) hP hS (by omega) hI'.mo.1 rfl ⟨rfl, rfl⟩ ⟨Nat.le_of_ble_eq_true rfl, Nat.le_of_ble_eq_true rfl⟩ hl.1 rfl (Nat.le_of_ble_eq_true rfl) dL_law_1159 ⟨hc1, hs1⟩) C0 hP hS (fun v3 c3 H locs hp hP hS => ?_)
  obtain ⟨rfl, rfl⟩ := hp
  refine lv_iload hx hb dL_law_1162 (lv_at hl 1 rfl) ?_
  refine lv_icmp_eq (tgt := 1169) hx hb dL_law_1164 (by decide) (fun _ => ?_) (fun h => absurd rfl h)
  refine lv_iload hx hb dL_law_1169 (lv_at hl 1 rfl) ?_
  refine lv_if_ne (tgt := 1186) hx hb dL_law_1171 (by decide) (fun _ => ?_) (fun h => ?_)
  · skip
    refine lv_goto (tgt := 2048) hx hb dL_law_1186 (by decide) ?_
    exact hT N n ad c2 sc' st' (nI k) nw' ah' rw' fo' fd C0 hI' _ _ _ hP hS (lv_sub hl [2, 3, 4, 5, 6, 7] rfl)
  · skip
    refine lv_aload_n hx hb dL_law_1174 rfl (lv_at hl 5 rfl) ?_
    refine lv_iconst (v := nI 0) hx hb dL_law_1175 rfl ?_
    refine a_lld C0 hP (r := 10) (by omega) hI'.out (by decide) (by decide) dL_law_1176 ?_
    refine lv_iload hx hb dL_law_1177 (lv_at hl 0 rfl) ?_
    refine lv_i2l (v := v2.toInt64) hx hb dL_law_1179 rfl ?_
    refine W.lcmp hx hb dL_law_1180 ?_
    rw [lg_same (hk (k0_of r7 h))]
    refine lv_if_eq (tgt := 1186) hx hb dL_law_1181 (by decide) (fun _ => ?_) (fun h => absurd rfl h)
    refine lv_goto (tgt := 2048) hx hb dL_law_1186 (by decide) ?_
    exact hT N n ad c2 sc' st' (nI k) nw' ah' rw' fo' fd C0 hI' _ _ _ hP hS (lv_sub hl [2, 3, 4, 5, 6, 7] rfl)
set_option maxHeartbeats 1000000 in
set_option maxRecDepth 10000 in
theorem lc_sum {p : Program} {e : Env} {s : State} {m : MethodId} {below : List Frame} {meth : Method} {c0 : Code} {H : Heap} {locs : List Loc} {ls : Array Slot} {Q : State → Prop} (l : Launch) (hfl : l.stackTraces = false) (D : va_G) (cA : Nat → ClassId) (N : Nat) (ad : Nat → Nat) (c : Nat → va_E) (b L : Nat) (xs : Nat → Int32) (n : Nat) (sc : Nat → Nat → Nat) (st : Nat → Nat → Nat → Int32) (th : Int32) (nw ah rw : Nat → Int32) (fo : Nat → Int64) (fd : Nat → UInt64) (B i cells slots : Nat) (C0 : Cx p s m c0 cL_law 9 RL D cA N ad (fun q => s.heap.size ≤ q)) (hX : va_X b L xs s s.heap) (hbl : b < s.heap.size) (hi : i + 5 ≤ L) (hL : L ≤ 2560) (hI : Inv ad cA c N n sc st th nw ah rw fo fd B) (hB : B ≤ 110000) (hc1 : cells + 5 ≤ 601024) (hs1 : slots + 65 ≤ 7293034) (hT : LTail p l e s m below meth c0 Q D cA b (cells + 5) (slots + 65) i (B + 200)) (hP : va_P D vwCl (wl N ad c) H) (hS : va_S (fun q => s.heap.size ≤ q) s.heap H locs) (hl : lv_has ls 9 [(0, .ref b), (1, .ref (ad 0)), (2, .ref (ad 6)), (3, .ref (ad 10)), (4, .ref (ad 11)), (5, .int (nI i))]) : W p l e room_1 s m #[Value.ref b] below meth c0 H locs cells slots Q (F0 m 1189 ls []) := by
  have hx := C0.1
  have hb := C0.2.1
  have hN := hI.hN
  have hn5 := hI.n5
  obtain ⟨rm, mc, ms, k, R1, r1, r2, r3, r4, r5, r6, r7, M, M2⟩ := s_sum l D cA N ad c hfl n sc st th nw ah rw fo fd B hI hB (xs (i + 1))
  refine lv_aload_n hx hb dL_law_1189 rfl (lv_at hl 1 rfl) ?_
  refine lv_aload_n hx hb dL_law_1190 rfl (lv_at hl 0 rfl) ?_
  refine lv_iload hx hb dL_law_1191 (lv_at hl 5 rfl) ?_
  refine lv_iconst (v := nI 1) hx hb dL_law_1193 rfl ?_
  refine n_iadd hx hb dL_law_1194 ?_
  refine l_sld C0 hX hbl hS (j := i + 1) (by omega) hL dL_law_1195 ?_
  refine lv_aload_n hx hb dL_law_1196 rfl (lv_at hl 3 rfl) ?_
  refine k_i (rn_L_167 (As := [.ref (ad 0), .int (xs (i + 1)), .ref (ad 10)]) (rest := []) C0 (M _) hP hS rfl ⟨r1, r2⟩ ⟨rm_f r3, rm_l r4 (by decide)⟩ hl.1 rfl (Nat.le_of_ble_eq_true rfl) dL_law_1197 ⟨rm_c hc1 (by omega), rm_s hs1 (by omega)⟩) C0 hP hS (fun v1 c1 H locs hp hP hS => ?_)
  obtain ⟨rfl, hR1⟩ := hp
  obtain ⟨⟨fs, h6⟩, rm2, R2, g1, g2, g3, g4, M2, M3⟩ := M2 _ hR1
  refine W.widen (k := cells + 5) (n := slots + 65) (by omega) (by omega) ?_
  refine lv_istore (lv' := [(6, .int (nI k)), (0, .ref b), (1, .ref (ad 0)), (2, .ref (ad 6)), (3, .ref (ad 10)), (4, .ref (ad 11)), (5, .int (nI i))]) hx hb dL_law_1200 hl (by decide) rfl (fun ls hl => ?_)
  refine lv_aload_n hx hb dL_law_1202 rfl (lv_at hl 3 rfl) ?_
  refine lv_aload_n hx hb dL_law_1203 rfl (lv_at hl 1 rfl) ?_
  refine lv_iload hx hb dL_law_1204 (lv_at hl 6 rfl) ?_
  refine lv_iconst (v := nI 1) hx hb dL_law_1206 rfl ?_
  refine n_iadd hx hb dL_law_1207 ?_
  refine l_sld C0 hX hbl hS (j := i + 1) (by omega) hL dL_law_1208 ?_
  refine k0_i (rn_L_169 (As := [.int (xs (i + 1))]) (rest := []) (r := 6) C0 (M2 _) hP hS (by omega) h6 rfl ⟨g1, g2⟩ ⟨rm_f g3, rm_l g4 (by decide)⟩ hl.1 rfl (Nat.le_of_ble_eq_true rfl) dL_law_1209 ⟨hc1, hs1⟩) C0 hP hS (fun v2 c2 H locs hp hP hS => ?_)
  obtain ⟨sc', st', nw', ah', rw', fo', hI', hk⟩ := M3 _ _ hp
  refine lv_istore (lv' := [(7, .int v2), (6, .int (nI k)), (0, .ref b), (1, .ref (ad 0)), (2, .ref (ad 6)), (3, .ref (ad 10)), (4, .ref (ad 11)), (5, .int (nI i))]) hx hb dL_law_1212 hl (by decide) rfl (fun ls hl => ?_)
  refine lv_aload_n hx hb dL_law_1214 rfl (lv_at hl 4 rfl) ?_
  refine k0_i (rn_L_114 (As := []) (rest := []) (r := 6) C0 (m_X2_thrown l D cA N ad c2 (nI k) n nw' ah' rw' (by omega) hI'.mo hI'.n5 _) hP hS (by omega) hI'.mo.1 rfl ⟨rfl, rfl⟩ ⟨Nat.le_of_ble_eq_true rfl, Nat.le_of_ble_eq_true rfl⟩ hl.1 rfl (Nat.le_of_ble_eq_true rfl) dL_law_1215 ⟨hc1, hs1⟩) C0 hP hS (fun v3 c3 H locs hp hP hS => ?_)
  obtain ⟨rfl, rfl⟩ := hp
  refine lv_iload hx hb dL_law_1218 (lv_at hl 1 rfl) ?_
  refine lv_icmp_eq (tgt := 1225) hx hb dL_law_1220 (by decide) (fun _ => ?_) (fun h => absurd rfl h)
  refine lv_iload hx hb dL_law_1225 (lv_at hl 1 rfl) ?_
  refine lv_if_ne (tgt := 1242) hx hb dL_law_1227 (by decide) (fun _ => ?_) (fun h => ?_)
  · skip
    refine lv_goto (tgt := 2048) hx hb dL_law_1242 (by decide) ?_
    exact hT N n ad c2 sc' st' (nI k) nw' ah' rw' fo' fd C0 hI' _ _ _ hP hS (lv_sub hl [2, 3, 4, 5, 6, 7] rfl)
  · skip
    refine lv_aload_n hx hb dL_law_1230 rfl (lv_at hl 5 rfl) ?_
    refine lv_iconst (v := nI 0) hx hb dL_law_1231 rfl ?_
    refine a_lld C0 hP (r := 10) (by omega) hI'.out (by decide) (by decide) dL_law_1232 ?_
    refine lv_iload hx hb dL_law_1233 (lv_at hl 0 rfl) ?_
    refine lv_i2l (v := v2.toInt64) hx hb dL_law_1235 rfl ?_
    refine W.lcmp hx hb dL_law_1236 ?_
    rw [lg_same (hk (k0_of r7 h))]
    refine lv_if_eq (tgt := 1242) hx hb dL_law_1237 (by decide) (fun _ => ?_) (fun h => absurd rfl h)
    refine lv_goto (tgt := 2048) hx hb dL_law_1242 (by decide) ?_
    exact hT N n ad c2 sc' st' (nI k) nw' ah' rw' fo' fd C0 hI' _ _ _ hP hS (lv_sub hl [2, 3, 4, 5, 6, 7] rfl)
set_option maxHeartbeats 1000000 in
set_option maxRecDepth 10000 in
theorem lc_lowest {p : Program} {e : Env} {s : State} {m : MethodId} {below : List Frame} {meth : Method} {c0 : Code} {H : Heap} {locs : List Loc} {ls : Array Slot} {Q : State → Prop} (l : Launch) (hfl : l.stackTraces = false) (D : va_G) (cA : Nat → ClassId) (N : Nat) (ad : Nat → Nat) (c : Nat → va_E) (b L : Nat) (xs : Nat → Int32) (n : Nat) (sc : Nat → Nat → Nat) (st : Nat → Nat → Nat → Int32) (th : Int32) (nw ah rw : Nat → Int32) (fo : Nat → Int64) (fd : Nat → UInt64) (B i cells slots : Nat) (C0 : Cx p s m c0 cL_law 9 RL D cA N ad (fun q => s.heap.size ≤ q)) (hX : va_X b L xs s s.heap) (hbl : b < s.heap.size) (hi : i + 5 ≤ L) (hL : L ≤ 2560) (hI : Inv ad cA c N n sc st th nw ah rw fo fd B) (hB : B ≤ 110000) (hc1 : cells + 5 ≤ 601024) (hs1 : slots + 65 ≤ 7293034) (hT : LTail p l e s m below meth c0 Q D cA b (cells + 5) (slots + 65) i (B + 200)) (hP : va_P D vwCl (wl N ad c) H) (hS : va_S (fun q => s.heap.size ≤ q) s.heap H locs) (hl : lv_has ls 9 [(0, .ref b), (1, .ref (ad 0)), (2, .ref (ad 6)), (3, .ref (ad 10)), (4, .ref (ad 11)), (5, .int (nI i))]) : W p l e room_1 s m #[Value.ref b] below meth c0 H locs cells slots Q (F0 m 1245 ls []) := by
  have hx := C0.1
  have hb := C0.2.1
  have hN := hI.hN
  have hn5 := hI.n5
  obtain ⟨rm, mc, ms, k, R1, r1, r2, r3, r4, r5, r6, r7, M, M2⟩ := s_lowest l D cA N ad c hfl n sc st th nw ah rw fo fd B hI hB (xs (i + 1))
  refine lv_aload_n hx hb dL_law_1245 rfl (lv_at hl 1 rfl) ?_
  refine lv_aload_n hx hb dL_law_1246 rfl (lv_at hl 0 rfl) ?_
  refine lv_iload hx hb dL_law_1247 (lv_at hl 5 rfl) ?_
  refine lv_iconst (v := nI 1) hx hb dL_law_1249 rfl ?_
  refine n_iadd hx hb dL_law_1250 ?_
  refine l_sld C0 hX hbl hS (j := i + 1) (by omega) hL dL_law_1251 ?_
  refine lv_aload_n hx hb dL_law_1252 rfl (lv_at hl 3 rfl) ?_
  refine k_i (rn_L_170 (As := [.ref (ad 0), .int (xs (i + 1)), .ref (ad 10)]) (rest := []) C0 (M _) hP hS rfl ⟨r1, r2⟩ ⟨rm_f r3, rm_l r4 (by decide)⟩ hl.1 rfl (Nat.le_of_ble_eq_true rfl) dL_law_1253 ⟨rm_c hc1 (by omega), rm_s hs1 (by omega)⟩) C0 hP hS (fun v1 c1 H locs hp hP hS => ?_)
  obtain ⟨rfl, hR1⟩ := hp
  obtain ⟨⟨fs, h6⟩, rm2, R2, g1, g2, g3, g4, M2, M3⟩ := M2 _ hR1
  refine W.widen (k := cells + 5) (n := slots + 65) (by omega) (by omega) ?_
  refine lv_istore (lv' := [(6, .int (nI k)), (0, .ref b), (1, .ref (ad 0)), (2, .ref (ad 6)), (3, .ref (ad 10)), (4, .ref (ad 11)), (5, .int (nI i))]) hx hb dL_law_1256 hl (by decide) rfl (fun ls hl => ?_)
  refine lv_aload_n hx hb dL_law_1258 rfl (lv_at hl 3 rfl) ?_
  refine lv_aload_n hx hb dL_law_1259 rfl (lv_at hl 1 rfl) ?_
  refine lv_iload hx hb dL_law_1260 (lv_at hl 6 rfl) ?_
  refine lv_iconst (v := nI 1) hx hb dL_law_1262 rfl ?_
  refine n_iadd hx hb dL_law_1263 ?_
  refine l_sld C0 hX hbl hS (j := i + 1) (by omega) hL dL_law_1264 ?_
  refine k0_i (rn_L_172 (As := [.int (xs (i + 1))]) (rest := []) (r := 6) C0 (M2 _) hP hS (by omega) h6 rfl ⟨g1, g2⟩ ⟨rm_f g3, rm_l g4 (by decide)⟩ hl.1 rfl (Nat.le_of_ble_eq_true rfl) dL_law_1265 ⟨hc1, hs1⟩) C0 hP hS (fun v2 c2 H locs hp hP hS => ?_)
  obtain ⟨sc', st', nw', ah', rw', fo', hI', hk⟩ := M3 _ _ hp
  refine lv_istore (lv' := [(7, .int v2), (6, .int (nI k)), (0, .ref b), (1, .ref (ad 0)), (2, .ref (ad 6)), (3, .ref (ad 10)), (4, .ref (ad 11)), (5, .int (nI i))]) hx hb dL_law_1268 hl (by decide) rfl (fun ls hl => ?_)
  refine lv_aload_n hx hb dL_law_1270 rfl (lv_at hl 4 rfl) ?_
  refine k0_i (rn_L_114 (As := []) (rest := []) (r := 6) C0 (m_X2_thrown l D cA N ad c2 (nI k) n nw' ah' rw' (by omega) hI'.mo hI'.n5 _) hP hS (by omega) hI'.mo.1 rfl ⟨rfl, rfl⟩ ⟨Nat.le_of_ble_eq_true rfl, Nat.le_of_ble_eq_true rfl⟩ hl.1 rfl (Nat.le_of_ble_eq_true rfl) dL_law_1271 ⟨hc1, hs1⟩) C0 hP hS (fun v3 c3 H locs hp hP hS => ?_)
  obtain ⟨rfl, rfl⟩ := hp
  refine lv_iload hx hb dL_law_1274 (lv_at hl 1 rfl) ?_
  refine lv_icmp_eq (tgt := 1281) hx hb dL_law_1276 (by decide) (fun _ => ?_) (fun h => absurd rfl h)
  refine lv_iload hx hb dL_law_1281 (lv_at hl 1 rfl) ?_
  refine lv_if_ne (tgt := 1298) hx hb dL_law_1283 (by decide) (fun _ => ?_) (fun h => ?_)
  · skip
    refine lv_goto (tgt := 2048) hx hb dL_law_1298 (by decide) ?_
    exact hT N n ad c2 sc' st' (nI k) nw' ah' rw' fo' fd C0 hI' _ _ _ hP hS (lv_sub hl [2, 3, 4, 5, 6, 7] rfl)
  · skip
    refine lv_aload_n hx hb dL_law_1286 rfl (lv_at hl 5 rfl) ?_
    refine lv_iconst (v := nI 0) hx hb dL_law_1287 rfl ?_
    refine a_lld C0 hP (r := 10) (by omega) hI'.out (by decide) (by decide) dL_law_1288 ?_
    refine lv_iload hx hb dL_law_1289 (lv_at hl 0 rfl) ?_
    refine lv_i2l (v := v2.toInt64) hx hb dL_law_1291 rfl ?_
    refine W.lcmp hx hb dL_law_1292 ?_
    rw [lg_same (hk (k0_of r7 h))]
    refine lv_if_eq (tgt := 1298) hx hb dL_law_1293 (by decide) (fun _ => ?_) (fun h => absurd rfl h)
    refine lv_goto (tgt := 2048) hx hb dL_law_1298 (by decide) ?_
    exact hT N n ad c2 sc' st' (nI k) nw' ah' rw' fo' fd C0 hI' _ _ _ hP hS (lv_sub hl [2, 3, 4, 5, 6, 7] rfl)
set_option maxHeartbeats 1000000 in
set_option maxRecDepth 10000 in
theorem lc_rankOf {p : Program} {e : Env} {s : State} {m : MethodId} {below : List Frame} {meth : Method} {c0 : Code} {H : Heap} {locs : List Loc} {ls : Array Slot} {Q : State → Prop} (l : Launch) (hfl : l.stackTraces = false) (D : va_G) (cA : Nat → ClassId) (N : Nat) (ad : Nat → Nat) (c : Nat → va_E) (b L : Nat) (xs : Nat → Int32) (n : Nat) (sc : Nat → Nat → Nat) (st : Nat → Nat → Nat → Int32) (th : Int32) (nw ah rw : Nat → Int32) (fo : Nat → Int64) (fd : Nat → UInt64) (B i cells slots : Nat) (C0 : Cx p s m c0 cL_law 9 RL D cA N ad (fun q => s.heap.size ≤ q)) (hX : va_X b L xs s s.heap) (hbl : b < s.heap.size) (hi : i + 5 ≤ L) (hL : L ≤ 2560) (hI : Inv ad cA c N n sc st th nw ah rw fo fd B) (hB : B ≤ 110000) (hc1 : cells + 5 ≤ 601024) (hs1 : slots + 65 ≤ 7293034) (hT : LTail p l e s m below meth c0 Q D cA b (cells + 5) (slots + 65) i (B + 200)) (hP : va_P D vwCl (wl N ad c) H) (hS : va_S (fun q => s.heap.size ≤ q) s.heap H locs) (hl : lv_has ls 9 [(0, .ref b), (1, .ref (ad 0)), (2, .ref (ad 6)), (3, .ref (ad 10)), (4, .ref (ad 11)), (5, .int (nI i))]) : W p l e room_1 s m #[Value.ref b] below meth c0 H locs cells slots Q (F0 m 1301 ls []) := by
  have hx := C0.1
  have hb := C0.2.1
  have hN := hI.hN
  have hn5 := hI.n5
  obtain ⟨rm, mc, ms, k, R1, r1, r2, r3, r4, r5, r6, r7, M, M2⟩ := s_rankOf l D cA N ad c hfl n sc st th nw ah rw fo fd B hI hB (xs (i + 1)) (xs (i + 2))
  refine lv_aload_n hx hb dL_law_1301 rfl (lv_at hl 1 rfl) ?_
  refine lv_aload_n hx hb dL_law_1302 rfl (lv_at hl 0 rfl) ?_
  refine lv_iload hx hb dL_law_1303 (lv_at hl 5 rfl) ?_
  refine lv_iconst (v := nI 1) hx hb dL_law_1305 rfl ?_
  refine n_iadd hx hb dL_law_1306 ?_
  refine l_sld C0 hX hbl hS (j := i + 1) (by omega) hL dL_law_1307 ?_
  refine lv_aload_n hx hb dL_law_1308 rfl (lv_at hl 0 rfl) ?_
  refine lv_iload hx hb dL_law_1309 (lv_at hl 5 rfl) ?_
  refine lv_iconst (v := nI 2) hx hb dL_law_1311 rfl ?_
  refine n_iadd hx hb dL_law_1312 ?_
  refine l_sld C0 hX hbl hS (j := i + 2) (by omega) hL dL_law_1313 ?_
  refine lv_aload_n hx hb dL_law_1314 rfl (lv_at hl 3 rfl) ?_
  refine k_i (rn_L_173 (As := [.ref (ad 0), .int (xs (i + 1)), .int (xs (i + 2)), .ref (ad 10)]) (rest := []) C0 (M _) hP hS rfl ⟨r1, r2⟩ ⟨rm_f r3, rm_l r4 (by decide)⟩ hl.1 rfl (Nat.le_of_ble_eq_true rfl) dL_law_1315 ⟨rm_c hc1 (by omega), rm_s hs1 (by omega)⟩) C0 hP hS (fun v1 c1 H locs hp hP hS => ?_)
  obtain ⟨rfl, hR1⟩ := hp
  obtain ⟨⟨fs, h6⟩, rm2, R2, g1, g2, g3, g4, M2, M3⟩ := M2 _ hR1
  refine W.widen (k := cells + 5) (n := slots + 65) (by omega) (by omega) ?_
  refine lv_istore (lv' := [(6, .int (nI k)), (0, .ref b), (1, .ref (ad 0)), (2, .ref (ad 6)), (3, .ref (ad 10)), (4, .ref (ad 11)), (5, .int (nI i))]) hx hb dL_law_1318 hl (by decide) rfl (fun ls hl => ?_)
  refine lv_aload_n hx hb dL_law_1320 rfl (lv_at hl 3 rfl) ?_
  refine lv_aload_n hx hb dL_law_1321 rfl (lv_at hl 1 rfl) ?_
  refine lv_iload hx hb dL_law_1322 (lv_at hl 6 rfl) ?_
  refine lv_iconst (v := nI 1) hx hb dL_law_1324 rfl ?_
  refine n_iadd hx hb dL_law_1325 ?_
  refine l_sld C0 hX hbl hS (j := i + 1) (by omega) hL dL_law_1326 ?_
  refine lv_aload_n hx hb dL_law_1327 rfl (lv_at hl 1 rfl) ?_
  refine lv_iload hx hb dL_law_1328 (lv_at hl 6 rfl) ?_
  refine lv_iconst (v := nI 2) hx hb dL_law_1330 rfl ?_
  refine n_iadd hx hb dL_law_1331 ?_
  refine l_sld C0 hX hbl hS (j := i + 2) (by omega) hL dL_law_1332 ?_
  refine k0_i (rn_L_175 (As := [.int (xs (i + 1)), .int (xs (i + 2))]) (rest := []) (r := 6) C0 (M2 _) hP hS (by omega) h6 rfl ⟨g1, g2⟩ ⟨rm_f g3, rm_l g4 (by decide)⟩ hl.1 rfl (Nat.le_of_ble_eq_true rfl) dL_law_1333 ⟨hc1, hs1⟩) C0 hP hS (fun v2 c2 H locs hp hP hS => ?_)
  obtain ⟨sc', st', nw', ah', rw', fo', hI', hk⟩ := M3 _ _ hp
  refine lv_istore (lv' := [(7, .int v2), (6, .int (nI k)), (0, .ref b), (1, .ref (ad 0)), (2, .ref (ad 6)), (3, .ref (ad 10)), (4, .ref (ad 11)), (5, .int (nI i))]) hx hb dL_law_1336 hl (by decide) rfl (fun ls hl => ?_)
  refine lv_aload_n hx hb dL_law_1338 rfl (lv_at hl 4 rfl) ?_
  refine k0_i (rn_L_114 (As := []) (rest := []) (r := 6) C0 (m_X2_thrown l D cA N ad c2 (nI k) n nw' ah' rw' (by omega) hI'.mo hI'.n5 _) hP hS (by omega) hI'.mo.1 rfl ⟨rfl, rfl⟩ ⟨Nat.le_of_ble_eq_true rfl, Nat.le_of_ble_eq_true rfl⟩ hl.1 rfl (Nat.le_of_ble_eq_true rfl) dL_law_1339 ⟨hc1, hs1⟩) C0 hP hS (fun v3 c3 H locs hp hP hS => ?_)
  obtain ⟨rfl, rfl⟩ := hp
  refine lv_iload hx hb dL_law_1342 (lv_at hl 1 rfl) ?_
  refine lv_icmp_eq (tgt := 1349) hx hb dL_law_1344 (by decide) (fun _ => ?_) (fun h => absurd rfl h)
  refine lv_iload hx hb dL_law_1349 (lv_at hl 1 rfl) ?_
  refine lv_if_ne (tgt := 1366) hx hb dL_law_1351 (by decide) (fun _ => ?_) (fun h => ?_)
  · skip
    refine lv_goto (tgt := 2048) hx hb dL_law_1366 (by decide) ?_
    exact hT N n ad c2 sc' st' (nI k) nw' ah' rw' fo' fd C0 hI' _ _ _ hP hS (lv_sub hl [2, 3, 4, 5, 6, 7] rfl)
  · skip
    refine lv_aload_n hx hb dL_law_1354 rfl (lv_at hl 5 rfl) ?_
    refine lv_iconst (v := nI 0) hx hb dL_law_1355 rfl ?_
    refine a_lld C0 hP (r := 10) (by omega) hI'.out (by decide) (by decide) dL_law_1356 ?_
    refine lv_iload hx hb dL_law_1357 (lv_at hl 0 rfl) ?_
    refine lv_i2l (v := v2.toInt64) hx hb dL_law_1359 rfl ?_
    refine W.lcmp hx hb dL_law_1360 ?_
    rw [lg_same (hk (k0_of r7 h))]
    refine lv_if_eq (tgt := 1366) hx hb dL_law_1361 (by decide) (fun _ => ?_) (fun h => absurd rfl h)
    refine lv_goto (tgt := 2048) hx hb dL_law_1366 (by decide) ?_
    exact hT N n ad c2 sc' st' (nI k) nw' ah' rw' fo' fd C0 hI' _ _ _ hP hS (lv_sub hl [2, 3, 4, 5, 6, 7] rfl)
set_option maxHeartbeats 1000000 in
set_option maxRecDepth 10000 in
theorem lc_middle {p : Program} {e : Env} {s : State} {m : MethodId} {below : List Frame} {meth : Method} {c0 : Code} {H : Heap} {locs : List Loc} {ls : Array Slot} {Q : State → Prop} (l : Launch) (hfl : l.stackTraces = false) (D : va_G) (cA : Nat → ClassId) (N : Nat) (ad : Nat → Nat) (c : Nat → va_E) (b L : Nat) (xs : Nat → Int32) (n : Nat) (sc : Nat → Nat → Nat) (st : Nat → Nat → Nat → Int32) (th : Int32) (nw ah rw : Nat → Int32) (fo : Nat → Int64) (fd : Nat → UInt64) (B i cells slots : Nat) (C0 : Cx p s m c0 cL_law 9 RL D cA N ad (fun q => s.heap.size ≤ q)) (hX : va_X b L xs s s.heap) (hbl : b < s.heap.size) (hi : i + 5 ≤ L) (hL : L ≤ 2560) (hI : Inv ad cA c N n sc st th nw ah rw fo fd B) (hB : B ≤ 110000) (hc1 : cells + 5 ≤ 601024) (hs1 : slots + 65 ≤ 7293034) (hT : LTail p l e s m below meth c0 Q D cA b (cells + 5) (slots + 65) i (B + 200)) (hP : va_P D vwCl (wl N ad c) H) (hS : va_S (fun q => s.heap.size ≤ q) s.heap H locs) (hl : lv_has ls 9 [(0, .ref b), (1, .ref (ad 0)), (2, .ref (ad 6)), (3, .ref (ad 10)), (4, .ref (ad 11)), (5, .int (nI i))]) : W p l e room_1 s m #[Value.ref b] below meth c0 H locs cells slots Q (F0 m 1369 ls []) := by
  have hx := C0.1
  have hb := C0.2.1
  have hN := hI.hN
  have hn5 := hI.n5
  obtain ⟨rm, mc, ms, k, R1, r1, r2, r3, r4, r5, r6, r7, M, M2⟩ := s_middle l D cA N ad c hfl n sc st th nw ah rw fo fd B hI hB (xs (i + 1))
  refine lv_aload_n hx hb dL_law_1369 rfl (lv_at hl 1 rfl) ?_
  refine lv_aload_n hx hb dL_law_1370 rfl (lv_at hl 0 rfl) ?_
  refine lv_iload hx hb dL_law_1371 (lv_at hl 5 rfl) ?_
  refine lv_iconst (v := nI 1) hx hb dL_law_1373 rfl ?_
  refine n_iadd hx hb dL_law_1374 ?_
  refine l_sld C0 hX hbl hS (j := i + 1) (by omega) hL dL_law_1375 ?_
  refine lv_aload_n hx hb dL_law_1376 rfl (lv_at hl 3 rfl) ?_
  refine k_i (rn_L_176 (As := [.ref (ad 0), .int (xs (i + 1)), .ref (ad 10)]) (rest := []) C0 (M _) hP hS rfl ⟨r1, r2⟩ ⟨rm_f r3, rm_l r4 (by decide)⟩ hl.1 rfl (Nat.le_of_ble_eq_true rfl) dL_law_1377 ⟨rm_c hc1 (by omega), rm_s hs1 (by omega)⟩) C0 hP hS (fun v1 c1 H locs hp hP hS => ?_)
  obtain ⟨rfl, hR1⟩ := hp
  obtain ⟨⟨fs, h6⟩, rm2, R2, g1, g2, g3, g4, M2, M3⟩ := M2 _ hR1
  refine W.widen (k := cells + 5) (n := slots + 65) (by omega) (by omega) ?_
  refine lv_istore (lv' := [(6, .int (nI k)), (0, .ref b), (1, .ref (ad 0)), (2, .ref (ad 6)), (3, .ref (ad 10)), (4, .ref (ad 11)), (5, .int (nI i))]) hx hb dL_law_1380 hl (by decide) rfl (fun ls hl => ?_)
  refine lv_aload_n hx hb dL_law_1382 rfl (lv_at hl 3 rfl) ?_
  refine lv_aload_n hx hb dL_law_1383 rfl (lv_at hl 1 rfl) ?_
  refine lv_iload hx hb dL_law_1384 (lv_at hl 6 rfl) ?_
  refine lv_iconst (v := nI 1) hx hb dL_law_1386 rfl ?_
  refine n_iadd hx hb dL_law_1387 ?_
  refine l_sld C0 hX hbl hS (j := i + 1) (by omega) hL dL_law_1388 ?_
  refine k0_i (rn_L_178 (As := [.int (xs (i + 1))]) (rest := []) (r := 6) C0 (M2 _) hP hS (by omega) h6 rfl ⟨g1, g2⟩ ⟨rm_f g3, rm_l g4 (by decide)⟩ hl.1 rfl (Nat.le_of_ble_eq_true rfl) dL_law_1389 ⟨hc1, hs1⟩) C0 hP hS (fun v2 c2 H locs hp hP hS => ?_)
  obtain ⟨sc', st', nw', ah', rw', fo', hI', hk⟩ := M3 _ _ hp
  refine lv_istore (lv' := [(7, .int v2), (6, .int (nI k)), (0, .ref b), (1, .ref (ad 0)), (2, .ref (ad 6)), (3, .ref (ad 10)), (4, .ref (ad 11)), (5, .int (nI i))]) hx hb dL_law_1392 hl (by decide) rfl (fun ls hl => ?_)
  refine lv_aload_n hx hb dL_law_1394 rfl (lv_at hl 4 rfl) ?_
  refine k0_i (rn_L_114 (As := []) (rest := []) (r := 6) C0 (m_X2_thrown l D cA N ad c2 (nI k) n nw' ah' rw' (by omega) hI'.mo hI'.n5 _) hP hS (by omega) hI'.mo.1 rfl ⟨rfl, rfl⟩ ⟨Nat.le_of_ble_eq_true rfl, Nat.le_of_ble_eq_true rfl⟩ hl.1 rfl (Nat.le_of_ble_eq_true rfl) dL_law_1395 ⟨hc1, hs1⟩) C0 hP hS (fun v3 c3 H locs hp hP hS => ?_)
  obtain ⟨rfl, rfl⟩ := hp
  refine lv_iload hx hb dL_law_1398 (lv_at hl 1 rfl) ?_
  refine lv_icmp_eq (tgt := 1405) hx hb dL_law_1400 (by decide) (fun _ => ?_) (fun h => absurd rfl h)
  refine lv_iload hx hb dL_law_1405 (lv_at hl 1 rfl) ?_
  refine lv_if_ne (tgt := 1422) hx hb dL_law_1407 (by decide) (fun _ => ?_) (fun h => ?_)
  · skip
    refine lv_goto (tgt := 2048) hx hb dL_law_1422 (by decide) ?_
    exact hT N n ad c2 sc' st' (nI k) nw' ah' rw' fo' fd C0 hI' _ _ _ hP hS (lv_sub hl [2, 3, 4, 5, 6, 7] rfl)
  · skip
    refine lv_aload_n hx hb dL_law_1410 rfl (lv_at hl 5 rfl) ?_
    refine lv_iconst (v := nI 0) hx hb dL_law_1411 rfl ?_
    refine a_lld C0 hP (r := 10) (by omega) hI'.out (by decide) (by decide) dL_law_1412 ?_
    refine lv_iload hx hb dL_law_1413 (lv_at hl 0 rfl) ?_
    refine lv_i2l (v := v2.toInt64) hx hb dL_law_1415 rfl ?_
    refine W.lcmp hx hb dL_law_1416 ?_
    rw [lg_same (hk (k0_of r7 h))]
    refine lv_if_eq (tgt := 1422) hx hb dL_law_1417 (by decide) (fun _ => ?_) (fun h => absurd rfl h)
    refine lv_goto (tgt := 2048) hx hb dL_law_1422 (by decide) ?_
    exact hT N n ad c2 sc' st' (nI k) nw' ah' rw' fo' fd C0 hI' _ _ _ hP hS (lv_sub hl [2, 3, 4, 5, 6, 7] rfl)
set_option maxHeartbeats 1000000 in
set_option maxRecDepth 10000 in
theorem lc_shared {p : Program} {e : Env} {s : State} {m : MethodId} {below : List Frame} {meth : Method} {c0 : Code} {H : Heap} {locs : List Loc} {ls : Array Slot} {Q : State → Prop} (l : Launch) (hfl : l.stackTraces = false) (D : va_G) (cA : Nat → ClassId) (N : Nat) (ad : Nat → Nat) (c : Nat → va_E) (b L : Nat) (xs : Nat → Int32) (n : Nat) (sc : Nat → Nat → Nat) (st : Nat → Nat → Nat → Int32) (th : Int32) (nw ah rw : Nat → Int32) (fo : Nat → Int64) (fd : Nat → UInt64) (B i cells slots : Nat) (C0 : Cx p s m c0 cL_law 9 RL D cA N ad (fun q => s.heap.size ≤ q)) (hX : va_X b L xs s s.heap) (hbl : b < s.heap.size) (hi : i + 5 ≤ L) (hL : L ≤ 2560) (hI : Inv ad cA c N n sc st th nw ah rw fo fd B) (hB : B ≤ 110000) (hc1 : cells + 5 ≤ 601024) (hs1 : slots + 65 ≤ 7293034) (hT : LTail p l e s m below meth c0 Q D cA b (cells + 5) (slots + 65) i (B + 200)) (hP : va_P D vwCl (wl N ad c) H) (hS : va_S (fun q => s.heap.size ≤ q) s.heap H locs) (hl : lv_has ls 9 [(0, .ref b), (1, .ref (ad 0)), (2, .ref (ad 6)), (3, .ref (ad 10)), (4, .ref (ad 11)), (5, .int (nI i))]) : W p l e room_1 s m #[Value.ref b] below meth c0 H locs cells slots Q (F0 m 1425 ls []) := by
  have hx := C0.1
  have hb := C0.2.1
  have hN := hI.hN
  have hn5 := hI.n5
  obtain ⟨rm, mc, ms, k, R1, r1, r2, r3, r4, r5, r6, r7, M, M2⟩ := s_shared l D cA N ad c hfl n sc st th nw ah rw fo fd B hI hB (xs (i + 1)) (xs (i + 2))
  refine lv_aload_n hx hb dL_law_1425 rfl (lv_at hl 1 rfl) ?_
  refine lv_aload_n hx hb dL_law_1426 rfl (lv_at hl 0 rfl) ?_
  refine lv_iload hx hb dL_law_1427 (lv_at hl 5 rfl) ?_
  refine lv_iconst (v := nI 1) hx hb dL_law_1429 rfl ?_
  refine n_iadd hx hb dL_law_1430 ?_
  refine l_sld C0 hX hbl hS (j := i + 1) (by omega) hL dL_law_1431 ?_
  refine lv_aload_n hx hb dL_law_1432 rfl (lv_at hl 0 rfl) ?_
  refine lv_iload hx hb dL_law_1433 (lv_at hl 5 rfl) ?_
  refine lv_iconst (v := nI 2) hx hb dL_law_1435 rfl ?_
  refine n_iadd hx hb dL_law_1436 ?_
  refine l_sld C0 hX hbl hS (j := i + 2) (by omega) hL dL_law_1437 ?_
  refine lv_aload_n hx hb dL_law_1438 rfl (lv_at hl 3 rfl) ?_
  refine k_i (rn_L_179 (As := [.ref (ad 0), .int (xs (i + 1)), .int (xs (i + 2)), .ref (ad 10)]) (rest := []) C0 (M _) hP hS rfl ⟨r1, r2⟩ ⟨rm_f r3, rm_l r4 (by decide)⟩ hl.1 rfl (Nat.le_of_ble_eq_true rfl) dL_law_1439 ⟨rm_c hc1 (by omega), rm_s hs1 (by omega)⟩) C0 hP hS (fun v1 c1 H locs hp hP hS => ?_)
  obtain ⟨rfl, hR1⟩ := hp
  obtain ⟨⟨fs, h6⟩, rm2, R2, g1, g2, g3, g4, M2, M3⟩ := M2 _ hR1
  refine W.widen (k := cells + 5) (n := slots + 65) (by omega) (by omega) ?_
  refine lv_istore (lv' := [(6, .int (nI k)), (0, .ref b), (1, .ref (ad 0)), (2, .ref (ad 6)), (3, .ref (ad 10)), (4, .ref (ad 11)), (5, .int (nI i))]) hx hb dL_law_1442 hl (by decide) rfl (fun ls hl => ?_)
  refine lv_aload_n hx hb dL_law_1444 rfl (lv_at hl 3 rfl) ?_
  refine lv_aload_n hx hb dL_law_1445 rfl (lv_at hl 1 rfl) ?_
  refine lv_iload hx hb dL_law_1446 (lv_at hl 6 rfl) ?_
  refine lv_iconst (v := nI 1) hx hb dL_law_1448 rfl ?_
  refine n_iadd hx hb dL_law_1449 ?_
  refine l_sld C0 hX hbl hS (j := i + 1) (by omega) hL dL_law_1450 ?_
  refine lv_aload_n hx hb dL_law_1451 rfl (lv_at hl 1 rfl) ?_
  refine lv_iload hx hb dL_law_1452 (lv_at hl 6 rfl) ?_
  refine lv_iconst (v := nI 2) hx hb dL_law_1454 rfl ?_
  refine n_iadd hx hb dL_law_1455 ?_
  refine l_sld C0 hX hbl hS (j := i + 2) (by omega) hL dL_law_1456 ?_
  refine k0_i (rn_L_181 (As := [.int (xs (i + 1)), .int (xs (i + 2))]) (rest := []) (r := 6) C0 (M2 _) hP hS (by omega) h6 rfl ⟨g1, g2⟩ ⟨rm_f g3, rm_l g4 (by decide)⟩ hl.1 rfl (Nat.le_of_ble_eq_true rfl) dL_law_1457 ⟨hc1, hs1⟩) C0 hP hS (fun v2 c2 H locs hp hP hS => ?_)
  obtain ⟨sc', st', nw', ah', rw', fo', hI', hk⟩ := M3 _ _ hp
  refine lv_istore (lv' := [(7, .int v2), (6, .int (nI k)), (0, .ref b), (1, .ref (ad 0)), (2, .ref (ad 6)), (3, .ref (ad 10)), (4, .ref (ad 11)), (5, .int (nI i))]) hx hb dL_law_1460 hl (by decide) rfl (fun ls hl => ?_)
  refine lv_aload_n hx hb dL_law_1462 rfl (lv_at hl 4 rfl) ?_
  refine k0_i (rn_L_114 (As := []) (rest := []) (r := 6) C0 (m_X2_thrown l D cA N ad c2 (nI k) n nw' ah' rw' (by omega) hI'.mo hI'.n5 _) hP hS (by omega) hI'.mo.1 rfl ⟨rfl, rfl⟩ ⟨Nat.le_of_ble_eq_true rfl, Nat.le_of_ble_eq_true rfl⟩ hl.1 rfl (Nat.le_of_ble_eq_true rfl) dL_law_1463 ⟨hc1, hs1⟩) C0 hP hS (fun v3 c3 H locs hp hP hS => ?_)
  obtain ⟨rfl, rfl⟩ := hp
  refine lv_iload hx hb dL_law_1466 (lv_at hl 1 rfl) ?_
  refine lv_icmp_eq (tgt := 1473) hx hb dL_law_1468 (by decide) (fun _ => ?_) (fun h => absurd rfl h)
  refine lv_iload hx hb dL_law_1473 (lv_at hl 1 rfl) ?_
  refine lv_if_ne (tgt := 1490) hx hb dL_law_1475 (by decide) (fun _ => ?_) (fun h => ?_)
  · skip
    refine lv_goto (tgt := 2048) hx hb dL_law_1490 (by decide) ?_
    exact hT N n ad c2 sc' st' (nI k) nw' ah' rw' fo' fd C0 hI' _ _ _ hP hS (lv_sub hl [2, 3, 4, 5, 6, 7] rfl)
  · skip
    refine lv_aload_n hx hb dL_law_1478 rfl (lv_at hl 5 rfl) ?_
    refine lv_iconst (v := nI 0) hx hb dL_law_1479 rfl ?_
    refine a_lld C0 hP (r := 10) (by omega) hI'.out (by decide) (by decide) dL_law_1480 ?_
    refine lv_iload hx hb dL_law_1481 (lv_at hl 0 rfl) ?_
    refine lv_i2l (v := v2.toInt64) hx hb dL_law_1483 rfl ?_
    refine W.lcmp hx hb dL_law_1484 ?_
    rw [lg_same (hk (k0_of r7 h))]
    refine lv_if_eq (tgt := 1490) hx hb dL_law_1485 (by decide) (fun _ => ?_) (fun h => absurd rfl h)
    refine lv_goto (tgt := 2048) hx hb dL_law_1490 (by decide) ?_
    exact hT N n ad c2 sc' st' (nI k) nw' ah' rw' fo' fd C0 hI' _ _ _ hP hS (lv_sub hl [2, 3, 4, 5, 6, 7] rfl)
set_option maxHeartbeats 1000000 in
set_option maxRecDepth 10000 in
theorem lc_luckIn {p : Program} {e : Env} {s : State} {m : MethodId} {below : List Frame} {meth : Method} {c0 : Code} {H : Heap} {locs : List Loc} {ls : Array Slot} {Q : State → Prop} (l : Launch) (hfl : l.stackTraces = false) (D : va_G) (cA : Nat → ClassId) (N : Nat) (ad : Nat → Nat) (c : Nat → va_E) (b L : Nat) (xs : Nat → Int32) (n : Nat) (sc : Nat → Nat → Nat) (st : Nat → Nat → Nat → Int32) (th : Int32) (nw ah rw : Nat → Int32) (fo : Nat → Int64) (fd : Nat → UInt64) (B i cells slots : Nat) (C0 : Cx p s m c0 cL_law 9 RL D cA N ad (fun q => s.heap.size ≤ q)) (hX : va_X b L xs s s.heap) (hbl : b < s.heap.size) (hi : i + 5 ≤ L) (hL : L ≤ 2560) (hI : Inv ad cA c N n sc st th nw ah rw fo fd B) (hB : B ≤ 110000) (hc1 : cells + 5 ≤ 601024) (hs1 : slots + 65 ≤ 7293034) (hT : LTail p l e s m below meth c0 Q D cA b (cells + 5) (slots + 65) i (B + 200)) (hP : va_P D vwCl (wl N ad c) H) (hS : va_S (fun q => s.heap.size ≤ q) s.heap H locs) (hl : lv_has ls 9 [(0, .ref b), (1, .ref (ad 0)), (2, .ref (ad 6)), (3, .ref (ad 10)), (4, .ref (ad 11)), (5, .int (nI i))]) : W p l e room_1 s m #[Value.ref b] below meth c0 H locs cells slots Q (F0 m 1493 ls []) := by
  have hx := C0.1
  have hb := C0.2.1
  have hN := hI.hN
  have hn5 := hI.n5
  obtain ⟨rm, mc, ms, k, R1, r1, r2, r3, r4, r5, r6, r7, M, M2⟩ := s_luckIn l D cA N ad c hfl n sc st th nw ah rw fo fd B hI hB (xs (i + 1)) (xs (i + 2))
  refine lv_aload_n hx hb dL_law_1493 rfl (lv_at hl 1 rfl) ?_
  refine lv_aload_n hx hb dL_law_1494 rfl (lv_at hl 0 rfl) ?_
  refine lv_iload hx hb dL_law_1495 (lv_at hl 5 rfl) ?_
  refine lv_iconst (v := nI 1) hx hb dL_law_1497 rfl ?_
  refine n_iadd hx hb dL_law_1498 ?_
  refine l_sld C0 hX hbl hS (j := i + 1) (by omega) hL dL_law_1499 ?_
  refine lv_aload_n hx hb dL_law_1500 rfl (lv_at hl 0 rfl) ?_
  refine lv_iload hx hb dL_law_1501 (lv_at hl 5 rfl) ?_
  refine lv_iconst (v := nI 2) hx hb dL_law_1503 rfl ?_
  refine n_iadd hx hb dL_law_1504 ?_
  refine l_sld C0 hX hbl hS (j := i + 2) (by omega) hL dL_law_1505 ?_
  refine lv_aload_n hx hb dL_law_1506 rfl (lv_at hl 3 rfl) ?_
  refine k_i (rn_L_182 (As := [.ref (ad 0), .int (xs (i + 1)), .int (xs (i + 2)), .ref (ad 10)]) (rest := []) C0 (M _) hP hS rfl ⟨r1, r2⟩ ⟨rm_f r3, rm_l r4 (by decide)⟩ hl.1 rfl (Nat.le_of_ble_eq_true rfl) dL_law_1507 ⟨rm_c hc1 (by omega), rm_s hs1 (by omega)⟩) C0 hP hS (fun v1 c1 H locs hp hP hS => ?_)
  obtain ⟨rfl, hR1⟩ := hp
  obtain ⟨⟨fs, h6⟩, rm2, R2, g1, g2, g3, g4, M2, M3⟩ := M2 _ hR1
  refine W.widen (k := cells + 5) (n := slots + 65) (by omega) (by omega) ?_
  refine lv_istore (lv' := [(6, .int (nI k)), (0, .ref b), (1, .ref (ad 0)), (2, .ref (ad 6)), (3, .ref (ad 10)), (4, .ref (ad 11)), (5, .int (nI i))]) hx hb dL_law_1510 hl (by decide) rfl (fun ls hl => ?_)
  refine lv_aload_n hx hb dL_law_1512 rfl (lv_at hl 3 rfl) ?_
  refine lv_aload_n hx hb dL_law_1513 rfl (lv_at hl 1 rfl) ?_
  refine lv_iload hx hb dL_law_1514 (lv_at hl 6 rfl) ?_
  refine lv_iconst (v := nI 1) hx hb dL_law_1516 rfl ?_
  refine n_iadd hx hb dL_law_1517 ?_
  refine l_sld C0 hX hbl hS (j := i + 1) (by omega) hL dL_law_1518 ?_
  refine lv_aload_n hx hb dL_law_1519 rfl (lv_at hl 1 rfl) ?_
  refine lv_iload hx hb dL_law_1520 (lv_at hl 6 rfl) ?_
  refine lv_iconst (v := nI 2) hx hb dL_law_1522 rfl ?_
  refine n_iadd hx hb dL_law_1523 ?_
  refine l_sld C0 hX hbl hS (j := i + 2) (by omega) hL dL_law_1524 ?_
  refine k0_i (rn_L_184 (As := [.int (xs (i + 1)), .int (xs (i + 2))]) (rest := []) (r := 6) C0 (M2 _) hP hS (by omega) h6 rfl ⟨g1, g2⟩ ⟨rm_f g3, rm_l g4 (by decide)⟩ hl.1 rfl (Nat.le_of_ble_eq_true rfl) dL_law_1525 ⟨hc1, hs1⟩) C0 hP hS (fun v2 c2 H locs hp hP hS => ?_)
  obtain ⟨sc', st', nw', ah', rw', fo', hI', hk⟩ := M3 _ _ hp
  refine lv_istore (lv' := [(7, .int v2), (6, .int (nI k)), (0, .ref b), (1, .ref (ad 0)), (2, .ref (ad 6)), (3, .ref (ad 10)), (4, .ref (ad 11)), (5, .int (nI i))]) hx hb dL_law_1528 hl (by decide) rfl (fun ls hl => ?_)
  refine lv_aload_n hx hb dL_law_1530 rfl (lv_at hl 4 rfl) ?_
  refine k0_i (rn_L_114 (As := []) (rest := []) (r := 6) C0 (m_X2_thrown l D cA N ad c2 (nI k) n nw' ah' rw' (by omega) hI'.mo hI'.n5 _) hP hS (by omega) hI'.mo.1 rfl ⟨rfl, rfl⟩ ⟨Nat.le_of_ble_eq_true rfl, Nat.le_of_ble_eq_true rfl⟩ hl.1 rfl (Nat.le_of_ble_eq_true rfl) dL_law_1531 ⟨hc1, hs1⟩) C0 hP hS (fun v3 c3 H locs hp hP hS => ?_)
  obtain ⟨rfl, rfl⟩ := hp
  refine lv_iload hx hb dL_law_1534 (lv_at hl 1 rfl) ?_
  refine lv_icmp_eq (tgt := 1541) hx hb dL_law_1536 (by decide) (fun _ => ?_) (fun h => absurd rfl h)
  refine lv_iload hx hb dL_law_1541 (lv_at hl 1 rfl) ?_
  refine lv_if_ne (tgt := 1558) hx hb dL_law_1543 (by decide) (fun _ => ?_) (fun h => ?_)
  · skip
    refine lv_goto (tgt := 2048) hx hb dL_law_1558 (by decide) ?_
    exact hT N n ad c2 sc' st' (nI k) nw' ah' rw' fo' fd C0 hI' _ _ _ hP hS (lv_sub hl [2, 3, 4, 5, 6, 7] rfl)
  · skip
    refine lv_aload_n hx hb dL_law_1546 rfl (lv_at hl 5 rfl) ?_
    refine lv_iconst (v := nI 0) hx hb dL_law_1547 rfl ?_
    refine a_lld C0 hP (r := 10) (by omega) hI'.out (by decide) (by decide) dL_law_1548 ?_
    refine lv_iload hx hb dL_law_1549 (lv_at hl 0 rfl) ?_
    refine lv_i2l (v := v2.toInt64) hx hb dL_law_1551 rfl ?_
    refine W.lcmp hx hb dL_law_1552 ?_
    rw [lg_same (hk (k0_of r7 h))]
    refine lv_if_eq (tgt := 1558) hx hb dL_law_1553 (by decide) (fun _ => ?_) (fun h => absurd rfl h)
    refine lv_goto (tgt := 2048) hx hb dL_law_1558 (by decide) ?_
    exact hT N n ad c2 sc' st' (nI k) nw' ah' rw' fo' fd C0 hI' _ _ _ hP hS (lv_sub hl [2, 3, 4, 5, 6, 7] rfl)
set_option maxHeartbeats 1000000 in
set_option maxRecDepth 10000 in
theorem lc_drawsUntil {p : Program} {e : Env} {s : State} {m : MethodId} {below : List Frame} {meth : Method} {c0 : Code} {H : Heap} {locs : List Loc} {ls : Array Slot} {Q : State → Prop} (l : Launch) (hfl : l.stackTraces = false) (D : va_G) (cA : Nat → ClassId) (N : Nat) (ad : Nat → Nat) (c : Nat → va_E) (b L : Nat) (xs : Nat → Int32) (n : Nat) (sc : Nat → Nat → Nat) (st : Nat → Nat → Nat → Int32) (th : Int32) (nw ah rw : Nat → Int32) (fo : Nat → Int64) (fd : Nat → UInt64) (B i cells slots : Nat) (C0 : Cx p s m c0 cL_law 9 RL D cA N ad (fun q => s.heap.size ≤ q)) (hX : va_X b L xs s s.heap) (hbl : b < s.heap.size) (hi : i + 5 ≤ L) (hL : L ≤ 2560) (hI : Inv ad cA c N n sc st th nw ah rw fo fd B) (hB : B ≤ 110000) (hc1 : cells + 5 ≤ 601024) (hs1 : slots + 65 ≤ 7293034) (hT : LTail p l e s m below meth c0 Q D cA b (cells + 5) (slots + 65) i (B + 200)) (hP : va_P D vwCl (wl N ad c) H) (hS : va_S (fun q => s.heap.size ≤ q) s.heap H locs) (hl : lv_has ls 9 [(0, .ref b), (1, .ref (ad 0)), (2, .ref (ad 6)), (3, .ref (ad 10)), (4, .ref (ad 11)), (5, .int (nI i))]) : W p l e room_1 s m #[Value.ref b] below meth c0 H locs cells slots Q (F0 m 1561 ls []) := by
  have hx := C0.1
  have hb := C0.2.1
  have hN := hI.hN
  have hn5 := hI.n5
  obtain ⟨rm, mc, ms, k, R1, r1, r2, r3, r4, r5, r6, r7, M, M2⟩ := s_drawsUntil l D cA N ad c hfl n sc st th nw ah rw fo fd B hI hB (xs (i + 1)) (xs (i + 2)) (xs (i + 3))
  refine lv_aload_n hx hb dL_law_1561 rfl (lv_at hl 1 rfl) ?_
  refine lv_aload_n hx hb dL_law_1562 rfl (lv_at hl 0 rfl) ?_
  refine lv_iload hx hb dL_law_1563 (lv_at hl 5 rfl) ?_
  refine lv_iconst (v := nI 1) hx hb dL_law_1565 rfl ?_
  refine n_iadd hx hb dL_law_1566 ?_
  refine l_sld C0 hX hbl hS (j := i + 1) (by omega) hL dL_law_1567 ?_
  refine lv_aload_n hx hb dL_law_1568 rfl (lv_at hl 0 rfl) ?_
  refine lv_iload hx hb dL_law_1569 (lv_at hl 5 rfl) ?_
  refine lv_iconst (v := nI 2) hx hb dL_law_1571 rfl ?_
  refine n_iadd hx hb dL_law_1572 ?_
  refine l_sld C0 hX hbl hS (j := i + 2) (by omega) hL dL_law_1573 ?_
  refine lv_aload_n hx hb dL_law_1574 rfl (lv_at hl 0 rfl) ?_
  refine lv_iload hx hb dL_law_1575 (lv_at hl 5 rfl) ?_
  refine lv_iconst (v := nI 3) hx hb dL_law_1577 rfl ?_
  refine n_iadd hx hb dL_law_1578 ?_
  refine l_sld C0 hX hbl hS (j := i + 3) (by omega) hL dL_law_1579 ?_
  refine lv_aload_n hx hb dL_law_1580 rfl (lv_at hl 3 rfl) ?_
  refine k_i (rn_L_185 (As := [.ref (ad 0), .int (xs (i + 1)), .int (xs (i + 2)), .int (xs (i + 3)), .ref (ad 10)]) (rest := []) C0 (M _) hP hS rfl ⟨r1, r2⟩ ⟨rm_f r3, rm_l r4 (by decide)⟩ hl.1 rfl (Nat.le_of_ble_eq_true rfl) dL_law_1581 ⟨rm_c hc1 (by omega), rm_s hs1 (by omega)⟩) C0 hP hS (fun v1 c1 H locs hp hP hS => ?_)
  obtain ⟨rfl, hR1⟩ := hp
  obtain ⟨⟨fs, h6⟩, rm2, R2, g1, g2, g3, g4, M2, M3⟩ := M2 _ hR1
  refine W.widen (k := cells + 5) (n := slots + 65) (by omega) (by omega) ?_
  refine lv_istore (lv' := [(6, .int (nI k)), (0, .ref b), (1, .ref (ad 0)), (2, .ref (ad 6)), (3, .ref (ad 10)), (4, .ref (ad 11)), (5, .int (nI i))]) hx hb dL_law_1584 hl (by decide) rfl (fun ls hl => ?_)
  refine lv_aload_n hx hb dL_law_1586 rfl (lv_at hl 3 rfl) ?_
  refine lv_aload_n hx hb dL_law_1587 rfl (lv_at hl 1 rfl) ?_
  refine lv_iload hx hb dL_law_1588 (lv_at hl 6 rfl) ?_
  refine lv_iconst (v := nI 1) hx hb dL_law_1590 rfl ?_
  refine n_iadd hx hb dL_law_1591 ?_
  refine l_sld C0 hX hbl hS (j := i + 1) (by omega) hL dL_law_1592 ?_
  refine lv_aload_n hx hb dL_law_1593 rfl (lv_at hl 1 rfl) ?_
  refine lv_iload hx hb dL_law_1594 (lv_at hl 6 rfl) ?_
  refine lv_iconst (v := nI 2) hx hb dL_law_1596 rfl ?_
  refine n_iadd hx hb dL_law_1597 ?_
  refine l_sld C0 hX hbl hS (j := i + 2) (by omega) hL dL_law_1598 ?_
  refine lv_aload_n hx hb dL_law_1599 rfl (lv_at hl 1 rfl) ?_
  refine lv_iload hx hb dL_law_1600 (lv_at hl 6 rfl) ?_
  refine lv_iconst (v := nI 3) hx hb dL_law_1602 rfl ?_
  refine n_iadd hx hb dL_law_1603 ?_
  refine l_sld C0 hX hbl hS (j := i + 3) (by omega) hL dL_law_1604 ?_
  refine k0_i (rn_L_187 (As := [.int (xs (i + 1)), .int (xs (i + 2)), .int (xs (i + 3))]) (rest := []) (r := 6) C0 (M2 _) hP hS (by omega) h6 rfl ⟨g1, g2⟩ ⟨rm_f g3, rm_l g4 (by decide)⟩ hl.1 rfl (Nat.le_of_ble_eq_true rfl) dL_law_1605 ⟨hc1, hs1⟩) C0 hP hS (fun v2 c2 H locs hp hP hS => ?_)
  obtain ⟨sc', st', nw', ah', rw', fo', hI', hk⟩ := M3 _ _ hp
  refine lv_istore (lv' := [(7, .int v2), (6, .int (nI k)), (0, .ref b), (1, .ref (ad 0)), (2, .ref (ad 6)), (3, .ref (ad 10)), (4, .ref (ad 11)), (5, .int (nI i))]) hx hb dL_law_1608 hl (by decide) rfl (fun ls hl => ?_)
  refine lv_aload_n hx hb dL_law_1610 rfl (lv_at hl 4 rfl) ?_
  refine k0_i (rn_L_114 (As := []) (rest := []) (r := 6) C0 (m_X2_thrown l D cA N ad c2 (nI k) n nw' ah' rw' (by omega) hI'.mo hI'.n5 _) hP hS (by omega) hI'.mo.1 rfl ⟨rfl, rfl⟩ ⟨Nat.le_of_ble_eq_true rfl, Nat.le_of_ble_eq_true rfl⟩ hl.1 rfl (Nat.le_of_ble_eq_true rfl) dL_law_1611 ⟨hc1, hs1⟩) C0 hP hS (fun v3 c3 H locs hp hP hS => ?_)
  obtain ⟨rfl, rfl⟩ := hp
  refine lv_iload hx hb dL_law_1614 (lv_at hl 1 rfl) ?_
  refine lv_icmp_eq (tgt := 1621) hx hb dL_law_1616 (by decide) (fun _ => ?_) (fun h => absurd rfl h)
  refine lv_iload hx hb dL_law_1621 (lv_at hl 1 rfl) ?_
  refine lv_if_ne (tgt := 1638) hx hb dL_law_1623 (by decide) (fun _ => ?_) (fun h => ?_)
  · skip
    refine lv_goto (tgt := 2048) hx hb dL_law_1638 (by decide) ?_
    exact hT N n ad c2 sc' st' (nI k) nw' ah' rw' fo' fd C0 hI' _ _ _ hP hS (lv_sub hl [2, 3, 4, 5, 6, 7] rfl)
  · skip
    refine lv_aload_n hx hb dL_law_1626 rfl (lv_at hl 5 rfl) ?_
    refine lv_iconst (v := nI 0) hx hb dL_law_1627 rfl ?_
    refine a_lld C0 hP (r := 10) (by omega) hI'.out (by decide) (by decide) dL_law_1628 ?_
    refine lv_iload hx hb dL_law_1629 (lv_at hl 0 rfl) ?_
    refine lv_i2l (v := v2.toInt64) hx hb dL_law_1631 rfl ?_
    refine W.lcmp hx hb dL_law_1632 ?_
    rw [lg_same (hk (k0_of r7 h))]
    refine lv_if_eq (tgt := 1638) hx hb dL_law_1633 (by decide) (fun _ => ?_) (fun h => absurd rfl h)
    refine lv_goto (tgt := 2048) hx hb dL_law_1638 (by decide) ?_
    exact hT N n ad c2 sc' st' (nI k) nw' ah' rw' fo' fd C0 hI' _ _ _ hP hS (lv_sub hl [2, 3, 4, 5, 6, 7] rfl)
set_option maxHeartbeats 1000000 in
set_option maxRecDepth 10000 in
theorem lc_wouldTake {p : Program} {e : Env} {s : State} {m : MethodId} {below : List Frame} {meth : Method} {c0 : Code} {H : Heap} {locs : List Loc} {ls : Array Slot} {Q : State → Prop} (l : Launch) (hfl : l.stackTraces = false) (D : va_G) (cA : Nat → ClassId) (N : Nat) (ad : Nat → Nat) (c : Nat → va_E) (b L : Nat) (xs : Nat → Int32) (n : Nat) (sc : Nat → Nat → Nat) (st : Nat → Nat → Nat → Int32) (th : Int32) (nw ah rw : Nat → Int32) (fo : Nat → Int64) (fd : Nat → UInt64) (B i cells slots : Nat) (C0 : Cx p s m c0 cL_law 9 RL D cA N ad (fun q => s.heap.size ≤ q)) (hX : va_X b L xs s s.heap) (hbl : b < s.heap.size) (hi : i + 5 ≤ L) (hL : L ≤ 2560) (hI : Inv ad cA c N n sc st th nw ah rw fo fd B) (hB : B ≤ 110000) (hc1 : cells + 5 ≤ 601024) (hs1 : slots + 65 ≤ 7293034) (hT : LTail p l e s m below meth c0 Q D cA b (cells + 5) (slots + 65) i (B + 200)) (hP : va_P D vwCl (wl N ad c) H) (hS : va_S (fun q => s.heap.size ≤ q) s.heap H locs) (hl : lv_has ls 9 [(0, .ref b), (1, .ref (ad 0)), (2, .ref (ad 6)), (3, .ref (ad 10)), (4, .ref (ad 11)), (5, .int (nI i))]) : W p l e room_1 s m #[Value.ref b] below meth c0 H locs cells slots Q (F0 m 1641 ls []) := by
  have hx := C0.1
  have hb := C0.2.1
  have hN := hI.hN
  have hn5 := hI.n5
  obtain ⟨rm, mc, ms, k, R1, r1, r2, r3, r4, r5, r6, r7, M, M2⟩ := s_wouldTake l D cA N ad c hfl n sc st th nw ah rw fo fd B hI hB (xs (i + 1)) (xs (i + 2))
  refine lv_aload_n hx hb dL_law_1641 rfl (lv_at hl 1 rfl) ?_
  refine lv_aload_n hx hb dL_law_1642 rfl (lv_at hl 0 rfl) ?_
  refine lv_iload hx hb dL_law_1643 (lv_at hl 5 rfl) ?_
  refine lv_iconst (v := nI 1) hx hb dL_law_1645 rfl ?_
  refine n_iadd hx hb dL_law_1646 ?_
  refine l_sld C0 hX hbl hS (j := i + 1) (by omega) hL dL_law_1647 ?_
  refine lv_aload_n hx hb dL_law_1648 rfl (lv_at hl 0 rfl) ?_
  refine lv_iload hx hb dL_law_1649 (lv_at hl 5 rfl) ?_
  refine lv_iconst (v := nI 2) hx hb dL_law_1651 rfl ?_
  refine n_iadd hx hb dL_law_1652 ?_
  refine l_sld C0 hX hbl hS (j := i + 2) (by omega) hL dL_law_1653 ?_
  refine lv_aload_n hx hb dL_law_1654 rfl (lv_at hl 3 rfl) ?_
  refine k_i (rn_L_188 (As := [.ref (ad 0), .int (xs (i + 1)), .int (xs (i + 2)), .ref (ad 10)]) (rest := []) C0 (M _) hP hS rfl ⟨r1, r2⟩ ⟨rm_f r3, rm_l r4 (by decide)⟩ hl.1 rfl (Nat.le_of_ble_eq_true rfl) dL_law_1655 ⟨rm_c hc1 (by omega), rm_s hs1 (by omega)⟩) C0 hP hS (fun v1 c1 H locs hp hP hS => ?_)
  obtain ⟨rfl, hR1⟩ := hp
  obtain ⟨⟨fs, h6⟩, rm2, R2, g1, g2, g3, g4, M2, M3⟩ := M2 _ hR1
  refine W.widen (k := cells + 5) (n := slots + 65) (by omega) (by omega) ?_
  refine lv_istore (lv' := [(6, .int (nI k)), (0, .ref b), (1, .ref (ad 0)), (2, .ref (ad 6)), (3, .ref (ad 10)), (4, .ref (ad 11)), (5, .int (nI i))]) hx hb dL_law_1658 hl (by decide) rfl (fun ls hl => ?_)
  refine lv_aload_n hx hb dL_law_1660 rfl (lv_at hl 3 rfl) ?_
  refine lv_aload_n hx hb dL_law_1661 rfl (lv_at hl 1 rfl) ?_
  refine lv_iload hx hb dL_law_1662 (lv_at hl 6 rfl) ?_
  refine lv_iconst (v := nI 1) hx hb dL_law_1664 rfl ?_
  refine n_iadd hx hb dL_law_1665 ?_
  refine l_sld C0 hX hbl hS (j := i + 1) (by omega) hL dL_law_1666 ?_
  refine lv_aload_n hx hb dL_law_1667 rfl (lv_at hl 1 rfl) ?_
  refine lv_iload hx hb dL_law_1668 (lv_at hl 6 rfl) ?_
  refine lv_iconst (v := nI 2) hx hb dL_law_1670 rfl ?_
  refine n_iadd hx hb dL_law_1671 ?_
  refine l_sld C0 hX hbl hS (j := i + 2) (by omega) hL dL_law_1672 ?_
  refine k0_i (rn_L_190 (As := [.int (xs (i + 1)), .int (xs (i + 2))]) (rest := []) (r := 6) C0 (M2 _) hP hS (by omega) h6 rfl ⟨g1, g2⟩ ⟨rm_f g3, rm_l g4 (by decide)⟩ hl.1 rfl (Nat.le_of_ble_eq_true rfl) dL_law_1673 ⟨hc1, hs1⟩) C0 hP hS (fun v2 c2 H locs hp hP hS => ?_)
  obtain ⟨sc', st', nw', ah', rw', fo', hI', hk⟩ := M3 _ _ hp
  refine lv_istore (lv' := [(7, .int v2), (6, .int (nI k)), (0, .ref b), (1, .ref (ad 0)), (2, .ref (ad 6)), (3, .ref (ad 10)), (4, .ref (ad 11)), (5, .int (nI i))]) hx hb dL_law_1676 hl (by decide) rfl (fun ls hl => ?_)
  refine lv_aload_n hx hb dL_law_1678 rfl (lv_at hl 4 rfl) ?_
  refine k0_i (rn_L_114 (As := []) (rest := []) (r := 6) C0 (m_X2_thrown l D cA N ad c2 (nI k) n nw' ah' rw' (by omega) hI'.mo hI'.n5 _) hP hS (by omega) hI'.mo.1 rfl ⟨rfl, rfl⟩ ⟨Nat.le_of_ble_eq_true rfl, Nat.le_of_ble_eq_true rfl⟩ hl.1 rfl (Nat.le_of_ble_eq_true rfl) dL_law_1679 ⟨hc1, hs1⟩) C0 hP hS (fun v3 c3 H locs hp hP hS => ?_)
  obtain ⟨rfl, rfl⟩ := hp
  refine lv_iload hx hb dL_law_1682 (lv_at hl 1 rfl) ?_
  refine lv_icmp_eq (tgt := 1689) hx hb dL_law_1684 (by decide) (fun _ => ?_) (fun h => absurd rfl h)
  refine lv_iload hx hb dL_law_1689 (lv_at hl 1 rfl) ?_
  refine lv_if_ne (tgt := 1706) hx hb dL_law_1691 (by decide) (fun _ => ?_) (fun h => ?_)
  · skip
    refine lv_goto (tgt := 2048) hx hb dL_law_1706 (by decide) ?_
    exact hT N n ad c2 sc' st' (nI k) nw' ah' rw' fo' fd C0 hI' _ _ _ hP hS (lv_sub hl [2, 3, 4, 5, 6, 7] rfl)
  · skip
    refine lv_aload_n hx hb dL_law_1694 rfl (lv_at hl 5 rfl) ?_
    refine lv_iconst (v := nI 0) hx hb dL_law_1695 rfl ?_
    refine a_lld C0 hP (r := 10) (by omega) hI'.out (by decide) (by decide) dL_law_1696 ?_
    refine lv_iload hx hb dL_law_1697 (lv_at hl 0 rfl) ?_
    refine lv_i2l (v := v2.toInt64) hx hb dL_law_1699 rfl ?_
    refine W.lcmp hx hb dL_law_1700 ?_
    rw [lg_same (hk (k0_of r7 h))]
    refine lv_if_eq (tgt := 1706) hx hb dL_law_1701 (by decide) (fun _ => ?_) (fun h => absurd rfl h)
    refine lv_goto (tgt := 2048) hx hb dL_law_1706 (by decide) ?_
    exact hT N n ad c2 sc' st' (nI k) nw' ah' rw' fo' fd C0 hI' _ _ _ hP hS (lv_sub hl [2, 3, 4, 5, 6, 7] rfl)
set_option maxHeartbeats 1000000 in
set_option maxRecDepth 10000 in
theorem lc_wouldStay {p : Program} {e : Env} {s : State} {m : MethodId} {below : List Frame} {meth : Method} {c0 : Code} {H : Heap} {locs : List Loc} {ls : Array Slot} {Q : State → Prop} (l : Launch) (hfl : l.stackTraces = false) (D : va_G) (cA : Nat → ClassId) (N : Nat) (ad : Nat → Nat) (c : Nat → va_E) (b L : Nat) (xs : Nat → Int32) (n : Nat) (sc : Nat → Nat → Nat) (st : Nat → Nat → Nat → Int32) (th : Int32) (nw ah rw : Nat → Int32) (fo : Nat → Int64) (fd : Nat → UInt64) (B i cells slots : Nat) (C0 : Cx p s m c0 cL_law 9 RL D cA N ad (fun q => s.heap.size ≤ q)) (hX : va_X b L xs s s.heap) (hbl : b < s.heap.size) (hi : i + 5 ≤ L) (hL : L ≤ 2560) (hI : Inv ad cA c N n sc st th nw ah rw fo fd B) (hB : B ≤ 110000) (hc1 : cells + 5 ≤ 601024) (hs1 : slots + 65 ≤ 7293034) (hT : LTail p l e s m below meth c0 Q D cA b (cells + 5) (slots + 65) i (B + 200)) (hP : va_P D vwCl (wl N ad c) H) (hS : va_S (fun q => s.heap.size ≤ q) s.heap H locs) (hl : lv_has ls 9 [(0, .ref b), (1, .ref (ad 0)), (2, .ref (ad 6)), (3, .ref (ad 10)), (4, .ref (ad 11)), (5, .int (nI i))]) : W p l e room_1 s m #[Value.ref b] below meth c0 H locs cells slots Q (F0 m 1709 ls []) := by
  have hx := C0.1
  have hb := C0.2.1
  have hN := hI.hN
  have hn5 := hI.n5
  obtain ⟨rm, mc, ms, k, R1, r1, r2, r3, r4, r5, r6, r7, M, M2⟩ := s_wouldStay l D cA N ad c hfl n sc st th nw ah rw fo fd B hI hB (xs (i + 1)) (xs (i + 2))
  refine lv_aload_n hx hb dL_law_1709 rfl (lv_at hl 1 rfl) ?_
  refine lv_aload_n hx hb dL_law_1710 rfl (lv_at hl 0 rfl) ?_
  refine lv_iload hx hb dL_law_1711 (lv_at hl 5 rfl) ?_
  refine lv_iconst (v := nI 1) hx hb dL_law_1713 rfl ?_
  refine n_iadd hx hb dL_law_1714 ?_
  refine l_sld C0 hX hbl hS (j := i + 1) (by omega) hL dL_law_1715 ?_
  refine lv_aload_n hx hb dL_law_1716 rfl (lv_at hl 0 rfl) ?_
  refine lv_iload hx hb dL_law_1717 (lv_at hl 5 rfl) ?_
  refine lv_iconst (v := nI 2) hx hb dL_law_1719 rfl ?_
  refine n_iadd hx hb dL_law_1720 ?_
  refine l_sld C0 hX hbl hS (j := i + 2) (by omega) hL dL_law_1721 ?_
  refine lv_aload_n hx hb dL_law_1722 rfl (lv_at hl 3 rfl) ?_
  refine k_i (rn_L_191 (As := [.ref (ad 0), .int (xs (i + 1)), .int (xs (i + 2)), .ref (ad 10)]) (rest := []) C0 (M _) hP hS rfl ⟨r1, r2⟩ ⟨rm_f r3, rm_l r4 (by decide)⟩ hl.1 rfl (Nat.le_of_ble_eq_true rfl) dL_law_1723 ⟨rm_c hc1 (by omega), rm_s hs1 (by omega)⟩) C0 hP hS (fun v1 c1 H locs hp hP hS => ?_)
  obtain ⟨rfl, hR1⟩ := hp
  obtain ⟨⟨fs, h6⟩, rm2, R2, g1, g2, g3, g4, M2, M3⟩ := M2 _ hR1
  refine W.widen (k := cells + 5) (n := slots + 65) (by omega) (by omega) ?_
  refine lv_istore (lv' := [(6, .int (nI k)), (0, .ref b), (1, .ref (ad 0)), (2, .ref (ad 6)), (3, .ref (ad 10)), (4, .ref (ad 11)), (5, .int (nI i))]) hx hb dL_law_1726 hl (by decide) rfl (fun ls hl => ?_)
  refine lv_aload_n hx hb dL_law_1728 rfl (lv_at hl 3 rfl) ?_
  refine lv_aload_n hx hb dL_law_1729 rfl (lv_at hl 1 rfl) ?_
  refine lv_iload hx hb dL_law_1730 (lv_at hl 6 rfl) ?_
  refine lv_iconst (v := nI 1) hx hb dL_law_1732 rfl ?_
  refine n_iadd hx hb dL_law_1733 ?_
  refine l_sld C0 hX hbl hS (j := i + 1) (by omega) hL dL_law_1734 ?_
  refine lv_aload_n hx hb dL_law_1735 rfl (lv_at hl 1 rfl) ?_
  refine lv_iload hx hb dL_law_1736 (lv_at hl 6 rfl) ?_
  refine lv_iconst (v := nI 2) hx hb dL_law_1738 rfl ?_
  refine n_iadd hx hb dL_law_1739 ?_
  refine l_sld C0 hX hbl hS (j := i + 2) (by omega) hL dL_law_1740 ?_
  refine k0_i (rn_L_193 (As := [.int (xs (i + 1)), .int (xs (i + 2))]) (rest := []) (r := 6) C0 (M2 _) hP hS (by omega) h6 rfl ⟨g1, g2⟩ ⟨rm_f g3, rm_l g4 (by decide)⟩ hl.1 rfl (Nat.le_of_ble_eq_true rfl) dL_law_1741 ⟨hc1, hs1⟩) C0 hP hS (fun v2 c2 H locs hp hP hS => ?_)
  obtain ⟨sc', st', nw', ah', rw', fo', hI', hk⟩ := M3 _ _ hp
  refine lv_istore (lv' := [(7, .int v2), (6, .int (nI k)), (0, .ref b), (1, .ref (ad 0)), (2, .ref (ad 6)), (3, .ref (ad 10)), (4, .ref (ad 11)), (5, .int (nI i))]) hx hb dL_law_1744 hl (by decide) rfl (fun ls hl => ?_)
  refine lv_aload_n hx hb dL_law_1746 rfl (lv_at hl 4 rfl) ?_
  refine k0_i (rn_L_114 (As := []) (rest := []) (r := 6) C0 (m_X2_thrown l D cA N ad c2 (nI k) n nw' ah' rw' (by omega) hI'.mo hI'.n5 _) hP hS (by omega) hI'.mo.1 rfl ⟨rfl, rfl⟩ ⟨Nat.le_of_ble_eq_true rfl, Nat.le_of_ble_eq_true rfl⟩ hl.1 rfl (Nat.le_of_ble_eq_true rfl) dL_law_1747 ⟨hc1, hs1⟩) C0 hP hS (fun v3 c3 H locs hp hP hS => ?_)
  obtain ⟨rfl, rfl⟩ := hp
  refine lv_iload hx hb dL_law_1750 (lv_at hl 1 rfl) ?_
  refine lv_icmp_eq (tgt := 1757) hx hb dL_law_1752 (by decide) (fun _ => ?_) (fun h => absurd rfl h)
  refine lv_iload hx hb dL_law_1757 (lv_at hl 1 rfl) ?_
  refine lv_if_ne (tgt := 1774) hx hb dL_law_1759 (by decide) (fun _ => ?_) (fun h => ?_)
  · skip
    refine lv_goto (tgt := 2048) hx hb dL_law_1774 (by decide) ?_
    exact hT N n ad c2 sc' st' (nI k) nw' ah' rw' fo' fd C0 hI' _ _ _ hP hS (lv_sub hl [2, 3, 4, 5, 6, 7] rfl)
  · skip
    refine lv_aload_n hx hb dL_law_1762 rfl (lv_at hl 5 rfl) ?_
    refine lv_iconst (v := nI 0) hx hb dL_law_1763 rfl ?_
    refine a_lld C0 hP (r := 10) (by omega) hI'.out (by decide) (by decide) dL_law_1764 ?_
    refine lv_iload hx hb dL_law_1765 (lv_at hl 0 rfl) ?_
    refine lv_i2l (v := v2.toInt64) hx hb dL_law_1767 rfl ?_
    refine W.lcmp hx hb dL_law_1768 ?_
    rw [lg_same (hk (k0_of r7 h))]
    refine lv_if_eq (tgt := 1774) hx hb dL_law_1769 (by decide) (fun _ => ?_) (fun h => absurd rfl h)
    refine lv_goto (tgt := 2048) hx hb dL_law_1774 (by decide) ?_
    exact hT N n ad c2 sc' st' (nI k) nw' ah' rw' fo' fd C0 hI' _ _ _ hP hS (lv_sub hl [2, 3, 4, 5, 6, 7] rfl)
set_option maxHeartbeats 1000000 in
set_option maxRecDepth 10000 in
theorem lc_untilTaken {p : Program} {e : Env} {s : State} {m : MethodId} {below : List Frame} {meth : Method} {c0 : Code} {H : Heap} {locs : List Loc} {ls : Array Slot} {Q : State → Prop} (l : Launch) (hfl : l.stackTraces = false) (D : va_G) (cA : Nat → ClassId) (N : Nat) (ad : Nat → Nat) (c : Nat → va_E) (b L : Nat) (xs : Nat → Int32) (n : Nat) (sc : Nat → Nat → Nat) (st : Nat → Nat → Nat → Int32) (th : Int32) (nw ah rw : Nat → Int32) (fo : Nat → Int64) (fd : Nat → UInt64) (B i cells slots : Nat) (C0 : Cx p s m c0 cL_law 9 RL D cA N ad (fun q => s.heap.size ≤ q)) (hX : va_X b L xs s s.heap) (hbl : b < s.heap.size) (hi : i + 5 ≤ L) (hL : L ≤ 2560) (hI : Inv ad cA c N n sc st th nw ah rw fo fd B) (hB : B ≤ 110000) (hc1 : cells + 5 ≤ 601024) (hs1 : slots + 65 ≤ 7293034) (hT : LTail p l e s m below meth c0 Q D cA b (cells + 5) (slots + 65) i (B + 200)) (hP : va_P D vwCl (wl N ad c) H) (hS : va_S (fun q => s.heap.size ≤ q) s.heap H locs) (hl : lv_has ls 9 [(0, .ref b), (1, .ref (ad 0)), (2, .ref (ad 6)), (3, .ref (ad 10)), (4, .ref (ad 11)), (5, .int (nI i))]) : W p l e room_1 s m #[Value.ref b] below meth c0 H locs cells slots Q (F0 m 1777 ls []) := by
  have hx := C0.1
  have hb := C0.2.1
  have hN := hI.hN
  have hn5 := hI.n5
  obtain ⟨rm, mc, ms, k, R1, r1, r2, r3, r4, r5, r6, r7, M, M2⟩ := s_untilTaken l D cA N ad c hfl n sc st th nw ah rw fo fd B hI hB (xs (i + 1))
  refine lv_aload_n hx hb dL_law_1777 rfl (lv_at hl 1 rfl) ?_
  refine lv_aload_n hx hb dL_law_1778 rfl (lv_at hl 0 rfl) ?_
  refine lv_iload hx hb dL_law_1779 (lv_at hl 5 rfl) ?_
  refine lv_iconst (v := nI 1) hx hb dL_law_1781 rfl ?_
  refine n_iadd hx hb dL_law_1782 ?_
  refine l_sld C0 hX hbl hS (j := i + 1) (by omega) hL dL_law_1783 ?_
  refine lv_aload_n hx hb dL_law_1784 rfl (lv_at hl 3 rfl) ?_
  refine k_i (rn_L_194 (As := [.ref (ad 0), .int (xs (i + 1)), .ref (ad 10)]) (rest := []) C0 (M _) hP hS rfl ⟨r1, r2⟩ ⟨rm_f r3, rm_l r4 (by decide)⟩ hl.1 rfl (Nat.le_of_ble_eq_true rfl) dL_law_1785 ⟨rm_c hc1 (by omega), rm_s hs1 (by omega)⟩) C0 hP hS (fun v1 c1 H locs hp hP hS => ?_)
  obtain ⟨rfl, hR1⟩ := hp
  obtain ⟨⟨fs, h6⟩, rm2, R2, g1, g2, g3, g4, M2, M3⟩ := M2 _ hR1
  refine W.widen (k := cells + 5) (n := slots + 65) (by omega) (by omega) ?_
  refine lv_istore (lv' := [(6, .int (nI k)), (0, .ref b), (1, .ref (ad 0)), (2, .ref (ad 6)), (3, .ref (ad 10)), (4, .ref (ad 11)), (5, .int (nI i))]) hx hb dL_law_1788 hl (by decide) rfl (fun ls hl => ?_)
  refine lv_aload_n hx hb dL_law_1790 rfl (lv_at hl 3 rfl) ?_
  refine lv_aload_n hx hb dL_law_1791 rfl (lv_at hl 1 rfl) ?_
  refine lv_iload hx hb dL_law_1792 (lv_at hl 6 rfl) ?_
  refine lv_iconst (v := nI 1) hx hb dL_law_1794 rfl ?_
  refine n_iadd hx hb dL_law_1795 ?_
  refine l_sld C0 hX hbl hS (j := i + 1) (by omega) hL dL_law_1796 ?_
  refine k0_i (rn_L_196 (As := [.int (xs (i + 1))]) (rest := []) (r := 6) C0 (M2 _) hP hS (by omega) h6 rfl ⟨g1, g2⟩ ⟨rm_f g3, rm_l g4 (by decide)⟩ hl.1 rfl (Nat.le_of_ble_eq_true rfl) dL_law_1797 ⟨hc1, hs1⟩) C0 hP hS (fun v2 c2 H locs hp hP hS => ?_)
  obtain ⟨sc', st', nw', ah', rw', fo', hI', hk⟩ := M3 _ _ hp
  refine lv_istore (lv' := [(7, .int v2), (6, .int (nI k)), (0, .ref b), (1, .ref (ad 0)), (2, .ref (ad 6)), (3, .ref (ad 10)), (4, .ref (ad 11)), (5, .int (nI i))]) hx hb dL_law_1800 hl (by decide) rfl (fun ls hl => ?_)
  refine lv_aload_n hx hb dL_law_1802 rfl (lv_at hl 4 rfl) ?_
  refine k0_i (rn_L_114 (As := []) (rest := []) (r := 6) C0 (m_X2_thrown l D cA N ad c2 (nI k) n nw' ah' rw' (by omega) hI'.mo hI'.n5 _) hP hS (by omega) hI'.mo.1 rfl ⟨rfl, rfl⟩ ⟨Nat.le_of_ble_eq_true rfl, Nat.le_of_ble_eq_true rfl⟩ hl.1 rfl (Nat.le_of_ble_eq_true rfl) dL_law_1803 ⟨hc1, hs1⟩) C0 hP hS (fun v3 c3 H locs hp hP hS => ?_)
  obtain ⟨rfl, rfl⟩ := hp
  refine lv_iload hx hb dL_law_1806 (lv_at hl 1 rfl) ?_
  refine lv_icmp_eq (tgt := 1813) hx hb dL_law_1808 (by decide) (fun _ => ?_) (fun h => absurd rfl h)
  refine lv_iload hx hb dL_law_1813 (lv_at hl 1 rfl) ?_
  refine lv_if_ne (tgt := 1830) hx hb dL_law_1815 (by decide) (fun _ => ?_) (fun h => ?_)
  · skip
    refine lv_goto (tgt := 2048) hx hb dL_law_1830 (by decide) ?_
    exact hT N n ad c2 sc' st' (nI k) nw' ah' rw' fo' fd C0 hI' _ _ _ hP hS (lv_sub hl [2, 3, 4, 5, 6, 7] rfl)
  · skip
    refine lv_aload_n hx hb dL_law_1818 rfl (lv_at hl 5 rfl) ?_
    refine lv_iconst (v := nI 0) hx hb dL_law_1819 rfl ?_
    refine a_lld C0 hP (r := 10) (by omega) hI'.out (by decide) (by decide) dL_law_1820 ?_
    refine lv_iload hx hb dL_law_1821 (lv_at hl 0 rfl) ?_
    refine lv_i2l (v := v2.toInt64) hx hb dL_law_1823 rfl ?_
    refine W.lcmp hx hb dL_law_1824 ?_
    rw [lg_same (hk (k0_of r7 h))]
    refine lv_if_eq (tgt := 1830) hx hb dL_law_1825 (by decide) (fun _ => ?_) (fun h => absurd rfl h)
    refine lv_goto (tgt := 2048) hx hb dL_law_1830 (by decide) ?_
    exact hT N n ad c2 sc' st' (nI k) nw' ah' rw' fo' fd C0 hI' _ _ _ hP hS (lv_sub hl [2, 3, 4, 5, 6, 7] rfl)
set_option maxHeartbeats 1000000 in
set_option maxRecDepth 10000 in
theorem lc_weightWanted {p : Program} {e : Env} {s : State} {m : MethodId} {below : List Frame} {meth : Method} {c0 : Code} {H : Heap} {locs : List Loc} {ls : Array Slot} {Q : State → Prop} (l : Launch) (hfl : l.stackTraces = false) (D : va_G) (cA : Nat → ClassId) (N : Nat) (ad : Nat → Nat) (c : Nat → va_E) (b L : Nat) (xs : Nat → Int32) (n : Nat) (sc : Nat → Nat → Nat) (st : Nat → Nat → Nat → Int32) (th : Int32) (nw ah rw : Nat → Int32) (fo : Nat → Int64) (fd : Nat → UInt64) (B i cells slots : Nat) (C0 : Cx p s m c0 cL_law 9 RL D cA N ad (fun q => s.heap.size ≤ q)) (hX : va_X b L xs s s.heap) (hbl : b < s.heap.size) (hi : i + 5 ≤ L) (hL : L ≤ 2560) (hI : Inv ad cA c N n sc st th nw ah rw fo fd B) (hB : B ≤ 110000) (hc1 : cells + 5 ≤ 601024) (hs1 : slots + 65 ≤ 7293034) (hT : LTail p l e s m below meth c0 Q D cA b (cells + 5) (slots + 65) i (B + 200)) (hP : va_P D vwCl (wl N ad c) H) (hS : va_S (fun q => s.heap.size ≤ q) s.heap H locs) (hl : lv_has ls 9 [(0, .ref b), (1, .ref (ad 0)), (2, .ref (ad 6)), (3, .ref (ad 10)), (4, .ref (ad 11)), (5, .int (nI i))]) : W p l e room_1 s m #[Value.ref b] below meth c0 H locs cells slots Q (F0 m 1833 ls []) := by
  have hx := C0.1
  have hb := C0.2.1
  have hN := hI.hN
  have hn5 := hI.n5
  obtain ⟨rm, mc, ms, k, R1, r1, r2, r3, r4, r5, r6, r7, M, M2⟩ := s_weightWanted l D cA N ad c hfl n sc st th nw ah rw fo fd B hI hB (xs (i + 1))
  refine lv_aload_n hx hb dL_law_1833 rfl (lv_at hl 1 rfl) ?_
  refine lv_aload_n hx hb dL_law_1834 rfl (lv_at hl 0 rfl) ?_
  refine lv_iload hx hb dL_law_1835 (lv_at hl 5 rfl) ?_
  refine lv_iconst (v := nI 1) hx hb dL_law_1837 rfl ?_
  refine n_iadd hx hb dL_law_1838 ?_
  refine l_sld C0 hX hbl hS (j := i + 1) (by omega) hL dL_law_1839 ?_
  refine lv_aload_n hx hb dL_law_1840 rfl (lv_at hl 3 rfl) ?_
  refine k_i (rn_L_197 (As := [.ref (ad 0), .int (xs (i + 1)), .ref (ad 10)]) (rest := []) C0 (M _) hP hS rfl ⟨r1, r2⟩ ⟨rm_f r3, rm_l r4 (by decide)⟩ hl.1 rfl (Nat.le_of_ble_eq_true rfl) dL_law_1841 ⟨rm_c hc1 (by omega), rm_s hs1 (by omega)⟩) C0 hP hS (fun v1 c1 H locs hp hP hS => ?_)
  obtain ⟨rfl, hR1⟩ := hp
  obtain ⟨⟨fs, h6⟩, rm2, R2, g1, g2, g3, g4, M2, M3⟩ := M2 _ hR1
  refine W.widen (k := cells + 5) (n := slots + 65) (by omega) (by omega) ?_
  refine lv_istore (lv' := [(6, .int (nI k)), (0, .ref b), (1, .ref (ad 0)), (2, .ref (ad 6)), (3, .ref (ad 10)), (4, .ref (ad 11)), (5, .int (nI i))]) hx hb dL_law_1844 hl (by decide) rfl (fun ls hl => ?_)
  refine lv_aload_n hx hb dL_law_1846 rfl (lv_at hl 3 rfl) ?_
  refine lv_aload_n hx hb dL_law_1847 rfl (lv_at hl 1 rfl) ?_
  refine lv_iload hx hb dL_law_1848 (lv_at hl 6 rfl) ?_
  refine lv_iconst (v := nI 1) hx hb dL_law_1850 rfl ?_
  refine n_iadd hx hb dL_law_1851 ?_
  refine l_sld C0 hX hbl hS (j := i + 1) (by omega) hL dL_law_1852 ?_
  refine k0_i (rn_L_199 (As := [.int (xs (i + 1))]) (rest := []) (r := 6) C0 (M2 _) hP hS (by omega) h6 rfl ⟨g1, g2⟩ ⟨rm_f g3, rm_l g4 (by decide)⟩ hl.1 rfl (Nat.le_of_ble_eq_true rfl) dL_law_1853 ⟨hc1, hs1⟩) C0 hP hS (fun v2 c2 H locs hp hP hS => ?_)
  obtain ⟨sc', st', nw', ah', rw', fo', hI', hk⟩ := M3 _ _ hp
  refine lv_istore (lv' := [(7, .int v2), (6, .int (nI k)), (0, .ref b), (1, .ref (ad 0)), (2, .ref (ad 6)), (3, .ref (ad 10)), (4, .ref (ad 11)), (5, .int (nI i))]) hx hb dL_law_1856 hl (by decide) rfl (fun ls hl => ?_)
  refine lv_aload_n hx hb dL_law_1858 rfl (lv_at hl 4 rfl) ?_
  refine k0_i (rn_L_114 (As := []) (rest := []) (r := 6) C0 (m_X2_thrown l D cA N ad c2 (nI k) n nw' ah' rw' (by omega) hI'.mo hI'.n5 _) hP hS (by omega) hI'.mo.1 rfl ⟨rfl, rfl⟩ ⟨Nat.le_of_ble_eq_true rfl, Nat.le_of_ble_eq_true rfl⟩ hl.1 rfl (Nat.le_of_ble_eq_true rfl) dL_law_1859 ⟨hc1, hs1⟩) C0 hP hS (fun v3 c3 H locs hp hP hS => ?_)
  obtain ⟨rfl, rfl⟩ := hp
  refine lv_iload hx hb dL_law_1862 (lv_at hl 1 rfl) ?_
  refine lv_icmp_eq (tgt := 1869) hx hb dL_law_1864 (by decide) (fun _ => ?_) (fun h => absurd rfl h)
  refine lv_iload hx hb dL_law_1869 (lv_at hl 1 rfl) ?_
  refine lv_if_ne (tgt := 1886) hx hb dL_law_1871 (by decide) (fun _ => ?_) (fun h => ?_)
  · skip
    refine lv_goto (tgt := 2048) hx hb dL_law_1886 (by decide) ?_
    exact hT N n ad c2 sc' st' (nI k) nw' ah' rw' fo' fd C0 hI' _ _ _ hP hS (lv_sub hl [2, 3, 4, 5, 6, 7] rfl)
  · skip
    refine lv_aload_n hx hb dL_law_1874 rfl (lv_at hl 5 rfl) ?_
    refine lv_iconst (v := nI 0) hx hb dL_law_1875 rfl ?_
    refine a_lld C0 hP (r := 10) (by omega) hI'.out (by decide) (by decide) dL_law_1876 ?_
    refine lv_iload hx hb dL_law_1877 (lv_at hl 0 rfl) ?_
    refine lv_i2l (v := v2.toInt64) hx hb dL_law_1879 rfl ?_
    refine W.lcmp hx hb dL_law_1880 ?_
    rw [lg_same (hk (k0_of r7 h))]
    refine lv_if_eq (tgt := 1886) hx hb dL_law_1881 (by decide) (fun _ => ?_) (fun h => absurd rfl h)
    refine lv_goto (tgt := 2048) hx hb dL_law_1886 (by decide) ?_
    exact hT N n ad c2 sc' st' (nI k) nw' ah' rw' fo' fd C0 hI' _ _ _ hP hS (lv_sub hl [2, 3, 4, 5, 6, 7] rfl)
set_option maxHeartbeats 1000000 in
set_option maxRecDepth 10000 in
theorem lc_wouldJoin {p : Program} {e : Env} {s : State} {m : MethodId} {below : List Frame} {meth : Method} {c0 : Code} {H : Heap} {locs : List Loc} {ls : Array Slot} {Q : State → Prop} (l : Launch) (hfl : l.stackTraces = false) (D : va_G) (cA : Nat → ClassId) (N : Nat) (ad : Nat → Nat) (c : Nat → va_E) (b L : Nat) (xs : Nat → Int32) (n : Nat) (sc : Nat → Nat → Nat) (st : Nat → Nat → Nat → Int32) (th : Int32) (nw ah rw : Nat → Int32) (fo : Nat → Int64) (fd : Nat → UInt64) (B i cells slots : Nat) (C0 : Cx p s m c0 cL_law 9 RL D cA N ad (fun q => s.heap.size ≤ q)) (hX : va_X b L xs s s.heap) (hbl : b < s.heap.size) (hi : i + 5 ≤ L) (hL : L ≤ 2560) (hI : Inv ad cA c N n sc st th nw ah rw fo fd B) (hB : B ≤ 110000) (hc1 : cells + 5 ≤ 601024) (hs1 : slots + 65 ≤ 7293034) (hT : LTail p l e s m below meth c0 Q D cA b (cells + 5) (slots + 65) i (B + 200)) (hP : va_P D vwCl (wl N ad c) H) (hS : va_S (fun q => s.heap.size ≤ q) s.heap H locs) (hl : lv_has ls 9 [(0, .ref b), (1, .ref (ad 0)), (2, .ref (ad 6)), (3, .ref (ad 10)), (4, .ref (ad 11)), (5, .int (nI i))]) : W p l e room_1 s m #[Value.ref b] below meth c0 H locs cells slots Q (F0 m 1889 ls []) := by
  have hx := C0.1
  have hb := C0.2.1
  have hN := hI.hN
  have hn5 := hI.n5
  obtain ⟨rm, mc, ms, k, R1, r1, r2, r3, r4, r5, r6, r7, M, M2⟩ := s_wouldJoin l D cA N ad c hfl n sc st th nw ah rw fo fd B hI hB C0.2.2.2.2.2.2.1.1 (xs (i + 1)) (xs (i + 2))
  refine lv_aload_n hx hb dL_law_1889 rfl (lv_at hl 1 rfl) ?_
  refine lv_aload_n hx hb dL_law_1890 rfl (lv_at hl 0 rfl) ?_
  refine lv_iload hx hb dL_law_1891 (lv_at hl 5 rfl) ?_
  refine lv_iconst (v := nI 1) hx hb dL_law_1893 rfl ?_
  refine n_iadd hx hb dL_law_1894 ?_
  refine l_sld C0 hX hbl hS (j := i + 1) (by omega) hL dL_law_1895 ?_
  refine lv_aload_n hx hb dL_law_1896 rfl (lv_at hl 0 rfl) ?_
  refine lv_iload hx hb dL_law_1897 (lv_at hl 5 rfl) ?_
  refine lv_iconst (v := nI 2) hx hb dL_law_1899 rfl ?_
  refine n_iadd hx hb dL_law_1900 ?_
  refine l_sld C0 hX hbl hS (j := i + 2) (by omega) hL dL_law_1901 ?_
  refine lv_aload_n hx hb dL_law_1902 rfl (lv_at hl 3 rfl) ?_
  refine k_i (rn_L_200 (As := [.ref (ad 0), .int (xs (i + 1)), .int (xs (i + 2)), .ref (ad 10)]) (rest := []) C0 (M _) hP hS rfl ⟨r1, r2⟩ ⟨rm_f r3, rm_l r4 (by decide)⟩ hl.1 rfl (Nat.le_of_ble_eq_true rfl) dL_law_1903 ⟨rm_c hc1 (by omega), rm_s hs1 (by omega)⟩) C0 hP hS (fun v1 c1 H locs hp hP hS => ?_)
  obtain ⟨rfl, hR1⟩ := hp
  obtain ⟨⟨fs, h6⟩, rm2, R2, g1, g2, g3, g4, M2, M3⟩ := M2 _ hR1
  refine W.widen (k := cells + 5) (n := slots + 65) (by omega) (by omega) ?_
  refine lv_istore (lv' := [(6, .int (nI k)), (0, .ref b), (1, .ref (ad 0)), (2, .ref (ad 6)), (3, .ref (ad 10)), (4, .ref (ad 11)), (5, .int (nI i))]) hx hb dL_law_1906 hl (by decide) rfl (fun ls hl => ?_)
  refine lv_aload_n hx hb dL_law_1908 rfl (lv_at hl 3 rfl) ?_
  refine lv_aload_n hx hb dL_law_1909 rfl (lv_at hl 1 rfl) ?_
  refine lv_iload hx hb dL_law_1910 (lv_at hl 6 rfl) ?_
  refine lv_iconst (v := nI 1) hx hb dL_law_1912 rfl ?_
  refine n_iadd hx hb dL_law_1913 ?_
  refine l_sld C0 hX hbl hS (j := i + 1) (by omega) hL dL_law_1914 ?_
  refine lv_aload_n hx hb dL_law_1915 rfl (lv_at hl 1 rfl) ?_
  refine lv_iload hx hb dL_law_1916 (lv_at hl 6 rfl) ?_
  refine lv_iconst (v := nI 2) hx hb dL_law_1918 rfl ?_
  refine n_iadd hx hb dL_law_1919 ?_
  refine l_sld C0 hX hbl hS (j := i + 2) (by omega) hL dL_law_1920 ?_
  refine k0_i (rn_L_202 (As := [.int (xs (i + 1)), .int (xs (i + 2))]) (rest := []) (r := 6) C0 (M2 _) hP hS (by omega) h6 rfl ⟨g1, g2⟩ ⟨rm_f g3, rm_l g4 (by decide)⟩ hl.1 rfl (Nat.le_of_ble_eq_true rfl) dL_law_1921 ⟨hc1, hs1⟩) C0 hP hS (fun v2 c2 H locs hp hP hS => ?_)
  obtain ⟨sc', st', nw', ah', rw', fo', hI', hk⟩ := M3 _ _ hp
  refine lv_istore (lv' := [(7, .int v2), (6, .int (nI k)), (0, .ref b), (1, .ref (ad 0)), (2, .ref (ad 6)), (3, .ref (ad 10)), (4, .ref (ad 11)), (5, .int (nI i))]) hx hb dL_law_1924 hl (by decide) rfl (fun ls hl => ?_)
  refine lv_aload_n hx hb dL_law_1926 rfl (lv_at hl 4 rfl) ?_
  refine k0_i (rn_L_114 (As := []) (rest := []) (r := 6) C0 (m_X2_thrown l D cA N ad c2 (nI k) n nw' ah' rw' (by omega) hI'.mo hI'.n5 _) hP hS (by omega) hI'.mo.1 rfl ⟨rfl, rfl⟩ ⟨Nat.le_of_ble_eq_true rfl, Nat.le_of_ble_eq_true rfl⟩ hl.1 rfl (Nat.le_of_ble_eq_true rfl) dL_law_1927 ⟨hc1, hs1⟩) C0 hP hS (fun v3 c3 H locs hp hP hS => ?_)
  obtain ⟨rfl, rfl⟩ := hp
  refine lv_iload hx hb dL_law_1930 (lv_at hl 1 rfl) ?_
  refine lv_icmp_eq (tgt := 1937) hx hb dL_law_1932 (by decide) (fun _ => ?_) (fun h => absurd rfl h)
  refine lv_iload hx hb dL_law_1937 (lv_at hl 1 rfl) ?_
  refine lv_if_ne (tgt := 1954) hx hb dL_law_1939 (by decide) (fun _ => ?_) (fun h => ?_)
  · skip
    refine lv_goto (tgt := 2048) hx hb dL_law_1954 (by decide) ?_
    exact hT N n ad c2 sc' st' (nI k) nw' ah' rw' fo' fd C0 hI' _ _ _ hP hS (lv_sub hl [2, 3, 4, 5, 6, 7] rfl)
  · skip
    refine lv_aload_n hx hb dL_law_1942 rfl (lv_at hl 5 rfl) ?_
    refine lv_iconst (v := nI 0) hx hb dL_law_1943 rfl ?_
    refine a_lld C0 hP (r := 10) (by omega) hI'.out (by decide) (by decide) dL_law_1944 ?_
    refine lv_iload hx hb dL_law_1945 (lv_at hl 0 rfl) ?_
    refine lv_i2l (v := v2.toInt64) hx hb dL_law_1947 rfl ?_
    refine W.lcmp hx hb dL_law_1948 ?_
    rw [lg_same (hk (k0_of r7 h))]
    refine lv_if_eq (tgt := 1954) hx hb dL_law_1949 (by decide) (fun _ => ?_) (fun h => absurd rfl h)
    refine lv_goto (tgt := 2048) hx hb dL_law_1954 (by decide) ?_
    exact hT N n ad c2 sc' st' (nI k) nw' ah' rw' fo' fd C0 hI' _ _ _ hP hS (lv_sub hl [2, 3, 4, 5, 6, 7] rfl)
