/-! the law's loop -/
theorem l_cmp {L i : Nat} (hL : L ≤ 2560) (hi : i ≤ 2560) (h : ¬ nI L - nI 5 < nI i) : i + 5 ≤ L := by
  rw [Int32.lt_iff_toInt_lt] at h
  by_cases h5 : 5 ≤ L
  · rw [pk_sub h5, nI_toInt (by omega), nI_toInt (by omega)] at h
    omega
  · exfalso
    apply h
    rw [nI_toInt (by omega)]
    have h9 : (nI L - nI 5).toInt < 0 := by
      rcases (show L = 0 ∨ L = 1 ∨ L = 2 ∨ L = 3 ∨ L = 4 by omega) with rfl | rfl | rfl | rfl | rfl <;> decide
    omega
set_option maxHeartbeats 4000000 in
set_option maxRecDepth 100000 in
theorem l_body {p : Program} {e : Env} {s : State} {m : MethodId} {below : List Frame} {meth : Method} {c0 : Code} {H : Heap} {locs : List Loc} {ls : Array Slot} {Q : State → Prop} (l : Launch) (hfl : l.stackTraces = false) (D : va_G) (cA : Nat → ClassId) (N : Nat) (ad : Nat → Nat) (c : Nat → va_E) (b L : Nat) (xs : Nat → Int32) (n : Nat) (sc : Nat → Nat → Nat) (st : Nat → Nat → Nat → Int32) (th : Int32) (nw ah rw : Nat → Int32) (fo : Nat → Int64) (fd : Nat → UInt64) (B i cells slots : Nat) (C0 : Cx p s m c0 cL_law 9 RL D cA N ad (fun q => s.heap.size ≤ q)) (hX : va_X b L xs s s.heap) (hbl : b < s.heap.size) (hi : i + 5 ≤ L) (hL : L ≤ 2560) (hI : Inv ad cA c N n sc st th nw ah rw fo fd B) (hB : B ≤ 110000) (hc1 : cells + 5 ≤ 601024) (hs1 : slots + 65 ≤ 7293034) (hT : LTail p l e s m below meth c0 Q D cA b (cells + 5) (slots + 65) i (B + 200)) (hP : va_P D vwCl (wl N ad c) H) (hS : va_S (fun q => s.heap.size ≤ q) s.heap H locs) (hl : lv_has ls 9 [(0, .ref b), (1, .ref (ad 0)), (2, .ref (ad 6)), (3, .ref (ad 10)), (4, .ref (ad 11)), (5, .int (nI i))]) : W p l e room_1 s m #[Value.ref b] below meth c0 H locs cells slots Q (F0 m 37 ls []) := by
  have hx := C0.1
  have hb := C0.2.1
  refine lv_aload_n hx hb dL_law_37 rfl (lv_at hl 0 rfl) ?_
  refine lv_iload hx hb dL_law_38 (lv_at hl 5 rfl) ?_
  refine l_sld C0 hX hbl hS (j := i) (by omega) hL dL_law_40 ?_
  refine lv_bipush (v := nI 31) hx hb dL_law_41 rfl ?_
  refine lv_iand hx hb dL_law_43 ?_
  obtain ⟨v, hv, ev⟩ := and31 (xs i)
  rw [ev]
  rcases (show v = 0 ∨ v = 1 ∨ v = 2 ∨ v = 3 ∨ v = 4 ∨ v = 5 ∨ v = 6 ∨ v = 7 ∨ v = 8 ∨ v = 9 ∨ v = 10 ∨ v = 11 ∨ v = 12 ∨ v = 13 ∨ v = 14 ∨ v = 15 ∨ v = 16 ∨ v = 17 ∨ v = 18 ∨ v = 19 ∨ v = 20 ∨ v = 21 ∨ v = 22 ∨ v = 23 ∨ v = 24 ∨ v = 25 ∨ v = 26 ∨ v = 27 ∨ v = 28 ∨ v = 29 ∨ v = 30 ∨ v = 31 by omega) with rfl | rfl | rfl | rfl | rfl | rfl | rfl | rfl | rfl | rfl | rfl | rfl | rfl | rfl | rfl | rfl | rfl | rfl | rfl | rfl | rfl | rfl | rfl | rfl | rfl | rfl | rfl | rfl | rfl | rfl | rfl | rfl
  · exact lv_tableIn (off := 136) (tgt := 180) hx hb dL_law_44 (by decide) (by decide) rfl (by decide) (lc_addHand l hfl D cA N ad c b L xs n sc st th nw ah rw fo fd B i cells slots C0 hX hbl hi hL hI hB hc1 hs1 hT hP hS hl)
  · exact lv_tableIn (off := 216) (tgt := 260) hx hb dL_law_44 (by decide) (by decide) rfl (by decide) (lc_offer l hfl D cA N ad c b L xs n sc st th nw ah rw fo fd B i cells slots C0 hX hbl hi hL hI hB hc1 hs1 hT hP hS hl)
  · exact lv_tableIn (off := 296) (tgt := 340) hx hb dL_law_44 (by decide) (by decide) rfl (by decide) (lc_offerRow l hfl D cA N ad c b L xs n sc st th nw ah rw fo fd B i cells slots C0 hX hbl hi hL hI hB hc1 hs1 hT hP hS hl)
  · exact lv_tableIn (off := 388) (tgt := 432) hx hb dL_law_44 (by decide) (by decide) rfl (by decide) (lc_mix l hfl D cA N ad c b L xs n sc st th nw ah rw fo fd B i cells slots C0 hX hbl hi hL hI hB hc1 hs1 hT hP hS hl)
  · exact lv_tableIn (off := 444) (tgt := 488) hx hb dL_law_44 (by decide) (by decide) rfl (by decide) (lc_join l hfl D cA N ad c b L xs n sc st th nw ah rw fo fd B i cells slots C0 hX hbl hi hL hI hB hc1 hs1 hT hP hS hl)
  · exact lv_tableIn (off := 512) (tgt := 556) hx hb dL_law_44 (by decide) (by decide) rfl (by decide) (lc_setLuck l hfl D cA N ad c b L xs n sc st th nw ah rw fo fd B i cells slots C0 hX hbl hi hL hI hB hc1 hs1 hT hP hS hl)
  · exact lv_tableIn (off := 580) (tgt := 624) hx hb dL_law_44 (by decide) (by decide) rfl (by decide) (lc_hands l hfl D cA N ad c b L xs n sc st th nw ah rw fo fd B i cells slots C0 hX hbl hi hL hI hB hc1 hs1 hT hP hS hl)
  · exact lv_tableIn (off := 593) (tgt := 637) hx hb dL_law_44 (by decide) (by decide) rfl (by decide) (lc_holds l hfl D cA N ad c b L xs n sc st th nw ah rw fo fd B i cells slots C0 hX hbl hi hL hI hB hc1 hs1 hT hP hS hl)
  · exact lv_tableIn (off := 649) (tgt := 693) hx hb dL_law_44 (by decide) (by decide) rfl (by decide) (lc_roomOf l hfl D cA N ad c b L xs n sc st th nw ah rw fo fd B i cells slots C0 hX hbl hi hL hI hB hc1 hs1 hT hP hS hl)
  · exact lv_tableIn (off := 705) (tgt := 749) hx hb dL_law_44 (by decide) (by decide) rfl (by decide) (lc_seenBy l hfl D cA N ad c b L xs n sc st th nw ah rw fo fd B i cells slots C0 hX hbl hi hL hI hB hc1 hs1 hT hP hS hl)
  · exact lv_tableIn (off := 761) (tgt := 805) hx hb dL_law_44 (by decide) (by decide) rfl (by decide) (lc_loadOf l hfl D cA N ad c b L xs n sc st th nw ah rw fo fd B i cells slots C0 hX hbl hi hL hI hB hc1 hs1 hT hP hS hl)
  · exact lv_tableIn (off := 817) (tgt := 861) hx hb dL_law_44 (by decide) (by decide) rfl (by decide) (lc_luckOf l hfl D cA N ad c b L xs n sc st th nw ah rw fo fd B i cells slots C0 hX hbl hi hL hI hB hc1 hs1 hT hP hS hl)
  · exact lv_tableIn (off := 873) (tgt := 917) hx hb dL_law_44 (by decide) (by decide) rfl (by decide) (lc_valueAt l hfl D cA N ad c b L xs n sc st th nw ah rw fo fd B i cells slots C0 hX hbl hi hL hI hB hc1 hs1 hT hP hS hl)
  · exact lv_tableIn (off := 941) (tgt := 985) hx hb dL_law_44 (by decide) (by decide) rfl (by decide) (lc_weightAt l hfl D cA N ad c b L xs n sc st th nw ah rw fo fd B i cells slots C0 hX hbl hi hL hI hB hc1 hs1 hT hP hS hl)
  · exact lv_tableIn (off := 1009) (tgt := 1053) hx hb dL_law_44 (by decide) (by decide) rfl (by decide) (lc_cameAs l hfl D cA N ad c b L xs n sc st th nw ah rw fo fd B i cells slots C0 hX hbl hi hL hI hB hc1 hs1 hT hP hS hl)
  · exact lv_tableIn (off := 1077) (tgt := 1121) hx hb dL_law_44 (by decide) (by decide) rfl (by decide) (lc_placeOf l hfl D cA N ad c b L xs n sc st th nw ah rw fo fd B i cells slots C0 hX hbl hi hL hI hB hc1 hs1 hT hP hS hl)
  · exact lv_tableIn (off := 1145) (tgt := 1189) hx hb dL_law_44 (by decide) (by decide) rfl (by decide) (lc_sum l hfl D cA N ad c b L xs n sc st th nw ah rw fo fd B i cells slots C0 hX hbl hi hL hI hB hc1 hs1 hT hP hS hl)
  · exact lv_tableIn (off := 1201) (tgt := 1245) hx hb dL_law_44 (by decide) (by decide) rfl (by decide) (lc_lowest l hfl D cA N ad c b L xs n sc st th nw ah rw fo fd B i cells slots C0 hX hbl hi hL hI hB hc1 hs1 hT hP hS hl)
  · exact lv_tableIn (off := 1257) (tgt := 1301) hx hb dL_law_44 (by decide) (by decide) rfl (by decide) (lc_rankOf l hfl D cA N ad c b L xs n sc st th nw ah rw fo fd B i cells slots C0 hX hbl hi hL hI hB hc1 hs1 hT hP hS hl)
  · exact lv_tableIn (off := 1325) (tgt := 1369) hx hb dL_law_44 (by decide) (by decide) rfl (by decide) (lc_middle l hfl D cA N ad c b L xs n sc st th nw ah rw fo fd B i cells slots C0 hX hbl hi hL hI hB hc1 hs1 hT hP hS hl)
  · exact lv_tableIn (off := 1381) (tgt := 1425) hx hb dL_law_44 (by decide) (by decide) rfl (by decide) (lc_shared l hfl D cA N ad c b L xs n sc st th nw ah rw fo fd B i cells slots C0 hX hbl hi hL hI hB hc1 hs1 hT hP hS hl)
  · exact lv_tableIn (off := 1449) (tgt := 1493) hx hb dL_law_44 (by decide) (by decide) rfl (by decide) (lc_luckIn l hfl D cA N ad c b L xs n sc st th nw ah rw fo fd B i cells slots C0 hX hbl hi hL hI hB hc1 hs1 hT hP hS hl)
  · exact lv_tableIn (off := 1517) (tgt := 1561) hx hb dL_law_44 (by decide) (by decide) rfl (by decide) (lc_drawsUntil l hfl D cA N ad c b L xs n sc st th nw ah rw fo fd B i cells slots C0 hX hbl hi hL hI hB hc1 hs1 hT hP hS hl)
  · exact lv_tableIn (off := 1597) (tgt := 1641) hx hb dL_law_44 (by decide) (by decide) rfl (by decide) (lc_wouldTake l hfl D cA N ad c b L xs n sc st th nw ah rw fo fd B i cells slots C0 hX hbl hi hL hI hB hc1 hs1 hT hP hS hl)
  · exact lv_tableIn (off := 1665) (tgt := 1709) hx hb dL_law_44 (by decide) (by decide) rfl (by decide) (lc_wouldStay l hfl D cA N ad c b L xs n sc st th nw ah rw fo fd B i cells slots C0 hX hbl hi hL hI hB hc1 hs1 hT hP hS hl)
  · exact lv_tableIn (off := 1733) (tgt := 1777) hx hb dL_law_44 (by decide) (by decide) rfl (by decide) (lc_untilTaken l hfl D cA N ad c b L xs n sc st th nw ah rw fo fd B i cells slots C0 hX hbl hi hL hI hB hc1 hs1 hT hP hS hl)
  · exact lv_tableIn (off := 1789) (tgt := 1833) hx hb dL_law_44 (by decide) (by decide) rfl (by decide) (lc_weightWanted l hfl D cA N ad c b L xs n sc st th nw ah rw fo fd B i cells slots C0 hX hbl hi hL hI hB hc1 hs1 hT hP hS hl)
  · exact lv_tableIn (off := 1845) (tgt := 1889) hx hb dL_law_44 (by decide) (by decide) rfl (by decide) (lc_wouldJoin l hfl D cA N ad c b L xs n sc st th nw ah rw fo fd B i cells slots C0 hX hbl hi hL hI hB hc1 hs1 hT hP hS hl)
  · exact lv_tableIn (off := 1913) (tgt := 1957) hx hb dL_law_44 (by decide) (by decide) rfl (by decide) (lc_meanValue l hfl D cA N ad c b L xs n sc st th nw ah rw fo fd B i cells slots C0 hX hbl hi hL hI hB hc1 hs1 hT hP hS hl)
  · exact lv_tableIn (off := 1990) (tgt := 2034) hx hb dL_law_44 (by decide) (by decide) rfl (by decide) (lc_digest l hfl D cA N ad c b L xs n sc st th nw ah rw fo fd B i cells slots C0 hX hbl hi hL hI hB hc1 hs1 hT hP hS hl)
  · exact lv_tableOut (tgt := 2048) hx hb dL_law_44 (Or.inr (by decide)) (by decide) (W.widen (k := cells + 5) (n := slots + 65) (by omega) (by omega) (hT N n ad c sc st th nw ah rw fo fd C0 (hI.up (by omega)) _ _ _ hP hS hl))
  · exact lv_tableOut (tgt := 2048) hx hb dL_law_44 (Or.inr (by decide)) (by decide) (W.widen (k := cells + 5) (n := slots + 65) (by omega) (by omega) (hT N n ad c sc st th nw ah rw fo fd C0 (hI.up (by omega)) _ _ _ hP hS hl))
set_option maxHeartbeats 4000000 in
set_option maxRecDepth 100000 in
theorem l_loop {p : Program} {e : Env} {s : State} {m : MethodId} {below : List Frame} {meth : Method} {c0 : Code} {Q : State → Prop} (l : Launch) (hfl : l.stackTraces = false) (D : va_G) (cA : Nat → ClassId) (b L : Nat) (xs : Nat → Int32) (hX : va_X b L xs s s.heap) (hbl : b < s.heap.size) (hL : L ≤ 2560) (hend : ∀ (H : Heap) (locs : List Loc) (ls : Array Slot), va_S (fun q => s.heap.size ≤ q) s.heap H locs → W p l e room_1 s m #[Value.ref b] below meth c0 H locs 601024 7293034 Q (F0 m 2055 ls [.int (nI 1)])) : ∀ (f j N n : Nat) (ad : Nat → Nat) (c : Nat → va_E) (sc : Nat → Nat → Nat) (st : Nat → Nat → Nat → Int32) (th : Int32) (nw ah rw : Nat → Int32) (fo : Nat → Int64) (fd : Nat → UInt64), 5 * j ≤ L → L < 5 * j + 5 * f → Cx p s m c0 cL_law 9 RL D cA N ad (fun q => s.heap.size ≤ q) → Inv ad cA c N n sc st th nw ah rw fo fd (200 * j) → ∀ (H : Heap) (locs : List Loc) (ls : Array Slot), va_P D vwCl (wl N ad c) H → va_S (fun q => s.heap.size ≤ q) s.heap H locs → lv_has ls 9 [(0, .ref b), (1, .ref (ad 0)), (2, .ref (ad 6)), (3, .ref (ad 10)), (4, .ref (ad 11)), (5, .int (nI (5 * j)))] → W p l e room_1 s m #[Value.ref b] below meth c0 H locs (20 + 5 * j) (600 + 65 * j) Q (F0 m 28 ls []) := by
  intro f
  induction f with
  | zero => intro j N n ad c sc st th nw ah rw fo fd h1 h2; exact absurd h2 (by omega)
  | succ f ih =>
    intro j N n ad c sc st th nw ah rw fo fd h1 h2 C0 hI H locs ls hP hS hl
    have hx := C0.1
    have hb := C0.2.1
    refine lv_iload hx hb dL_law_28 (lv_at hl 5 rfl) ?_
    refine lv_aload_n hx hb dL_law_30 rfl (lv_at hl 0 rfl) ?_
    refine va_slen hx hb hX hbl (Nat.not_le.mpr hbl) hS dL_law_31 ?_
    refine lv_iconst (v := nI 5) hx hb dL_law_32 rfl ?_
    refine lv_isub hx hb dL_law_33 ?_
    refine lv_icmp_gt (tgt := 2054) hx hb dL_law_34 (by decide) (fun h => ?_) (fun h => ?_)
    · refine lv_iconst (v := nI 1) hx hb dL_law_2054 rfl ?_
      refine W.widen (k := 601024) (n := 7293034) (by omega) (by omega) ?_
      exact hend _ _ _ hS
    · have hlt : 5 * j + 5 ≤ L := l_cmp hL (by omega) h
      refine l_body l hfl D cA N ad c b L xs n sc st th nw ah rw fo fd (200 * j) (5 * j) (20 + 5 * j) (600 + 65 * j) C0 hX hbl hlt hL hI (by omega) (by omega) (by omega) ?_ hP hS hl
      intro N n ad c sc st th nw ah rw fo fd C0 hI H locs ls hP hS hl
      have hx := C0.1
      have hb := C0.2.1
      refine lv_iinc (v := nI (5 * j + 5)) (lv' := [(5, .int (nI (5 * j + 5))), (0, .ref b), (1, .ref (ad 0)), (2, .ref (ad 6)), (3, .ref (ad 10)), (4, .ref (ad 11))]) hx hb dL_law_2048 hl (k := 5) rfl (nI_add (5 * j) 5) (by decide) rfl (fun ls hl => ?_)
      refine lv_goto (tgt := 28) hx hb dL_law_2051 (by decide) ?_
      refine W.widen (k := 20 + 5 * (j + 1)) (n := 600 + 65 * (j + 1)) (by omega) (by omega) ?_
      have e5 : 5 * (j + 1) = 5 * j + 5 := by omega
      exact ih (j + 1) N n ad c sc st th nw ah rw fo fd (by omega) (by omega) C0 (hI.up (by omega)) _ _ _ hP hS (by rw [e5]; exact lv_sub hl [1, 2, 3, 4, 5, 0] rfl)
