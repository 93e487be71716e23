/-! the small objects -/
theorem d_n1 {a b : Prop} (h : ¬ a) : ¬ (a ∧ b) := fun z => h z.1
theorem d_n2 {a : Prop} {u v : Int32} (h : v < u) : ¬ (a ∧ u ≤ v) := fun z => Int32.not_le.mpr h z.2
/-- label bits behind keepLabel -/
def c_keep (v : Int32) (t : Nat) (h : Bool) : Int32 := if h then v ||| (1 <<< (nI t &&& 31)) else v &&& ((1 <<< (nI t &&& 31)) ^^^ (-1))
theorem c_keep_f {v : Int32} {t : Nat} {h : Bool} (c : bI h = 0) : c_keep v t h = v &&& ((1 <<< (nI t &&& 31)) ^^^ (-1)) := by
  rw [bI_0.mp c]
  rfl
theorem c_keep_t {v : Int32} {t : Nat} {h : Bool} (c : ¬ bI h = 0) : c_keep v t h = v ||| (1 <<< (nI t &&& 31)) := by
  rw [bI_n.mp c]
  rfl
theorem c_reord {M : mw_M} {r k s : Nat} {a b c d : Option va_E} (h1 : r ≠ k) (h2 : r ≠ s) : va_up (va_up (va_up (va_up M r a) k b) s c) r d = va_up (va_up (va_up M r d) k b) s c := by
  rw [mw_up2 (Ne.symm h2), mw_up2 (Ne.symm h1), mw_up1]
abbrev rm_X0_stateAt : Room := { frames := 0, cells := 0, slots := 0, locals := 0 }
set_option maxHeartbeats 4000000 in
set_option maxRecDepth 100000 in
theorem o_stateAt {l : Launch} (hfl : l.stackTraces = false) {G : mw_G} {a : Nat} {p0 p1 fa : Value} {mi tm st t : Int32} {M : mw_M} (he : M a = some (.inr (1, [p0, p1, .int mi, .int tm, fa, .int st]))) : mw_Met l G yX0_stateAt (.code yX0_stateAt cX0_stateAt 2 (some .int)) rm_X0_stateAt [.ref a, .int t] M (mw_pi (fun r M1 => r = (if st = 0 ∧ 60 ≤ t - tm then 3 else st) ∧ M = M1)) := by
  refine mw_of hfl (by decide) (Nat.le_of_ble_eq_true rfl) ?_
  intro zp ze zs zm zb zh zc ls X hin hret hT hl
  have hl : lv_has ls 2 [(0, .ref a), (1, .int t)] := hl
  refine lv_aload_n X.1 X.2.1 dX0_stateAt_0 rfl (lv_at hl 0 rfl) ?_
  refine mr_get X hT fl_RX0_15 (he) rfl dX0_stateAt_1 ?_
  refine lv_if_ne X.1 X.2.1 (tgt := 22) dX0_stateAt_4 (by decide) (fun c4 => ?_) (fun c4 => ?_)
  · skip
    refine lv_aload_n X.1 X.2.1 dX0_stateAt_22 rfl (lv_at hl 0 rfl) ?_
    refine mr_get X hT fl_RX0_15 (he) rfl dX0_stateAt_23 ?_
    exact mr_iret X hT hret (⟨_, rfl, by first | (rw [if_pos ⟨c4, Int32.not_lt.mp c15⟩]; done) | (rw [if_neg (d_n2 c15)]; done) | (rw [if_neg (d_n1 c4)]; done), rfl⟩) (Nat.le_of_ble_eq_true rfl) (Nat.le_of_ble_eq_true rfl) dX0_stateAt_26
  · skip
    refine lv_iload_n X.1 X.2.1 dX0_stateAt_7 rfl (lv_at hl 1 rfl) ?_
    refine lv_aload_n X.1 X.2.1 dX0_stateAt_8 rfl (lv_at hl 0 rfl) ?_
    refine mr_get X hT fl_RX0_29 (he) rfl dX0_stateAt_9 ?_
    refine lv_isub X.1 X.2.1 dX0_stateAt_12 ?_
    refine lv_bipush X.1 X.2.1 (v := 60) dX0_stateAt_13 (by decide) ?_
    refine lv_icmp_lt X.1 X.2.1 (tgt := 22) dX0_stateAt_15 (by decide) (fun c15 => ?_) (fun c15 => ?_)
    · skip
      refine lv_aload_n X.1 X.2.1 dX0_stateAt_22 rfl (lv_at hl 0 rfl) ?_
      refine mr_get X hT fl_RX0_15 (he) rfl dX0_stateAt_23 ?_
      exact mr_iret X hT hret (⟨_, rfl, by first | (rw [if_pos ⟨c4, Int32.not_lt.mp c15⟩]; done) | (rw [if_neg (d_n2 c15)]; done) | (rw [if_neg (d_n1 c4)]; done), rfl⟩) (Nat.le_of_ble_eq_true rfl) (Nat.le_of_ble_eq_true rfl) dX0_stateAt_26
    · skip
      refine lv_iconst X.1 X.2.1 (v := 3) dX0_stateAt_18 (by decide) ?_
      refine lv_goto X.1 X.2.1 (tgt := 26) dX0_stateAt_19 (by decide) ?_
      exact mr_iret X hT hret (⟨_, rfl, by first | (rw [if_pos ⟨c4, Int32.not_lt.mp c15⟩]; done) | (rw [if_neg (d_n2 c15)]; done) | (rw [if_neg (d_n1 c4)]; done), rfl⟩) (Nat.le_of_ble_eq_true rfl) (Nat.le_of_ble_eq_true rfl) dX0_stateAt_26

abbrev rm_X1_isOverdueAt : Room := { frames := 0, cells := 0, slots := 0, locals := 0 }
set_option maxHeartbeats 4000000 in
set_option maxRecDepth 100000 in
theorem o_isOverdueAt {l : Launch} (hfl : l.stackTraces = false) {G : mw_G} {a : Nat} {p0 p1 : Value} {tm lk t : Int32} {M : mw_M} (he : M a = some (.inr (2, [p0, p1, .int tm, .int lk]))) : mw_Met l G yX1_isOverdueAt (.code yX1_isOverdueAt cX1_isOverdueAt 2 (some .boolean)) rm_X1_isOverdueAt [.ref a, .int t] M (mw_pi (fun r M1 => r = bI (decide (lk = 0) && decide (1440 ≤ t - tm)) ∧ M = M1)) := by
  refine mw_of hfl (by decide) (Nat.le_of_ble_eq_true rfl) ?_
  intro zp ze zs zm zb zh zc ls X hin hret hT hl
  have hl : lv_has ls 2 [(0, .ref a), (1, .int t)] := hl
  refine lv_aload_n X.1 X.2.1 dX1_isOverdueAt_0 rfl (lv_at hl 0 rfl) ?_
  refine mr_get X hT fl_RX1_9 (he) rfl dX1_isOverdueAt_1 ?_
  refine lv_if_ne X.1 X.2.1 (tgt := 23) dX1_isOverdueAt_4 (by decide) (fun c4 => ?_) (fun c4 => ?_)
  · skip
    refine lv_iconst X.1 X.2.1 (v := 0) dX1_isOverdueAt_23 (by decide) ?_
    exact mr_zret X hT hret (by first | exact bI_nar _ | rfl | decide) (⟨_, rfl, by first | (rw [decide_eq_false c4]; rfl) | (rw [decide_eq_true c4, decide_eq_false (Int32.not_le.mpr c16)]; rfl) | (rw [decide_eq_true c4, decide_eq_true (Int32.not_lt.mp c16)]; rfl), rfl⟩) (Nat.le_of_ble_eq_true rfl) (Nat.le_of_ble_eq_true rfl) dX1_isOverdueAt_24
  · skip
    refine lv_iload_n X.1 X.2.1 dX1_isOverdueAt_7 rfl (lv_at hl 1 rfl) ?_
    refine lv_aload_n X.1 X.2.1 dX1_isOverdueAt_8 rfl (lv_at hl 0 rfl) ?_
    refine mr_get X hT fl_RX1_23 (he) rfl dX1_isOverdueAt_9 ?_
    refine lv_isub X.1 X.2.1 dX1_isOverdueAt_12 ?_
    refine lv_sipush X.1 X.2.1 (v := 1440) dX1_isOverdueAt_13 (by decide) ?_
    refine lv_icmp_lt X.1 X.2.1 (tgt := 23) dX1_isOverdueAt_16 (by decide) (fun c16 => ?_) (fun c16 => ?_)
    · skip
      refine lv_iconst X.1 X.2.1 (v := 0) dX1_isOverdueAt_23 (by decide) ?_
      exact mr_zret X hT hret (by first | exact bI_nar _ | rfl | decide) (⟨_, rfl, by first | (rw [decide_eq_false c4]; rfl) | (rw [decide_eq_true c4, decide_eq_false (Int32.not_le.mpr c16)]; rfl) | (rw [decide_eq_true c4, decide_eq_true (Int32.not_lt.mp c16)]; rfl), rfl⟩) (Nat.le_of_ble_eq_true rfl) (Nat.le_of_ble_eq_true rfl) dX1_isOverdueAt_24
    · skip
      refine lv_iconst X.1 X.2.1 (v := 1) dX1_isOverdueAt_19 (by decide) ?_
      refine lv_goto X.1 X.2.1 (tgt := 24) dX1_isOverdueAt_20 (by decide) ?_
      exact mr_zret X hT hret (by first | exact bI_nar _ | rfl | decide) (⟨_, rfl, by first | (rw [decide_eq_false c4]; rfl) | (rw [decide_eq_true c4, decide_eq_false (Int32.not_le.mpr c16)]; rfl) | (rw [decide_eq_true c4, decide_eq_true (Int32.not_lt.mp c16)]; rfl), rfl⟩) (Nat.le_of_ble_eq_true rfl) (Nat.le_of_ble_eq_true rfl) dX1_isOverdueAt_24

abbrev rm_X3_hasLabel : Room := { frames := 0, cells := 0, slots := 0, locals := 0 }
set_option maxHeartbeats 4000000 in
set_option maxRecDepth 100000 in
theorem o_hasLabel {l : Launch} (hfl : l.stackTraces = false) {G : mw_G} {a l0 : Nat} {nu te bt : Int32} {M : mw_M} (he : M a = some (.inr (4, [.int nu, .int te, .int bt]))) : mw_Met l G yX3_hasLabel (.code yX3_hasLabel cX3_hasLabel 2 (some .boolean)) rm_X3_hasLabel [.ref a, .int (nI l0)] M (mw_pi (fun r M1 => r = bI (decide (c_bit bt l0 = 1)) ∧ M = M1)) := by
  refine mw_of hfl (by decide) (Nat.le_of_ble_eq_true rfl) ?_
  intro zp ze zs zm zb zh zc ls X hin hret hT hl
  have hl : lv_has ls 2 [(0, .ref a), (1, .int (nI l0))] := hl
  refine lv_aload_n X.1 X.2.1 dX3_hasLabel_0 rfl (lv_at hl 0 rfl) ?_
  refine mr_get X hT fl_RX3_7 (he) rfl dX3_hasLabel_1 ?_
  refine lv_iload_n X.1 X.2.1 dX3_hasLabel_4 rfl (lv_at hl 1 rfl) ?_
  refine lv_ishr X.1 X.2.1 dX3_hasLabel_5 ?_
  refine lv_iconst X.1 X.2.1 (v := 1) dX3_hasLabel_6 (by decide) ?_
  refine lv_iand X.1 X.2.1 dX3_hasLabel_7 ?_
  refine mm_top (w := c_bit bt l0) (rfl) ?_
  refine lv_iconst X.1 X.2.1 (v := 1) dX3_hasLabel_8 (by decide) ?_
  refine lv_icmp_ne X.1 X.2.1 (tgt := 16) dX3_hasLabel_9 (by decide) (fun c9 => ?_) (fun c9 => ?_)
  · skip
    refine lv_iconst X.1 X.2.1 (v := 0) dX3_hasLabel_16 (by decide) ?_
    exact mr_zret X hT hret (by first | exact bI_nar _ | rfl | decide) (⟨_, rfl, by first | (rw [decide_eq_false c9]; rfl) | (rw [decide_eq_true c9]; rfl), rfl⟩) (Nat.le_of_ble_eq_true rfl) (Nat.le_of_ble_eq_true rfl) dX3_hasLabel_17
  · skip
    refine lv_iconst X.1 X.2.1 (v := 1) dX3_hasLabel_12 (by decide) ?_
    refine lv_goto X.1 X.2.1 (tgt := 17) dX3_hasLabel_13 (by decide) ?_
    exact mr_zret X hT hret (by first | exact bI_nar _ | rfl | decide) (⟨_, rfl, by first | (rw [decide_eq_false c9]; rfl) | (rw [decide_eq_true c9]; rfl), rfl⟩) (Nat.le_of_ble_eq_true rfl) (Nat.le_of_ble_eq_true rfl) dX3_hasLabel_17

abbrev rm_X3_keepLabel : Room := { frames := 0, cells := 0, slots := 0, locals := 0 }
set_option maxHeartbeats 4000000 in
set_option maxRecDepth 100000 in
theorem o_keepLabel {l : Launch} (hfl : l.stackTraces = false) {G : mw_G} {a l0 : Nat} {nu te bt : Int32} {h : Bool} {M : mw_M} (he : M a = some (.inr (4, [.int nu, .int te, .int bt]))) : mw_Met l G yX3_keepLabel (.code yX3_keepLabel cX3_keepLabel 4 none) rm_X3_keepLabel [.ref a, .int (nI l0), .int (bI h)] M (mw_pv (fun M1 => M1 = va_up M a (some (.inr (4, [.int nu, .int te, .int (c_keep bt l0 h)]))))) := by
  refine mw_of hfl (by decide) (Nat.le_of_ble_eq_true rfl) ?_
  intro zp ze zs zm zb zh zc ls X hin hret hT hl
  have hl : lv_has ls 4 [(0, .ref a), (1, .int (nI l0)), (2, .int (bI h))] := hl
  refine lv_iconst X.1 X.2.1 (v := 1) dX3_keepLabel_0 (by decide) ?_
  refine lv_iload_n X.1 X.2.1 dX3_keepLabel_1 rfl (lv_at hl 1 rfl) ?_
  refine lv_ishl X.1 X.2.1 dX3_keepLabel_2 ?_
  refine lv_istore_n X.1 X.2.1 dX3_keepLabel_3 rfl hl (by decide) rfl (fun ls hl => ?_)
  refine lv_aload_n X.1 X.2.1 dX3_keepLabel_4 rfl (lv_at hl 1 rfl) ?_
  refine lv_iload_n X.1 X.2.1 dX3_keepLabel_5 rfl (lv_at hl 3 rfl) ?_
  refine lv_if_eq X.1 X.2.1 (tgt := 18) dX3_keepLabel_6 (by decide) (fun c6 => ?_) (fun c6 => ?_)
  · skip
    refine lv_aload_n X.1 X.2.1 dX3_keepLabel_18 rfl (lv_at hl 1 rfl) ?_
    refine mr_get X hT fl_RX3_7 (he) rfl dX3_keepLabel_19 ?_
    refine lv_iload_n X.1 X.2.1 dX3_keepLabel_22 rfl (lv_at hl 0 rfl) ?_
    refine lv_iconst X.1 X.2.1 (v := -1) dX3_keepLabel_23 (by decide) ?_
    refine lv_ixor X.1 X.2.1 dX3_keepLabel_24 ?_
    refine lv_iand X.1 X.2.1 dX3_keepLabel_25 ?_
    refine mr_put X hT fp_RX3_7 (fun h => nomatch h) he rfl rfl (by simp) dX3_keepLabel_26 (fun H locs hT => ?_)
    exact mr_vret X hT hret (⟨rfl, by first | (rw [c_keep_f c6]; rfl) | (rw [c_keep_t c6]; rfl)⟩) (Nat.le_of_ble_eq_true rfl) (Nat.le_of_ble_eq_true rfl) dX3_keepLabel_29
  · skip
    refine lv_aload_n X.1 X.2.1 dX3_keepLabel_9 rfl (lv_at hl 1 rfl) ?_
    refine mr_get X hT fl_RX3_7 (he) rfl dX3_keepLabel_10 ?_
    refine lv_iload_n X.1 X.2.1 dX3_keepLabel_13 rfl (lv_at hl 0 rfl) ?_
    refine lv_ior X.1 X.2.1 dX3_keepLabel_14 ?_
    refine lv_goto X.1 X.2.1 (tgt := 26) dX3_keepLabel_15 (by decide) ?_
    refine mr_put X hT fp_RX3_7 (fun h => nomatch h) he rfl rfl (by simp) dX3_keepLabel_26 (fun H locs hT => ?_)
    exact mr_vret X hT hret (⟨rfl, by first | (rw [c_keep_f c6]; rfl) | (rw [c_keep_t c6]; rfl)⟩) (Nat.le_of_ble_eq_true rfl) (Nat.le_of_ble_eq_true rfl) dX3_keepLabel_29

abbrev rm_X3_mayJudge : Room := { frames := 1, cells := 0, slots := 0, locals := 21 }
set_option maxHeartbeats 4000000 in
set_option maxRecDepth 100000 in
theorem o_mayJudge {l : Launch} (hfl : l.stackTraces = false) {G : mw_G} {a o m0 l0 : Nat} {nu te bt nu2 te2 bt2 nu3 : Int32} {M : mw_M} (he : M a = some (.inr (4, [.int nu, .int te, .int bt]))) (he2 : M o = some (.inr (4, [.int nu2, .int te2, .int bt2]))) (he3 : M m0 = some (.inr (3, [.int nu3, .int (nI l0)]))) : mw_Met l G yX3_mayJudge (.code yX3_mayJudge cX3_mayJudge 3 (some .boolean)) rm_X3_mayJudge [.ref a, .ref o, .ref m0] M (mw_pi (fun r M1 => r = bI (decide (te ≠ te2) && decide (c_bit bt l0 = 1)) ∧ M = M1)) := by
  refine mw_of hfl (by decide) (Nat.le_of_ble_eq_true rfl) ?_
  intro zp ze zs zm zb zh zc ls X hin hret hT hl
  have hl : lv_has ls 3 [(0, .ref a), (1, .ref o), (2, .ref m0)] := hl
  refine lv_aload_n X.1 X.2.1 dX3_mayJudge_0 rfl (lv_at hl 0 rfl) ?_
  refine mr_get X hT fl_RX3_16 (he) rfl dX3_mayJudge_1 ?_
  refine lv_aload_n X.1 X.2.1 dX3_mayJudge_4 rfl (lv_at hl 1 rfl) ?_
  refine mr_get X hT fl_RX3_16 (he2) rfl dX3_mayJudge_5 ?_
  refine lv_icmp_eq X.1 X.2.1 (tgt := 26) dX3_mayJudge_8 (by decide) (fun c8 => ?_) (fun c8 => ?_)
  · skip
    refine lv_iconst X.1 X.2.1 (v := 0) dX3_mayJudge_26 (by decide) ?_
    exact mr_zret X hT hret (by first | exact bI_nar _ | rfl | decide) (⟨_, rfl, by first | (rw [d_nef c8]; rfl) | (rw [decide_eq_true c8, bI_0.mp c19]; rfl) | (rw [decide_eq_true c8, bI_n.mp c19]; rfl), rfl⟩) (Nat.le_of_ble_eq_true rfl) (Nat.le_of_ble_eq_true rfl) dX3_mayJudge_27
  · skip
    refine lv_aload_n X.1 X.2.1 dX3_mayJudge_11 rfl (lv_at hl 0 rfl) ?_
    refine lv_aload_n X.1 X.2.1 dX3_mayJudge_12 rfl (lv_at hl 2 rfl) ?_
    refine mr_get X hT fl_RX3_19 (he3) rfl dX3_mayJudge_13 ?_
    refine mr_g X hT (fun hT' => mr_runV X hT' cb_RX3_24 kw482 kp18 kw483 (o_hasLabel hfl he) (mr_cell X hT he rfl) rfl rfl hl.1 ⟨Nat.le_of_ble_eq_true rfl, Nat.le_of_ble_eq_true rfl⟩ (Nat.le_of_ble_eq_true rfl) dX3_mayJudge_16 ⟨Nat.le_of_ble_eq_true rfl, Nat.le_of_ble_eq_true rfl⟩) (fun v M1 H locs hp hT => ?_)
    obtain ⟨r, rfl, rfl, rfl⟩ := hp
    refine W.eq (g2 := F0 zm 19 ls (.int _ :: _)) rfl ?_
    refine lv_if_eq X.1 X.2.1 (tgt := 26) dX3_mayJudge_19 (by decide) (fun c19 => ?_) (fun c19 => ?_)
    · skip
      refine lv_iconst X.1 X.2.1 (v := 0) dX3_mayJudge_26 (by decide) ?_
      exact mr_zret X hT hret (by first | exact bI_nar _ | rfl | decide) (⟨_, rfl, by first | (rw [d_nef c8]; rfl) | (rw [decide_eq_true c8, bI_0.mp c19]; rfl) | (rw [decide_eq_true c8, bI_n.mp c19]; rfl), rfl⟩) (Nat.le_of_ble_eq_true rfl) (Nat.le_of_ble_eq_true rfl) dX3_mayJudge_27
    · skip
      refine lv_iconst X.1 X.2.1 (v := 1) dX3_mayJudge_22 (by decide) ?_
      refine lv_goto X.1 X.2.1 (tgt := 27) dX3_mayJudge_23 (by decide) ?_
      exact mr_zret X hT hret (by first | exact bI_nar _ | rfl | decide) (⟨_, rfl, by first | (rw [d_nef c8]; rfl) | (rw [decide_eq_true c8, bI_0.mp c19]; rfl) | (rw [decide_eq_true c8, bI_n.mp c19]; rfl), rfl⟩) (Nat.le_of_ble_eq_true rfl) (Nat.le_of_ble_eq_true rfl) dX3_mayJudge_27

abbrev rm_X4_holdsAt : Room := { frames := 0, cells := 0, slots := 0, locals := 0 }
set_option maxHeartbeats 4000000 in
set_option maxRecDepth 100000 in
theorem o_holdsAt {l : Launch} (hfl : l.stackTraces = false) {G : mw_G} {a : Nat} {p0 p1 : Value} {bg en t : Int32} {M : mw_M} (he : M a = some (.inr (5, [p0, p1, .int bg, .int en]))) : mw_Met l G yX4_holdsAt (.code yX4_holdsAt cX4_holdsAt 2 (some .boolean)) rm_X4_holdsAt [.ref a, .int t] M (mw_pi (fun r M1 => r = bI (decide (bg ≤ t) && decide (t < en)) ∧ M = M1)) := by
  refine mw_of hfl (by decide) (Nat.le_of_ble_eq_true rfl) ?_
  intro zp ze zs zm zb zh zc ls X hin hret hT hl
  have hl : lv_has ls 2 [(0, .ref a), (1, .int t)] := hl
  refine lv_aload_n X.1 X.2.1 dX4_holdsAt_0 rfl (lv_at hl 0 rfl) ?_
  refine mr_get X hT fl_RX4_17 (he) rfl dX4_holdsAt_1 ?_
  refine lv_iload_n X.1 X.2.1 dX4_holdsAt_4 rfl (lv_at hl 1 rfl) ?_
  refine lv_icmp_gt X.1 X.2.1 (tgt := 20) dX4_holdsAt_5 (by decide) (fun c5 => ?_) (fun c5 => ?_)
  · skip
    refine lv_iconst X.1 X.2.1 (v := 0) dX4_holdsAt_20 (by decide) ?_
    exact mr_zret X hT hret (by first | exact bI_nar _ | rfl | decide) (⟨_, rfl, by first | (rw [decide_eq_false (Int32.not_le.mpr c5)]; rfl) | (rw [decide_eq_true (Int32.not_lt.mp c5), decide_eq_false (Int32.not_lt.mpr c13)]; rfl) | (rw [decide_eq_true (Int32.not_lt.mp c5), decide_eq_true (Int32.not_le.mp c13)]; rfl), rfl⟩) (Nat.le_of_ble_eq_true rfl) (Nat.le_of_ble_eq_true rfl) dX4_holdsAt_21
  · skip
    refine lv_iload_n X.1 X.2.1 dX4_holdsAt_8 rfl (lv_at hl 1 rfl) ?_
    refine lv_aload_n X.1 X.2.1 dX4_holdsAt_9 rfl (lv_at hl 0 rfl) ?_
    refine mr_get X hT fl_RX4_21 (he) rfl dX4_holdsAt_10 ?_
    refine lv_icmp_ge X.1 X.2.1 (tgt := 20) dX4_holdsAt_13 (by decide) (fun c13 => ?_) (fun c13 => ?_)
    · skip
      refine lv_iconst X.1 X.2.1 (v := 0) dX4_holdsAt_20 (by decide) ?_
      exact mr_zret X hT hret (by first | exact bI_nar _ | rfl | decide) (⟨_, rfl, by first | (rw [decide_eq_false (Int32.not_le.mpr c5)]; rfl) | (rw [decide_eq_true (Int32.not_lt.mp c5), decide_eq_false (Int32.not_lt.mpr c13)]; rfl) | (rw [decide_eq_true (Int32.not_lt.mp c5), decide_eq_true (Int32.not_le.mp c13)]; rfl), rfl⟩) (Nat.le_of_ble_eq_true rfl) (Nat.le_of_ble_eq_true rfl) dX4_holdsAt_21
    · skip
      refine lv_iconst X.1 X.2.1 (v := 1) dX4_holdsAt_16 (by decide) ?_
      refine lv_goto X.1 X.2.1 (tgt := 21) dX4_holdsAt_17 (by decide) ?_
      exact mr_zret X hT hret (by first | exact bI_nar _ | rfl | decide) (⟨_, rfl, by first | (rw [decide_eq_false (Int32.not_le.mpr c5)]; rfl) | (rw [decide_eq_true (Int32.not_lt.mp c5), decide_eq_false (Int32.not_lt.mpr c13)]; rfl) | (rw [decide_eq_true (Int32.not_lt.mp c5), decide_eq_true (Int32.not_le.mp c13)]; rfl), rfl⟩) (Nat.le_of_ble_eq_true rfl) (Nat.le_of_ble_eq_true rfl) dX4_holdsAt_21

abbrev rm_X5_holdsLine : Room := { frames := 0, cells := 0, slots := 0, locals := 0 }
set_option maxHeartbeats 4000000 in
set_option maxRecDepth 100000 in
theorem o_holdsLine {l : Launch} (hfl : l.stackTraces = false) {G : mw_G} {a : Nat} {p0 p1 : Value} {cl0 ll hs nl t : Int32} {M : mw_M} (he : M a = some (.inr (6, [p0, p1, .int cl0, .int ll, .int hs, .int nl]))) : mw_Met l G yX5_holdsLine (.code yX5_holdsLine cX5_holdsLine 1 (some .boolean)) rm_X5_holdsLine [.ref a] M (mw_pi (fun r M1 => r = bI (decide (hs ≠ -1)) ∧ M = M1)) := by
  refine mw_of hfl (by decide) (Nat.le_of_ble_eq_true rfl) ?_
  intro zp ze zs zm zb zh zc ls X hin hret hT hl
  have hl : lv_has ls 1 [(0, .ref a)] := hl
  refine lv_aload_n X.1 X.2.1 dX5_holdsLine_0 rfl (lv_at hl 0 rfl) ?_
  refine mr_get X hT fl_RX5_15 (he) rfl dX5_holdsLine_1 ?_
  refine lv_iconst X.1 X.2.1 (v := -1) dX5_holdsLine_4 (by decide) ?_
  refine lv_icmp_eq X.1 X.2.1 (tgt := 12) dX5_holdsLine_5 (by decide) (fun c5 => ?_) (fun c5 => ?_)
  · skip
    refine lv_iconst X.1 X.2.1 (v := 0) dX5_holdsLine_12 (by decide) ?_
    exact mr_zret X hT hret (by first | exact bI_nar _ | rfl | decide) (⟨_, rfl, by first | (rw [d_nef c5]; rfl) | (rw [decide_eq_true c5]; rfl), rfl⟩) (Nat.le_of_ble_eq_true rfl) (Nat.le_of_ble_eq_true rfl) dX5_holdsLine_13
  · skip
    refine lv_iconst X.1 X.2.1 (v := 1) dX5_holdsLine_8 (by decide) ?_
    refine lv_goto X.1 X.2.1 (tgt := 13) dX5_holdsLine_9 (by decide) ?_
    exact mr_zret X hT hret (by first | exact bI_nar _ | rfl | decide) (⟨_, rfl, by first | (rw [d_nef c5]; rfl) | (rw [decide_eq_true c5]; rfl), rfl⟩) (Nat.le_of_ble_eq_true rfl) (Nat.le_of_ble_eq_true rfl) dX5_holdsLine_13

abbrev rm_X5_restsAt : Room := { frames := 0, cells := 0, slots := 0, locals := 0 }
set_option maxHeartbeats 4000000 in
set_option maxRecDepth 100000 in
theorem o_restsAt {l : Launch} (hfl : l.stackTraces = false) {G : mw_G} {a : Nat} {p0 p1 : Value} {cl0 ll hs nl t : Int32} {M : mw_M} (he : M a = some (.inr (6, [p0, p1, .int cl0, .int ll, .int hs, .int nl]))) : mw_Met l G yX5_restsAt (.code yX5_restsAt cX5_restsAt 2 (some .boolean)) rm_X5_restsAt [.ref a, .int t] M (mw_pi (fun r M1 => r = bI (decide (15 ≤ t - ll)) ∧ M = M1)) := by
  refine mw_of hfl (by decide) (Nat.le_of_ble_eq_true rfl) ?_
  intro zp ze zs zm zb zh zc ls X hin hret hT hl
  have hl : lv_has ls 2 [(0, .ref a), (1, .int t)] := hl
  refine lv_iload_n X.1 X.2.1 dX5_restsAt_0 rfl (lv_at hl 1 rfl) ?_
  refine lv_aload_n X.1 X.2.1 dX5_restsAt_1 rfl (lv_at hl 0 rfl) ?_
  refine mr_get X hT fl_RX5_30 (he) rfl dX5_restsAt_2 ?_
  refine lv_isub X.1 X.2.1 dX5_restsAt_5 ?_
  refine lv_bipush X.1 X.2.1 (v := 15) dX5_restsAt_6 (by decide) ?_
  refine lv_icmp_lt X.1 X.2.1 (tgt := 15) dX5_restsAt_8 (by decide) (fun c8 => ?_) (fun c8 => ?_)
  · skip
    refine lv_iconst X.1 X.2.1 (v := 0) dX5_restsAt_15 (by decide) ?_
    exact mr_zret X hT hret (by first | exact bI_nar _ | rfl | decide) (⟨_, rfl, by first | (rw [decide_eq_false (Int32.not_le.mpr c8)]; rfl) | (rw [decide_eq_true (Int32.not_lt.mp c8)]; rfl), rfl⟩) (Nat.le_of_ble_eq_true rfl) (Nat.le_of_ble_eq_true rfl) dX5_restsAt_16
  · skip
    refine lv_iconst X.1 X.2.1 (v := 1) dX5_restsAt_11 (by decide) ?_
    refine lv_goto X.1 X.2.1 (tgt := 16) dX5_restsAt_12 (by decide) ?_
    exact mr_zret X hT hret (by first | exact bI_nar _ | rfl | decide) (⟨_, rfl, by first | (rw [decide_eq_false (Int32.not_le.mpr c8)]; rfl) | (rw [decide_eq_true (Int32.not_lt.mp c8)]; rfl), rfl⟩) (Nat.le_of_ble_eq_true rfl) (Nat.le_of_ble_eq_true rfl) dX5_restsAt_16

abbrev rm_X0_init : Room := { frames := 1, cells := 0, slots := 0, locals := 24 }
set_option maxHeartbeats 4000000 in
set_option maxRecDepth 100000 in
theorem o_ask {l : Launch} (hfl : l.stackTraces = false) {G : mw_G} {a q0 q1 : Nat} {mi tm : Int32} {M : mw_M} (he : M a = some (.inr (1, [.null, .null, .int 0, .int 0, .null, .int 0]))) : mw_Met l G yX0_init (.code yX0_init cX0_init 5 none) rm_X0_init [.ref a, .ref q0, .ref q1, .int mi, .int tm] M (mw_pv (fun M1 => M1 = va_up M a (some (.inr (1, [.ref q0, .ref q1, .int mi, .int tm, .null, .int 0]))))) := by
  refine mw_of hfl (by decide) (Nat.le_of_ble_eq_true rfl) ?_
  intro zp ze zs zm zb zh zc ls X hin hret hT hl
  have hl : lv_has ls 5 [(0, .ref a), (1, .ref q0), (2, .ref q1), (3, .int mi), (4, .int tm)] := hl
  refine lv_aload_n X.1 X.2.1 dX0_init_0 rfl (lv_at hl 0 rfl) ?_
  refine mr_obj /-objinit-/ X kw503 hl.1 (Nat.le_of_ble_eq_true rfl) (Nat.le_of_ble_eq_true rfl) dX0_init_1 ?_
  refine lv_aload_n X.1 X.2.1 dX0_init_4 rfl (lv_at hl 0 rfl) ?_
  refine lv_null X.1 X.2.1 dX0_init_5 ?_
  refine mr_put X hT fp_RX0_9 (fun h => nomatch h) he (by first | rfl | decide) (by first | rfl | decide) (by simp) dX0_init_6 (fun H locs hT => ?_)
  refine lv_aload_n X.1 X.2.1 dX0_init_9 rfl (lv_at hl 0 rfl) ?_
  refine lv_iconst X.1 X.2.1 (v := 0) dX0_init_10 (by decide) ?_
  refine mr_put X hT fp_RX0_15 (fun h => nomatch h) (va_up_self _ _ _) (by first | rfl | decide) (by first | rfl | decide) (by simp) dX0_init_11 (fun H locs hT => ?_)
  refine lv_aload_n X.1 X.2.1 dX0_init_14 rfl (lv_at hl 0 rfl) ?_
  refine lv_aload_n X.1 X.2.1 dX0_init_15 rfl (lv_at hl 1 rfl) ?_
  refine mr_put X hT fp_RX0_19 (fun _ => hin) (va_up_self _ _ _) (by first | rfl | decide) (by first | rfl | decide) (by simp) dX0_init_16 (fun H locs hT => ?_)
  refine lv_aload_n X.1 X.2.1 dX0_init_19 rfl (lv_at hl 0 rfl) ?_
  refine lv_aload_n X.1 X.2.1 dX0_init_20 rfl (lv_at hl 2 rfl) ?_
  refine mr_put X hT fp_RX0_22 (fun _ => hin) (va_up_self _ _ _) (by first | rfl | decide) (by first | rfl | decide) (by simp) dX0_init_21 (fun H locs hT => ?_)
  refine lv_aload_n X.1 X.2.1 dX0_init_24 rfl (lv_at hl 0 rfl) ?_
  refine lv_iload_n X.1 X.2.1 dX0_init_25 rfl (lv_at hl 3 rfl) ?_
  refine mr_put X hT fp_RX0_26 (fun _ => hin) (va_up_self _ _ _) (by first | rfl | decide) (by first | rfl | decide) (by simp) dX0_init_26 (fun H locs hT => ?_)
  refine lv_aload_n X.1 X.2.1 dX0_init_29 rfl (lv_at hl 0 rfl) ?_
  refine lv_iload X.1 X.2.1 dX0_init_30 (lv_at hl 4 rfl) ?_
  refine mr_put X hT fp_RX0_29 (fun _ => hin) (va_up_self _ _ _) (by first | rfl | decide) (by first | rfl | decide) (by simp) dX0_init_32 (fun H locs hT => ?_)
  exact mr_vret X hT hret (⟨rfl, by simp only [mw_up1, List.set]⟩) (Nat.le_of_ble_eq_true rfl) (Nat.le_of_ble_eq_true rfl) dX0_init_35

abbrev rm_X1_init : Room := { frames := 1, cells := 0, slots := 0, locals := 24 }
set_option maxHeartbeats 4000000 in
set_option maxRecDepth 100000 in
theorem o_entry {l : Launch} (hfl : l.stackTraces = false) {G : mw_G} {a q0 q1 : Nat} {tm : Int32} {M : mw_M} (he : M a = some (.inr (2, [.null, .null, .int 0, .int 0]))) : mw_Met l G yX1_init (.code yX1_init cX1_init 4 none) rm_X1_init [.ref a, .ref q0, .ref q1, .int tm] M (mw_pv (fun M1 => M1 = va_up M a (some (.inr (2, [.ref q0, .ref q1, .int tm, .int 0]))))) := by
  refine mw_of hfl (by decide) (Nat.le_of_ble_eq_true rfl) ?_
  intro zp ze zs zm zb zh zc ls X hin hret hT hl
  have hl : lv_has ls 4 [(0, .ref a), (1, .ref q0), (2, .ref q1), (3, .int tm)] := hl
  refine lv_aload_n X.1 X.2.1 dX1_init_0 rfl (lv_at hl 0 rfl) ?_
  refine mr_obj /-objinit-/ X kw538 hl.1 (Nat.le_of_ble_eq_true rfl) (Nat.le_of_ble_eq_true rfl) dX1_init_1 ?_
  refine lv_aload_n X.1 X.2.1 dX1_init_4 rfl (lv_at hl 0 rfl) ?_
  refine lv_iconst X.1 X.2.1 (v := 0) dX1_init_5 (by decide) ?_
  refine mr_put X hT fp_RX1_9 (fun h => nomatch h) he (by first | rfl | decide) (by first | rfl | decide) (by simp) dX1_init_6 (fun H locs hT => ?_)
  refine lv_aload_n X.1 X.2.1 dX1_init_9 rfl (lv_at hl 0 rfl) ?_
  refine lv_aload_n X.1 X.2.1 dX1_init_10 rfl (lv_at hl 1 rfl) ?_
  refine mr_put X hT fp_RX1_15 (fun _ => hin) (va_up_self _ _ _) (by first | rfl | decide) (by first | rfl | decide) (by simp) dX1_init_11 (fun H locs hT => ?_)
  refine lv_aload_n X.1 X.2.1 dX1_init_14 rfl (lv_at hl 0 rfl) ?_
  refine lv_aload_n X.1 X.2.1 dX1_init_15 rfl (lv_at hl 2 rfl) ?_
  refine mr_put X hT fp_RX1_19 (fun _ => hin) (va_up_self _ _ _) (by first | rfl | decide) (by first | rfl | decide) (by simp) dX1_init_16 (fun H locs hT => ?_)
  refine lv_aload_n X.1 X.2.1 dX1_init_19 rfl (lv_at hl 0 rfl) ?_
  refine lv_iload_n X.1 X.2.1 dX1_init_20 rfl (lv_at hl 3 rfl) ?_
  refine mr_put X hT fp_RX1_23 (fun _ => hin) (va_up_self _ _ _) (by first | rfl | decide) (by first | rfl | decide) (by simp) dX1_init_21 (fun H locs hT => ?_)
  exact mr_vret X hT hret (⟨rfl, by simp only [mw_up1, List.set]⟩) (Nat.le_of_ble_eq_true rfl) (Nat.le_of_ble_eq_true rfl) dX1_init_24

abbrev rm_X2_init : Room := { frames := 1, cells := 0, slots := 0, locals := 24 }
set_option maxHeartbeats 4000000 in
set_option maxRecDepth 100000 in
theorem o_machine {l : Launch} (hfl : l.stackTraces = false) {G : mw_G} {a : Nat} {nu lb : Int32} {M : mw_M} (he : M a = some (.inr (3, [.int 0, .int 0]))) : mw_Met l G yX2_init (.code yX2_init cX2_init 3 none) rm_X2_init [.ref a, .int nu, .int lb] M (mw_pv (fun M1 => M1 = va_up M a (some (.inr (3, [.int nu, .int lb]))))) := by
  refine mw_of hfl (by decide) (Nat.le_of_ble_eq_true rfl) ?_
  intro zp ze zs zm zb zh zc ls X hin hret hT hl
  have hl : lv_has ls 3 [(0, .ref a), (1, .int nu), (2, .int lb)] := hl
  refine lv_aload_n X.1 X.2.1 dX2_init_0 rfl (lv_at hl 0 rfl) ?_
  refine mr_obj /-objinit-/ X kw391 hl.1 (Nat.le_of_ble_eq_true rfl) (Nat.le_of_ble_eq_true rfl) dX2_init_1 ?_
  refine lv_aload_n X.1 X.2.1 dX2_init_4 rfl (lv_at hl 0 rfl) ?_
  refine lv_iload_n X.1 X.2.1 dX2_init_5 rfl (lv_at hl 1 rfl) ?_
  refine mr_put X hT fp_RX2_7 (fun _ => hin) he (by first | rfl | decide) (by first | rfl | decide) (by simp) dX2_init_6 (fun H locs hT => ?_)
  refine lv_aload_n X.1 X.2.1 dX2_init_9 rfl (lv_at hl 0 rfl) ?_
  refine lv_iload_n X.1 X.2.1 dX2_init_10 rfl (lv_at hl 2 rfl) ?_
  refine mr_put X hT fp_RX2_13 (fun _ => hin) (va_up_self _ _ _) (by first | rfl | decide) (by first | rfl | decide) (by simp) dX2_init_11 (fun H locs hT => ?_)
  exact mr_vret X hT hret (⟨rfl, by simp only [mw_up1, List.set]⟩) (Nat.le_of_ble_eq_true rfl) (Nat.le_of_ble_eq_true rfl) dX2_init_14

abbrev rm_X3_init : Room := { frames := 1, cells := 0, slots := 0, locals := 24 }
set_option maxHeartbeats 4000000 in
set_option maxRecDepth 100000 in
theorem o_person {l : Launch} (hfl : l.stackTraces = false) {G : mw_G} {a : Nat} {nu te : Int32} {M : mw_M} (he : M a = some (.inr (4, [.int 0, .int 0, .int 0]))) : mw_Met l G yX3_init (.code yX3_init cX3_init 3 none) rm_X3_init [.ref a, .int nu, .int te] M (mw_pv (fun M1 => M1 = va_up M a (some (.inr (4, [.int nu, .int te, .int 0]))))) := by
  refine mw_of hfl (by decide) (Nat.le_of_ble_eq_true rfl) ?_
  intro zp ze zs zm zb zh zc ls X hin hret hT hl
  have hl : lv_has ls 3 [(0, .ref a), (1, .int nu), (2, .int te)] := hl
  refine lv_aload_n X.1 X.2.1 dX3_init_0 rfl (lv_at hl 0 rfl) ?_
  refine mr_obj /-objinit-/ X kw220 hl.1 (Nat.le_of_ble_eq_true rfl) (Nat.le_of_ble_eq_true rfl) dX3_init_1 ?_
  refine lv_aload_n X.1 X.2.1 dX3_init_4 rfl (lv_at hl 0 rfl) ?_
  refine lv_iconst X.1 X.2.1 (v := 0) dX3_init_5 (by decide) ?_
  refine mr_put X hT fp_RX3_7 (fun h => nomatch h) he (by first | rfl | decide) (by first | rfl | decide) (by simp) dX3_init_6 (fun H locs hT => ?_)
  refine lv_aload_n X.1 X.2.1 dX3_init_9 rfl (lv_at hl 0 rfl) ?_
  refine lv_iload_n X.1 X.2.1 dX3_init_10 rfl (lv_at hl 1 rfl) ?_
  refine mr_put X hT fp_RX3_13 (fun _ => hin) (va_up_self _ _ _) (by first | rfl | decide) (by first | rfl | decide) (by simp) dX3_init_11 (fun H locs hT => ?_)
  refine lv_aload_n X.1 X.2.1 dX3_init_14 rfl (lv_at hl 0 rfl) ?_
  refine lv_iload_n X.1 X.2.1 dX3_init_15 rfl (lv_at hl 2 rfl) ?_
  refine mr_put X hT fp_RX3_16 (fun _ => hin) (va_up_self _ _ _) (by first | rfl | decide) (by first | rfl | decide) (by simp) dX3_init_16 (fun H locs hT => ?_)
  exact mr_vret X hT hret (⟨rfl, by simp only [mw_up1, List.set]⟩) (Nat.le_of_ble_eq_true rfl) (Nat.le_of_ble_eq_true rfl) dX3_init_19

abbrev rm_X4_init : Room := { frames := 1, cells := 0, slots := 0, locals := 24 }
set_option maxHeartbeats 4000000 in
set_option maxRecDepth 100000 in
theorem o_right {l : Launch} (hfl : l.stackTraces = false) {G : mw_G} {a q0 q1 : Nat} {bg en : Int32} {M : mw_M} (he : M a = some (.inr (5, [.null, .null, .int 0, .int 0]))) : mw_Met l G yX4_init (.code yX4_init cX4_init 5 none) rm_X4_init [.ref a, .ref q0, .ref q1, .int bg, .int en] M (mw_pv (fun M1 => M1 = va_up M a (some (.inr (5, [.ref q0, .ref q1, .int bg, .int en]))))) := by
  refine mw_of hfl (by decide) (Nat.le_of_ble_eq_true rfl) ?_
  intro zp ze zs zm zb zh zc ls X hin hret hT hl
  have hl : lv_has ls 5 [(0, .ref a), (1, .ref q0), (2, .ref q1), (3, .int bg), (4, .int en)] := hl
  refine lv_aload_n X.1 X.2.1 dX4_init_0 rfl (lv_at hl 0 rfl) ?_
  refine mr_obj /-objinit-/ X kw559 hl.1 (Nat.le_of_ble_eq_true rfl) (Nat.le_of_ble_eq_true rfl) dX4_init_1 ?_
  refine lv_aload_n X.1 X.2.1 dX4_init_4 rfl (lv_at hl 0 rfl) ?_
  refine lv_aload_n X.1 X.2.1 dX4_init_5 rfl (lv_at hl 1 rfl) ?_
  refine mr_put X hT fp_RX4_7 (fun _ => hin) he (by first | rfl | decide) (by first | rfl | decide) (by simp) dX4_init_6 (fun H locs hT => ?_)
  refine lv_aload_n X.1 X.2.1 dX4_init_9 rfl (lv_at hl 0 rfl) ?_
  refine lv_aload_n X.1 X.2.1 dX4_init_10 rfl (lv_at hl 2 rfl) ?_
  refine mr_put X hT fp_RX4_13 (fun _ => hin) (va_up_self _ _ _) (by first | rfl | decide) (by first | rfl | decide) (by simp) dX4_init_11 (fun H locs hT => ?_)
  refine lv_aload_n X.1 X.2.1 dX4_init_14 rfl (lv_at hl 0 rfl) ?_
  refine lv_iload_n X.1 X.2.1 dX4_init_15 rfl (lv_at hl 3 rfl) ?_
  refine mr_put X hT fp_RX4_17 (fun _ => hin) (va_up_self _ _ _) (by first | rfl | decide) (by first | rfl | decide) (by simp) dX4_init_16 (fun H locs hT => ?_)
  refine lv_aload_n X.1 X.2.1 dX4_init_19 rfl (lv_at hl 0 rfl) ?_
  refine lv_iload X.1 X.2.1 dX4_init_20 (lv_at hl 4 rfl) ?_
  refine mr_put X hT fp_RX4_21 (fun h => nomatch h) (va_up_self _ _ _) (by first | rfl | decide) (by first | rfl | decide) (by simp) dX4_init_22 (fun H locs hT => ?_)
  exact mr_vret X hT hret (⟨rfl, by simp only [mw_up1, List.set]⟩) (Nat.le_of_ble_eq_true rfl) (Nat.le_of_ble_eq_true rfl) dX4_init_25

abbrev rm_X5_init : Room := { frames := 1, cells := 0, slots := 0, locals := 24 }
set_option maxHeartbeats 4000000 in
set_option maxRecDepth 100000 in
theorem o_session {l : Launch} (hfl : l.stackTraces = false) {G : mw_G} {a q0 q1 : Nat} {tm : Int32} {M : mw_M} (he : M a = some (.inr (6, [.null, .null, .int 0, .int 0, .int 0, .int 0]))) : mw_Met l G yX5_init (.code yX5_init cX5_init 4 none) rm_X5_init [.ref a, .ref q0, .ref q1, .int tm] M (mw_pv (fun M1 => M1 = va_up M a (some (.inr (6, [.ref q0, .ref q1, .int 0, .int tm, .int (-1), .int 0]))))) := by
  refine mw_of hfl (by decide) (Nat.le_of_ble_eq_true rfl) ?_
  intro zp ze zs zm zb zh zc ls X hin hret hT hl
  have hl : lv_has ls 4 [(0, .ref a), (1, .ref q0), (2, .ref q1), (3, .int tm)] := hl
  refine lv_aload_n X.1 X.2.1 dX5_init_0 rfl (lv_at hl 0 rfl) ?_
  refine mr_obj /-objinit-/ X kw638 hl.1 (Nat.le_of_ble_eq_true rfl) (Nat.le_of_ble_eq_true rfl) dX5_init_1 ?_
  refine lv_aload_n X.1 X.2.1 dX5_init_4 rfl (lv_at hl 0 rfl) ?_
  refine lv_iconst X.1 X.2.1 (v := 0) dX5_init_5 (by decide) ?_
  refine mr_put X hT fp_RX5_9 (fun h => nomatch h) he (by first | rfl | decide) (by first | rfl | decide) (by simp) dX5_init_6 (fun H locs hT => ?_)
  refine lv_aload_n X.1 X.2.1 dX5_init_9 rfl (lv_at hl 0 rfl) ?_
  refine lv_iconst X.1 X.2.1 (v := -1) dX5_init_10 (by decide) ?_
  refine mr_put X hT fp_RX5_15 (fun h => nomatch h) (va_up_self _ _ _) (by first | rfl | decide) (by first | rfl | decide) (by simp) dX5_init_11 (fun H locs hT => ?_)
  refine lv_aload_n X.1 X.2.1 dX5_init_14 rfl (lv_at hl 0 rfl) ?_
  refine lv_iconst X.1 X.2.1 (v := 0) dX5_init_15 (by decide) ?_
  refine mr_put X hT fp_RX5_19 (fun h => nomatch h) (va_up_self _ _ _) (by first | rfl | decide) (by first | rfl | decide) (by simp) dX5_init_16 (fun H locs hT => ?_)
  refine lv_aload_n X.1 X.2.1 dX5_init_19 rfl (lv_at hl 0 rfl) ?_
  refine lv_aload_n X.1 X.2.1 dX5_init_20 rfl (lv_at hl 1 rfl) ?_
  refine mr_put X hT fp_RX5_22 (fun _ => hin) (va_up_self _ _ _) (by first | rfl | decide) (by first | rfl | decide) (by simp) dX5_init_21 (fun H locs hT => ?_)
  refine lv_aload_n X.1 X.2.1 dX5_init_24 rfl (lv_at hl 0 rfl) ?_
  refine lv_aload_n X.1 X.2.1 dX5_init_25 rfl (lv_at hl 2 rfl) ?_
  refine mr_put X hT fp_RX5_26 (fun _ => hin) (va_up_self _ _ _) (by first | rfl | decide) (by first | rfl | decide) (by simp) dX5_init_26 (fun H locs hT => ?_)
  refine lv_aload_n X.1 X.2.1 dX5_init_29 rfl (lv_at hl 0 rfl) ?_
  refine lv_iload_n X.1 X.2.1 dX5_init_30 rfl (lv_at hl 3 rfl) ?_
  refine mr_put X hT fp_RX5_30 (fun h => nomatch h) (va_up_self _ _ _) (by first | rfl | decide) (by first | rfl | decide) (by simp) dX5_init_31 (fun H locs hT => ?_)
  exact mr_vret X hT hret (⟨rfl, by simp only [mw_up1, List.set]⟩) (Nat.le_of_ble_eq_true rfl) (Nat.le_of_ble_eq_true rfl) dX5_init_34

abbrev rm_X6_add : Room := { frames := 0, cells := 0, slots := 0, locals := 0 }
set_option maxHeartbeats 4000000 in
set_option maxRecDepth 100000 in
theorem o_record {l : Launch} (hfl : l.stackTraces = false) {G : mw_G} {a ka sa pw pm n : Nat} {lt kd tm pno mno te bt lb : Int32} {kf sf : Nat → Int32} {M : mw_M} (he : M a = some (.inr (7, [.ref ka, .ref sa, .int (nI n), .int lt]))) (hka : M ka = some (.inl (G.2.1 0, 1024, .inl kf))) (hsa : M sa = some (.inl (G.2.1 0, 1024, .inl sf))) (hks : ka ≠ sa) (hn : n < 1024) (hp0 : M pw = some (.inr (4, [.int pno, .int te, .int bt]))) (hm0 : M pm = some (.inr (3, [.int mno, .int lb]))) : mw_Met l G yX6_add (.code yX6_add cX6_add 5 none) rm_X6_add [.ref a, .int kd, .ref pw, .ref pm, .int tm] M (mw_pv (fun M1 => M1 = va_up (va_up (va_up M a (some (.inr (7, [.ref ka, .ref sa, .int (nI (n + 1)), .int (q_rem (31 * lt + kd + 10 * pno + 200 * mno + 2000 * tm) 1000003)])))) ka (some (.inl (G.2.1 0, 1024, .inl (upd kf n kd))))) sa (some (.inl (G.2.1 0, 1024, .inl (upd sf n (q_rem (31 * lt + kd + 10 * pno + 200 * mno + 2000 * tm) 1000003))))))) := by
  refine mw_of hfl (by decide) (Nat.le_of_ble_eq_true rfl) ?_
  intro zp ze zs zm zb zh zc ls X hin hret hT hl
  have hl : lv_has ls 5 [(0, .ref a), (1, .int kd), (2, .ref pw), (3, .ref pm), (4, .int tm)] := hl
  have hak : a ≠ ka := mw_ne he hka (fun z => by cases z)
  have has : a ≠ sa := mw_ne he hsa (fun z => by cases z)
  refine lv_aload_n X.1 X.2.1 dX6_add_0 rfl (lv_at hl 0 rfl) ?_
  refine mr_get X hT fl_RX6_18 (he) rfl dX6_add_1 ?_
  refine lv_sipush X.1 X.2.1 (v := 1024) dX6_add_4 (by decide) ?_
  refine lv_icmp_lt X.1 X.2.1 (tgt := 11) dX6_add_7 (by decide) (fun c7 => ?_) (fun c7 => ?_)
  · skip
    refine lv_aload_n X.1 X.2.1 dX6_add_11 rfl (lv_at hl 0 rfl) ?_
    refine lv_bipush X.1 X.2.1 (v := 31) dX6_add_12 (by decide) ?_
    refine lv_aload_n X.1 X.2.1 dX6_add_14 rfl (lv_at hl 0 rfl) ?_
    refine mr_get X hT fl_RX6_22 (he) rfl dX6_add_15 ?_
    refine lv_imul X.1 X.2.1 dX6_add_18 ?_
    refine lv_iload_n X.1 X.2.1 dX6_add_19 rfl (lv_at hl 1 rfl) ?_
    refine lv_iadd X.1 X.2.1 dX6_add_20 ?_
    refine lv_bipush X.1 X.2.1 (v := 10) dX6_add_21 (by decide) ?_
    refine lv_aload_n X.1 X.2.1 dX6_add_23 rfl (lv_at hl 2 rfl) ?_
    refine mr_get X hT fl_RX6_25 (hp0) rfl dX6_add_24 ?_
    refine lv_imul X.1 X.2.1 dX6_add_27 ?_
    refine lv_iadd X.1 X.2.1 dX6_add_28 ?_
    refine lv_sipush X.1 X.2.1 (v := 200) dX6_add_29 (by decide) ?_
    refine lv_aload_n X.1 X.2.1 dX6_add_32 rfl (lv_at hl 3 rfl) ?_
    refine mr_get X hT fl_RX6_30 (hm0) rfl dX6_add_33 ?_
    refine lv_imul X.1 X.2.1 dX6_add_36 ?_
    refine lv_iadd X.1 X.2.1 dX6_add_37 ?_
    refine lv_sipush X.1 X.2.1 (v := 2000) dX6_add_38 (by decide) ?_
    refine lv_iload X.1 X.2.1 dX6_add_41 (lv_at hl 4 rfl) ?_
    refine lv_imul X.1 X.2.1 dX6_add_43 ?_
    refine lv_iadd X.1 X.2.1 dX6_add_44 ?_
    refine lv_ldc X.1 X.2.1 (v := 1000003) X.2.2.2.1 (mw_use X.2.2.2.2.1.1 kw381 rfl) dX6_add_45 ?_
    refine lv_irem X.1 X.2.1 dX6_add_47 (by decide) ?_
    refine mm_top (w := (q_rem (31 * lt + kd + 10 * pno + 200 * mno + 2000 * tm) 1000003)) (rfl) ?_
    refine mr_put X hT fp_RX6_22 (fun h => nomatch h) he rfl rfl (by simp) dX6_add_48 (fun H locs hT => ?_)
    refine lv_aload_n X.1 X.2.1 dX6_add_51 rfl (lv_at hl 0 rfl) ?_
    refine mr_get X hT fl_RX6_9 (va_up_self _ _ _) rfl dX6_add_52 ?_
    refine lv_aload_n X.1 X.2.1 dX6_add_55 rfl (lv_at hl 0 rfl) ?_
    refine mr_get X hT fl_RX6_18 (va_up_self _ _ _) rfl dX6_add_56 ?_
    refine lv_iload_n X.1 X.2.1 dX6_add_59 rfl (lv_at hl 1 rfl) ?_
    refine mr_iast X hT ((va_up_ne _ _ (Ne.symm hak)).trans hka) (vp_in_nI hn (by decide)) dX6_add_60 (fun H locs hT => ?_)
    rw [nI_clamp (show n < 2 ^ 31 by omega)] at hT
    refine lv_aload_n X.1 X.2.1 dX6_add_61 rfl (lv_at hl 0 rfl) ?_
    refine mr_get X hT fl_RX6_15 ((va_up_ne _ _ hak).trans (va_up_self _ _ _)) rfl dX6_add_62 ?_
    refine lv_aload_n X.1 X.2.1 dX6_add_65 rfl (lv_at hl 0 rfl) ?_
    refine mr_get X hT fl_RX6_18 ((va_up_ne _ _ hak).trans (va_up_self _ _ _)) rfl dX6_add_66 ?_
    refine lv_aload_n X.1 X.2.1 dX6_add_69 rfl (lv_at hl 0 rfl) ?_
    refine mr_get X hT fl_RX6_22 ((va_up_ne _ _ hak).trans (va_up_self _ _ _)) rfl dX6_add_70 ?_
    refine mr_iast X hT ((va_up_ne _ _ (Ne.symm hks)).trans ((va_up_ne _ _ (Ne.symm has)).trans hsa)) (vp_in_nI hn (by decide)) dX6_add_73 (fun H locs hT => ?_)
    rw [nI_clamp (show n < 2 ^ 31 by omega)] at hT
    refine lv_aload_n X.1 X.2.1 dX6_add_74 rfl (lv_at hl 0 rfl) ?_
    refine lv_dup X.1 X.2.1 dX6_add_75 rfl ?_
    refine mr_get X hT fl_RX6_18 ((va_up_ne _ _ has).trans ((va_up_ne _ _ hak).trans (va_up_self _ _ _))) rfl dX6_add_76 ?_
    refine lv_iconst X.1 X.2.1 (v := 1) dX6_add_79 (by decide) ?_
    refine lv_iadd X.1 X.2.1 dX6_add_80 ?_
    refine mm_top (w := nI (n + 1)) (nI_1 _) ?_
    refine mr_put X hT fp_RX6_18 (fun h => nomatch h) ((va_up_ne _ _ has).trans ((va_up_ne _ _ hak).trans (va_up_self _ _ _))) rfl rfl (by simp) dX6_add_81 (fun H locs hT => ?_)
    exact mr_vret X hT hret (⟨rfl, c_reord hak has⟩) (Nat.le_of_ble_eq_true rfl) (Nat.le_of_ble_eq_true rfl) dX6_add_84
  · exact absurd (nI_lt hn (by decide)) c7
