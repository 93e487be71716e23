/-! the class's own helpers -/
abbrev rm_X7_personAt : Room := { frames := 6, cells := 1, slots := 6, locals := 100 }
set_option maxHeartbeats 4000000 in
set_option maxRecDepth 100000 in
theorem c_personAt {l : Launch} (hfl : l.stackTraces = false) {G : mw_G} {T : Nat} {b : c_B} {x : s_T} {w : c_W} {p : Int32} {M : mw_M} (hA : CA G b x w M) (ho : c_ok T b x w) (hi : q_inv 512 x) : mw_MetX l G yX7_personAt (.code yX7_personAt cX7_personAt 2 (some (.object "AccessGate$Person"))) rm_X7_personAt [.ref (b 0 0), .int p] M (mw_pr (fun r M1 => (∃ j, j < ct x 2 ∧ p = nI j ∧ r = b 6 j) ∧ M = M1)) (fun E => E = "java/lang/IndexOutOfBoundsException" ∧ q_ix p (ct x 2) = false) := by
  refine mw_ofX hfl (by decide) (Nat.le_of_ble_eq_true rfl) ?_
  intro zp ze zs zm zb zh zc ls X hin hret hexc hT hl
  have hl : lv_has ls 2 [(0, .ref (b 0 0)), (1, .int p)] := hl
  obtain ⟨⟨i2, i4, i5, i10, i17, i22, i29, i32⟩, hr3, hr6, hr11, hr18, hr23, hz21, hz28, hlb⟩ := id hi
  refine lv_iload_n X.1 X.2.1 dX7_personAt_0 rfl (lv_at hl 1 rfl) ?_
  refine lv_if_lt X.1 X.2.1 (tgt := 15) dX7_personAt_1 (by decide) (fun c1 => ?_) (fun c1 => ?_)
  · skip
    exact mr_throwW X hexc hT (text := "no such person") (is := 257) tx_255_259 (by decide) hl.1 (⟨rfl, by first | exact c_ixn c1 | exact c_ixo hjj (show ct x 2 < 2 ^ 31 by omega) c12⟩) dX7_personAt_15 dX7_personAt_18 dX7_personAt_19 dX7_personAt_22 dX7_personAt_25 (Nat.le_of_ble_eq_true rfl) (Nat.le_of_ble_eq_true rfl) (Nat.le_of_ble_eq_true rfl) (Nat.le_of_ble_eq_true rfl) (Nat.le_of_ble_eq_true rfl) (Nat.le_of_ble_eq_true rfl)
  · skip
    obtain ⟨j, hjj, rfl⟩ := nI_of c1
    refine lv_iload_n X.1 X.2.1 dX7_personAt_4 rfl (lv_at hl 1 rfl) ?_
    refine lv_aload_n X.1 X.2.1 dX7_personAt_5 rfl (lv_at hl 0 rfl) ?_
    refine mr_get X hT fl_RX7_12 (hA.gate) rfl dX7_personAt_6 ?_
    refine mr_g X hT (fun hT' => mr_runV X hT' cb_RX7_52 kw196 kw197 kw198 (j_size hfl (hA.1 4 0 (show 0 < 6 by decide))) (mr_cell X hT (hA.1 4 0 (show 0 < 6 by decide)) rfl) rfl rfl hl.1 ⟨Nat.le_of_ble_eq_true rfl, Nat.le_of_ble_eq_true rfl⟩ (Nat.le_of_ble_eq_true rfl) dX7_personAt_9 ⟨Nat.le_of_ble_eq_true rfl, Nat.le_of_ble_eq_true rfl⟩) (fun v M1 H locs hp hT => ?_)
    obtain ⟨r, rfl, rfl, rfl⟩ := hp
    refine W.eq (g2 := F0 zm 12 ls (.int _ :: _)) rfl ?_
    refine mm_top (w := nI (ct x 2)) (rfl) ?_
    refine lv_icmp_lt X.1 X.2.1 (tgt := 26) dX7_personAt_12 (by decide) (fun c12 => ?_) (fun c12 => ?_)
    · skip
      have hkl : j < ct x 2 := (nI_ltI hjj (by omega)).mp c12
      obtain ⟨he1, hf1⟩ := hA.list ho (i := 0) (by decide) (show ct (x) 2 ≠ 0 from Nat.ne_of_gt (Nat.lt_of_le_of_lt (Nat.zero_le _) hkl))
      obtain ⟨o1, o2, -, o4⟩ := ho.2.2.2.1 0 (by decide)
      refine lv_aload_n X.1 X.2.1 dX7_personAt_26 rfl (lv_at hl 0 rfl) ?_
      refine mr_get X hT fl_RX7_12 (hA.gate) rfl dX7_personAt_27 ?_
      refine lv_iload_n X.1 X.2.1 dX7_personAt_30 rfl (lv_at hl 1 rfl) ?_
      refine mr_g X hT (fun hT' => mr_runV X hT' cb_RX7_87 kw317 kw318 kw319 (j_get hfl he1 hf1 hkl o1 (by omega) (show w.2.2 0 j = some (b 6 j) from o4 j hkl)) (mr_cell X hT he1 rfl) rfl rfl hl.1 ⟨Nat.le_of_ble_eq_true rfl, Nat.le_of_ble_eq_true rfl⟩ (Nat.le_of_ble_eq_true rfl) dX7_personAt_31 ⟨Nat.le_of_ble_eq_true rfl, Nat.le_of_ble_eq_true rfl⟩) (fun v M1 H locs hp hT => ?_)
      obtain ⟨r, rfl, rfl, rfl⟩ := hp
      refine W.eq (g2 := F0 zm 34 ls (.ref _ :: _)) rfl ?_
      refine mr_cast X hT (hA.per hkl) rfl kw215 dX7_personAt_34 ?_
      exact mr_aretX X hT hret (by first | exact Or.inl ⟨_, rfl⟩ | exact Or.inr ⟨_, rfl⟩) (⟨_, rfl, ⟨j, hkl, rfl, rfl⟩, rfl⟩) (Nat.le_of_ble_eq_true rfl) (Nat.le_of_ble_eq_true rfl) dX7_personAt_37
    · skip
      exact mr_throwW X hexc hT (text := "no such person") (is := 257) tx_255_259 (by decide) hl.1 (⟨rfl, by first | exact c_ixn c1 | exact c_ixo hjj (show ct x 2 < 2 ^ 31 by omega) c12⟩) dX7_personAt_15 dX7_personAt_18 dX7_personAt_19 dX7_personAt_22 dX7_personAt_25 (Nat.le_of_ble_eq_true rfl) (Nat.le_of_ble_eq_true rfl) (Nat.le_of_ble_eq_true rfl) (Nat.le_of_ble_eq_true rfl) (Nat.le_of_ble_eq_true rfl) (Nat.le_of_ble_eq_true rfl)

abbrev rm_X7_machineAt : Room := { frames := 6, cells := 1, slots := 6, locals := 100 }
set_option maxHeartbeats 4000000 in
set_option maxRecDepth 100000 in
theorem c_machineAt {l : Launch} (hfl : l.stackTraces = false) {G : mw_G} {T : Nat} {b : c_B} {x : s_T} {w : c_W} {p : Int32} {M : mw_M} (hA : CA G b x w M) (ho : c_ok T b x w) (hi : q_inv 512 x) : mw_MetX l G yX7_machineAt (.code yX7_machineAt cX7_machineAt 2 (some (.object "AccessGate$Machine"))) rm_X7_machineAt [.ref (b 0 0), .int p] M (mw_pr (fun r M1 => (∃ j, j < ct x 4 ∧ p = nI j ∧ r = b 7 j) ∧ M = M1)) (fun E => E = "java/lang/IndexOutOfBoundsException" ∧ q_ix p (ct x 4) = false) := by
  refine mw_ofX hfl (by decide) (Nat.le_of_ble_eq_true rfl) ?_
  intro zp ze zs zm zb zh zc ls X hin hret hexc hT hl
  have hl : lv_has ls 2 [(0, .ref (b 0 0)), (1, .int p)] := hl
  obtain ⟨⟨i2, i4, i5, i10, i17, i22, i29, i32⟩, hr3, hr6, hr11, hr18, hr23, hz21, hz28, hlb⟩ := id hi
  refine lv_iload_n X.1 X.2.1 dX7_machineAt_0 rfl (lv_at hl 1 rfl) ?_
  refine lv_if_lt X.1 X.2.1 (tgt := 15) dX7_machineAt_1 (by decide) (fun c1 => ?_) (fun c1 => ?_)
  · skip
    exact mr_throwW X hexc hT (text := "no such machine") (is := 260) tx_255_259 (by decide) hl.1 (⟨rfl, by first | exact c_ixn c1 | exact c_ixo hjj (show ct x 4 < 2 ^ 31 by omega) c12⟩) dX7_machineAt_15 dX7_machineAt_18 dX7_machineAt_19 dX7_machineAt_22 dX7_machineAt_25 (Nat.le_of_ble_eq_true rfl) (Nat.le_of_ble_eq_true rfl) (Nat.le_of_ble_eq_true rfl) (Nat.le_of_ble_eq_true rfl) (Nat.le_of_ble_eq_true rfl) (Nat.le_of_ble_eq_true rfl)
  · skip
    obtain ⟨j, hjj, rfl⟩ := nI_of c1
    refine lv_iload_n X.1 X.2.1 dX7_machineAt_4 rfl (lv_at hl 1 rfl) ?_
    refine lv_aload_n X.1 X.2.1 dX7_machineAt_5 rfl (lv_at hl 0 rfl) ?_
    refine mr_get X hT fl_RX7_16 (hA.gate) rfl dX7_machineAt_6 ?_
    refine mr_g X hT (fun hT' => mr_runV X hT' cb_RX7_52 kw196 kw197 kw198 (j_size hfl (hA.1 4 1 (show 1 < 6 by decide))) (mr_cell X hT (hA.1 4 1 (show 1 < 6 by decide)) rfl) rfl rfl hl.1 ⟨Nat.le_of_ble_eq_true rfl, Nat.le_of_ble_eq_true rfl⟩ (Nat.le_of_ble_eq_true rfl) dX7_machineAt_9 ⟨Nat.le_of_ble_eq_true rfl, Nat.le_of_ble_eq_true rfl⟩) (fun v M1 H locs hp hT => ?_)
    obtain ⟨r, rfl, rfl, rfl⟩ := hp
    refine W.eq (g2 := F0 zm 12 ls (.int _ :: _)) rfl ?_
    refine mm_top (w := nI (ct x 4)) (rfl) ?_
    refine lv_icmp_lt X.1 X.2.1 (tgt := 26) dX7_machineAt_12 (by decide) (fun c12 => ?_) (fun c12 => ?_)
    · skip
      have hkl : j < ct x 4 := (nI_ltI hjj (by omega)).mp c12
      obtain ⟨he1, hf1⟩ := hA.list ho (i := 1) (by decide) (show ct (x) 4 ≠ 0 from Nat.ne_of_gt (Nat.lt_of_le_of_lt (Nat.zero_le _) hkl))
      obtain ⟨o1, o2, -, o4⟩ := ho.2.2.2.1 1 (by decide)
      refine lv_aload_n X.1 X.2.1 dX7_machineAt_26 rfl (lv_at hl 0 rfl) ?_
      refine mr_get X hT fl_RX7_16 (hA.gate) rfl dX7_machineAt_27 ?_
      refine lv_iload_n X.1 X.2.1 dX7_machineAt_30 rfl (lv_at hl 1 rfl) ?_
      refine mr_g X hT (fun hT' => mr_runV X hT' cb_RX7_87 kw317 kw318 kw319 (j_get hfl he1 hf1 hkl o1 (by omega) (show w.2.2 1 j = some (b 7 j) from o4 j hkl)) (mr_cell X hT he1 rfl) rfl rfl hl.1 ⟨Nat.le_of_ble_eq_true rfl, Nat.le_of_ble_eq_true rfl⟩ (Nat.le_of_ble_eq_true rfl) dX7_machineAt_31 ⟨Nat.le_of_ble_eq_true rfl, Nat.le_of_ble_eq_true rfl⟩) (fun v M1 H locs hp hT => ?_)
      obtain ⟨r, rfl, rfl, rfl⟩ := hp
      refine W.eq (g2 := F0 zm 34 ls (.ref _ :: _)) rfl ?_
      refine mr_cast X hT (hA.mac hkl) rfl kw338 dX7_machineAt_34 ?_
      exact mr_aretX X hT hret (by first | exact Or.inl ⟨_, rfl⟩ | exact Or.inr ⟨_, rfl⟩) (⟨_, rfl, ⟨j, hkl, rfl, rfl⟩, rfl⟩) (Nat.le_of_ble_eq_true rfl) (Nat.le_of_ble_eq_true rfl) dX7_machineAt_37
    · skip
      exact mr_throwW X hexc hT (text := "no such machine") (is := 260) tx_255_259 (by decide) hl.1 (⟨rfl, by first | exact c_ixn c1 | exact c_ixo hjj (show ct x 4 < 2 ^ 31 by omega) c12⟩) dX7_machineAt_15 dX7_machineAt_18 dX7_machineAt_19 dX7_machineAt_22 dX7_machineAt_25 (Nat.le_of_ble_eq_true rfl) (Nat.le_of_ble_eq_true rfl) (Nat.le_of_ble_eq_true rfl) (Nat.le_of_ble_eq_true rfl) (Nat.le_of_ble_eq_true rfl) (Nat.le_of_ble_eq_true rfl)

abbrev rm_X7_askAt : Room := { frames := 6, cells := 1, slots := 6, locals := 100 }
set_option maxHeartbeats 4000000 in
set_option maxRecDepth 100000 in
theorem c_askAt {l : Launch} (hfl : l.stackTraces = false) {G : mw_G} {T : Nat} {b : c_B} {x : s_T} {w : c_W} {p : Int32} {M : mw_M} (hA : CA G b x w M) (ho : c_ok T b x w) (hi : q_inv 512 x) : mw_MetX l G yX7_askAt (.code yX7_askAt cX7_askAt 2 (some (.object "AccessGate$Ask"))) rm_X7_askAt [.ref (b 0 0), .int p] M (mw_pr (fun r M1 => (∃ j, j < ct x 17 ∧ p = nI j ∧ r = b 8 j) ∧ M = M1)) (fun E => E = "java/lang/IndexOutOfBoundsException" ∧ q_ix p (ct x 17) = false) := by
  refine mw_ofX hfl (by decide) (Nat.le_of_ble_eq_true rfl) ?_
  intro zp ze zs zm zb zh zc ls X hin hret hexc hT hl
  have hl : lv_has ls 2 [(0, .ref (b 0 0)), (1, .int p)] := hl
  obtain ⟨⟨i2, i4, i5, i10, i17, i22, i29, i32⟩, hr3, hr6, hr11, hr18, hr23, hz21, hz28, hlb⟩ := id hi
  refine lv_iload_n X.1 X.2.1 dX7_askAt_0 rfl (lv_at hl 1 rfl) ?_
  refine lv_if_lt X.1 X.2.1 (tgt := 15) dX7_askAt_1 (by decide) (fun c1 => ?_) (fun c1 => ?_)
  · skip
    exact mr_throwW X hexc hT (text := "no such ask") (is := 262) tx_255_259 (by decide) hl.1 (⟨rfl, by first | exact c_ixn c1 | exact c_ixo hjj (show ct x 17 < 2 ^ 31 by omega) c12⟩) dX7_askAt_15 dX7_askAt_18 dX7_askAt_19 dX7_askAt_22 dX7_askAt_25 (Nat.le_of_ble_eq_true rfl) (Nat.le_of_ble_eq_true rfl) (Nat.le_of_ble_eq_true rfl) (Nat.le_of_ble_eq_true rfl) (Nat.le_of_ble_eq_true rfl) (Nat.le_of_ble_eq_true rfl)
  · skip
    obtain ⟨j, hjj, rfl⟩ := nI_of c1
    refine lv_iload_n X.1 X.2.1 dX7_askAt_4 rfl (lv_at hl 1 rfl) ?_
    refine lv_aload_n X.1 X.2.1 dX7_askAt_5 rfl (lv_at hl 0 rfl) ?_
    refine mr_get X hT fl_RX7_19 (hA.gate) rfl dX7_askAt_6 ?_
    refine mr_g X hT (fun hT' => mr_runV X hT' cb_RX7_52 kw196 kw197 kw198 (j_size hfl (hA.1 4 2 (show 2 < 6 by decide))) (mr_cell X hT (hA.1 4 2 (show 2 < 6 by decide)) rfl) rfl rfl hl.1 ⟨Nat.le_of_ble_eq_true rfl, Nat.le_of_ble_eq_true rfl⟩ (Nat.le_of_ble_eq_true rfl) dX7_askAt_9 ⟨Nat.le_of_ble_eq_true rfl, Nat.le_of_ble_eq_true rfl⟩) (fun v M1 H locs hp hT => ?_)
    obtain ⟨r, rfl, rfl, rfl⟩ := hp
    refine W.eq (g2 := F0 zm 12 ls (.int _ :: _)) rfl ?_
    refine mm_top (w := nI (ct x 17)) (rfl) ?_
    refine lv_icmp_lt X.1 X.2.1 (tgt := 26) dX7_askAt_12 (by decide) (fun c12 => ?_) (fun c12 => ?_)
    · skip
      have hkl : j < ct x 17 := (nI_ltI hjj (by omega)).mp c12
      obtain ⟨he1, hf1⟩ := hA.list ho (i := 2) (by decide) (show ct (x) 17 ≠ 0 from Nat.ne_of_gt (Nat.lt_of_le_of_lt (Nat.zero_le _) hkl))
      obtain ⟨o1, o2, -, o4⟩ := ho.2.2.2.1 2 (by decide)
      refine lv_aload_n X.1 X.2.1 dX7_askAt_26 rfl (lv_at hl 0 rfl) ?_
      refine mr_get X hT fl_RX7_19 (hA.gate) rfl dX7_askAt_27 ?_
      refine lv_iload_n X.1 X.2.1 dX7_askAt_30 rfl (lv_at hl 1 rfl) ?_
      refine mr_g X hT (fun hT' => mr_runV X hT' cb_RX7_87 kw317 kw318 kw319 (j_get hfl he1 hf1 hkl o1 (by omega) (show w.2.2 2 j = some (b 8 j) from o4 j hkl)) (mr_cell X hT he1 rfl) rfl rfl hl.1 ⟨Nat.le_of_ble_eq_true rfl, Nat.le_of_ble_eq_true rfl⟩ (Nat.le_of_ble_eq_true rfl) dX7_askAt_31 ⟨Nat.le_of_ble_eq_true rfl, Nat.le_of_ble_eq_true rfl⟩) (fun v M1 H locs hp hT => ?_)
      obtain ⟨r, rfl, rfl, rfl⟩ := hp
      refine W.eq (g2 := F0 zm 34 ls (.ref _ :: _)) rfl ?_
      refine mr_cast X hT (hA.ask hkl) rfl kw353 dX7_askAt_34 ?_
      exact mr_aretX X hT hret (by first | exact Or.inl ⟨_, rfl⟩ | exact Or.inr ⟨_, rfl⟩) (⟨_, rfl, ⟨j, hkl, rfl, rfl⟩, rfl⟩) (Nat.le_of_ble_eq_true rfl) (Nat.le_of_ble_eq_true rfl) dX7_askAt_37
    · skip
      exact mr_throwW X hexc hT (text := "no such ask") (is := 262) tx_255_259 (by decide) hl.1 (⟨rfl, by first | exact c_ixn c1 | exact c_ixo hjj (show ct x 17 < 2 ^ 31 by omega) c12⟩) dX7_askAt_15 dX7_askAt_18 dX7_askAt_19 dX7_askAt_22 dX7_askAt_25 (Nat.le_of_ble_eq_true rfl) (Nat.le_of_ble_eq_true rfl) (Nat.le_of_ble_eq_true rfl) (Nat.le_of_ble_eq_true rfl) (Nat.le_of_ble_eq_true rfl) (Nat.le_of_ble_eq_true rfl)

abbrev rm_X7_entryAt : Room := { frames := 6, cells := 1, slots := 6, locals := 100 }
set_option maxHeartbeats 4000000 in
set_option maxRecDepth 100000 in
theorem c_entryAt {l : Launch} (hfl : l.stackTraces = false) {G : mw_G} {T : Nat} {b : c_B} {x : s_T} {w : c_W} {p : Int32} {M : mw_M} (hA : CA G b x w M) (ho : c_ok T b x w) (hi : q_inv 512 x) : mw_MetX l G yX7_entryAt (.code yX7_entryAt cX7_entryAt 2 (some (.object "AccessGate$Entry"))) rm_X7_entryAt [.ref (b 0 0), .int p] M (mw_pr (fun r M1 => (∃ j, j < ct x 22 ∧ p = nI j ∧ r = b 9 j) ∧ M = M1)) (fun E => E = "java/lang/IndexOutOfBoundsException" ∧ q_ix p (ct x 22) = false) := by
  refine mw_ofX hfl (by decide) (Nat.le_of_ble_eq_true rfl) ?_
  intro zp ze zs zm zb zh zc ls X hin hret hexc hT hl
  have hl : lv_has ls 2 [(0, .ref (b 0 0)), (1, .int p)] := hl
  obtain ⟨⟨i2, i4, i5, i10, i17, i22, i29, i32⟩, hr3, hr6, hr11, hr18, hr23, hz21, hz28, hlb⟩ := id hi
  refine lv_iload_n X.1 X.2.1 dX7_entryAt_0 rfl (lv_at hl 1 rfl) ?_
  refine lv_if_lt X.1 X.2.1 (tgt := 15) dX7_entryAt_1 (by decide) (fun c1 => ?_) (fun c1 => ?_)
  · skip
    exact mr_throwW X hexc hT (text := "no such entry") (is := 264) tx_255_259 (by decide) hl.1 (⟨rfl, by first | exact c_ixn c1 | exact c_ixo hjj (show ct x 22 < 2 ^ 31 by omega) c12⟩) dX7_entryAt_15 dX7_entryAt_18 dX7_entryAt_19 dX7_entryAt_22 dX7_entryAt_25 (Nat.le_of_ble_eq_true rfl) (Nat.le_of_ble_eq_true rfl) (Nat.le_of_ble_eq_true rfl) (Nat.le_of_ble_eq_true rfl) (Nat.le_of_ble_eq_true rfl) (Nat.le_of_ble_eq_true rfl)
  · skip
    obtain ⟨j, hjj, rfl⟩ := nI_of c1
    refine lv_iload_n X.1 X.2.1 dX7_entryAt_4 rfl (lv_at hl 1 rfl) ?_
    refine lv_aload_n X.1 X.2.1 dX7_entryAt_5 rfl (lv_at hl 0 rfl) ?_
    refine mr_get X hT fl_RX7_22 (hA.gate) rfl dX7_entryAt_6 ?_
    refine mr_g X hT (fun hT' => mr_runV X hT' cb_RX7_52 kw196 kw197 kw198 (j_size hfl (hA.1 4 3 (show 3 < 6 by decide))) (mr_cell X hT (hA.1 4 3 (show 3 < 6 by decide)) rfl) rfl rfl hl.1 ⟨Nat.le_of_ble_eq_true rfl, Nat.le_of_ble_eq_true rfl⟩ (Nat.le_of_ble_eq_true rfl) dX7_entryAt_9 ⟨Nat.le_of_ble_eq_true rfl, Nat.le_of_ble_eq_true rfl⟩) (fun v M1 H locs hp hT => ?_)
    obtain ⟨r, rfl, rfl, rfl⟩ := hp
    refine W.eq (g2 := F0 zm 12 ls (.int _ :: _)) rfl ?_
    refine mm_top (w := nI (ct x 22)) (rfl) ?_
    refine lv_icmp_lt X.1 X.2.1 (tgt := 26) dX7_entryAt_12 (by decide) (fun c12 => ?_) (fun c12 => ?_)
    · skip
      have hkl : j < ct x 22 := (nI_ltI hjj (by omega)).mp c12
      obtain ⟨he1, hf1⟩ := hA.list ho (i := 3) (by decide) (show ct (x) 22 ≠ 0 from Nat.ne_of_gt (Nat.lt_of_le_of_lt (Nat.zero_le _) hkl))
      obtain ⟨o1, o2, -, o4⟩ := ho.2.2.2.1 3 (by decide)
      refine lv_aload_n X.1 X.2.1 dX7_entryAt_26 rfl (lv_at hl 0 rfl) ?_
      refine mr_get X hT fl_RX7_22 (hA.gate) rfl dX7_entryAt_27 ?_
      refine lv_iload_n X.1 X.2.1 dX7_entryAt_30 rfl (lv_at hl 1 rfl) ?_
      refine mr_g X hT (fun hT' => mr_runV X hT' cb_RX7_87 kw317 kw318 kw319 (j_get hfl he1 hf1 hkl o1 (by omega) (show w.2.2 3 j = some (b 9 j) from o4 j hkl)) (mr_cell X hT he1 rfl) rfl rfl hl.1 ⟨Nat.le_of_ble_eq_true rfl, Nat.le_of_ble_eq_true rfl⟩ (Nat.le_of_ble_eq_true rfl) dX7_entryAt_31 ⟨Nat.le_of_ble_eq_true rfl, Nat.le_of_ble_eq_true rfl⟩) (fun v M1 H locs hp hT => ?_)
      obtain ⟨r, rfl, rfl, rfl⟩ := hp
      refine W.eq (g2 := F0 zm 34 ls (.ref _ :: _)) rfl ?_
      refine mr_cast X hT (hA.ent hkl) rfl kw489 dX7_entryAt_34 ?_
      exact mr_aretX X hT hret (by first | exact Or.inl ⟨_, rfl⟩ | exact Or.inr ⟨_, rfl⟩) (⟨_, rfl, ⟨j, hkl, rfl, rfl⟩, rfl⟩) (Nat.le_of_ble_eq_true rfl) (Nat.le_of_ble_eq_true rfl) dX7_entryAt_37
    · skip
      exact mr_throwW X hexc hT (text := "no such entry") (is := 264) tx_255_259 (by decide) hl.1 (⟨rfl, by first | exact c_ixn c1 | exact c_ixo hjj (show ct x 22 < 2 ^ 31 by omega) c12⟩) dX7_entryAt_15 dX7_entryAt_18 dX7_entryAt_19 dX7_entryAt_22 dX7_entryAt_25 (Nat.le_of_ble_eq_true rfl) (Nat.le_of_ble_eq_true rfl) (Nat.le_of_ble_eq_true rfl) (Nat.le_of_ble_eq_true rfl) (Nat.le_of_ble_eq_true rfl) (Nat.le_of_ble_eq_true rfl)

abbrev rm_X7_sessionAt : Room := { frames := 6, cells := 1, slots := 6, locals := 100 }
set_option maxHeartbeats 4000000 in
set_option maxRecDepth 100000 in
theorem c_sessionAt {l : Launch} (hfl : l.stackTraces = false) {G : mw_G} {T : Nat} {b : c_B} {x : s_T} {w : c_W} {p : Int32} {M : mw_M} (hA : CA G b x w M) (ho : c_ok T b x w) (hi : q_inv 512 x) : mw_MetX l G yX7_sessionAt (.code yX7_sessionAt cX7_sessionAt 2 (some (.object "AccessGate$Session"))) rm_X7_sessionAt [.ref (b 0 0), .int p] M (mw_pr (fun r M1 => (∃ j, j < ct x 29 ∧ p = nI j ∧ r = b 11 j) ∧ M = M1)) (fun E => E = "java/lang/IndexOutOfBoundsException" ∧ q_ix p (ct x 29) = false) := by
  refine mw_ofX hfl (by decide) (Nat.le_of_ble_eq_true rfl) ?_
  intro zp ze zs zm zb zh zc ls X hin hret hexc hT hl
  have hl : lv_has ls 2 [(0, .ref (b 0 0)), (1, .int p)] := hl
  obtain ⟨⟨i2, i4, i5, i10, i17, i22, i29, i32⟩, hr3, hr6, hr11, hr18, hr23, hz21, hz28, hlb⟩ := id hi
  refine lv_iload_n X.1 X.2.1 dX7_sessionAt_0 rfl (lv_at hl 1 rfl) ?_
  refine lv_if_lt X.1 X.2.1 (tgt := 15) dX7_sessionAt_1 (by decide) (fun c1 => ?_) (fun c1 => ?_)
  · skip
    exact mr_throwW X hexc hT (text := "no such session") (is := 266) tx_255_259 (by decide) hl.1 (⟨rfl, by first | exact c_ixn c1 | exact c_ixo hjj (show ct x 29 < 2 ^ 31 by omega) c12⟩) dX7_sessionAt_15 dX7_sessionAt_18 dX7_sessionAt_19 dX7_sessionAt_22 dX7_sessionAt_25 (Nat.le_of_ble_eq_true rfl) (Nat.le_of_ble_eq_true rfl) (Nat.le_of_ble_eq_true rfl) (Nat.le_of_ble_eq_true rfl) (Nat.le_of_ble_eq_true rfl) (Nat.le_of_ble_eq_true rfl)
  · skip
    obtain ⟨j, hjj, rfl⟩ := nI_of c1
    refine lv_iload_n X.1 X.2.1 dX7_sessionAt_4 rfl (lv_at hl 1 rfl) ?_
    refine lv_aload_n X.1 X.2.1 dX7_sessionAt_5 rfl (lv_at hl 0 rfl) ?_
    refine mr_get X hT fl_RX7_28 (hA.gate) rfl dX7_sessionAt_6 ?_
    refine mr_g X hT (fun hT' => mr_runV X hT' cb_RX7_52 kw196 kw197 kw198 (j_size hfl (hA.1 4 5 (show 5 < 6 by decide))) (mr_cell X hT (hA.1 4 5 (show 5 < 6 by decide)) rfl) rfl rfl hl.1 ⟨Nat.le_of_ble_eq_true rfl, Nat.le_of_ble_eq_true rfl⟩ (Nat.le_of_ble_eq_true rfl) dX7_sessionAt_9 ⟨Nat.le_of_ble_eq_true rfl, Nat.le_of_ble_eq_true rfl⟩) (fun v M1 H locs hp hT => ?_)
    obtain ⟨r, rfl, rfl, rfl⟩ := hp
    refine W.eq (g2 := F0 zm 12 ls (.int _ :: _)) rfl ?_
    refine mm_top (w := nI (ct x 29)) (rfl) ?_
    refine lv_icmp_lt X.1 X.2.1 (tgt := 26) dX7_sessionAt_12 (by decide) (fun c12 => ?_) (fun c12 => ?_)
    · skip
      have hkl : j < ct x 29 := (nI_ltI hjj (by omega)).mp c12
      obtain ⟨he1, hf1⟩ := hA.list ho (i := 5) (by decide) (show ct (x) 29 ≠ 0 from Nat.ne_of_gt (Nat.lt_of_le_of_lt (Nat.zero_le _) hkl))
      obtain ⟨o1, o2, -, o4⟩ := ho.2.2.2.1 5 (by decide)
      refine lv_aload_n X.1 X.2.1 dX7_sessionAt_26 rfl (lv_at hl 0 rfl) ?_
      refine mr_get X hT fl_RX7_28 (hA.gate) rfl dX7_sessionAt_27 ?_
      refine lv_iload_n X.1 X.2.1 dX7_sessionAt_30 rfl (lv_at hl 1 rfl) ?_
      refine mr_g X hT (fun hT' => mr_runV X hT' cb_RX7_87 kw317 kw318 kw319 (j_get hfl he1 hf1 hkl o1 (by omega) (show w.2.2 5 j = some (b 11 j) from o4 j hkl)) (mr_cell X hT he1 rfl) rfl rfl hl.1 ⟨Nat.le_of_ble_eq_true rfl, Nat.le_of_ble_eq_true rfl⟩ (Nat.le_of_ble_eq_true rfl) dX7_sessionAt_31 ⟨Nat.le_of_ble_eq_true rfl, Nat.le_of_ble_eq_true rfl⟩) (fun v M1 H locs hp hT => ?_)
      obtain ⟨r, rfl, rfl, rfl⟩ := hp
      refine W.eq (g2 := F0 zm 34 ls (.ref _ :: _)) rfl ?_
      refine mr_cast X hT (hA.ses hkl) rfl kw363 dX7_sessionAt_34 ?_
      exact mr_aretX X hT hret (by first | exact Or.inl ⟨_, rfl⟩ | exact Or.inr ⟨_, rfl⟩) (⟨_, rfl, ⟨j, hkl, rfl, rfl⟩, rfl⟩) (Nat.le_of_ble_eq_true rfl) (Nat.le_of_ble_eq_true rfl) dX7_sessionAt_37
    · skip
      exact mr_throwW X hexc hT (text := "no such session") (is := 266) tx_255_259 (by decide) hl.1 (⟨rfl, by first | exact c_ixn c1 | exact c_ixo hjj (show ct x 29 < 2 ^ 31 by omega) c12⟩) dX7_sessionAt_15 dX7_sessionAt_18 dX7_sessionAt_19 dX7_sessionAt_22 dX7_sessionAt_25 (Nat.le_of_ble_eq_true rfl) (Nat.le_of_ble_eq_true rfl) (Nat.le_of_ble_eq_true rfl) (Nat.le_of_ble_eq_true rfl) (Nat.le_of_ble_eq_true rfl) (Nat.le_of_ble_eq_true rfl)

abbrev rm_X7_requireStep : Room := { frames := 6, cells := 1, slots := 6, locals := 100 }
set_option maxHeartbeats 4000000 in
set_option maxRecDepth 100000 in
theorem c_requireStep {l : Launch} (hfl : l.stackTraces = false) {G : mw_G} {T : Nat} {b : c_B} {x : s_T} {w : c_W} {p : Int32} {M : mw_M} (hA : CA G b x w M) (ho : c_ok T b x w) (hi : q_inv 512 x) : mw_MetX l G yX7_requireStep (.code yX7_requireStep cX7_requireStep 2 none) rm_X7_requireStep [.ref (b 0 0), .int p] M (mw_pv (fun M1 => (∃ j, j < ct x 32 ∧ p = nI j) ∧ M = M1)) (fun E => E = "java/lang/IndexOutOfBoundsException" ∧ q_ix p (ct x 32) = false) := by
  refine mw_ofX hfl (by decide) (Nat.le_of_ble_eq_true rfl) ?_
  intro zp ze zs zm zb zh zc ls X hin hret hexc hT hl
  have hl : lv_has ls 2 [(0, .ref (b 0 0)), (1, .int p)] := hl
  obtain ⟨⟨i2, i4, i5, i10, i17, i22, i29, i32⟩, hr3, hr6, hr11, hr18, hr23, hz21, hz28, hlb⟩ := id hi
  refine lv_iload_n X.1 X.2.1 dX7_requireStep_0 rfl (lv_at hl 1 rfl) ?_
  refine lv_if_lt X.1 X.2.1 (tgt := 15) dX7_requireStep_1 (by decide) (fun c1 => ?_) (fun c1 => ?_)
  · skip
    exact mr_throwW X hexc hT (text := "no such step") (is := 268) tx_255_259 (by decide) hl.1 (⟨rfl, by first | exact c_ixn c1 | exact c_ixo hjj (show ct x 32 < 2 ^ 31 by omega) c12⟩) dX7_requireStep_15 dX7_requireStep_18 dX7_requireStep_19 dX7_requireStep_22 dX7_requireStep_25 (Nat.le_of_ble_eq_true rfl) (Nat.le_of_ble_eq_true rfl) (Nat.le_of_ble_eq_true rfl) (Nat.le_of_ble_eq_true rfl) (Nat.le_of_ble_eq_true rfl) (Nat.le_of_ble_eq_true rfl)
  · skip
    obtain ⟨j, hjj, rfl⟩ := nI_of c1
    refine lv_iload_n X.1 X.2.1 dX7_requireStep_4 rfl (lv_at hl 1 rfl) ?_
    refine lv_aload_n X.1 X.2.1 dX7_requireStep_5 rfl (lv_at hl 0 rfl) ?_
    refine mr_get X hT fl_RX7_34 (hA.gate) rfl dX7_requireStep_6 ?_
    refine mr_get X hT fl_RX7_242 (hA.rec) rfl dX7_requireStep_9 ?_
    refine lv_icmp_lt X.1 X.2.1 (tgt := 26) dX7_requireStep_12 (by decide) (fun c12 => ?_) (fun c12 => ?_)
    · skip
      have hkl : j < ct x 32 := (nI_ltI hjj (by omega)).mp c12
      exact mr_vretX X hT hret (⟨rfl, ⟨j, hkl, rfl⟩, rfl⟩) (Nat.le_of_ble_eq_true rfl) (Nat.le_of_ble_eq_true rfl) dX7_requireStep_26
    · skip
      exact mr_throwW X hexc hT (text := "no such step") (is := 268) tx_255_259 (by decide) hl.1 (⟨rfl, by first | exact c_ixn c1 | exact c_ixo hjj (show ct x 32 < 2 ^ 31 by omega) c12⟩) dX7_requireStep_15 dX7_requireStep_18 dX7_requireStep_19 dX7_requireStep_22 dX7_requireStep_25 (Nat.le_of_ble_eq_true rfl) (Nat.le_of_ble_eq_true rfl) (Nat.le_of_ble_eq_true rfl) (Nat.le_of_ble_eq_true rfl) (Nat.le_of_ble_eq_true rfl) (Nat.le_of_ble_eq_true rfl)

abbrev rm_X7_requireLabel : Room := { frames := 6, cells := 1, slots := 6, locals := 100 }
set_option maxHeartbeats 4000000 in
set_option maxRecDepth 100000 in
theorem c_requireLabel {l : Launch} (hfl : l.stackTraces = false) {G : mw_G} {p : Int32} {M : mw_M}  : mw_MetX l G yX7_requireLabel (.code yX7_requireLabel cX7_requireLabel 1 none) rm_X7_requireLabel [.int p] M (mw_pv (fun M1 => q_in p 0 3 = true ∧ M = M1)) (fun E => E = "java/lang/IllegalArgumentException" ∧ q_in p 0 3 = false) := by
  refine mw_ofX hfl (by decide) (Nat.le_of_ble_eq_true rfl) ?_
  intro zp ze zs zm zb zh zc ls X hin hret hexc hT hl
  have hl : lv_has ls 1 [(0, .int p)] := hl
  refine lv_iload_n X.1 X.2.1 dX7_requireLabel_0 rfl (lv_at hl 0 rfl) ?_
  refine lv_if_lt X.1 X.2.1 (tgt := 9) dX7_requireLabel_1 (by decide) (fun c1 => ?_) (fun c1 => ?_)
  · skip
    exact mr_throwW X hexc hT (text := "label is out of range") (is := 270) tx_45_49 (by decide) hl.1 (⟨rfl, by first | exact c_inn c1 | exact c_inh (Int32.not_le.mp (fun z => c6 (c_lt4.mpr z)))⟩) dX7_requireLabel_9 dX7_requireLabel_12 dX7_requireLabel_13 dX7_requireLabel_16 dX7_requireLabel_19 (Nat.le_of_ble_eq_true rfl) (Nat.le_of_ble_eq_true rfl) (Nat.le_of_ble_eq_true rfl) (Nat.le_of_ble_eq_true rfl) (Nat.le_of_ble_eq_true rfl) (Nat.le_of_ble_eq_true rfl)
  · skip
    refine lv_iload_n X.1 X.2.1 dX7_requireLabel_4 rfl (lv_at hl 0 rfl) ?_
    refine lv_iconst X.1 X.2.1 (v := 4) dX7_requireLabel_5 (by decide) ?_
    refine lv_icmp_lt X.1 X.2.1 (tgt := 20) dX7_requireLabel_6 (by decide) (fun c6 => ?_) (fun c6 => ?_)
    · skip
      exact mr_vretX X hT hret (⟨rfl, c_int c1 (c_lt4.mp c6), rfl⟩) (Nat.le_of_ble_eq_true rfl) (Nat.le_of_ble_eq_true rfl) dX7_requireLabel_20
    · skip
      exact mr_throwW X hexc hT (text := "label is out of range") (is := 270) tx_45_49 (by decide) hl.1 (⟨rfl, by first | exact c_inn c1 | exact c_inh (Int32.not_le.mp (fun z => c6 (c_lt4.mpr z)))⟩) dX7_requireLabel_9 dX7_requireLabel_12 dX7_requireLabel_13 dX7_requireLabel_16 dX7_requireLabel_19 (Nat.le_of_ble_eq_true rfl) (Nat.le_of_ble_eq_true rfl) (Nat.le_of_ble_eq_true rfl) (Nat.le_of_ble_eq_true rfl) (Nat.le_of_ble_eq_true rfl) (Nat.le_of_ble_eq_true rfl)

abbrev rm_X7_requireRoomFor : Room := { frames := 0, cells := 0, slots := 0, locals := 0 }
set_option maxHeartbeats 4000000 in
set_option maxRecDepth 100000 in
theorem c_requireRoomFor {l : Launch} (hfl : l.stackTraces = false) {G : mw_G} {n : Nat} {M : mw_M} (hn : n < 512) : mw_Met l G yX7_requireRoomFor (.code yX7_requireRoomFor cX7_requireRoomFor 1 none) rm_X7_requireRoomFor [.int (nI n)] M (mw_pv (fun M1 => M = M1)) := by
  refine mw_of hfl (by decide) (Nat.le_of_ble_eq_true rfl) ?_
  intro zp ze zs zm zb zh zc ls X hin hret hT hl
  have hl : lv_has ls 1 [(0, .int (nI n))] := hl
  refine lv_iload_n X.1 X.2.1 dX7_requireRoomFor_0 rfl (lv_at hl 0 rfl) ?_
  refine lv_sipush X.1 X.2.1 (v := 512) dX7_requireRoomFor_1 (by decide) ?_
  refine lv_icmp_lt X.1 X.2.1 (tgt := 18) dX7_requireRoomFor_4 (by decide) (fun c4 => ?_) (fun c4 => ?_)
  · skip
    exact mr_vret X hT hret (⟨rfl, rfl⟩) (Nat.le_of_ble_eq_true rfl) (Nat.le_of_ble_eq_true rfl) dX7_requireRoomFor_18
  · exact absurd (nI_lt hn (by decide)) c4

abbrev rm_X7_requireOpen : Room := { frames := 6, cells := 1, slots := 6, locals := 100 }
set_option maxHeartbeats 4000000 in
set_option maxRecDepth 100000 in
theorem c_requireOpen {l : Launch} (hfl : l.stackTraces = false) {G : mw_G} {T : Nat} {b : c_B} {x : s_T} {w : c_W} {k : Nat} {M : mw_M} (hA : CA G b x w M) (ho : c_ok T b x w) (hi : q_inv 512 x) (hk : k < ct x 29) : mw_MetX l G yX7_requireOpen (.code yX7_requireOpen cX7_requireOpen 1 none) rm_X7_requireOpen [.ref (b 11 k)] M (mw_pv (fun M1 => cg x 25 k ≠ 0 ∧ M = M1)) (fun E => E = "java/lang/IllegalStateException" ∧ cg x 25 k = 0) := by
  refine mw_ofX hfl (by decide) (Nat.le_of_ble_eq_true rfl) ?_
  intro zp ze zs zm zb zh zc ls X hin hret hexc hT hl
  have hl : lv_has ls 1 [(0, .ref (b 11 k))] := hl
  refine lv_aload_n X.1 X.2.1 dX7_requireOpen_0 rfl (lv_at hl 0 rfl) ?_
  refine mr_get X hT fl_RX7_237 (hA.ses hk) rfl dX7_requireOpen_1 ?_
  refine lv_if_eq X.1 X.2.1 (tgt := 18) dX7_requireOpen_4 (by decide) (fun c4 => ?_) (fun c4 => ?_)
  · skip
    exact mr_vretX X hT hret (⟨rfl, of_decide_eq_false (bI_0.mp c4), rfl⟩) (Nat.le_of_ble_eq_true rfl) (Nat.le_of_ble_eq_true rfl) dX7_requireOpen_18
  · skip
    exact mr_throwW X hexc hT (text := "the session is closed") (is := 274) tx_56_60 (by decide) hl.1 (⟨rfl, of_decide_eq_true (bI_n.mp c4)⟩) dX7_requireOpen_7 dX7_requireOpen_10 dX7_requireOpen_11 dX7_requireOpen_14 dX7_requireOpen_17 (Nat.le_of_ble_eq_true rfl) (Nat.le_of_ble_eq_true rfl) (Nat.le_of_ble_eq_true rfl) (Nat.le_of_ble_eq_true rfl) (Nat.le_of_ble_eq_true rfl) (Nat.le_of_ble_eq_true rfl)

abbrev rm_X7_countOverdue : Room := { frames := 3, cells := 0, slots := 0, locals := 64 }
set_option maxHeartbeats 4000000 in
set_option maxRecDepth 100000 in
theorem c_countOverdue {l : Launch} (hfl : l.stackTraces = false) {G : mw_G} {T : Nat} {b : c_B} {x : s_T} {w : c_W} {j : Nat} {M : mw_M} (hA : CA G b x w M) (ho : c_ok T b x w) (hi : q_inv 512 x) (hj : j < ct x 2) : mw_Met l G yX7_countOverdue (.code yX7_countOverdue cX7_countOverdue 5 (some .int)) rm_X7_countOverdue [.ref (b 0 0), .ref (b 6 j)] M (mw_pi (fun r M1 => r = q_over x (nI j) (ct x 22) ∧ M = M1)) := by
  refine mw_of hfl (by decide) (Nat.le_of_ble_eq_true rfl) ?_
  intro zp ze zs zm zb zh zc ls X hin hret hT hl
  have hl : lv_has ls 5 [(0, .ref (b 0 0)), (1, .ref (b 6 j))] := hl
  obtain ⟨⟨i2, i4, i5, i10, i17, i22, i29, i32⟩, hr3, hr6, hr11, hr18, hr23, hz21, hz28, hlb⟩ := id hi
  refine lv_iconst X.1 X.2.1 (v := 0) dX7_countOverdue_0 (by decide) ?_
  refine lv_istore_n X.1 X.2.1 dX7_countOverdue_1 rfl hl (by decide) rfl (fun ls hl => ?_)
  refine lv_iconst X.1 X.2.1 (v := 0) dX7_countOverdue_2 (by decide) ?_
  refine lv_istore_n X.1 X.2.1 dX7_countOverdue_3 rfl hl (by decide) rfl (fun ls hl => ?_)
  refine W.widen (k := 0) (n := 0) (Nat.le_of_ble_eq_true rfl) (Nat.le_of_ble_eq_true rfl) ?_
  refine mw_loop (nL := 5) (n := ct x 22) (fun k M1 => M = M1) (fun k => [(3, .int (nI k)), (2, .int (q_over x (nI j) k)), (0, .ref (b 0 0)), (1, .ref (b 6 j))]) (fun k hk ih M1 H locs ls hM hT hl => ?_) rfl hT (lv_sub hl [0, 1, 2, 3] rfl)
  obtain rfl := hM
  refine lv_iload_n X.1 X.2.1 dX7_countOverdue_4 rfl (lv_at hl 0 rfl) ?_
  refine lv_aload_n X.1 X.2.1 dX7_countOverdue_5 rfl (lv_at hl 2 rfl) ?_
  refine mr_get X hT fl_RX7_22 (hA.gate) rfl dX7_countOverdue_6 ?_
  refine mr_g X hT (fun hT' => mr_runV X hT' cb_RX7_52 kw196 kw197 kw198 (j_size hfl (hA.1 4 3 (show 3 < 6 by decide))) (mr_cell X hT (hA.1 4 3 (show 3 < 6 by decide)) rfl) rfl rfl hl.1 ⟨Nat.le_of_ble_eq_true rfl, Nat.le_of_ble_eq_true rfl⟩ (Nat.le_of_ble_eq_true rfl) dX7_countOverdue_9 ⟨Nat.le_of_ble_eq_true rfl, Nat.le_of_ble_eq_true rfl⟩) (fun v M1 H locs hp hT => ?_)
  obtain ⟨r, rfl, rfl, rfl⟩ := hp
  refine W.eq (g2 := F0 zm 12 ls (.int _ :: _)) rfl ?_
  refine mm_top (w := nI (ct x 22)) (rfl) ?_
  refine lv_icmp_ge X.1 X.2.1 (tgt := 58) dX7_countOverdue_12 (by decide) (fun c12 => ?_) (fun c12 => ?_)
  · skip
    have hkn := mm_exit hk (show ct x 22 < 2 ^ 31 by omega) c12
    subst hkn
    refine lv_iload_n X.1 X.2.1 dX7_countOverdue_58 rfl (lv_at hl 1 rfl) ?_
    exact mr_iret X hT hret (⟨_, rfl, rfl, rfl⟩) (Nat.le_of_ble_eq_true rfl) (Nat.le_of_ble_eq_true rfl) dX7_countOverdue_59
  · skip
    have hkl := mm_stay hk (show ct x 22 < 2 ^ 31 by omega) c12
    obtain ⟨he1, hf1⟩ := hA.list ho (i := 3) (by decide) (show ct (x) 22 ≠ 0 from Nat.ne_of_gt (Nat.lt_of_le_of_lt (Nat.zero_le _) hkl))
    obtain ⟨o1, o2, -, o4⟩ := ho.2.2.2.1 3 (by decide)
    have hs := hA.sameP (v := cg x 18 k) (hr18 k hkl).1 hj (by omega)
    refine lv_aload_n X.1 X.2.1 dX7_countOverdue_15 rfl (lv_at hl 2 rfl) ?_
    refine mr_get X hT fl_RX7_22 (hA.gate) rfl dX7_countOverdue_16 ?_
    refine lv_iload_n X.1 X.2.1 dX7_countOverdue_19 rfl (lv_at hl 0 rfl) ?_
    refine mr_g X hT (fun hT' => mr_runV X hT' cb_RX7_87 kw317 kw318 kw319 (j_get hfl he1 hf1 hkl o1 (by omega) (show w.2.2 3 k = some (b 9 k) from o4 k hkl)) (mr_cell X hT he1 rfl) rfl rfl hl.1 ⟨Nat.le_of_ble_eq_true rfl, Nat.le_of_ble_eq_true rfl⟩ (Nat.le_of_ble_eq_true rfl) dX7_countOverdue_20 ⟨Nat.le_of_ble_eq_true rfl, Nat.le_of_ble_eq_true rfl⟩) (fun v M1 H locs hp hT => ?_)
    obtain ⟨r, rfl, rfl, rfl⟩ := hp
    refine W.eq (g2 := F0 zm 23 ls (.ref _ :: _)) rfl ?_
    refine mr_cast X hT (hA.ent hkl) rfl kw489 dX7_countOverdue_23 ?_
    refine lv_astore X.1 X.2.1 dX7_countOverdue_26 hl (by decide) rfl (fun ls hl => ?_)
    refine lv_aload X.1 X.2.1 dX7_countOverdue_28 (lv_at hl 0 rfl) ?_
    refine mr_get X hT fl_RX7_176 (hA.ent hkl) rfl dX7_countOverdue_30 ?_
    refine lv_aload_n X.1 X.2.1 dX7_countOverdue_33 rfl (lv_at hl 4 rfl) ?_
    refine lv_acmp_ne X.1 X.2.1 (rx := some _) (ry := some _) (tgt := 52) dX7_countOverdue_34 (by decide) (fun c34 => ?_) (fun c34 => ?_)
    · skip
      have hq : q_over x (nI j) (k + 1) = q_over x (nI j) k := by rw [q_over]; unfold q_over1; rw [decide_eq_false (mt hs.mpr c34)]; exact Int32.add_zero _
      refine lv_iinc X.1 X.2.1 (k := 1) (v := nI (k + 1)) dX7_countOverdue_52 hl rfl (mm_inc k) (by decide) rfl (fun ls hl => ?_)
      refine lv_goto X.1 X.2.1 (tgt := 4) dX7_countOverdue_55 (by decide) ?_
      refine W.widen (k := 0) (n := 0) (Nat.le_of_ble_eq_true rfl) (Nat.le_of_ble_eq_true rfl) ?_
      first
        | exact ih (by omega) _ _ _ _ rfl hT (by rw [hq]; exact lv_sub hl [0, 2, 3, 4] rfl)
        | exact ih (by omega) _ _ _ _ rfl hT (by rw [hq2]; exact lv_sub hl [0, 2, 3, 4] rfl)
    · skip
      refine lv_aload X.1 X.2.1 dX7_countOverdue_37 (lv_at hl 0 rfl) ?_
      refine lv_aload_n X.1 X.2.1 dX7_countOverdue_39 rfl (lv_at hl 3 rfl) ?_
      refine mr_get X hT fl_RX7_42 (hA.gate) rfl dX7_countOverdue_40 ?_
      refine mr_g X hT (fun hT' => mr_runVN X hT' cn_RX7_288 kw492 kp20 kw494 (o_isOverdueAt hfl (hA.ent hkl)) (mr_cell X hT (hA.ent hkl) rfl) rfl rfl hl.1 ⟨Nat.le_of_ble_eq_true rfl, Nat.le_of_ble_eq_true rfl⟩ (Nat.le_of_ble_eq_true rfl) dX7_countOverdue_43 ⟨Nat.le_of_ble_eq_true rfl, Nat.le_of_ble_eq_true rfl⟩) (fun v M1 H locs hp hT => ?_)
      obtain ⟨r, rfl, rfl, rfl⟩ := hp
      refine W.eq (g2 := F0 zm 46 ls (.int _ :: _)) rfl ?_
      refine lv_if_eq X.1 X.2.1 (tgt := 52) dX7_countOverdue_46 (by decide) (fun c46 => ?_) (fun c46 => ?_)
      · skip
        have hq : q_over x (nI j) (k + 1) = q_over x (nI j) k := by rw [q_over]; unfold q_over1; rw [decide_eq_true (hs.mp c34), Bool.true_and, show (decide (cg x 21 k = 0) && decide (1440 ≤ q_now x - cg x 20 k)) = false from bI_0.mp c46]; exact Int32.add_zero _
        refine lv_iinc X.1 X.2.1 (k := 1) (v := nI (k + 1)) dX7_countOverdue_52 hl rfl (mm_inc k) (by decide) rfl (fun ls hl => ?_)
        refine lv_goto X.1 X.2.1 (tgt := 4) dX7_countOverdue_55 (by decide) ?_
        refine W.widen (k := 0) (n := 0) (Nat.le_of_ble_eq_true rfl) (Nat.le_of_ble_eq_true rfl) ?_
        first
          | exact ih (by omega) _ _ _ _ rfl hT (by rw [hq]; exact lv_sub hl [0, 2, 3, 4] rfl)
          | exact ih (by omega) _ _ _ _ rfl hT (by rw [hq2]; exact lv_sub hl [0, 2, 3, 4] rfl)
      · skip
        have hq2 : q_over x (nI j) (k + 1) = q_over x (nI j) k + 1 := by rw [q_over]; unfold q_over1; rw [decide_eq_true (hs.mp c34), Bool.true_and, show (decide (cg x 21 k = 0) && decide (1440 ≤ q_now x - cg x 20 k)) = true from bI_n.mp c46]; rfl
        refine lv_iinc X.1 X.2.1 (k := 2) (v := q_over x (nI j) k + 1) dX7_countOverdue_49 hl rfl (rfl) (by decide) rfl (fun ls hl => ?_)
        refine lv_iinc X.1 X.2.1 (k := 2) (v := nI (k + 1)) dX7_countOverdue_52 hl rfl (mm_inc k) (by decide) rfl (fun ls hl => ?_)
        refine lv_goto X.1 X.2.1 (tgt := 4) dX7_countOverdue_55 (by decide) ?_
        refine W.widen (k := 0) (n := 0) (Nat.le_of_ble_eq_true rfl) (Nat.le_of_ble_eq_true rfl) ?_
        first
          | exact ih (by omega) _ _ _ _ rfl hT (by rw [hq]; exact lv_sub hl [0, 1, 3, 4] rfl)
          | exact ih (by omega) _ _ _ _ rfl hT (by rw [hq2]; exact lv_sub hl [0, 1, 3, 4] rfl)

abbrev rm_X7_rightHolds : Room := { frames := 3, cells := 0, slots := 0, locals := 64 }
set_option maxHeartbeats 4000000 in
set_option maxRecDepth 100000 in
theorem c_rightHolds {l : Launch} (hfl : l.stackTraces = false) {G : mw_G} {T : Nat} {b : c_B} {x : s_T} {w : c_W} {j m : Nat} {t : Int32} {M : mw_M} (hA : CA G b x w M) (ho : c_ok T b x w) (hi : q_inv 512 x) (hj : j < ct x 2) (hm : m < ct x 4) : mw_Met l G yX7_rightHolds (.code yX7_rightHolds cX7_rightHolds 6 (some .boolean)) rm_X7_rightHolds [.ref (b 0 0), .ref (b 6 j), .ref (b 7 m), .int t] M (mw_pi (fun r M1 => r = bI (q_hold x (nI j) (nI m) t (ct x 10)) ∧ M = M1)) := by
  refine mw_of hfl (by decide) (Nat.le_of_ble_eq_true rfl) ?_
  intro zp ze zs zm zb zh zc ls X hin hret hT hl
  have hl : lv_has ls 6 [(0, .ref (b 0 0)), (1, .ref (b 6 j)), (2, .ref (b 7 m)), (3, .int t)] := hl
  obtain ⟨⟨i2, i4, i5, i10, i17, i22, i29, i32⟩, hr3, hr6, hr11, hr18, hr23, hz21, hz28, hlb⟩ := id hi
  refine lv_iconst X.1 X.2.1 (v := 0) dX7_rightHolds_0 (by decide) ?_
  refine lv_istore X.1 X.2.1 dX7_rightHolds_1 hl (by decide) rfl (fun ls hl => ?_)
  refine W.widen (k := 0) (n := 0) (Nat.le_of_ble_eq_true rfl) (Nat.le_of_ble_eq_true rfl) ?_
  refine mw_loop (nL := 6) (n := ct x 10) (fun k M1 => q_hold x (nI j) (nI m) t k = false ∧ M = M1) (fun k => [(4, .int (nI k)), (0, .ref (b 0 0)), (1, .ref (b 6 j)), (2, .ref (b 7 m)), (3, .int t)]) (fun k hk ih M1 H locs ls hM hT hl => ?_) ⟨rfl, rfl⟩ hT (lv_sub hl [0, 1, 2, 3, 4] rfl)
  obtain ⟨hq0, rfl⟩ := hM
  refine lv_iload X.1 X.2.1 dX7_rightHolds_3 (lv_at hl 0 rfl) ?_
  refine lv_aload_n X.1 X.2.1 dX7_rightHolds_5 rfl (lv_at hl 1 rfl) ?_
  refine mr_get X hT fl_RX7_25 (hA.gate) rfl dX7_rightHolds_6 ?_
  refine mr_g X hT (fun hT' => mr_runV X hT' cb_RX7_52 kw196 kw197 kw198 (j_size hfl (hA.1 4 4 (show 4 < 6 by decide))) (mr_cell X hT (hA.1 4 4 (show 4 < 6 by decide)) rfl) rfl rfl hl.1 ⟨Nat.le_of_ble_eq_true rfl, Nat.le_of_ble_eq_true rfl⟩ (Nat.le_of_ble_eq_true rfl) dX7_rightHolds_9 ⟨Nat.le_of_ble_eq_true rfl, Nat.le_of_ble_eq_true rfl⟩) (fun v M1 H locs hp hT => ?_)
  obtain ⟨r, rfl, rfl, rfl⟩ := hp
  refine W.eq (g2 := F0 zm 12 ls (.int _ :: _)) rfl ?_
  refine mm_top (w := nI (ct x 10)) (rfl) ?_
  refine lv_icmp_ge X.1 X.2.1 (tgt := 64) dX7_rightHolds_12 (by decide) (fun c12 => ?_) (fun c12 => ?_)
  · skip
    have hkn := mm_exit hk (show ct x 10 < 2 ^ 31 by omega) c12
    subst hkn
    refine lv_iconst X.1 X.2.1 (v := 0) dX7_rightHolds_64 (by decide) ?_
    exact mr_zret X hT hret (by first | exact bI_nar _ | rfl | decide) (⟨_, rfl, by rw [hq0]; rfl, rfl⟩) (Nat.le_of_ble_eq_true rfl) (Nat.le_of_ble_eq_true rfl) dX7_rightHolds_65
  · skip
    have hkl := mm_stay hk (show ct x 10 < 2 ^ 31 by omega) c12
    obtain ⟨he1, hf1⟩ := hA.list ho (i := 4) (by decide) (show ct (x) 10 ≠ 0 from Nat.ne_of_gt (Nat.lt_of_le_of_lt (Nat.zero_le _) hkl))
    obtain ⟨o1, o2, -, o4⟩ := ho.2.2.2.1 4 (by decide)
    have h6 := hA.sameP (v := cg x 6 k) (hr6 k hkl).1 hj (show ct x 2 < 2 ^ 31 by omega)
    have h7 := hA.sameM (v := cg x 7 k) (hr6 k hkl).2 hm (show ct x 4 < 2 ^ 31 by omega)
    refine lv_aload_n X.1 X.2.1 dX7_rightHolds_15 rfl (lv_at hl 1 rfl) ?_
    refine mr_get X hT fl_RX7_25 (hA.gate) rfl dX7_rightHolds_16 ?_
    refine lv_iload X.1 X.2.1 dX7_rightHolds_19 (lv_at hl 0 rfl) ?_
    refine mr_g X hT (fun hT' => mr_runV X hT' cb_RX7_87 kw317 kw318 kw319 (j_get hfl he1 hf1 hkl o1 (by omega) (show w.2.2 4 k = some (b 10 k) from o4 k hkl)) (mr_cell X hT he1 rfl) rfl rfl hl.1 ⟨Nat.le_of_ble_eq_true rfl, Nat.le_of_ble_eq_true rfl⟩ (Nat.le_of_ble_eq_true rfl) dX7_rightHolds_21 ⟨Nat.le_of_ble_eq_true rfl, Nat.le_of_ble_eq_true rfl⟩) (fun v M1 H locs hp hT => ?_)
    obtain ⟨r, rfl, rfl, rfl⟩ := hp
    refine W.eq (g2 := F0 zm 24 ls (.ref _ :: _)) rfl ?_
    refine mr_cast X hT (hA.rig hkl) rfl kw343 dX7_rightHolds_24 ?_
    refine lv_astore X.1 X.2.1 dX7_rightHolds_27 hl (by decide) rfl (fun ls hl => ?_)
    refine lv_aload X.1 X.2.1 dX7_rightHolds_29 (lv_at hl 0 rfl) ?_
    refine mr_get X hT fl_RX7_291 (hA.rig hkl) rfl dX7_rightHolds_31 ?_
    refine lv_aload_n X.1 X.2.1 dX7_rightHolds_34 rfl (lv_at hl 3 rfl) ?_
    refine lv_acmp_ne X.1 X.2.1 (rx := some _) (ry := some _) (tgt := 58) dX7_rightHolds_35 (by decide) (fun c35 => ?_) (fun c35 => ?_)
    · skip
      have hq : q_hold1 x (nI j) (nI m) t k = false := by unfold q_hold1; rw [decide_eq_false (mt h6.mpr c35)]; rfl
      refine lv_iinc X.1 X.2.1 (k := 1) (v := nI (k + 1)) dX7_rightHolds_58 hl rfl (mm_inc k) (by decide) rfl (fun ls hl => ?_)
      refine lv_goto X.1 X.2.1 (tgt := 3) dX7_rightHolds_61 (by decide) ?_
      refine W.widen (k := 0) (n := 0) (Nat.le_of_ble_eq_true rfl) (Nat.le_of_ble_eq_true rfl) ?_
      exact ih (by omega) _ _ _ _ (⟨by rw [q_hold, hq0, hq]; rfl, rfl⟩) hT (lv_sub hl [0, 2, 3, 4, 5] rfl)
    · skip
      refine lv_aload X.1 X.2.1 dX7_rightHolds_38 (lv_at hl 0 rfl) ?_
      refine mr_get X hT fl_RX7_292 (hA.rig hkl) rfl dX7_rightHolds_40 ?_
      refine lv_aload_n X.1 X.2.1 dX7_rightHolds_43 rfl (lv_at hl 4 rfl) ?_
      refine lv_acmp_ne X.1 X.2.1 (rx := some _) (ry := some _) (tgt := 58) dX7_rightHolds_44 (by decide) (fun c44 => ?_) (fun c44 => ?_)
      · skip
        have hq : q_hold1 x (nI j) (nI m) t k = false := by unfold q_hold1; rw [decide_eq_true (h6.mp c35), decide_eq_false (mt h7.mpr c44)]; rfl
        refine lv_iinc X.1 X.2.1 (k := 1) (v := nI (k + 1)) dX7_rightHolds_58 hl rfl (mm_inc k) (by decide) rfl (fun ls hl => ?_)
        refine lv_goto X.1 X.2.1 (tgt := 3) dX7_rightHolds_61 (by decide) ?_
        refine W.widen (k := 0) (n := 0) (Nat.le_of_ble_eq_true rfl) (Nat.le_of_ble_eq_true rfl) ?_
        exact ih (by omega) _ _ _ _ (⟨by rw [q_hold, hq0, hq]; rfl, rfl⟩) hT (lv_sub hl [0, 2, 3, 4, 5] rfl)
      · skip
        refine lv_aload X.1 X.2.1 dX7_rightHolds_47 (lv_at hl 0 rfl) ?_
        refine lv_iload_n X.1 X.2.1 dX7_rightHolds_49 rfl (lv_at hl 5 rfl) ?_
        refine mr_g X hT (fun hT' => mr_runVN X hT' cn_RX7_293 kw346 kp7 kw348 (o_holdsAt hfl (hA.rig hkl)) (mr_cell X hT (hA.rig hkl) rfl) rfl rfl hl.1 ⟨Nat.le_of_ble_eq_true rfl, Nat.le_of_ble_eq_true rfl⟩ (Nat.le_of_ble_eq_true rfl) dX7_rightHolds_50 ⟨Nat.le_of_ble_eq_true rfl, Nat.le_of_ble_eq_true rfl⟩) (fun v M1 H locs hp hT => ?_)
        obtain ⟨r, rfl, rfl, rfl⟩ := hp
        refine W.eq (g2 := F0 zm 53 ls (.int _ :: _)) rfl ?_
        refine lv_if_eq X.1 X.2.1 (tgt := 58) dX7_rightHolds_53 (by decide) (fun c53 => ?_) (fun c53 => ?_)
        · skip
          have hq : q_hold1 x (nI j) (nI m) t k = false := by unfold q_hold1; rw [decide_eq_true (h6.mp c35), decide_eq_true (h7.mp c44)]; exact bI_0.mp c53
          refine lv_iinc X.1 X.2.1 (k := 1) (v := nI (k + 1)) dX7_rightHolds_58 hl rfl (mm_inc k) (by decide) rfl (fun ls hl => ?_)
          refine lv_goto X.1 X.2.1 (tgt := 3) dX7_rightHolds_61 (by decide) ?_
          refine W.widen (k := 0) (n := 0) (Nat.le_of_ble_eq_true rfl) (Nat.le_of_ble_eq_true rfl) ?_
          exact ih (by omega) _ _ _ _ (⟨by rw [q_hold, hq0, hq]; rfl, rfl⟩) hT (lv_sub hl [0, 2, 3, 4, 5] rfl)
        · skip
          have hq : q_hold1 x (nI j) (nI m) t k = true := by unfold q_hold1; rw [decide_eq_true (h6.mp c35), decide_eq_true (h7.mp c44)]; exact bI_n.mp c53
          refine lv_iconst X.1 X.2.1 (v := 1) dX7_rightHolds_56 (by decide) ?_
          exact mr_zret X hT hret (by first | exact bI_nar _ | rfl | decide) (⟨_, rfl, by rw [q_hold_t hq hkl]; rfl, rfl⟩) (Nat.le_of_ble_eq_true rfl) (Nat.le_of_ble_eq_true rfl) dX7_rightHolds_57

abbrev rm_X7_endRights : Room := { frames := 3, cells := 0, slots := 0, locals := 64 }
set_option maxHeartbeats 4000000 in
set_option maxRecDepth 100000 in
theorem c_endRights {l : Launch} (hfl : l.stackTraces = false) {G : mw_G} {T : Nat} {b : c_B} {x : s_T} {w : c_W} {j m : Nat} {M : mw_M} (hA : CA G b x w M) (ho : c_ok T b x w) (hi : q_inv 512 x) (hj : j < ct x 2) (hm : m < ct x 4) : mw_Met l G yX7_endRights (.code yX7_endRights cX7_endRights 5 none) rm_X7_endRights [.ref (b 0 0), .ref (b 6 j), .ref (b 7 m)] M (mw_pv (fun M1 => CA G b (q_ends x (nI j) (nI m)) w M1)) := by
  refine mw_of hfl (by decide) (Nat.le_of_ble_eq_true rfl) ?_
  intro zp ze zs zm zb zh zc ls X hin hret hT hl
  have hl : lv_has ls 5 [(0, .ref (b 0 0)), (1, .ref (b 6 j)), (2, .ref (b 7 m))] := hl
  obtain ⟨⟨i2, i4, i5, i10, i17, i22, i29, i32⟩, hr3, hr6, hr11, hr18, hr23, hz21, hz28, hlb⟩ := id hi
  refine lv_iconst X.1 X.2.1 (v := 0) dX7_endRights_0 (by decide) ?_
  refine lv_istore_n X.1 X.2.1 dX7_endRights_1 rfl hl (by decide) rfl (fun ls hl => ?_)
  refine W.widen (k := 0) (n := 0) (Nat.le_of_ble_eq_true rfl) (Nat.le_of_ble_eq_true rfl) ?_
  refine mw_loop (nL := 5) (n := ct x 10) (fun k M1 => CA G b (cf x 9 (q_endf x (nI j) (nI m) k)) w M1) (fun k => [(3, .int (nI k)), (0, .ref (b 0 0)), (1, .ref (b 6 j)), (2, .ref (b 7 m))]) (fun k hk ih M1 H locs ls hM hT hl => ?_) (by rw [q_endf_0]; exact hA) hT (lv_sub hl [0, 1, 2, 3] rfl)
  have hA := hM
  have ho := ho.col (c := 9) (q_endf x (nI j) (nI m) k) (by decide)
  refine lv_iload_n X.1 X.2.1 dX7_endRights_2 rfl (lv_at hl 0 rfl) ?_
  refine lv_aload_n X.1 X.2.1 dX7_endRights_3 rfl (lv_at hl 1 rfl) ?_
  refine mr_get X hT fl_RX7_25 (hA.gate) rfl dX7_endRights_4 ?_
  refine mr_g X hT (fun hT' => mr_runV X hT' cb_RX7_52 kw196 kw197 kw198 (j_size hfl (hA.1 4 4 (show 4 < 6 by decide))) (mr_cell X hT (hA.1 4 4 (show 4 < 6 by decide)) rfl) rfl rfl hl.1 ⟨Nat.le_of_ble_eq_true rfl, Nat.le_of_ble_eq_true rfl⟩ (Nat.le_of_ble_eq_true rfl) dX7_endRights_7 ⟨Nat.le_of_ble_eq_true rfl, Nat.le_of_ble_eq_true rfl⟩) (fun v M1 H locs hp hT => ?_)
  obtain ⟨r, rfl, rfl, rfl⟩ := hp
  refine W.eq (g2 := F0 zm 10 ls (.int _ :: _)) rfl ?_
  refine mm_top (w := nI (ct x 10)) (rfl) ?_
  refine lv_icmp_ge X.1 X.2.1 (tgt := 71) dX7_endRights_10 (by decide) (fun c10 => ?_) (fun c10 => ?_)
  · skip
    have hkn := mm_exit hk (show ct x 10 < 2 ^ 31 by omega) c10
    subst hkn
    exact mr_vret X hT hret (⟨rfl, hM⟩) (Nat.le_of_ble_eq_true rfl) (Nat.le_of_ble_eq_true rfl) dX7_endRights_71
  · skip
    have hkl := mm_stay hk (show ct x 10 < 2 ^ 31 by omega) c10
    obtain ⟨he1, hf1⟩ := hA.list ho (i := 4) (by decide) (show ct (cf x 9 (q_endf x (nI j) (nI m) k)) 10 ≠ 0 from Nat.ne_of_gt (Nat.lt_of_le_of_lt (Nat.zero_le _) hkl))
    obtain ⟨o1, o2, -, o4⟩ := ho.2.2.2.1 4 (by decide)
    have h6 := hA.sameP (v := cg x 6 k) (hr6 k hkl).1 hj (show ct x 2 < 2 ^ 31 by omega)
    have h7 := hA.sameM (v := cg x 7 k) (hr6 k hkl).2 hm (show ct x 4 < 2 ^ 31 by omega)
    refine lv_aload_n X.1 X.2.1 dX7_endRights_13 rfl (lv_at hl 1 rfl) ?_
    refine mr_get X hT fl_RX7_25 (hA.gate) rfl dX7_endRights_14 ?_
    refine lv_iload_n X.1 X.2.1 dX7_endRights_17 rfl (lv_at hl 0 rfl) ?_
    refine mr_g X hT (fun hT' => mr_runV X hT' cb_RX7_87 kw317 kw318 kw319 (j_get hfl he1 hf1 hkl o1 (by omega) (show w.2.2 4 k = some (b 10 k) from o4 k hkl)) (mr_cell X hT he1 rfl) rfl rfl hl.1 ⟨Nat.le_of_ble_eq_true rfl, Nat.le_of_ble_eq_true rfl⟩ (Nat.le_of_ble_eq_true rfl) dX7_endRights_18 ⟨Nat.le_of_ble_eq_true rfl, Nat.le_of_ble_eq_true rfl⟩) (fun v M1 H locs hp hT => ?_)
    obtain ⟨r, rfl, rfl, rfl⟩ := hp
    refine W.eq (g2 := F0 zm 21 ls (.ref _ :: _)) rfl ?_
    refine mr_cast X hT (hA.rig hkl) rfl kw343 dX7_endRights_21 ?_
    refine lv_astore X.1 X.2.1 dX7_endRights_24 hl (by decide) rfl (fun ls hl => ?_)
    refine lv_aload X.1 X.2.1 dX7_endRights_26 (lv_at hl 0 rfl) ?_
    refine mr_get X hT fl_RX7_291 (hA.rig hkl) rfl dX7_endRights_28 ?_
    refine lv_aload_n X.1 X.2.1 dX7_endRights_31 rfl (lv_at hl 3 rfl) ?_
    refine lv_acmp_ne X.1 X.2.1 (rx := some _) (ry := some _) (tgt := 65) dX7_endRights_32 (by decide) (fun c32 => ?_) (fun c32 => ?_)
    · skip
      have hq : q_hold1 x (nI j) (nI m) (q_now x) k = false := by unfold q_hold1; rw [decide_eq_false (mt h6.mpr c32)]; rfl
      refine lv_iinc X.1 X.2.1 (k := 1) (v := nI (k + 1)) dX7_endRights_65 hl rfl (mm_inc k) (by decide) rfl (fun ls hl => ?_)
      refine lv_goto X.1 X.2.1 (tgt := 2) dX7_endRights_68 (by decide) ?_
      refine W.widen (k := 0) (n := 0) (Nat.le_of_ble_eq_true rfl) (Nat.le_of_ble_eq_true rfl) ?_
      first
        | exact ih (by omega) _ _ _ _ (by rw [q_endf_no hq]; exact hM) hT (lv_sub hl [0, 2, 3, 4] rfl)
        | exact ih (by omega) _ _ _ _ (by rw [← q_endf_s, q_endf_yes hq]; exact hM) hT (lv_sub hl [0, 2, 3, 4] rfl)
    · skip
      refine lv_aload X.1 X.2.1 dX7_endRights_35 (lv_at hl 0 rfl) ?_
      refine mr_get X hT fl_RX7_292 (hA.rig hkl) rfl dX7_endRights_37 ?_
      refine lv_aload_n X.1 X.2.1 dX7_endRights_40 rfl (lv_at hl 4 rfl) ?_
      refine lv_acmp_ne X.1 X.2.1 (rx := some _) (ry := some _) (tgt := 65) dX7_endRights_41 (by decide) (fun c41 => ?_) (fun c41 => ?_)
      · skip
        have hq : q_hold1 x (nI j) (nI m) (q_now x) k = false := by unfold q_hold1; rw [decide_eq_true (h6.mp c32), decide_eq_false (mt h7.mpr c41)]; rfl
        refine lv_iinc X.1 X.2.1 (k := 1) (v := nI (k + 1)) dX7_endRights_65 hl rfl (mm_inc k) (by decide) rfl (fun ls hl => ?_)
        refine lv_goto X.1 X.2.1 (tgt := 2) dX7_endRights_68 (by decide) ?_
        refine W.widen (k := 0) (n := 0) (Nat.le_of_ble_eq_true rfl) (Nat.le_of_ble_eq_true rfl) ?_
        first
          | exact ih (by omega) _ _ _ _ (by rw [q_endf_no hq]; exact hM) hT (lv_sub hl [0, 2, 3, 4] rfl)
          | exact ih (by omega) _ _ _ _ (by rw [← q_endf_s, q_endf_yes hq]; exact hM) hT (lv_sub hl [0, 2, 3, 4] rfl)
      · skip
        refine lv_aload X.1 X.2.1 dX7_endRights_44 (lv_at hl 0 rfl) ?_
        refine lv_aload_n X.1 X.2.1 dX7_endRights_46 rfl (lv_at hl 2 rfl) ?_
        refine mr_get X hT fl_RX7_42 (hA.gate) rfl dX7_endRights_47 ?_
        refine mr_g X hT (fun hT' => mr_runVN X hT' cn_RX7_293 kw346 kp7 kw348 (o_holdsAt hfl (hA.rig hkl)) (mr_cell X hT (hA.rig hkl) rfl) rfl rfl hl.1 ⟨Nat.le_of_ble_eq_true rfl, Nat.le_of_ble_eq_true rfl⟩ (Nat.le_of_ble_eq_true rfl) dX7_endRights_50 ⟨Nat.le_of_ble_eq_true rfl, Nat.le_of_ble_eq_true rfl⟩) (fun v M1 H locs hp hT => ?_)
        obtain ⟨r, rfl, rfl, rfl⟩ := hp
        refine W.eq (g2 := F0 zm 53 ls (.int _ :: _)) rfl ?_
        refine mm_top (w := bI (decide (cg x 8 k ≤ q_now x) && decide (q_now x < cg x 9 k))) (by rw [q_endf_k]; rfl) ?_
        refine lv_if_eq X.1 X.2.1 (tgt := 65) dX7_endRights_53 (by decide) (fun c53 => ?_) (fun c53 => ?_)
        · skip
          have hq : q_hold1 x (nI j) (nI m) (q_now x) k = false := by unfold q_hold1; rw [decide_eq_true (h6.mp c32), decide_eq_true (h7.mp c41)]; exact bI_0.mp c53
          refine lv_iinc X.1 X.2.1 (k := 1) (v := nI (k + 1)) dX7_endRights_65 hl rfl (mm_inc k) (by decide) rfl (fun ls hl => ?_)
          refine lv_goto X.1 X.2.1 (tgt := 2) dX7_endRights_68 (by decide) ?_
          refine W.widen (k := 0) (n := 0) (Nat.le_of_ble_eq_true rfl) (Nat.le_of_ble_eq_true rfl) ?_
          first
            | exact ih (by omega) _ _ _ _ (by rw [q_endf_no hq]; exact hM) hT (lv_sub hl [0, 2, 3, 4] rfl)
            | exact ih (by omega) _ _ _ _ (by rw [← q_endf_s, q_endf_yes hq]; exact hM) hT (lv_sub hl [0, 2, 3, 4] rfl)
        · skip
          have hq : q_hold1 x (nI j) (nI m) (q_now x) k = true := by unfold q_hold1; rw [decide_eq_true (h6.mp c32), decide_eq_true (h7.mp c41)]; exact bI_n.mp c53
          refine lv_aload X.1 X.2.1 dX7_endRights_56 (lv_at hl 0 rfl) ?_
          refine lv_aload_n X.1 X.2.1 dX7_endRights_58 rfl (lv_at hl 2 rfl) ?_
          refine mr_get X hT fl_RX7_42 (hA.gate) rfl dX7_endRights_59 ?_
          refine mr_put X hT fp_RX7_296 (fun h => nomatch h) (hA.rig hkl) rfl rfl (by simp) dX7_endRights_62 (fun H locs hT => ?_)
          have hM := hA.setEnd hkl (q_now x)
          refine lv_iinc X.1 X.2.1 (k := 1) (v := nI (k + 1)) dX7_endRights_65 hl rfl (mm_inc k) (by decide) rfl (fun ls hl => ?_)
          refine lv_goto X.1 X.2.1 (tgt := 2) dX7_endRights_68 (by decide) ?_
          refine W.widen (k := 0) (n := 0) (Nat.le_of_ble_eq_true rfl) (Nat.le_of_ble_eq_true rfl) ?_
          first
            | exact ih (by omega) _ _ _ _ (by rw [q_endf_no hq]; exact hM) hT (lv_sub hl [0, 2, 3, 4] rfl)
            | exact ih (by omega) _ _ _ _ (by rw [← q_endf_s, q_endf_yes hq]; exact hM) hT (lv_sub hl [0, 2, 3, 4] rfl)

abbrev rm_X7_denyWaitingAsks : Room := { frames := 3, cells := 0, slots := 0, locals := 64 }
set_option maxHeartbeats 4000000 in
set_option maxRecDepth 100000 in
theorem c_denyWaitingAsks {l : Launch} (hfl : l.stackTraces = false) {G : mw_G} {T : Nat} {b : c_B} {x : s_T} {w : c_W} {j m : Nat} {M : mw_M} (hA : CA G b x w M) (ho : c_ok T b x w) (hi : q_inv 512 x) (hj : j < ct x 2) (hm : m < ct x 4) (hT5 : T = ct x 5) : mw_Met l G yX7_denyWaitingAsks (.code yX7_denyWaitingAsks cX7_denyWaitingAsks 5 none) rm_X7_denyWaitingAsks [.ref (b 0 0), .ref (b 6 j), .ref (b 7 m)] M (mw_pv (fun M1 => CW G T b (q_denies x (nI j) (nI m)) M1)) := by
  refine mw_of hfl (by decide) (Nat.le_of_ble_eq_true rfl) ?_
  intro zp ze zs zm zb zh zc ls X hin hret hT hl
  have hl : lv_has ls 5 [(0, .ref (b 0 0)), (1, .ref (b 6 j)), (2, .ref (b 7 m))] := hl
  obtain ⟨⟨i2, i4, i5, i10, i17, i22, i29, i32⟩, hr3, hr6, hr11, hr18, hr23, hz21, hz28, hlb⟩ := id hi
  refine lv_iconst X.1 X.2.1 (v := 0) dX7_denyWaitingAsks_0 (by decide) ?_
  refine lv_istore_n X.1 X.2.1 dX7_denyWaitingAsks_1 rfl hl (by decide) rfl (fun ls hl => ?_)
  refine W.widen (k := 0) (n := 0) (Nat.le_of_ble_eq_true rfl) (Nat.le_of_ble_eq_true rfl) ?_
  refine mw_loop (nL := 5) (n := ct x 17) (fun k M1 => CW G T b (cf x 15 (q_denyf x (nI j) (nI m) k)) M1) (fun k => [(3, .int (nI k)), (0, .ref (b 0 0)), (1, .ref (b 6 j)), (2, .ref (b 7 m))]) (fun k hk ih M1 H locs ls hM hT hl => ?_) (by rw [q_denyf_0]; exact ⟨w, hA, ho⟩) hT (lv_sub hl [0, 1, 2, 3] rfl)
  obtain ⟨w1, hA, ho⟩ := id hM
  refine lv_iload_n X.1 X.2.1 dX7_denyWaitingAsks_2 rfl (lv_at hl 0 rfl) ?_
  refine lv_aload_n X.1 X.2.1 dX7_denyWaitingAsks_3 rfl (lv_at hl 1 rfl) ?_
  refine mr_get X hT fl_RX7_19 (hA.gate) rfl dX7_denyWaitingAsks_4 ?_
  refine mr_g X hT (fun hT' => mr_runV X hT' cb_RX7_52 kw196 kw197 kw198 (j_size hfl (hA.1 4 2 (show 2 < 6 by decide))) (mr_cell X hT (hA.1 4 2 (show 2 < 6 by decide)) rfl) rfl rfl hl.1 ⟨Nat.le_of_ble_eq_true rfl, Nat.le_of_ble_eq_true rfl⟩ (Nat.le_of_ble_eq_true rfl) dX7_denyWaitingAsks_7 ⟨Nat.le_of_ble_eq_true rfl, Nat.le_of_ble_eq_true rfl⟩) (fun v M1 H locs hp hT => ?_)
  obtain ⟨r, rfl, rfl, rfl⟩ := hp
  refine W.eq (g2 := F0 zm 10 ls (.int _ :: _)) rfl ?_
  refine mm_top (w := nI (ct x 17)) (rfl) ?_
  refine lv_icmp_ge X.1 X.2.1 (tgt := 68) dX7_denyWaitingAsks_10 (by decide) (fun c10 => ?_) (fun c10 => ?_)
  · skip
    have hkn := mm_exit hk (show ct x 17 < 2 ^ 31 by omega) c10
    subst hkn
    exact mr_vret X hT hret (⟨rfl, hM⟩) (Nat.le_of_ble_eq_true rfl) (Nat.le_of_ble_eq_true rfl) dX7_denyWaitingAsks_68
  · skip
    have hkl := mm_stay hk (show ct x 17 < 2 ^ 31 by omega) c10
    obtain ⟨he1, hf1⟩ := hA.list ho (i := 2) (by decide) (show ct (cf x 15 (q_denyf x (nI j) (nI m) k)) 17 ≠ 0 from Nat.ne_of_gt (Nat.lt_of_le_of_lt (Nat.zero_le _) hkl))
    obtain ⟨o1, o2, -, o4⟩ := ho.2.2.2.1 2 (by decide)
    have h6 := hA.sameP (v := cg x 11 k) (hr11 k hkl).1 hj (show ct x 2 < 2 ^ 31 by omega)
    have h7 := hA.sameM (v := cg x 12 k) (hr11 k hkl).2.1 hm (show ct x 4 < 2 ^ 31 by omega)
    refine lv_aload_n X.1 X.2.1 dX7_denyWaitingAsks_13 rfl (lv_at hl 1 rfl) ?_
    refine mr_get X hT fl_RX7_19 (hA.gate) rfl dX7_denyWaitingAsks_14 ?_
    refine lv_iload_n X.1 X.2.1 dX7_denyWaitingAsks_17 rfl (lv_at hl 0 rfl) ?_
    refine mr_g X hT (fun hT' => mr_runV X hT' cb_RX7_87 kw317 kw318 kw319 (j_get hfl he1 hf1 hkl o1 (by omega) (show w1.2.2 2 k = some (b 8 k) from o4 k hkl)) (mr_cell X hT he1 rfl) rfl rfl hl.1 ⟨Nat.le_of_ble_eq_true rfl, Nat.le_of_ble_eq_true rfl⟩ (Nat.le_of_ble_eq_true rfl) dX7_denyWaitingAsks_18 ⟨Nat.le_of_ble_eq_true rfl, Nat.le_of_ble_eq_true rfl⟩) (fun v M1 H locs hp hT => ?_)
    obtain ⟨r, rfl, rfl, rfl⟩ := hp
    refine W.eq (g2 := F0 zm 21 ls (.ref _ :: _)) rfl ?_
    refine mr_cast X hT (hA.ask hkl) rfl kw353 dX7_denyWaitingAsks_21 ?_
    refine lv_astore X.1 X.2.1 dX7_denyWaitingAsks_24 hl (by decide) rfl (fun ls hl => ?_)
    refine lv_aload X.1 X.2.1 dX7_denyWaitingAsks_26 (lv_at hl 0 rfl) ?_
    refine mr_get X hT fl_RX7_147 (hA.ask hkl) rfl dX7_denyWaitingAsks_28 ?_
    refine lv_aload_n X.1 X.2.1 dX7_denyWaitingAsks_31 rfl (lv_at hl 3 rfl) ?_
    refine lv_acmp_ne X.1 X.2.1 (rx := some _) (ry := some _) (tgt := 62) dX7_denyWaitingAsks_32 (by decide) (fun c32 => ?_) (fun c32 => ?_)
    · skip
      have hq : q_deny1 x (nI j) (nI m) k = false := by unfold q_deny1; rw [decide_eq_false (mt h6.mpr c32)]; rfl
      refine lv_iinc X.1 X.2.1 (k := 1) (v := nI (k + 1)) dX7_denyWaitingAsks_62 hl rfl (mm_inc k) (by decide) rfl (fun ls hl => ?_)
      refine lv_goto X.1 X.2.1 (tgt := 2) dX7_denyWaitingAsks_65 (by decide) ?_
      refine W.widen (k := 0) (n := 0) (Nat.le_of_ble_eq_true rfl) (Nat.le_of_ble_eq_true rfl) ?_
      first
        | exact ih (by omega) _ _ _ _ (by rw [q_denyf_no hq]; exact hM) hT (lv_sub hl [0, 2, 3, 4] rfl)
        | exact ih (by omega) _ _ _ _ (by rw [← q_denyf_s, q_denyf_yes hq]; exact ⟨_, hM, ho.deny k⟩) hT (lv_sub hl [0, 2, 3, 4] rfl)
    · skip
      refine lv_aload X.1 X.2.1 dX7_denyWaitingAsks_35 (lv_at hl 0 rfl) ?_
      refine mr_get X hT fl_RX7_138 (hA.ask hkl) rfl dX7_denyWaitingAsks_37 ?_
      refine lv_aload_n X.1 X.2.1 dX7_denyWaitingAsks_40 rfl (lv_at hl 4 rfl) ?_
      refine lv_acmp_ne X.1 X.2.1 (rx := some _) (ry := some _) (tgt := 62) dX7_denyWaitingAsks_41 (by decide) (fun c41 => ?_) (fun c41 => ?_)
      · skip
        have hq : q_deny1 x (nI j) (nI m) k = false := by unfold q_deny1; rw [decide_eq_true (h6.mp c32), decide_eq_false (mt h7.mpr c41)]; rfl
        refine lv_iinc X.1 X.2.1 (k := 1) (v := nI (k + 1)) dX7_denyWaitingAsks_62 hl rfl (mm_inc k) (by decide) rfl (fun ls hl => ?_)
        refine lv_goto X.1 X.2.1 (tgt := 2) dX7_denyWaitingAsks_65 (by decide) ?_
        refine W.widen (k := 0) (n := 0) (Nat.le_of_ble_eq_true rfl) (Nat.le_of_ble_eq_true rfl) ?_
        first
          | exact ih (by omega) _ _ _ _ (by rw [q_denyf_no hq]; exact hM) hT (lv_sub hl [0, 2, 3, 4] rfl)
          | exact ih (by omega) _ _ _ _ (by rw [← q_denyf_s, q_denyf_yes hq]; exact ⟨_, hM, ho.deny k⟩) hT (lv_sub hl [0, 2, 3, 4] rfl)
      · skip
        refine lv_aload X.1 X.2.1 dX7_denyWaitingAsks_44 (lv_at hl 0 rfl) ?_
        refine lv_aload_n X.1 X.2.1 dX7_denyWaitingAsks_46 rfl (lv_at hl 2 rfl) ?_
        refine mr_get X hT fl_RX7_42 (hA.gate) rfl dX7_denyWaitingAsks_47 ?_
        refine mr_g X hT (fun hT' => mr_runVN X hT' cn_RX7_154 kw356 kp9 kw358 (o_stateAt hfl (hA.ask hkl)) (mr_cell X hT (hA.ask hkl) rfl) rfl rfl hl.1 ⟨Nat.le_of_ble_eq_true rfl, Nat.le_of_ble_eq_true rfl⟩ (Nat.le_of_ble_eq_true rfl) dX7_denyWaitingAsks_50 ⟨Nat.le_of_ble_eq_true rfl, Nat.le_of_ble_eq_true rfl⟩) (fun v M1 H locs hp hT => ?_)
        obtain ⟨r, rfl, rfl, rfl⟩ := hp
        refine W.eq (g2 := F0 zm 53 ls (.int _ :: _)) rfl ?_
        refine mm_top (w := cg x 15 k) (by have h := ho.2.1 k hkl; rw [q_denyf_k, hT5] at h; exact h.symm) ?_
        refine lv_if_ne X.1 X.2.1 (tgt := 62) dX7_denyWaitingAsks_53 (by decide) (fun c53 => ?_) (fun c53 => ?_)
        · skip
          have hq : q_deny1 x (nI j) (nI m) k = false := by unfold q_deny1; rw [decide_eq_true (h6.mp c32), decide_eq_true (h7.mp c41), decide_eq_false c53]; rfl
          refine lv_iinc X.1 X.2.1 (k := 1) (v := nI (k + 1)) dX7_denyWaitingAsks_62 hl rfl (mm_inc k) (by decide) rfl (fun ls hl => ?_)
          refine lv_goto X.1 X.2.1 (tgt := 2) dX7_denyWaitingAsks_65 (by decide) ?_
          refine W.widen (k := 0) (n := 0) (Nat.le_of_ble_eq_true rfl) (Nat.le_of_ble_eq_true rfl) ?_
          first
            | exact ih (by omega) _ _ _ _ (by rw [q_denyf_no hq]; exact hM) hT (lv_sub hl [0, 2, 3, 4] rfl)
            | exact ih (by omega) _ _ _ _ (by rw [← q_denyf_s, q_denyf_yes hq]; exact ⟨_, hM, ho.deny k⟩) hT (lv_sub hl [0, 2, 3, 4] rfl)
        · skip
          have hq : q_deny1 x (nI j) (nI m) k = true := by unfold q_deny1; rw [decide_eq_true (h6.mp c32), decide_eq_true (h7.mp c41), decide_eq_true c53]; rfl
          refine lv_aload X.1 X.2.1 dX7_denyWaitingAsks_56 (lv_at hl 0 rfl) ?_
          refine lv_iconst X.1 X.2.1 (v := 2) dX7_denyWaitingAsks_58 (by decide) ?_
          refine mr_put X hT fp_RX7_142 (fun h => nomatch h) (hA.ask hkl) rfl rfl (by simp) dX7_denyWaitingAsks_59 (fun H locs hT => ?_)
          have hM : CA G b (cs (cf x 15 (q_denyf x (nI j) (nI m) k)) 15 k 2) (cw w1 1 k 2) _ := (hA.setSt hkl 2).free (c := 15) _ (Or.inr (Or.inl rfl))
          refine lv_iinc X.1 X.2.1 (k := 1) (v := nI (k + 1)) dX7_denyWaitingAsks_62 hl rfl (mm_inc k) (by decide) rfl (fun ls hl => ?_)
          refine lv_goto X.1 X.2.1 (tgt := 2) dX7_denyWaitingAsks_65 (by decide) ?_
          refine W.widen (k := 0) (n := 0) (Nat.le_of_ble_eq_true rfl) (Nat.le_of_ble_eq_true rfl) ?_
          first
            | exact ih (by omega) _ _ _ _ (by rw [q_denyf_no hq]; exact hM) hT (lv_sub hl [0, 2, 3, 4] rfl)
            | exact ih (by omega) _ _ _ _ (by rw [← q_denyf_s, q_denyf_yes hq]; exact ⟨_, hM, ho.deny k⟩) hT (lv_sub hl [0, 2, 3, 4] rfl)

abbrev rm_X7_endSession : Room := { frames := 1, cells := 0, slots := 0, locals := 24 }
set_option maxHeartbeats 4000000 in
set_option maxRecDepth 100000 in
theorem c_endSession {l : Launch} (hfl : l.stackTraces = false) {G : mw_G} {T : Nat} {b : c_B} {x : s_T} {w : c_W} {k : Nat} {M : mw_M} (hA : CA G b x w M) (ho : c_ok T b x w) (hi : q_inv 512 x) (hk : k < ct x 29) (hne : cg x 25 k ≠ 0) : mw_Met l G yX7_endSession (.code yX7_endSession cX7_endSession 2 none) rm_X7_endSession [.ref (b 0 0), .ref (b 11 k)] M (mw_pv (fun M1 => CW G T b (q_shut x k) M1)) := by
  refine mw_of hfl (by decide) (Nat.le_of_ble_eq_true rfl) ?_
  intro zp ze zs zm zb zh zc ls X hin hret hT hl
  have hl : lv_has ls 2 [(0, .ref (b 0 0)), (1, .ref (b 11 k))] := hl
  obtain ⟨⟨i2, i4, i5, i10, i17, i22, i29, i32⟩, hr3, hr6, hr11, hr18, hr23, hz21, hz28, hlb⟩ := id hi
  obtain ⟨r23, r24⟩ := hr23 k hk
  have hop := q_shut_o x k hk hne
  have hu := c_pn r23 (show ct x 2 < 2 ^ 31 by omega)
  have hv := c_pn r24 (show ct x 4 < 2 ^ 31 by omega)
  refine lv_aload_n X.1 X.2.1 dX7_endSession_0 rfl (lv_at hl 1 rfl) ?_
  refine lv_iconst X.1 X.2.1 (v := 1) dX7_endSession_1 (by decide) ?_
  refine mr_put X hT fp_RX7_237 (fun h => nomatch h) (hA.ses hk) rfl rfl (by simp) dX7_endSession_2 (fun H locs hT => ?_)
  have hA := hA.shut hk
  refine lv_aload_n X.1 X.2.1 dX7_endSession_5 rfl (lv_at hl 0 rfl) ?_
  refine lv_dup X.1 X.2.1 dX7_endSession_6 rfl ?_
  refine mr_get X hT fl_RX7_38 (hA.gate) rfl dX7_endSession_7 ?_
  refine lv_iconst X.1 X.2.1 (v := 1) dX7_endSession_10 (by decide) ?_
  refine lv_isub X.1 X.2.1 dX7_endSession_11 ?_
  refine mm_top (w := nI (q_opn (cs (cs x 25 k 0) 27 k (-1)) (ct x 29))) (by rw [ho.2.2.2.2.1, ← hop]; exact nI_pred _) ?_
  refine mr_put X hT fp_RX7_38 (fun h => nomatch h) hA.gate rfl rfl (by simp) dX7_endSession_12 (fun H locs hT => ?_)
  have hA := hA.setOpen (nI (q_opn (cs (cs x 25 k 0) 27 k (-1)) (ct x 29)))
  have ho := ho.shut (k := k)
  refine lv_aload_n X.1 X.2.1 dX7_endSession_15 rfl (lv_at hl 0 rfl) ?_
  refine mr_get X hT fl_RX7_34 (hA.gate) rfl dX7_endSession_16 ?_
  refine lv_bipush X.1 X.2.1 (v := 6) dX7_endSession_19 (by decide) ?_
  refine lv_aload_n X.1 X.2.1 dX7_endSession_21 rfl (lv_at hl 1 rfl) ?_
  refine mr_get X hT fl_RX7_215 (hA.ses hk) rfl dX7_endSession_22 ?_
  refine lv_aload_n X.1 X.2.1 dX7_endSession_25 rfl (lv_at hl 1 rfl) ?_
  refine mr_get X hT fl_RX7_216 (hA.ses hk) rfl dX7_endSession_26 ?_
  refine lv_aload_n X.1 X.2.1 dX7_endSession_29 rfl (lv_at hl 0 rfl) ?_
  refine mr_get X hT fl_RX7_42 (hA.gate) rfl dX7_endSession_30 ?_
  refine mr_g X hT (fun hT' => mr_runVN X hT' cn_RX7_121 kw379 kp14 kw380 (o_record hfl hA.rec hA.kin hA.sea (hA.ne (s := 2) (k := 0) (s' := 3) (k' := 0) rfl rfl (Or.inl (by decide))) (show ct x 32 < 1024 by omega) (hA.per (by exact hu.1)) (hA.mac (by exact hv.1))) (mr_cell X hT hA.rec rfl) rfl rfl hl.1 ⟨Nat.le_of_ble_eq_true rfl, Nat.le_of_ble_eq_true rfl⟩ (Nat.le_of_ble_eq_true rfl) dX7_endSession_33 ⟨Nat.le_of_ble_eq_true rfl, Nat.le_of_ble_eq_true rfl⟩) (fun v M1 H locs hp hT => ?_)
  obtain ⟨rfl, hq⟩ := hp
  refine W.eq (g2 := F0 zm 36 ls _) rfl ?_
  have hM := hA.step ho (c_seal (kd := 6) ho r23 r24 (by omega) (by omega)) hq
  exact mr_vret X hT hret (⟨rfl, hM⟩) (Nat.le_of_ble_eq_true rfl) (Nat.le_of_ble_eq_true rfl) dX7_endSession_36

abbrev rm_X7_closeEndedSessions : Room := { frames := 4, cells := 0, slots := 0, locals := 89 }
set_option maxHeartbeats 4000000 in
set_option maxRecDepth 100000 in
theorem c_closeEnded {l : Launch} (hfl : l.stackTraces = false) {G : mw_G} {T : Nat} {b : c_B} {x : s_T} {w : c_W} {M : mw_M} (hA : CA G b x w M) (ho : c_ok T b x w) (hi : q_inv 512 x) : mw_Met l G yX7_closeEndedSessions (.code yX7_closeEndedSessions cX7_closeEndedSessions 4 (some .int)) rm_X7_closeEndedSessions [.ref (b 0 0)] M (mw_pi (fun r M1 => r = (q_closes x (-1)).2 ∧ CW G T b (q_closes x (-1)).1 M1)) := by
  refine mw_of hfl (by decide) (Nat.le_of_ble_eq_true rfl) ?_
  intro zp ze zs zm zb zh zc ls X hin hret hT hl
  have hl : lv_has ls 4 [(0, .ref (b 0 0))] := hl
  obtain ⟨⟨i2, i4, i5, i10, i17, i22, i29, i32⟩, hr3, hr6, hr11, hr18, hr23, hz21, hz28, hlb⟩ := id hi
  refine lv_iconst X.1 X.2.1 (v := 0) dX7_closeEndedSessions_0 (by decide) ?_
  refine lv_istore_n X.1 X.2.1 dX7_closeEndedSessions_1 rfl hl (by decide) rfl (fun ls hl => ?_)
  refine lv_iconst X.1 X.2.1 (v := 0) dX7_closeEndedSessions_2 (by decide) ?_
  refine lv_istore_n X.1 X.2.1 dX7_closeEndedSessions_3 rfl hl (by decide) rfl (fun ls hl => ?_)
  refine W.widen (k := 0) (n := 0) (Nat.le_of_ble_eq_true rfl) (Nat.le_of_ble_eq_true rfl) ?_
  refine mw_loop (nL := 4) (n := ct x 29) (fun k M1 => CW G T b (q_close x (-1) k).1 M1) (fun k => [(2, .int (nI k)), (1, .int (q_close x (-1) k).2), (0, .ref (b 0 0))]) (fun k hk ih M1 H locs ls hM hT hl => ?_) ⟨w, hA, ho⟩ hT (lv_sub hl [0, 1, 2] rfl)
  obtain ⟨w1, hA, ho⟩ := id hM
  have hal := q_al_close x (-1) k
  have hiy := q_inv_close hi (-1) k hk
  obtain ⟨y, ey⟩ : ∃ y, y = (q_close x (-1) k).1 := ⟨_, rfl⟩
  rw [← ey] at hM hA ho hal hiy
  have e29 : ct y 29 = ct x 29 := hal.1 29 (by decide)
  obtain ⟨⟨j2, j4, j5, j10, j17, j22, j29, j32⟩, -, -, -, -, hs23, -⟩ := id hiy
  refine lv_iload_n X.1 X.2.1 dX7_closeEndedSessions_4 rfl (lv_at hl 0 rfl) ?_
  refine lv_aload_n X.1 X.2.1 dX7_closeEndedSessions_5 rfl (lv_at hl 2 rfl) ?_
  refine mr_get X hT fl_RX7_28 (hA.gate) rfl dX7_closeEndedSessions_6 ?_
  refine mr_g X hT (fun hT' => mr_runV X hT' cb_RX7_52 kw196 kw197 kw198 (j_size hfl (hA.1 4 5 (show 5 < 6 by decide))) (mr_cell X hT (hA.1 4 5 (show 5 < 6 by decide)) rfl) rfl rfl hl.1 ⟨Nat.le_of_ble_eq_true rfl, Nat.le_of_ble_eq_true rfl⟩ (Nat.le_of_ble_eq_true rfl) dX7_closeEndedSessions_9 ⟨Nat.le_of_ble_eq_true rfl, Nat.le_of_ble_eq_true rfl⟩) (fun v M1 H locs hp hT => ?_)
  obtain ⟨r, rfl, rfl, rfl⟩ := hp
  refine W.eq (g2 := F0 zm 12 ls (.int _ :: _)) rfl ?_
  refine mm_top (w := nI (ct y 29)) (rfl) ?_
  refine lv_icmp_ge X.1 X.2.1 (tgt := 78) dX7_closeEndedSessions_12 (by decide) (fun c12 => ?_) (fun c12 => ?_)
  · skip
    have hkn := mm_exit hk (show ct x 29 < 2 ^ 31 by omega) (e29 ▸ c12)
    subst hkn
    refine lv_iload_n X.1 X.2.1 dX7_closeEndedSessions_78 rfl (lv_at hl 1 rfl) ?_
    exact mr_iret X hT hret (⟨_, rfl, rfl, by show CW G T b (q_close x (-1) (ct x 29)).1 _; rw [← ey]; exact hM⟩) (Nat.le_of_ble_eq_true rfl) (Nat.le_of_ble_eq_true rfl) dX7_closeEndedSessions_79
  · skip
    have hkl := mm_stay (n := ct y 29) (e29 ▸ hk) (show ct y 29 < 2 ^ 31 by omega) c12
    obtain ⟨he1, hf1⟩ := hA.list ho (i := 5) (by decide) (show ct (y) 29 ≠ 0 from Nat.ne_of_gt (Nat.lt_of_le_of_lt (Nat.zero_le _) hkl))
    obtain ⟨o1, o2, -, o4⟩ := ho.2.2.2.1 5 (by decide)
    obtain ⟨r23, r24⟩ := hs23 k hkl
    have hu := c_pn r23 (show ct y 2 < 2 ^ 31 by omega)
    have hv := c_pn r24 (show ct y 4 < 2 ^ 31 by omega)
    refine lv_aload_n X.1 X.2.1 dX7_closeEndedSessions_15 rfl (lv_at hl 2 rfl) ?_
    refine mr_get X hT fl_RX7_28 (hA.gate) rfl dX7_closeEndedSessions_16 ?_
    refine lv_iload_n X.1 X.2.1 dX7_closeEndedSessions_19 rfl (lv_at hl 0 rfl) ?_
    refine mr_g X hT (fun hT' => mr_runV X hT' cb_RX7_87 kw317 kw318 kw319 (j_get hfl he1 hf1 hkl o1 (by omega) (show w1.2.2 5 k = some (b 11 k) from o4 k hkl)) (mr_cell X hT he1 rfl) rfl rfl hl.1 ⟨Nat.le_of_ble_eq_true rfl, Nat.le_of_ble_eq_true rfl⟩ (Nat.le_of_ble_eq_true rfl) dX7_closeEndedSessions_20 ⟨Nat.le_of_ble_eq_true rfl, Nat.le_of_ble_eq_true rfl⟩) (fun v M1 H locs hp hT => ?_)
    obtain ⟨r, rfl, rfl, rfl⟩ := hp
    refine W.eq (g2 := F0 zm 23 ls (.ref _ :: _)) rfl ?_
    refine mr_cast X hT (hA.ses hkl) rfl kw363 dX7_closeEndedSessions_23 ?_
    refine lv_astore_n X.1 X.2.1 dX7_closeEndedSessions_26 rfl hl (by decide) rfl (fun ls hl => ?_)
    refine lv_aload_n X.1 X.2.1 dX7_closeEndedSessions_27 rfl (lv_at hl 0 rfl) ?_
    refine mr_get X hT fl_RX7_237 (hA.ses hkl) rfl dX7_closeEndedSessions_28 ?_
    refine lv_if_ne X.1 X.2.1 (tgt := 72) dX7_closeEndedSessions_31 (by decide) (fun c31 => ?_) (fun c31 => ?_)
    · skip
      have hq : q_end1 y (-1) k = false := by unfold q_end1; simp [of_decide_eq_true (bI_n.mp c31)]
      refine lv_iinc X.1 X.2.1 (k := 1) (v := nI (k + 1)) dX7_closeEndedSessions_72 hl rfl (mm_inc k) (by decide) rfl (fun ls hl => ?_)
      refine lv_goto X.1 X.2.1 (tgt := 4) dX7_closeEndedSessions_75 (by decide) ?_
      refine W.widen (k := 0) (n := 0) (Nat.le_of_ble_eq_true rfl) (Nat.le_of_ble_eq_true rfl) ?_
      first
        | exact ih (by omega) _ _ _ _ (by rw [q_close_t (ey ▸ hq), ← ey]; exact hM) hT (by rw [q_close_t (ey ▸ hq)]; exact lv_sub hl [0, 2, 3] rfl)
        | exact ih (by omega) _ _ _ _ (by rw [q_close_f (ey ▸ hq), ← ey]; exact hM) hT (by rw [q_close_f (ey ▸ hq)]; exact lv_sub hl [0, 2, 3] rfl)
    · skip
      have hop : cg y 25 k ≠ 0 := of_decide_eq_false (bI_0.mp c31)
      obtain ⟨M2, rfl⟩ : ∃ M2 : mw_M, M2 = M1 := ⟨_, rfl⟩
      refine mw_joinN hT 64 0 0 (fun M1 => q_end1 y (-1) k = true ∧ M2 = M1) (fun M1 H locs hp hT => ?_) (fun J64 => ?_)
      · obtain ⟨hq, rfl⟩ := hp
        refine lv_aload_n X.1 X.2.1 dX7_closeEndedSessions_64 rfl (lv_at hl 3 rfl) ?_
        refine lv_aload_n X.1 X.2.1 dX7_closeEndedSessions_65 rfl (lv_at hl 0 rfl) ?_
        refine mr_g X hT (fun hT' => mr_runV X hT' cb_RX7_234 kw375 kp13 kw376 (c_endSession hfl hA ho hiy hkl hop) (mr_cell X hT hA.gate rfl) rfl rfl hl.1 ⟨Nat.le_of_ble_eq_true rfl, Nat.le_of_ble_eq_true rfl⟩ (Nat.le_of_ble_eq_true rfl) dX7_closeEndedSessions_66 ⟨Nat.le_of_ble_eq_true rfl, Nat.le_of_ble_eq_true rfl⟩) (fun v M1 H locs hp hT => ?_)
        obtain ⟨rfl, hM⟩ := hp
        refine W.eq (g2 := F0 zm 69 ls _) rfl ?_
        refine lv_iinc X.1 X.2.1 (k := 2) (v := (q_close x (-1) k).2 + 1) dX7_closeEndedSessions_69 hl rfl (rfl) (by decide) rfl (fun ls hl => ?_)
        refine lv_iinc X.1 X.2.1 (k := 2) (v := nI (k + 1)) dX7_closeEndedSessions_72 hl rfl (mm_inc k) (by decide) rfl (fun ls hl => ?_)
        refine lv_goto X.1 X.2.1 (tgt := 4) dX7_closeEndedSessions_75 (by decide) ?_
        refine W.widen (k := 0) (n := 0) (Nat.le_of_ble_eq_true rfl) (Nat.le_of_ble_eq_true rfl) ?_
        first
          | exact ih (by omega) _ _ _ _ (by rw [q_close_t (ey ▸ hq), ← ey]; exact hM) hT (by rw [q_close_t (ey ▸ hq)]; exact lv_sub hl [0, 1, 3] rfl)
          | exact ih (by omega) _ _ _ _ (by rw [q_close_f (ey ▸ hq), ← ey]; exact hM) hT (by rw [q_close_f (ey ▸ hq)]; exact lv_sub hl [0, 1, 3] rfl)
      · skip
        refine lv_aload_n X.1 X.2.1 dX7_closeEndedSessions_34 rfl (lv_at hl 0 rfl) ?_
        refine lv_aload_n X.1 X.2.1 dX7_closeEndedSessions_35 rfl (lv_at hl 3 rfl) ?_
        refine mr_get X hT fl_RX7_42 (hA.gate) rfl dX7_closeEndedSessions_36 ?_
        refine mr_g X hT (fun hT' => mr_runVN X hT' cn_RX7_299 kw366 kp11 kw368 (o_restsAt hfl (hA.ses hkl)) (mr_cell X hT (hA.ses hkl) rfl) rfl rfl hl.1 ⟨Nat.le_of_ble_eq_true rfl, Nat.le_of_ble_eq_true rfl⟩ (Nat.le_of_ble_eq_true rfl) dX7_closeEndedSessions_39 ⟨Nat.le_of_ble_eq_true rfl, Nat.le_of_ble_eq_true rfl⟩) (fun v M1 H locs hp hT => ?_)
        obtain ⟨r, rfl, rfl, rfl⟩ := hp
        refine W.eq (g2 := F0 zm 42 ls (.int _ :: _)) rfl ?_
        refine lv_if_ne X.1 X.2.1 (tgt := 64) dX7_closeEndedSessions_42 (by decide) (fun c42 => ?_) (fun c42 => ?_)
        · skip
          refine W.widen (k := 0) (n := 0) (Nat.le_of_ble_eq_true rfl) (Nat.le_of_ble_eq_true rfl) ?_
          exact J64 _ _ _ (⟨by unfold q_end1; first | (simp [hop, bI_n.mp c42]; done) | (simp [hop, bI_0.mp c61]; done), rfl⟩) hT
        · skip
          refine lv_aload_n X.1 X.2.1 dX7_closeEndedSessions_45 rfl (lv_at hl 3 rfl) ?_
          refine lv_aload_n X.1 X.2.1 dX7_closeEndedSessions_46 rfl (lv_at hl 0 rfl) ?_
          refine mr_get X hT fl_RX7_215 (hA.ses hkl) rfl dX7_closeEndedSessions_47 ?_
          refine lv_aload_n X.1 X.2.1 dX7_closeEndedSessions_50 rfl (lv_at hl 0 rfl) ?_
          refine mr_get X hT fl_RX7_216 (hA.ses hkl) rfl dX7_closeEndedSessions_51 ?_
          refine lv_aload_n X.1 X.2.1 dX7_closeEndedSessions_54 rfl (lv_at hl 3 rfl) ?_
          refine mr_get X hT fl_RX7_42 (hA.gate) rfl dX7_closeEndedSessions_55 ?_
          refine mr_g X hT (fun hT' => mr_runV X hT' cb_RX7_190 kw371 kp12 kw372 (c_rightHolds hfl hA ho hiy hu.1 hv.1) (mr_cell X hT hA.gate rfl) rfl rfl hl.1 ⟨Nat.le_of_ble_eq_true rfl, Nat.le_of_ble_eq_true rfl⟩ (Nat.le_of_ble_eq_true rfl) dX7_closeEndedSessions_58 ⟨Nat.le_of_ble_eq_true rfl, Nat.le_of_ble_eq_true rfl⟩) (fun v M1 H locs hp hT => ?_)
          obtain ⟨r, rfl, rfl, rfl⟩ := hp
          refine W.eq (g2 := F0 zm 61 ls (.int _ :: _)) rfl ?_
          refine mm_top (w := bI (q_hold y (cg y 23 k) (cg y 24 k) (q_now y) (ct y 10))) (by rw [hu.2, hv.2]) ?_
          refine lv_if_ne X.1 X.2.1 (tgt := 72) dX7_closeEndedSessions_61 (by decide) (fun c61 => ?_) (fun c61 => ?_)
          · skip
            have hq : q_end1 y (-1) k = false := by unfold q_end1; rw [decide_eq_false (c_neg1 (show k < 2 ^ 31 by omega)), bI_0.mp c42, bI_n.mp c61]; simp
            refine lv_iinc X.1 X.2.1 (k := 1) (v := nI (k + 1)) dX7_closeEndedSessions_72 hl rfl (mm_inc k) (by decide) rfl (fun ls hl => ?_)
            refine lv_goto X.1 X.2.1 (tgt := 4) dX7_closeEndedSessions_75 (by decide) ?_
            refine W.widen (k := 0) (n := 0) (Nat.le_of_ble_eq_true rfl) (Nat.le_of_ble_eq_true rfl) ?_
            first
              | exact ih (by omega) _ _ _ _ (by rw [q_close_t (ey ▸ hq), ← ey]; exact hM) hT (by rw [q_close_t (ey ▸ hq)]; exact lv_sub hl [0, 2, 3] rfl)
              | exact ih (by omega) _ _ _ _ (by rw [q_close_f (ey ▸ hq), ← ey]; exact hM) hT (by rw [q_close_f (ey ▸ hq)]; exact lv_sub hl [0, 2, 3] rfl)
          · skip
            refine W.widen (k := 0) (n := 0) (Nat.le_of_ble_eq_true rfl) (Nat.le_of_ble_eq_true rfl) ?_
            exact J64 _ _ _ (⟨by unfold q_end1; first | (simp [hop, bI_n.mp c42]; done) | (simp [hop, bI_0.mp c61]; done), rfl⟩) hT

abbrev rm_X7_requireMayAskOrEnter : Room := { frames := 6, cells := 1, slots := 6, locals := 100 }
set_option maxHeartbeats 4000000 in
set_option maxRecDepth 100000 in
theorem c_requireMay {l : Launch} (hfl : l.stackTraces = false) {G : mw_G} {T : Nat} {b : c_B} {x : s_T} {w : c_W} {j m : Nat} {M : mw_M} (hA : CA G b x w M) (ho : c_ok T b x w) (hi : q_inv 512 x) (hj : j < ct x 2) (hm : m < ct x 4) : mw_MetX l G yX7_requireMayAskOrEnter (.code yX7_requireMayAskOrEnter cX7_requireMayAskOrEnter 3 none) rm_X7_requireMayAskOrEnter [.ref (b 0 0), .ref (b 6 j), .ref (b 7 m)] M (mw_pv (fun M1 => q_can x (nI j) (nI m) = true ∧ M = M1)) (fun E => E = "java/lang/IllegalStateException" ∧ q_can x (nI j) (nI m) = false) := by
  refine mw_ofX hfl (by decide) (Nat.le_of_ble_eq_true rfl) ?_
  intro zp ze zs zm zb zh zc ls X hin hret hexc hT hl
  have hl : lv_has ls 3 [(0, .ref (b 0 0)), (1, .ref (b 6 j)), (2, .ref (b 7 m))] := hl
  obtain ⟨⟨i2, i4, i5, i10, i17, i22, i29, i32⟩, hr3, hr6, hr11, hr18, hr23, hz21, hz28, hlb⟩ := id hi
  obtain ⟨t, ht, et⟩ := hr3 m hm
  have hb : q_both x (nI j) (nI m) = true := by unfold q_both; rw [c_ixt hj (by omega), c_ixt hm (by omega)]; rfl
  refine lv_aload_n X.1 X.2.1 dX7_requireMayAskOrEnter_0 rfl (lv_at hl 1 rfl) ?_
  refine lv_aload_n X.1 X.2.1 dX7_requireMayAskOrEnter_1 rfl (lv_at hl 2 rfl) ?_
  refine mr_get X hT fl_RX7_91 (hA.mac hm) rfl dX7_requireMayAskOrEnter_2 ?_
  refine mm_top (w := nI t) (et) ?_
  refine mr_g X hT (fun hT' => mr_runVN X hT' cn_RX7_276 kw482 kp18 kw483 (o_hasLabel (l0 := t) hfl (hA.per hj)) (mr_cell X hT (hA.per hj) rfl) rfl rfl hl.1 ⟨Nat.le_of_ble_eq_true rfl, Nat.le_of_ble_eq_true rfl⟩ (Nat.le_of_ble_eq_true rfl) dX7_requireMayAskOrEnter_5 ⟨Nat.le_of_ble_eq_true rfl, Nat.le_of_ble_eq_true rfl⟩) (fun v M1 H locs hp hT => ?_)
  obtain ⟨r, rfl, rfl, rfl⟩ := hp
  refine W.eq (g2 := F0 zm 8 ls (.int _ :: _)) rfl ?_
  refine mm_top (w := bI (q_has x (nI j) (nI m))) (by rw [c_has ho hj ht et hlb (by omega) (by omega)]) ?_
  refine lv_if_ne X.1 X.2.1 (tgt := 22) dX7_requireMayAskOrEnter_8 (by decide) (fun c8 => ?_) (fun c8 => ?_)
  · skip
    refine lv_aload_n X.1 X.2.1 dX7_requireMayAskOrEnter_22 rfl (lv_at hl 0 rfl) ?_
    refine lv_aload_n X.1 X.2.1 dX7_requireMayAskOrEnter_23 rfl (lv_at hl 1 rfl) ?_
    refine mr_g X hT (fun hT' => mr_runV X hT' cb_RX7_183 kw487 kp19 kw488 (c_countOverdue hfl hA ho hi hj) (mr_cell X hT hA.gate rfl) rfl rfl hl.1 ⟨Nat.le_of_ble_eq_true rfl, Nat.le_of_ble_eq_true rfl⟩ (Nat.le_of_ble_eq_true rfl) dX7_requireMayAskOrEnter_24 ⟨Nat.le_of_ble_eq_true rfl, Nat.le_of_ble_eq_true rfl⟩) (fun v M1 H locs hp hT => ?_)
    obtain ⟨r, rfl, rfl, rfl⟩ := hp
    refine W.eq (g2 := F0 zm 27 ls (.int _ :: _)) rfl ?_
    refine lv_if_le X.1 X.2.1 (tgt := 41) dX7_requireMayAskOrEnter_27 (by decide) (fun c27 => ?_) (fun c27 => ?_)
    · skip
      exact mr_vretX X hT hret (⟨rfl, by unfold q_can; rw [hb, bI_n.mp c8, decide_eq_true (q_over_le (show ct x 22 < 2 ^ 31 by omega) c27)]; rfl, rfl⟩) (Nat.le_of_ble_eq_true rfl) (Nat.le_of_ble_eq_true rfl) dX7_requireMayAskOrEnter_41
    · skip
      exact mr_throwW X hexc hT (text := "the person has an overdue entry") (is := 282) tx_56_60 (by decide) hl.1 (⟨rfl, by unfold q_can; rw [hb, bI_n.mp c8, decide_eq_false (q_over_gt c27)]; rfl⟩) dX7_requireMayAskOrEnter_30 dX7_requireMayAskOrEnter_33 dX7_requireMayAskOrEnter_34 dX7_requireMayAskOrEnter_37 dX7_requireMayAskOrEnter_40 (Nat.le_of_ble_eq_true rfl) (Nat.le_of_ble_eq_true rfl) (Nat.le_of_ble_eq_true rfl) (Nat.le_of_ble_eq_true rfl) (Nat.le_of_ble_eq_true rfl) (Nat.le_of_ble_eq_true rfl)
  · skip
    exact mr_throwW X hexc hT (text := "the person does not have the label of the machine") (is := 280) tx_56_60 (by decide) hl.1 (⟨rfl, by unfold q_can; rw [hb, bI_0.mp c8]; rfl⟩) dX7_requireMayAskOrEnter_11 dX7_requireMayAskOrEnter_14 dX7_requireMayAskOrEnter_15 dX7_requireMayAskOrEnter_18 dX7_requireMayAskOrEnter_21 (Nat.le_of_ble_eq_true rfl) (Nat.le_of_ble_eq_true rfl) (Nat.le_of_ble_eq_true rfl) (Nat.le_of_ble_eq_true rfl) (Nat.le_of_ble_eq_true rfl) (Nat.le_of_ble_eq_true rfl)

abbrev rm_X7_requireMayJudge : Room := { frames := 6, cells := 1, slots := 6, locals := 100 }
set_option maxHeartbeats 4000000 in
set_option maxRecDepth 100000 in
theorem c_requireJudge {l : Launch} (hfl : l.stackTraces = false) {G : mw_G} {T : Nat} {b : c_B} {x : s_T} {w : c_W} {a j : Nat} {M : mw_M} (hA : CA G b x w M) (ho : c_ok T b x w) (hi : q_inv 512 x) (ha : a < ct x 17) (hj : j < ct x 2) (hT5 : T = ct x 5) : mw_MetX l G yX7_requireMayJudge (.code yX7_requireMayJudge cX7_requireMayJudge 3 none) rm_X7_requireMayJudge [.ref (b 0 0), .ref (b 8 a), .ref (b 6 j)] M (mw_pv (fun M1 => q_jud x (nI a) (nI j) = true ∧ M = M1)) (fun E => E = "java/lang/IllegalStateException" ∧ q_jud x (nI a) (nI j) = false) := by
  refine mw_ofX hfl (by decide) (Nat.le_of_ble_eq_true rfl) ?_
  intro zp ze zs zm zb zh zc ls X hin hret hexc hT hl
  have hl : lv_has ls 3 [(0, .ref (b 0 0)), (1, .ref (b 8 a)), (2, .ref (b 6 j))] := hl
  obtain ⟨⟨i2, i4, i5, i10, i17, i22, i29, i32⟩, hr3, hr6, hr11, hr18, hr23, hz21, hz28, hlb⟩ := id hi
  obtain ⟨⟨u, hu, eu⟩, ⟨v, hv, ev⟩, -, -⟩ := hr11 a ha
  obtain ⟨t, ht, et⟩ := hr3 v hv
  have pa : pn (nI a) = a := pn_nI (by omega)
  have pj : pn (nI j) = j := pn_nI (by omega)
  have pu : pn (nI u) = u := pn_nI (by omega)
  have pv : pn (nI v) = v := pn_nI (by omega)
  have hb : q_jud x (nI a) (nI j) = (decide (cg x 15 a = 0) && (decide (cg x 0 j ≠ cg x 0 u) && q_has x (nI j) (nI v))) := by unfold q_jud; rw [c_ixt ha (by omega), c_ixt hj (by omega), pa, pj, eu, ev, pu]; rfl
  have hmac := hA.mac hv
  rw [et] at hmac
  refine lv_aload_n X.1 X.2.1 dX7_requireMayJudge_0 rfl (lv_at hl 1 rfl) ?_
  refine lv_aload_n X.1 X.2.1 dX7_requireMayJudge_1 rfl (lv_at hl 0 rfl) ?_
  refine mr_get X hT fl_RX7_42 (hA.gate) rfl dX7_requireMayJudge_2 ?_
  refine mr_g X hT (fun hT' => mr_runVN X hT' cn_RX7_154 kw356 kp9 kw358 (o_stateAt hfl (hA.ask ha)) (mr_cell X hT (hA.ask ha) rfl) rfl rfl hl.1 ⟨Nat.le_of_ble_eq_true rfl, Nat.le_of_ble_eq_true rfl⟩ (Nat.le_of_ble_eq_true rfl) dX7_requireMayJudge_5 ⟨Nat.le_of_ble_eq_true rfl, Nat.le_of_ble_eq_true rfl⟩) (fun v M1 H locs hp hT => ?_)
  obtain ⟨r, rfl, rfl, rfl⟩ := hp
  refine W.eq (g2 := F0 zm 8 ls (.int _ :: _)) rfl ?_
  refine mm_top (w := cg x 15 a) (by have h := ho.2.1 a ha; rw [hT5] at h; exact h.symm) ?_
  refine lv_if_eq X.1 X.2.1 (tgt := 22) dX7_requireMayJudge_8 (by decide) (fun c8 => ?_) (fun c8 => ?_)
  · skip
    refine lv_aload_n X.1 X.2.1 dX7_requireMayJudge_22 rfl (lv_at hl 2 rfl) ?_
    refine lv_aload_n X.1 X.2.1 dX7_requireMayJudge_23 rfl (lv_at hl 1 rfl) ?_
    refine mr_get X hT fl_RX7_147 (hA.ask ha) rfl dX7_requireMayJudge_24 ?_
    refine W.eq (g2 := F0 zm 27 ls (.ref (b 6 u) :: _)) (by rw [eu, pu]) ?_
    refine lv_aload_n X.1 X.2.1 dX7_requireMayJudge_27 rfl (lv_at hl 1 rfl) ?_
    refine mr_get X hT fl_RX7_138 (hA.ask ha) rfl dX7_requireMayJudge_28 ?_
    refine W.eq (g2 := F0 zm 31 ls (.ref (b 7 v) :: _)) (by rw [ev, pv]) ?_
    refine mr_g X hT (fun hT' => mr_runVN X hT' cn_RX7_228 kw612 kp24 kw613 (o_mayJudge hfl (hA.per hj) (hA.per hu) hmac) (mr_cell X hT (hA.per hj) rfl) rfl rfl hl.1 ⟨Nat.le_of_ble_eq_true rfl, Nat.le_of_ble_eq_true rfl⟩ (Nat.le_of_ble_eq_true rfl) dX7_requireMayJudge_31 ⟨Nat.le_of_ble_eq_true rfl, Nat.le_of_ble_eq_true rfl⟩) (fun v M1 H locs hp hT => ?_)
    obtain ⟨r, rfl, rfl, rfl⟩ := hp
    refine W.eq (g2 := F0 zm 34 ls (.int _ :: _)) rfl ?_
    refine mm_top (w := bI (decide (cg x 0 j ≠ cg x 0 u) && q_has x (nI j) (nI v))) (by rw [c_has ho hj ht et hlb (by omega) (by omega)]) ?_
    refine lv_if_ne X.1 X.2.1 (tgt := 48) dX7_requireMayJudge_34 (by decide) (fun c34 => ?_) (fun c34 => ?_)
    · skip
      exact mr_vretX X hT hret (⟨rfl, by rw [hb, decide_eq_true c8, bI_n.mp c34]; rfl, rfl⟩) (Nat.le_of_ble_eq_true rfl) (Nat.le_of_ble_eq_true rfl) dX7_requireMayJudge_48
    · skip
      exact mr_throwW X hexc hT (text := "the person cannot approve the ask") (is := 286) tx_56_60 (by decide) hl.1 (⟨rfl, by rw [hb, decide_eq_true c8, bI_0.mp c34]; rfl⟩) dX7_requireMayJudge_37 dX7_requireMayJudge_40 dX7_requireMayJudge_41 dX7_requireMayJudge_44 dX7_requireMayJudge_47 (Nat.le_of_ble_eq_true rfl) (Nat.le_of_ble_eq_true rfl) (Nat.le_of_ble_eq_true rfl) (Nat.le_of_ble_eq_true rfl) (Nat.le_of_ble_eq_true rfl) (Nat.le_of_ble_eq_true rfl)
  · skip
    exact mr_throwW X hexc hT (text := "the ask does not wait") (is := 284) tx_56_60 (by decide) hl.1 (⟨rfl, by rw [hb, decide_eq_false c8]; rfl⟩) dX7_requireMayJudge_11 dX7_requireMayJudge_14 dX7_requireMayJudge_15 dX7_requireMayJudge_18 dX7_requireMayJudge_21 (Nat.le_of_ble_eq_true rfl) (Nat.le_of_ble_eq_true rfl) (Nat.le_of_ble_eq_true rfl) (Nat.le_of_ble_eq_true rfl) (Nat.le_of_ble_eq_true rfl) (Nat.le_of_ble_eq_true rfl)
