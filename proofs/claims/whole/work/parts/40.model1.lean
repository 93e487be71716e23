abbrev rm_X8_thrown : Room := { frames := 0, cells := 0, slots := 0, locals := 0 }
set_option maxHeartbeats 4000000 in
set_option maxRecDepth 100000 in
theorem m_thrown {l : Launch} (hfl : l.stackTraces = false) {G : mw_G} {hm : Nat} {ad : Nat → Nat} {x : s_T} {lst : Int32} {M : mw_M} (hM : MA G hm ad x lst M) : mw_Met l G yX8_thrown (.code yX8_thrown cX8_thrown 1 (some .int)) rm_X8_thrown [.ref hm] M (mw_pi (fun r M1 => r = lst ∧ MA G hm ad (x) lst M1)) := by
  refine mw_of hfl (by decide) (Nat.le_of_ble_eq_true rfl) ?_
  intro zp ze zs zm zb zh zc ls X hin hret hT hl
  have hl : lv_has ls 1 [(0, .ref hm)] := hl
  refine lv_aload_n X.1 X.2.1 dX8_thrown_0 rfl (lv_at hl 0 rfl) ?_
  refine mr_get X hT fl_RX8_86 (hM.1) rfl dX8_thrown_1 ?_
  exact mr_iret X hT hret (⟨_, rfl, rfl, hM⟩) (Nat.le_of_ble_eq_true rfl) (Nat.le_of_ble_eq_true rfl) dX8_thrown_4

abbrev rm_X8_in : Room := { frames := 0, cells := 0, slots := 0, locals := 0 }
set_option maxHeartbeats 4000000 in
set_option maxRecDepth 100000 in
theorem m_in {l : Launch} (hfl : l.stackTraces = false) {G : mw_G} {hm : Nat} {ad : Nat → Nat} {x : s_T} {lst : Int32} {v lo hi : Int32} {M : mw_M} (hM : MA G hm ad x lst M) : mw_Met l G yX8_in (.code yX8_in cX8_in 3 (some .boolean)) rm_X8_in [.int v, .int lo, .int hi] M (mw_pi (fun r M1 => r = bI (q_in v lo hi) ∧ MA G hm ad (x) lst M1)) := by
  refine mw_of hfl (by decide) (Nat.le_of_ble_eq_true rfl) ?_
  intro zp ze zs zm zb zh zc ls X hin hret hT hl
  have hl : lv_has ls 3 [(0, .int v), (1, .int lo), (2, .int hi)] := hl
  refine mw_join hT 15 0 0 (fun r M1 => r = bI (q_in v lo hi) ∧ MA G hm ad (x) lst M1) (fun r M1 H locs hp hT => ?_) (fun J15 => ?_)
  · obtain ⟨rfl, hM⟩ := hp
    exact mr_zret X hT hret (bI_nar _) (⟨_, rfl, rfl, hM⟩) (Nat.le_of_ble_eq_true rfl) (Nat.le_of_ble_eq_true rfl) dX8_in_15
  · skip
    refine lv_iload_n X.1 X.2.1 dX8_in_0 rfl (lv_at hl 0 rfl) ?_
    refine lv_iload_n X.1 X.2.1 dX8_in_1 rfl (lv_at hl 1 rfl) ?_
    refine lv_icmp_lt X.1 X.2.1 (tgt := 14) dX8_in_2 (by decide) (fun c2 => ?_) (fun c2 => ?_)
    · skip
      refine lv_iconst X.1 X.2.1 (v := 0) dX8_in_14 (by decide) ?_
      refine W.widen (k := 0) (n := 0) (Nat.le_of_ble_eq_true rfl) (Nat.le_of_ble_eq_true rfl) ?_
      exact J15 _ _ _ _ ⟨by first | (simp [q_in, bI, Int32.not_le.mpr c2]; done) | (simp [q_in, bI, Int32.not_lt.mp c2, Int32.not_le.mpr c7]; done) | (simp [q_in, bI, Int32.not_lt.mp c2, Int32.not_lt.mp c7]; done), hM⟩ hT
    · skip
      refine lv_iload_n X.1 X.2.1 dX8_in_5 rfl (lv_at hl 0 rfl) ?_
      refine lv_iload_n X.1 X.2.1 dX8_in_6 rfl (lv_at hl 2 rfl) ?_
      refine lv_icmp_gt X.1 X.2.1 (tgt := 14) dX8_in_7 (by decide) (fun c7 => ?_) (fun c7 => ?_)
      · skip
        refine lv_iconst X.1 X.2.1 (v := 0) dX8_in_14 (by decide) ?_
        refine W.widen (k := 0) (n := 0) (Nat.le_of_ble_eq_true rfl) (Nat.le_of_ble_eq_true rfl) ?_
        exact J15 _ _ _ _ ⟨by first | (simp [q_in, bI, Int32.not_le.mpr c2]; done) | (simp [q_in, bI, Int32.not_lt.mp c2, Int32.not_le.mpr c7]; done) | (simp [q_in, bI, Int32.not_lt.mp c2, Int32.not_lt.mp c7]; done), hM⟩ hT
      · skip
        refine lv_iconst X.1 X.2.1 (v := 1) dX8_in_10 (by decide) ?_
        refine lv_goto X.1 X.2.1 (tgt := 15) dX8_in_11 (by decide) ?_
        refine W.widen (k := 0) (n := 0) (Nat.le_of_ble_eq_true rfl) (Nat.le_of_ble_eq_true rfl) ?_
        exact J15 _ _ _ _ ⟨by first | (simp [q_in, bI, Int32.not_le.mpr c2]; done) | (simp [q_in, bI, Int32.not_lt.mp c2, Int32.not_le.mpr c7]; done) | (simp [q_in, bI, Int32.not_lt.mp c2, Int32.not_lt.mp c7]; done), hM⟩ hT

abbrev rm_X8_goes : Room := { frames := 0, cells := 0, slots := 0, locals := 0 }
set_option maxHeartbeats 4000000 in
set_option maxRecDepth 100000 in
theorem m_goes {l : Launch} (hfl : l.stackTraces = false) {G : mw_G} {hm : Nat} {ad : Nat → Nat} {x : s_T} {lst : Int32} {a b c : Bool} {M : mw_M} (hM : MA G hm ad x lst M) : mw_Met l G yX8_goes (.code yX8_goes cX8_goes 4 (some .boolean)) rm_X8_goes [.ref hm, .int (bI a), .int (bI b), .int (bI c)] M (mw_pi (fun r M1 => r = bI (decide (q_code a b c = 0)) ∧ MA G hm ad (x) (q_code a b c) M1)) := by
  refine mw_of hfl (by decide) (Nat.le_of_ble_eq_true rfl) ?_
  intro zp ze zs zm zb zh zc ls X hin hret hT hl
  have hl : lv_has ls 4 [(0, .ref hm), (1, .int (bI a)), (2, .int (bI b)), (3, .int (bI c))] := hl
  refine lv_aload_n X.1 X.2.1 dX8_goes_0 rfl (lv_at hl 0 rfl) ?_
  refine mw_join hT 26 0 0 (fun r M1 => r = q_code a b c ∧ MA G hm ad (x) lst M1) (fun r M1 H locs hp hT => ?_) (fun J26 => ?_)
  · obtain ⟨rfl, hM⟩ := hp
    refine mm_putL X hT hM fp_RX8_86 dX8_goes_26 (fun M1 H locs hM hT => ?_)
    refine mw_join hT 41 0 0 (fun r M1 => r = bI (decide (q_code a b c = 0)) ∧ MA G hm ad (x) (q_code a b c) M1) (fun r M1 H locs hp hT => ?_) (fun J41 => ?_)
    · obtain ⟨rfl, hM⟩ := hp
      exact mr_zret X hT hret (bI_nar _) (⟨_, rfl, rfl, hM⟩) (Nat.le_of_ble_eq_true rfl) (Nat.le_of_ble_eq_true rfl) dX8_goes_41
    · skip
      refine lv_aload_n X.1 X.2.1 dX8_goes_29 rfl (lv_at hl 0 rfl) ?_
      refine mr_get X hT fl_RX8_86 (hM.1) rfl dX8_goes_30 ?_
      refine lv_if_ne X.1 X.2.1 (tgt := 40) dX8_goes_33 (by decide) (fun c33 => ?_) (fun c33 => ?_)
      · skip
        refine lv_iconst X.1 X.2.1 (v := 0) dX8_goes_40 (by decide) ?_
        refine W.widen (k := 0) (n := 0) (Nat.le_of_ble_eq_true rfl) (Nat.le_of_ble_eq_true rfl) ?_
        exact J41 _ _ _ _ ⟨by simp_all [bI], hM⟩ hT
      · skip
        refine lv_iconst X.1 X.2.1 (v := 1) dX8_goes_36 (by decide) ?_
        refine lv_goto X.1 X.2.1 (tgt := 41) dX8_goes_37 (by decide) ?_
        refine W.widen (k := 0) (n := 0) (Nat.le_of_ble_eq_true rfl) (Nat.le_of_ble_eq_true rfl) ?_
        exact J41 _ _ _ _ ⟨by simp_all [bI], hM⟩ hT
  · skip
    refine lv_iload_n X.1 X.2.1 dX8_goes_1 rfl (lv_at hl 1 rfl) ?_
    refine lv_if_ne X.1 X.2.1 (tgt := 9) dX8_goes_2 (by decide) (fun c2 => ?_) (fun c2 => ?_)
    · skip
      refine lv_iload_n X.1 X.2.1 dX8_goes_9 rfl (lv_at hl 2 rfl) ?_
      refine lv_if_ne X.1 X.2.1 (tgt := 17) dX8_goes_10 (by decide) (fun c10 => ?_) (fun c10 => ?_)
      · skip
        refine lv_iload_n X.1 X.2.1 dX8_goes_17 rfl (lv_at hl 3 rfl) ?_
        refine lv_if_eq X.1 X.2.1 (tgt := 25) dX8_goes_18 (by decide) (fun c18 => ?_) (fun c18 => ?_)
        · skip
          refine lv_iconst X.1 X.2.1 (v := 3) dX8_goes_25 (by decide) ?_
          refine W.widen (k := 0) (n := 0) (Nat.le_of_ble_eq_true rfl) (Nat.le_of_ble_eq_true rfl) ?_
          exact J26 _ _ _ _ ⟨by simp_all [q_code, bI_0], hM⟩ hT
        · skip
          refine lv_iconst X.1 X.2.1 (v := 0) dX8_goes_21 (by decide) ?_
          refine lv_goto X.1 X.2.1 (tgt := 26) dX8_goes_22 (by decide) ?_
          refine W.widen (k := 0) (n := 0) (Nat.le_of_ble_eq_true rfl) (Nat.le_of_ble_eq_true rfl) ?_
          exact J26 _ _ _ _ ⟨by simp_all [q_code, bI_0], hM⟩ hT
      · skip
        refine lv_iconst X.1 X.2.1 (v := 2) dX8_goes_13 (by decide) ?_
        refine lv_goto X.1 X.2.1 (tgt := 26) dX8_goes_14 (by decide) ?_
        refine W.widen (k := 0) (n := 0) (Nat.le_of_ble_eq_true rfl) (Nat.le_of_ble_eq_true rfl) ?_
        exact J26 _ _ _ _ ⟨by simp_all [q_code, bI_0], hM⟩ hT
    · skip
      refine lv_iconst X.1 X.2.1 (v := 1) dX8_goes_5 (by decide) ?_
      refine lv_goto X.1 X.2.1 (tgt := 26) dX8_goes_6 (by decide) ?_
      refine W.widen (k := 0) (n := 0) (Nat.le_of_ble_eq_true rfl) (Nat.le_of_ble_eq_true rfl) ?_
      exact J26 _ _ _ _ ⟨by simp_all [q_code, bI_0], hM⟩ hT

abbrev rm_X8_isPerson : Room := { frames := 1, cells := 0, slots := 0, locals := 22 }
set_option maxHeartbeats 4000000 in
set_option maxRecDepth 100000 in
theorem m_isPerson {l : Launch} (hfl : l.stackTraces = false) {G : mw_G} {hm : Nat} {ad : Nat → Nat} {x : s_T} {lst : Int32} {v : Int32} {M : mw_M} (hM : MA G hm ad x lst M) (hn : ct x 2 < 2 ^ 31) : mw_Met l G yX8_isPerson (.code yX8_isPerson cX8_isPerson 2 (some .boolean)) rm_X8_isPerson [.ref hm, .int v] M (mw_pi (fun r M1 => r = bI (q_ix v (ct x 2)) ∧ MA G hm ad (x) lst M1)) := by
  refine mw_of hfl (by decide) (Nat.le_of_ble_eq_true rfl) ?_
  intro zp ze zs zm zb zh zc ls X hin hret hT hl
  have hl : lv_has ls 2 [(0, .ref hm), (1, .int v)] := hl
  refine lv_iload_n X.1 X.2.1 dX8_isPerson_0 rfl (lv_at hl 1 rfl) ?_
  refine lv_iconst X.1 X.2.1 (v := 0) dX8_isPerson_1 (by decide) ?_
  refine lv_aload_n X.1 X.2.1 dX8_isPerson_2 rfl (lv_at hl 0 rfl) ?_
  refine mr_get X hT fl_RX8_90 (hM.1) rfl dX8_isPerson_3 ?_
  refine lv_iconst X.1 X.2.1 (v := 1) dX8_isPerson_6 (by decide) ?_
  refine lv_isub X.1 X.2.1 dX8_isPerson_7 ?_
  refine mr_g X hT (fun hT' => mr_runS X hT' cb_RX8_93 kw830 kw831 (m_in hfl hM) rfl rfl hl.1 ⟨Nat.le_of_ble_eq_true rfl, Nat.le_of_ble_eq_true rfl⟩ (Nat.le_of_ble_eq_true rfl) dX8_isPerson_8 ⟨Nat.le_of_ble_eq_true rfl, Nat.le_of_ble_eq_true rfl⟩) (fun v M1 H locs hp hT => ?_)
  obtain ⟨r, rfl, rfl, hM⟩ := hp
  refine W.eq (g2 := F0 zm 11 ls (.int _ :: _)) rfl ?_
  exact mr_zret X hT hret (bI_nar _) (⟨_, rfl, by rw [q_in_ix hn], hM⟩) (Nat.le_of_ble_eq_true rfl) (Nat.le_of_ble_eq_true rfl) dX8_isPerson_11

abbrev rm_X8_isMachine : Room := { frames := 1, cells := 0, slots := 0, locals := 22 }
set_option maxHeartbeats 4000000 in
set_option maxRecDepth 100000 in
theorem m_isMachine {l : Launch} (hfl : l.stackTraces = false) {G : mw_G} {hm : Nat} {ad : Nat → Nat} {x : s_T} {lst : Int32} {v : Int32} {M : mw_M} (hM : MA G hm ad x lst M) (hn : ct x 4 < 2 ^ 31) : mw_Met l G yX8_isMachine (.code yX8_isMachine cX8_isMachine 2 (some .boolean)) rm_X8_isMachine [.ref hm, .int v] M (mw_pi (fun r M1 => r = bI (q_ix v (ct x 4)) ∧ MA G hm ad (x) lst M1)) := by
  refine mw_of hfl (by decide) (Nat.le_of_ble_eq_true rfl) ?_
  intro zp ze zs zm zb zh zc ls X hin hret hT hl
  have hl : lv_has ls 2 [(0, .ref hm), (1, .int v)] := hl
  refine lv_iload_n X.1 X.2.1 dX8_isMachine_0 rfl (lv_at hl 1 rfl) ?_
  refine lv_iconst X.1 X.2.1 (v := 0) dX8_isMachine_1 (by decide) ?_
  refine lv_aload_n X.1 X.2.1 dX8_isMachine_2 rfl (lv_at hl 0 rfl) ?_
  refine mr_get X hT fl_RX8_97 (hM.1) rfl dX8_isMachine_3 ?_
  refine lv_iconst X.1 X.2.1 (v := 1) dX8_isMachine_6 (by decide) ?_
  refine lv_isub X.1 X.2.1 dX8_isMachine_7 ?_
  refine mr_g X hT (fun hT' => mr_runS X hT' cb_RX8_93 kw830 kw831 (m_in hfl hM) rfl rfl hl.1 ⟨Nat.le_of_ble_eq_true rfl, Nat.le_of_ble_eq_true rfl⟩ (Nat.le_of_ble_eq_true rfl) dX8_isMachine_8 ⟨Nat.le_of_ble_eq_true rfl, Nat.le_of_ble_eq_true rfl⟩) (fun v M1 H locs hp hT => ?_)
  obtain ⟨r, rfl, rfl, hM⟩ := hp
  refine W.eq (g2 := F0 zm 11 ls (.int _ :: _)) rfl ?_
  exact mr_zret X hT hret (bI_nar _) (⟨_, rfl, by rw [q_in_ix hn], hM⟩) (Nat.le_of_ble_eq_true rfl) (Nat.le_of_ble_eq_true rfl) dX8_isMachine_11

abbrev rm_X8_isAsk : Room := { frames := 1, cells := 0, slots := 0, locals := 22 }
set_option maxHeartbeats 4000000 in
set_option maxRecDepth 100000 in
theorem m_isAsk {l : Launch} (hfl : l.stackTraces = false) {G : mw_G} {hm : Nat} {ad : Nat → Nat} {x : s_T} {lst : Int32} {v : Int32} {M : mw_M} (hM : MA G hm ad x lst M) (hn : ct x 17 < 2 ^ 31) : mw_Met l G yX8_isAsk (.code yX8_isAsk cX8_isAsk 2 (some .boolean)) rm_X8_isAsk [.ref hm, .int v] M (mw_pi (fun r M1 => r = bI (q_ix v (ct x 17)) ∧ MA G hm ad (x) lst M1)) := by
  refine mw_of hfl (by decide) (Nat.le_of_ble_eq_true rfl) ?_
  intro zp ze zs zm zb zh zc ls X hin hret hT hl
  have hl : lv_has ls 2 [(0, .ref hm), (1, .int v)] := hl
  refine lv_iload_n X.1 X.2.1 dX8_isAsk_0 rfl (lv_at hl 1 rfl) ?_
  refine lv_iconst X.1 X.2.1 (v := 0) dX8_isAsk_1 (by decide) ?_
  refine lv_aload_n X.1 X.2.1 dX8_isAsk_2 rfl (lv_at hl 0 rfl) ?_
  refine mr_get X hT fl_RX8_107 (hM.1) rfl dX8_isAsk_3 ?_
  refine lv_iconst X.1 X.2.1 (v := 1) dX8_isAsk_6 (by decide) ?_
  refine lv_isub X.1 X.2.1 dX8_isAsk_7 ?_
  refine mr_g X hT (fun hT' => mr_runS X hT' cb_RX8_93 kw830 kw831 (m_in hfl hM) rfl rfl hl.1 ⟨Nat.le_of_ble_eq_true rfl, Nat.le_of_ble_eq_true rfl⟩ (Nat.le_of_ble_eq_true rfl) dX8_isAsk_8 ⟨Nat.le_of_ble_eq_true rfl, Nat.le_of_ble_eq_true rfl⟩) (fun v M1 H locs hp hT => ?_)
  obtain ⟨r, rfl, rfl, hM⟩ := hp
  refine W.eq (g2 := F0 zm 11 ls (.int _ :: _)) rfl ?_
  exact mr_zret X hT hret (bI_nar _) (⟨_, rfl, by rw [q_in_ix hn], hM⟩) (Nat.le_of_ble_eq_true rfl) (Nat.le_of_ble_eq_true rfl) dX8_isAsk_11

abbrev rm_X8_isEntry : Room := { frames := 1, cells := 0, slots := 0, locals := 22 }
set_option maxHeartbeats 4000000 in
set_option maxRecDepth 100000 in
theorem m_isEntry {l : Launch} (hfl : l.stackTraces = false) {G : mw_G} {hm : Nat} {ad : Nat → Nat} {x : s_T} {lst : Int32} {v : Int32} {M : mw_M} (hM : MA G hm ad x lst M) (hn : ct x 22 < 2 ^ 31) : mw_Met l G yX8_isEntry (.code yX8_isEntry cX8_isEntry 2 (some .boolean)) rm_X8_isEntry [.ref hm, .int v] M (mw_pi (fun r M1 => r = bI (q_ix v (ct x 22)) ∧ MA G hm ad (x) lst M1)) := by
  refine mw_of hfl (by decide) (Nat.le_of_ble_eq_true rfl) ?_
  intro zp ze zs zm zb zh zc ls X hin hret hT hl
  have hl : lv_has ls 2 [(0, .ref hm), (1, .int v)] := hl
  refine lv_iload_n X.1 X.2.1 dX8_isEntry_0 rfl (lv_at hl 1 rfl) ?_
  refine lv_iconst X.1 X.2.1 (v := 0) dX8_isEntry_1 (by decide) ?_
  refine lv_aload_n X.1 X.2.1 dX8_isEntry_2 rfl (lv_at hl 0 rfl) ?_
  refine mr_get X hT fl_RX8_110 (hM.1) rfl dX8_isEntry_3 ?_
  refine lv_iconst X.1 X.2.1 (v := 1) dX8_isEntry_6 (by decide) ?_
  refine lv_isub X.1 X.2.1 dX8_isEntry_7 ?_
  refine mr_g X hT (fun hT' => mr_runS X hT' cb_RX8_93 kw830 kw831 (m_in hfl hM) rfl rfl hl.1 ⟨Nat.le_of_ble_eq_true rfl, Nat.le_of_ble_eq_true rfl⟩ (Nat.le_of_ble_eq_true rfl) dX8_isEntry_8 ⟨Nat.le_of_ble_eq_true rfl, Nat.le_of_ble_eq_true rfl⟩) (fun v M1 H locs hp hT => ?_)
  obtain ⟨r, rfl, rfl, hM⟩ := hp
  refine W.eq (g2 := F0 zm 11 ls (.int _ :: _)) rfl ?_
  exact mr_zret X hT hret (bI_nar _) (⟨_, rfl, by rw [q_in_ix hn], hM⟩) (Nat.le_of_ble_eq_true rfl) (Nat.le_of_ble_eq_true rfl) dX8_isEntry_11

abbrev rm_X8_isSession : Room := { frames := 1, cells := 0, slots := 0, locals := 22 }
set_option maxHeartbeats 4000000 in
set_option maxRecDepth 100000 in
theorem m_isSession {l : Launch} (hfl : l.stackTraces = false) {G : mw_G} {hm : Nat} {ad : Nat → Nat} {x : s_T} {lst : Int32} {v : Int32} {M : mw_M} (hM : MA G hm ad x lst M) (hn : ct x 29 < 2 ^ 31) : mw_Met l G yX8_isSession (.code yX8_isSession cX8_isSession 2 (some .boolean)) rm_X8_isSession [.ref hm, .int v] M (mw_pi (fun r M1 => r = bI (q_ix v (ct x 29)) ∧ MA G hm ad (x) lst M1)) := by
  refine mw_of hfl (by decide) (Nat.le_of_ble_eq_true rfl) ?_
  intro zp ze zs zm zb zh zc ls X hin hret hT hl
  have hl : lv_has ls 2 [(0, .ref hm), (1, .int v)] := hl
  refine lv_iload_n X.1 X.2.1 dX8_isSession_0 rfl (lv_at hl 1 rfl) ?_
  refine lv_iconst X.1 X.2.1 (v := 0) dX8_isSession_1 (by decide) ?_
  refine lv_aload_n X.1 X.2.1 dX8_isSession_2 rfl (lv_at hl 0 rfl) ?_
  refine mr_get X hT fl_RX8_113 (hM.1) rfl dX8_isSession_3 ?_
  refine lv_iconst X.1 X.2.1 (v := 1) dX8_isSession_6 (by decide) ?_
  refine lv_isub X.1 X.2.1 dX8_isSession_7 ?_
  refine mr_g X hT (fun hT' => mr_runS X hT' cb_RX8_93 kw830 kw831 (m_in hfl hM) rfl rfl hl.1 ⟨Nat.le_of_ble_eq_true rfl, Nat.le_of_ble_eq_true rfl⟩ (Nat.le_of_ble_eq_true rfl) dX8_isSession_8 ⟨Nat.le_of_ble_eq_true rfl, Nat.le_of_ble_eq_true rfl⟩) (fun v M1 H locs hp hT => ?_)
  obtain ⟨r, rfl, rfl, hM⟩ := hp
  refine W.eq (g2 := F0 zm 11 ls (.int _ :: _)) rfl ?_
  exact mr_zret X hT hret (bI_nar _) (⟨_, rfl, by rw [q_in_ix hn], hM⟩) (Nat.le_of_ble_eq_true rfl) (Nat.le_of_ble_eq_true rfl) dX8_isSession_11

abbrev rm_X8_areBoth : Room := { frames := 2, cells := 0, slots := 0, locals := 43 }
set_option maxHeartbeats 4000000 in
set_option maxRecDepth 100000 in
theorem m_areBoth {l : Launch} (hfl : l.stackTraces = false) {G : mw_G} {hm : Nat} {ad : Nat → Nat} {x : s_T} {lst : Int32} {v w : Int32} {M : mw_M} (hM : MA G hm ad x lst M) (hn : ct x 2 < 2 ^ 31) (hn2 : ct x 4 < 2 ^ 31) : mw_Met l G yX8_areBoth (.code yX8_areBoth cX8_areBoth 3 (some .boolean)) rm_X8_areBoth [.ref hm, .int v, .int w] M (mw_pi (fun r M1 => r = bI (q_both x v w) ∧ MA G hm ad (x) lst M1)) := by
  refine mw_of hfl (by decide) (Nat.le_of_ble_eq_true rfl) ?_
  intro zp ze zs zm zb zh zc ls X hin hret hT hl
  have hl : lv_has ls 3 [(0, .ref hm), (1, .int v), (2, .int w)] := hl
  refine mw_join hT 21 0 0 (fun r M1 => r = bI (q_both x v w) ∧ MA G hm ad (x) lst M1) (fun r M1 H locs hp hT => ?_) (fun J21 => ?_)
  · obtain ⟨rfl, hM⟩ := hp
    exact mr_zret X hT hret (bI_nar _) (⟨_, rfl, rfl, hM⟩) (Nat.le_of_ble_eq_true rfl) (Nat.le_of_ble_eq_true rfl) dX8_areBoth_21
  · skip
    refine lv_aload_n X.1 X.2.1 dX8_areBoth_0 rfl (lv_at hl 0 rfl) ?_
    refine lv_iload_n X.1 X.2.1 dX8_areBoth_1 rfl (lv_at hl 1 rfl) ?_
    refine mr_g X hT (fun hT' => mr_runV X hT' cb_RX8_100 kw846 kp28 kw847 (m_isPerson hfl hM hn) (mr_cell X hT hM.1 rfl) rfl rfl hl.1 ⟨Nat.le_of_ble_eq_true rfl, Nat.le_of_ble_eq_true rfl⟩ (Nat.le_of_ble_eq_true rfl) dX8_areBoth_2 ⟨Nat.le_of_ble_eq_true rfl, Nat.le_of_ble_eq_true rfl⟩) (fun v M1 H locs hp hT => ?_)
    obtain ⟨r, rfl, rfl, hM⟩ := hp
    refine W.eq (g2 := F0 zm 5 ls (.int _ :: _)) rfl ?_
    refine lv_if_eq X.1 X.2.1 (tgt := 20) dX8_areBoth_5 (by decide) (fun c5 => ?_) (fun c5 => ?_)
    · skip
      refine lv_iconst X.1 X.2.1 (v := 0) dX8_areBoth_20 (by decide) ?_
      refine W.widen (k := 0) (n := 0) (Nat.le_of_ble_eq_true rfl) (Nat.le_of_ble_eq_true rfl) ?_
      exact J21 _ _ _ _ ⟨by simp_all [q_both, bI], hM⟩ hT
    · skip
      refine lv_aload_n X.1 X.2.1 dX8_areBoth_8 rfl (lv_at hl 0 rfl) ?_
      refine lv_iload_n X.1 X.2.1 dX8_areBoth_9 rfl (lv_at hl 2 rfl) ?_
      refine mr_g X hT (fun hT' => mr_runV X hT' cb_RX8_104 kw883 kp36 kw884 (m_isMachine hfl hM hn2) (mr_cell X hT hM.1 rfl) rfl rfl hl.1 ⟨Nat.le_of_ble_eq_true rfl, Nat.le_of_ble_eq_true rfl⟩ (Nat.le_of_ble_eq_true rfl) dX8_areBoth_10 ⟨Nat.le_of_ble_eq_true rfl, Nat.le_of_ble_eq_true rfl⟩) (fun v M1 H locs hp hT => ?_)
      obtain ⟨r, rfl, rfl, hM⟩ := hp
      refine W.eq (g2 := F0 zm 13 ls (.int _ :: _)) rfl ?_
      refine lv_if_eq X.1 X.2.1 (tgt := 20) dX8_areBoth_13 (by decide) (fun c13 => ?_) (fun c13 => ?_)
      · skip
        refine lv_iconst X.1 X.2.1 (v := 0) dX8_areBoth_20 (by decide) ?_
        refine W.widen (k := 0) (n := 0) (Nat.le_of_ble_eq_true rfl) (Nat.le_of_ble_eq_true rfl) ?_
        exact J21 _ _ _ _ ⟨by simp_all [q_both, bI], hM⟩ hT
      · skip
        refine lv_iconst X.1 X.2.1 (v := 1) dX8_areBoth_16 (by decide) ?_
        refine lv_goto X.1 X.2.1 (tgt := 21) dX8_areBoth_17 (by decide) ?_
        refine W.widen (k := 0) (n := 0) (Nat.le_of_ble_eq_true rfl) (Nat.le_of_ble_eq_true rfl) ?_
        exact J21 _ _ _ _ ⟨by simp_all [q_both, bI], hM⟩ hT

abbrev rm_X8_writes : Room := { frames := 0, cells := 0, slots := 0, locals := 0 }
set_option maxHeartbeats 4000000 in
set_option maxRecDepth 100000 in
theorem m_writes {l : Launch} (hfl : l.stackTraces = false) {G : mw_G} {hm : Nat} {ad : Nat → Nat} {x : s_T} {lst : Int32} {kd pp mm : Int32} {M : mw_M} (hM : MA G hm ad x lst M) (hn : ct x 32 < 8000) : mw_Met l G yX8_writes (.code yX8_writes cX8_writes 5 none) rm_X8_writes [.ref hm, .int kd, .int pp, .int mm] M (mw_pv (fun M1 => MA G hm ad (q_write x kd pp mm) lst M1)) := by
  refine mw_of hfl (by decide) (Nat.le_of_ble_eq_true rfl) ?_
  intro zp ze zs zm zb zh zc ls X hin hret hT hl
  have hl : lv_has ls 5 [(0, .ref hm), (1, .int kd), (2, .int pp), (3, .int mm)] := hl
  refine mw_join hT 22 0 0 (fun r M1 => r = q_last x ∧ MA G hm ad (x) lst M1) (fun r M1 H locs hp hT => ?_) (fun J22 => ?_)
  · obtain ⟨rfl, hM⟩ := hp
    refine lv_istore X.1 X.2.1 dX8_writes_22 hl (by decide) rfl (fun ls hl => ?_)
    refine lv_aload_n X.1 X.2.1 dX8_writes_24 rfl (lv_at hl 1 rfl) ?_
    refine mr_get X hT fl_RX8_80 (hM.1) rfl dX8_writes_25 ?_
    refine lv_aload_n X.1 X.2.1 dX8_writes_28 rfl (lv_at hl 1 rfl) ?_
    refine mr_get X hT fl_RX8_116 (hM.1) rfl dX8_writes_29 ?_
    refine lv_iload_n X.1 X.2.1 dX8_writes_32 rfl (lv_at hl 2 rfl) ?_
    refine mm_iast X hT hM (k := 30) (N := 8000) (j := ct x 32) rfl (by decide) (by decide) (hn) dX8_writes_33 (fun M1 H locs hM hT => ?_)
    refine lv_aload_n X.1 X.2.1 dX8_writes_34 rfl (lv_at hl 1 rfl) ?_
    refine mr_get X hT fl_RX8_83 (hM.1) rfl dX8_writes_35 ?_
    refine lv_aload_n X.1 X.2.1 dX8_writes_38 rfl (lv_at hl 1 rfl) ?_
    refine mr_get X hT fl_RX8_116 (hM.1) rfl dX8_writes_39 ?_
    refine lv_bipush X.1 X.2.1 (v := 31) dX8_writes_42 (by decide) ?_
    refine lv_iload X.1 X.2.1 dX8_writes_44 (lv_at hl 0 rfl) ?_
    refine lv_imul X.1 X.2.1 dX8_writes_46 ?_
    refine lv_iload_n X.1 X.2.1 dX8_writes_47 rfl (lv_at hl 2 rfl) ?_
    refine lv_iadd X.1 X.2.1 dX8_writes_48 ?_
    refine lv_bipush X.1 X.2.1 (v := 10) dX8_writes_49 (by decide) ?_
    refine lv_iload_n X.1 X.2.1 dX8_writes_51 rfl (lv_at hl 3 rfl) ?_
    refine lv_imul X.1 X.2.1 dX8_writes_52 ?_
    refine lv_iadd X.1 X.2.1 dX8_writes_53 ?_
    refine lv_sipush X.1 X.2.1 (v := 200) dX8_writes_54 (by decide) ?_
    refine lv_iload_n X.1 X.2.1 dX8_writes_57 rfl (lv_at hl 4 rfl) ?_
    refine lv_imul X.1 X.2.1 dX8_writes_58 ?_
    refine lv_iadd X.1 X.2.1 dX8_writes_59 ?_
    refine lv_sipush X.1 X.2.1 (v := 2000) dX8_writes_60 (by decide) ?_
    refine lv_aload_n X.1 X.2.1 dX8_writes_63 rfl (lv_at hl 1 rfl) ?_
    refine mr_get X hT fl_RX8_119 (hM.1) rfl dX8_writes_64 ?_
    refine lv_imul X.1 X.2.1 dX8_writes_67 ?_
    refine lv_iadd X.1 X.2.1 dX8_writes_68 ?_
    refine lv_ldc X.1 X.2.1 (v := 1000003) X.2.2.2.1 (mw_use X.2.2.2.2.1.1 kw872 rfl) dX8_writes_69 ?_
    refine lv_irem X.1 X.2.1 dX8_writes_71 (by decide) ?_
    refine mm_iast X hT hM (k := 31) (N := 8000) (j := ct x 32) rfl (by decide) (by decide) (hn) dX8_writes_72 (fun M1 H locs hM hT => ?_)
    refine lv_aload_n X.1 X.2.1 dX8_writes_73 rfl (lv_at hl 1 rfl) ?_
    refine lv_dup X.1 X.2.1 dX8_writes_74 rfl ?_
    refine mr_get X hT fl_RX8_116 (hM.1) rfl dX8_writes_75 ?_
    refine lv_iconst X.1 X.2.1 (v := 1) dX8_writes_78 (by decide) ?_
    refine lv_iadd X.1 X.2.1 dX8_writes_79 ?_
    refine mm_put X hT hM fp_RX8_116 (k := 32) rfl (ct x 32 + 1) (nI_1 _) dX8_writes_80 (fun M1 H locs hM hT => ?_)
    exact mr_vret X hT hret (⟨rfl, hM⟩) (Nat.le_of_ble_eq_true rfl) (Nat.le_of_ble_eq_true rfl) dX8_writes_83
  · skip
    refine lv_aload_n X.1 X.2.1 dX8_writes_0 rfl (lv_at hl 0 rfl) ?_
    refine mr_get X hT fl_RX8_116 (hM.1) rfl dX8_writes_1 ?_
    refine lv_if_ne X.1 X.2.1 (tgt := 11) dX8_writes_4 (by decide) (fun c4 => ?_) (fun c4 => ?_)
    · skip
      have c4 : ct x 32 ≠ 0 := fun z => c4 (by rw [z]; rfl)
      refine lv_aload_n X.1 X.2.1 dX8_writes_11 rfl (lv_at hl 0 rfl) ?_
      refine mr_get X hT fl_RX8_83 (hM.1) rfl dX8_writes_12 ?_
      refine lv_aload_n X.1 X.2.1 dX8_writes_15 rfl (lv_at hl 0 rfl) ?_
      refine mr_get X hT fl_RX8_116 (hM.1) rfl dX8_writes_16 ?_
      refine lv_iconst X.1 X.2.1 (v := 1) dX8_writes_19 (by decide) ?_
      refine lv_isub X.1 X.2.1 dX8_writes_20 ?_
      refine mm_top (w := nI (ct x 32 - 1)) (by rw [show ct x 32 = ct x 32 - 1 + 1 by omega]; exact nI_pred _) ?_
      refine mm_iald X hT hM (k := 31) (N := 8000) (j := ct x 32 - 1) rfl (by decide) (by decide) (by omega) dX8_writes_21 ?_
      refine W.widen (k := 0) (n := 0) (Nat.le_of_ble_eq_true rfl) (Nat.le_of_ble_eq_true rfl) ?_
      exact J22 _ _ _ _ ⟨by simp_all [q_last], hM⟩ hT
    · skip
      have c4 : ct x 32 = 0 := Classical.byContradiction fun z => nI_ne0 (Nat.pos_of_ne_zero z) (by omega) c4
      refine lv_iconst X.1 X.2.1 (v := 1) dX8_writes_7 (by decide) ?_
      refine lv_goto X.1 X.2.1 (tgt := 22) dX8_writes_8 (by decide) ?_
      refine W.widen (k := 0) (n := 0) (Nat.le_of_ble_eq_true rfl) (Nat.le_of_ble_eq_true rfl) ?_
      exact J22 _ _ _ _ ⟨by simp_all [q_last], hM⟩ hT

abbrev rm_X8_hasLabel : Room := { frames := 0, cells := 0, slots := 0, locals := 0 }
set_option maxHeartbeats 4000000 in
set_option maxRecDepth 100000 in
theorem m_hasLabel {l : Launch} (hfl : l.stackTraces = false) {G : mw_G} {hm : Nat} {ad : Nat → Nat} {x : s_T} {lst : Int32} {a b : Nat} {M : mw_M} (hM : MA G hm ad x lst M) (hi : q_inv 512 x) (ha : a < ct x 2) (hb : b < ct x 4) : mw_Met l G yX8_hasLabel (.code yX8_hasLabel cX8_hasLabel 3 (some .boolean)) rm_X8_hasLabel [.ref hm, .int (nI a), .int (nI b)] M (mw_pi (fun r M1 => r = bI (q_has x (nI a) (nI b)) ∧ MA G hm ad (x) lst M1)) := by
  refine mw_of hfl (by decide) (Nat.le_of_ble_eq_true rfl) ?_
  intro zp ze zs zm zb zh zc ls X hin hret hT hl
  have hl : lv_has ls 3 [(0, .ref hm), (1, .int (nI a)), (2, .int (nI b))] := hl
  obtain ⟨⟨i2, i4, i5, i10, i17, i22, i29, i32⟩, hr3, hr6, hr11, hr18, hr23, hz21, hz28, hlb⟩ := id hi
  obtain ⟨t, ht, et⟩ := hr3 b hb
  refine lv_aload_n X.1 X.2.1 dX8_hasLabel_0 rfl (lv_at hl 0 rfl) ?_
  refine mr_get X hT fl_RX8_13 (hM.1) rfl dX8_hasLabel_1 ?_
  refine lv_iconst X.1 X.2.1 (v := 4) dX8_hasLabel_4 (by decide) ?_
  refine lv_iload_n X.1 X.2.1 dX8_hasLabel_5 rfl (lv_at hl 1 rfl) ?_
  refine lv_imul X.1 X.2.1 dX8_hasLabel_6 ?_
  refine mm_top (w := nI (4 * a)) (by rw [show (4 : Int32) = nI 4 from rfl, pk_mul]) ?_
  refine lv_aload_n X.1 X.2.1 dX8_hasLabel_7 rfl (lv_at hl 0 rfl) ?_
  refine mr_get X hT fl_RX8_17 (hM.1) rfl dX8_hasLabel_8 ?_
  refine lv_iload_n X.1 X.2.1 dX8_hasLabel_11 rfl (lv_at hl 2 rfl) ?_
  refine mm_iald X hT hM (k := 3) (N := 8) (j := b) rfl (by decide) (by decide) (by omega) dX8_hasLabel_12 ?_
  refine mm_top (w := nI t) (et) ?_
  refine lv_iadd X.1 X.2.1 dX8_hasLabel_13 ?_
  refine mm_top (w := nI (4 * a + t)) (nI_add _ _) ?_
  refine mm_zald X hT hM (k := 1) (N := 48) (j := 4 * a + t) rfl (by decide) (by decide) (by omega) dX8_hasLabel_14 ?_
  refine mm_top (w := bI (q_has x (nI a) (nI b))) (by unfold q_has; rw [pn_nI (show a < 2 ^ 31 by omega), pn_nI (show b < 2 ^ 31 by omega), et, pn_nI (show t < 2 ^ 31 by omega)]; rcases hlb (4 * a + t) with h | h <;> simp [h, bI]) ?_
  exact mr_zret X hT hret (bI_nar _) (⟨_, rfl, rfl, hM⟩) (Nat.le_of_ble_eq_true rfl) (Nat.le_of_ble_eq_true rfl) dX8_hasLabel_15

abbrev rm_X8_holdsAt : Room := { frames := 0, cells := 0, slots := 0, locals := 0 }
set_option maxHeartbeats 4000000 in
set_option maxRecDepth 100000 in
theorem m_holdsAt {l : Launch} (hfl : l.stackTraces = false) {G : mw_G} {hm : Nat} {ad : Nat → Nat} {x : s_T} {lst : Int32} {pp mm t : Int32} {M : mw_M} (hM : MA G hm ad x lst M) (hi : q_inv 512 x) : mw_Met l G yX8_holdsAt (.code yX8_holdsAt cX8_holdsAt 6 (some .boolean)) rm_X8_holdsAt [.ref hm, .int pp, .int mm, .int t] M (mw_pi (fun r M1 => r = bI (q_hold x pp mm t (ct x 10)) ∧ MA G hm ad (x) lst M1)) := by
  refine mw_of hfl (by decide) (Nat.le_of_ble_eq_true rfl) ?_
  intro zp ze zs zm zb zh zc ls X hin hret hT hl
  have hl : lv_has ls 6 [(0, .ref hm), (1, .int pp), (2, .int mm), (3, .int t)] := hl
  obtain ⟨⟨i2, i4, i5, i10, i17, i22, i29, i32⟩, hr3, hr6, hr11, hr18, hr23, hz21, hz28, hlb⟩ := id hi
  refine lv_iconst X.1 X.2.1 (v := 0) dX8_holdsAt_0 (by decide) ?_
  refine lv_istore X.1 X.2.1 dX8_holdsAt_1 hl (by decide) rfl (fun ls hl => ?_)
  refine lv_iconst X.1 X.2.1 (v := 0) dX8_holdsAt_3 (by decide) ?_
  refine lv_istore X.1 X.2.1 dX8_holdsAt_4 hl (by decide) rfl (fun ls hl => ?_)
  refine W.widen (k := 0) (n := 0) (Nat.le_of_ble_eq_true rfl) (Nat.le_of_ble_eq_true rfl) ?_
  refine mw_loop (nL := 6) (n := ct x 10) (fun k M1 => MA G hm ad (x) lst M1) (fun k => [(5, .int (nI k)), (4, .int (bI (q_hold x pp mm t k))), (0, .ref hm), (1, .int pp), (2, .int mm), (3, .int t)]) (fun k hk ih M1 H locs ls hM hT hl => ?_) hM hT (lv_sub hl [0, 1, 2, 3, 4, 5] rfl)
  refine lv_iload X.1 X.2.1 dX8_holdsAt_6 (lv_at hl 0 rfl) ?_
  refine lv_aload_n X.1 X.2.1 dX8_holdsAt_8 rfl (lv_at hl 2 rfl) ?_
  refine mr_get X hT fl_RX8_127 (hM.1) rfl dX8_holdsAt_9 ?_
  refine lv_icmp_ge X.1 X.2.1 (tgt := 77) dX8_holdsAt_12 (by decide) (fun c12 => ?_) (fun c12 => ?_)
  · skip
    have hkn := mm_exit hk (show ct x 10 < 2 ^ 31 by omega) c12
    subst hkn
    refine lv_iload X.1 X.2.1 dX8_holdsAt_77 (lv_at hl 1 rfl) ?_
    exact mr_zret X hT hret (bI_nar _) (⟨_, rfl, rfl, hM⟩) (Nat.le_of_ble_eq_true rfl) (Nat.le_of_ble_eq_true rfl) dX8_holdsAt_79
  · skip
    have hkl := mm_stay hk (show ct x 10 < 2 ^ 31 by omega) c12
    refine mw_join hT 69 0 0 (fun r M1 => r = bI (q_hold x pp mm t (k + 1)) ∧ MA G hm ad (x) lst M1) (fun r M1 H locs hp hT => ?_) (fun J69 => ?_)
    · obtain ⟨rfl, hM⟩ := hp
      refine lv_istore X.1 X.2.1 dX8_holdsAt_69 hl (by decide) rfl (fun ls hl => ?_)
      refine lv_iinc X.1 X.2.1 (k := 1) (v := nI (k + 1)) dX8_holdsAt_71 hl rfl (mm_inc k) (by decide) rfl (fun ls hl => ?_)
      refine lv_goto X.1 X.2.1 (tgt := 6) dX8_holdsAt_74 (by decide) ?_
      refine W.widen (k := 0) (n := 0) (Nat.le_of_ble_eq_true rfl) (Nat.le_of_ble_eq_true rfl) ?_
      exact ih (by omega) _ _ _ _ (hM) hT (lv_sub hl [0, 1, 2, 3, 4, 5] rfl)
    · skip
      refine lv_iload X.1 X.2.1 dX8_holdsAt_15 (lv_at hl 1 rfl) ?_
      refine lv_if_ne X.1 X.2.1 (tgt := 64) dX8_holdsAt_17 (by decide) (fun c17 => ?_) (fun c17 => ?_)
      · skip
        refine lv_iconst X.1 X.2.1 (v := 1) dX8_holdsAt_64 (by decide) ?_
        refine lv_goto X.1 X.2.1 (tgt := 69) dX8_holdsAt_65 (by decide) ?_
        refine W.widen (k := 0) (n := 0) (Nat.le_of_ble_eq_true rfl) (Nat.le_of_ble_eq_true rfl) ?_
        exact J69 _ _ _ _ ⟨by first | (simp [q_hold, bI, bI_n.mp c17]; done) | (rw [q_hold, bI_0.mp (c17), Bool.false_or]; first | (simp [q_hold1, bI, c28]; done) | (simp [q_hold1, bI, c39]; done) | (simp [q_hold1, bI, Int32.not_le.mpr c50]; done) | (simp [q_hold1, bI, Int32.not_lt.mpr c61]; done) | (simp [q_hold1, bI, c28, c39, Int32.not_lt.mp c50, Int32.not_le.mp c61]; done)), hM⟩ hT
      · skip
        refine lv_aload_n X.1 X.2.1 dX8_holdsAt_20 rfl (lv_at hl 2 rfl) ?_
        refine mr_get X hT fl_RX8_20 (hM.1) rfl dX8_holdsAt_21 ?_
        refine lv_iload X.1 X.2.1 dX8_holdsAt_24 (lv_at hl 0 rfl) ?_
        refine mm_iald X hT hM (k := 6) (N := 2000) (j := k) rfl (by decide) (by decide) (by omega) dX8_holdsAt_26 ?_
        refine lv_iload_n X.1 X.2.1 dX8_holdsAt_27 rfl (lv_at hl 3 rfl) ?_
        refine lv_icmp_ne X.1 X.2.1 (tgt := 68) dX8_holdsAt_28 (by decide) (fun c28 => ?_) (fun c28 => ?_)
        · skip
          refine lv_iconst X.1 X.2.1 (v := 0) dX8_holdsAt_68 (by decide) ?_
          refine W.widen (k := 0) (n := 0) (Nat.le_of_ble_eq_true rfl) (Nat.le_of_ble_eq_true rfl) ?_
          exact J69 _ _ _ _ ⟨by first | (simp [q_hold, bI, bI_n.mp c17]; done) | (rw [q_hold, bI_0.mp (c17), Bool.false_or]; first | (simp [q_hold1, bI, c28]; done) | (simp [q_hold1, bI, c39]; done) | (simp [q_hold1, bI, Int32.not_le.mpr c50]; done) | (simp [q_hold1, bI, Int32.not_lt.mpr c61]; done) | (simp [q_hold1, bI, c28, c39, Int32.not_lt.mp c50, Int32.not_le.mp c61]; done)), hM⟩ hT
        · skip
          refine lv_aload_n X.1 X.2.1 dX8_holdsAt_31 rfl (lv_at hl 2 rfl) ?_
          refine mr_get X hT fl_RX8_23 (hM.1) rfl dX8_holdsAt_32 ?_
          refine lv_iload X.1 X.2.1 dX8_holdsAt_35 (lv_at hl 0 rfl) ?_
          refine mm_iald X hT hM (k := 7) (N := 2000) (j := k) rfl (by decide) (by decide) (by omega) dX8_holdsAt_37 ?_
          refine lv_iload_n X.1 X.2.1 dX8_holdsAt_38 rfl (lv_at hl 4 rfl) ?_
          refine lv_icmp_ne X.1 X.2.1 (tgt := 68) dX8_holdsAt_39 (by decide) (fun c39 => ?_) (fun c39 => ?_)
          · skip
            refine lv_iconst X.1 X.2.1 (v := 0) dX8_holdsAt_68 (by decide) ?_
            refine W.widen (k := 0) (n := 0) (Nat.le_of_ble_eq_true rfl) (Nat.le_of_ble_eq_true rfl) ?_
            exact J69 _ _ _ _ ⟨by first | (simp [q_hold, bI, bI_n.mp c17]; done) | (rw [q_hold, bI_0.mp (c17), Bool.false_or]; first | (simp [q_hold1, bI, c28]; done) | (simp [q_hold1, bI, c39]; done) | (simp [q_hold1, bI, Int32.not_le.mpr c50]; done) | (simp [q_hold1, bI, Int32.not_lt.mpr c61]; done) | (simp [q_hold1, bI, c28, c39, Int32.not_lt.mp c50, Int32.not_le.mp c61]; done)), hM⟩ hT
          · skip
            refine lv_aload_n X.1 X.2.1 dX8_holdsAt_42 rfl (lv_at hl 2 rfl) ?_
            refine mr_get X hT fl_RX8_26 (hM.1) rfl dX8_holdsAt_43 ?_
            refine lv_iload X.1 X.2.1 dX8_holdsAt_46 (lv_at hl 0 rfl) ?_
            refine mm_iald X hT hM (k := 8) (N := 2000) (j := k) rfl (by decide) (by decide) (by omega) dX8_holdsAt_48 ?_
            refine lv_iload_n X.1 X.2.1 dX8_holdsAt_49 rfl (lv_at hl 5 rfl) ?_
            refine lv_icmp_gt X.1 X.2.1 (tgt := 68) dX8_holdsAt_50 (by decide) (fun c50 => ?_) (fun c50 => ?_)
            · skip
              refine lv_iconst X.1 X.2.1 (v := 0) dX8_holdsAt_68 (by decide) ?_
              refine W.widen (k := 0) (n := 0) (Nat.le_of_ble_eq_true rfl) (Nat.le_of_ble_eq_true rfl) ?_
              exact J69 _ _ _ _ ⟨by first | (simp [q_hold, bI, bI_n.mp c17]; done) | (rw [q_hold, bI_0.mp (c17), Bool.false_or]; first | (simp [q_hold1, bI, c28]; done) | (simp [q_hold1, bI, c39]; done) | (simp [q_hold1, bI, Int32.not_le.mpr c50]; done) | (simp [q_hold1, bI, Int32.not_lt.mpr c61]; done) | (simp [q_hold1, bI, c28, c39, Int32.not_lt.mp c50, Int32.not_le.mp c61]; done)), hM⟩ hT
            · skip
              refine lv_iload_n X.1 X.2.1 dX8_holdsAt_53 rfl (lv_at hl 5 rfl) ?_
              refine lv_aload_n X.1 X.2.1 dX8_holdsAt_54 rfl (lv_at hl 2 rfl) ?_
              refine mr_get X hT fl_RX8_29 (hM.1) rfl dX8_holdsAt_55 ?_
              refine lv_iload X.1 X.2.1 dX8_holdsAt_58 (lv_at hl 0 rfl) ?_
              refine mm_iald X hT hM (k := 9) (N := 2000) (j := k) rfl (by decide) (by decide) (by omega) dX8_holdsAt_60 ?_
              refine lv_icmp_ge X.1 X.2.1 (tgt := 68) dX8_holdsAt_61 (by decide) (fun c61 => ?_) (fun c61 => ?_)
              · skip
                refine lv_iconst X.1 X.2.1 (v := 0) dX8_holdsAt_68 (by decide) ?_
                refine W.widen (k := 0) (n := 0) (Nat.le_of_ble_eq_true rfl) (Nat.le_of_ble_eq_true rfl) ?_
                exact J69 _ _ _ _ ⟨by first | (simp [q_hold, bI, bI_n.mp c17]; done) | (rw [q_hold, bI_0.mp (c17), Bool.false_or]; first | (simp [q_hold1, bI, c28]; done) | (simp [q_hold1, bI, c39]; done) | (simp [q_hold1, bI, Int32.not_le.mpr c50]; done) | (simp [q_hold1, bI, Int32.not_lt.mpr c61]; done) | (simp [q_hold1, bI, c28, c39, Int32.not_lt.mp c50, Int32.not_le.mp c61]; done)), hM⟩ hT
              · skip
                refine lv_iconst X.1 X.2.1 (v := 1) dX8_holdsAt_64 (by decide) ?_
                refine lv_goto X.1 X.2.1 (tgt := 69) dX8_holdsAt_65 (by decide) ?_
                refine W.widen (k := 0) (n := 0) (Nat.le_of_ble_eq_true rfl) (Nat.le_of_ble_eq_true rfl) ?_
                exact J69 _ _ _ _ ⟨by first | (simp [q_hold, bI, bI_n.mp c17]; done) | (rw [q_hold, bI_0.mp (c17), Bool.false_or]; first | (simp [q_hold1, bI, c28]; done) | (simp [q_hold1, bI, c39]; done) | (simp [q_hold1, bI, Int32.not_le.mpr c50]; done) | (simp [q_hold1, bI, Int32.not_lt.mpr c61]; done) | (simp [q_hold1, bI, c28, c39, Int32.not_lt.mp c50, Int32.not_le.mp c61]; done)), hM⟩ hT

abbrev rm_X8_grants : Room := { frames := 0, cells := 0, slots := 0, locals := 0 }
set_option maxHeartbeats 4000000 in
set_option maxRecDepth 100000 in
theorem m_grants {l : Launch} (hfl : l.stackTraces = false) {G : mw_G} {hm : Nat} {ad : Nat → Nat} {x : s_T} {lst : Int32} {pp mm t : Int32} {M : mw_M} (hM : MA G hm ad x lst M) (hn : ct x 10 < 2000) : mw_Met l G yX8_grants (.code yX8_grants cX8_grants 4 none) rm_X8_grants [.ref hm, .int pp, .int mm, .int t] M (mw_pv (fun M1 => MA G hm ad (q_grant x pp mm t) lst M1)) := by
  refine mw_of hfl (by decide) (Nat.le_of_ble_eq_true rfl) ?_
  intro zp ze zs zm zb zh zc ls X hin hret hT hl
  have hl : lv_has ls 4 [(0, .ref hm), (1, .int pp), (2, .int mm), (3, .int t)] := hl
  refine lv_aload_n X.1 X.2.1 dX8_grants_0 rfl (lv_at hl 0 rfl) ?_
  refine mr_get X hT fl_RX8_20 (hM.1) rfl dX8_grants_1 ?_
  refine lv_aload_n X.1 X.2.1 dX8_grants_4 rfl (lv_at hl 0 rfl) ?_
  refine mr_get X hT fl_RX8_127 (hM.1) rfl dX8_grants_5 ?_
  refine lv_iload_n X.1 X.2.1 dX8_grants_8 rfl (lv_at hl 1 rfl) ?_
  refine mm_iast X hT hM (k := 6) (N := 2000) (j := ct x 10) rfl (by decide) (by decide) (hn) dX8_grants_9 (fun M1 H locs hM hT => ?_)
  refine lv_aload_n X.1 X.2.1 dX8_grants_10 rfl (lv_at hl 0 rfl) ?_
  refine mr_get X hT fl_RX8_23 (hM.1) rfl dX8_grants_11 ?_
  refine lv_aload_n X.1 X.2.1 dX8_grants_14 rfl (lv_at hl 0 rfl) ?_
  refine mr_get X hT fl_RX8_127 (hM.1) rfl dX8_grants_15 ?_
  refine lv_iload_n X.1 X.2.1 dX8_grants_18 rfl (lv_at hl 2 rfl) ?_
  refine mm_iast X hT hM (k := 7) (N := 2000) (j := ct x 10) rfl (by decide) (by decide) (hn) dX8_grants_19 (fun M1 H locs hM hT => ?_)
  refine lv_aload_n X.1 X.2.1 dX8_grants_20 rfl (lv_at hl 0 rfl) ?_
  refine mr_get X hT fl_RX8_26 (hM.1) rfl dX8_grants_21 ?_
  refine lv_aload_n X.1 X.2.1 dX8_grants_24 rfl (lv_at hl 0 rfl) ?_
  refine mr_get X hT fl_RX8_127 (hM.1) rfl dX8_grants_25 ?_
  refine lv_aload_n X.1 X.2.1 dX8_grants_28 rfl (lv_at hl 0 rfl) ?_
  refine mr_get X hT fl_RX8_119 (hM.1) rfl dX8_grants_29 ?_
  refine mm_iast X hT hM (k := 8) (N := 2000) (j := ct x 10) rfl (by decide) (by decide) (hn) dX8_grants_32 (fun M1 H locs hM hT => ?_)
  refine lv_aload_n X.1 X.2.1 dX8_grants_33 rfl (lv_at hl 0 rfl) ?_
  refine mr_get X hT fl_RX8_29 (hM.1) rfl dX8_grants_34 ?_
  refine lv_aload_n X.1 X.2.1 dX8_grants_37 rfl (lv_at hl 0 rfl) ?_
  refine mr_get X hT fl_RX8_127 (hM.1) rfl dX8_grants_38 ?_
  refine lv_aload_n X.1 X.2.1 dX8_grants_41 rfl (lv_at hl 0 rfl) ?_
  refine mr_get X hT fl_RX8_119 (hM.1) rfl dX8_grants_42 ?_
  refine lv_iload_n X.1 X.2.1 dX8_grants_45 rfl (lv_at hl 3 rfl) ?_
  refine lv_iadd X.1 X.2.1 dX8_grants_46 ?_
  refine mm_iast X hT hM (k := 9) (N := 2000) (j := ct x 10) rfl (by decide) (by decide) (hn) dX8_grants_47 (fun M1 H locs hM hT => ?_)
  refine lv_aload_n X.1 X.2.1 dX8_grants_48 rfl (lv_at hl 0 rfl) ?_
  refine lv_dup X.1 X.2.1 dX8_grants_49 rfl ?_
  refine mr_get X hT fl_RX8_127 (hM.1) rfl dX8_grants_50 ?_
  refine lv_iconst X.1 X.2.1 (v := 1) dX8_grants_53 (by decide) ?_
  refine lv_iadd X.1 X.2.1 dX8_grants_54 ?_
  refine mm_put X hT hM fp_RX8_127 (k := 10) rfl (ct x 10 + 1) (nI_1 _) dX8_grants_55 (fun M1 H locs hM hT => ?_)
  exact mr_vret X hT hret (⟨rfl, hM⟩) (Nat.le_of_ble_eq_true rfl) (Nat.le_of_ble_eq_true rfl) dX8_grants_58

abbrev rm_X8_endsRights : Room := { frames := 0, cells := 0, slots := 0, locals := 0 }
set_option maxHeartbeats 4000000 in
set_option maxRecDepth 100000 in
theorem m_endsRights {l : Launch} (hfl : l.stackTraces = false) {G : mw_G} {hm : Nat} {ad : Nat → Nat} {x : s_T} {lst : Int32} {pp mm : Int32} {M : mw_M} (hM : MA G hm ad x lst M) (hi : q_inv 512 x) : mw_Met l G yX8_endsRights (.code yX8_endsRights cX8_endsRights 5 none) rm_X8_endsRights [.ref hm, .int pp, .int mm] M (mw_pv (fun M1 => MA G hm ad (q_ends x pp mm) lst M1)) := by
  refine mw_of hfl (by decide) (Nat.le_of_ble_eq_true rfl) ?_
  intro zp ze zs zm zb zh zc ls X hin hret hT hl
  have hl : lv_has ls 5 [(0, .ref hm), (1, .int pp), (2, .int mm)] := hl
  obtain ⟨⟨i2, i4, i5, i10, i17, i22, i29, i32⟩, hr3, hr6, hr11, hr18, hr23, hz21, hz28, hlb⟩ := id hi
  refine lv_iconst X.1 X.2.1 (v := 0) dX8_endsRights_0 (by decide) ?_
  refine lv_istore_n X.1 X.2.1 dX8_endsRights_1 rfl hl (by decide) rfl (fun ls hl => ?_)
  refine W.widen (k := 0) (n := 0) (Nat.le_of_ble_eq_true rfl) (Nat.le_of_ble_eq_true rfl) ?_
  refine mw_loop (nL := 5) (n := ct x 10) (fun k M1 => MA G hm ad (cf x 9 (q_endf x pp mm k)) lst M1) (fun k => [(3, .int (nI k)), (0, .ref hm), (1, .int pp), (2, .int mm)]) (fun k hk ih M1 H locs ls hM hT hl => ?_) (by rw [q_endf_0]; exact hM) hT (lv_sub hl [0, 1, 2, 3] rfl)
  refine lv_iload_n X.1 X.2.1 dX8_endsRights_2 rfl (lv_at hl 0 rfl) ?_
  refine lv_aload_n X.1 X.2.1 dX8_endsRights_3 rfl (lv_at hl 1 rfl) ?_
  refine mr_get X hT fl_RX8_127 (hM.1) rfl dX8_endsRights_4 ?_
  refine lv_icmp_ge X.1 X.2.1 (tgt := 93) dX8_endsRights_7 (by decide) (fun c7 => ?_) (fun c7 => ?_)
  · skip
    have hkn := mm_exit hk (show ct x 10 < 2 ^ 31 by omega) c7
    subst hkn
    exact mr_vret X hT hret (⟨rfl, hM⟩) (Nat.le_of_ble_eq_true rfl) (Nat.le_of_ble_eq_true rfl) dX8_endsRights_93
  · skip
    have hkl := mm_stay hk (show ct x 10 < 2 ^ 31 by omega) c7
    refine mw_join hT 35 0 0 (fun r M1 => r = bI (decide (cg x 6 k = pp) && decide (cg x 7 k = mm)) ∧ MA G hm ad (cf x 9 (q_endf x pp mm k)) lst M1) (fun r M1 H locs hp hT => ?_) (fun J35 => ?_)
    · obtain ⟨rfl, hM⟩ := hp
      refine lv_istore X.1 X.2.1 dX8_endsRights_35 hl (by decide) rfl (fun ls hl => ?_)
      refine lv_aload_n X.1 X.2.1 dX8_endsRights_37 rfl (lv_at hl 2 rfl) ?_
      refine mr_get X hT fl_RX8_29 (hM.1) rfl dX8_endsRights_38 ?_
      refine lv_iload_n X.1 X.2.1 dX8_endsRights_41 rfl (lv_at hl 1 rfl) ?_
      refine mw_join hT 86 0 0 (fun r M1 => r = q_endf x pp mm (k + 1) k ∧ MA G hm ad (cf x 9 (q_endf x pp mm k)) lst M1) (fun r M1 H locs hp hT => ?_) (fun J86 => ?_)
      · obtain ⟨rfl, hM⟩ := hp
        refine mm_iast X hT hM (k := 9) (N := 2000) (j := k) rfl (by decide) (by decide) (by omega) dX8_endsRights_86 (fun M1 H locs hM hT => ?_)
        refine lv_iinc X.1 X.2.1 (k := 1) (v := nI (k + 1)) dX8_endsRights_87 hl rfl (mm_inc k) (by decide) rfl (fun ls hl => ?_)
        refine lv_goto X.1 X.2.1 (tgt := 2) dX8_endsRights_90 (by decide) ?_
        rw [q_endf_s] at hM
        refine W.widen (k := 0) (n := 0) (Nat.le_of_ble_eq_true rfl) (Nat.le_of_ble_eq_true rfl) ?_
        exact ih (by omega) _ _ _ _ (hM) hT (lv_sub hl [0, 2, 3, 4] rfl)
      · skip
        refine lv_iload X.1 X.2.1 dX8_endsRights_42 (lv_at hl 0 rfl) ?_
        refine lv_if_eq X.1 X.2.1 (tgt := 80) dX8_endsRights_44 (by decide) (fun c44 => ?_) (fun c44 => ?_)
        · skip
          refine lv_aload_n X.1 X.2.1 dX8_endsRights_80 rfl (lv_at hl 2 rfl) ?_
          refine mr_get X hT fl_RX8_29 (hM.1) rfl dX8_endsRights_81 ?_
          refine lv_iload_n X.1 X.2.1 dX8_endsRights_84 rfl (lv_at hl 1 rfl) ?_
          refine mm_iald X hT hM (k := 9) (N := 2000) (j := k) rfl (by decide) (by decide) (by omega) dX8_endsRights_85 ?_
          refine mm_top (w := cg x 9 k) (q_endf_k _ _ _ _) ?_
          refine W.widen (k := 0) (n := 0) (Nat.le_of_ble_eq_true rfl) (Nat.le_of_ble_eq_true rfl) ?_
          exact J86 _ _ _ _ ⟨by unfold q_endf q_hold1; first | (simp [bI_0.mp c44]; done) | (simp [bI_n.mp c44, show ¬ cg x 8 k ≤ q_now x from Int32.not_le.mpr c57]; done) | (simp [bI_n.mp c44, show ¬ q_now x < cg x 9 k from Int32.not_lt.mpr c70]; done) | (simp [bI_n.mp c44, show cg x 8 k ≤ q_now x from Int32.not_lt.mp c57, show q_now x < cg x 9 k from Int32.not_le.mp c70]; done), hM⟩ hT
        · skip
          refine lv_aload_n X.1 X.2.1 dX8_endsRights_47 rfl (lv_at hl 2 rfl) ?_
          refine mr_get X hT fl_RX8_26 (hM.1) rfl dX8_endsRights_48 ?_
          refine lv_iload_n X.1 X.2.1 dX8_endsRights_51 rfl (lv_at hl 1 rfl) ?_
          refine mm_iald X hT hM (k := 8) (N := 2000) (j := k) rfl (by decide) (by decide) (by omega) dX8_endsRights_52 ?_
          refine mm_top (w := cg x 8 k) (rfl) ?_
          refine lv_aload_n X.1 X.2.1 dX8_endsRights_53 rfl (lv_at hl 2 rfl) ?_
          refine mr_get X hT fl_RX8_119 (hM.1) rfl dX8_endsRights_54 ?_
          refine lv_icmp_gt X.1 X.2.1 (tgt := 80) dX8_endsRights_57 (by decide) (fun c57 => ?_) (fun c57 => ?_)
          · skip
            refine lv_aload_n X.1 X.2.1 dX8_endsRights_80 rfl (lv_at hl 2 rfl) ?_
            refine mr_get X hT fl_RX8_29 (hM.1) rfl dX8_endsRights_81 ?_
            refine lv_iload_n X.1 X.2.1 dX8_endsRights_84 rfl (lv_at hl 1 rfl) ?_
            refine mm_iald X hT hM (k := 9) (N := 2000) (j := k) rfl (by decide) (by decide) (by omega) dX8_endsRights_85 ?_
            refine mm_top (w := cg x 9 k) (q_endf_k _ _ _ _) ?_
            refine W.widen (k := 0) (n := 0) (Nat.le_of_ble_eq_true rfl) (Nat.le_of_ble_eq_true rfl) ?_
            exact J86 _ _ _ _ ⟨by unfold q_endf q_hold1; first | (simp [bI_0.mp c44]; done) | (simp [bI_n.mp c44, show ¬ cg x 8 k ≤ q_now x from Int32.not_le.mpr c57]; done) | (simp [bI_n.mp c44, show ¬ q_now x < cg x 9 k from Int32.not_lt.mpr c70]; done) | (simp [bI_n.mp c44, show cg x 8 k ≤ q_now x from Int32.not_lt.mp c57, show q_now x < cg x 9 k from Int32.not_le.mp c70]; done), hM⟩ hT
          · skip
            refine lv_aload_n X.1 X.2.1 dX8_endsRights_60 rfl (lv_at hl 2 rfl) ?_
            refine mr_get X hT fl_RX8_119 (hM.1) rfl dX8_endsRights_61 ?_
            refine lv_aload_n X.1 X.2.1 dX8_endsRights_64 rfl (lv_at hl 2 rfl) ?_
            refine mr_get X hT fl_RX8_29 (hM.1) rfl dX8_endsRights_65 ?_
            refine lv_iload_n X.1 X.2.1 dX8_endsRights_68 rfl (lv_at hl 1 rfl) ?_
            refine mm_iald X hT hM (k := 9) (N := 2000) (j := k) rfl (by decide) (by decide) (by omega) dX8_endsRights_69 ?_
            refine mm_top (w := cg x 9 k) (q_endf_k _ _ _ _) ?_
            refine lv_icmp_ge X.1 X.2.1 (tgt := 80) dX8_endsRights_70 (by decide) (fun c70 => ?_) (fun c70 => ?_)
            · skip
              refine lv_aload_n X.1 X.2.1 dX8_endsRights_80 rfl (lv_at hl 2 rfl) ?_
              refine mr_get X hT fl_RX8_29 (hM.1) rfl dX8_endsRights_81 ?_
              refine lv_iload_n X.1 X.2.1 dX8_endsRights_84 rfl (lv_at hl 1 rfl) ?_
              refine mm_iald X hT hM (k := 9) (N := 2000) (j := k) rfl (by decide) (by decide) (by omega) dX8_endsRights_85 ?_
              refine mm_top (w := cg x 9 k) (q_endf_k _ _ _ _) ?_
              refine W.widen (k := 0) (n := 0) (Nat.le_of_ble_eq_true rfl) (Nat.le_of_ble_eq_true rfl) ?_
              exact J86 _ _ _ _ ⟨by unfold q_endf q_hold1; first | (simp [bI_0.mp c44]; done) | (simp [bI_n.mp c44, show ¬ cg x 8 k ≤ q_now x from Int32.not_le.mpr c57]; done) | (simp [bI_n.mp c44, show ¬ q_now x < cg x 9 k from Int32.not_lt.mpr c70]; done) | (simp [bI_n.mp c44, show cg x 8 k ≤ q_now x from Int32.not_lt.mp c57, show q_now x < cg x 9 k from Int32.not_le.mp c70]; done), hM⟩ hT
            · skip
              refine lv_aload_n X.1 X.2.1 dX8_endsRights_73 rfl (lv_at hl 2 rfl) ?_
              refine mr_get X hT fl_RX8_119 (hM.1) rfl dX8_endsRights_74 ?_
              refine mm_top (w := q_now x) (rfl) ?_
              refine lv_goto X.1 X.2.1 (tgt := 86) dX8_endsRights_77 (by decide) ?_
              refine W.widen (k := 0) (n := 0) (Nat.le_of_ble_eq_true rfl) (Nat.le_of_ble_eq_true rfl) ?_
              exact J86 _ _ _ _ ⟨by unfold q_endf q_hold1; first | (simp [bI_0.mp c44]; done) | (simp [bI_n.mp c44, show ¬ cg x 8 k ≤ q_now x from Int32.not_le.mpr c57]; done) | (simp [bI_n.mp c44, show ¬ q_now x < cg x 9 k from Int32.not_lt.mpr c70]; done) | (simp [bI_n.mp c44, show cg x 8 k ≤ q_now x from Int32.not_lt.mp c57, show q_now x < cg x 9 k from Int32.not_le.mp c70]; done), hM⟩ hT
    · skip
      refine lv_aload_n X.1 X.2.1 dX8_endsRights_10 rfl (lv_at hl 1 rfl) ?_
      refine mr_get X hT fl_RX8_20 (hM.1) rfl dX8_endsRights_11 ?_
      refine lv_iload_n X.1 X.2.1 dX8_endsRights_14 rfl (lv_at hl 0 rfl) ?_
      refine mm_iald X hT hM (k := 6) (N := 2000) (j := k) rfl (by decide) (by decide) (by omega) dX8_endsRights_15 ?_
      refine mm_top (w := cg x 6 k) (rfl) ?_
      refine lv_iload_n X.1 X.2.1 dX8_endsRights_16 rfl (lv_at hl 2 rfl) ?_
      refine lv_icmp_ne X.1 X.2.1 (tgt := 34) dX8_endsRights_17 (by decide) (fun c17 => ?_) (fun c17 => ?_)
      · skip
        refine lv_iconst X.1 X.2.1 (v := 0) dX8_endsRights_34 (by decide) ?_
        refine W.widen (k := 0) (n := 0) (Nat.le_of_ble_eq_true rfl) (Nat.le_of_ble_eq_true rfl) ?_
        exact J35 _ _ _ _ ⟨by first | (simp [bI, c17]; done) | (simp [bI, c27]; done) | (simp [bI, c17, c27]; done), hM⟩ hT
      · skip
        refine lv_aload_n X.1 X.2.1 dX8_endsRights_20 rfl (lv_at hl 1 rfl) ?_
        refine mr_get X hT fl_RX8_23 (hM.1) rfl dX8_endsRights_21 ?_
        refine lv_iload_n X.1 X.2.1 dX8_endsRights_24 rfl (lv_at hl 0 rfl) ?_
        refine mm_iald X hT hM (k := 7) (N := 2000) (j := k) rfl (by decide) (by decide) (by omega) dX8_endsRights_25 ?_
        refine mm_top (w := cg x 7 k) (rfl) ?_
        refine lv_iload_n X.1 X.2.1 dX8_endsRights_26 rfl (lv_at hl 3 rfl) ?_
        refine lv_icmp_ne X.1 X.2.1 (tgt := 34) dX8_endsRights_27 (by decide) (fun c27 => ?_) (fun c27 => ?_)
        · skip
          refine lv_iconst X.1 X.2.1 (v := 0) dX8_endsRights_34 (by decide) ?_
          refine W.widen (k := 0) (n := 0) (Nat.le_of_ble_eq_true rfl) (Nat.le_of_ble_eq_true rfl) ?_
          exact J35 _ _ _ _ ⟨by first | (simp [bI, c17]; done) | (simp [bI, c27]; done) | (simp [bI, c17, c27]; done), hM⟩ hT
        · skip
          refine lv_iconst X.1 X.2.1 (v := 1) dX8_endsRights_30 (by decide) ?_
          refine lv_goto X.1 X.2.1 (tgt := 35) dX8_endsRights_31 (by decide) ?_
          refine W.widen (k := 0) (n := 0) (Nat.le_of_ble_eq_true rfl) (Nat.le_of_ble_eq_true rfl) ?_
          exact J35 _ _ _ _ ⟨by first | (simp [bI, c17]; done) | (simp [bI, c27]; done) | (simp [bI, c17, c27]; done), hM⟩ hT

abbrev rm_X8_deniesAsks : Room := { frames := 0, cells := 0, slots := 0, locals := 0 }
set_option maxHeartbeats 4000000 in
set_option maxRecDepth 100000 in
theorem m_deniesAsks {l : Launch} (hfl : l.stackTraces = false) {G : mw_G} {hm : Nat} {ad : Nat → Nat} {x : s_T} {lst : Int32} {pp mm : Int32} {M : mw_M} (hM : MA G hm ad x lst M) (hi : q_inv 512 x) : mw_Met l G yX8_deniesAsks (.code yX8_deniesAsks cX8_deniesAsks 5 none) rm_X8_deniesAsks [.ref hm, .int pp, .int mm] M (mw_pv (fun M1 => MA G hm ad (q_denies x pp mm) lst M1)) := by
  refine mw_of hfl (by decide) (Nat.le_of_ble_eq_true rfl) ?_
  intro zp ze zs zm zb zh zc ls X hin hret hT hl
  have hl : lv_has ls 5 [(0, .ref hm), (1, .int pp), (2, .int mm)] := hl
  obtain ⟨⟨i2, i4, i5, i10, i17, i22, i29, i32⟩, hr3, hr6, hr11, hr18, hr23, hz21, hz28, hlb⟩ := id hi
  refine lv_iconst X.1 X.2.1 (v := 0) dX8_deniesAsks_0 (by decide) ?_
  refine lv_istore_n X.1 X.2.1 dX8_deniesAsks_1 rfl hl (by decide) rfl (fun ls hl => ?_)
  refine W.widen (k := 0) (n := 0) (Nat.le_of_ble_eq_true rfl) (Nat.le_of_ble_eq_true rfl) ?_
  refine mw_loop (nL := 5) (n := ct x 17) (fun k M1 => MA G hm ad (cf x 15 (q_denyf x pp mm k)) lst M1) (fun k => [(3, .int (nI k)), (0, .ref hm), (1, .int pp), (2, .int mm)]) (fun k hk ih M1 H locs ls hM hT hl => ?_) (by rw [q_denyf_0]; exact hM) hT (lv_sub hl [0, 1, 2, 3] rfl)
  refine lv_iload_n X.1 X.2.1 dX8_deniesAsks_2 rfl (lv_at hl 0 rfl) ?_
  refine lv_aload_n X.1 X.2.1 dX8_deniesAsks_3 rfl (lv_at hl 1 rfl) ?_
  refine mr_get X hT fl_RX8_107 (hM.1) rfl dX8_deniesAsks_4 ?_
  refine lv_icmp_ge X.1 X.2.1 (tgt := 73) dX8_deniesAsks_7 (by decide) (fun c7 => ?_) (fun c7 => ?_)
  · skip
    have hkn := mm_exit hk (show ct x 17 < 2 ^ 31 by omega) c7
    subst hkn
    exact mr_vret X hT hret (⟨rfl, hM⟩) (Nat.le_of_ble_eq_true rfl) (Nat.le_of_ble_eq_true rfl) dX8_deniesAsks_73
  · skip
    have hkl := mm_stay hk (show ct x 17 < 2 ^ 31 by omega) c7
    refine mw_join hT 44 0 0 (fun r M1 => r = bI (q_deny1 x pp mm k) ∧ MA G hm ad (cf x 15 (q_denyf x pp mm k)) lst M1) (fun r M1 H locs hp hT => ?_) (fun J44 => ?_)
    · obtain ⟨rfl, hM⟩ := hp
      refine lv_istore X.1 X.2.1 dX8_deniesAsks_44 hl (by decide) rfl (fun ls hl => ?_)
      refine lv_aload_n X.1 X.2.1 dX8_deniesAsks_46 rfl (lv_at hl 2 rfl) ?_
      refine mr_get X hT fl_RX8_44 (hM.1) rfl dX8_deniesAsks_47 ?_
      refine lv_iload_n X.1 X.2.1 dX8_deniesAsks_50 rfl (lv_at hl 1 rfl) ?_
      refine mw_join hT 66 0 0 (fun r M1 => r = q_denyf x pp mm (k + 1) k ∧ MA G hm ad (cf x 15 (q_denyf x pp mm k)) lst M1) (fun r M1 H locs hp hT => ?_) (fun J66 => ?_)
      · obtain ⟨rfl, hM⟩ := hp
        refine mm_iast X hT hM (k := 15) (N := 2000) (j := k) rfl (by decide) (by decide) (by omega) dX8_deniesAsks_66 (fun M1 H locs hM hT => ?_)
        refine lv_iinc X.1 X.2.1 (k := 1) (v := nI (k + 1)) dX8_deniesAsks_67 hl rfl (mm_inc k) (by decide) rfl (fun ls hl => ?_)
        refine lv_goto X.1 X.2.1 (tgt := 2) dX8_deniesAsks_70 (by decide) ?_
        rw [q_denyf_s] at hM
        refine W.widen (k := 0) (n := 0) (Nat.le_of_ble_eq_true rfl) (Nat.le_of_ble_eq_true rfl) ?_
        exact ih (by omega) _ _ _ _ (hM) hT (lv_sub hl [0, 2, 3, 4] rfl)
      · skip
        refine lv_iload X.1 X.2.1 dX8_deniesAsks_51 (lv_at hl 0 rfl) ?_
        refine lv_if_eq X.1 X.2.1 (tgt := 60) dX8_deniesAsks_53 (by decide) (fun c53 => ?_) (fun c53 => ?_)
        · skip
          refine lv_aload_n X.1 X.2.1 dX8_deniesAsks_60 rfl (lv_at hl 2 rfl) ?_
          refine mr_get X hT fl_RX8_44 (hM.1) rfl dX8_deniesAsks_61 ?_
          refine lv_iload_n X.1 X.2.1 dX8_deniesAsks_64 rfl (lv_at hl 1 rfl) ?_
          refine mm_iald X hT hM (k := 15) (N := 2000) (j := k) rfl (by decide) (by decide) (by omega) dX8_deniesAsks_65 ?_
          refine mm_top (w := cg x 15 k) (q_denyf_k _ _ _ _) ?_
          refine W.widen (k := 0) (n := 0) (Nat.le_of_ble_eq_true rfl) (Nat.le_of_ble_eq_true rfl) ?_
          exact J66 _ _ _ _ ⟨by unfold q_denyf; first | (simp [bI_0.mp c53]; done) | (simp [bI_n.mp c53]; done), hM⟩ hT
        · skip
          refine lv_iconst X.1 X.2.1 (v := 2) dX8_deniesAsks_56 (by decide) ?_
          refine lv_goto X.1 X.2.1 (tgt := 66) dX8_deniesAsks_57 (by decide) ?_
          refine W.widen (k := 0) (n := 0) (Nat.le_of_ble_eq_true rfl) (Nat.le_of_ble_eq_true rfl) ?_
          exact J66 _ _ _ _ ⟨by unfold q_denyf; first | (simp [bI_0.mp c53]; done) | (simp [bI_n.mp c53]; done), hM⟩ hT
    · skip
      refine lv_aload_n X.1 X.2.1 dX8_deniesAsks_10 rfl (lv_at hl 1 rfl) ?_
      refine mr_get X hT fl_RX8_32 (hM.1) rfl dX8_deniesAsks_11 ?_
      refine lv_iload_n X.1 X.2.1 dX8_deniesAsks_14 rfl (lv_at hl 0 rfl) ?_
      refine mm_iald X hT hM (k := 11) (N := 2000) (j := k) rfl (by decide) (by decide) (by omega) dX8_deniesAsks_15 ?_
      refine mm_top (w := cg x 11 k) (rfl) ?_
      refine lv_iload_n X.1 X.2.1 dX8_deniesAsks_16 rfl (lv_at hl 2 rfl) ?_
      refine lv_icmp_ne X.1 X.2.1 (tgt := 43) dX8_deniesAsks_17 (by decide) (fun c17 => ?_) (fun c17 => ?_)
      · skip
        refine lv_iconst X.1 X.2.1 (v := 0) dX8_deniesAsks_43 (by decide) ?_
        refine W.widen (k := 0) (n := 0) (Nat.le_of_ble_eq_true rfl) (Nat.le_of_ble_eq_true rfl) ?_
        exact J44 _ _ _ _ ⟨by unfold q_deny1; first | (simp [bI, c17]; done) | (simp [bI, c27]; done) | (simp [bI, c36]; done) | (simp [bI, c17, c27, c36]; done), hM⟩ hT
      · skip
        refine lv_aload_n X.1 X.2.1 dX8_deniesAsks_20 rfl (lv_at hl 1 rfl) ?_
        refine mr_get X hT fl_RX8_35 (hM.1) rfl dX8_deniesAsks_21 ?_
        refine lv_iload_n X.1 X.2.1 dX8_deniesAsks_24 rfl (lv_at hl 0 rfl) ?_
        refine mm_iald X hT hM (k := 12) (N := 2000) (j := k) rfl (by decide) (by decide) (by omega) dX8_deniesAsks_25 ?_
        refine mm_top (w := cg x 12 k) (rfl) ?_
        refine lv_iload_n X.1 X.2.1 dX8_deniesAsks_26 rfl (lv_at hl 3 rfl) ?_
        refine lv_icmp_ne X.1 X.2.1 (tgt := 43) dX8_deniesAsks_27 (by decide) (fun c27 => ?_) (fun c27 => ?_)
        · skip
          refine lv_iconst X.1 X.2.1 (v := 0) dX8_deniesAsks_43 (by decide) ?_
          refine W.widen (k := 0) (n := 0) (Nat.le_of_ble_eq_true rfl) (Nat.le_of_ble_eq_true rfl) ?_
          exact J44 _ _ _ _ ⟨by unfold q_deny1; first | (simp [bI, c17]; done) | (simp [bI, c27]; done) | (simp [bI, c36]; done) | (simp [bI, c17, c27, c36]; done), hM⟩ hT
        · skip
          refine lv_aload_n X.1 X.2.1 dX8_deniesAsks_30 rfl (lv_at hl 1 rfl) ?_
          refine mr_get X hT fl_RX8_44 (hM.1) rfl dX8_deniesAsks_31 ?_
          refine lv_iload_n X.1 X.2.1 dX8_deniesAsks_34 rfl (lv_at hl 0 rfl) ?_
          refine mm_iald X hT hM (k := 15) (N := 2000) (j := k) rfl (by decide) (by decide) (by omega) dX8_deniesAsks_35 ?_
          refine mm_top (w := cg x 15 k) (q_denyf_k _ _ _ _) ?_
          refine lv_if_ne X.1 X.2.1 (tgt := 43) dX8_deniesAsks_36 (by decide) (fun c36 => ?_) (fun c36 => ?_)
          · skip
            refine lv_iconst X.1 X.2.1 (v := 0) dX8_deniesAsks_43 (by decide) ?_
            refine W.widen (k := 0) (n := 0) (Nat.le_of_ble_eq_true rfl) (Nat.le_of_ble_eq_true rfl) ?_
            exact J44 _ _ _ _ ⟨by unfold q_deny1; first | (simp [bI, c17]; done) | (simp [bI, c27]; done) | (simp [bI, c36]; done) | (simp [bI, c17, c27, c36]; done), hM⟩ hT
          · skip
            refine lv_iconst X.1 X.2.1 (v := 1) dX8_deniesAsks_39 (by decide) ?_
            refine lv_goto X.1 X.2.1 (tgt := 44) dX8_deniesAsks_40 (by decide) ?_
            refine W.widen (k := 0) (n := 0) (Nat.le_of_ble_eq_true rfl) (Nat.le_of_ble_eq_true rfl) ?_
            exact J44 _ _ _ _ ⟨by unfold q_deny1; first | (simp [bI, c17]; done) | (simp [bI, c27]; done) | (simp [bI, c36]; done) | (simp [bI, c17, c27, c36]; done), hM⟩ hT

abbrev rm_X8_shuts : Room := { frames := 1, cells := 0, slots := 0, locals := 24 }
set_option maxHeartbeats 4000000 in
set_option maxRecDepth 100000 in
theorem m_shuts {l : Launch} (hfl : l.stackTraces = false) {G : mw_G} {hm : Nat} {ad : Nat → Nat} {x : s_T} {lst : Int32} {k : Nat} {M : mw_M} (hM : MA G hm ad x lst M) (hk : k < 2000) (hn : ct x 32 < 8000) : mw_Met l G yX8_shuts (.code yX8_shuts cX8_shuts 2 none) rm_X8_shuts [.ref hm, .int (nI k)] M (mw_pv (fun M1 => MA G hm ad (q_shut x k) lst M1)) := by
  refine mw_of hfl (by decide) (Nat.le_of_ble_eq_true rfl) ?_
  intro zp ze zs zm zb zh zc ls X hin hret hT hl
  have hl : lv_has ls 2 [(0, .ref hm), (1, .int (nI k))] := hl
  refine lv_aload_n X.1 X.2.1 dX8_shuts_0 rfl (lv_at hl 0 rfl) ?_
  refine mr_get X hT fl_RX8_68 (hM.1) rfl dX8_shuts_1 ?_
  refine lv_iload_n X.1 X.2.1 dX8_shuts_4 rfl (lv_at hl 1 rfl) ?_
  refine lv_iconst X.1 X.2.1 (v := 0) dX8_shuts_5 (by decide) ?_
  refine mm_zast X hT hM (k := 25) (N := 2000) (j := k) rfl (by decide) (by decide) (hk) (rfl) dX8_shuts_6 (fun M1 H locs hM hT => ?_)
  refine lv_aload_n X.1 X.2.1 dX8_shuts_7 rfl (lv_at hl 0 rfl) ?_
  refine mr_get X hT fl_RX8_74 (hM.1) rfl dX8_shuts_8 ?_
  refine lv_iload_n X.1 X.2.1 dX8_shuts_11 rfl (lv_at hl 1 rfl) ?_
  refine lv_iconst X.1 X.2.1 (v := -1) dX8_shuts_12 (by decide) ?_
  refine mm_iast X hT hM (k := 27) (N := 2000) (j := k) rfl (by decide) (by decide) (hk) dX8_shuts_13 (fun M1 H locs hM hT => ?_)
  refine lv_aload_n X.1 X.2.1 dX8_shuts_14 rfl (lv_at hl 0 rfl) ?_
  refine lv_bipush X.1 X.2.1 (v := 6) dX8_shuts_15 (by decide) ?_
  refine lv_aload_n X.1 X.2.1 dX8_shuts_17 rfl (lv_at hl 0 rfl) ?_
  refine mr_get X hT fl_RX8_62 (hM.1) rfl dX8_shuts_18 ?_
  refine lv_iload_n X.1 X.2.1 dX8_shuts_21 rfl (lv_at hl 1 rfl) ?_
  refine mm_iald X hT hM (k := 23) (N := 2000) (j := k) rfl (by decide) (by decide) (hk) dX8_shuts_22 ?_
  refine mm_top (w := cg x 23 k) (rfl) ?_
  refine lv_aload_n X.1 X.2.1 dX8_shuts_23 rfl (lv_at hl 0 rfl) ?_
  refine mr_get X hT fl_RX8_65 (hM.1) rfl dX8_shuts_24 ?_
  refine lv_iload_n X.1 X.2.1 dX8_shuts_27 rfl (lv_at hl 1 rfl) ?_
  refine mm_iald X hT hM (k := 24) (N := 2000) (j := k) rfl (by decide) (by decide) (hk) dX8_shuts_28 ?_
  refine mm_top (w := cg x 24 k) (rfl) ?_
  refine mr_g X hT (fun hT' => mr_runV X hT' cb_RX8_130 kw870 kp34 kw871 (m_writes hfl hM hn) (mr_cell X hT hM.1 rfl) rfl rfl hl.1 ⟨Nat.le_of_ble_eq_true rfl, Nat.le_of_ble_eq_true rfl⟩ (Nat.le_of_ble_eq_true rfl) dX8_shuts_29 ⟨Nat.le_of_ble_eq_true rfl, Nat.le_of_ble_eq_true rfl⟩) (fun v M1 H locs hp hT => ?_)
  obtain ⟨rfl, hM⟩ := hp
  refine W.eq (g2 := F0 zm 32 ls _) rfl ?_
  exact mr_vret X hT hret (⟨rfl, hM⟩) (Nat.le_of_ble_eq_true rfl) (Nat.le_of_ble_eq_true rfl) dX8_shuts_32

abbrev rm_X8_closes : Room := { frames := 2, cells := 0, slots := 0, locals := 45 }
set_option maxHeartbeats 4000000 in
set_option maxRecDepth 100000 in
theorem m_closes {l : Launch} (hfl : l.stackTraces = false) {G : mw_G} {hm : Nat} {ad : Nat → Nat} {x : s_T} {lst : Int32} {also : Int32} {M : mw_M} (hM : MA G hm ad x lst M) (hi : q_inv 512 x) : mw_Met l G yX8_closes (.code yX8_closes cX8_closes 4 (some .int)) rm_X8_closes [.ref hm, .int also] M (mw_pi (fun r M1 => r = (q_closes x also).2 ∧ MA G hm ad ((q_closes x also).1) lst M1)) := by
  refine mw_of hfl (by decide) (Nat.le_of_ble_eq_true rfl) ?_
  intro zp ze zs zm zb zh zc ls X hin hret hT hl
  have hl : lv_has ls 4 [(0, .ref hm), (1, .int also)] := hl
  obtain ⟨⟨i2, i4, i5, i10, i17, i22, i29, i32⟩, hr3, hr6, hr11, hr18, hr23, hz21, hz28, hlb⟩ := id hi
  refine lv_iconst X.1 X.2.1 (v := 0) dX8_closes_0 (by decide) ?_
  refine lv_istore_n X.1 X.2.1 dX8_closes_1 rfl hl (by decide) rfl (fun ls hl => ?_)
  refine lv_iconst X.1 X.2.1 (v := 0) dX8_closes_2 (by decide) ?_
  refine lv_istore_n X.1 X.2.1 dX8_closes_3 rfl hl (by decide) rfl (fun ls hl => ?_)
  refine W.widen (k := 0) (n := 0) (Nat.le_of_ble_eq_true rfl) (Nat.le_of_ble_eq_true rfl) ?_
  refine mw_loop (nL := 4) (n := ct x 29) (fun k M1 => MA G hm ad ((q_close x also k).1) lst M1) (fun k => [(3, .int (nI k)), (2, .int (q_close x also k).2), (0, .ref hm), (1, .int also)]) (fun k hk ih M1 H locs ls hM hT hl => ?_) hM hT (lv_sub hl [0, 1, 2, 3] rfl)
  have hal := q_al_close x also k
  have hiy := q_inv_close hi also k hk
  obtain ⟨y, ey⟩ : ∃ y, y = (q_close x also k).1 := ⟨_, rfl⟩
  rw [← ey] at hM hal hiy
  have e29 : ct y 29 = ct x 29 := hal.1 29 (by decide)
  obtain ⟨⟨j2, j4, j5, j10, j17, j22, j29, j32⟩, -⟩ := id hiy
  refine lv_iload_n X.1 X.2.1 dX8_closes_4 rfl (lv_at hl 0 rfl) ?_
  refine lv_aload_n X.1 X.2.1 dX8_closes_5 rfl (lv_at hl 2 rfl) ?_
  refine mr_get X hT fl_RX8_113 (hM.1) rfl dX8_closes_6 ?_
  refine lv_icmp_ge X.1 X.2.1 (tgt := 79) dX8_closes_9 (by decide) (fun c9 => ?_) (fun c9 => ?_)
  · skip
    have hkn := mm_exit hk (show ct x 29 < 2 ^ 31 by omega) (e29 ▸ c9)
    subst hkn
    refine lv_iload_n X.1 X.2.1 dX8_closes_79 rfl (lv_at hl 1 rfl) ?_
    exact mr_iret X hT hret (⟨_, rfl, rfl, by show MA G hm ad (q_close x also (ct x 29)).1 lst _; rw [← ey]; exact hM⟩) (Nat.le_of_ble_eq_true rfl) (Nat.le_of_ble_eq_true rfl) dX8_closes_80
  · skip
    have hkl := mm_stay hk (show ct x 29 < 2 ^ 31 by omega) (e29 ▸ c9)
    refine lv_aload_n X.1 X.2.1 dX8_closes_12 rfl (lv_at hl 2 rfl) ?_
    refine mr_get X hT fl_RX8_68 (hM.1) rfl dX8_closes_13 ?_
    refine lv_iload_n X.1 X.2.1 dX8_closes_16 rfl (lv_at hl 0 rfl) ?_
    refine mm_zald X hT hM (k := 25) (N := 2000) (j := k) rfl (by decide) (by decide) (by omega) dX8_closes_17 ?_
    refine lv_if_eq X.1 X.2.1 (tgt := 73) dX8_closes_18 (by decide) (fun c18 => ?_) (fun c18 => ?_)
    · skip
      have hq : q_end1 y also k = false := by unfold q_end1; simp [c18]
      refine lv_iinc X.1 X.2.1 (k := 0) (v := nI (k + 1)) dX8_closes_73 hl rfl (mm_inc k) (by decide) rfl (fun ls hl => ?_)
      refine lv_goto X.1 X.2.1 (tgt := 4) dX8_closes_76 (by decide) ?_
      refine W.widen (k := 0) (n := 0) (Nat.le_of_ble_eq_true rfl) (Nat.le_of_ble_eq_true rfl) ?_
      first
        | exact ih (by omega) _ _ _ _ (by rw [q_close_t (ey ▸ hq), ← ey]; exact hM) hT (by rw [q_close_t (ey ▸ hq)]; exact lv_sub hl [0, 1, 2, 3] rfl)
        | exact ih (by omega) _ _ _ _ (by rw [q_close_f (ey ▸ hq), ← ey]; exact hM) hT (by rw [q_close_f (ey ▸ hq)]; exact lv_sub hl [0, 1, 2, 3] rfl)
    · skip
      refine mw_joinN hT 65 0 0 (fun M1 => q_end1 y also k = true ∧ MA G hm ad (y) lst M1) (fun M1 H locs hp hT => ?_) (fun J65 => ?_)
      · obtain ⟨hq, hM⟩ := hp
        refine lv_aload_n X.1 X.2.1 dX8_closes_65 rfl (lv_at hl 2 rfl) ?_
        refine lv_iload_n X.1 X.2.1 dX8_closes_66 rfl (lv_at hl 0 rfl) ?_
        refine mr_g X hT (fun hT' => mr_runV X hT' cb_RX8_137 kw866 kp33 kw867 (m_shuts hfl hM (by omega) (by omega)) (mr_cell X hT hM.1 rfl) rfl rfl hl.1 ⟨Nat.le_of_ble_eq_true rfl, Nat.le_of_ble_eq_true rfl⟩ (Nat.le_of_ble_eq_true rfl) dX8_closes_67 ⟨Nat.le_of_ble_eq_true rfl, Nat.le_of_ble_eq_true rfl⟩) (fun v M1 H locs hp hT => ?_)
        obtain ⟨rfl, hM⟩ := hp
        refine W.eq (g2 := F0 zm 70 ls _) rfl ?_
        refine lv_iinc X.1 X.2.1 (k := 1) (v := (q_close x also k).2 + 1) dX8_closes_70 hl rfl (rfl) (by decide) rfl (fun ls hl => ?_)
        refine lv_iinc X.1 X.2.1 (k := 1) (v := nI (k + 1)) dX8_closes_73 hl rfl (mm_inc k) (by decide) rfl (fun ls hl => ?_)
        refine lv_goto X.1 X.2.1 (tgt := 4) dX8_closes_76 (by decide) ?_
        refine W.widen (k := 0) (n := 0) (Nat.le_of_ble_eq_true rfl) (Nat.le_of_ble_eq_true rfl) ?_
        first
          | exact ih (by omega) _ _ _ _ (by rw [q_close_t (ey ▸ hq), ← ey]; exact hM) hT (by rw [q_close_t (ey ▸ hq)]; exact lv_sub hl [0, 1, 2, 3] rfl)
          | exact ih (by omega) _ _ _ _ (by rw [q_close_f (ey ▸ hq), ← ey]; exact hM) hT (by rw [q_close_f (ey ▸ hq)]; exact lv_sub hl [0, 1, 2, 3] rfl)
      · skip
        refine lv_iload_n X.1 X.2.1 dX8_closes_21 rfl (lv_at hl 0 rfl) ?_
        refine lv_iload_n X.1 X.2.1 dX8_closes_22 rfl (lv_at hl 3 rfl) ?_
        refine lv_icmp_eq X.1 X.2.1 (tgt := 65) dX8_closes_23 (by decide) (fun c23 => ?_) (fun c23 => ?_)
        · skip
          refine W.widen (k := 0) (n := 0) (Nat.le_of_ble_eq_true rfl) (Nat.le_of_ble_eq_true rfl) ?_
          exact J65 _ _ _ (⟨by unfold q_end1; first | (simp [c18, c23]; done) | (simp [c18, c39]; done) | (simp [c18, bI_0.mp c62]; done), hM⟩) hT
        · skip
          refine lv_aload_n X.1 X.2.1 dX8_closes_26 rfl (lv_at hl 2 rfl) ?_
          refine mr_get X hT fl_RX8_119 (hM.1) rfl dX8_closes_27 ?_
          refine lv_aload_n X.1 X.2.1 dX8_closes_30 rfl (lv_at hl 2 rfl) ?_
          refine mr_get X hT fl_RX8_71 (hM.1) rfl dX8_closes_31 ?_
          refine lv_iload_n X.1 X.2.1 dX8_closes_34 rfl (lv_at hl 0 rfl) ?_
          refine mm_iald X hT hM (k := 26) (N := 2000) (j := k) rfl (by decide) (by decide) (by omega) dX8_closes_35 ?_
          refine lv_isub X.1 X.2.1 dX8_closes_36 ?_
          refine lv_bipush X.1 X.2.1 (v := 15) dX8_closes_37 (by decide) ?_
          refine lv_icmp_ge X.1 X.2.1 (tgt := 65) dX8_closes_39 (by decide) (fun c39 => ?_) (fun c39 => ?_)
          · skip
            refine W.widen (k := 0) (n := 0) (Nat.le_of_ble_eq_true rfl) (Nat.le_of_ble_eq_true rfl) ?_
            exact J65 _ _ _ (⟨by unfold q_end1; first | (simp [c18, c23]; done) | (simp [c18, c39]; done) | (simp [c18, bI_0.mp c62]; done), hM⟩) hT
          · skip
            refine lv_aload_n X.1 X.2.1 dX8_closes_42 rfl (lv_at hl 2 rfl) ?_
            refine lv_aload_n X.1 X.2.1 dX8_closes_43 rfl (lv_at hl 2 rfl) ?_
            refine mr_get X hT fl_RX8_62 (hM.1) rfl dX8_closes_44 ?_
            refine lv_iload_n X.1 X.2.1 dX8_closes_47 rfl (lv_at hl 0 rfl) ?_
            refine mm_iald X hT hM (k := 23) (N := 2000) (j := k) rfl (by decide) (by decide) (by omega) dX8_closes_48 ?_
            refine lv_aload_n X.1 X.2.1 dX8_closes_49 rfl (lv_at hl 2 rfl) ?_
            refine mr_get X hT fl_RX8_65 (hM.1) rfl dX8_closes_50 ?_
            refine lv_iload_n X.1 X.2.1 dX8_closes_53 rfl (lv_at hl 0 rfl) ?_
            refine mm_iald X hT hM (k := 24) (N := 2000) (j := k) rfl (by decide) (by decide) (by omega) dX8_closes_54 ?_
            refine lv_aload_n X.1 X.2.1 dX8_closes_55 rfl (lv_at hl 2 rfl) ?_
            refine mr_get X hT fl_RX8_119 (hM.1) rfl dX8_closes_56 ?_
            refine mr_g X hT (fun hT' => mr_runV X hT' cb_RX8_134 kw862 kp32 kw863 (m_holdsAt hfl hM hiy) (mr_cell X hT hM.1 rfl) rfl rfl hl.1 ⟨Nat.le_of_ble_eq_true rfl, Nat.le_of_ble_eq_true rfl⟩ (Nat.le_of_ble_eq_true rfl) dX8_closes_59 ⟨Nat.le_of_ble_eq_true rfl, Nat.le_of_ble_eq_true rfl⟩) (fun v M1 H locs hp hT => ?_)
            obtain ⟨r, rfl, rfl, hM⟩ := hp
            refine W.eq (g2 := F0 zm 62 ls (.int _ :: _)) rfl ?_
            refine lv_if_ne X.1 X.2.1 (tgt := 73) dX8_closes_62 (by decide) (fun c62 => ?_) (fun c62 => ?_)
            · skip
              have hq : q_end1 y also k = false := by unfold q_end1; simp [c23, Int32.not_le.mpr (Int32.not_le.mp c39), bI_n.mp c62]
              refine lv_iinc X.1 X.2.1 (k := 0) (v := nI (k + 1)) dX8_closes_73 hl rfl (mm_inc k) (by decide) rfl (fun ls hl => ?_)
              refine lv_goto X.1 X.2.1 (tgt := 4) dX8_closes_76 (by decide) ?_
              refine W.widen (k := 0) (n := 0) (Nat.le_of_ble_eq_true rfl) (Nat.le_of_ble_eq_true rfl) ?_
              first
                | exact ih (by omega) _ _ _ _ (by rw [q_close_t (ey ▸ hq), ← ey]; exact hM) hT (by rw [q_close_t (ey ▸ hq)]; exact lv_sub hl [0, 1, 2, 3] rfl)
                | exact ih (by omega) _ _ _ _ (by rw [q_close_f (ey ▸ hq), ← ey]; exact hM) hT (by rw [q_close_f (ey ▸ hq)]; exact lv_sub hl [0, 1, 2, 3] rfl)
            · skip
              refine W.widen (k := 0) (n := 0) (Nat.le_of_ble_eq_true rfl) (Nat.le_of_ble_eq_true rfl) ?_
              exact J65 _ _ _ (⟨by unfold q_end1; first | (simp [c18, c23]; done) | (simp [c18, c39]; done) | (simp [c18, bI_0.mp c62]; done), hM⟩) hT
