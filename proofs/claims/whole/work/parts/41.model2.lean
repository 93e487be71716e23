/-! the calls of the twin -/
theorem g_ok {c : Int32} (h : ¬ bI (decide (c = 0)) = 0) : c = 0 := of_decide_eq_true (bI_n.mp h)
theorem g_no {c : Int32} (h : bI (decide (c = 0)) = 0) : c ≠ 0 := of_decide_eq_false (bI_0.mp h)
theorem d_nef {α : Type} {a b : α} [Decidable (a ≠ b)] (h : a = b) : decide (a ≠ b) = false := decide_eq_false (fun z => z h)
theorem bI_cl {k a b c : Bool} (h : (k && (a && b)) = false) : (0 : Int32) = bI (k && (a && (b && c))) := by
  revert h
  cases k <;> cases a <;> cases b <;> cases c <;> decide
abbrev rm_X8_addPerson : Room := { frames := 1, cells := 0, slots := 0, locals := 23 }
set_option maxHeartbeats 4000000 in
set_option maxRecDepth 100000 in
theorem m_addPerson {l : Launch} (hfl : l.stackTraces = false) {G : mw_G} {hm : Nat} {ad : Nat → Nat} {x : s_T} {lst : Int32} {t : Int32} {M : mw_M} (hM : MA G hm ad x lst M) (hi : q_inv 511 x) : mw_Met l G yX8_addPerson (.code yX8_addPerson cX8_addPerson 2 (some .int)) rm_X8_addPerson [.ref hm, .int t] M (mw_pi (fun r M1 => (f_addPerson_c x t = 0 → r = nI (ct x 2)) ∧ MA G hm ad (if f_addPerson_c x t = 0 then f_addPerson_s x t else x) (f_addPerson_c x t) M1)) := by
  refine mw_of hfl (by decide) (Nat.le_of_ble_eq_true rfl) ?_
  intro zp ze zs zm zb zh zc ls X hin hret hT hl
  have hl : lv_has ls 2 [(0, .ref hm), (1, .int t)] := hl
  obtain ⟨⟨i2, i4, i5, i10, i17, i22, i29, i32⟩, hr3, hr6, hr11, hr18, hr23, hz21, hz28, hlb⟩ := id hi
  have hI := q_inv_mono hi (show 511 ≤ 512 by decide)
  refine lv_aload_n X.1 X.2.1 dX8_addPerson_0 rfl (lv_at hl 0 rfl) ?_
  refine lv_iload_n X.1 X.2.1 dX8_addPerson_1 rfl (lv_at hl 1 rfl) ?_
  refine lv_iconst X.1 X.2.1 (v := 0) dX8_addPerson_2 (by decide) ?_
  refine lv_iconst X.1 X.2.1 (v := 3) dX8_addPerson_3 (by decide) ?_
  refine mr_g X hT (fun hT' => mr_runS X hT' cb_RX8_93 kw830 kw831 (m_in hfl hM) rfl rfl hl.1 ⟨Nat.le_of_ble_eq_true rfl, Nat.le_of_ble_eq_true rfl⟩ (Nat.le_of_ble_eq_true rfl) dX8_addPerson_4 ⟨Nat.le_of_ble_eq_true rfl, Nat.le_of_ble_eq_true rfl⟩) (fun v M1 H locs hp hT => ?_)
  obtain ⟨r, rfl, rfl, hM⟩ := hp
  refine W.eq (g2 := F0 zm 7 ls (.int _ :: _)) rfl ?_
  refine mw_join hT 21 0 0 (fun r M1 => r = bI (decide (ct x 2 < 12)) ∧ MA G hm ad (x) lst M1) (fun r M1 H locs hp hT => ?_) (fun J21 => ?_)
  · obtain ⟨rfl, hM⟩ := hp
    refine lv_iconst X.1 X.2.1 (v := 1) dX8_addPerson_21 (by decide) ?_
    refine mr_g X hT (fun hT' => mr_runV X hT' cb_RX8_123 kw834 kp27 kw835 (m_goes (a := q_in t 0 3) (b := decide (ct x 2 < 12)) (c := true) hfl hM) (mr_cell X hT hM.1 rfl) rfl rfl hl.1 ⟨Nat.le_of_ble_eq_true rfl, Nat.le_of_ble_eq_true rfl⟩ (Nat.le_of_ble_eq_true rfl) dX8_addPerson_22 ⟨Nat.le_of_ble_eq_true rfl, Nat.le_of_ble_eq_true rfl⟩) (fun v M1 H locs hp hT => ?_)
    obtain ⟨r, rfl, rfl, hM⟩ := hp
    refine W.eq (g2 := F0 zm 25 ls (.int _ :: _)) rfl ?_
    refine lv_if_ne X.1 X.2.1 (tgt := 30) dX8_addPerson_25 (by decide) (fun c25 => ?_) (fun c25 => ?_)
    · skip
      have hc : f_addPerson_c x t = 0 := g_ok c25
      obtain ⟨h1, h2, h3⟩ := q_code_ok hc
      have h2 := of_decide_eq_true h2
      refine lv_aload_n X.1 X.2.1 dX8_addPerson_30 rfl (lv_at hl 0 rfl) ?_
      refine mr_get X hT fl_RX8_7 (hM.1) rfl dX8_addPerson_31 ?_
      refine lv_aload_n X.1 X.2.1 dX8_addPerson_34 rfl (lv_at hl 0 rfl) ?_
      refine mr_get X hT fl_RX8_90 (hM.1) rfl dX8_addPerson_35 ?_
      refine lv_iload_n X.1 X.2.1 dX8_addPerson_38 rfl (lv_at hl 1 rfl) ?_
      refine mm_iast X hT hM (k := 0) (N := 12) (j := ct x 2) rfl (by decide) (by decide) (h2) dX8_addPerson_39 (fun M1 H locs hM hT => ?_)
      refine lv_aload_n X.1 X.2.1 dX8_addPerson_40 rfl (lv_at hl 0 rfl) ?_
      refine lv_dup X.1 X.2.1 dX8_addPerson_41 rfl ?_
      refine mr_get X hT fl_RX8_90 (hM.1) rfl dX8_addPerson_42 ?_
      refine lv_iconst X.1 X.2.1 (v := 1) dX8_addPerson_45 (by decide) ?_
      refine lv_iadd X.1 X.2.1 dX8_addPerson_46 ?_
      refine mm_put X hT hM fp_RX8_90 (k := 2) rfl (ct x 2 + 1) (nI_1 _) dX8_addPerson_47 (fun M1 H locs hM hT => ?_)
      refine lv_aload_n X.1 X.2.1 dX8_addPerson_50 rfl (lv_at hl 0 rfl) ?_
      refine mr_get X hT fl_RX8_90 (hM.1) rfl dX8_addPerson_51 ?_
      refine lv_iconst X.1 X.2.1 (v := 1) dX8_addPerson_54 (by decide) ?_
      refine lv_isub X.1 X.2.1 dX8_addPerson_55 ?_
      refine mm_top (w := nI (ct x 2)) (nI_pred _) ?_
      exact mr_iret X hT hret (⟨_, rfl, fun _ => rfl, by rw [if_pos hc]; exact hM⟩) (Nat.le_of_ble_eq_true rfl) (Nat.le_of_ble_eq_true rfl) dX8_addPerson_56
    · skip
      have hc : ¬ f_addPerson_c x t = 0 := g_no c25
      refine lv_iconst X.1 X.2.1 (v := 0) dX8_addPerson_28 (by decide) ?_
      exact mr_iret X hT hret (⟨_, rfl, fun z => absurd z hc, by rw [if_neg hc]; exact hM⟩) (Nat.le_of_ble_eq_true rfl) (Nat.le_of_ble_eq_true rfl) dX8_addPerson_29
  · skip
    refine lv_aload_n X.1 X.2.1 dX8_addPerson_7 rfl (lv_at hl 0 rfl) ?_
    refine mr_get X hT fl_RX8_90 (hM.1) rfl dX8_addPerson_8 ?_
    refine lv_bipush X.1 X.2.1 (v := 12) dX8_addPerson_11 (by decide) ?_
    refine lv_icmp_ge X.1 X.2.1 (tgt := 20) dX8_addPerson_13 (by decide) (fun c13 => ?_) (fun c13 => ?_)
    · skip
      refine lv_iconst X.1 X.2.1 (v := 0) dX8_addPerson_20 (by decide) ?_
      refine W.widen (k := 0) (n := 0) (Nat.le_of_ble_eq_true rfl) (Nat.le_of_ble_eq_true rfl) ?_
      exact J21 _ _ _ _ ⟨by first | (rw [decide_eq_false ((q_12 (n := ct x 2) (by omega) 12 (by decide)).mp c13)]; rfl) | (rw [decide_eq_true (Classical.byContradiction fun z => c13 ((q_12 (n := ct x 2) (by omega) 12 (by decide)).mpr z))]; rfl), hM⟩ hT
    · skip
      refine lv_iconst X.1 X.2.1 (v := 1) dX8_addPerson_16 (by decide) ?_
      refine lv_goto X.1 X.2.1 (tgt := 21) dX8_addPerson_17 (by decide) ?_
      refine W.widen (k := 0) (n := 0) (Nat.le_of_ble_eq_true rfl) (Nat.le_of_ble_eq_true rfl) ?_
      exact J21 _ _ _ _ ⟨by first | (rw [decide_eq_false ((q_12 (n := ct x 2) (by omega) 12 (by decide)).mp c13)]; rfl) | (rw [decide_eq_true (Classical.byContradiction fun z => c13 ((q_12 (n := ct x 2) (by omega) 12 (by decide)).mpr z))]; rfl), hM⟩ hT

abbrev rm_X8_addMachine : Room := { frames := 1, cells := 0, slots := 0, locals := 23 }
set_option maxHeartbeats 4000000 in
set_option maxRecDepth 100000 in
theorem m_addMachine {l : Launch} (hfl : l.stackTraces = false) {G : mw_G} {hm : Nat} {ad : Nat → Nat} {x : s_T} {lst : Int32} {t : Int32} {M : mw_M} (hM : MA G hm ad x lst M) (hi : q_inv 511 x) : mw_Met l G yX8_addMachine (.code yX8_addMachine cX8_addMachine 2 (some .int)) rm_X8_addMachine [.ref hm, .int t] M (mw_pi (fun r M1 => (f_addMachine_c x t = 0 → r = nI (ct x 4)) ∧ MA G hm ad (if f_addMachine_c x t = 0 then f_addMachine_s x t else x) (f_addMachine_c x t) M1)) := by
  refine mw_of hfl (by decide) (Nat.le_of_ble_eq_true rfl) ?_
  intro zp ze zs zm zb zh zc ls X hin hret hT hl
  have hl : lv_has ls 2 [(0, .ref hm), (1, .int t)] := hl
  obtain ⟨⟨i2, i4, i5, i10, i17, i22, i29, i32⟩, hr3, hr6, hr11, hr18, hr23, hz21, hz28, hlb⟩ := id hi
  have hI := q_inv_mono hi (show 511 ≤ 512 by decide)
  refine lv_aload_n X.1 X.2.1 dX8_addMachine_0 rfl (lv_at hl 0 rfl) ?_
  refine lv_iload_n X.1 X.2.1 dX8_addMachine_1 rfl (lv_at hl 1 rfl) ?_
  refine lv_iconst X.1 X.2.1 (v := 0) dX8_addMachine_2 (by decide) ?_
  refine lv_iconst X.1 X.2.1 (v := 3) dX8_addMachine_3 (by decide) ?_
  refine mr_g X hT (fun hT' => mr_runS X hT' cb_RX8_93 kw830 kw831 (m_in hfl hM) rfl rfl hl.1 ⟨Nat.le_of_ble_eq_true rfl, Nat.le_of_ble_eq_true rfl⟩ (Nat.le_of_ble_eq_true rfl) dX8_addMachine_4 ⟨Nat.le_of_ble_eq_true rfl, Nat.le_of_ble_eq_true rfl⟩) (fun v M1 H locs hp hT => ?_)
  obtain ⟨r, rfl, rfl, hM⟩ := hp
  refine W.eq (g2 := F0 zm 7 ls (.int _ :: _)) rfl ?_
  refine mw_join hT 21 0 0 (fun r M1 => r = bI (decide (ct x 4 < 8)) ∧ MA G hm ad (x) lst M1) (fun r M1 H locs hp hT => ?_) (fun J21 => ?_)
  · obtain ⟨rfl, hM⟩ := hp
    refine lv_iconst X.1 X.2.1 (v := 1) dX8_addMachine_21 (by decide) ?_
    refine mr_g X hT (fun hT' => mr_runV X hT' cb_RX8_123 kw834 kp27 kw835 (m_goes (a := q_in t 0 3) (b := decide (ct x 4 < 8)) (c := true) hfl hM) (mr_cell X hT hM.1 rfl) rfl rfl hl.1 ⟨Nat.le_of_ble_eq_true rfl, Nat.le_of_ble_eq_true rfl⟩ (Nat.le_of_ble_eq_true rfl) dX8_addMachine_22 ⟨Nat.le_of_ble_eq_true rfl, Nat.le_of_ble_eq_true rfl⟩) (fun v M1 H locs hp hT => ?_)
    obtain ⟨r, rfl, rfl, hM⟩ := hp
    refine W.eq (g2 := F0 zm 25 ls (.int _ :: _)) rfl ?_
    refine lv_if_ne X.1 X.2.1 (tgt := 30) dX8_addMachine_25 (by decide) (fun c25 => ?_) (fun c25 => ?_)
    · skip
      have hc : f_addMachine_c x t = 0 := g_ok c25
      obtain ⟨h1, h2, h3⟩ := q_code_ok hc
      have h2 := of_decide_eq_true h2
      refine lv_aload_n X.1 X.2.1 dX8_addMachine_30 rfl (lv_at hl 0 rfl) ?_
      refine mr_get X hT fl_RX8_17 (hM.1) rfl dX8_addMachine_31 ?_
      refine lv_aload_n X.1 X.2.1 dX8_addMachine_34 rfl (lv_at hl 0 rfl) ?_
      refine mr_get X hT fl_RX8_97 (hM.1) rfl dX8_addMachine_35 ?_
      refine lv_iload_n X.1 X.2.1 dX8_addMachine_38 rfl (lv_at hl 1 rfl) ?_
      refine mm_iast X hT hM (k := 3) (N := 8) (j := ct x 4) rfl (by decide) (by decide) (h2) dX8_addMachine_39 (fun M1 H locs hM hT => ?_)
      refine lv_aload_n X.1 X.2.1 dX8_addMachine_40 rfl (lv_at hl 0 rfl) ?_
      refine lv_dup X.1 X.2.1 dX8_addMachine_41 rfl ?_
      refine mr_get X hT fl_RX8_97 (hM.1) rfl dX8_addMachine_42 ?_
      refine lv_iconst X.1 X.2.1 (v := 1) dX8_addMachine_45 (by decide) ?_
      refine lv_iadd X.1 X.2.1 dX8_addMachine_46 ?_
      refine mm_put X hT hM fp_RX8_97 (k := 4) rfl (ct x 4 + 1) (nI_1 _) dX8_addMachine_47 (fun M1 H locs hM hT => ?_)
      refine lv_aload_n X.1 X.2.1 dX8_addMachine_50 rfl (lv_at hl 0 rfl) ?_
      refine mr_get X hT fl_RX8_97 (hM.1) rfl dX8_addMachine_51 ?_
      refine lv_iconst X.1 X.2.1 (v := 1) dX8_addMachine_54 (by decide) ?_
      refine lv_isub X.1 X.2.1 dX8_addMachine_55 ?_
      refine mm_top (w := nI (ct x 4)) (nI_pred _) ?_
      exact mr_iret X hT hret (⟨_, rfl, fun _ => rfl, by rw [if_pos hc]; exact hM⟩) (Nat.le_of_ble_eq_true rfl) (Nat.le_of_ble_eq_true rfl) dX8_addMachine_56
    · skip
      have hc : ¬ f_addMachine_c x t = 0 := g_no c25
      refine lv_iconst X.1 X.2.1 (v := 0) dX8_addMachine_28 (by decide) ?_
      exact mr_iret X hT hret (⟨_, rfl, fun z => absurd z hc, by rw [if_neg hc]; exact hM⟩) (Nat.le_of_ble_eq_true rfl) (Nat.le_of_ble_eq_true rfl) dX8_addMachine_29
  · skip
    refine lv_aload_n X.1 X.2.1 dX8_addMachine_7 rfl (lv_at hl 0 rfl) ?_
    refine mr_get X hT fl_RX8_97 (hM.1) rfl dX8_addMachine_8 ?_
    refine lv_bipush X.1 X.2.1 (v := 8) dX8_addMachine_11 (by decide) ?_
    refine lv_icmp_ge X.1 X.2.1 (tgt := 20) dX8_addMachine_13 (by decide) (fun c13 => ?_) (fun c13 => ?_)
    · skip
      refine lv_iconst X.1 X.2.1 (v := 0) dX8_addMachine_20 (by decide) ?_
      refine W.widen (k := 0) (n := 0) (Nat.le_of_ble_eq_true rfl) (Nat.le_of_ble_eq_true rfl) ?_
      exact J21 _ _ _ _ ⟨by first | (rw [decide_eq_false ((q_12 (n := ct x 4) (by omega) 8 (by decide)).mp c13)]; rfl) | (rw [decide_eq_true (Classical.byContradiction fun z => c13 ((q_12 (n := ct x 4) (by omega) 8 (by decide)).mpr z))]; rfl), hM⟩ hT
    · skip
      refine lv_iconst X.1 X.2.1 (v := 1) dX8_addMachine_16 (by decide) ?_
      refine lv_goto X.1 X.2.1 (tgt := 21) dX8_addMachine_17 (by decide) ?_
      refine W.widen (k := 0) (n := 0) (Nat.le_of_ble_eq_true rfl) (Nat.le_of_ble_eq_true rfl) ?_
      exact J21 _ _ _ _ ⟨by first | (rw [decide_eq_false ((q_12 (n := ct x 4) (by omega) 8 (by decide)).mp c13)]; rfl) | (rw [decide_eq_true (Classical.byContradiction fun z => c13 ((q_12 (n := ct x 4) (by omega) 8 (by decide)).mpr z))]; rfl), hM⟩ hT

abbrev rm_X8_setLabel : Room := { frames := 3, cells := 0, slots := 0, locals := 68 }
set_option maxHeartbeats 4000000 in
set_option maxRecDepth 100000 in
theorem m_setLabelT {l : Launch} (hfl : l.stackTraces = false) {G : mw_G} {hm : Nat} {ad : Nat → Nat} {x : s_T} {lst : Int32} {p ll : Int32} {M : mw_M} (hM : MA G hm ad x lst M) (hi : q_inv 511 x) : mw_Met l G yX8_setLabel (.code yX8_setLabel cX8_setLabel 5 (some .int)) rm_X8_setLabel [.ref hm, .int p, .int ll, .int (bI true)] M (mw_pi (fun r M1 => (f_setLabel_c x p ll = 0 → r = (f_setLabel_s x p ll true).2) ∧ MA G hm ad (if f_setLabel_c x p ll = 0 then (f_setLabel_s x p ll true).1 else x) (f_setLabel_c x p ll) M1)) := by
  refine mw_of hfl (by decide) (Nat.le_of_ble_eq_true rfl) ?_
  intro zp ze zs zm zb zh zc ls X hin hret hT hl
  have hl : lv_has ls 5 [(0, .ref hm), (1, .int p), (2, .int ll), (3, .int (bI true))] := hl
  obtain ⟨⟨i2, i4, i5, i10, i17, i22, i29, i32⟩, hr3, hr6, hr11, hr18, hr23, hz21, hz28, hlb⟩ := id hi
  have hI := q_inv_mono hi (show 511 ≤ 512 by decide)
  refine lv_aload_n X.1 X.2.1 dX8_setLabel_0 rfl (lv_at hl 0 rfl) ?_
  refine lv_aload_n X.1 X.2.1 dX8_setLabel_1 rfl (lv_at hl 0 rfl) ?_
  refine lv_iload_n X.1 X.2.1 dX8_setLabel_2 rfl (lv_at hl 1 rfl) ?_
  refine mr_g X hT (fun hT' => mr_runV X hT' cb_RX8_100 kw846 kp28 kw847 (m_isPerson hfl hM (by omega)) (mr_cell X hT hM.1 rfl) rfl rfl hl.1 ⟨Nat.le_of_ble_eq_true rfl, Nat.le_of_ble_eq_true rfl⟩ (Nat.le_of_ble_eq_true rfl) dX8_setLabel_3 ⟨Nat.le_of_ble_eq_true rfl, Nat.le_of_ble_eq_true rfl⟩) (fun v M1 H locs hp hT => ?_)
  obtain ⟨r, rfl, rfl, hM⟩ := hp
  refine W.eq (g2 := F0 zm 6 ls (.int _ :: _)) rfl ?_
  refine lv_iload_n X.1 X.2.1 dX8_setLabel_6 rfl (lv_at hl 2 rfl) ?_
  refine lv_iconst X.1 X.2.1 (v := 0) dX8_setLabel_7 (by decide) ?_
  refine lv_iconst X.1 X.2.1 (v := 3) dX8_setLabel_8 (by decide) ?_
  refine mr_g X hT (fun hT' => mr_runS X hT' cb_RX8_93 kw830 kw831 (m_in hfl hM) rfl rfl hl.1 ⟨Nat.le_of_ble_eq_true rfl, Nat.le_of_ble_eq_true rfl⟩ (Nat.le_of_ble_eq_true rfl) dX8_setLabel_9 ⟨Nat.le_of_ble_eq_true rfl, Nat.le_of_ble_eq_true rfl⟩) (fun v M1 H locs hp hT => ?_)
  obtain ⟨r, rfl, rfl, hM⟩ := hp
  refine W.eq (g2 := F0 zm 12 ls (.int _ :: _)) rfl ?_
  refine lv_iconst X.1 X.2.1 (v := 1) dX8_setLabel_12 (by decide) ?_
  refine mr_g X hT (fun hT' => mr_runV X hT' cb_RX8_123 kw834 kp27 kw835 (m_goes (a := q_ix p (ct x 2)) (b := q_in ll 0 3) (c := true) hfl hM) (mr_cell X hT hM.1 rfl) rfl rfl hl.1 ⟨Nat.le_of_ble_eq_true rfl, Nat.le_of_ble_eq_true rfl⟩ (Nat.le_of_ble_eq_true rfl) dX8_setLabel_13 ⟨Nat.le_of_ble_eq_true rfl, Nat.le_of_ble_eq_true rfl⟩) (fun v M1 H locs hp hT => ?_)
  obtain ⟨r, rfl, rfl, hM⟩ := hp
  refine W.eq (g2 := F0 zm 16 ls (.int _ :: _)) rfl ?_
  refine lv_if_ne X.1 X.2.1 (tgt := 21) dX8_setLabel_16 (by decide) (fun c16 => ?_) (fun c16 => ?_)
  · skip
    have hc : f_setLabel_c x p ll = 0 := g_ok c16
    obtain ⟨h1, h2, h3⟩ := q_code_ok hc
    obtain ⟨j, hj, rfl⟩ := (q_ix_iff (show ct x 2 < 2 ^ 31 by omega)).mp h1
    have pj : pn (nI j) = j := pn_nI (by omega)
    obtain ⟨t, -, ht, rfl⟩ := q_in_of (lo := 0) (hi := 3) (by decide) h2 (by decide)
    have pt : pn (nI t) = t := pn_nI (by omega)
    refine lv_aload_n X.1 X.2.1 dX8_setLabel_21 rfl (lv_at hl 0 rfl) ?_
    refine mr_get X hT fl_RX8_13 (hM.1) rfl dX8_setLabel_22 ?_
    refine lv_iconst X.1 X.2.1 (v := 4) dX8_setLabel_25 (by decide) ?_
    refine lv_iload_n X.1 X.2.1 dX8_setLabel_26 rfl (lv_at hl 1 rfl) ?_
    refine lv_imul X.1 X.2.1 dX8_setLabel_27 ?_
    refine mm_top (w := nI (4 * j)) (by rw [show (4 : Int32) = nI 4 from rfl, pk_mul]) ?_
    refine lv_iload_n X.1 X.2.1 dX8_setLabel_28 rfl (lv_at hl 2 rfl) ?_
    refine lv_iadd X.1 X.2.1 dX8_setLabel_29 ?_
    refine mm_top (w := nI (4 * j + t)) (nI_add _ _) ?_
    refine lv_iload_n X.1 X.2.1 dX8_setLabel_30 rfl (lv_at hl 3 rfl) ?_
    refine mm_zast X hT hM (k := 1) (N := 48) (j := 4 * j + t) rfl (by decide) (by decide) (by omega) (bI_vn true) dX8_setLabel_31 (fun M1 H locs hM hT => ?_)
    refine lv_iconst X.1 X.2.1 (v := 0) dX8_setLabel_32 (by decide) ?_
    refine lv_istore X.1 X.2.1 dX8_setLabel_33 hl (by decide) rfl (fun ls hl => ?_)
    refine lv_iload X.1 X.2.1 dX8_setLabel_35 (lv_at hl 0 rfl) ?_
    refine lv_aload_n X.1 X.2.1 dX8_setLabel_37 rfl (lv_at hl 1 rfl) ?_
    refine mr_get X hT fl_RX8_97 (hM.1) rfl dX8_setLabel_38 ?_
    refine lv_icmp_ge X.1 X.2.1 (tgt := 79) dX8_setLabel_41 (by decide) (fun c41 => ?_) (fun c41 => ?_)
    · skip
      refine lv_iload_n X.1 X.2.1 dX8_setLabel_79 rfl (lv_at hl 4 rfl) ?_
      refine lv_if_eq X.1 X.2.1 (tgt := 87) dX8_setLabel_80 (by decide) (fun c80 => ?_) (fun c80 => ?_)
      · exact absurd c80 (by decide)
      · skip
        refine lv_iconst X.1 X.2.1 (v := 0) dX8_setLabel_83 (by decide) ?_
        refine lv_goto X.1 X.2.1 (tgt := 92) dX8_setLabel_84 (by decide) ?_
        exact mr_iret X hT hret (⟨_, rfl, fun _ => rfl, by rw [if_pos hc]; unfold f_setLabel_s; rw [pj, pt]; exact hM⟩) (Nat.le_of_ble_eq_true rfl) (Nat.le_of_ble_eq_true rfl) dX8_setLabel_92
    · skip
      refine lv_iload_n X.1 X.2.1 dX8_setLabel_44 rfl (lv_at hl 4 rfl) ?_
      refine lv_if_ne X.1 X.2.1 (tgt := 79) dX8_setLabel_45 (by decide) (fun c45 => ?_) (fun c45 => ?_)
      · skip
        refine lv_iload_n X.1 X.2.1 dX8_setLabel_79 rfl (lv_at hl 4 rfl) ?_
        refine lv_if_eq X.1 X.2.1 (tgt := 87) dX8_setLabel_80 (by decide) (fun c80 => ?_) (fun c80 => ?_)
        · exact absurd c80 (by decide)
        · skip
          refine lv_iconst X.1 X.2.1 (v := 0) dX8_setLabel_83 (by decide) ?_
          refine lv_goto X.1 X.2.1 (tgt := 92) dX8_setLabel_84 (by decide) ?_
          exact mr_iret X hT hret (⟨_, rfl, fun _ => rfl, by rw [if_pos hc]; unfold f_setLabel_s; rw [pj, pt]; exact hM⟩) (Nat.le_of_ble_eq_true rfl) (Nat.le_of_ble_eq_true rfl) dX8_setLabel_92
      · exact absurd c45 (by decide)
  · skip
    have hc : ¬ f_setLabel_c x p ll = 0 := g_no c16
    refine lv_iconst X.1 X.2.1 (v := 0) dX8_setLabel_19 (by decide) ?_
    exact mr_iret X hT hret (⟨_, rfl, fun z => absurd z hc, by rw [if_neg hc]; exact hM⟩) (Nat.le_of_ble_eq_true rfl) (Nat.le_of_ble_eq_true rfl) dX8_setLabel_20


set_option maxHeartbeats 4000000 in
set_option maxRecDepth 100000 in
theorem m_setLabelF {l : Launch} (hfl : l.stackTraces = false) {G : mw_G} {hm : Nat} {ad : Nat → Nat} {x : s_T} {lst : Int32} {p ll : Int32} {M : mw_M} (hM : MA G hm ad x lst M) (hi : q_inv 511 x) : mw_Met l G yX8_setLabel (.code yX8_setLabel cX8_setLabel 5 (some .int)) rm_X8_setLabel [.ref hm, .int p, .int ll, .int (bI false)] M (mw_pi (fun r M1 => (f_setLabel_c x p ll = 0 → r = (f_setLabel_s x p ll false).2) ∧ MA G hm ad (if f_setLabel_c x p ll = 0 then (f_setLabel_s x p ll false).1 else x) (f_setLabel_c x p ll) M1)) := by
  refine mw_of hfl (by decide) (Nat.le_of_ble_eq_true rfl) ?_
  intro zp ze zs zm zb zh zc ls X hin hret hT hl
  have hl : lv_has ls 5 [(0, .ref hm), (1, .int p), (2, .int ll), (3, .int (bI false))] := hl
  obtain ⟨⟨i2, i4, i5, i10, i17, i22, i29, i32⟩, hr3, hr6, hr11, hr18, hr23, hz21, hz28, hlb⟩ := id hi
  have hI := q_inv_mono hi (show 511 ≤ 512 by decide)
  refine lv_aload_n X.1 X.2.1 dX8_setLabel_0 rfl (lv_at hl 0 rfl) ?_
  refine lv_aload_n X.1 X.2.1 dX8_setLabel_1 rfl (lv_at hl 0 rfl) ?_
  refine lv_iload_n X.1 X.2.1 dX8_setLabel_2 rfl (lv_at hl 1 rfl) ?_
  refine mr_g X hT (fun hT' => mr_runV X hT' cb_RX8_100 kw846 kp28 kw847 (m_isPerson hfl hM (by omega)) (mr_cell X hT hM.1 rfl) rfl rfl hl.1 ⟨Nat.le_of_ble_eq_true rfl, Nat.le_of_ble_eq_true rfl⟩ (Nat.le_of_ble_eq_true rfl) dX8_setLabel_3 ⟨Nat.le_of_ble_eq_true rfl, Nat.le_of_ble_eq_true rfl⟩) (fun v M1 H locs hp hT => ?_)
  obtain ⟨r, rfl, rfl, hM⟩ := hp
  refine W.eq (g2 := F0 zm 6 ls (.int _ :: _)) rfl ?_
  refine lv_iload_n X.1 X.2.1 dX8_setLabel_6 rfl (lv_at hl 2 rfl) ?_
  refine lv_iconst X.1 X.2.1 (v := 0) dX8_setLabel_7 (by decide) ?_
  refine lv_iconst X.1 X.2.1 (v := 3) dX8_setLabel_8 (by decide) ?_
  refine mr_g X hT (fun hT' => mr_runS X hT' cb_RX8_93 kw830 kw831 (m_in hfl hM) rfl rfl hl.1 ⟨Nat.le_of_ble_eq_true rfl, Nat.le_of_ble_eq_true rfl⟩ (Nat.le_of_ble_eq_true rfl) dX8_setLabel_9 ⟨Nat.le_of_ble_eq_true rfl, Nat.le_of_ble_eq_true rfl⟩) (fun v M1 H locs hp hT => ?_)
  obtain ⟨r, rfl, rfl, hM⟩ := hp
  refine W.eq (g2 := F0 zm 12 ls (.int _ :: _)) rfl ?_
  refine lv_iconst X.1 X.2.1 (v := 1) dX8_setLabel_12 (by decide) ?_
  refine mr_g X hT (fun hT' => mr_runV X hT' cb_RX8_123 kw834 kp27 kw835 (m_goes (a := q_ix p (ct x 2)) (b := q_in ll 0 3) (c := true) hfl hM) (mr_cell X hT hM.1 rfl) rfl rfl hl.1 ⟨Nat.le_of_ble_eq_true rfl, Nat.le_of_ble_eq_true rfl⟩ (Nat.le_of_ble_eq_true rfl) dX8_setLabel_13 ⟨Nat.le_of_ble_eq_true rfl, Nat.le_of_ble_eq_true rfl⟩) (fun v M1 H locs hp hT => ?_)
  obtain ⟨r, rfl, rfl, hM⟩ := hp
  refine W.eq (g2 := F0 zm 16 ls (.int _ :: _)) rfl ?_
  refine lv_if_ne X.1 X.2.1 (tgt := 21) dX8_setLabel_16 (by decide) (fun c16 => ?_) (fun c16 => ?_)
  · skip
    have hc : f_setLabel_c x p ll = 0 := g_ok c16
    obtain ⟨h1, h2, h3⟩ := q_code_ok hc
    obtain ⟨j, hj, rfl⟩ := (q_ix_iff (show ct x 2 < 2 ^ 31 by omega)).mp h1
    have pj : pn (nI j) = j := pn_nI (by omega)
    obtain ⟨t, -, ht, rfl⟩ := q_in_of (lo := 0) (hi := 3) (by decide) h2 (by decide)
    have pt : pn (nI t) = t := pn_nI (by omega)
    refine lv_aload_n X.1 X.2.1 dX8_setLabel_21 rfl (lv_at hl 0 rfl) ?_
    refine mr_get X hT fl_RX8_13 (hM.1) rfl dX8_setLabel_22 ?_
    refine lv_iconst X.1 X.2.1 (v := 4) dX8_setLabel_25 (by decide) ?_
    refine lv_iload_n X.1 X.2.1 dX8_setLabel_26 rfl (lv_at hl 1 rfl) ?_
    refine lv_imul X.1 X.2.1 dX8_setLabel_27 ?_
    refine mm_top (w := nI (4 * j)) (by rw [show (4 : Int32) = nI 4 from rfl, pk_mul]) ?_
    refine lv_iload_n X.1 X.2.1 dX8_setLabel_28 rfl (lv_at hl 2 rfl) ?_
    refine lv_iadd X.1 X.2.1 dX8_setLabel_29 ?_
    refine mm_top (w := nI (4 * j + t)) (nI_add _ _) ?_
    refine lv_iload_n X.1 X.2.1 dX8_setLabel_30 rfl (lv_at hl 3 rfl) ?_
    refine mm_zast X hT hM (k := 1) (N := 48) (j := 4 * j + t) rfl (by decide) (by decide) (by omega) (bI_vn false) dX8_setLabel_31 (fun M1 H locs hM hT => ?_)
    refine lv_iconst X.1 X.2.1 (v := 0) dX8_setLabel_32 (by decide) ?_
    refine lv_istore X.1 X.2.1 dX8_setLabel_33 hl (by decide) rfl (fun ls hl => ?_)
    refine W.widen (k := 0) (n := 0) (Nat.le_of_ble_eq_true rfl) (Nat.le_of_ble_eq_true rfl) ?_
    refine mw_loop (nL := 5) (n := ct x 4) (fun k M1 => MA G hm ad (q_strip (cs x 1 (4 * j + t) (bI false)) (nI j) (nI t) k) (f_setLabel_c x (nI j) (nI t)) M1) (fun k => [(4, .int (nI k)), (0, .ref hm), (1, .int (nI j)), (2, .int (nI t)), (3, .int (bI false))]) (fun k hk ih M1 H locs ls hM hT hl => ?_) hM hT (lv_sub hl [0, 1, 2, 3, 4] rfl)
    have hiy := q_inv_strip (q_inv_lab hI (4 * j + t) false) (nI j) (nI t) k
    have e4 : ct (q_strip (cs x 1 (4 * j + t) (bI false)) (nI j) (nI t) k) 4 = ct x 4 := q_strip_ct _ _ _ _ _
    refine lv_iload X.1 X.2.1 dX8_setLabel_35 (lv_at hl 0 rfl) ?_
    refine lv_aload_n X.1 X.2.1 dX8_setLabel_37 rfl (lv_at hl 1 rfl) ?_
    refine mr_get X hT fl_RX8_97 (hM.1) rfl dX8_setLabel_38 ?_
    refine lv_icmp_ge X.1 X.2.1 (tgt := 79) dX8_setLabel_41 (by decide) (fun c41 => ?_) (fun c41 => ?_)
    · skip
      have hkn := mm_exit hk (show ct x 4 < 2 ^ 31 by omega) (e4 ▸ c41)
      subst hkn
      refine lv_iload_n X.1 X.2.1 dX8_setLabel_79 rfl (lv_at hl 4 rfl) ?_
      refine lv_if_eq X.1 X.2.1 (tgt := 87) dX8_setLabel_80 (by decide) (fun c80 => ?_) (fun c80 => ?_)
      · skip
        refine lv_aload_n X.1 X.2.1 dX8_setLabel_87 rfl (lv_at hl 1 rfl) ?_
        refine lv_iconst X.1 X.2.1 (v := -1) dX8_setLabel_88 (by decide) ?_
        refine mr_g X hT (fun hT' => mr_runV X hT' cb_RX8_148 kw858 kp31 kw859 (m_closes hfl hM (q_inv_strip (q_inv_lab hI _ _) _ _ _)) (mr_cell X hT hM.1 rfl) rfl rfl hl.1 ⟨Nat.le_of_ble_eq_true rfl, Nat.le_of_ble_eq_true rfl⟩ (Nat.le_of_ble_eq_true rfl) dX8_setLabel_89 ⟨Nat.le_of_ble_eq_true rfl, Nat.le_of_ble_eq_true rfl⟩) (fun v M1 H locs hp hT => ?_)
        obtain ⟨r, rfl, rfl, hM⟩ := hp
        refine W.eq (g2 := F0 zm 92 ls (.int _ :: _)) rfl ?_
        exact mr_iret X hT hret (⟨_, rfl, fun _ => by unfold f_setLabel_s; rw [pj, pt]; rfl, by rw [if_pos hc]; unfold f_setLabel_s; rw [pj, pt]; exact hM⟩) (Nat.le_of_ble_eq_true rfl) (Nat.le_of_ble_eq_true rfl) dX8_setLabel_92
      · exact absurd rfl c80
    · skip
      have hkl := mm_stay hk (show ct x 4 < 2 ^ 31 by omega) (e4 ▸ c41)
      refine lv_iload_n X.1 X.2.1 dX8_setLabel_44 rfl (lv_at hl 4 rfl) ?_
      refine lv_if_ne X.1 X.2.1 (tgt := 79) dX8_setLabel_45 (by decide) (fun c45 => ?_) (fun c45 => ?_)
      · exact absurd rfl c45
      · skip
        refine lv_aload_n X.1 X.2.1 dX8_setLabel_48 rfl (lv_at hl 1 rfl) ?_
        refine mr_get X hT fl_RX8_17 (hM.1) rfl dX8_setLabel_49 ?_
        refine lv_iload X.1 X.2.1 dX8_setLabel_52 (lv_at hl 0 rfl) ?_
        refine mm_iald X hT hM (k := 3) (N := 8) (j := k) rfl (by decide) (by decide) (by omega) dX8_setLabel_54 ?_
        refine lv_iload_n X.1 X.2.1 dX8_setLabel_55 rfl (lv_at hl 3 rfl) ?_
        refine lv_icmp_ne X.1 X.2.1 (tgt := 73) dX8_setLabel_56 (by decide) (fun c56 => ?_) (fun c56 => ?_)
        · skip
          refine lv_iinc X.1 X.2.1 (k := 0) (v := nI (k + 1)) dX8_setLabel_73 hl rfl (mm_inc k) (by decide) rfl (fun ls hl => ?_)
          refine lv_goto X.1 X.2.1 (tgt := 35) dX8_setLabel_76 (by decide) ?_
          refine W.widen (k := 0) (n := 0) (Nat.le_of_ble_eq_true rfl) (Nat.le_of_ble_eq_true rfl) ?_
          first
            | exact ih (by omega) _ _ _ _ (by rw [q_strip_t c56]; exact hM) hT (lv_sub hl [0, 1, 2, 3, 4] rfl)
            | exact ih (by omega) _ _ _ _ (by rw [q_strip_f c56]; exact hM) hT (lv_sub hl [0, 1, 2, 3, 4] rfl)
        · skip
          refine lv_aload_n X.1 X.2.1 dX8_setLabel_59 rfl (lv_at hl 1 rfl) ?_
          refine lv_iload_n X.1 X.2.1 dX8_setLabel_60 rfl (lv_at hl 2 rfl) ?_
          refine lv_iload X.1 X.2.1 dX8_setLabel_61 (lv_at hl 0 rfl) ?_
          refine mr_g X hT (fun hT' => mr_runV X hT' cb_RX8_141 kw850 kp29 kw851 (m_endsRights hfl hM hiy) (mr_cell X hT hM.1 rfl) rfl rfl hl.1 ⟨Nat.le_of_ble_eq_true rfl, Nat.le_of_ble_eq_true rfl⟩ (Nat.le_of_ble_eq_true rfl) dX8_setLabel_63 ⟨Nat.le_of_ble_eq_true rfl, Nat.le_of_ble_eq_true rfl⟩) (fun v M1 H locs hp hT => ?_)
          obtain ⟨rfl, hM⟩ := hp
          refine W.eq (g2 := F0 zm 66 ls _) rfl ?_
          refine lv_aload_n X.1 X.2.1 dX8_setLabel_66 rfl (lv_at hl 1 rfl) ?_
          refine lv_iload_n X.1 X.2.1 dX8_setLabel_67 rfl (lv_at hl 2 rfl) ?_
          refine lv_iload X.1 X.2.1 dX8_setLabel_68 (lv_at hl 0 rfl) ?_
          refine mr_g X hT (fun hT' => mr_runV X hT' cb_RX8_145 kw854 kp30 kw855 (m_deniesAsks hfl hM (q_inv_ends hiy _ _)) (mr_cell X hT hM.1 rfl) rfl rfl hl.1 ⟨Nat.le_of_ble_eq_true rfl, Nat.le_of_ble_eq_true rfl⟩ (Nat.le_of_ble_eq_true rfl) dX8_setLabel_70 ⟨Nat.le_of_ble_eq_true rfl, Nat.le_of_ble_eq_true rfl⟩) (fun v M1 H locs hp hT => ?_)
          obtain ⟨rfl, hM⟩ := hp
          refine W.eq (g2 := F0 zm 73 ls _) rfl ?_
          refine lv_iinc X.1 X.2.1 (k := 0) (v := nI (k + 1)) dX8_setLabel_73 hl rfl (mm_inc k) (by decide) rfl (fun ls hl => ?_)
          refine lv_goto X.1 X.2.1 (tgt := 35) dX8_setLabel_76 (by decide) ?_
          refine W.widen (k := 0) (n := 0) (Nat.le_of_ble_eq_true rfl) (Nat.le_of_ble_eq_true rfl) ?_
          first
            | exact ih (by omega) _ _ _ _ (by rw [q_strip_t c56]; exact hM) hT (lv_sub hl [0, 1, 2, 3, 4] rfl)
            | exact ih (by omega) _ _ _ _ (by rw [q_strip_f c56]; exact hM) hT (lv_sub hl [0, 1, 2, 3, 4] rfl)
  · skip
    have hc : ¬ f_setLabel_c x p ll = 0 := g_no c16
    refine lv_iconst X.1 X.2.1 (v := 0) dX8_setLabel_19 (by decide) ?_
    exact mr_iret X hT hret (⟨_, rfl, fun z => absurd z hc, by rw [if_neg hc]; exact hM⟩) (Nat.le_of_ble_eq_true rfl) (Nat.le_of_ble_eq_true rfl) dX8_setLabel_20

abbrev rm_X8_takeAway : Room := { frames := 3, cells := 0, slots := 0, locals := 68 }
set_option maxHeartbeats 4000000 in
set_option maxRecDepth 100000 in
theorem m_takeAway {l : Launch} (hfl : l.stackTraces = false) {G : mw_G} {hm : Nat} {ad : Nat → Nat} {x : s_T} {lst : Int32} {p mm : Int32} {M : mw_M} (hM : MA G hm ad x lst M) (hi : q_inv 511 x) : mw_Met l G yX8_takeAway (.code yX8_takeAway cX8_takeAway 3 (some .int)) rm_X8_takeAway [.ref hm, .int p, .int mm] M (mw_pi (fun r M1 => (f_takeAway_c x p mm = 0 → r = (f_takeAway_s x p mm).2) ∧ MA G hm ad (if f_takeAway_c x p mm = 0 then (f_takeAway_s x p mm).1 else x) (f_takeAway_c x p mm) M1)) := by
  refine mw_of hfl (by decide) (Nat.le_of_ble_eq_true rfl) ?_
  intro zp ze zs zm zb zh zc ls X hin hret hT hl
  have hl : lv_has ls 3 [(0, .ref hm), (1, .int p), (2, .int mm)] := hl
  obtain ⟨⟨i2, i4, i5, i10, i17, i22, i29, i32⟩, hr3, hr6, hr11, hr18, hr23, hz21, hz28, hlb⟩ := id hi
  have hI := q_inv_mono hi (show 511 ≤ 512 by decide)
  refine lv_aload_n X.1 X.2.1 dX8_takeAway_0 rfl (lv_at hl 0 rfl) ?_
  refine lv_aload_n X.1 X.2.1 dX8_takeAway_1 rfl (lv_at hl 0 rfl) ?_
  refine lv_iload_n X.1 X.2.1 dX8_takeAway_2 rfl (lv_at hl 1 rfl) ?_
  refine lv_iload_n X.1 X.2.1 dX8_takeAway_3 rfl (lv_at hl 2 rfl) ?_
  refine mr_g X hT (fun hT' => mr_runV X hT' cb_RX8_152 kw879 kp35 kw880 (m_areBoth hfl hM (by omega) (by omega)) (mr_cell X hT hM.1 rfl) rfl rfl hl.1 ⟨Nat.le_of_ble_eq_true rfl, Nat.le_of_ble_eq_true rfl⟩ (Nat.le_of_ble_eq_true rfl) dX8_takeAway_4 ⟨Nat.le_of_ble_eq_true rfl, Nat.le_of_ble_eq_true rfl⟩) (fun v M1 H locs hp hT => ?_)
  obtain ⟨r, rfl, rfl, hM⟩ := hp
  refine W.eq (g2 := F0 zm 7 ls (.int _ :: _)) rfl ?_
  refine lv_iconst X.1 X.2.1 (v := 1) dX8_takeAway_7 (by decide) ?_
  refine lv_iconst X.1 X.2.1 (v := 1) dX8_takeAway_8 (by decide) ?_
  refine mr_g X hT (fun hT' => mr_runV X hT' cb_RX8_123 kw834 kp27 kw835 (m_goes (a := q_both x p mm) (b := true) (c := true) hfl hM) (mr_cell X hT hM.1 rfl) rfl rfl hl.1 ⟨Nat.le_of_ble_eq_true rfl, Nat.le_of_ble_eq_true rfl⟩ (Nat.le_of_ble_eq_true rfl) dX8_takeAway_9 ⟨Nat.le_of_ble_eq_true rfl, Nat.le_of_ble_eq_true rfl⟩) (fun v M1 H locs hp hT => ?_)
  obtain ⟨r, rfl, rfl, hM⟩ := hp
  refine W.eq (g2 := F0 zm 12 ls (.int _ :: _)) rfl ?_
  refine lv_if_ne X.1 X.2.1 (tgt := 17) dX8_takeAway_12 (by decide) (fun c12 => ?_) (fun c12 => ?_)
  · skip
    have hc : f_takeAway_c x p mm = 0 := g_ok c12
    obtain ⟨h1, h2, h3⟩ := q_code_ok hc
    refine lv_aload_n X.1 X.2.1 dX8_takeAway_17 rfl (lv_at hl 0 rfl) ?_
    refine lv_iload_n X.1 X.2.1 dX8_takeAway_18 rfl (lv_at hl 1 rfl) ?_
    refine lv_iload_n X.1 X.2.1 dX8_takeAway_19 rfl (lv_at hl 2 rfl) ?_
    refine mr_g X hT (fun hT' => mr_runV X hT' cb_RX8_141 kw850 kp29 kw851 (m_endsRights hfl hM hI) (mr_cell X hT hM.1 rfl) rfl rfl hl.1 ⟨Nat.le_of_ble_eq_true rfl, Nat.le_of_ble_eq_true rfl⟩ (Nat.le_of_ble_eq_true rfl) dX8_takeAway_20 ⟨Nat.le_of_ble_eq_true rfl, Nat.le_of_ble_eq_true rfl⟩) (fun v M1 H locs hp hT => ?_)
    obtain ⟨rfl, hM⟩ := hp
    refine W.eq (g2 := F0 zm 23 ls _) rfl ?_
    refine lv_aload_n X.1 X.2.1 dX8_takeAway_23 rfl (lv_at hl 0 rfl) ?_
    refine lv_iload_n X.1 X.2.1 dX8_takeAway_24 rfl (lv_at hl 1 rfl) ?_
    refine lv_iload_n X.1 X.2.1 dX8_takeAway_25 rfl (lv_at hl 2 rfl) ?_
    refine mr_g X hT (fun hT' => mr_runV X hT' cb_RX8_145 kw854 kp30 kw855 (m_deniesAsks hfl hM (q_inv_ends hI _ _)) (mr_cell X hT hM.1 rfl) rfl rfl hl.1 ⟨Nat.le_of_ble_eq_true rfl, Nat.le_of_ble_eq_true rfl⟩ (Nat.le_of_ble_eq_true rfl) dX8_takeAway_26 ⟨Nat.le_of_ble_eq_true rfl, Nat.le_of_ble_eq_true rfl⟩) (fun v M1 H locs hp hT => ?_)
    obtain ⟨rfl, hM⟩ := hp
    refine W.eq (g2 := F0 zm 29 ls _) rfl ?_
    refine lv_aload_n X.1 X.2.1 dX8_takeAway_29 rfl (lv_at hl 0 rfl) ?_
    refine lv_iconst X.1 X.2.1 (v := -1) dX8_takeAway_30 (by decide) ?_
    refine mr_g X hT (fun hT' => mr_runV X hT' cb_RX8_148 kw858 kp31 kw859 (m_closes hfl hM (q_inv_denies (q_inv_ends hI _ _) _ _)) (mr_cell X hT hM.1 rfl) rfl rfl hl.1 ⟨Nat.le_of_ble_eq_true rfl, Nat.le_of_ble_eq_true rfl⟩ (Nat.le_of_ble_eq_true rfl) dX8_takeAway_31 ⟨Nat.le_of_ble_eq_true rfl, Nat.le_of_ble_eq_true rfl⟩) (fun v M1 H locs hp hT => ?_)
    obtain ⟨r, rfl, rfl, hM⟩ := hp
    refine W.eq (g2 := F0 zm 34 ls (.int _ :: _)) rfl ?_
    exact mr_iret X hT hret (⟨_, rfl, fun _ => rfl, by rw [if_pos hc]; exact hM⟩) (Nat.le_of_ble_eq_true rfl) (Nat.le_of_ble_eq_true rfl) dX8_takeAway_34
  · skip
    have hc : ¬ f_takeAway_c x p mm = 0 := g_no c12
    refine lv_iconst X.1 X.2.1 (v := 0) dX8_takeAway_15 (by decide) ?_
    exact mr_iret X hT hret (⟨_, rfl, fun z => absurd z hc, by rw [if_neg hc]; exact hM⟩) (Nat.le_of_ble_eq_true rfl) (Nat.le_of_ble_eq_true rfl) dX8_takeAway_16

abbrev rm_X8_overdues : Room := { frames := 0, cells := 0, slots := 0, locals := 0 }
set_option maxHeartbeats 4000000 in
set_option maxRecDepth 100000 in
theorem m_overdues {l : Launch} (hfl : l.stackTraces = false) {G : mw_G} {hm : Nat} {ad : Nat → Nat} {x : s_T} {lst : Int32} {pp : Int32} {M : mw_M} (hM : MA G hm ad x lst M) (hi : q_inv 512 x) : mw_Met l G yX8_overdues (.code yX8_overdues cX8_overdues 4 (some .int)) rm_X8_overdues [.ref hm, .int pp] M (mw_pi (fun r M1 => r = q_over x pp (ct x 22) ∧ MA G hm ad (x) lst M1)) := by
  refine mw_of hfl (by decide) (Nat.le_of_ble_eq_true rfl) ?_
  intro zp ze zs zm zb zh zc ls X hin hret hT hl
  have hl : lv_has ls 4 [(0, .ref hm), (1, .int pp)] := hl
  obtain ⟨⟨i2, i4, i5, i10, i17, i22, i29, i32⟩, hr3, hr6, hr11, hr18, hr23, hz21, hz28, hlb⟩ := id hi
  refine lv_iconst X.1 X.2.1 (v := 0) dX8_overdues_0 (by decide) ?_
  refine lv_istore_n X.1 X.2.1 dX8_overdues_1 rfl hl (by decide) rfl (fun ls hl => ?_)
  refine lv_iconst X.1 X.2.1 (v := 0) dX8_overdues_2 (by decide) ?_
  refine lv_istore_n X.1 X.2.1 dX8_overdues_3 rfl hl (by decide) rfl (fun ls hl => ?_)
  refine W.widen (k := 0) (n := 0) (Nat.le_of_ble_eq_true rfl) (Nat.le_of_ble_eq_true rfl) ?_
  refine mw_loop (nL := 4) (n := ct x 22) (fun k M1 => MA G hm ad (x) lst M1) (fun k => [(3, .int (nI k)), (2, .int (q_over x pp k)), (0, .ref hm), (1, .int pp)]) (fun k hk ih M1 H locs ls hM hT hl => ?_) hM hT (lv_sub hl [0, 1, 2, 3] rfl)
  refine lv_iload_n X.1 X.2.1 dX8_overdues_4 rfl (lv_at hl 0 rfl) ?_
  refine lv_aload_n X.1 X.2.1 dX8_overdues_5 rfl (lv_at hl 2 rfl) ?_
  refine mr_get X hT fl_RX8_110 (hM.1) rfl dX8_overdues_6 ?_
  refine lv_icmp_ge X.1 X.2.1 (tgt := 62) dX8_overdues_9 (by decide) (fun c9 => ?_) (fun c9 => ?_)
  · skip
    have hkn := mm_exit hk (show ct x 22 < 2 ^ 31 by omega) c9
    subst hkn
    refine lv_iload_n X.1 X.2.1 dX8_overdues_62 rfl (lv_at hl 1 rfl) ?_
    exact mr_iret X hT hret (⟨_, rfl, rfl, hM⟩) (Nat.le_of_ble_eq_true rfl) (Nat.le_of_ble_eq_true rfl) dX8_overdues_63
  · skip
    have hkl := mm_stay hk (show ct x 22 < 2 ^ 31 by omega) c9
    refine lv_iload_n X.1 X.2.1 dX8_overdues_12 rfl (lv_at hl 1 rfl) ?_
    refine mw_join hT 54 0 0 (fun r M1 => r = bI (q_over1 x pp k) ∧ MA G hm ad (x) lst M1) (fun r M1 H locs hp hT => ?_) (fun J54 => ?_)
    · obtain ⟨rfl, hM⟩ := hp
      refine lv_iadd X.1 X.2.1 dX8_overdues_54 ?_
      refine mm_top (w := q_over x pp (k + 1)) (rfl) ?_
      refine lv_istore_n X.1 X.2.1 dX8_overdues_55 rfl hl (by decide) rfl (fun ls hl => ?_)
      refine lv_iinc X.1 X.2.1 (k := 1) (v := nI (k + 1)) dX8_overdues_56 hl rfl (mm_inc k) (by decide) rfl (fun ls hl => ?_)
      refine lv_goto X.1 X.2.1 (tgt := 4) dX8_overdues_59 (by decide) ?_
      refine W.widen (k := 0) (n := 0) (Nat.le_of_ble_eq_true rfl) (Nat.le_of_ble_eq_true rfl) ?_
      exact ih (by omega) _ _ _ _ (hM) hT (lv_sub hl [0, 1, 2, 3] rfl)
    · skip
      refine lv_aload_n X.1 X.2.1 dX8_overdues_13 rfl (lv_at hl 2 rfl) ?_
      refine mr_get X hT fl_RX8_50 (hM.1) rfl dX8_overdues_14 ?_
      refine lv_iload_n X.1 X.2.1 dX8_overdues_17 rfl (lv_at hl 0 rfl) ?_
      refine mm_iald X hT hM (k := 18) (N := 2000) (j := k) rfl (by decide) (by decide) (by omega) dX8_overdues_18 ?_
      refine lv_iload_n X.1 X.2.1 dX8_overdues_19 rfl (lv_at hl 3 rfl) ?_
      refine lv_icmp_ne X.1 X.2.1 (tgt := 53) dX8_overdues_20 (by decide) (fun c20 => ?_) (fun c20 => ?_)
      · skip
        refine lv_iconst X.1 X.2.1 (v := 0) dX8_overdues_53 (by decide) ?_
        refine W.widen (k := 0) (n := 0) (Nat.le_of_ble_eq_true rfl) (Nat.le_of_ble_eq_true rfl) ?_
        exact J54 _ _ _ _ ⟨by unfold q_over1; first | (simp [bI, c20]; done) | (simp [bI, c20, c29]; done) | (simp [bI, c20, c29, Int32.not_le.mpr c46]; done) | (simp [bI, c20, c29, Int32.not_lt.mp c46]; done), hM⟩ hT
      · skip
        refine lv_aload_n X.1 X.2.1 dX8_overdues_23 rfl (lv_at hl 2 rfl) ?_
        refine mr_get X hT fl_RX8_59 (hM.1) rfl dX8_overdues_24 ?_
        refine lv_iload_n X.1 X.2.1 dX8_overdues_27 rfl (lv_at hl 0 rfl) ?_
        refine mm_zald X hT hM (k := 21) (N := 2000) (j := k) rfl (by decide) (by decide) (by omega) dX8_overdues_28 ?_
        refine lv_if_ne X.1 X.2.1 (tgt := 53) dX8_overdues_29 (by decide) (fun c29 => ?_) (fun c29 => ?_)
        · skip
          refine lv_iconst X.1 X.2.1 (v := 0) dX8_overdues_53 (by decide) ?_
          refine W.widen (k := 0) (n := 0) (Nat.le_of_ble_eq_true rfl) (Nat.le_of_ble_eq_true rfl) ?_
          exact J54 _ _ _ _ ⟨by unfold q_over1; first | (simp [bI, c20]; done) | (simp [bI, c20, c29]; done) | (simp [bI, c20, c29, Int32.not_le.mpr c46]; done) | (simp [bI, c20, c29, Int32.not_lt.mp c46]; done), hM⟩ hT
        · skip
          refine lv_aload_n X.1 X.2.1 dX8_overdues_32 rfl (lv_at hl 2 rfl) ?_
          refine mr_get X hT fl_RX8_119 (hM.1) rfl dX8_overdues_33 ?_
          refine lv_aload_n X.1 X.2.1 dX8_overdues_36 rfl (lv_at hl 2 rfl) ?_
          refine mr_get X hT fl_RX8_56 (hM.1) rfl dX8_overdues_37 ?_
          refine lv_iload_n X.1 X.2.1 dX8_overdues_40 rfl (lv_at hl 0 rfl) ?_
          refine mm_iald X hT hM (k := 20) (N := 2000) (j := k) rfl (by decide) (by decide) (by omega) dX8_overdues_41 ?_
          refine lv_isub X.1 X.2.1 dX8_overdues_42 ?_
          refine lv_sipush X.1 X.2.1 (v := 1440) dX8_overdues_43 (by decide) ?_
          refine lv_icmp_lt X.1 X.2.1 (tgt := 53) dX8_overdues_46 (by decide) (fun c46 => ?_) (fun c46 => ?_)
          · skip
            refine lv_iconst X.1 X.2.1 (v := 0) dX8_overdues_53 (by decide) ?_
            refine W.widen (k := 0) (n := 0) (Nat.le_of_ble_eq_true rfl) (Nat.le_of_ble_eq_true rfl) ?_
            exact J54 _ _ _ _ ⟨by unfold q_over1; first | (simp [bI, c20]; done) | (simp [bI, c20, c29]; done) | (simp [bI, c20, c29, Int32.not_le.mpr c46]; done) | (simp [bI, c20, c29, Int32.not_lt.mp c46]; done), hM⟩ hT
          · skip
            refine lv_iconst X.1 X.2.1 (v := 1) dX8_overdues_49 (by decide) ?_
            refine lv_goto X.1 X.2.1 (tgt := 54) dX8_overdues_50 (by decide) ?_
            refine W.widen (k := 0) (n := 0) (Nat.le_of_ble_eq_true rfl) (Nat.le_of_ble_eq_true rfl) ?_
            exact J54 _ _ _ _ ⟨by unfold q_over1; first | (simp [bI, c20]; done) | (simp [bI, c20, c29]; done) | (simp [bI, c20, c29, Int32.not_le.mpr c46]; done) | (simp [bI, c20, c29, Int32.not_lt.mp c46]; done), hM⟩ hT

abbrev rm_X8_canAsk : Room := { frames := 3, cells := 0, slots := 0, locals := 65 }
set_option maxHeartbeats 4000000 in
set_option maxRecDepth 100000 in
theorem m_canAsk {l : Launch} (hfl : l.stackTraces = false) {G : mw_G} {hm : Nat} {ad : Nat → Nat} {x : s_T} {lst : Int32} {p mm : Int32} {M : mw_M} (hM : MA G hm ad x lst M) (hi : q_inv 512 x) : mw_Met l G yX8_canAsk (.code yX8_canAsk cX8_canAsk 3 (some .boolean)) rm_X8_canAsk [.ref hm, .int p, .int mm] M (mw_pi (fun r M1 => r = bI (q_can x p mm) ∧ MA G hm ad (x) lst M1)) := by
  refine mw_of hfl (by decide) (Nat.le_of_ble_eq_true rfl) ?_
  intro zp ze zs zm zb zh zc ls X hin hret hT hl
  have hl : lv_has ls 3 [(0, .ref hm), (1, .int p), (2, .int mm)] := hl
  obtain ⟨⟨i2, i4, i5, i10, i17, i22, i29, i32⟩, hr3, hr6, hr11, hr18, hr23, hz21, hz28, hlb⟩ := id hi
  refine mw_join hT 31 0 0 (fun r M1 => r = bI (q_can x p mm) ∧ MA G hm ad (x) lst M1) (fun r M1 H locs hp hT => ?_) (fun J31 => ?_)
  · obtain ⟨rfl, hM⟩ := hp
    exact mr_zret X hT hret (bI_nar _) (⟨_, rfl, rfl, hM⟩) (Nat.le_of_ble_eq_true rfl) (Nat.le_of_ble_eq_true rfl) dX8_canAsk_31
  · skip
    refine lv_aload_n X.1 X.2.1 dX8_canAsk_0 rfl (lv_at hl 0 rfl) ?_
    refine lv_iload_n X.1 X.2.1 dX8_canAsk_1 rfl (lv_at hl 1 rfl) ?_
    refine lv_iload_n X.1 X.2.1 dX8_canAsk_2 rfl (lv_at hl 2 rfl) ?_
    refine mr_g X hT (fun hT' => mr_runV X hT' cb_RX8_152 kw879 kp35 kw880 (m_areBoth hfl hM (by omega) (by omega)) (mr_cell X hT hM.1 rfl) rfl rfl hl.1 ⟨Nat.le_of_ble_eq_true rfl, Nat.le_of_ble_eq_true rfl⟩ (Nat.le_of_ble_eq_true rfl) dX8_canAsk_3 ⟨Nat.le_of_ble_eq_true rfl, Nat.le_of_ble_eq_true rfl⟩) (fun v M1 H locs hp hT => ?_)
    obtain ⟨r, rfl, rfl, hM⟩ := hp
    refine W.eq (g2 := F0 zm 6 ls (.int _ :: _)) rfl ?_
    refine lv_if_eq X.1 X.2.1 (tgt := 30) dX8_canAsk_6 (by decide) (fun c6 => ?_) (fun c6 => ?_)
    · skip
      refine lv_iconst X.1 X.2.1 (v := 0) dX8_canAsk_30 (by decide) ?_
      refine W.widen (k := 0) (n := 0) (Nat.le_of_ble_eq_true rfl) (Nat.le_of_ble_eq_true rfl) ?_
      exact J31 _ _ _ _ ⟨by unfold q_can; first | (rw [bI_0.mp c6]; rfl) | (rw [hb, bI_0.mp c15]; rfl) | (rw [hb, bI_n.mp c15, decide_eq_false c23]; rfl) | (rw [hb, bI_n.mp c15, decide_eq_true c23]; rfl), hM⟩ hT
    · skip
      have hb := bI_n.mp c6
      have hb2 := hb
      unfold q_both at hb2
      rw [Bool.and_eq_true] at hb2
      obtain ⟨g1, g2⟩ := hb2
      obtain ⟨j, hj, rfl⟩ := (q_ix_iff (show ct x 2 < 2 ^ 31 by omega)).mp g1
      have pj : pn (nI j) = j := pn_nI (by omega)
      obtain ⟨k, hk, rfl⟩ := (q_ix_iff (show ct x 4 < 2 ^ 31 by omega)).mp g2
      have pk : pn (nI k) = k := pn_nI (by omega)
      refine lv_aload_n X.1 X.2.1 dX8_canAsk_9 rfl (lv_at hl 0 rfl) ?_
      refine lv_iload_n X.1 X.2.1 dX8_canAsk_10 rfl (lv_at hl 1 rfl) ?_
      refine lv_iload_n X.1 X.2.1 dX8_canAsk_11 rfl (lv_at hl 2 rfl) ?_
      refine mr_g X hT (fun hT' => mr_runV X hT' cb_RX8_156 kw895 kp38 kw896 (m_hasLabel hfl hM hi hj hk) (mr_cell X hT hM.1 rfl) rfl rfl hl.1 ⟨Nat.le_of_ble_eq_true rfl, Nat.le_of_ble_eq_true rfl⟩ (Nat.le_of_ble_eq_true rfl) dX8_canAsk_12 ⟨Nat.le_of_ble_eq_true rfl, Nat.le_of_ble_eq_true rfl⟩) (fun v M1 H locs hp hT => ?_)
      obtain ⟨r, rfl, rfl, hM⟩ := hp
      refine W.eq (g2 := F0 zm 15 ls (.int _ :: _)) rfl ?_
      refine lv_if_eq X.1 X.2.1 (tgt := 30) dX8_canAsk_15 (by decide) (fun c15 => ?_) (fun c15 => ?_)
      · skip
        refine lv_iconst X.1 X.2.1 (v := 0) dX8_canAsk_30 (by decide) ?_
        refine W.widen (k := 0) (n := 0) (Nat.le_of_ble_eq_true rfl) (Nat.le_of_ble_eq_true rfl) ?_
        exact J31 _ _ _ _ ⟨by unfold q_can; first | (rw [bI_0.mp c6]; rfl) | (rw [hb, bI_0.mp c15]; rfl) | (rw [hb, bI_n.mp c15, decide_eq_false c23]; rfl) | (rw [hb, bI_n.mp c15, decide_eq_true c23]; rfl), hM⟩ hT
      · skip
        refine lv_aload_n X.1 X.2.1 dX8_canAsk_18 rfl (lv_at hl 0 rfl) ?_
        refine lv_iload_n X.1 X.2.1 dX8_canAsk_19 rfl (lv_at hl 1 rfl) ?_
        refine mr_g X hT (fun hT' => mr_runV X hT' cb_RX8_159 kw899 kp39 kw900 (m_overdues hfl hM hi) (mr_cell X hT hM.1 rfl) rfl rfl hl.1 ⟨Nat.le_of_ble_eq_true rfl, Nat.le_of_ble_eq_true rfl⟩ (Nat.le_of_ble_eq_true rfl) dX8_canAsk_20 ⟨Nat.le_of_ble_eq_true rfl, Nat.le_of_ble_eq_true rfl⟩) (fun v M1 H locs hp hT => ?_)
        obtain ⟨r, rfl, rfl, hM⟩ := hp
        refine W.eq (g2 := F0 zm 23 ls (.int _ :: _)) rfl ?_
        refine lv_if_ne X.1 X.2.1 (tgt := 30) dX8_canAsk_23 (by decide) (fun c23 => ?_) (fun c23 => ?_)
        · skip
          refine lv_iconst X.1 X.2.1 (v := 0) dX8_canAsk_30 (by decide) ?_
          refine W.widen (k := 0) (n := 0) (Nat.le_of_ble_eq_true rfl) (Nat.le_of_ble_eq_true rfl) ?_
          exact J31 _ _ _ _ ⟨by unfold q_can; first | (rw [bI_0.mp c6]; rfl) | (rw [hb, bI_0.mp c15]; rfl) | (rw [hb, bI_n.mp c15, decide_eq_false c23]; rfl) | (rw [hb, bI_n.mp c15, decide_eq_true c23]; rfl), hM⟩ hT
        · skip
          refine lv_iconst X.1 X.2.1 (v := 1) dX8_canAsk_26 (by decide) ?_
          refine lv_goto X.1 X.2.1 (tgt := 31) dX8_canAsk_27 (by decide) ?_
          refine W.widen (k := 0) (n := 0) (Nat.le_of_ble_eq_true rfl) (Nat.le_of_ble_eq_true rfl) ?_
          exact J31 _ _ _ _ ⟨by unfold q_can; first | (rw [bI_0.mp c6]; rfl) | (rw [hb, bI_0.mp c15]; rfl) | (rw [hb, bI_n.mp c15, decide_eq_false c23]; rfl) | (rw [hb, bI_n.mp c15, decide_eq_true c23]; rfl), hM⟩ hT

abbrev rm_X8_ask : Room := { frames := 4, cells := 0, slots := 0, locals := 87 }
set_option maxHeartbeats 4000000 in
set_option maxRecDepth 100000 in
theorem m_ask {l : Launch} (hfl : l.stackTraces = false) {G : mw_G} {hm : Nat} {ad : Nat → Nat} {x : s_T} {lst : Int32} {p mm t : Int32} {M : mw_M} (hM : MA G hm ad x lst M) (hi : q_inv 511 x) : mw_Met l G yX8_ask (.code yX8_ask cX8_ask 4 (some .int)) rm_X8_ask [.ref hm, .int p, .int mm, .int t] M (mw_pi (fun r M1 => (f_ask_c x p mm t = 0 → r = nI (ct x 17)) ∧ MA G hm ad (if f_ask_c x p mm t = 0 then f_ask_s x p mm t else x) (f_ask_c x p mm t) M1)) := by
  refine mw_of hfl (by decide) (Nat.le_of_ble_eq_true rfl) ?_
  intro zp ze zs zm zb zh zc ls X hin hret hT hl
  have hl : lv_has ls 4 [(0, .ref hm), (1, .int p), (2, .int mm), (3, .int t)] := hl
  obtain ⟨⟨i2, i4, i5, i10, i17, i22, i29, i32⟩, hr3, hr6, hr11, hr18, hr23, hz21, hz28, hlb⟩ := id hi
  have hI := q_inv_mono hi (show 511 ≤ 512 by decide)
  refine lv_aload_n X.1 X.2.1 dX8_ask_0 rfl (lv_at hl 0 rfl) ?_
  refine lv_aload_n X.1 X.2.1 dX8_ask_1 rfl (lv_at hl 0 rfl) ?_
  refine lv_iload_n X.1 X.2.1 dX8_ask_2 rfl (lv_at hl 1 rfl) ?_
  refine lv_iload_n X.1 X.2.1 dX8_ask_3 rfl (lv_at hl 2 rfl) ?_
  refine mr_g X hT (fun hT' => mr_runV X hT' cb_RX8_152 kw879 kp35 kw880 (m_areBoth hfl hM (by omega) (by omega)) (mr_cell X hT hM.1 rfl) rfl rfl hl.1 ⟨Nat.le_of_ble_eq_true rfl, Nat.le_of_ble_eq_true rfl⟩ (Nat.le_of_ble_eq_true rfl) dX8_ask_4 ⟨Nat.le_of_ble_eq_true rfl, Nat.le_of_ble_eq_true rfl⟩) (fun v M1 H locs hp hT => ?_)
  obtain ⟨r, rfl, rfl, hM⟩ := hp
  refine W.eq (g2 := F0 zm 7 ls (.int _ :: _)) rfl ?_
  refine lv_iload_n X.1 X.2.1 dX8_ask_7 rfl (lv_at hl 3 rfl) ?_
  refine lv_iconst X.1 X.2.1 (v := 1) dX8_ask_8 (by decide) ?_
  refine lv_sipush X.1 X.2.1 (v := 600) dX8_ask_9 (by decide) ?_
  refine mr_g X hT (fun hT' => mr_runS X hT' cb_RX8_93 kw830 kw831 (m_in hfl hM) rfl rfl hl.1 ⟨Nat.le_of_ble_eq_true rfl, Nat.le_of_ble_eq_true rfl⟩ (Nat.le_of_ble_eq_true rfl) dX8_ask_12 ⟨Nat.le_of_ble_eq_true rfl, Nat.le_of_ble_eq_true rfl⟩) (fun v M1 H locs hp hT => ?_)
  obtain ⟨r, rfl, rfl, hM⟩ := hp
  refine W.eq (g2 := F0 zm 15 ls (.int _ :: _)) rfl ?_
  refine lv_aload_n X.1 X.2.1 dX8_ask_15 rfl (lv_at hl 0 rfl) ?_
  refine lv_iload_n X.1 X.2.1 dX8_ask_16 rfl (lv_at hl 1 rfl) ?_
  refine lv_iload_n X.1 X.2.1 dX8_ask_17 rfl (lv_at hl 2 rfl) ?_
  refine mr_g X hT (fun hT' => mr_runV X hT' cb_RX8_162 kw891 kp37 kw892 (m_canAsk hfl hM hI) (mr_cell X hT hM.1 rfl) rfl rfl hl.1 ⟨Nat.le_of_ble_eq_true rfl, Nat.le_of_ble_eq_true rfl⟩ (Nat.le_of_ble_eq_true rfl) dX8_ask_18 ⟨Nat.le_of_ble_eq_true rfl, Nat.le_of_ble_eq_true rfl⟩) (fun v M1 H locs hp hT => ?_)
  obtain ⟨r, rfl, rfl, hM⟩ := hp
  refine W.eq (g2 := F0 zm 21 ls (.int _ :: _)) rfl ?_
  refine mr_g X hT (fun hT' => mr_runV X hT' cb_RX8_123 kw834 kp27 kw835 (m_goes (a := q_both x p mm) (b := q_in t 1 600) (c := q_can x p mm) hfl hM) (mr_cell X hT hM.1 rfl) rfl rfl hl.1 ⟨Nat.le_of_ble_eq_true rfl, Nat.le_of_ble_eq_true rfl⟩ (Nat.le_of_ble_eq_true rfl) dX8_ask_21 ⟨Nat.le_of_ble_eq_true rfl, Nat.le_of_ble_eq_true rfl⟩) (fun v M1 H locs hp hT => ?_)
  obtain ⟨r, rfl, rfl, hM⟩ := hp
  refine W.eq (g2 := F0 zm 24 ls (.int _ :: _)) rfl ?_
  refine lv_if_ne X.1 X.2.1 (tgt := 29) dX8_ask_24 (by decide) (fun c24 => ?_) (fun c24 => ?_)
  · skip
    have hc : f_ask_c x p mm t = 0 := g_ok c24
    obtain ⟨h1, h2, h3⟩ := q_code_ok hc
    refine lv_aload_n X.1 X.2.1 dX8_ask_29 rfl (lv_at hl 0 rfl) ?_
    refine mr_get X hT fl_RX8_32 (hM.1) rfl dX8_ask_30 ?_
    refine lv_aload_n X.1 X.2.1 dX8_ask_33 rfl (lv_at hl 0 rfl) ?_
    refine mr_get X hT fl_RX8_107 (hM.1) rfl dX8_ask_34 ?_
    refine lv_iload_n X.1 X.2.1 dX8_ask_37 rfl (lv_at hl 1 rfl) ?_
    refine mm_iast X hT hM (k := 11) (N := 2000) (j := ct x 17) rfl (by decide) (by decide) (by omega) dX8_ask_38 (fun M1 H locs hM hT => ?_)
    refine lv_aload_n X.1 X.2.1 dX8_ask_39 rfl (lv_at hl 0 rfl) ?_
    refine mr_get X hT fl_RX8_35 (hM.1) rfl dX8_ask_40 ?_
    refine lv_aload_n X.1 X.2.1 dX8_ask_43 rfl (lv_at hl 0 rfl) ?_
    refine mr_get X hT fl_RX8_107 (hM.1) rfl dX8_ask_44 ?_
    refine lv_iload_n X.1 X.2.1 dX8_ask_47 rfl (lv_at hl 2 rfl) ?_
    refine mm_iast X hT hM (k := 12) (N := 2000) (j := ct x 17) rfl (by decide) (by decide) (by omega) dX8_ask_48 (fun M1 H locs hM hT => ?_)
    refine lv_aload_n X.1 X.2.1 dX8_ask_49 rfl (lv_at hl 0 rfl) ?_
    refine mr_get X hT fl_RX8_38 (hM.1) rfl dX8_ask_50 ?_
    refine lv_aload_n X.1 X.2.1 dX8_ask_53 rfl (lv_at hl 0 rfl) ?_
    refine mr_get X hT fl_RX8_107 (hM.1) rfl dX8_ask_54 ?_
    refine lv_iload_n X.1 X.2.1 dX8_ask_57 rfl (lv_at hl 3 rfl) ?_
    refine mm_iast X hT hM (k := 13) (N := 2000) (j := ct x 17) rfl (by decide) (by decide) (by omega) dX8_ask_58 (fun M1 H locs hM hT => ?_)
    refine lv_aload_n X.1 X.2.1 dX8_ask_59 rfl (lv_at hl 0 rfl) ?_
    refine mr_get X hT fl_RX8_41 (hM.1) rfl dX8_ask_60 ?_
    refine lv_aload_n X.1 X.2.1 dX8_ask_63 rfl (lv_at hl 0 rfl) ?_
    refine mr_get X hT fl_RX8_107 (hM.1) rfl dX8_ask_64 ?_
    refine lv_aload_n X.1 X.2.1 dX8_ask_67 rfl (lv_at hl 0 rfl) ?_
    refine mr_get X hT fl_RX8_119 (hM.1) rfl dX8_ask_68 ?_
    refine mm_iast X hT hM (k := 14) (N := 2000) (j := ct x 17) rfl (by decide) (by decide) (by omega) dX8_ask_71 (fun M1 H locs hM hT => ?_)
    refine lv_aload_n X.1 X.2.1 dX8_ask_72 rfl (lv_at hl 0 rfl) ?_
    refine mr_get X hT fl_RX8_44 (hM.1) rfl dX8_ask_73 ?_
    refine lv_aload_n X.1 X.2.1 dX8_ask_76 rfl (lv_at hl 0 rfl) ?_
    refine mr_get X hT fl_RX8_107 (hM.1) rfl dX8_ask_77 ?_
    refine lv_iconst X.1 X.2.1 (v := 0) dX8_ask_80 (by decide) ?_
    refine mm_iast X hT hM (k := 15) (N := 2000) (j := ct x 17) rfl (by decide) (by decide) (by omega) dX8_ask_81 (fun M1 H locs hM hT => ?_)
    refine lv_aload_n X.1 X.2.1 dX8_ask_82 rfl (lv_at hl 0 rfl) ?_
    refine mr_get X hT fl_RX8_47 (hM.1) rfl dX8_ask_83 ?_
    refine lv_aload_n X.1 X.2.1 dX8_ask_86 rfl (lv_at hl 0 rfl) ?_
    refine mr_get X hT fl_RX8_107 (hM.1) rfl dX8_ask_87 ?_
    refine lv_iconst X.1 X.2.1 (v := -1) dX8_ask_90 (by decide) ?_
    refine mm_iast X hT hM (k := 16) (N := 2000) (j := ct x 17) rfl (by decide) (by decide) (by omega) dX8_ask_91 (fun M1 H locs hM hT => ?_)
    refine lv_aload_n X.1 X.2.1 dX8_ask_92 rfl (lv_at hl 0 rfl) ?_
    refine lv_dup X.1 X.2.1 dX8_ask_93 rfl ?_
    refine mr_get X hT fl_RX8_107 (hM.1) rfl dX8_ask_94 ?_
    refine lv_iconst X.1 X.2.1 (v := 1) dX8_ask_97 (by decide) ?_
    refine lv_iadd X.1 X.2.1 dX8_ask_98 ?_
    refine mm_put X hT hM fp_RX8_107 (k := 17) rfl (ct x 17 + 1) (nI_1 _) dX8_ask_99 (fun M1 H locs hM hT => ?_)
    refine lv_aload_n X.1 X.2.1 dX8_ask_102 rfl (lv_at hl 0 rfl) ?_
    refine lv_iconst X.1 X.2.1 (v := 0) dX8_ask_103 (by decide) ?_
    refine lv_iload_n X.1 X.2.1 dX8_ask_104 rfl (lv_at hl 1 rfl) ?_
    refine lv_iload_n X.1 X.2.1 dX8_ask_105 rfl (lv_at hl 2 rfl) ?_
    refine mr_g X hT (fun hT' => mr_runV X hT' cb_RX8_130 kw870 kp34 kw871 (m_writes hfl hM (show ct x 32 < 8000 by omega)) (mr_cell X hT hM.1 rfl) rfl rfl hl.1 ⟨Nat.le_of_ble_eq_true rfl, Nat.le_of_ble_eq_true rfl⟩ (Nat.le_of_ble_eq_true rfl) dX8_ask_106 ⟨Nat.le_of_ble_eq_true rfl, Nat.le_of_ble_eq_true rfl⟩) (fun v M1 H locs hp hT => ?_)
    obtain ⟨rfl, hM⟩ := hp
    refine W.eq (g2 := F0 zm 109 ls _) rfl ?_
    refine lv_aload_n X.1 X.2.1 dX8_ask_109 rfl (lv_at hl 0 rfl) ?_
    refine mr_get X hT fl_RX8_107 (hM.1) rfl dX8_ask_110 ?_
    refine lv_iconst X.1 X.2.1 (v := 1) dX8_ask_113 (by decide) ?_
    refine lv_isub X.1 X.2.1 dX8_ask_114 ?_
    refine mm_top (w := nI (ct x 17)) (nI_pred _) ?_
    exact mr_iret X hT hret (⟨_, rfl, fun _ => rfl, by rw [if_pos hc]; exact hM⟩) (Nat.le_of_ble_eq_true rfl) (Nat.le_of_ble_eq_true rfl) dX8_ask_115
  · skip
    have hc : ¬ f_ask_c x p mm t = 0 := g_no c24
    refine lv_iconst X.1 X.2.1 (v := 0) dX8_ask_27 (by decide) ?_
    exact mr_iret X hT hret (⟨_, rfl, fun z => absurd z hc, by rw [if_neg hc]; exact hM⟩) (Nat.le_of_ble_eq_true rfl) (Nat.le_of_ble_eq_true rfl) dX8_ask_28

abbrev rm_X8_canJudge : Room := { frames := 2, cells := 0, slots := 0, locals := 43 }
set_option maxHeartbeats 4000000 in
set_option maxRecDepth 100000 in
theorem m_canJudge {l : Launch} (hfl : l.stackTraces = false) {G : mw_G} {hm : Nat} {ad : Nat → Nat} {x : s_T} {lst : Int32} {a b : Int32} {M : mw_M} (hM : MA G hm ad x lst M) (hi : q_inv 512 x) : mw_Met l G yX8_canJudge (.code yX8_canJudge cX8_canJudge 3 (some .boolean)) rm_X8_canJudge [.ref hm, .int a, .int b] M (mw_pi (fun r M1 => r = bI (q_jud x a b) ∧ MA G hm ad (x) lst M1)) := by
  refine mw_of hfl (by decide) (Nat.le_of_ble_eq_true rfl) ?_
  intro zp ze zs zm zb zh zc ls X hin hret hT hl
  have hl : lv_has ls 3 [(0, .ref hm), (1, .int a), (2, .int b)] := hl
  obtain ⟨⟨i2, i4, i5, i10, i17, i22, i29, i32⟩, hr3, hr6, hr11, hr18, hr23, hz21, hz28, hlb⟩ := id hi
  refine mw_join hT 64 0 0 (fun r M1 => r = bI (q_jud x a b) ∧ MA G hm ad (x) lst M1) (fun r M1 H locs hp hT => ?_) (fun J64 => ?_)
  · obtain ⟨rfl, hM⟩ := hp
    exact mr_zret X hT hret (bI_nar _) (⟨_, rfl, rfl, hM⟩) (Nat.le_of_ble_eq_true rfl) (Nat.le_of_ble_eq_true rfl) dX8_canJudge_64
  · skip
    refine lv_aload_n X.1 X.2.1 dX8_canJudge_0 rfl (lv_at hl 0 rfl) ?_
    refine lv_iload_n X.1 X.2.1 dX8_canJudge_1 rfl (lv_at hl 1 rfl) ?_
    refine mr_g X hT (fun hT' => mr_runV X hT' cb_RX8_165 kw911 kp41 kw912 (m_isAsk hfl hM (by omega)) (mr_cell X hT hM.1 rfl) rfl rfl hl.1 ⟨Nat.le_of_ble_eq_true rfl, Nat.le_of_ble_eq_true rfl⟩ (Nat.le_of_ble_eq_true rfl) dX8_canJudge_2 ⟨Nat.le_of_ble_eq_true rfl, Nat.le_of_ble_eq_true rfl⟩) (fun v M1 H locs hp hT => ?_)
    obtain ⟨r, rfl, rfl, hM⟩ := hp
    refine W.eq (g2 := F0 zm 5 ls (.int _ :: _)) rfl ?_
    refine lv_if_eq X.1 X.2.1 (tgt := 63) dX8_canJudge_5 (by decide) (fun c5 => ?_) (fun c5 => ?_)
    · skip
      refine lv_iconst X.1 X.2.1 (v := 0) dX8_canJudge_63 (by decide) ?_
      refine W.widen (k := 0) (n := 0) (Nat.le_of_ble_eq_true rfl) (Nat.le_of_ble_eq_true rfl) ?_
      exact J64 _ _ _ _ ⟨by unfold q_jud; first | (rw [bI_0.mp c5]; rfl) | (rw [h5, bI_0.mp c13]; rfl) | (rw [h5, h13, pj, decide_eq_false c22]; rfl) | (rw [h5, h13, pj, pk, decide_eq_true c22, eu, pu, d_nef c42]; rfl) | (rw [h5, h13, pj, pk, decide_eq_true c22, eu, pu, decide_eq_true c42, ew, bI_0.mp c56]; rfl) | (rw [h5, h13, pj, pk, decide_eq_true c22, eu, pu, decide_eq_true c42, ew, bI_n.mp c56]; rfl), hM⟩ hT
    · skip
      have h5 := bI_n.mp c5
      obtain ⟨j, hj, rfl⟩ := (q_ix_iff (show ct x 17 < 2 ^ 31 by omega)).mp h5
      have pj : pn (nI j) = j := pn_nI (by omega)
      obtain ⟨⟨u, hu, eu⟩, ⟨w, hw, ew⟩, -, -⟩ := hr11 j hj
      have pu : pn (nI u) = u := pn_nI (by omega)
      refine lv_aload_n X.1 X.2.1 dX8_canJudge_8 rfl (lv_at hl 0 rfl) ?_
      refine lv_iload_n X.1 X.2.1 dX8_canJudge_9 rfl (lv_at hl 2 rfl) ?_
      refine mr_g X hT (fun hT' => mr_runV X hT' cb_RX8_100 kw846 kp28 kw847 (m_isPerson hfl hM (by omega)) (mr_cell X hT hM.1 rfl) rfl rfl hl.1 ⟨Nat.le_of_ble_eq_true rfl, Nat.le_of_ble_eq_true rfl⟩ (Nat.le_of_ble_eq_true rfl) dX8_canJudge_10 ⟨Nat.le_of_ble_eq_true rfl, Nat.le_of_ble_eq_true rfl⟩) (fun v M1 H locs hp hT => ?_)
      obtain ⟨r, rfl, rfl, hM⟩ := hp
      refine W.eq (g2 := F0 zm 13 ls (.int _ :: _)) rfl ?_
      refine lv_if_eq X.1 X.2.1 (tgt := 63) dX8_canJudge_13 (by decide) (fun c13 => ?_) (fun c13 => ?_)
      · skip
        refine lv_iconst X.1 X.2.1 (v := 0) dX8_canJudge_63 (by decide) ?_
        refine W.widen (k := 0) (n := 0) (Nat.le_of_ble_eq_true rfl) (Nat.le_of_ble_eq_true rfl) ?_
        exact J64 _ _ _ _ ⟨by unfold q_jud; first | (rw [bI_0.mp c5]; rfl) | (rw [h5, bI_0.mp c13]; rfl) | (rw [h5, h13, pj, decide_eq_false c22]; rfl) | (rw [h5, h13, pj, pk, decide_eq_true c22, eu, pu, d_nef c42]; rfl) | (rw [h5, h13, pj, pk, decide_eq_true c22, eu, pu, decide_eq_true c42, ew, bI_0.mp c56]; rfl) | (rw [h5, h13, pj, pk, decide_eq_true c22, eu, pu, decide_eq_true c42, ew, bI_n.mp c56]; rfl), hM⟩ hT
      · skip
        have h13 := bI_n.mp c13
        obtain ⟨k, hk, rfl⟩ := (q_ix_iff (show ct x 2 < 2 ^ 31 by omega)).mp h13
        have pk : pn (nI k) = k := pn_nI (by omega)
        refine lv_aload_n X.1 X.2.1 dX8_canJudge_16 rfl (lv_at hl 0 rfl) ?_
        refine mr_get X hT fl_RX8_44 (hM.1) rfl dX8_canJudge_17 ?_
        refine lv_iload_n X.1 X.2.1 dX8_canJudge_20 rfl (lv_at hl 1 rfl) ?_
        refine mm_iald X hT hM (k := 15) (N := 2000) (j := j) rfl (by decide) (by decide) (by omega) dX8_canJudge_21 ?_
        refine lv_if_ne X.1 X.2.1 (tgt := 63) dX8_canJudge_22 (by decide) (fun c22 => ?_) (fun c22 => ?_)
        · skip
          refine lv_iconst X.1 X.2.1 (v := 0) dX8_canJudge_63 (by decide) ?_
          refine W.widen (k := 0) (n := 0) (Nat.le_of_ble_eq_true rfl) (Nat.le_of_ble_eq_true rfl) ?_
          exact J64 _ _ _ _ ⟨by unfold q_jud; first | (rw [bI_0.mp c5]; rfl) | (rw [h5, bI_0.mp c13]; rfl) | (rw [h5, h13, pj, decide_eq_false c22]; rfl) | (rw [h5, h13, pj, pk, decide_eq_true c22, eu, pu, d_nef c42]; rfl) | (rw [h5, h13, pj, pk, decide_eq_true c22, eu, pu, decide_eq_true c42, ew, bI_0.mp c56]; rfl) | (rw [h5, h13, pj, pk, decide_eq_true c22, eu, pu, decide_eq_true c42, ew, bI_n.mp c56]; rfl), hM⟩ hT
        · skip
          refine lv_aload_n X.1 X.2.1 dX8_canJudge_25 rfl (lv_at hl 0 rfl) ?_
          refine mr_get X hT fl_RX8_7 (hM.1) rfl dX8_canJudge_26 ?_
          refine lv_iload_n X.1 X.2.1 dX8_canJudge_29 rfl (lv_at hl 2 rfl) ?_
          refine mm_iald X hT hM (k := 0) (N := 12) (j := k) rfl (by decide) (by decide) (by omega) dX8_canJudge_30 ?_
          refine lv_aload_n X.1 X.2.1 dX8_canJudge_31 rfl (lv_at hl 0 rfl) ?_
          refine mr_get X hT fl_RX8_7 (hM.1) rfl dX8_canJudge_32 ?_
          refine lv_aload_n X.1 X.2.1 dX8_canJudge_35 rfl (lv_at hl 0 rfl) ?_
          refine mr_get X hT fl_RX8_32 (hM.1) rfl dX8_canJudge_36 ?_
          refine lv_iload_n X.1 X.2.1 dX8_canJudge_39 rfl (lv_at hl 1 rfl) ?_
          refine mm_iald X hT hM (k := 11) (N := 2000) (j := j) rfl (by decide) (by decide) (by omega) dX8_canJudge_40 ?_
          refine mm_top (w := nI u) (eu) ?_
          refine mm_iald X hT hM (k := 0) (N := 12) (j := u) rfl (by decide) (by decide) (by omega) dX8_canJudge_41 ?_
          refine lv_icmp_eq X.1 X.2.1 (tgt := 63) dX8_canJudge_42 (by decide) (fun c42 => ?_) (fun c42 => ?_)
          · skip
            refine lv_iconst X.1 X.2.1 (v := 0) dX8_canJudge_63 (by decide) ?_
            refine W.widen (k := 0) (n := 0) (Nat.le_of_ble_eq_true rfl) (Nat.le_of_ble_eq_true rfl) ?_
            exact J64 _ _ _ _ ⟨by unfold q_jud; first | (rw [bI_0.mp c5]; rfl) | (rw [h5, bI_0.mp c13]; rfl) | (rw [h5, h13, pj, decide_eq_false c22]; rfl) | (rw [h5, h13, pj, pk, decide_eq_true c22, eu, pu, d_nef c42]; rfl) | (rw [h5, h13, pj, pk, decide_eq_true c22, eu, pu, decide_eq_true c42, ew, bI_0.mp c56]; rfl) | (rw [h5, h13, pj, pk, decide_eq_true c22, eu, pu, decide_eq_true c42, ew, bI_n.mp c56]; rfl), hM⟩ hT
          · skip
            refine lv_aload_n X.1 X.2.1 dX8_canJudge_45 rfl (lv_at hl 0 rfl) ?_
            refine lv_iload_n X.1 X.2.1 dX8_canJudge_46 rfl (lv_at hl 2 rfl) ?_
            refine lv_aload_n X.1 X.2.1 dX8_canJudge_47 rfl (lv_at hl 0 rfl) ?_
            refine mr_get X hT fl_RX8_35 (hM.1) rfl dX8_canJudge_48 ?_
            refine lv_iload_n X.1 X.2.1 dX8_canJudge_51 rfl (lv_at hl 1 rfl) ?_
            refine mm_iald X hT hM (k := 12) (N := 2000) (j := j) rfl (by decide) (by decide) (by omega) dX8_canJudge_52 ?_
            refine mm_top (w := nI w) (ew) ?_
            refine mr_g X hT (fun hT' => mr_runV X hT' cb_RX8_156 kw895 kp38 kw896 (m_hasLabel hfl hM hi hk hw) (mr_cell X hT hM.1 rfl) rfl rfl hl.1 ⟨Nat.le_of_ble_eq_true rfl, Nat.le_of_ble_eq_true rfl⟩ (Nat.le_of_ble_eq_true rfl) dX8_canJudge_53 ⟨Nat.le_of_ble_eq_true rfl, Nat.le_of_ble_eq_true rfl⟩) (fun v M1 H locs hp hT => ?_)
            obtain ⟨r, rfl, rfl, hM⟩ := hp
            refine W.eq (g2 := F0 zm 56 ls (.int _ :: _)) rfl ?_
            refine lv_if_eq X.1 X.2.1 (tgt := 63) dX8_canJudge_56 (by decide) (fun c56 => ?_) (fun c56 => ?_)
            · skip
              refine lv_iconst X.1 X.2.1 (v := 0) dX8_canJudge_63 (by decide) ?_
              refine W.widen (k := 0) (n := 0) (Nat.le_of_ble_eq_true rfl) (Nat.le_of_ble_eq_true rfl) ?_
              exact J64 _ _ _ _ ⟨by unfold q_jud; first | (rw [bI_0.mp c5]; rfl) | (rw [h5, bI_0.mp c13]; rfl) | (rw [h5, h13, pj, decide_eq_false c22]; rfl) | (rw [h5, h13, pj, pk, decide_eq_true c22, eu, pu, d_nef c42]; rfl) | (rw [h5, h13, pj, pk, decide_eq_true c22, eu, pu, decide_eq_true c42, ew, bI_0.mp c56]; rfl) | (rw [h5, h13, pj, pk, decide_eq_true c22, eu, pu, decide_eq_true c42, ew, bI_n.mp c56]; rfl), hM⟩ hT
            · skip
              refine lv_iconst X.1 X.2.1 (v := 1) dX8_canJudge_59 (by decide) ?_
              refine lv_goto X.1 X.2.1 (tgt := 64) dX8_canJudge_60 (by decide) ?_
              refine W.widen (k := 0) (n := 0) (Nat.le_of_ble_eq_true rfl) (Nat.le_of_ble_eq_true rfl) ?_
              exact J64 _ _ _ _ ⟨by unfold q_jud; first | (rw [bI_0.mp c5]; rfl) | (rw [h5, bI_0.mp c13]; rfl) | (rw [h5, h13, pj, decide_eq_false c22]; rfl) | (rw [h5, h13, pj, pk, decide_eq_true c22, eu, pu, d_nef c42]; rfl) | (rw [h5, h13, pj, pk, decide_eq_true c22, eu, pu, decide_eq_true c42, ew, bI_0.mp c56]; rfl) | (rw [h5, h13, pj, pk, decide_eq_true c22, eu, pu, decide_eq_true c42, ew, bI_n.mp c56]; rfl), hM⟩ hT

abbrev rm_X8_approve : Room := { frames := 3, cells := 0, slots := 0, locals := 65 }
set_option maxHeartbeats 4000000 in
set_option maxRecDepth 100000 in
theorem m_approve {l : Launch} (hfl : l.stackTraces = false) {G : mw_G} {hm : Nat} {ad : Nat → Nat} {x : s_T} {lst : Int32} {a b : Int32} {M : mw_M} (hM : MA G hm ad x lst M) (hi : q_inv 511 x) : mw_Met l G yX8_approve (.code yX8_approve cX8_approve 4 (some .boolean)) rm_X8_approve [.ref hm, .int a, .int b] M (mw_pi (fun r M1 => (f_approve_c x a b = 0 → r = (f_approve_s x a b).2) ∧ MA G hm ad (if f_approve_c x a b = 0 then (f_approve_s x a b).1 else x) (f_approve_c x a b) M1)) := by
  refine mw_of hfl (by decide) (Nat.le_of_ble_eq_true rfl) ?_
  intro zp ze zs zm zb zh zc ls X hin hret hT hl
  have hl : lv_has ls 4 [(0, .ref hm), (1, .int a), (2, .int b)] := hl
  obtain ⟨⟨i2, i4, i5, i10, i17, i22, i29, i32⟩, hr3, hr6, hr11, hr18, hr23, hz21, hz28, hlb⟩ := id hi
  have hI := q_inv_mono hi (show 511 ≤ 512 by decide)
  refine lv_aload_n X.1 X.2.1 dX8_approve_0 rfl (lv_at hl 0 rfl) ?_
  refine lv_iload_n X.1 X.2.1 dX8_approve_1 rfl (lv_at hl 1 rfl) ?_
  refine lv_iload_n X.1 X.2.1 dX8_approve_2 rfl (lv_at hl 2 rfl) ?_
  refine mr_g X hT (fun hT' => mr_runV X hT' cb_RX8_168 kw907 kp40 kw908 (m_canJudge hfl hM hI) (mr_cell X hT hM.1 rfl) rfl rfl hl.1 ⟨Nat.le_of_ble_eq_true rfl, Nat.le_of_ble_eq_true rfl⟩ (Nat.le_of_ble_eq_true rfl) dX8_approve_3 ⟨Nat.le_of_ble_eq_true rfl, Nat.le_of_ble_eq_true rfl⟩) (fun v M1 H locs hp hT => ?_)
  obtain ⟨r, rfl, rfl, hM⟩ := hp
  refine W.eq (g2 := F0 zm 6 ls (.int _ :: _)) rfl ?_
  refine lv_istore_n X.1 X.2.1 dX8_approve_6 rfl hl (by decide) rfl (fun ls hl => ?_)
  refine lv_aload_n X.1 X.2.1 dX8_approve_7 rfl (lv_at hl 1 rfl) ?_
  refine mw_join hT 29 0 0 (fun r M1 => r = bI (q_ix a (ct x 17) && q_ix b (ct x 2)) ∧ MA G hm ad (x) lst M1) (fun r M1 H locs hp hT => ?_) (fun J29 => ?_)
  · obtain ⟨rfl, hM⟩ := hp
    refine mw_join hT 48 0 0 (fun r M1 => r = bI (q_jud x a b && decide (cg x 16 (pn a) ≠ b)) ∧ MA G hm ad (x) lst M1) (fun r M1 H locs hp hT => ?_) (fun J48 => ?_)
    · obtain ⟨rfl, hM⟩ := hp
      refine lv_iconst X.1 X.2.1 (v := 1) dX8_approve_48 (by decide) ?_
      refine mr_g X hT (fun hT' => mr_runV X hT' cb_RX8_123 kw834 kp27 kw835 (m_goes (a := q_ix a (ct x 17) && q_ix b (ct x 2)) (b := q_jud x a b && decide (cg x 16 (pn a) ≠ b)) (c := true) hfl hM) (mr_cell X hT hM.1 rfl) rfl rfl hl.1 ⟨Nat.le_of_ble_eq_true rfl, Nat.le_of_ble_eq_true rfl⟩ (Nat.le_of_ble_eq_true rfl) dX8_approve_49 ⟨Nat.le_of_ble_eq_true rfl, Nat.le_of_ble_eq_true rfl⟩) (fun v M1 H locs hp hT => ?_)
      obtain ⟨r, rfl, rfl, hM⟩ := hp
      refine W.eq (g2 := F0 zm 52 ls (.int _ :: _)) rfl ?_
      refine lv_if_ne X.1 X.2.1 (tgt := 57) dX8_approve_52 (by decide) (fun c52 => ?_) (fun c52 => ?_)
      · skip
        have hc : f_approve_c x a b = 0 := g_ok c52
        obtain ⟨h1, h2, h3⟩ := q_code_ok hc
        rw [Bool.and_eq_true] at h1
        obtain ⟨g1, g2⟩ := h1
        obtain ⟨j, hj, rfl⟩ := (q_ix_iff (show ct x 17 < 2 ^ 31 by omega)).mp g1
        have pj : pn (nI j) = j := pn_nI (by omega)
        obtain ⟨k, hk, rfl⟩ := (q_ix_iff (show ct x 2 < 2 ^ 31 by omega)).mp g2
        have pk : pn (nI k) = k := pn_nI (by omega)
        refine lv_aload_n X.1 X.2.1 dX8_approve_57 rfl (lv_at hl 1 rfl) ?_
        refine lv_iconst X.1 X.2.1 (v := 1) dX8_approve_58 (by decide) ?_
        refine lv_iload_n X.1 X.2.1 dX8_approve_59 rfl (lv_at hl 3 rfl) ?_
        refine lv_aload_n X.1 X.2.1 dX8_approve_60 rfl (lv_at hl 1 rfl) ?_
        refine mr_get X hT fl_RX8_35 (hM.1) rfl dX8_approve_61 ?_
        refine lv_iload_n X.1 X.2.1 dX8_approve_64 rfl (lv_at hl 2 rfl) ?_
        refine mm_iald X hT hM (k := 12) (N := 2000) (j := j) rfl (by decide) (by decide) (by omega) dX8_approve_65 ?_
        refine mm_top (w := cg x 12 j) (rfl) ?_
        refine mr_g X hT (fun hT' => mr_runV X hT' cb_RX8_130 kw870 kp34 kw871 (m_writes hfl hM (show ct x 32 < 8000 by omega)) (mr_cell X hT hM.1 rfl) rfl rfl hl.1 ⟨Nat.le_of_ble_eq_true rfl, Nat.le_of_ble_eq_true rfl⟩ (Nat.le_of_ble_eq_true rfl) dX8_approve_66 ⟨Nat.le_of_ble_eq_true rfl, Nat.le_of_ble_eq_true rfl⟩) (fun v M1 H locs hp hT => ?_)
        obtain ⟨rfl, hM⟩ := hp
        refine W.eq (g2 := F0 zm 69 ls _) rfl ?_
        refine lv_aload_n X.1 X.2.1 dX8_approve_69 rfl (lv_at hl 1 rfl) ?_
        refine mr_get X hT fl_RX8_47 (hM.1) rfl dX8_approve_70 ?_
        refine lv_iload_n X.1 X.2.1 dX8_approve_73 rfl (lv_at hl 2 rfl) ?_
        refine mm_iald X hT hM (k := 16) (N := 2000) (j := j) rfl (by decide) (by decide) (by omega) dX8_approve_74 ?_
        refine mm_top (w := cg x 16 j) (rfl) ?_
        refine lv_iconst X.1 X.2.1 (v := -1) dX8_approve_75 (by decide) ?_
        refine lv_icmp_ne X.1 X.2.1 (tgt := 88) dX8_approve_76 (by decide) (fun c76 => ?_) (fun c76 => ?_)
        · skip
          refine lv_aload_n X.1 X.2.1 dX8_approve_88 rfl (lv_at hl 1 rfl) ?_
          refine mr_get X hT fl_RX8_44 (hM.1) rfl dX8_approve_89 ?_
          refine lv_iload_n X.1 X.2.1 dX8_approve_92 rfl (lv_at hl 2 rfl) ?_
          refine lv_iconst X.1 X.2.1 (v := 1) dX8_approve_93 (by decide) ?_
          refine mm_iast X hT hM (k := 15) (N := 2000) (j := j) rfl (by decide) (by decide) (by omega) dX8_approve_94 (fun M1 H locs hM hT => ?_)
          refine lv_aload_n X.1 X.2.1 dX8_approve_95 rfl (lv_at hl 1 rfl) ?_
          refine lv_aload_n X.1 X.2.1 dX8_approve_96 rfl (lv_at hl 1 rfl) ?_
          refine mr_get X hT fl_RX8_32 (hM.1) rfl dX8_approve_97 ?_
          refine lv_iload_n X.1 X.2.1 dX8_approve_100 rfl (lv_at hl 2 rfl) ?_
          refine mm_iald X hT hM (k := 11) (N := 2000) (j := j) rfl (by decide) (by decide) (by omega) dX8_approve_101 ?_
          refine mm_top (w := cg x 11 j) (rfl) ?_
          refine lv_aload_n X.1 X.2.1 dX8_approve_102 rfl (lv_at hl 1 rfl) ?_
          refine mr_get X hT fl_RX8_35 (hM.1) rfl dX8_approve_103 ?_
          refine lv_iload_n X.1 X.2.1 dX8_approve_106 rfl (lv_at hl 2 rfl) ?_
          refine mm_iald X hT hM (k := 12) (N := 2000) (j := j) rfl (by decide) (by decide) (by omega) dX8_approve_107 ?_
          refine mm_top (w := cg x 12 j) (rfl) ?_
          refine lv_aload_n X.1 X.2.1 dX8_approve_108 rfl (lv_at hl 1 rfl) ?_
          refine mr_get X hT fl_RX8_38 (hM.1) rfl dX8_approve_109 ?_
          refine lv_iload_n X.1 X.2.1 dX8_approve_112 rfl (lv_at hl 2 rfl) ?_
          refine mm_iald X hT hM (k := 13) (N := 2000) (j := j) rfl (by decide) (by decide) (by omega) dX8_approve_113 ?_
          refine mm_top (w := cg x 13 j) (rfl) ?_
          refine mr_g X hT (fun hT' => mr_runV X hT' cb_RX8_171 kw915 kp42 kw916 (m_grants hfl hM (show ct x 10 < 2000 by omega)) (mr_cell X hT hM.1 rfl) rfl rfl hl.1 ⟨Nat.le_of_ble_eq_true rfl, Nat.le_of_ble_eq_true rfl⟩ (Nat.le_of_ble_eq_true rfl) dX8_approve_114 ⟨Nat.le_of_ble_eq_true rfl, Nat.le_of_ble_eq_true rfl⟩) (fun v M1 H locs hp hT => ?_)
          obtain ⟨rfl, hM⟩ := hp
          refine W.eq (g2 := F0 zm 117 ls _) rfl ?_
          refine lv_iconst X.1 X.2.1 (v := 1) dX8_approve_117 (by decide) ?_
          exact mr_zret X hT hret (by first | exact bI_nar _ | rfl | decide) (⟨_, rfl, fun _ => by unfold f_approve_s; rw [pj, if_neg c76], by rw [if_pos hc]; unfold f_approve_s; rw [pj, if_neg c76]; exact hM⟩) (Nat.le_of_ble_eq_true rfl) (Nat.le_of_ble_eq_true rfl) dX8_approve_118
        · skip
          refine lv_aload_n X.1 X.2.1 dX8_approve_79 rfl (lv_at hl 1 rfl) ?_
          refine mr_get X hT fl_RX8_47 (hM.1) rfl dX8_approve_80 ?_
          refine lv_iload_n X.1 X.2.1 dX8_approve_83 rfl (lv_at hl 2 rfl) ?_
          refine lv_iload_n X.1 X.2.1 dX8_approve_84 rfl (lv_at hl 3 rfl) ?_
          refine mm_iast X hT hM (k := 16) (N := 2000) (j := j) rfl (by decide) (by decide) (by omega) dX8_approve_85 (fun M1 H locs hM hT => ?_)
          refine lv_iconst X.1 X.2.1 (v := 0) dX8_approve_86 (by decide) ?_
          exact mr_zret X hT hret (by first | exact bI_nar _ | rfl | decide) (⟨_, rfl, fun _ => by unfold f_approve_s; rw [pj, if_pos c76], by rw [if_pos hc]; unfold f_approve_s; rw [pj, if_pos c76]; exact hM⟩) (Nat.le_of_ble_eq_true rfl) (Nat.le_of_ble_eq_true rfl) dX8_approve_87
      · skip
        have hc : ¬ f_approve_c x a b = 0 := g_no c52
        refine lv_iconst X.1 X.2.1 (v := 0) dX8_approve_55 (by decide) ?_
        exact mr_zret X hT hret (by first | exact bI_nar _ | rfl | decide) (⟨_, rfl, fun z => absurd z hc, by rw [if_neg hc]; exact hM⟩) (Nat.le_of_ble_eq_true rfl) (Nat.le_of_ble_eq_true rfl) dX8_approve_56
    · skip
      refine lv_iload_n X.1 X.2.1 dX8_approve_29 rfl (lv_at hl 0 rfl) ?_
      refine lv_if_eq X.1 X.2.1 (tgt := 47) dX8_approve_30 (by decide) (fun c30 => ?_) (fun c30 => ?_)
      · skip
        refine lv_iconst X.1 X.2.1 (v := 0) dX8_approve_47 (by decide) ?_
        refine W.widen (k := 0) (n := 0) (Nat.le_of_ble_eq_true rfl) (Nat.le_of_ble_eq_true rfl) ?_
        exact J48 _ _ _ _ ⟨by first | (rw [bI_0.mp c30]; rfl) | (rw [h30, pz, d_nef c40]; rfl) | (rw [h30, pz, decide_eq_true c40]; rfl), hM⟩ hT
      · skip
        have h30 := bI_n.mp c30
        have g30 := h30
        unfold q_jud at g30
        rw [Bool.and_eq_true] at g30
        obtain ⟨g30, -⟩ := g30
        obtain ⟨z, hz, rfl⟩ := (q_ix_iff (show ct x 17 < 2 ^ 31 by omega)).mp g30
        have pz : pn (nI z) = z := pn_nI (by omega)
        refine lv_aload_n X.1 X.2.1 dX8_approve_33 rfl (lv_at hl 1 rfl) ?_
        refine mr_get X hT fl_RX8_47 (hM.1) rfl dX8_approve_34 ?_
        refine lv_iload_n X.1 X.2.1 dX8_approve_37 rfl (lv_at hl 2 rfl) ?_
        refine mm_iald X hT hM (k := 16) (N := 2000) (j := z) rfl (by decide) (by decide) (by omega) dX8_approve_38 ?_
        refine lv_iload_n X.1 X.2.1 dX8_approve_39 rfl (lv_at hl 3 rfl) ?_
        refine lv_icmp_eq X.1 X.2.1 (tgt := 47) dX8_approve_40 (by decide) (fun c40 => ?_) (fun c40 => ?_)
        · skip
          refine lv_iconst X.1 X.2.1 (v := 0) dX8_approve_47 (by decide) ?_
          refine W.widen (k := 0) (n := 0) (Nat.le_of_ble_eq_true rfl) (Nat.le_of_ble_eq_true rfl) ?_
          exact J48 _ _ _ _ ⟨by first | (rw [bI_0.mp c30]; rfl) | (rw [h30, pz, d_nef c40]; rfl) | (rw [h30, pz, decide_eq_true c40]; rfl), hM⟩ hT
        · skip
          refine lv_iconst X.1 X.2.1 (v := 1) dX8_approve_43 (by decide) ?_
          refine lv_goto X.1 X.2.1 (tgt := 48) dX8_approve_44 (by decide) ?_
          refine W.widen (k := 0) (n := 0) (Nat.le_of_ble_eq_true rfl) (Nat.le_of_ble_eq_true rfl) ?_
          exact J48 _ _ _ _ ⟨by first | (rw [bI_0.mp c30]; rfl) | (rw [h30, pz, d_nef c40]; rfl) | (rw [h30, pz, decide_eq_true c40]; rfl), hM⟩ hT
  · skip
    refine lv_aload_n X.1 X.2.1 dX8_approve_8 rfl (lv_at hl 1 rfl) ?_
    refine lv_iload_n X.1 X.2.1 dX8_approve_9 rfl (lv_at hl 2 rfl) ?_
    refine mr_g X hT (fun hT' => mr_runV X hT' cb_RX8_165 kw911 kp41 kw912 (m_isAsk hfl hM (by omega)) (mr_cell X hT hM.1 rfl) rfl rfl hl.1 ⟨Nat.le_of_ble_eq_true rfl, Nat.le_of_ble_eq_true rfl⟩ (Nat.le_of_ble_eq_true rfl) dX8_approve_10 ⟨Nat.le_of_ble_eq_true rfl, Nat.le_of_ble_eq_true rfl⟩) (fun v M1 H locs hp hT => ?_)
    obtain ⟨r, rfl, rfl, hM⟩ := hp
    refine W.eq (g2 := F0 zm 13 ls (.int _ :: _)) rfl ?_
    refine lv_if_eq X.1 X.2.1 (tgt := 28) dX8_approve_13 (by decide) (fun c13 => ?_) (fun c13 => ?_)
    · skip
      refine lv_iconst X.1 X.2.1 (v := 0) dX8_approve_28 (by decide) ?_
      refine W.widen (k := 0) (n := 0) (Nat.le_of_ble_eq_true rfl) (Nat.le_of_ble_eq_true rfl) ?_
      exact J29 _ _ _ _ ⟨by first | (rw [bI_0.mp c13]; rfl) | (rw [bI_n.mp c13, bI_0.mp c21]; rfl) | (rw [bI_n.mp c13, bI_n.mp c21]; rfl), hM⟩ hT
    · skip
      refine lv_aload_n X.1 X.2.1 dX8_approve_16 rfl (lv_at hl 1 rfl) ?_
      refine lv_iload_n X.1 X.2.1 dX8_approve_17 rfl (lv_at hl 3 rfl) ?_
      refine mr_g X hT (fun hT' => mr_runV X hT' cb_RX8_100 kw846 kp28 kw847 (m_isPerson hfl hM (by omega)) (mr_cell X hT hM.1 rfl) rfl rfl hl.1 ⟨Nat.le_of_ble_eq_true rfl, Nat.le_of_ble_eq_true rfl⟩ (Nat.le_of_ble_eq_true rfl) dX8_approve_18 ⟨Nat.le_of_ble_eq_true rfl, Nat.le_of_ble_eq_true rfl⟩) (fun v M1 H locs hp hT => ?_)
      obtain ⟨r, rfl, rfl, hM⟩ := hp
      refine W.eq (g2 := F0 zm 21 ls (.int _ :: _)) rfl ?_
      refine lv_if_eq X.1 X.2.1 (tgt := 28) dX8_approve_21 (by decide) (fun c21 => ?_) (fun c21 => ?_)
      · skip
        refine lv_iconst X.1 X.2.1 (v := 0) dX8_approve_28 (by decide) ?_
        refine W.widen (k := 0) (n := 0) (Nat.le_of_ble_eq_true rfl) (Nat.le_of_ble_eq_true rfl) ?_
        exact J29 _ _ _ _ ⟨by first | (rw [bI_0.mp c13]; rfl) | (rw [bI_n.mp c13, bI_0.mp c21]; rfl) | (rw [bI_n.mp c13, bI_n.mp c21]; rfl), hM⟩ hT
      · skip
        refine lv_iconst X.1 X.2.1 (v := 1) dX8_approve_24 (by decide) ?_
        refine lv_goto X.1 X.2.1 (tgt := 29) dX8_approve_25 (by decide) ?_
        refine W.widen (k := 0) (n := 0) (Nat.le_of_ble_eq_true rfl) (Nat.le_of_ble_eq_true rfl) ?_
        exact J29 _ _ _ _ ⟨by first | (rw [bI_0.mp c13]; rfl) | (rw [bI_n.mp c13, bI_0.mp c21]; rfl) | (rw [bI_n.mp c13, bI_n.mp c21]; rfl), hM⟩ hT

abbrev rm_X8_deny : Room := { frames := 3, cells := 0, slots := 0, locals := 65 }
set_option maxHeartbeats 4000000 in
set_option maxRecDepth 100000 in
theorem m_deny {l : Launch} (hfl : l.stackTraces = false) {G : mw_G} {hm : Nat} {ad : Nat → Nat} {x : s_T} {lst : Int32} {a b : Int32} {M : mw_M} (hM : MA G hm ad x lst M) (hi : q_inv 511 x) : mw_Met l G yX8_deny (.code yX8_deny cX8_deny 3 none) rm_X8_deny [.ref hm, .int a, .int b] M (mw_pv (fun M1 => MA G hm ad (if f_deny_c x a b = 0 then f_deny_s x a b else x) (f_deny_c x a b) M1)) := by
  refine mw_of hfl (by decide) (Nat.le_of_ble_eq_true rfl) ?_
  intro zp ze zs zm zb zh zc ls X hin hret hT hl
  have hl : lv_has ls 3 [(0, .ref hm), (1, .int a), (2, .int b)] := hl
  obtain ⟨⟨i2, i4, i5, i10, i17, i22, i29, i32⟩, hr3, hr6, hr11, hr18, hr23, hz21, hz28, hlb⟩ := id hi
  have hI := q_inv_mono hi (show 511 ≤ 512 by decide)
  refine lv_aload_n X.1 X.2.1 dX8_deny_0 rfl (lv_at hl 0 rfl) ?_
  refine mw_join hT 22 0 0 (fun r M1 => r = bI (q_ix a (ct x 17) && q_ix b (ct x 2)) ∧ MA G hm ad (x) lst M1) (fun r M1 H locs hp hT => ?_) (fun J22 => ?_)
  · obtain ⟨rfl, hM⟩ := hp
    refine lv_aload_n X.1 X.2.1 dX8_deny_22 rfl (lv_at hl 0 rfl) ?_
    refine lv_iload_n X.1 X.2.1 dX8_deny_23 rfl (lv_at hl 1 rfl) ?_
    refine lv_iload_n X.1 X.2.1 dX8_deny_24 rfl (lv_at hl 2 rfl) ?_
    refine mr_g X hT (fun hT' => mr_runV X hT' cb_RX8_168 kw907 kp40 kw908 (m_canJudge hfl hM hI) (mr_cell X hT hM.1 rfl) rfl rfl hl.1 ⟨Nat.le_of_ble_eq_true rfl, Nat.le_of_ble_eq_true rfl⟩ (Nat.le_of_ble_eq_true rfl) dX8_deny_25 ⟨Nat.le_of_ble_eq_true rfl, Nat.le_of_ble_eq_true rfl⟩) (fun v M1 H locs hp hT => ?_)
    obtain ⟨r, rfl, rfl, hM⟩ := hp
    refine W.eq (g2 := F0 zm 28 ls (.int _ :: _)) rfl ?_
    refine lv_iconst X.1 X.2.1 (v := 1) dX8_deny_28 (by decide) ?_
    refine mr_g X hT (fun hT' => mr_runV X hT' cb_RX8_123 kw834 kp27 kw835 (m_goes (a := q_ix a (ct x 17) && q_ix b (ct x 2)) (b := q_jud x a b) (c := true) hfl hM) (mr_cell X hT hM.1 rfl) rfl rfl hl.1 ⟨Nat.le_of_ble_eq_true rfl, Nat.le_of_ble_eq_true rfl⟩ (Nat.le_of_ble_eq_true rfl) dX8_deny_29 ⟨Nat.le_of_ble_eq_true rfl, Nat.le_of_ble_eq_true rfl⟩) (fun v M1 H locs hp hT => ?_)
    obtain ⟨r, rfl, rfl, hM⟩ := hp
    refine W.eq (g2 := F0 zm 32 ls (.int _ :: _)) rfl ?_
    refine lv_if_eq X.1 X.2.1 (tgt := 54) dX8_deny_32 (by decide) (fun c32 => ?_) (fun c32 => ?_)
    · skip
      have hc : ¬ f_deny_c x a b = 0 := g_no c32
      exact mr_vret X hT hret (⟨rfl, by first | (rw [if_neg hc]; exact hM) | (rw [if_pos hc]; unfold f_deny_s; rw [pj]; exact hM)⟩) (Nat.le_of_ble_eq_true rfl) (Nat.le_of_ble_eq_true rfl) dX8_deny_54
    · skip
      have hc : f_deny_c x a b = 0 := g_ok c32
      obtain ⟨h1, h2, h3⟩ := q_code_ok hc
      rw [Bool.and_eq_true] at h1
      obtain ⟨g1, g2⟩ := h1
      obtain ⟨j, hj, rfl⟩ := (q_ix_iff (show ct x 17 < 2 ^ 31 by omega)).mp g1
      have pj : pn (nI j) = j := pn_nI (by omega)
      obtain ⟨k, hk, rfl⟩ := (q_ix_iff (show ct x 2 < 2 ^ 31 by omega)).mp g2
      have pk : pn (nI k) = k := pn_nI (by omega)
      refine lv_aload_n X.1 X.2.1 dX8_deny_35 rfl (lv_at hl 0 rfl) ?_
      refine mr_get X hT fl_RX8_44 (hM.1) rfl dX8_deny_36 ?_
      refine lv_iload_n X.1 X.2.1 dX8_deny_39 rfl (lv_at hl 1 rfl) ?_
      refine lv_iconst X.1 X.2.1 (v := 2) dX8_deny_40 (by decide) ?_
      refine mm_iast X hT hM (k := 15) (N := 2000) (j := j) rfl (by decide) (by decide) (by omega) dX8_deny_41 (fun M1 H locs hM hT => ?_)
      refine lv_aload_n X.1 X.2.1 dX8_deny_42 rfl (lv_at hl 0 rfl) ?_
      refine lv_iconst X.1 X.2.1 (v := 2) dX8_deny_43 (by decide) ?_
      refine lv_iload_n X.1 X.2.1 dX8_deny_44 rfl (lv_at hl 2 rfl) ?_
      refine lv_aload_n X.1 X.2.1 dX8_deny_45 rfl (lv_at hl 0 rfl) ?_
      refine mr_get X hT fl_RX8_35 (hM.1) rfl dX8_deny_46 ?_
      refine lv_iload_n X.1 X.2.1 dX8_deny_49 rfl (lv_at hl 1 rfl) ?_
      refine mm_iald X hT hM (k := 12) (N := 2000) (j := j) rfl (by decide) (by decide) (by omega) dX8_deny_50 ?_
      refine mm_top (w := cg x 12 j) (rfl) ?_
      refine mr_g X hT (fun hT' => mr_runV X hT' cb_RX8_130 kw870 kp34 kw871 (m_writes hfl hM (show ct x 32 < 8000 by omega)) (mr_cell X hT hM.1 rfl) rfl rfl hl.1 ⟨Nat.le_of_ble_eq_true rfl, Nat.le_of_ble_eq_true rfl⟩ (Nat.le_of_ble_eq_true rfl) dX8_deny_51 ⟨Nat.le_of_ble_eq_true rfl, Nat.le_of_ble_eq_true rfl⟩) (fun v M1 H locs hp hT => ?_)
      obtain ⟨rfl, hM⟩ := hp
      refine W.eq (g2 := F0 zm 54 ls _) rfl ?_
      exact mr_vret X hT hret (⟨rfl, by first | (rw [if_neg hc]; exact hM) | (rw [if_pos hc]; unfold f_deny_s; rw [pj]; exact hM)⟩) (Nat.le_of_ble_eq_true rfl) (Nat.le_of_ble_eq_true rfl) dX8_deny_54
  · skip
    refine lv_aload_n X.1 X.2.1 dX8_deny_1 rfl (lv_at hl 0 rfl) ?_
    refine lv_iload_n X.1 X.2.1 dX8_deny_2 rfl (lv_at hl 1 rfl) ?_
    refine mr_g X hT (fun hT' => mr_runV X hT' cb_RX8_165 kw911 kp41 kw912 (m_isAsk hfl hM (by omega)) (mr_cell X hT hM.1 rfl) rfl rfl hl.1 ⟨Nat.le_of_ble_eq_true rfl, Nat.le_of_ble_eq_true rfl⟩ (Nat.le_of_ble_eq_true rfl) dX8_deny_3 ⟨Nat.le_of_ble_eq_true rfl, Nat.le_of_ble_eq_true rfl⟩) (fun v M1 H locs hp hT => ?_)
    obtain ⟨r, rfl, rfl, hM⟩ := hp
    refine W.eq (g2 := F0 zm 6 ls (.int _ :: _)) rfl ?_
    refine lv_if_eq X.1 X.2.1 (tgt := 21) dX8_deny_6 (by decide) (fun c6 => ?_) (fun c6 => ?_)
    · skip
      refine lv_iconst X.1 X.2.1 (v := 0) dX8_deny_21 (by decide) ?_
      refine W.widen (k := 0) (n := 0) (Nat.le_of_ble_eq_true rfl) (Nat.le_of_ble_eq_true rfl) ?_
      exact J22 _ _ _ _ ⟨by first | (rw [bI_0.mp c6]; rfl) | (rw [bI_n.mp c6, bI_0.mp c14]; rfl) | (rw [bI_n.mp c6, bI_n.mp c14]; rfl), hM⟩ hT
    · skip
      refine lv_aload_n X.1 X.2.1 dX8_deny_9 rfl (lv_at hl 0 rfl) ?_
      refine lv_iload_n X.1 X.2.1 dX8_deny_10 rfl (lv_at hl 2 rfl) ?_
      refine mr_g X hT (fun hT' => mr_runV X hT' cb_RX8_100 kw846 kp28 kw847 (m_isPerson hfl hM (by omega)) (mr_cell X hT hM.1 rfl) rfl rfl hl.1 ⟨Nat.le_of_ble_eq_true rfl, Nat.le_of_ble_eq_true rfl⟩ (Nat.le_of_ble_eq_true rfl) dX8_deny_11 ⟨Nat.le_of_ble_eq_true rfl, Nat.le_of_ble_eq_true rfl⟩) (fun v M1 H locs hp hT => ?_)
      obtain ⟨r, rfl, rfl, hM⟩ := hp
      refine W.eq (g2 := F0 zm 14 ls (.int _ :: _)) rfl ?_
      refine lv_if_eq X.1 X.2.1 (tgt := 21) dX8_deny_14 (by decide) (fun c14 => ?_) (fun c14 => ?_)
      · skip
        refine lv_iconst X.1 X.2.1 (v := 0) dX8_deny_21 (by decide) ?_
        refine W.widen (k := 0) (n := 0) (Nat.le_of_ble_eq_true rfl) (Nat.le_of_ble_eq_true rfl) ?_
        exact J22 _ _ _ _ ⟨by first | (rw [bI_0.mp c6]; rfl) | (rw [bI_n.mp c6, bI_0.mp c14]; rfl) | (rw [bI_n.mp c6, bI_n.mp c14]; rfl), hM⟩ hT
      · skip
        refine lv_iconst X.1 X.2.1 (v := 1) dX8_deny_17 (by decide) ?_
        refine lv_goto X.1 X.2.1 (tgt := 22) dX8_deny_18 (by decide) ?_
        refine W.widen (k := 0) (n := 0) (Nat.le_of_ble_eq_true rfl) (Nat.le_of_ble_eq_true rfl) ?_
        exact J22 _ _ _ _ ⟨by first | (rw [bI_0.mp c6]; rfl) | (rw [bI_n.mp c6, bI_0.mp c14]; rfl) | (rw [bI_n.mp c6, bI_n.mp c14]; rfl), hM⟩ hT

abbrev rm_X8_askState : Room := { frames := 2, cells := 0, slots := 0, locals := 43 }
set_option maxHeartbeats 4000000 in
set_option maxRecDepth 100000 in
theorem m_askState {l : Launch} (hfl : l.stackTraces = false) {G : mw_G} {hm : Nat} {ad : Nat → Nat} {x : s_T} {lst : Int32} {a : Int32} {M : mw_M} (hM : MA G hm ad x lst M) (hi : q_inv 511 x) : mw_Met l G yX8_askState (.code yX8_askState cX8_askState 2 (some .int)) rm_X8_askState [.ref hm, .int a] M (mw_pi (fun r M1 => (f_askState_c x a = 0 → r = cg x 15 (pn a)) ∧ MA G hm ad (if f_askState_c x a = 0 then x else x) (f_askState_c x a) M1)) := by
  refine mw_of hfl (by decide) (Nat.le_of_ble_eq_true rfl) ?_
  intro zp ze zs zm zb zh zc ls X hin hret hT hl
  have hl : lv_has ls 2 [(0, .ref hm), (1, .int a)] := hl
  obtain ⟨⟨i2, i4, i5, i10, i17, i22, i29, i32⟩, hr3, hr6, hr11, hr18, hr23, hz21, hz28, hlb⟩ := id hi
  have hI := q_inv_mono hi (show 511 ≤ 512 by decide)
  refine lv_aload_n X.1 X.2.1 dX8_askState_0 rfl (lv_at hl 0 rfl) ?_
  refine lv_aload_n X.1 X.2.1 dX8_askState_1 rfl (lv_at hl 0 rfl) ?_
  refine lv_iload_n X.1 X.2.1 dX8_askState_2 rfl (lv_at hl 1 rfl) ?_
  refine mr_g X hT (fun hT' => mr_runV X hT' cb_RX8_165 kw911 kp41 kw912 (m_isAsk hfl hM (by omega)) (mr_cell X hT hM.1 rfl) rfl rfl hl.1 ⟨Nat.le_of_ble_eq_true rfl, Nat.le_of_ble_eq_true rfl⟩ (Nat.le_of_ble_eq_true rfl) dX8_askState_3 ⟨Nat.le_of_ble_eq_true rfl, Nat.le_of_ble_eq_true rfl⟩) (fun v M1 H locs hp hT => ?_)
  obtain ⟨r, rfl, rfl, hM⟩ := hp
  refine W.eq (g2 := F0 zm 6 ls (.int _ :: _)) rfl ?_
  refine lv_iconst X.1 X.2.1 (v := 1) dX8_askState_6 (by decide) ?_
  refine lv_iconst X.1 X.2.1 (v := 1) dX8_askState_7 (by decide) ?_
  refine mr_g X hT (fun hT' => mr_runV X hT' cb_RX8_123 kw834 kp27 kw835 (m_goes (a := q_ix a (ct x 17)) (b := true) (c := true) hfl hM) (mr_cell X hT hM.1 rfl) rfl rfl hl.1 ⟨Nat.le_of_ble_eq_true rfl, Nat.le_of_ble_eq_true rfl⟩ (Nat.le_of_ble_eq_true rfl) dX8_askState_8 ⟨Nat.le_of_ble_eq_true rfl, Nat.le_of_ble_eq_true rfl⟩) (fun v M1 H locs hp hT => ?_)
  obtain ⟨r, rfl, rfl, hM⟩ := hp
  refine W.eq (g2 := F0 zm 11 ls (.int _ :: _)) rfl ?_
  refine lv_if_eq X.1 X.2.1 (tgt := 23) dX8_askState_11 (by decide) (fun c11 => ?_) (fun c11 => ?_)
  · skip
    have hc : ¬ f_askState_c x a = 0 := g_no c11
    refine lv_iconst X.1 X.2.1 (v := 0) dX8_askState_23 (by decide) ?_
    exact mr_iret X hT hret (⟨_, rfl, by first | exact (fun z => absurd z hc) | (intro _; rw [pj]), by first | (rw [if_neg hc]; exact hM) | (rw [if_pos hc]; exact hM)⟩) (Nat.le_of_ble_eq_true rfl) (Nat.le_of_ble_eq_true rfl) dX8_askState_24
  · skip
    have hc : f_askState_c x a = 0 := g_ok c11
    obtain ⟨h1, h2, h3⟩ := q_code_ok hc
    obtain ⟨j, hj, rfl⟩ := (q_ix_iff (show ct x 17 < 2 ^ 31 by omega)).mp h1
    have pj : pn (nI j) = j := pn_nI (by omega)
    refine lv_aload_n X.1 X.2.1 dX8_askState_14 rfl (lv_at hl 0 rfl) ?_
    refine mr_get X hT fl_RX8_44 (hM.1) rfl dX8_askState_15 ?_
    refine lv_iload_n X.1 X.2.1 dX8_askState_18 rfl (lv_at hl 1 rfl) ?_
    refine mm_iald X hT hM (k := 15) (N := 2000) (j := j) rfl (by decide) (by decide) (by omega) dX8_askState_19 ?_
    refine lv_goto X.1 X.2.1 (tgt := 24) dX8_askState_20 (by decide) ?_
    exact mr_iret X hT hret (⟨_, rfl, by first | exact (fun z => absurd z hc) | (intro _; rw [pj]), by first | (rw [if_neg hc]; exact hM) | (rw [if_pos hc]; exact hM)⟩) (Nat.le_of_ble_eq_true rfl) (Nat.le_of_ble_eq_true rfl) dX8_askState_24

abbrev rm_X8_enter : Room := { frames := 4, cells := 0, slots := 0, locals := 87 }
set_option maxHeartbeats 4000000 in
set_option maxRecDepth 100000 in
theorem m_enter {l : Launch} (hfl : l.stackTraces = false) {G : mw_G} {hm : Nat} {ad : Nat → Nat} {x : s_T} {lst : Int32} {p mm : Int32} {M : mw_M} (hM : MA G hm ad x lst M) (hi : q_inv 511 x) : mw_Met l G yX8_enter (.code yX8_enter cX8_enter 3 (some .int)) rm_X8_enter [.ref hm, .int p, .int mm] M (mw_pi (fun r M1 => (f_enter_c x p mm = 0 → r = nI (ct x 22)) ∧ MA G hm ad (if f_enter_c x p mm = 0 then f_enter_s x p mm else x) (f_enter_c x p mm) M1)) := by
  refine mw_of hfl (by decide) (Nat.le_of_ble_eq_true rfl) ?_
  intro zp ze zs zm zb zh zc ls X hin hret hT hl
  have hl : lv_has ls 3 [(0, .ref hm), (1, .int p), (2, .int mm)] := hl
  obtain ⟨⟨i2, i4, i5, i10, i17, i22, i29, i32⟩, hr3, hr6, hr11, hr18, hr23, hz21, hz28, hlb⟩ := id hi
  have hI := q_inv_mono hi (show 511 ≤ 512 by decide)
  refine lv_aload_n X.1 X.2.1 dX8_enter_0 rfl (lv_at hl 0 rfl) ?_
  refine lv_aload_n X.1 X.2.1 dX8_enter_1 rfl (lv_at hl 0 rfl) ?_
  refine lv_iload_n X.1 X.2.1 dX8_enter_2 rfl (lv_at hl 1 rfl) ?_
  refine lv_iload_n X.1 X.2.1 dX8_enter_3 rfl (lv_at hl 2 rfl) ?_
  refine mr_g X hT (fun hT' => mr_runV X hT' cb_RX8_152 kw879 kp35 kw880 (m_areBoth hfl hM (by omega) (by omega)) (mr_cell X hT hM.1 rfl) rfl rfl hl.1 ⟨Nat.le_of_ble_eq_true rfl, Nat.le_of_ble_eq_true rfl⟩ (Nat.le_of_ble_eq_true rfl) dX8_enter_4 ⟨Nat.le_of_ble_eq_true rfl, Nat.le_of_ble_eq_true rfl⟩) (fun v M1 H locs hp hT => ?_)
  obtain ⟨r, rfl, rfl, hM⟩ := hp
  refine W.eq (g2 := F0 zm 7 ls (.int _ :: _)) rfl ?_
  refine lv_aload_n X.1 X.2.1 dX8_enter_7 rfl (lv_at hl 0 rfl) ?_
  refine lv_iload_n X.1 X.2.1 dX8_enter_8 rfl (lv_at hl 1 rfl) ?_
  refine lv_iload_n X.1 X.2.1 dX8_enter_9 rfl (lv_at hl 2 rfl) ?_
  refine mr_g X hT (fun hT' => mr_runV X hT' cb_RX8_162 kw891 kp37 kw892 (m_canAsk hfl hM hI) (mr_cell X hT hM.1 rfl) rfl rfl hl.1 ⟨Nat.le_of_ble_eq_true rfl, Nat.le_of_ble_eq_true rfl⟩ (Nat.le_of_ble_eq_true rfl) dX8_enter_10 ⟨Nat.le_of_ble_eq_true rfl, Nat.le_of_ble_eq_true rfl⟩) (fun v M1 H locs hp hT => ?_)
  obtain ⟨r, rfl, rfl, hM⟩ := hp
  refine W.eq (g2 := F0 zm 13 ls (.int _ :: _)) rfl ?_
  refine lv_iconst X.1 X.2.1 (v := 1) dX8_enter_13 (by decide) ?_
  refine mr_g X hT (fun hT' => mr_runV X hT' cb_RX8_123 kw834 kp27 kw835 (m_goes (a := q_both x p mm) (b := q_can x p mm) (c := true) hfl hM) (mr_cell X hT hM.1 rfl) rfl rfl hl.1 ⟨Nat.le_of_ble_eq_true rfl, Nat.le_of_ble_eq_true rfl⟩ (Nat.le_of_ble_eq_true rfl) dX8_enter_14 ⟨Nat.le_of_ble_eq_true rfl, Nat.le_of_ble_eq_true rfl⟩) (fun v M1 H locs hp hT => ?_)
  obtain ⟨r, rfl, rfl, hM⟩ := hp
  refine W.eq (g2 := F0 zm 17 ls (.int _ :: _)) rfl ?_
  refine lv_if_ne X.1 X.2.1 (tgt := 22) dX8_enter_17 (by decide) (fun c17 => ?_) (fun c17 => ?_)
  · skip
    have hc : f_enter_c x p mm = 0 := g_ok c17
    obtain ⟨h1, h2, h3⟩ := q_code_ok hc
    refine lv_aload_n X.1 X.2.1 dX8_enter_22 rfl (lv_at hl 0 rfl) ?_
    refine mr_get X hT fl_RX8_50 (hM.1) rfl dX8_enter_23 ?_
    refine lv_aload_n X.1 X.2.1 dX8_enter_26 rfl (lv_at hl 0 rfl) ?_
    refine mr_get X hT fl_RX8_110 (hM.1) rfl dX8_enter_27 ?_
    refine lv_iload_n X.1 X.2.1 dX8_enter_30 rfl (lv_at hl 1 rfl) ?_
    refine mm_iast X hT hM (k := 18) (N := 2000) (j := ct x 22) rfl (by decide) (by decide) (by omega) dX8_enter_31 (fun M1 H locs hM hT => ?_)
    refine lv_aload_n X.1 X.2.1 dX8_enter_32 rfl (lv_at hl 0 rfl) ?_
    refine mr_get X hT fl_RX8_53 (hM.1) rfl dX8_enter_33 ?_
    refine lv_aload_n X.1 X.2.1 dX8_enter_36 rfl (lv_at hl 0 rfl) ?_
    refine mr_get X hT fl_RX8_110 (hM.1) rfl dX8_enter_37 ?_
    refine lv_iload_n X.1 X.2.1 dX8_enter_40 rfl (lv_at hl 2 rfl) ?_
    refine mm_iast X hT hM (k := 19) (N := 2000) (j := ct x 22) rfl (by decide) (by decide) (by omega) dX8_enter_41 (fun M1 H locs hM hT => ?_)
    refine lv_aload_n X.1 X.2.1 dX8_enter_42 rfl (lv_at hl 0 rfl) ?_
    refine mr_get X hT fl_RX8_56 (hM.1) rfl dX8_enter_43 ?_
    refine lv_aload_n X.1 X.2.1 dX8_enter_46 rfl (lv_at hl 0 rfl) ?_
    refine mr_get X hT fl_RX8_110 (hM.1) rfl dX8_enter_47 ?_
    refine lv_aload_n X.1 X.2.1 dX8_enter_50 rfl (lv_at hl 0 rfl) ?_
    refine mr_get X hT fl_RX8_119 (hM.1) rfl dX8_enter_51 ?_
    refine mm_iast X hT hM (k := 20) (N := 2000) (j := ct x 22) rfl (by decide) (by decide) (by omega) dX8_enter_54 (fun M1 H locs hM hT => ?_)
    refine lv_aload_n X.1 X.2.1 dX8_enter_55 rfl (lv_at hl 0 rfl) ?_
    refine lv_dup X.1 X.2.1 dX8_enter_56 rfl ?_
    refine mr_get X hT fl_RX8_110 (hM.1) rfl dX8_enter_57 ?_
    refine lv_iconst X.1 X.2.1 (v := 1) dX8_enter_60 (by decide) ?_
    refine lv_iadd X.1 X.2.1 dX8_enter_61 ?_
    refine mm_put X hT hM fp_RX8_110 (k := 22) rfl (ct x 22 + 1) (nI_1 _) dX8_enter_62 (fun M1 H locs hM hT => ?_)
    refine lv_aload_n X.1 X.2.1 dX8_enter_65 rfl (lv_at hl 0 rfl) ?_
    refine lv_iload_n X.1 X.2.1 dX8_enter_66 rfl (lv_at hl 1 rfl) ?_
    refine lv_iload_n X.1 X.2.1 dX8_enter_67 rfl (lv_at hl 2 rfl) ?_
    refine lv_bipush X.1 X.2.1 (v := 30) dX8_enter_68 (by decide) ?_
    refine mr_g X hT (fun hT' => mr_runV X hT' cb_RX8_171 kw915 kp42 kw916 (m_grants hfl hM (show ct x 10 < 2000 by omega)) (mr_cell X hT hM.1 rfl) rfl rfl hl.1 ⟨Nat.le_of_ble_eq_true rfl, Nat.le_of_ble_eq_true rfl⟩ (Nat.le_of_ble_eq_true rfl) dX8_enter_70 ⟨Nat.le_of_ble_eq_true rfl, Nat.le_of_ble_eq_true rfl⟩) (fun v M1 H locs hp hT => ?_)
    obtain ⟨rfl, hM⟩ := hp
    refine W.eq (g2 := F0 zm 73 ls _) rfl ?_
    refine lv_aload_n X.1 X.2.1 dX8_enter_73 rfl (lv_at hl 0 rfl) ?_
    refine lv_iconst X.1 X.2.1 (v := 3) dX8_enter_74 (by decide) ?_
    refine lv_iload_n X.1 X.2.1 dX8_enter_75 rfl (lv_at hl 1 rfl) ?_
    refine lv_iload_n X.1 X.2.1 dX8_enter_76 rfl (lv_at hl 2 rfl) ?_
    refine mr_g X hT (fun hT' => mr_runV X hT' cb_RX8_130 kw870 kp34 kw871 (m_writes hfl hM (show ct x 32 < 8000 by omega)) (mr_cell X hT hM.1 rfl) rfl rfl hl.1 ⟨Nat.le_of_ble_eq_true rfl, Nat.le_of_ble_eq_true rfl⟩ (Nat.le_of_ble_eq_true rfl) dX8_enter_77 ⟨Nat.le_of_ble_eq_true rfl, Nat.le_of_ble_eq_true rfl⟩) (fun v M1 H locs hp hT => ?_)
    obtain ⟨rfl, hM⟩ := hp
    refine W.eq (g2 := F0 zm 80 ls _) rfl ?_
    refine lv_aload_n X.1 X.2.1 dX8_enter_80 rfl (lv_at hl 0 rfl) ?_
    refine mr_get X hT fl_RX8_110 (hM.1) rfl dX8_enter_81 ?_
    refine lv_iconst X.1 X.2.1 (v := 1) dX8_enter_84 (by decide) ?_
    refine lv_isub X.1 X.2.1 dX8_enter_85 ?_
    refine mm_top (w := nI (ct x 22)) (nI_pred _) ?_
    exact mr_iret X hT hret (⟨_, rfl, fun _ => rfl, by rw [if_pos hc]; exact hM⟩) (Nat.le_of_ble_eq_true rfl) (Nat.le_of_ble_eq_true rfl) dX8_enter_86
  · skip
    have hc : ¬ f_enter_c x p mm = 0 := g_no c17
    refine lv_iconst X.1 X.2.1 (v := 0) dX8_enter_20 (by decide) ?_
    exact mr_iret X hT hret (⟨_, rfl, fun z => absurd z hc, by rw [if_neg hc]; exact hM⟩) (Nat.le_of_ble_eq_true rfl) (Nat.le_of_ble_eq_true rfl) dX8_enter_21

abbrev rm_X8_lookAt : Room := { frames := 2, cells := 0, slots := 0, locals := 43 }
set_option maxHeartbeats 4000000 in
set_option maxRecDepth 100000 in
theorem m_lookAt {l : Launch} (hfl : l.stackTraces = false) {G : mw_G} {hm : Nat} {ad : Nat → Nat} {x : s_T} {lst : Int32} {a b : Int32} {M : mw_M} (hM : MA G hm ad x lst M) (hi : q_inv 511 x) : mw_Met l G yX8_lookAt (.code yX8_lookAt cX8_lookAt 4 (some .int)) rm_X8_lookAt [.ref hm, .int a, .int b] M (mw_pi (fun r M1 => (f_lookAt_c x a b = 0 → r = q_now x - cg x 20 (pn a)) ∧ MA G hm ad (if f_lookAt_c x a b = 0 then f_lookAt_s x a b else x) (f_lookAt_c x a b) M1)) := by
  refine mw_of hfl (by decide) (Nat.le_of_ble_eq_true rfl) ?_
  intro zp ze zs zm zb zh zc ls X hin hret hT hl
  have hl : lv_has ls 4 [(0, .ref hm), (1, .int a), (2, .int b)] := hl
  obtain ⟨⟨i2, i4, i5, i10, i17, i22, i29, i32⟩, hr3, hr6, hr11, hr18, hr23, hz21, hz28, hlb⟩ := id hi
  have hI := q_inv_mono hi (show 511 ≤ 512 by decide)
  refine mw_join hT 21 0 0 (fun r M1 => r = bI (q_ix a (ct x 22) && q_ix b (ct x 2)) ∧ MA G hm ad (x) lst M1) (fun r M1 H locs hp hT => ?_) (fun J21 => ?_)
  · obtain ⟨rfl, hM⟩ := hp
    refine lv_istore_n X.1 X.2.1 dX8_lookAt_21 rfl hl (by decide) rfl (fun ls hl => ?_)
    refine lv_aload_n X.1 X.2.1 dX8_lookAt_22 rfl (lv_at hl 1 rfl) ?_
    refine lv_iload_n X.1 X.2.1 dX8_lookAt_23 rfl (lv_at hl 0 rfl) ?_
    refine mw_join hT 62 0 0 (fun r M1 => r = bI ((q_ix a (ct x 22) && q_ix b (ct x 2)) && (decide (cg x 21 (pn a) = 0) && decide (cg x 0 (pn b) ≠ cg x 0 (pn (cg x 18 (pn a)))))) ∧ MA G hm ad (x) lst M1) (fun r M1 H locs hp hT => ?_) (fun J62 => ?_)
    · obtain ⟨rfl, hM⟩ := hp
      refine lv_iconst X.1 X.2.1 (v := 1) dX8_lookAt_62 (by decide) ?_
      refine mr_g X hT (fun hT' => mr_runV X hT' cb_RX8_123 kw834 kp27 kw835 (m_goes (a := (q_ix a (ct x 22) && q_ix b (ct x 2))) (b := (q_ix a (ct x 22) && q_ix b (ct x 2)) && (decide (cg x 21 (pn a) = 0) && decide (cg x 0 (pn b) ≠ cg x 0 (pn (cg x 18 (pn a)))))) (c := true) hfl hM) (mr_cell X hT hM.1 rfl) rfl rfl hl.1 ⟨Nat.le_of_ble_eq_true rfl, Nat.le_of_ble_eq_true rfl⟩ (Nat.le_of_ble_eq_true rfl) dX8_lookAt_63 ⟨Nat.le_of_ble_eq_true rfl, Nat.le_of_ble_eq_true rfl⟩) (fun v M1 H locs hp hT => ?_)
      obtain ⟨r, rfl, rfl, hM⟩ := hp
      refine W.eq (g2 := F0 zm 66 ls (.int _ :: _)) rfl ?_
      refine lv_if_ne X.1 X.2.1 (tgt := 71) dX8_lookAt_66 (by decide) (fun c66 => ?_) (fun c66 => ?_)
      · skip
        have hc : f_lookAt_c x a b = 0 := g_ok c66
        obtain ⟨h1, h2, h3⟩ := q_code_ok hc
        rw [Bool.and_eq_true] at h1
        obtain ⟨g1, g2⟩ := h1
        obtain ⟨j, hj, rfl⟩ := (q_ix_iff (show ct x 22 < 2 ^ 31 by omega)).mp g1
        have pj : pn (nI j) = j := pn_nI (by omega)
        obtain ⟨k, hk, rfl⟩ := (q_ix_iff (show ct x 2 < 2 ^ 31 by omega)).mp g2
        have pk : pn (nI k) = k := pn_nI (by omega)
        refine lv_aload_n X.1 X.2.1 dX8_lookAt_71 rfl (lv_at hl 1 rfl) ?_
        refine mr_get X hT fl_RX8_59 (hM.1) rfl dX8_lookAt_72 ?_
        refine lv_iload_n X.1 X.2.1 dX8_lookAt_75 rfl (lv_at hl 2 rfl) ?_
        refine lv_iconst X.1 X.2.1 (v := 1) dX8_lookAt_76 (by decide) ?_
        refine mm_zast X hT hM (k := 21) (N := 2000) (j := j) rfl (by decide) (by decide) (by omega) (rfl) dX8_lookAt_77 (fun M1 H locs hM hT => ?_)
        refine lv_aload_n X.1 X.2.1 dX8_lookAt_78 rfl (lv_at hl 1 rfl) ?_
        refine lv_iconst X.1 X.2.1 (v := 4) dX8_lookAt_79 (by decide) ?_
        refine lv_iload_n X.1 X.2.1 dX8_lookAt_80 rfl (lv_at hl 3 rfl) ?_
        refine lv_aload_n X.1 X.2.1 dX8_lookAt_81 rfl (lv_at hl 1 rfl) ?_
        refine mr_get X hT fl_RX8_53 (hM.1) rfl dX8_lookAt_82 ?_
        refine lv_iload_n X.1 X.2.1 dX8_lookAt_85 rfl (lv_at hl 2 rfl) ?_
        refine mm_iald X hT hM (k := 19) (N := 2000) (j := j) rfl (by decide) (by decide) (by omega) dX8_lookAt_86 ?_
        refine mm_top (w := cg x 19 j) (rfl) ?_
        refine mr_g X hT (fun hT' => mr_runV X hT' cb_RX8_130 kw870 kp34 kw871 (m_writes hfl hM (show ct x 32 < 8000 by omega)) (mr_cell X hT hM.1 rfl) rfl rfl hl.1 ⟨Nat.le_of_ble_eq_true rfl, Nat.le_of_ble_eq_true rfl⟩ (Nat.le_of_ble_eq_true rfl) dX8_lookAt_87 ⟨Nat.le_of_ble_eq_true rfl, Nat.le_of_ble_eq_true rfl⟩) (fun v M1 H locs hp hT => ?_)
        obtain ⟨rfl, hM⟩ := hp
        refine W.eq (g2 := F0 zm 90 ls _) rfl ?_
        refine lv_aload_n X.1 X.2.1 dX8_lookAt_90 rfl (lv_at hl 1 rfl) ?_
        refine mr_get X hT fl_RX8_119 (hM.1) rfl dX8_lookAt_91 ?_
        refine lv_aload_n X.1 X.2.1 dX8_lookAt_94 rfl (lv_at hl 1 rfl) ?_
        refine mr_get X hT fl_RX8_56 (hM.1) rfl dX8_lookAt_95 ?_
        refine lv_iload_n X.1 X.2.1 dX8_lookAt_98 rfl (lv_at hl 2 rfl) ?_
        refine mm_iald X hT hM (k := 20) (N := 2000) (j := j) rfl (by decide) (by decide) (by omega) dX8_lookAt_99 ?_
        refine mm_top (w := cg x 20 j) (rfl) ?_
        refine lv_isub X.1 X.2.1 dX8_lookAt_100 ?_
        exact mr_iret X hT hret (⟨_, rfl, fun _ => by rw [pj]; rfl, by rw [if_pos hc]; unfold f_lookAt_s; rw [pj]; exact hM⟩) (Nat.le_of_ble_eq_true rfl) (Nat.le_of_ble_eq_true rfl) dX8_lookAt_101
      · skip
        have hc : ¬ f_lookAt_c x a b = 0 := g_no c66
        refine lv_iconst X.1 X.2.1 (v := 0) dX8_lookAt_69 (by decide) ?_
        exact mr_iret X hT hret (⟨_, rfl, fun z => absurd z hc, by rw [if_neg hc]; exact hM⟩) (Nat.le_of_ble_eq_true rfl) (Nat.le_of_ble_eq_true rfl) dX8_lookAt_70
    · skip
      refine lv_iload_n X.1 X.2.1 dX8_lookAt_24 rfl (lv_at hl 0 rfl) ?_
      refine lv_if_eq X.1 X.2.1 (tgt := 61) dX8_lookAt_25 (by decide) (fun c25 => ?_) (fun c25 => ?_)
      · skip
        refine lv_iconst X.1 X.2.1 (v := 0) dX8_lookAt_61 (by decide) ?_
        refine W.widen (k := 0) (n := 0) (Nat.le_of_ble_eq_true rfl) (Nat.le_of_ble_eq_true rfl) ?_
        exact J62 _ _ _ _ ⟨by first | (rw [bI_0.mp c25]; rfl) | (rw [h25, pj, decide_eq_false c34]; rfl) | (rw [h25, pj, pk, decide_eq_true c34, eu, pu, d_nef c54]; rfl) | (rw [h25, pj, pk, decide_eq_true c34, eu, pu, decide_eq_true c54]; rfl), hM⟩ hT
      · skip
        have h25 := bI_n.mp c25
        have h1 := h25
        rw [Bool.and_eq_true] at h1
        obtain ⟨g1, g2⟩ := h1
        obtain ⟨j, hj, rfl⟩ := (q_ix_iff (show ct x 22 < 2 ^ 31 by omega)).mp g1
        have pj : pn (nI j) = j := pn_nI (by omega)
        obtain ⟨k, hk, rfl⟩ := (q_ix_iff (show ct x 2 < 2 ^ 31 by omega)).mp g2
        have pk : pn (nI k) = k := pn_nI (by omega)
        obtain ⟨⟨u, hu, eu⟩, -⟩ := hr18 j hj
        have pu : pn (nI u) = u := pn_nI (by omega)
        refine lv_aload_n X.1 X.2.1 dX8_lookAt_28 rfl (lv_at hl 1 rfl) ?_
        refine mr_get X hT fl_RX8_59 (hM.1) rfl dX8_lookAt_29 ?_
        refine lv_iload_n X.1 X.2.1 dX8_lookAt_32 rfl (lv_at hl 2 rfl) ?_
        refine mm_zald X hT hM (k := 21) (N := 2000) (j := j) rfl (by decide) (by decide) (by omega) dX8_lookAt_33 ?_
        refine lv_if_ne X.1 X.2.1 (tgt := 61) dX8_lookAt_34 (by decide) (fun c34 => ?_) (fun c34 => ?_)
        · skip
          refine lv_iconst X.1 X.2.1 (v := 0) dX8_lookAt_61 (by decide) ?_
          refine W.widen (k := 0) (n := 0) (Nat.le_of_ble_eq_true rfl) (Nat.le_of_ble_eq_true rfl) ?_
          exact J62 _ _ _ _ ⟨by first | (rw [bI_0.mp c25]; rfl) | (rw [h25, pj, decide_eq_false c34]; rfl) | (rw [h25, pj, pk, decide_eq_true c34, eu, pu, d_nef c54]; rfl) | (rw [h25, pj, pk, decide_eq_true c34, eu, pu, decide_eq_true c54]; rfl), hM⟩ hT
        · skip
          refine lv_aload_n X.1 X.2.1 dX8_lookAt_37 rfl (lv_at hl 1 rfl) ?_
          refine mr_get X hT fl_RX8_7 (hM.1) rfl dX8_lookAt_38 ?_
          refine lv_iload_n X.1 X.2.1 dX8_lookAt_41 rfl (lv_at hl 3 rfl) ?_
          refine mm_iald X hT hM (k := 0) (N := 12) (j := k) rfl (by decide) (by decide) (by omega) dX8_lookAt_42 ?_
          refine lv_aload_n X.1 X.2.1 dX8_lookAt_43 rfl (lv_at hl 1 rfl) ?_
          refine mr_get X hT fl_RX8_7 (hM.1) rfl dX8_lookAt_44 ?_
          refine lv_aload_n X.1 X.2.1 dX8_lookAt_47 rfl (lv_at hl 1 rfl) ?_
          refine mr_get X hT fl_RX8_50 (hM.1) rfl dX8_lookAt_48 ?_
          refine lv_iload_n X.1 X.2.1 dX8_lookAt_51 rfl (lv_at hl 2 rfl) ?_
          refine mm_iald X hT hM (k := 18) (N := 2000) (j := j) rfl (by decide) (by decide) (by omega) dX8_lookAt_52 ?_
          refine mm_top (w := nI u) (eu) ?_
          refine mm_iald X hT hM (k := 0) (N := 12) (j := u) rfl (by decide) (by decide) (by omega) dX8_lookAt_53 ?_
          refine lv_icmp_eq X.1 X.2.1 (tgt := 61) dX8_lookAt_54 (by decide) (fun c54 => ?_) (fun c54 => ?_)
          · skip
            refine lv_iconst X.1 X.2.1 (v := 0) dX8_lookAt_61 (by decide) ?_
            refine W.widen (k := 0) (n := 0) (Nat.le_of_ble_eq_true rfl) (Nat.le_of_ble_eq_true rfl) ?_
            exact J62 _ _ _ _ ⟨by first | (rw [bI_0.mp c25]; rfl) | (rw [h25, pj, decide_eq_false c34]; rfl) | (rw [h25, pj, pk, decide_eq_true c34, eu, pu, d_nef c54]; rfl) | (rw [h25, pj, pk, decide_eq_true c34, eu, pu, decide_eq_true c54]; rfl), hM⟩ hT
          · skip
            refine lv_iconst X.1 X.2.1 (v := 1) dX8_lookAt_57 (by decide) ?_
            refine lv_goto X.1 X.2.1 (tgt := 62) dX8_lookAt_58 (by decide) ?_
            refine W.widen (k := 0) (n := 0) (Nat.le_of_ble_eq_true rfl) (Nat.le_of_ble_eq_true rfl) ?_
            exact J62 _ _ _ _ ⟨by first | (rw [bI_0.mp c25]; rfl) | (rw [h25, pj, decide_eq_false c34]; rfl) | (rw [h25, pj, pk, decide_eq_true c34, eu, pu, d_nef c54]; rfl) | (rw [h25, pj, pk, decide_eq_true c34, eu, pu, decide_eq_true c54]; rfl), hM⟩ hT
  · skip
    refine lv_aload_n X.1 X.2.1 dX8_lookAt_0 rfl (lv_at hl 0 rfl) ?_
    refine lv_iload_n X.1 X.2.1 dX8_lookAt_1 rfl (lv_at hl 1 rfl) ?_
    refine mr_g X hT (fun hT' => mr_runV X hT' cb_RX8_174 kw935 kp43 kw936 (m_isEntry hfl hM (by omega)) (mr_cell X hT hM.1 rfl) rfl rfl hl.1 ⟨Nat.le_of_ble_eq_true rfl, Nat.le_of_ble_eq_true rfl⟩ (Nat.le_of_ble_eq_true rfl) dX8_lookAt_2 ⟨Nat.le_of_ble_eq_true rfl, Nat.le_of_ble_eq_true rfl⟩) (fun v M1 H locs hp hT => ?_)
    obtain ⟨r, rfl, rfl, hM⟩ := hp
    refine W.eq (g2 := F0 zm 5 ls (.int _ :: _)) rfl ?_
    refine lv_if_eq X.1 X.2.1 (tgt := 20) dX8_lookAt_5 (by decide) (fun c5 => ?_) (fun c5 => ?_)
    · skip
      refine lv_iconst X.1 X.2.1 (v := 0) dX8_lookAt_20 (by decide) ?_
      refine W.widen (k := 0) (n := 0) (Nat.le_of_ble_eq_true rfl) (Nat.le_of_ble_eq_true rfl) ?_
      exact J21 _ _ _ _ ⟨by first | (rw [bI_0.mp c5]; rfl) | (rw [bI_n.mp c5, bI_0.mp c13]; rfl) | (rw [bI_n.mp c5, bI_n.mp c13]; rfl), hM⟩ hT
    · skip
      refine lv_aload_n X.1 X.2.1 dX8_lookAt_8 rfl (lv_at hl 0 rfl) ?_
      refine lv_iload_n X.1 X.2.1 dX8_lookAt_9 rfl (lv_at hl 2 rfl) ?_
      refine mr_g X hT (fun hT' => mr_runV X hT' cb_RX8_100 kw846 kp28 kw847 (m_isPerson hfl hM (by omega)) (mr_cell X hT hM.1 rfl) rfl rfl hl.1 ⟨Nat.le_of_ble_eq_true rfl, Nat.le_of_ble_eq_true rfl⟩ (Nat.le_of_ble_eq_true rfl) dX8_lookAt_10 ⟨Nat.le_of_ble_eq_true rfl, Nat.le_of_ble_eq_true rfl⟩) (fun v M1 H locs hp hT => ?_)
      obtain ⟨r, rfl, rfl, hM⟩ := hp
      refine W.eq (g2 := F0 zm 13 ls (.int _ :: _)) rfl ?_
      refine lv_if_eq X.1 X.2.1 (tgt := 20) dX8_lookAt_13 (by decide) (fun c13 => ?_) (fun c13 => ?_)
      · skip
        refine lv_iconst X.1 X.2.1 (v := 0) dX8_lookAt_20 (by decide) ?_
        refine W.widen (k := 0) (n := 0) (Nat.le_of_ble_eq_true rfl) (Nat.le_of_ble_eq_true rfl) ?_
        exact J21 _ _ _ _ ⟨by first | (rw [bI_0.mp c5]; rfl) | (rw [bI_n.mp c5, bI_0.mp c13]; rfl) | (rw [bI_n.mp c5, bI_n.mp c13]; rfl), hM⟩ hT
      · skip
        refine lv_iconst X.1 X.2.1 (v := 1) dX8_lookAt_16 (by decide) ?_
        refine lv_goto X.1 X.2.1 (tgt := 21) dX8_lookAt_17 (by decide) ?_
        refine W.widen (k := 0) (n := 0) (Nat.le_of_ble_eq_true rfl) (Nat.le_of_ble_eq_true rfl) ?_
        exact J21 _ _ _ _ ⟨by first | (rw [bI_0.mp c5]; rfl) | (rw [bI_n.mp c5, bI_0.mp c13]; rfl) | (rw [bI_n.mp c5, bI_n.mp c13]; rfl), hM⟩ hT

abbrev rm_X8_overdue : Room := { frames := 2, cells := 0, slots := 0, locals := 43 }
set_option maxHeartbeats 4000000 in
set_option maxRecDepth 100000 in
theorem m_overdue {l : Launch} (hfl : l.stackTraces = false) {G : mw_G} {hm : Nat} {ad : Nat → Nat} {x : s_T} {lst : Int32} {p : Int32} {M : mw_M} (hM : MA G hm ad x lst M) (hi : q_inv 511 x) : mw_Met l G yX8_overdue (.code yX8_overdue cX8_overdue 2 (some .int)) rm_X8_overdue [.ref hm, .int p] M (mw_pi (fun r M1 => (f_overdue_c x p = 0 → r = q_over x p (ct x 22)) ∧ MA G hm ad (if f_overdue_c x p = 0 then x else x) (f_overdue_c x p) M1)) := by
  refine mw_of hfl (by decide) (Nat.le_of_ble_eq_true rfl) ?_
  intro zp ze zs zm zb zh zc ls X hin hret hT hl
  have hl : lv_has ls 2 [(0, .ref hm), (1, .int p)] := hl
  obtain ⟨⟨i2, i4, i5, i10, i17, i22, i29, i32⟩, hr3, hr6, hr11, hr18, hr23, hz21, hz28, hlb⟩ := id hi
  have hI := q_inv_mono hi (show 511 ≤ 512 by decide)
  refine lv_aload_n X.1 X.2.1 dX8_overdue_0 rfl (lv_at hl 0 rfl) ?_
  refine lv_aload_n X.1 X.2.1 dX8_overdue_1 rfl (lv_at hl 0 rfl) ?_
  refine lv_iload_n X.1 X.2.1 dX8_overdue_2 rfl (lv_at hl 1 rfl) ?_
  refine mr_g X hT (fun hT' => mr_runV X hT' cb_RX8_100 kw846 kp28 kw847 (m_isPerson hfl hM (by omega)) (mr_cell X hT hM.1 rfl) rfl rfl hl.1 ⟨Nat.le_of_ble_eq_true rfl, Nat.le_of_ble_eq_true rfl⟩ (Nat.le_of_ble_eq_true rfl) dX8_overdue_3 ⟨Nat.le_of_ble_eq_true rfl, Nat.le_of_ble_eq_true rfl⟩) (fun v M1 H locs hp hT => ?_)
  obtain ⟨r, rfl, rfl, hM⟩ := hp
  refine W.eq (g2 := F0 zm 6 ls (.int _ :: _)) rfl ?_
  refine lv_iconst X.1 X.2.1 (v := 1) dX8_overdue_6 (by decide) ?_
  refine lv_iconst X.1 X.2.1 (v := 1) dX8_overdue_7 (by decide) ?_
  refine mr_g X hT (fun hT' => mr_runV X hT' cb_RX8_123 kw834 kp27 kw835 (m_goes (a := q_ix p (ct x 2)) (b := true) (c := true) hfl hM) (mr_cell X hT hM.1 rfl) rfl rfl hl.1 ⟨Nat.le_of_ble_eq_true rfl, Nat.le_of_ble_eq_true rfl⟩ (Nat.le_of_ble_eq_true rfl) dX8_overdue_8 ⟨Nat.le_of_ble_eq_true rfl, Nat.le_of_ble_eq_true rfl⟩) (fun v M1 H locs hp hT => ?_)
  obtain ⟨r, rfl, rfl, hM⟩ := hp
  refine W.eq (g2 := F0 zm 11 ls (.int _ :: _)) rfl ?_
  refine lv_if_eq X.1 X.2.1 (tgt := 22) dX8_overdue_11 (by decide) (fun c11 => ?_) (fun c11 => ?_)
  · skip
    have hc : ¬ f_overdue_c x p = 0 := g_no c11
    refine lv_iconst X.1 X.2.1 (v := 0) dX8_overdue_22 (by decide) ?_
    exact mr_iret X hT hret (⟨_, rfl, by first | exact (fun z => absurd z hc) | (intro _; rfl), by first | (rw [if_neg hc]; exact hM) | (rw [if_pos hc]; exact hM)⟩) (Nat.le_of_ble_eq_true rfl) (Nat.le_of_ble_eq_true rfl) dX8_overdue_23
  · skip
    have hc : f_overdue_c x p = 0 := g_ok c11
    obtain ⟨h1, h2, h3⟩ := q_code_ok hc
    refine lv_aload_n X.1 X.2.1 dX8_overdue_14 rfl (lv_at hl 0 rfl) ?_
    refine lv_iload_n X.1 X.2.1 dX8_overdue_15 rfl (lv_at hl 1 rfl) ?_
    refine mr_g X hT (fun hT' => mr_runV X hT' cb_RX8_159 kw899 kp39 kw900 (m_overdues hfl hM hI) (mr_cell X hT hM.1 rfl) rfl rfl hl.1 ⟨Nat.le_of_ble_eq_true rfl, Nat.le_of_ble_eq_true rfl⟩ (Nat.le_of_ble_eq_true rfl) dX8_overdue_16 ⟨Nat.le_of_ble_eq_true rfl, Nat.le_of_ble_eq_true rfl⟩) (fun v M1 H locs hp hT => ?_)
    obtain ⟨r, rfl, rfl, hM⟩ := hp
    refine W.eq (g2 := F0 zm 19 ls (.int _ :: _)) rfl ?_
    refine lv_goto X.1 X.2.1 (tgt := 23) dX8_overdue_19 (by decide) ?_
    exact mr_iret X hT hret (⟨_, rfl, by first | exact (fun z => absurd z hc) | (intro _; rfl), by first | (rw [if_neg hc]; exact hM) | (rw [if_pos hc]; exact hM)⟩) (Nat.le_of_ble_eq_true rfl) (Nat.le_of_ble_eq_true rfl) dX8_overdue_23

abbrev rm_X8_couldEnter : Room := { frames := 3, cells := 0, slots := 0, locals := 65 }
set_option maxHeartbeats 4000000 in
set_option maxRecDepth 100000 in
theorem m_couldEnter {l : Launch} (hfl : l.stackTraces = false) {G : mw_G} {hm : Nat} {ad : Nat → Nat} {x : s_T} {lst : Int32} {p mm t : Int32} {M : mw_M} (hM : MA G hm ad x lst M) (hi : q_inv 511 x) : mw_Met l G yX8_couldEnter (.code yX8_couldEnter cX8_couldEnter 4 (some .boolean)) rm_X8_couldEnter [.ref hm, .int p, .int mm, .int t] M (mw_pi (fun r M1 => (f_couldEnter_c x p mm t = 0 → r = bI (q_hold x p mm t (ct x 10))) ∧ MA G hm ad (if f_couldEnter_c x p mm t = 0 then x else x) (f_couldEnter_c x p mm t) M1)) := by
  refine mw_of hfl (by decide) (Nat.le_of_ble_eq_true rfl) ?_
  intro zp ze zs zm zb zh zc ls X hin hret hT hl
  have hl : lv_has ls 4 [(0, .ref hm), (1, .int p), (2, .int mm), (3, .int t)] := hl
  obtain ⟨⟨i2, i4, i5, i10, i17, i22, i29, i32⟩, hr3, hr6, hr11, hr18, hr23, hz21, hz28, hlb⟩ := id hi
  have hI := q_inv_mono hi (show 511 ≤ 512 by decide)
  refine lv_aload_n X.1 X.2.1 dX8_couldEnter_0 rfl (lv_at hl 0 rfl) ?_
  refine lv_aload_n X.1 X.2.1 dX8_couldEnter_1 rfl (lv_at hl 0 rfl) ?_
  refine lv_iload_n X.1 X.2.1 dX8_couldEnter_2 rfl (lv_at hl 1 rfl) ?_
  refine lv_iload_n X.1 X.2.1 dX8_couldEnter_3 rfl (lv_at hl 2 rfl) ?_
  refine mr_g X hT (fun hT' => mr_runV X hT' cb_RX8_152 kw879 kp35 kw880 (m_areBoth hfl hM (by omega) (by omega)) (mr_cell X hT hM.1 rfl) rfl rfl hl.1 ⟨Nat.le_of_ble_eq_true rfl, Nat.le_of_ble_eq_true rfl⟩ (Nat.le_of_ble_eq_true rfl) dX8_couldEnter_4 ⟨Nat.le_of_ble_eq_true rfl, Nat.le_of_ble_eq_true rfl⟩) (fun v M1 H locs hp hT => ?_)
  obtain ⟨r, rfl, rfl, hM⟩ := hp
  refine W.eq (g2 := F0 zm 7 ls (.int _ :: _)) rfl ?_
  refine lv_iload_n X.1 X.2.1 dX8_couldEnter_7 rfl (lv_at hl 3 rfl) ?_
  refine lv_iconst X.1 X.2.1 (v := 0) dX8_couldEnter_8 (by decide) ?_
  refine lv_ldc X.1 X.2.1 (v := 100000) X.2.2.2.1 (mw_use X.2.2.2.2.1.1 kw945 rfl) dX8_couldEnter_9 ?_
  refine mr_g X hT (fun hT' => mr_runS X hT' cb_RX8_93 kw830 kw831 (m_in hfl hM) rfl rfl hl.1 ⟨Nat.le_of_ble_eq_true rfl, Nat.le_of_ble_eq_true rfl⟩ (Nat.le_of_ble_eq_true rfl) dX8_couldEnter_11 ⟨Nat.le_of_ble_eq_true rfl, Nat.le_of_ble_eq_true rfl⟩) (fun v M1 H locs hp hT => ?_)
  obtain ⟨r, rfl, rfl, hM⟩ := hp
  refine W.eq (g2 := F0 zm 14 ls (.int _ :: _)) rfl ?_
  refine lv_iconst X.1 X.2.1 (v := 1) dX8_couldEnter_14 (by decide) ?_
  refine mr_g X hT (fun hT' => mr_runV X hT' cb_RX8_123 kw834 kp27 kw835 (m_goes (a := q_both x p mm) (b := q_in t 0 100000) (c := true) hfl hM) (mr_cell X hT hM.1 rfl) rfl rfl hl.1 ⟨Nat.le_of_ble_eq_true rfl, Nat.le_of_ble_eq_true rfl⟩ (Nat.le_of_ble_eq_true rfl) dX8_couldEnter_15 ⟨Nat.le_of_ble_eq_true rfl, Nat.le_of_ble_eq_true rfl⟩) (fun v M1 H locs hp hT => ?_)
  obtain ⟨r, rfl, rfl, hM⟩ := hp
  refine W.eq (g2 := F0 zm 18 ls (.int _ :: _)) rfl ?_
  refine lv_if_eq X.1 X.2.1 (tgt := 35) dX8_couldEnter_18 (by decide) (fun c18 => ?_) (fun c18 => ?_)
  · skip
    have hc : ¬ f_couldEnter_c x p mm t = 0 := g_no c18
    refine lv_iconst X.1 X.2.1 (v := 0) dX8_couldEnter_35 (by decide) ?_
    exact mr_zret X hT hret (by first | exact bI_nar _ | rfl | decide) (⟨_, rfl, by first | exact (fun z => absurd z hc) | (intro _; first | (rw [bI_0.mp c28]; rfl) | (rw [bI_n.mp c28]; rfl)), by first | (rw [if_neg hc]; exact hM) | (rw [if_pos hc]; exact hM)⟩) (Nat.le_of_ble_eq_true rfl) (Nat.le_of_ble_eq_true rfl) dX8_couldEnter_36
  · skip
    have hc : f_couldEnter_c x p mm t = 0 := g_ok c18
    obtain ⟨h1, h2, h3⟩ := q_code_ok hc
    refine lv_aload_n X.1 X.2.1 dX8_couldEnter_21 rfl (lv_at hl 0 rfl) ?_
    refine lv_iload_n X.1 X.2.1 dX8_couldEnter_22 rfl (lv_at hl 1 rfl) ?_
    refine lv_iload_n X.1 X.2.1 dX8_couldEnter_23 rfl (lv_at hl 2 rfl) ?_
    refine lv_iload_n X.1 X.2.1 dX8_couldEnter_24 rfl (lv_at hl 3 rfl) ?_
    refine mr_g X hT (fun hT' => mr_runV X hT' cb_RX8_134 kw862 kp32 kw863 (m_holdsAt hfl hM hI) (mr_cell X hT hM.1 rfl) rfl rfl hl.1 ⟨Nat.le_of_ble_eq_true rfl, Nat.le_of_ble_eq_true rfl⟩ (Nat.le_of_ble_eq_true rfl) dX8_couldEnter_25 ⟨Nat.le_of_ble_eq_true rfl, Nat.le_of_ble_eq_true rfl⟩) (fun v M1 H locs hp hT => ?_)
    obtain ⟨r, rfl, rfl, hM⟩ := hp
    refine W.eq (g2 := F0 zm 28 ls (.int _ :: _)) rfl ?_
    refine lv_if_eq X.1 X.2.1 (tgt := 35) dX8_couldEnter_28 (by decide) (fun c28 => ?_) (fun c28 => ?_)
    · skip
      refine lv_iconst X.1 X.2.1 (v := 0) dX8_couldEnter_35 (by decide) ?_
      exact mr_zret X hT hret (by first | exact bI_nar _ | rfl | decide) (⟨_, rfl, by first | exact (fun z => absurd z hc) | (intro _; first | (rw [bI_0.mp c28]; rfl) | (rw [bI_n.mp c28]; rfl)), by first | (rw [if_neg hc]; exact hM) | (rw [if_pos hc]; exact hM)⟩) (Nat.le_of_ble_eq_true rfl) (Nat.le_of_ble_eq_true rfl) dX8_couldEnter_36
    · skip
      refine lv_iconst X.1 X.2.1 (v := 1) dX8_couldEnter_31 (by decide) ?_
      refine lv_goto X.1 X.2.1 (tgt := 36) dX8_couldEnter_32 (by decide) ?_
      exact mr_zret X hT hret (by first | exact bI_nar _ | rfl | decide) (⟨_, rfl, by first | exact (fun z => absurd z hc) | (intro _; first | (rw [bI_0.mp c28]; rfl) | (rw [bI_n.mp c28]; rfl)), by first | (rw [if_neg hc]; exact hM) | (rw [if_pos hc]; exact hM)⟩) (Nat.le_of_ble_eq_true rfl) (Nat.le_of_ble_eq_true rfl) dX8_couldEnter_36

abbrev rm_X8_open : Room := { frames := 3, cells := 0, slots := 0, locals := 65 }
set_option maxHeartbeats 4000000 in
set_option maxRecDepth 100000 in
theorem m_open {l : Launch} (hfl : l.stackTraces = false) {G : mw_G} {hm : Nat} {ad : Nat → Nat} {x : s_T} {lst : Int32} {p mm : Int32} {M : mw_M} (hM : MA G hm ad x lst M) (hi : q_inv 511 x) : mw_Met l G yX8_open (.code yX8_open cX8_open 4 (some .int)) rm_X8_open [.ref hm, .int p, .int mm] M (mw_pi (fun r M1 => (f_open_c x p mm = 0 → r = nI (ct x 29)) ∧ MA G hm ad (if f_open_c x p mm = 0 then f_open_s x p mm else x) (f_open_c x p mm) M1)) := by
  refine mw_of hfl (by decide) (Nat.le_of_ble_eq_true rfl) ?_
  intro zp ze zs zm zb zh zc ls X hin hret hT hl
  have hl : lv_has ls 4 [(0, .ref hm), (1, .int p), (2, .int mm)] := hl
  obtain ⟨⟨i2, i4, i5, i10, i17, i22, i29, i32⟩, hr3, hr6, hr11, hr18, hr23, hz21, hz28, hlb⟩ := id hi
  have hI := q_inv_mono hi (show 511 ≤ 512 by decide)
  refine lv_aload_n X.1 X.2.1 dX8_open_0 rfl (lv_at hl 0 rfl) ?_
  refine lv_iload_n X.1 X.2.1 dX8_open_1 rfl (lv_at hl 1 rfl) ?_
  refine lv_iload_n X.1 X.2.1 dX8_open_2 rfl (lv_at hl 2 rfl) ?_
  refine mr_g X hT (fun hT' => mr_runV X hT' cb_RX8_152 kw879 kp35 kw880 (m_areBoth hfl hM (by omega) (by omega)) (mr_cell X hT hM.1 rfl) rfl rfl hl.1 ⟨Nat.le_of_ble_eq_true rfl, Nat.le_of_ble_eq_true rfl⟩ (Nat.le_of_ble_eq_true rfl) dX8_open_3 ⟨Nat.le_of_ble_eq_true rfl, Nat.le_of_ble_eq_true rfl⟩) (fun v M1 H locs hp hT => ?_)
  obtain ⟨r, rfl, rfl, hM⟩ := hp
  refine W.eq (g2 := F0 zm 6 ls (.int _ :: _)) rfl ?_
  refine lv_istore_n X.1 X.2.1 dX8_open_6 rfl hl (by decide) rfl (fun ls hl => ?_)
  refine lv_aload_n X.1 X.2.1 dX8_open_7 rfl (lv_at hl 1 rfl) ?_
  refine lv_iload_n X.1 X.2.1 dX8_open_8 rfl (lv_at hl 0 rfl) ?_
  refine mw_join hT 31 0 0 (fun r M1 => r = bI (q_both x p mm && q_hold x p mm (q_now x) (ct x 10)) ∧ MA G hm ad (x) lst M1) (fun r M1 H locs hp hT => ?_) (fun J31 => ?_)
  · obtain ⟨rfl, hM⟩ := hp
    refine lv_iconst X.1 X.2.1 (v := 1) dX8_open_31 (by decide) ?_
    refine mr_g X hT (fun hT' => mr_runV X hT' cb_RX8_123 kw834 kp27 kw835 (m_goes (a := q_both x p mm) (b := q_both x p mm && q_hold x p mm (q_now x) (ct x 10)) (c := true) hfl hM) (mr_cell X hT hM.1 rfl) rfl rfl hl.1 ⟨Nat.le_of_ble_eq_true rfl, Nat.le_of_ble_eq_true rfl⟩ (Nat.le_of_ble_eq_true rfl) dX8_open_32 ⟨Nat.le_of_ble_eq_true rfl, Nat.le_of_ble_eq_true rfl⟩) (fun v M1 H locs hp hT => ?_)
    obtain ⟨r, rfl, rfl, hM⟩ := hp
    refine W.eq (g2 := F0 zm 35 ls (.int _ :: _)) rfl ?_
    refine lv_if_ne X.1 X.2.1 (tgt := 40) dX8_open_35 (by decide) (fun c35 => ?_) (fun c35 => ?_)
    · skip
      have hc : f_open_c x p mm = 0 := g_ok c35
      obtain ⟨h1, h2, h3⟩ := q_code_ok hc
      refine lv_aload_n X.1 X.2.1 dX8_open_40 rfl (lv_at hl 1 rfl) ?_
      refine mr_get X hT fl_RX8_62 (hM.1) rfl dX8_open_41 ?_
      refine lv_aload_n X.1 X.2.1 dX8_open_44 rfl (lv_at hl 1 rfl) ?_
      refine mr_get X hT fl_RX8_113 (hM.1) rfl dX8_open_45 ?_
      refine lv_iload_n X.1 X.2.1 dX8_open_48 rfl (lv_at hl 2 rfl) ?_
      refine mm_iast X hT hM (k := 23) (N := 2000) (j := ct x 29) rfl (by decide) (by decide) (by omega) dX8_open_49 (fun M1 H locs hM hT => ?_)
      refine lv_aload_n X.1 X.2.1 dX8_open_50 rfl (lv_at hl 1 rfl) ?_
      refine mr_get X hT fl_RX8_65 (hM.1) rfl dX8_open_51 ?_
      refine lv_aload_n X.1 X.2.1 dX8_open_54 rfl (lv_at hl 1 rfl) ?_
      refine mr_get X hT fl_RX8_113 (hM.1) rfl dX8_open_55 ?_
      refine lv_iload_n X.1 X.2.1 dX8_open_58 rfl (lv_at hl 3 rfl) ?_
      refine mm_iast X hT hM (k := 24) (N := 2000) (j := ct x 29) rfl (by decide) (by decide) (by omega) dX8_open_59 (fun M1 H locs hM hT => ?_)
      refine lv_aload_n X.1 X.2.1 dX8_open_60 rfl (lv_at hl 1 rfl) ?_
      refine mr_get X hT fl_RX8_68 (hM.1) rfl dX8_open_61 ?_
      refine lv_aload_n X.1 X.2.1 dX8_open_64 rfl (lv_at hl 1 rfl) ?_
      refine mr_get X hT fl_RX8_113 (hM.1) rfl dX8_open_65 ?_
      refine lv_iconst X.1 X.2.1 (v := 1) dX8_open_68 (by decide) ?_
      refine mm_zast X hT hM (k := 25) (N := 2000) (j := ct x 29) rfl (by decide) (by decide) (by omega) (rfl) dX8_open_69 (fun M1 H locs hM hT => ?_)
      refine lv_aload_n X.1 X.2.1 dX8_open_70 rfl (lv_at hl 1 rfl) ?_
      refine mr_get X hT fl_RX8_71 (hM.1) rfl dX8_open_71 ?_
      refine lv_aload_n X.1 X.2.1 dX8_open_74 rfl (lv_at hl 1 rfl) ?_
      refine mr_get X hT fl_RX8_113 (hM.1) rfl dX8_open_75 ?_
      refine lv_aload_n X.1 X.2.1 dX8_open_78 rfl (lv_at hl 1 rfl) ?_
      refine mr_get X hT fl_RX8_119 (hM.1) rfl dX8_open_79 ?_
      refine mm_iast X hT hM (k := 26) (N := 2000) (j := ct x 29) rfl (by decide) (by decide) (by omega) dX8_open_82 (fun M1 H locs hM hT => ?_)
      refine lv_aload_n X.1 X.2.1 dX8_open_83 rfl (lv_at hl 1 rfl) ?_
      refine mr_get X hT fl_RX8_74 (hM.1) rfl dX8_open_84 ?_
      refine lv_aload_n X.1 X.2.1 dX8_open_87 rfl (lv_at hl 1 rfl) ?_
      refine mr_get X hT fl_RX8_113 (hM.1) rfl dX8_open_88 ?_
      refine lv_iconst X.1 X.2.1 (v := -1) dX8_open_91 (by decide) ?_
      refine mm_iast X hT hM (k := 27) (N := 2000) (j := ct x 29) rfl (by decide) (by decide) (by omega) dX8_open_92 (fun M1 H locs hM hT => ?_)
      refine lv_aload_n X.1 X.2.1 dX8_open_93 rfl (lv_at hl 1 rfl) ?_
      refine lv_dup X.1 X.2.1 dX8_open_94 rfl ?_
      refine mr_get X hT fl_RX8_113 (hM.1) rfl dX8_open_95 ?_
      refine lv_iconst X.1 X.2.1 (v := 1) dX8_open_98 (by decide) ?_
      refine lv_iadd X.1 X.2.1 dX8_open_99 ?_
      refine mm_put X hT hM fp_RX8_113 (k := 29) rfl (ct x 29 + 1) (nI_1 _) dX8_open_100 (fun M1 H locs hM hT => ?_)
      refine lv_aload_n X.1 X.2.1 dX8_open_103 rfl (lv_at hl 1 rfl) ?_
      refine lv_iconst X.1 X.2.1 (v := 5) dX8_open_104 (by decide) ?_
      refine lv_iload_n X.1 X.2.1 dX8_open_105 rfl (lv_at hl 2 rfl) ?_
      refine lv_iload_n X.1 X.2.1 dX8_open_106 rfl (lv_at hl 3 rfl) ?_
      refine mr_g X hT (fun hT' => mr_runV X hT' cb_RX8_130 kw870 kp34 kw871 (m_writes hfl hM (show ct x 32 < 8000 by omega)) (mr_cell X hT hM.1 rfl) rfl rfl hl.1 ⟨Nat.le_of_ble_eq_true rfl, Nat.le_of_ble_eq_true rfl⟩ (Nat.le_of_ble_eq_true rfl) dX8_open_107 ⟨Nat.le_of_ble_eq_true rfl, Nat.le_of_ble_eq_true rfl⟩) (fun v M1 H locs hp hT => ?_)
      obtain ⟨rfl, hM⟩ := hp
      refine W.eq (g2 := F0 zm 110 ls _) rfl ?_
      refine lv_aload_n X.1 X.2.1 dX8_open_110 rfl (lv_at hl 1 rfl) ?_
      refine mr_get X hT fl_RX8_113 (hM.1) rfl dX8_open_111 ?_
      refine lv_iconst X.1 X.2.1 (v := 1) dX8_open_114 (by decide) ?_
      refine lv_isub X.1 X.2.1 dX8_open_115 ?_
      refine mm_top (w := nI (ct x 29)) (nI_pred _) ?_
      exact mr_iret X hT hret (⟨_, rfl, fun _ => rfl, by rw [if_pos hc]; exact hM⟩) (Nat.le_of_ble_eq_true rfl) (Nat.le_of_ble_eq_true rfl) dX8_open_116
    · skip
      have hc : ¬ f_open_c x p mm = 0 := g_no c35
      refine lv_iconst X.1 X.2.1 (v := 0) dX8_open_38 (by decide) ?_
      exact mr_iret X hT hret (⟨_, rfl, fun z => absurd z hc, by rw [if_neg hc]; exact hM⟩) (Nat.le_of_ble_eq_true rfl) (Nat.le_of_ble_eq_true rfl) dX8_open_39
  · skip
    refine lv_iload_n X.1 X.2.1 dX8_open_9 rfl (lv_at hl 0 rfl) ?_
    refine lv_if_eq X.1 X.2.1 (tgt := 30) dX8_open_10 (by decide) (fun c10 => ?_) (fun c10 => ?_)
    · skip
      refine lv_iconst X.1 X.2.1 (v := 0) dX8_open_30 (by decide) ?_
      refine W.widen (k := 0) (n := 0) (Nat.le_of_ble_eq_true rfl) (Nat.le_of_ble_eq_true rfl) ?_
      exact J31 _ _ _ _ ⟨by first | (rw [bI_0.mp c10]; rfl) | (rw [bI_n.mp c10, bI_0.mp c23]; rfl) | (rw [bI_n.mp c10, bI_n.mp c23]; rfl), hM⟩ hT
    · skip
      refine lv_aload_n X.1 X.2.1 dX8_open_13 rfl (lv_at hl 1 rfl) ?_
      refine lv_iload_n X.1 X.2.1 dX8_open_14 rfl (lv_at hl 2 rfl) ?_
      refine lv_iload_n X.1 X.2.1 dX8_open_15 rfl (lv_at hl 3 rfl) ?_
      refine lv_aload_n X.1 X.2.1 dX8_open_16 rfl (lv_at hl 1 rfl) ?_
      refine mr_get X hT fl_RX8_119 (hM.1) rfl dX8_open_17 ?_
      refine mr_g X hT (fun hT' => mr_runV X hT' cb_RX8_134 kw862 kp32 kw863 (m_holdsAt hfl hM hI) (mr_cell X hT hM.1 rfl) rfl rfl hl.1 ⟨Nat.le_of_ble_eq_true rfl, Nat.le_of_ble_eq_true rfl⟩ (Nat.le_of_ble_eq_true rfl) dX8_open_20 ⟨Nat.le_of_ble_eq_true rfl, Nat.le_of_ble_eq_true rfl⟩) (fun v M1 H locs hp hT => ?_)
      obtain ⟨r, rfl, rfl, hM⟩ := hp
      refine W.eq (g2 := F0 zm 23 ls (.int _ :: _)) rfl ?_
      refine lv_if_eq X.1 X.2.1 (tgt := 30) dX8_open_23 (by decide) (fun c23 => ?_) (fun c23 => ?_)
      · skip
        refine lv_iconst X.1 X.2.1 (v := 0) dX8_open_30 (by decide) ?_
        refine W.widen (k := 0) (n := 0) (Nat.le_of_ble_eq_true rfl) (Nat.le_of_ble_eq_true rfl) ?_
        exact J31 _ _ _ _ ⟨by first | (rw [bI_0.mp c10]; rfl) | (rw [bI_n.mp c10, bI_0.mp c23]; rfl) | (rw [bI_n.mp c10, bI_n.mp c23]; rfl), hM⟩ hT
      · skip
        refine lv_iconst X.1 X.2.1 (v := 1) dX8_open_26 (by decide) ?_
        refine lv_goto X.1 X.2.1 (tgt := 31) dX8_open_27 (by decide) ?_
        refine W.widen (k := 0) (n := 0) (Nat.le_of_ble_eq_true rfl) (Nat.le_of_ble_eq_true rfl) ?_
        exact J31 _ _ _ _ ⟨by first | (rw [bI_0.mp c10]; rfl) | (rw [bI_n.mp c10, bI_0.mp c23]; rfl) | (rw [bI_n.mp c10, bI_n.mp c23]; rfl), hM⟩ hT

abbrev rm_X8_type : Room := { frames := 3, cells := 0, slots := 0, locals := 68 }
set_option maxHeartbeats 4000000 in
set_option maxRecDepth 100000 in
theorem m_type {l : Launch} (hfl : l.stackTraces = false) {G : mw_G} {hm : Nat} {ad : Nat → Nat} {x : s_T} {lst : Int32} {a kk : Int32} {M : mw_M} (hM : MA G hm ad x lst M) (hi : q_inv 511 x) : mw_Met l G yX8_type (.code yX8_type cX8_type 4 (some .boolean)) rm_X8_type [.ref hm, .int a, .int kk] M (mw_pi (fun r M1 => (f_type_c x a kk = 0 → r = bI (decide (kk = 0))) ∧ MA G hm ad (if f_type_c x a kk = 0 then f_type_s x a kk else x) (f_type_c x a kk) M1)) := by
  refine mw_of hfl (by decide) (Nat.le_of_ble_eq_true rfl) ?_
  intro zp ze zs zm zb zh zc ls X hin hret hT hl
  have hl : lv_has ls 4 [(0, .ref hm), (1, .int a), (2, .int kk)] := hl
  obtain ⟨⟨i2, i4, i5, i10, i17, i22, i29, i32⟩, hr3, hr6, hr11, hr18, hr23, hz21, hz28, hlb⟩ := id hi
  have hI := q_inv_mono hi (show 511 ≤ 512 by decide)
  refine lv_aload_n X.1 X.2.1 dX8_type_0 rfl (lv_at hl 0 rfl) ?_
  refine lv_iload_n X.1 X.2.1 dX8_type_1 rfl (lv_at hl 1 rfl) ?_
  refine mr_g X hT (fun hT' => mr_runV X hT' cb_RX8_178 kw956 kp44 kw957 (m_isSession hfl hM (by omega)) (mr_cell X hT hM.1 rfl) rfl rfl hl.1 ⟨Nat.le_of_ble_eq_true rfl, Nat.le_of_ble_eq_true rfl⟩ (Nat.le_of_ble_eq_true rfl) dX8_type_2 ⟨Nat.le_of_ble_eq_true rfl, Nat.le_of_ble_eq_true rfl⟩) (fun v M1 H locs hp hT => ?_)
  obtain ⟨r, rfl, rfl, hM⟩ := hp
  refine W.eq (g2 := F0 zm 5 ls (.int _ :: _)) rfl ?_
  refine lv_istore_n X.1 X.2.1 dX8_type_5 rfl hl (by decide) rfl (fun ls hl => ?_)
  refine lv_aload_n X.1 X.2.1 dX8_type_6 rfl (lv_at hl 1 rfl) ?_
  refine lv_iload_n X.1 X.2.1 dX8_type_7 rfl (lv_at hl 0 rfl) ?_
  refine lv_iload_n X.1 X.2.1 dX8_type_8 rfl (lv_at hl 3 rfl) ?_
  refine lv_iconst X.1 X.2.1 (v := 0) dX8_type_9 (by decide) ?_
  refine lv_iconst X.1 X.2.1 (v := 2) dX8_type_10 (by decide) ?_
  refine mr_g X hT (fun hT' => mr_runS X hT' cb_RX8_93 kw830 kw831 (m_in hfl hM) rfl rfl hl.1 ⟨Nat.le_of_ble_eq_true rfl, Nat.le_of_ble_eq_true rfl⟩ (Nat.le_of_ble_eq_true rfl) dX8_type_11 ⟨Nat.le_of_ble_eq_true rfl, Nat.le_of_ble_eq_true rfl⟩) (fun v M1 H locs hp hT => ?_)
  obtain ⟨r, rfl, rfl, hM⟩ := hp
  refine W.eq (g2 := F0 zm 14 ls (.int _ :: _)) rfl ?_
  refine mw_join hT 42 0 0 (fun r M1 => r = bI (q_ix a (ct x 29) && (decide (cg x 25 (pn a) ≠ 0) && decide (cg x 27 (pn a) = -1))) ∧ MA G hm ad (x) lst M1) (fun r M1 H locs hp hT => ?_) (fun J42 => ?_)
  · obtain ⟨rfl, hM⟩ := hp
    refine mr_g X hT (fun hT' => mr_runV X hT' cb_RX8_123 kw834 kp27 kw835 (m_goes (a := q_ix a (ct x 29)) (b := q_in kk 0 2) (c := q_ix a (ct x 29) && (decide (cg x 25 (pn a) ≠ 0) && decide (cg x 27 (pn a) = -1))) hfl hM) (mr_cell X hT hM.1 rfl) rfl rfl hl.1 ⟨Nat.le_of_ble_eq_true rfl, Nat.le_of_ble_eq_true rfl⟩ (Nat.le_of_ble_eq_true rfl) dX8_type_42 ⟨Nat.le_of_ble_eq_true rfl, Nat.le_of_ble_eq_true rfl⟩) (fun v M1 H locs hp hT => ?_)
    obtain ⟨r, rfl, rfl, hM⟩ := hp
    refine W.eq (g2 := F0 zm 45 ls (.int _ :: _)) rfl ?_
    refine lv_if_ne X.1 X.2.1 (tgt := 50) dX8_type_45 (by decide) (fun c45 => ?_) (fun c45 => ?_)
    · skip
      have hc : f_type_c x a kk = 0 := g_ok c45
      obtain ⟨h1, h2, h3⟩ := q_code_ok hc
      obtain ⟨j, hj, rfl⟩ := (q_ix_iff (show ct x 29 < 2 ^ 31 by omega)).mp h1
      have pj : pn (nI j) = j := pn_nI (by omega)
      refine lv_aload_n X.1 X.2.1 dX8_type_50 rfl (lv_at hl 1 rfl) ?_
      refine mr_get X hT fl_RX8_71 (hM.1) rfl dX8_type_51 ?_
      refine lv_iload_n X.1 X.2.1 dX8_type_54 rfl (lv_at hl 2 rfl) ?_
      refine lv_aload_n X.1 X.2.1 dX8_type_55 rfl (lv_at hl 1 rfl) ?_
      refine mr_get X hT fl_RX8_119 (hM.1) rfl dX8_type_56 ?_
      refine mm_iast X hT hM (k := 26) (N := 2000) (j := j) rfl (by decide) (by decide) (by omega) dX8_type_59 (fun M1 H locs hM hT => ?_)
      refine lv_aload_n X.1 X.2.1 dX8_type_60 rfl (lv_at hl 1 rfl) ?_
      refine lv_bipush X.1 X.2.1 (v := 7) dX8_type_61 (by decide) ?_
      refine lv_aload_n X.1 X.2.1 dX8_type_63 rfl (lv_at hl 1 rfl) ?_
      refine mr_get X hT fl_RX8_62 (hM.1) rfl dX8_type_64 ?_
      refine lv_iload_n X.1 X.2.1 dX8_type_67 rfl (lv_at hl 2 rfl) ?_
      refine mm_iald X hT hM (k := 23) (N := 2000) (j := j) rfl (by decide) (by decide) (by omega) dX8_type_68 ?_
      refine mm_top (w := cg x 23 j) (rfl) ?_
      refine lv_aload_n X.1 X.2.1 dX8_type_69 rfl (lv_at hl 1 rfl) ?_
      refine mr_get X hT fl_RX8_65 (hM.1) rfl dX8_type_70 ?_
      refine lv_iload_n X.1 X.2.1 dX8_type_73 rfl (lv_at hl 2 rfl) ?_
      refine mm_iald X hT hM (k := 24) (N := 2000) (j := j) rfl (by decide) (by decide) (by omega) dX8_type_74 ?_
      refine mm_top (w := cg x 24 j) (rfl) ?_
      refine mr_g X hT (fun hT' => mr_runV X hT' cb_RX8_130 kw870 kp34 kw871 (m_writes hfl hM (show ct x 32 < 8000 by omega)) (mr_cell X hT hM.1 rfl) rfl rfl hl.1 ⟨Nat.le_of_ble_eq_true rfl, Nat.le_of_ble_eq_true rfl⟩ (Nat.le_of_ble_eq_true rfl) dX8_type_75 ⟨Nat.le_of_ble_eq_true rfl, Nat.le_of_ble_eq_true rfl⟩) (fun v M1 H locs hp hT => ?_)
      obtain ⟨rfl, hM⟩ := hp
      refine W.eq (g2 := F0 zm 78 ls _) rfl ?_
      refine mw_joinN hT 135 0 0 (fun M1 => MA G hm ad (f_type_s x (nI j) kk) (f_type_c x (nI j) kk) M1) (fun M1 H locs hp hT => ?_) (fun J135 => ?_)
      · have hM := hp
        refine lv_iload_n X.1 X.2.1 dX8_type_135 rfl (lv_at hl 3 rfl) ?_
        refine lv_if_ne X.1 X.2.1 (tgt := 143) dX8_type_136 (by decide) (fun c136 => ?_) (fun c136 => ?_)
        · skip
          refine lv_iconst X.1 X.2.1 (v := 0) dX8_type_143 (by decide) ?_
          exact mr_zret X hT hret (by first | exact bI_nar _ | rfl | decide) (⟨_, rfl, fun _ => by first | (rw [decide_eq_true c136]; rfl) | (rw [decide_eq_false c136]; rfl), by rw [if_pos hc]; exact hM⟩) (Nat.le_of_ble_eq_true rfl) (Nat.le_of_ble_eq_true rfl) dX8_type_144
        · skip
          refine lv_iconst X.1 X.2.1 (v := 1) dX8_type_139 (by decide) ?_
          refine lv_goto X.1 X.2.1 (tgt := 144) dX8_type_140 (by decide) ?_
          exact mr_zret X hT hret (by first | exact bI_nar _ | rfl | decide) (⟨_, rfl, fun _ => by first | (rw [decide_eq_true c136]; rfl) | (rw [decide_eq_false c136]; rfl), by rw [if_pos hc]; exact hM⟩) (Nat.le_of_ble_eq_true rfl) (Nat.le_of_ble_eq_true rfl) dX8_type_144
      · skip
        refine lv_iload_n X.1 X.2.1 dX8_type_78 rfl (lv_at hl 3 rfl) ?_
        refine lv_if_ne X.1 X.2.1 (tgt := 95) dX8_type_79 (by decide) (fun c79 => ?_) (fun c79 => ?_)
        · skip
          refine lv_iload_n X.1 X.2.1 dX8_type_95 rfl (lv_at hl 3 rfl) ?_
          refine lv_iconst X.1 X.2.1 (v := 1) dX8_type_96 (by decide) ?_
          refine lv_icmp_ne X.1 X.2.1 (tgt := 113) dX8_type_97 (by decide) (fun c97 => ?_) (fun c97 => ?_)
          · skip
            refine lv_aload_n X.1 X.2.1 dX8_type_113 rfl (lv_at hl 1 rfl) ?_
            refine lv_aload_n X.1 X.2.1 dX8_type_114 rfl (lv_at hl 1 rfl) ?_
            refine mr_get X hT fl_RX8_62 (hM.1) rfl dX8_type_115 ?_
            refine lv_iload_n X.1 X.2.1 dX8_type_118 rfl (lv_at hl 2 rfl) ?_
            refine mm_iald X hT hM (k := 23) (N := 2000) (j := j) rfl (by decide) (by decide) (by omega) dX8_type_119 ?_
            refine mm_top (w := cg x 23 j) (rfl) ?_
            refine lv_aload_n X.1 X.2.1 dX8_type_120 rfl (lv_at hl 1 rfl) ?_
            refine mr_get X hT fl_RX8_65 (hM.1) rfl dX8_type_121 ?_
            refine lv_iload_n X.1 X.2.1 dX8_type_124 rfl (lv_at hl 2 rfl) ?_
            refine mm_iald X hT hM (k := 24) (N := 2000) (j := j) rfl (by decide) (by decide) (by omega) dX8_type_125 ?_
            refine mm_top (w := cg x 24 j) (rfl) ?_
            refine mr_g X hT (fun hT' => mr_runV X hT' cb_RX8_141 kw850 kp29 kw851 (m_endsRights hfl hM (q_inv_write (q_inv_cs hi _ _ (by decide) (by decide)) _ _ _)) (mr_cell X hT hM.1 rfl) rfl rfl hl.1 ⟨Nat.le_of_ble_eq_true rfl, Nat.le_of_ble_eq_true rfl⟩ (Nat.le_of_ble_eq_true rfl) dX8_type_126 ⟨Nat.le_of_ble_eq_true rfl, Nat.le_of_ble_eq_true rfl⟩) (fun v M1 H locs hp hT => ?_)
            obtain ⟨rfl, hM⟩ := hp
            refine W.eq (g2 := F0 zm 129 ls _) rfl ?_
            refine lv_aload_n X.1 X.2.1 dX8_type_129 rfl (lv_at hl 1 rfl) ?_
            refine lv_iload_n X.1 X.2.1 dX8_type_130 rfl (lv_at hl 2 rfl) ?_
            refine mr_g X hT (fun hT' => mr_runV X hT' cb_RX8_148 kw858 kp31 kw859 (m_closes hfl hM (q_inv_ends (q_inv_write (q_inv_cs hi _ _ (by decide) (by decide)) _ _ _) _ _)) (mr_cell X hT hM.1 rfl) rfl rfl hl.1 ⟨Nat.le_of_ble_eq_true rfl, Nat.le_of_ble_eq_true rfl⟩ (Nat.le_of_ble_eq_true rfl) dX8_type_131 ⟨Nat.le_of_ble_eq_true rfl, Nat.le_of_ble_eq_true rfl⟩) (fun v M1 H locs hp hT => ?_)
            obtain ⟨r, rfl, rfl, hM⟩ := hp
            refine W.eq (g2 := F0 zm 134 ls (.int _ :: _)) rfl ?_
            refine lv_pop X.1 X.2.1 dX8_type_134 rfl ?_
            refine W.widen (k := 0) (n := 0) (Nat.le_of_ble_eq_true rfl) (Nat.le_of_ble_eq_true rfl) ?_
            exact J135 _ _ _ (by unfold f_type_s f_type_y; first | (rw [if_pos c79, pj]; exact hM) | (rw [if_neg c79, if_pos c97, pj]; exact hM) | (rw [if_neg c79, if_neg c97, pj]; exact hM)) hT
          · skip
            refine lv_aload_n X.1 X.2.1 dX8_type_100 rfl (lv_at hl 1 rfl) ?_
            refine mr_get X hT fl_RX8_74 (hM.1) rfl dX8_type_101 ?_
            refine lv_iload_n X.1 X.2.1 dX8_type_104 rfl (lv_at hl 2 rfl) ?_
            refine lv_aload_n X.1 X.2.1 dX8_type_105 rfl (lv_at hl 1 rfl) ?_
            refine mr_get X hT fl_RX8_119 (hM.1) rfl dX8_type_106 ?_
            refine mm_iast X hT hM (k := 27) (N := 2000) (j := j) rfl (by decide) (by decide) (by omega) dX8_type_109 (fun M1 H locs hM hT => ?_)
            refine lv_goto X.1 X.2.1 (tgt := 135) dX8_type_110 (by decide) ?_
            refine W.widen (k := 0) (n := 0) (Nat.le_of_ble_eq_true rfl) (Nat.le_of_ble_eq_true rfl) ?_
            exact J135 _ _ _ (by unfold f_type_s f_type_y; first | (rw [if_pos c79, pj]; exact hM) | (rw [if_neg c79, if_pos c97, pj]; exact hM) | (rw [if_neg c79, if_neg c97, pj]; exact hM)) hT
        · skip
          refine lv_aload_n X.1 X.2.1 dX8_type_82 rfl (lv_at hl 1 rfl) ?_
          refine mr_get X hT fl_RX8_77 (hM.1) rfl dX8_type_83 ?_
          refine lv_iload_n X.1 X.2.1 dX8_type_86 rfl (lv_at hl 2 rfl) ?_
          refine lv_dup2_11 X.1 X.2.1 dX8_type_87 rfl rfl ?_
          refine mm_iald X hT hM (k := 28) (N := 2000) (j := j) rfl (by decide) (by decide) (by omega) dX8_type_88 ?_
          refine mm_top (w := cg x 28 j) (rfl) ?_
          refine lv_iconst X.1 X.2.1 (v := 1) dX8_type_89 (by decide) ?_
          refine lv_iadd X.1 X.2.1 dX8_type_90 ?_
          refine mm_iast X hT hM (k := 28) (N := 2000) (j := j) rfl (by decide) (by decide) (by omega) dX8_type_91 (fun M1 H locs hM hT => ?_)
          refine lv_goto X.1 X.2.1 (tgt := 135) dX8_type_92 (by decide) ?_
          refine W.widen (k := 0) (n := 0) (Nat.le_of_ble_eq_true rfl) (Nat.le_of_ble_eq_true rfl) ?_
          exact J135 _ _ _ (by unfold f_type_s f_type_y; first | (rw [if_pos c79, pj]; exact hM) | (rw [if_neg c79, if_pos c97, pj]; exact hM) | (rw [if_neg c79, if_neg c97, pj]; exact hM)) hT
    · skip
      have hc : ¬ f_type_c x a kk = 0 := g_no c45
      refine lv_iconst X.1 X.2.1 (v := 0) dX8_type_48 (by decide) ?_
      exact mr_zret X hT hret (by first | exact bI_nar _ | rfl | decide) (⟨_, rfl, fun z => absurd z hc, by rw [if_neg hc]; exact hM⟩) (Nat.le_of_ble_eq_true rfl) (Nat.le_of_ble_eq_true rfl) dX8_type_49
  · skip
    refine lv_iload_n X.1 X.2.1 dX8_type_14 rfl (lv_at hl 0 rfl) ?_
    refine lv_if_eq X.1 X.2.1 (tgt := 41) dX8_type_15 (by decide) (fun c15 => ?_) (fun c15 => ?_)
    · skip
      refine lv_iconst X.1 X.2.1 (v := 0) dX8_type_41 (by decide) ?_
      refine W.widen (k := 0) (n := 0) (Nat.le_of_ble_eq_true rfl) (Nat.le_of_ble_eq_true rfl) ?_
      exact J42 _ _ _ _ ⟨by first | (rw [bI_0.mp c15]; rfl) | (rw [h15, pj, d_nef c24]; rfl) | (rw [h15, pj, decide_eq_true c24, decide_eq_false c34]; rfl) | (rw [h15, pj, decide_eq_true c24, decide_eq_true c34]; rfl), hM⟩ hT
    · skip
      have h15 := bI_n.mp c15
      obtain ⟨j, hj, rfl⟩ := (q_ix_iff (show ct x 29 < 2 ^ 31 by omega)).mp h15
      have pj : pn (nI j) = j := pn_nI (by omega)
      refine lv_aload_n X.1 X.2.1 dX8_type_18 rfl (lv_at hl 1 rfl) ?_
      refine mr_get X hT fl_RX8_68 (hM.1) rfl dX8_type_19 ?_
      refine lv_iload_n X.1 X.2.1 dX8_type_22 rfl (lv_at hl 2 rfl) ?_
      refine mm_zald X hT hM (k := 25) (N := 2000) (j := j) rfl (by decide) (by decide) (by omega) dX8_type_23 ?_
      refine lv_if_eq X.1 X.2.1 (tgt := 41) dX8_type_24 (by decide) (fun c24 => ?_) (fun c24 => ?_)
      · skip
        refine lv_iconst X.1 X.2.1 (v := 0) dX8_type_41 (by decide) ?_
        refine W.widen (k := 0) (n := 0) (Nat.le_of_ble_eq_true rfl) (Nat.le_of_ble_eq_true rfl) ?_
        exact J42 _ _ _ _ ⟨by first | (rw [bI_0.mp c15]; rfl) | (rw [h15, pj, d_nef c24]; rfl) | (rw [h15, pj, decide_eq_true c24, decide_eq_false c34]; rfl) | (rw [h15, pj, decide_eq_true c24, decide_eq_true c34]; rfl), hM⟩ hT
      · skip
        refine lv_aload_n X.1 X.2.1 dX8_type_27 rfl (lv_at hl 1 rfl) ?_
        refine mr_get X hT fl_RX8_74 (hM.1) rfl dX8_type_28 ?_
        refine lv_iload_n X.1 X.2.1 dX8_type_31 rfl (lv_at hl 2 rfl) ?_
        refine mm_iald X hT hM (k := 27) (N := 2000) (j := j) rfl (by decide) (by decide) (by omega) dX8_type_32 ?_
        refine lv_iconst X.1 X.2.1 (v := -1) dX8_type_33 (by decide) ?_
        refine lv_icmp_ne X.1 X.2.1 (tgt := 41) dX8_type_34 (by decide) (fun c34 => ?_) (fun c34 => ?_)
        · skip
          refine lv_iconst X.1 X.2.1 (v := 0) dX8_type_41 (by decide) ?_
          refine W.widen (k := 0) (n := 0) (Nat.le_of_ble_eq_true rfl) (Nat.le_of_ble_eq_true rfl) ?_
          exact J42 _ _ _ _ ⟨by first | (rw [bI_0.mp c15]; rfl) | (rw [h15, pj, d_nef c24]; rfl) | (rw [h15, pj, decide_eq_true c24, decide_eq_false c34]; rfl) | (rw [h15, pj, decide_eq_true c24, decide_eq_true c34]; rfl), hM⟩ hT
        · skip
          refine lv_iconst X.1 X.2.1 (v := 1) dX8_type_37 (by decide) ?_
          refine lv_goto X.1 X.2.1 (tgt := 42) dX8_type_38 (by decide) ?_
          refine W.widen (k := 0) (n := 0) (Nat.le_of_ble_eq_true rfl) (Nat.le_of_ble_eq_true rfl) ?_
          exact J42 _ _ _ _ ⟨by first | (rw [bI_0.mp c15]; rfl) | (rw [h15, pj, d_nef c24]; rfl) | (rw [h15, pj, decide_eq_true c24, decide_eq_false c34]; rfl) | (rw [h15, pj, decide_eq_true c24, decide_eq_true c34]; rfl), hM⟩ hT

abbrev rm_X8_letThrough : Room := { frames := 2, cells := 0, slots := 0, locals := 43 }
set_option maxHeartbeats 4000000 in
set_option maxRecDepth 100000 in
theorem m_letThrough {l : Launch} (hfl : l.stackTraces = false) {G : mw_G} {hm : Nat} {ad : Nat → Nat} {x : s_T} {lst : Int32} {a b : Int32} {M : mw_M} (hM : MA G hm ad x lst M) (hi : q_inv 511 x) : mw_Met l G yX8_letThrough (.code yX8_letThrough cX8_letThrough 6 (some .int)) rm_X8_letThrough [.ref hm, .int a, .int b] M (mw_pi (fun r M1 => (f_letThrough_c x a b = 0 → r = q_now x - cg x 27 (pn a)) ∧ MA G hm ad (if f_letThrough_c x a b = 0 then f_letThrough_s x a b else x) (f_letThrough_c x a b) M1)) := by
  refine mw_of hfl (by decide) (Nat.le_of_ble_eq_true rfl) ?_
  intro zp ze zs zm zb zh zc ls X hin hret hT hl
  have hl : lv_has ls 6 [(0, .ref hm), (1, .int a), (2, .int b)] := hl
  obtain ⟨⟨i2, i4, i5, i10, i17, i22, i29, i32⟩, hr3, hr6, hr11, hr18, hr23, hz21, hz28, hlb⟩ := id hi
  have hI := q_inv_mono hi (show 511 ≤ 512 by decide)
  refine mw_join hT 21 0 0 (fun r M1 => r = bI (q_ix a (ct x 29) && q_ix b (ct x 2)) ∧ MA G hm ad (x) lst M1) (fun r M1 H locs hp hT => ?_) (fun J21 => ?_)
  · obtain ⟨rfl, hM⟩ := hp
    refine lv_istore_n X.1 X.2.1 dX8_letThrough_21 rfl hl (by decide) rfl (fun ls hl => ?_)
    refine mw_join hT 50 0 0 (fun r M1 => r = bI ((q_ix a (ct x 29) && q_ix b (ct x 2)) && (decide (cg x 25 (pn a) ≠ 0) && decide (cg x 27 (pn a) ≠ -1))) ∧ MA G hm ad (x) lst M1) (fun r M1 H locs hp hT => ?_) (fun J50 => ?_)
    · obtain ⟨rfl, hM⟩ := hp
      refine lv_istore X.1 X.2.1 dX8_letThrough_50 hl (by decide) rfl (fun ls hl => ?_)
      refine mw_join hT 96 0 0 (fun r M1 => r = bI ((q_ix a (ct x 29) && q_ix b (ct x 2)) && (decide (cg x 25 (pn a) ≠ 0) && (decide (cg x 27 (pn a) ≠ -1) && (decide (cg x 0 (pn b) ≠ cg x 0 (pn (cg x 23 (pn a)))) && q_has x b (cg x 24 (pn a)))))) ∧ MA G hm ad (x) lst M1) (fun r M1 H locs hp hT => ?_) (fun J96 => ?_)
      · obtain ⟨rfl, hM⟩ := hp
        refine lv_istore X.1 X.2.1 dX8_letThrough_96 hl (by decide) rfl (fun ls hl => ?_)
        refine lv_aload_n X.1 X.2.1 dX8_letThrough_98 rfl (lv_at hl 2 rfl) ?_
        refine lv_iload_n X.1 X.2.1 dX8_letThrough_99 rfl (lv_at hl 1 rfl) ?_
        refine lv_iload X.1 X.2.1 dX8_letThrough_100 (lv_at hl 0 rfl) ?_
        refine lv_iconst X.1 X.2.1 (v := 1) dX8_letThrough_102 (by decide) ?_
        refine mr_g X hT (fun hT' => mr_runV X hT' cb_RX8_123 kw834 kp27 kw835 (m_goes (a := (q_ix a (ct x 29) && q_ix b (ct x 2))) (b := ((q_ix a (ct x 29) && q_ix b (ct x 2)) && (decide (cg x 25 (pn a) ≠ 0) && (decide (cg x 27 (pn a) ≠ -1) && (decide (cg x 0 (pn b) ≠ cg x 0 (pn (cg x 23 (pn a)))) && q_has x b (cg x 24 (pn a))))))) (c := true) hfl hM) (mr_cell X hT hM.1 rfl) rfl rfl hl.1 ⟨Nat.le_of_ble_eq_true rfl, Nat.le_of_ble_eq_true rfl⟩ (Nat.le_of_ble_eq_true rfl) dX8_letThrough_103 ⟨Nat.le_of_ble_eq_true rfl, Nat.le_of_ble_eq_true rfl⟩) (fun v M1 H locs hp hT => ?_)
        obtain ⟨r, rfl, rfl, hM⟩ := hp
        refine W.eq (g2 := F0 zm 106 ls (.int _ :: _)) rfl ?_
        refine lv_if_ne X.1 X.2.1 (tgt := 111) dX8_letThrough_106 (by decide) (fun c106 => ?_) (fun c106 => ?_)
        · skip
          have hc : f_letThrough_c x a b = 0 := g_ok c106
          obtain ⟨h1, h2, h3⟩ := q_code_ok hc
          rw [Bool.and_eq_true] at h1
          obtain ⟨g1, g2⟩ := h1
          obtain ⟨j, hj, rfl⟩ := (q_ix_iff (show ct x 29 < 2 ^ 31 by omega)).mp g1
          have pj : pn (nI j) = j := pn_nI (by omega)
          obtain ⟨k, hk, rfl⟩ := (q_ix_iff (show ct x 2 < 2 ^ 31 by omega)).mp g2
          have pk : pn (nI k) = k := pn_nI (by omega)
          refine lv_aload_n X.1 X.2.1 dX8_letThrough_111 rfl (lv_at hl 2 rfl) ?_
          refine mr_get X hT fl_RX8_119 (hM.1) rfl dX8_letThrough_112 ?_
          refine lv_aload_n X.1 X.2.1 dX8_letThrough_115 rfl (lv_at hl 2 rfl) ?_
          refine mr_get X hT fl_RX8_74 (hM.1) rfl dX8_letThrough_116 ?_
          refine lv_iload_n X.1 X.2.1 dX8_letThrough_119 rfl (lv_at hl 3 rfl) ?_
          refine mm_iald X hT hM (k := 27) (N := 2000) (j := j) rfl (by decide) (by decide) (by omega) dX8_letThrough_120 ?_
          refine lv_isub X.1 X.2.1 dX8_letThrough_121 ?_
          refine lv_istore X.1 X.2.1 dX8_letThrough_122 hl (by decide) rfl (fun ls hl => ?_)
          refine lv_aload_n X.1 X.2.1 dX8_letThrough_124 rfl (lv_at hl 3 rfl) ?_
          refine mr_get X hT fl_RX8_74 (hM.1) rfl dX8_letThrough_125 ?_
          refine lv_iload_n X.1 X.2.1 dX8_letThrough_128 rfl (lv_at hl 4 rfl) ?_
          refine lv_iconst X.1 X.2.1 (v := -1) dX8_letThrough_129 (by decide) ?_
          refine mm_iast X hT hM (k := 27) (N := 2000) (j := j) rfl (by decide) (by decide) (by omega) dX8_letThrough_130 (fun M1 H locs hM hT => ?_)
          refine lv_aload_n X.1 X.2.1 dX8_letThrough_131 rfl (lv_at hl 3 rfl) ?_
          refine mr_get X hT fl_RX8_77 (hM.1) rfl dX8_letThrough_132 ?_
          refine lv_iload_n X.1 X.2.1 dX8_letThrough_135 rfl (lv_at hl 4 rfl) ?_
          refine lv_dup2_11 X.1 X.2.1 dX8_letThrough_136 rfl rfl ?_
          refine mm_iald X hT hM (k := 28) (N := 2000) (j := j) rfl (by decide) (by decide) (by omega) dX8_letThrough_137 ?_
          refine mm_top (w := cg x 28 j) (rfl) ?_
          refine lv_iconst X.1 X.2.1 (v := 1) dX8_letThrough_138 (by decide) ?_
          refine lv_iadd X.1 X.2.1 dX8_letThrough_139 ?_
          refine mm_iast X hT hM (k := 28) (N := 2000) (j := j) rfl (by decide) (by decide) (by omega) dX8_letThrough_140 (fun M1 H locs hM hT => ?_)
          refine lv_aload_n X.1 X.2.1 dX8_letThrough_141 rfl (lv_at hl 3 rfl) ?_
          refine lv_bipush X.1 X.2.1 (v := 8) dX8_letThrough_142 (by decide) ?_
          refine lv_iload_n X.1 X.2.1 dX8_letThrough_144 rfl (lv_at hl 5 rfl) ?_
          refine lv_aload_n X.1 X.2.1 dX8_letThrough_145 rfl (lv_at hl 3 rfl) ?_
          refine mr_get X hT fl_RX8_65 (hM.1) rfl dX8_letThrough_146 ?_
          refine lv_iload_n X.1 X.2.1 dX8_letThrough_149 rfl (lv_at hl 4 rfl) ?_
          refine mm_iald X hT hM (k := 24) (N := 2000) (j := j) rfl (by decide) (by decide) (by omega) dX8_letThrough_150 ?_
          refine mm_top (w := cg x 24 j) (rfl) ?_
          refine mr_g X hT (fun hT' => mr_runV X hT' cb_RX8_130 kw870 kp34 kw871 (m_writes hfl hM (show ct x 32 < 8000 by omega)) (mr_cell X hT hM.1 rfl) rfl rfl hl.1 ⟨Nat.le_of_ble_eq_true rfl, Nat.le_of_ble_eq_true rfl⟩ (Nat.le_of_ble_eq_true rfl) dX8_letThrough_151 ⟨Nat.le_of_ble_eq_true rfl, Nat.le_of_ble_eq_true rfl⟩) (fun v M1 H locs hp hT => ?_)
          obtain ⟨rfl, hM⟩ := hp
          refine W.eq (g2 := F0 zm 154 ls _) rfl ?_
          refine lv_iload X.1 X.2.1 dX8_letThrough_154 (lv_at hl 0 rfl) ?_
          exact mr_iret X hT hret (⟨_, rfl, fun _ => by rw [pj], by rw [if_pos hc]; unfold f_letThrough_s; rw [pj]; exact hM⟩) (Nat.le_of_ble_eq_true rfl) (Nat.le_of_ble_eq_true rfl) dX8_letThrough_156
        · skip
          have hc : ¬ f_letThrough_c x a b = 0 := g_no c106
          refine lv_iconst X.1 X.2.1 (v := 0) dX8_letThrough_109 (by decide) ?_
          exact mr_iret X hT hret (⟨_, rfl, fun z => absurd z hc, by rw [if_neg hc]; exact hM⟩) (Nat.le_of_ble_eq_true rfl) (Nat.le_of_ble_eq_true rfl) dX8_letThrough_110
      · skip
        refine lv_iload X.1 X.2.1 dX8_letThrough_52 (lv_at hl 0 rfl) ?_
        refine lv_if_eq X.1 X.2.1 (tgt := 95) dX8_letThrough_54 (by decide) (fun c54 => ?_) (fun c54 => ?_)
        · skip
          refine lv_iconst X.1 X.2.1 (v := 0) dX8_letThrough_95 (by decide) ?_
          refine W.widen (k := 0) (n := 0) (Nat.le_of_ble_eq_true rfl) (Nat.le_of_ble_eq_true rfl) ?_
          exact J96 _ _ _ _ ⟨by first | (rw [bI_0.mp c54]; rfl) | (rw [g0, pj, pk, l1, l2, eu, pu, d_nef c74]; rfl) | (rw [g0, pj, pk, l1, l2, eu, pu, decide_eq_true c74, ew, bI_0.mp c88]; rfl) | (rw [g0, pj, pk, l1, l2, eu, pu, decide_eq_true c74, ew, bI_n.mp c88]; rfl) | (exact bI_cl (bI_0.mp c54)), hM⟩ hT
        · skip
          have h54 := bI_n.mp c54
          rw [Bool.and_eq_true] at h54
          obtain ⟨g0, l12⟩ := h54
          rw [Bool.and_eq_true] at l12
          obtain ⟨l1, l2⟩ := l12
          have h1 := g0
          rw [Bool.and_eq_true] at h1
          obtain ⟨g1, g2⟩ := h1
          obtain ⟨j, hj, rfl⟩ := (q_ix_iff (show ct x 29 < 2 ^ 31 by omega)).mp g1
          have pj : pn (nI j) = j := pn_nI (by omega)
          obtain ⟨k, hk, rfl⟩ := (q_ix_iff (show ct x 2 < 2 ^ 31 by omega)).mp g2
          have pk : pn (nI k) = k := pn_nI (by omega)
          rw [pj] at l1 l2
          obtain ⟨⟨u, hu, eu⟩, ⟨w, hw, ew⟩⟩ := hr23 j hj
          have pu : pn (nI u) = u := pn_nI (by omega)
          refine lv_aload_n X.1 X.2.1 dX8_letThrough_57 rfl (lv_at hl 2 rfl) ?_
          refine mr_get X hT fl_RX8_7 (hM.1) rfl dX8_letThrough_58 ?_
          refine lv_iload_n X.1 X.2.1 dX8_letThrough_61 rfl (lv_at hl 4 rfl) ?_
          refine mm_iald X hT hM (k := 0) (N := 12) (j := k) rfl (by decide) (by decide) (by omega) dX8_letThrough_62 ?_
          refine lv_aload_n X.1 X.2.1 dX8_letThrough_63 rfl (lv_at hl 2 rfl) ?_
          refine mr_get X hT fl_RX8_7 (hM.1) rfl dX8_letThrough_64 ?_
          refine lv_aload_n X.1 X.2.1 dX8_letThrough_67 rfl (lv_at hl 2 rfl) ?_
          refine mr_get X hT fl_RX8_62 (hM.1) rfl dX8_letThrough_68 ?_
          refine lv_iload_n X.1 X.2.1 dX8_letThrough_71 rfl (lv_at hl 3 rfl) ?_
          refine mm_iald X hT hM (k := 23) (N := 2000) (j := j) rfl (by decide) (by decide) (by omega) dX8_letThrough_72 ?_
          refine mm_top (w := nI u) (eu) ?_
          refine mm_iald X hT hM (k := 0) (N := 12) (j := u) rfl (by decide) (by decide) (by omega) dX8_letThrough_73 ?_
          refine lv_icmp_eq X.1 X.2.1 (tgt := 95) dX8_letThrough_74 (by decide) (fun c74 => ?_) (fun c74 => ?_)
          · skip
            refine lv_iconst X.1 X.2.1 (v := 0) dX8_letThrough_95 (by decide) ?_
            refine W.widen (k := 0) (n := 0) (Nat.le_of_ble_eq_true rfl) (Nat.le_of_ble_eq_true rfl) ?_
            exact J96 _ _ _ _ ⟨by first | (rw [bI_0.mp c54]; rfl) | (rw [g0, pj, pk, l1, l2, eu, pu, d_nef c74]; rfl) | (rw [g0, pj, pk, l1, l2, eu, pu, decide_eq_true c74, ew, bI_0.mp c88]; rfl) | (rw [g0, pj, pk, l1, l2, eu, pu, decide_eq_true c74, ew, bI_n.mp c88]; rfl) | (exact bI_cl (bI_0.mp c54)), hM⟩ hT
          · skip
            refine lv_aload_n X.1 X.2.1 dX8_letThrough_77 rfl (lv_at hl 2 rfl) ?_
            refine lv_iload_n X.1 X.2.1 dX8_letThrough_78 rfl (lv_at hl 4 rfl) ?_
            refine lv_aload_n X.1 X.2.1 dX8_letThrough_79 rfl (lv_at hl 2 rfl) ?_
            refine mr_get X hT fl_RX8_65 (hM.1) rfl dX8_letThrough_80 ?_
            refine lv_iload_n X.1 X.2.1 dX8_letThrough_83 rfl (lv_at hl 3 rfl) ?_
            refine mm_iald X hT hM (k := 24) (N := 2000) (j := j) rfl (by decide) (by decide) (by omega) dX8_letThrough_84 ?_
            refine mm_top (w := nI w) (ew) ?_
            refine mr_g X hT (fun hT' => mr_runV X hT' cb_RX8_156 kw895 kp38 kw896 (m_hasLabel hfl hM hI hk hw) (mr_cell X hT hM.1 rfl) rfl rfl hl.1 ⟨Nat.le_of_ble_eq_true rfl, Nat.le_of_ble_eq_true rfl⟩ (Nat.le_of_ble_eq_true rfl) dX8_letThrough_85 ⟨Nat.le_of_ble_eq_true rfl, Nat.le_of_ble_eq_true rfl⟩) (fun v M1 H locs hp hT => ?_)
            obtain ⟨r, rfl, rfl, hM⟩ := hp
            refine W.eq (g2 := F0 zm 88 ls (.int _ :: _)) rfl ?_
            refine lv_if_eq X.1 X.2.1 (tgt := 95) dX8_letThrough_88 (by decide) (fun c88 => ?_) (fun c88 => ?_)
            · skip
              refine lv_iconst X.1 X.2.1 (v := 0) dX8_letThrough_95 (by decide) ?_
              refine W.widen (k := 0) (n := 0) (Nat.le_of_ble_eq_true rfl) (Nat.le_of_ble_eq_true rfl) ?_
              exact J96 _ _ _ _ ⟨by first | (rw [bI_0.mp c54]; rfl) | (rw [g0, pj, pk, l1, l2, eu, pu, d_nef c74]; rfl) | (rw [g0, pj, pk, l1, l2, eu, pu, decide_eq_true c74, ew, bI_0.mp c88]; rfl) | (rw [g0, pj, pk, l1, l2, eu, pu, decide_eq_true c74, ew, bI_n.mp c88]; rfl) | (exact bI_cl (bI_0.mp c54)), hM⟩ hT
            · skip
              refine lv_iconst X.1 X.2.1 (v := 1) dX8_letThrough_91 (by decide) ?_
              refine lv_goto X.1 X.2.1 (tgt := 96) dX8_letThrough_92 (by decide) ?_
              refine W.widen (k := 0) (n := 0) (Nat.le_of_ble_eq_true rfl) (Nat.le_of_ble_eq_true rfl) ?_
              exact J96 _ _ _ _ ⟨by first | (rw [bI_0.mp c54]; rfl) | (rw [g0, pj, pk, l1, l2, eu, pu, d_nef c74]; rfl) | (rw [g0, pj, pk, l1, l2, eu, pu, decide_eq_true c74, ew, bI_0.mp c88]; rfl) | (rw [g0, pj, pk, l1, l2, eu, pu, decide_eq_true c74, ew, bI_n.mp c88]; rfl) | (exact bI_cl (bI_0.mp c54)), hM⟩ hT
    · skip
      refine lv_iload_n X.1 X.2.1 dX8_letThrough_22 rfl (lv_at hl 0 rfl) ?_
      refine lv_if_eq X.1 X.2.1 (tgt := 49) dX8_letThrough_23 (by decide) (fun c23 => ?_) (fun c23 => ?_)
      · skip
        refine lv_iconst X.1 X.2.1 (v := 0) dX8_letThrough_49 (by decide) ?_
        refine W.widen (k := 0) (n := 0) (Nat.le_of_ble_eq_true rfl) (Nat.le_of_ble_eq_true rfl) ?_
        exact J50 _ _ _ _ ⟨by first | (rw [bI_0.mp c23]; rfl) | (rw [h23, pj, d_nef c32]; rfl) | (rw [h23, pj, decide_eq_true c32, d_nef c42]; rfl) | (rw [h23, pj, decide_eq_true c32, decide_eq_true c42]; rfl), hM⟩ hT
      · skip
        have h23 := bI_n.mp c23
        have h1 := h23
        rw [Bool.and_eq_true] at h1
        obtain ⟨g1, g2⟩ := h1
        obtain ⟨j, hj, rfl⟩ := (q_ix_iff (show ct x 29 < 2 ^ 31 by omega)).mp g1
        have pj : pn (nI j) = j := pn_nI (by omega)
        obtain ⟨k, hk, rfl⟩ := (q_ix_iff (show ct x 2 < 2 ^ 31 by omega)).mp g2
        have pk : pn (nI k) = k := pn_nI (by omega)
        refine lv_aload_n X.1 X.2.1 dX8_letThrough_26 rfl (lv_at hl 1 rfl) ?_
        refine mr_get X hT fl_RX8_68 (hM.1) rfl dX8_letThrough_27 ?_
        refine lv_iload_n X.1 X.2.1 dX8_letThrough_30 rfl (lv_at hl 2 rfl) ?_
        refine mm_zald X hT hM (k := 25) (N := 2000) (j := j) rfl (by decide) (by decide) (by omega) dX8_letThrough_31 ?_
        refine lv_if_eq X.1 X.2.1 (tgt := 49) dX8_letThrough_32 (by decide) (fun c32 => ?_) (fun c32 => ?_)
        · skip
          refine lv_iconst X.1 X.2.1 (v := 0) dX8_letThrough_49 (by decide) ?_
          refine W.widen (k := 0) (n := 0) (Nat.le_of_ble_eq_true rfl) (Nat.le_of_ble_eq_true rfl) ?_
          exact J50 _ _ _ _ ⟨by first | (rw [bI_0.mp c23]; rfl) | (rw [h23, pj, d_nef c32]; rfl) | (rw [h23, pj, decide_eq_true c32, d_nef c42]; rfl) | (rw [h23, pj, decide_eq_true c32, decide_eq_true c42]; rfl), hM⟩ hT
        · skip
          refine lv_aload_n X.1 X.2.1 dX8_letThrough_35 rfl (lv_at hl 1 rfl) ?_
          refine mr_get X hT fl_RX8_74 (hM.1) rfl dX8_letThrough_36 ?_
          refine lv_iload_n X.1 X.2.1 dX8_letThrough_39 rfl (lv_at hl 2 rfl) ?_
          refine mm_iald X hT hM (k := 27) (N := 2000) (j := j) rfl (by decide) (by decide) (by omega) dX8_letThrough_40 ?_
          refine lv_iconst X.1 X.2.1 (v := -1) dX8_letThrough_41 (by decide) ?_
          refine lv_icmp_eq X.1 X.2.1 (tgt := 49) dX8_letThrough_42 (by decide) (fun c42 => ?_) (fun c42 => ?_)
          · skip
            refine lv_iconst X.1 X.2.1 (v := 0) dX8_letThrough_49 (by decide) ?_
            refine W.widen (k := 0) (n := 0) (Nat.le_of_ble_eq_true rfl) (Nat.le_of_ble_eq_true rfl) ?_
            exact J50 _ _ _ _ ⟨by first | (rw [bI_0.mp c23]; rfl) | (rw [h23, pj, d_nef c32]; rfl) | (rw [h23, pj, decide_eq_true c32, d_nef c42]; rfl) | (rw [h23, pj, decide_eq_true c32, decide_eq_true c42]; rfl), hM⟩ hT
          · skip
            refine lv_iconst X.1 X.2.1 (v := 1) dX8_letThrough_45 (by decide) ?_
            refine lv_goto X.1 X.2.1 (tgt := 50) dX8_letThrough_46 (by decide) ?_
            refine W.widen (k := 0) (n := 0) (Nat.le_of_ble_eq_true rfl) (Nat.le_of_ble_eq_true rfl) ?_
            exact J50 _ _ _ _ ⟨by first | (rw [bI_0.mp c23]; rfl) | (rw [h23, pj, d_nef c32]; rfl) | (rw [h23, pj, decide_eq_true c32, d_nef c42]; rfl) | (rw [h23, pj, decide_eq_true c32, decide_eq_true c42]; rfl), hM⟩ hT
  · skip
    refine lv_aload_n X.1 X.2.1 dX8_letThrough_0 rfl (lv_at hl 0 rfl) ?_
    refine lv_iload_n X.1 X.2.1 dX8_letThrough_1 rfl (lv_at hl 1 rfl) ?_
    refine mr_g X hT (fun hT' => mr_runV X hT' cb_RX8_178 kw956 kp44 kw957 (m_isSession hfl hM (by omega)) (mr_cell X hT hM.1 rfl) rfl rfl hl.1 ⟨Nat.le_of_ble_eq_true rfl, Nat.le_of_ble_eq_true rfl⟩ (Nat.le_of_ble_eq_true rfl) dX8_letThrough_2 ⟨Nat.le_of_ble_eq_true rfl, Nat.le_of_ble_eq_true rfl⟩) (fun v M1 H locs hp hT => ?_)
    obtain ⟨r, rfl, rfl, hM⟩ := hp
    refine W.eq (g2 := F0 zm 5 ls (.int _ :: _)) rfl ?_
    refine lv_if_eq X.1 X.2.1 (tgt := 20) dX8_letThrough_5 (by decide) (fun c5 => ?_) (fun c5 => ?_)
    · skip
      refine lv_iconst X.1 X.2.1 (v := 0) dX8_letThrough_20 (by decide) ?_
      refine W.widen (k := 0) (n := 0) (Nat.le_of_ble_eq_true rfl) (Nat.le_of_ble_eq_true rfl) ?_
      exact J21 _ _ _ _ ⟨by first | (rw [bI_0.mp c5]; rfl) | (rw [bI_n.mp c5, bI_0.mp c13]; rfl) | (rw [bI_n.mp c5, bI_n.mp c13]; rfl), hM⟩ hT
    · skip
      refine lv_aload_n X.1 X.2.1 dX8_letThrough_8 rfl (lv_at hl 0 rfl) ?_
      refine lv_iload_n X.1 X.2.1 dX8_letThrough_9 rfl (lv_at hl 2 rfl) ?_
      refine mr_g X hT (fun hT' => mr_runV X hT' cb_RX8_100 kw846 kp28 kw847 (m_isPerson hfl hM (by omega)) (mr_cell X hT hM.1 rfl) rfl rfl hl.1 ⟨Nat.le_of_ble_eq_true rfl, Nat.le_of_ble_eq_true rfl⟩ (Nat.le_of_ble_eq_true rfl) dX8_letThrough_10 ⟨Nat.le_of_ble_eq_true rfl, Nat.le_of_ble_eq_true rfl⟩) (fun v M1 H locs hp hT => ?_)
      obtain ⟨r, rfl, rfl, hM⟩ := hp
      refine W.eq (g2 := F0 zm 13 ls (.int _ :: _)) rfl ?_
      refine lv_if_eq X.1 X.2.1 (tgt := 20) dX8_letThrough_13 (by decide) (fun c13 => ?_) (fun c13 => ?_)
      · skip
        refine lv_iconst X.1 X.2.1 (v := 0) dX8_letThrough_20 (by decide) ?_
        refine W.widen (k := 0) (n := 0) (Nat.le_of_ble_eq_true rfl) (Nat.le_of_ble_eq_true rfl) ?_
        exact J21 _ _ _ _ ⟨by first | (rw [bI_0.mp c5]; rfl) | (rw [bI_n.mp c5, bI_0.mp c13]; rfl) | (rw [bI_n.mp c5, bI_n.mp c13]; rfl), hM⟩ hT
      · skip
        refine lv_iconst X.1 X.2.1 (v := 1) dX8_letThrough_16 (by decide) ?_
        refine lv_goto X.1 X.2.1 (tgt := 21) dX8_letThrough_17 (by decide) ?_
        refine W.widen (k := 0) (n := 0) (Nat.le_of_ble_eq_true rfl) (Nat.le_of_ble_eq_true rfl) ?_
        exact J21 _ _ _ _ ⟨by first | (rw [bI_0.mp c5]; rfl) | (rw [bI_n.mp c5, bI_0.mp c13]; rfl) | (rw [bI_n.mp c5, bI_n.mp c13]; rfl), hM⟩ hT

abbrev rm_X8_close : Room := { frames := 2, cells := 0, slots := 0, locals := 45 }
set_option maxHeartbeats 4000000 in
set_option maxRecDepth 100000 in
theorem m_close {l : Launch} (hfl : l.stackTraces = false) {G : mw_G} {hm : Nat} {ad : Nat → Nat} {x : s_T} {lst : Int32} {a : Int32} {M : mw_M} (hM : MA G hm ad x lst M) (hi : q_inv 511 x) : mw_Met l G yX8_close (.code yX8_close cX8_close 3 (some .int)) rm_X8_close [.ref hm, .int a] M (mw_pi (fun r M1 => (f_close_c x a = 0 → r = cg x 28 (pn a)) ∧ MA G hm ad (if f_close_c x a = 0 then q_shut x (pn a) else x) (f_close_c x a) M1)) := by
  refine mw_of hfl (by decide) (Nat.le_of_ble_eq_true rfl) ?_
  intro zp ze zs zm zb zh zc ls X hin hret hT hl
  have hl : lv_has ls 3 [(0, .ref hm), (1, .int a)] := hl
  obtain ⟨⟨i2, i4, i5, i10, i17, i22, i29, i32⟩, hr3, hr6, hr11, hr18, hr23, hz21, hz28, hlb⟩ := id hi
  have hI := q_inv_mono hi (show 511 ≤ 512 by decide)
  refine lv_aload_n X.1 X.2.1 dX8_close_0 rfl (lv_at hl 0 rfl) ?_
  refine lv_iload_n X.1 X.2.1 dX8_close_1 rfl (lv_at hl 1 rfl) ?_
  refine mr_g X hT (fun hT' => mr_runV X hT' cb_RX8_178 kw956 kp44 kw957 (m_isSession hfl hM (by omega)) (mr_cell X hT hM.1 rfl) rfl rfl hl.1 ⟨Nat.le_of_ble_eq_true rfl, Nat.le_of_ble_eq_true rfl⟩ (Nat.le_of_ble_eq_true rfl) dX8_close_2 ⟨Nat.le_of_ble_eq_true rfl, Nat.le_of_ble_eq_true rfl⟩) (fun v M1 H locs hp hT => ?_)
  obtain ⟨r, rfl, rfl, hM⟩ := hp
  refine W.eq (g2 := F0 zm 5 ls (.int _ :: _)) rfl ?_
  refine lv_istore_n X.1 X.2.1 dX8_close_5 rfl hl (by decide) rfl (fun ls hl => ?_)
  refine lv_aload_n X.1 X.2.1 dX8_close_6 rfl (lv_at hl 1 rfl) ?_
  refine lv_iload_n X.1 X.2.1 dX8_close_7 rfl (lv_at hl 0 rfl) ?_
  refine mw_join hT 26 0 0 (fun r M1 => r = bI (q_ix a (ct x 29) && decide (cg x 25 (pn a) ≠ 0)) ∧ MA G hm ad (x) lst M1) (fun r M1 H locs hp hT => ?_) (fun J26 => ?_)
  · obtain ⟨rfl, hM⟩ := hp
    refine lv_iconst X.1 X.2.1 (v := 1) dX8_close_26 (by decide) ?_
    refine mr_g X hT (fun hT' => mr_runV X hT' cb_RX8_123 kw834 kp27 kw835 (m_goes (a := q_ix a (ct x 29)) (b := q_ix a (ct x 29) && decide (cg x 25 (pn a) ≠ 0)) (c := true) hfl hM) (mr_cell X hT hM.1 rfl) rfl rfl hl.1 ⟨Nat.le_of_ble_eq_true rfl, Nat.le_of_ble_eq_true rfl⟩ (Nat.le_of_ble_eq_true rfl) dX8_close_27 ⟨Nat.le_of_ble_eq_true rfl, Nat.le_of_ble_eq_true rfl⟩) (fun v M1 H locs hp hT => ?_)
    obtain ⟨r, rfl, rfl, hM⟩ := hp
    refine W.eq (g2 := F0 zm 30 ls (.int _ :: _)) rfl ?_
    refine lv_if_ne X.1 X.2.1 (tgt := 35) dX8_close_30 (by decide) (fun c30 => ?_) (fun c30 => ?_)
    · skip
      have hc : f_close_c x a = 0 := g_ok c30
      obtain ⟨h1, h2, h3⟩ := q_code_ok hc
      obtain ⟨j, hj, rfl⟩ := (q_ix_iff (show ct x 29 < 2 ^ 31 by omega)).mp h1
      have pj : pn (nI j) = j := pn_nI (by omega)
      refine lv_aload_n X.1 X.2.1 dX8_close_35 rfl (lv_at hl 1 rfl) ?_
      refine lv_iload_n X.1 X.2.1 dX8_close_36 rfl (lv_at hl 2 rfl) ?_
      refine mr_g X hT (fun hT' => mr_runV X hT' cb_RX8_137 kw866 kp33 kw867 (m_shuts hfl hM (by omega) (by omega)) (mr_cell X hT hM.1 rfl) rfl rfl hl.1 ⟨Nat.le_of_ble_eq_true rfl, Nat.le_of_ble_eq_true rfl⟩ (Nat.le_of_ble_eq_true rfl) dX8_close_37 ⟨Nat.le_of_ble_eq_true rfl, Nat.le_of_ble_eq_true rfl⟩) (fun v M1 H locs hp hT => ?_)
      obtain ⟨rfl, hM⟩ := hp
      refine W.eq (g2 := F0 zm 40 ls _) rfl ?_
      refine lv_aload_n X.1 X.2.1 dX8_close_40 rfl (lv_at hl 1 rfl) ?_
      refine mr_get X hT fl_RX8_77 (hM.1) rfl dX8_close_41 ?_
      refine lv_iload_n X.1 X.2.1 dX8_close_44 rfl (lv_at hl 2 rfl) ?_
      refine mm_iald X hT hM (k := 28) (N := 2000) (j := j) rfl (by decide) (by decide) (by omega) dX8_close_45 ?_
      refine mm_top (w := cg x 28 j) (rfl) ?_
      exact mr_iret X hT hret (⟨_, rfl, fun _ => by rw [pj], by rw [if_pos hc]; rw [pj]; exact hM⟩) (Nat.le_of_ble_eq_true rfl) (Nat.le_of_ble_eq_true rfl) dX8_close_46
    · skip
      have hc : ¬ f_close_c x a = 0 := g_no c30
      refine lv_iconst X.1 X.2.1 (v := 0) dX8_close_33 (by decide) ?_
      exact mr_iret X hT hret (⟨_, rfl, fun z => absurd z hc, by rw [if_neg hc]; exact hM⟩) (Nat.le_of_ble_eq_true rfl) (Nat.le_of_ble_eq_true rfl) dX8_close_34
  · skip
    refine lv_iload_n X.1 X.2.1 dX8_close_8 rfl (lv_at hl 0 rfl) ?_
    refine lv_if_eq X.1 X.2.1 (tgt := 25) dX8_close_9 (by decide) (fun c9 => ?_) (fun c9 => ?_)
    · skip
      refine lv_iconst X.1 X.2.1 (v := 0) dX8_close_25 (by decide) ?_
      refine W.widen (k := 0) (n := 0) (Nat.le_of_ble_eq_true rfl) (Nat.le_of_ble_eq_true rfl) ?_
      exact J26 _ _ _ _ ⟨by first | (rw [bI_0.mp c9]; rfl) | (rw [h9, pj, d_nef c18]; rfl) | (rw [h9, pj, decide_eq_true c18]; rfl), hM⟩ hT
    · skip
      have h9 := bI_n.mp c9
      obtain ⟨j, hj, rfl⟩ := (q_ix_iff (show ct x 29 < 2 ^ 31 by omega)).mp h9
      have pj : pn (nI j) = j := pn_nI (by omega)
      refine lv_aload_n X.1 X.2.1 dX8_close_12 rfl (lv_at hl 1 rfl) ?_
      refine mr_get X hT fl_RX8_68 (hM.1) rfl dX8_close_13 ?_
      refine lv_iload_n X.1 X.2.1 dX8_close_16 rfl (lv_at hl 2 rfl) ?_
      refine mm_zald X hT hM (k := 25) (N := 2000) (j := j) rfl (by decide) (by decide) (by omega) dX8_close_17 ?_
      refine lv_if_eq X.1 X.2.1 (tgt := 25) dX8_close_18 (by decide) (fun c18 => ?_) (fun c18 => ?_)
      · skip
        refine lv_iconst X.1 X.2.1 (v := 0) dX8_close_25 (by decide) ?_
        refine W.widen (k := 0) (n := 0) (Nat.le_of_ble_eq_true rfl) (Nat.le_of_ble_eq_true rfl) ?_
        exact J26 _ _ _ _ ⟨by first | (rw [bI_0.mp c9]; rfl) | (rw [h9, pj, d_nef c18]; rfl) | (rw [h9, pj, decide_eq_true c18]; rfl), hM⟩ hT
      · skip
        refine lv_iconst X.1 X.2.1 (v := 1) dX8_close_21 (by decide) ?_
        refine lv_goto X.1 X.2.1 (tgt := 26) dX8_close_22 (by decide) ?_
        refine W.widen (k := 0) (n := 0) (Nat.le_of_ble_eq_true rfl) (Nat.le_of_ble_eq_true rfl) ?_
        exact J26 _ _ _ _ ⟨by first | (rw [bI_0.mp c9]; rfl) | (rw [h9, pj, d_nef c18]; rfl) | (rw [h9, pj, decide_eq_true c18]; rfl), hM⟩ hT

abbrev rm_X8_isOpen : Room := { frames := 2, cells := 0, slots := 0, locals := 43 }
set_option maxHeartbeats 4000000 in
set_option maxRecDepth 100000 in
theorem m_isOpen {l : Launch} (hfl : l.stackTraces = false) {G : mw_G} {hm : Nat} {ad : Nat → Nat} {x : s_T} {lst : Int32} {a : Int32} {M : mw_M} (hM : MA G hm ad x lst M) (hi : q_inv 511 x) : mw_Met l G yX8_isOpen (.code yX8_isOpen cX8_isOpen 2 (some .boolean)) rm_X8_isOpen [.ref hm, .int a] M (mw_pi (fun r M1 => (f_isOpen_c x a = 0 → r = bI (decide (cg x 25 (pn a) ≠ 0))) ∧ MA G hm ad (if f_isOpen_c x a = 0 then x else x) (f_isOpen_c x a) M1)) := by
  refine mw_of hfl (by decide) (Nat.le_of_ble_eq_true rfl) ?_
  intro zp ze zs zm zb zh zc ls X hin hret hT hl
  have hl : lv_has ls 2 [(0, .ref hm), (1, .int a)] := hl
  obtain ⟨⟨i2, i4, i5, i10, i17, i22, i29, i32⟩, hr3, hr6, hr11, hr18, hr23, hz21, hz28, hlb⟩ := id hi
  have hI := q_inv_mono hi (show 511 ≤ 512 by decide)
  refine lv_aload_n X.1 X.2.1 dX8_isOpen_0 rfl (lv_at hl 0 rfl) ?_
  refine lv_aload_n X.1 X.2.1 dX8_isOpen_1 rfl (lv_at hl 0 rfl) ?_
  refine lv_iload_n X.1 X.2.1 dX8_isOpen_2 rfl (lv_at hl 1 rfl) ?_
  refine mr_g X hT (fun hT' => mr_runV X hT' cb_RX8_178 kw956 kp44 kw957 (m_isSession hfl hM (by omega)) (mr_cell X hT hM.1 rfl) rfl rfl hl.1 ⟨Nat.le_of_ble_eq_true rfl, Nat.le_of_ble_eq_true rfl⟩ (Nat.le_of_ble_eq_true rfl) dX8_isOpen_3 ⟨Nat.le_of_ble_eq_true rfl, Nat.le_of_ble_eq_true rfl⟩) (fun v M1 H locs hp hT => ?_)
  obtain ⟨r, rfl, rfl, hM⟩ := hp
  refine W.eq (g2 := F0 zm 6 ls (.int _ :: _)) rfl ?_
  refine lv_iconst X.1 X.2.1 (v := 1) dX8_isOpen_6 (by decide) ?_
  refine lv_iconst X.1 X.2.1 (v := 1) dX8_isOpen_7 (by decide) ?_
  refine mr_g X hT (fun hT' => mr_runV X hT' cb_RX8_123 kw834 kp27 kw835 (m_goes (a := q_ix a (ct x 29)) (b := true) (c := true) hfl hM) (mr_cell X hT hM.1 rfl) rfl rfl hl.1 ⟨Nat.le_of_ble_eq_true rfl, Nat.le_of_ble_eq_true rfl⟩ (Nat.le_of_ble_eq_true rfl) dX8_isOpen_8 ⟨Nat.le_of_ble_eq_true rfl, Nat.le_of_ble_eq_true rfl⟩) (fun v M1 H locs hp hT => ?_)
  obtain ⟨r, rfl, rfl, hM⟩ := hp
  refine W.eq (g2 := F0 zm 11 ls (.int _ :: _)) rfl ?_
  refine lv_if_eq X.1 X.2.1 (tgt := 27) dX8_isOpen_11 (by decide) (fun c11 => ?_) (fun c11 => ?_)
  · skip
    have hc : ¬ f_isOpen_c x a = 0 := g_no c11
    refine lv_iconst X.1 X.2.1 (v := 0) dX8_isOpen_27 (by decide) ?_
    exact mr_zret X hT hret (by first | exact bI_nar _ | rfl | decide) (⟨_, rfl, by first | exact (fun z => absurd z hc) | (intro _; rw [pj]; first | (rw [d_nef c20]; rfl) | (rw [decide_eq_true c20]; rfl)), by first | (rw [if_neg hc]; exact hM) | (rw [if_pos hc]; exact hM)⟩) (Nat.le_of_ble_eq_true rfl) (Nat.le_of_ble_eq_true rfl) dX8_isOpen_28
  · skip
    have hc : f_isOpen_c x a = 0 := g_ok c11
    obtain ⟨h1, h2, h3⟩ := q_code_ok hc
    obtain ⟨j, hj, rfl⟩ := (q_ix_iff (show ct x 29 < 2 ^ 31 by omega)).mp h1
    have pj : pn (nI j) = j := pn_nI (by omega)
    refine lv_aload_n X.1 X.2.1 dX8_isOpen_14 rfl (lv_at hl 0 rfl) ?_
    refine mr_get X hT fl_RX8_68 (hM.1) rfl dX8_isOpen_15 ?_
    refine lv_iload_n X.1 X.2.1 dX8_isOpen_18 rfl (lv_at hl 1 rfl) ?_
    refine mm_zald X hT hM (k := 25) (N := 2000) (j := j) rfl (by decide) (by decide) (by omega) dX8_isOpen_19 ?_
    refine lv_if_eq X.1 X.2.1 (tgt := 27) dX8_isOpen_20 (by decide) (fun c20 => ?_) (fun c20 => ?_)
    · skip
      refine lv_iconst X.1 X.2.1 (v := 0) dX8_isOpen_27 (by decide) ?_
      exact mr_zret X hT hret (by first | exact bI_nar _ | rfl | decide) (⟨_, rfl, by first | exact (fun z => absurd z hc) | (intro _; rw [pj]; first | (rw [d_nef c20]; rfl) | (rw [decide_eq_true c20]; rfl)), by first | (rw [if_neg hc]; exact hM) | (rw [if_pos hc]; exact hM)⟩) (Nat.le_of_ble_eq_true rfl) (Nat.le_of_ble_eq_true rfl) dX8_isOpen_28
    · skip
      refine lv_iconst X.1 X.2.1 (v := 1) dX8_isOpen_23 (by decide) ?_
      refine lv_goto X.1 X.2.1 (tgt := 28) dX8_isOpen_24 (by decide) ?_
      exact mr_zret X hT hret (by first | exact bI_nar _ | rfl | decide) (⟨_, rfl, by first | exact (fun z => absurd z hc) | (intro _; rw [pj]; first | (rw [d_nef c20]; rfl) | (rw [decide_eq_true c20]; rfl)), by first | (rw [if_neg hc]; exact hM) | (rw [if_pos hc]; exact hM)⟩) (Nat.le_of_ble_eq_true rfl) (Nat.le_of_ble_eq_true rfl) dX8_isOpen_28

abbrev rm_X8_openSessions : Room := { frames := 0, cells := 0, slots := 0, locals := 0 }
set_option maxHeartbeats 4000000 in
set_option maxRecDepth 100000 in
theorem m_openSessions {l : Launch} (hfl : l.stackTraces = false) {G : mw_G} {hm : Nat} {ad : Nat → Nat} {x : s_T} {lst : Int32} {M : mw_M} (hM : MA G hm ad x lst M) (hi : q_inv 511 x) : mw_Met l G yX8_openSessions (.code yX8_openSessions cX8_openSessions 3 (some .int)) rm_X8_openSessions [.ref hm] M (mw_pi (fun r M1 => r = nI (q_opn x (ct x 29)) ∧ MA G hm ad (x) 0 M1)) := by
  refine mw_of hfl (by decide) (Nat.le_of_ble_eq_true rfl) ?_
  intro zp ze zs zm zb zh zc ls X hin hret hT hl
  have hl : lv_has ls 3 [(0, .ref hm)] := hl
  obtain ⟨⟨i2, i4, i5, i10, i17, i22, i29, i32⟩, hr3, hr6, hr11, hr18, hr23, hz21, hz28, hlb⟩ := id hi
  have hI := q_inv_mono hi (show 511 ≤ 512 by decide)
  refine lv_aload_n X.1 X.2.1 dX8_openSessions_0 rfl (lv_at hl 0 rfl) ?_
  refine lv_iconst X.1 X.2.1 (v := 0) dX8_openSessions_1 (by decide) ?_
  refine mm_putL X hT hM fp_RX8_86 dX8_openSessions_2 (fun M1 H locs hM hT => ?_)
  refine lv_iconst X.1 X.2.1 (v := 0) dX8_openSessions_5 (by decide) ?_
  refine lv_istore_n X.1 X.2.1 dX8_openSessions_6 rfl hl (by decide) rfl (fun ls hl => ?_)
  refine lv_iconst X.1 X.2.1 (v := 0) dX8_openSessions_7 (by decide) ?_
  refine lv_istore_n X.1 X.2.1 dX8_openSessions_8 rfl hl (by decide) rfl (fun ls hl => ?_)
  refine W.widen (k := 0) (n := 0) (Nat.le_of_ble_eq_true rfl) (Nat.le_of_ble_eq_true rfl) ?_
  refine mw_loop (nL := 3) (n := ct x 29) (fun k M1 => MA G hm ad (x) 0 M1) (fun k => [(2, .int (nI k)), (1, .int (nI (q_opn x k))), (0, .ref hm)]) (fun k hk ih M1 H locs ls hM hT hl => ?_) hM hT (lv_sub hl [0, 1, 2] rfl)
  refine lv_iload_n X.1 X.2.1 dX8_openSessions_9 rfl (lv_at hl 0 rfl) ?_
  refine lv_aload_n X.1 X.2.1 dX8_openSessions_10 rfl (lv_at hl 2 rfl) ?_
  refine mr_get X hT fl_RX8_113 (hM.1) rfl dX8_openSessions_11 ?_
  refine lv_icmp_ge X.1 X.2.1 (tgt := 40) dX8_openSessions_14 (by decide) (fun c14 => ?_) (fun c14 => ?_)
  · skip
    have hkn := mm_exit hk (show ct x 29 < 2 ^ 31 by omega) c14
    subst hkn
    refine lv_iload_n X.1 X.2.1 dX8_openSessions_40 rfl (lv_at hl 1 rfl) ?_
    exact mr_iret X hT hret (⟨_, rfl, rfl, hM⟩) (Nat.le_of_ble_eq_true rfl) (Nat.le_of_ble_eq_true rfl) dX8_openSessions_41
  · skip
    have hkl := mm_stay hk (show ct x 29 < 2 ^ 31 by omega) c14
    refine lv_iload_n X.1 X.2.1 dX8_openSessions_17 rfl (lv_at hl 1 rfl) ?_
    refine mw_join hT 32 0 0 (fun r M1 => r = nI (if cg x 25 k = 0 then 0 else 1) ∧ MA G hm ad (x) 0 M1) (fun r M1 H locs hp hT => ?_) (fun J32 => ?_)
    · obtain ⟨rfl, hM⟩ := hp
      refine lv_iadd X.1 X.2.1 dX8_openSessions_32 ?_
      refine mm_top (w := nI (q_opn x (k + 1))) (nI_add _ _) ?_
      refine lv_istore_n X.1 X.2.1 dX8_openSessions_33 rfl hl (by decide) rfl (fun ls hl => ?_)
      refine lv_iinc X.1 X.2.1 (k := 1) (v := nI (k + 1)) dX8_openSessions_34 hl rfl (mm_inc k) (by decide) rfl (fun ls hl => ?_)
      refine lv_goto X.1 X.2.1 (tgt := 9) dX8_openSessions_37 (by decide) ?_
      refine W.widen (k := 0) (n := 0) (Nat.le_of_ble_eq_true rfl) (Nat.le_of_ble_eq_true rfl) ?_
      exact ih (by omega) _ _ _ _ (hM) hT (lv_sub hl [0, 1, 2] rfl)
    · skip
      refine lv_aload_n X.1 X.2.1 dX8_openSessions_18 rfl (lv_at hl 2 rfl) ?_
      refine mr_get X hT fl_RX8_68 (hM.1) rfl dX8_openSessions_19 ?_
      refine lv_iload_n X.1 X.2.1 dX8_openSessions_22 rfl (lv_at hl 0 rfl) ?_
      refine mm_zald X hT hM (k := 25) (N := 2000) (j := k) rfl (by decide) (by decide) (by omega) dX8_openSessions_23 ?_
      refine lv_if_eq X.1 X.2.1 (tgt := 31) dX8_openSessions_24 (by decide) (fun c24 => ?_) (fun c24 => ?_)
      · skip
        refine lv_iconst X.1 X.2.1 (v := 0) dX8_openSessions_31 (by decide) ?_
        refine W.widen (k := 0) (n := 0) (Nat.le_of_ble_eq_true rfl) (Nat.le_of_ble_eq_true rfl) ?_
        exact J32 _ _ _ _ ⟨by first | (rw [if_pos c24]; rfl) | (rw [if_neg c24]; rfl), hM⟩ hT
      · skip
        refine lv_iconst X.1 X.2.1 (v := 1) dX8_openSessions_27 (by decide) ?_
        refine lv_goto X.1 X.2.1 (tgt := 32) dX8_openSessions_28 (by decide) ?_
        refine W.widen (k := 0) (n := 0) (Nat.le_of_ble_eq_true rfl) (Nat.le_of_ble_eq_true rfl) ?_
        exact J32 _ _ _ _ ⟨by first | (rw [if_pos c24]; rfl) | (rw [if_neg c24]; rfl), hM⟩ hT

abbrev rm_X8_pass : Room := { frames := 3, cells := 0, slots := 0, locals := 68 }
set_option maxHeartbeats 4000000 in
set_option maxRecDepth 100000 in
theorem m_pass {l : Launch} (hfl : l.stackTraces = false) {G : mw_G} {hm : Nat} {ad : Nat → Nat} {x : s_T} {lst : Int32} {t : Int32} {M : mw_M} (hM : MA G hm ad x lst M) (hi : q_inv 511 x) : mw_Met l G yX8_pass (.code yX8_pass cX8_pass 5 (some .int)) rm_X8_pass [.ref hm, .int t] M (mw_pi (fun r M1 => (f_pass_c x t = 0 → r = (q_tick x (pn t)).2) ∧ MA G hm ad (if f_pass_c x t = 0 then f_pass_s x t else x) (f_pass_c x t) M1)) := by
  refine mw_of hfl (by decide) (Nat.le_of_ble_eq_true rfl) ?_
  intro zp ze zs zm zb zh zc ls X hin hret hT hl
  have hl : lv_has ls 5 [(0, .ref hm), (1, .int t)] := hl
  obtain ⟨⟨i2, i4, i5, i10, i17, i22, i29, i32⟩, hr3, hr6, hr11, hr18, hr23, hz21, hz28, hlb⟩ := id hi
  have hI := q_inv_mono hi (show 511 ≤ 512 by decide)
  refine lv_iload_n X.1 X.2.1 dX8_pass_0 rfl (lv_at hl 1 rfl) ?_
  refine lv_iconst X.1 X.2.1 (v := 1) dX8_pass_1 (by decide) ?_
  refine lv_sipush X.1 X.2.1 (v := 3000) dX8_pass_2 (by decide) ?_
  refine mr_g X hT (fun hT' => mr_runS X hT' cb_RX8_93 kw830 kw831 (m_in hfl hM) rfl rfl hl.1 ⟨Nat.le_of_ble_eq_true rfl, Nat.le_of_ble_eq_true rfl⟩ (Nat.le_of_ble_eq_true rfl) dX8_pass_5 ⟨Nat.le_of_ble_eq_true rfl, Nat.le_of_ble_eq_true rfl⟩) (fun v M1 H locs hp hT => ?_)
  obtain ⟨r, rfl, rfl, hM⟩ := hp
  refine W.eq (g2 := F0 zm 8 ls (.int _ :: _)) rfl ?_
  refine lv_istore_n X.1 X.2.1 dX8_pass_8 rfl hl (by decide) rfl (fun ls hl => ?_)
  refine lv_aload_n X.1 X.2.1 dX8_pass_9 rfl (lv_at hl 1 rfl) ?_
  refine lv_iload_n X.1 X.2.1 dX8_pass_10 rfl (lv_at hl 0 rfl) ?_
  refine mw_join hT 31 0 0 (fun r M1 => r = bI (q_in t 1 3000 && decide (q_now x + t ≤ 100000)) ∧ MA G hm ad (x) lst M1) (fun r M1 H locs hp hT => ?_) (fun J31 => ?_)
  · obtain ⟨rfl, hM⟩ := hp
    refine lv_iconst X.1 X.2.1 (v := 1) dX8_pass_31 (by decide) ?_
    refine mr_g X hT (fun hT' => mr_runV X hT' cb_RX8_123 kw834 kp27 kw835 (m_goes (a := q_in t 1 3000) (b := q_in t 1 3000 && decide (q_now x + t ≤ 100000)) (c := true) hfl hM) (mr_cell X hT hM.1 rfl) rfl rfl hl.1 ⟨Nat.le_of_ble_eq_true rfl, Nat.le_of_ble_eq_true rfl⟩ (Nat.le_of_ble_eq_true rfl) dX8_pass_32 ⟨Nat.le_of_ble_eq_true rfl, Nat.le_of_ble_eq_true rfl⟩) (fun v M1 H locs hp hT => ?_)
    obtain ⟨r, rfl, rfl, hM⟩ := hp
    refine W.eq (g2 := F0 zm 35 ls (.int _ :: _)) rfl ?_
    refine lv_if_ne X.1 X.2.1 (tgt := 40) dX8_pass_35 (by decide) (fun c35 => ?_) (fun c35 => ?_)
    · skip
      have hc : f_pass_c x t = 0 := g_ok c35
      obtain ⟨h1, h2, h3⟩ := q_code_ok hc
      rw [Bool.and_eq_true] at h2
      obtain ⟨-, g2⟩ := h2
      obtain ⟨n, hn1, hn2, rfl⟩ := q_in_of (lo := 1) (hi := 3000) (by decide) h1 (by decide)
      have pn_ : pn (nI n) = n := pn_nI (by omega)
      have g3 : ct x 5 + n ≤ 100000 := by have g4 := of_decide_eq_true g2; rw [nI_add] at g4; exact (nI_leI (by omega) (by decide)).mp g4
      refine lv_iconst X.1 X.2.1 (v := 0) dX8_pass_40 (by decide) ?_
      refine lv_istore_n X.1 X.2.1 dX8_pass_41 rfl hl (by decide) rfl (fun ls hl => ?_)
      refine lv_iconst X.1 X.2.1 (v := 0) dX8_pass_42 (by decide) ?_
      refine lv_istore X.1 X.2.1 dX8_pass_43 hl (by decide) rfl (fun ls hl => ?_)
      refine W.widen (k := 0) (n := 0) (Nat.le_of_ble_eq_true rfl) (Nat.le_of_ble_eq_true rfl) ?_
      refine mw_loop (nL := 5) (n := n) (fun k M1 => MA G hm ad (q_tick x k).1 (f_pass_c x (nI n)) M1) (fun k => [(4, .int (nI k)), (3, .int (q_tick x k).2), (0, .ref hm), (1, .int (nI n))]) (fun k hk ih M1 H locs ls hM hT hl => ?_) hM hT (lv_sub hl [0, 1, 3, 4] rfl)
      have hiy := q_inv_tick hI k (by omega)
      have e5 := q_tick_5 x k
      refine lv_iload X.1 X.2.1 dX8_pass_45 (lv_at hl 0 rfl) ?_
      refine lv_iload_n X.1 X.2.1 dX8_pass_47 rfl (lv_at hl 3 rfl) ?_
      refine lv_icmp_ge X.1 X.2.1 (tgt := 75) dX8_pass_48 (by decide) (fun c48 => ?_) (fun c48 => ?_)
      · skip
        have hkn := mm_exit hk (show n < 2 ^ 31 by omega) c48
        subst hkn
        obtain ⟨y, ey⟩ : ∃ y, y = (q_tick x k).1 := ⟨_, rfl⟩
        rw [← ey] at hM hiy
        obtain ⟨⟨j2, j4, j5, j10, j17, j22, j29, j32⟩, -⟩ := id hiy
        refine lv_iconst X.1 X.2.1 (v := 0) dX8_pass_75 (by decide) ?_
        refine lv_istore X.1 X.2.1 dX8_pass_76 hl (by decide) rfl (fun ls hl => ?_)
        refine W.widen (k := 0) (n := 0) (Nat.le_of_ble_eq_true rfl) (Nat.le_of_ble_eq_true rfl) ?_
        refine mw_loop (nL := 5) (n := ct y 17) (fun k2 M1 => MA G hm ad (cf y 15 (q_lapf y k2)) (f_pass_c x (nI k)) M1) (fun k2 => [(4, .int (nI k2)), (3, .int (q_tick x k).2), (0, .ref hm), (1, .int (nI k))]) (fun k2 hk2 ih M1 H locs ls hM hT hl => ?_) (by rw [q_lapf_0]; exact hM) hT (lv_sub hl [0, 1, 2, 3] rfl)
        refine lv_iload X.1 X.2.1 dX8_pass_78 (lv_at hl 0 rfl) ?_
        refine lv_aload_n X.1 X.2.1 dX8_pass_80 rfl (lv_at hl 2 rfl) ?_
        refine mr_get X hT fl_RX8_107 (hM.1) rfl dX8_pass_81 ?_
        refine lv_icmp_ge X.1 X.2.1 (tgt := 138) dX8_pass_84 (by decide) (fun c84 => ?_) (fun c84 => ?_)
        · skip
          have hkn := mm_exit hk2 (show ct y 17 < 2 ^ 31 by omega) c84
          subst hkn
          refine lv_iload_n X.1 X.2.1 dX8_pass_138 rfl (lv_at hl 1 rfl) ?_
          exact mr_iret X hT hret (⟨_, rfl, fun _ => by rw [pn_], by rw [if_pos hc]; unfold f_pass_s; rw [pn_, ← ey]; exact hM⟩) (Nat.le_of_ble_eq_true rfl) (Nat.le_of_ble_eq_true rfl) dX8_pass_139
        · skip
          have hkl := mm_stay hk2 (show ct y 17 < 2 ^ 31 by omega) c84
          refine lv_aload_n X.1 X.2.1 dX8_pass_87 rfl (lv_at hl 2 rfl) ?_
          refine mr_get X hT fl_RX8_44 (hM.1) rfl dX8_pass_88 ?_
          refine lv_iload X.1 X.2.1 dX8_pass_91 (lv_at hl 0 rfl) ?_
          refine mw_join hT 131 0 0 (fun r M1 => r = q_lapf y (k2 + 1) k2 ∧ MA G hm ad (cf y 15 (q_lapf y k2)) (f_pass_c x (nI k)) M1) (fun r M1 H locs hp hT => ?_) (fun J131 => ?_)
          · obtain ⟨rfl, hM⟩ := hp
            refine mm_iast X hT hM (k := 15) (N := 2000) (j := k2) rfl (by decide) (by decide) (by omega) dX8_pass_131 (fun M1 H locs hM hT => ?_)
            refine lv_iinc X.1 X.2.1 (k := 0) (v := nI (k2 + 1)) dX8_pass_132 hl rfl (mm_inc k2) (by decide) rfl (fun ls hl => ?_)
            refine lv_goto X.1 X.2.1 (tgt := 78) dX8_pass_135 (by decide) ?_
            rw [q_lapf_s] at hM
            refine W.widen (k := 0) (n := 0) (Nat.le_of_ble_eq_true rfl) (Nat.le_of_ble_eq_true rfl) ?_
            exact ih (by omega) _ _ _ _ (hM) hT (lv_sub hl [0, 1, 2, 3] rfl)
          · skip
            refine lv_aload_n X.1 X.2.1 dX8_pass_93 rfl (lv_at hl 2 rfl) ?_
            refine mr_get X hT fl_RX8_44 (hM.1) rfl dX8_pass_94 ?_
            refine lv_iload X.1 X.2.1 dX8_pass_97 (lv_at hl 0 rfl) ?_
            refine mm_iald X hT hM (k := 15) (N := 2000) (j := k2) rfl (by decide) (by decide) (by omega) dX8_pass_99 ?_
            refine mm_top (w := cg y 15 k2) (q_lapf_k _ _) ?_
            refine lv_if_ne X.1 X.2.1 (tgt := 124) dX8_pass_100 (by decide) (fun c100 => ?_) (fun c100 => ?_)
            · skip
              refine lv_aload_n X.1 X.2.1 dX8_pass_124 rfl (lv_at hl 2 rfl) ?_
              refine mr_get X hT fl_RX8_44 (hM.1) rfl dX8_pass_125 ?_
              refine lv_iload X.1 X.2.1 dX8_pass_128 (lv_at hl 0 rfl) ?_
              refine mm_iald X hT hM (k := 15) (N := 2000) (j := k2) rfl (by decide) (by decide) (by omega) dX8_pass_130 ?_
              refine mm_top (w := cg y 15 k2) (q_lapf_k _ _) ?_
              refine W.widen (k := 0) (n := 0) (Nat.le_of_ble_eq_true rfl) (Nat.le_of_ble_eq_true rfl) ?_
              exact J131 _ _ _ _ ⟨by unfold q_lapf q_lap1; first | (simp [c100]; done) | (simp [c100, Int32.not_le.mpr c117]; done) | (simp [c100, Int32.not_lt.mp c117]; done), hM⟩ hT
            · skip
              refine lv_aload_n X.1 X.2.1 dX8_pass_103 rfl (lv_at hl 2 rfl) ?_
              refine mr_get X hT fl_RX8_119 (hM.1) rfl dX8_pass_104 ?_
              refine lv_aload_n X.1 X.2.1 dX8_pass_107 rfl (lv_at hl 2 rfl) ?_
              refine mr_get X hT fl_RX8_41 (hM.1) rfl dX8_pass_108 ?_
              refine lv_iload X.1 X.2.1 dX8_pass_111 (lv_at hl 0 rfl) ?_
              refine mm_iald X hT hM (k := 14) (N := 2000) (j := k2) rfl (by decide) (by decide) (by omega) dX8_pass_113 ?_
              refine mm_top (w := cg y 14 k2) (rfl) ?_
              refine lv_isub X.1 X.2.1 dX8_pass_114 ?_
              refine mm_top (w := q_now y - cg y 14 k2) (rfl) ?_
              refine lv_bipush X.1 X.2.1 (v := 60) dX8_pass_115 (by decide) ?_
              refine lv_icmp_lt X.1 X.2.1 (tgt := 124) dX8_pass_117 (by decide) (fun c117 => ?_) (fun c117 => ?_)
              · skip
                refine lv_aload_n X.1 X.2.1 dX8_pass_124 rfl (lv_at hl 2 rfl) ?_
                refine mr_get X hT fl_RX8_44 (hM.1) rfl dX8_pass_125 ?_
                refine lv_iload X.1 X.2.1 dX8_pass_128 (lv_at hl 0 rfl) ?_
                refine mm_iald X hT hM (k := 15) (N := 2000) (j := k2) rfl (by decide) (by decide) (by omega) dX8_pass_130 ?_
                refine mm_top (w := cg y 15 k2) (q_lapf_k _ _) ?_
                refine W.widen (k := 0) (n := 0) (Nat.le_of_ble_eq_true rfl) (Nat.le_of_ble_eq_true rfl) ?_
                exact J131 _ _ _ _ ⟨by unfold q_lapf q_lap1; first | (simp [c100]; done) | (simp [c100, Int32.not_le.mpr c117]; done) | (simp [c100, Int32.not_lt.mp c117]; done), hM⟩ hT
              · skip
                refine lv_iconst X.1 X.2.1 (v := 3) dX8_pass_120 (by decide) ?_
                refine lv_goto X.1 X.2.1 (tgt := 131) dX8_pass_121 (by decide) ?_
                refine W.widen (k := 0) (n := 0) (Nat.le_of_ble_eq_true rfl) (Nat.le_of_ble_eq_true rfl) ?_
                exact J131 _ _ _ _ ⟨by unfold q_lapf q_lap1; first | (simp [c100]; done) | (simp [c100, Int32.not_le.mpr c117]; done) | (simp [c100, Int32.not_lt.mp c117]; done), hM⟩ hT
      · skip
        have hkl := mm_stay hk (show n < 2 ^ 31 by omega) c48
        refine lv_aload_n X.1 X.2.1 dX8_pass_51 rfl (lv_at hl 2 rfl) ?_
        refine lv_dup X.1 X.2.1 dX8_pass_52 rfl ?_
        refine mr_get X hT fl_RX8_119 (hM.1) rfl dX8_pass_53 ?_
        refine lv_iconst X.1 X.2.1 (v := 1) dX8_pass_56 (by decide) ?_
        refine lv_iadd X.1 X.2.1 dX8_pass_57 ?_
        refine mm_put X hT hM fp_RX8_119 (k := 5) rfl (ct (q_tick x k).1 5 + 1) (nI_1 _) dX8_pass_58 (fun M1 H locs hM hT => ?_)
        refine lv_iload_n X.1 X.2.1 dX8_pass_61 rfl (lv_at hl 1 rfl) ?_
        refine lv_aload_n X.1 X.2.1 dX8_pass_62 rfl (lv_at hl 2 rfl) ?_
        refine lv_iconst X.1 X.2.1 (v := -1) dX8_pass_63 (by decide) ?_
        refine mr_g X hT (fun hT' => mr_runV X hT' cb_RX8_148 kw858 kp31 kw859 (m_closes hfl hM (q_inv_clock hiy (Nat.le_succ _) (by omega))) (mr_cell X hT hM.1 rfl) rfl rfl hl.1 ⟨Nat.le_of_ble_eq_true rfl, Nat.le_of_ble_eq_true rfl⟩ (Nat.le_of_ble_eq_true rfl) dX8_pass_64 ⟨Nat.le_of_ble_eq_true rfl, Nat.le_of_ble_eq_true rfl⟩) (fun v M1 H locs hp hT => ?_)
        obtain ⟨r, rfl, rfl, hM⟩ := hp
        refine W.eq (g2 := F0 zm 67 ls (.int _ :: _)) rfl ?_
        refine lv_iadd X.1 X.2.1 dX8_pass_67 ?_
        refine mm_top (w := (q_tick x (k + 1)).2) (rfl) ?_
        refine lv_istore_n X.1 X.2.1 dX8_pass_68 rfl hl (by decide) rfl (fun ls hl => ?_)
        refine lv_iinc X.1 X.2.1 (k := 1) (v := nI (k + 1)) dX8_pass_69 hl rfl (mm_inc k) (by decide) rfl (fun ls hl => ?_)
        refine lv_goto X.1 X.2.1 (tgt := 45) dX8_pass_72 (by decide) ?_
        refine W.widen (k := 0) (n := 0) (Nat.le_of_ble_eq_true rfl) (Nat.le_of_ble_eq_true rfl) ?_
        exact ih (by omega) _ _ _ _ (hM) hT (lv_sub hl [0, 1, 2, 3] rfl)
    · skip
      have hc : ¬ f_pass_c x t = 0 := g_no c35
      refine lv_iconst X.1 X.2.1 (v := 0) dX8_pass_38 (by decide) ?_
      exact mr_iret X hT hret (⟨_, rfl, fun z => absurd z hc, by rw [if_neg hc]; exact hM⟩) (Nat.le_of_ble_eq_true rfl) (Nat.le_of_ble_eq_true rfl) dX8_pass_39
  · skip
    refine lv_iload_n X.1 X.2.1 dX8_pass_11 rfl (lv_at hl 0 rfl) ?_
    refine lv_if_eq X.1 X.2.1 (tgt := 30) dX8_pass_12 (by decide) (fun c12 => ?_) (fun c12 => ?_)
    · skip
      refine lv_iconst X.1 X.2.1 (v := 0) dX8_pass_30 (by decide) ?_
      refine W.widen (k := 0) (n := 0) (Nat.le_of_ble_eq_true rfl) (Nat.le_of_ble_eq_true rfl) ?_
      exact J31 _ _ _ _ ⟨by first | (rw [bI_0.mp c12]; rfl) | (rw [bI_n.mp c12, decide_eq_false (Int32.not_le.mpr c23)]; rfl) | (rw [bI_n.mp c12, decide_eq_true (Int32.not_lt.mp c23)]; rfl), hM⟩ hT
    · skip
      refine lv_aload_n X.1 X.2.1 dX8_pass_15 rfl (lv_at hl 1 rfl) ?_
      refine mr_get X hT fl_RX8_119 (hM.1) rfl dX8_pass_16 ?_
      refine lv_iload_n X.1 X.2.1 dX8_pass_19 rfl (lv_at hl 2 rfl) ?_
      refine lv_iadd X.1 X.2.1 dX8_pass_20 ?_
      refine lv_ldc X.1 X.2.1 (v := 100000) X.2.2.2.1 (mw_use X.2.2.2.2.1.1 kw945 rfl) dX8_pass_21 ?_
      refine lv_icmp_gt X.1 X.2.1 (tgt := 30) dX8_pass_23 (by decide) (fun c23 => ?_) (fun c23 => ?_)
      · skip
        refine lv_iconst X.1 X.2.1 (v := 0) dX8_pass_30 (by decide) ?_
        refine W.widen (k := 0) (n := 0) (Nat.le_of_ble_eq_true rfl) (Nat.le_of_ble_eq_true rfl) ?_
        exact J31 _ _ _ _ ⟨by first | (rw [bI_0.mp c12]; rfl) | (rw [bI_n.mp c12, decide_eq_false (Int32.not_le.mpr c23)]; rfl) | (rw [bI_n.mp c12, decide_eq_true (Int32.not_lt.mp c23)]; rfl), hM⟩ hT
      · skip
        refine lv_iconst X.1 X.2.1 (v := 1) dX8_pass_26 (by decide) ?_
        refine lv_goto X.1 X.2.1 (tgt := 31) dX8_pass_27 (by decide) ?_
        refine W.widen (k := 0) (n := 0) (Nat.le_of_ble_eq_true rfl) (Nat.le_of_ble_eq_true rfl) ?_
        exact J31 _ _ _ _ ⟨by first | (rw [bI_0.mp c12]; rfl) | (rw [bI_n.mp c12, decide_eq_false (Int32.not_le.mpr c23)]; rfl) | (rw [bI_n.mp c12, decide_eq_true (Int32.not_lt.mp c23)]; rfl), hM⟩ hT

abbrev rm_X8_clock : Room := { frames := 0, cells := 0, slots := 0, locals := 0 }
set_option maxHeartbeats 4000000 in
set_option maxRecDepth 100000 in
theorem m_clock {l : Launch} (hfl : l.stackTraces = false) {G : mw_G} {hm : Nat} {ad : Nat → Nat} {x : s_T} {lst : Int32} {M : mw_M} (hM : MA G hm ad x lst M) : mw_Met l G yX8_clock (.code yX8_clock cX8_clock 1 (some .int)) rm_X8_clock [.ref hm] M (mw_pi (fun r M1 => r = nI (ct x 5) ∧ MA G hm ad (x) 0 M1)) := by
  refine mw_of hfl (by decide) (Nat.le_of_ble_eq_true rfl) ?_
  intro zp ze zs zm zb zh zc ls X hin hret hT hl
  have hl : lv_has ls 1 [(0, .ref hm)] := hl
  refine lv_aload_n X.1 X.2.1 dX8_clock_0 rfl (lv_at hl 0 rfl) ?_
  refine lv_iconst X.1 X.2.1 (v := 0) dX8_clock_1 (by decide) ?_
  refine mm_putL X hT hM fp_RX8_86 dX8_clock_2 (fun M1 H locs hM hT => ?_)
  refine lv_aload_n X.1 X.2.1 dX8_clock_5 rfl (lv_at hl 0 rfl) ?_
  refine mr_get X hT fl_RX8_119 (hM.1) rfl dX8_clock_6 ?_
  exact mr_iret X hT hret (⟨_, rfl, rfl, hM⟩) (Nat.le_of_ble_eq_true rfl) (Nat.le_of_ble_eq_true rfl) dX8_clock_9

abbrev rm_X8_steps : Room := { frames := 0, cells := 0, slots := 0, locals := 0 }
set_option maxHeartbeats 4000000 in
set_option maxRecDepth 100000 in
theorem m_steps {l : Launch} (hfl : l.stackTraces = false) {G : mw_G} {hm : Nat} {ad : Nat → Nat} {x : s_T} {lst : Int32} {M : mw_M} (hM : MA G hm ad x lst M) : mw_Met l G yX8_steps (.code yX8_steps cX8_steps 1 (some .int)) rm_X8_steps [.ref hm] M (mw_pi (fun r M1 => r = nI (ct x 32) ∧ MA G hm ad (x) 0 M1)) := by
  refine mw_of hfl (by decide) (Nat.le_of_ble_eq_true rfl) ?_
  intro zp ze zs zm zb zh zc ls X hin hret hT hl
  have hl : lv_has ls 1 [(0, .ref hm)] := hl
  refine lv_aload_n X.1 X.2.1 dX8_steps_0 rfl (lv_at hl 0 rfl) ?_
  refine lv_iconst X.1 X.2.1 (v := 0) dX8_steps_1 (by decide) ?_
  refine mm_putL X hT hM fp_RX8_86 dX8_steps_2 (fun M1 H locs hM hT => ?_)
  refine lv_aload_n X.1 X.2.1 dX8_steps_5 rfl (lv_at hl 0 rfl) ?_
  refine mr_get X hT fl_RX8_116 (hM.1) rfl dX8_steps_6 ?_
  exact mr_iret X hT hret (⟨_, rfl, rfl, hM⟩) (Nat.le_of_ble_eq_true rfl) (Nat.le_of_ble_eq_true rfl) dX8_steps_9

abbrev rm_X8_kind : Room := { frames := 1, cells := 0, slots := 0, locals := 23 }
set_option maxHeartbeats 4000000 in
set_option maxRecDepth 100000 in
theorem m_kind {l : Launch} (hfl : l.stackTraces = false) {G : mw_G} {hm : Nat} {ad : Nat → Nat} {x : s_T} {lst : Int32} {a : Int32} {M : mw_M} (hM : MA G hm ad x lst M) (hi : q_inv 511 x) : mw_Met l G yX8_kind (.code yX8_kind cX8_kind 2 (some .int)) rm_X8_kind [.ref hm, .int a] M (mw_pi (fun r M1 => (f_kind_c x a = 0 → r = cg x 30 (pn a)) ∧ MA G hm ad (if f_kind_c x a = 0 then x else x) (f_kind_c x a) M1)) := by
  refine mw_of hfl (by decide) (Nat.le_of_ble_eq_true rfl) ?_
  intro zp ze zs zm zb zh zc ls X hin hret hT hl
  have hl : lv_has ls 2 [(0, .ref hm), (1, .int a)] := hl
  obtain ⟨⟨i2, i4, i5, i10, i17, i22, i29, i32⟩, hr3, hr6, hr11, hr18, hr23, hz21, hz28, hlb⟩ := id hi
  have hI := q_inv_mono hi (show 511 ≤ 512 by decide)
  refine lv_aload_n X.1 X.2.1 dX8_kind_0 rfl (lv_at hl 0 rfl) ?_
  refine lv_iload_n X.1 X.2.1 dX8_kind_1 rfl (lv_at hl 1 rfl) ?_
  refine lv_iconst X.1 X.2.1 (v := 0) dX8_kind_2 (by decide) ?_
  refine lv_aload_n X.1 X.2.1 dX8_kind_3 rfl (lv_at hl 0 rfl) ?_
  refine mr_get X hT fl_RX8_116 (hM.1) rfl dX8_kind_4 ?_
  refine lv_iconst X.1 X.2.1 (v := 1) dX8_kind_7 (by decide) ?_
  refine lv_isub X.1 X.2.1 dX8_kind_8 ?_
  refine mr_g X hT (fun hT' => mr_runS X hT' cb_RX8_93 kw830 kw831 (m_in hfl hM) rfl rfl hl.1 ⟨Nat.le_of_ble_eq_true rfl, Nat.le_of_ble_eq_true rfl⟩ (Nat.le_of_ble_eq_true rfl) dX8_kind_9 ⟨Nat.le_of_ble_eq_true rfl, Nat.le_of_ble_eq_true rfl⟩) (fun v M1 H locs hp hT => ?_)
  obtain ⟨r, rfl, rfl, hM⟩ := hp
  refine W.eq (g2 := F0 zm 12 ls (.int _ :: _)) rfl ?_
  refine mm_top (w := bI (q_ix a (ct x 32))) (by rw [q_in_ix (show ct x 32 < 2 ^ 31 by omega)]) ?_
  refine lv_iconst X.1 X.2.1 (v := 1) dX8_kind_12 (by decide) ?_
  refine lv_iconst X.1 X.2.1 (v := 1) dX8_kind_13 (by decide) ?_
  refine mr_g X hT (fun hT' => mr_runV X hT' cb_RX8_123 kw834 kp27 kw835 (m_goes (a := q_ix a (ct x 32)) (b := true) (c := true) hfl hM) (mr_cell X hT hM.1 rfl) rfl rfl hl.1 ⟨Nat.le_of_ble_eq_true rfl, Nat.le_of_ble_eq_true rfl⟩ (Nat.le_of_ble_eq_true rfl) dX8_kind_14 ⟨Nat.le_of_ble_eq_true rfl, Nat.le_of_ble_eq_true rfl⟩) (fun v M1 H locs hp hT => ?_)
  obtain ⟨r, rfl, rfl, hM⟩ := hp
  refine W.eq (g2 := F0 zm 17 ls (.int _ :: _)) rfl ?_
  refine lv_if_eq X.1 X.2.1 (tgt := 29) dX8_kind_17 (by decide) (fun c17 => ?_) (fun c17 => ?_)
  · skip
    have hc : ¬ f_kind_c x a = 0 := g_no c17
    refine lv_iconst X.1 X.2.1 (v := 0) dX8_kind_29 (by decide) ?_
    exact mr_iret X hT hret (⟨_, rfl, by first | exact (fun z => absurd z hc) | (intro _; rw [pj]), by first | (rw [if_neg hc]; exact hM) | (rw [if_pos hc]; exact hM)⟩) (Nat.le_of_ble_eq_true rfl) (Nat.le_of_ble_eq_true rfl) dX8_kind_30
  · skip
    have hc : f_kind_c x a = 0 := g_ok c17
    obtain ⟨h1, h2, h3⟩ := q_code_ok hc
    obtain ⟨j, hj, rfl⟩ := (q_ix_iff (show ct x 32 < 2 ^ 31 by omega)).mp h1
    have pj : pn (nI j) = j := pn_nI (by omega)
    refine lv_aload_n X.1 X.2.1 dX8_kind_20 rfl (lv_at hl 0 rfl) ?_
    refine mr_get X hT fl_RX8_80 (hM.1) rfl dX8_kind_21 ?_
    refine lv_iload_n X.1 X.2.1 dX8_kind_24 rfl (lv_at hl 1 rfl) ?_
    refine mm_iald X hT hM (k := 30) (N := 8000) (j := j) rfl (by decide) (by decide) (by omega) dX8_kind_25 ?_
    refine lv_goto X.1 X.2.1 (tgt := 30) dX8_kind_26 (by decide) ?_
    exact mr_iret X hT hret (⟨_, rfl, by first | exact (fun z => absurd z hc) | (intro _; rw [pj]), by first | (rw [if_neg hc]; exact hM) | (rw [if_pos hc]; exact hM)⟩) (Nat.le_of_ble_eq_true rfl) (Nat.le_of_ble_eq_true rfl) dX8_kind_30

abbrev rm_X8_seal : Room := { frames := 1, cells := 0, slots := 0, locals := 23 }
set_option maxHeartbeats 4000000 in
set_option maxRecDepth 100000 in
theorem m_seal {l : Launch} (hfl : l.stackTraces = false) {G : mw_G} {hm : Nat} {ad : Nat → Nat} {x : s_T} {lst : Int32} {a : Int32} {M : mw_M} (hM : MA G hm ad x lst M) (hi : q_inv 511 x) : mw_Met l G yX8_seal (.code yX8_seal cX8_seal 2 (some .int)) rm_X8_seal [.ref hm, .int a] M (mw_pi (fun r M1 => (f_kind_c x a = 0 → r = cg x 31 (pn a)) ∧ MA G hm ad (if f_kind_c x a = 0 then x else x) (f_kind_c x a) M1)) := by
  refine mw_of hfl (by decide) (Nat.le_of_ble_eq_true rfl) ?_
  intro zp ze zs zm zb zh zc ls X hin hret hT hl
  have hl : lv_has ls 2 [(0, .ref hm), (1, .int a)] := hl
  obtain ⟨⟨i2, i4, i5, i10, i17, i22, i29, i32⟩, hr3, hr6, hr11, hr18, hr23, hz21, hz28, hlb⟩ := id hi
  have hI := q_inv_mono hi (show 511 ≤ 512 by decide)
  refine lv_aload_n X.1 X.2.1 dX8_seal_0 rfl (lv_at hl 0 rfl) ?_
  refine lv_iload_n X.1 X.2.1 dX8_seal_1 rfl (lv_at hl 1 rfl) ?_
  refine lv_iconst X.1 X.2.1 (v := 0) dX8_seal_2 (by decide) ?_
  refine lv_aload_n X.1 X.2.1 dX8_seal_3 rfl (lv_at hl 0 rfl) ?_
  refine mr_get X hT fl_RX8_116 (hM.1) rfl dX8_seal_4 ?_
  refine lv_iconst X.1 X.2.1 (v := 1) dX8_seal_7 (by decide) ?_
  refine lv_isub X.1 X.2.1 dX8_seal_8 ?_
  refine mr_g X hT (fun hT' => mr_runS X hT' cb_RX8_93 kw830 kw831 (m_in hfl hM) rfl rfl hl.1 ⟨Nat.le_of_ble_eq_true rfl, Nat.le_of_ble_eq_true rfl⟩ (Nat.le_of_ble_eq_true rfl) dX8_seal_9 ⟨Nat.le_of_ble_eq_true rfl, Nat.le_of_ble_eq_true rfl⟩) (fun v M1 H locs hp hT => ?_)
  obtain ⟨r, rfl, rfl, hM⟩ := hp
  refine W.eq (g2 := F0 zm 12 ls (.int _ :: _)) rfl ?_
  refine mm_top (w := bI (q_ix a (ct x 32))) (by rw [q_in_ix (show ct x 32 < 2 ^ 31 by omega)]) ?_
  refine lv_iconst X.1 X.2.1 (v := 1) dX8_seal_12 (by decide) ?_
  refine lv_iconst X.1 X.2.1 (v := 1) dX8_seal_13 (by decide) ?_
  refine mr_g X hT (fun hT' => mr_runV X hT' cb_RX8_123 kw834 kp27 kw835 (m_goes (a := q_ix a (ct x 32)) (b := true) (c := true) hfl hM) (mr_cell X hT hM.1 rfl) rfl rfl hl.1 ⟨Nat.le_of_ble_eq_true rfl, Nat.le_of_ble_eq_true rfl⟩ (Nat.le_of_ble_eq_true rfl) dX8_seal_14 ⟨Nat.le_of_ble_eq_true rfl, Nat.le_of_ble_eq_true rfl⟩) (fun v M1 H locs hp hT => ?_)
  obtain ⟨r, rfl, rfl, hM⟩ := hp
  refine W.eq (g2 := F0 zm 17 ls (.int _ :: _)) rfl ?_
  refine lv_if_eq X.1 X.2.1 (tgt := 29) dX8_seal_17 (by decide) (fun c17 => ?_) (fun c17 => ?_)
  · skip
    have hc : ¬ f_kind_c x a = 0 := g_no c17
    refine lv_iconst X.1 X.2.1 (v := 0) dX8_seal_29 (by decide) ?_
    exact mr_iret X hT hret (⟨_, rfl, by first | exact (fun z => absurd z hc) | (intro _; rw [pj]), by first | (rw [if_neg hc]; exact hM) | (rw [if_pos hc]; exact hM)⟩) (Nat.le_of_ble_eq_true rfl) (Nat.le_of_ble_eq_true rfl) dX8_seal_30
  · skip
    have hc : f_kind_c x a = 0 := g_ok c17
    obtain ⟨h1, h2, h3⟩ := q_code_ok hc
    obtain ⟨j, hj, rfl⟩ := (q_ix_iff (show ct x 32 < 2 ^ 31 by omega)).mp h1
    have pj : pn (nI j) = j := pn_nI (by omega)
    refine lv_aload_n X.1 X.2.1 dX8_seal_20 rfl (lv_at hl 0 rfl) ?_
    refine mr_get X hT fl_RX8_83 (hM.1) rfl dX8_seal_21 ?_
    refine lv_iload_n X.1 X.2.1 dX8_seal_24 rfl (lv_at hl 1 rfl) ?_
    refine mm_iald X hT hM (k := 31) (N := 8000) (j := j) rfl (by decide) (by decide) (by omega) dX8_seal_25 ?_
    refine lv_goto X.1 X.2.1 (tgt := 30) dX8_seal_26 (by decide) ?_
    exact mr_iret X hT hret (⟨_, rfl, by first | exact (fun z => absurd z hc) | (intro _; rw [pj]), by first | (rw [if_neg hc]; exact hM) | (rw [if_pos hc]; exact hM)⟩) (Nat.le_of_ble_eq_true rfl) (Nat.le_of_ble_eq_true rfl) dX8_seal_30
