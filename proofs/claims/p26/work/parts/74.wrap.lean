abbrev rm_L_asked : Room := { frames := 8, cells := 6, slots := 1330, locals := 252 }
set_option maxHeartbeats 4000000 in
set_option maxRecDepth 100000 in
theorem k_asked {l : Launch} (hfl : l.stackTraces = false) {G : mw_G} {o : Nat} {ad : Nat → Nat} {x : s_T} {z : Nat → Nat → Int32} {M : mw_M} {p mm t : Int32} (hM : LW G o ad x z M) (hX : q_inv 511 x) (n1 : f_ask_c x p mm t ≠ 1) (n2 : f_ask_c x p mm t ≠ 2) : mw_MetN l G yL_asked (.codeWith yL_asked cL_asked 5 (some .int) [(0, 7, 8, 46)]) rm_L_asked [.ref o, .int p, .int mm, .int t] M (mw_pi (fun r M1 => r = (if f_ask_c x p mm t = 0 then (nI (ct x 17)) else -2) ∧ LW G o ad (if f_ask_c x p mm t = 0 then f_ask_s x p mm t else x) z M1)) := by
  refine mw_ofN hfl (by decide) (Nat.le_of_ble_eq_true rfl) ?_
  intro zp ze zs_ zm zb zh zc ls X hin hret htab hN hT hl
  have hl : lv_has ls 5 [(0, .ref o), (1, .int p), (2, .int mm), (3, .int t)] := hl
  refine lv_aload_n X.1 X.2.1 dL_asked_0 rfl (lv_at hl 0 rfl) ?_
  refine lv_iload_n X.1 X.2.1 dL_asked_1 rfl (lv_at hl 1 rfl) ?_
  refine lv_iload_n X.1 X.2.1 dL_asked_2 rfl (lv_at hl 2 rfl) ?_
  refine lv_iload_n X.1 X.2.1 dL_asked_3 rfl (lv_at hl 3 rfl) ?_
  obtain ⟨Mx, Mt, b, w, eM, hds, eo, hA, ho, hL⟩ := hM
  subst eM
  have hcc := c_ask (p := p) (mm := mm) (t := t) hfl hA ho hX
  rw [eo] at hcc
  have hgg := hA.gate
  rw [eo] at hgg
  refine mr_goX X hT hds (mr_runVX X hT cb_RL_42 kw473 kw474 kw475 (b := o) (As := [.int p, .int mm, .int t]) hcc (mr_cell X hT (mw_or_l hgg) rfl) rfl rfl hl.1 ⟨Nat.le_of_ble_eq_true rfl, Nat.le_of_ble_eq_true rfl⟩ (Nat.le_of_ble_eq_true rfl) dL_asked_4 ⟨Nat.le_of_ble_eq_true rfl, Nat.le_of_ble_eq_true rfl⟩) (fun E ce9 q9 H locs hp hT h1 h2 h3 => ?_) (fun v M1 H locs hp hds hT => ?_)
  · rcases hp with ⟨rfl, hc⟩ | ⟨rfl, hc⟩ | ⟨rfl, hc⟩
    · exact absurd hc n1
    · exact absurd hc n2
    · refine mr_catch X hN (pre := []) (x := (0, 7, 8, 46)) (suf := []) htab (fun z hz => nomatch hz) (by decide) (by decide) kw29 kw201 h1 h2 h3 ?_
      refine lv_astore X.1 X.2.1 dL_asked_8 hl (by decide) rfl (fun ls hl => ?_)
      refine lv_bipush X.1 X.2.1 (v := -2) dL_asked_10 (by decide) ?_
      exact mr_iretX X hT hret (⟨_, rfl, by rw [if_neg (by rw [hc]; decide)], by rw [if_neg (by rw [hc]; decide)]; exact ⟨Mx, Mt, b, w, rfl, hds, eo, hA, ho, hL⟩⟩) (Nat.le_of_ble_eq_true rfl) (Nat.le_of_ble_eq_true rfl) dL_asked_12
  obtain ⟨r, rfl, hc, rfl, b1, e00, w1, hA1, ho1⟩ := hp
  have hM : LW G o ad (f_ask_s x p mm t) z (mw_or M1 Mt) := ⟨M1, Mt, b1, w1, rfl, hds, e00.trans eo, hA1, ho1, hL⟩
  refine W.eq (g2 := F0 zm 7 ls (.int (nI (ct x 17)) :: _)) rfl ?_
  exact mr_iretX X hT hret (⟨_, rfl, by rw [if_pos hc], by rw [if_pos hc]; exact hM⟩) (Nat.le_of_ble_eq_true rfl) (Nat.le_of_ble_eq_true rfl) dL_asked_7

abbrev rm_L_approved : Room := { frames := 8, cells := 6, slots := 1328, locals := 250 }
set_option maxHeartbeats 4000000 in
set_option maxRecDepth 100000 in
theorem k_approved {l : Launch} (hfl : l.stackTraces = false) {G : mw_G} {o : Nat} {ad : Nat → Nat} {x : s_T} {z : Nat → Nat → Int32} {M : mw_M} {aa bb : Int32} (hM : LW G o ad x z M) (hX : q_inv 511 x) (n1 : f_approve_c x aa bb ≠ 1) : mw_MetN l G yL_approved (.codeWith yL_approved cL_approved 4 (some .int) [(0, 14, 15, 46)]) rm_L_approved [.ref o, .int aa, .int bb] M (mw_pi (fun r M1 => r = (if f_approve_c x aa bb = 0 then (if (f_approve_s x aa bb).2 = 0 then 0 else 1) else -2) ∧ LW G o ad (if f_approve_c x aa bb = 0 then (f_approve_s x aa bb).1 else x) z M1)) := by
  refine mw_ofN hfl (by decide) (Nat.le_of_ble_eq_true rfl) ?_
  intro zp ze zs_ zm zb zh zc ls X hin hret htab hN hT hl
  have hl : lv_has ls 4 [(0, .ref o), (1, .int aa), (2, .int bb)] := hl
  refine lv_aload_n X.1 X.2.1 dL_approved_0 rfl (lv_at hl 0 rfl) ?_
  refine lv_iload_n X.1 X.2.1 dL_approved_1 rfl (lv_at hl 1 rfl) ?_
  refine lv_iload_n X.1 X.2.1 dL_approved_2 rfl (lv_at hl 2 rfl) ?_
  obtain ⟨Mx, Mt, b, w, eM, hds, eo, hA, ho, hL⟩ := hM
  subst eM
  have hcc := c_approve (aa := aa) (bb := bb) hfl hA ho hX
  rw [eo] at hcc
  have hgg := hA.gate
  rw [eo] at hgg
  refine mr_goX X hT hds (mr_runVX X hT cb_RL_48 kw620 kw621 kw622 (b := o) (As := [.int aa, .int bb]) hcc (mr_cell X hT (mw_or_l hgg) rfl) rfl rfl hl.1 ⟨Nat.le_of_ble_eq_true rfl, Nat.le_of_ble_eq_true rfl⟩ (Nat.le_of_ble_eq_true rfl) dL_approved_3 ⟨Nat.le_of_ble_eq_true rfl, Nat.le_of_ble_eq_true rfl⟩) (fun E ce9 q9 H locs hp hT h1 h2 h3 => ?_) (fun v M1 H locs hp hds hT => ?_)
  · rcases hp with ⟨rfl, hc⟩ | ⟨rfl, hc⟩
    · exact absurd hc n1
    · refine mr_catch X hN (pre := []) (x := (0, 14, 15, 46)) (suf := []) htab (fun z hz => nomatch hz) (by decide) (by decide) kw29 kw201 h1 h2 h3 ?_
      refine lv_astore_n X.1 X.2.1 dL_approved_15 rfl hl (by decide) rfl (fun ls hl => ?_)
      refine lv_bipush X.1 X.2.1 (v := -2) dL_approved_16 (by decide) ?_
      exact mr_iretX X hT hret (⟨_, rfl, by rw [if_neg (by rw [hc]; decide)], by rw [if_neg (by rw [hc]; decide)]; exact ⟨Mx, Mt, b, w, rfl, hds, eo, hA, ho, hL⟩⟩) (Nat.le_of_ble_eq_true rfl) (Nat.le_of_ble_eq_true rfl) dL_approved_18
  obtain ⟨r, rfl, hc, rfl, b1, e00, w1, hA1, ho1⟩ := hp
  have hM : LW G o ad ((f_approve_s x aa bb).1) z (mw_or M1 Mt) := ⟨M1, Mt, b1, w1, rfl, hds, e00.trans eo, hA1, ho1, hL⟩
  refine W.eq (g2 := F0 zm 6 ls (.int ((f_approve_s x aa bb).2) :: _)) rfl ?_
  refine lv_if_eq X.1 X.2.1 (tgt := 13) dL_approved_6 (by decide) (fun c => ?_) (fun c => ?_)
  · skip
    refine lv_iconst X.1 X.2.1 (v := 0) dL_approved_13 (by decide) ?_
    exact mr_iretX X hT hret (⟨_, rfl, by rw [if_pos hc, if_pos c], by rw [if_pos hc]; exact hM⟩) (Nat.le_of_ble_eq_true rfl) (Nat.le_of_ble_eq_true rfl) dL_approved_14
  · skip
    refine lv_iconst X.1 X.2.1 (v := 1) dL_approved_9 (by decide) ?_
    refine lv_goto X.1 X.2.1 (tgt := 14) dL_approved_10 (by decide) ?_
    exact mr_iretX X hT hret (⟨_, rfl, by rw [if_pos hc, if_neg c], by rw [if_pos hc]; exact hM⟩) (Nat.le_of_ble_eq_true rfl) (Nat.le_of_ble_eq_true rfl) dL_approved_14

abbrev rm_L_denied : Room := { frames := 8, cells := 3, slots := 18, locals := 146 }
set_option maxHeartbeats 4000000 in
set_option maxRecDepth 100000 in
theorem k_denied {l : Launch} (hfl : l.stackTraces = false) {G : mw_G} {o : Nat} {ad : Nat → Nat} {x : s_T} {z : Nat → Nat → Int32} {M : mw_M} {aa bb : Int32} (hM : LW G o ad x z M) (hX : q_inv 511 x) (n1 : f_deny_c x aa bb ≠ 1) : mw_MetN l G yL_denied (.codeWith yL_denied cL_denied 4 (some .int) [(0, 6, 9, 46)]) rm_L_denied [.ref o, .int aa, .int bb] M (mw_pi (fun r M1 => r = (if f_deny_c x aa bb = 0 then (0) else -2) ∧ LW G o ad (if f_deny_c x aa bb = 0 then f_deny_s x aa bb else x) z M1)) := by
  refine mw_ofN hfl (by decide) (Nat.le_of_ble_eq_true rfl) ?_
  intro zp ze zs_ zm zb zh zc ls X hin hret htab hN hT hl
  have hl : lv_has ls 4 [(0, .ref o), (1, .int aa), (2, .int bb)] := hl
  refine lv_aload_n X.1 X.2.1 dL_denied_0 rfl (lv_at hl 0 rfl) ?_
  refine lv_iload_n X.1 X.2.1 dL_denied_1 rfl (lv_at hl 1 rfl) ?_
  refine lv_iload_n X.1 X.2.1 dL_denied_2 rfl (lv_at hl 2 rfl) ?_
  obtain ⟨Mx, Mt, b, w, eM, hds, eo, hA, ho, hL⟩ := hM
  subst eM
  have hcc := c_deny (aa := aa) (bb := bb) hfl hA ho hX
  rw [eo] at hcc
  have hgg := hA.gate
  rw [eo] at hgg
  refine mr_goX X hT hds (mr_runVX X hT cb_RL_52 kw597 kw598 kw599 (b := o) (As := [.int aa, .int bb]) hcc (mr_cell X hT (mw_or_l hgg) rfl) rfl rfl hl.1 ⟨Nat.le_of_ble_eq_true rfl, Nat.le_of_ble_eq_true rfl⟩ (Nat.le_of_ble_eq_true rfl) dL_denied_3 ⟨Nat.le_of_ble_eq_true rfl, Nat.le_of_ble_eq_true rfl⟩) (fun E ce9 q9 H locs hp hT h1 h2 h3 => ?_) (fun v M1 H locs hp hds hT => ?_)
  · rcases hp with ⟨rfl, hc⟩ | ⟨rfl, hc⟩
    · exact absurd hc n1
    · refine mr_catch X hN (pre := []) (x := (0, 6, 9, 46)) (suf := []) htab (fun z hz => nomatch hz) (by decide) (by decide) kw29 kw201 h1 h2 h3 ?_
      refine lv_astore_n X.1 X.2.1 dL_denied_9 rfl hl (by decide) rfl (fun ls hl => ?_)
      refine lv_bipush X.1 X.2.1 (v := -2) dL_denied_10 (by decide) ?_
      exact mr_iretX X hT hret (⟨_, rfl, by rw [if_neg (by rw [hc]; decide)], by rw [if_neg (by rw [hc]; decide)]; exact ⟨Mx, Mt, b, w, rfl, hds, eo, hA, ho, hL⟩⟩) (Nat.le_of_ble_eq_true rfl) (Nat.le_of_ble_eq_true rfl) dL_denied_12
  obtain ⟨rfl, hc, b1, e00, w1, hA1, ho1⟩ := hp
  have hM : LW G o ad (f_deny_s x aa bb) z (mw_or M1 Mt) := ⟨M1, Mt, b1, w1, rfl, hds, e00.trans eo, hA1, ho1, hL⟩
  refine W.eq (g2 := F0 zm 6 ls _) rfl ?_
  refine lv_goto X.1 X.2.1 (tgt := 13) dL_denied_6 (by decide) ?_
  refine lv_iconst X.1 X.2.1 (v := 0) dL_denied_13 (by decide) ?_
  exact mr_iretX X hT hret (⟨_, rfl, by rw [if_pos hc], by rw [if_pos hc]; exact hM⟩) (Nat.le_of_ble_eq_true rfl) (Nat.le_of_ble_eq_true rfl) dL_denied_14

abbrev rm_L_entered : Room := { frames := 8, cells := 7, slots := 2626, locals := 251 }
set_option maxHeartbeats 4000000 in
set_option maxRecDepth 100000 in
theorem k_entered {l : Launch} (hfl : l.stackTraces = false) {G : mw_G} {o : Nat} {ad : Nat → Nat} {x : s_T} {z : Nat → Nat → Int32} {M : mw_M} {p mm : Int32} (hM : LW G o ad x z M) (hX : q_inv 511 x) (n1 : f_enter_c x p mm ≠ 1) : mw_MetN l G yL_entered (.codeWith yL_entered cL_entered 4 (some .int) [(0, 6, 7, 46)]) rm_L_entered [.ref o, .int p, .int mm] M (mw_pi (fun r M1 => r = (if f_enter_c x p mm = 0 then (nI (ct x 22)) else -2) ∧ LW G o ad (if f_enter_c x p mm = 0 then f_enter_s x p mm else x) z M1)) := by
  refine mw_ofN hfl (by decide) (Nat.le_of_ble_eq_true rfl) ?_
  intro zp ze zs_ zm zb zh zc ls X hin hret htab hN hT hl
  have hl : lv_has ls 4 [(0, .ref o), (1, .int p), (2, .int mm)] := hl
  refine lv_aload_n X.1 X.2.1 dL_entered_0 rfl (lv_at hl 0 rfl) ?_
  refine lv_iload_n X.1 X.2.1 dL_entered_1 rfl (lv_at hl 1 rfl) ?_
  refine lv_iload_n X.1 X.2.1 dL_entered_2 rfl (lv_at hl 2 rfl) ?_
  obtain ⟨Mx, Mt, b, w, eM, hds, eo, hA, ho, hL⟩ := hM
  subst eM
  have hcc := c_enter (p := p) (mm := mm) hfl hA ho hX
  rw [eo] at hcc
  have hgg := hA.gate
  rw [eo] at hgg
  refine mr_goX X hT hds (mr_runVX X hT cb_RL_56 kw532 kw533 kw534 (b := o) (As := [.int p, .int mm]) hcc (mr_cell X hT (mw_or_l hgg) rfl) rfl rfl hl.1 ⟨Nat.le_of_ble_eq_true rfl, Nat.le_of_ble_eq_true rfl⟩ (Nat.le_of_ble_eq_true rfl) dL_entered_3 ⟨Nat.le_of_ble_eq_true rfl, Nat.le_of_ble_eq_true rfl⟩) (fun E ce9 q9 H locs hp hT h1 h2 h3 => ?_) (fun v M1 H locs hp hds hT => ?_)
  · rcases hp with ⟨rfl, hc⟩ | ⟨rfl, hc⟩
    · exact absurd hc n1
    · refine mr_catch X hN (pre := []) (x := (0, 6, 7, 46)) (suf := []) htab (fun z hz => nomatch hz) (by decide) (by decide) kw29 kw201 h1 h2 h3 ?_
      refine lv_astore_n X.1 X.2.1 dL_entered_7 rfl hl (by decide) rfl (fun ls hl => ?_)
      refine lv_bipush X.1 X.2.1 (v := -2) dL_entered_8 (by decide) ?_
      exact mr_iretX X hT hret (⟨_, rfl, by rw [if_neg (by rw [hc]; decide)], by rw [if_neg (by rw [hc]; decide)]; exact ⟨Mx, Mt, b, w, rfl, hds, eo, hA, ho, hL⟩⟩) (Nat.le_of_ble_eq_true rfl) (Nat.le_of_ble_eq_true rfl) dL_entered_10
  obtain ⟨r, rfl, hc, rfl, b1, e00, w1, hA1, ho1⟩ := hp
  have hM : LW G o ad (f_enter_s x p mm) z (mw_or M1 Mt) := ⟨M1, Mt, b1, w1, rfl, hds, e00.trans eo, hA1, ho1, hL⟩
  refine W.eq (g2 := F0 zm 6 ls (.int (nI (ct x 22)) :: _)) rfl ?_
  exact mr_iretX X hT hret (⟨_, rfl, by rw [if_pos hc], by rw [if_pos hc]; exact hM⟩) (Nat.le_of_ble_eq_true rfl) (Nat.le_of_ble_eq_true rfl) dL_entered_6

abbrev rm_L_looked : Room := { frames := 8, cells := 3, slots := 18, locals := 145 }
set_option maxHeartbeats 4000000 in
set_option maxRecDepth 100000 in
theorem k_looked {l : Launch} (hfl : l.stackTraces = false) {G : mw_G} {o : Nat} {ad : Nat → Nat} {x : s_T} {z : Nat → Nat → Int32} {M : mw_M} {aa bb : Int32} (hM : LW G o ad x z M) (hX : q_inv 511 x) (n1 : f_lookAt_c x aa bb ≠ 1) : mw_MetN l G yL_looked (.codeWith yL_looked cL_looked 4 (some .int) [(0, 6, 7, 46)]) rm_L_looked [.ref o, .int aa, .int bb] M (mw_pi (fun r M1 => r = (if f_lookAt_c x aa bb = 0 then (q_now x - cg x 20 (pn aa)) else -2) ∧ LW G o ad (if f_lookAt_c x aa bb = 0 then f_lookAt_s x aa bb else x) z M1)) := by
  refine mw_ofN hfl (by decide) (Nat.le_of_ble_eq_true rfl) ?_
  intro zp ze zs_ zm zb zh zc ls X hin hret htab hN hT hl
  have hl : lv_has ls 4 [(0, .ref o), (1, .int aa), (2, .int bb)] := hl
  refine lv_aload_n X.1 X.2.1 dL_looked_0 rfl (lv_at hl 0 rfl) ?_
  refine lv_iload_n X.1 X.2.1 dL_looked_1 rfl (lv_at hl 1 rfl) ?_
  refine lv_iload_n X.1 X.2.1 dL_looked_2 rfl (lv_at hl 2 rfl) ?_
  obtain ⟨Mx, Mt, b, w, eM, hds, eo, hA, ho, hL⟩ := hM
  subst eM
  have hcc := c_lookAt (aa := aa) (bb := bb) hfl hA ho hX
  rw [eo] at hcc
  have hgg := hA.gate
  rw [eo] at hgg
  refine mr_goX X hT hds (mr_runVX X hT cb_RL_60 kw583 kw584 kw585 (b := o) (As := [.int aa, .int bb]) hcc (mr_cell X hT (mw_or_l hgg) rfl) rfl rfl hl.1 ⟨Nat.le_of_ble_eq_true rfl, Nat.le_of_ble_eq_true rfl⟩ (Nat.le_of_ble_eq_true rfl) dL_looked_3 ⟨Nat.le_of_ble_eq_true rfl, Nat.le_of_ble_eq_true rfl⟩) (fun E ce9 q9 H locs hp hT h1 h2 h3 => ?_) (fun v M1 H locs hp hds hT => ?_)
  · rcases hp with ⟨rfl, hc⟩ | ⟨rfl, hc⟩
    · exact absurd hc n1
    · refine mr_catch X hN (pre := []) (x := (0, 6, 7, 46)) (suf := []) htab (fun z hz => nomatch hz) (by decide) (by decide) kw29 kw201 h1 h2 h3 ?_
      refine lv_astore_n X.1 X.2.1 dL_looked_7 rfl hl (by decide) rfl (fun ls hl => ?_)
      refine lv_bipush X.1 X.2.1 (v := -2) dL_looked_8 (by decide) ?_
      exact mr_iretX X hT hret (⟨_, rfl, by rw [if_neg (by rw [hc]; decide)], by rw [if_neg (by rw [hc]; decide)]; exact ⟨Mx, Mt, b, w, rfl, hds, eo, hA, ho, hL⟩⟩) (Nat.le_of_ble_eq_true rfl) (Nat.le_of_ble_eq_true rfl) dL_looked_10
  obtain ⟨r, rfl, hc, rfl, b1, e00, w1, hA1, ho1⟩ := hp
  have hM : LW G o ad (f_lookAt_s x aa bb) z (mw_or M1 Mt) := ⟨M1, Mt, b1, w1, rfl, hds, e00.trans eo, hA1, ho1, hL⟩
  refine W.eq (g2 := F0 zm 6 ls (.int (q_now x - cg x 20 (pn aa)) :: _)) rfl ?_
  exact mr_iretX X hT hret (⟨_, rfl, by rw [if_pos hc], by rw [if_pos hc]; exact hM⟩) (Nat.le_of_ble_eq_true rfl) (Nat.le_of_ble_eq_true rfl) dL_looked_6

abbrev rm_L_opened : Room := { frames := 8, cells := 5, slots := 1324, locals := 251 }
set_option maxHeartbeats 4000000 in
set_option maxRecDepth 100000 in
theorem k_opened {l : Launch} (hfl : l.stackTraces = false) {G : mw_G} {o : Nat} {ad : Nat → Nat} {x : s_T} {z : Nat → Nat → Int32} {M : mw_M} {p mm : Int32} (hM : LW G o ad x z M) (hX : q_inv 511 x) (n1 : f_open_c x p mm ≠ 1) : mw_MetN l G yL_opened (.codeWith yL_opened cL_opened 4 (some .int) [(0, 6, 7, 46)]) rm_L_opened [.ref o, .int p, .int mm] M (mw_pi (fun r M1 => r = (if f_open_c x p mm = 0 then (nI (ct x 29)) else -2) ∧ LW G o ad (if f_open_c x p mm = 0 then f_open_s x p mm else x) z M1)) := by
  refine mw_ofN hfl (by decide) (Nat.le_of_ble_eq_true rfl) ?_
  intro zp ze zs_ zm zb zh zc ls X hin hret htab hN hT hl
  have hl : lv_has ls 4 [(0, .ref o), (1, .int p), (2, .int mm)] := hl
  refine lv_aload_n X.1 X.2.1 dL_opened_0 rfl (lv_at hl 0 rfl) ?_
  refine lv_iload_n X.1 X.2.1 dL_opened_1 rfl (lv_at hl 1 rfl) ?_
  refine lv_iload_n X.1 X.2.1 dL_opened_2 rfl (lv_at hl 2 rfl) ?_
  obtain ⟨Mx, Mt, b, w, eM, hds, eo, hA, ho, hL⟩ := hM
  subst eM
  have hcc := c_open (p := p) (mm := mm) hfl hA ho hX
  rw [eo] at hcc
  have hgg := hA.gate
  rw [eo] at hgg
  refine mr_goX X hT hds (mr_runVX X hT cb_RL_63 kw631 kw632 kw633 (b := o) (As := [.int p, .int mm]) hcc (mr_cell X hT (mw_or_l hgg) rfl) rfl rfl hl.1 ⟨Nat.le_of_ble_eq_true rfl, Nat.le_of_ble_eq_true rfl⟩ (Nat.le_of_ble_eq_true rfl) dL_opened_3 ⟨Nat.le_of_ble_eq_true rfl, Nat.le_of_ble_eq_true rfl⟩) (fun E ce9 q9 H locs hp hT h1 h2 h3 => ?_) (fun v M1 H locs hp hds hT => ?_)
  · rcases hp with ⟨rfl, hc⟩ | ⟨rfl, hc⟩
    · exact absurd hc n1
    · refine mr_catch X hN (pre := []) (x := (0, 6, 7, 46)) (suf := []) htab (fun z hz => nomatch hz) (by decide) (by decide) kw29 kw201 h1 h2 h3 ?_
      refine lv_astore_n X.1 X.2.1 dL_opened_7 rfl hl (by decide) rfl (fun ls hl => ?_)
      refine lv_bipush X.1 X.2.1 (v := -2) dL_opened_8 (by decide) ?_
      exact mr_iretX X hT hret (⟨_, rfl, by rw [if_neg (by rw [hc]; decide)], by rw [if_neg (by rw [hc]; decide)]; exact ⟨Mx, Mt, b, w, rfl, hds, eo, hA, ho, hL⟩⟩) (Nat.le_of_ble_eq_true rfl) (Nat.le_of_ble_eq_true rfl) dL_opened_10
  obtain ⟨r, rfl, hc, rfl, b1, e00, w1, hA1, ho1⟩ := hp
  have hM : LW G o ad (f_open_s x p mm) z (mw_or M1 Mt) := ⟨M1, Mt, b1, w1, rfl, hds, e00.trans eo, hA1, ho1, hL⟩
  refine W.eq (g2 := F0 zm 6 ls (.int (nI (ct x 29)) :: _)) rfl ?_
  exact mr_iretX X hT hret (⟨_, rfl, by rw [if_pos hc], by rw [if_pos hc]; exact hM⟩) (Nat.le_of_ble_eq_true rfl) (Nat.le_of_ble_eq_true rfl) dL_opened_6

abbrev rm_L_typed : Room := { frames := 8, cells := 3, slots := 18, locals := 144 }
set_option maxHeartbeats 4000000 in
set_option maxRecDepth 100000 in
theorem k_typed {l : Launch} (hfl : l.stackTraces = false) {G : mw_G} {o : Nat} {ad : Nat → Nat} {x : s_T} {z : Nat → Nat → Int32} {M : mw_M} {aa kk : Int32} (hM : LW G o ad x z M) (hX : q_inv 511 x) (n1 : f_type_c x aa kk ≠ 1) (n2 : f_type_c x aa kk ≠ 2) : mw_MetN l G yL_typed (.codeWith yL_typed cL_typed 4 (some .int) [(0, 14, 15, 46)]) rm_L_typed [.ref o, .int aa, .int kk] M (mw_pi (fun r M1 => r = (if f_type_c x aa kk = 0 then (if bI (decide (kk = 0)) = 0 then 0 else 1) else -2) ∧ LW G o ad (if f_type_c x aa kk = 0 then f_type_s x aa kk else x) z M1)) := by
  refine mw_ofN hfl (by decide) (Nat.le_of_ble_eq_true rfl) ?_
  intro zp ze zs_ zm zb zh zc ls X hin hret htab hN hT hl
  have hl : lv_has ls 4 [(0, .ref o), (1, .int aa), (2, .int kk)] := hl
  refine lv_aload_n X.1 X.2.1 dL_typed_0 rfl (lv_at hl 0 rfl) ?_
  refine lv_iload_n X.1 X.2.1 dL_typed_1 rfl (lv_at hl 1 rfl) ?_
  refine lv_iload_n X.1 X.2.1 dL_typed_2 rfl (lv_at hl 2 rfl) ?_
  obtain ⟨Mx, Mt, b, w, eM, hds, eo, hA, ho, hL⟩ := hM
  subst eM
  have hcc := c_type (aa := aa) (kk := kk) hfl hA ho hX
  rw [eo] at hcc
  have hgg := hA.gate
  rw [eo] at hgg
  refine mr_goX X hT hds (mr_runVX X hT cb_RL_66 kw697 kw698 kw699 (b := o) (As := [.int aa, .int kk]) hcc (mr_cell X hT (mw_or_l hgg) rfl) rfl rfl hl.1 ⟨Nat.le_of_ble_eq_true rfl, Nat.le_of_ble_eq_true rfl⟩ (Nat.le_of_ble_eq_true rfl) dL_typed_3 ⟨Nat.le_of_ble_eq_true rfl, Nat.le_of_ble_eq_true rfl⟩) (fun E ce9 q9 H locs hp hT h1 h2 h3 => ?_) (fun v M1 H locs hp hds hT => ?_)
  · rcases hp with ⟨rfl, hc⟩ | ⟨rfl, hc⟩ | ⟨rfl, hc⟩
    · exact absurd hc n1
    · exact absurd hc n2
    · refine mr_catch X hN (pre := []) (x := (0, 14, 15, 46)) (suf := []) htab (fun z hz => nomatch hz) (by decide) (by decide) kw29 kw201 h1 h2 h3 ?_
      refine lv_astore_n X.1 X.2.1 dL_typed_15 rfl hl (by decide) rfl (fun ls hl => ?_)
      refine lv_bipush X.1 X.2.1 (v := -2) dL_typed_16 (by decide) ?_
      exact mr_iretX X hT hret (⟨_, rfl, by rw [if_neg (by rw [hc]; decide)], by rw [if_neg (by rw [hc]; decide)]; exact ⟨Mx, Mt, b, w, rfl, hds, eo, hA, ho, hL⟩⟩) (Nat.le_of_ble_eq_true rfl) (Nat.le_of_ble_eq_true rfl) dL_typed_18
  obtain ⟨r, rfl, hc, rfl, b1, e00, w1, hA1, ho1⟩ := hp
  have hM : LW G o ad (f_type_s x aa kk) z (mw_or M1 Mt) := ⟨M1, Mt, b1, w1, rfl, hds, e00.trans eo, hA1, ho1, hL⟩
  refine W.eq (g2 := F0 zm 6 ls (.int (bI (decide (kk = 0))) :: _)) rfl ?_
  refine lv_if_eq X.1 X.2.1 (tgt := 13) dL_typed_6 (by decide) (fun c => ?_) (fun c => ?_)
  · skip
    refine lv_iconst X.1 X.2.1 (v := 0) dL_typed_13 (by decide) ?_
    exact mr_iretX X hT hret (⟨_, rfl, by rw [if_pos hc, if_pos c], by rw [if_pos hc]; exact hM⟩) (Nat.le_of_ble_eq_true rfl) (Nat.le_of_ble_eq_true rfl) dL_typed_14
  · skip
    refine lv_iconst X.1 X.2.1 (v := 1) dL_typed_9 (by decide) ?_
    refine lv_goto X.1 X.2.1 (tgt := 14) dL_typed_10 (by decide) ?_
    exact mr_iretX X hT hret (⟨_, rfl, by rw [if_pos hc, if_neg c], by rw [if_pos hc]; exact hM⟩) (Nat.le_of_ble_eq_true rfl) (Nat.le_of_ble_eq_true rfl) dL_typed_14

abbrev rm_L_let : Room := { frames := 8, cells := 4, slots := 24, locals := 146 }
set_option maxHeartbeats 4000000 in
set_option maxRecDepth 100000 in
theorem k_let {l : Launch} (hfl : l.stackTraces = false) {G : mw_G} {o : Nat} {ad : Nat → Nat} {x : s_T} {z : Nat → Nat → Int32} {M : mw_M} {aa bb : Int32} (hM : LW G o ad x z M) (hX : q_inv 511 x) (n1 : f_letThrough_c x aa bb ≠ 1) : mw_MetN l G yL_let (.codeWith yL_let cL_let 4 (some .int) [(0, 6, 7, 46)]) rm_L_let [.ref o, .int aa, .int bb] M (mw_pi (fun r M1 => r = (if f_letThrough_c x aa bb = 0 then (q_now x - cg x 27 (pn aa)) else -2) ∧ LW G o ad (if f_letThrough_c x aa bb = 0 then f_letThrough_s x aa bb else x) z M1)) := by
  refine mw_ofN hfl (by decide) (Nat.le_of_ble_eq_true rfl) ?_
  intro zp ze zs_ zm zb zh zc ls X hin hret htab hN hT hl
  have hl : lv_has ls 4 [(0, .ref o), (1, .int aa), (2, .int bb)] := hl
  refine lv_aload_n X.1 X.2.1 dL_let_0 rfl (lv_at hl 0 rfl) ?_
  refine lv_iload_n X.1 X.2.1 dL_let_1 rfl (lv_at hl 1 rfl) ?_
  refine lv_iload_n X.1 X.2.1 dL_let_2 rfl (lv_at hl 2 rfl) ?_
  obtain ⟨Mx, Mt, b, w, eM, hds, eo, hA, ho, hL⟩ := hM
  subst eM
  have hcc := c_letThrough (aa := aa) (bb := bb) hfl hA ho hX
  rw [eo] at hcc
  have hgg := hA.gate
  rw [eo] at hgg
  refine mr_goX X hT hds (mr_runVX X hT cb_RL_69 kw668 kw669 kw670 (b := o) (As := [.int aa, .int bb]) hcc (mr_cell X hT (mw_or_l hgg) rfl) rfl rfl hl.1 ⟨Nat.le_of_ble_eq_true rfl, Nat.le_of_ble_eq_true rfl⟩ (Nat.le_of_ble_eq_true rfl) dL_let_3 ⟨Nat.le_of_ble_eq_true rfl, Nat.le_of_ble_eq_true rfl⟩) (fun E ce9 q9 H locs hp hT h1 h2 h3 => ?_) (fun v M1 H locs hp hds hT => ?_)
  · rcases hp with ⟨rfl, hc⟩ | ⟨rfl, hc⟩
    · exact absurd hc n1
    · refine mr_catch X hN (pre := []) (x := (0, 6, 7, 46)) (suf := []) htab (fun z hz => nomatch hz) (by decide) (by decide) kw29 kw201 h1 h2 h3 ?_
      refine lv_astore_n X.1 X.2.1 dL_let_7 rfl hl (by decide) rfl (fun ls hl => ?_)
      refine lv_bipush X.1 X.2.1 (v := -2) dL_let_8 (by decide) ?_
      exact mr_iretX X hT hret (⟨_, rfl, by rw [if_neg (by rw [hc]; decide)], by rw [if_neg (by rw [hc]; decide)]; exact ⟨Mx, Mt, b, w, rfl, hds, eo, hA, ho, hL⟩⟩) (Nat.le_of_ble_eq_true rfl) (Nat.le_of_ble_eq_true rfl) dL_let_10
  obtain ⟨r, rfl, hc, rfl, b1, e00, w1, hA1, ho1⟩ := hp
  have hM : LW G o ad (f_letThrough_s x aa bb) z (mw_or M1 Mt) := ⟨M1, Mt, b1, w1, rfl, hds, e00.trans eo, hA1, ho1, hL⟩
  refine W.eq (g2 := F0 zm 6 ls (.int (q_now x - cg x 27 (pn aa)) :: _)) rfl ?_
  exact mr_iretX X hT hret (⟨_, rfl, by rw [if_pos hc], by rw [if_pos hc]; exact hM⟩) (Nat.le_of_ble_eq_true rfl) (Nat.le_of_ble_eq_true rfl) dL_let_6

abbrev rm_L_closed : Room := { frames := 8, cells := 2, slots := 12, locals := 143 }
set_option maxHeartbeats 4000000 in
set_option maxRecDepth 100000 in
theorem k_closed {l : Launch} (hfl : l.stackTraces = false) {G : mw_G} {o : Nat} {ad : Nat → Nat} {x : s_T} {z : Nat → Nat → Int32} {M : mw_M} {aa : Int32} (hM : LW G o ad x z M) (hX : q_inv 511 x) (n1 : f_close_c x aa ≠ 1) : mw_MetN l G yL_closed (.codeWith yL_closed cL_closed 3 (some .int) [(0, 5, 6, 46)]) rm_L_closed [.ref o, .int aa] M (mw_pi (fun r M1 => r = (if f_close_c x aa = 0 then (cg x 28 (pn aa)) else -2) ∧ LW G o ad (if f_close_c x aa = 0 then q_shut x (pn aa) else x) z M1)) := by
  refine mw_ofN hfl (by decide) (Nat.le_of_ble_eq_true rfl) ?_
  intro zp ze zs_ zm zb zh zc ls X hin hret htab hN hT hl
  have hl : lv_has ls 3 [(0, .ref o), (1, .int aa)] := hl
  refine lv_aload_n X.1 X.2.1 dL_closed_0 rfl (lv_at hl 0 rfl) ?_
  refine lv_iload_n X.1 X.2.1 dL_closed_1 rfl (lv_at hl 1 rfl) ?_
  obtain ⟨Mx, Mt, b, w, eM, hds, eo, hA, ho, hL⟩ := hM
  subst eM
  have hcc := c_close (aa := aa) hfl hA ho hX
  rw [eo] at hcc
  have hgg := hA.gate
  rw [eo] at hgg
  refine mr_goX X hT hds (mr_runVX X hT cb_RL_72 kw690 kw691 kw692 (b := o) (As := [.int aa]) hcc (mr_cell X hT (mw_or_l hgg) rfl) rfl rfl hl.1 ⟨Nat.le_of_ble_eq_true rfl, Nat.le_of_ble_eq_true rfl⟩ (Nat.le_of_ble_eq_true rfl) dL_closed_2 ⟨Nat.le_of_ble_eq_true rfl, Nat.le_of_ble_eq_true rfl⟩) (fun E ce9 q9 H locs hp hT h1 h2 h3 => ?_) (fun v M1 H locs hp hds hT => ?_)
  · rcases hp with ⟨rfl, hc⟩ | ⟨rfl, hc⟩
    · exact absurd hc n1
    · refine mr_catch X hN (pre := []) (x := (0, 5, 6, 46)) (suf := []) htab (fun z hz => nomatch hz) (by decide) (by decide) kw29 kw201 h1 h2 h3 ?_
      refine lv_astore_n X.1 X.2.1 dL_closed_6 rfl hl (by decide) rfl (fun ls hl => ?_)
      refine lv_bipush X.1 X.2.1 (v := -2) dL_closed_7 (by decide) ?_
      exact mr_iretX X hT hret (⟨_, rfl, by rw [if_neg (by rw [hc]; decide)], by rw [if_neg (by rw [hc]; decide)]; exact ⟨Mx, Mt, b, w, rfl, hds, eo, hA, ho, hL⟩⟩) (Nat.le_of_ble_eq_true rfl) (Nat.le_of_ble_eq_true rfl) dL_closed_9
  obtain ⟨r, rfl, hc, rfl, b1, e00, w1, hA1, ho1⟩ := hp
  have hM : LW G o ad (q_shut x (pn aa)) z (mw_or M1 Mt) := ⟨M1, Mt, b1, w1, rfl, hds, e00.trans eo, hA1, ho1, hL⟩
  refine W.eq (g2 := F0 zm 5 ls (.int (cg x 28 (pn aa)) :: _)) rfl ?_
  exact mr_iretX X hT hret (⟨_, rfl, by rw [if_pos hc], by rw [if_pos hc]; exact hM⟩) (Nat.le_of_ble_eq_true rfl) (Nat.le_of_ble_eq_true rfl) dL_closed_5
