/-! the law's small methods -/
abbrev rm_L_addPerson : Room := { frames := 8, cells := 3, slots := 1309, locals := 248 }
set_option maxHeartbeats 4000000 in
set_option maxRecDepth 100000 in
theorem l_addPerson {l : Launch} (hfl : l.stackTraces = false) {G : mw_G} {b : c_B} {x : s_T} {w : c_W} {Mx : mw_M} {o : Nat} {f : Nat → Int64} {t : Int32}  (hA : CA G b x w Mx) (ho : c_ok (ct x 5) b x w) (hi : q_inv 511 x) (hd : mw_ds Mx (mo G o f)) (hz : q_zl x) : mw_MetN l G yL_addPerson (.codeWith yL_addPerson cL_addPerson 4 (some .int) [(0, 9, 12, 13), (0, 9, 15, 15)]) rm_L_addPerson [.ref (b 0 0), .int t, .ref o] (mw_or Mx (mo G o f)) (l_po G b o (f_addPerson_c x t) (f_addPerson_s x t) x (fun v => v = Int32.toInt64 (nI (ct x 2)))) := by
  refine mw_ofN hfl (by decide) (Nat.le_of_ble_eq_true rfl) ?_
  intro zp ze zs zm zb zh zc ls X hin hret htab hN hT hl
  have hl : lv_has ls 4 [(0, .ref (b 0 0)), (1, .int t), (2, .ref o)] := hl
  refine lv_aload_n X.1 X.2.1 dL_addPerson_0 rfl (lv_at hl 2 rfl) ?_
  refine lv_iconst X.1 X.2.1 (v := 0) dL_addPerson_1 (by decide) ?_
  refine lv_aload_n X.1 X.2.1 dL_addPerson_2 rfl (lv_at hl 0 rfl) ?_
  refine lv_iload_n X.1 X.2.1 dL_addPerson_3 rfl (lv_at hl 1 rfl) ?_
  refine mr_goX X hT hd (mr_runVX X hT cb_RL_7 kw128 kw129 kw130 (c_addPerson hfl hA ho hi hz) (mr_cell X hT (mw_or_l hA.gate) rfl) rfl rfl hl.1 ⟨Nat.le_of_ble_eq_true rfl, Nat.le_of_ble_eq_true rfl⟩ (Nat.le_of_ble_eq_true rfl) dL_addPerson_4 ⟨Nat.le_of_ble_eq_true rfl, Nat.le_of_ble_eq_true rfl⟩) (fun E ce9 q9 H locs hp hT h1 h2 h3 => ?_) (fun v M1 H locs hp hd hT => ?_)
  · rcases hp with ⟨rfl, hc⟩ | ⟨rfl, hc⟩
    · refine mr_catch X hN (pre := []) (x := (0, 9, 12, 13)) (suf := [(0, 9, 15, 15)]) htab (fun z hz => nomatch hz) (by decide) (by decide) kw125 kw133 h1 h2 h3 ?_
      refine lv_astore_n X.1 X.2.1 dL_addPerson_12 rfl hl (by decide) rfl (fun ls hl => ?_)
      refine lv_iconst X.1 X.2.1 (v := 1) dL_addPerson_13 (by decide) ?_
      exact mr_iretX X hT hret (⟨_, rfl, Mx, f, hc.symm, rfl, hd, by rw [if_neg (by rw [hc]; decide)]; exact ⟨b, rfl, w, hA, ho⟩, fun z => absurd (hc.symm.trans z) (by decide)⟩) (Nat.le_of_ble_eq_true rfl) (Nat.le_of_ble_eq_true rfl) dL_addPerson_14
    · refine mr_catch X hN (pre := [(0, 9, 12, 13)]) (x := (0, 9, 15, 15)) (suf := []) htab (fun z hz => by rcases List.mem_singleton.mp hz with rfl; exact ⟨by decide, _, kw125, by decide⟩) (by decide) (by decide) kw126 kw205 h1 h2 h3 ?_
      refine lv_astore_n X.1 X.2.1 dL_addPerson_15 rfl hl (by decide) rfl (fun ls hl => ?_)
      refine lv_iconst X.1 X.2.1 (v := 2) dL_addPerson_16 (by decide) ?_
      exact mr_iretX X hT hret (⟨_, rfl, Mx, f, hc.symm, rfl, hd, by rw [if_neg (by rw [hc]; decide)]; exact ⟨b, rfl, w, hA, ho⟩, fun z => absurd (hc.symm.trans z) (by decide)⟩) (Nat.le_of_ble_eq_true rfl) (Nat.le_of_ble_eq_true rfl) dL_addPerson_17
  obtain ⟨r, rfl, hc, rfl, hout⟩ := hp
  refine W.eq (g2 := F0 zm 7 ls (.int _ :: _)) rfl ?_
  refine lv_i2l X.1 X.2.1 dL_addPerson_7 rfl ?_
  refine mr_last X hT (mo_at hd) (vp_in_nI (n := 0) (show 0 < 1 by decide) (by decide)) dL_addPerson_8 (fun H locs hT => ?_)
  rw [mo_set hd] at hT
  refine lv_goto X.1 X.2.1 (tgt := 18) dL_addPerson_9 (by decide) ?_
  refine lv_iconst X.1 X.2.1 (v := 0) dL_addPerson_18 (by decide) ?_
  exact mr_iretX X hT hret (⟨_, rfl, M1, _, hc.symm, rfl, mo_ds (g := _) hd, by rw [if_pos hc]; exact hout, fun _ => by rw [vpL0]⟩) (Nat.le_of_ble_eq_true rfl) (Nat.le_of_ble_eq_true rfl) dL_addPerson_19

abbrev rm_L_addMachine : Room := { frames := 8, cells := 4, slots := 1314, locals := 248 }
set_option maxHeartbeats 4000000 in
set_option maxRecDepth 100000 in
theorem l_addMachine {l : Launch} (hfl : l.stackTraces = false) {G : mw_G} {b : c_B} {x : s_T} {w : c_W} {Mx : mw_M} {o : Nat} {f : Nat → Int64} {t : Int32}  (hA : CA G b x w Mx) (ho : c_ok (ct x 5) b x w) (hi : q_inv 511 x) (hd : mw_ds Mx (mo G o f)) : mw_MetN l G yL_addMachine (.codeWith yL_addMachine cL_addMachine 4 (some .int) [(0, 9, 12, 13), (0, 9, 15, 15)]) rm_L_addMachine [.ref (b 0 0), .int t, .ref o] (mw_or Mx (mo G o f)) (l_po G b o (f_addMachine_c x t) (f_addMachine_s x t) x (fun v => v = Int32.toInt64 (nI (ct x 4)))) := by
  refine mw_ofN hfl (by decide) (Nat.le_of_ble_eq_true rfl) ?_
  intro zp ze zs zm zb zh zc ls X hin hret htab hN hT hl
  have hl : lv_has ls 4 [(0, .ref (b 0 0)), (1, .int t), (2, .ref o)] := hl
  refine lv_aload_n X.1 X.2.1 dL_addMachine_0 rfl (lv_at hl 2 rfl) ?_
  refine lv_iconst X.1 X.2.1 (v := 0) dL_addMachine_1 (by decide) ?_
  refine lv_aload_n X.1 X.2.1 dL_addMachine_2 rfl (lv_at hl 0 rfl) ?_
  refine lv_iload_n X.1 X.2.1 dL_addMachine_3 rfl (lv_at hl 1 rfl) ?_
  refine mr_goX X hT hd (mr_runVX X hT cb_RL_17 kw301 kw302 kw303 (c_addMachine hfl hA ho hi) (mr_cell X hT (mw_or_l hA.gate) rfl) rfl rfl hl.1 ⟨Nat.le_of_ble_eq_true rfl, Nat.le_of_ble_eq_true rfl⟩ (Nat.le_of_ble_eq_true rfl) dL_addMachine_4 ⟨Nat.le_of_ble_eq_true rfl, Nat.le_of_ble_eq_true rfl⟩) (fun E ce9 q9 H locs hp hT h1 h2 h3 => ?_) (fun v M1 H locs hp hd hT => ?_)
  · rcases hp with ⟨rfl, hc⟩ | ⟨rfl, hc⟩
    · refine mr_catch X hN (pre := []) (x := (0, 9, 12, 13)) (suf := [(0, 9, 15, 15)]) htab (fun z hz => nomatch hz) (by decide) (by decide) kw125 kw133 h1 h2 h3 ?_
      refine lv_astore_n X.1 X.2.1 dL_addMachine_12 rfl hl (by decide) rfl (fun ls hl => ?_)
      refine lv_iconst X.1 X.2.1 (v := 1) dL_addMachine_13 (by decide) ?_
      exact mr_iretX X hT hret (⟨_, rfl, Mx, f, hc.symm, rfl, hd, by rw [if_neg (by rw [hc]; decide)]; exact ⟨b, rfl, w, hA, ho⟩, fun z => absurd (hc.symm.trans z) (by decide)⟩) (Nat.le_of_ble_eq_true rfl) (Nat.le_of_ble_eq_true rfl) dL_addMachine_14
    · refine mr_catch X hN (pre := [(0, 9, 12, 13)]) (x := (0, 9, 15, 15)) (suf := []) htab (fun z hz => by rcases List.mem_singleton.mp hz with rfl; exact ⟨by decide, _, kw125, by decide⟩) (by decide) (by decide) kw126 kw205 h1 h2 h3 ?_
      refine lv_astore_n X.1 X.2.1 dL_addMachine_15 rfl hl (by decide) rfl (fun ls hl => ?_)
      refine lv_iconst X.1 X.2.1 (v := 2) dL_addMachine_16 (by decide) ?_
      exact mr_iretX X hT hret (⟨_, rfl, Mx, f, hc.symm, rfl, hd, by rw [if_neg (by rw [hc]; decide)]; exact ⟨b, rfl, w, hA, ho⟩, fun z => absurd (hc.symm.trans z) (by decide)⟩) (Nat.le_of_ble_eq_true rfl) (Nat.le_of_ble_eq_true rfl) dL_addMachine_17
  obtain ⟨r, rfl, hc, rfl, hout⟩ := hp
  refine W.eq (g2 := F0 zm 7 ls (.int _ :: _)) rfl ?_
  refine lv_i2l X.1 X.2.1 dL_addMachine_7 rfl ?_
  refine mr_last X hT (mo_at hd) (vp_in_nI (n := 0) (show 0 < 1 by decide) (by decide)) dL_addMachine_8 (fun H locs hT => ?_)
  rw [mo_set hd] at hT
  refine lv_goto X.1 X.2.1 (tgt := 18) dL_addMachine_9 (by decide) ?_
  refine lv_iconst X.1 X.2.1 (v := 0) dL_addMachine_18 (by decide) ?_
  exact mr_iretX X hT hret (⟨_, rfl, M1, _, hc.symm, rfl, mo_ds (g := _) hd, by rw [if_pos hc]; exact hout, fun _ => by rw [vpL0]⟩) (Nat.le_of_ble_eq_true rfl) (Nat.le_of_ble_eq_true rfl) dL_addMachine_19

abbrev rm_L_setLabel : Room := { frames := 8, cells := 2, slots := 12, locals := 147 }
set_option maxHeartbeats 4000000 in
set_option maxRecDepth 100000 in
theorem l_setLabelT {l : Launch} (hfl : l.stackTraces = false) {G : mw_G} {b : c_B} {x : s_T} {w : c_W} {Mx : mw_M} {o : Nat} {f : Nat → Int64} {p ll : Int32}  (hA : CA G b x w Mx) (ho : c_ok (ct x 5) b x w) (hi : q_inv 511 x) (hd : mw_ds Mx (mo G o f)) : mw_MetN l G yL_setLabel (.codeWith yL_setLabel cL_setLabel 6 (some .int) [(0, 12, 15, 24), (0, 12, 19, 13)]) rm_L_setLabel [.ref (b 0 0), .int p, .int ll, .int (bI true), .ref o] (mw_or Mx (mo G o f)) (l_po G b o (f_setLabel_c x p ll) ((f_setLabel_s x p ll true).1) x (fun v => v = Int32.toInt64 ((f_setLabel_s x p ll true).2))) := by
  refine mw_ofN hfl (by decide) (Nat.le_of_ble_eq_true rfl) ?_
  intro zp ze zs zm zb zh zc ls X hin hret htab hN hT hl
  have hl : lv_has ls 6 [(0, .ref (b 0 0)), (1, .int p), (2, .int ll), (3, .int (bI true)), (4, .ref o)] := hl
  refine lv_aload X.1 X.2.1 dL_setLabel_0 (lv_at hl 4 rfl) ?_
  refine lv_iconst X.1 X.2.1 (v := 0) dL_setLabel_2 (by decide) ?_
  refine lv_aload_n X.1 X.2.1 dL_setLabel_3 rfl (lv_at hl 0 rfl) ?_
  refine lv_iload_n X.1 X.2.1 dL_setLabel_4 rfl (lv_at hl 1 rfl) ?_
  refine lv_iload_n X.1 X.2.1 dL_setLabel_5 rfl (lv_at hl 2 rfl) ?_
  refine lv_iload_n X.1 X.2.1 dL_setLabel_6 rfl (lv_at hl 3 rfl) ?_
  refine mr_goX X hT hd (mr_runVX X hT cb_RL_20 kw330 kw331 kw332 (c_setLabelT hfl hA ho hi) (mr_cell X hT (mw_or_l hA.gate) rfl) rfl rfl hl.1 ⟨Nat.le_of_ble_eq_true rfl, Nat.le_of_ble_eq_true rfl⟩ (Nat.le_of_ble_eq_true rfl) dL_setLabel_7 ⟨Nat.le_of_ble_eq_true rfl, Nat.le_of_ble_eq_true rfl⟩) (fun E ce9 q9 H locs hp hT h1 h2 h3 => ?_) (fun v M1 H locs hp hd hT => ?_)
  · rcases hp with ⟨rfl, hc⟩ | ⟨rfl, hc⟩
    · refine mr_catch X hN (pre := []) (x := (0, 12, 15, 24)) (suf := [(0, 12, 19, 13)]) htab (fun z hz => nomatch hz) (by decide) (by decide) kw328 kw339 h1 h2 h3 ?_
      refine lv_astore X.1 X.2.1 dL_setLabel_15 hl (by decide) rfl (fun ls hl => ?_)
      refine lv_iconst X.1 X.2.1 (v := 1) dL_setLabel_17 (by decide) ?_
      exact mr_iretX X hT hret (⟨_, rfl, Mx, f, hc.symm, rfl, hd, by rw [if_neg (by rw [hc]; decide)]; exact ⟨b, rfl, w, hA, ho⟩, fun z => absurd (hc.symm.trans z) (by decide)⟩) (Nat.le_of_ble_eq_true rfl) (Nat.le_of_ble_eq_true rfl) dL_setLabel_18
    · refine mr_catch X hN (pre := [(0, 12, 15, 24)]) (x := (0, 12, 19, 13)) (suf := []) htab (fun z hz => by rcases List.mem_singleton.mp hz with rfl; exact ⟨by decide, _, kw328, by decide⟩) (by decide) (by decide) kw125 kw133 h1 h2 h3 ?_
      refine lv_astore X.1 X.2.1 dL_setLabel_19 hl (by decide) rfl (fun ls hl => ?_)
      refine lv_iconst X.1 X.2.1 (v := 2) dL_setLabel_21 (by decide) ?_
      exact mr_iretX X hT hret (⟨_, rfl, Mx, f, hc.symm, rfl, hd, by rw [if_neg (by rw [hc]; decide)]; exact ⟨b, rfl, w, hA, ho⟩, fun z => absurd (hc.symm.trans z) (by decide)⟩) (Nat.le_of_ble_eq_true rfl) (Nat.le_of_ble_eq_true rfl) dL_setLabel_22
  obtain ⟨r, rfl, hc, rfl, hout⟩ := hp
  refine W.eq (g2 := F0 zm 10 ls (.int _ :: _)) rfl ?_
  refine lv_i2l X.1 X.2.1 dL_setLabel_10 rfl ?_
  refine mr_last X hT (mo_at hd) (vp_in_nI (n := 0) (show 0 < 1 by decide) (by decide)) dL_setLabel_11 (fun H locs hT => ?_)
  rw [mo_set hd] at hT
  refine lv_goto X.1 X.2.1 (tgt := 23) dL_setLabel_12 (by decide) ?_
  refine lv_iconst X.1 X.2.1 (v := 0) dL_setLabel_23 (by decide) ?_
  exact mr_iretX X hT hret (⟨_, rfl, M1, _, hc.symm, rfl, mo_ds (g := _) hd, by rw [if_pos hc]; exact hout, fun _ => by rw [vpL0]⟩) (Nat.le_of_ble_eq_true rfl) (Nat.le_of_ble_eq_true rfl) dL_setLabel_24


set_option maxHeartbeats 4000000 in
set_option maxRecDepth 100000 in
theorem l_setLabelF {l : Launch} (hfl : l.stackTraces = false) {G : mw_G} {b : c_B} {x : s_T} {w : c_W} {Mx : mw_M} {o : Nat} {f : Nat → Int64} {p ll : Int32}  (hA : CA G b x w Mx) (ho : c_ok (ct x 5) b x w) (hi : q_inv 511 x) (hd : mw_ds Mx (mo G o f)) : mw_MetN l G yL_setLabel (.codeWith yL_setLabel cL_setLabel 6 (some .int) [(0, 12, 15, 24), (0, 12, 19, 13)]) rm_L_setLabel [.ref (b 0 0), .int p, .int ll, .int (bI false), .ref o] (mw_or Mx (mo G o f)) (l_po G b o (f_setLabel_c x p ll) ((f_setLabel_s x p ll false).1) x (fun v => v = Int32.toInt64 ((f_setLabel_s x p ll false).2))) := by
  refine mw_ofN hfl (by decide) (Nat.le_of_ble_eq_true rfl) ?_
  intro zp ze zs zm zb zh zc ls X hin hret htab hN hT hl
  have hl : lv_has ls 6 [(0, .ref (b 0 0)), (1, .int p), (2, .int ll), (3, .int (bI false)), (4, .ref o)] := hl
  refine lv_aload X.1 X.2.1 dL_setLabel_0 (lv_at hl 4 rfl) ?_
  refine lv_iconst X.1 X.2.1 (v := 0) dL_setLabel_2 (by decide) ?_
  refine lv_aload_n X.1 X.2.1 dL_setLabel_3 rfl (lv_at hl 0 rfl) ?_
  refine lv_iload_n X.1 X.2.1 dL_setLabel_4 rfl (lv_at hl 1 rfl) ?_
  refine lv_iload_n X.1 X.2.1 dL_setLabel_5 rfl (lv_at hl 2 rfl) ?_
  refine lv_iload_n X.1 X.2.1 dL_setLabel_6 rfl (lv_at hl 3 rfl) ?_
  refine mr_goX X hT hd (mr_runVX X hT cb_RL_20 kw330 kw331 kw332 (c_setLabelF hfl hA ho hi) (mr_cell X hT (mw_or_l hA.gate) rfl) rfl rfl hl.1 ⟨Nat.le_of_ble_eq_true rfl, Nat.le_of_ble_eq_true rfl⟩ (Nat.le_of_ble_eq_true rfl) dL_setLabel_7 ⟨Nat.le_of_ble_eq_true rfl, Nat.le_of_ble_eq_true rfl⟩) (fun E ce9 q9 H locs hp hT h1 h2 h3 => ?_) (fun v M1 H locs hp hd hT => ?_)
  · rcases hp with ⟨rfl, hc⟩ | ⟨rfl, hc⟩
    · refine mr_catch X hN (pre := []) (x := (0, 12, 15, 24)) (suf := [(0, 12, 19, 13)]) htab (fun z hz => nomatch hz) (by decide) (by decide) kw328 kw339 h1 h2 h3 ?_
      refine lv_astore X.1 X.2.1 dL_setLabel_15 hl (by decide) rfl (fun ls hl => ?_)
      refine lv_iconst X.1 X.2.1 (v := 1) dL_setLabel_17 (by decide) ?_
      exact mr_iretX X hT hret (⟨_, rfl, Mx, f, hc.symm, rfl, hd, by rw [if_neg (by rw [hc]; decide)]; exact ⟨b, rfl, w, hA, ho⟩, fun z => absurd (hc.symm.trans z) (by decide)⟩) (Nat.le_of_ble_eq_true rfl) (Nat.le_of_ble_eq_true rfl) dL_setLabel_18
    · refine mr_catch X hN (pre := [(0, 12, 15, 24)]) (x := (0, 12, 19, 13)) (suf := []) htab (fun z hz => by rcases List.mem_singleton.mp hz with rfl; exact ⟨by decide, _, kw328, by decide⟩) (by decide) (by decide) kw125 kw133 h1 h2 h3 ?_
      refine lv_astore X.1 X.2.1 dL_setLabel_19 hl (by decide) rfl (fun ls hl => ?_)
      refine lv_iconst X.1 X.2.1 (v := 2) dL_setLabel_21 (by decide) ?_
      exact mr_iretX X hT hret (⟨_, rfl, Mx, f, hc.symm, rfl, hd, by rw [if_neg (by rw [hc]; decide)]; exact ⟨b, rfl, w, hA, ho⟩, fun z => absurd (hc.symm.trans z) (by decide)⟩) (Nat.le_of_ble_eq_true rfl) (Nat.le_of_ble_eq_true rfl) dL_setLabel_22
  obtain ⟨r, rfl, hc, rfl, hout⟩ := hp
  refine W.eq (g2 := F0 zm 10 ls (.int _ :: _)) rfl ?_
  refine lv_i2l X.1 X.2.1 dL_setLabel_10 rfl ?_
  refine mr_last X hT (mo_at hd) (vp_in_nI (n := 0) (show 0 < 1 by decide) (by decide)) dL_setLabel_11 (fun H locs hT => ?_)
  rw [mo_set hd] at hT
  refine lv_goto X.1 X.2.1 (tgt := 23) dL_setLabel_12 (by decide) ?_
  refine lv_iconst X.1 X.2.1 (v := 0) dL_setLabel_23 (by decide) ?_
  exact mr_iretX X hT hret (⟨_, rfl, M1, _, hc.symm, rfl, mo_ds (g := _) hd, by rw [if_pos hc]; exact hout, fun _ => by rw [vpL0]⟩) (Nat.le_of_ble_eq_true rfl) (Nat.le_of_ble_eq_true rfl) dL_setLabel_24

abbrev rm_L_takeAway : Room := { frames := 8, cells := 2, slots := 12, locals := 145 }
set_option maxHeartbeats 4000000 in
set_option maxRecDepth 100000 in
theorem l_takeAway {l : Launch} (hfl : l.stackTraces = false) {G : mw_G} {b : c_B} {x : s_T} {w : c_W} {Mx : mw_M} {o : Nat} {f : Nat → Int64} {p mm : Int32}  (hA : CA G b x w Mx) (ho : c_ok (ct x 5) b x w) (hi : q_inv 511 x) (hd : mw_ds Mx (mo G o f)) : mw_MetN l G yL_takeAway (.codeWith yL_takeAway cL_takeAway 5 (some .int) [(0, 10, 13, 24)]) rm_L_takeAway [.ref (b 0 0), .int p, .int mm, .ref o] (mw_or Mx (mo G o f)) (l_po G b o (f_takeAway_c x p mm) ((f_takeAway_s x p mm).1) x (fun v => v = Int32.toInt64 ((f_takeAway_s x p mm).2))) := by
  refine mw_ofN hfl (by decide) (Nat.le_of_ble_eq_true rfl) ?_
  intro zp ze zs zm zb zh zc ls X hin hret htab hN hT hl
  have hl : lv_has ls 5 [(0, .ref (b 0 0)), (1, .int p), (2, .int mm), (3, .ref o)] := hl
  refine lv_aload_n X.1 X.2.1 dL_takeAway_0 rfl (lv_at hl 3 rfl) ?_
  refine lv_iconst X.1 X.2.1 (v := 0) dL_takeAway_1 (by decide) ?_
  refine lv_aload_n X.1 X.2.1 dL_takeAway_2 rfl (lv_at hl 0 rfl) ?_
  refine lv_iload_n X.1 X.2.1 dL_takeAway_3 rfl (lv_at hl 1 rfl) ?_
  refine lv_iload_n X.1 X.2.1 dL_takeAway_4 rfl (lv_at hl 2 rfl) ?_
  refine mr_goX X hT hd (mr_runVX X hT cb_RL_26 kw418 kw419 kw420 (c_takeAway hfl hA ho hi) (mr_cell X hT (mw_or_l hA.gate) rfl) rfl rfl hl.1 ⟨Nat.le_of_ble_eq_true rfl, Nat.le_of_ble_eq_true rfl⟩ (Nat.le_of_ble_eq_true rfl) dL_takeAway_5 ⟨Nat.le_of_ble_eq_true rfl, Nat.le_of_ble_eq_true rfl⟩) (fun E ce9 q9 H locs hp hT h1 h2 h3 => ?_) (fun v M1 H locs hp hd hT => ?_)
  · rcases hp with ⟨rfl, hc⟩
    · refine mr_catch X hN (pre := []) (x := (0, 10, 13, 24)) (suf := []) htab (fun z hz => nomatch hz) (by decide) (by decide) kw328 kw339 h1 h2 h3 ?_
      refine lv_astore X.1 X.2.1 dL_takeAway_13 hl (by decide) rfl (fun ls hl => ?_)
      refine lv_iconst X.1 X.2.1 (v := 1) dL_takeAway_15 (by decide) ?_
      exact mr_iretX X hT hret (⟨_, rfl, Mx, f, hc.symm, rfl, hd, by rw [if_neg (by rw [hc]; decide)]; exact ⟨b, rfl, w, hA, ho⟩, fun z => absurd (hc.symm.trans z) (by decide)⟩) (Nat.le_of_ble_eq_true rfl) (Nat.le_of_ble_eq_true rfl) dL_takeAway_16
  obtain ⟨r, rfl, hc, rfl, hout⟩ := hp
  refine W.eq (g2 := F0 zm 8 ls (.int _ :: _)) rfl ?_
  refine lv_i2l X.1 X.2.1 dL_takeAway_8 rfl ?_
  refine mr_last X hT (mo_at hd) (vp_in_nI (n := 0) (show 0 < 1 by decide) (by decide)) dL_takeAway_9 (fun H locs hT => ?_)
  rw [mo_set hd] at hT
  refine lv_goto X.1 X.2.1 (tgt := 17) dL_takeAway_10 (by decide) ?_
  refine lv_iconst X.1 X.2.1 (v := 0) dL_takeAway_17 (by decide) ?_
  exact mr_iretX X hT hret (⟨_, rfl, M1, _, hc.symm, rfl, mo_ds (g := _) hd, by rw [if_pos hc]; exact hout, fun _ => by rw [vpL0]⟩) (Nat.le_of_ble_eq_true rfl) (Nat.le_of_ble_eq_true rfl) dL_takeAway_18

abbrev rm_L_ask : Room := { frames := 8, cells := 6, slots := 1330, locals := 252 }
set_option maxHeartbeats 4000000 in
set_option maxRecDepth 100000 in
theorem l_ask {l : Launch} (hfl : l.stackTraces = false) {G : mw_G} {b : c_B} {x : s_T} {w : c_W} {Mx : mw_M} {o : Nat} {f : Nat → Int64} {p mm t : Int32}  (hA : CA G b x w Mx) (ho : c_ok (ct x 5) b x w) (hi : q_inv 511 x) (hd : mw_ds Mx (mo G o f)) : mw_MetN l G yL_ask (.codeWith yL_ask cL_ask 6 (some .int) [(0, 12, 15, 24), (0, 12, 19, 13), (0, 12, 23, 15)]) rm_L_ask [.ref (b 0 0), .int p, .int mm, .int t, .ref o] (mw_or Mx (mo G o f)) (l_po G b o (f_ask_c x p mm t) (f_ask_s x p mm t) x (fun v => v = Int32.toInt64 (nI (ct x 17)))) := by
  refine mw_ofN hfl (by decide) (Nat.le_of_ble_eq_true rfl) ?_
  intro zp ze zs zm zb zh zc ls X hin hret htab hN hT hl
  have hl : lv_has ls 6 [(0, .ref (b 0 0)), (1, .int p), (2, .int mm), (3, .int t), (4, .ref o)] := hl
  refine lv_aload X.1 X.2.1 dL_ask_0 (lv_at hl 4 rfl) ?_
  refine lv_iconst X.1 X.2.1 (v := 0) dL_ask_2 (by decide) ?_
  refine lv_aload_n X.1 X.2.1 dL_ask_3 rfl (lv_at hl 0 rfl) ?_
  refine lv_iload_n X.1 X.2.1 dL_ask_4 rfl (lv_at hl 1 rfl) ?_
  refine lv_iload_n X.1 X.2.1 dL_ask_5 rfl (lv_at hl 2 rfl) ?_
  refine lv_iload_n X.1 X.2.1 dL_ask_6 rfl (lv_at hl 3 rfl) ?_
  refine mr_goX X hT hd (mr_runVX X hT cb_RL_30 kw430 kw431 kw432 (c_ask hfl hA ho hi) (mr_cell X hT (mw_or_l hA.gate) rfl) rfl rfl hl.1 ⟨Nat.le_of_ble_eq_true rfl, Nat.le_of_ble_eq_true rfl⟩ (Nat.le_of_ble_eq_true rfl) dL_ask_7 ⟨Nat.le_of_ble_eq_true rfl, Nat.le_of_ble_eq_true rfl⟩) (fun E ce9 q9 H locs hp hT h1 h2 h3 => ?_) (fun v M1 H locs hp hd hT => ?_)
  · rcases hp with ⟨rfl, hc⟩ | ⟨rfl, hc⟩ | ⟨rfl, hc⟩
    · refine mr_catch X hN (pre := []) (x := (0, 12, 15, 24)) (suf := [(0, 12, 19, 13), (0, 12, 23, 15)]) htab (fun z hz => nomatch hz) (by decide) (by decide) kw328 kw339 h1 h2 h3 ?_
      refine lv_astore X.1 X.2.1 dL_ask_15 hl (by decide) rfl (fun ls hl => ?_)
      refine lv_iconst X.1 X.2.1 (v := 1) dL_ask_17 (by decide) ?_
      exact mr_iretX X hT hret (⟨_, rfl, Mx, f, hc.symm, rfl, hd, by rw [if_neg (by rw [hc]; decide)]; exact ⟨b, rfl, w, hA, ho⟩, fun z => absurd (hc.symm.trans z) (by decide)⟩) (Nat.le_of_ble_eq_true rfl) (Nat.le_of_ble_eq_true rfl) dL_ask_18
    · refine mr_catch X hN (pre := [(0, 12, 15, 24)]) (x := (0, 12, 19, 13)) (suf := [(0, 12, 23, 15)]) htab (fun z hz => by rcases List.mem_singleton.mp hz with rfl; exact ⟨by decide, _, kw328, by decide⟩) (by decide) (by decide) kw125 kw133 h1 h2 h3 ?_
      refine lv_astore X.1 X.2.1 dL_ask_19 hl (by decide) rfl (fun ls hl => ?_)
      refine lv_iconst X.1 X.2.1 (v := 2) dL_ask_21 (by decide) ?_
      exact mr_iretX X hT hret (⟨_, rfl, Mx, f, hc.symm, rfl, hd, by rw [if_neg (by rw [hc]; decide)]; exact ⟨b, rfl, w, hA, ho⟩, fun z => absurd (hc.symm.trans z) (by decide)⟩) (Nat.le_of_ble_eq_true rfl) (Nat.le_of_ble_eq_true rfl) dL_ask_22
    · refine mr_catch X hN (pre := [(0, 12, 15, 24), (0, 12, 19, 13)]) (x := (0, 12, 23, 15)) (suf := []) htab (fun z hz => by rcases List.mem_cons.mp hz with rfl | hz; exact ⟨by decide, _, kw328, by decide⟩; rcases List.mem_singleton.mp hz with rfl; exact ⟨by decide, _, kw125, by decide⟩) (by decide) (by decide) kw126 kw205 h1 h2 h3 ?_
      refine lv_astore X.1 X.2.1 dL_ask_23 hl (by decide) rfl (fun ls hl => ?_)
      refine lv_iconst X.1 X.2.1 (v := 3) dL_ask_25 (by decide) ?_
      exact mr_iretX X hT hret (⟨_, rfl, Mx, f, hc.symm, rfl, hd, by rw [if_neg (by rw [hc]; decide)]; exact ⟨b, rfl, w, hA, ho⟩, fun z => absurd (hc.symm.trans z) (by decide)⟩) (Nat.le_of_ble_eq_true rfl) (Nat.le_of_ble_eq_true rfl) dL_ask_26
  obtain ⟨r, rfl, hc, rfl, hout⟩ := hp
  refine W.eq (g2 := F0 zm 10 ls (.int _ :: _)) rfl ?_
  refine lv_i2l X.1 X.2.1 dL_ask_10 rfl ?_
  refine mr_last X hT (mo_at hd) (vp_in_nI (n := 0) (show 0 < 1 by decide) (by decide)) dL_ask_11 (fun H locs hT => ?_)
  rw [mo_set hd] at hT
  refine lv_goto X.1 X.2.1 (tgt := 27) dL_ask_12 (by decide) ?_
  refine lv_iconst X.1 X.2.1 (v := 0) dL_ask_27 (by decide) ?_
  exact mr_iretX X hT hret (⟨_, rfl, M1, _, hc.symm, rfl, mo_ds (g := _) hd, by rw [if_pos hc]; exact hout, fun _ => by rw [vpL0]⟩) (Nat.le_of_ble_eq_true rfl) (Nat.le_of_ble_eq_true rfl) dL_ask_28

abbrev rm_L_approve : Room := { frames := 8, cells := 6, slots := 1328, locals := 250 }
set_option maxHeartbeats 4000000 in
set_option maxRecDepth 100000 in
theorem l_approve {l : Launch} (hfl : l.stackTraces = false) {G : mw_G} {b : c_B} {x : s_T} {w : c_W} {Mx : mw_M} {o : Nat} {f : Nat → Int64} {p mm : Int32}  (hA : CA G b x w Mx) (ho : c_ok (ct x 5) b x w) (hi : q_inv 511 x) (hd : mw_ds Mx (mo G o f)) : mw_MetN l G yL_approve (.codeWith yL_approve cL_approve 5 (some .int) [(0, 17, 20, 24), (0, 17, 24, 15)]) rm_L_approve [.ref (b 0 0), .int p, .int mm, .ref o] (mw_or Mx (mo G o f)) (l_po G b o (f_approve_c x p mm) ((f_approve_s x p mm).1) x (fun v => v = if (f_approve_s x p mm).2 = 0 then 0 else 1)) := by
  refine mw_ofN hfl (by decide) (Nat.le_of_ble_eq_true rfl) ?_
  intro zp ze zs zm zb zh zc ls X hin hret htab hN hT hl
  have hl : lv_has ls 5 [(0, .ref (b 0 0)), (1, .int p), (2, .int mm), (3, .ref o)] := hl
  refine lv_aload_n X.1 X.2.1 dL_approve_0 rfl (lv_at hl 3 rfl) ?_
  refine lv_iconst X.1 X.2.1 (v := 0) dL_approve_1 (by decide) ?_
  refine lv_aload_n X.1 X.2.1 dL_approve_2 rfl (lv_at hl 0 rfl) ?_
  refine lv_iload_n X.1 X.2.1 dL_approve_3 rfl (lv_at hl 1 rfl) ?_
  refine lv_iload_n X.1 X.2.1 dL_approve_4 rfl (lv_at hl 2 rfl) ?_
  refine mr_goX X hT hd (mr_runVX X hT cb_RL_34 kw490 kw491 kw492 (c_approve hfl hA ho hi) (mr_cell X hT (mw_or_l hA.gate) rfl) rfl rfl hl.1 ⟨Nat.le_of_ble_eq_true rfl, Nat.le_of_ble_eq_true rfl⟩ (Nat.le_of_ble_eq_true rfl) dL_approve_5 ⟨Nat.le_of_ble_eq_true rfl, Nat.le_of_ble_eq_true rfl⟩) (fun E ce9 q9 H locs hp hT h1 h2 h3 => ?_) (fun v M1 H locs hp hd hT => ?_)
  · rcases hp with ⟨rfl, hc⟩ | ⟨rfl, hc⟩
    · refine mr_catch X hN (pre := []) (x := (0, 17, 20, 24)) (suf := [(0, 17, 24, 15)]) htab (fun z hz => nomatch hz) (by decide) (by decide) kw328 kw339 h1 h2 h3 ?_
      refine lv_astore X.1 X.2.1 dL_approve_20 hl (by decide) rfl (fun ls hl => ?_)
      refine lv_iconst X.1 X.2.1 (v := 1) dL_approve_22 (by decide) ?_
      exact mr_iretX X hT hret (⟨_, rfl, Mx, f, hc.symm, rfl, hd, by rw [if_neg (by rw [hc]; decide)]; exact ⟨b, rfl, w, hA, ho⟩, fun z => absurd (hc.symm.trans z) (by decide)⟩) (Nat.le_of_ble_eq_true rfl) (Nat.le_of_ble_eq_true rfl) dL_approve_23
    · refine mr_catch X hN (pre := [(0, 17, 20, 24)]) (x := (0, 17, 24, 15)) (suf := []) htab (fun z hz => by rcases List.mem_singleton.mp hz with rfl; exact ⟨by decide, _, kw328, by decide⟩) (by decide) (by decide) kw126 kw205 h1 h2 h3 ?_
      refine lv_astore X.1 X.2.1 dL_approve_24 hl (by decide) rfl (fun ls hl => ?_)
      refine lv_iconst X.1 X.2.1 (v := 2) dL_approve_26 (by decide) ?_
      exact mr_iretX X hT hret (⟨_, rfl, Mx, f, hc.symm, rfl, hd, by rw [if_neg (by rw [hc]; decide)]; exact ⟨b, rfl, w, hA, ho⟩, fun z => absurd (hc.symm.trans z) (by decide)⟩) (Nat.le_of_ble_eq_true rfl) (Nat.le_of_ble_eq_true rfl) dL_approve_27
  obtain ⟨r, rfl, hc, rfl, hout⟩ := hp
  refine W.eq (g2 := F0 zm 8 ls (.int _ :: _)) rfl ?_
  refine lv_if_eq X.1 X.2.1 (tgt := 15) dL_approve_8 (by decide) (fun c8 => ?_) (fun c8 => ?_)
  · skip
    refine lv_lconst X.1 X.2.1 (v := 0) dL_approve_15 (by decide) ?_
    refine mr_last X hT (mo_at hd) (vp_in_nI (n := 0) (show 0 < 1 by decide) (by decide)) dL_approve_16 (fun H locs hT => ?_)
    rw [mo_set hd] at hT
    refine lv_goto X.1 X.2.1 (tgt := 28) dL_approve_17 (by decide) ?_
    refine lv_iconst X.1 X.2.1 (v := 0) dL_approve_28 (by decide) ?_
    exact mr_iretX X hT hret (⟨_, rfl, M1, _, hc.symm, rfl, mo_ds (g := _) hd, by rw [if_pos hc]; exact hout, fun _ => by rw [vpL0]; first | exact (if_pos c8).symm | exact (if_neg c8).symm⟩) (Nat.le_of_ble_eq_true rfl) (Nat.le_of_ble_eq_true rfl) dL_approve_29
  · skip
    refine lv_lconst X.1 X.2.1 (v := 1) dL_approve_11 (by decide) ?_
    refine lv_goto X.1 X.2.1 (tgt := 16) dL_approve_12 (by decide) ?_
    refine mr_last X hT (mo_at hd) (vp_in_nI (n := 0) (show 0 < 1 by decide) (by decide)) dL_approve_16 (fun H locs hT => ?_)
    rw [mo_set hd] at hT
    refine lv_goto X.1 X.2.1 (tgt := 28) dL_approve_17 (by decide) ?_
    refine lv_iconst X.1 X.2.1 (v := 0) dL_approve_28 (by decide) ?_
    exact mr_iretX X hT hret (⟨_, rfl, M1, _, hc.symm, rfl, mo_ds (g := _) hd, by rw [if_pos hc]; exact hout, fun _ => by rw [vpL0]; first | exact (if_pos c8).symm | exact (if_neg c8).symm⟩) (Nat.le_of_ble_eq_true rfl) (Nat.le_of_ble_eq_true rfl) dL_approve_29

abbrev rm_L_deny : Room := { frames := 8, cells := 3, slots := 18, locals := 146 }
set_option maxHeartbeats 4000000 in
set_option maxRecDepth 100000 in
theorem l_deny {l : Launch} (hfl : l.stackTraces = false) {G : mw_G} {b : c_B} {x : s_T} {w : c_W} {Mx : mw_M} {o : Nat} {f : Nat → Int64} {p mm : Int32}  (hA : CA G b x w Mx) (ho : c_ok (ct x 5) b x w) (hi : q_inv 511 x) (hd : mw_ds Mx (mo G o f)) : mw_MetN l G yL_deny (.codeWith yL_deny cL_deny 4 (some .int) [(0, 6, 9, 24), (0, 6, 12, 15)]) rm_L_deny [.ref (b 0 0), .int p, .int mm] (mw_or Mx (mo G o f)) (l_po G b o (f_deny_c x p mm) (f_deny_s x p mm) x (fun _ => True)) := by
  refine mw_ofN hfl (by decide) (Nat.le_of_ble_eq_true rfl) ?_
  intro zp ze zs zm zb zh zc ls X hin hret htab hN hT hl
  have hl : lv_has ls 4 [(0, .ref (b 0 0)), (1, .int p), (2, .int mm)] := hl
  refine lv_aload_n X.1 X.2.1 dL_deny_0 rfl (lv_at hl 0 rfl) ?_
  refine lv_iload_n X.1 X.2.1 dL_deny_1 rfl (lv_at hl 1 rfl) ?_
  refine lv_iload_n X.1 X.2.1 dL_deny_2 rfl (lv_at hl 2 rfl) ?_
  refine mr_goX X hT hd (mr_runVX X hT cb_RL_38 kw534 kw535 kw536 (c_deny hfl hA ho hi) (mr_cell X hT (mw_or_l hA.gate) rfl) rfl rfl hl.1 ⟨Nat.le_of_ble_eq_true rfl, Nat.le_of_ble_eq_true rfl⟩ (Nat.le_of_ble_eq_true rfl) dL_deny_3 ⟨Nat.le_of_ble_eq_true rfl, Nat.le_of_ble_eq_true rfl⟩) (fun E ce9 q9 H locs hp hT h1 h2 h3 => ?_) (fun v M1 H locs hp hd hT => ?_)
  · rcases hp with ⟨rfl, hc⟩ | ⟨rfl, hc⟩
    · refine mr_catch X hN (pre := []) (x := (0, 6, 9, 24)) (suf := [(0, 6, 12, 15)]) htab (fun z hz => nomatch hz) (by decide) (by decide) kw328 kw339 h1 h2 h3 ?_
      refine lv_astore_n X.1 X.2.1 dL_deny_9 rfl hl (by decide) rfl (fun ls hl => ?_)
      refine lv_iconst X.1 X.2.1 (v := 1) dL_deny_10 (by decide) ?_
      exact mr_iretX X hT hret (⟨_, rfl, Mx, f, hc.symm, rfl, hd, by rw [if_neg (by rw [hc]; decide)]; exact ⟨b, rfl, w, hA, ho⟩, fun z => absurd (hc.symm.trans z) (by decide)⟩) (Nat.le_of_ble_eq_true rfl) (Nat.le_of_ble_eq_true rfl) dL_deny_11
    · refine mr_catch X hN (pre := [(0, 6, 9, 24)]) (x := (0, 6, 12, 15)) (suf := []) htab (fun z hz => by rcases List.mem_singleton.mp hz with rfl; exact ⟨by decide, _, kw328, by decide⟩) (by decide) (by decide) kw126 kw205 h1 h2 h3 ?_
      refine lv_astore_n X.1 X.2.1 dL_deny_12 rfl hl (by decide) rfl (fun ls hl => ?_)
      refine lv_iconst X.1 X.2.1 (v := 2) dL_deny_13 (by decide) ?_
      exact mr_iretX X hT hret (⟨_, rfl, Mx, f, hc.symm, rfl, hd, by rw [if_neg (by rw [hc]; decide)]; exact ⟨b, rfl, w, hA, ho⟩, fun z => absurd (hc.symm.trans z) (by decide)⟩) (Nat.le_of_ble_eq_true rfl) (Nat.le_of_ble_eq_true rfl) dL_deny_14
  obtain ⟨rfl, hc, hout⟩ := hp
  refine W.eq (g2 := F0 zm 6 ls _) rfl ?_
  refine lv_goto X.1 X.2.1 (tgt := 15) dL_deny_6 (by decide) ?_
  refine lv_iconst X.1 X.2.1 (v := 0) dL_deny_15 (by decide) ?_
  exact mr_iretX X hT hret (⟨_, rfl, M1, f, hc.symm, rfl, hd, by rw [if_pos hc]; exact hout, fun _ => trivial⟩) (Nat.le_of_ble_eq_true rfl) (Nat.le_of_ble_eq_true rfl) dL_deny_16

abbrev rm_L_askState : Room := { frames := 8, cells := 1, slots := 6, locals := 142 }
set_option maxHeartbeats 4000000 in
set_option maxRecDepth 100000 in
theorem l_askState {l : Launch} (hfl : l.stackTraces = false) {G : mw_G} {b : c_B} {x : s_T} {w : c_W} {Mx : mw_M} {o : Nat} {f : Nat → Int64} {p : Int32}  (hA : CA G b x w Mx) (ho : c_ok (ct x 5) b x w) (hi : q_inv 511 x) (hd : mw_ds Mx (mo G o f)) : mw_MetN l G yL_askState (.codeWith yL_askState cL_askState 4 (some .int) [(0, 9, 12, 24)]) rm_L_askState [.ref (b 0 0), .int p, .ref o] (mw_or Mx (mo G o f)) (l_po G b o (f_askState_c x p) (x) x (fun v => v = Int32.toInt64 (cg x 15 (pn p)))) := by
  refine mw_ofN hfl (by decide) (Nat.le_of_ble_eq_true rfl) ?_
  intro zp ze zs zm zb zh zc ls X hin hret htab hN hT hl
  have hl : lv_has ls 4 [(0, .ref (b 0 0)), (1, .int p), (2, .ref o)] := hl
  refine lv_aload_n X.1 X.2.1 dL_askState_0 rfl (lv_at hl 2 rfl) ?_
  refine lv_iconst X.1 X.2.1 (v := 0) dL_askState_1 (by decide) ?_
  refine lv_aload_n X.1 X.2.1 dL_askState_2 rfl (lv_at hl 0 rfl) ?_
  refine lv_iload_n X.1 X.2.1 dL_askState_3 rfl (lv_at hl 1 rfl) ?_
  refine mr_goX X hT hd (mr_runVX X hT cb_RL_42 kw541 kw542 kw543 (c_askState hfl hA ho hi) (mr_cell X hT (mw_or_l hA.gate) rfl) rfl rfl hl.1 ⟨Nat.le_of_ble_eq_true rfl, Nat.le_of_ble_eq_true rfl⟩ (Nat.le_of_ble_eq_true rfl) dL_askState_4 ⟨Nat.le_of_ble_eq_true rfl, Nat.le_of_ble_eq_true rfl⟩) (fun E ce9 q9 H locs hp hT h1 h2 h3 => ?_) (fun v M1 H locs hp hd hT => ?_)
  · rcases hp with ⟨rfl, hc⟩
    · refine mr_catch X hN (pre := []) (x := (0, 9, 12, 24)) (suf := []) htab (fun z hz => nomatch hz) (by decide) (by decide) kw328 kw339 h1 h2 h3 ?_
      refine lv_astore_n X.1 X.2.1 dL_askState_12 rfl hl (by decide) rfl (fun ls hl => ?_)
      refine lv_iconst X.1 X.2.1 (v := 1) dL_askState_13 (by decide) ?_
      exact mr_iretX X hT hret (⟨_, rfl, Mx, f, hc.symm, rfl, hd, by rw [if_neg (by rw [hc]; decide)]; exact ⟨b, rfl, w, hA, ho⟩, fun z => absurd (hc.symm.trans z) (by decide)⟩) (Nat.le_of_ble_eq_true rfl) (Nat.le_of_ble_eq_true rfl) dL_askState_14
  obtain ⟨r, rfl, hc, rfl, hout⟩ := hp
  refine W.eq (g2 := F0 zm 7 ls (.int _ :: _)) rfl ?_
  refine lv_i2l X.1 X.2.1 dL_askState_7 rfl ?_
  refine mr_last X hT (mo_at hd) (vp_in_nI (n := 0) (show 0 < 1 by decide) (by decide)) dL_askState_8 (fun H locs hT => ?_)
  rw [mo_set hd] at hT
  refine lv_goto X.1 X.2.1 (tgt := 15) dL_askState_9 (by decide) ?_
  refine lv_iconst X.1 X.2.1 (v := 0) dL_askState_15 (by decide) ?_
  exact mr_iretX X hT hret (⟨_, rfl, M1, _, hc.symm, rfl, mo_ds (g := _) hd, by rw [if_pos hc]; exact hout, fun _ => by rw [vpL0]⟩) (Nat.le_of_ble_eq_true rfl) (Nat.le_of_ble_eq_true rfl) dL_askState_16

abbrev rm_L_enter : Room := { frames := 8, cells := 7, slots := 2626, locals := 251 }
set_option maxHeartbeats 4000000 in
set_option maxRecDepth 100000 in
theorem l_enter {l : Launch} (hfl : l.stackTraces = false) {G : mw_G} {b : c_B} {x : s_T} {w : c_W} {Mx : mw_M} {o : Nat} {f : Nat → Int64} {p mm : Int32}  (hA : CA G b x w Mx) (ho : c_ok (ct x 5) b x w) (hi : q_inv 511 x) (hd : mw_ds Mx (mo G o f)) : mw_MetN l G yL_enter (.codeWith yL_enter cL_enter 5 (some .int) [(0, 10, 13, 24), (0, 10, 17, 15)]) rm_L_enter [.ref (b 0 0), .int p, .int mm, .ref o] (mw_or Mx (mo G o f)) (l_po G b o (f_enter_c x p mm) (f_enter_s x p mm) x (fun v => v = Int32.toInt64 (nI (ct x 22)))) := by
  refine mw_ofN hfl (by decide) (Nat.le_of_ble_eq_true rfl) ?_
  intro zp ze zs zm zb zh zc ls X hin hret htab hN hT hl
  have hl : lv_has ls 5 [(0, .ref (b 0 0)), (1, .int p), (2, .int mm), (3, .ref o)] := hl
  refine lv_aload_n X.1 X.2.1 dL_enter_0 rfl (lv_at hl 3 rfl) ?_
  refine lv_iconst X.1 X.2.1 (v := 0) dL_enter_1 (by decide) ?_
  refine lv_aload_n X.1 X.2.1 dL_enter_2 rfl (lv_at hl 0 rfl) ?_
  refine lv_iload_n X.1 X.2.1 dL_enter_3 rfl (lv_at hl 1 rfl) ?_
  refine lv_iload_n X.1 X.2.1 dL_enter_4 rfl (lv_at hl 2 rfl) ?_
  refine mr_goX X hT hd (mr_runVX X hT cb_RL_45 kw548 kw549 kw550 (c_enter hfl hA ho hi) (mr_cell X hT (mw_or_l hA.gate) rfl) rfl rfl hl.1 ⟨Nat.le_of_ble_eq_true rfl, Nat.le_of_ble_eq_true rfl⟩ (Nat.le_of_ble_eq_true rfl) dL_enter_5 ⟨Nat.le_of_ble_eq_true rfl, Nat.le_of_ble_eq_true rfl⟩) (fun E ce9 q9 H locs hp hT h1 h2 h3 => ?_) (fun v M1 H locs hp hd hT => ?_)
  · rcases hp with ⟨rfl, hc⟩ | ⟨rfl, hc⟩
    · refine mr_catch X hN (pre := []) (x := (0, 10, 13, 24)) (suf := [(0, 10, 17, 15)]) htab (fun z hz => nomatch hz) (by decide) (by decide) kw328 kw339 h1 h2 h3 ?_
      refine lv_astore X.1 X.2.1 dL_enter_13 hl (by decide) rfl (fun ls hl => ?_)
      refine lv_iconst X.1 X.2.1 (v := 1) dL_enter_15 (by decide) ?_
      exact mr_iretX X hT hret (⟨_, rfl, Mx, f, hc.symm, rfl, hd, by rw [if_neg (by rw [hc]; decide)]; exact ⟨b, rfl, w, hA, ho⟩, fun z => absurd (hc.symm.trans z) (by decide)⟩) (Nat.le_of_ble_eq_true rfl) (Nat.le_of_ble_eq_true rfl) dL_enter_16
    · refine mr_catch X hN (pre := [(0, 10, 13, 24)]) (x := (0, 10, 17, 15)) (suf := []) htab (fun z hz => by rcases List.mem_singleton.mp hz with rfl; exact ⟨by decide, _, kw328, by decide⟩) (by decide) (by decide) kw126 kw205 h1 h2 h3 ?_
      refine lv_astore X.1 X.2.1 dL_enter_17 hl (by decide) rfl (fun ls hl => ?_)
      refine lv_iconst X.1 X.2.1 (v := 2) dL_enter_19 (by decide) ?_
      exact mr_iretX X hT hret (⟨_, rfl, Mx, f, hc.symm, rfl, hd, by rw [if_neg (by rw [hc]; decide)]; exact ⟨b, rfl, w, hA, ho⟩, fun z => absurd (hc.symm.trans z) (by decide)⟩) (Nat.le_of_ble_eq_true rfl) (Nat.le_of_ble_eq_true rfl) dL_enter_20
  obtain ⟨r, rfl, hc, rfl, hout⟩ := hp
  refine W.eq (g2 := F0 zm 8 ls (.int _ :: _)) rfl ?_
  refine lv_i2l X.1 X.2.1 dL_enter_8 rfl ?_
  refine mr_last X hT (mo_at hd) (vp_in_nI (n := 0) (show 0 < 1 by decide) (by decide)) dL_enter_9 (fun H locs hT => ?_)
  rw [mo_set hd] at hT
  refine lv_goto X.1 X.2.1 (tgt := 21) dL_enter_10 (by decide) ?_
  refine lv_iconst X.1 X.2.1 (v := 0) dL_enter_21 (by decide) ?_
  exact mr_iretX X hT hret (⟨_, rfl, M1, _, hc.symm, rfl, mo_ds (g := _) hd, by rw [if_pos hc]; exact hout, fun _ => by rw [vpL0]⟩) (Nat.le_of_ble_eq_true rfl) (Nat.le_of_ble_eq_true rfl) dL_enter_22

abbrev rm_L_lookAt : Room := { frames := 8, cells := 3, slots := 18, locals := 145 }
set_option maxHeartbeats 4000000 in
set_option maxRecDepth 100000 in
theorem l_lookAt {l : Launch} (hfl : l.stackTraces = false) {G : mw_G} {b : c_B} {x : s_T} {w : c_W} {Mx : mw_M} {o : Nat} {f : Nat → Int64} {p mm : Int32}  (hA : CA G b x w Mx) (ho : c_ok (ct x 5) b x w) (hi : q_inv 511 x) (hd : mw_ds Mx (mo G o f)) : mw_MetN l G yL_lookAt (.codeWith yL_lookAt cL_lookAt 5 (some .int) [(0, 10, 13, 24), (0, 10, 17, 15)]) rm_L_lookAt [.ref (b 0 0), .int p, .int mm, .ref o] (mw_or Mx (mo G o f)) (l_po G b o (f_lookAt_c x p mm) (f_lookAt_s x p mm) x (fun v => v = Int32.toInt64 (q_now x - cg x 20 (pn p)))) := by
  refine mw_ofN hfl (by decide) (Nat.le_of_ble_eq_true rfl) ?_
  intro zp ze zs zm zb zh zc ls X hin hret htab hN hT hl
  have hl : lv_has ls 5 [(0, .ref (b 0 0)), (1, .int p), (2, .int mm), (3, .ref o)] := hl
  refine lv_aload_n X.1 X.2.1 dL_lookAt_0 rfl (lv_at hl 3 rfl) ?_
  refine lv_iconst X.1 X.2.1 (v := 0) dL_lookAt_1 (by decide) ?_
  refine lv_aload_n X.1 X.2.1 dL_lookAt_2 rfl (lv_at hl 0 rfl) ?_
  refine lv_iload_n X.1 X.2.1 dL_lookAt_3 rfl (lv_at hl 1 rfl) ?_
  refine lv_iload_n X.1 X.2.1 dL_lookAt_4 rfl (lv_at hl 2 rfl) ?_
  refine mr_goX X hT hd (mr_runVX X hT cb_RL_48 kw576 kw577 kw578 (c_lookAt hfl hA ho hi) (mr_cell X hT (mw_or_l hA.gate) rfl) rfl rfl hl.1 ⟨Nat.le_of_ble_eq_true rfl, Nat.le_of_ble_eq_true rfl⟩ (Nat.le_of_ble_eq_true rfl) dL_lookAt_5 ⟨Nat.le_of_ble_eq_true rfl, Nat.le_of_ble_eq_true rfl⟩) (fun E ce9 q9 H locs hp hT h1 h2 h3 => ?_) (fun v M1 H locs hp hd hT => ?_)
  · rcases hp with ⟨rfl, hc⟩ | ⟨rfl, hc⟩
    · refine mr_catch X hN (pre := []) (x := (0, 10, 13, 24)) (suf := [(0, 10, 17, 15)]) htab (fun z hz => nomatch hz) (by decide) (by decide) kw328 kw339 h1 h2 h3 ?_
      refine lv_astore X.1 X.2.1 dL_lookAt_13 hl (by decide) rfl (fun ls hl => ?_)
      refine lv_iconst X.1 X.2.1 (v := 1) dL_lookAt_15 (by decide) ?_
      exact mr_iretX X hT hret (⟨_, rfl, Mx, f, hc.symm, rfl, hd, by rw [if_neg (by rw [hc]; decide)]; exact ⟨b, rfl, w, hA, ho⟩, fun z => absurd (hc.symm.trans z) (by decide)⟩) (Nat.le_of_ble_eq_true rfl) (Nat.le_of_ble_eq_true rfl) dL_lookAt_16
    · refine mr_catch X hN (pre := [(0, 10, 13, 24)]) (x := (0, 10, 17, 15)) (suf := []) htab (fun z hz => by rcases List.mem_singleton.mp hz with rfl; exact ⟨by decide, _, kw328, by decide⟩) (by decide) (by decide) kw126 kw205 h1 h2 h3 ?_
      refine lv_astore X.1 X.2.1 dL_lookAt_17 hl (by decide) rfl (fun ls hl => ?_)
      refine lv_iconst X.1 X.2.1 (v := 2) dL_lookAt_19 (by decide) ?_
      exact mr_iretX X hT hret (⟨_, rfl, Mx, f, hc.symm, rfl, hd, by rw [if_neg (by rw [hc]; decide)]; exact ⟨b, rfl, w, hA, ho⟩, fun z => absurd (hc.symm.trans z) (by decide)⟩) (Nat.le_of_ble_eq_true rfl) (Nat.le_of_ble_eq_true rfl) dL_lookAt_20
  obtain ⟨r, rfl, hc, rfl, hout⟩ := hp
  refine W.eq (g2 := F0 zm 8 ls (.int _ :: _)) rfl ?_
  refine lv_i2l X.1 X.2.1 dL_lookAt_8 rfl ?_
  refine mr_last X hT (mo_at hd) (vp_in_nI (n := 0) (show 0 < 1 by decide) (by decide)) dL_lookAt_9 (fun H locs hT => ?_)
  rw [mo_set hd] at hT
  refine lv_goto X.1 X.2.1 (tgt := 21) dL_lookAt_10 (by decide) ?_
  refine lv_iconst X.1 X.2.1 (v := 0) dL_lookAt_21 (by decide) ?_
  exact mr_iretX X hT hret (⟨_, rfl, M1, _, hc.symm, rfl, mo_ds (g := _) hd, by rw [if_pos hc]; exact hout, fun _ => by rw [vpL0]⟩) (Nat.le_of_ble_eq_true rfl) (Nat.le_of_ble_eq_true rfl) dL_lookAt_22

abbrev rm_L_overdue : Room := { frames := 8, cells := 1, slots := 6, locals := 142 }
set_option maxHeartbeats 4000000 in
set_option maxRecDepth 100000 in
theorem l_overdue {l : Launch} (hfl : l.stackTraces = false) {G : mw_G} {b : c_B} {x : s_T} {w : c_W} {Mx : mw_M} {o : Nat} {f : Nat → Int64} {p : Int32}  (hA : CA G b x w Mx) (ho : c_ok (ct x 5) b x w) (hi : q_inv 511 x) (hd : mw_ds Mx (mo G o f)) : mw_MetN l G yL_overdue (.codeWith yL_overdue cL_overdue 4 (some .int) [(0, 9, 12, 24)]) rm_L_overdue [.ref (b 0 0), .int p, .ref o] (mw_or Mx (mo G o f)) (l_po G b o (f_overdue_c x p) (x) x (fun v => v = Int32.toInt64 (q_over x p (ct x 22)))) := by
  refine mw_ofN hfl (by decide) (Nat.le_of_ble_eq_true rfl) ?_
  intro zp ze zs zm zb zh zc ls X hin hret htab hN hT hl
  have hl : lv_has ls 4 [(0, .ref (b 0 0)), (1, .int p), (2, .ref o)] := hl
  refine lv_aload_n X.1 X.2.1 dL_overdue_0 rfl (lv_at hl 2 rfl) ?_
  refine lv_iconst X.1 X.2.1 (v := 0) dL_overdue_1 (by decide) ?_
  refine lv_aload_n X.1 X.2.1 dL_overdue_2 rfl (lv_at hl 0 rfl) ?_
  refine lv_iload_n X.1 X.2.1 dL_overdue_3 rfl (lv_at hl 1 rfl) ?_
  refine mr_goX X hT hd (mr_runVX X hT cb_RL_51 kw590 kw591 kw592 (c_overdue hfl hA ho hi) (mr_cell X hT (mw_or_l hA.gate) rfl) rfl rfl hl.1 ⟨Nat.le_of_ble_eq_true rfl, Nat.le_of_ble_eq_true rfl⟩ (Nat.le_of_ble_eq_true rfl) dL_overdue_4 ⟨Nat.le_of_ble_eq_true rfl, Nat.le_of_ble_eq_true rfl⟩) (fun E ce9 q9 H locs hp hT h1 h2 h3 => ?_) (fun v M1 H locs hp hd hT => ?_)
  · rcases hp with ⟨rfl, hc⟩
    · refine mr_catch X hN (pre := []) (x := (0, 9, 12, 24)) (suf := []) htab (fun z hz => nomatch hz) (by decide) (by decide) kw328 kw339 h1 h2 h3 ?_
      refine lv_astore_n X.1 X.2.1 dL_overdue_12 rfl hl (by decide) rfl (fun ls hl => ?_)
      refine lv_iconst X.1 X.2.1 (v := 1) dL_overdue_13 (by decide) ?_
      exact mr_iretX X hT hret (⟨_, rfl, Mx, f, hc.symm, rfl, hd, by rw [if_neg (by rw [hc]; decide)]; exact ⟨b, rfl, w, hA, ho⟩, fun z => absurd (hc.symm.trans z) (by decide)⟩) (Nat.le_of_ble_eq_true rfl) (Nat.le_of_ble_eq_true rfl) dL_overdue_14
  obtain ⟨r, rfl, hc, rfl, hout⟩ := hp
  refine W.eq (g2 := F0 zm 7 ls (.int _ :: _)) rfl ?_
  refine lv_i2l X.1 X.2.1 dL_overdue_7 rfl ?_
  refine mr_last X hT (mo_at hd) (vp_in_nI (n := 0) (show 0 < 1 by decide) (by decide)) dL_overdue_8 (fun H locs hT => ?_)
  rw [mo_set hd] at hT
  refine lv_goto X.1 X.2.1 (tgt := 15) dL_overdue_9 (by decide) ?_
  refine lv_iconst X.1 X.2.1 (v := 0) dL_overdue_15 (by decide) ?_
  exact mr_iretX X hT hret (⟨_, rfl, M1, _, hc.symm, rfl, mo_ds (g := _) hd, by rw [if_pos hc]; exact hout, fun _ => by rw [vpL0]⟩) (Nat.le_of_ble_eq_true rfl) (Nat.le_of_ble_eq_true rfl) dL_overdue_16

abbrev rm_L_couldEnter : Room := { frames := 8, cells := 3, slots := 18, locals := 146 }
set_option maxHeartbeats 4000000 in
set_option maxRecDepth 100000 in
theorem l_couldEnter {l : Launch} (hfl : l.stackTraces = false) {G : mw_G} {b : c_B} {x : s_T} {w : c_W} {Mx : mw_M} {o : Nat} {f : Nat → Int64} {p mm t : Int32}  (hA : CA G b x w Mx) (ho : c_ok (ct x 5) b x w) (hi : q_inv 511 x) (hd : mw_ds Mx (mo G o f)) : mw_MetN l G yL_couldEnter (.codeWith yL_couldEnter cL_couldEnter 6 (some .int) [(0, 19, 22, 24), (0, 19, 26, 13)]) rm_L_couldEnter [.ref (b 0 0), .int p, .int mm, .int t, .ref o] (mw_or Mx (mo G o f)) (l_po G b o (f_couldEnter_c x p mm t) (x) x (fun v => v = if bI (q_hold x p mm t (ct x 10)) = 0 then 0 else 1)) := by
  refine mw_ofN hfl (by decide) (Nat.le_of_ble_eq_true rfl) ?_
  intro zp ze zs zm zb zh zc ls X hin hret htab hN hT hl
  have hl : lv_has ls 6 [(0, .ref (b 0 0)), (1, .int p), (2, .int mm), (3, .int t), (4, .ref o)] := hl
  refine lv_aload X.1 X.2.1 dL_couldEnter_0 (lv_at hl 4 rfl) ?_
  refine lv_iconst X.1 X.2.1 (v := 0) dL_couldEnter_2 (by decide) ?_
  refine lv_aload_n X.1 X.2.1 dL_couldEnter_3 rfl (lv_at hl 0 rfl) ?_
  refine lv_iload_n X.1 X.2.1 dL_couldEnter_4 rfl (lv_at hl 1 rfl) ?_
  refine lv_iload_n X.1 X.2.1 dL_couldEnter_5 rfl (lv_at hl 2 rfl) ?_
  refine lv_iload_n X.1 X.2.1 dL_couldEnter_6 rfl (lv_at hl 3 rfl) ?_
  refine mr_goX X hT hd (mr_runVX X hT cb_RL_54 kw597 kw598 kw599 (c_couldEnter hfl hA ho hi) (mr_cell X hT (mw_or_l hA.gate) rfl) rfl rfl hl.1 ⟨Nat.le_of_ble_eq_true rfl, Nat.le_of_ble_eq_true rfl⟩ (Nat.le_of_ble_eq_true rfl) dL_couldEnter_7 ⟨Nat.le_of_ble_eq_true rfl, Nat.le_of_ble_eq_true rfl⟩) (fun E ce9 q9 H locs hp hT h1 h2 h3 => ?_) (fun v M1 H locs hp hd hT => ?_)
  · rcases hp with ⟨rfl, hc⟩ | ⟨rfl, hc⟩
    · refine mr_catch X hN (pre := []) (x := (0, 19, 22, 24)) (suf := [(0, 19, 26, 13)]) htab (fun z hz => nomatch hz) (by decide) (by decide) kw328 kw339 h1 h2 h3 ?_
      refine lv_astore X.1 X.2.1 dL_couldEnter_22 hl (by decide) rfl (fun ls hl => ?_)
      refine lv_iconst X.1 X.2.1 (v := 1) dL_couldEnter_24 (by decide) ?_
      exact mr_iretX X hT hret (⟨_, rfl, Mx, f, hc.symm, rfl, hd, by rw [if_neg (by rw [hc]; decide)]; exact ⟨b, rfl, w, hA, ho⟩, fun z => absurd (hc.symm.trans z) (by decide)⟩) (Nat.le_of_ble_eq_true rfl) (Nat.le_of_ble_eq_true rfl) dL_couldEnter_25
    · refine mr_catch X hN (pre := [(0, 19, 22, 24)]) (x := (0, 19, 26, 13)) (suf := []) htab (fun z hz => by rcases List.mem_singleton.mp hz with rfl; exact ⟨by decide, _, kw328, by decide⟩) (by decide) (by decide) kw125 kw133 h1 h2 h3 ?_
      refine lv_astore X.1 X.2.1 dL_couldEnter_26 hl (by decide) rfl (fun ls hl => ?_)
      refine lv_iconst X.1 X.2.1 (v := 2) dL_couldEnter_28 (by decide) ?_
      exact mr_iretX X hT hret (⟨_, rfl, Mx, f, hc.symm, rfl, hd, by rw [if_neg (by rw [hc]; decide)]; exact ⟨b, rfl, w, hA, ho⟩, fun z => absurd (hc.symm.trans z) (by decide)⟩) (Nat.le_of_ble_eq_true rfl) (Nat.le_of_ble_eq_true rfl) dL_couldEnter_29
  obtain ⟨r, rfl, hc, rfl, hout⟩ := hp
  refine W.eq (g2 := F0 zm 10 ls (.int _ :: _)) rfl ?_
  refine lv_if_eq X.1 X.2.1 (tgt := 17) dL_couldEnter_10 (by decide) (fun c10 => ?_) (fun c10 => ?_)
  · skip
    refine lv_lconst X.1 X.2.1 (v := 0) dL_couldEnter_17 (by decide) ?_
    refine mr_last X hT (mo_at hd) (vp_in_nI (n := 0) (show 0 < 1 by decide) (by decide)) dL_couldEnter_18 (fun H locs hT => ?_)
    rw [mo_set hd] at hT
    refine lv_goto X.1 X.2.1 (tgt := 30) dL_couldEnter_19 (by decide) ?_
    refine lv_iconst X.1 X.2.1 (v := 0) dL_couldEnter_30 (by decide) ?_
    exact mr_iretX X hT hret (⟨_, rfl, M1, _, hc.symm, rfl, mo_ds (g := _) hd, by rw [if_pos hc]; exact hout, fun _ => by rw [vpL0]; first | exact (if_pos c10).symm | exact (if_neg c10).symm⟩) (Nat.le_of_ble_eq_true rfl) (Nat.le_of_ble_eq_true rfl) dL_couldEnter_31
  · skip
    refine lv_lconst X.1 X.2.1 (v := 1) dL_couldEnter_13 (by decide) ?_
    refine lv_goto X.1 X.2.1 (tgt := 18) dL_couldEnter_14 (by decide) ?_
    refine mr_last X hT (mo_at hd) (vp_in_nI (n := 0) (show 0 < 1 by decide) (by decide)) dL_couldEnter_18 (fun H locs hT => ?_)
    rw [mo_set hd] at hT
    refine lv_goto X.1 X.2.1 (tgt := 30) dL_couldEnter_19 (by decide) ?_
    refine lv_iconst X.1 X.2.1 (v := 0) dL_couldEnter_30 (by decide) ?_
    exact mr_iretX X hT hret (⟨_, rfl, M1, _, hc.symm, rfl, mo_ds (g := _) hd, by rw [if_pos hc]; exact hout, fun _ => by rw [vpL0]; first | exact (if_pos c10).symm | exact (if_neg c10).symm⟩) (Nat.le_of_ble_eq_true rfl) (Nat.le_of_ble_eq_true rfl) dL_couldEnter_31

abbrev rm_L_open : Room := { frames := 8, cells := 5, slots := 1324, locals := 251 }
set_option maxHeartbeats 4000000 in
set_option maxRecDepth 100000 in
theorem l_open {l : Launch} (hfl : l.stackTraces = false) {G : mw_G} {b : c_B} {x : s_T} {w : c_W} {Mx : mw_M} {o : Nat} {f : Nat → Int64} {p mm : Int32}  (hA : CA G b x w Mx) (ho : c_ok (ct x 5) b x w) (hi : q_inv 511 x) (hd : mw_ds Mx (mo G o f)) : mw_MetN l G yL_open (.codeWith yL_open cL_open 5 (some .int) [(0, 10, 13, 24), (0, 10, 17, 15)]) rm_L_open [.ref (b 0 0), .int p, .int mm, .ref o] (mw_or Mx (mo G o f)) (l_po G b o (f_open_c x p mm) (f_open_s x p mm) x (fun v => v = Int32.toInt64 (nI (ct x 29)))) := by
  refine mw_ofN hfl (by decide) (Nat.le_of_ble_eq_true rfl) ?_
  intro zp ze zs zm zb zh zc ls X hin hret htab hN hT hl
  have hl : lv_has ls 5 [(0, .ref (b 0 0)), (1, .int p), (2, .int mm), (3, .ref o)] := hl
  refine lv_aload_n X.1 X.2.1 dL_open_0 rfl (lv_at hl 3 rfl) ?_
  refine lv_iconst X.1 X.2.1 (v := 0) dL_open_1 (by decide) ?_
  refine lv_aload_n X.1 X.2.1 dL_open_2 rfl (lv_at hl 0 rfl) ?_
  refine lv_iload_n X.1 X.2.1 dL_open_3 rfl (lv_at hl 1 rfl) ?_
  refine lv_iload_n X.1 X.2.1 dL_open_4 rfl (lv_at hl 2 rfl) ?_
  refine mr_goX X hT hd (mr_runVX X hT cb_RL_58 kw606 kw607 kw608 (c_open hfl hA ho hi) (mr_cell X hT (mw_or_l hA.gate) rfl) rfl rfl hl.1 ⟨Nat.le_of_ble_eq_true rfl, Nat.le_of_ble_eq_true rfl⟩ (Nat.le_of_ble_eq_true rfl) dL_open_5 ⟨Nat.le_of_ble_eq_true rfl, Nat.le_of_ble_eq_true rfl⟩) (fun E ce9 q9 H locs hp hT h1 h2 h3 => ?_) (fun v M1 H locs hp hd hT => ?_)
  · rcases hp with ⟨rfl, hc⟩ | ⟨rfl, hc⟩
    · refine mr_catch X hN (pre := []) (x := (0, 10, 13, 24)) (suf := [(0, 10, 17, 15)]) htab (fun z hz => nomatch hz) (by decide) (by decide) kw328 kw339 h1 h2 h3 ?_
      refine lv_astore X.1 X.2.1 dL_open_13 hl (by decide) rfl (fun ls hl => ?_)
      refine lv_iconst X.1 X.2.1 (v := 1) dL_open_15 (by decide) ?_
      exact mr_iretX X hT hret (⟨_, rfl, Mx, f, hc.symm, rfl, hd, by rw [if_neg (by rw [hc]; decide)]; exact ⟨b, rfl, w, hA, ho⟩, fun z => absurd (hc.symm.trans z) (by decide)⟩) (Nat.le_of_ble_eq_true rfl) (Nat.le_of_ble_eq_true rfl) dL_open_16
    · refine mr_catch X hN (pre := [(0, 10, 13, 24)]) (x := (0, 10, 17, 15)) (suf := []) htab (fun z hz => by rcases List.mem_singleton.mp hz with rfl; exact ⟨by decide, _, kw328, by decide⟩) (by decide) (by decide) kw126 kw205 h1 h2 h3 ?_
      refine lv_astore X.1 X.2.1 dL_open_17 hl (by decide) rfl (fun ls hl => ?_)
      refine lv_iconst X.1 X.2.1 (v := 2) dL_open_19 (by decide) ?_
      exact mr_iretX X hT hret (⟨_, rfl, Mx, f, hc.symm, rfl, hd, by rw [if_neg (by rw [hc]; decide)]; exact ⟨b, rfl, w, hA, ho⟩, fun z => absurd (hc.symm.trans z) (by decide)⟩) (Nat.le_of_ble_eq_true rfl) (Nat.le_of_ble_eq_true rfl) dL_open_20
  obtain ⟨r, rfl, hc, rfl, hout⟩ := hp
  refine W.eq (g2 := F0 zm 8 ls (.int _ :: _)) rfl ?_
  refine lv_i2l X.1 X.2.1 dL_open_8 rfl ?_
  refine mr_last X hT (mo_at hd) (vp_in_nI (n := 0) (show 0 < 1 by decide) (by decide)) dL_open_9 (fun H locs hT => ?_)
  rw [mo_set hd] at hT
  refine lv_goto X.1 X.2.1 (tgt := 21) dL_open_10 (by decide) ?_
  refine lv_iconst X.1 X.2.1 (v := 0) dL_open_21 (by decide) ?_
  exact mr_iretX X hT hret (⟨_, rfl, M1, _, hc.symm, rfl, mo_ds (g := _) hd, by rw [if_pos hc]; exact hout, fun _ => by rw [vpL0]⟩) (Nat.le_of_ble_eq_true rfl) (Nat.le_of_ble_eq_true rfl) dL_open_22

abbrev rm_L_type : Room := { frames := 8, cells := 3, slots := 18, locals := 144 }
set_option maxHeartbeats 4000000 in
set_option maxRecDepth 100000 in
theorem l_type {l : Launch} (hfl : l.stackTraces = false) {G : mw_G} {b : c_B} {x : s_T} {w : c_W} {Mx : mw_M} {o : Nat} {f : Nat → Int64} {p mm : Int32}  (hA : CA G b x w Mx) (ho : c_ok (ct x 5) b x w) (hi : q_inv 511 x) (hd : mw_ds Mx (mo G o f)) : mw_MetN l G yL_type (.codeWith yL_type cL_type 5 (some .int) [(0, 17, 20, 24), (0, 17, 24, 13), (0, 17, 28, 15)]) rm_L_type [.ref (b 0 0), .int p, .int mm, .ref o] (mw_or Mx (mo G o f)) (l_po G b o (f_type_c x p mm) (f_type_s x p mm) x (fun v => v = if bI (decide (mm = 0)) = 0 then 0 else 1)) := by
  refine mw_ofN hfl (by decide) (Nat.le_of_ble_eq_true rfl) ?_
  intro zp ze zs zm zb zh zc ls X hin hret htab hN hT hl
  have hl : lv_has ls 5 [(0, .ref (b 0 0)), (1, .int p), (2, .int mm), (3, .ref o)] := hl
  refine lv_aload_n X.1 X.2.1 dL_type_0 rfl (lv_at hl 3 rfl) ?_
  refine lv_iconst X.1 X.2.1 (v := 0) dL_type_1 (by decide) ?_
  refine lv_aload_n X.1 X.2.1 dL_type_2 rfl (lv_at hl 0 rfl) ?_
  refine lv_iload_n X.1 X.2.1 dL_type_3 rfl (lv_at hl 1 rfl) ?_
  refine lv_iload_n X.1 X.2.1 dL_type_4 rfl (lv_at hl 2 rfl) ?_
  refine mr_goX X hT hd (mr_runVX X hT cb_RL_61 kw643 kw644 kw645 (c_type hfl hA ho hi) (mr_cell X hT (mw_or_l hA.gate) rfl) rfl rfl hl.1 ⟨Nat.le_of_ble_eq_true rfl, Nat.le_of_ble_eq_true rfl⟩ (Nat.le_of_ble_eq_true rfl) dL_type_5 ⟨Nat.le_of_ble_eq_true rfl, Nat.le_of_ble_eq_true rfl⟩) (fun E ce9 q9 H locs hp hT h1 h2 h3 => ?_) (fun v M1 H locs hp hd hT => ?_)
  · rcases hp with ⟨rfl, hc⟩ | ⟨rfl, hc⟩ | ⟨rfl, hc⟩
    · refine mr_catch X hN (pre := []) (x := (0, 17, 20, 24)) (suf := [(0, 17, 24, 13), (0, 17, 28, 15)]) htab (fun z hz => nomatch hz) (by decide) (by decide) kw328 kw339 h1 h2 h3 ?_
      refine lv_astore X.1 X.2.1 dL_type_20 hl (by decide) rfl (fun ls hl => ?_)
      refine lv_iconst X.1 X.2.1 (v := 1) dL_type_22 (by decide) ?_
      exact mr_iretX X hT hret (⟨_, rfl, Mx, f, hc.symm, rfl, hd, by rw [if_neg (by rw [hc]; decide)]; exact ⟨b, rfl, w, hA, ho⟩, fun z => absurd (hc.symm.trans z) (by decide)⟩) (Nat.le_of_ble_eq_true rfl) (Nat.le_of_ble_eq_true rfl) dL_type_23
    · refine mr_catch X hN (pre := [(0, 17, 20, 24)]) (x := (0, 17, 24, 13)) (suf := [(0, 17, 28, 15)]) htab (fun z hz => by rcases List.mem_singleton.mp hz with rfl; exact ⟨by decide, _, kw328, by decide⟩) (by decide) (by decide) kw125 kw133 h1 h2 h3 ?_
      refine lv_astore X.1 X.2.1 dL_type_24 hl (by decide) rfl (fun ls hl => ?_)
      refine lv_iconst X.1 X.2.1 (v := 2) dL_type_26 (by decide) ?_
      exact mr_iretX X hT hret (⟨_, rfl, Mx, f, hc.symm, rfl, hd, by rw [if_neg (by rw [hc]; decide)]; exact ⟨b, rfl, w, hA, ho⟩, fun z => absurd (hc.symm.trans z) (by decide)⟩) (Nat.le_of_ble_eq_true rfl) (Nat.le_of_ble_eq_true rfl) dL_type_27
    · refine mr_catch X hN (pre := [(0, 17, 20, 24), (0, 17, 24, 13)]) (x := (0, 17, 28, 15)) (suf := []) htab (fun z hz => by rcases List.mem_cons.mp hz with rfl | hz; exact ⟨by decide, _, kw328, by decide⟩; rcases List.mem_singleton.mp hz with rfl; exact ⟨by decide, _, kw125, by decide⟩) (by decide) (by decide) kw126 kw205 h1 h2 h3 ?_
      refine lv_astore X.1 X.2.1 dL_type_28 hl (by decide) rfl (fun ls hl => ?_)
      refine lv_iconst X.1 X.2.1 (v := 3) dL_type_30 (by decide) ?_
      exact mr_iretX X hT hret (⟨_, rfl, Mx, f, hc.symm, rfl, hd, by rw [if_neg (by rw [hc]; decide)]; exact ⟨b, rfl, w, hA, ho⟩, fun z => absurd (hc.symm.trans z) (by decide)⟩) (Nat.le_of_ble_eq_true rfl) (Nat.le_of_ble_eq_true rfl) dL_type_31
  obtain ⟨r, rfl, hc, rfl, hout⟩ := hp
  refine W.eq (g2 := F0 zm 8 ls (.int _ :: _)) rfl ?_
  refine lv_if_eq X.1 X.2.1 (tgt := 15) dL_type_8 (by decide) (fun c8 => ?_) (fun c8 => ?_)
  · skip
    refine lv_lconst X.1 X.2.1 (v := 0) dL_type_15 (by decide) ?_
    refine mr_last X hT (mo_at hd) (vp_in_nI (n := 0) (show 0 < 1 by decide) (by decide)) dL_type_16 (fun H locs hT => ?_)
    rw [mo_set hd] at hT
    refine lv_goto X.1 X.2.1 (tgt := 32) dL_type_17 (by decide) ?_
    refine lv_iconst X.1 X.2.1 (v := 0) dL_type_32 (by decide) ?_
    exact mr_iretX X hT hret (⟨_, rfl, M1, _, hc.symm, rfl, mo_ds (g := _) hd, by rw [if_pos hc]; exact hout, fun _ => by rw [vpL0]; first | exact (if_pos c8).symm | exact (if_neg c8).symm⟩) (Nat.le_of_ble_eq_true rfl) (Nat.le_of_ble_eq_true rfl) dL_type_33
  · skip
    refine lv_lconst X.1 X.2.1 (v := 1) dL_type_11 (by decide) ?_
    refine lv_goto X.1 X.2.1 (tgt := 16) dL_type_12 (by decide) ?_
    refine mr_last X hT (mo_at hd) (vp_in_nI (n := 0) (show 0 < 1 by decide) (by decide)) dL_type_16 (fun H locs hT => ?_)
    rw [mo_set hd] at hT
    refine lv_goto X.1 X.2.1 (tgt := 32) dL_type_17 (by decide) ?_
    refine lv_iconst X.1 X.2.1 (v := 0) dL_type_32 (by decide) ?_
    exact mr_iretX X hT hret (⟨_, rfl, M1, _, hc.symm, rfl, mo_ds (g := _) hd, by rw [if_pos hc]; exact hout, fun _ => by rw [vpL0]; first | exact (if_pos c8).symm | exact (if_neg c8).symm⟩) (Nat.le_of_ble_eq_true rfl) (Nat.le_of_ble_eq_true rfl) dL_type_33

abbrev rm_L_letThrough : Room := { frames := 8, cells := 4, slots := 24, locals := 146 }
set_option maxHeartbeats 4000000 in
set_option maxRecDepth 100000 in
theorem l_letThrough {l : Launch} (hfl : l.stackTraces = false) {G : mw_G} {b : c_B} {x : s_T} {w : c_W} {Mx : mw_M} {o : Nat} {f : Nat → Int64} {p mm : Int32}  (hA : CA G b x w Mx) (ho : c_ok (ct x 5) b x w) (hi : q_inv 511 x) (hd : mw_ds Mx (mo G o f)) : mw_MetN l G yL_letThrough (.codeWith yL_letThrough cL_letThrough 5 (some .int) [(0, 10, 13, 24), (0, 10, 17, 15)]) rm_L_letThrough [.ref (b 0 0), .int p, .int mm, .ref o] (mw_or Mx (mo G o f)) (l_po G b o (f_letThrough_c x p mm) (f_letThrough_s x p mm) x (fun v => v = Int32.toInt64 (q_now x - cg x 27 (pn p)))) := by
  refine mw_ofN hfl (by decide) (Nat.le_of_ble_eq_true rfl) ?_
  intro zp ze zs zm zb zh zc ls X hin hret htab hN hT hl
  have hl : lv_has ls 5 [(0, .ref (b 0 0)), (1, .int p), (2, .int mm), (3, .ref o)] := hl
  refine lv_aload_n X.1 X.2.1 dL_letThrough_0 rfl (lv_at hl 3 rfl) ?_
  refine lv_iconst X.1 X.2.1 (v := 0) dL_letThrough_1 (by decide) ?_
  refine lv_aload_n X.1 X.2.1 dL_letThrough_2 rfl (lv_at hl 0 rfl) ?_
  refine lv_iload_n X.1 X.2.1 dL_letThrough_3 rfl (lv_at hl 1 rfl) ?_
  refine lv_iload_n X.1 X.2.1 dL_letThrough_4 rfl (lv_at hl 2 rfl) ?_
  refine mr_goX X hT hd (mr_runVX X hT cb_RL_64 kw665 kw666 kw667 (c_letThrough hfl hA ho hi) (mr_cell X hT (mw_or_l hA.gate) rfl) rfl rfl hl.1 ⟨Nat.le_of_ble_eq_true rfl, Nat.le_of_ble_eq_true rfl⟩ (Nat.le_of_ble_eq_true rfl) dL_letThrough_5 ⟨Nat.le_of_ble_eq_true rfl, Nat.le_of_ble_eq_true rfl⟩) (fun E ce9 q9 H locs hp hT h1 h2 h3 => ?_) (fun v M1 H locs hp hd hT => ?_)
  · rcases hp with ⟨rfl, hc⟩ | ⟨rfl, hc⟩
    · refine mr_catch X hN (pre := []) (x := (0, 10, 13, 24)) (suf := [(0, 10, 17, 15)]) htab (fun z hz => nomatch hz) (by decide) (by decide) kw328 kw339 h1 h2 h3 ?_
      refine lv_astore X.1 X.2.1 dL_letThrough_13 hl (by decide) rfl (fun ls hl => ?_)
      refine lv_iconst X.1 X.2.1 (v := 1) dL_letThrough_15 (by decide) ?_
      exact mr_iretX X hT hret (⟨_, rfl, Mx, f, hc.symm, rfl, hd, by rw [if_neg (by rw [hc]; decide)]; exact ⟨b, rfl, w, hA, ho⟩, fun z => absurd (hc.symm.trans z) (by decide)⟩) (Nat.le_of_ble_eq_true rfl) (Nat.le_of_ble_eq_true rfl) dL_letThrough_16
    · refine mr_catch X hN (pre := [(0, 10, 13, 24)]) (x := (0, 10, 17, 15)) (suf := []) htab (fun z hz => by rcases List.mem_singleton.mp hz with rfl; exact ⟨by decide, _, kw328, by decide⟩) (by decide) (by decide) kw126 kw205 h1 h2 h3 ?_
      refine lv_astore X.1 X.2.1 dL_letThrough_17 hl (by decide) rfl (fun ls hl => ?_)
      refine lv_iconst X.1 X.2.1 (v := 2) dL_letThrough_19 (by decide) ?_
      exact mr_iretX X hT hret (⟨_, rfl, Mx, f, hc.symm, rfl, hd, by rw [if_neg (by rw [hc]; decide)]; exact ⟨b, rfl, w, hA, ho⟩, fun z => absurd (hc.symm.trans z) (by decide)⟩) (Nat.le_of_ble_eq_true rfl) (Nat.le_of_ble_eq_true rfl) dL_letThrough_20
  obtain ⟨r, rfl, hc, rfl, hout⟩ := hp
  refine W.eq (g2 := F0 zm 8 ls (.int _ :: _)) rfl ?_
  refine lv_i2l X.1 X.2.1 dL_letThrough_8 rfl ?_
  refine mr_last X hT (mo_at hd) (vp_in_nI (n := 0) (show 0 < 1 by decide) (by decide)) dL_letThrough_9 (fun H locs hT => ?_)
  rw [mo_set hd] at hT
  refine lv_goto X.1 X.2.1 (tgt := 21) dL_letThrough_10 (by decide) ?_
  refine lv_iconst X.1 X.2.1 (v := 0) dL_letThrough_21 (by decide) ?_
  exact mr_iretX X hT hret (⟨_, rfl, M1, _, hc.symm, rfl, mo_ds (g := _) hd, by rw [if_pos hc]; exact hout, fun _ => by rw [vpL0]⟩) (Nat.le_of_ble_eq_true rfl) (Nat.le_of_ble_eq_true rfl) dL_letThrough_22

abbrev rm_L_close : Room := { frames := 8, cells := 2, slots := 12, locals := 143 }
set_option maxHeartbeats 4000000 in
set_option maxRecDepth 100000 in
theorem l_close {l : Launch} (hfl : l.stackTraces = false) {G : mw_G} {b : c_B} {x : s_T} {w : c_W} {Mx : mw_M} {o : Nat} {f : Nat → Int64} {p : Int32}  (hA : CA G b x w Mx) (ho : c_ok (ct x 5) b x w) (hi : q_inv 511 x) (hd : mw_ds Mx (mo G o f)) : mw_MetN l G yL_close (.codeWith yL_close cL_close 4 (some .int) [(0, 9, 12, 24), (0, 9, 15, 15)]) rm_L_close [.ref (b 0 0), .int p, .ref o] (mw_or Mx (mo G o f)) (l_po G b o (f_close_c x p) (q_shut x (pn p)) x (fun v => v = Int32.toInt64 (cg x 28 (pn p)))) := by
  refine mw_ofN hfl (by decide) (Nat.le_of_ble_eq_true rfl) ?_
  intro zp ze zs zm zb zh zc ls X hin hret htab hN hT hl
  have hl : lv_has ls 4 [(0, .ref (b 0 0)), (1, .int p), (2, .ref o)] := hl
  refine lv_aload_n X.1 X.2.1 dL_close_0 rfl (lv_at hl 2 rfl) ?_
  refine lv_iconst X.1 X.2.1 (v := 0) dL_close_1 (by decide) ?_
  refine lv_aload_n X.1 X.2.1 dL_close_2 rfl (lv_at hl 0 rfl) ?_
  refine lv_iload_n X.1 X.2.1 dL_close_3 rfl (lv_at hl 1 rfl) ?_
  refine mr_goX X hT hd (mr_runVX X hT cb_RL_67 kw674 kw675 kw676 (c_close hfl hA ho hi) (mr_cell X hT (mw_or_l hA.gate) rfl) rfl rfl hl.1 ⟨Nat.le_of_ble_eq_true rfl, Nat.le_of_ble_eq_true rfl⟩ (Nat.le_of_ble_eq_true rfl) dL_close_4 ⟨Nat.le_of_ble_eq_true rfl, Nat.le_of_ble_eq_true rfl⟩) (fun E ce9 q9 H locs hp hT h1 h2 h3 => ?_) (fun v M1 H locs hp hd hT => ?_)
  · rcases hp with ⟨rfl, hc⟩ | ⟨rfl, hc⟩
    · refine mr_catch X hN (pre := []) (x := (0, 9, 12, 24)) (suf := [(0, 9, 15, 15)]) htab (fun z hz => nomatch hz) (by decide) (by decide) kw328 kw339 h1 h2 h3 ?_
      refine lv_astore_n X.1 X.2.1 dL_close_12 rfl hl (by decide) rfl (fun ls hl => ?_)
      refine lv_iconst X.1 X.2.1 (v := 1) dL_close_13 (by decide) ?_
      exact mr_iretX X hT hret (⟨_, rfl, Mx, f, hc.symm, rfl, hd, by rw [if_neg (by rw [hc]; decide)]; exact ⟨b, rfl, w, hA, ho⟩, fun z => absurd (hc.symm.trans z) (by decide)⟩) (Nat.le_of_ble_eq_true rfl) (Nat.le_of_ble_eq_true rfl) dL_close_14
    · refine mr_catch X hN (pre := [(0, 9, 12, 24)]) (x := (0, 9, 15, 15)) (suf := []) htab (fun z hz => by rcases List.mem_singleton.mp hz with rfl; exact ⟨by decide, _, kw328, by decide⟩) (by decide) (by decide) kw126 kw205 h1 h2 h3 ?_
      refine lv_astore_n X.1 X.2.1 dL_close_15 rfl hl (by decide) rfl (fun ls hl => ?_)
      refine lv_iconst X.1 X.2.1 (v := 2) dL_close_16 (by decide) ?_
      exact mr_iretX X hT hret (⟨_, rfl, Mx, f, hc.symm, rfl, hd, by rw [if_neg (by rw [hc]; decide)]; exact ⟨b, rfl, w, hA, ho⟩, fun z => absurd (hc.symm.trans z) (by decide)⟩) (Nat.le_of_ble_eq_true rfl) (Nat.le_of_ble_eq_true rfl) dL_close_17
  obtain ⟨r, rfl, hc, rfl, hout⟩ := hp
  refine W.eq (g2 := F0 zm 7 ls (.int _ :: _)) rfl ?_
  refine lv_i2l X.1 X.2.1 dL_close_7 rfl ?_
  refine mr_last X hT (mo_at hd) (vp_in_nI (n := 0) (show 0 < 1 by decide) (by decide)) dL_close_8 (fun H locs hT => ?_)
  rw [mo_set hd] at hT
  refine lv_goto X.1 X.2.1 (tgt := 18) dL_close_9 (by decide) ?_
  refine lv_iconst X.1 X.2.1 (v := 0) dL_close_18 (by decide) ?_
  exact mr_iretX X hT hret (⟨_, rfl, M1, _, hc.symm, rfl, mo_ds (g := _) hd, by rw [if_pos hc]; exact hout, fun _ => by rw [vpL0]⟩) (Nat.le_of_ble_eq_true rfl) (Nat.le_of_ble_eq_true rfl) dL_close_19

abbrev rm_L_isOpen : Room := { frames := 8, cells := 1, slots := 6, locals := 142 }
set_option maxHeartbeats 4000000 in
set_option maxRecDepth 100000 in
theorem l_isOpen {l : Launch} (hfl : l.stackTraces = false) {G : mw_G} {b : c_B} {x : s_T} {w : c_W} {Mx : mw_M} {o : Nat} {f : Nat → Int64} {p : Int32}  (hA : CA G b x w Mx) (ho : c_ok (ct x 5) b x w) (hi : q_inv 511 x) (hd : mw_ds Mx (mo G o f)) : mw_MetN l G yL_isOpen (.codeWith yL_isOpen cL_isOpen 4 (some .int) [(0, 16, 19, 24)]) rm_L_isOpen [.ref (b 0 0), .int p, .ref o] (mw_or Mx (mo G o f)) (l_po G b o (f_isOpen_c x p) (x) x (fun v => v = if bI (decide (cg x 25 (pn p) ≠ 0)) = 0 then 0 else 1)) := by
  refine mw_ofN hfl (by decide) (Nat.le_of_ble_eq_true rfl) ?_
  intro zp ze zs zm zb zh zc ls X hin hret htab hN hT hl
  have hl : lv_has ls 4 [(0, .ref (b 0 0)), (1, .int p), (2, .ref o)] := hl
  refine lv_aload_n X.1 X.2.1 dL_isOpen_0 rfl (lv_at hl 2 rfl) ?_
  refine lv_iconst X.1 X.2.1 (v := 0) dL_isOpen_1 (by decide) ?_
  refine lv_aload_n X.1 X.2.1 dL_isOpen_2 rfl (lv_at hl 0 rfl) ?_
  refine lv_iload_n X.1 X.2.1 dL_isOpen_3 rfl (lv_at hl 1 rfl) ?_
  refine mr_goX X hT hd (mr_runVX X hT cb_RL_70 kw681 kw682 kw683 (c_isOpen hfl hA ho hi) (mr_cell X hT (mw_or_l hA.gate) rfl) rfl rfl hl.1 ⟨Nat.le_of_ble_eq_true rfl, Nat.le_of_ble_eq_true rfl⟩ (Nat.le_of_ble_eq_true rfl) dL_isOpen_4 ⟨Nat.le_of_ble_eq_true rfl, Nat.le_of_ble_eq_true rfl⟩) (fun E ce9 q9 H locs hp hT h1 h2 h3 => ?_) (fun v M1 H locs hp hd hT => ?_)
  · rcases hp with ⟨rfl, hc⟩
    · refine mr_catch X hN (pre := []) (x := (0, 16, 19, 24)) (suf := []) htab (fun z hz => nomatch hz) (by decide) (by decide) kw328 kw339 h1 h2 h3 ?_
      refine lv_astore_n X.1 X.2.1 dL_isOpen_19 rfl hl (by decide) rfl (fun ls hl => ?_)
      refine lv_iconst X.1 X.2.1 (v := 1) dL_isOpen_20 (by decide) ?_
      exact mr_iretX X hT hret (⟨_, rfl, Mx, f, hc.symm, rfl, hd, by rw [if_neg (by rw [hc]; decide)]; exact ⟨b, rfl, w, hA, ho⟩, fun z => absurd (hc.symm.trans z) (by decide)⟩) (Nat.le_of_ble_eq_true rfl) (Nat.le_of_ble_eq_true rfl) dL_isOpen_21
  obtain ⟨r, rfl, hc, rfl, hout⟩ := hp
  refine W.eq (g2 := F0 zm 7 ls (.int _ :: _)) rfl ?_
  refine lv_if_eq X.1 X.2.1 (tgt := 14) dL_isOpen_7 (by decide) (fun c7 => ?_) (fun c7 => ?_)
  · skip
    refine lv_lconst X.1 X.2.1 (v := 0) dL_isOpen_14 (by decide) ?_
    refine mr_last X hT (mo_at hd) (vp_in_nI (n := 0) (show 0 < 1 by decide) (by decide)) dL_isOpen_15 (fun H locs hT => ?_)
    rw [mo_set hd] at hT
    refine lv_goto X.1 X.2.1 (tgt := 22) dL_isOpen_16 (by decide) ?_
    refine lv_iconst X.1 X.2.1 (v := 0) dL_isOpen_22 (by decide) ?_
    exact mr_iretX X hT hret (⟨_, rfl, M1, _, hc.symm, rfl, mo_ds (g := _) hd, by rw [if_pos hc]; exact hout, fun _ => by rw [vpL0]; first | exact (if_pos c7).symm | exact (if_neg c7).symm⟩) (Nat.le_of_ble_eq_true rfl) (Nat.le_of_ble_eq_true rfl) dL_isOpen_23
  · skip
    refine lv_lconst X.1 X.2.1 (v := 1) dL_isOpen_10 (by decide) ?_
    refine lv_goto X.1 X.2.1 (tgt := 15) dL_isOpen_11 (by decide) ?_
    refine mr_last X hT (mo_at hd) (vp_in_nI (n := 0) (show 0 < 1 by decide) (by decide)) dL_isOpen_15 (fun H locs hT => ?_)
    rw [mo_set hd] at hT
    refine lv_goto X.1 X.2.1 (tgt := 22) dL_isOpen_16 (by decide) ?_
    refine lv_iconst X.1 X.2.1 (v := 0) dL_isOpen_22 (by decide) ?_
    exact mr_iretX X hT hret (⟨_, rfl, M1, _, hc.symm, rfl, mo_ds (g := _) hd, by rw [if_pos hc]; exact hout, fun _ => by rw [vpL0]; first | exact (if_pos c7).symm | exact (if_neg c7).symm⟩) (Nat.le_of_ble_eq_true rfl) (Nat.le_of_ble_eq_true rfl) dL_isOpen_23

abbrev rm_L_pass : Room := { frames := 7, cells := 1, slots := 6, locals := 136 }
set_option maxHeartbeats 4000000 in
set_option maxRecDepth 100000 in
theorem l_pass {l : Launch} (hfl : l.stackTraces = false) {G : mw_G} {b : c_B} {x : s_T} {w : c_W} {Mx : mw_M} {o : Nat} {f : Nat → Int64} {p : Int32}  (hA : CA G b x w Mx) (ho : c_ok (ct x 5) b x w) (hi : q_inv 511 x) (hd : mw_ds Mx (mo G o f)) : mw_MetN l G yL_pass (.codeWith yL_pass cL_pass 4 (some .int) [(0, 9, 12, 13), (0, 9, 15, 15)]) rm_L_pass [.ref (b 0 0), .int p, .ref o] (mw_or Mx (mo G o f)) (l_po G b o (f_pass_c x p) (f_pass_s x p) x (fun v => v = Int32.toInt64 ((q_tick x (pn p)).2))) := by
  refine mw_ofN hfl (by decide) (Nat.le_of_ble_eq_true rfl) ?_
  intro zp ze zs zm zb zh zc ls X hin hret htab hN hT hl
  have hl : lv_has ls 4 [(0, .ref (b 0 0)), (1, .int p), (2, .ref o)] := hl
  refine lv_aload_n X.1 X.2.1 dL_pass_0 rfl (lv_at hl 2 rfl) ?_
  refine lv_iconst X.1 X.2.1 (v := 0) dL_pass_1 (by decide) ?_
  refine lv_aload_n X.1 X.2.1 dL_pass_2 rfl (lv_at hl 0 rfl) ?_
  refine lv_iload_n X.1 X.2.1 dL_pass_3 rfl (lv_at hl 1 rfl) ?_
  refine mr_goX X hT hd (mr_runVX X hT cb_RL_74 kw688 kw689 kw690 (c_pass hfl hA ho hi) (mr_cell X hT (mw_or_l hA.gate) rfl) rfl rfl hl.1 ⟨Nat.le_of_ble_eq_true rfl, Nat.le_of_ble_eq_true rfl⟩ (Nat.le_of_ble_eq_true rfl) dL_pass_4 ⟨Nat.le_of_ble_eq_true rfl, Nat.le_of_ble_eq_true rfl⟩) (fun E ce9 q9 H locs hp hT h1 h2 h3 => ?_) (fun v M1 H locs hp hd hT => ?_)
  · rcases hp with ⟨rfl, hc⟩ | ⟨rfl, hc⟩
    · refine mr_catch X hN (pre := []) (x := (0, 9, 12, 13)) (suf := [(0, 9, 15, 15)]) htab (fun z hz => nomatch hz) (by decide) (by decide) kw125 kw133 h1 h2 h3 ?_
      refine lv_astore_n X.1 X.2.1 dL_pass_12 rfl hl (by decide) rfl (fun ls hl => ?_)
      refine lv_iconst X.1 X.2.1 (v := 1) dL_pass_13 (by decide) ?_
      exact mr_iretX X hT hret (⟨_, rfl, Mx, f, hc.symm, rfl, hd, by rw [if_neg (by rw [hc]; decide)]; exact ⟨b, rfl, w, hA, ho⟩, fun z => absurd (hc.symm.trans z) (by decide)⟩) (Nat.le_of_ble_eq_true rfl) (Nat.le_of_ble_eq_true rfl) dL_pass_14
    · refine mr_catch X hN (pre := [(0, 9, 12, 13)]) (x := (0, 9, 15, 15)) (suf := []) htab (fun z hz => by rcases List.mem_singleton.mp hz with rfl; exact ⟨by decide, _, kw125, by decide⟩) (by decide) (by decide) kw126 kw205 h1 h2 h3 ?_
      refine lv_astore_n X.1 X.2.1 dL_pass_15 rfl hl (by decide) rfl (fun ls hl => ?_)
      refine lv_iconst X.1 X.2.1 (v := 2) dL_pass_16 (by decide) ?_
      exact mr_iretX X hT hret (⟨_, rfl, Mx, f, hc.symm, rfl, hd, by rw [if_neg (by rw [hc]; decide)]; exact ⟨b, rfl, w, hA, ho⟩, fun z => absurd (hc.symm.trans z) (by decide)⟩) (Nat.le_of_ble_eq_true rfl) (Nat.le_of_ble_eq_true rfl) dL_pass_17
  obtain ⟨r, rfl, hc, rfl, hout⟩ := hp
  refine W.eq (g2 := F0 zm 7 ls (.int _ :: _)) rfl ?_
  refine lv_i2l X.1 X.2.1 dL_pass_7 rfl ?_
  refine mr_last X hT (mo_at hd) (vp_in_nI (n := 0) (show 0 < 1 by decide) (by decide)) dL_pass_8 (fun H locs hT => ?_)
  rw [mo_set hd] at hT
  refine lv_goto X.1 X.2.1 (tgt := 18) dL_pass_9 (by decide) ?_
  refine lv_iconst X.1 X.2.1 (v := 0) dL_pass_18 (by decide) ?_
  exact mr_iretX X hT hret (⟨_, rfl, M1, _, hc.symm, rfl, mo_ds (g := _) hd, by rw [if_pos hc]; exact hout, fun _ => by rw [vpL0]⟩) (Nat.le_of_ble_eq_true rfl) (Nat.le_of_ble_eq_true rfl) dL_pass_19

abbrev rm_L_kind : Room := { frames := 8, cells := 1, slots := 6, locals := 142 }
set_option maxHeartbeats 4000000 in
set_option maxRecDepth 100000 in
theorem l_kind {l : Launch} (hfl : l.stackTraces = false) {G : mw_G} {b : c_B} {x : s_T} {w : c_W} {Mx : mw_M} {o : Nat} {f : Nat → Int64} {p : Int32}  (hA : CA G b x w Mx) (ho : c_ok (ct x 5) b x w) (hi : q_inv 511 x) (hd : mw_ds Mx (mo G o f)) : mw_MetN l G yL_kind (.codeWith yL_kind cL_kind 4 (some .int) [(0, 9, 12, 24)]) rm_L_kind [.ref (b 0 0), .int p, .ref o] (mw_or Mx (mo G o f)) (l_po G b o (f_kind_c x p) (x) x (fun v => v = Int32.toInt64 (cg x 30 (pn p)))) := by
  refine mw_ofN hfl (by decide) (Nat.le_of_ble_eq_true rfl) ?_
  intro zp ze zs zm zb zh zc ls X hin hret htab hN hT hl
  have hl : lv_has ls 4 [(0, .ref (b 0 0)), (1, .int p), (2, .ref o)] := hl
  refine lv_aload_n X.1 X.2.1 dL_kind_0 rfl (lv_at hl 2 rfl) ?_
  refine lv_iconst X.1 X.2.1 (v := 0) dL_kind_1 (by decide) ?_
  refine lv_aload_n X.1 X.2.1 dL_kind_2 rfl (lv_at hl 0 rfl) ?_
  refine lv_iload_n X.1 X.2.1 dL_kind_3 rfl (lv_at hl 1 rfl) ?_
  refine mr_goX X hT hd (mr_runVX X hT cb_RL_77 kw696 kw697 kw698 (c_kindAt hfl hA ho hi) (mr_cell X hT (mw_or_l hA.gate) rfl) rfl rfl hl.1 ⟨Nat.le_of_ble_eq_true rfl, Nat.le_of_ble_eq_true rfl⟩ (Nat.le_of_ble_eq_true rfl) dL_kind_4 ⟨Nat.le_of_ble_eq_true rfl, Nat.le_of_ble_eq_true rfl⟩) (fun E ce9 q9 H locs hp hT h1 h2 h3 => ?_) (fun v M1 H locs hp hd hT => ?_)
  · rcases hp with ⟨rfl, hc⟩
    · refine mr_catch X hN (pre := []) (x := (0, 9, 12, 24)) (suf := []) htab (fun z hz => nomatch hz) (by decide) (by decide) kw328 kw339 h1 h2 h3 ?_
      refine lv_astore_n X.1 X.2.1 dL_kind_12 rfl hl (by decide) rfl (fun ls hl => ?_)
      refine lv_iconst X.1 X.2.1 (v := 1) dL_kind_13 (by decide) ?_
      exact mr_iretX X hT hret (⟨_, rfl, Mx, f, hc.symm, rfl, hd, by rw [if_neg (by rw [hc]; decide)]; exact ⟨b, rfl, w, hA, ho⟩, fun z => absurd (hc.symm.trans z) (by decide)⟩) (Nat.le_of_ble_eq_true rfl) (Nat.le_of_ble_eq_true rfl) dL_kind_14
  obtain ⟨r, rfl, hc, rfl, hout⟩ := hp
  refine W.eq (g2 := F0 zm 7 ls (.int _ :: _)) rfl ?_
  refine lv_i2l X.1 X.2.1 dL_kind_7 rfl ?_
  refine mr_last X hT (mo_at hd) (vp_in_nI (n := 0) (show 0 < 1 by decide) (by decide)) dL_kind_8 (fun H locs hT => ?_)
  rw [mo_set hd] at hT
  refine lv_goto X.1 X.2.1 (tgt := 15) dL_kind_9 (by decide) ?_
  refine lv_iconst X.1 X.2.1 (v := 0) dL_kind_15 (by decide) ?_
  exact mr_iretX X hT hret (⟨_, rfl, M1, _, hc.symm, rfl, mo_ds (g := _) hd, by rw [if_pos hc]; exact hout, fun _ => by rw [vpL0]⟩) (Nat.le_of_ble_eq_true rfl) (Nat.le_of_ble_eq_true rfl) dL_kind_16

abbrev rm_L_seal : Room := { frames := 8, cells := 1, slots := 6, locals := 142 }
set_option maxHeartbeats 4000000 in
set_option maxRecDepth 100000 in
theorem l_seal {l : Launch} (hfl : l.stackTraces = false) {G : mw_G} {b : c_B} {x : s_T} {w : c_W} {Mx : mw_M} {o : Nat} {f : Nat → Int64} {p : Int32}  (hA : CA G b x w Mx) (ho : c_ok (ct x 5) b x w) (hi : q_inv 511 x) (hd : mw_ds Mx (mo G o f)) : mw_MetN l G yL_seal (.codeWith yL_seal cL_seal 4 (some .int) [(0, 9, 12, 24)]) rm_L_seal [.ref (b 0 0), .int p, .ref o] (mw_or Mx (mo G o f)) (l_po G b o (f_kind_c x p) (x) x (fun v => v = Int32.toInt64 (cg x 31 (pn p)))) := by
  refine mw_ofN hfl (by decide) (Nat.le_of_ble_eq_true rfl) ?_
  intro zp ze zs zm zb zh zc ls X hin hret htab hN hT hl
  have hl : lv_has ls 4 [(0, .ref (b 0 0)), (1, .int p), (2, .ref o)] := hl
  refine lv_aload_n X.1 X.2.1 dL_seal_0 rfl (lv_at hl 2 rfl) ?_
  refine lv_iconst X.1 X.2.1 (v := 0) dL_seal_1 (by decide) ?_
  refine lv_aload_n X.1 X.2.1 dL_seal_2 rfl (lv_at hl 0 rfl) ?_
  refine lv_iload_n X.1 X.2.1 dL_seal_3 rfl (lv_at hl 1 rfl) ?_
  refine mr_goX X hT hd (mr_runVX X hT cb_RL_80 kw708 kw709 kw710 (c_sealAt hfl hA ho hi) (mr_cell X hT (mw_or_l hA.gate) rfl) rfl rfl hl.1 ⟨Nat.le_of_ble_eq_true rfl, Nat.le_of_ble_eq_true rfl⟩ (Nat.le_of_ble_eq_true rfl) dL_seal_4 ⟨Nat.le_of_ble_eq_true rfl, Nat.le_of_ble_eq_true rfl⟩) (fun E ce9 q9 H locs hp hT h1 h2 h3 => ?_) (fun v M1 H locs hp hd hT => ?_)
  · rcases hp with ⟨rfl, hc⟩
    · refine mr_catch X hN (pre := []) (x := (0, 9, 12, 24)) (suf := []) htab (fun z hz => nomatch hz) (by decide) (by decide) kw328 kw339 h1 h2 h3 ?_
      refine lv_astore_n X.1 X.2.1 dL_seal_12 rfl hl (by decide) rfl (fun ls hl => ?_)
      refine lv_iconst X.1 X.2.1 (v := 1) dL_seal_13 (by decide) ?_
      exact mr_iretX X hT hret (⟨_, rfl, Mx, f, hc.symm, rfl, hd, by rw [if_neg (by rw [hc]; decide)]; exact ⟨b, rfl, w, hA, ho⟩, fun z => absurd (hc.symm.trans z) (by decide)⟩) (Nat.le_of_ble_eq_true rfl) (Nat.le_of_ble_eq_true rfl) dL_seal_14
  obtain ⟨r, rfl, hc, rfl, hout⟩ := hp
  refine W.eq (g2 := F0 zm 7 ls (.int _ :: _)) rfl ?_
  refine lv_i2l X.1 X.2.1 dL_seal_7 rfl ?_
  refine mr_last X hT (mo_at hd) (vp_in_nI (n := 0) (show 0 < 1 by decide) (by decide)) dL_seal_8 (fun H locs hT => ?_)
  rw [mo_set hd] at hT
  refine lv_goto X.1 X.2.1 (tgt := 15) dL_seal_9 (by decide) ?_
  refine lv_iconst X.1 X.2.1 (v := 0) dL_seal_15 (by decide) ?_
  exact mr_iretX X hT hret (⟨_, rfl, M1, _, hc.symm, rfl, mo_ds (g := _) hd, by rw [if_pos hc]; exact hout, fun _ => by rw [vpL0]⟩) (Nat.le_of_ble_eq_true rfl) (Nat.le_of_ble_eq_true rfl) dL_seal_16
