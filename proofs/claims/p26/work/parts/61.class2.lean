/-! the class's own calls -/
abbrev rm_X7_addPerson : Room := { frames := 7, cells := 3, slots := 1309, locals := 226 }
set_option maxHeartbeats 4000000 in
set_option maxRecDepth 100000 in
theorem c_addPerson {l : Launch} (hfl : l.stackTraces = false) {G : mw_G} {b : c_B} {x : s_T} {w : c_W} {t : Int32} {M : mw_M} (hA : CA G b x w M) (ho : c_ok (ct x 5) b x w) (hi : q_inv 511 x) (hz : q_zl x) : mw_MetX l G yX7_addPerson (.code yX7_addPerson cX7_addPerson 3 (some .int)) rm_X7_addPerson [.ref (b 0 0), .int t] M (mw_pi (fun r M1 => f_addPerson_c x t = 0 ∧ r = nI (ct x 2) ∧ c_out G b (f_addPerson_s x t) M1)) (fun E => (E = "java/lang/IllegalArgumentException" ∧ f_addPerson_c x t = 1) ∨ (E = "java/lang/IllegalStateException" ∧ f_addPerson_c x t = 2)) := by
  refine mw_ofX hfl (by decide) (Nat.le_of_ble_eq_true rfl) ?_
  intro zp ze zs zm zb zh zc ls X hin hret hexc hT hl
  have hl : lv_has ls 3 [(0, .ref (b 0 0)), (1, .int t)] := hl
  obtain ⟨⟨i2, i4, i5, i10, i17, i22, i29, i32⟩, hr3, hr6, hr11, hr18, hr23, hz21, hz28, hlb⟩ := id hi
  have hI := q_inv_mono hi (show 511 ≤ 512 by decide)
  refine lv_iload_n X.1 X.2.1 dX7_addPerson_0 rfl (lv_at hl 1 rfl) ?_
  refine lv_if_lt X.1 X.2.1 (tgt := 9) dX7_addPerson_1 (by decide) (fun c1 => ?_) (fun c1 => ?_)
  · skip
    exact mr_throw X hexc hT (text := "team is out of range") (is := 47) tx_45_49 (by decide) hl.1 (Or.inl ⟨rfl, by unfold f_addPerson_c; first | (rw [c_inn c1]; rfl) | (rw [c_inh (Int32.not_le.mp (fun z => c6 (c_lt4.mpr z)))]; rfl)⟩) dX7_addPerson_9 dX7_addPerson_12 dX7_addPerson_13 dX7_addPerson_15 dX7_addPerson_18 (Nat.le_of_ble_eq_true rfl) (Nat.le_of_ble_eq_true rfl) (Nat.le_of_ble_eq_true rfl) (Nat.le_of_ble_eq_true rfl) (Nat.le_of_ble_eq_true rfl) (Nat.le_of_ble_eq_true rfl)
  · skip
    refine lv_iload_n X.1 X.2.1 dX7_addPerson_4 rfl (lv_at hl 1 rfl) ?_
    refine lv_iconst X.1 X.2.1 (v := 4) dX7_addPerson_5 (by decide) ?_
    refine lv_icmp_lt X.1 X.2.1 (tgt := 19) dX7_addPerson_6 (by decide) (fun c6 => ?_) (fun c6 => ?_)
    · skip
      refine lv_aload_n X.1 X.2.1 dX7_addPerson_19 rfl (lv_at hl 0 rfl) ?_
      refine mr_get X hT fl_RX7_12 (hA.gate) rfl dX7_addPerson_20 ?_
      refine mr_g X hT (fun hT' => mr_runV X hT' cb_RX7_52 kw196 kw197 kw198 (j_size hfl (hA.1 4 0 (show 0 < 6 by decide))) (mr_cell X hT (hA.1 4 0 (show 0 < 6 by decide)) rfl) rfl rfl hl.1 ⟨Nat.le_of_ble_eq_true rfl, Nat.le_of_ble_eq_true rfl⟩ (Nat.le_of_ble_eq_true rfl) dX7_addPerson_23 ⟨Nat.le_of_ble_eq_true rfl, Nat.le_of_ble_eq_true rfl⟩) (fun v M1 H locs hp hT => ?_)
      obtain ⟨r, rfl, rfl, rfl⟩ := hp
      refine W.eq (g2 := F0 zm 26 ls (.int _ :: _)) rfl ?_
      refine mm_top (w := nI (ct x 2)) (rfl) ?_
      refine lv_istore_n X.1 X.2.1 dX7_addPerson_26 rfl hl (by decide) rfl (fun ls hl => ?_)
      refine lv_iload_n X.1 X.2.1 dX7_addPerson_27 rfl (lv_at hl 0 rfl) ?_
      refine lv_bipush X.1 X.2.1 (v := 12) dX7_addPerson_28 (by decide) ?_
      refine lv_icmp_lt X.1 X.2.1 (tgt := 43) dX7_addPerson_30 (by decide) (fun c30 => ?_) (fun c30 => ?_)
      · skip
        have h12 : ct x 2 < 12 := (nI_ltI (by omega) (by decide)).mp c30
        refine lv_aload_n X.1 X.2.1 dX7_addPerson_43 rfl (lv_at hl 1 rfl) ?_
        refine mr_get X hT fl_RX7_12 (hA.gate) rfl dX7_addPerson_44 ?_
        refine mr_new X hT (ci := 4) rfl uin_4 tyX3 tyX3_ok kw215 kw216 kw11 (fs := [.int 0, .int 0, .int 0]) (fun j hj => by have hj : j < 3 := hj; rcases (show j = 0 ∨ j = 1 ∨ j = 2 by omega) with rfl | rfl | rfl <;> rfl) (Nat.le_of_ble_eq_true rfl) (Nat.le_of_ble_eq_true rfl) dX7_addPerson_47 (fun q H hq hT => ?_)
        refine lv_dup X.1 X.2.1 dX7_addPerson_50 rfl ?_
        refine lv_iload_n X.1 X.2.1 dX7_addPerson_51 rfl (lv_at hl 0 rfl) ?_
        refine lv_iload_n X.1 X.2.1 dX7_addPerson_52 rfl (lv_at hl 2 rfl) ?_
        refine mr_g X hT (fun hT' => mr_runIN X hT' cn_RX7_63 kw218 rfl kw219 (o_person hfl (va_up_self _ _ _)) rfl rfl hl.1 ⟨Nat.le_of_ble_eq_true rfl, Nat.le_of_ble_eq_true rfl⟩ (Nat.le_of_ble_eq_true rfl) dX7_addPerson_53 ⟨Nat.le_of_ble_eq_true rfl, Nat.le_of_ble_eq_true rfl⟩) (fun v M1 H locs hp hT => ?_)
        obtain ⟨rfl, rfl⟩ := hp
        rw [mw_up1] at hT
        refine W.eq (g2 := F0 zm 56 ls _) rfl ?_
        refine mr_g X hT (fun hT' => mr_runV X hT' cb_RX7_66 kw234 kw235 kw236 (c_add (i := 0) (q := q) (ci := 4) hfl hA (ho.ls) (by decide) hq rfl kw737 (by decide) (fun k hk => ⟨_, hA.per hk⟩) (show ct x 2 ≤ 533 by omega)) (mr_cell X hT ((hA.off hq).1 4 0 (show 0 < 6 by decide)) rfl) rfl rfl hl.1 ⟨Nat.le_of_ble_eq_true rfl, Nat.le_of_ble_eq_true rfl⟩ (Nat.le_of_ble_eq_true rfl) dX7_addPerson_56 ⟨Nat.le_of_ble_eq_true rfl, Nat.le_of_ble_eq_true rfl⟩) (fun v M1 H locs hp hT => ?_)
        obtain ⟨r, rfl, hp⟩ := hp
        refine W.eq (g2 := F0 zm 59 ls (.int _ :: _)) rfl ?_
        obtain ⟨ea, w1, ew, hA1, hls1⟩ := hA.push_P hi ho.ls hq (fun h => if_neg h) hp
        refine lv_pop X.1 X.2.1 dX7_addPerson_59 rfl ?_
        refine lv_iload_n X.1 X.2.1 dX7_addPerson_60 rfl (lv_at hl 0 rfl) ?_
        exact mr_iretX X hT hret (⟨_, rfl, by unfold f_addPerson_c; rw [c_int c1 (c_lt4.mp c6), decide_eq_true h12]; rfl, rfl, _, c_b_6 0 0 (by decide) (Or.inl (by decide)), w1, hA1, ho.add_P hz ew hls1⟩) (Nat.le_of_ble_eq_true rfl) (Nat.le_of_ble_eq_true rfl) dX7_addPerson_61
      · skip
        exact mr_throw X hexc hT (text := "there are 12 people") (is := 58) tx_56_60 (by decide) hl.1 (Or.inr ⟨rfl, by unfold f_addPerson_c; rw [c_int c1 (c_lt4.mp c6), decide_eq_false (fun z => c30 (nI_lt z (by decide)))]; rfl⟩) dX7_addPerson_33 dX7_addPerson_36 dX7_addPerson_37 dX7_addPerson_39 dX7_addPerson_42 (Nat.le_of_ble_eq_true rfl) (Nat.le_of_ble_eq_true rfl) (Nat.le_of_ble_eq_true rfl) (Nat.le_of_ble_eq_true rfl) (Nat.le_of_ble_eq_true rfl) (Nat.le_of_ble_eq_true rfl)
    · skip
      exact mr_throw X hexc hT (text := "team is out of range") (is := 47) tx_45_49 (by decide) hl.1 (Or.inl ⟨rfl, by unfold f_addPerson_c; first | (rw [c_inn c1]; rfl) | (rw [c_inh (Int32.not_le.mp (fun z => c6 (c_lt4.mpr z)))]; rfl)⟩) dX7_addPerson_9 dX7_addPerson_12 dX7_addPerson_13 dX7_addPerson_15 dX7_addPerson_18 (Nat.le_of_ble_eq_true rfl) (Nat.le_of_ble_eq_true rfl) (Nat.le_of_ble_eq_true rfl) (Nat.le_of_ble_eq_true rfl) (Nat.le_of_ble_eq_true rfl) (Nat.le_of_ble_eq_true rfl)

abbrev rm_X7_addMachine : Room := { frames := 7, cells := 4, slots := 1314, locals := 226 }
set_option maxHeartbeats 4000000 in
set_option maxRecDepth 100000 in
theorem c_addMachine {l : Launch} (hfl : l.stackTraces = false) {G : mw_G} {b : c_B} {x : s_T} {w : c_W} {t : Int32} {M : mw_M} (hA : CA G b x w M) (ho : c_ok (ct x 5) b x w) (hi : q_inv 511 x) : mw_MetX l G yX7_addMachine (.code yX7_addMachine cX7_addMachine 3 (some .int)) rm_X7_addMachine [.ref (b 0 0), .int t] M (mw_pi (fun r M1 => f_addMachine_c x t = 0 ∧ r = nI (ct x 4) ∧ c_out G b (f_addMachine_s x t) M1)) (fun E => (E = "java/lang/IllegalArgumentException" ∧ f_addMachine_c x t = 1) ∨ (E = "java/lang/IllegalStateException" ∧ f_addMachine_c x t = 2)) := by
  refine mw_ofX hfl (by decide) (Nat.le_of_ble_eq_true rfl) ?_
  intro zp ze zs zm zb zh zc ls X hin hret hexc hT hl
  have hl : lv_has ls 3 [(0, .ref (b 0 0)), (1, .int t)] := hl
  obtain ⟨⟨i2, i4, i5, i10, i17, i22, i29, i32⟩, hr3, hr6, hr11, hr18, hr23, hz21, hz28, hlb⟩ := id hi
  have hI := q_inv_mono hi (show 511 ≤ 512 by decide)
  refine lv_iload_n X.1 X.2.1 dX7_addMachine_0 rfl (lv_at hl 1 rfl) ?_
  refine mr_gX X hT (fun hT' => mr_runSX X hT' cb_RX7_70 kw331 kw332 (c_requireLabel hfl) rfl rfl hl.1 ⟨Nat.le_of_ble_eq_true rfl, Nat.le_of_ble_eq_true rfl⟩ (Nat.le_of_ble_eq_true rfl) dX7_addMachine_1 ⟨Nat.le_of_ble_eq_true rfl, Nat.le_of_ble_eq_true rfl⟩) (fun E ce q9 H locs hp hT h1 h2 h3 => ?_) (fun v M1 H locs hp hT => ?_)
  · exact mr_out X hexc hT h1 h2 h3 (Or.inl ⟨hp.1, by unfold f_addMachine_c; rw [hp.2]; rfl⟩) (Nat.le_of_ble_eq_true rfl) (Nat.le_of_ble_eq_true rfl)
  obtain ⟨rfl, g1, rfl⟩ := hp
  refine W.eq (g2 := F0 zm 4 ls _) rfl ?_
  refine lv_aload_n X.1 X.2.1 dX7_addMachine_4 rfl (lv_at hl 0 rfl) ?_
  refine mr_get X hT fl_RX7_16 (hA.gate) rfl dX7_addMachine_5 ?_
  refine mr_g X hT (fun hT' => mr_runV X hT' cb_RX7_52 kw196 kw197 kw198 (j_size hfl (hA.1 4 1 (show 1 < 6 by decide))) (mr_cell X hT (hA.1 4 1 (show 1 < 6 by decide)) rfl) rfl rfl hl.1 ⟨Nat.le_of_ble_eq_true rfl, Nat.le_of_ble_eq_true rfl⟩ (Nat.le_of_ble_eq_true rfl) dX7_addMachine_8 ⟨Nat.le_of_ble_eq_true rfl, Nat.le_of_ble_eq_true rfl⟩) (fun v M1 H locs hp hT => ?_)
  obtain ⟨r, rfl, rfl, rfl⟩ := hp
  refine W.eq (g2 := F0 zm 11 ls (.int _ :: _)) rfl ?_
  refine mm_top (w := nI (ct x 4)) (rfl) ?_
  refine lv_istore_n X.1 X.2.1 dX7_addMachine_11 rfl hl (by decide) rfl (fun ls hl => ?_)
  refine lv_iload_n X.1 X.2.1 dX7_addMachine_12 rfl (lv_at hl 0 rfl) ?_
  refine lv_bipush X.1 X.2.1 (v := 8) dX7_addMachine_13 (by decide) ?_
  refine lv_icmp_lt X.1 X.2.1 (tgt := 28) dX7_addMachine_15 (by decide) (fun c15 => ?_) (fun c15 => ?_)
  · skip
    have h12 : ct x 4 < 8 := (nI_ltI (by omega) (by decide)).mp c15
    refine lv_aload_n X.1 X.2.1 dX7_addMachine_28 rfl (lv_at hl 1 rfl) ?_
    refine mr_get X hT fl_RX7_16 (hA.gate) rfl dX7_addMachine_29 ?_
    refine mr_new X hT (ci := 3) rfl uin_3 tyX2 tyX2_ok kw338 kw387 kw19 (fs := [.int 0, .int 0]) (fun j hj => by have hj : j < 2 := hj; rcases (show j = 0 ∨ j = 1 by omega) with rfl | rfl <;> rfl) (Nat.le_of_ble_eq_true rfl) (Nat.le_of_ble_eq_true rfl) dX7_addMachine_32 (fun q H hq hT => ?_)
    refine lv_dup X.1 X.2.1 dX7_addMachine_35 rfl ?_
    refine lv_iload_n X.1 X.2.1 dX7_addMachine_36 rfl (lv_at hl 0 rfl) ?_
    refine lv_iload_n X.1 X.2.1 dX7_addMachine_37 rfl (lv_at hl 2 rfl) ?_
    refine mr_g X hT (fun hT' => mr_runIN X hT' cn_RX7_78 kw389 rfl kw390 (o_machine hfl (va_up_self _ _ _)) rfl rfl hl.1 ⟨Nat.le_of_ble_eq_true rfl, Nat.le_of_ble_eq_true rfl⟩ (Nat.le_of_ble_eq_true rfl) dX7_addMachine_38 ⟨Nat.le_of_ble_eq_true rfl, Nat.le_of_ble_eq_true rfl⟩) (fun v M1 H locs hp hT => ?_)
    obtain ⟨rfl, rfl⟩ := hp
    rw [mw_up1] at hT
    refine W.eq (g2 := F0 zm 41 ls _) rfl ?_
    refine mr_g X hT (fun hT' => mr_runV X hT' cb_RX7_66 kw234 kw235 kw236 (c_add (i := 1) (q := q) (ci := 3) hfl hA (ho.ls) (by decide) hq rfl kw739 (by decide) (fun k hk => ⟨_, hA.mac hk⟩) (show ct x 4 ≤ 533 by omega)) (mr_cell X hT ((hA.off hq).1 4 1 (show 1 < 6 by decide)) rfl) rfl rfl hl.1 ⟨Nat.le_of_ble_eq_true rfl, Nat.le_of_ble_eq_true rfl⟩ (Nat.le_of_ble_eq_true rfl) dX7_addMachine_41 ⟨Nat.le_of_ble_eq_true rfl, Nat.le_of_ble_eq_true rfl⟩) (fun v M1 H locs hp hT => ?_)
    obtain ⟨r, rfl, hp⟩ := hp
    refine W.eq (g2 := F0 zm 44 ls (.int _ :: _)) rfl ?_
    obtain ⟨ea, w1, ew, hA1, hls1⟩ := hA.push_M hi ho.ls hq (fun h => if_neg h) hp
    refine lv_pop X.1 X.2.1 dX7_addMachine_44 rfl ?_
    refine lv_iload_n X.1 X.2.1 dX7_addMachine_45 rfl (lv_at hl 0 rfl) ?_
    exact mr_iretX X hT hret (⟨_, rfl, by unfold f_addMachine_c; rw [g1, decide_eq_true h12]; rfl, rfl, _, c_b_6 0 0 (by decide) (Or.inl (by decide)), w1, hA1, ho.add_M ew hls1⟩) (Nat.le_of_ble_eq_true rfl) (Nat.le_of_ble_eq_true rfl) dX7_addMachine_46
  · skip
    exact mr_throw X hexc hT (text := "there are 8 machines") (is := 74) tx_56_60 (by decide) hl.1 (Or.inr ⟨rfl, by unfold f_addMachine_c; rw [g1, decide_eq_false (fun z => c15 (nI_lt z (by decide)))]; rfl⟩) dX7_addMachine_18 dX7_addMachine_21 dX7_addMachine_22 dX7_addMachine_24 dX7_addMachine_27 (Nat.le_of_ble_eq_true rfl) (Nat.le_of_ble_eq_true rfl) (Nat.le_of_ble_eq_true rfl) (Nat.le_of_ble_eq_true rfl) (Nat.le_of_ble_eq_true rfl) (Nat.le_of_ble_eq_true rfl)

abbrev rm_X7_setLabel : Room := { frames := 7, cells := 2, slots := 12, locals := 121 }
set_option maxHeartbeats 4000000 in
set_option maxRecDepth 100000 in
theorem c_setLabelT {l : Launch} (hfl : l.stackTraces = false) {G : mw_G} {b : c_B} {x : s_T} {w : c_W} {p ll : Int32} {M : mw_M} (hA : CA G b x w M) (ho : c_ok (ct x 5) b x w) (hi : q_inv 511 x) : mw_MetX l G yX7_setLabel (.code yX7_setLabel cX7_setLabel 7 (some .int)) rm_X7_setLabel [.ref (b 0 0), .int p, .int ll, .int (bI true)] M (mw_pi (fun r M1 => f_setLabel_c x p ll = 0 ∧ r = (f_setLabel_s x p ll true).2 ∧ c_out G b ((f_setLabel_s x p ll true).1) M1)) (fun E => (E = "java/lang/IndexOutOfBoundsException" ∧ f_setLabel_c x p ll = 1) ∨ (E = "java/lang/IllegalArgumentException" ∧ f_setLabel_c x p ll = 2)) := by
  refine mw_ofX hfl (by decide) (Nat.le_of_ble_eq_true rfl) ?_
  intro zp ze zs zm zb zh zc ls X hin hret hexc hT hl
  have hl : lv_has ls 7 [(0, .ref (b 0 0)), (1, .int p), (2, .int ll), (3, .int (bI true))] := hl
  obtain ⟨⟨i2, i4, i5, i10, i17, i22, i29, i32⟩, hr3, hr6, hr11, hr18, hr23, hz21, hz28, hlb⟩ := id hi
  have hI := q_inv_mono hi (show 511 ≤ 512 by decide)
  refine lv_aload_n X.1 X.2.1 dX7_setLabel_0 rfl (lv_at hl 0 rfl) ?_
  refine lv_iload_n X.1 X.2.1 dX7_setLabel_1 rfl (lv_at hl 1 rfl) ?_
  refine mr_gX X hT (fun hT' => mr_runVX X hT' cb_RX7_79 kw298 kp4 kw299 (c_personAt hfl hA ho hI) (mr_cell X hT hA.gate rfl) rfl rfl hl.1 ⟨Nat.le_of_ble_eq_true rfl, Nat.le_of_ble_eq_true rfl⟩ (Nat.le_of_ble_eq_true rfl) dX7_setLabel_2 ⟨Nat.le_of_ble_eq_true rfl, Nat.le_of_ble_eq_true rfl⟩) (fun E ce q9 H locs hp hT h1 h2 h3 => ?_) (fun v M1 H locs hp hT => ?_)
  · exact mr_out X hexc hT h1 h2 h3 (Or.inl (⟨hp.1, by unfold f_setLabel_c; rw [hp.2]; rfl⟩)) (Nat.le_of_ble_eq_true rfl) (Nat.le_of_ble_eq_true rfl)
  obtain ⟨r, rfl, ⟨j, hj, rfl, rfl⟩, rfl⟩ := hp
  refine W.eq (g2 := F0 zm 5 ls (.ref _ :: _)) rfl ?_
  refine lv_astore X.1 X.2.1 dX7_setLabel_5 hl (by decide) rfl (fun ls hl => ?_)
  refine lv_iload_n X.1 X.2.1 dX7_setLabel_7 rfl (lv_at hl 3 rfl) ?_
  refine mr_gX X hT (fun hT' => mr_runSX X hT' cb_RX7_70 kw331 kw332 (c_requireLabel hfl) rfl rfl hl.1 ⟨Nat.le_of_ble_eq_true rfl, Nat.le_of_ble_eq_true rfl⟩ (Nat.le_of_ble_eq_true rfl) dX7_setLabel_8 ⟨Nat.le_of_ble_eq_true rfl, Nat.le_of_ble_eq_true rfl⟩) (fun E ce q9 H locs hp hT h1 h2 h3 => ?_) (fun v M1 H locs hp hT => ?_)
  · exact mr_out X hexc hT h1 h2 h3 (Or.inr ⟨hp.1, by unfold f_setLabel_c; rw [c_ixt hj (show ct x 2 < 2 ^ 31 by omega), hp.2]; rfl⟩) (Nat.le_of_ble_eq_true rfl) (Nat.le_of_ble_eq_true rfl)
  obtain ⟨rfl, g1, rfl⟩ := hp
  obtain ⟨t, -, ht, rfl⟩ := q_in_of (lo := 0) (hi := 3) (by decide) g1 (by decide)
  have pj : pn (nI j) = j := pn_nI (by omega)
  have pt : pn (nI t) = t := pn_nI (by omega)
  refine W.eq (g2 := F0 zm 11 ls _) rfl ?_
  refine lv_aload X.1 X.2.1 dX7_setLabel_11 (lv_at hl 0 rfl) ?_
  refine lv_iload_n X.1 X.2.1 dX7_setLabel_13 rfl (lv_at hl 3 rfl) ?_
  refine lv_iload_n X.1 X.2.1 dX7_setLabel_14 rfl (lv_at hl 4 rfl) ?_
  refine mr_g X hT (fun hT' => mr_runVN X hT' cn_RX7_83 kw336 kp5 kw337 (o_keepLabel (l0 := t) (h := true) hfl (hA.per hj)) (mr_cell X hT (hA.per hj) rfl) rfl rfl hl.1 ⟨Nat.le_of_ble_eq_true rfl, Nat.le_of_ble_eq_true rfl⟩ (Nat.le_of_ble_eq_true rfl) dX7_setLabel_15 ⟨Nat.le_of_ble_eq_true rfl, Nat.le_of_ble_eq_true rfl⟩) (fun v M1 H locs hp hT => ?_)
  obtain ⟨rfl, rfl⟩ := hp
  have hA : CA G b (cs x 1 (4 * j + t) (bI true)) (cw w 0 j (c_keep (w.1 0 j) t true)) _ := (hA.setBits hj (c_keep (w.1 0 j) t true)).free (c := 1) _ (Or.inl rfl)
  have ho := ho.lab (h := true) hj (show t < 4 by omega)
  refine W.eq (g2 := F0 zm 18 ls _) rfl ?_
  refine lv_iload_n X.1 X.2.1 dX7_setLabel_18 rfl (lv_at hl 4 rfl) ?_
  refine lv_if_eq X.1 X.2.1 (tgt := 24) dX7_setLabel_19 (by decide) (fun c19 => ?_) (fun c19 => ?_)
  · exact absurd c19 (by decide)
  · skip
    refine lv_iconst X.1 X.2.1 (v := 0) dX7_setLabel_22 (by decide) ?_
    exact mr_iretX X hT hret (⟨_, rfl, by unfold f_setLabel_c; rw [c_ixt hj (show ct x 2 < 2 ^ 31 by omega), g1]; rfl, rfl, b, rfl, by unfold f_setLabel_s; rw [pj, pt]; exact ⟨_, hA, ho⟩⟩) (Nat.le_of_ble_eq_true rfl) (Nat.le_of_ble_eq_true rfl) dX7_setLabel_23


set_option maxHeartbeats 4000000 in
set_option maxRecDepth 100000 in
theorem c_setLabelF {l : Launch} (hfl : l.stackTraces = false) {G : mw_G} {b : c_B} {x : s_T} {w : c_W} {p ll : Int32} {M : mw_M} (hA : CA G b x w M) (ho : c_ok (ct x 5) b x w) (hi : q_inv 511 x) : mw_MetX l G yX7_setLabel (.code yX7_setLabel cX7_setLabel 7 (some .int)) rm_X7_setLabel [.ref (b 0 0), .int p, .int ll, .int (bI false)] M (mw_pi (fun r M1 => f_setLabel_c x p ll = 0 ∧ r = (f_setLabel_s x p ll false).2 ∧ c_out G b ((f_setLabel_s x p ll false).1) M1)) (fun E => (E = "java/lang/IndexOutOfBoundsException" ∧ f_setLabel_c x p ll = 1) ∨ (E = "java/lang/IllegalArgumentException" ∧ f_setLabel_c x p ll = 2)) := by
  refine mw_ofX hfl (by decide) (Nat.le_of_ble_eq_true rfl) ?_
  intro zp ze zs zm zb zh zc ls X hin hret hexc hT hl
  have hl : lv_has ls 7 [(0, .ref (b 0 0)), (1, .int p), (2, .int ll), (3, .int (bI false))] := hl
  obtain ⟨⟨i2, i4, i5, i10, i17, i22, i29, i32⟩, hr3, hr6, hr11, hr18, hr23, hz21, hz28, hlb⟩ := id hi
  have hI := q_inv_mono hi (show 511 ≤ 512 by decide)
  refine lv_aload_n X.1 X.2.1 dX7_setLabel_0 rfl (lv_at hl 0 rfl) ?_
  refine lv_iload_n X.1 X.2.1 dX7_setLabel_1 rfl (lv_at hl 1 rfl) ?_
  refine mr_gX X hT (fun hT' => mr_runVX X hT' cb_RX7_79 kw298 kp4 kw299 (c_personAt hfl hA ho hI) (mr_cell X hT hA.gate rfl) rfl rfl hl.1 ⟨Nat.le_of_ble_eq_true rfl, Nat.le_of_ble_eq_true rfl⟩ (Nat.le_of_ble_eq_true rfl) dX7_setLabel_2 ⟨Nat.le_of_ble_eq_true rfl, Nat.le_of_ble_eq_true rfl⟩) (fun E ce q9 H locs hp hT h1 h2 h3 => ?_) (fun v M1 H locs hp hT => ?_)
  · exact mr_out X hexc hT h1 h2 h3 (Or.inl (⟨hp.1, by unfold f_setLabel_c; rw [hp.2]; rfl⟩)) (Nat.le_of_ble_eq_true rfl) (Nat.le_of_ble_eq_true rfl)
  obtain ⟨r, rfl, ⟨j, hj, rfl, rfl⟩, rfl⟩ := hp
  refine W.eq (g2 := F0 zm 5 ls (.ref _ :: _)) rfl ?_
  refine lv_astore X.1 X.2.1 dX7_setLabel_5 hl (by decide) rfl (fun ls hl => ?_)
  refine lv_iload_n X.1 X.2.1 dX7_setLabel_7 rfl (lv_at hl 3 rfl) ?_
  refine mr_gX X hT (fun hT' => mr_runSX X hT' cb_RX7_70 kw331 kw332 (c_requireLabel hfl) rfl rfl hl.1 ⟨Nat.le_of_ble_eq_true rfl, Nat.le_of_ble_eq_true rfl⟩ (Nat.le_of_ble_eq_true rfl) dX7_setLabel_8 ⟨Nat.le_of_ble_eq_true rfl, Nat.le_of_ble_eq_true rfl⟩) (fun E ce q9 H locs hp hT h1 h2 h3 => ?_) (fun v M1 H locs hp hT => ?_)
  · exact mr_out X hexc hT h1 h2 h3 (Or.inr ⟨hp.1, by unfold f_setLabel_c; rw [c_ixt hj (show ct x 2 < 2 ^ 31 by omega), hp.2]; rfl⟩) (Nat.le_of_ble_eq_true rfl) (Nat.le_of_ble_eq_true rfl)
  obtain ⟨rfl, g1, rfl⟩ := hp
  obtain ⟨t, -, ht, rfl⟩ := q_in_of (lo := 0) (hi := 3) (by decide) g1 (by decide)
  have pj : pn (nI j) = j := pn_nI (by omega)
  have pt : pn (nI t) = t := pn_nI (by omega)
  refine W.eq (g2 := F0 zm 11 ls _) rfl ?_
  refine lv_aload X.1 X.2.1 dX7_setLabel_11 (lv_at hl 0 rfl) ?_
  refine lv_iload_n X.1 X.2.1 dX7_setLabel_13 rfl (lv_at hl 3 rfl) ?_
  refine lv_iload_n X.1 X.2.1 dX7_setLabel_14 rfl (lv_at hl 4 rfl) ?_
  refine mr_g X hT (fun hT' => mr_runVN X hT' cn_RX7_83 kw336 kp5 kw337 (o_keepLabel (l0 := t) (h := false) hfl (hA.per hj)) (mr_cell X hT (hA.per hj) rfl) rfl rfl hl.1 ⟨Nat.le_of_ble_eq_true rfl, Nat.le_of_ble_eq_true rfl⟩ (Nat.le_of_ble_eq_true rfl) dX7_setLabel_15 ⟨Nat.le_of_ble_eq_true rfl, Nat.le_of_ble_eq_true rfl⟩) (fun v M1 H locs hp hT => ?_)
  obtain ⟨rfl, rfl⟩ := hp
  have hA : CA G b (cs x 1 (4 * j + t) (bI false)) (cw w 0 j (c_keep (w.1 0 j) t false)) _ := (hA.setBits hj (c_keep (w.1 0 j) t false)).free (c := 1) _ (Or.inl rfl)
  have ho := ho.lab (h := false) hj (show t < 4 by omega)
  refine W.eq (g2 := F0 zm 18 ls _) rfl ?_
  refine lv_iload_n X.1 X.2.1 dX7_setLabel_18 rfl (lv_at hl 4 rfl) ?_
  refine lv_if_eq X.1 X.2.1 (tgt := 24) dX7_setLabel_19 (by decide) (fun c19 => ?_) (fun c19 => ?_)
  · skip
    refine lv_iconst X.1 X.2.1 (v := 0) dX7_setLabel_24 (by decide) ?_
    refine lv_istore X.1 X.2.1 dX7_setLabel_25 hl (by decide) rfl (fun ls hl => ?_)
    refine W.widen (k := 2) (n := 12) (Nat.le_of_ble_eq_true rfl) (Nat.le_of_ble_eq_true rfl) ?_
    refine mw_loop (nL := 7) (n := ct x 4) (fun k M1 => CW G (ct x 5) b (q_strip (cs x 1 (4 * j + t) (bI false)) (nI j) (nI t) k) M1) (fun k => [(5, .int (nI k)), (4, .ref (b 6 j)), (0, .ref (b 0 0)), (1, .int (nI j)), (2, .int (nI t)), (3, .int (bI false))]) (fun k hk ih M1 H locs ls hM hT hl => ?_) ⟨_, hA, ho⟩ hT (lv_sub hl [0, 1, 2, 3, 4, 5] rfl)
    obtain ⟨w1, hA, ho⟩ := id hM
    have hiy := q_inv_strip (q_inv_lab hI (4 * j + t) false) (nI j) (nI t) k
    obtain ⟨y, ey⟩ : ∃ y, y = q_strip (cs x 1 (4 * j + t) (bI false)) (nI j) (nI t) k := ⟨_, rfl⟩
    have e2 : ct (q_strip (cs x 1 (4 * j + t) (bI false)) (nI j) (nI t) k) 2 = ct x 2 := q_strip_ct _ _ _ _ _
    have e4 : ct (q_strip (cs x 1 (4 * j + t) (bI false)) (nI j) (nI t) k) 4 = ct x 4 := q_strip_ct _ _ _ _ _
    have e5 : ct (q_strip (cs x 1 (4 * j + t) (bI false)) (nI j) (nI t) k) 5 = ct x 5 := q_strip_ct _ _ _ _ _
    rw [← ey] at hM hA ho hiy e2 e4 e5
    obtain ⟨⟨j2, j4, j5, j10, j17, j22, j29, j32⟩, -⟩ := id hiy
    have hj4 : j < ct y 2 := by rw [e2]; exact hj
    refine lv_iload X.1 X.2.1 dX7_setLabel_27 (lv_at hl 0 rfl) ?_
    refine lv_aload_n X.1 X.2.1 dX7_setLabel_29 rfl (lv_at hl 2 rfl) ?_
    refine mr_get X hT fl_RX7_16 (hA.gate) rfl dX7_setLabel_30 ?_
    refine mr_g X hT (fun hT' => mr_runV X hT' cb_RX7_52 kw196 kw197 kw198 (j_size hfl (hA.1 4 1 (show 1 < 6 by decide))) (mr_cell X hT (hA.1 4 1 (show 1 < 6 by decide)) rfl) rfl rfl hl.1 ⟨Nat.le_of_ble_eq_true rfl, Nat.le_of_ble_eq_true rfl⟩ (Nat.le_of_ble_eq_true rfl) dX7_setLabel_33 ⟨Nat.le_of_ble_eq_true rfl, Nat.le_of_ble_eq_true rfl⟩) (fun v M1 H locs hp hT => ?_)
    obtain ⟨r, rfl, rfl, rfl⟩ := hp
    refine W.eq (g2 := F0 zm 36 ls (.int _ :: _)) rfl ?_
    refine mm_top (w := nI (ct y 4)) (rfl) ?_
    refine lv_icmp_ge X.1 X.2.1 (tgt := 84) dX7_setLabel_36 (by decide) (fun c36 => ?_) (fun c36 => ?_)
    · skip
      have hkn := mm_exit hk (show ct x 4 < 2 ^ 31 by omega) (e4 ▸ c36)
      subst hkn
      refine lv_aload_n X.1 X.2.1 dX7_setLabel_84 rfl (lv_at hl 2 rfl) ?_
      refine mr_g X hT (fun hT' => mr_runV X hT' cb_RX7_101 kw361 kp10 kw362 (c_closeEnded hfl hA ho hiy) (mr_cell X hT hA.gate rfl) rfl rfl hl.1 ⟨Nat.le_of_ble_eq_true rfl, Nat.le_of_ble_eq_true rfl⟩ (Nat.le_of_ble_eq_true rfl) dX7_setLabel_85 ⟨Nat.le_of_ble_eq_true rfl, Nat.le_of_ble_eq_true rfl⟩) (fun v M1 H locs hp hT => ?_)
      obtain ⟨r, rfl, rfl, hM⟩ := hp
      refine W.eq (g2 := F0 zm 88 ls (.int _ :: _)) rfl ?_
      exact mr_iretX X hT hret (⟨_, rfl, by unfold f_setLabel_c; rw [c_ixt hj (show ct x 2 < 2 ^ 31 by omega), g1]; rfl, by unfold f_setLabel_s; rw [pj, pt, ey]; rfl, b, rfl, by unfold f_setLabel_s; rw [pj, pt]; show CW G (ct (q_closes (q_strip (cs x 1 (4 * j + t) (bI false)) (nI j) (nI t) (ct x 4)) (-1)).1 5) b (q_closes (q_strip (cs x 1 (4 * j + t) (bI false)) (nI j) (nI t) (ct x 4)) (-1)).1 _; rw [← ey, q_closes_ct (by decide), e5]; exact hM⟩) (Nat.le_of_ble_eq_true rfl) (Nat.le_of_ble_eq_true rfl) dX7_setLabel_88
    · skip
      have hkl := mm_stay (n := ct y 4) (e4 ▸ hk) (show ct y 4 < 2 ^ 31 by omega) c36
      obtain ⟨he1, hf1⟩ := hA.list ho (i := 1) (by decide) (show ct (y) 4 ≠ 0 from Nat.ne_of_gt (Nat.lt_of_le_of_lt (Nat.zero_le _) hkl))
      obtain ⟨o1, o2, -, o4⟩ := ho.2.2.2.1 1 (by decide)
      refine lv_aload_n X.1 X.2.1 dX7_setLabel_39 rfl (lv_at hl 2 rfl) ?_
      refine mr_get X hT fl_RX7_16 (hA.gate) rfl dX7_setLabel_40 ?_
      refine lv_iload X.1 X.2.1 dX7_setLabel_43 (lv_at hl 0 rfl) ?_
      refine mr_g X hT (fun hT' => mr_runV X hT' cb_RX7_87 kw317 kw318 kw319 (j_get hfl he1 hf1 hkl o1 (by omega) (show w1.2.2 1 k = some (b 7 k) from o4 k hkl)) (mr_cell X hT he1 rfl) rfl rfl hl.1 ⟨Nat.le_of_ble_eq_true rfl, Nat.le_of_ble_eq_true rfl⟩ (Nat.le_of_ble_eq_true rfl) dX7_setLabel_45 ⟨Nat.le_of_ble_eq_true rfl, Nat.le_of_ble_eq_true rfl⟩) (fun v M1 H locs hp hT => ?_)
      obtain ⟨r, rfl, rfl, rfl⟩ := hp
      refine W.eq (g2 := F0 zm 48 ls (.ref _ :: _)) rfl ?_
      refine mr_cast X hT (hA.mac hkl) rfl kw338 dX7_setLabel_48 ?_
      refine lv_astore X.1 X.2.1 dX7_setLabel_51 hl (by decide) rfl (fun ls hl => ?_)
      refine lv_aload X.1 X.2.1 dX7_setLabel_53 (lv_at hl 0 rfl) ?_
      refine mr_get X hT fl_RX7_91 (hA.mac hkl) rfl dX7_setLabel_55 ?_
      refine lv_iload_n X.1 X.2.1 dX7_setLabel_58 rfl (lv_at hl 5 rfl) ?_
      refine lv_icmp_ne X.1 X.2.1 (tgt := 78) dX7_setLabel_59 (by decide) (fun c59 => ?_) (fun c59 => ?_)
      · skip
        refine lv_iinc X.1 X.2.1 (k := 1) (v := nI (k + 1)) dX7_setLabel_78 hl rfl (mm_inc k) (by decide) rfl (fun ls hl => ?_)
        refine lv_goto X.1 X.2.1 (tgt := 27) dX7_setLabel_81 (by decide) ?_
        refine W.widen (k := 2) (n := 12) (Nat.le_of_ble_eq_true rfl) (Nat.le_of_ble_eq_true rfl) ?_
        first
          | exact ih (by omega) _ _ _ _ (by rw [q_strip_t (ey ▸ c59), ← ey]; exact hM) hT (lv_sub hl [0, 2, 3, 4, 5, 6] rfl)
          | exact ih (by omega) _ _ _ _ (by rw [q_strip_f (ey ▸ c59), ← ey]; exact hM) hT (lv_sub hl [0, 2, 3, 4, 5, 6] rfl)
      · skip
        refine lv_aload_n X.1 X.2.1 dX7_setLabel_62 rfl (lv_at hl 3 rfl) ?_
        refine lv_aload X.1 X.2.1 dX7_setLabel_63 (lv_at hl 2 rfl) ?_
        refine lv_aload X.1 X.2.1 dX7_setLabel_65 (lv_at hl 0 rfl) ?_
        refine mr_g X hT (fun hT' => mr_runV X hT' cb_RX7_94 kw341 kp6 kw342 (c_endRights hfl hA ho hiy hj4 hkl) (mr_cell X hT hA.gate rfl) rfl rfl hl.1 ⟨Nat.le_of_ble_eq_true rfl, Nat.le_of_ble_eq_true rfl⟩ (Nat.le_of_ble_eq_true rfl) dX7_setLabel_67 ⟨Nat.le_of_ble_eq_true rfl, Nat.le_of_ble_eq_true rfl⟩) (fun v M1 H locs hp hT => ?_)
        obtain ⟨rfl, hA⟩ := hp
        have ho := ho.col (c := 9) (q_endf y (nI j) (nI k) (ct y 10)) (by decide)
        refine W.eq (g2 := F0 zm 70 ls _) rfl ?_
        refine lv_aload_n X.1 X.2.1 dX7_setLabel_70 rfl (lv_at hl 3 rfl) ?_
        refine lv_aload X.1 X.2.1 dX7_setLabel_71 (lv_at hl 2 rfl) ?_
        refine lv_aload X.1 X.2.1 dX7_setLabel_73 (lv_at hl 0 rfl) ?_
        refine mr_g X hT (fun hT' => mr_runV X hT' cb_RX7_98 kw351 kp8 kw352 (c_denyWaitingAsks (x := q_ends y (nI j) (nI k)) hfl hA ho (q_inv_ends hiy _ _) hj4 hkl e5.symm) (mr_cell X hT hA.gate rfl) rfl rfl hl.1 ⟨Nat.le_of_ble_eq_true rfl, Nat.le_of_ble_eq_true rfl⟩ (Nat.le_of_ble_eq_true rfl) dX7_setLabel_75 ⟨Nat.le_of_ble_eq_true rfl, Nat.le_of_ble_eq_true rfl⟩) (fun v M1 H locs hp hT => ?_)
        obtain ⟨rfl, hM⟩ := hp
        refine W.eq (g2 := F0 zm 78 ls _) rfl ?_
        refine lv_iinc X.1 X.2.1 (k := 1) (v := nI (k + 1)) dX7_setLabel_78 hl rfl (mm_inc k) (by decide) rfl (fun ls hl => ?_)
        refine lv_goto X.1 X.2.1 (tgt := 27) dX7_setLabel_81 (by decide) ?_
        refine W.widen (k := 2) (n := 12) (Nat.le_of_ble_eq_true rfl) (Nat.le_of_ble_eq_true rfl) ?_
        first
          | exact ih (by omega) _ _ _ _ (by rw [q_strip_t (ey ▸ c59), ← ey]; exact hM) hT (lv_sub hl [0, 2, 3, 4, 5, 6] rfl)
          | exact ih (by omega) _ _ _ _ (by rw [q_strip_f (ey ▸ c59), ← ey]; exact hM) hT (lv_sub hl [0, 2, 3, 4, 5, 6] rfl)
  · exact absurd rfl c19

abbrev rm_X7_takeAway : Room := { frames := 7, cells := 2, slots := 12, locals := 121 }
set_option maxHeartbeats 4000000 in
set_option maxRecDepth 100000 in
theorem c_takeAway {l : Launch} (hfl : l.stackTraces = false) {G : mw_G} {b : c_B} {x : s_T} {w : c_W} {p mm : Int32} {M : mw_M} (hA : CA G b x w M) (ho : c_ok (ct x 5) b x w) (hi : q_inv 511 x) : mw_MetX l G yX7_takeAway (.code yX7_takeAway cX7_takeAway 5 (some .int)) rm_X7_takeAway [.ref (b 0 0), .int p, .int mm] M (mw_pi (fun r M1 => f_takeAway_c x p mm = 0 ∧ r = (f_takeAway_s x p mm).2 ∧ c_out G b ((f_takeAway_s x p mm).1) M1)) (fun E => (E = "java/lang/IndexOutOfBoundsException" ∧ f_takeAway_c x p mm = 1)) := by
  refine mw_ofX hfl (by decide) (Nat.le_of_ble_eq_true rfl) ?_
  intro zp ze zs zm zb zh zc ls X hin hret hexc hT hl
  have hl : lv_has ls 5 [(0, .ref (b 0 0)), (1, .int p), (2, .int mm)] := hl
  obtain ⟨⟨i2, i4, i5, i10, i17, i22, i29, i32⟩, hr3, hr6, hr11, hr18, hr23, hz21, hz28, hlb⟩ := id hi
  have hI := q_inv_mono hi (show 511 ≤ 512 by decide)
  refine lv_aload_n X.1 X.2.1 dX7_takeAway_0 rfl (lv_at hl 0 rfl) ?_
  refine lv_iload_n X.1 X.2.1 dX7_takeAway_1 rfl (lv_at hl 1 rfl) ?_
  refine mr_gX X hT (fun hT' => mr_runVX X hT' cb_RX7_79 kw298 kp4 kw299 (c_personAt hfl hA ho hI) (mr_cell X hT hA.gate rfl) rfl rfl hl.1 ⟨Nat.le_of_ble_eq_true rfl, Nat.le_of_ble_eq_true rfl⟩ (Nat.le_of_ble_eq_true rfl) dX7_takeAway_2 ⟨Nat.le_of_ble_eq_true rfl, Nat.le_of_ble_eq_true rfl⟩) (fun E ce q9 H locs hp hT h1 h2 h3 => ?_) (fun v M1 H locs hp hT => ?_)
  · exact mr_out X hexc hT h1 h2 h3 (⟨hp.1, by unfold f_takeAway_c; unfold q_both; rw [hp.2]; rfl⟩) (Nat.le_of_ble_eq_true rfl) (Nat.le_of_ble_eq_true rfl)
  obtain ⟨r, rfl, ⟨j, hj, rfl, rfl⟩, rfl⟩ := hp
  refine W.eq (g2 := F0 zm 5 ls (.ref _ :: _)) rfl ?_
  refine lv_astore_n X.1 X.2.1 dX7_takeAway_5 rfl hl (by decide) rfl (fun ls hl => ?_)
  refine lv_aload_n X.1 X.2.1 dX7_takeAway_6 rfl (lv_at hl 1 rfl) ?_
  refine lv_iload_n X.1 X.2.1 dX7_takeAway_7 rfl (lv_at hl 3 rfl) ?_
  refine mr_gX X hT (fun hT' => mr_runVX X hT' cb_RX7_104 kw457 kp16 kw458 (c_machineAt hfl hA ho hI) (mr_cell X hT hA.gate rfl) rfl rfl hl.1 ⟨Nat.le_of_ble_eq_true rfl, Nat.le_of_ble_eq_true rfl⟩ (Nat.le_of_ble_eq_true rfl) dX7_takeAway_8 ⟨Nat.le_of_ble_eq_true rfl, Nat.le_of_ble_eq_true rfl⟩) (fun E ce q9 H locs hp hT h1 h2 h3 => ?_) (fun v M1 H locs hp hT => ?_)
  · exact mr_out X hexc hT h1 h2 h3 (⟨hp.1, by unfold f_takeAway_c; unfold q_both; rw [c_ixt hj (show ct x 2 < 2 ^ 31 by omega), hp.2]; rfl⟩) (Nat.le_of_ble_eq_true rfl) (Nat.le_of_ble_eq_true rfl)
  obtain ⟨r, rfl, ⟨m, hm, rfl, rfl⟩, rfl⟩ := hp
  refine W.eq (g2 := F0 zm 11 ls (.ref _ :: _)) rfl ?_
  have hb : q_both x (nI j) (nI m) = true := by unfold q_both; rw [c_ixt hj (by omega), c_ixt hm (by omega)]; rfl
  refine lv_astore X.1 X.2.1 dX7_takeAway_11 hl (by decide) rfl (fun ls hl => ?_)
  refine lv_aload_n X.1 X.2.1 dX7_takeAway_13 rfl (lv_at hl 2 rfl) ?_
  refine lv_aload_n X.1 X.2.1 dX7_takeAway_14 rfl (lv_at hl 1 rfl) ?_
  refine lv_aload X.1 X.2.1 dX7_takeAway_15 (lv_at hl 0 rfl) ?_
  refine mr_g X hT (fun hT' => mr_runV X hT' cb_RX7_94 kw341 kp6 kw342 (c_endRights hfl hA ho hI hj hm) (mr_cell X hT hA.gate rfl) rfl rfl hl.1 ⟨Nat.le_of_ble_eq_true rfl, Nat.le_of_ble_eq_true rfl⟩ (Nat.le_of_ble_eq_true rfl) dX7_takeAway_17 ⟨Nat.le_of_ble_eq_true rfl, Nat.le_of_ble_eq_true rfl⟩) (fun v M1 H locs hp hT => ?_)
  obtain ⟨rfl, hA⟩ := hp
  have ho := ho.col (c := 9) (q_endf x (nI j) (nI m) (ct x 10)) (by decide)
  refine W.eq (g2 := F0 zm 20 ls _) rfl ?_
  refine lv_aload_n X.1 X.2.1 dX7_takeAway_20 rfl (lv_at hl 2 rfl) ?_
  refine lv_aload_n X.1 X.2.1 dX7_takeAway_21 rfl (lv_at hl 1 rfl) ?_
  refine lv_aload X.1 X.2.1 dX7_takeAway_22 (lv_at hl 0 rfl) ?_
  refine mr_g X hT (fun hT' => mr_runV X hT' cb_RX7_98 kw351 kp8 kw352 (c_denyWaitingAsks (x := q_ends x (nI j) (nI m)) hfl hA ho (q_inv_ends hI _ _) hj hm rfl) (mr_cell X hT hA.gate rfl) rfl rfl hl.1 ⟨Nat.le_of_ble_eq_true rfl, Nat.le_of_ble_eq_true rfl⟩ (Nat.le_of_ble_eq_true rfl) dX7_takeAway_24 ⟨Nat.le_of_ble_eq_true rfl, Nat.le_of_ble_eq_true rfl⟩) (fun v M1 H locs hp hT => ?_)
  obtain ⟨rfl, hM⟩ := hp
  obtain ⟨w2, hA, ho⟩ := hM
  refine W.eq (g2 := F0 zm 27 ls _) rfl ?_
  refine lv_aload_n X.1 X.2.1 dX7_takeAway_27 rfl (lv_at hl 2 rfl) ?_
  refine mr_g X hT (fun hT' => mr_runV X hT' cb_RX7_101 kw361 kp10 kw362 (c_closeEnded hfl hA ho (q_inv_denies (q_inv_ends hI _ _) _ _)) (mr_cell X hT hA.gate rfl) rfl rfl hl.1 ⟨Nat.le_of_ble_eq_true rfl, Nat.le_of_ble_eq_true rfl⟩ (Nat.le_of_ble_eq_true rfl) dX7_takeAway_28 ⟨Nat.le_of_ble_eq_true rfl, Nat.le_of_ble_eq_true rfl⟩) (fun v M1 H locs hp hT => ?_)
  obtain ⟨r, rfl, rfl, hM⟩ := hp
  refine W.eq (g2 := F0 zm 31 ls (.int _ :: _)) rfl ?_
  exact mr_iretX X hT hret (⟨_, rfl, by unfold f_takeAway_c; rw [hb]; rfl, rfl, b, rfl, by unfold f_takeAway_s; rw [q_closes_ct (by decide)]; exact hM⟩) (Nat.le_of_ble_eq_true rfl) (Nat.le_of_ble_eq_true rfl) dX7_takeAway_31

abbrev rm_X7_ask : Room := { frames := 7, cells := 6, slots := 1330, locals := 226 }
set_option maxHeartbeats 4000000 in
set_option maxRecDepth 100000 in
theorem c_ask {l : Launch} (hfl : l.stackTraces = false) {G : mw_G} {b : c_B} {x : s_T} {w : c_W} {p mm t : Int32} {M : mw_M} (hA : CA G b x w M) (ho : c_ok (ct x 5) b x w) (hi : q_inv 511 x) : mw_MetX l G yX7_ask (.code yX7_ask cX7_ask 7 (some .int)) rm_X7_ask [.ref (b 0 0), .int p, .int mm, .int t] M (mw_pi (fun r M1 => f_ask_c x p mm t = 0 ∧ r = nI (ct x 17) ∧ c_out G b (f_ask_s x p mm t) M1)) (fun E => (E = "java/lang/IndexOutOfBoundsException" ∧ f_ask_c x p mm t = 1) ∨ (E = "java/lang/IllegalArgumentException" ∧ f_ask_c x p mm t = 2) ∨ (E = "java/lang/IllegalStateException" ∧ f_ask_c x p mm t = 3)) := by
  refine mw_ofX hfl (by decide) (Nat.le_of_ble_eq_true rfl) ?_
  intro zp ze zs zm zb zh zc ls X hin hret hexc hT hl
  have hl : lv_has ls 7 [(0, .ref (b 0 0)), (1, .int p), (2, .int mm), (3, .int t)] := hl
  obtain ⟨⟨i2, i4, i5, i10, i17, i22, i29, i32⟩, hr3, hr6, hr11, hr18, hr23, hz21, hz28, hlb⟩ := id hi
  have hI := q_inv_mono hi (show 511 ≤ 512 by decide)
  refine lv_aload_n X.1 X.2.1 dX7_ask_0 rfl (lv_at hl 0 rfl) ?_
  refine lv_iload_n X.1 X.2.1 dX7_ask_1 rfl (lv_at hl 1 rfl) ?_
  refine mr_gX X hT (fun hT' => mr_runVX X hT' cb_RX7_79 kw298 kp4 kw299 (c_personAt hfl hA ho hI) (mr_cell X hT hA.gate rfl) rfl rfl hl.1 ⟨Nat.le_of_ble_eq_true rfl, Nat.le_of_ble_eq_true rfl⟩ (Nat.le_of_ble_eq_true rfl) dX7_ask_2 ⟨Nat.le_of_ble_eq_true rfl, Nat.le_of_ble_eq_true rfl⟩) (fun E ce q9 H locs hp hT h1 h2 h3 => ?_) (fun v M1 H locs hp hT => ?_)
  · exact mr_out X hexc hT h1 h2 h3 (Or.inl (⟨hp.1, by unfold f_ask_c; unfold q_both; rw [hp.2]; rfl⟩)) (Nat.le_of_ble_eq_true rfl) (Nat.le_of_ble_eq_true rfl)
  obtain ⟨r, rfl, ⟨j, hj, rfl, rfl⟩, rfl⟩ := hp
  refine W.eq (g2 := F0 zm 5 ls (.ref _ :: _)) rfl ?_
  refine lv_astore X.1 X.2.1 dX7_ask_5 hl (by decide) rfl (fun ls hl => ?_)
  refine lv_aload_n X.1 X.2.1 dX7_ask_7 rfl (lv_at hl 1 rfl) ?_
  refine lv_iload_n X.1 X.2.1 dX7_ask_8 rfl (lv_at hl 3 rfl) ?_
  refine mr_gX X hT (fun hT' => mr_runVX X hT' cb_RX7_104 kw457 kp16 kw458 (c_machineAt hfl hA ho hI) (mr_cell X hT hA.gate rfl) rfl rfl hl.1 ⟨Nat.le_of_ble_eq_true rfl, Nat.le_of_ble_eq_true rfl⟩ (Nat.le_of_ble_eq_true rfl) dX7_ask_9 ⟨Nat.le_of_ble_eq_true rfl, Nat.le_of_ble_eq_true rfl⟩) (fun E ce q9 H locs hp hT h1 h2 h3 => ?_) (fun v M1 H locs hp hT => ?_)
  · exact mr_out X hexc hT h1 h2 h3 (Or.inl (⟨hp.1, by unfold f_ask_c; unfold q_both; rw [c_ixt hj (show ct x 2 < 2 ^ 31 by omega), hp.2]; rfl⟩)) (Nat.le_of_ble_eq_true rfl) (Nat.le_of_ble_eq_true rfl)
  obtain ⟨r, rfl, ⟨m, hm, rfl, rfl⟩, rfl⟩ := hp
  refine W.eq (g2 := F0 zm 12 ls (.ref _ :: _)) rfl ?_
  have hb : q_both x (nI j) (nI m) = true := by unfold q_both; rw [c_ixt hj (by omega), c_ixt hm (by omega)]; rfl
  have pj : pn (nI j) = j := pn_nI (by omega)
  have pm : pn (nI m) = m := pn_nI (by omega)
  refine lv_astore X.1 X.2.1 dX7_ask_12 hl (by decide) rfl (fun ls hl => ?_)
  refine lv_iload_n X.1 X.2.1 dX7_ask_14 rfl (lv_at hl 5 rfl) ?_
  refine lv_iconst X.1 X.2.1 (v := 1) dX7_ask_15 (by decide) ?_
  refine lv_icmp_lt X.1 X.2.1 (tgt := 26) dX7_ask_16 (by decide) (fun c16 => ?_) (fun c16 => ?_)
  · skip
    have hin : q_in t 1 600 = false := c_inn c16
    exact mr_throw X hexc hT (text := "minutes is out of range") (is := 108) tx_45_49 (by decide) hl.1 (Or.inr (Or.inl ⟨rfl, by unfold f_ask_c; rw [hb, hin]; rfl⟩)) dX7_ask_26 dX7_ask_29 dX7_ask_30 dX7_ask_32 dX7_ask_35 (Nat.le_of_ble_eq_true rfl) (Nat.le_of_ble_eq_true rfl) (Nat.le_of_ble_eq_true rfl) (Nat.le_of_ble_eq_true rfl) (Nat.le_of_ble_eq_true rfl) (Nat.le_of_ble_eq_true rfl)
  · skip
    refine lv_iload_n X.1 X.2.1 dX7_ask_19 rfl (lv_at hl 5 rfl) ?_
    refine lv_sipush X.1 X.2.1 (v := 600) dX7_ask_20 (by decide) ?_
    refine lv_icmp_le X.1 X.2.1 (tgt := 36) dX7_ask_23 (by decide) (fun c23 => ?_) (fun c23 => ?_)
    · skip
      have hin : q_in t 1 600 = true := c_int c16 c23
      refine lv_aload_n X.1 X.2.1 dX7_ask_36 rfl (lv_at hl 2 rfl) ?_
      refine lv_aload X.1 X.2.1 dX7_ask_37 (lv_at hl 1 rfl) ?_
      refine lv_aload X.1 X.2.1 dX7_ask_39 (lv_at hl 0 rfl) ?_
      refine mr_gX X hT (fun hT' => mr_runVX X hT' cb_RX7_110 kw478 kp17 kw479 (c_requireMay hfl hA ho hI hj hm) (mr_cell X hT hA.gate rfl) rfl rfl hl.1 ⟨Nat.le_of_ble_eq_true rfl, Nat.le_of_ble_eq_true rfl⟩ (Nat.le_of_ble_eq_true rfl) dX7_ask_41 ⟨Nat.le_of_ble_eq_true rfl, Nat.le_of_ble_eq_true rfl⟩) (fun E ce q9 H locs hp hT h1 h2 h3 => ?_) (fun v M1 H locs hp hT => ?_)
      · exact mr_out X hexc hT h1 h2 h3 (Or.inr (Or.inr ⟨hp.1, by unfold f_ask_c; rw [hb, hin, hp.2]; rfl⟩)) (Nat.le_of_ble_eq_true rfl) (Nat.le_of_ble_eq_true rfl)
      obtain ⟨rfl, hcan, rfl⟩ := hp
      refine W.eq (g2 := F0 zm 44 ls _) rfl ?_
      refine lv_aload_n X.1 X.2.1 dX7_ask_44 rfl (lv_at hl 2 rfl) ?_
      refine mr_get X hT fl_RX7_19 (hA.gate) rfl dX7_ask_45 ?_
      refine mr_g X hT (fun hT' => mr_runV X hT' cb_RX7_52 kw196 kw197 kw198 (j_size hfl (hA.1 4 2 (show 2 < 6 by decide))) (mr_cell X hT (hA.1 4 2 (show 2 < 6 by decide)) rfl) rfl rfl hl.1 ⟨Nat.le_of_ble_eq_true rfl, Nat.le_of_ble_eq_true rfl⟩ (Nat.le_of_ble_eq_true rfl) dX7_ask_48 ⟨Nat.le_of_ble_eq_true rfl, Nat.le_of_ble_eq_true rfl⟩) (fun v M1 H locs hp hT => ?_)
      obtain ⟨r, rfl, rfl, rfl⟩ := hp
      refine W.eq (g2 := F0 zm 51 ls (.int _ :: _)) rfl ?_
      refine mm_top (w := nI (ct x 17)) (rfl) ?_
      refine lv_istore X.1 X.2.1 dX7_ask_51 hl (by decide) rfl (fun ls hl => ?_)
      refine lv_iload X.1 X.2.1 dX7_ask_53 (lv_at hl 0 rfl) ?_
      refine mr_g X hT (fun hT' => mr_runS X hT' cb_RX7_113 kw497 kw498 (c_requireRoomFor hfl (show ct x 17 < 512 by omega)) rfl rfl hl.1 ⟨Nat.le_of_ble_eq_true rfl, Nat.le_of_ble_eq_true rfl⟩ (Nat.le_of_ble_eq_true rfl) dX7_ask_55 ⟨Nat.le_of_ble_eq_true rfl, Nat.le_of_ble_eq_true rfl⟩) (fun v M1 H locs hp hT => ?_)
      obtain ⟨rfl, rfl⟩ := hp
      refine W.eq (g2 := F0 zm 58 ls _) rfl ?_
      refine lv_aload_n X.1 X.2.1 dX7_ask_58 rfl (lv_at hl 3 rfl) ?_
      refine mr_get X hT fl_RX7_19 (hA.gate) rfl dX7_ask_59 ?_
      refine mr_new X hT (ci := 1) rfl uin_1 tyX0 tyX0_ok kw353 kw357 kw20 (fs := [.null, .null, .int 0, .int 0, .null, .int 0]) (fun j hj => by have hj : j < 6 := hj; rcases (show j = 0 ∨ j = 1 ∨ j = 2 ∨ j = 3 ∨ j = 4 ∨ j = 5 by omega) with rfl | rfl | rfl | rfl | rfl | rfl <;> rfl) (Nat.le_of_ble_eq_true rfl) (Nat.le_of_ble_eq_true rfl) dX7_ask_62 (fun q H hq hT => ?_)
      refine lv_dup X.1 X.2.1 dX7_ask_65 rfl ?_
      refine lv_aload X.1 X.2.1 dX7_ask_66 (lv_at hl 2 rfl) ?_
      refine lv_aload X.1 X.2.1 dX7_ask_68 (lv_at hl 1 rfl) ?_
      refine lv_iload_n X.1 X.2.1 dX7_ask_70 rfl (lv_at hl 6 rfl) ?_
      refine lv_aload_n X.1 X.2.1 dX7_ask_71 rfl (lv_at hl 3 rfl) ?_
      refine mr_get X hT fl_RX7_42 ((hA.off hq).gate) rfl dX7_ask_72 ?_
      refine mr_g X hT (fun hT' => mr_runIN X hT' cn_RX7_118 kw501 rfl kw502 (o_ask hfl (va_up_self _ _ _)) rfl rfl hl.1 ⟨Nat.le_of_ble_eq_true rfl, Nat.le_of_ble_eq_true rfl⟩ (Nat.le_of_ble_eq_true rfl) dX7_ask_75 ⟨Nat.le_of_ble_eq_true rfl, Nat.le_of_ble_eq_true rfl⟩) (fun v M1 H locs hp hT => ?_)
      obtain ⟨rfl, rfl⟩ := hp
      rw [mw_up1] at hT
      refine W.eq (g2 := F0 zm 78 ls _) rfl ?_
      refine mr_g X hT (fun hT' => mr_runV X hT' cb_RX7_66 kw234 kw235 kw236 (c_add (i := 2) (q := q) (ci := 1) hfl hA (ho.ls) (by decide) hq rfl kw740 (by decide) (fun k hk => ⟨_, hA.ask hk⟩) (show ct x 17 ≤ 533 by omega)) (mr_cell X hT ((hA.off hq).1 4 2 (show 2 < 6 by decide)) rfl) rfl rfl hl.1 ⟨Nat.le_of_ble_eq_true rfl, Nat.le_of_ble_eq_true rfl⟩ (Nat.le_of_ble_eq_true rfl) dX7_ask_78 ⟨Nat.le_of_ble_eq_true rfl, Nat.le_of_ble_eq_true rfl⟩) (fun v M1 H locs hp hT => ?_)
      obtain ⟨r, rfl, hp⟩ := hp
      refine W.eq (g2 := F0 zm 81 ls (.int _ :: _)) rfl ?_
      obtain ⟨ea, w1, ew, hA, hls1⟩ := hA.push_A hi ho.ls hq hj hm (fun h => if_neg h) hp
      have e00 : c_b b 2 (ct x 17) q ea 0 0 = b 0 0 := c_b_6 0 0 (by decide) (Or.inl (by decide))
      have e6 : c_b b 2 (ct x 17) q ea 6 j = b 6 j := c_b_6 6 j (by decide) (Or.inl (by decide))
      have e7 : c_b b 2 (ct x 17) q ea 7 m = b 7 m := c_b_6 7 m (by decide) (Or.inl (by decide))
      have ho := ho.add_A (T := ct x 5) rfl ew hls1
      refine lv_pop X.1 X.2.1 dX7_ask_81 rfl ?_
      rw [← e00, ← e6, ← e7] at hl
      refine lv_aload_n X.1 X.2.1 dX7_ask_82 rfl (lv_at hl 3 rfl) ?_
      refine mr_get X hT fl_RX7_34 (hA.gate) rfl dX7_ask_83 ?_
      refine lv_iconst X.1 X.2.1 (v := 0) dX7_ask_86 (by decide) ?_
      refine lv_aload X.1 X.2.1 dX7_ask_87 (lv_at hl 2 rfl) ?_
      refine lv_aload X.1 X.2.1 dX7_ask_89 (lv_at hl 1 rfl) ?_
      refine lv_aload_n X.1 X.2.1 dX7_ask_91 rfl (lv_at hl 3 rfl) ?_
      refine mr_get X hT fl_RX7_42 (hA.gate) rfl dX7_ask_92 ?_
      refine mr_g X hT (fun hT' => mr_runVN X hT' cn_RX7_121 kw379 kp14 kw380 (o_record hfl hA.rec hA.kin hA.sea (hA.ne (s := 2) (k := 0) (s' := 3) (k' := 0) rfl rfl (Or.inl (by decide))) (show ct (ss (cs (cs (cs (cs (cs (cs x 11 (ct x 17) (nI j)) 12 (ct x 17) (nI m)) 13 (ct x 17) t) 14 (ct x 17) (q_now x)) 15 (ct x 17) 0) 16 (ct x 17) (-1)) 17 (ct x 17 + 1)) 32 < 1024 by show ct x 32 < 1024; omega) (hA.per (hj)) (hA.mac (hm))) (mr_cell X hT hA.rec rfl) rfl rfl hl.1 ⟨Nat.le_of_ble_eq_true rfl, Nat.le_of_ble_eq_true rfl⟩ (Nat.le_of_ble_eq_true rfl) dX7_ask_95 ⟨Nat.le_of_ble_eq_true rfl, Nat.le_of_ble_eq_true rfl⟩) (fun v M1 H locs hp hT => ?_)
      obtain ⟨rfl, hq9⟩ := hp
      refine W.eq (g2 := F0 zm 98 ls _) rfl ?_
      have hM := hA.step (p := nI j) (m := nI m) ho (by have h := c_seal (kd := 0) ho (p := nI j) (m := nI m) ⟨j, hj, rfl⟩ ⟨m, hm, rfl⟩ (show ct x 2 < 2 ^ 31 by omega) (show ct x 4 < 2 ^ 31 by omega); rw [pj, pm] at h; exact h) hq9
      refine lv_iload X.1 X.2.1 dX7_ask_98 (lv_at hl 0 rfl) ?_
      exact mr_iretX X hT hret (⟨_, rfl, by unfold f_ask_c; rw [hb, hin, hcan]; rfl, rfl, _, e00, hM⟩) (Nat.le_of_ble_eq_true rfl) (Nat.le_of_ble_eq_true rfl) dX7_ask_100
    · skip
      have hin : q_in t 1 600 = false := c_inh (Int32.not_le.mp c23)
      exact mr_throw X hexc hT (text := "minutes is out of range") (is := 108) tx_45_49 (by decide) hl.1 (Or.inr (Or.inl ⟨rfl, by unfold f_ask_c; rw [hb, hin]; rfl⟩)) dX7_ask_26 dX7_ask_29 dX7_ask_30 dX7_ask_32 dX7_ask_35 (Nat.le_of_ble_eq_true rfl) (Nat.le_of_ble_eq_true rfl) (Nat.le_of_ble_eq_true rfl) (Nat.le_of_ble_eq_true rfl) (Nat.le_of_ble_eq_true rfl) (Nat.le_of_ble_eq_true rfl)

abbrev rm_X7_approve : Room := { frames := 7, cells := 6, slots := 1328, locals := 226 }
set_option maxHeartbeats 4000000 in
set_option maxRecDepth 100000 in
theorem c_approve {l : Launch} (hfl : l.stackTraces = false) {G : mw_G} {b : c_B} {x : s_T} {w : c_W} {aa bb : Int32} {M : mw_M} (hA : CA G b x w M) (ho : c_ok (ct x 5) b x w) (hi : q_inv 511 x) : mw_MetX l G yX7_approve (.code yX7_approve cX7_approve 5 (some .boolean)) rm_X7_approve [.ref (b 0 0), .int aa, .int bb] M (mw_pi (fun r M1 => f_approve_c x aa bb = 0 ∧ r = (f_approve_s x aa bb).2 ∧ c_out G b ((f_approve_s x aa bb).1) M1)) (fun E => (E = "java/lang/IndexOutOfBoundsException" ∧ f_approve_c x aa bb = 1) ∨ (E = "java/lang/IllegalStateException" ∧ f_approve_c x aa bb = 2)) := by
  refine mw_ofX hfl (by decide) (Nat.le_of_ble_eq_true rfl) ?_
  intro zp ze zs zm zb zh zc ls X hin hret hexc hT hl
  have hl : lv_has ls 5 [(0, .ref (b 0 0)), (1, .int aa), (2, .int bb)] := hl
  obtain ⟨⟨i2, i4, i5, i10, i17, i22, i29, i32⟩, hr3, hr6, hr11, hr18, hr23, hz21, hz28, hlb⟩ := id hi
  have hI := q_inv_mono hi (show 511 ≤ 512 by decide)
  refine lv_aload_n X.1 X.2.1 dX7_approve_0 rfl (lv_at hl 0 rfl) ?_
  refine lv_iload_n X.1 X.2.1 dX7_approve_1 rfl (lv_at hl 1 rfl) ?_
  refine mr_gX X hT (fun hT' => mr_runVX X hT' cb_RX7_124 kw602 kp22 kw603 (c_askAt hfl hA ho hI) (mr_cell X hT hA.gate rfl) rfl rfl hl.1 ⟨Nat.le_of_ble_eq_true rfl, Nat.le_of_ble_eq_true rfl⟩ (Nat.le_of_ble_eq_true rfl) dX7_approve_2 ⟨Nat.le_of_ble_eq_true rfl, Nat.le_of_ble_eq_true rfl⟩) (fun E ce q9 H locs hp hT h1 h2 h3 => ?_) (fun v M1 H locs hp hT => ?_)
  · exact mr_out X hexc hT h1 h2 h3 (Or.inl (⟨hp.1, by unfold f_approve_c; rw [hp.2]; rfl⟩)) (Nat.le_of_ble_eq_true rfl) (Nat.le_of_ble_eq_true rfl)
  obtain ⟨r, rfl, ⟨a, ha, rfl, rfl⟩, rfl⟩ := hp
  refine W.eq (g2 := F0 zm 5 ls (.ref _ :: _)) rfl ?_
  refine lv_astore_n X.1 X.2.1 dX7_approve_5 rfl hl (by decide) rfl (fun ls hl => ?_)
  refine lv_aload_n X.1 X.2.1 dX7_approve_6 rfl (lv_at hl 1 rfl) ?_
  refine lv_iload_n X.1 X.2.1 dX7_approve_7 rfl (lv_at hl 3 rfl) ?_
  refine mr_gX X hT (fun hT' => mr_runVX X hT' cb_RX7_79 kw298 kp4 kw299 (c_personAt hfl hA ho hI) (mr_cell X hT hA.gate rfl) rfl rfl hl.1 ⟨Nat.le_of_ble_eq_true rfl, Nat.le_of_ble_eq_true rfl⟩ (Nat.le_of_ble_eq_true rfl) dX7_approve_8 ⟨Nat.le_of_ble_eq_true rfl, Nat.le_of_ble_eq_true rfl⟩) (fun E ce q9 H locs hp hT h1 h2 h3 => ?_) (fun v M1 H locs hp hT => ?_)
  · exact mr_out X hexc hT h1 h2 h3 (Or.inl (⟨hp.1, by unfold f_approve_c; rw [c_ixt ha (show ct x 17 < 2 ^ 31 by omega), hp.2]; rfl⟩)) (Nat.le_of_ble_eq_true rfl) (Nat.le_of_ble_eq_true rfl)
  obtain ⟨r, rfl, ⟨j, hj, rfl, rfl⟩, rfl⟩ := hp
  refine W.eq (g2 := F0 zm 11 ls (.ref _ :: _)) rfl ?_
  have hkb : (q_ix (nI a) (ct x 17) && q_ix (nI j) (ct x 2)) = true := by rw [c_ixt ha (by omega), c_ixt hj (by omega)]; rfl
  have pa : pn (nI a) = a := pn_nI (by omega)
  have pj : pn (nI j) = j := pn_nI (by omega)
  obtain ⟨r11, r12, r14, r16⟩ := hr11 a ha
  have hu := c_pn r12 (show ct x 4 < 2 ^ 31 by omega)
  have hv := c_pn r11 (show ct x 2 < 2 ^ 31 by omega)
  refine lv_astore X.1 X.2.1 dX7_approve_11 hl (by decide) rfl (fun ls hl => ?_)
  refine lv_aload_n X.1 X.2.1 dX7_approve_13 rfl (lv_at hl 2 rfl) ?_
  refine lv_aload_n X.1 X.2.1 dX7_approve_14 rfl (lv_at hl 1 rfl) ?_
  refine lv_aload X.1 X.2.1 dX7_approve_15 (lv_at hl 0 rfl) ?_
  refine mr_gX X hT (fun hT' => mr_runVX X hT' cb_RX7_128 kw607 kp23 kw608 (c_requireJudge hfl hA ho hI ha hj rfl) (mr_cell X hT hA.gate rfl) rfl rfl hl.1 ⟨Nat.le_of_ble_eq_true rfl, Nat.le_of_ble_eq_true rfl⟩ (Nat.le_of_ble_eq_true rfl) dX7_approve_17 ⟨Nat.le_of_ble_eq_true rfl, Nat.le_of_ble_eq_true rfl⟩) (fun E ce q9 H locs hp hT h1 h2 h3 => ?_) (fun v M1 H locs hp hT => ?_)
  · exact mr_out X hexc hT h1 h2 h3 (Or.inr ⟨hp.1, by unfold f_approve_c; rw [hkb, hp.2]; rfl⟩) (Nat.le_of_ble_eq_true rfl) (Nat.le_of_ble_eq_true rfl)
  obtain ⟨rfl, hjd, rfl⟩ := hp
  refine W.eq (g2 := F0 zm 20 ls _) rfl ?_
  refine lv_aload_n X.1 X.2.1 dX7_approve_20 rfl (lv_at hl 1 rfl) ?_
  refine mr_get X hT fl_RX7_132 (hA.ask ha) rfl dX7_approve_21 ?_
  refine lv_aload X.1 X.2.1 dX7_approve_24 (lv_at hl 0 rfl) ?_
  refine lv_acmp_ne X.1 X.2.1 (rx := (if cg x 16 a = -1 then none else some (b 6 (pn (cg x 16 a))))) (ry := some (b 6 j)) (tgt := 39) dX7_approve_26 (by decide) (fun c26 => ?_) (fun c26 => ?_)
  · skip
    have hne : cg x 16 a ≠ nI j := fun z => c26 (by rw [z, if_neg (c_neg1 (show j < 2 ^ 31 by omega)), pj])
    refine lv_aload_n X.1 X.2.1 dX7_approve_39 rfl (lv_at hl 2 rfl) ?_
    refine mr_get X hT fl_RX7_34 (hA.gate) rfl dX7_approve_40 ?_
    refine lv_iconst X.1 X.2.1 (v := 1) dX7_approve_43 (by decide) ?_
    refine lv_aload X.1 X.2.1 dX7_approve_44 (lv_at hl 0 rfl) ?_
    refine lv_aload_n X.1 X.2.1 dX7_approve_46 rfl (lv_at hl 1 rfl) ?_
    refine mr_get X hT fl_RX7_138 (hA.ask ha) rfl dX7_approve_47 ?_
    refine lv_aload_n X.1 X.2.1 dX7_approve_50 rfl (lv_at hl 2 rfl) ?_
    refine mr_get X hT fl_RX7_42 (hA.gate) rfl dX7_approve_51 ?_
    refine mr_g X hT (fun hT' => mr_runVN X hT' cn_RX7_121 kw379 kp14 kw380 (o_record hfl hA.rec hA.kin hA.sea (hA.ne (s := 2) (k := 0) (s' := 3) (k' := 0) rfl rfl (Or.inl (by decide))) (show ct x 32 < 1024 by omega) (hA.per (hj)) (hA.mac (hu.1))) (mr_cell X hT hA.rec rfl) rfl rfl hl.1 ⟨Nat.le_of_ble_eq_true rfl, Nat.le_of_ble_eq_true rfl⟩ (Nat.le_of_ble_eq_true rfl) dX7_approve_54 ⟨Nat.le_of_ble_eq_true rfl, Nat.le_of_ble_eq_true rfl⟩) (fun v M1 H locs hp hT => ?_)
    obtain ⟨rfl, hq9⟩ := hp
    refine W.eq (g2 := F0 zm 57 ls _) rfl ?_
    have hM := hA.step (p := nI j) (m := cg x 12 a) ho (by have h := c_seal (kd := 1) ho (p := nI j) (m := cg x 12 a) ⟨j, hj, rfl⟩ (r12) (show ct x 2 < 2 ^ 31 by omega) (show ct x 4 < 2 ^ 31 by omega); rw [pj] at h; exact h) hq9
    obtain ⟨w2, hA, ho⟩ := hM
    have ha17 : a < ct (q_write x 1 (nI j) (cg x 12 a)) 17 := ha
    refine lv_aload_n X.1 X.2.1 dX7_approve_57 rfl (lv_at hl 1 rfl) ?_
    refine mr_get X hT fl_RX7_132 (hA.ask ha) rfl dX7_approve_58 ?_
    by_cases c61 : cg x 16 a = -1
    · refine W.eq (g2 := F0 zm 61 ls (.null :: _)) (by rw [if_pos (show cg (q_write x 1 (nI j) (cg x 12 a)) 16 a = -1 from c61)]; rfl) ?_
      refine lv_ifnonnullN X.1 X.2.1 dX7_approve_61 ?_
      refine lv_aload_n X.1 X.2.1 dX7_approve_64 rfl (lv_at hl 1 rfl) ?_
      refine lv_aload X.1 X.2.1 dX7_approve_65 (lv_at hl 0 rfl) ?_
      refine mr_put X hT fp_RX7_132 (fun h => nomatch h) (hA.ask ha17) (by first | rfl | decide) (by first | rfl | decide) (by simp) dX7_approve_67 (fun H locs hT => ?_)
      have hA := hA.setFa ha17 (nI j)
      rw [if_neg (c_neg1 (show j < 2 ^ 31 by omega)), pj] at hA
      refine lv_iconst X.1 X.2.1 (v := 0) dX7_approve_70 (by decide) ?_
      exact mr_zretX X hT hret (by first | exact bI_nar _ | rfl | decide) (⟨_, rfl, by unfold f_approve_c; rw [hkb, hjd, pa, decide_eq_true hne]; rfl, by unfold f_approve_s; rw [pa, if_pos c61], b, rfl, by unfold f_approve_s; rw [pa, if_pos c61]; exact ⟨_, hA, ho.col (c := 16) _ (by decide)⟩⟩) (Nat.le_of_ble_eq_true rfl) (Nat.le_of_ble_eq_true rfl) dX7_approve_71
    · refine W.eq (g2 := F0 zm 61 ls (.ref (b 6 (pn (cg x 16 a))) :: _)) (by rw [if_neg (show ¬ cg (q_write x 1 (nI j) (cg x 12 a)) 16 a = -1 from c61)]; rfl) ?_
      refine lv_ifnonnull X.1 X.2.1 (tgt := 72) dX7_approve_61 (by decide) ?_
      refine lv_aload_n X.1 X.2.1 dX7_approve_72 rfl (lv_at hl 1 rfl) ?_
      refine lv_iconst X.1 X.2.1 (v := 1) dX7_approve_73 (by decide) ?_
      refine mr_put X hT fp_RX7_142 (fun h => nomatch h) (hA.ask ha17) rfl rfl (by simp) dX7_approve_74 (fun H locs hT => ?_)
      have hA := hA.set15 ha17 1
      have ho := ho.set15 a (v := 1) (by decide)
      have hiy : q_inv 512 (cs (q_write x 1 (nI j) (cg x 12 a)) 15 a 1) := q_inv_cs (q_inv_write hi 1 (nI j) (cg x 12 a)) (c := 15) a 1 (by decide) (by decide)
      refine lv_aload_n X.1 X.2.1 dX7_approve_77 rfl (lv_at hl 2 rfl) ?_
      refine mr_get X hT fl_RX7_25 (hA.gate) rfl dX7_approve_78 ?_
      refine mr_new X hT (ci := 5) rfl uin_5 tyX4 tyX4_ok kw343 kw347 kw22 (fs := [.null, .null, .int 0, .int 0]) (fun j hj => by have hj : j < 4 := hj; rcases (show j = 0 ∨ j = 1 ∨ j = 2 ∨ j = 3 by omega) with rfl | rfl | rfl | rfl <;> rfl) (Nat.le_of_ble_eq_true rfl) (Nat.le_of_ble_eq_true rfl) dX7_approve_81 (fun q H hq hT => ?_)
      refine lv_dup X.1 X.2.1 dX7_approve_84 rfl ?_
      refine lv_aload_n X.1 X.2.1 dX7_approve_85 rfl (lv_at hl 1 rfl) ?_
      refine mr_get X hT fl_RX7_147 ((hA.off hq).ask ha17) rfl dX7_approve_86 ?_
      refine lv_aload_n X.1 X.2.1 dX7_approve_89 rfl (lv_at hl 1 rfl) ?_
      refine mr_get X hT fl_RX7_138 ((hA.off hq).ask ha17) rfl dX7_approve_90 ?_
      refine lv_aload_n X.1 X.2.1 dX7_approve_93 rfl (lv_at hl 2 rfl) ?_
      refine mr_get X hT fl_RX7_42 ((hA.off hq).gate) rfl dX7_approve_94 ?_
      refine lv_aload_n X.1 X.2.1 dX7_approve_97 rfl (lv_at hl 2 rfl) ?_
      refine mr_get X hT fl_RX7_42 ((hA.off hq).gate) rfl dX7_approve_98 ?_
      refine lv_aload_n X.1 X.2.1 dX7_approve_101 rfl (lv_at hl 1 rfl) ?_
      refine mr_get X hT fl_RX7_150 ((hA.off hq).ask ha17) rfl dX7_approve_102 ?_
      refine lv_iadd X.1 X.2.1 dX7_approve_105 ?_
      refine mr_g X hT (fun hT' => mr_runIN X hT' cn_RX7_153 kw557 rfl kw558 (o_right hfl (va_up_self _ _ _)) rfl rfl hl.1 ⟨Nat.le_of_ble_eq_true rfl, Nat.le_of_ble_eq_true rfl⟩ (Nat.le_of_ble_eq_true rfl) dX7_approve_106 ⟨Nat.le_of_ble_eq_true rfl, Nat.le_of_ble_eq_true rfl⟩) (fun v M1 H locs hp hT => ?_)
      obtain ⟨rfl, rfl⟩ := hp
      rw [mw_up1] at hT
      refine W.eq (g2 := F0 zm 109 ls _) rfl ?_
      refine mr_g X hT (fun hT' => mr_runV X hT' cb_RX7_66 kw234 kw235 kw236 (c_add (i := 4) (q := q) (ci := 5) hfl hA (ho.ls) (by decide) hq rfl kw742 (by decide) (fun k hk => ⟨_, hA.rig hk⟩) (show ct x 10 ≤ 533 by omega)) (mr_cell X hT ((hA.off hq).1 4 4 (show 4 < 6 by decide)) rfl) rfl rfl hl.1 ⟨Nat.le_of_ble_eq_true rfl, Nat.le_of_ble_eq_true rfl⟩ (Nat.le_of_ble_eq_true rfl) dX7_approve_109 ⟨Nat.le_of_ble_eq_true rfl, Nat.le_of_ble_eq_true rfl⟩) (fun v M1 H locs hp hT => ?_)
      obtain ⟨r, rfl, hp⟩ := hp
      refine W.eq (g2 := F0 zm 112 ls (.int _ :: _)) rfl ?_
      obtain ⟨ea, w3, ew, hA, hls1⟩ := CA.push_R hA hiy ho.ls hq (j := pn (cg x 11 a)) (m := pn (cg x 12 a)) (t := cg x 13 a) hv.1 hu.1 (fun h => if_neg h) hp
      have ho := ho.add_R (T := ct x 5) ew hls1
      refine lv_pop X.1 X.2.1 dX7_approve_112 rfl ?_
      refine lv_iconst X.1 X.2.1 (v := 1) dX7_approve_113 (by decide) ?_
      exact mr_zretX X hT hret (by first | exact bI_nar _ | rfl | decide) (⟨_, rfl, by unfold f_approve_c; rw [hkb, hjd, pa, decide_eq_true hne]; rfl, by unfold f_approve_s; rw [pa, if_neg c61], _, c_b_6 (i := 4) 0 0 (by decide) (Or.inl (by decide)), by unfold f_approve_s; rw [pa, if_neg c61]; exact ⟨w3, by rw [hv.2, hu.2] at hA; exact hA, by rw [hv.2, hu.2] at ho; exact ho⟩⟩) (Nat.le_of_ble_eq_true rfl) (Nat.le_of_ble_eq_true rfl) dX7_approve_114
  · skip
    have heq : cg x 16 a = nI j := c_fae hA r16 hj (by omega) c26
    exact mr_throw X hexc hT (text := "the person has approved it") (is := 136) tx_56_60 (by decide) hl.1 (Or.inr ⟨rfl, by unfold f_approve_c; rw [hkb, hjd, pa, d_nef heq]; rfl⟩) dX7_approve_29 dX7_approve_32 dX7_approve_33 dX7_approve_35 dX7_approve_38 (Nat.le_of_ble_eq_true rfl) (Nat.le_of_ble_eq_true rfl) (Nat.le_of_ble_eq_true rfl) (Nat.le_of_ble_eq_true rfl) (Nat.le_of_ble_eq_true rfl) (Nat.le_of_ble_eq_true rfl)

abbrev rm_X7_deny : Room := { frames := 7, cells := 3, slots := 18, locals := 122 }
set_option maxHeartbeats 4000000 in
set_option maxRecDepth 100000 in
theorem c_deny {l : Launch} (hfl : l.stackTraces = false) {G : mw_G} {b : c_B} {x : s_T} {w : c_W} {aa bb : Int32} {M : mw_M} (hA : CA G b x w M) (ho : c_ok (ct x 5) b x w) (hi : q_inv 511 x) : mw_MetX l G yX7_deny (.code yX7_deny cX7_deny 5 none) rm_X7_deny [.ref (b 0 0), .int aa, .int bb] M (mw_pv (fun M1 => f_deny_c x aa bb = 0 ∧ c_out G b (f_deny_s x aa bb) M1)) (fun E => (E = "java/lang/IndexOutOfBoundsException" ∧ f_deny_c x aa bb = 1) ∨ (E = "java/lang/IllegalStateException" ∧ f_deny_c x aa bb = 2)) := by
  refine mw_ofX hfl (by decide) (Nat.le_of_ble_eq_true rfl) ?_
  intro zp ze zs zm zb zh zc ls X hin hret hexc hT hl
  have hl : lv_has ls 5 [(0, .ref (b 0 0)), (1, .int aa), (2, .int bb)] := hl
  obtain ⟨⟨i2, i4, i5, i10, i17, i22, i29, i32⟩, hr3, hr6, hr11, hr18, hr23, hz21, hz28, hlb⟩ := id hi
  have hI := q_inv_mono hi (show 511 ≤ 512 by decide)
  refine lv_aload_n X.1 X.2.1 dX7_deny_0 rfl (lv_at hl 0 rfl) ?_
  refine lv_iload_n X.1 X.2.1 dX7_deny_1 rfl (lv_at hl 1 rfl) ?_
  refine mr_gX X hT (fun hT' => mr_runVX X hT' cb_RX7_124 kw602 kp22 kw603 (c_askAt hfl hA ho hI) (mr_cell X hT hA.gate rfl) rfl rfl hl.1 ⟨Nat.le_of_ble_eq_true rfl, Nat.le_of_ble_eq_true rfl⟩ (Nat.le_of_ble_eq_true rfl) dX7_deny_2 ⟨Nat.le_of_ble_eq_true rfl, Nat.le_of_ble_eq_true rfl⟩) (fun E ce q9 H locs hp hT h1 h2 h3 => ?_) (fun v M1 H locs hp hT => ?_)
  · exact mr_out X hexc hT h1 h2 h3 (Or.inl (⟨hp.1, by unfold f_deny_c; rw [hp.2]; rfl⟩)) (Nat.le_of_ble_eq_true rfl) (Nat.le_of_ble_eq_true rfl)
  obtain ⟨r, rfl, ⟨a, ha, rfl, rfl⟩, rfl⟩ := hp
  refine W.eq (g2 := F0 zm 5 ls (.ref _ :: _)) rfl ?_
  refine lv_astore_n X.1 X.2.1 dX7_deny_5 rfl hl (by decide) rfl (fun ls hl => ?_)
  refine lv_aload_n X.1 X.2.1 dX7_deny_6 rfl (lv_at hl 1 rfl) ?_
  refine lv_iload_n X.1 X.2.1 dX7_deny_7 rfl (lv_at hl 3 rfl) ?_
  refine mr_gX X hT (fun hT' => mr_runVX X hT' cb_RX7_79 kw298 kp4 kw299 (c_personAt hfl hA ho hI) (mr_cell X hT hA.gate rfl) rfl rfl hl.1 ⟨Nat.le_of_ble_eq_true rfl, Nat.le_of_ble_eq_true rfl⟩ (Nat.le_of_ble_eq_true rfl) dX7_deny_8 ⟨Nat.le_of_ble_eq_true rfl, Nat.le_of_ble_eq_true rfl⟩) (fun E ce q9 H locs hp hT h1 h2 h3 => ?_) (fun v M1 H locs hp hT => ?_)
  · exact mr_out X hexc hT h1 h2 h3 (Or.inl (⟨hp.1, by unfold f_deny_c; rw [c_ixt ha (show ct x 17 < 2 ^ 31 by omega), hp.2]; rfl⟩)) (Nat.le_of_ble_eq_true rfl) (Nat.le_of_ble_eq_true rfl)
  obtain ⟨r, rfl, ⟨j, hj, rfl, rfl⟩, rfl⟩ := hp
  refine W.eq (g2 := F0 zm 11 ls (.ref _ :: _)) rfl ?_
  have hkb : (q_ix (nI a) (ct x 17) && q_ix (nI j) (ct x 2)) = true := by rw [c_ixt ha (by omega), c_ixt hj (by omega)]; rfl
  have pa : pn (nI a) = a := pn_nI (by omega)
  have pj : pn (nI j) = j := pn_nI (by omega)
  obtain ⟨r11, r12, r14, r16⟩ := hr11 a ha
  have hu := c_pn r12 (show ct x 4 < 2 ^ 31 by omega)
  refine lv_astore X.1 X.2.1 dX7_deny_11 hl (by decide) rfl (fun ls hl => ?_)
  refine lv_aload_n X.1 X.2.1 dX7_deny_13 rfl (lv_at hl 2 rfl) ?_
  refine lv_aload_n X.1 X.2.1 dX7_deny_14 rfl (lv_at hl 1 rfl) ?_
  refine lv_aload X.1 X.2.1 dX7_deny_15 (lv_at hl 0 rfl) ?_
  refine mr_gX X hT (fun hT' => mr_runVX X hT' cb_RX7_128 kw607 kp23 kw608 (c_requireJudge hfl hA ho hI ha hj rfl) (mr_cell X hT hA.gate rfl) rfl rfl hl.1 ⟨Nat.le_of_ble_eq_true rfl, Nat.le_of_ble_eq_true rfl⟩ (Nat.le_of_ble_eq_true rfl) dX7_deny_17 ⟨Nat.le_of_ble_eq_true rfl, Nat.le_of_ble_eq_true rfl⟩) (fun E ce q9 H locs hp hT h1 h2 h3 => ?_) (fun v M1 H locs hp hT => ?_)
  · exact mr_out X hexc hT h1 h2 h3 (Or.inr ⟨hp.1, by unfold f_deny_c; rw [hkb, hp.2]; rfl⟩) (Nat.le_of_ble_eq_true rfl) (Nat.le_of_ble_eq_true rfl)
  obtain ⟨rfl, hjd, rfl⟩ := hp
  refine W.eq (g2 := F0 zm 20 ls _) rfl ?_
  refine lv_aload_n X.1 X.2.1 dX7_deny_20 rfl (lv_at hl 1 rfl) ?_
  refine lv_iconst X.1 X.2.1 (v := 2) dX7_deny_21 (by decide) ?_
  refine mr_put X hT fp_RX7_142 (fun h => nomatch h) (hA.ask ha) rfl rfl (by simp) dX7_deny_22 (fun H locs hT => ?_)
  have hA := hA.set15 ha 2
  have ho := ho.set15 a (v := 2) (by decide)
  have ha17 : a < ct (cs x 15 a 2) 17 := ha
  refine lv_aload_n X.1 X.2.1 dX7_deny_25 rfl (lv_at hl 2 rfl) ?_
  refine mr_get X hT fl_RX7_34 (hA.gate) rfl dX7_deny_26 ?_
  refine lv_iconst X.1 X.2.1 (v := 2) dX7_deny_29 (by decide) ?_
  refine lv_aload X.1 X.2.1 dX7_deny_30 (lv_at hl 0 rfl) ?_
  refine lv_aload_n X.1 X.2.1 dX7_deny_32 rfl (lv_at hl 1 rfl) ?_
  refine mr_get X hT fl_RX7_138 (hA.ask ha17) rfl dX7_deny_33 ?_
  refine lv_aload_n X.1 X.2.1 dX7_deny_36 rfl (lv_at hl 2 rfl) ?_
  refine mr_get X hT fl_RX7_42 (hA.gate) rfl dX7_deny_37 ?_
  refine mr_g X hT (fun hT' => mr_runVN X hT' cn_RX7_121 kw379 kp14 kw380 (o_record hfl hA.rec hA.kin hA.sea (hA.ne (s := 2) (k := 0) (s' := 3) (k' := 0) rfl rfl (Or.inl (by decide))) (show ct x 32 < 1024 by omega) (hA.per (hj)) (hA.mac (hu.1))) (mr_cell X hT hA.rec rfl) rfl rfl hl.1 ⟨Nat.le_of_ble_eq_true rfl, Nat.le_of_ble_eq_true rfl⟩ (Nat.le_of_ble_eq_true rfl) dX7_deny_40 ⟨Nat.le_of_ble_eq_true rfl, Nat.le_of_ble_eq_true rfl⟩) (fun v M1 H locs hp hT => ?_)
  obtain ⟨rfl, hq9⟩ := hp
  refine W.eq (g2 := F0 zm 43 ls _) rfl ?_
  have hM := hA.step (p := nI j) (m := cg x 12 a) ho (by have h := c_seal (kd := 2) ho (p := nI j) (m := cg x 12 a) ⟨j, hj, rfl⟩ (r12) (show ct x 2 < 2 ^ 31 by omega) (show ct x 4 < 2 ^ 31 by omega); rw [pj] at h; exact h) hq9
  exact mr_vretX X hT hret (⟨rfl, by unfold f_deny_c; rw [hkb, hjd]; rfl, b, rfl, by unfold f_deny_s; rw [pa]; exact hM⟩) (Nat.le_of_ble_eq_true rfl) (Nat.le_of_ble_eq_true rfl) dX7_deny_43

abbrev rm_X7_askState : Room := { frames := 7, cells := 1, slots := 6, locals := 121 }
set_option maxHeartbeats 4000000 in
set_option maxRecDepth 100000 in
theorem c_askState {l : Launch} (hfl : l.stackTraces = false) {G : mw_G} {b : c_B} {x : s_T} {w : c_W} {aa : Int32} {M : mw_M} (hA : CA G b x w M) (ho : c_ok (ct x 5) b x w) (hi : q_inv 511 x) : mw_MetX l G yX7_askState (.code yX7_askState cX7_askState 2 (some .int)) rm_X7_askState [.ref (b 0 0), .int aa] M (mw_pi (fun r M1 => f_askState_c x aa = 0 ∧ r = cg x 15 (pn aa) ∧ c_out G b (x) M1)) (fun E => (E = "java/lang/IndexOutOfBoundsException" ∧ f_askState_c x aa = 1)) := by
  refine mw_ofX hfl (by decide) (Nat.le_of_ble_eq_true rfl) ?_
  intro zp ze zs zm zb zh zc ls X hin hret hexc hT hl
  have hl : lv_has ls 2 [(0, .ref (b 0 0)), (1, .int aa)] := hl
  obtain ⟨⟨i2, i4, i5, i10, i17, i22, i29, i32⟩, hr3, hr6, hr11, hr18, hr23, hz21, hz28, hlb⟩ := id hi
  have hI := q_inv_mono hi (show 511 ≤ 512 by decide)
  refine lv_aload_n X.1 X.2.1 dX7_askState_0 rfl (lv_at hl 0 rfl) ?_
  refine lv_iload_n X.1 X.2.1 dX7_askState_1 rfl (lv_at hl 1 rfl) ?_
  refine mr_gX X hT (fun hT' => mr_runVX X hT' cb_RX7_124 kw602 kp22 kw603 (c_askAt hfl hA ho hI) (mr_cell X hT hA.gate rfl) rfl rfl hl.1 ⟨Nat.le_of_ble_eq_true rfl, Nat.le_of_ble_eq_true rfl⟩ (Nat.le_of_ble_eq_true rfl) dX7_askState_2 ⟨Nat.le_of_ble_eq_true rfl, Nat.le_of_ble_eq_true rfl⟩) (fun E ce q9 H locs hp hT h1 h2 h3 => ?_) (fun v M1 H locs hp hT => ?_)
  · exact mr_out X hexc hT h1 h2 h3 (⟨hp.1, by unfold f_askState_c; rw [hp.2]; rfl⟩) (Nat.le_of_ble_eq_true rfl) (Nat.le_of_ble_eq_true rfl)
  obtain ⟨r, rfl, ⟨a, ha, rfl, rfl⟩, rfl⟩ := hp
  refine W.eq (g2 := F0 zm 5 ls (.ref _ :: _)) rfl ?_
  refine lv_aload_n X.1 X.2.1 dX7_askState_5 rfl (lv_at hl 0 rfl) ?_
  refine mr_get X hT fl_RX7_42 (hA.gate) rfl dX7_askState_6 ?_
  refine mr_g X hT (fun hT' => mr_runVN X hT' cn_RX7_154 kw356 kp9 kw358 (o_stateAt hfl (hA.ask ha)) (mr_cell X hT (hA.ask ha) rfl) rfl rfl hl.1 ⟨Nat.le_of_ble_eq_true rfl, Nat.le_of_ble_eq_true rfl⟩ (Nat.le_of_ble_eq_true rfl) dX7_askState_9 ⟨Nat.le_of_ble_eq_true rfl, Nat.le_of_ble_eq_true rfl⟩) (fun v M1 H locs hp hT => ?_)
  obtain ⟨r, rfl, rfl, rfl⟩ := hp
  refine W.eq (g2 := F0 zm 12 ls (.int _ :: _)) rfl ?_
  exact mr_iretX X hT hret (⟨_, rfl, by unfold f_askState_c; rw [c_ixt ha (by omega)]; rfl, by rw [pn_nI (show a < 2 ^ 31 by omega)]; exact (ho.2.1 a ha).symm, b, rfl, w, hA, ho⟩) (Nat.le_of_ble_eq_true rfl) (Nat.le_of_ble_eq_true rfl) dX7_askState_12

abbrev rm_X7_enter : Room := { frames := 7, cells := 7, slots := 2626, locals := 226 }
set_option maxHeartbeats 4000000 in
set_option maxRecDepth 100000 in
theorem c_enter {l : Launch} (hfl : l.stackTraces = false) {G : mw_G} {b : c_B} {x : s_T} {w : c_W} {p mm : Int32} {M : mw_M} (hA : CA G b x w M) (ho : c_ok (ct x 5) b x w) (hi : q_inv 511 x) : mw_MetX l G yX7_enter (.code yX7_enter cX7_enter 6 (some .int)) rm_X7_enter [.ref (b 0 0), .int p, .int mm] M (mw_pi (fun r M1 => f_enter_c x p mm = 0 ∧ r = nI (ct x 22) ∧ c_out G b (f_enter_s x p mm) M1)) (fun E => (E = "java/lang/IndexOutOfBoundsException" ∧ f_enter_c x p mm = 1) ∨ (E = "java/lang/IllegalStateException" ∧ f_enter_c x p mm = 2)) := by
  refine mw_ofX hfl (by decide) (Nat.le_of_ble_eq_true rfl) ?_
  intro zp ze zs zm zb zh zc ls X hin hret hexc hT hl
  have hl : lv_has ls 6 [(0, .ref (b 0 0)), (1, .int p), (2, .int mm)] := hl
  obtain ⟨⟨i2, i4, i5, i10, i17, i22, i29, i32⟩, hr3, hr6, hr11, hr18, hr23, hz21, hz28, hlb⟩ := id hi
  have hI := q_inv_mono hi (show 511 ≤ 512 by decide)
  refine lv_aload_n X.1 X.2.1 dX7_enter_0 rfl (lv_at hl 0 rfl) ?_
  refine lv_iload_n X.1 X.2.1 dX7_enter_1 rfl (lv_at hl 1 rfl) ?_
  refine mr_gX X hT (fun hT' => mr_runVX X hT' cb_RX7_79 kw298 kp4 kw299 (c_personAt hfl hA ho hI) (mr_cell X hT hA.gate rfl) rfl rfl hl.1 ⟨Nat.le_of_ble_eq_true rfl, Nat.le_of_ble_eq_true rfl⟩ (Nat.le_of_ble_eq_true rfl) dX7_enter_2 ⟨Nat.le_of_ble_eq_true rfl, Nat.le_of_ble_eq_true rfl⟩) (fun E ce q9 H locs hp hT h1 h2 h3 => ?_) (fun v M1 H locs hp hT => ?_)
  · exact mr_out X hexc hT h1 h2 h3 (Or.inl (⟨hp.1, by unfold f_enter_c; unfold q_both; rw [hp.2]; rfl⟩)) (Nat.le_of_ble_eq_true rfl) (Nat.le_of_ble_eq_true rfl)
  obtain ⟨r, rfl, ⟨j, hj, rfl, rfl⟩, rfl⟩ := hp
  refine W.eq (g2 := F0 zm 5 ls (.ref _ :: _)) rfl ?_
  refine lv_astore_n X.1 X.2.1 dX7_enter_5 rfl hl (by decide) rfl (fun ls hl => ?_)
  refine lv_aload_n X.1 X.2.1 dX7_enter_6 rfl (lv_at hl 1 rfl) ?_
  refine lv_iload_n X.1 X.2.1 dX7_enter_7 rfl (lv_at hl 3 rfl) ?_
  refine mr_gX X hT (fun hT' => mr_runVX X hT' cb_RX7_104 kw457 kp16 kw458 (c_machineAt hfl hA ho hI) (mr_cell X hT hA.gate rfl) rfl rfl hl.1 ⟨Nat.le_of_ble_eq_true rfl, Nat.le_of_ble_eq_true rfl⟩ (Nat.le_of_ble_eq_true rfl) dX7_enter_8 ⟨Nat.le_of_ble_eq_true rfl, Nat.le_of_ble_eq_true rfl⟩) (fun E ce q9 H locs hp hT h1 h2 h3 => ?_) (fun v M1 H locs hp hT => ?_)
  · exact mr_out X hexc hT h1 h2 h3 (Or.inl (⟨hp.1, by unfold f_enter_c; unfold q_both; rw [c_ixt hj (show ct x 2 < 2 ^ 31 by omega), hp.2]; rfl⟩)) (Nat.le_of_ble_eq_true rfl) (Nat.le_of_ble_eq_true rfl)
  obtain ⟨r, rfl, ⟨m, hm, rfl, rfl⟩, rfl⟩ := hp
  refine W.eq (g2 := F0 zm 11 ls (.ref _ :: _)) rfl ?_
  have hb : q_both x (nI j) (nI m) = true := by unfold q_both; rw [c_ixt hj (by omega), c_ixt hm (by omega)]; rfl
  have pj : pn (nI j) = j := pn_nI (by omega)
  have pm : pn (nI m) = m := pn_nI (by omega)
  refine lv_astore X.1 X.2.1 dX7_enter_11 hl (by decide) rfl (fun ls hl => ?_)
  refine lv_aload_n X.1 X.2.1 dX7_enter_13 rfl (lv_at hl 2 rfl) ?_
  refine lv_aload_n X.1 X.2.1 dX7_enter_14 rfl (lv_at hl 1 rfl) ?_
  refine lv_aload X.1 X.2.1 dX7_enter_15 (lv_at hl 0 rfl) ?_
  refine mr_gX X hT (fun hT' => mr_runVX X hT' cb_RX7_110 kw478 kp17 kw479 (c_requireMay hfl hA ho hI hj hm) (mr_cell X hT hA.gate rfl) rfl rfl hl.1 ⟨Nat.le_of_ble_eq_true rfl, Nat.le_of_ble_eq_true rfl⟩ (Nat.le_of_ble_eq_true rfl) dX7_enter_17 ⟨Nat.le_of_ble_eq_true rfl, Nat.le_of_ble_eq_true rfl⟩) (fun E ce q9 H locs hp hT h1 h2 h3 => ?_) (fun v M1 H locs hp hT => ?_)
  · exact mr_out X hexc hT h1 h2 h3 (Or.inr ⟨hp.1, by unfold f_enter_c; rw [hb, hp.2]; rfl⟩) (Nat.le_of_ble_eq_true rfl) (Nat.le_of_ble_eq_true rfl)
  obtain ⟨rfl, hcan, rfl⟩ := hp
  refine W.eq (g2 := F0 zm 20 ls _) rfl ?_
  refine lv_aload_n X.1 X.2.1 dX7_enter_20 rfl (lv_at hl 2 rfl) ?_
  refine mr_get X hT fl_RX7_22 (hA.gate) rfl dX7_enter_21 ?_
  refine mr_g X hT (fun hT' => mr_runV X hT' cb_RX7_52 kw196 kw197 kw198 (j_size hfl (hA.1 4 3 (show 3 < 6 by decide))) (mr_cell X hT (hA.1 4 3 (show 3 < 6 by decide)) rfl) rfl rfl hl.1 ⟨Nat.le_of_ble_eq_true rfl, Nat.le_of_ble_eq_true rfl⟩ (Nat.le_of_ble_eq_true rfl) dX7_enter_24 ⟨Nat.le_of_ble_eq_true rfl, Nat.le_of_ble_eq_true rfl⟩) (fun v M1 H locs hp hT => ?_)
  obtain ⟨r, rfl, rfl, rfl⟩ := hp
  refine W.eq (g2 := F0 zm 27 ls (.int _ :: _)) rfl ?_
  refine mm_top (w := nI (ct x 22)) (rfl) ?_
  refine lv_istore X.1 X.2.1 dX7_enter_27 hl (by decide) rfl (fun ls hl => ?_)
  refine lv_iload X.1 X.2.1 dX7_enter_29 (lv_at hl 0 rfl) ?_
  refine mr_g X hT (fun hT' => mr_runS X hT' cb_RX7_113 kw497 kw498 (c_requireRoomFor hfl (show ct x 22 < 512 by omega)) rfl rfl hl.1 ⟨Nat.le_of_ble_eq_true rfl, Nat.le_of_ble_eq_true rfl⟩ (Nat.le_of_ble_eq_true rfl) dX7_enter_31 ⟨Nat.le_of_ble_eq_true rfl, Nat.le_of_ble_eq_true rfl⟩) (fun v M1 H locs hp hT => ?_)
  obtain ⟨rfl, rfl⟩ := hp
  refine W.eq (g2 := F0 zm 34 ls _) rfl ?_
  refine lv_aload_n X.1 X.2.1 dX7_enter_34 rfl (lv_at hl 3 rfl) ?_
  refine mr_get X hT fl_RX7_22 (hA.gate) rfl dX7_enter_35 ?_
  refine mr_new X hT (ci := 2) rfl uin_2 tyX1 tyX1_ok kw489 kw493 kw21 (fs := [.null, .null, .int 0, .int 0]) (fun j hj => by have hj : j < 4 := hj; rcases (show j = 0 ∨ j = 1 ∨ j = 2 ∨ j = 3 by omega) with rfl | rfl | rfl | rfl <;> rfl) (Nat.le_of_ble_eq_true rfl) (Nat.le_of_ble_eq_true rfl) dX7_enter_38 (fun q H hq hT => ?_)
  refine lv_dup X.1 X.2.1 dX7_enter_41 rfl ?_
  refine lv_aload_n X.1 X.2.1 dX7_enter_42 rfl (lv_at hl 2 rfl) ?_
  refine lv_aload X.1 X.2.1 dX7_enter_43 (lv_at hl 1 rfl) ?_
  refine lv_aload_n X.1 X.2.1 dX7_enter_45 rfl (lv_at hl 3 rfl) ?_
  refine mr_get X hT fl_RX7_42 ((hA.off hq).gate) rfl dX7_enter_46 ?_
  refine mr_g X hT (fun hT' => mr_runIN X hT' cn_RX7_160 kw536 rfl kw537 (o_entry hfl (va_up_self _ _ _)) rfl rfl hl.1 ⟨Nat.le_of_ble_eq_true rfl, Nat.le_of_ble_eq_true rfl⟩ (Nat.le_of_ble_eq_true rfl) dX7_enter_49 ⟨Nat.le_of_ble_eq_true rfl, Nat.le_of_ble_eq_true rfl⟩) (fun v M1 H locs hp hT => ?_)
  obtain ⟨rfl, rfl⟩ := hp
  rw [mw_up1] at hT
  refine W.eq (g2 := F0 zm 52 ls _) rfl ?_
  refine mr_g X hT (fun hT' => mr_runV X hT' cb_RX7_66 kw234 kw235 kw236 (c_add (i := 3) (q := q) (ci := 2) hfl hA (ho.ls) (by decide) hq rfl kw741 (by decide) (fun k hk => ⟨_, hA.ent hk⟩) (show ct x 22 ≤ 533 by omega)) (mr_cell X hT ((hA.off hq).1 4 3 (show 3 < 6 by decide)) rfl) rfl rfl hl.1 ⟨Nat.le_of_ble_eq_true rfl, Nat.le_of_ble_eq_true rfl⟩ (Nat.le_of_ble_eq_true rfl) dX7_enter_52 ⟨Nat.le_of_ble_eq_true rfl, Nat.le_of_ble_eq_true rfl⟩) (fun v M1 H locs hp hT => ?_)
  obtain ⟨r, rfl, hp⟩ := hp
  refine W.eq (g2 := F0 zm 55 ls (.int _ :: _)) rfl ?_
  obtain ⟨ea, w1, ew, hA, hls1⟩ := hA.push_E hi ho.ls hq hj hm (fun h => if_neg h) hp
  have e00 : (c_b b 3 (ct x 22) q ea) 0 0 = b 0 0 := c_b_6 0 0 (by decide) (Or.inl (by decide))
  have e6 : (c_b b 3 (ct x 22) q ea) 6 j = b 6 j := c_b_6 6 j (by decide) (Or.inl (by decide))
  have e7 : (c_b b 3 (ct x 22) q ea) 7 m = b 7 m := c_b_6 7 m (by decide) (Or.inl (by decide))
  have ho := ho.add_E (T := ct x 5) ew hls1
  have hi2 := q_inv_entry hi hj hm
  have hj2 : j < ct (ss (cs (cs (cs x 18 (ct x 22) (nI j)) 19 (ct x 22) (nI m)) 20 (ct x 22) (q_now x)) 22 (ct x 22 + 1)) 2 := hj
  have hm2 : m < ct (ss (cs (cs (cs x 18 (ct x 22) (nI j)) 19 (ct x 22) (nI m)) 20 (ct x 22) (q_now x)) 22 (ct x 22 + 1)) 4 := hm
  refine lv_pop X.1 X.2.1 dX7_enter_55 rfl ?_
  rw [← e00, ← e6, ← e7] at hl
  refine lv_aload_n X.1 X.2.1 dX7_enter_56 rfl (lv_at hl 3 rfl) ?_
  refine mr_get X hT fl_RX7_25 (hA.gate) rfl dX7_enter_57 ?_
  refine mr_new X hT (ci := 5) rfl uin_5 tyX4 tyX4_ok kw343 kw347 kw22 (fs := [.null, .null, .int 0, .int 0]) (fun j hj => by have hj : j < 4 := hj; rcases (show j = 0 ∨ j = 1 ∨ j = 2 ∨ j = 3 by omega) with rfl | rfl | rfl | rfl <;> rfl) (Nat.le_of_ble_eq_true rfl) (Nat.le_of_ble_eq_true rfl) dX7_enter_60 (fun q2 H hq2 hT => ?_)
  refine lv_dup X.1 X.2.1 dX7_enter_63 rfl ?_
  refine lv_aload_n X.1 X.2.1 dX7_enter_64 rfl (lv_at hl 2 rfl) ?_
  refine lv_aload X.1 X.2.1 dX7_enter_65 (lv_at hl 1 rfl) ?_
  refine lv_aload_n X.1 X.2.1 dX7_enter_67 rfl (lv_at hl 3 rfl) ?_
  refine mr_get X hT fl_RX7_42 ((hA.off hq2).gate) rfl dX7_enter_68 ?_
  refine lv_aload_n X.1 X.2.1 dX7_enter_71 rfl (lv_at hl 3 rfl) ?_
  refine mr_get X hT fl_RX7_42 ((hA.off hq2).gate) rfl dX7_enter_72 ?_
  refine lv_bipush X.1 X.2.1 (v := 30) dX7_enter_75 (by decide) ?_
  refine lv_iadd X.1 X.2.1 dX7_enter_77 ?_
  refine mr_g X hT (fun hT' => mr_runIN X hT' cn_RX7_153 kw557 rfl kw558 (o_right hfl (va_up_self _ _ _)) rfl rfl hl.1 ⟨Nat.le_of_ble_eq_true rfl, Nat.le_of_ble_eq_true rfl⟩ (Nat.le_of_ble_eq_true rfl) dX7_enter_78 ⟨Nat.le_of_ble_eq_true rfl, Nat.le_of_ble_eq_true rfl⟩) (fun v M1 H locs hp hT => ?_)
  obtain ⟨rfl, rfl⟩ := hp
  rw [mw_up1] at hT
  refine W.eq (g2 := F0 zm 81 ls _) rfl ?_
  refine mr_g X hT (fun hT' => mr_runV X hT' cb_RX7_66 kw234 kw235 kw236 (c_add (i := 4) (q := q2) (ci := 5) hfl hA (ho.ls) (by decide) hq2 rfl kw742 (by decide) (fun k hk => ⟨_, hA.rig hk⟩) (show ct x 10 ≤ 533 by omega)) (mr_cell X hT ((hA.off hq2).1 4 4 (show 4 < 6 by decide)) rfl) rfl rfl hl.1 ⟨Nat.le_of_ble_eq_true rfl, Nat.le_of_ble_eq_true rfl⟩ (Nat.le_of_ble_eq_true rfl) dX7_enter_81 ⟨Nat.le_of_ble_eq_true rfl, Nat.le_of_ble_eq_true rfl⟩) (fun v M1 H locs hp hT => ?_)
  obtain ⟨r, rfl, hp⟩ := hp
  refine W.eq (g2 := F0 zm 84 ls (.int _ :: _)) rfl ?_
  obtain ⟨ea2, w2, ew2, hA, hls2⟩ := CA.push_R hA hi2 ho.ls hq2 (t := 30) hj2 hm2 (fun h => if_neg h) hp
  have e002 : (c_b (c_b b 3 (ct x 22) q ea) 4 (ct x 10) q2 ea2) 0 0 = (c_b b 3 (ct x 22) q ea) 0 0 := c_b_6 0 0 (by decide) (Or.inl (by decide))
  have e62 : (c_b (c_b b 3 (ct x 22) q ea) 4 (ct x 10) q2 ea2) 6 j = (c_b b 3 (ct x 22) q ea) 6 j := c_b_6 6 j (by decide) (Or.inl (by decide))
  have e72 : (c_b (c_b b 3 (ct x 22) q ea) 4 (ct x 10) q2 ea2) 7 m = (c_b b 3 (ct x 22) q ea) 7 m := c_b_6 7 m (by decide) (Or.inl (by decide))
  have ho := ho.add_R (T := ct x 5) ew2 hls2
  have hj2 : j < ct (q_grant (ss (cs (cs (cs x 18 (ct x 22) (nI j)) 19 (ct x 22) (nI m)) 20 (ct x 22) (q_now x)) 22 (ct x 22 + 1)) (nI j) (nI m) 30) 2 := hj
  have hm2 : m < ct (q_grant (ss (cs (cs (cs x 18 (ct x 22) (nI j)) 19 (ct x 22) (nI m)) 20 (ct x 22) (q_now x)) 22 (ct x 22 + 1)) (nI j) (nI m) 30) 4 := hm
  refine lv_pop X.1 X.2.1 dX7_enter_84 rfl ?_
  rw [← e002, ← e62, ← e72] at hl
  refine lv_aload_n X.1 X.2.1 dX7_enter_85 rfl (lv_at hl 3 rfl) ?_
  refine mr_get X hT fl_RX7_34 (hA.gate) rfl dX7_enter_86 ?_
  refine lv_iconst X.1 X.2.1 (v := 3) dX7_enter_89 (by decide) ?_
  refine lv_aload_n X.1 X.2.1 dX7_enter_90 rfl (lv_at hl 2 rfl) ?_
  refine lv_aload X.1 X.2.1 dX7_enter_91 (lv_at hl 1 rfl) ?_
  refine lv_aload_n X.1 X.2.1 dX7_enter_93 rfl (lv_at hl 3 rfl) ?_
  refine mr_get X hT fl_RX7_42 (hA.gate) rfl dX7_enter_94 ?_
  refine mr_g X hT (fun hT' => mr_runVN X hT' cn_RX7_121 kw379 kp14 kw380 (o_record hfl hA.rec hA.kin hA.sea (hA.ne (s := 2) (k := 0) (s' := 3) (k' := 0) rfl rfl (Or.inl (by decide))) (show ct (q_grant (ss (cs (cs (cs x 18 (ct x 22) (nI j)) 19 (ct x 22) (nI m)) 20 (ct x 22) (q_now x)) 22 (ct x 22 + 1)) (nI j) (nI m) 30) 32 < 1024 by show ct x 32 < 1024; omega) (hA.per (hj2)) (hA.mac (hm2))) (mr_cell X hT hA.rec rfl) rfl rfl hl.1 ⟨Nat.le_of_ble_eq_true rfl, Nat.le_of_ble_eq_true rfl⟩ (Nat.le_of_ble_eq_true rfl) dX7_enter_97 ⟨Nat.le_of_ble_eq_true rfl, Nat.le_of_ble_eq_true rfl⟩) (fun v M1 H locs hp hT => ?_)
  obtain ⟨rfl, hq9⟩ := hp
  refine W.eq (g2 := F0 zm 100 ls _) rfl ?_
  have hM := hA.step (p := nI j) (m := nI m) ho (by have h := c_seal (kd := 3) ho (p := nI j) (m := nI m) ⟨j, hj, rfl⟩ ⟨m, hm, rfl⟩ (show ct x 2 < 2 ^ 31 by omega) (show ct x 4 < 2 ^ 31 by omega); rw [pj, pm] at h; exact h) hq9
  refine lv_iload X.1 X.2.1 dX7_enter_100 (lv_at hl 0 rfl) ?_
  exact mr_iretX X hT hret (⟨_, rfl, by unfold f_enter_c; rw [hb, hcan]; rfl, rfl, _, e002.trans e00, hM⟩) (Nat.le_of_ble_eq_true rfl) (Nat.le_of_ble_eq_true rfl) dX7_enter_102

abbrev rm_X7_lookAt : Room := { frames := 7, cells := 3, slots := 18, locals := 121 }
set_option maxHeartbeats 4000000 in
set_option maxRecDepth 100000 in
theorem c_lookAt {l : Launch} (hfl : l.stackTraces = false) {G : mw_G} {b : c_B} {x : s_T} {w : c_W} {aa bb : Int32} {M : mw_M} (hA : CA G b x w M) (ho : c_ok (ct x 5) b x w) (hi : q_inv 511 x) : mw_MetX l G yX7_lookAt (.code yX7_lookAt cX7_lookAt 5 (some .int)) rm_X7_lookAt [.ref (b 0 0), .int aa, .int bb] M (mw_pi (fun r M1 => f_lookAt_c x aa bb = 0 ∧ r = q_now x - cg x 20 (pn aa) ∧ c_out G b (f_lookAt_s x aa bb) M1)) (fun E => (E = "java/lang/IndexOutOfBoundsException" ∧ f_lookAt_c x aa bb = 1) ∨ (E = "java/lang/IllegalStateException" ∧ f_lookAt_c x aa bb = 2)) := by
  refine mw_ofX hfl (by decide) (Nat.le_of_ble_eq_true rfl) ?_
  intro zp ze zs zm zb zh zc ls X hin hret hexc hT hl
  have hl : lv_has ls 5 [(0, .ref (b 0 0)), (1, .int aa), (2, .int bb)] := hl
  obtain ⟨⟨i2, i4, i5, i10, i17, i22, i29, i32⟩, hr3, hr6, hr11, hr18, hr23, hz21, hz28, hlb⟩ := id hi
  have hI := q_inv_mono hi (show 511 ≤ 512 by decide)
  refine lv_aload_n X.1 X.2.1 dX7_lookAt_0 rfl (lv_at hl 0 rfl) ?_
  refine lv_iload_n X.1 X.2.1 dX7_lookAt_1 rfl (lv_at hl 1 rfl) ?_
  refine mr_gX X hT (fun hT' => mr_runVX X hT' cb_RX7_163 kw588 kp21 kw589 (c_entryAt hfl hA ho hI) (mr_cell X hT hA.gate rfl) rfl rfl hl.1 ⟨Nat.le_of_ble_eq_true rfl, Nat.le_of_ble_eq_true rfl⟩ (Nat.le_of_ble_eq_true rfl) dX7_lookAt_2 ⟨Nat.le_of_ble_eq_true rfl, Nat.le_of_ble_eq_true rfl⟩) (fun E ce q9 H locs hp hT h1 h2 h3 => ?_) (fun v M1 H locs hp hT => ?_)
  · exact mr_out X hexc hT h1 h2 h3 (Or.inl (⟨hp.1, by unfold f_lookAt_c; rw [hp.2]; rfl⟩)) (Nat.le_of_ble_eq_true rfl) (Nat.le_of_ble_eq_true rfl)
  obtain ⟨r, rfl, ⟨a, ha, rfl, rfl⟩, rfl⟩ := hp
  refine W.eq (g2 := F0 zm 5 ls (.ref _ :: _)) rfl ?_
  refine lv_astore_n X.1 X.2.1 dX7_lookAt_5 rfl hl (by decide) rfl (fun ls hl => ?_)
  refine lv_aload_n X.1 X.2.1 dX7_lookAt_6 rfl (lv_at hl 1 rfl) ?_
  refine lv_iload_n X.1 X.2.1 dX7_lookAt_7 rfl (lv_at hl 3 rfl) ?_
  refine mr_gX X hT (fun hT' => mr_runVX X hT' cb_RX7_79 kw298 kp4 kw299 (c_personAt hfl hA ho hI) (mr_cell X hT hA.gate rfl) rfl rfl hl.1 ⟨Nat.le_of_ble_eq_true rfl, Nat.le_of_ble_eq_true rfl⟩ (Nat.le_of_ble_eq_true rfl) dX7_lookAt_8 ⟨Nat.le_of_ble_eq_true rfl, Nat.le_of_ble_eq_true rfl⟩) (fun E ce q9 H locs hp hT h1 h2 h3 => ?_) (fun v M1 H locs hp hT => ?_)
  · exact mr_out X hexc hT h1 h2 h3 (Or.inl (⟨hp.1, by unfold f_lookAt_c; rw [c_ixt ha (show ct x 22 < 2 ^ 31 by omega), hp.2]; rfl⟩)) (Nat.le_of_ble_eq_true rfl) (Nat.le_of_ble_eq_true rfl)
  obtain ⟨r, rfl, ⟨j, hj, rfl, rfl⟩, rfl⟩ := hp
  refine W.eq (g2 := F0 zm 11 ls (.ref _ :: _)) rfl ?_
  have hkb : (q_ix (nI a) (ct x 22) && q_ix (nI j) (ct x 2)) = true := by rw [c_ixt ha (by omega), c_ixt hj (by omega)]; rfl
  have pa : pn (nI a) = a := pn_nI (by omega)
  have pj : pn (nI j) = j := pn_nI (by omega)
  obtain ⟨r18, r19⟩ := hr18 a ha
  have hu := c_pn r19 (show ct x 4 < 2 ^ 31 by omega)
  have hv := c_pn r18 (show ct x 2 < 2 ^ 31 by omega)
  refine lv_astore X.1 X.2.1 dX7_lookAt_11 hl (by decide) rfl (fun ls hl => ?_)
  refine lv_aload_n X.1 X.2.1 dX7_lookAt_13 rfl (lv_at hl 1 rfl) ?_
  refine mr_get X hT fl_RX7_167 (hA.ent ha) rfl dX7_lookAt_14 ?_
  refine lv_if_eq X.1 X.2.1 (tgt := 30) dX7_lookAt_17 (by decide) (fun c17 => ?_) (fun c17 => ?_)
  · skip
    refine lv_aload X.1 X.2.1 dX7_lookAt_30 (lv_at hl 0 rfl) ?_
    refine mr_get X hT fl_RX7_173 (hA.per hj) rfl dX7_lookAt_32 ?_
    refine lv_aload_n X.1 X.2.1 dX7_lookAt_35 rfl (lv_at hl 1 rfl) ?_
    refine mr_get X hT fl_RX7_176 (hA.ent ha) rfl dX7_lookAt_36 ?_
    refine mr_get X hT fl_RX7_173 (hA.per hv.1) rfl dX7_lookAt_39 ?_
    refine lv_icmp_ne X.1 X.2.1 (tgt := 55) dX7_lookAt_42 (by decide) (fun c42 => ?_) (fun c42 => ?_)
    · skip
      refine lv_aload_n X.1 X.2.1 dX7_lookAt_55 rfl (lv_at hl 1 rfl) ?_
      refine lv_iconst X.1 X.2.1 (v := 1) dX7_lookAt_56 (by decide) ?_
      refine mr_put X hT fp_RX7_167 (fun h => nomatch h) (hA.ent ha) rfl rfl (by simp) dX7_lookAt_57 (fun H locs hT => ?_)
      have hA := hA.setLook ha 1
      have ho : c_ok (ct x 5) b (cs x 21 a 1) w := ho.col (c := 21) _ (by decide)
      have ha22 : a < ct (cs x 21 a 1) 22 := ha
      refine lv_aload_n X.1 X.2.1 dX7_lookAt_60 rfl (lv_at hl 2 rfl) ?_
      refine mr_get X hT fl_RX7_34 (hA.gate) rfl dX7_lookAt_61 ?_
      refine lv_iconst X.1 X.2.1 (v := 4) dX7_lookAt_64 (by decide) ?_
      refine lv_aload X.1 X.2.1 dX7_lookAt_65 (lv_at hl 0 rfl) ?_
      refine lv_aload_n X.1 X.2.1 dX7_lookAt_67 rfl (lv_at hl 1 rfl) ?_
      refine mr_get X hT fl_RX7_179 (hA.ent ha22) rfl dX7_lookAt_68 ?_
      refine lv_aload_n X.1 X.2.1 dX7_lookAt_71 rfl (lv_at hl 2 rfl) ?_
      refine mr_get X hT fl_RX7_42 (hA.gate) rfl dX7_lookAt_72 ?_
      refine mr_g X hT (fun hT' => mr_runVN X hT' cn_RX7_121 kw379 kp14 kw380 (o_record hfl hA.rec hA.kin hA.sea (hA.ne (s := 2) (k := 0) (s' := 3) (k' := 0) rfl rfl (Or.inl (by decide))) (show ct x 32 < 1024 by omega) (hA.per (hj)) (hA.mac (hu.1))) (mr_cell X hT hA.rec rfl) rfl rfl hl.1 ⟨Nat.le_of_ble_eq_true rfl, Nat.le_of_ble_eq_true rfl⟩ (Nat.le_of_ble_eq_true rfl) dX7_lookAt_75 ⟨Nat.le_of_ble_eq_true rfl, Nat.le_of_ble_eq_true rfl⟩) (fun v M1 H locs hp hT => ?_)
      obtain ⟨rfl, hq9⟩ := hp
      refine W.eq (g2 := F0 zm 78 ls _) rfl ?_
      have hM := hA.step (p := nI j) (m := cg x 19 a) ho (by have h := c_seal (kd := 4) ho (p := nI j) (m := cg x 19 a) ⟨j, hj, rfl⟩ (r19) (show ct x 2 < 2 ^ 31 by omega) (show ct x 4 < 2 ^ 31 by omega); rw [pj] at h; exact h) hq9
      obtain ⟨w2, hA, ho⟩ := id hM
      have ha32 : a < ct (q_write (cs x 21 a 1) 4 (nI j) (cg x 19 a)) 22 := ha
      refine lv_aload_n X.1 X.2.1 dX7_lookAt_78 rfl (lv_at hl 2 rfl) ?_
      refine mr_get X hT fl_RX7_42 (hA.gate) rfl dX7_lookAt_79 ?_
      refine lv_aload_n X.1 X.2.1 dX7_lookAt_82 rfl (lv_at hl 1 rfl) ?_
      refine mr_get X hT fl_RX7_180 (hA.ent ha32) rfl dX7_lookAt_83 ?_
      refine lv_isub X.1 X.2.1 dX7_lookAt_86 ?_
      exact mr_iretX X hT hret (⟨_, rfl, by unfold f_lookAt_c; rw [hkb, pa, pj, decide_eq_true c17, decide_eq_true c42]; rfl, by rw [pa]; rfl, b, rfl, by unfold f_lookAt_s; rw [pa]; exact hM⟩) (Nat.le_of_ble_eq_true rfl) (Nat.le_of_ble_eq_true rfl) dX7_lookAt_87
    · skip
      exact mr_throw X hexc hT (text := "the person is of the team of the one who entered") (is := 177) tx_56_60 (by decide) hl.1 (Or.inr ⟨rfl, by unfold f_lookAt_c; rw [hkb, pa, pj, d_nef c42, Bool.and_false]; rfl⟩) dX7_lookAt_45 dX7_lookAt_48 dX7_lookAt_49 dX7_lookAt_51 dX7_lookAt_54 (Nat.le_of_ble_eq_true rfl) (Nat.le_of_ble_eq_true rfl) (Nat.le_of_ble_eq_true rfl) (Nat.le_of_ble_eq_true rfl) (Nat.le_of_ble_eq_true rfl) (Nat.le_of_ble_eq_true rfl)
  · skip
    exact mr_throw X hexc hT (text := "somebody has looked at the entry") (is := 171) tx_56_60 (by decide) hl.1 (Or.inr ⟨rfl, by unfold f_lookAt_c; rw [hkb, pa, decide_eq_false c17]; rfl⟩) dX7_lookAt_20 dX7_lookAt_23 dX7_lookAt_24 dX7_lookAt_26 dX7_lookAt_29 (Nat.le_of_ble_eq_true rfl) (Nat.le_of_ble_eq_true rfl) (Nat.le_of_ble_eq_true rfl) (Nat.le_of_ble_eq_true rfl) (Nat.le_of_ble_eq_true rfl) (Nat.le_of_ble_eq_true rfl)

abbrev rm_X7_overdue : Room := { frames := 7, cells := 1, slots := 6, locals := 121 }
set_option maxHeartbeats 4000000 in
set_option maxRecDepth 100000 in
theorem c_overdue {l : Launch} (hfl : l.stackTraces = false) {G : mw_G} {b : c_B} {x : s_T} {w : c_W} {p : Int32} {M : mw_M} (hA : CA G b x w M) (ho : c_ok (ct x 5) b x w) (hi : q_inv 511 x) : mw_MetX l G yX7_overdue (.code yX7_overdue cX7_overdue 2 (some .int)) rm_X7_overdue [.ref (b 0 0), .int p] M (mw_pi (fun r M1 => f_overdue_c x p = 0 ∧ r = q_over x p (ct x 22) ∧ c_out G b (x) M1)) (fun E => (E = "java/lang/IndexOutOfBoundsException" ∧ f_overdue_c x p = 1)) := by
  refine mw_ofX hfl (by decide) (Nat.le_of_ble_eq_true rfl) ?_
  intro zp ze zs zm zb zh zc ls X hin hret hexc hT hl
  have hl : lv_has ls 2 [(0, .ref (b 0 0)), (1, .int p)] := hl
  obtain ⟨⟨i2, i4, i5, i10, i17, i22, i29, i32⟩, hr3, hr6, hr11, hr18, hr23, hz21, hz28, hlb⟩ := id hi
  have hI := q_inv_mono hi (show 511 ≤ 512 by decide)
  refine lv_aload_n X.1 X.2.1 dX7_overdue_0 rfl (lv_at hl 0 rfl) ?_
  refine lv_aload_n X.1 X.2.1 dX7_overdue_1 rfl (lv_at hl 0 rfl) ?_
  refine lv_iload_n X.1 X.2.1 dX7_overdue_2 rfl (lv_at hl 1 rfl) ?_
  refine mr_gX X hT (fun hT' => mr_runVX X hT' cb_RX7_79 kw298 kp4 kw299 (c_personAt hfl hA ho hI) (mr_cell X hT hA.gate rfl) rfl rfl hl.1 ⟨Nat.le_of_ble_eq_true rfl, Nat.le_of_ble_eq_true rfl⟩ (Nat.le_of_ble_eq_true rfl) dX7_overdue_3 ⟨Nat.le_of_ble_eq_true rfl, Nat.le_of_ble_eq_true rfl⟩) (fun E ce q9 H locs hp hT h1 h2 h3 => ?_) (fun v M1 H locs hp hT => ?_)
  · exact mr_out X hexc hT h1 h2 h3 (⟨hp.1, by unfold f_overdue_c; rw [hp.2]; rfl⟩) (Nat.le_of_ble_eq_true rfl) (Nat.le_of_ble_eq_true rfl)
  obtain ⟨r, rfl, ⟨j, hj, rfl, rfl⟩, rfl⟩ := hp
  refine W.eq (g2 := F0 zm 6 ls (.ref _ :: _)) rfl ?_
  refine mr_g X hT (fun hT' => mr_runV X hT' cb_RX7_183 kw487 kp19 kw488 (c_countOverdue hfl hA ho hI hj) (mr_cell X hT hA.gate rfl) rfl rfl hl.1 ⟨Nat.le_of_ble_eq_true rfl, Nat.le_of_ble_eq_true rfl⟩ (Nat.le_of_ble_eq_true rfl) dX7_overdue_6 ⟨Nat.le_of_ble_eq_true rfl, Nat.le_of_ble_eq_true rfl⟩) (fun v M1 H locs hp hT => ?_)
  obtain ⟨r, rfl, rfl, rfl⟩ := hp
  refine W.eq (g2 := F0 zm 9 ls (.int _ :: _)) rfl ?_
  exact mr_iretX X hT hret (⟨_, rfl, by unfold f_overdue_c; rw [c_ixt hj (by omega)]; rfl, rfl, b, rfl, w, hA, ho⟩) (Nat.le_of_ble_eq_true rfl) (Nat.le_of_ble_eq_true rfl) dX7_overdue_9

abbrev rm_X7_couldEnter : Room := { frames := 7, cells := 3, slots := 18, locals := 121 }
set_option maxHeartbeats 4000000 in
set_option maxRecDepth 100000 in
theorem c_couldEnter {l : Launch} (hfl : l.stackTraces = false) {G : mw_G} {b : c_B} {x : s_T} {w : c_W} {p mm t : Int32} {M : mw_M} (hA : CA G b x w M) (ho : c_ok (ct x 5) b x w) (hi : q_inv 511 x) : mw_MetX l G yX7_couldEnter (.code yX7_couldEnter cX7_couldEnter 6 (some .boolean)) rm_X7_couldEnter [.ref (b 0 0), .int p, .int mm, .int t] M (mw_pi (fun r M1 => f_couldEnter_c x p mm t = 0 ∧ r = bI (q_hold x p mm t (ct x 10)) ∧ c_out G b (x) M1)) (fun E => (E = "java/lang/IndexOutOfBoundsException" ∧ f_couldEnter_c x p mm t = 1) ∨ (E = "java/lang/IllegalArgumentException" ∧ f_couldEnter_c x p mm t = 2)) := by
  refine mw_ofX hfl (by decide) (Nat.le_of_ble_eq_true rfl) ?_
  intro zp ze zs zm zb zh zc ls X hin hret hexc hT hl
  have hl : lv_has ls 6 [(0, .ref (b 0 0)), (1, .int p), (2, .int mm), (3, .int t)] := hl
  obtain ⟨⟨i2, i4, i5, i10, i17, i22, i29, i32⟩, hr3, hr6, hr11, hr18, hr23, hz21, hz28, hlb⟩ := id hi
  have hI := q_inv_mono hi (show 511 ≤ 512 by decide)
  refine lv_aload_n X.1 X.2.1 dX7_couldEnter_0 rfl (lv_at hl 0 rfl) ?_
  refine lv_iload_n X.1 X.2.1 dX7_couldEnter_1 rfl (lv_at hl 1 rfl) ?_
  refine mr_gX X hT (fun hT' => mr_runVX X hT' cb_RX7_79 kw298 kp4 kw299 (c_personAt hfl hA ho hI) (mr_cell X hT hA.gate rfl) rfl rfl hl.1 ⟨Nat.le_of_ble_eq_true rfl, Nat.le_of_ble_eq_true rfl⟩ (Nat.le_of_ble_eq_true rfl) dX7_couldEnter_2 ⟨Nat.le_of_ble_eq_true rfl, Nat.le_of_ble_eq_true rfl⟩) (fun E ce q9 H locs hp hT h1 h2 h3 => ?_) (fun v M1 H locs hp hT => ?_)
  · exact mr_out X hexc hT h1 h2 h3 (Or.inl (⟨hp.1, by unfold f_couldEnter_c; unfold q_both; rw [hp.2]; rfl⟩)) (Nat.le_of_ble_eq_true rfl) (Nat.le_of_ble_eq_true rfl)
  obtain ⟨r, rfl, ⟨j, hj, rfl, rfl⟩, rfl⟩ := hp
  refine W.eq (g2 := F0 zm 5 ls (.ref _ :: _)) rfl ?_
  refine lv_astore X.1 X.2.1 dX7_couldEnter_5 hl (by decide) rfl (fun ls hl => ?_)
  refine lv_aload_n X.1 X.2.1 dX7_couldEnter_7 rfl (lv_at hl 1 rfl) ?_
  refine lv_iload_n X.1 X.2.1 dX7_couldEnter_8 rfl (lv_at hl 3 rfl) ?_
  refine mr_gX X hT (fun hT' => mr_runVX X hT' cb_RX7_104 kw457 kp16 kw458 (c_machineAt hfl hA ho hI) (mr_cell X hT hA.gate rfl) rfl rfl hl.1 ⟨Nat.le_of_ble_eq_true rfl, Nat.le_of_ble_eq_true rfl⟩ (Nat.le_of_ble_eq_true rfl) dX7_couldEnter_9 ⟨Nat.le_of_ble_eq_true rfl, Nat.le_of_ble_eq_true rfl⟩) (fun E ce q9 H locs hp hT h1 h2 h3 => ?_) (fun v M1 H locs hp hT => ?_)
  · exact mr_out X hexc hT h1 h2 h3 (Or.inl (⟨hp.1, by unfold f_couldEnter_c; unfold q_both; rw [c_ixt hj (show ct x 2 < 2 ^ 31 by omega), hp.2]; rfl⟩)) (Nat.le_of_ble_eq_true rfl) (Nat.le_of_ble_eq_true rfl)
  obtain ⟨r, rfl, ⟨m, hm, rfl, rfl⟩, rfl⟩ := hp
  refine W.eq (g2 := F0 zm 12 ls (.ref _ :: _)) rfl ?_
  have hb : q_both x (nI j) (nI m) = true := by unfold q_both; rw [c_ixt hj (by omega), c_ixt hm (by omega)]; rfl
  refine lv_astore X.1 X.2.1 dX7_couldEnter_12 hl (by decide) rfl (fun ls hl => ?_)
  refine lv_iload_n X.1 X.2.1 dX7_couldEnter_14 rfl (lv_at hl 5 rfl) ?_
  refine lv_if_lt X.1 X.2.1 (tgt := 24) dX7_couldEnter_15 (by decide) (fun c15 => ?_) (fun c15 => ?_)
  · skip
    have hin : q_in t 0 100000 = false := c_inn c15
    exact mr_throw X hexc hT (text := "time is out of range") (is := 188) tx_45_49 (by decide) hl.1 (Or.inr ⟨rfl, by unfold f_couldEnter_c; rw [hb, hin]; rfl⟩) dX7_couldEnter_24 dX7_couldEnter_27 dX7_couldEnter_28 dX7_couldEnter_30 dX7_couldEnter_33 (Nat.le_of_ble_eq_true rfl) (Nat.le_of_ble_eq_true rfl) (Nat.le_of_ble_eq_true rfl) (Nat.le_of_ble_eq_true rfl) (Nat.le_of_ble_eq_true rfl) (Nat.le_of_ble_eq_true rfl)
  · skip
    refine lv_iload_n X.1 X.2.1 dX7_couldEnter_18 rfl (lv_at hl 5 rfl) ?_
    refine lv_ldc X.1 X.2.1 (v := 100000) X.2.2.2.1 (mw_use X.2.2.2.2.1.1 kw415 rfl) dX7_couldEnter_19 ?_
    refine lv_icmp_le X.1 X.2.1 (tgt := 34) dX7_couldEnter_21 (by decide) (fun c21 => ?_) (fun c21 => ?_)
    · skip
      have hin : q_in t 0 100000 = true := c_int c15 c21
      refine lv_aload_n X.1 X.2.1 dX7_couldEnter_34 rfl (lv_at hl 2 rfl) ?_
      refine lv_aload X.1 X.2.1 dX7_couldEnter_35 (lv_at hl 1 rfl) ?_
      refine lv_aload X.1 X.2.1 dX7_couldEnter_37 (lv_at hl 0 rfl) ?_
      refine lv_iload_n X.1 X.2.1 dX7_couldEnter_39 rfl (lv_at hl 5 rfl) ?_
      refine mr_g X hT (fun hT' => mr_runV X hT' cb_RX7_190 kw371 kp12 kw372 (c_rightHolds hfl hA ho hI hj hm) (mr_cell X hT hA.gate rfl) rfl rfl hl.1 ⟨Nat.le_of_ble_eq_true rfl, Nat.le_of_ble_eq_true rfl⟩ (Nat.le_of_ble_eq_true rfl) dX7_couldEnter_40 ⟨Nat.le_of_ble_eq_true rfl, Nat.le_of_ble_eq_true rfl⟩) (fun v M1 H locs hp hT => ?_)
      obtain ⟨r, rfl, rfl, rfl⟩ := hp
      refine W.eq (g2 := F0 zm 43 ls (.int _ :: _)) rfl ?_
      exact mr_zretX X hT hret (by first | exact bI_nar _ | rfl | decide) (⟨_, rfl, by unfold f_couldEnter_c; rw [hb, hin]; rfl, rfl, b, rfl, w, hA, ho⟩) (Nat.le_of_ble_eq_true rfl) (Nat.le_of_ble_eq_true rfl) dX7_couldEnter_43
    · skip
      have hin : q_in t 0 100000 = false := c_inh (Int32.not_le.mp c21)
      exact mr_throw X hexc hT (text := "time is out of range") (is := 188) tx_45_49 (by decide) hl.1 (Or.inr ⟨rfl, by unfold f_couldEnter_c; rw [hb, hin]; rfl⟩) dX7_couldEnter_24 dX7_couldEnter_27 dX7_couldEnter_28 dX7_couldEnter_30 dX7_couldEnter_33 (Nat.le_of_ble_eq_true rfl) (Nat.le_of_ble_eq_true rfl) (Nat.le_of_ble_eq_true rfl) (Nat.le_of_ble_eq_true rfl) (Nat.le_of_ble_eq_true rfl) (Nat.le_of_ble_eq_true rfl)

abbrev rm_X7_open : Room := { frames := 7, cells := 5, slots := 1324, locals := 226 }
set_option maxHeartbeats 4000000 in
set_option maxRecDepth 100000 in
theorem c_open {l : Launch} (hfl : l.stackTraces = false) {G : mw_G} {b : c_B} {x : s_T} {w : c_W} {p mm : Int32} {M : mw_M} (hA : CA G b x w M) (ho : c_ok (ct x 5) b x w) (hi : q_inv 511 x) : mw_MetX l G yX7_open (.code yX7_open cX7_open 6 (some .int)) rm_X7_open [.ref (b 0 0), .int p, .int mm] M (mw_pi (fun r M1 => f_open_c x p mm = 0 ∧ r = nI (ct x 29) ∧ c_out G b (f_open_s x p mm) M1)) (fun E => (E = "java/lang/IndexOutOfBoundsException" ∧ f_open_c x p mm = 1) ∨ (E = "java/lang/IllegalStateException" ∧ f_open_c x p mm = 2)) := by
  refine mw_ofX hfl (by decide) (Nat.le_of_ble_eq_true rfl) ?_
  intro zp ze zs zm zb zh zc ls X hin hret hexc hT hl
  have hl : lv_has ls 6 [(0, .ref (b 0 0)), (1, .int p), (2, .int mm)] := hl
  obtain ⟨⟨i2, i4, i5, i10, i17, i22, i29, i32⟩, hr3, hr6, hr11, hr18, hr23, hz21, hz28, hlb⟩ := id hi
  have hI := q_inv_mono hi (show 511 ≤ 512 by decide)
  refine lv_aload_n X.1 X.2.1 dX7_open_0 rfl (lv_at hl 0 rfl) ?_
  refine lv_iload_n X.1 X.2.1 dX7_open_1 rfl (lv_at hl 1 rfl) ?_
  refine mr_gX X hT (fun hT' => mr_runVX X hT' cb_RX7_79 kw298 kp4 kw299 (c_personAt hfl hA ho hI) (mr_cell X hT hA.gate rfl) rfl rfl hl.1 ⟨Nat.le_of_ble_eq_true rfl, Nat.le_of_ble_eq_true rfl⟩ (Nat.le_of_ble_eq_true rfl) dX7_open_2 ⟨Nat.le_of_ble_eq_true rfl, Nat.le_of_ble_eq_true rfl⟩) (fun E ce q9 H locs hp hT h1 h2 h3 => ?_) (fun v M1 H locs hp hT => ?_)
  · exact mr_out X hexc hT h1 h2 h3 (Or.inl (⟨hp.1, by unfold f_open_c; unfold q_both; rw [hp.2]; rfl⟩)) (Nat.le_of_ble_eq_true rfl) (Nat.le_of_ble_eq_true rfl)
  obtain ⟨r, rfl, ⟨j, hj, rfl, rfl⟩, rfl⟩ := hp
  refine W.eq (g2 := F0 zm 5 ls (.ref _ :: _)) rfl ?_
  refine lv_astore_n X.1 X.2.1 dX7_open_5 rfl hl (by decide) rfl (fun ls hl => ?_)
  refine lv_aload_n X.1 X.2.1 dX7_open_6 rfl (lv_at hl 1 rfl) ?_
  refine lv_iload_n X.1 X.2.1 dX7_open_7 rfl (lv_at hl 3 rfl) ?_
  refine mr_gX X hT (fun hT' => mr_runVX X hT' cb_RX7_104 kw457 kp16 kw458 (c_machineAt hfl hA ho hI) (mr_cell X hT hA.gate rfl) rfl rfl hl.1 ⟨Nat.le_of_ble_eq_true rfl, Nat.le_of_ble_eq_true rfl⟩ (Nat.le_of_ble_eq_true rfl) dX7_open_8 ⟨Nat.le_of_ble_eq_true rfl, Nat.le_of_ble_eq_true rfl⟩) (fun E ce q9 H locs hp hT h1 h2 h3 => ?_) (fun v M1 H locs hp hT => ?_)
  · exact mr_out X hexc hT h1 h2 h3 (Or.inl (⟨hp.1, by unfold f_open_c; unfold q_both; rw [c_ixt hj (show ct x 2 < 2 ^ 31 by omega), hp.2]; rfl⟩)) (Nat.le_of_ble_eq_true rfl) (Nat.le_of_ble_eq_true rfl)
  obtain ⟨r, rfl, ⟨m, hm, rfl, rfl⟩, rfl⟩ := hp
  refine W.eq (g2 := F0 zm 11 ls (.ref _ :: _)) rfl ?_
  have hb : q_both x (nI j) (nI m) = true := by unfold q_both; rw [c_ixt hj (by omega), c_ixt hm (by omega)]; rfl
  have pj : pn (nI j) = j := pn_nI (by omega)
  have pm : pn (nI m) = m := pn_nI (by omega)
  refine lv_astore X.1 X.2.1 dX7_open_11 hl (by decide) rfl (fun ls hl => ?_)
  refine lv_aload_n X.1 X.2.1 dX7_open_13 rfl (lv_at hl 2 rfl) ?_
  refine lv_aload_n X.1 X.2.1 dX7_open_14 rfl (lv_at hl 1 rfl) ?_
  refine lv_aload X.1 X.2.1 dX7_open_15 (lv_at hl 0 rfl) ?_
  refine lv_aload_n X.1 X.2.1 dX7_open_17 rfl (lv_at hl 2 rfl) ?_
  refine mr_get X hT fl_RX7_42 (hA.gate) rfl dX7_open_18 ?_
  refine mr_g X hT (fun hT' => mr_runV X hT' cb_RX7_190 kw371 kp12 kw372 (c_rightHolds hfl hA ho hI hj hm) (mr_cell X hT hA.gate rfl) rfl rfl hl.1 ⟨Nat.le_of_ble_eq_true rfl, Nat.le_of_ble_eq_true rfl⟩ (Nat.le_of_ble_eq_true rfl) dX7_open_21 ⟨Nat.le_of_ble_eq_true rfl, Nat.le_of_ble_eq_true rfl⟩) (fun v M1 H locs hp hT => ?_)
  obtain ⟨r, rfl, rfl, rfl⟩ := hp
  refine W.eq (g2 := F0 zm 24 ls (.int _ :: _)) rfl ?_
  refine lv_if_ne X.1 X.2.1 (tgt := 37) dX7_open_24 (by decide) (fun c24 => ?_) (fun c24 => ?_)
  · skip
    refine lv_aload_n X.1 X.2.1 dX7_open_37 rfl (lv_at hl 2 rfl) ?_
    refine mr_get X hT fl_RX7_28 (hA.gate) rfl dX7_open_38 ?_
    refine mr_g X hT (fun hT' => mr_runV X hT' cb_RX7_52 kw196 kw197 kw198 (j_size hfl (hA.1 4 5 (show 5 < 6 by decide))) (mr_cell X hT (hA.1 4 5 (show 5 < 6 by decide)) rfl) rfl rfl hl.1 ⟨Nat.le_of_ble_eq_true rfl, Nat.le_of_ble_eq_true rfl⟩ (Nat.le_of_ble_eq_true rfl) dX7_open_41 ⟨Nat.le_of_ble_eq_true rfl, Nat.le_of_ble_eq_true rfl⟩) (fun v M1 H locs hp hT => ?_)
    obtain ⟨r, rfl, rfl, rfl⟩ := hp
    refine W.eq (g2 := F0 zm 44 ls (.int _ :: _)) rfl ?_
    refine mm_top (w := nI (ct x 29)) (rfl) ?_
    refine lv_istore X.1 X.2.1 dX7_open_44 hl (by decide) rfl (fun ls hl => ?_)
    refine lv_iload X.1 X.2.1 dX7_open_46 (lv_at hl 0 rfl) ?_
    refine mr_g X hT (fun hT' => mr_runS X hT' cb_RX7_113 kw497 kw498 (c_requireRoomFor hfl (show ct x 29 < 512 by omega)) rfl rfl hl.1 ⟨Nat.le_of_ble_eq_true rfl, Nat.le_of_ble_eq_true rfl⟩ (Nat.le_of_ble_eq_true rfl) dX7_open_48 ⟨Nat.le_of_ble_eq_true rfl, Nat.le_of_ble_eq_true rfl⟩) (fun v M1 H locs hp hT => ?_)
    obtain ⟨rfl, rfl⟩ := hp
    refine W.eq (g2 := F0 zm 51 ls _) rfl ?_
    refine lv_aload_n X.1 X.2.1 dX7_open_51 rfl (lv_at hl 3 rfl) ?_
    refine mr_get X hT fl_RX7_28 (hA.gate) rfl dX7_open_52 ?_
    refine mr_new X hT (ci := 6) rfl uin_6 tyX5 tyX5_ok kw363 kw367 kw23 (fs := [.null, .null, .int 0, .int 0, .int 0, .int 0]) (fun j hj => by have hj : j < 6 := hj; rcases (show j = 0 ∨ j = 1 ∨ j = 2 ∨ j = 3 ∨ j = 4 ∨ j = 5 by omega) with rfl | rfl | rfl | rfl | rfl | rfl <;> rfl) (Nat.le_of_ble_eq_true rfl) (Nat.le_of_ble_eq_true rfl) dX7_open_55 (fun q H hq hT => ?_)
    refine lv_dup X.1 X.2.1 dX7_open_58 rfl ?_
    refine lv_aload_n X.1 X.2.1 dX7_open_59 rfl (lv_at hl 2 rfl) ?_
    refine lv_aload X.1 X.2.1 dX7_open_60 (lv_at hl 1 rfl) ?_
    refine lv_aload_n X.1 X.2.1 dX7_open_62 rfl (lv_at hl 3 rfl) ?_
    refine mr_get X hT fl_RX7_42 ((hA.off hq).gate) rfl dX7_open_63 ?_
    refine mr_g X hT (fun hT' => mr_runIN X hT' cn_RX7_198 kw636 rfl kw637 (o_session hfl (va_up_self _ _ _)) rfl rfl hl.1 ⟨Nat.le_of_ble_eq_true rfl, Nat.le_of_ble_eq_true rfl⟩ (Nat.le_of_ble_eq_true rfl) dX7_open_66 ⟨Nat.le_of_ble_eq_true rfl, Nat.le_of_ble_eq_true rfl⟩) (fun v M1 H locs hp hT => ?_)
    obtain ⟨rfl, rfl⟩ := hp
    rw [mw_up1] at hT
    refine W.eq (g2 := F0 zm 69 ls _) rfl ?_
    refine mr_g X hT (fun hT' => mr_runV X hT' cb_RX7_66 kw234 kw235 kw236 (c_add (i := 5) (q := q) (ci := 6) hfl hA (ho.ls) (by decide) hq rfl kw743 (by decide) (fun k hk => ⟨_, hA.ses hk⟩) (show ct x 29 ≤ 533 by omega)) (mr_cell X hT ((hA.off hq).1 4 5 (show 5 < 6 by decide)) rfl) rfl rfl hl.1 ⟨Nat.le_of_ble_eq_true rfl, Nat.le_of_ble_eq_true rfl⟩ (Nat.le_of_ble_eq_true rfl) dX7_open_69 ⟨Nat.le_of_ble_eq_true rfl, Nat.le_of_ble_eq_true rfl⟩) (fun v M1 H locs hp hT => ?_)
    obtain ⟨r, rfl, hp⟩ := hp
    refine W.eq (g2 := F0 zm 72 ls (.int _ :: _)) rfl ?_
    obtain ⟨ea, w1, ew, hA, hls1⟩ := hA.push_S hi ho.ls hq hj hm (fun h => if_neg h) hp
    have e00 : (c_b b 5 (ct x 29) q ea) 0 0 = b 0 0 := c_b_6 0 0 (by decide) (Or.inl (by decide))
    have e6 : (c_b b 5 (ct x 29) q ea) 6 j = b 6 j := c_b_6 6 j (by decide) (Or.inl (by decide))
    have e7 : (c_b b 5 (ct x 29) q ea) 7 m = b 7 m := c_b_6 7 m (by decide) (Or.inl (by decide))
    have ew4 : w1.1 4 0 = w.1 4 0 := by rw [ew]; rfl
    refine lv_pop X.1 X.2.1 dX7_open_72 rfl ?_
    rw [← e00, ← e6, ← e7] at hl
    refine lv_aload_n X.1 X.2.1 dX7_open_73 rfl (lv_at hl 3 rfl) ?_
    refine lv_dup X.1 X.2.1 dX7_open_74 rfl ?_
    refine mr_get X hT fl_RX7_38 (hA.gate) rfl dX7_open_75 ?_
    refine lv_iconst X.1 X.2.1 (v := 1) dX7_open_78 (by decide) ?_
    refine lv_iadd X.1 X.2.1 dX7_open_79 ?_
    refine mr_put X hT fp_RX7_38 (fun h => nomatch h) hA.gate rfl rfl (by simp) dX7_open_80 (fun H locs hT => ?_)
    have hA := hA.setOpen (w1.1 4 0 + 1)
    have ho := ho.add_S (w1 := cw w1 4 0 (w1.1 4 0 + 1)) (by rw [ew4]; show va_up w1.1 4 _ = _; rw [ew]; rfl) hls1
    refine lv_aload_n X.1 X.2.1 dX7_open_83 rfl (lv_at hl 3 rfl) ?_
    refine mr_get X hT fl_RX7_34 (hA.gate) rfl dX7_open_84 ?_
    refine lv_iconst X.1 X.2.1 (v := 5) dX7_open_87 (by decide) ?_
    refine lv_aload_n X.1 X.2.1 dX7_open_88 rfl (lv_at hl 2 rfl) ?_
    refine lv_aload X.1 X.2.1 dX7_open_89 (lv_at hl 1 rfl) ?_
    refine lv_aload_n X.1 X.2.1 dX7_open_91 rfl (lv_at hl 3 rfl) ?_
    refine mr_get X hT fl_RX7_42 (hA.gate) rfl dX7_open_92 ?_
    refine mr_g X hT (fun hT' => mr_runVN X hT' cn_RX7_121 kw379 kp14 kw380 (o_record hfl hA.rec hA.kin hA.sea (hA.ne (s := 2) (k := 0) (s' := 3) (k' := 0) rfl rfl (Or.inl (by decide))) (show ct (ss (cs (cs (cs (cs (cs x 23 (ct x 29) (nI j)) 24 (ct x 29) (nI m)) 25 (ct x 29) 1) 26 (ct x 29) (q_now x)) 27 (ct x 29) (-1)) 29 (ct x 29 + 1)) 32 < 1024 by show ct x 32 < 1024; omega) (hA.per (hj)) (hA.mac (hm))) (mr_cell X hT hA.rec rfl) rfl rfl hl.1 ⟨Nat.le_of_ble_eq_true rfl, Nat.le_of_ble_eq_true rfl⟩ (Nat.le_of_ble_eq_true rfl) dX7_open_95 ⟨Nat.le_of_ble_eq_true rfl, Nat.le_of_ble_eq_true rfl⟩) (fun v M1 H locs hp hT => ?_)
    obtain ⟨rfl, hq9⟩ := hp
    refine W.eq (g2 := F0 zm 98 ls _) rfl ?_
    have hM := hA.step (p := nI j) (m := nI m) ho (by have h := c_seal (kd := 5) ho (p := nI j) (m := nI m) ⟨j, hj, rfl⟩ ⟨m, hm, rfl⟩ (show ct x 2 < 2 ^ 31 by omega) (show ct x 4 < 2 ^ 31 by omega); rw [pj, pm] at h; exact h) hq9
    refine lv_iload X.1 X.2.1 dX7_open_98 (lv_at hl 0 rfl) ?_
    exact mr_iretX X hT hret (⟨_, rfl, by unfold f_open_c; rw [hb, bI_n.mp c24]; rfl, rfl, _, e00, hM⟩) (Nat.le_of_ble_eq_true rfl) (Nat.le_of_ble_eq_true rfl) dX7_open_100
  · skip
    exact mr_throw X hexc hT (text := "no right of the person for the machine holds") (is := 194) tx_56_60 (by decide) hl.1 (Or.inr ⟨rfl, by unfold f_open_c; rw [hb, bI_0.mp c24]; rfl⟩) dX7_open_27 dX7_open_30 dX7_open_31 dX7_open_33 dX7_open_36 (Nat.le_of_ble_eq_true rfl) (Nat.le_of_ble_eq_true rfl) (Nat.le_of_ble_eq_true rfl) (Nat.le_of_ble_eq_true rfl) (Nat.le_of_ble_eq_true rfl) (Nat.le_of_ble_eq_true rfl)

abbrev rm_X7_type : Room := { frames := 7, cells := 3, slots := 18, locals := 121 }
set_option maxHeartbeats 4000000 in
set_option maxRecDepth 100000 in
theorem c_type {l : Launch} (hfl : l.stackTraces = false) {G : mw_G} {b : c_B} {x : s_T} {w : c_W} {aa kk : Int32} {M : mw_M} (hA : CA G b x w M) (ho : c_ok (ct x 5) b x w) (hi : q_inv 511 x) : mw_MetX l G yX7_type (.code yX7_type cX7_type 4 (some .boolean)) rm_X7_type [.ref (b 0 0), .int aa, .int kk] M (mw_pi (fun r M1 => f_type_c x aa kk = 0 ∧ r = bI (decide (kk = 0)) ∧ c_out G b (f_type_s x aa kk) M1)) (fun E => (E = "java/lang/IndexOutOfBoundsException" ∧ f_type_c x aa kk = 1) ∨ (E = "java/lang/IllegalArgumentException" ∧ f_type_c x aa kk = 2) ∨ (E = "java/lang/IllegalStateException" ∧ f_type_c x aa kk = 3)) := by
  refine mw_ofX hfl (by decide) (Nat.le_of_ble_eq_true rfl) ?_
  intro zp ze zs zm zb zh zc ls X hin hret hexc hT hl
  have hl : lv_has ls 4 [(0, .ref (b 0 0)), (1, .int aa), (2, .int kk)] := hl
  obtain ⟨⟨i2, i4, i5, i10, i17, i22, i29, i32⟩, hr3, hr6, hr11, hr18, hr23, hz21, hz28, hlb⟩ := id hi
  have hI := q_inv_mono hi (show 511 ≤ 512 by decide)
  refine lv_aload_n X.1 X.2.1 dX7_type_0 rfl (lv_at hl 0 rfl) ?_
  refine lv_iload_n X.1 X.2.1 dX7_type_1 rfl (lv_at hl 1 rfl) ?_
  refine mr_gX X hT (fun hT' => mr_runVX X hT' cb_RX7_199 kw673 kp25 kw674 (c_sessionAt hfl hA ho hI) (mr_cell X hT hA.gate rfl) rfl rfl hl.1 ⟨Nat.le_of_ble_eq_true rfl, Nat.le_of_ble_eq_true rfl⟩ (Nat.le_of_ble_eq_true rfl) dX7_type_2 ⟨Nat.le_of_ble_eq_true rfl, Nat.le_of_ble_eq_true rfl⟩) (fun E ce q9 H locs hp hT h1 h2 h3 => ?_) (fun v M1 H locs hp hT => ?_)
  · exact mr_out X hexc hT h1 h2 h3 (Or.inl (⟨hp.1, by unfold f_type_c; rw [hp.2]; rfl⟩)) (Nat.le_of_ble_eq_true rfl) (Nat.le_of_ble_eq_true rfl)
  obtain ⟨r, rfl, ⟨a, ha, rfl, rfl⟩, rfl⟩ := hp
  refine W.eq (g2 := F0 zm 5 ls (.ref _ :: _)) rfl ?_
  have pa : pn (nI a) = a := pn_nI (by omega)
  obtain ⟨r23, r24⟩ := hr23 a ha
  have hu := c_pn r24 (show ct x 4 < 2 ^ 31 by omega)
  have hv := c_pn r23 (show ct x 2 < 2 ^ 31 by omega)
  have hix : q_ix (nI a) (ct x 29) = true := c_ixt ha (by omega)
  refine lv_astore_n X.1 X.2.1 dX7_type_5 rfl hl (by decide) rfl (fun ls hl => ?_)
  refine lv_iload_n X.1 X.2.1 dX7_type_6 rfl (lv_at hl 3 rfl) ?_
  refine lv_if_lt X.1 X.2.1 (tgt := 15) dX7_type_7 (by decide) (fun c7 => ?_) (fun c7 => ?_)
  · skip
    have hin : q_in kk 0 2 = false := c_inn c7
    exact mr_throw X hexc hT (text := "kind is out of range") (is := 203) tx_45_49 (by decide) hl.1 (Or.inr (Or.inl ⟨rfl, by unfold f_type_c; rw [hix, hin]; rfl⟩)) dX7_type_15 dX7_type_18 dX7_type_19 dX7_type_21 dX7_type_24 (Nat.le_of_ble_eq_true rfl) (Nat.le_of_ble_eq_true rfl) (Nat.le_of_ble_eq_true rfl) (Nat.le_of_ble_eq_true rfl) (Nat.le_of_ble_eq_true rfl) (Nat.le_of_ble_eq_true rfl)
  · skip
    refine lv_iload_n X.1 X.2.1 dX7_type_10 rfl (lv_at hl 3 rfl) ?_
    refine lv_iconst X.1 X.2.1 (v := 2) dX7_type_11 (by decide) ?_
    refine lv_icmp_le X.1 X.2.1 (tgt := 25) dX7_type_12 (by decide) (fun c12 => ?_) (fun c12 => ?_)
    · skip
      have hin : q_in kk 0 2 = true := c_int c7 c12
      refine lv_aload_n X.1 X.2.1 dX7_type_25 rfl (lv_at hl 0 rfl) ?_
      refine mr_gX X hT (fun hT' => mr_runSX X hT' cb_RX7_205 kw677 kw678 (c_requireOpen hfl hA ho hI ha) rfl rfl hl.1 ⟨Nat.le_of_ble_eq_true rfl, Nat.le_of_ble_eq_true rfl⟩ (Nat.le_of_ble_eq_true rfl) dX7_type_26 ⟨Nat.le_of_ble_eq_true rfl, Nat.le_of_ble_eq_true rfl⟩) (fun E ce q9 H locs hp hT h1 h2 h3 => ?_) (fun v M1 H locs hp hT => ?_)
      · exact mr_out X hexc hT h1 h2 h3 (Or.inr (Or.inr ⟨hp.1, by unfold f_type_c; rw [hix, hin, pa, d_nef hp.2]; rfl⟩)) (Nat.le_of_ble_eq_true rfl) (Nat.le_of_ble_eq_true rfl)
      obtain ⟨rfl, hop, rfl⟩ := hp
      refine W.eq (g2 := F0 zm 29 ls _) rfl ?_
      have h27 : w.1 2 a = cg x 27 a := ho.2.2.1 a ha hop
      refine lv_aload_n X.1 X.2.1 dX7_type_29 rfl (lv_at hl 0 rfl) ?_
      refine mr_g X hT (fun hT' => mr_runVN X hT' cn_RX7_209 kw682 kp26 kw683 (o_holdsLine (t := 0) hfl (hA.ses ha)) (mr_cell X hT (hA.ses ha) rfl) rfl rfl hl.1 ⟨Nat.le_of_ble_eq_true rfl, Nat.le_of_ble_eq_true rfl⟩ (Nat.le_of_ble_eq_true rfl) dX7_type_30 ⟨Nat.le_of_ble_eq_true rfl, Nat.le_of_ble_eq_true rfl⟩) (fun v M1 H locs hp hT => ?_)
      obtain ⟨r, rfl, rfl, rfl⟩ := hp
      refine W.eq (g2 := F0 zm 33 ls (.int _ :: _)) rfl ?_
      refine mm_top (w := bI (decide (cg x 27 a ≠ -1))) (by rw [h27]) ?_
      refine lv_if_eq X.1 X.2.1 (tgt := 46) dX7_type_33 (by decide) (fun c33 => ?_) (fun c33 => ?_)
      · skip
        have hc0 : f_type_c x (nI a) kk = 0 := by unfold f_type_c; rw [hix, hin, pa, decide_eq_true hop, decide_eq_true (Classical.byContradiction fun z => of_decide_eq_false (bI_0.mp c33) z)]; rfl
        refine lv_aload_n X.1 X.2.1 dX7_type_46 rfl (lv_at hl 1 rfl) ?_
        refine mr_get X hT fl_RX7_34 (hA.gate) rfl dX7_type_47 ?_
        refine lv_bipush X.1 X.2.1 (v := 7) dX7_type_50 (by decide) ?_
        refine lv_aload_n X.1 X.2.1 dX7_type_52 rfl (lv_at hl 0 rfl) ?_
        refine mr_get X hT fl_RX7_215 (hA.ses ha) rfl dX7_type_53 ?_
        refine lv_aload_n X.1 X.2.1 dX7_type_56 rfl (lv_at hl 0 rfl) ?_
        refine mr_get X hT fl_RX7_216 (hA.ses ha) rfl dX7_type_57 ?_
        refine lv_aload_n X.1 X.2.1 dX7_type_60 rfl (lv_at hl 1 rfl) ?_
        refine mr_get X hT fl_RX7_42 (hA.gate) rfl dX7_type_61 ?_
        refine mr_g X hT (fun hT' => mr_runVN X hT' cn_RX7_121 kw379 kp14 kw380 (o_record hfl hA.rec hA.kin hA.sea (hA.ne (s := 2) (k := 0) (s' := 3) (k' := 0) rfl rfl (Or.inl (by decide))) (show ct x 32 < 1024 by omega) (hA.per (hv.1)) (hA.mac (hu.1))) (mr_cell X hT hA.rec rfl) rfl rfl hl.1 ⟨Nat.le_of_ble_eq_true rfl, Nat.le_of_ble_eq_true rfl⟩ (Nat.le_of_ble_eq_true rfl) dX7_type_64 ⟨Nat.le_of_ble_eq_true rfl, Nat.le_of_ble_eq_true rfl⟩) (fun v M1 H locs hp hT => ?_)
        obtain ⟨rfl, hq9⟩ := hp
        refine W.eq (g2 := F0 zm 67 ls _) rfl ?_
        have hM := hA.step ho (c_seal (kd := 7) ho r23 r24 (show ct x 2 < 2 ^ 31 by omega) (show ct x 4 < 2 ^ 31 by omega)) hq9
        obtain ⟨w2, hA, ho⟩ := hM
        have ha2 : a < ct (q_write x 7 (cg x 23 a) (cg x 24 a)) 29 := ha
        refine lv_aload_n X.1 X.2.1 dX7_type_67 rfl (lv_at hl 0 rfl) ?_
        refine lv_aload_n X.1 X.2.1 dX7_type_68 rfl (lv_at hl 1 rfl) ?_
        refine mr_get X hT fl_RX7_42 (hA.gate) rfl dX7_type_69 ?_
        refine mr_put X hT fp_RX7_217 (fun h => nomatch h) (hA.ses ha2) rfl rfl (by simp) dX7_type_72 (fun H locs hT => ?_)
        have hA := hA.setLine ha2 (q_now x)
        have ho : c_ok (ct x 5) b (cs (q_write x 7 (cg x 23 a) (cg x 24 a)) 26 a (q_now x)) w2 := ho.col (c := 26) _ (by decide)
        rw [q_write_cs _ _ _ _ _ _ _ (by decide) (by decide)] at hA ho
        obtain ⟨y, ey⟩ : ∃ y, y = q_write (cs x 26 a (q_now x)) 7 (cg x 23 a) (cg x 24 a) := ⟨_, rfl⟩
        have ey2 : f_type_y x (nI a) = y := by unfold f_type_y; rw [pa, ey]
        have ha3 : a < ct y 29 := by rw [ey]; exact ha
        have e5 : ct y 5 = ct x 5 := by rw [ey]; rfl
        have e29 : ct y 29 = ct x 29 := by rw [ey]; rfl
        have e28 : cg y 28 a = cg x 28 a := by rw [ey]; rfl
        have hv3 : pn (cg x 23 a) < ct y 2 := by rw [ey]; exact hv.1
        have hu3 : pn (cg x 24 a) < ct y 4 := by rw [ey]; exact hu.1
        have e23 : cg y 23 a = cg x 23 a := by rw [ey]; rfl
        have e24 : cg y 24 a = cg x 24 a := by rw [ey]; rfl
        have hiy : q_inv 512 y := by rw [ey]; exact q_inv_write (q_inv_cs hi a (q_now x) (c := 26) (by decide) (by decide)) _ _ _
        rw [← ey] at hA ho
        refine lv_iload_n X.1 X.2.1 dX7_type_75 rfl (lv_at hl 3 rfl) ?_
        refine lv_if_ne X.1 X.2.1 (tgt := 91) dX7_type_76 (by decide) (fun c76 => ?_) (fun c76 => ?_)
        · skip
          refine lv_iload_n X.1 X.2.1 dX7_type_91 rfl (lv_at hl 3 rfl) ?_
          refine lv_iconst X.1 X.2.1 (v := 1) dX7_type_92 (by decide) ?_
          refine lv_icmp_ne X.1 X.2.1 (tgt := 106) dX7_type_93 (by decide) (fun c93 => ?_) (fun c93 => ?_)
          · skip
            refine lv_aload_n X.1 X.2.1 dX7_type_106 rfl (lv_at hl 1 rfl) ?_
            refine lv_aload_n X.1 X.2.1 dX7_type_107 rfl (lv_at hl 0 rfl) ?_
            refine mr_get X hT fl_RX7_215 (hA.ses ha3) rfl dX7_type_108 ?_
            rw [e23]
            refine lv_aload_n X.1 X.2.1 dX7_type_111 rfl (lv_at hl 0 rfl) ?_
            refine mr_get X hT fl_RX7_216 (hA.ses ha3) rfl dX7_type_112 ?_
            rw [e24]
            refine mr_g X hT (fun hT' => mr_runV X hT' cb_RX7_94 kw341 kp6 kw342 (c_endRights hfl hA ho hiy hv3 hu3) (mr_cell X hT hA.gate rfl) rfl rfl hl.1 ⟨Nat.le_of_ble_eq_true rfl, Nat.le_of_ble_eq_true rfl⟩ (Nat.le_of_ble_eq_true rfl) dX7_type_115 ⟨Nat.le_of_ble_eq_true rfl, Nat.le_of_ble_eq_true rfl⟩) (fun v M1 H locs hp hT => ?_)
            obtain ⟨rfl, hA⟩ := hp
            rw [hv.2, hu.2] at hA
            have ho := ho.col (c := 9) (q_endf y (cg x 23 a) (cg x 24 a) (ct y 10)) (by decide)
            refine W.eq (g2 := F0 zm 118 ls _) rfl ?_
            refine lv_aload_n X.1 X.2.1 dX7_type_118 rfl (lv_at hl 1 rfl) ?_
            refine mr_g X hT (fun hT' => mr_runV X hT' cb_RX7_101 kw361 kp10 kw362 (c_closeEnded (x := q_ends y (cg x 23 a) (cg x 24 a)) hfl hA ho (q_inv_ends hiy _ _)) (mr_cell X hT hA.gate rfl) rfl rfl hl.1 ⟨Nat.le_of_ble_eq_true rfl, Nat.le_of_ble_eq_true rfl⟩ (Nat.le_of_ble_eq_true rfl) dX7_type_119 ⟨Nat.le_of_ble_eq_true rfl, Nat.le_of_ble_eq_true rfl⟩) (fun v M1 H locs hp hT => ?_)
            obtain ⟨r, rfl, -, hM⟩ := hp
            refine W.eq (g2 := F0 zm 122 ls (.int _ :: _)) rfl ?_
            refine lv_pop X.1 X.2.1 dX7_type_122 rfl ?_
            refine lv_iconst X.1 X.2.1 (v := 0) dX7_type_123 (by decide) ?_
            exact mr_zretX X hT hret (by first | exact bI_nar _ | rfl | decide) (⟨_, rfl, hc0, by rw [decide_eq_false c76]; rfl, b, rfl, by unfold f_type_s; rw [if_neg c76, if_neg c93, ey2, pa]; exact c_forb ha3 (by omega) e23 e24 e5 hM⟩) (Nat.le_of_ble_eq_true rfl) (Nat.le_of_ble_eq_true rfl) dX7_type_124
          · skip
            refine lv_aload_n X.1 X.2.1 dX7_type_96 rfl (lv_at hl 0 rfl) ?_
            refine lv_aload_n X.1 X.2.1 dX7_type_97 rfl (lv_at hl 1 rfl) ?_
            refine mr_get X hT fl_RX7_42 hA.gate rfl dX7_type_98 ?_
            refine mm_top (w := q_now x) (by rw [e5]) ?_
            refine mr_put X hT fp_RX7_223 (fun h => nomatch h) (hA.ses ha3) rfl rfl (by simp) dX7_type_101 (fun H locs hT => ?_)
            have hA := hA.setHeld2 ha3 (q_now x)
            refine lv_iconst X.1 X.2.1 (v := 0) dX7_type_104 (by decide) ?_
            exact mr_zretX X hT hret (by first | exact bI_nar _ | rfl | decide) (⟨_, rfl, hc0, by rw [decide_eq_false c76]; rfl, b, rfl, by unfold f_type_s; rw [if_neg c76, if_pos c93, ey2, pa]; show CW G (ct y 5) b _ _; rw [e5]; exact ⟨_, hA, ho.set27 a (q_now x)⟩⟩) (Nat.le_of_ble_eq_true rfl) (Nat.le_of_ble_eq_true rfl) dX7_type_105
        · skip
          refine lv_aload_n X.1 X.2.1 dX7_type_79 rfl (lv_at hl 0 rfl) ?_
          refine lv_dup X.1 X.2.1 dX7_type_80 rfl ?_
          refine mr_get X hT fl_RX7_220 (hA.ses ha3) rfl dX7_type_81 ?_
          refine lv_iconst X.1 X.2.1 (v := 1) dX7_type_84 (by decide) ?_
          refine lv_iadd X.1 X.2.1 dX7_type_85 ?_
          refine mm_top (w := cg x 28 a + 1) (by rw [e28]) ?_
          refine mr_put X hT fp_RX7_220 (fun h => nomatch h) (hA.ses ha3) rfl rfl (by simp) dX7_type_86 (fun H locs hT => ?_)
          have hA := hA.setThru ha3 (cg x 28 a + 1)
          refine lv_iconst X.1 X.2.1 (v := 1) dX7_type_89 (by decide) ?_
          exact mr_zretX X hT hret (by first | exact bI_nar _ | rfl | decide) (⟨_, rfl, hc0, by rw [decide_eq_true c76]; rfl, b, rfl, by unfold f_type_s; rw [if_pos c76, ey2, pa]; show CW G (ct y 5) b _ _; rw [e5]; exact ⟨w2, hA, ho.col (c := 28) _ (by decide)⟩⟩) (Nat.le_of_ble_eq_true rfl) (Nat.le_of_ble_eq_true rfl) dX7_type_90
      · skip
        exact mr_throw X hexc hT (text := "the session holds a line") (is := 213) tx_56_60 (by decide) hl.1 (Or.inr (Or.inr ⟨rfl, by unfold f_type_c; rw [hix, hin, pa, decide_eq_true hop, decide_eq_false (of_decide_eq_true (bI_n.mp c33))]; rfl⟩)) dX7_type_36 dX7_type_39 dX7_type_40 dX7_type_42 dX7_type_45 (Nat.le_of_ble_eq_true rfl) (Nat.le_of_ble_eq_true rfl) (Nat.le_of_ble_eq_true rfl) (Nat.le_of_ble_eq_true rfl) (Nat.le_of_ble_eq_true rfl) (Nat.le_of_ble_eq_true rfl)
    · skip
      have hin : q_in kk 0 2 = false := c_inh (Int32.not_le.mp c12)
      exact mr_throw X hexc hT (text := "kind is out of range") (is := 203) tx_45_49 (by decide) hl.1 (Or.inr (Or.inl ⟨rfl, by unfold f_type_c; rw [hix, hin]; rfl⟩)) dX7_type_15 dX7_type_18 dX7_type_19 dX7_type_21 dX7_type_24 (Nat.le_of_ble_eq_true rfl) (Nat.le_of_ble_eq_true rfl) (Nat.le_of_ble_eq_true rfl) (Nat.le_of_ble_eq_true rfl) (Nat.le_of_ble_eq_true rfl) (Nat.le_of_ble_eq_true rfl)

abbrev rm_X7_letThrough : Room := { frames := 7, cells := 4, slots := 24, locals := 121 }
set_option maxHeartbeats 4000000 in
set_option maxRecDepth 100000 in
theorem c_letThrough {l : Launch} (hfl : l.stackTraces = false) {G : mw_G} {b : c_B} {x : s_T} {w : c_W} {aa bb : Int32} {M : mw_M} (hA : CA G b x w M) (ho : c_ok (ct x 5) b x w) (hi : q_inv 511 x) : mw_MetX l G yX7_letThrough (.code yX7_letThrough cX7_letThrough 6 (some .int)) rm_X7_letThrough [.ref (b 0 0), .int aa, .int bb] M (mw_pi (fun r M1 => f_letThrough_c x aa bb = 0 ∧ r = q_now x - cg x 27 (pn aa) ∧ c_out G b (f_letThrough_s x aa bb) M1)) (fun E => (E = "java/lang/IndexOutOfBoundsException" ∧ f_letThrough_c x aa bb = 1) ∨ (E = "java/lang/IllegalStateException" ∧ f_letThrough_c x aa bb = 2)) := by
  refine mw_ofX hfl (by decide) (Nat.le_of_ble_eq_true rfl) ?_
  intro zp ze zs zm zb zh zc ls X hin hret hexc hT hl
  have hl : lv_has ls 6 [(0, .ref (b 0 0)), (1, .int aa), (2, .int bb)] := hl
  obtain ⟨⟨i2, i4, i5, i10, i17, i22, i29, i32⟩, hr3, hr6, hr11, hr18, hr23, hz21, hz28, hlb⟩ := id hi
  have hI := q_inv_mono hi (show 511 ≤ 512 by decide)
  refine lv_aload_n X.1 X.2.1 dX7_letThrough_0 rfl (lv_at hl 0 rfl) ?_
  refine lv_iload_n X.1 X.2.1 dX7_letThrough_1 rfl (lv_at hl 1 rfl) ?_
  refine mr_gX X hT (fun hT' => mr_runVX X hT' cb_RX7_199 kw673 kp25 kw674 (c_sessionAt hfl hA ho hI) (mr_cell X hT hA.gate rfl) rfl rfl hl.1 ⟨Nat.le_of_ble_eq_true rfl, Nat.le_of_ble_eq_true rfl⟩ (Nat.le_of_ble_eq_true rfl) dX7_letThrough_2 ⟨Nat.le_of_ble_eq_true rfl, Nat.le_of_ble_eq_true rfl⟩) (fun E ce q9 H locs hp hT h1 h2 h3 => ?_) (fun v M1 H locs hp hT => ?_)
  · exact mr_out X hexc hT h1 h2 h3 (Or.inl (⟨hp.1, by unfold f_letThrough_c; rw [hp.2]; rfl⟩)) (Nat.le_of_ble_eq_true rfl) (Nat.le_of_ble_eq_true rfl)
  obtain ⟨r, rfl, ⟨a, ha, rfl, rfl⟩, rfl⟩ := hp
  refine W.eq (g2 := F0 zm 5 ls (.ref _ :: _)) rfl ?_
  refine lv_astore_n X.1 X.2.1 dX7_letThrough_5 rfl hl (by decide) rfl (fun ls hl => ?_)
  refine lv_aload_n X.1 X.2.1 dX7_letThrough_6 rfl (lv_at hl 1 rfl) ?_
  refine lv_iload_n X.1 X.2.1 dX7_letThrough_7 rfl (lv_at hl 3 rfl) ?_
  refine mr_gX X hT (fun hT' => mr_runVX X hT' cb_RX7_79 kw298 kp4 kw299 (c_personAt hfl hA ho hI) (mr_cell X hT hA.gate rfl) rfl rfl hl.1 ⟨Nat.le_of_ble_eq_true rfl, Nat.le_of_ble_eq_true rfl⟩ (Nat.le_of_ble_eq_true rfl) dX7_letThrough_8 ⟨Nat.le_of_ble_eq_true rfl, Nat.le_of_ble_eq_true rfl⟩) (fun E ce q9 H locs hp hT h1 h2 h3 => ?_) (fun v M1 H locs hp hT => ?_)
  · exact mr_out X hexc hT h1 h2 h3 (Or.inl (⟨hp.1, by unfold f_letThrough_c; rw [c_ixt ha (show ct x 29 < 2 ^ 31 by omega), hp.2]; rfl⟩)) (Nat.le_of_ble_eq_true rfl) (Nat.le_of_ble_eq_true rfl)
  obtain ⟨r, rfl, ⟨j, hj, rfl, rfl⟩, rfl⟩ := hp
  refine W.eq (g2 := F0 zm 11 ls (.ref _ :: _)) rfl ?_
  have hkb : (q_ix (nI a) (ct x 29) && q_ix (nI j) (ct x 2)) = true := by rw [c_ixt ha (by omega), c_ixt hj (by omega)]; rfl
  have pa : pn (nI a) = a := pn_nI (by omega)
  have pj : pn (nI j) = j := pn_nI (by omega)
  obtain ⟨r23, r24⟩ := hr23 a ha
  have hu := c_pn r24 (show ct x 4 < 2 ^ 31 by omega)
  have hv := c_pn r23 (show ct x 2 < 2 ^ 31 by omega)
  obtain ⟨t, ht, et⟩ := hr3 (pn (cg x 24 a)) hu.1
  have hmac := hA.mac hu.1
  rw [et] at hmac
  refine lv_astore X.1 X.2.1 dX7_letThrough_11 hl (by decide) rfl (fun ls hl => ?_)
  refine lv_aload_n X.1 X.2.1 dX7_letThrough_13 rfl (lv_at hl 1 rfl) ?_
  refine mr_gX X hT (fun hT' => mr_runSX X hT' cb_RX7_205 kw677 kw678 (c_requireOpen hfl hA ho hI ha) rfl rfl hl.1 ⟨Nat.le_of_ble_eq_true rfl, Nat.le_of_ble_eq_true rfl⟩ (Nat.le_of_ble_eq_true rfl) dX7_letThrough_14 ⟨Nat.le_of_ble_eq_true rfl, Nat.le_of_ble_eq_true rfl⟩) (fun E ce q9 H locs hp hT h1 h2 h3 => ?_) (fun v M1 H locs hp hT => ?_)
  · exact mr_out X hexc hT h1 h2 h3 (Or.inr ⟨hp.1, by unfold f_letThrough_c; rw [hkb, pa, d_nef hp.2]; rfl⟩) (Nat.le_of_ble_eq_true rfl) (Nat.le_of_ble_eq_true rfl)
  obtain ⟨rfl, hop, rfl⟩ := hp
  refine W.eq (g2 := F0 zm 17 ls _) rfl ?_
  have h27 : w.1 2 a = cg x 27 a := ho.2.2.1 a ha hop
  refine lv_aload_n X.1 X.2.1 dX7_letThrough_17 rfl (lv_at hl 1 rfl) ?_
  refine mr_g X hT (fun hT' => mr_runVN X hT' cn_RX7_209 kw682 kp26 kw683 (o_holdsLine (t := 0) hfl (hA.ses ha)) (mr_cell X hT (hA.ses ha) rfl) rfl rfl hl.1 ⟨Nat.le_of_ble_eq_true rfl, Nat.le_of_ble_eq_true rfl⟩ (Nat.le_of_ble_eq_true rfl) dX7_letThrough_18 ⟨Nat.le_of_ble_eq_true rfl, Nat.le_of_ble_eq_true rfl⟩) (fun v M1 H locs hp hT => ?_)
  obtain ⟨r, rfl, rfl, rfl⟩ := hp
  refine W.eq (g2 := F0 zm 21 ls (.int _ :: _)) rfl ?_
  refine mm_top (w := bI (decide (cg x 27 a ≠ -1))) (by rw [h27]) ?_
  refine lv_if_ne X.1 X.2.1 (tgt := 34) dX7_letThrough_21 (by decide) (fun c21 => ?_) (fun c21 => ?_)
  · skip
    refine lv_aload X.1 X.2.1 dX7_letThrough_34 (lv_at hl 0 rfl) ?_
    refine lv_aload_n X.1 X.2.1 dX7_letThrough_36 rfl (lv_at hl 1 rfl) ?_
    refine mr_get X hT fl_RX7_215 (hA.ses ha) rfl dX7_letThrough_37 ?_
    refine lv_aload_n X.1 X.2.1 dX7_letThrough_40 rfl (lv_at hl 1 rfl) ?_
    refine mr_get X hT fl_RX7_216 (hA.ses ha) rfl dX7_letThrough_41 ?_
    refine mr_g X hT (fun hT' => mr_runVN X hT' cn_RX7_228 kw612 kp24 kw613 (o_mayJudge hfl (hA.per hj) (hA.per hv.1) hmac) (mr_cell X hT (hA.per hj) rfl) rfl rfl hl.1 ⟨Nat.le_of_ble_eq_true rfl, Nat.le_of_ble_eq_true rfl⟩ (Nat.le_of_ble_eq_true rfl) dX7_letThrough_44 ⟨Nat.le_of_ble_eq_true rfl, Nat.le_of_ble_eq_true rfl⟩) (fun v M1 H locs hp hT => ?_)
    obtain ⟨r, rfl, rfl, rfl⟩ := hp
    refine W.eq (g2 := F0 zm 47 ls (.int _ :: _)) rfl ?_
    refine mm_top (w := bI (decide (cg x 0 j ≠ cg x 0 (pn (cg x 23 a))) && q_has x (nI j) (cg x 24 a))) (by rw [c_has (m := pn (cg x 24 a)) ho hj ht et hlb (by omega) (by omega), hu.2]) ?_
    refine lv_if_ne X.1 X.2.1 (tgt := 60) dX7_letThrough_47 (by decide) (fun c47 => ?_) (fun c47 => ?_)
    · skip
      refine lv_aload_n X.1 X.2.1 dX7_letThrough_60 rfl (lv_at hl 2 rfl) ?_
      refine mr_get X hT fl_RX7_42 (hA.gate) rfl dX7_letThrough_61 ?_
      refine lv_aload_n X.1 X.2.1 dX7_letThrough_64 rfl (lv_at hl 1 rfl) ?_
      refine mr_get X hT fl_RX7_223 (hA.ses ha) rfl dX7_letThrough_65 ?_
      refine lv_isub X.1 X.2.1 dX7_letThrough_68 ?_
      refine mm_top (w := q_now x - cg x 27 a) (by rw [h27]) ?_
      refine lv_istore X.1 X.2.1 dX7_letThrough_69 hl (by decide) rfl (fun ls hl => ?_)
      refine lv_aload_n X.1 X.2.1 dX7_letThrough_71 rfl (lv_at hl 2 rfl) ?_
      refine lv_iconst X.1 X.2.1 (v := -1) dX7_letThrough_72 (by decide) ?_
      refine mr_put X hT fp_RX7_223 (fun h => nomatch h) (hA.ses ha) rfl rfl (by simp) dX7_letThrough_73 (fun H locs hT => ?_)
      have hA := hA.setHeld2 ha (-1)
      have ho := ho.set27 a (-1)
      refine lv_aload_n X.1 X.2.1 dX7_letThrough_76 rfl (lv_at hl 2 rfl) ?_
      refine lv_dup X.1 X.2.1 dX7_letThrough_77 rfl ?_
      refine mr_get X hT fl_RX7_220 (hA.ses ha) rfl dX7_letThrough_78 ?_
      refine lv_iconst X.1 X.2.1 (v := 1) dX7_letThrough_81 (by decide) ?_
      refine lv_iadd X.1 X.2.1 dX7_letThrough_82 ?_
      refine mr_put X hT fp_RX7_220 (fun h => nomatch h) (hA.ses ha) rfl rfl (by simp) dX7_letThrough_83 (fun H locs hT => ?_)
      have hA := hA.setThru (show a < ct (cs x 27 a (-1)) 29 from ha) (cg x 28 a + 1)
      have ho : c_ok (ct x 5) b (cs (cs x 27 a (-1)) 28 a (cg x 28 a + 1)) _ := ho.col (c := 28) _ (by decide)
      refine lv_aload_n X.1 X.2.1 dX7_letThrough_86 rfl (lv_at hl 3 rfl) ?_
      refine mr_get X hT fl_RX7_34 (hA.gate) rfl dX7_letThrough_87 ?_
      refine lv_bipush X.1 X.2.1 (v := 8) dX7_letThrough_90 (by decide) ?_
      refine lv_aload X.1 X.2.1 dX7_letThrough_92 (lv_at hl 1 rfl) ?_
      refine lv_aload_n X.1 X.2.1 dX7_letThrough_94 rfl (lv_at hl 2 rfl) ?_
      refine mr_get X hT fl_RX7_216 (hA.ses ha) rfl dX7_letThrough_95 ?_
      refine lv_aload_n X.1 X.2.1 dX7_letThrough_98 rfl (lv_at hl 3 rfl) ?_
      refine mr_get X hT fl_RX7_42 (hA.gate) rfl dX7_letThrough_99 ?_
      refine mr_g X hT (fun hT' => mr_runVN X hT' cn_RX7_121 kw379 kp14 kw380 (o_record hfl hA.rec hA.kin hA.sea (hA.ne (s := 2) (k := 0) (s' := 3) (k' := 0) rfl rfl (Or.inl (by decide))) (show ct x 32 < 1024 by omega) (hA.per (hj)) (hA.mac (hu.1))) (mr_cell X hT hA.rec rfl) rfl rfl hl.1 ⟨Nat.le_of_ble_eq_true rfl, Nat.le_of_ble_eq_true rfl⟩ (Nat.le_of_ble_eq_true rfl) dX7_letThrough_102 ⟨Nat.le_of_ble_eq_true rfl, Nat.le_of_ble_eq_true rfl⟩) (fun v M1 H locs hp hT => ?_)
      obtain ⟨rfl, hq9⟩ := hp
      refine W.eq (g2 := F0 zm 105 ls _) rfl ?_
      have hM := hA.step (p := nI j) (m := cg x 24 a) ho (by have h := c_seal (kd := 8) ho (p := nI j) (m := cg x 24 a) ⟨j, hj, rfl⟩ (r24) (show ct x 2 < 2 ^ 31 by omega) (show ct x 4 < 2 ^ 31 by omega); rw [pj] at h; exact h) hq9
      refine lv_iload X.1 X.2.1 dX7_letThrough_105 (lv_at hl 0 rfl) ?_
      exact mr_iretX X hT hret (⟨_, rfl, by unfold f_letThrough_c; rw [hkb, pa, pj, decide_eq_true hop, bI_n.mp c21, bI_n.mp c47]; rfl, by rw [pa], b, rfl, by unfold f_letThrough_s; rw [pa]; exact hM⟩) (Nat.le_of_ble_eq_true rfl) (Nat.le_of_ble_eq_true rfl) dX7_letThrough_107
    · skip
      exact mr_throw X hexc hT (text := "the person cannot let the line through") (is := 232) tx_56_60 (by decide) hl.1 (Or.inr ⟨rfl, by unfold f_letThrough_c; rw [hkb, pa, pj, decide_eq_true hop, bI_n.mp c21, bI_0.mp c47]; rfl⟩) dX7_letThrough_50 dX7_letThrough_53 dX7_letThrough_54 dX7_letThrough_56 dX7_letThrough_59 (Nat.le_of_ble_eq_true rfl) (Nat.le_of_ble_eq_true rfl) (Nat.le_of_ble_eq_true rfl) (Nat.le_of_ble_eq_true rfl) (Nat.le_of_ble_eq_true rfl) (Nat.le_of_ble_eq_true rfl)
  · skip
    exact mr_throw X hexc hT (text := "the session holds no line") (is := 226) tx_56_60 (by decide) hl.1 (Or.inr ⟨rfl, by unfold f_letThrough_c; rw [hkb, pa, decide_eq_true hop, bI_0.mp c21]; rfl⟩) dX7_letThrough_24 dX7_letThrough_27 dX7_letThrough_28 dX7_letThrough_30 dX7_letThrough_33 (Nat.le_of_ble_eq_true rfl) (Nat.le_of_ble_eq_true rfl) (Nat.le_of_ble_eq_true rfl) (Nat.le_of_ble_eq_true rfl) (Nat.le_of_ble_eq_true rfl) (Nat.le_of_ble_eq_true rfl)

abbrev rm_X7_close : Room := { frames := 7, cells := 2, slots := 12, locals := 121 }
set_option maxHeartbeats 4000000 in
set_option maxRecDepth 100000 in
theorem c_close {l : Launch} (hfl : l.stackTraces = false) {G : mw_G} {b : c_B} {x : s_T} {w : c_W} {aa : Int32} {M : mw_M} (hA : CA G b x w M) (ho : c_ok (ct x 5) b x w) (hi : q_inv 511 x) : mw_MetX l G yX7_close (.code yX7_close cX7_close 3 (some .int)) rm_X7_close [.ref (b 0 0), .int aa] M (mw_pi (fun r M1 => f_close_c x aa = 0 ∧ r = cg x 28 (pn aa) ∧ c_out G b (q_shut x (pn aa)) M1)) (fun E => (E = "java/lang/IndexOutOfBoundsException" ∧ f_close_c x aa = 1) ∨ (E = "java/lang/IllegalStateException" ∧ f_close_c x aa = 2)) := by
  refine mw_ofX hfl (by decide) (Nat.le_of_ble_eq_true rfl) ?_
  intro zp ze zs zm zb zh zc ls X hin hret hexc hT hl
  have hl : lv_has ls 3 [(0, .ref (b 0 0)), (1, .int aa)] := hl
  obtain ⟨⟨i2, i4, i5, i10, i17, i22, i29, i32⟩, hr3, hr6, hr11, hr18, hr23, hz21, hz28, hlb⟩ := id hi
  have hI := q_inv_mono hi (show 511 ≤ 512 by decide)
  refine lv_aload_n X.1 X.2.1 dX7_close_0 rfl (lv_at hl 0 rfl) ?_
  refine lv_iload_n X.1 X.2.1 dX7_close_1 rfl (lv_at hl 1 rfl) ?_
  refine mr_gX X hT (fun hT' => mr_runVX X hT' cb_RX7_199 kw673 kp25 kw674 (c_sessionAt hfl hA ho hI) (mr_cell X hT hA.gate rfl) rfl rfl hl.1 ⟨Nat.le_of_ble_eq_true rfl, Nat.le_of_ble_eq_true rfl⟩ (Nat.le_of_ble_eq_true rfl) dX7_close_2 ⟨Nat.le_of_ble_eq_true rfl, Nat.le_of_ble_eq_true rfl⟩) (fun E ce q9 H locs hp hT h1 h2 h3 => ?_) (fun v M1 H locs hp hT => ?_)
  · exact mr_out X hexc hT h1 h2 h3 (Or.inl (⟨hp.1, by unfold f_close_c; rw [hp.2]; rfl⟩)) (Nat.le_of_ble_eq_true rfl) (Nat.le_of_ble_eq_true rfl)
  obtain ⟨r, rfl, ⟨a, ha, rfl, rfl⟩, rfl⟩ := hp
  refine W.eq (g2 := F0 zm 5 ls (.ref _ :: _)) rfl ?_
  have pa : pn (nI a) = a := pn_nI (by omega)
  have hix : q_ix (nI a) (ct x 29) = true := c_ixt ha (by omega)
  refine lv_astore_n X.1 X.2.1 dX7_close_5 rfl hl (by decide) rfl (fun ls hl => ?_)
  refine lv_aload_n X.1 X.2.1 dX7_close_6 rfl (lv_at hl 0 rfl) ?_
  refine mr_gX X hT (fun hT' => mr_runSX X hT' cb_RX7_205 kw677 kw678 (c_requireOpen hfl hA ho hI ha) rfl rfl hl.1 ⟨Nat.le_of_ble_eq_true rfl, Nat.le_of_ble_eq_true rfl⟩ (Nat.le_of_ble_eq_true rfl) dX7_close_7 ⟨Nat.le_of_ble_eq_true rfl, Nat.le_of_ble_eq_true rfl⟩) (fun E ce q9 H locs hp hT h1 h2 h3 => ?_) (fun v M1 H locs hp hT => ?_)
  · exact mr_out X hexc hT h1 h2 h3 (Or.inr ⟨hp.1, by unfold f_close_c; rw [hix, pa, d_nef hp.2]; rfl⟩) (Nat.le_of_ble_eq_true rfl) (Nat.le_of_ble_eq_true rfl)
  obtain ⟨rfl, hop, rfl⟩ := hp
  refine W.eq (g2 := F0 zm 10 ls _) rfl ?_
  refine lv_aload_n X.1 X.2.1 dX7_close_10 rfl (lv_at hl 1 rfl) ?_
  refine lv_aload_n X.1 X.2.1 dX7_close_11 rfl (lv_at hl 0 rfl) ?_
  refine mr_g X hT (fun hT' => mr_runV X hT' cb_RX7_234 kw375 kp13 kw376 (c_endSession hfl hA ho hI ha hop) (mr_cell X hT hA.gate rfl) rfl rfl hl.1 ⟨Nat.le_of_ble_eq_true rfl, Nat.le_of_ble_eq_true rfl⟩ (Nat.le_of_ble_eq_true rfl) dX7_close_12 ⟨Nat.le_of_ble_eq_true rfl, Nat.le_of_ble_eq_true rfl⟩) (fun v M1 H locs hp hT => ?_)
  obtain ⟨rfl, hM⟩ := hp
  obtain ⟨w2, hA, ho⟩ := id hM
  refine W.eq (g2 := F0 zm 15 ls _) rfl ?_
  refine lv_aload_n X.1 X.2.1 dX7_close_15 rfl (lv_at hl 0 rfl) ?_
  refine mr_get X hT fl_RX7_220 (hA.ses (show a < ct (q_shut x a) 29 from ha)) rfl dX7_close_16 ?_
  exact mr_iretX X hT hret (⟨_, rfl, by unfold f_close_c; rw [hix, pa, decide_eq_true hop]; rfl, by rw [pa]; rfl, b, rfl, by rw [pa]; exact hM⟩) (Nat.le_of_ble_eq_true rfl) (Nat.le_of_ble_eq_true rfl) dX7_close_19

abbrev rm_X7_isOpen : Room := { frames := 7, cells := 1, slots := 6, locals := 121 }
set_option maxHeartbeats 4000000 in
set_option maxRecDepth 100000 in
theorem c_isOpen {l : Launch} (hfl : l.stackTraces = false) {G : mw_G} {b : c_B} {x : s_T} {w : c_W} {aa : Int32} {M : mw_M} (hA : CA G b x w M) (ho : c_ok (ct x 5) b x w) (hi : q_inv 511 x) : mw_MetX l G yX7_isOpen (.code yX7_isOpen cX7_isOpen 2 (some .boolean)) rm_X7_isOpen [.ref (b 0 0), .int aa] M (mw_pi (fun r M1 => f_isOpen_c x aa = 0 ∧ r = bI (decide (cg x 25 (pn aa) ≠ 0)) ∧ c_out G b (x) M1)) (fun E => (E = "java/lang/IndexOutOfBoundsException" ∧ f_isOpen_c x aa = 1)) := by
  refine mw_ofX hfl (by decide) (Nat.le_of_ble_eq_true rfl) ?_
  intro zp ze zs zm zb zh zc ls X hin hret hexc hT hl
  have hl : lv_has ls 2 [(0, .ref (b 0 0)), (1, .int aa)] := hl
  obtain ⟨⟨i2, i4, i5, i10, i17, i22, i29, i32⟩, hr3, hr6, hr11, hr18, hr23, hz21, hz28, hlb⟩ := id hi
  have hI := q_inv_mono hi (show 511 ≤ 512 by decide)
  refine lv_aload_n X.1 X.2.1 dX7_isOpen_0 rfl (lv_at hl 0 rfl) ?_
  refine lv_iload_n X.1 X.2.1 dX7_isOpen_1 rfl (lv_at hl 1 rfl) ?_
  refine mr_gX X hT (fun hT' => mr_runVX X hT' cb_RX7_199 kw673 kp25 kw674 (c_sessionAt hfl hA ho hI) (mr_cell X hT hA.gate rfl) rfl rfl hl.1 ⟨Nat.le_of_ble_eq_true rfl, Nat.le_of_ble_eq_true rfl⟩ (Nat.le_of_ble_eq_true rfl) dX7_isOpen_2 ⟨Nat.le_of_ble_eq_true rfl, Nat.le_of_ble_eq_true rfl⟩) (fun E ce q9 H locs hp hT h1 h2 h3 => ?_) (fun v M1 H locs hp hT => ?_)
  · exact mr_out X hexc hT h1 h2 h3 (⟨hp.1, by unfold f_isOpen_c; rw [hp.2]; rfl⟩) (Nat.le_of_ble_eq_true rfl) (Nat.le_of_ble_eq_true rfl)
  obtain ⟨r, rfl, ⟨a, ha, rfl, rfl⟩, rfl⟩ := hp
  refine W.eq (g2 := F0 zm 5 ls (.ref _ :: _)) rfl ?_
  have pa : pn (nI a) = a := pn_nI (by omega)
  have hix : q_ix (nI a) (ct x 29) = true := c_ixt ha (by omega)
  refine mr_get X hT fl_RX7_237 (hA.ses ha) rfl dX7_isOpen_5 ?_
  refine lv_if_ne X.1 X.2.1 (tgt := 15) dX7_isOpen_8 (by decide) (fun c8 => ?_) (fun c8 => ?_)
  · skip
    refine lv_iconst X.1 X.2.1 (v := 0) dX7_isOpen_15 (by decide) ?_
    exact mr_zretX X hT hret (by first | exact bI_nar _ | rfl | decide) (⟨_, rfl, by unfold f_isOpen_c; rw [hix]; rfl, by rw [pa]; first | (rw [d_nef (of_decide_eq_true (bI_n.mp c8))]; rfl) | (rw [decide_eq_true (of_decide_eq_false (bI_0.mp c8))]; rfl), b, rfl, w, hA, ho⟩) (Nat.le_of_ble_eq_true rfl) (Nat.le_of_ble_eq_true rfl) dX7_isOpen_16
  · skip
    refine lv_iconst X.1 X.2.1 (v := 1) dX7_isOpen_11 (by decide) ?_
    refine lv_goto X.1 X.2.1 (tgt := 16) dX7_isOpen_12 (by decide) ?_
    exact mr_zretX X hT hret (by first | exact bI_nar _ | rfl | decide) (⟨_, rfl, by unfold f_isOpen_c; rw [hix]; rfl, by rw [pa]; first | (rw [d_nef (of_decide_eq_true (bI_n.mp c8))]; rfl) | (rw [decide_eq_true (of_decide_eq_false (bI_0.mp c8))]; rfl), b, rfl, w, hA, ho⟩) (Nat.le_of_ble_eq_true rfl) (Nat.le_of_ble_eq_true rfl) dX7_isOpen_16

abbrev rm_X7_openSessions : Room := { frames := 0, cells := 0, slots := 0, locals := 0 }
set_option maxHeartbeats 4000000 in
set_option maxRecDepth 100000 in
theorem c_openSessions {l : Launch} (hfl : l.stackTraces = false) {G : mw_G} {b : c_B} {x : s_T} {w : c_W} {M : mw_M} (hA : CA G b x w M) (ho : c_ok (ct x 5) b x w) (hi : q_inv 511 x) : mw_Met l G yX7_openSessions (.code yX7_openSessions cX7_openSessions 1 (some .int)) rm_X7_openSessions [.ref (b 0 0)] M (mw_pi (fun r M1 => r = nI (q_opn x (ct x 29)) ∧ M = M1)) := by
  refine mw_of hfl (by decide) (Nat.le_of_ble_eq_true rfl) ?_
  intro zp ze zs zm zb zh zc ls X hin hret hT hl
  have hl : lv_has ls 1 [(0, .ref (b 0 0))] := hl
  refine lv_aload_n X.1 X.2.1 dX7_openSessions_0 rfl (lv_at hl 0 rfl) ?_
  refine mr_get X hT fl_RX7_38 (hA.gate) rfl dX7_openSessions_1 ?_
  exact mr_iret X hT hret (⟨_, rfl, ho.2.2.2.2.1, rfl⟩) (Nat.le_of_ble_eq_true rfl) (Nat.le_of_ble_eq_true rfl) dX7_openSessions_4

abbrev rm_X7_clock : Room := { frames := 0, cells := 0, slots := 0, locals := 0 }
set_option maxHeartbeats 4000000 in
set_option maxRecDepth 100000 in
theorem c_clock {l : Launch} (hfl : l.stackTraces = false) {G : mw_G} {b : c_B} {x : s_T} {w : c_W} {M : mw_M} (hA : CA G b x w M) (ho : c_ok (ct x 5) b x w) (hi : q_inv 511 x) : mw_Met l G yX7_clock (.code yX7_clock cX7_clock 1 (some .int)) rm_X7_clock [.ref (b 0 0)] M (mw_pi (fun r M1 => r = nI (ct x 5) ∧ M = M1)) := by
  refine mw_of hfl (by decide) (Nat.le_of_ble_eq_true rfl) ?_
  intro zp ze zs zm zb zh zc ls X hin hret hT hl
  have hl : lv_has ls 1 [(0, .ref (b 0 0))] := hl
  refine lv_aload_n X.1 X.2.1 dX7_clock_0 rfl (lv_at hl 0 rfl) ?_
  refine mr_get X hT fl_RX7_42 (hA.gate) rfl dX7_clock_1 ?_
  exact mr_iret X hT hret (⟨_, rfl, rfl, rfl⟩) (Nat.le_of_ble_eq_true rfl) (Nat.le_of_ble_eq_true rfl) dX7_clock_4

abbrev rm_X7_steps : Room := { frames := 0, cells := 0, slots := 0, locals := 0 }
set_option maxHeartbeats 4000000 in
set_option maxRecDepth 100000 in
theorem c_steps {l : Launch} (hfl : l.stackTraces = false) {G : mw_G} {b : c_B} {x : s_T} {w : c_W} {M : mw_M} (hA : CA G b x w M) (ho : c_ok (ct x 5) b x w) (hi : q_inv 511 x) : mw_Met l G yX7_steps (.code yX7_steps cX7_steps 1 (some .int)) rm_X7_steps [.ref (b 0 0)] M (mw_pi (fun r M1 => r = nI (ct x 32) ∧ M = M1)) := by
  refine mw_of hfl (by decide) (Nat.le_of_ble_eq_true rfl) ?_
  intro zp ze zs zm zb zh zc ls X hin hret hT hl
  have hl : lv_has ls 1 [(0, .ref (b 0 0))] := hl
  refine lv_aload_n X.1 X.2.1 dX7_steps_0 rfl (lv_at hl 0 rfl) ?_
  refine mr_get X hT fl_RX7_34 (hA.gate) rfl dX7_steps_1 ?_
  refine mr_get X hT fl_RX7_242 (hA.rec) rfl dX7_steps_4 ?_
  exact mr_iret X hT hret (⟨_, rfl, rfl, rfl⟩) (Nat.le_of_ble_eq_true rfl) (Nat.le_of_ble_eq_true rfl) dX7_steps_7

abbrev rm_X7_kind : Room := { frames := 7, cells := 1, slots := 6, locals := 121 }
set_option maxHeartbeats 4000000 in
set_option maxRecDepth 100000 in
theorem c_kindAt {l : Launch} (hfl : l.stackTraces = false) {G : mw_G} {b : c_B} {x : s_T} {w : c_W} {aa : Int32} {M : mw_M} (hA : CA G b x w M) (ho : c_ok (ct x 5) b x w) (hi : q_inv 511 x) : mw_MetX l G yX7_kind (.code yX7_kind cX7_kind 2 (some .int)) rm_X7_kind [.ref (b 0 0), .int aa] M (mw_pi (fun r M1 => f_kind_c x aa = 0 ∧ r = cg x 30 (pn aa) ∧ c_out G b (x) M1)) (fun E => (E = "java/lang/IndexOutOfBoundsException" ∧ f_kind_c x aa = 1)) := by
  refine mw_ofX hfl (by decide) (Nat.le_of_ble_eq_true rfl) ?_
  intro zp ze zs zm zb zh zc ls X hin hret hexc hT hl
  have hl : lv_has ls 2 [(0, .ref (b 0 0)), (1, .int aa)] := hl
  obtain ⟨⟨i2, i4, i5, i10, i17, i22, i29, i32⟩, hr3, hr6, hr11, hr18, hr23, hz21, hz28, hlb⟩ := id hi
  have hI := q_inv_mono hi (show 511 ≤ 512 by decide)
  refine lv_aload_n X.1 X.2.1 dX7_kind_0 rfl (lv_at hl 0 rfl) ?_
  refine lv_iload_n X.1 X.2.1 dX7_kind_1 rfl (lv_at hl 1 rfl) ?_
  refine mr_gX X hT (fun hT' => mr_runVX X hT' cb_RX7_245 kw435 kp15 kw436 (c_requireStep hfl hA ho hI) (mr_cell X hT hA.gate rfl) rfl rfl hl.1 ⟨Nat.le_of_ble_eq_true rfl, Nat.le_of_ble_eq_true rfl⟩ (Nat.le_of_ble_eq_true rfl) dX7_kind_2 ⟨Nat.le_of_ble_eq_true rfl, Nat.le_of_ble_eq_true rfl⟩) (fun E ce q9 H locs hp hT h1 h2 h3 => ?_) (fun v M1 H locs hp hT => ?_)
  · exact mr_out X hexc hT h1 h2 h3 (⟨hp.1, by unfold f_kind_c; rw [hp.2]; rfl⟩) (Nat.le_of_ble_eq_true rfl) (Nat.le_of_ble_eq_true rfl)
  obtain ⟨rfl, ⟨a, ha, rfl⟩, rfl⟩ := hp
  refine W.eq (g2 := F0 zm 5 ls _) rfl ?_
  refine lv_aload_n X.1 X.2.1 dX7_kind_5 rfl (lv_at hl 0 rfl) ?_
  refine mr_get X hT fl_RX7_34 (hA.gate) rfl dX7_kind_6 ?_
  refine mr_get X hT fl_RX7_248 (hA.rec) rfl dX7_kind_9 ?_
  refine lv_iload_n X.1 X.2.1 dX7_kind_12 rfl (lv_at hl 1 rfl) ?_
  refine mr_iald X hT hA.kin (vp_in_nI (show a < 1024 by omega) (by decide)) dX7_kind_13 ?_
  refine mm_top (w := cg x 30 a) (by rw [nI_clamp (by omega)]) ?_
  exact mr_iretX X hT hret (⟨_, rfl, by unfold f_kind_c; rw [c_ixt ha (by omega)]; rfl, by rw [pn_nI (by omega)], b, rfl, w, hA, ho⟩) (Nat.le_of_ble_eq_true rfl) (Nat.le_of_ble_eq_true rfl) dX7_kind_14

abbrev rm_X7_seal : Room := { frames := 7, cells := 1, slots := 6, locals := 121 }
set_option maxHeartbeats 4000000 in
set_option maxRecDepth 100000 in
theorem c_sealAt {l : Launch} (hfl : l.stackTraces = false) {G : mw_G} {b : c_B} {x : s_T} {w : c_W} {aa : Int32} {M : mw_M} (hA : CA G b x w M) (ho : c_ok (ct x 5) b x w) (hi : q_inv 511 x) : mw_MetX l G yX7_seal (.code yX7_seal cX7_seal 2 (some .int)) rm_X7_seal [.ref (b 0 0), .int aa] M (mw_pi (fun r M1 => f_kind_c x aa = 0 ∧ r = cg x 31 (pn aa) ∧ c_out G b (x) M1)) (fun E => (E = "java/lang/IndexOutOfBoundsException" ∧ f_kind_c x aa = 1)) := by
  refine mw_ofX hfl (by decide) (Nat.le_of_ble_eq_true rfl) ?_
  intro zp ze zs zm zb zh zc ls X hin hret hexc hT hl
  have hl : lv_has ls 2 [(0, .ref (b 0 0)), (1, .int aa)] := hl
  obtain ⟨⟨i2, i4, i5, i10, i17, i22, i29, i32⟩, hr3, hr6, hr11, hr18, hr23, hz21, hz28, hlb⟩ := id hi
  have hI := q_inv_mono hi (show 511 ≤ 512 by decide)
  refine lv_aload_n X.1 X.2.1 dX7_seal_0 rfl (lv_at hl 0 rfl) ?_
  refine lv_iload_n X.1 X.2.1 dX7_seal_1 rfl (lv_at hl 1 rfl) ?_
  refine mr_gX X hT (fun hT' => mr_runVX X hT' cb_RX7_245 kw435 kp15 kw436 (c_requireStep hfl hA ho hI) (mr_cell X hT hA.gate rfl) rfl rfl hl.1 ⟨Nat.le_of_ble_eq_true rfl, Nat.le_of_ble_eq_true rfl⟩ (Nat.le_of_ble_eq_true rfl) dX7_seal_2 ⟨Nat.le_of_ble_eq_true rfl, Nat.le_of_ble_eq_true rfl⟩) (fun E ce q9 H locs hp hT h1 h2 h3 => ?_) (fun v M1 H locs hp hT => ?_)
  · exact mr_out X hexc hT h1 h2 h3 (⟨hp.1, by unfold f_kind_c; rw [hp.2]; rfl⟩) (Nat.le_of_ble_eq_true rfl) (Nat.le_of_ble_eq_true rfl)
  obtain ⟨rfl, ⟨a, ha, rfl⟩, rfl⟩ := hp
  refine W.eq (g2 := F0 zm 5 ls _) rfl ?_
  refine lv_aload_n X.1 X.2.1 dX7_seal_5 rfl (lv_at hl 0 rfl) ?_
  refine mr_get X hT fl_RX7_34 (hA.gate) rfl dX7_seal_6 ?_
  refine mr_get X hT fl_RX7_252 (hA.rec) rfl dX7_seal_9 ?_
  refine lv_iload_n X.1 X.2.1 dX7_seal_12 rfl (lv_at hl 1 rfl) ?_
  refine mr_iald X hT hA.sea (vp_in_nI (show a < 1024 by omega) (by decide)) dX7_seal_13 ?_
  refine mm_top (w := cg x 31 a) (by rw [nI_clamp (by omega)]) ?_
  exact mr_iretX X hT hret (⟨_, rfl, by unfold f_kind_c; rw [c_ixt ha (by omega)]; rfl, by rw [pn_nI (by omega)], b, rfl, w, hA, ho⟩) (Nat.le_of_ble_eq_true rfl) (Nat.le_of_ble_eq_true rfl) dX7_seal_14

abbrev rm_X7_pass : Room := { frames := 6, cells := 1, slots := 6, locals := 112 }
set_option maxHeartbeats 4000000 in
set_option maxRecDepth 100000 in
theorem c_pass {l : Launch} (hfl : l.stackTraces = false) {G : mw_G} {b : c_B} {x : s_T} {w : c_W} {t : Int32} {M : mw_M} (hA : CA G b x w M) (ho : c_ok (ct x 5) b x w) (hi : q_inv 511 x) : mw_MetX l G yX7_pass (.code yX7_pass cX7_pass 5 (some .int)) rm_X7_pass [.ref (b 0 0), .int t] M (mw_pi (fun r M1 => f_pass_c x t = 0 ∧ r = (q_tick x (pn t)).2 ∧ c_out G b (f_pass_s x t) M1)) (fun E => (E = "java/lang/IllegalArgumentException" ∧ f_pass_c x t = 1) ∨ (E = "java/lang/IllegalStateException" ∧ f_pass_c x t = 2)) := by
  refine mw_ofX hfl (by decide) (Nat.le_of_ble_eq_true rfl) ?_
  intro zp ze zs zm zb zh zc ls X hin hret hexc hT hl
  have hl : lv_has ls 5 [(0, .ref (b 0 0)), (1, .int t)] := hl
  obtain ⟨⟨i2, i4, i5, i10, i17, i22, i29, i32⟩, hr3, hr6, hr11, hr18, hr23, hz21, hz28, hlb⟩ := id hi
  have hI := q_inv_mono hi (show 511 ≤ 512 by decide)
  refine lv_iload_n X.1 X.2.1 dX7_pass_0 rfl (lv_at hl 1 rfl) ?_
  refine lv_iconst X.1 X.2.1 (v := 1) dX7_pass_1 (by decide) ?_
  refine lv_icmp_lt X.1 X.2.1 (tgt := 12) dX7_pass_2 (by decide) (fun c2 => ?_) (fun c2 => ?_)
  · skip
    have hin : q_in t 1 3000 = false := c_inn c2
    exact mr_throw X hexc hT (text := "minutes is out of range") (is := 108) tx_45_49 (by decide) hl.1 (Or.inl ⟨rfl, by unfold f_pass_c; rw [hin]; rfl⟩) dX7_pass_12 dX7_pass_15 dX7_pass_16 dX7_pass_18 dX7_pass_21 (Nat.le_of_ble_eq_true rfl) (Nat.le_of_ble_eq_true rfl) (Nat.le_of_ble_eq_true rfl) (Nat.le_of_ble_eq_true rfl) (Nat.le_of_ble_eq_true rfl) (Nat.le_of_ble_eq_true rfl)
  · skip
    refine lv_iload_n X.1 X.2.1 dX7_pass_5 rfl (lv_at hl 1 rfl) ?_
    refine lv_sipush X.1 X.2.1 (v := 3000) dX7_pass_6 (by decide) ?_
    refine lv_icmp_le X.1 X.2.1 (tgt := 22) dX7_pass_9 (by decide) (fun c9 => ?_) (fun c9 => ?_)
    · skip
      have hin : q_in t 1 3000 = true := c_int c2 c9
      obtain ⟨n, hn1, hn2, rfl⟩ := q_in_of (lo := 1) (hi := 3000) (by decide) hin (by decide)
      have pn_ : pn (nI n) = n := pn_nI (by omega)
      refine lv_aload_n X.1 X.2.1 dX7_pass_22 rfl (lv_at hl 0 rfl) ?_
      refine mr_get X hT fl_RX7_42 (hA.gate) rfl dX7_pass_23 ?_
      refine lv_iload_n X.1 X.2.1 dX7_pass_26 rfl (lv_at hl 1 rfl) ?_
      refine lv_iadd X.1 X.2.1 dX7_pass_27 ?_
      refine mm_top (w := nI (ct x 5 + n)) (nI_add _ _) ?_
      refine lv_istore_n X.1 X.2.1 dX7_pass_28 rfl hl (by decide) rfl (fun ls hl => ?_)
      refine lv_iload_n X.1 X.2.1 dX7_pass_29 rfl (lv_at hl 0 rfl) ?_
      refine lv_ldc X.1 X.2.1 (v := 100000) X.2.2.2.1 (mw_use X.2.2.2.2.1.1 kw415 rfl) dX7_pass_30 ?_
      refine lv_icmp_le X.1 X.2.1 (tgt := 45) dX7_pass_32 (by decide) (fun c32 => ?_) (fun c32 => ?_)
      · skip
        have g3 : ct x 5 + n ≤ 100000 := (nI_leI (b := 100000) (by omega) (by decide)).mp c32
        have hc0 : f_pass_c x (nI n) = 0 := by unfold f_pass_c; rw [hin, decide_eq_true (show q_now x + nI n ≤ 100000 by rw [nI_add]; exact c32)]; rfl
        refine lv_iconst X.1 X.2.1 (v := 0) dX7_pass_45 (by decide) ?_
        refine lv_istore_n X.1 X.2.1 dX7_pass_46 rfl hl (by decide) rfl (fun ls hl => ?_)
        refine lv_iconst X.1 X.2.1 (v := 0) dX7_pass_47 (by decide) ?_
        refine lv_istore X.1 X.2.1 dX7_pass_48 hl (by decide) rfl (fun ls hl => ?_)
        refine W.widen (k := 0) (n := 0) (Nat.le_of_ble_eq_true rfl) (Nat.le_of_ble_eq_true rfl) ?_
        refine mw_loop (nL := 5) (n := n) (fun k M1 => CW G (ct x 5) b (q_tick x k).1 M1) (fun k => [(4, .int (nI k)), (3, .int (q_tick x k).2), (2, .int (nI (ct x 5 + n))), (0, .ref (b 0 0)), (1, .int (nI n))]) (fun k hk ih M1 H locs ls hM hT hl => ?_) ⟨w, hA, ho⟩ hT (lv_sub hl [0, 1, 2, 3, 4] rfl)
        obtain ⟨w1, hA, ho⟩ := id hM
        have hiy := q_inv_tick hI k (by omega)
        have e5 := q_tick_5 x k
        refine lv_iload X.1 X.2.1 dX7_pass_50 (lv_at hl 0 rfl) ?_
        refine lv_iload_n X.1 X.2.1 dX7_pass_52 rfl (lv_at hl 4 rfl) ?_
        refine lv_icmp_ge X.1 X.2.1 (tgt := 86) dX7_pass_53 (by decide) (fun c53 => ?_) (fun c53 => ?_)
        · skip
          have hkn := mm_exit hk (show n < 2 ^ 31 by omega) c53
          subst hkn
          have hfin : (q_tick x k).2 = (q_tick x k).2 := rfl
          have hend := c_pass_end hA ho hi g3 (c_ss5 e5)
          refine lv_aload_n X.1 X.2.1 dX7_pass_86 rfl (lv_at hl 3 rfl) ?_
          refine lv_iload_n X.1 X.2.1 dX7_pass_87 rfl (lv_at hl 2 rfl) ?_
          refine mr_put X hT fp_RX7_42 (fun h => nomatch h) hA.gate rfl rfl (by simp) dX7_pass_88 (fun H locs hT => ?_)
          refine lv_iload_n X.1 X.2.1 dX7_pass_91 rfl (lv_at hl 1 rfl) ?_
          exact mr_iretX X hT hret (⟨_, rfl, hc0, by rw [pn_]; first | done | exact hfin, b, rfl, by unfold f_pass_s; rw [pn_]; exact hend⟩) (Nat.le_of_ble_eq_true rfl) (Nat.le_of_ble_eq_true rfl) dX7_pass_92
        · skip
          have hkl := mm_stay hk (show n < 2 ^ 31 by omega) c53
          refine lv_aload_n X.1 X.2.1 dX7_pass_56 rfl (lv_at hl 3 rfl) ?_
          refine mr_get X hT fl_RX7_38 (hA.gate) rfl dX7_pass_57 ?_
          refine lv_if_le X.1 X.2.1 (tgt := 86) dX7_pass_60 (by decide) (fun c60 => ?_) (fun c60 => ?_)
          · skip
            have h0 : q_opn (q_tick x k).1 (ct (q_tick x k).1 29) = 0 := c_opn0 hiy (by rw [← ho.2.2.2.2.1]; exact c60)
            have hti := q_tick_idle h0 (n - k)
            rw [show k + (n - k) = n by omega] at hti
            have hfin : (q_tick x k).2 = (q_tick x n).2 := by rw [hti]
            have hend := c_pass_end (N := n) hA ho hi g3 (by rw [hti, e5, show ct x 5 + k + (n - k) = ct x 5 + n by omega])
            refine lv_aload_n X.1 X.2.1 dX7_pass_86 rfl (lv_at hl 3 rfl) ?_
            refine lv_iload_n X.1 X.2.1 dX7_pass_87 rfl (lv_at hl 2 rfl) ?_
            refine mr_put X hT fp_RX7_42 (fun h => nomatch h) hA.gate rfl rfl (by simp) dX7_pass_88 (fun H locs hT => ?_)
            refine lv_iload_n X.1 X.2.1 dX7_pass_91 rfl (lv_at hl 1 rfl) ?_
            exact mr_iretX X hT hret (⟨_, rfl, hc0, by rw [pn_]; first | done | exact hfin, b, rfl, by unfold f_pass_s; rw [pn_]; exact hend⟩) (Nat.le_of_ble_eq_true rfl) (Nat.le_of_ble_eq_true rfl) dX7_pass_92
          · skip
            refine lv_aload_n X.1 X.2.1 dX7_pass_63 rfl (lv_at hl 3 rfl) ?_
            refine lv_dup X.1 X.2.1 dX7_pass_64 rfl ?_
            refine mr_get X hT fl_RX7_42 (hA.gate) rfl dX7_pass_65 ?_
            refine lv_iconst X.1 X.2.1 (v := 1) dX7_pass_68 (by decide) ?_
            refine lv_iadd X.1 X.2.1 dX7_pass_69 ?_
            refine mm_top (w := nI (ct (q_tick x k).1 5 + 1)) (nI_1 _) ?_
            refine mr_put X hT fp_RX7_42 (fun h => nomatch h) hA.gate rfl rfl (by simp) dX7_pass_70 (fun H locs hT => ?_)
            have hA := hA.setNow (ct (q_tick x k).1 5 + 1)
            have ho := ho.now (ct (q_tick x k).1 5 + 1)
            refine lv_iload_n X.1 X.2.1 dX7_pass_73 rfl (lv_at hl 1 rfl) ?_
            refine lv_aload_n X.1 X.2.1 dX7_pass_74 rfl (lv_at hl 3 rfl) ?_
            refine mr_g X hT (fun hT' => mr_runV X hT' cb_RX7_101 kw361 kp10 kw362 (c_closeEnded hfl hA ho (q_inv_clock hiy (Nat.le_succ _) (by omega))) (mr_cell X hT hA.gate rfl) rfl rfl hl.1 ⟨Nat.le_of_ble_eq_true rfl, Nat.le_of_ble_eq_true rfl⟩ (Nat.le_of_ble_eq_true rfl) dX7_pass_75 ⟨Nat.le_of_ble_eq_true rfl, Nat.le_of_ble_eq_true rfl⟩) (fun v M1 H locs hp hT => ?_)
            obtain ⟨r, rfl, rfl, hM⟩ := hp
            refine W.eq (g2 := F0 zm 78 ls (.int _ :: _)) rfl ?_
            refine lv_iadd X.1 X.2.1 dX7_pass_78 ?_
            refine mm_top (w := (q_tick x (k + 1)).2) (rfl) ?_
            refine lv_istore_n X.1 X.2.1 dX7_pass_79 rfl hl (by decide) rfl (fun ls hl => ?_)
            refine lv_iinc X.1 X.2.1 (k := 1) (v := nI (k + 1)) dX7_pass_80 hl rfl (mm_inc k) (by decide) rfl (fun ls hl => ?_)
            refine lv_goto X.1 X.2.1 (tgt := 50) dX7_pass_83 (by decide) ?_
            refine W.widen (k := 0) (n := 0) (Nat.le_of_ble_eq_true rfl) (Nat.le_of_ble_eq_true rfl) ?_
            exact ih (by omega) _ _ _ _ (hM) hT (lv_sub hl [0, 1, 2, 3, 4] rfl)
      · skip
        exact mr_throw X hexc hT (text := "the clock would be above 100000") (is := 240) tx_56_60 (by decide) hl.1 (Or.inr ⟨rfl, by unfold f_pass_c; rw [hin, decide_eq_false (show ¬ q_now x + nI n ≤ 100000 by rw [nI_add]; exact c32)]; rfl⟩) dX7_pass_35 dX7_pass_38 dX7_pass_39 dX7_pass_41 dX7_pass_44 (Nat.le_of_ble_eq_true rfl) (Nat.le_of_ble_eq_true rfl) (Nat.le_of_ble_eq_true rfl) (Nat.le_of_ble_eq_true rfl) (Nat.le_of_ble_eq_true rfl) (Nat.le_of_ble_eq_true rfl)
    · skip
      have hin : q_in t 1 3000 = false := c_inh (Int32.not_le.mp c9)
      exact mr_throw X hexc hT (text := "minutes is out of range") (is := 108) tx_45_49 (by decide) hl.1 (Or.inl ⟨rfl, by unfold f_pass_c; rw [hin]; rfl⟩) dX7_pass_12 dX7_pass_15 dX7_pass_16 dX7_pass_18 dX7_pass_21 (Nat.le_of_ble_eq_true rfl) (Nat.le_of_ble_eq_true rfl) (Nat.le_of_ble_eq_true rfl) (Nat.le_of_ble_eq_true rfl) (Nat.le_of_ble_eq_true rfl) (Nat.le_of_ble_eq_true rfl)
